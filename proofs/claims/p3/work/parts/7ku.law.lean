section
/-! LAWS OF WORLDS in the check: from tokens, known elements and fields to new numbers, sums, elements, tokens; and what is known twice is the same -/
noncomputable section
/-- the places are within the rows -/
def zx_bds (HT : List (List zk_H)) (B : List (Int × Int)) (C es : List zl_E) : List (Nat × Nat) → List (List Nat) → Bool
  | [], _ => true
  | q :: r, h1 :: h2 :: hs => zl_en B C h1 (es.getD q.2 (zl_con 0)) && ((!(Nat.blt q.1 1000000) || zl_en B C h2 (zl_sub (zl_con (((zk_h HT q.1).2.2.1 : Int) - 1)) (es.getD q.2 (zl_con 0)))) && zx_bds HT B C es r hs)
  | _, _ => false
theorem zx_bds_ok {HT : List (List zk_H)} {s : Nat → Int} {B : List (Int × Int)} {C es : List zl_E} (hB : zl_in s B) (hC : zk_cs s C) : ∀ {qs : List (Nat × Nat)} {hs : List (List Nat)}, zx_bds HT B C es qs hs = true → ∀ q ∈ qs, 0 ≤ zl_ev s (es.getD q.2 (zl_con 0)) ∧ (q.1 < 1000000 → zl_ev s (es.getD q.2 (zl_con 0)) < ((zk_h HT q.1).2.2.1 : Int))
  | [], _, _, q, hq => absurd hq List.not_mem_nil
  | q0 :: r, [], h, _, _ => by cases h
  | q0 :: r, [_], h, _, _ => by cases h
  | q0 :: r, h1 :: h2 :: hs, h, q, hq => by
    obtain ⟨b1, hb⟩ := zz_and h
    obtain ⟨b2, b3⟩ := zz_and hb
    rcases List.mem_cons.mp hq with e | hq
    · subst e
      have c1 := zl_en_ok hB hC b1
      refine ⟨c1, fun hq => ?_⟩
      rw [show Nat.blt q.1 1000000 = true from Nat.ble_eq.mpr hq] at b2
      have c2 := zl_en_ok hB hC (show zl_en B C h2 (zl_sub (zl_con (((zk_h HT q.1).2.2.1 : Int) - 1)) (es.getD q.2 (zl_con 0))) = true from b2)
      rw [zl_sub_ev, zl_con_ev] at c2
      omega
    · exact zx_bds_ok hB hC b3 q hq
/-- one case -/
def zx_st (X : zk_St) (t : List zl_E) (d : zx_Ca) : zk_St :=
  let t' := t ++ zk_syms X.1.2.2.2.1.length d.1.length
  ((X.1.1, X.1.2.1, X.1.2.2.1, X.1.2.2.2.1 ++ d.1, d.2.1.map (zl_subst t') ++ X.1.2.2.2.2), d.2.2.1.map (fun y => (y.1, zl_subst t' y.2.1, zl_subst t' y.2.2)) ++ X.2.1, d.2.2.2 ++ X.2.2)
def zx_cw (n : Nat) (d : zx_Ca) : Bool := d.2.1.all (fun c => Nat.ble (zl_mx c.2) (n + d.1.length)) && d.2.2.1.all (fun y => Nat.ble (zl_mx y.2.1.2) (n + d.1.length) && Nat.ble (zl_mx y.2.2.2) (n + d.1.length))
def zk_law (HT : List (List zk_H)) (TS : zk_TY) (X : zk_St) (j : Nat) (es : List zl_E) (hs : List (List Nat)) : Option (List zk_St) := match TS.2.2.1 j with
  | some x => match zx_els X.2.1 es x.2.2.1, zk_fsm X.1.2.2.1 x.2.2.2.1 with
    | some vs, some fs => cond ((x.1.all (fun t => X.2.2.any (Nat.beq t)) && (Nat.beq es.length x.2.1 && x.2.2.1.all (fun q => Nat.blt q.2 es.length))) && ((zx_bds HT X.1.2.2.2.1 X.1.2.2.2.2 es x.2.2.1 hs && (es ++ (vs ++ fs)).all (fun e => Nat.ble (zl_mx e.2) X.1.2.2.2.1.length)) && ((zk_wf X.1.2.2.2.1.length X.1.1 X.1.2.1 X.1.2.2.1 X.1.2.2.2.2 && zk_eW HT X.1.2.2.2.1.length X.2.1) && x.2.2.2.2.all (zx_cw (es ++ (vs ++ fs)).length)))) (some (x.2.2.2.2.map (zx_st X (es ++ (vs ++ fs))))) none
    | _, _ => none
  | none => none
theorem zx_getD_map {s : Nat → Int} : ∀ (es : List zl_E) (k : Nat), k < es.length → zl_ev s (es.getD k (zl_con 0)) = (es.map (zl_ev s)).getD k 0
  | [], k, h => absurd h (Nat.not_lt_zero k)
  | e :: es, 0, _ => rfl
  | e :: es, k + 1, h => zx_getD_map es k (Nat.lt_of_succ_lt_succ h)
theorem zx_sl2_map {s : Nat → Int} : ∀ (es : List zl_E), zk_sl2 s es (es.map (zl_ev s))
  | [] => zk_sl2_nil
  | _ :: es => zk_sl2_cons rfl (zx_sl2_map es)
theorem zx_sl2_eq {s s' : Nat → Int} {n : Nat} {t : List zl_E} {l : List Int} (hw : t.all (fun e => Nat.ble (zl_mx e.2) n) = true) (hs : ∀ j, j < n → s' j = s j) (h : zk_sl2 s t l) : zk_sl2 s' t l :=
  ⟨h.1, fun j q hq => by rw [h.2 j q hq]; exact (zl_ev_eq (n := n) (zz_ble (List.all_eq_true.mp hw q (List.mem_of_getElem? hq))) hs).symm⟩
theorem zx_syms_len : ∀ (k n : Nat), (zk_syms n k).length = k
  | 0, _ => rfl
  | k + 1, n => by
    show (zk_syms (n + 1) k).length + 1 = k + 1
    rw [zx_syms_len k (n + 1)]
theorem zk_law_ok {c : Nat} {HT : List (List zk_H)} {PT : Nat → zz_W → Prop} {SU : Nat → List (Nat × Nat)} {TS : zk_TY} (hTT : zk_TT c HT PT SU TS) {I : zz_W → Prop} (hI : ∀ w, I w → zk_I c HT w) {X : zk_St} {j : Nat} {es : List zl_E} {hs : List (List Nat)} {R : List zk_St} (h : zk_law HT TS X j es hs = some R) {s : Nat → Int} {f : zz_F} (hG : zk_G2 PT I s X f) : ∃ X' ∈ R, X.1.2.2.2.1.length ≤ X'.1.2.2.2.1.length ∧ ∃ s' : Nat → Int, zk_G2 PT I s' X' f ∧ ∀ m, m < X.1.2.2.2.1.length → s' m = s m := by
  unfold zk_law at h
  split at h
  · rename_i x hx
    split at h
    · rename_i vs fs hv hf
      obtain ⟨hb, h⟩ := zz_cond h
      cases h
      obtain ⟨ha, hb⟩ := zz_and hb
      obtain ⟨a1, ha⟩ := zz_and ha
      obtain ⟨a2, a3⟩ := zz_and ha
      obtain ⟨hb, hc⟩ := zz_and hb
      obtain ⟨b1, b2⟩ := zz_and hb
      obtain ⟨hc, c3⟩ := zz_and hc
      obtain ⟨c1, c2⟩ := zz_and hc
      obtain ⟨⟨g1, g2, g3, g4, g5, g6⟩, k1, k2⟩ := hG
      obtain ⟨p, lv, st, w⟩ := f
      have hins : ∀ k, k < es.length → zl_ev s (es.getD k (zl_con 0)) = (es.map (zl_ev s)).getD k 0 := fun k hk => zx_getD_map es k hk
      have hvl : zk_sl2 s (es ++ (vs ++ fs)) (zx_vl w x (es.map (zl_ev s))) := zk_sl2_app (zx_sl2_map es) (zk_sl2_app (zx_els_ok k1 hins a3 hv) (zk_fsm_ok g3 hf))
      obtain ⟨d, d1, nw, d2, d3, d4, d5, d6⟩ := hTT.2.2.2.2.1 j x hx w (hI w g6) (fun t ht => k2 t (zk_any_beq (List.all_eq_true.mp a1 t ht))) (es.map (zl_ev s)) (by rw [List.length_map]; exact zz_beq a2) (fun q hq => by
        have h1 := zx_bds_ok g4 g5 b1 q hq
        rw [← hins q.2 (zz_blt (List.all_eq_true.mp a3 q hq))]
        exact h1)
      refine ⟨zx_st X (es ++ (vs ++ fs)) d, List.mem_map.mpr ⟨d, d1, rfl⟩, by show _ ≤ (X.1.2.2.2.1 ++ d.1).length; simp, fun m => if m < X.1.2.2.2.1.length then s m else nw.getD (m - X.1.2.2.2.1.length) 0, ?_, fun m hm => if_pos hm⟩
      have hag : ∀ m, m < X.1.2.2.2.1.length → (fun m => if m < X.1.2.2.2.1.length then s m else nw.getD (m - X.1.2.2.2.1.length) 0) m = s m := fun m hm => if_pos hm
      generalize hs' : (fun m => if m < X.1.2.2.2.1.length then s m else nw.getD (m - X.1.2.2.2.1.length) 0) = s' at hag ⊢
      obtain ⟨e1, e2, e3, e4⟩ := zk_wf_ok c1 hag g1 g2 g3 g5
      have hsy : zk_sl2 s' (zk_syms X.1.2.2.2.1.length d.1.length) nw := by
        refine ⟨by rw [zx_syms_len, d2], fun m q hq => ?_⟩
        obtain ⟨q1, q2⟩ := zk_syms_at hq
        rw [q1, zl_sym_ev, ← hs']
        show _ = if X.1.2.2.2.1.length + m < X.1.2.2.2.1.length then s (X.1.2.2.2.1.length + m) else nw.getD (X.1.2.2.2.1.length + m - X.1.2.2.2.1.length) 0
        rw [if_neg (by omega), Nat.add_sub_cancel_left]
      have hal := zk_sl2_app (zx_sl2_eq b2 hag hvl) hsy
      have hlen : (es ++ (vs ++ fs) ++ zk_syms X.1.2.2.2.1.length d.1.length).length = (es ++ (vs ++ fs)).length + d.1.length := by rw [List.length_append, zx_syms_len]
      obtain ⟨w1, w2⟩ := zz_and (List.all_eq_true.mp c3 d d1)
      have hsub : ∀ c0 : zl_E, zl_mx c0.2 ≤ (es ++ (vs ++ fs)).length + d.1.length → zl_ev s' (zl_subst (es ++ (vs ++ fs) ++ zk_syms X.1.2.2.2.1.length d.1.length) c0) = zl_ev (fun m => (zx_vl w x (es.map (zl_ev s)) ++ nw).getD m 0) c0 := fun c0 hc0 => zl_subst_ev (by rw [hlen]; exact hc0) hal.2
      refine ⟨⟨e1, e2, e3, fun m q hq => ?_, fun c0 hc0 => ?_, g6⟩, fun y hy => ?_, fun t ht => ?_⟩
      · have hq : (X.1.2.2.2.1 ++ d.1)[m]? = some q := hq
        by_cases hm : m < X.1.2.2.2.1.length
        · rw [List.getElem?_append_left hm] at hq
          rw [hag m hm]
          exact g4 m q hq
        · rw [List.getElem?_append_right (by omega)] at hq
          have := d3 _ q hq
          rw [← hs']
          show q.1 ≤ (if m < X.1.2.2.2.1.length then s m else nw.getD (m - X.1.2.2.2.1.length) 0) ∧ (if m < X.1.2.2.2.1.length then s m else nw.getD (m - X.1.2.2.2.1.length) 0) ≤ q.2
          rw [if_neg hm]
          exact this
      · rcases List.mem_append.mp hc0 with hc0 | hc0
        · obtain ⟨c4, c5, c6⟩ := List.mem_map.mp hc0
          subst c6
          rw [hsub c4 (zz_ble (List.all_eq_true.mp w1 c4 c5))]
          exact d4 c4 c5
        · exact e4 c0 hc0
      · rcases List.mem_append.mp hy with hy | hy
        · obtain ⟨y4, y5, y6⟩ := List.mem_map.mp hy
          subst y6
          obtain ⟨y7, y8⟩ := zz_and (List.all_eq_true.mp w2 y4 y5)
          show 0 ≤ zl_ev s' (zl_subst _ y4.2.1) ∧ zk_xe w y4.1 (zl_ev s' (zl_subst _ y4.2.1)) = zl_ev s' (zl_subst _ y4.2.2)
          rw [hsub _ (zz_ble y7), hsub _ (zz_ble y8)]
          exact d5 y4 y5
        · exact zk_eW_eq c2 hag k1 y hy
      · rcases List.mem_append.mp ht with ht | ht
        · exact d6 t ht
        · exact k2 t ht
    · cases h
  · cases h
/-- two known elements of one row at the same place have the same value -/
def zk_cng (X : zk_St) (a b : Nat) (h1 h2 : List Nat) : Option zk_St := match X.2.1[a]?, X.2.1[b]? with
  | some x, some y => cond (Nat.beq x.1 y.1 && (zl_en X.1.2.2.2.1 X.1.2.2.2.2 h1 (zl_sub x.2.1 y.2.1) && zl_en X.1.2.2.2.1 X.1.2.2.2.2 h2 (zl_sub y.2.1 x.2.1))) (some ((X.1.1, X.1.2.1, X.1.2.2.1, X.1.2.2.2.1, zl_sub x.2.2 y.2.2 :: zl_sub y.2.2 x.2.2 :: X.1.2.2.2.2), X.2.1, X.2.2)) none
  | _, _ => none
theorem zk_cng_ok {PT : Nat → zz_W → Prop} {I : zz_W → Prop} {X Y : zk_St} {a b : Nat} {h1 h2 : List Nat} (h : zk_cng X a b h1 h2 = some Y) {s : Nat → Int} {f : zz_F} (hG : zk_G2 PT I s X f) : zk_G2 PT I s Y f ∧ X.1.2.2.2.1.length ≤ Y.1.2.2.2.1.length := by
  unfold zk_cng at h
  split at h
  · rename_i x y hx hy
    obtain ⟨hb, h⟩ := zz_cond h
    cases h
    obtain ⟨b1, hb⟩ := zz_and hb
    obtain ⟨b2, b3⟩ := zz_and hb
    obtain ⟨⟨g1, g2, g3, g4, g5, g6⟩, k1, k2⟩ := hG
    have c1 := zl_en_ok g4 g5 b2
    have c2 := zl_en_ok g4 g5 b3
    rw [zl_sub_ev] at c1 c2
    have e1 := (k1 x (List.mem_of_getElem? hx)).2
    have e2 := (k1 y (List.mem_of_getElem? hy)).2
    have e3 : zl_ev s x.2.1 = zl_ev s y.2.1 := by omega
    rw [zz_beq b1, e3, e2] at e1
    refine ⟨⟨⟨g1, g2, g3, g4, fun c hc => ?_, g6⟩, k1, k2⟩, Nat.le_refl _⟩
    rcases List.mem_cons.mp hc with hc | hc
    · rw [hc, zl_sub_ev]
      omega
    · rcases List.mem_cons.mp hc with hc | hc
      · rw [hc, zl_sub_ev]
        omega
      · exact g5 c hc
  · cases h
/-- cases of a law that cannot be are left out -/
def zk_prn : List zk_St → List (List Nat) → List zk_St
  | R, [] => R
  | [], _ :: _ => []
  | Y :: R, h :: hs => match h with
    | [] => Y :: zk_prn R hs
    | _ :: g => cond (zl_en Y.1.2.2.2.1 Y.1.2.2.2.2 g (zl_con (-1))) (zk_prn R hs) (Y :: zk_prn R hs)
theorem zk_prn_ok {PT : Nat → zz_W → Prop} {I : zz_W → Prop} {Y : zk_St} {s : Nat → Int} {f : zz_F} (hG : zk_G2 PT I s Y f) : ∀ {R : List zk_St} {hs : List (List Nat)}, Y ∈ R → Y ∈ zk_prn R hs
  | R, [], h => by
    cases R with
    | nil => exact h
    | cons Z R => exact h
  | [], _ :: _, h => absurd h List.not_mem_nil
  | Z :: R, g :: hs, h => by
    show Y ∈ (match g with
      | [] => Z :: zk_prn R hs
      | _ :: g => cond (zl_en Z.1.2.2.2.1 Z.1.2.2.2.2 g (zl_con (-1))) (zk_prn R hs) (Z :: zk_prn R hs))
    cases g with
    | nil =>
      rcases List.mem_cons.mp h with e | h
      · rw [e]
        exact List.mem_cons_self
      · exact List.mem_cons_of_mem _ (zk_prn_ok hG h)
    | cons _ g =>
      show Y ∈ cond (zl_en Z.1.2.2.2.1 Z.1.2.2.2.2 g (zl_con (-1))) (zk_prn R hs) (Z :: zk_prn R hs)
      cases hb : zl_en Z.1.2.2.2.1 Z.1.2.2.2.2 g (zl_con (-1)) with
      | true =>
        rcases List.mem_cons.mp h with e | h
        · subst e
          have h6 := zl_en_ok hG.1.2.2.2.1 hG.1.2.2.2.2.1 hb
          rw [zl_con_ev] at h6
          omega
        · exact zk_prn_ok hG h
      | false =>
        rcases List.mem_cons.mp h with e | h
        · rw [e]
          exact List.mem_cons_self
        · exact List.mem_cons_of_mem _ (zk_prn_ok hG h)
def zk_lawp (HT : List (List zk_H)) (TS : zk_TY) (X : zk_St) (j : Nat) (es : List zl_E) (hs ps : List (List Nat)) : Option (List zk_St) := match zk_law HT TS X j es hs with
  | some R => some (zk_prn R ps)
  | none => none
theorem zk_lawp_ok {c : Nat} {HT : List (List zk_H)} {PT : Nat → zz_W → Prop} {SU : Nat → List (Nat × Nat)} {TS : zk_TY} (hTT : zk_TT c HT PT SU TS) {I : zz_W → Prop} (hI : ∀ w, I w → zk_I c HT w) {X : zk_St} {j : Nat} {es : List zl_E} {hs ps : List (List Nat)} {R : List zk_St} (h : zk_lawp HT TS X j es hs ps = some R) {s : Nat → Int} {f : zz_F} (hG : zk_G2 PT I s X f) : ∃ X' ∈ R, X.1.2.2.2.1.length ≤ X'.1.2.2.2.1.length ∧ ∃ s' : Nat → Int, zk_G2 PT I s' X' f ∧ ∀ m, m < X.1.2.2.2.1.length → s' m = s m := by
  unfold zk_lawp at h
  split at h
  · rename_i R0 hR
    cases h
    obtain ⟨X', x1, x2, s', x3, x4⟩ := zk_law_ok hTT hI hR hG
    exact ⟨X', zk_prn_ok x3 x1, x2, s', x3, x4⟩
  · cases h
end
end
section
/-! SEGMENTS of items (function 31): put together, an item more, what jumps -/
noncomputable section
def zg_S (f g h : Int → Int) (a b d u0 u1 l0 l1 x : Int) : Prop := 1 ≤ x ∨ 3200 ≤ b ∨ 749 ≤ l1 ∨ (a ≤ b ∧ ∀ i, a ≤ i → i < b → zg_it f g h a b d u0 u1 l0 l1 i)
theorem zg_it_m {f g h : Int → Int} {a b d u0 u1 l0 l1 a' b' d' u0' u1' l0' l1' j : Int} (ha : a' ≤ a) (hb : b ≤ b') (hd : d' ≤ d) (p0 : u0' ≤ u0) (p1 : u1 ≤ u1') (k0 : l0' ≤ l0) (k1 : l1 ≤ l1') (hi : zg_it f g h a b d u0 u1 l0 l1 j) : zg_it f g h a' b' d' u0' u1' l0' l1' j := by
  obtain ⟨h1, h2, h3, h4, h5, h6, h7, h8⟩ := hi
  refine ⟨by omega, fun c => ?_, fun c => ?_, fun c => ?_, fun c => ?_, fun c => ?_, fun c => ?_, h8⟩
  · obtain ⟨x1, x2, x3⟩ := h2 c
    exact ⟨by omega, by omega, x3⟩
  · obtain ⟨x1, x2, x3⟩ := h3 c
    exact ⟨by omega, by omega, x3⟩
  · obtain ⟨x1, x2, x3⟩ := h4 c
    exact ⟨by omega, by omega, x3⟩
  · obtain ⟨x1, x2, x3⟩ := h5 c
    exact ⟨by omega, x2, x3⟩
  · obtain ⟨x1, m, x2, x3, x4, x5, x6⟩ := h6 c
    exact ⟨x1, m, by omega, x3, x4, x5, x6⟩
  · obtain ⟨x1, x2, x3, x4, x5, x6⟩ := h7 c
    exact ⟨x1, by omega, by omega, by omega, by omega, x6⟩
theorem zg_x {w : zz_W} {j : Int} : zk_xe w 2000031 j = zh_b (zg_sg (zh_e w 61) (zh_e w 20) (zh_e w 22) j) := by
  rw [show (2000031 : Nat) = 2000000 + 31 from rfl, zk_xe_h]
  rfl
/-- a segment that is known: its digits -/
def zk_sgA (X : zk_St) (i : Nat) : Option (List zl_E) := match X.2.1[i]? with
  | some x => cond (Nat.beq x.1 2000031 && (zl_gq X.1.2.2.2.1 X.1.2.2.2.2 (zl_sub x.2.2 (zl_con 1)) && zl_gq X.1.2.2.2.1 X.1.2.2.2.2 (zl_sub (zl_con 1) x.2.2))) (zl_digs X.1.2.2.2.1 X.1.2.2.2.2 8 x.2.1) none
  | none => none
theorem zk_sgA_ok {X : zk_St} {i : Nat} {A : List zl_E} {s : Nat → Int} {w : zz_W} (h : zk_sgA X i = some A) (hB : zl_in s X.1.2.2.2.1) (hC : zk_cs s X.1.2.2.2.2) (hE : zk_eF s X.2.1 w) : zg_S (zh_e w 61) (zh_e w 20) (zh_e w 22) (zl_ev s (A.getD 0 (zl_con 0))) (zl_ev s (A.getD 1 (zl_con 0))) (zl_ev s (A.getD 2 (zl_con 0))) (zl_ev s (A.getD 3 (zl_con 0))) (zl_ev s (A.getD 4 (zl_con 0))) (zl_ev s (A.getD 5 (zl_con 0))) (zl_ev s (A.getD 6 (zl_con 0))) (zl_ev s (A.getD 7 (zl_con 0))) := by
  unfold zk_sgA at h
  split at h
  · rename_i x hx
    obtain ⟨hb, h⟩ := zz_cond h
    obtain ⟨b1, hb⟩ := zz_and hb
    obtain ⟨b2, b3⟩ := zz_and hb
    have c2 := zl_gq_ok hB hC b2
    have c3 := zl_gq_ok hB hC b3
    rw [zl_sub_ev, zl_con_ev] at c2 c3
    have h1 := (hE x (List.mem_of_getElem? hx)).2
    rw [zz_beq b1, zg_x, show zl_ev s x.2.2 = 1 by omega] at h1
    have h2 := zh_b1' h1
    have hd := zl_digs_ok hB hC h
    unfold zg_sg at h2
    rw [hd 0 (by decide), hd 1 (by decide), hd 2 (by decide), hd 3 (by decide), hd 4 (by decide), hd 5 (by decide), hd 6 (by decide), hd 7 (by decide)] at h2
    exact h2
  · cases h
/-- a segment is known from here on -/
def zk_sgp (X : zk_St) (j : zl_E) (b : Bool) : Option zk_St := cond (b && zl_gq X.1.2.2.2.1 X.1.2.2.2.2 j) (some (X.1, (2000031, j, zl_con 1) :: X.2.1, X.2.2)) none
theorem zk_sgp_ok {PT : Nat → zz_W → Prop} {I : zz_W → Prop} {X Y : zk_St} {j : zl_E} {b : Bool} {R : List zl_E} {s : Nat → Int} {f : zz_F} (h : zk_sgp X j b = some Y) (hR : zl_digs X.1.2.2.2.1 X.1.2.2.2.2 8 j = some R) (hG : zk_G2 PT I s X f) (hS : b = true → zg_S (zh_e f.2.2.2 61) (zh_e f.2.2.2 20) (zh_e f.2.2.2 22) (zl_ev s (R.getD 0 (zl_con 0))) (zl_ev s (R.getD 1 (zl_con 0))) (zl_ev s (R.getD 2 (zl_con 0))) (zl_ev s (R.getD 3 (zl_con 0))) (zl_ev s (R.getD 4 (zl_con 0))) (zl_ev s (R.getD 5 (zl_con 0))) (zl_ev s (R.getD 6 (zl_con 0))) (zl_ev s (R.getD 7 (zl_con 0)))) : zk_G2 PT I s Y f ∧ X.1.2.2.2.1.length ≤ Y.1.2.2.2.1.length := by
  unfold zk_sgp at h
  obtain ⟨hb, h⟩ := zz_cond h
  cases h
  obtain ⟨b1, b2⟩ := zz_and hb
  obtain ⟨⟨g1, g2, g3, g4, g5, g6⟩, k1, k2⟩ := hG
  have hd := zl_digs_ok g4 g5 hR
  have h0 := zl_gq_ok g4 g5 b2
  refine ⟨⟨⟨g1, g2, g3, g4, g5, g6⟩, fun x hx => ?_, k2⟩, Nat.le_refl _⟩
  rcases List.mem_cons.mp hx with e | hx
  · subst e
    show 0 ≤ zl_ev s j ∧ zk_xe f.2.2.2 2000031 (zl_ev s j) = zl_ev s (zl_con 1)
    rw [zg_x, zl_con_ev]
    refine ⟨h0, zh_b1 ?_⟩
    have h2 := hS b1
    unfold zg_sg
    rw [hd 0 (by decide), hd 1 (by decide), hd 2 (by decide), hd 3 (by decide), hd 4 (by decide), hd 5 (by decide), hd 6 (by decide), hd 7 (by decide)]
    exact h2
  · exact k1 x hx
/-- what A says is said wider by R (but for where it begins and ends) -/
def zk_sgi (B : List (Int × Int)) (C : List zl_E) (A R : List zl_E) : Bool := zl_gq B C (zl_sub (A.getD 2 (zl_con 0)) (R.getD 2 (zl_con 0))) && (zl_gq B C (zl_sub (A.getD 3 (zl_con 0)) (R.getD 3 (zl_con 0))) && (zl_gq B C (zl_sub (R.getD 4 (zl_con 0)) (A.getD 4 (zl_con 0))) && (zl_gq B C (zl_sub (A.getD 5 (zl_con 0)) (R.getD 5 (zl_con 0))) && (zl_gq B C (zl_sub (R.getD 6 (zl_con 0)) (A.getD 6 (zl_con 0))) && zl_gq B C (zl_sub (zl_mul 3001 (R.getD 7 (zl_con 0))) (A.getD 7 (zl_con 0)))))))
theorem zk_sgi_ok {B : List (Int × Int)} {C : List zl_E} {A R : List zl_E} {s : Nat → Int} (hB : zl_in s B) (hC : zk_cs s C) (h : zk_sgi B C A R = true) : (zl_ev s (R.getD 2 (zl_con 0))) ≤ (zl_ev s (A.getD 2 (zl_con 0))) ∧ (zl_ev s (R.getD 3 (zl_con 0))) ≤ (zl_ev s (A.getD 3 (zl_con 0))) ∧ (zl_ev s (A.getD 4 (zl_con 0))) ≤ (zl_ev s (R.getD 4 (zl_con 0))) ∧ (zl_ev s (R.getD 5 (zl_con 0))) ≤ (zl_ev s (A.getD 5 (zl_con 0))) ∧ (zl_ev s (A.getD 6 (zl_con 0))) ≤ (zl_ev s (R.getD 6 (zl_con 0))) ∧ (zl_ev s (A.getD 7 (zl_con 0))) ≤ 3001 * (zl_ev s (R.getD 7 (zl_con 0))) := by
  obtain ⟨h1, h⟩ := zz_and h
  obtain ⟨h2, h⟩ := zz_and h
  obtain ⟨h3, h⟩ := zz_and h
  obtain ⟨h4, h⟩ := zz_and h
  obtain ⟨h5, h6⟩ := zz_and h
  have c1 := zl_gq_ok hB hC h1
  have c2 := zl_gq_ok hB hC h2
  have c3 := zl_gq_ok hB hC h3
  have c4 := zl_gq_ok hB hC h4
  have c5 := zl_gq_ok hB hC h5
  have c6 := zl_gq_ok hB hC h6
  rw [zl_sub_ev] at c1 c2 c3 c4 c5 c6
  rw [zl_mul_ev] at c6
  omega
theorem zk_nul0 {s : Nat → Int} {a b : zl_E} (h : zl_nul (zl_sub a b) = true) : zl_ev s a = zl_ev s b := by
  have := zl_nul_ok (s := s) h
  rw [zl_sub_ev] at this
  omega
theorem zk_eke {s : Nat → Int} {w : zz_W} {E : List zk_E1} {r : Nat} {e v : zl_E} (hr : Nat.blt r 1000000 = true) (h : zk_ek E r e = some v) (hE : zk_eF s E w) : zh_e w r (zl_ev s e) = zl_ev s v := by
  have h1 := (zk_ek_ok h hE).2
  rw [zk_xe_r hr] at h1
  exact h1
/-- from nothing: empty, an excuse, all items are taken -/
def zk_sg5 (X : zk_St) (j : zl_E) : Option zk_St := match zl_digs X.1.2.2.2.1 X.1.2.2.2.2 8 j with
  | some R => zk_sgp X j (zl_nul (zl_sub (R.getD 1 (zl_con 0)) (R.getD 0 (zl_con 0))) || (zl_gq X.1.2.2.2.1 X.1.2.2.2.2 (zl_sub (R.getD 7 (zl_con 0)) (zl_con 1)) || (zl_gq X.1.2.2.2.1 X.1.2.2.2.2 (zl_sub (R.getD 1 (zl_con 0)) (zl_con 3200)) || zl_gq X.1.2.2.2.1 X.1.2.2.2.2 (zl_sub (R.getD 6 (zl_con 0)) (zl_con 749)))))
  | none => none
theorem zk_sg5_ok {PT : Nat → zz_W → Prop} {I : zz_W → Prop} {X Y : zk_St} {j : zl_E} {s : Nat → Int} {f : zz_F} (h : zk_sg5 X j = some Y) (hG : zk_G2 PT I s X f) : zk_G2 PT I s Y f ∧ X.1.2.2.2.1.length ≤ Y.1.2.2.2.1.length := by
  unfold zk_sg5 at h
  split at h
  · rename_i R hR
    refine zk_sgp_ok h hR hG (fun hb => ?_)
    obtain ⟨⟨g1, g2, g3, g4, g5, g6⟩, k1, k2⟩ := hG
    rcases Bool.or_eq_true_iff.mp hb with hb | hb
    · have e := zk_nul0 (s := s) hb
      exact Or.inr (Or.inr (Or.inr ⟨by omega, fun i i1 i2 => absurd i2 (by omega)⟩))
    · rcases Bool.or_eq_true_iff.mp hb with hb | hb
      · have := zl_gq_ok g4 g5 hb
        rw [zl_sub_ev, zl_con_ev] at this
        exact Or.inl (by omega)
      · rcases Bool.or_eq_true_iff.mp hb with hb | hb
        · have := zl_gq_ok g4 g5 hb
          rw [zl_sub_ev, zl_con_ev] at this
          exact Or.inr (Or.inl (by omega))
        · have := zl_gq_ok g4 g5 hb
          rw [zl_sub_ev, zl_con_ev] at this
          exact Or.inr (Or.inr (Or.inl (by omega)))
  · cases h
/-- a jump at p: its label's item is one of those from (R.getD 0 (zl_con 0)) up to (R.getD 1 (zl_con 0)) -/
def zk_sgj (X : zk_St) (R : List zl_E) (p : zl_E) : Bool := match zk_ek X.2.1 61 (zl_mul 2 p), zk_ek X.2.1 61 (zl_add (zl_mul 2 p) (zl_con 1)) with
  | some v, some o => match zk_ek X.2.1 22 o with
    | some t => match zk_ek X.2.1 61 (zl_mul 2 t) with
      | some m => (zl_nul (zl_sub v (zl_con 31)) || zl_nul (zl_sub v (zl_con 32))) && (zl_nul (zl_sub m (zl_con 33)) && (zl_gq X.1.2.2.2.1 X.1.2.2.2.2 (zl_sub t (R.getD 0 (zl_con 0))) && (zl_gq X.1.2.2.2.1 X.1.2.2.2.2 (zl_sub (zl_sub (R.getD 1 (zl_con 0)) (zl_con 1)) t) && (zl_gq X.1.2.2.2.1 X.1.2.2.2.2 (zl_sub o (R.getD 5 (zl_con 0))) && (zl_gq X.1.2.2.2.1 X.1.2.2.2.2 (zl_sub (zl_sub (R.getD 6 (zl_con 0)) (zl_con 1)) o) && zl_gq X.1.2.2.2.1 X.1.2.2.2.2 (zl_sub v (zl_mul 64 (R.getD 2 (zl_con 0)))))))))
      | none => false
    | none => false
  | _, _ => false
theorem zk_sgj_ok {X : zk_St} {R : List zl_E} {p : zl_E} {s : Nat → Int} {w : zz_W} (h : zk_sgj X R p = true) (hB : zl_in s X.1.2.2.2.1) (hC : zk_cs s X.1.2.2.2.2) (hE : zk_eF s X.2.1 w) : zg_it (zh_e w 61) (zh_e w 20) (zh_e w 22) (zl_ev s (R.getD 0 (zl_con 0))) (zl_ev s (R.getD 1 (zl_con 0))) (zl_ev s (R.getD 2 (zl_con 0))) (zl_ev s (R.getD 3 (zl_con 0))) (zl_ev s (R.getD 4 (zl_con 0))) (zl_ev s (R.getD 5 (zl_con 0))) (zl_ev s (R.getD 6 (zl_con 0))) (zl_ev s p) := by
  unfold zk_sgj at h
  split at h
  · rename_i v o hv ho
    split at h
    · rename_i t ht
      split at h
      · rename_i m hm
        obtain ⟨b1, h⟩ := zz_and h
        obtain ⟨b2, h⟩ := zz_and h
        obtain ⟨b3, h⟩ := zz_and h
        obtain ⟨b4, h⟩ := zz_and h
        obtain ⟨b5, h⟩ := zz_and h
        obtain ⟨b6, b7⟩ := zz_and h
        have hv := zk_eke rfl hv hE
        have ho := zk_eke rfl ho hE
        have ht := zk_eke rfl ht hE
        have hm := zk_eke rfl hm hE
        rw [zl_mul_ev] at hv hm
        rw [zl_add_ev, zl_mul_ev, zl_con_ev] at ho
        have c2 := zk_nul0 (s := s) b2
        rw [zl_con_ev] at c2
        have c3 := zl_gq_ok hB hC b3
        have c4 := zl_gq_ok hB hC b4
        have c5 := zl_gq_ok hB hC b5
        have c6 := zl_gq_ok hB hC b6
        have c7 := zl_gq_ok hB hC b7
        rw [zl_sub_ev] at c3 c4 c5 c6 c7
        rw [zl_sub_ev, zl_con_ev] at c4 c6
        rw [zl_mul_ev] at c7
        have hv3 : zl_ev s v = 31 ∨ zl_ev s v = 32 := by
          rcases Bool.or_eq_true_iff.mp b1 with b | b
          · have := zk_nul0 (s := s) b
            rw [zl_con_ev] at this
            exact Or.inl this
          · have := zk_nul0 (s := s) b
            rw [zl_con_ev] at this
            exact Or.inr this
        unfold zg_it
        rw [hv, ho, ht]
        refine ⟨by omega, fun c => absurd c (by omega), fun c => absurd c (by omega), fun c => absurd c (by omega), fun c => absurd c (by omega), fun c => absurd c (by omega), fun _ => ⟨by omega, by omega, by omega, by omega, by omega, by rw [hm]; exact c2⟩, fun c => absurd c (by omega)⟩
      · cases h
    · cases h
  · cases h
/-- pieces one behind the other: 0 a jump, i + 1 the segment i -/
def zk_sgc (X : zk_St) (R : List zl_E) : zl_E → List Nat → Bool
  | p, [] => zl_nul (zl_sub (R.getD 1 (zl_con 0)) p)
  | p, 0 :: l => zk_sgj X R p && zk_sgc X R (zl_add p (zl_con 1)) l
  | p, (i + 1) :: l => match zk_sgA X i with
    | some A => zl_nul (zl_sub (A.getD 0 (zl_con 0)) p) && (zk_sgi X.1.2.2.2.1 X.1.2.2.2.2 A R && zk_sgc X R (A.getD 1 (zl_con 0)) l)
    | none => false
theorem zk_sgc_ok {X : zk_St} {R : List zl_E} {s : Nat → Int} {w : zz_W} (hB : zl_in s X.1.2.2.2.1) (hC : zk_cs s X.1.2.2.2.2) (hE : zk_eF s X.2.1 w) (hx : (zl_ev s (R.getD 7 (zl_con 0))) = 0) (hr0 : (zl_ev s (R.getD 0 (zl_con 0))) ≤ 3200) : ∀ {l : List Nat} {p : zl_E}, zk_sgc X R p l = true → (zl_ev s (R.getD 0 (zl_con 0))) ≤ zl_ev s p → (3200 ≤ (zl_ev s (R.getD 1 (zl_con 0))) ∨ 749 ≤ (zl_ev s (R.getD 6 (zl_con 0)))) ∨ (zl_ev s p ≤ (zl_ev s (R.getD 1 (zl_con 0))) ∧ ∀ i, zl_ev s p ≤ i → i < (zl_ev s (R.getD 1 (zl_con 0))) → zg_it (zh_e w 61) (zh_e w 20) (zh_e w 22) (zl_ev s (R.getD 0 (zl_con 0))) (zl_ev s (R.getD 1 (zl_con 0))) (zl_ev s (R.getD 2 (zl_con 0))) (zl_ev s (R.getD 3 (zl_con 0))) (zl_ev s (R.getD 4 (zl_con 0))) (zl_ev s (R.getD 5 (zl_con 0))) (zl_ev s (R.getD 6 (zl_con 0))) i)
  | [], p, h, hp => by
    have e := zk_nul0 (s := s) h
    exact Or.inr ⟨by omega, fun i i1 i2 => absurd i2 (by omega)⟩
  | 0 :: l, p, h, hp => by
    obtain ⟨h1, h2⟩ := zz_and (show (zk_sgj X R p && zk_sgc X R (zl_add p (zl_con 1)) l) = true from h)
    have hj := zk_sgj_ok h1 hB hC hE
    have hr := zk_sgc_ok hB hC hE hx hr0 h2 (by rw [zl_add_ev, zl_con_ev]; omega)
    rw [zl_add_ev, zl_con_ev] at hr
    rcases hr with hr | ⟨r1, r2⟩
    · exact Or.inl hr
    · refine Or.inr ⟨by omega, fun i i1 i2 => ?_⟩
      by_cases e : i = zl_ev s p
      · rw [e]
        exact hj
      · exact r2 i (by omega) i2
  | (k + 1) :: l, p, h, hp => by
    have h : (match zk_sgA X k with
      | some A => zl_nul (zl_sub (A.getD 0 (zl_con 0)) p) && (zk_sgi X.1.2.2.2.1 X.1.2.2.2.2 A R && zk_sgc X R (A.getD 1 (zl_con 0)) l)
      | none => false) = true := h
    split at h
    · rename_i A hA
      obtain ⟨b1, h⟩ := zz_and h
      obtain ⟨b2, b3⟩ := zz_and h
      have e := zk_nul0 (s := s) b1
      obtain ⟨c2, c3, c4, c5, c6, c7⟩ := zk_sgi_ok hB hC b2
      rcases zk_sgA_ok hA hB hC hE with hS | hS | hS | ⟨s1, s2⟩
      · exact absurd hS (by omega)
      · rcases zk_sgc_ok hB hC hE hx hr0 b3 (by omega) with hr | ⟨r1, r2⟩
        · exact Or.inl hr
        · exact Or.inl (Or.inl (by omega))
      · exact Or.inl (Or.inr (by omega))
      · rcases zk_sgc_ok hB hC hE hx hr0 b3 (by omega) with hr | ⟨r1, r2⟩
        · exact Or.inl hr
        · refine Or.inr ⟨by omega, fun i i1 i2 => ?_⟩
          by_cases e2 : i < (zl_ev s (A.getD 1 (zl_con 0)))
          · exact zg_it_m (by omega) (by omega) c2 c3 c4 c5 c6 (s2 i (by omega) e2)
          · exact r2 i (by omega) i2
    · cases h
def zk_sg6 (X : zk_St) (l : List Nat) (j : zl_E) : Option zk_St := match zl_digs X.1.2.2.2.1 X.1.2.2.2.2 8 j with
  | some R => zk_sgp X j ((zl_gq X.1.2.2.2.1 X.1.2.2.2.2 (R.getD 7 (zl_con 0)) && zl_gq X.1.2.2.2.1 X.1.2.2.2.2 (zl_sub (zl_con 3200) (R.getD 0 (zl_con 0)))) && zk_sgc X R (R.getD 0 (zl_con 0)) l)
  | none => none
theorem zk_sg6_ok {PT : Nat → zz_W → Prop} {I : zz_W → Prop} {X Y : zk_St} {l : List Nat} {j : zl_E} {s : Nat → Int} {f : zz_F} (h : zk_sg6 X l j = some Y) (hG : zk_G2 PT I s X f) : zk_G2 PT I s Y f ∧ X.1.2.2.2.1.length ≤ Y.1.2.2.2.1.length := by
  unfold zk_sg6 at h
  split at h
  · rename_i R hR
    refine zk_sgp_ok h hR hG (fun hb => ?_)
    obtain ⟨⟨g1, g2, g3, g4, g5, g6⟩, k1, k2⟩ := hG
    obtain ⟨b1, b2⟩ := zz_and hb
    obtain ⟨b1, b3⟩ := zz_and b1
    have c1 := zl_gq_ok g4 g5 b1
    have c3 := zl_gq_ok g4 g5 b3
    rw [zl_sub_ev, zl_con_ev] at c3
    by_cases hx : (zl_ev s (R.getD 7 (zl_con 0))) = 0
    · rcases zk_sgc_ok g4 g5 k1 hx (by omega) b2 (Int.le_refl _) with (hr | hr) | hr
      · exact Or.inr (Or.inl hr)
      · exact Or.inr (Or.inr (Or.inl hr))
      · exact Or.inr (Or.inr (Or.inr hr))
    · exact Or.inl (by omega)
  · cases h
/-- an item more: i the segment, c what sort it is, q its depth -/
def zk_sgk (X : zk_St) (A R : List zl_E) (v o q : zl_E) (c : Nat) : Bool :=
  let gq := zl_gq X.1.2.2.2.1 X.1.2.2.2.2
  let k := zl_sub v (zl_mul 64 q)
  let rg := gq (zl_sub o (R.getD 3 (zl_con 0))) && gq (zl_sub (zl_sub (R.getD 4 (zl_con 0)) (zl_con 1)) o)
  cond (Nat.blt c 3) (gq (zl_sub k (zl_con (cond (Nat.beq c 0) 0 (cond (Nat.beq c 1) 12 34)))) && gq (zl_sub (zl_con (cond (Nat.beq c 0) 6 (cond (Nat.beq c 1) 28 63))) k))
  (cond (Nat.beq c 7) (zl_nul (zl_sub v (zl_con 33)))
  (match zk_ek X.2.1 20 (zl_add (zl_mul 6 o) (zl_con 2)) with
    | some u => rg && (
      cond (Nat.beq c 3) ((zl_nul (zl_sub k (zl_con 7)) || zl_nul (zl_sub k (zl_con 29))) && (gq (zl_sub u (zl_con 1)) && gq (zl_sub (zl_con 1) u)))
      (cond (Nat.beq c 4) ((zl_nul (zl_sub k (zl_con 10)) || zl_nul (zl_sub k (zl_con 11))) && gq (zl_sub u (zl_con 3)))
      (cond (Nat.beq c 5) (zl_nul (zl_sub k (zl_con 8)) && (gq (zl_sub u (zl_con 2)) && gq (zl_sub (zl_con 2) u)))
      (cond (Nat.beq c 6) (match zk_ek X.2.1 61 (zl_sub (zl_mul 2 (A.getD 1 (zl_con 0))) (zl_con 2)), zk_ek X.2.1 61 (zl_sub (zl_mul 2 (A.getD 1 (zl_con 0))) (zl_con 1)) with
        | some y, some z => (zl_nul (zl_sub k (zl_con 9)) && (gq (zl_sub u (zl_con 2)) && gq (zl_sub (zl_con 2) u))) && (zl_nul (zl_sub y (zl_sub v (zl_con 1))) && (zl_nul (zl_sub z o) && gq (zl_sub (zl_sub (A.getD 1 (zl_con 0)) (zl_con 1)) (A.getD 0 (zl_con 0)))))
        | _, _ => false) false))))
    | none => false))
theorem zk_sgk_ok {X : zk_St} {A R : List zl_E} {v o q : zl_E} {c : Nat} {s : Nat → Int} {w : zz_W} (h : zk_sgk X A R v o q c = true) (hB : zl_in s X.1.2.2.2.1) (hC : zk_cs s X.1.2.2.2.2) (hE : zk_eF s X.2.1 w) (hv : zh_e w 61 (2 * (zl_ev s (A.getD 1 (zl_con 0)))) = zl_ev s v) (ho : zh_e w 61 (2 * (zl_ev s (A.getD 1 (zl_con 0))) + 1) = zl_ev s o) (hd : 64 * (zl_ev s (R.getD 2 (zl_con 0))) ≤ zl_ev s v) (h0 : (zl_ev s (A.getD 0 (zl_con 0))) = (zl_ev s (R.getD 0 (zl_con 0)))) : zg_it (zh_e w 61) (zh_e w 20) (zh_e w 22) (zl_ev s (R.getD 0 (zl_con 0))) (zl_ev s (R.getD 1 (zl_con 0))) (zl_ev s (R.getD 2 (zl_con 0))) (zl_ev s (R.getD 3 (zl_con 0))) (zl_ev s (R.getD 4 (zl_con 0))) (zl_ev s (R.getD 5 (zl_con 0))) (zl_ev s (R.getD 6 (zl_con 0))) (zl_ev s (A.getD 1 (zl_con 0))) := by
  have gq : ∀ {x : zl_E}, zl_gq X.1.2.2.2.1 X.1.2.2.2.2 x = true → 0 ≤ zl_ev s x := fun h => zl_gq_ok hB hC h
  unfold zk_sgk at h
  unfold zg_it
  rw [hv, ho]
  cases hc : Nat.blt c 3 with
  | true =>
    rw [hc] at h
    obtain ⟨b1, b2⟩ := zz_and (show (_ && _) = true from h)
    have c1 := gq b1
    have c2 := gq b2
    rw [zl_sub_ev, zl_sub_ev, zl_mul_ev, zl_con_ev] at c1 c2
    have hc := zz_blt hc
    have hk : (0 ≤ zl_ev s v - 64 * zl_ev s q ∧ zl_ev s v - 64 * zl_ev s q ≤ 6) ∨ (12 ≤ zl_ev s v - 64 * zl_ev s q ∧ zl_ev s v - 64 * zl_ev s q ≤ 28) ∨ (34 ≤ zl_ev s v - 64 * zl_ev s q ∧ zl_ev s v - 64 * zl_ev s q ≤ 63) := by
      rcases (show c = 0 ∨ c = 1 ∨ c = 2 by omega) with e | e | e
      · subst e
        have c1 : 0 ≤ zl_ev s v - 64 * zl_ev s q - 0 := c1
        have c2 : 0 ≤ 6 - (zl_ev s v - 64 * zl_ev s q) := c2
        omega
      · subst e
        have c1 : 0 ≤ zl_ev s v - 64 * zl_ev s q - 12 := c1
        have c2 : 0 ≤ 28 - (zl_ev s v - 64 * zl_ev s q) := c2
        omega
      · subst e
        have c1 : 0 ≤ zl_ev s v - 64 * zl_ev s q - 34 := c1
        have c2 : 0 ≤ 63 - (zl_ev s v - 64 * zl_ev s q) := c2
        omega
    refine ⟨hd, fun c => absurd c (by omega), fun c => absurd c (by omega), fun c => absurd c (by omega), fun c => absurd c (by omega), fun c => absurd c (by omega), fun c => absurd c (by omega), fun c => absurd c (by omega)⟩
  | false =>
    rw [hc] at h
    cases h7 : Nat.beq c 7 with
    | true =>
      rw [h7] at h
      have e := zk_nul0 (s := s) (show zl_nul (zl_sub v (zl_con 33)) = true from h)
      rw [zl_con_ev] at e
      refine ⟨hd, fun c => absurd c (by omega), fun c => absurd c (by omega), fun c => absurd c (by omega), fun c => absurd c (by omega), fun c => absurd c (by omega), fun c => absurd c (by omega), fun _ => e⟩
    | false =>
      rw [h7] at h
      have h := (show (match zk_ek X.2.1 20 (zl_add (zl_mul 6 o) (zl_con 2)) with | some u => _ | none => false) = true from h)
      split at h
      · rename_i u hu
        obtain ⟨br, h⟩ := zz_and h
        obtain ⟨b1, b2⟩ := zz_and br
        have r1 := gq b1
        have r2 := gq b2
        rw [zl_sub_ev] at r1 r2
        rw [zl_sub_ev, zl_con_ev] at r2
        have hu := zk_eke rfl hu hE
        rw [zl_add_ev, zl_mul_ev, zl_con_ev] at hu
        cases h3 : Nat.beq c 3 with
        | true =>
          rw [h3] at h
          obtain ⟨k1, k2⟩ := zz_and (show (_ && _) = true from h)
          obtain ⟨k2, k3⟩ := zz_and k2
          have k2 := gq k2
          have k3 := gq k3
          rw [zl_sub_ev, zl_con_ev] at k2 k3
          have hk : zl_ev s v - 64 * zl_ev s q = 7 ∨ zl_ev s v - 64 * zl_ev s q = 29 := by
            rcases Bool.or_eq_true_iff.mp k1 with k | k
            · have e := zk_nul0 (s := s) k
              rw [zl_sub_ev, zl_mul_ev, zl_con_ev] at e
              exact Or.inl e
            · have e := zk_nul0 (s := s) k
              rw [zl_sub_ev, zl_mul_ev, zl_con_ev] at e
              exact Or.inr e
          refine ⟨hd, fun _ => ⟨by omega, by omega, by rw [hu]; omega⟩, fun c => absurd c (by omega), fun c => absurd c (by omega), fun c => absurd c (by omega), fun c => absurd c (by omega), fun c => absurd c (by omega), fun c => absurd c (by omega)⟩
        | false =>
          rw [h3] at h
          cases h4 : Nat.beq c 4 with
          | true =>
            rw [h4] at h
            obtain ⟨k1, k2⟩ := zz_and (show (_ && _) = true from h)
            have k2 := gq k2
            rw [zl_sub_ev, zl_con_ev] at k2
            have hk : zl_ev s v - 64 * zl_ev s q = 10 ∨ zl_ev s v - 64 * zl_ev s q = 11 := by
              rcases Bool.or_eq_true_iff.mp k1 with k | k
              · have e := zk_nul0 (s := s) k
                rw [zl_sub_ev, zl_mul_ev, zl_con_ev] at e
                exact Or.inl e
              · have e := zk_nul0 (s := s) k
                rw [zl_sub_ev, zl_mul_ev, zl_con_ev] at e
                exact Or.inr e
            refine ⟨hd, fun c => absurd c (by omega), fun _ => ⟨by omega, by omega, by rw [hu]; omega⟩, fun c => absurd c (by omega), fun c => absurd c (by omega), fun c => absurd c (by omega), fun c => absurd c (by omega), fun c => absurd c (by omega)⟩
          | false =>
            rw [h4] at h
            cases h5 : Nat.beq c 5 with
            | true =>
              rw [h5] at h
              obtain ⟨k1, k2⟩ := zz_and (show (_ && _) = true from h)
              obtain ⟨k2, k3⟩ := zz_and k2
              have k2 := gq k2
              have k3 := gq k3
              rw [zl_sub_ev, zl_con_ev] at k2 k3
              have e := zk_nul0 (s := s) k1
              rw [zl_sub_ev, zl_mul_ev, zl_con_ev] at e
              refine ⟨hd, fun c => absurd c (by omega), fun c => absurd c (by omega), fun _ => ⟨by omega, by omega, by rw [hu]; omega⟩, fun c => absurd c (by omega), fun c => absurd c (by omega), fun c => absurd c (by omega), fun c => absurd c (by omega)⟩
            | false =>
              rw [h5] at h
              cases h6 : Nat.beq c 6 with
              | true =>
                rw [h6] at h
                have h := (show (match zk_ek X.2.1 61 (zl_sub (zl_mul 2 (A.getD 1 (zl_con 0))) (zl_con 2)), zk_ek X.2.1 61 (zl_sub (zl_mul 2 (A.getD 1 (zl_con 0))) (zl_con 1)) with | some y, some z => _ | _, _ => false) = true from h)
                split at h
                · rename_i y z hy hz
                  obtain ⟨k1, k2⟩ := zz_and h
                  obtain ⟨k1, k3⟩ := zz_and k1
                  obtain ⟨k3, k4⟩ := zz_and k3
                  obtain ⟨k5, k6⟩ := zz_and k2
                  obtain ⟨k6, k7⟩ := zz_and k6
                  have k3 := gq k3
                  have k4 := gq k4
                  have k7 := gq k7
                  rw [zl_sub_ev, zl_con_ev] at k3 k4
                  rw [zl_sub_ev, zl_sub_ev, zl_con_ev] at k7
                  have e := zk_nul0 (s := s) k1
                  rw [zl_sub_ev, zl_mul_ev, zl_con_ev] at e
                  have e5 := zk_nul0 (s := s) k5
                  rw [zl_sub_ev, zl_con_ev] at e5
                  have e6 := zk_nul0 (s := s) k6
                  have hy := zk_eke rfl hy hE
                  have hz := zk_eke rfl hz hE
                  rw [zl_sub_ev, zl_mul_ev, zl_con_ev] at hy hz
                  refine ⟨hd, fun c => absurd c (by omega), fun c => absurd c (by omega), fun _ => ⟨by omega, by omega, by rw [hu]; omega⟩, fun _ => ⟨by omega, by rw [hy]; omega, by rw [hz]; omega⟩, fun c => absurd c (by omega), fun c => absurd c (by omega), fun c => absurd c (by omega)⟩
                · cases h
              | false =>
                rw [h6] at h
                cases h
      · cases h
def zk_sg7 (X : zk_St) (i c : Nat) (j q : zl_E) : Option zk_St := match zl_digs X.1.2.2.2.1 X.1.2.2.2.2 8 j, zk_sgA X i with
  | some R, some A => match zk_ek X.2.1 61 (zl_mul 2 (A.getD 1 (zl_con 0))), zk_ek X.2.1 61 (zl_add (zl_mul 2 (A.getD 1 (zl_con 0))) (zl_con 1)) with
    | some v, some o => zk_sgp X j ((zl_nul (zl_sub (R.getD 0 (zl_con 0)) (A.getD 0 (zl_con 0))) && zl_nul (zl_sub (R.getD 1 (zl_con 0)) (zl_add (A.getD 1 (zl_con 0)) (zl_con 1)))) && ((zl_gq X.1.2.2.2.1 X.1.2.2.2.2 (R.getD 7 (zl_con 0)) && zl_gq X.1.2.2.2.1 X.1.2.2.2.2 (zl_sub v (zl_mul 64 (R.getD 2 (zl_con 0))))) && (zk_sgi X.1.2.2.2.1 X.1.2.2.2.2 A R && zk_sgk X A R v o q c)))
    | _, _ => none
  | _, _ => none
theorem zk_sg7_ok {PT : Nat → zz_W → Prop} {I : zz_W → Prop} {X Y : zk_St} {i c : Nat} {j q : zl_E} {s : Nat → Int} {f : zz_F} (h : zk_sg7 X i c j q = some Y) (hG : zk_G2 PT I s X f) : zk_G2 PT I s Y f ∧ X.1.2.2.2.1.length ≤ Y.1.2.2.2.1.length := by
  unfold zk_sg7 at h
  split at h
  · rename_i R A hR hA
    split at h
    · rename_i v o hv ho
      refine zk_sgp_ok h hR hG (fun hb => ?_)
      obtain ⟨⟨g1, g2, g3, g4, g5, g6⟩, k1, k2⟩ := hG
      obtain ⟨b0, hb⟩ := zz_and hb
      obtain ⟨b0, b1⟩ := zz_and b0
      obtain ⟨b2, hb⟩ := zz_and hb
      obtain ⟨b2, b3⟩ := zz_and b2
      obtain ⟨b4, b5⟩ := zz_and hb
      have e0 := zk_nul0 (s := s) b0
      have e1 := zk_nul0 (s := s) b1
      rw [zl_add_ev, zl_con_ev] at e1
      have c2 := zl_gq_ok g4 g5 b2
      have c3 := zl_gq_ok g4 g5 b3
      rw [zl_sub_ev, zl_mul_ev] at c3
      obtain ⟨d2, d3, d4, d5, d6, d7⟩ := zk_sgi_ok g4 g5 b4
      have hv := zk_eke rfl hv k1
      have ho := zk_eke rfl ho k1
      rw [zl_mul_ev] at hv
      rw [zl_add_ev, zl_mul_ev, zl_con_ev] at ho
      have hk := zk_sgk_ok b5 g4 g5 k1 hv ho (by omega) (by omega)
      by_cases hx : (zl_ev s (R.getD 7 (zl_con 0))) = 0
      · rcases zk_sgA_ok hA g4 g5 k1 with hS | hS | hS | ⟨s1, s2⟩
        · exact absurd hS (by omega)
        · exact Or.inr (Or.inl (by omega))
        · exact Or.inr (Or.inr (Or.inl (by omega)))
        · refine Or.inr (Or.inr (Or.inr ⟨by omega, fun t t1 t2 => ?_⟩))
          by_cases e2 : t < (zl_ev s (A.getD 1 (zl_con 0)))
          · exact zg_it_m (by omega) (by omega) d2 d3 d4 d5 d6 (s2 t (by omega) e2)
          · rw [show t = (zl_ev s (A.getD 1 (zl_con 0))) by omega]
            exact hk
      · exact Or.inl (by omega)
    · cases h
  · cases h
/-- an array's element is set: the check, the value (deeper), the store -/
def zk_sg8 (X : zk_St) (i1 i2 : Nat) (j : zl_E) : Option zk_St := match zl_digs X.1.2.2.2.1 X.1.2.2.2.2 8 j, zk_sgA X i1, zk_sgA X i2 with
  | some R, some A, some D => match zk_ek X.2.1 61 (zl_sub (zl_mul 2 (A.getD 1 (zl_con 0))) (zl_con 2)), zk_ek X.2.1 61 (zl_sub (zl_mul 2 (A.getD 1 (zl_con 0))) (zl_con 1)), zk_ek X.2.1 61 (zl_mul 2 (D.getD 1 (zl_con 0))), zk_ek X.2.1 61 (zl_add (zl_mul 2 (D.getD 1 (zl_con 0))) (zl_con 1)) with
    | some y, some z, some v, some o => match zk_ek X.2.1 20 (zl_add (zl_mul 6 o) (zl_con 2)) with
      | some u =>
        let gq := zl_gq X.1.2.2.2.1 X.1.2.2.2.2
        zk_sgp X j (((zl_nul (zl_sub (R.getD 0 (zl_con 0)) (A.getD 0 (zl_con 0))) && zl_nul (zl_sub (R.getD 1 (zl_con 0)) (zl_add (D.getD 1 (zl_con 0)) (zl_con 1)))) && (zl_nul (zl_sub (D.getD 0 (zl_con 0)) (A.getD 1 (zl_con 0))) && (gq (R.getD 7 (zl_con 0)) && (gq (zl_sub (D.getD 2 (zl_con 0)) (zl_con 1)) && zl_nul (zl_sub (R.getD 2 (zl_con 0)) (zl_con 0)))))) && ((zk_sgi X.1.2.2.2.1 X.1.2.2.2.2 A R && zk_sgi X.1.2.2.2.1 X.1.2.2.2.2 D R) && ((zl_nul (zl_sub y (zl_con 8)) && (zl_nul (zl_sub z o) && zl_nul (zl_sub v (zl_con 30)))) && ((gq (zl_sub u (zl_con 2)) && gq (zl_sub (zl_con 2) u)) && ((gq (zl_sub o (R.getD 3 (zl_con 0))) && gq (zl_sub (zl_sub (R.getD 4 (zl_con 0)) (zl_con 1)) o)) && gq (zl_sub (zl_sub (A.getD 1 (zl_con 0)) (zl_con 1)) (A.getD 0 (zl_con 0))))))))
      | none => none
    | _, _, _, _ => none
  | _, _, _ => none
theorem zk_sg8_ok {PT : Nat → zz_W → Prop} {I : zz_W → Prop} {X Y : zk_St} {i1 i2 : Nat} {j : zl_E} {s : Nat → Int} {f : zz_F} (h : zk_sg8 X i1 i2 j = some Y) (hG : zk_G2 PT I s X f) : zk_G2 PT I s Y f ∧ X.1.2.2.2.1.length ≤ Y.1.2.2.2.1.length := by
  unfold zk_sg8 at h
  split at h
  · rename_i R A D hR hA hD
    split at h
    · rename_i y z v o hy hz hv ho
      split at h
      · rename_i u hu
        refine zk_sgp_ok h hR hG (fun hb => ?_)
        obtain ⟨⟨g1, g2, g3, g4, g5, g6⟩, k1, k2⟩ := hG
        obtain ⟨x1, x2⟩ := zz_and hb
        obtain ⟨x1, x3⟩ := zz_and x1
        obtain ⟨b0, b1⟩ := zz_and x1
        obtain ⟨b2, x3⟩ := zz_and x3
        obtain ⟨b3, x3⟩ := zz_and x3
        obtain ⟨b4, b5⟩ := zz_and x3
        obtain ⟨x4, x5⟩ := zz_and x2
        obtain ⟨b6, b7⟩ := zz_and x4
        obtain ⟨x6, x7⟩ := zz_and x5
        obtain ⟨b8, x6⟩ := zz_and x6
        obtain ⟨b9, b10⟩ := zz_and x6
        obtain ⟨x8, x9⟩ := zz_and x7
        obtain ⟨b11, b12⟩ := zz_and x8
        obtain ⟨x9, b15⟩ := zz_and x9
        obtain ⟨b13, b14⟩ := zz_and x9
        have e0 := zk_nul0 (s := s) b0
        have e1 := zk_nul0 (s := s) b1
        rw [zl_add_ev, zl_con_ev] at e1
        have e2 := zk_nul0 (s := s) b2
        have c3 := zl_gq_ok g4 g5 b3
        have c4 := zl_gq_ok g4 g5 b4
        rw [zl_sub_ev, zl_con_ev] at c4
        have e5 := zk_nul0 (s := s) b5
        rw [zl_con_ev] at e5
        obtain ⟨d2, d3, d4, d5, d6, d7⟩ := zk_sgi_ok g4 g5 b6
        obtain ⟨f2, f3, f4, f5, f6, f7⟩ := zk_sgi_ok g4 g5 b7
        have e8 := zk_nul0 (s := s) b8
        have e9 := zk_nul0 (s := s) b9
        have e10 := zk_nul0 (s := s) b10
        rw [zl_con_ev] at e8 e10
        have c11 := zl_gq_ok g4 g5 b11
        have c12 := zl_gq_ok g4 g5 b12
        have c13 := zl_gq_ok g4 g5 b13
        have c14 := zl_gq_ok g4 g5 b14
        have c15 := zl_gq_ok g4 g5 b15
        rw [zl_sub_ev] at c11 c12 c13 c14 c15
        rw [zl_con_ev] at c11 c12
        rw [zl_sub_ev, zl_con_ev] at c14 c15
        have hy := zk_eke rfl hy k1
        have hz := zk_eke rfl hz k1
        have hv := zk_eke rfl hv k1
        have ho := zk_eke rfl ho k1
        have hu := zk_eke rfl hu k1
        rw [zl_sub_ev, zl_mul_ev, zl_con_ev] at hy hz
        rw [zl_mul_ev] at hv
        rw [zl_add_ev, zl_mul_ev, zl_con_ev] at ho hu
        by_cases hx : (zl_ev s (R.getD 7 (zl_con 0))) = 0
        · rcases zk_sgA_ok hA g4 g5 k1 with hS | hS | hS | ⟨s1, s2⟩
          · exact absurd hS (by omega)
          · rcases zk_sgA_ok hD g4 g5 k1 with hT | hT | hT | ⟨t1, t2⟩
            · exact absurd hT (by omega)
            · exact Or.inr (Or.inl (by omega))
            · exact Or.inr (Or.inr (Or.inl (by omega)))
            · exact Or.inr (Or.inl (by omega))
          · exact Or.inr (Or.inr (Or.inl (by omega)))
          · rcases zk_sgA_ok hD g4 g5 k1 with hT | hT | hT | ⟨t1, t2⟩
            · exact absurd hT (by omega)
            · exact Or.inr (Or.inl (by omega))
            · exact Or.inr (Or.inr (Or.inl (by omega)))
            · refine Or.inr (Or.inr (Or.inr ⟨by omega, fun t z1 z2 => ?_⟩))
              by_cases y1 : t < (zl_ev s (A.getD 1 (zl_con 0)))
              · exact zg_it_m (by omega) (by omega) d2 d3 d4 d5 d6 (s2 t (by omega) y1)
              · by_cases y2 : t < (zl_ev s (D.getD 1 (zl_con 0)))
                · exact zg_it_m (by omega) (by omega) f2 f3 f4 f5 f6 (t2 t (by omega) y2)
                · have et : t = (zl_ev s (D.getD 1 (zl_con 0))) := by omega
                  rw [et]
                  unfold zg_it
                  rw [hv, ho]
                  refine ⟨by omega, fun c => absurd c (by omega), fun c => absurd c (by omega), fun _ => ⟨by omega, by omega, by rw [hu]; omega⟩, fun c => absurd c (by omega), fun _ => ⟨e10, (zl_ev s (A.getD 1 (zl_con 0))) - 1, by omega, by omega, ?_, ?_, fun i i1 i2 => ?_⟩, fun c => absurd c (by omega), fun c => absurd c (by omega)⟩
                  · rw [show 2 * ((zl_ev s (A.getD 1 (zl_con 0))) - 1) = 2 * (zl_ev s (A.getD 1 (zl_con 0))) - 2 by omega, hy]
                    exact e8
                  · rw [show 2 * ((zl_ev s (A.getD 1 (zl_con 0))) - 1) + 1 = 2 * (zl_ev s (A.getD 1 (zl_con 0))) - 1 by omega, hz]
                    exact e9
                  · have := (t2 i (by omega) i2).1
                    omega
        · exact Or.inl (by omega)
      · cases h
    · cases h
  · cases h
/-- all of them -/
def zk_sgx (X : zk_St) (l : List Nat) (es : List zl_E) : Option zk_St := cond (Nat.beq (l.getD 0 0) 5) (zk_sg5 X (es.getD 0 (zl_con 0))) (cond (Nat.beq (l.getD 0 0) 6) (zk_sg6 X (l.drop 1) (es.getD 0 (zl_con 0))) (cond (Nat.beq (l.getD 0 0) 7) (zk_sg7 X (l.getD 1 0) (l.getD 2 0) (es.getD 0 (zl_con 0)) (es.getD 1 (zl_con 0))) (cond (Nat.beq (l.getD 0 0) 8) (zk_sg8 X (l.getD 1 0) (l.getD 2 0) (es.getD 0 (zl_con 0))) none)))
theorem zk_sgx_ok {PT : Nat → zz_W → Prop} {I : zz_W → Prop} {X Y : zk_St} {l : List Nat} {es : List zl_E} {s : Nat → Int} {f : zz_F} (h : zk_sgx X l es = some Y) (hG : zk_G2 PT I s X f) : zk_G2 PT I s Y f ∧ X.1.2.2.2.1.length ≤ Y.1.2.2.2.1.length := by
  unfold zk_sgx at h
  cases h5 : Nat.beq (l.getD 0 0) 5 with
  | true =>
    rw [h5] at h
    exact zk_sg5_ok h hG
  | false =>
    rw [h5] at h
    cases h6 : Nat.beq (l.getD 0 0) 6 with
    | true =>
      rw [h6] at h
      exact zk_sg6_ok h hG
    | false =>
      rw [h6] at h
      cases h7 : Nat.beq (l.getD 0 0) 7 with
      | true =>
        rw [h7] at h
        exact zk_sg7_ok h hG
      | false =>
        rw [h7] at h
        cases h8 : Nat.beq (l.getD 0 0) 8 with
        | true =>
          rw [h8] at h
          exact zk_sg8_ok h hG
        | false =>
          rw [h8] at h
          cases h
end
end
section
/-! VIRTUAL ROWS in the check: none ahead of place 0; one place on; one place back; bounds between two places; one place between two -/
noncomputable section
def zk_v0 (X : zk_St) (t : Nat) (n : zl_E) (h : List Nat) : Option zk_St := cond (Nat.blt t 1000000 && zl_en X.1.2.2.2.1 X.1.2.2.2.2 h n) (some (X.1, (1000000 + t, zl_mul 1048576 n, zl_con 0) :: X.2.1, X.2.2)) none
theorem zk_v0_ok {PT : Nat → zz_W → Prop} {I : zz_W → Prop} {X Y : zk_St} {t : Nat} {n : zl_E} {h : List Nat} (hh : zk_v0 X t n h = some Y) {s : Nat → Int} {f : zz_F} (hG : zk_G2 PT I s X f) : zk_G2 PT I s Y f ∧ X.1.2.2.2.1.length ≤ Y.1.2.2.2.1.length := by
  obtain ⟨hb, hh⟩ := zz_cond hh
  cases hh
  obtain ⟨ht, hb⟩ := zz_and hb
  obtain ⟨g1, k1, k2⟩ := hG
  have c1 := zl_en_ok g1.2.2.2.1 g1.2.2.2.2.1 hb
  refine ⟨⟨g1, fun y hy => ?_, k2⟩, Nat.le_refl _⟩
  rcases List.mem_cons.mp hy with ey | hy
  · subst ey
    show 0 ≤ zl_ev s (zl_mul 1048576 n) ∧ zk_xe f.2.2.2 (1000000 + t) (zl_ev s (zl_mul 1048576 n)) = zl_ev s (zl_con 0)
    rw [zk_xe_v (zz_blt ht) (e := 0) (n := zl_ev s n) (by rw [zl_mul_ev]; omega) (by decide) (by decide), zl_con_ev, zl_mul_ev]
    exact ⟨by omega, rfl⟩
  · exact k1 y hy
/-- the virtual row of an entry, its place decoded -/
def zk_vd (B : List (Int × Int)) (C : List zl_E) (x : zk_E1) (e n : zl_E) (h1 h2 : List Nat) : Bool := (!(Nat.blt x.1 1000000) && Nat.blt x.1 2000000) && (zl_nul (zl_sub x.2.1 (zl_add e (zl_mul 1048576 n))) && (zl_en B C h1 e && zl_en B C h2 (zl_sub (zl_con 1048574) e)))
theorem zk_vd_ok {s : Nat → Int} {B : List (Int × Int)} {C : List zl_E} (hB : zl_in s B) (hC : zk_cs s C) {x : zk_E1} {e n : zl_E} {h1 h2 : List Nat} (h : zk_vd B C x e n h1 h2 = true) : (x.1 = 1000000 + (x.1 - 1000000) ∧ x.1 - 1000000 < 1000000) ∧ zl_ev s x.2.1 = zl_ev s e + 1048576 * zl_ev s n ∧ 0 ≤ zl_ev s e ∧ zl_ev s e ≤ 1048574 := by
  unfold zk_vd at h
  obtain ⟨a, h⟩ := zz_and h
  obtain ⟨a, a2⟩ := zz_and a
  have a2 := zz_blt a2
  obtain ⟨b, h⟩ := zz_and h
  obtain ⟨c, d⟩ := zz_and h
  have b := zl_nul_ok (s := s) b
  rw [zl_sub_ev, zl_add_ev, zl_mul_ev] at b
  have c := zl_en_ok hB hC c
  have d := zl_en_ok hB hC d
  rw [zl_sub_ev, zl_con_ev] at d
  refine ⟨⟨?_, by omega⟩, by omega, c, by omega⟩
  by_cases hx : x.1 < 1000000
  · rw [show Nat.blt x.1 1000000 = true from Nat.ble_eq.mpr hx] at a
    cases a
  · omega
/-- the value at a place -/
def zk_vv (X : zk_St) (t k : Nat) (e n : zl_E) (hs : List (List Nat)) : Option zl_E := match zk_esm X.2.1 e (zv_T t).1 with
  | some vs => zv_cs X.1.2.2.2.1 X.1.2.2.2.2 (e :: (vs ++ [n])) (zv_T t).2 hs k
  | none => none
theorem zk_vv_ok {X : zk_St} {t k : Nat} {e n v : zl_E} {hs : List (List Nat)} {s : Nat → Int} {w : zz_W} (hB : zl_in s X.1.2.2.2.1) (hC : zk_cs s X.1.2.2.2.2) (hE : zk_eF s X.2.1 w) (h0 : 0 ≤ zl_ev s e) (h : zk_vv X t k e n hs = some v) : zv_F (zv_T t) w (zl_ev s n) ((zl_ev s e).toNat + 1) = zv_F (zv_T t) w (zl_ev s n) (zl_ev s e).toNat + zl_ev s v := by
  unfold zk_vv at h
  split at h
  · rename_i vs hv
    have hj : ((zl_ev s e).toNat : Int) = zl_ev s e := by omega
    have hl : zk_sl2 s (e :: (vs ++ [n])) (zv_al w (zv_T t).1 (zl_ev s n) (zl_ev s e).toNat) := zk_sl2_cons hj (zk_sl2_app (zk_esm_ok hE hj hv) (zk_sl2_cons rfl zk_sl2_nil))
    have h1 := zv_cs_ok hB hC h
    rw [zk_sl2_u hl] at h1
    rw [h1]
    rfl
  · cases h
/-- one place on -/
def zk_vo (X : zk_St) (a k : Nat) (e n : zl_E) (hs : List (List Nat)) : Option zk_St := match X.2.1[a]? with
  | some x => match zk_vv X (x.1 - 1000000) k e n (hs.drop 2) with
    | some v => cond (zk_vd X.1.2.2.2.1 X.1.2.2.2.2 x e n (hs.getD 0 []) (hs.getD 1 [])) (some (X.1, (x.1, zl_add x.2.1 (zl_con 1), zl_add x.2.2 v) :: X.2.1, X.2.2)) none
    | none => none
  | none => none
theorem zk_vo_ok {PT : Nat → zz_W → Prop} {I : zz_W → Prop} {X Y : zk_St} {a k : Nat} {e n : zl_E} {hs : List (List Nat)} (hh : zk_vo X a k e n hs = some Y) {s : Nat → Int} {f : zz_F} (hG : zk_G2 PT I s X f) : zk_G2 PT I s Y f ∧ X.1.2.2.2.1.length ≤ Y.1.2.2.2.1.length := by
  unfold zk_vo at hh
  split at hh
  · rename_i x hx
    split at hh
    · rename_i v hv
      obtain ⟨hb, hh⟩ := zz_cond hh
      cases hh
      obtain ⟨g1, k1, k2⟩ := hG
      obtain ⟨⟨d1, d0⟩, d2, d3, d4⟩ := zk_vd_ok g1.2.2.2.1 g1.2.2.2.2.1 hb
      have h1 := zk_vv_ok g1.2.2.2.1 g1.2.2.2.2.1 k1 d3 hv
      obtain ⟨x1, x2⟩ := k1 x (List.mem_of_getElem? hx)
      refine ⟨⟨g1, fun y hy => ?_, k2⟩, Nat.le_refl _⟩
      rcases List.mem_cons.mp hy with ey | hy
      · subst ey
        show 0 ≤ zl_ev s (zl_add x.2.1 (zl_con 1)) ∧ zk_xe f.2.2.2 x.1 (zl_ev s (zl_add x.2.1 (zl_con 1))) = zl_ev s (zl_add x.2.2 v)
        rw [zl_add_ev, zl_add_ev, zl_con_ev]
        rw [d1, zk_xe_v d0 d2 d3 (by omega)] at x2
        refine ⟨by omega, ?_⟩
        rw [d1, zk_xe_v d0 (e := zl_ev s e + 1) (n := zl_ev s n) (by omega) (by omega) (by omega), show (zl_ev s e + 1).toNat = (zl_ev s e).toNat + 1 by omega, h1, x2]
      · exact k1 y hy
    · cases hh
  · cases hh
/-- one place back -/
def zk_vr (X : zk_St) (a k : Nat) (e n : zl_E) (hs : List (List Nat)) : Option zk_St := match X.2.1[a]? with
  | some x => match zk_vv X (x.1 - 1000000) k e n (hs.drop 2) with
    | some v => cond (zk_vd X.1.2.2.2.1 X.1.2.2.2.2 (x.1, zl_sub x.2.1 (zl_con 1), x.2.2) e n (hs.getD 0 []) (hs.getD 1 [])) (some (X.1, (x.1, zl_sub x.2.1 (zl_con 1), zl_sub x.2.2 v) :: X.2.1, X.2.2)) none
    | none => none
  | none => none
theorem zk_vr_ok {PT : Nat → zz_W → Prop} {I : zz_W → Prop} {X Y : zk_St} {a k : Nat} {e n : zl_E} {hs : List (List Nat)} (hh : zk_vr X a k e n hs = some Y) {s : Nat → Int} {f : zz_F} (hG : zk_G2 PT I s X f) : zk_G2 PT I s Y f ∧ X.1.2.2.2.1.length ≤ Y.1.2.2.2.1.length := by
  unfold zk_vr at hh
  split at hh
  · rename_i x hx
    split at hh
    · rename_i v hv
      obtain ⟨hb, hh⟩ := zz_cond hh
      cases hh
      obtain ⟨g1, k1, k2⟩ := hG
      obtain ⟨⟨d1, d0⟩, d2, d3, d4⟩ := zk_vd_ok g1.2.2.2.1 g1.2.2.2.2.1 hb
      have d1 : x.1 = 1000000 + (x.1 - 1000000) := d1
      have d0 : x.1 - 1000000 < 1000000 := d0
      have d2 : zl_ev s (zl_sub x.2.1 (zl_con 1)) = zl_ev s e + 1048576 * zl_ev s n := d2
      rw [zl_sub_ev, zl_con_ev] at d2
      have h1 := zk_vv_ok g1.2.2.2.1 g1.2.2.2.2.1 k1 d3 hv
      obtain ⟨x1, x2⟩ := k1 x (List.mem_of_getElem? hx)
      refine ⟨⟨g1, fun y hy => ?_, k2⟩, Nat.le_refl _⟩
      rcases List.mem_cons.mp hy with ey | hy
      · subst ey
        show 0 ≤ zl_ev s (zl_sub x.2.1 (zl_con 1)) ∧ zk_xe f.2.2.2 x.1 (zl_ev s (zl_sub x.2.1 (zl_con 1))) = zl_ev s (zl_sub x.2.2 v)
        rw [zl_sub_ev, zl_sub_ev, zl_con_ev]
        rw [d1, zk_xe_v d0 (e := zl_ev s e + 1) (n := zl_ev s n) (by omega) (by omega) (by omega), show (zl_ev s e + 1).toNat = (zl_ev s e).toNat + 1 by omega, h1] at x2
        refine ⟨by omega, ?_⟩
        rw [d1, zk_xe_v d0 d2 d3 (by omega)]
        omega
      · exact k1 y hy
    · cases hh
  · cases hh
/-- between two places -/
def zk_vm (X : zk_St) (a b lo hi : Nat) (e1 e2 n : zl_E) (hs : List (List Nat)) : Option zk_St := match X.2.1[a]?, X.2.1[b]? with
  | some x, some y => cond ((Nat.beq x.1 y.1 && zv_bd (-(lo : Int)) (hi : Int) (zv_T (x.1 - 1000000)).2) && (zk_vd X.1.2.2.2.1 X.1.2.2.2.2 x e1 n (hs.getD 0 []) (hs.getD 1 []) && (zk_vd X.1.2.2.2.1 X.1.2.2.2.2 y e2 n (hs.getD 2 []) (hs.getD 3 []) && zl_en X.1.2.2.2.1 X.1.2.2.2.2 (hs.getD 4 []) (zl_sub e2 e1)))) (some ((X.1.1, X.1.2.1, X.1.2.2.1, X.1.2.2.2.1, zl_add (zl_sub y.2.2 x.2.2) (zl_mul (lo : Int) (zl_sub e2 e1)) :: zl_sub (zl_mul (hi : Int) (zl_sub e2 e1)) (zl_sub y.2.2 x.2.2) :: X.1.2.2.2.2), X.2.1, X.2.2)) none
  | _, _ => none
theorem zk_vm_ok {PT : Nat → zz_W → Prop} {I : zz_W → Prop} {X Y : zk_St} {a b lo hi : Nat} {e1 e2 n : zl_E} {hs : List (List Nat)} (hh : zk_vm X a b lo hi e1 e2 n hs = some Y) {s : Nat → Int} {f : zz_F} (hG : zk_G2 PT I s X f) : zk_G2 PT I s Y f ∧ X.1.2.2.2.1.length ≤ Y.1.2.2.2.1.length := by
  unfold zk_vm at hh
  split at hh
  · rename_i x y hx hy
    obtain ⟨hb, hh⟩ := zz_cond hh
    cases hh
    obtain ⟨b1, hb⟩ := zz_and hb
    obtain ⟨b0, b1⟩ := zz_and b1
    obtain ⟨b2, hb⟩ := zz_and hb
    obtain ⟨b3, b4⟩ := zz_and hb
    obtain ⟨⟨g1, g2, g3, g4, g5, g6⟩, k1, k2⟩ := hG
    obtain ⟨⟨d1, d0⟩, d2, d3, d4⟩ := zk_vd_ok g4 g5 b2
    obtain ⟨⟨c1, c0⟩, c2, c3, c4⟩ := zk_vd_ok g4 g5 b3
    have b4 := zl_en_ok g4 g5 b4
    rw [zl_sub_ev] at b4
    obtain ⟨-, x2⟩ := k1 x (List.mem_of_getElem? hx)
    obtain ⟨-, y2⟩ := k1 y (List.mem_of_getElem? hy)
    rw [← zz_beq b0, d1, zk_xe_v d0 c2 c3 (by omega)] at y2
    rw [d1, zk_xe_v d0 d2 d3 (by omega)] at x2
    have h1 := zv_F_bd (w := f.2.2.2) (n := zl_ev s n) b1 (a := (zl_ev s e1).toNat) ((zl_ev s e2).toNat - (zl_ev s e1).toNat)
    rw [show (zl_ev s e1).toNat + ((zl_ev s e2).toNat - (zl_ev s e1).toNat) = (zl_ev s e2).toNat by omega, x2, y2, show (((zl_ev s e2).toNat - (zl_ev s e1).toNat : Nat) : Int) = zl_ev s e2 - zl_ev s e1 by omega, Int.neg_mul] at h1
    refine ⟨⟨⟨g1, g2, g3, g4, fun c hc => ?_, g6⟩, k1, k2⟩, Nat.le_refl _⟩
    rcases List.mem_cons.mp hc with hc | hc
    · rw [hc, zl_add_ev, zl_sub_ev, zl_mul_ev, zl_sub_ev]
      omega
    · rcases List.mem_cons.mp hc with hc | hc
      · rw [hc, zl_sub_ev, zl_mul_ev, zl_sub_ev, zl_sub_ev]
        omega
      · exact g5 c hc
  · cases hh
/-- a place between two, where no value is below 0 -/
def zk_vt (X : zk_St) (a b k hi : Nat) (e1 e2 j n : zl_E) (hs : List (List Nat)) : Option zk_St := match X.2.1[a]?, X.2.1[b]? with
  | some x, some y => match zk_vv X (x.1 - 1000000) k j n (hs.drop 6) with
    | some v => cond ((Nat.beq x.1 y.1 && zv_bd 0 (hi : Int) (zv_T (x.1 - 1000000)).2) && (zk_vd X.1.2.2.2.1 X.1.2.2.2.2 x e1 n (hs.getD 0 []) (hs.getD 1 []) && (zk_vd X.1.2.2.2.1 X.1.2.2.2.2 y e2 n (hs.getD 2 []) (hs.getD 3 []) && (zl_en X.1.2.2.2.1 X.1.2.2.2.2 (hs.getD 4 []) (zl_sub j e1) && zl_en X.1.2.2.2.1 X.1.2.2.2.2 (hs.getD 5 []) (zl_sub (zl_sub e2 j) (zl_con 1)))))) (some ((X.1.1, X.1.2.1, X.1.2.2.1, X.1.2.2.2.1, zl_sub (zl_sub y.2.2 x.2.2) v :: X.1.2.2.2.2), X.2.1, X.2.2)) none
    | none => none
  | _, _ => none
theorem zk_vt_ok {PT : Nat → zz_W → Prop} {I : zz_W → Prop} {X Y : zk_St} {a b k hi : Nat} {e1 e2 j n : zl_E} {hs : List (List Nat)} (hh : zk_vt X a b k hi e1 e2 j n hs = some Y) {s : Nat → Int} {f : zz_F} (hG : zk_G2 PT I s X f) : zk_G2 PT I s Y f ∧ X.1.2.2.2.1.length ≤ Y.1.2.2.2.1.length := by
  unfold zk_vt at hh
  split at hh
  · rename_i x y hx hy
    split at hh
    · rename_i v hv
      obtain ⟨hb, hh⟩ := zz_cond hh
      cases hh
      obtain ⟨b1, hb⟩ := zz_and hb
      obtain ⟨b0, b1⟩ := zz_and b1
      obtain ⟨b2, hb⟩ := zz_and hb
      obtain ⟨b3, hb⟩ := zz_and hb
      obtain ⟨b4, b5⟩ := zz_and hb
      obtain ⟨⟨g1, g2, g3, g4, g5, g6⟩, k1, k2⟩ := hG
      obtain ⟨⟨d1, d0⟩, d2, d3, d4⟩ := zk_vd_ok g4 g5 b2
      obtain ⟨⟨c1, c0⟩, c2, c3, c4⟩ := zk_vd_ok g4 g5 b3
      have b4 := zl_en_ok g4 g5 b4
      have b5 := zl_en_ok g4 g5 b5
      rw [zl_sub_ev] at b4
      rw [zl_sub_ev, zl_sub_ev, zl_con_ev] at b5
      obtain ⟨-, x2⟩ := k1 x (List.mem_of_getElem? hx)
      obtain ⟨-, y2⟩ := k1 y (List.mem_of_getElem? hy)
      rw [← zz_beq b0, d1, zk_xe_v d0 c2 c3 (by omega)] at y2
      rw [d1, zk_xe_v d0 d2 d3 (by omega)] at x2
      have h1 := zv_F_bd (w := f.2.2.2) (n := zl_ev s n) b1 (a := (zl_ev s e1).toNat) ((zl_ev s j).toNat - (zl_ev s e1).toNat)
      have h2 := zv_F_bd (w := f.2.2.2) (n := zl_ev s n) b1 (a := (zl_ev s j).toNat + 1) ((zl_ev s e2).toNat - ((zl_ev s j).toNat + 1))
      have h3 := zk_vv_ok (X := X) (w := f.2.2.2) g4 g5 k1 (by omega) hv
      rw [show (zl_ev s e1).toNat + ((zl_ev s j).toNat - (zl_ev s e1).toNat) = (zl_ev s j).toNat by omega, x2, Int.zero_mul] at h1
      rw [show (zl_ev s j).toNat + 1 + ((zl_ev s e2).toNat - ((zl_ev s j).toNat + 1)) = (zl_ev s e2).toNat by omega, y2, Int.zero_mul, h3] at h2
      refine ⟨⟨⟨g1, g2, g3, g4, fun c hc => ?_, g6⟩, k1, k2⟩, Nat.le_refl _⟩
      rcases List.mem_cons.mp hc with hc | hc
      · rw [hc, zl_sub_ev, zl_sub_ev]
        omega
      · exact g5 c hc
    · cases hh
  · cases hh
/-- all of them: which, numbers; sums; hints -/
def zk_vx (X : zk_St) (l : List Nat) (es : List zl_E) (hs : List (List Nat)) : Option zk_St := match l.getD 0 0 with
  | 0 => zk_v0 X (l.getD 1 0) (es.getD 0 (zl_con 0)) (hs.getD 0 [])
  | 1 => zk_vo X (l.getD 1 0) (l.getD 2 0) (es.getD 0 (zl_con 0)) (es.getD 1 (zl_con 0)) hs
  | 2 => zk_vr X (l.getD 1 0) (l.getD 2 0) (es.getD 0 (zl_con 0)) (es.getD 1 (zl_con 0)) hs
  | 3 => zk_vm X (l.getD 1 0) (l.getD 2 0) (l.getD 3 0) (l.getD 4 0) (es.getD 0 (zl_con 0)) (es.getD 1 (zl_con 0)) (es.getD 2 (zl_con 0)) hs
  | 4 => zk_vt X (l.getD 1 0) (l.getD 2 0) (l.getD 3 0) (l.getD 4 0) (es.getD 0 (zl_con 0)) (es.getD 1 (zl_con 0)) (es.getD 2 (zl_con 0)) (es.getD 3 (zl_con 0)) hs
  | _ => zk_sgx X l es
theorem zk_vx_ok {PT : Nat → zz_W → Prop} {I : zz_W → Prop} {X Y : zk_St} {l : List Nat} {es : List zl_E} {hs : List (List Nat)} (hh : zk_vx X l es hs = some Y) {s : Nat → Int} {f : zz_F} (hG : zk_G2 PT I s X f) : zk_G2 PT I s Y f ∧ X.1.2.2.2.1.length ≤ Y.1.2.2.2.1.length := by
  unfold zk_vx at hh
  split at hh
  · exact zk_v0_ok hh hG
  · exact zk_vo_ok hh hG
  · exact zk_vr_ok hh hG
  · exact zk_vm_ok hh hG
  · exact zk_vt_ok hh hG
  · exact zk_sgx_ok hh hG
end
end
section
/-! A ROW IS COPIED INTO: what stays known -/
noncomputable section
def zk_w5 (HT : List (List zk_H)) (SU : Nat → List (Nat × Nat)) (X : zk_St) (n : Nat) (o : Option zk_A) : Option (List (Nat × zk_St)) := match o with
  | some A => some [(n, (A, X.2.1.filter (fun x => (zk_rws x.1).all (fun r => !(Nat.beq r (zk_tgc X.1)))), zk_ofc SU X.2.2 (zk_tgc X.1)))]
  | none => none
theorem zk_w5_ok {c : Nat} {HT : List (List zk_H)} {M : zk_M} {w0 : zk_W0} {PT : Nat → zz_W → Prop} {SU : Nat → List (Nat × Nat)} {TS : zk_TY} (hTT : zk_TT c HT PT SU TS) {act : zz_A} {X : zk_St} {n : Nat} {o : Option zk_A} {R : List (Nat × zk_St)} (h : zk_w5 HT SU X n o = some R) (hk : ∀ A, o = some A → zk_SW c HT M w0 act n X.1 A (fun _ w w' => ∀ a, a ≠ zk_tgc X.1 → zz_g w' a = zz_g w a)) : zk_R2 PT c HT M w0 act X R := by
  obtain ⟨A0, E, Tk⟩ := X
  unfold zk_w5 at h
  split at h
  · rename_i A
    cases h
    obtain ⟨e1, e2⟩ := hk A rfl
    intro K s f hpv hG
    obtain ⟨g1, k1, k2⟩ := hG
    obtain ⟨f', m1, m2, m3, m4⟩ := e2 K s f hpv g1
    have e1 : A0.2.2.2.1 = A.2.2.2.1 := e1
    have m4 : ∀ a, a ≠ zk_tgc A0 → zz_g f'.2.2.2 a = zz_g f.2.2.2 a := m4
    have hE' : zk_eF s (E.filter (fun x => (zk_rws x.1).all (fun r => !(Nat.beq r (zk_tgc A0))))) f'.2.2.2 := by
      intro y hy
      obtain ⟨y1, y2⟩ := List.mem_filter.mp hy
      have h1 := k1 y y1
      have h2 := zk_xe_g (w := f.2.2.2) (w' := f'.2.2.2) (i := y.1) (j := zl_ev s y.2.1) (fun r hr => m4 r (zk_nbeq (List.all_eq_true.mp y2 r hr)))
      exact ⟨h1.1, h2.trans h1.2⟩
    refine ⟨s, f', (n, (A, E.filter (fun x => (zk_rws x.1).all (fun r => !(Nat.beq r (zk_tgc A0)))), zk_ofc SU Tk (zk_tgc A0))), m1, List.mem_cons_self, m2, ⟨m3, hE', fun t ht => ?_⟩, Nat.le_of_eq (congrArg List.length e1), fun _ _ => rfl⟩
    obtain ⟨t1, t3⟩ := zk_ofc_ok ht
    refine hTT.1 t f.2.2.2 f'.2.2.2 g1.2.2.2.2.2.1 m3.2.2.2.2.2.1 (fun q hq h9 => ?_) (fun q hq h9 => ?_) (k2 t t1)
    · unfold zk_fd
      rw [m4 q.1 (t3 q hq)]
    · exact m4 q.1 (t3 q hq)
  · cases h
end
end
section
/-! INSTRUCTIONS AS NUMBERS, and what each does to abstract frames, by program -/
noncomputable section
/-- number, numbers, pairs (of switches) -/
abbrev zi : Type := Nat × List Nat × List (Int × Nat)
def zi_p (ps : List Nat) (k : Nat) : Nat := ps.getD k 0
def zi_1 (n : Nat) (o : Option zk_A) : Option (List (Nat × zk_A)) := match o with
  | some A => some [(n, A)]
  | none => none
theorem zi_1_ok {I : zz_W → Prop} {act : zz_A} {n : Nat} {o : Option zk_A} {A : zk_A} {R : List (Nat × zk_A)} (h : zi_1 n o = some R) (hk : ∀ A', o = some A' → zk_S I act n A A') : zk_R I act A R := by
  unfold zi_1 at h
  split at h
  · rename_i A'
    cases h
    exact zk_S_R (hk A' rfl)
  · cases h
def zi_actF (ps : List Nat) (qs : List (Int × Nat)) : Nat → zz_A
  | 0 => za_const (.int (Int32.ofNat (zi_p ps 1))) (zi_p ps 0)
  | 1 => za_const (.long (Int64.ofNat (zi_p ps 1))) (zi_p ps 0)
  | 2 => za_const (.ref (zi_p ps 1)) (zi_p ps 0)
  | 3 => za_const .null (zi_p ps 0)
  | 4 => za_iload (zi_p ps 1) (zi_p ps 0)
  | 5 => za_lload (zi_p ps 1) (zi_p ps 0)
  | 6 => za_aload (zi_p ps 1) (zi_p ps 0)
  | 7 => za_istore (zi_p ps 1) (zi_p ps 0)
  | 8 => za_lstore (zi_p ps 1) (zi_p ps 0)
  | 9 => za_astore (zi_p ps 1) (zi_p ps 0)
  | 10 => za_iinc (zi_p ps 1) (Int32.ofNat (zi_p ps 2)) (zi_p ps 0)
  | 11 => za_iadd (zi_p ps 0)
  | 12 => za_isub (zi_p ps 0)
  | 13 => za_imul (zi_p ps 0)
  | 14 => za_iand (zi_p ps 0)
  | 15 => za_ior (zi_p ps 0)
  | 16 => za_ixor (zi_p ps 0)
  | 17 => za_ishl (zi_p ps 0)
  | 18 => za_ishr (zi_p ps 0)
  | 19 => za_iushr (zi_p ps 0)
  | 20 => za_irem (zi_p ps 0)
  | 21 => za_ineg (zi_p ps 0)
  | 22 => za_i2b (zi_p ps 0)
  | 23 => za_i2s (zi_p ps 0)
  | 24 => za_i2l (zi_p ps 0)
  | 25 => za_l2i (zi_p ps 0)
  | 26 => za_lcmp (zi_p ps 0)
  | 27 => za_ladd (zi_p ps 0)
  | 28 => za_lsub (zi_p ps 0)
  | 29 => za_lmul (zi_p ps 0)
  | 30 => za_land (zi_p ps 0)
  | 31 => za_lor (zi_p ps 0)
  | 32 => za_lxor (zi_p ps 0)
  | 33 => za_lshl (zi_p ps 0)
  | 34 => za_lshr (zi_p ps 0)
  | 35 => za_lushr (zi_p ps 0)
  | 36 => za_dup (zi_p ps 0)
  | 37 => za_pop (zi_p ps 0)
  | 38 => za_dup_x1 (zi_p ps 0)
  | 39 => za_dup2_11 (zi_p ps 0)
  | 40 => za_if_eq (zi_p ps 1) (zi_p ps 0)
  | 41 => za_if_ne (zi_p ps 1) (zi_p ps 0)
  | 42 => za_if_lt (zi_p ps 1) (zi_p ps 0)
  | 43 => za_if_ge (zi_p ps 1) (zi_p ps 0)
  | 44 => za_if_gt (zi_p ps 1) (zi_p ps 0)
  | 45 => za_if_le (zi_p ps 1) (zi_p ps 0)
  | 46 => za_icmp_eq (zi_p ps 1) (zi_p ps 0)
  | 47 => za_icmp_ne (zi_p ps 1) (zi_p ps 0)
  | 48 => za_icmp_lt (zi_p ps 1) (zi_p ps 0)
  | 49 => za_icmp_ge (zi_p ps 1) (zi_p ps 0)
  | 50 => za_icmp_gt (zi_p ps 1) (zi_p ps 0)
  | 51 => za_icmp_le (zi_p ps 1) (zi_p ps 0)
  | 52 => za_ifnull (zi_p ps 1) (zi_p ps 0)
  | 53 => za_ifnonnull (zi_p ps 1) (zi_p ps 0)
  | 54 => za_goto (zi_p ps 0)
  | 55 => za_tsw (qs.getD 0 (0, 0)).1 (qs.getD 1 (0, 0)).1 (zi_p ps 0) (ps.drop 1)
  | 56 => za_lsw (zz_lo (zi_p ps 0) qs)
  | 57 => za_getI (zi_p ps 1) (zi_p ps 2) (zi_p ps 0)
  | 58 => za_getA (zi_p ps 1) (zi_p ps 2) (zi_p ps 0)
  | 59 => za_alen (zi_p ps 1) (zi_p ps 0)
  | 60 => za_idiv (zi_p ps 0)
  | 61 => za_getL (zi_p ps 1) (zi_p ps 2) (zi_p ps 0)
  | 62 => za_aldL (zi_p ps 1) (zi_p ps 0)
  | 63 => za_aldA (zi_p ps 1) (zi_p ps 0)
  | 64 => za_aldI (zi_p ps 1) (zi_p ps 0)
  | 65 => za_putI (zi_p ps 1) (zi_p ps 2) (zi_p ps 0)
  | 66 => za_putZ (zi_p ps 1) (zi_p ps 2) (zi_p ps 0)
  | 67 => za_putA (zi_p ps 1) (zi_p ps 2) (zi_p ps 0)
  | 68 => za_astI (zi_p ps 1) (zi_p ps 0)
  | 69 => za_astZ (zi_p ps 1) (zi_p ps 0)
  | 70 => za_astB (zi_p ps 1) (zi_p ps 0)
  | 71 => za_callV (zi_p ps 1) (zi_p ps 2) (zi_p ps 3) (zi_p ps 0)
  | 72 => za_callS (zi_p ps 1) (zi_p ps 2) (zi_p ps 0)
  | 73 => za_astL (zi_p ps 1) (zi_p ps 0)
  | 74 => za_ldiv (zi_p ps 0)
  | 75 => za_lrem (zi_p ps 0)
  | 76 => za_lneg (zi_p ps 0)
  | 77 => za_kl (zz_ki zS2) (zi_p ps 0)
  | 78 => za_i2c (zi_p ps 0)
  | 79 => za_callK (zz_kg zS) (zi_p ps 1) (zi_p ps 2) (zi_p ps 0)
  | 80 => za_kf (zz_kv zS) (zi_p ps 0)
  | 81 => za_kf (zz_kc zS) (zi_p ps 0)
  | 82 => za_kn (zz_kn zS zS2) (zi_p ps 0)
  | 83 => za_kl (zz_kb zS) (zi_p ps 0)
  | 84 => za_putL (zi_p ps 1) (zi_p ps 2) (zi_p ps 0)
  | 85 => za_copyB (zi_p ps 1) (zi_p ps 0)
  | 86 => za_copyI (zi_p ps 1) (zi_p ps 0)
  | _ => fun _ _ => none
def zi_act (i : zi) : zz_A := zi_actF i.2.1 i.2.2 i.1
def zi_trF (HT : List (List zk_H)) (hs : List (List Nat)) (A : zk_A) (ps : List Nat) (qs : List (Int × Nat)) : Nat → Option (List (Nat × zk_A))
  | 0 => zi_1 (zi_p ps 0) (some (zk_push A (0, 0, zl_con (Int32.ofNat (zi_p ps 1)).toInt)))
  | 1 => zi_1 (zi_p ps 0) (some (zk_push A (1, 1, zl_con (Int64.ofNat (zi_p ps 1)).toInt)))
  | 2 => zi_1 (zi_p ps 0) (some (zk_push A (2, (zi_p ps 1), zl_con 0)))
  | 3 => zi_1 (zi_p ps 0) (some (zk_push A (3, 0, zl_con 0)))
  | 4 => zi_1 (zi_p ps 0) (zt_iload (zi_p ps 1) A)
  | 5 => zi_1 (zi_p ps 0) (zt_lload (zi_p ps 1) A)
  | 6 => zi_1 (zi_p ps 0) (zt_aload (zi_p ps 1) A)
  | 7 => zi_1 (zi_p ps 0) (zt_istore (zi_p ps 1) A)
  | 8 => zi_1 (zi_p ps 0) (zt_lstore (zi_p ps 1) A)
  | 9 => zi_1 (zi_p ps 0) (zt_astore (zi_p ps 1) A)
  | 10 => zi_1 (zi_p ps 0) (zt_iinc (zi_p ps 1) (Int32.ofNat (zi_p ps 2)).toInt A)
  | 11 => zi_1 (zi_p ps 0) (zt_2l zl_add A)
  | 12 => zi_1 (zi_p ps 0) (zt_2l zl_sub A)
  | 13 => zi_1 (zi_p ps 0) (zt_imul A)
  | 14 => zi_1 (zi_p ps 0) (zt_iand5 hs A)
  | 15 => zi_1 (zi_p ps 0) (zt_ior4 hs A)
  | 16 => zi_1 (zi_p ps 0) (zt_2b zk_top A)
  | 17 => zi_1 (zi_p ps 0) (zt_ishl2 hs A)
  | 18 => zi_1 (zi_p ps 0) (zt_ishr3 hs A)
  | 19 => zi_1 (zi_p ps 0) (zt_iushr3 hs A)
  | 20 => zi_1 (zi_p ps 0) (zt_irem4 hs A)
  | 21 => zi_1 (zi_p ps 0) (zt_1b zk_top1 A)
  | 22 => zi_1 (zi_p ps 0) (zt_i2b2 hs A)
  | 23 => zi_1 (zi_p ps 0) (zt_1b (fun _ _ => ((-32768), 32767)) A)
  | 24 => zi_1 (zi_p ps 0) (zt_i2l A)
  | 25 => zi_1 (zi_p ps 0) (zt_l2i A)
  | 26 => zt_lcmp3 (zi_p ps 0) hs A
  | 27 => zi_1 (zi_p ps 0) (zt_LLl (fun _ _ => true) zl_add A)
  | 28 => zi_1 (zi_p ps 0) (zt_LLl (fun _ _ => true) zl_sub A)
  | 29 => zi_1 (zi_p ps 0) (zt_LLl zl_pmk zl_pm A)
  | 30 => zi_1 (zi_p ps 0) (zt_land4 hs A)
  | 31 => zi_1 (zi_p ps 0) (zt_lor3 hs A)
  | 32 => zi_1 (zi_p ps 0) (zt_LL A)
  | 33 => zi_1 (zi_p ps 0) (zt_lshl3 hs A)
  | 34 => zi_1 (zi_p ps 0) (zt_lshr3 hs A)
  | 35 => zi_1 (zi_p ps 0) (zt_LI A)
  | 36 => zi_1 (zi_p ps 0) (zt_dup A)
  | 37 => zi_1 (zi_p ps 0) (zt_pop A)
  | 38 => zi_1 (zi_p ps 0) (zt_dup_x1 A)
  | 39 => zi_1 (zi_p ps 0) (zt_dup2 A)
  | 40 => zt_if (hs.getD 0 []) 0 (zi_p ps 1) (zi_p ps 0) A
  | 41 => zt_if (hs.getD 0 []) 1 (zi_p ps 1) (zi_p ps 0) A
  | 42 => zt_if (hs.getD 0 []) 2 (zi_p ps 1) (zi_p ps 0) A
  | 43 => zt_if (hs.getD 0 []) 3 (zi_p ps 1) (zi_p ps 0) A
  | 44 => zt_if (hs.getD 0 []) 4 (zi_p ps 1) (zi_p ps 0) A
  | 45 => zt_if (hs.getD 0 []) 5 (zi_p ps 1) (zi_p ps 0) A
  | 46 => zt_icmp (hs.getD 0 []) 0 (zi_p ps 1) (zi_p ps 0) A
  | 47 => zt_icmp (hs.getD 0 []) 1 (zi_p ps 1) (zi_p ps 0) A
  | 48 => zt_icmp (hs.getD 0 []) 2 (zi_p ps 1) (zi_p ps 0) A
  | 49 => zt_icmp (hs.getD 0 []) 3 (zi_p ps 1) (zi_p ps 0) A
  | 50 => zt_icmp (hs.getD 0 []) 4 (zi_p ps 1) (zi_p ps 0) A
  | 51 => zt_icmp (hs.getD 0 []) 5 (zi_p ps 1) (zi_p ps 0) A
  | 52 => zt_ifnull (zi_p ps 1) (zi_p ps 0) A
  | 53 => zt_ifnull (zi_p ps 0) (zi_p ps 1) A
  | 54 => zi_1 (zi_p ps 0) (some A)
  | 55 => zt_tsw (hs.getD 0 []) (qs.getD 0 (0, 0)).1 (qs.getD 1 (0, 0)).1 (zi_p ps 0) (ps.drop 1) A
  | 56 => zt_lsw (hs.getD 0 []) (zi_p ps 0) qs A
  | 57 => zi_1 (zi_p ps 0) (zt_getI HT (zi_p ps 1) (zi_p ps 2) A)
  | 58 => zi_1 (zi_p ps 0) (zt_getA HT (zi_p ps 1) (zi_p ps 2) A)
  | 59 => zi_1 (zi_p ps 0) (zt_alen HT (zi_p ps 1) A)
  | 60 => zi_1 (zi_p ps 0) (zt_idiv3 hs A)
  | 61 => zi_1 (zi_p ps 0) (zt_getL HT (zi_p ps 1) (zi_p ps 2) A)
  | 62 => zi_1 (zi_p ps 0) (zt_aldL HT (hs.getD 0 []) (hs.getD 1 []) (zi_p ps 1) A)
  | 63 => zt_aldA HT (hs.getD 2 []) (hs.getD 0 []) (hs.getD 1 []) (zi_p ps 1) (zi_p ps 0) A
  | _ => none
theorem zi_trF_ok {c : Nat} {HT : List (List zk_H)} {I : zz_W → Prop} (hI : ∀ w, I w → zk_I c HT w) {hs : List (List Nat)} {A : zk_A} {ps : List Nat} {qs : List (Int × Nat)} {R : List (Nat × zk_A)} : ∀ {op : Nat}, zi_trF HT hs A ps qs op = some R → zk_R I (zi_actF ps qs op) A R
  | 0, h => by
    have h : zi_1 (zi_p ps 0) (some (zk_push A (0, 0, zl_con (Int32.ofNat (zi_p ps 1)).toInt))) = some R := h
    exact zi_1_ok h (fun A' h => by cases h; exact zt_cI_ok)
  | 1, h => by
    have h : zi_1 (zi_p ps 0) (some (zk_push A (1, 1, zl_con (Int64.ofNat (zi_p ps 1)).toInt))) = some R := h
    exact zi_1_ok h (fun A' h => by cases h; exact zt_cL_ok)
  | 2, h => by
    have h : zi_1 (zi_p ps 0) (some (zk_push A (2, (zi_p ps 1), zl_con 0))) = some R := h
    exact zi_1_ok h (fun A' h => by cases h; exact zt_cR_ok)
  | 3, h => by
    have h : zi_1 (zi_p ps 0) (some (zk_push A (3, 0, zl_con 0))) = some R := h
    exact zi_1_ok h (fun A' h => by cases h; exact zt_cN_ok)
  | 4, h => by
    have h : zi_1 (zi_p ps 0) (zt_iload (zi_p ps 1) A) = some R := h
    exact zi_1_ok h (fun A' h => zt_iload_ok h)
  | 5, h => by
    have h : zi_1 (zi_p ps 0) (zt_lload (zi_p ps 1) A) = some R := h
    exact zi_1_ok h (fun A' h => zt_lload_ok h)
  | 6, h => by
    have h : zi_1 (zi_p ps 0) (zt_aload (zi_p ps 1) A) = some R := h
    exact zi_1_ok h (fun A' h => zt_aload_ok h)
  | 7, h => by
    have h : zi_1 (zi_p ps 0) (zt_istore (zi_p ps 1) A) = some R := h
    exact zi_1_ok h (fun A' h => zt_istore_ok h)
  | 8, h => by
    have h : zi_1 (zi_p ps 0) (zt_lstore (zi_p ps 1) A) = some R := h
    exact zi_1_ok h (fun A' h => zt_lstore_ok h)
  | 9, h => by
    have h : zi_1 (zi_p ps 0) (zt_astore (zi_p ps 1) A) = some R := h
    exact zi_1_ok h (fun A' h => zt_astore_ok h)
  | 10, h => by
    have h : zi_1 (zi_p ps 0) (zt_iinc (zi_p ps 1) (Int32.ofNat (zi_p ps 2)).toInt A) = some R := h
    exact zi_1_ok h (fun A' h => zt_iinc_ok h)
  | 11, h => by
    have h : zi_1 (zi_p ps 0) (zt_2l zl_add A) = some R := h
    exact zi_1_ok h (fun A' h => zt_iadd_ok h)
  | 12, h => by
    have h : zi_1 (zi_p ps 0) (zt_2l zl_sub A) = some R := h
    exact zi_1_ok h (fun A' h => zt_isub_ok h)
  | 13, h => by
    have h : zi_1 (zi_p ps 0) (zt_imul A) = some R := h
    exact zi_1_ok h (fun A' h => zt_imulC_ok h)
  | 14, h => by
    have h : zi_1 (zi_p ps 0) (zt_iand5 hs A) = some R := h
    exact zi_1_ok h (fun A' h => zt_iand5_ok h)
  | 15, h => by
    have h : zi_1 (zi_p ps 0) (zt_ior4 hs A) = some R := h
    exact zi_1_ok h (fun A' h => zt_ior4_ok h)
  | 16, h => by
    have h : zi_1 (zi_p ps 0) (zt_2b zk_top A) = some R := h
    exact zi_1_ok h (fun A' h => zt_ixor_ok h)
  | 17, h => by
    have h : zi_1 (zi_p ps 0) (zt_ishl2 hs A) = some R := h
    exact zi_1_ok h (fun A' h => zt_ishl2_ok h)
  | 18, h => by
    have h : zi_1 (zi_p ps 0) (zt_ishr3 hs A) = some R := h
    exact zi_1_ok h (fun A' h => zt_ishr3_ok h)
  | 19, h => by
    have h : zi_1 (zi_p ps 0) (zt_iushr3 hs A) = some R := h
    exact zi_1_ok h (fun A' h => zt_iushr3_ok h)
  | 20, h => by
    have h : zi_1 (zi_p ps 0) (zt_irem4 hs A) = some R := h
    exact zi_1_ok h (fun A' h => zt_irem4_ok h)
  | 21, h => by
    have h : zi_1 (zi_p ps 0) (zt_1b zk_top1 A) = some R := h
    exact zi_1_ok h (fun A' h => zt_ineg_ok h)
  | 22, h => by
    have h : zi_1 (zi_p ps 0) (zt_i2b2 hs A) = some R := h
    exact zi_1_ok h (fun A' h => zt_i2b2_ok h)
  | 23, h => by
    have h : zi_1 (zi_p ps 0) (zt_1b (fun _ _ => ((-32768), 32767)) A) = some R := h
    exact zi_1_ok h (fun A' h => zt_i2s_ok h)
  | 24, h => by
    have h : zi_1 (zi_p ps 0) (zt_i2l A) = some R := h
    exact zi_1_ok h (fun A' h => zt_i2l_ok h)
  | 25, h => by
    have h : zi_1 (zi_p ps 0) (zt_l2i A) = some R := h
    exact zi_1_ok h (fun A' h => zt_l2iV_ok h)
  | 26, h => by
    have h : zt_lcmp3 (zi_p ps 0) hs A = some R := h
    exact zt_lcmp3_ok h
  | 27, h => by
    have h : zi_1 (zi_p ps 0) (zt_LLl (fun _ _ => true) zl_add A) = some R := h
    exact zi_1_ok h (fun A' h => zt_ladd_ok h)
  | 28, h => by
    have h : zi_1 (zi_p ps 0) (zt_LLl (fun _ _ => true) zl_sub A) = some R := h
    exact zi_1_ok h (fun A' h => zt_lsub_ok h)
  | 29, h => by
    have h : zi_1 (zi_p ps 0) (zt_LLl zl_pmk zl_pm A) = some R := h
    exact zi_1_ok h (fun A' h => zt_lmul_ok h)
  | 30, h => by
    have h : zi_1 (zi_p ps 0) (zt_land4 hs A) = some R := h
    exact zi_1_ok h (fun A' h => zt_land4_ok h)
  | 31, h => by
    have h : zi_1 (zi_p ps 0) (zt_lor3 hs A) = some R := h
    exact zi_1_ok h (fun A' h => zt_lor3_ok h)
  | 32, h => by
    have h : zi_1 (zi_p ps 0) (zt_LL A) = some R := h
    exact zi_1_ok h (fun A' h => zt_lxor_ok h)
  | 33, h => by
    have h : zi_1 (zi_p ps 0) (zt_lshl3 hs A) = some R := h
    exact zi_1_ok h (fun A' h => zt_lshl3_ok h)
  | 34, h => by
    have h : zi_1 (zi_p ps 0) (zt_lshr3 hs A) = some R := h
    exact zi_1_ok h (fun A' h => zt_lshr3_ok h)
  | 35, h => by
    have h : zi_1 (zi_p ps 0) (zt_LI A) = some R := h
    exact zi_1_ok h (fun A' h => zt_lushr_ok h)
  | 36, h => by
    have h : zi_1 (zi_p ps 0) (zt_dup A) = some R := h
    exact zi_1_ok h (fun A' h => zt_dup_ok h)
  | 37, h => by
    have h : zi_1 (zi_p ps 0) (zt_pop A) = some R := h
    exact zi_1_ok h (fun A' h => zt_pop_ok h)
  | 38, h => by
    have h : zi_1 (zi_p ps 0) (zt_dup_x1 A) = some R := h
    exact zi_1_ok h (fun A' h => zt_dup_x1_ok h)
  | 39, h => by
    have h : zi_1 (zi_p ps 0) (zt_dup2 A) = some R := h
    exact zi_1_ok h (fun A' h => zt_dup2_ok h)
  | 40, h => by
    have h : zt_if (hs.getD 0 []) 0 (zi_p ps 1) (zi_p ps 0) A = some R := h
    exact zt_if_eq_ok h
  | 41, h => by
    have h : zt_if (hs.getD 0 []) 1 (zi_p ps 1) (zi_p ps 0) A = some R := h
    exact zt_if_ne_ok h
  | 42, h => by
    have h : zt_if (hs.getD 0 []) 2 (zi_p ps 1) (zi_p ps 0) A = some R := h
    exact zt_if_lt_ok h
  | 43, h => by
    have h : zt_if (hs.getD 0 []) 3 (zi_p ps 1) (zi_p ps 0) A = some R := h
    exact zt_if_ge_ok h
  | 44, h => by
    have h : zt_if (hs.getD 0 []) 4 (zi_p ps 1) (zi_p ps 0) A = some R := h
    exact zt_if_gt_ok h
  | 45, h => by
    have h : zt_if (hs.getD 0 []) 5 (zi_p ps 1) (zi_p ps 0) A = some R := h
    exact zt_if_le_ok h
  | 46, h => by
    have h : zt_icmp (hs.getD 0 []) 0 (zi_p ps 1) (zi_p ps 0) A = some R := h
    exact zt_icmp_eq_ok h
  | 47, h => by
    have h : zt_icmp (hs.getD 0 []) 1 (zi_p ps 1) (zi_p ps 0) A = some R := h
    exact zt_icmp_ne_ok h
  | 48, h => by
    have h : zt_icmp (hs.getD 0 []) 2 (zi_p ps 1) (zi_p ps 0) A = some R := h
    exact zt_icmp_lt_ok h
  | 49, h => by
    have h : zt_icmp (hs.getD 0 []) 3 (zi_p ps 1) (zi_p ps 0) A = some R := h
    exact zt_icmp_ge_ok h
  | 50, h => by
    have h : zt_icmp (hs.getD 0 []) 4 (zi_p ps 1) (zi_p ps 0) A = some R := h
    exact zt_icmp_gt_ok h
  | 51, h => by
    have h : zt_icmp (hs.getD 0 []) 5 (zi_p ps 1) (zi_p ps 0) A = some R := h
    exact zt_icmp_le_ok h
  | 52, h => by
    have h : zt_ifnull (zi_p ps 1) (zi_p ps 0) A = some R := h
    exact zt_ifnull_ok h
  | 53, h => by
    have h : zt_ifnull (zi_p ps 0) (zi_p ps 1) A = some R := h
    exact zt_ifnonnull_ok h
  | 54, h => by
    have h : zi_1 (zi_p ps 0) (some A) = some R := h
    exact zi_1_ok h (fun A' h => by cases h; exact zt_goto_ok)
  | 55, h => by
    have h : zt_tsw (hs.getD 0 []) (qs.getD 0 (0, 0)).1 (qs.getD 1 (0, 0)).1 (zi_p ps 0) (ps.drop 1) A = some R := h
    exact zt_tsw_ok h
  | 56, h => by
    have h : zt_lsw (hs.getD 0 []) (zi_p ps 0) qs A = some R := h
    exact zt_lsw_ok h
  | 57, h => by
    have h : zi_1 (zi_p ps 0) (zt_getI HT (zi_p ps 1) (zi_p ps 2) A) = some R := h
    exact zi_1_ok h (fun A' h => zt_getI_ok hI h)
  | 58, h => by
    have h : zi_1 (zi_p ps 0) (zt_getA HT (zi_p ps 1) (zi_p ps 2) A) = some R := h
    exact zi_1_ok h (fun A' h => zt_getA_ok hI h)
  | 59, h => by
    have h : zi_1 (zi_p ps 0) (zt_alen HT (zi_p ps 1) A) = some R := h
    exact zi_1_ok h (fun A' h => zt_alen_ok hI h)
  | 60, h => by
    have h : zi_1 (zi_p ps 0) (zt_idiv3 hs A) = some R := h
    exact zi_1_ok h (fun A' h => zt_idiv3_ok h)
  | 61, h => by
    have h : zi_1 (zi_p ps 0) (zt_getL HT (zi_p ps 1) (zi_p ps 2) A) = some R := h
    exact zi_1_ok h (fun A' h => zt_getL_ok hI h)
  | 62, h => by
    have h : zi_1 (zi_p ps 0) (zt_aldL HT (hs.getD 0 []) (hs.getD 1 []) (zi_p ps 1) A) = some R := h
    exact zi_1_ok h (fun A' h => zt_aldL_ok hI h)
  | 63, h => by
    have h : zt_aldA HT (hs.getD 2 []) (hs.getD 0 []) (hs.getD 1 []) (zi_p ps 1) (zi_p ps 0) A = some R := h
    exact zt_aldA_ok hI h
  | n + 64, h => by
    unfold zi_trF at h
    cases h
def zi_spF (HT : List (List zk_H)) (M : zk_M) (SU : Nat → List (Nat × Nat)) (TS : zk_TY) (hs : List (List Nat)) (cv : List zk_Cv) (X : zk_St) (ps : List Nat) : Nat → Option (List (Nat × zk_St))
  | 64 => zt_ald2 HT (hs.getD 0 []) (hs.getD 1 []) (zi_p ps 1) (zi_p ps 0) X
  | 65 => zk_w1 HT SU TS X (zi_p ps 2) (zi_p ps 0) cv (zt_putI HT M (hs.getD 0 []) (hs.getD 1 []) (zi_p ps 1) (zi_p ps 2) X.1)
  | 66 => zk_w1 HT SU TS X (zi_p ps 2) (zi_p ps 0) cv (zt_putZ HT M (hs.getD 0 []) (hs.getD 1 []) (zi_p ps 1) (zi_p ps 2) X.1)
  | 67 => zk_w1 HT SU TS X (zi_p ps 2) (zi_p ps 0) cv (zt_putA HT M (zi_p ps 1) (zi_p ps 2) X.1)
  | 68 => zk_w2 HT SU TS true X (zi_p ps 0) cv (hs.drop 4) (zt_astI HT M (hs.getD 0 []) (hs.getD 1 []) (hs.getD 2 []) (hs.getD 3 []) (zi_p ps 1) X.1)
  | 69 => zk_w2 HT SU TS true X (zi_p ps 0) cv (hs.drop 4) (zt_astZ HT M (hs.getD 0 []) (hs.getD 1 []) (hs.getD 2 []) (hs.getD 3 []) (zi_p ps 1) X.1)
  | 70 => cond (Nat.beq ((hs.getD 0 []).getD 0 0) 999999) (zk_w2 HT SU TS true X (zi_p ps 0) cv (hs.drop 7) (zt_astB2 HT M (hs.getD 1 []) (hs.getD 2 []) (hs.getD 3 []) (hs.getD 4 []) (hs.getD 5 []) (hs.getD 6 []) (zi_p ps 1) X.1)) (zk_w2 HT SU TS false X (zi_p ps 0) cv (hs.drop 2) (zt_astB HT M (hs.getD 0 []) (hs.getD 1 []) (zi_p ps 1) X.1))
  | 62 => cond (Nat.beq ((hs.getD 2 []).getD 0 0) 1) (zt_ald3 HT (hs.getD 0 []) (hs.getD 1 []) (zi_p ps 1) (zi_p ps 0) X) (zk_pu HT X (zi_1 (zi_p ps 0) (zt_aldL HT (hs.getD 0 []) (hs.getD 1 []) (zi_p ps 1) X.1)))
  | 73 => zk_w4 HT SU X (zi_p ps 0) (hs.drop 2) (zt_astL HT M (hs.getD 0 []) (hs.getD 1 []) (zi_p ps 1) X.1)
  | 74 => zk_pu HT X (zi_1 (zi_p ps 0) (zt_ldiv hs X.1))
  | 75 => zk_pu HT X (zi_1 (zi_p ps 0) (zt_lrem2 hs X.1))
  | 76 => zk_pu HT X (zi_1 (zi_p ps 0) (zt_lneg X.1))
  | 77 => zk_pu HT X (zi_1 (zi_p ps 0) (zt_kl zS2 hs X.1))
  | 78 => zk_pu HT X (zi_1 (zi_p ps 0) (zt_i2c2 hs X.1))
  | 80 => zk_pu HT X (zi_1 (zi_p ps 0) (zt_kv zS X.1))
  | 81 => zk_pu HT X (zi_1 (zi_p ps 0) (zt_kc zS X.1))
  | 82 => zk_pu HT X (zi_1 (zi_p ps 0) (zt_kn zS zS2 X.1))
  | 83 => zk_pu HT X (zi_1 (zi_p ps 0) (zt_kb zS hs X.1))
  | 84 => zk_w1 HT SU TS X (zi_p ps 2) (zi_p ps 0) cv (zt_putL HT M (zi_p ps 1) (zi_p ps 2) X.1)
  | 85 => zk_w5 HT SU X (zi_p ps 0) (cond (zk_bt HT) (zt_cpyB HT M hs (zi_p ps 1) X.1) none)
  | 86 => zk_w5 HT SU X (zi_p ps 0) (zt_cpy HT M hs (zi_p ps 1) X.1)
  | _ => none
theorem zi_spF_ok {c : Nat} {HT : List (List zk_H)} {M : zk_M} {w0 : zk_W0} {PT : Nat → zz_W → Prop} {SU : Nat → List (Nat × Nat)} {TS : zk_TY} (hTT : zk_TT c HT PT SU TS) {hs : List (List Nat)} {cv : List zk_Cv} {X : zk_St} {ps : List Nat} {qs : List (Int × Nat)} {R : List (Nat × zk_St)} {op : Nat} (h : zi_spF HT M SU TS hs cv X ps op = some R) : zk_R2 PT c HT M w0 (zi_actF ps qs op) X R := by
  unfold zi_spF at h
  split at h
  · show zk_R2 PT c HT M w0 (za_aldI (zi_p ps 1) (zi_p ps 0)) X R
    exact zt_ald2_ok h
  · show zk_R2 PT c HT M w0 (za_putI (zi_p ps 1) (zi_p ps 2) (zi_p ps 0)) X R
    exact zk_w1_ok hTT h (fun A h => zt_putI_ok h)
  · show zk_R2 PT c HT M w0 (za_putZ (zi_p ps 1) (zi_p ps 2) (zi_p ps 0)) X R
    exact zk_w1_ok hTT h (fun A h => zt_putZ_ok h)
  · show zk_R2 PT c HT M w0 (za_putA (zi_p ps 1) (zi_p ps 2) (zi_p ps 0)) X R
    exact zk_w1_ok hTT h (fun A h => zt_putA_ok h)
  · show zk_R2 PT c HT M w0 (za_astI (zi_p ps 1) (zi_p ps 0)) X R
    exact zk_w2_ok hTT h (fun A h => zt_astI_ok h)
  · show zk_R2 PT c HT M w0 (za_astZ (zi_p ps 1) (zi_p ps 0)) X R
    exact zk_w2_ok hTT h (fun A h => zt_astZ_ok h)
  · show zk_R2 PT c HT M w0 (za_astB (zi_p ps 1) (zi_p ps 0)) X R
    cases hb : Nat.beq ((hs.getD 0 []).getD 0 0) 999999 with
    | true =>
      rw [hb] at h
      exact zk_w2_ok hTT (show zk_w2 HT SU TS true X (zi_p ps 0) cv (hs.drop 7) (zt_astB2 HT M (hs.getD 1 []) (hs.getD 2 []) (hs.getD 3 []) (hs.getD 4 []) (hs.getD 5 []) (hs.getD 6 []) (zi_p ps 1) X.1) = some R from h) (fun A h => zt_astB2_ok h)
    | false =>
      rw [hb] at h
      exact zk_w2_ok hTT (show zk_w2 HT SU TS false X (zi_p ps 0) cv (hs.drop 2) (zt_astB HT M (hs.getD 0 []) (hs.getD 1 []) (zi_p ps 1) X.1) = some R from h) (fun A h => zt_astB_ok h)
  · show zk_R2 PT c HT M w0 (za_aldL (zi_p ps 1) (zi_p ps 0)) X R
    cases hb : Nat.beq ((hs.getD 2 []).getD 0 0) 1 with
    | true =>
      rw [hb] at h
      exact zt_ald3_ok (show zt_ald3 HT (hs.getD 0 []) (hs.getD 1 []) (zi_p ps 1) (zi_p ps 0) X = some R from h)
    | false =>
      rw [hb] at h
      exact zk_pu_ok (show zk_pu HT X (zi_1 (zi_p ps 0) (zt_aldL HT (hs.getD 0 []) (hs.getD 1 []) (zi_p ps 1) X.1)) = some R from h) (fun I hI R' hR => zi_1_ok hR (fun A' h => zt_aldL_ok hI h))
  · show zk_R2 PT c HT M w0 (za_astL (zi_p ps 1) (zi_p ps 0)) X R
    exact zk_w4_ok hTT h (fun A h => zt_astL_ok h)
  · show zk_R2 PT c HT M w0 (za_ldiv (zi_p ps 0)) X R
    exact zk_pu_ok h (fun I hI R' hR => zi_1_ok hR (fun A' h => zt_ldiv_ok h))
  · show zk_R2 PT c HT M w0 (za_lrem (zi_p ps 0)) X R
    exact zk_pu_ok h (fun I hI R' hR => zi_1_ok hR (fun A' h => zt_lrem2_ok h))
  · show zk_R2 PT c HT M w0 (za_lneg (zi_p ps 0)) X R
    exact zk_pu_ok h (fun I hI R' hR => zi_1_ok hR (fun A' h => zt_lneg_ok h))
  · show zk_R2 PT c HT M w0 (za_kl (zz_ki zS2) (zi_p ps 0)) X R
    exact zk_pu_ok h (fun I hI R' hR => zi_1_ok hR (fun A' h => zt_kl_ok h))
  · show zk_R2 PT c HT M w0 (za_i2c (zi_p ps 0)) X R
    exact zk_pu_ok h (fun I hI R' hR => zi_1_ok hR (fun A' h => zt_i2c2_ok h))
  · show zk_R2 PT c HT M w0 (za_kf (zz_kv zS) (zi_p ps 0)) X R
    exact zk_pu_ok h (fun I hI R' hR => zi_1_ok hR (fun A' h => zt_kv_ok h))
  · show zk_R2 PT c HT M w0 (za_kf (zz_kc zS) (zi_p ps 0)) X R
    exact zk_pu_ok h (fun I hI R' hR => zi_1_ok hR (fun A' h => zt_kc_ok h))
  · show zk_R2 PT c HT M w0 (za_kn (zz_kn zS zS2) (zi_p ps 0)) X R
    exact zk_pu_ok h (fun I hI R' hR => zi_1_ok hR (fun A' h => zt_kn_ok h))
  · show zk_R2 PT c HT M w0 (za_kl (zz_kb zS) (zi_p ps 0)) X R
    exact zk_pu_ok h (fun I hI R' hR => zi_1_ok hR (fun A' h => zt_kb_ok h))
  · show zk_R2 PT c HT M w0 (za_putL (zi_p ps 1) (zi_p ps 2) (zi_p ps 0)) X R
    exact zk_w1_ok hTT h (fun A h => zt_putL_ok h)
  · show zk_R2 PT c HT M w0 (za_copyB (zi_p ps 1) (zi_p ps 0)) X R
    exact zk_w5_ok hTT h (fun A h => zt_copyB_ok h)
  · show zk_R2 PT c HT M w0 (za_copyI (zi_p ps 1) (zi_p ps 0)) X R
    exact zk_w5_ok hTT h (fun A h => zt_copyI_ok h)
  · cases h
/-- one instruction that is no call -/
theorem zn_F_ok {c : Nat} {HT : List (List zk_H)} {M : zk_M} {w0 : zk_W0} {PT : Nat → zz_W → Prop} {X : zk_St} {R : List (Nat × zk_St)} {ps : List Nat} {qs : List (Int × Nat)} {op : Nat} (h : zn_F HT X (zi_p ps 0) (zi_p ps 1) op = some R) : zk_R2 PT c HT M w0 (zi_actF ps qs op) X R := by
  unfold zn_F at h
  split at h
  · exact zn_L_ok (i := zi_p ps 1) h
  · rename_i e2 e1 T hT
    exact zn_X_ok h (by decide) (zn_LL (act := za_lmul (zi_p ps 0)) (g := fun x y => x * y) hT (fun K p lv x y r w => ze_lmul rfl) (zn_g2 (fun x y => rfl)))
  · rename_i e2 e1 T hT
    exact zn_X_ok h (by decide) (zn_LL (act := za_ladd (zi_p ps 0)) (g := fun x y => x + y) hT (fun K p lv x y r w => ze_ladd rfl) (zn_g2 (fun x y => rfl)))
  · rename_i e2 e1 T hT
    exact zn_X_ok h (by decide) (zn_LL (act := za_lxor (zi_p ps 0)) (g := fun x y => x ^^^ y) hT (fun K p lv x y r w => ze_lxor rfl) (zn_g2 (fun x y => rfl)))
  · rename_i e2 e1 T hT
    exact zn_X_ok h (by decide) (zn_LL (act := za_lor (zi_p ps 0)) (g := fun x y => x ||| y) hT (fun K p lv x y r w => ze_lor rfl) (zn_g2 (fun x y => rfl)))
  · rename_i e2 e1 T hT
    exact zn_X_ok h (by decide) (zn_LL (act := za_land (zi_p ps 0)) (g := fun x y => x &&& y) hT (fun K p lv x y r w => ze_land rfl) (zn_g2 (fun x y => rfl)))
  · rename_i k2 e2 e1 T hT
    exact zn_X_ok h (by decide) (zn_LI (act := za_lshl (zi_p ps 0)) (g := fun x y => x <<< (y.toInt64 &&& 63)) hT (fun K p lv x y r w => ze_lshl rfl) (zn_gi (fun x y => rfl)))
  · rename_i k2 e2 e1 T hT
    exact zn_X_ok h (by decide) (zn_LI (act := za_lshr (zi_p ps 0)) (g := fun x y => x >>> (y.toInt64 &&& 63)) hT (fun K p lv x y r w => ze_lshr rfl) (zn_gi (fun x y => rfl)))
  · rename_i e1 T hT
    exact zn_X_ok h (by decide) (zn_L2I (n := zi_p ps 0) hT)
  · rename_i k2 e2 k1 e1 T hT
    exact zn_X_ok h (by decide) (zn_IA (n := zi_p ps 0) hT)
  · cases h
def zi_st (HT : List (List zk_H)) (M : zk_M) (SU : Nat → List (Nat × Nat)) (TS : zk_TY) (hs : List (List Nat)) (cv : List zk_Cv) (i : zi) (X : zk_St) : Option (List (Nat × zk_St)) := cond (Nat.blt i.1 64 && !(Nat.beq i.1 62)) (cond (Nat.beq ((hs.getD 0 []).getD 0 0) 8181) (zn_F HT X (zi_p i.2.1 0) (zi_p i.2.1 1) i.1) (zk_pu HT X (zi_trF HT hs X.1 i.2.1 i.2.2 i.1))) (zi_spF HT M SU TS hs cv X i.2.1 i.1)
theorem zi_st_ok {c : Nat} {HT : List (List zk_H)} {M : zk_M} {w0 : zk_W0} {PT : Nat → zz_W → Prop} {SU : Nat → List (Nat × Nat)} {TS : zk_TY} (hTT : zk_TT c HT PT SU TS) {hs : List (List Nat)} {cv : List zk_Cv} {i : zi} {X : zk_St} {R : List (Nat × zk_St)} (h : zi_st HT M SU TS hs cv i X = some R) : zk_R2 PT c HT M w0 (zi_act i) X R := by
  unfold zi_st at h
  cases hb : (Nat.blt i.1 64 && !(Nat.beq i.1 62)) with
  | true =>
    rw [hb] at h
    have h : cond (Nat.beq ((hs.getD 0 []).getD 0 0) 8181) (zn_F HT X (zi_p i.2.1 0) (zi_p i.2.1 1) i.1) (zk_pu HT X (zi_trF HT hs X.1 i.2.1 i.2.2 i.1)) = some R := h
    cases hn : Nat.beq ((hs.getD 0 []).getD 0 0) 8181 with
    | true =>
      rw [hn] at h
      exact zn_F_ok h
    | false =>
      rw [hn] at h
      exact zk_pu_ok h (fun I hI R' hR => zi_trF_ok hI hR)
  | false =>
    rw [hb] at h
    exact zi_spF_ok hTT h
/-- a method's table as numbers: from 200 on returns; 999 nothing -/
def zi_e (i : zi) : Nat × zz_A := cond (Nat.blt i.1 87) (0, zi_act i) (cond (Nat.blt 200 i.1 && Nat.blt i.1 208) (i.1 - 200, fun _ _ => none) zz_en0)
def zi_T (code : List (List zi)) : zz_T := code.map (fun l => l.map zi_e)
def zi_n : zi := (999, [], [])
def zi_at (code : List (List zi)) (pc : Nat) : zi := (code.getD (pc / 16) []).getD (pc % 16) zi_n
theorem zi_ent (code : List (List zi)) (pc : Nat) : zz_ent (zi_T code) pc = zi_e (zi_at code pc) := by
  unfold zz_ent zi_T zi_at
  rw [List.getD_eq_getElem?_getD, List.getD_eq_getElem?_getD, List.getD_eq_getElem?_getD, List.getD_eq_getElem?_getD, List.getElem?_map]
  cases code[pc / 16]? with
  | none => rfl
  | some l =>
    show ((l.map zi_e)[pc % 16]?).getD zz_en0 = zi_e ((l[pc % 16]?).getD zi_n)
    rw [List.getElem?_map]
    cases l[pc % 16]? with
    | none => rfl
    | some i => rfl
end
end
section
/-! THE CHECK OF A METHOD: cut frames, roads between them that the kernel goes, a number that gets less; then the method keeps its contract -/
noncomputable section
theorem zk_st_len {s : Nat → Int} : ∀ {T : List zk_V} {st : List Value}, zk_st s T st → st.length = T.length
  | [], [], _ => rfl
  | [], _ :: _, h => h.elim
  | _ :: _, [], h => h.elim
  | a :: T, v :: st, h => by
    rw [List.length_cons, List.length_cons, zk_st_len h.2]
theorem zk_st_split {s : Nat → Int} : ∀ {A B : List zk_V} {st : List Value}, zk_st s (A ++ B) st → ∃ x y, st = x ++ y ∧ zk_st s A x ∧ zk_st s B y
  | [], B, st, h => ⟨[], st, rfl, trivial, h⟩
  | a :: A, B, [], h => h.elim
  | a :: A, B, v :: st, h => by
    obtain ⟨x, y, e, h1, h2⟩ := zk_st_split (A := A) h.2
    exact ⟨v :: x, y, by rw [e]; rfl, ⟨h.1, h1⟩, h2⟩
theorem zk_st_rev {s : Nat → Int} : ∀ {A : List zk_V} {st : List Value}, zk_st s A st → zk_st s A.reverse st.reverse
  | [], [], _ => trivial
  | [], _ :: _, h => h.elim
  | _ :: _, [], h => h.elim
  | a :: A, v :: st, h => by
    rw [List.reverse_cons, List.reverse_cons]
    exact zk_st_app (zk_st_rev h.2) ⟨h.1, trivial⟩
/-- a return's kind fits the operands -/
def zk_ret (A : zk_A) (hs : List (List Nat)) (k : Nat) : Bool := match k, A.2.1 with
  | 1, [] => true
  | 2, [(0, _, _)] => true
  | 3, [(0, _, e)] => zl_en A.2.2.2.1 A.2.2.2.2 (hs.getD 1 []) e && zl_en A.2.2.2.1 A.2.2.2.2 (hs.getD 2 []) (zl_sub (zl_con 1) e)
  | 4, [(1, _, _)] => true
  | 5, [(2, _, _)] => true
  | 5, [(3, _, _)] => true
  | 6, [(0, _, e)] => zl_en A.2.2.2.1 A.2.2.2.2 (hs.getD 1 []) e && zl_en A.2.2.2.1 A.2.2.2.2 (hs.getD 2 []) (zl_sub (zl_con 65535) e)
  | 7, [(0, _, e)] => zl_en A.2.2.2.1 A.2.2.2.2 (hs.getD 1 []) e && zl_en A.2.2.2.1 A.2.2.2.2 (hs.getD 2 []) (zl_sub (zl_con 127) e)
  | _, _ => false
theorem zk_ret_ok {I : zz_W → Prop} {A : zk_A} {hs : List (List Nat)} {k : Nat} {T : zz_T} {s : Nat → Int} {f : zz_F} (h : zk_ret A hs k = true) (hk : (zz_ent T f.1).1 = k) (hG : zk_G I s A f) : zz_rt T f = some (f.2.2.1, f.2.2.2) := by
  obtain ⟨L, T0, F, B, C⟩ := A
  obtain ⟨p, lv, st, w⟩ := f
  obtain ⟨g1, g2, g3, g4, g5, g6⟩ := hG
  change zk_st s T0 st at g2
  change (zz_ent T p).1 = k at hk
  unfold zk_ret at h
  split at h
  · rename_i hT
    have hT : T0 = [] := hT
    subst hT
    cases st with
    | nil =>
      unfold zz_rt
      rw [show (zz_ent T ((p, lv, [], w) : zz_F).1).1 = 1 from hk]
      rfl
    | cons _ _ => exact g2.elim
  · rename_i d e hT
    have hT : T0 = [(0, d, e)] := hT
    subst hT
    obtain ⟨x, r, q1, -, q3⟩ := zk_st_int g2 rfl
    subst q1
    cases r with
    | nil =>
      unfold zz_rt
      rw [show (zz_ent T ((p, lv, [Value.int x], w) : zz_F).1).1 = 2 from hk]
      rfl
    | cons _ _ => exact q3.elim
  · rename_i d e hT
    have hT : T0 = [(0, d, e)] := hT
    subst hT
    obtain ⟨x, r, q1, q2, q3⟩ := zk_st_int g2 rfl
    subst q1
    obtain ⟨b1, b2⟩ := zz_and h
    have c1 := zl_en_ok g4 g5 b1
    have c2 := zl_en_ok g4 g5 b2
    rw [zl_sub_ev, zl_con_ev] at c2
    have q2 : x.toInt = zl_ev s e := q2
    have hn := zk_nI (x := x) (by omega)
    have hb : Nat.blt (zz_nI x) 2 = true := Nat.ble_eq.mpr (by omega)
    cases r with
    | nil =>
      unfold zz_rt
      rw [show (zz_ent T ((p, lv, [Value.int x], w) : zz_F).1).1 = 3 from hk]
      show cond (Nat.blt (zz_nI x) 2) (some ([Value.int x], w)) none = _
      rw [hb]
      rfl
    | cons _ _ => exact q3.elim
  · rename_i d e hT
    have hT : T0 = [(1, d, e)] := hT
    subst hT
    obtain ⟨x, r, q1, q3⟩ := zk_st_long g2 rfl
    subst q1
    cases r with
    | nil =>
      unfold zz_rt
      rw [show (zz_ent T ((p, lv, [Value.long x], w) : zz_F).1).1 = 4 from hk]
      rfl
    | cons _ _ => exact q3.elim
  · rename_i d e hT
    have hT : T0 = [(2, d, e)] := hT
    subst hT
    obtain ⟨v, r, q1, q2, q3⟩ := zk_st_cons g2
    have e3 : v = .ref d := q2.2.2.1 rfl
    subst e3
    subst q1
    cases r with
    | nil =>
      unfold zz_rt
      rw [show (zz_ent T ((p, lv, [Value.ref d], w) : zz_F).1).1 = 5 from hk]
      rfl
    | cons _ _ => exact q3.elim
  · rename_i d e hT
    have hT : T0 = [(3, d, e)] := hT
    subst hT
    obtain ⟨v, r, q1, q2, q3⟩ := zk_st_cons g2
    have e3 : v = .null := q2.2.2.2 rfl
    subst e3
    subst q1
    cases r with
    | nil =>
      unfold zz_rt
      rw [show (zz_ent T ((p, lv, [Value.null], w) : zz_F).1).1 = 5 from hk]
      rfl
    | cons _ _ => exact q3.elim
  · rename_i d e hT
    have hT : T0 = [(0, d, e)] := hT
    subst hT
    obtain ⟨x, r, q1, q2, q3⟩ := zk_st_int g2 rfl
    subst q1
    obtain ⟨b1, b2⟩ := zz_and h
    have c1 := zl_en_ok g4 g5 b1
    have c2 := zl_en_ok g4 g5 b2
    rw [zl_sub_ev, zl_con_ev] at c2
    have q2 : x.toInt = zl_ev s e := q2
    have hn := zk_nI (x := x) (by omega)
    have hb : Nat.blt (zz_nI x) 65536 = true := Nat.ble_eq.mpr (by omega)
    cases r with
    | nil =>
      unfold zz_rt
      rw [show (zz_ent T ((p, lv, [Value.int x], w) : zz_F).1).1 = 6 from hk]
      show cond (Nat.blt (zz_nI x) 65536) (some ([Value.int x], w)) none = _
      rw [hb]
      rfl
    | cons _ _ => exact q3.elim
  · rename_i d e hT
    have hT : T0 = [(0, d, e)] := hT
    subst hT
    obtain ⟨x, r, q1, q2, q3⟩ := zk_st_int g2 rfl
    subst q1
    obtain ⟨b1, b2⟩ := zz_and h
    have c1 := zl_en_ok g4 g5 b1
    have c2 := zl_en_ok g4 g5 b2
    rw [zl_sub_ev, zl_con_ev] at c2
    have q2 : x.toInt = zl_ev s e := q2
    have hn := zk_nI (x := x) (by omega)
    have hb : Nat.blt (zz_nI x) 128 = true := Nat.ble_eq.mpr (by omega)
    cases r with
    | nil =>
      unfold zz_rt
      rw [show (zz_ent T ((p, lv, [Value.int x], w) : zz_F).1).1 = 7 from hk]
      show cond (Nat.blt (zz_nI x) 128) (some ([Value.int x], w)) none = _
      rw [hb]
      rfl
    | cons _ _ => exact q3.elim
  · cases h
/-- hints of one place: what is done (0: go on; 1: a token is told; 2: a sum's sign; 3: a field is followed; 4: closer bounds; 5: a sum is rounded; 6: it can't be; 7: an element is known; 8: a cut frame is passed by), of the instruction, of an edge, of tokens -/
abbrev zk_Hn : Type := Nat × List (List Nat) × zk_Eh × List zk_Cv
/-- cut frames: place, state, the number that gets less -/
abbrev zk_Cu : Type := Nat × zk_St × zl_E
def zk_cut (cs : List zk_Cu) (pc n : Nat) : Option zk_Cu := match cs with
  | [] => none
  | q :: r => cond (Nat.beq q.1 pc) (cond (Nat.beq n 0) (some q) (zk_cut r pc (n - 1))) (zk_cut r pc n)
theorem zk_cut_mem {pc : Nat} {q : zk_Cu} : ∀ {cs : List zk_Cu} {n : Nat}, zk_cut cs pc n = some q → q ∈ cs ∧ q.1 = pc
  | [], _, h => by cases h
  | c :: r, n, h => by
    unfold zk_cut at h
    cases hb : Nat.beq c.1 pc with
    | true =>
      rw [hb] at h
      cases hn : Nat.beq n 0 with
      | true =>
        rw [hn] at h
        cases h
        exact ⟨List.mem_cons_self, zz_beq hb⟩
      | false =>
        rw [hn] at h
        obtain ⟨h1, h2⟩ := zk_cut_mem (show zk_cut r pc (n - 1) = some q from h)
        exact ⟨List.mem_cons_of_mem _ h1, h2⟩
    | false =>
      rw [hb] at h
      obtain ⟨h1, h2⟩ := zk_cut_mem (show zk_cut r pc n = some q from h)
      exact ⟨List.mem_cons_of_mem _ h1, h2⟩
/-- a contract: before, behind (one of these), the fields and rows that may change, the least depth -/
abbrev zk_Ct : Type := zk_St × List zk_St × zk_M × Nat
/-- the least depth: a number; from 1000000 on (k + 1) * 1000000 + m: m and 20 times symbol k -/
def zk_dep (n : Nat) : zl_E := cond (Nat.blt n 1000000) (zl_con (n : Int)) (zl_add (zl_con ((n % 1000000 : Nat) : Int)) (zl_mul 20 (zl_sym (n / 1000000 - 1))))
theorem zk_dep_n {n : Nat} (h : Nat.blt n 1000000 = true) : zk_dep n = zl_con (n : Int) := by
  unfold zk_dep
  rw [h]
  rfl
/-- the depth of what is called, t: its symbols, is at most dm's -/
def zk_dok (B : List (Int × Int)) (t : List zl_E) (n dm : Nat) : Bool := cond (Nat.blt n 1000000 && Nat.blt dm 1000000) (Nat.ble n dm) (Nat.ble (zl_mx (zk_dep n).2) t.length && zl_pos B (zl_sub (zk_dep dm) (zl_subst t (zk_dep n))))
theorem zk_dok_ok {s : Nat → Int} {B : List (Int × Int)} {t : List zl_E} {n dm : Nat} (h : zk_dok B t n dm = true) (hB : zl_in s B) : zl_ev (zk_u s t) (zk_dep n) ≤ zl_ev s (zk_dep dm) := by
  unfold zk_dok at h
  cases hb : (Nat.blt n 1000000 && Nat.blt dm 1000000) with
  | true =>
    rw [hb] at h
    obtain ⟨b1, b2⟩ := zz_and hb
    rw [zk_dep_n b1, zk_dep_n b2, zl_con_ev, zl_con_ev]
    have := zz_ble (show Nat.ble n dm = true from h)
    omega
  | false =>
    rw [hb] at h
    obtain ⟨b1, b2⟩ := zz_and (show (Nat.ble (zl_mx (zk_dep n).2) t.length && zl_pos B (zl_sub (zk_dep dm) (zl_subst t (zk_dep n)))) = true from h)
    have h1 := zl_pos_ok hB b2
    rw [zl_sub_ev, zl_subst_ev (u := zk_u s t) (zz_ble b1) zk_u_at] at h1
    omega
/-- what a callee lets change may change here; t: its symbols -/
def zk_pc (M : zk_M) (B : List (Int × Int)) (C : List zl_E) (t : List zl_E) (i : Nat) (p : Nat × zl_E) : Bool := Nat.ble (zl_mx p.2.2) t.length && ((!(Nat.beq p.1 i) || M.2.any (fun m => (Nat.beq m.1 i && zl_nul (zl_sub m.2 (zl_subst t p.2))) || (Nat.beq m.1 (i + 10000000) && zl_gq B C (zl_sub (zl_subst t p.2) m.2)))) && (!(Nat.beq p.1 (i + 10000000)) || M.2.any (fun m => Nat.beq m.1 (i + 10000000) && zl_gq B C (zl_sub (zl_subst t p.2) m.2))))
def zk_sbc (M N : zk_M) (B : List (Int × Int)) (C : List zl_E) (t : List zl_E) : Bool := N.1.all (fun x => cond (Nat.beq x.2 998) (zk_inM M.1 x.1 999 || (zk_inM M.1 x.1 998 && N.2.all (fun p => zk_pc M B C t x.1 p))) (zk_inM M.1 x.1 x.2))
theorem zk_sbc_ok {M N : zk_M} {B : List (Int × Int)} {C : List zl_E} {t : List zl_E} {s : Nat → Int} {V : List (Nat × Int)} (h : zk_sbc M N B C t = true) (hB : zl_in s B) (hC : ∀ c ∈ C, 0 ≤ zl_ev s c) (hpv : zk_pv s M.2 V) : zk_sub M N V (N.2.map (fun p => (p.1, zl_ev (zk_u s t) p.2))) := by
  refine ⟨fun q hq h8 => ?_, fun i hi => ?_⟩
  · have h1 := List.all_eq_true.mp h q hq
    have hb : Nat.beq q.2 998 = false := by
      cases hb : Nat.beq q.2 998 with
      | false => rfl
      | true => exact absurd (zz_beq hb) h8
    rw [hb] at h1
    exact zk_inM_ok h1
  · have h1 := List.all_eq_true.mp h (i, 998) hi
    have h1 : (zk_inM M.1 i 999 || (zk_inM M.1 i 998 && N.2.all (fun p => zk_pc M B C t i p))) = true := h1
    rcases Bool.or_eq_true_iff.mp h1 with h2 | h2
    · exact Or.inl (zk_inM_ok h2)
    · obtain ⟨b1, b2⟩ := zz_and h2
      refine Or.inr ⟨zk_inM_ok b1, fun m hm => ⟨fun hin => ?_, fun y hin => ?_⟩⟩
      · obtain ⟨p, p1, p2⟩ := List.mem_map.mp hin
        have e1 : p.1 = i := congrArg Prod.fst p2
        have e2 : zl_ev (zk_u s t) p.2 = m := congrArg Prod.snd p2
        obtain ⟨c1, c2⟩ := zz_and (List.all_eq_true.mp b2 p p1)
        obtain ⟨c2, -⟩ := zz_and c2
        rcases Bool.or_eq_true_iff.mp c2 with h3 | h3
        · exact zk_nbq h3 e1
        · obtain ⟨x, x1, x2⟩ := List.any_eq_true.mp h3
          have h5 := hpv x x1
          rcases Bool.or_eq_true_iff.mp x2 with x2 | x2
          · obtain ⟨d1, d2⟩ := zz_and x2
            have h4 := zl_nul_ok (s := s) d2
            rw [zl_sub_ev, zl_subst_ev (u := zk_u s t) (zz_ble c1) zk_u_at, e2] at h4
            rw [zz_beq d1, show zl_ev s x.2 = m by omega] at h5
            exact hm.1 h5
          · obtain ⟨d1, d2⟩ := zz_and x2
            have h4 := zl_gq_ok hB hC d2
            rw [zl_sub_ev, zl_subst_ev (u := zk_u s t) (zz_ble c1) zk_u_at, e2] at h4
            rw [zz_beq d1] at h5
            have := hm.2 _ h5
            omega
      · obtain ⟨p, p1, p2⟩ := List.mem_map.mp hin
        have e1 : p.1 = i + 10000000 := congrArg Prod.fst p2
        have e2 : zl_ev (zk_u s t) p.2 = y := congrArg Prod.snd p2
        obtain ⟨c1, c2⟩ := zz_and (List.all_eq_true.mp b2 p p1)
        obtain ⟨-, c2⟩ := zz_and c2
        rcases Bool.or_eq_true_iff.mp c2 with h3 | h3
        · exact absurd e1 (zk_nbq h3)
        · obtain ⟨x, x1, x2⟩ := List.any_eq_true.mp h3
          have h5 := hpv x x1
          obtain ⟨d1, d2⟩ := zz_and x2
          have h4 := zl_gq_ok hB hC d2
          rw [zl_sub_ev, zl_subst_ev (u := zk_u s t) (zz_ble c1) zk_u_at, e2] at h4
          rw [zz_beq d1] at h5
          have := hm.2 _ h5
          omega
/-- a call: what comes in fits the contract; what goes out -/
def zk_cok (HT : List (List zk_H)) (TS : zk_TY) (M : zk_M) (X : zk_St) (as R : List zk_V) (q : zk_Ct) (dm : Nat) (h : zk_Eh) (cv : List zk_Cv) : Bool :=
  zk_edg2 HT TS (([], as, X.1.2.2.1, X.1.2.2.2.1, X.1.2.2.2.2), X.2.1, X.2.2) q.1 h cv && (zk_dok X.1.2.2.2.1 h.1 q.2.2.2 dm && (zk_sbc M q.2.2.1 X.1.2.2.2.1 X.1.2.2.2.2 h.1 && (zk_wf X.1.2.2.2.1.length X.1.1 R X.1.2.2.1 X.1.2.2.2.2 && (h.1.all (fun e => Nat.ble (zl_mx e.2) X.1.2.2.2.1.length) && (X.1.2.2.1.all (fun x => Nat.beq (zk_h HT x.1.1).1 3 && Nat.blt x.1.2 998) && (Nat.ble (zk_cz R) 8 && (zk_t3 R && (zk_eW HT X.1.2.2.2.1.length X.2.1 && q.2.1.all (fun Q => zk_wq Q.1 && (zk_eW HT Q.1.2.2.2.1.length Q.2.1 && Nat.ble q.1.1.2.2.2.1.length Q.1.2.2.2.1.length))))))))))
/-- one of its sums is a number below 0: there is no such frame -/
def zk_fal (A : zk_A) : Bool := A.2.2.2.2.any (fun e => match zl_c e with
  | some v => decide (v < 0)
  | none => false)
theorem zk_fal_ok {I : zz_W → Prop} {s : Nat → Int} {A : zk_A} {f : zz_F} (h : zk_G I s A f) : zk_fal A = false := by
  cases hb : zk_fal A with
  | false => rfl
  | true =>
    obtain ⟨e, e1, e2⟩ := List.any_eq_true.mp hb
    have h5 := h.2.2.2.2.1 e e1
    split at e2
    · rename_i v hv
      have h6 : v < 0 := of_decide_eq_true e2
      rw [zl_c_ok hv] at h5
      omega
    · cases e2
/-- what the tokens speak of is left -/
def zk_lft (HT : List (List zk_H)) (N L : List (Nat × Nat)) : Bool := L.all (fun q => !(zk_inM N q.1 q.2) && cond (Nat.beq q.2 999) (Nat.blt (zk_h HT q.1).1 3 && !(zk_inM N q.1 998)) (Nat.beq (zk_h HT q.1).1 3 && Nat.blt q.2 998))
def zk_out2 (HT : List (List zk_H)) (SU : Nat → List (Nat × Nat)) (X : zk_St) (R : List zk_V) (t : List zl_E) (m : Nat) (N : zk_M) (Q : zk_St) : zk_St :=
  let t' := t ++ zk_syms X.1.2.2.2.1.length (Q.1.2.2.2.1.length - m)
  (zk_out X.1 R t m N Q.1, X.2.1.filter (fun x => (zk_rws x.1).all (fun r => !(zk_inM N.1 r 999) && !(zk_inM N.1 r 998)) || zk_kep N X.1.2.2.2.1 X.1.2.2.2.2 t x) ++ Q.2.1.map (fun x => (x.1, zl_subst t' x.2.1, zl_subst t' x.2.2)), X.2.2.filter (fun k => zk_lft HT N.1 (SU k)) ++ Q.2.2)
theorem zk_ninM {M : List (Nat × Nat)} {i k : Nat} (h : (!(zk_inM M i k)) = true) : (i, k) ∉ M := by
  intro hin
  rw [zk_inM_mem hin] at h
  cases h
theorem zk_lft_ok {c : Nat} {HT : List (List zk_H)} {PT : Nat → zz_W → Prop} {SU : Nat → List (Nat × Nat)} {TS : zk_TY} (hTT : zk_TT c HT PT SU TS) {N : zk_M} {k : Nat} {w w' : zz_W} {V : List (Nat × Int)} (h : zk_lft HT N.1 (SU k) = true) (hI : zk_I c HT w) (hJ : zk_J c HT N (w, V) w') (hP : PT k w) : PT k w' := by
  refine hTT.1 k w w' hI hJ.1 (fun q hq h9 => ?_) (fun q hq h9 => ?_) hP
  · obtain ⟨b1, b2⟩ := zz_and (List.all_eq_true.mp h q hq)
    have hb : Nat.beq q.2 999 = false := by
      cases hb : Nat.beq q.2 999 with
      | false => rfl
      | true => exact absurd (zz_beq hb) h9
    rw [hb] at b2
    obtain ⟨b2, b4⟩ := zz_and (show (Nat.beq (zk_h HT q.1).1 3 && Nat.blt q.2 998) = true from b2)
    have h3 : (zk_h HT q.1).1 = 3 := zz_beq b2
    obtain ⟨o1, o2, -⟩ := hI.2.2.2 q.1 (by omega)
    exact hJ.2.1.1 q.1 q.2 (zz_blt b4) (zk_ninM b1) o1 (by rw [o2]; exact h3)
  · obtain ⟨b1, b2⟩ := zz_and (List.all_eq_true.mp h q hq)
    rw [h9] at b1 b2
    obtain ⟨b2, b4⟩ := zz_and (show (Nat.blt (zk_h HT q.1).1 3 && !(zk_inM N.1 q.1 998)) = true from b2)
    have h3 : (zk_h HT q.1).1 < 3 := zz_blt b2
    obtain ⟨o1, o2, -⟩ := hI.2.2.2 q.1 (by omega)
    exact (hJ.2.1.2 q.1 (zk_ninM b1) o1 (by rw [o2]; omega)).1 (zk_ninM b4)
def zk_cal (HT : List (List zk_H)) (SU : Nat → List (Nat × Nat)) (TS : zk_TY) (M : zk_M) (X : zk_St) (as R : List zk_V) (q : zk_Ct) (dm n : Nat) (h : zk_Eh) (cv : List zk_Cv) : Option (List (Nat × zk_St)) :=
  cond (zk_cok HT TS M X as R q dm h cv) (some ((q.2.1.map (fun Q => (n, zk_out2 HT SU X R h.1 q.1.1.2.2.2.1.length q.2.2.1 Q))).filter (fun x => !(zk_fal x.2.1)))) none
/-- which contract of the method y: y + 1000 j -/
def zk_yj (y : Nat) (h : List (List Nat)) : Nat := y + 1000 * ((h.getD 0 []).getD 0 0)
theorem zk_yj_ok {y : Nat} {h : List (List Nat)} (hy : Nat.blt y 1000 = true) : zk_yj y h % 1000 = y := by
  have := zz_blt hy
  unfold zk_yj
  omega
def zk_stp (HT : List (List zk_H)) (M : zk_M) (SU : Nat → List (Nat × Nat)) (TS : zk_TY) (CT : Nat → Option zk_Ct) (dm : Nat) (i : zi) (X : zk_St) (h : zk_Hn) : Option (List (Nat × zk_St)) :=
  cond (Nat.beq i.1 /-CV-/71) (match X.1.2.1.drop (zi_p i.2.1 3), CT (zk_yj (zi_p i.2.1 2) h.2.1) with
    | (2, b, e) :: R, some q => cond (Nat.beq (X.1.2.1.take (zi_p i.2.1 3)).length (zi_p i.2.1 3) && (Nat.blt (zi_p i.2.1 2) 1000 && (Nat.beq (zk_h HT b).1 3 && Nat.beq (zk_h HT b).2.1 (zi_p i.2.1 1)))) (zk_cal HT SU TS M X ((2, b, e) :: (X.1.2.1.take (zi_p i.2.1 3)).reverse) R q dm (zi_p i.2.1 0) h.2.2.1 h.2.2.2) none
    | _, _ => none)
  (cond (Nat.beq i.1 /-CS-/72) (match CT (zk_yj (zi_p i.2.1 1) h.2.1) with
    | some q => cond (Nat.beq (X.1.2.1.take (zi_p i.2.1 2)).length (zi_p i.2.1 2) && Nat.blt (zi_p i.2.1 1) 1000) (zk_cal HT SU TS M X (X.1.2.1.take (zi_p i.2.1 2)).reverse (X.1.2.1.drop (zi_p i.2.1 2)) q dm (zi_p i.2.1 0) h.2.2.1 h.2.2.2) none
    | none => none)
  (cond (Nat.beq i.1 /-CK-/79) (match X.1.2.1.drop (zi_p i.2.1 2), CT (zk_yj (zi_p i.2.1 1) h.2.1) with
    | (2, b, e) :: R, some q => cond (Nat.beq (X.1.2.1.take (zi_p i.2.1 2)).length (zi_p i.2.1 2) && (Nat.blt (zi_p i.2.1 1) 1000 && zz_kg zS b)) (zk_cal HT SU TS M X ((2, b, e) :: (X.1.2.1.take (zi_p i.2.1 2)).reverse) R q dm (zi_p i.2.1 0) h.2.2.1 h.2.2.2) none
    | _, _ => none)
  (zi_st HT M SU TS h.2.1 h.2.2.2 i X)))
/-- one place: home, or where it goes on -/
def zk_e1 (HT : List (List zk_H)) (M : zk_M) (SU : Nat → List (Nat × Nat)) (TS : zk_TY) (CT : Nat → Option zk_Ct) (code : List (List zi)) (ps : List zk_St) (mg dm : Nat) (pc : Nat) (X : zk_St) (h : zk_Hn) : Option (List (Nat × zk_St)) :=
  cond (Nat.blt 200 (zi_at code pc).1 && Nat.blt (zi_at code pc).1 208)
    (match ps[(h.2.1.getD 0 []).getD 0 0]? with
      | some Q => cond (zk_ret X.1 h.2.1 ((zi_at code pc).1 - 200) && (zk_edg2 HT TS (([], X.1.2.1, X.1.2.2.1, X.1.2.2.2.1, X.1.2.2.2.2), X.2.1, X.2.2) Q h.2.2.1 h.2.2.2 && zk_gh mg 0 h.2.2.1.1)) (some []) none
      | none => none)
    (cond (Nat.blt (zi_at code pc).1 /-N-/87) (zk_stp HT M SU TS CT dm (zi_at code pc) X h) none)
/-- a sum's sign: both states -/
def zk_spl (X : zk_St) (e : zl_E) (hs : List (List Nat)) : List zk_St := (zk_and X.1 X.1.2.1 (hs.getD 0 []) [e]).map (fun A => (A, X.2.1, X.2.2)) ++ (zk_and X.1 X.1.2.1 (hs.getD 1 []) [zl_sub (zl_con (-1)) e]).map (fun A => (A, X.2.1, X.2.2))
theorem zk_spl_ok {PT : Nat → zz_W → Prop} {I : zz_W → Prop} {X : zk_St} {e : zl_E} {hs : List (List Nat)} {s : Nat → Int} {f : zz_F} (hG : zk_G2 PT I s X f) : ∃ Y ∈ zk_spl X e hs, zk_G2 PT I s Y f ∧ X.1.2.2.2.1.length ≤ Y.1.2.2.2.1.length := by
  obtain ⟨⟨g1, g2, g3, g4, g5, g6⟩, k1, k2⟩ := hG
  obtain ⟨p, lv, st, w⟩ := f
  by_cases h0 : 0 ≤ zl_ev s e
  · obtain ⟨A', m1, m2, m3⟩ := zk_and_ok (I := I) (A := X.1) (T := X.1.2.1) (hs := hs.getD 0 []) (cs := [e]) (n := p) g1 g2 g3 g4 g5 g6 (fun c hc => by rw [List.mem_singleton.mp hc]; exact h0)
    exact ⟨(A', X.2.1, X.2.2), List.mem_append_left _ (List.mem_map.mpr ⟨A', m1, rfl⟩), ⟨m2, k1, k2⟩, m3⟩
  · obtain ⟨A', m1, m2, m3⟩ := zk_and_ok (I := I) (A := X.1) (T := X.1.2.1) (hs := hs.getD 1 []) (cs := [zl_sub (zl_con (-1)) e]) (n := p) g1 g2 g3 g4 g5 g6 (fun c hc => by rw [List.mem_singleton.mp hc, zl_sub_ev, zl_con_ev]; omega)
    exact ⟨(A', X.2.1, X.2.2), List.mem_append_right _ (List.mem_map.mpr ⟨A', m1, rfl⟩), ⟨m2, k1, k2⟩, m3⟩
/-- a field is followed from here on -/
def zk_fo2 (HT : List (List zk_H)) (X : zk_St) (ci i k : Nat) : Option zk_St := match zk_fol HT ci i k X.1 with
  | some A => cond (zk_eW HT X.1.2.2.2.1.length X.2.1) (some (A, X.2.1, X.2.2)) none
  | none => none
theorem zk_fo2_ok {c : Nat} {HT : List (List zk_H)} {PT : Nat → zz_W → Prop} {I : zz_W → Prop} (hI : ∀ w, I w → zk_I c HT w) {X Y : zk_St} {ci i k : Nat} (h : zk_fo2 HT X ci i k = some Y) {s : Nat → Int} {f : zz_F} (hG : zk_G2 PT I s X f) : X.1.2.2.2.1.length ≤ Y.1.2.2.2.1.length ∧ ∃ s' : Nat → Int, zk_G2 PT I s' Y f ∧ ∀ j, j < X.1.2.2.2.1.length → s' j = s j := by
  unfold zk_fo2 at h
  split at h
  · rename_i A hA
    obtain ⟨hw, h⟩ := zz_cond h
    cases h
    obtain ⟨p, lv, st, w⟩ := f
    obtain ⟨g1, k1, k2⟩ := hG
    obtain ⟨m1, s', m2, m3⟩ := zk_fol_ok hI hA g1
    exact ⟨m1, s', ⟨m2, zk_eW_eq hw m3 k1, k2⟩, m3⟩
  · cases h
/-- an element is known from here on -/
def zk_kno (HT : List (List zk_H)) (X : zk_St) (r : Nat) (e : zl_E) (h1 h2 : List Nat) : Option zk_St := match zk_rs HT 0 (zk_h HT r).2.1 r with
  | some (len, lo, hi) => cond ((zk_ix X.1 h1 h2 e len && Nat.blt r 1000000) && (zk_eW HT X.1.2.2.2.1.length X.2.1 && Nat.ble (zl_mx e.2) X.1.2.2.2.1.length)) (match zk_new X.1 X.1.2.1 (zk_sb (zk_h HT r).2.2.2.2.2 lo hi e).1 (zk_sb (zk_h HT r).2.2.2.2.2 lo hi e).2 with
    | some A => some ((A.1, X.1.2.1, A.2.2.1, A.2.2.2.1, A.2.2.2.2), (r, e, zl_sym X.1.2.2.2.1.length) :: X.2.1, X.2.2)
    | none => none) none
  | none => none
theorem zk_kno_ok {c : Nat} {HT : List (List zk_H)} {PT : Nat → zz_W → Prop} {I : zz_W → Prop} (hI : ∀ w, I w → zk_I c HT w) {X Y : zk_St} {r : Nat} {e : zl_E} {h1 h2 : List Nat} (h : zk_kno HT X r e h1 h2 = some Y) {s : Nat → Int} {f : zz_F} (hG : zk_G2 PT I s X f) : X.1.2.2.2.1.length ≤ Y.1.2.2.2.1.length ∧ ∃ s' : Nat → Int, zk_G2 PT I s' Y f ∧ ∀ j, j < X.1.2.2.2.1.length → s' j = s j := by
  unfold zk_kno at h
  split at h
  · rename_i len lo hi hrs
    obtain ⟨hb, h⟩ := zz_cond h
    obtain ⟨b1, hb⟩ := zz_and hb
    obtain ⟨b1, b0⟩ := zz_and b1
    obtain ⟨b2, b3⟩ := zz_and hb
    split at h
    · rename_i A hA
      cases h
      obtain ⟨⟨g1, g2, g3, g4, g5, g6⟩, k1, k2⟩ := hG
      obtain ⟨p, lv, st, w⟩ := f
      obtain ⟨c1, c2⟩ := zz_and b1
      have c1 := zl_en_ok g4 g5 c1
      have c2 := zl_en_ok g4 g5 c2
      rw [zl_sub_ev, zl_con_ev] at c2
      obtain ⟨o1, o2, o3, o4, o5, o6⟩ := zk_rs_ok hrs (by decide) (hI _ g6)
      have o5 := o5 rfl (zl_ev s e).toNat (by omega)
      have o5 := zk_sb_r (j := (zl_ev s e).toNat) (s := s) (e := e) (by omega) o5.1 o5.2
      obtain ⟨hl, s', hg, hs⟩ := zk_new_ok (I := I) (x := Int32.ofNat (zz_at 32 (zz_g w r).2.2.2 (zl_ev s e).toNat)) (n := p) (w := w) (lv := lv) hA g1 g2 g3 g4 g5 g6 o5.1 o5.2
      obtain ⟨j1, j2, j3, j4, j5, j6⟩ := hg
      have hT : A.2.1 = (0, 0, zl_sym X.1.2.2.2.1.length) :: X.1.2.1 := by
        obtain ⟨-, hA⟩ := zz_cond hA
        cases hA
        rfl
      rw [hT] at j2
      have hsym : (Int32.ofNat (zz_at 32 (zz_g w r).2.2.2 (zl_ev s e).toNat)).toInt = zl_ev s' (zl_sym X.1.2.2.2.1.length) := by
        obtain ⟨y, y1, y2⟩ := j2.1.1 rfl
        cases y1
        exact y2
      have hee : zl_ev s' e = zl_ev s e := zl_ev_eq (n := X.1.2.2.2.1.length) (zz_ble b3) hs
      refine ⟨hl, s', ⟨⟨j1, j2.2, j3, j4, j5, j6⟩, fun y hy => ?_, k2⟩, hs⟩
      rcases List.mem_cons.mp hy with ey | hy
      · subst ey
        show 0 ≤ zl_ev s' e ∧ zk_xe w r (zl_ev s' e) = zl_ev s' (zl_sym X.1.2.2.2.1.length)
        rw [zk_xe_r b0, hee, ← hsym]
        exact ⟨c1, rfl⟩
      · exact zk_eW_eq b2 hs k1 y hy
    · cases h
  · cases h
/-- closer bounds of a symbol -/
def zk_nrw (X : zk_St) (k : Nat) (lo hi : Int) (h1 h2 : List Nat) : Option zk_St :=
  cond (zl_en X.1.2.2.2.1 X.1.2.2.2.2 h1 (zl_sub (zl_sym k) (zl_con lo)) && zl_en X.1.2.2.2.1 X.1.2.2.2.2 h2 (zl_sub (zl_con hi) (zl_sym k))) (some ((X.1.1, X.1.2.1, X.1.2.2.1, X.1.2.2.2.1.set k (lo, hi), X.1.2.2.2.2), X.2.1, X.2.2)) none
theorem zk_nrw_ok {PT : Nat → zz_W → Prop} {I : zz_W → Prop} {X Y : zk_St} {k : Nat} {lo hi : Int} {h1 h2 : List Nat} (h : zk_nrw X k lo hi h1 h2 = some Y) {s : Nat → Int} {f : zz_F} (hG : zk_G2 PT I s X f) : zk_G2 PT I s Y f ∧ X.1.2.2.2.1.length ≤ Y.1.2.2.2.1.length := by
  obtain ⟨hb, h⟩ := zz_cond h
  cases h
  obtain ⟨b1, b2⟩ := zz_and hb
  obtain ⟨⟨g1, g2, g3, g4, g5, g6⟩, k1, k2⟩ := hG
  have c1 := zl_en_ok g4 g5 b1
  have c2 := zl_en_ok g4 g5 b2
  rw [zl_sub_ev, zl_sym_ev, zl_con_ev] at c1 c2
  refine ⟨⟨⟨g1, g2, g3, fun j q hq => ?_, g5, g6⟩, k1, k2⟩, Nat.le_of_eq (by show _ = (X.1.2.2.2.1.set k (lo, hi)).length; rw [List.length_set])⟩
  have hq : (X.1.2.2.2.1.set k (lo, hi))[j]? = some q := hq
  by_cases hj : k = j
  · subst hj
    by_cases hlt : k < X.1.2.2.2.1.length
    · rw [List.getElem?_set_self hlt] at hq
      cases hq
      constructor <;> omega
    · rw [List.getElem?_eq_none (by rw [List.length_set]; omega)] at hq
      cases hq
  · rw [List.getElem?_set_ne hj] at hq
    exact g4 j q hq
/-- an int as a number -/
def zl_iN (c : Int) : zl_N := match c with
  | .ofNat n => (n, 0)
  | .negSucc n => (0, n + 1)
theorem zl_iN_nv (c : Int) : zl_nv (zl_iN c) = c := by
  rw [zl_nv_eq]
  unfold zl_iN
  split
  · rename_i n
    show (n : Int) - ((0 : Nat) : Int) = (n : Int)
    omega
  · rename_i n
    rw [Int.negSucc_eq]
    show ((0 : Nat) : Int) - ((n + 1 : Nat) : Int) = -((n : Int) + 1)
    omega
def zl_rd (d : Int) (e : zl_E) : zl_E := (zl_iN (zl_nv e.1 / d), zl_mp (fun x => zl_iN (zl_nv x / d)) e.2)
def zl_dv (d : Int) (l : List (Nat × zl_N)) : Bool := List.rec (motive := fun _ => Bool) true (fun c _ ih => decide (zl_nv c.2 % d = 0) && ih) l
theorem zl_rd_dt (s : Nat → Int) (d : Int) : ∀ (a : List (Nat × zl_N)), zl_dv d a = true → zl_dt s a = d * zl_dt s (zl_mp (fun x => zl_iN (zl_nv x / d)) a)
  | [], _ => by
    show (0 : Int) = d * 0
    omega
  | c :: r, h => by
    obtain ⟨h1, h2⟩ := zz_and (show (decide (zl_nv c.2 % d = 0) && zl_dv d r) = true from h)
    have h1 : zl_nv c.2 % d = 0 := of_decide_eq_true h1
    show zl_nv c.2 * s c.1 + zl_dt s r = d * (zl_nv (zl_iN (zl_nv c.2 / d)) * s c.1 + zl_dt s (zl_mp (fun x => zl_iN (zl_nv x / d)) r))
    rw [zl_rd_dt s d r h2, zl_iN_nv, Int.mul_add, ← Int.mul_assoc]
    have := Int.mul_ediv_add_emod (zl_nv c.2) d
    rw [h1, Int.add_zero] at this
    rw [this]
theorem zl_rd_ok {s : Nat → Int} {d : Int} {e : zl_E} (hd : 0 < d) (h : zl_dv d e.2 = true) (h0 : 0 ≤ zl_ev s e) : 0 ≤ zl_ev s (zl_rd d e) := by
  have h1 : zl_ev s e = zl_nv e.1 + zl_dt s e.2 := rfl
  rw [h1, zl_rd_dt s d e.2 h] at h0
  show 0 ≤ zl_nv (zl_iN (zl_nv e.1 / d)) + zl_dt s (zl_mp (fun x => zl_iN (zl_nv x / d)) e.2)
  rw [zl_iN_nv]
  have h2 := Int.mul_ediv_add_emod (zl_nv e.1) d
  have h3 := Int.emod_lt_of_pos (zl_nv e.1) hd
  generalize zl_dt s (zl_mp (fun x => zl_iN (zl_nv x / d)) e.2) = t at h0 ⊢
  generalize zl_nv e.1 = x at h0 h2 h3 ⊢
  by_cases h4 : 0 ≤ x / d + t
  · exact h4
  · exfalso
    have h5 : x / d + t ≤ -1 := by omega
    have h6 : d * (x / d + t) ≤ d * (-1) := Int.mul_le_mul_of_nonneg_left h5 (by omega)
    rw [Int.mul_add] at h6
    omega
def zk_rnd (X : zk_St) (d : Nat) (e : zl_E) (h : List Nat) : Option zk_St :=
  cond (Nat.blt 0 d && (zl_dv (d : Int) e.2 && zl_en X.1.2.2.2.1 X.1.2.2.2.2 h e)) (some ((X.1.1, X.1.2.1, X.1.2.2.1, X.1.2.2.2.1, zl_rd d e :: X.1.2.2.2.2), X.2.1, X.2.2)) none
theorem zk_rnd_ok {PT : Nat → zz_W → Prop} {I : zz_W → Prop} {X Y : zk_St} {d : Nat} {e : zl_E} {h1 : List Nat} (h : zk_rnd X d e h1 = some Y) {s : Nat → Int} {f : zz_F} (hG : zk_G2 PT I s X f) : zk_G2 PT I s Y f ∧ X.1.2.2.2.1.length ≤ Y.1.2.2.2.1.length := by
  obtain ⟨hb, h⟩ := zz_cond h
  cases h
  obtain ⟨b1, hb⟩ := zz_and hb
  obtain ⟨b2, b3⟩ := zz_and hb
  have b1 := zz_blt b1
  obtain ⟨⟨g1, g2, g3, g4, g5, g6⟩, k1, k2⟩ := hG
  refine ⟨⟨⟨g1, g2, g3, g4, fun c hc => ?_, g6⟩, k1, k2⟩, Nat.le_refl _⟩
  rcases List.mem_cons.mp hc with ec | hc
  · rw [ec]
    exact zl_rd_ok (by omega) b2 (zl_en_ok g4 g5 b3)
  · exact g5 c hc
/-- some are left out: those with 1 -/
def zk_flt {α : Type} : List α → List Nat → List α
  | x :: l, k :: ks => cond (Nat.beq k 0) (x :: zk_flt l ks) (zk_flt l ks)
  | l, [] => l
  | [], _ :: _ => []
theorem zk_flt_mem {α : Type} {y : α} : ∀ {l : List α} {ks : List Nat}, y ∈ zk_flt l ks → y ∈ l
  | x :: l, k :: ks, h => by
    have h : y ∈ cond (Nat.beq k 0) (x :: zk_flt l ks) (zk_flt l ks) := h
    cases hb : Nat.beq k 0 with
    | true =>
      rw [hb] at h
      rcases List.mem_cons.mp h with e | h
      · rw [e]
        exact List.mem_cons_self
      · exact List.mem_cons_of_mem _ (zk_flt_mem h)
    | false =>
      rw [hb] at h
      exact List.mem_cons_of_mem _ (zk_flt_mem h)
  | [], [], h => h
  | _ :: _, [], h => h
  | [], _ :: _, h => h
/-- fields, sums, elements, tokens are left out -/
def zk_les (X : zk_St) (hs : List (List Nat)) : zk_St := ((X.1.1, X.1.2.1, zk_flt X.1.2.2.1 (hs.getD 0 []), X.1.2.2.2.1, zk_flt X.1.2.2.2.2 (hs.getD 1 [])), zk_flt X.2.1 (hs.getD 2 []), zk_flt X.2.2 (hs.getD 3 []))
theorem zk_les_ok {PT : Nat → zz_W → Prop} {I : zz_W → Prop} {X : zk_St} {hs : List (List Nat)} {s : Nat → Int} {f : zz_F} (hG : zk_G2 PT I s X f) : zk_G2 PT I s (zk_les X hs) f := by
  obtain ⟨⟨g1, g2, g3, g4, g5, g6⟩, k1, k2⟩ := hG
  exact ⟨⟨g1, g2, fun q hq => g3 q (zk_flt_mem hq), g4, fun c hc => g5 c (zk_flt_mem hc), g6⟩, fun x hx => k1 x (zk_flt_mem hx), fun t ht => k2 t (zk_flt_mem ht)⟩
/-- what goes on in the same frame: bounds, rounding -/
def zk_sam (X : zk_St) (t : Nat) (hs : List (List Nat)) (es : List zl_E) : Option zk_St := match t with
  | 4 => zk_nrw X ((hs.getD 0 []).getD 0 0) (zl_nv (es.getD 0 (zl_con 0)).1) (zl_nv (es.getD 1 (zl_con 0)).1) (hs.getD 1 []) (hs.getD 2 [])
  | 5 => zk_rnd X ((hs.getD 0 []).getD 0 0) (es.getD 0 (zl_con 0)) (hs.getD 1 [])
  | _ => none
theorem zk_sam_ok {PT : Nat → zz_W → Prop} {I : zz_W → Prop} {X Y : zk_St} {t : Nat} {hs : List (List Nat)} {es : List zl_E} (h : zk_sam X t hs es = some Y) {s : Nat → Int} {f : zz_F} (hG : zk_G2 PT I s X f) : zk_G2 PT I s Y f ∧ X.1.2.2.2.1.length ≤ Y.1.2.2.2.1.length := by
  unfold zk_sam at h
  split at h
  · exact zk_nrw_ok h hG
  · exact zk_rnd_ok h hG
  · cases h
/-- roads: all of these states come to cut frames with a lesser number, or home; a state with true goes on from a cut frame -/
def zk_ex (HT : List (List zk_H)) (M : zk_M) (SU : Nat → List (Nat × Nat)) (TS : zk_TY) (CT : Nat → Option zk_Ct) (code : List (List zi)) (cs : List zk_Cu) (ps : List zk_St) (mg dm : Nat) (mu : zl_E) : Nat → List (Bool × Nat × zk_St) → List zk_Hn → Bool
  | _, [], _ => true
  | 0, _ :: _, _ => false
  | _ + 1, _ :: _, [] => false
  | k + 1, x :: W, h :: hs => match h.1 with
    | 1 => match zk_tel HT TS x.2.2 ((h.2.1.getD 0 []).getD 0 0) (h.2.2.1.1.getD 0 (zl_con 0)) (h.2.1.drop 1) with
      | some R => zk_ex HT M SU TS CT code cs ps mg dm mu k (R.map (fun Y => (x.1, x.2.1, Y)) ++ W) hs
      | none => false
    | 3 => match zk_fo2 HT x.2.2 ((h.2.1.getD 0 []).getD 0 0) ((h.2.1.getD 0 []).getD 1 0) ((h.2.1.getD 0 []).getD 2 0) with
      | some Y => zk_ex HT M SU TS CT code cs ps mg dm mu k ((x.1, x.2.1, Y) :: W) hs
      | none => false
    | 7 => match zk_kno HT x.2.2 ((h.2.1.getD 0 []).getD 0 0) (h.2.2.1.1.getD 0 (zl_con 0)) (h.2.1.getD 1 []) (h.2.1.getD 2 []) with
      | some Y => zk_ex HT M SU TS CT code cs ps mg dm mu k ((x.1, x.2.1, Y) :: W) hs
      | none => false
    | 6 => zl_en x.2.2.1.2.2.2.1 x.2.2.1.2.2.2.2 (h.2.1.getD 0 []) (zl_con (-1)) && zk_ex HT M SU TS CT code cs ps mg dm mu k W hs
    | 4 => match zk_sam x.2.2 4 h.2.1 h.2.2.1.1 with
      | some Y => zk_ex HT M SU TS CT code cs ps mg dm mu k ((x.1, x.2.1, Y) :: W) hs
      | none => false
    | 5 => match zk_sam x.2.2 5 h.2.1 h.2.2.1.1 with
      | some Y => zk_ex HT M SU TS CT code cs ps mg dm mu k ((x.1, x.2.1, Y) :: W) hs
      | none => false
    | 2 => zk_ex HT M SU TS CT code cs ps mg dm mu k ((zk_spl x.2.2 (h.2.2.1.1.getD 0 (zl_con 0)) h.2.1).map (fun Y => (x.1, x.2.1, Y)) ++ W) hs
    | 8 => zk_ex HT M SU TS CT code cs ps mg dm mu k ((true, x.2.1, x.2.2) :: W) hs
    | 10 => zk_ex HT M SU TS CT code cs ps mg dm mu k ((x.1, x.2.1, zk_les x.2.2 h.2.1) :: W) hs
    | 11 => match zk_lawp HT TS x.2.2 ((h.2.1.getD 0 []).getD 0 0) h.2.2.1.1 (h.2.1.drop 1) h.2.2.1.2.1 with
      | some R => zk_ex HT M SU TS CT code cs ps mg dm mu k (R.map (fun Y => (x.1, x.2.1, Y)) ++ W) hs
      | none => false
    | 12 => match zk_cng x.2.2 ((h.2.1.getD 0 []).getD 0 0) ((h.2.1.getD 0 []).getD 1 0) (h.2.1.getD 1 []) (h.2.1.getD 2 []) with
      | some Y => zk_ex HT M SU TS CT code cs ps mg dm mu k ((x.1, x.2.1, Y) :: W) hs
      | none => false
    | 13 => match zk_vx x.2.2 (h.2.1.getD 0 []) h.2.2.1.1 (h.2.1.drop 1) with
      | some Y => zk_ex HT M SU TS CT code cs ps mg dm mu k ((x.1, x.2.1, Y) :: W) hs
      | none => false
    | 9 => match zk_tel2 HT TS x.2.2 ((h.2.1.getD 0 []).getD 0 0) (h.2.2.1.1.getD 0 (zl_con 0)) (h.2.2.1.1.getD 1 (zl_con 0)) (h.2.1.drop 1) with
      | some R => zk_ex HT M SU TS CT code cs ps mg dm mu k (R.map (fun Y => (x.1, x.2.1, Y)) ++ W) hs
      | none => false
    | _ => match cond x.1 none (zk_cut cs x.2.1 ((h.2.1.getD 1 []).getD 0 0)) with
      | some q => zk_edg2 HT TS x.2.2 q.2.1 h.2.2.1 h.2.2.2 && (zk_gh mg 0 h.2.2.1.1 && (Nat.ble (zl_mx q.2.2.2) h.2.2.1.1.length && (zl_en x.2.2.1.2.2.2.1 x.2.2.1.2.2.2.2 (h.2.1.getD 0 []) (zl_sub (zl_sub mu (zl_subst h.2.2.1.1 q.2.2)) (zl_con 1)) && zk_ex HT M SU TS CT code cs ps mg dm mu k W hs)))
      | none => match zk_e1 HT M SU TS CT code ps mg dm x.2.1 x.2.2 h with
        | some R => zk_ex HT M SU TS CT code cs ps mg dm mu k (R.map (fun Y => (false, Y.1, Y.2)) ++ W) hs
        | none => false
section ZKM
variable {l : Launch} {Ts : List Cond} {D : va_G} {cl : List vw_C} {fk : Nat → Nat → Nat} {cy : Nat → ClassId} {z0 : Nat} {sp : Nat → Nat} {tys : List (ClassId × FieldType)} {G : State → Prop}
variable {yn : Nat → MethodName} {cn : Nat → ByteArray} {ml : Nat → Nat} {rt : Nat → Option FieldType}
/-- the method y keeps the contract q -/
def zk_CA (l : Launch) (Ts : List Cond) (D : va_G) (cl : List vw_C) (fk : Nat → Nat → Nat) (cy : Nat → ClassId) (z0 : Nat) (sp : Nat → Nat) (tys : List (ClassId × FieldType)) (G : State → Prop) (yn : Nat → MethodName) (cn : Nat → ByteArray) (ml : Nat → Nat) (rt : Nat → Option FieldType) (c : Nat) (HT : List (List zk_H)) (PT : Nat → zz_W → Prop) (d y : Nat) (q : zk_Ct) : Prop :=
  ∀ (as : List Value) (w : zz_W) (s : Nat → Int), zl_ev s (zk_dep q.2.2.2) ≤ (d : Int) → zk_G2 PT (zk_I c HT) s q.1 (0, [], as, w) →
    ∃ (rv : List Value) (w' : zz_W) (s' : Nat → Int) (Q : zk_St), Q ∈ q.2.1 ∧ zz_M l Ts D cl fk cy z0 sp tys G yn cn ml rt d y as w rv w' ∧ zk_G2 PT (zk_J c HT q.2.2.1 (w, q.2.2.1.2.map (fun p => (p.1, zl_ev s p.2)))) s' Q (0, [], rv, w') ∧ ∀ j, j < q.1.1.2.2.2.1.length → s' j = s j
def zk_Con (l : Launch) (Ts : List Cond) (D : va_G) (cl : List vw_C) (fk : Nat → Nat → Nat) (cy : Nat → ClassId) (z0 : Nat) (sp : Nat → Nat) (tys : List (ClassId × FieldType)) (G : State → Prop) (yn : Nat → MethodName) (cn : Nat → ByteArray) (ml : Nat → Nat) (rt : Nat → Option FieldType) (c : Nat) (HT : List (List zk_H)) (PT : Nat → zz_W → Prop) (y : Nat) (q : zk_Ct) : Prop := ∀ d : Nat, zk_CA l Ts D cl fk cy z0 sp tys G yn cn ml rt c HT PT d y q
/-- a frame that comes home -/
def zk_Gd (l : Launch) (Ts : List Cond) (D : va_G) (cl : List vw_C) (fk : Nat → Nat → Nat) (cy : Nat → ClassId) (z0 : Nat) (sp : Nat → Nat) (tys : List (ClassId × FieldType)) (G : State → Prop) (own mn : String) (nL : Nat) (cc : ByteArray) (d : Nat) (T : zz_T) (PT : Nat → zz_W → Prop) (I : zz_W → Prop) (ps : List zk_St) (mg : Nat) (s0 : Nat → Int) (f : zz_F) : Prop :=
  ∃ (fr : zz_F) (s' : Nat → Int) (Q : zk_St), zz_B l Ts D cl fk cy z0 sp tys G own mn nL cc d f fr ∧ zz_rt T fr = some (fr.2.2.1, fr.2.2.2) ∧ Q ∈ ps ∧ zk_G2 PT I s' Q (0, [], fr.2.2.1, fr.2.2.2) ∧ ∀ j, j < mg → s' j = s0 j
theorem zk_Gd_B {own mn : String} {nL : Nat} {cc : ByteArray} {d : Nat} {T : zz_T} {PT : Nat → zz_W → Prop} {I : zz_W → Prop} {ps : List zk_St} {mg : Nat} {s0 : Nat → Int} {f g : zz_F} (hB : zz_B l Ts D cl fk cy z0 sp tys G own mn nL cc d f g) (h : zk_Gd l Ts D cl fk cy z0 sp tys G own mn nL cc d T PT I ps mg s0 g) : zk_Gd l Ts D cl fk cy z0 sp tys G own mn nL cc d T PT I ps mg s0 f := by
  obtain ⟨fr, s', Q, h1, h2⟩ := h
  exact ⟨fr, s', Q, zz_B_tr hB h1, h2⟩
theorem zk_out2_ok {c : Nat} {HT : List (List zk_H)} {PT : Nat → zz_W → Prop} {SU : Nat → List (Nat × Nat)} {TS : zk_TY} (hTT : zk_TT c HT PT SU TS) {M N : zk_M} {w0 : zk_W0} {w w' : zz_W} {V : List (Nat × Int)} {X Q : zk_St} {R : List zk_V} {t : List zl_E} {m p' n : Nat} {lv lq : List (Nat × Value)} {r rv : List Value} {s s' : Nat → Int} (hV : V = N.2.map (fun p => (p.1, zl_ev (zk_u s t) p.2)))
    (hw : zk_wf X.1.2.2.2.1.length X.1.1 R X.1.2.2.1 X.1.2.2.2.2 = true) (ht : t.all (fun e => Nat.ble (zl_mx e.2) X.1.2.2.2.1.length) = true) (hm : t.length = m) (hQ : m ≤ Q.1.2.2.2.1.length) (hwq : zk_wq Q.1 = true) (hF : X.1.2.2.1.all (fun q => Nat.beq (zk_h HT q.1.1).1 3 && Nat.blt q.1.2 998) = true) (hN : zk_sub M N w0.2 V) (hE1 : zk_eW HT X.1.2.2.2.1.length X.2.1 = true) (hE2 : zk_eW HT Q.1.2.2.2.1.length Q.2.1 = true)
    (g1 : zk_lc s X.1.1 lv) (g2 : zk_st s R r) (g3 : zk_fl s X.1.2.2.1 w) (g4 : zl_in s X.1.2.2.2.1) (g5 : zk_cs s X.1.2.2.2.2) (g6 : zk_J c HT M w0 w) (k1 : zk_eF s X.2.1 w) (k2 : ∀ t ∈ X.2.2, PT t w) (hG : zk_G2 PT (zk_J c HT N (w, V)) s' Q (p', lq, rv, w')) (hs : ∀ j, j < m → s' j = zk_u s t j) :
    X.1.2.2.2.1.length ≤ (zk_out2 HT SU X R t m N Q).1.2.2.2.1.length ∧ ∃ s'' : Nat → Int, zk_G2 PT (zk_J c HT M w0) s'' (zk_out2 HT SU X R t m N Q) (n, lv, rv ++ r, w') ∧ ∀ j, j < X.1.2.2.2.1.length → s'' j = s j := by
  obtain ⟨hG1, hG2, hG3⟩ := hG
  obtain ⟨o1, s2, o2, o3, o4⟩ := zk_out_ok (p := 0) (n := n) hw ht hm hQ hwq hF hN g1 g2 g3 g4 g5 g6 hG1 hs
  refine ⟨o1, s2, ⟨o2, fun x hx => ?_, fun k hk => ?_⟩, o3⟩
  · rcases List.mem_append.mp hx with hx | hx
    · obtain ⟨x1, x2⟩ := List.mem_filter.mp hx
      have h1 := zk_eW_eq hE1 o3 k1 x x1
      have h0 := zk_eW_row hE1 x x1
      have hJ : zk_J c HT N (w, V) w' := hG1.2.2.2.2.2
      have hee : zl_ev s2 x.2.1 = zl_ev s x.2.1 := zl_ev_eq (n := X.1.2.2.2.1.length) (zz_ble (zz_and (zz_and (List.all_eq_true.mp hE1 x x1)).2).1) o3
      have h2 : zk_xe w' x.1 (zl_ev s2 x.2.1) = zk_xe w x.1 (zl_ev s2 x.2.1) := by
        rcases Bool.or_eq_true_iff.mp x2 with x2 | x2
        · exact zk_xe_g (fun r hr => by
            obtain ⟨x3, x4⟩ := zz_and (List.all_eq_true.mp x2 r hr)
            have h5 := h0 r hr
            obtain ⟨i1, i2, -⟩ := g6.1.2.2.2 r (by omega)
            exact (hJ.2.1.2 r (zk_ninM x3) i1 (by rw [i2]; omega)).1 (zk_ninM x4))
        · rw [hee]
          rw [hV] at hJ
          exact zk_kep_ok g4 g5 x2 g6.1 hJ h0 (by rw [← hee]; exact h1.1)
      exact ⟨h1.1, h2.trans h1.2⟩
    · obtain ⟨y, y1, y2⟩ := List.mem_map.mp hx
      subst y2
      have hy := List.all_eq_true.mp hE2 y y1
      obtain ⟨-, hy⟩ := zz_and hy
      obtain ⟨y3, y4⟩ := zz_and hy
      have h1 := hG2 y y1
      show 0 ≤ zl_ev s2 (zl_subst _ y.2.1) ∧ zk_xe w' y.1 (zl_ev s2 (zl_subst _ y.2.1)) = zl_ev s2 (zl_subst _ y.2.2)
      rw [o4 _ (zz_ble y3), o4 _ (zz_ble y4)]
      exact h1
  · rcases List.mem_append.mp hk with hk | hk
    · obtain ⟨x1, x2⟩ := List.mem_filter.mp hk
      exact zk_lft_ok hTT x2 g6.1 hG1.2.2.2.2.2 (k2 k x1)
    · exact hG3 k hk
/-- one place is sound -/
theorem zk_stp_ok {c : Nat} {HT : List (List zk_H)} {PT : Nat → zz_W → Prop} {SU : Nat → List (Nat × Nat)} {TS : zk_TY} (hTT : zk_TT c HT PT SU TS) {M : zk_M} {CT : Nat → Option zk_Ct} {dm d : Nat} {w0 : zk_W0} {own mn : String} {nL : Nat} {cc : ByteArray} {code : List (List zi)} {X : zk_St} {h : zk_Hn} {R : List (Nat × zk_St)} {pc : Nat}
    (hT : ∀ K, zz_KS l D cl fk cy z0 sp tys G yn (fun y => Cond.code (yn y) (cn y) (ml y) (rt y) :: Ts) d K → zz_TO l Ts D cl fk cy z0 sp tys G own mn nL cc d K (zi_T code)) (hC : ∀ y q, CT y = some q → zk_CA l Ts D cl fk cy z0 sp tys G yn cn ml rt c HT PT d (y % 1000) q) (hi : (zi_at code pc).1 < /-N-/87) (hs : zk_stp HT M SU TS CT dm (zi_at code pc) X h = some R)
    {s : Nat → Int} {f : zz_F} (hd : zl_ev s (zk_dep dm) ≤ (d : Int)) (hpc : f.1 = pc) (hpv : zk_pv s M.2 w0.2) (hG : zk_G2 PT (zk_J c HT M w0) s X f) : ∃ (s' : Nat → Int) (f' : zz_F) (q : Nat × zk_St), zz_B l Ts D cl fk cy z0 sp tys G own mn nL cc d f f' ∧ q ∈ R ∧ f'.1 = q.1 ∧ zk_G2 PT (zk_J c HT M w0) s' q.2 f' ∧ X.1.2.2.2.1.length ≤ q.2.1.2.2.2.1.length ∧ ∀ j, j < X.1.2.2.2.1.length → s' j = s j := by
  have hent : zz_ent (zi_T code) pc = (0, zi_act (zi_at code pc)) := by
    rw [zi_ent]
    unfold zi_e
    rw [show Nat.blt (zi_at code pc).1 /-N-/87 = true from Nat.ble_eq.mpr hi]
    rfl
  have hcal : ∀ (as Rr : List zk_V) (q : zk_Ct) (y n : Nat) (vs r : List Value) (p : Nat) (lv : List (Nat × Value)) (w : zz_W), CT (zk_yj y h.2.1) = some q → Nat.blt y 1000 = true → zk_cal HT SU TS M X as Rr q dm n h.2.2.1 h.2.2.2 = some R → zk_st s as vs → zk_st s Rr r → zk_lc s X.1.1 lv → zk_fl s X.1.2.2.1 w → zl_in s X.1.2.2.2.1 → zk_cs s X.1.2.2.2.2 → zk_J c HT M w0 w → zk_eF s X.2.1 w → (∀ t ∈ X.2.2, PT t w) →
      ∃ (rv : List Value) (w' : zz_W) (s' : Nat → Int) (q' : Nat × zk_St), zz_M l Ts D cl fk cy z0 sp tys G yn cn ml rt d y vs w rv w' ∧ zz_cs r ≤ 8 ∧ q' ∈ R ∧ n = q'.1 ∧ zk_G2 PT (zk_J c HT M w0) s' q'.2 (n, lv, rv ++ r, w') ∧ X.1.2.2.2.1.length ≤ q'.2.1.2.2.2.1.length ∧ ∀ j, j < X.1.2.2.2.1.length → s' j = s j := by
    intro as Rr q y n vs r p lv w hq hy hcl hv hr g1 g3 g4 g5 g6 k1 k2
    unfold zk_cal at hcl
    obtain ⟨hb, hcl⟩ := zz_cond hcl
    cases hcl
    unfold zk_cok at hb
    obtain ⟨b1, hb⟩ := zz_and hb
    obtain ⟨b2, hb⟩ := zz_and hb
    obtain ⟨b3, hb⟩ := zz_and hb
    obtain ⟨b4, hb⟩ := zz_and hb
    obtain ⟨b5, hb⟩ := zz_and hb
    obtain ⟨b6, hb⟩ := zz_and hb
    obtain ⟨b7, hb⟩ := zz_and hb
    obtain ⟨b8, hb⟩ := zz_and hb
    obtain ⟨b10, b9⟩ := zz_and hb
    obtain ⟨e1, e2⟩ := zk_edg2_ok hTT (I := zk_I c HT) (fun _ h => h) (s := s) (f := (0, [], vs, w)) b1 ⟨⟨fun x hx => absurd (show x ∈ ([] : List (Nat × zk_V)) from hx) List.not_mem_nil, hv, g3, g4, g5, g6.1⟩, k1, k2⟩
    have hCy := hC _ q hq
    rw [zk_yj_ok hy] at hCy
    obtain ⟨rv, w', s', Q, m1, m2, m3, m4⟩ := hCy vs w (zk_u s h.2.2.1.1) (Int.le_trans (zk_dok_ok b2 g4) hd) e1
    have hQ := List.all_eq_true.mp b9 Q m1
    obtain ⟨c1, hQ⟩ := zz_and hQ
    obtain ⟨c3, c2⟩ := zz_and hQ
    obtain ⟨o1, s2, o2, o3⟩ := zk_out2_ok hTT (n := n) rfl b4 b5 e2.symm (zz_ble c2) c1 b6 (zk_sbc_ok b3 g4 g5 hpv) b10 c3 g1 hr g3 g4 g5 g6 k1 k2 m3 m4
    refine ⟨rv, w', s2, (n, zk_out2 HT SU X Rr h.2.2.1.1 q.1.1.2.2.2.1.length q.2.2.1 Q), m2, ?_, List.mem_filter.mpr ⟨List.mem_map.mpr ⟨Q, m1, rfl⟩, by rw [zk_fal_ok o2.1]; rfl⟩, rfl, o2, o1, o3⟩
    rw [zk_cz_ok b8 hr]
    exact zz_ble b7
  obtain ⟨p, lv, st, w⟩ := f
  have hpc : p = pc := hpc
  subst hpc
  unfold zk_stp at hs
  cases h63 : Nat.beq (zi_at code p).1 /-CV-/71 with
  | true =>
    rw [h63] at hs
    have e63 := zz_beq h63
    have hs : (match X.1.2.1.drop (zi_p (zi_at code p).2.1 3), CT (zk_yj (zi_p (zi_at code p).2.1 2) h.2.1) with
      | (2, b, e) :: R', some q => cond (Nat.beq (X.1.2.1.take (zi_p (zi_at code p).2.1 3)).length (zi_p (zi_at code p).2.1 3) && (Nat.blt (zi_p (zi_at code p).2.1 2) 1000 && (Nat.beq (zk_h HT b).1 3 && Nat.beq (zk_h HT b).2.1 (zi_p (zi_at code p).2.1 1)))) (zk_cal HT SU TS M X ((2, b, e) :: (X.1.2.1.take (zi_p (zi_at code p).2.1 3)).reverse) R' q dm (zi_p (zi_at code p).2.1 0) h.2.2.1 h.2.2.2) none
      | _, _ => none) = some R := hs
    split at hs
    · rename_i b e Rr q hdrop hq
      obtain ⟨hb, hs⟩ := zz_cond hs
      obtain ⟨b1, hb⟩ := zz_and hb
      obtain ⟨b0, hb⟩ := zz_and hb
      obtain ⟨b2, b3⟩ := zz_and hb
      obtain ⟨⟨g1, g2, g3, g4, g5, g6⟩, k1, k2⟩ := hG
      have g2 : zk_st s X.1.2.1 st := g2
      rw [← List.take_append_drop (zi_p (zi_at code p).2.1 3) X.1.2.1, hdrop] at g2
      obtain ⟨x, y, q1, q2, q3⟩ := zk_st_split g2
      obtain ⟨v, r, q4, q5, q6⟩ := zk_st_cons q3
      have e3 : v = .ref b := q5.2.2.1 rfl
      subst e3
      have hst : st = x.reverse.reverse ++ .ref b :: r := by rw [List.reverse_reverse, q1, q4]
      obtain ⟨rv, w', s', q', m1, m2, m3, m4, m5, m6, m7⟩ := hcal _ _ q _ _ (.ref b :: x.reverse) r p lv w hq b0 hs ⟨q5, zk_st_rev q2⟩ q6 g1 g3 g4 g5 g6 k1 k2
      obtain ⟨o1, o2, o3, -⟩ := g6.1.2.2.2 b (by have := zz_beq b2; omega)
      have hic : zz_ic w b (zi_p (zi_at code p).2.1 1) = true := by
        unfold zz_ic
        have a1 : Nat.blt b w.1 = true := Nat.ble_eq.mpr o1
        have a2 : Nat.blt b 1000000 = true := Nat.ble_eq.mpr (by have := g6.1.2.2.1; omega)
        rw [o2, o3, a1, a2, b2, b3]
        rfl
      refine ⟨s', (zi_p (zi_at code p).2.1 0, lv, rv ++ r, w'), q', ?_, m3, m4, m5, m6, m7⟩
      have hact : zi_act (zi_at code p) = za_callV (zi_p (zi_at code p).2.1 1) (zi_p (zi_at code p).2.1 2) (zi_p (zi_at code p).2.1 3) (zi_p (zi_at code p).2.1 0) := by
        unfold zi_act
        rw [e63]
        rfl
      rw [hact] at hent
      exact zz_sV hT hent m1 hst (by rw [List.length_reverse, zk_st_len q2]; exact zz_beq b1) hic m2 (zz_B_rf _)
    · cases hs
  | false =>
    rw [h63] at hs
    cases h64 : Nat.beq (zi_at code p).1 /-CS-/72 with
    | true =>
      rw [h64] at hs
      have e64 := zz_beq h64
      have hs : (match CT (zk_yj (zi_p (zi_at code p).2.1 1) h.2.1) with
        | some q => cond (Nat.beq (X.1.2.1.take (zi_p (zi_at code p).2.1 2)).length (zi_p (zi_at code p).2.1 2) && Nat.blt (zi_p (zi_at code p).2.1 1) 1000) (zk_cal HT SU TS M X (X.1.2.1.take (zi_p (zi_at code p).2.1 2)).reverse (X.1.2.1.drop (zi_p (zi_at code p).2.1 2)) q dm (zi_p (zi_at code p).2.1 0) h.2.2.1 h.2.2.2) none
        | none => none) = some R := hs
      split at hs
      · rename_i q hq
        obtain ⟨hb, hs⟩ := zz_cond hs
        obtain ⟨b1, b0⟩ := zz_and hb
        obtain ⟨⟨g1, g2, g3, g4, g5, g6⟩, k1, k2⟩ := hG
        have g2 : zk_st s X.1.2.1 st := g2
        rw [← List.take_append_drop (zi_p (zi_at code p).2.1 2) X.1.2.1] at g2
        obtain ⟨x, r, q1, q2, q3⟩ := zk_st_split g2
        have hst : st = x.reverse.reverse ++ r := by rw [List.reverse_reverse, q1]
        obtain ⟨rv, w', s', q', m1, m2, m3, m4, m5, m6, m7⟩ := hcal _ _ q _ _ x.reverse r p lv w hq b0 hs (zk_st_rev q2) q3 g1 g3 g4 g5 g6 k1 k2
        refine ⟨s', (zi_p (zi_at code p).2.1 0, lv, rv ++ r, w'), q', ?_, m3, m4, m5, m6, m7⟩
        have hact : zi_act (zi_at code p) = za_callS (zi_p (zi_at code p).2.1 1) (zi_p (zi_at code p).2.1 2) (zi_p (zi_at code p).2.1 0) := by
          unfold zi_act
          rw [e64]
          rfl
        rw [hact] at hent
        exact zz_sS hT hent m1 hst (by rw [List.length_reverse, zk_st_len q2]; exact zz_beq b1) m2 (zz_B_rf _)
      · cases hs
    | false =>
      rw [h64] at hs
      cases h65 : Nat.beq (zi_at code p).1 /-CK-/79 with
      | true =>
        have hs : cond (Nat.beq (zi_at code p).1 /-CK-/79) (match X.1.2.1.drop (zi_p (zi_at code p).2.1 2), CT (zk_yj (zi_p (zi_at code p).2.1 1) h.2.1) with
          | (2, b, e) :: R', some q => cond (Nat.beq (X.1.2.1.take (zi_p (zi_at code p).2.1 2)).length (zi_p (zi_at code p).2.1 2) && (Nat.blt (zi_p (zi_at code p).2.1 1) 1000 && zz_kg zS b)) (zk_cal HT SU TS M X ((2, b, e) :: (X.1.2.1.take (zi_p (zi_at code p).2.1 2)).reverse) R' q dm (zi_p (zi_at code p).2.1 0) h.2.2.1 h.2.2.2) none
          | _, _ => none) (zi_st HT M SU TS h.2.1 h.2.2.2 (zi_at code p) X) = some R := hs
        rw [h65] at hs
        have e65 := zz_beq h65
        have hs : (match X.1.2.1.drop (zi_p (zi_at code p).2.1 2), CT (zk_yj (zi_p (zi_at code p).2.1 1) h.2.1) with
          | (2, b, e) :: R', some q => cond (Nat.beq (X.1.2.1.take (zi_p (zi_at code p).2.1 2)).length (zi_p (zi_at code p).2.1 2) && (Nat.blt (zi_p (zi_at code p).2.1 1) 1000 && zz_kg zS b)) (zk_cal HT SU TS M X ((2, b, e) :: (X.1.2.1.take (zi_p (zi_at code p).2.1 2)).reverse) R' q dm (zi_p (zi_at code p).2.1 0) h.2.2.1 h.2.2.2) none
          | _, _ => none) = some R := hs
        split at hs
        · rename_i b e Rr q hdrop hq
          obtain ⟨hb, hs⟩ := zz_cond hs
          obtain ⟨b1, hb⟩ := zz_and hb
          obtain ⟨b0, b2⟩ := zz_and hb
          obtain ⟨⟨g1, g2, g3, g4, g5, g6⟩, k1, k2⟩ := hG
          have g2 : zk_st s X.1.2.1 st := g2
          rw [← List.take_append_drop (zi_p (zi_at code p).2.1 2) X.1.2.1, hdrop] at g2
          obtain ⟨x, y, q1, q2, q3⟩ := zk_st_split g2
          obtain ⟨v, r, q4, q5, q6⟩ := zk_st_cons q3
          have e3 : v = .ref b := q5.2.2.1 rfl
          subst e3
          have hst : st = x.reverse.reverse ++ .ref b :: r := by rw [List.reverse_reverse, q1, q4]
          obtain ⟨rv, w', s', q', m1, m2, m3, m4, m5, m6, m7⟩ := hcal _ _ q _ _ (.ref b :: x.reverse) r p lv w hq b0 hs ⟨q5, zk_st_rev q2⟩ q6 g1 g3 g4 g5 g6 k1 k2
          refine ⟨s', (zi_p (zi_at code p).2.1 0, lv, rv ++ r, w'), q', ?_, m3, m4, m5, m6, m7⟩
          have hact : zi_act (zi_at code p) = za_callK (zz_kg zS) (zi_p (zi_at code p).2.1 1) (zi_p (zi_at code p).2.1 2) (zi_p (zi_at code p).2.1 0) := by
            unfold zi_act
            rw [e65]
            rfl
          rw [hact] at hent
          exact zz_sg (hT _ (zz_k1_KS m1)) hent (ze_callK hst (by rw [List.length_reverse, zk_st_len q2]; exact zz_beq b1) b2 m2 m1.2.1 zz_k1_at) (zz_B_rf _)
        · cases hs
      | false =>
        have hs : cond (Nat.beq (zi_at code p).1 /-CK-/79) (match X.1.2.1.drop (zi_p (zi_at code p).2.1 2), CT (zk_yj (zi_p (zi_at code p).2.1 1) h.2.1) with
          | (2, b, e) :: R', some q => cond (Nat.beq (X.1.2.1.take (zi_p (zi_at code p).2.1 2)).length (zi_p (zi_at code p).2.1 2) && (Nat.blt (zi_p (zi_at code p).2.1 1) 1000 && zz_kg zS b)) (zk_cal HT SU TS M X ((2, b, e) :: (X.1.2.1.take (zi_p (zi_at code p).2.1 2)).reverse) R' q dm (zi_p (zi_at code p).2.1 0) h.2.2.1 h.2.2.2) none
          | _, _ => none) (zi_st HT M SU TS h.2.1 h.2.2.2 (zi_at code p) X) = some R := hs
        rw [h65] at hs
        obtain ⟨s', f', q, m1, m2, m3, m4, m5, m6⟩ := zi_st_ok (w0 := w0) hTT (show zi_st HT M SU TS h.2.1 h.2.2.2 (zi_at code p) X = some R from hs) zz_k0 s (p, lv, st, w) hpv hG
        exact ⟨s', f', q, zz_sg (hT _ zz_k0_KS) hent m1 (zz_B_rf _), m2, m3, m4, m5, m6⟩
end ZKM
end
end
section
/-! THE CHECK OF A METHOD, on: what it proves -/
noncomputable section
section ZKN
variable {l : Launch} {Ts : List Cond} {D : va_G} {cl : List vw_C} {fk : Nat → Nat → Nat} {cy : Nat → ClassId} {z0 : Nat} {sp : Nat → Nat} {tys : List (ClassId × FieldType)} {G : State → Prop}
variable {yn : Nat → MethodName} {cn : Nat → ByteArray} {ml : Nat → Nat} {rt : Nat → Option FieldType}
variable {c : Nat} {HT : List (List zk_H)} {PT : Nat → zz_W → Prop} {SU : Nat → List (Nat × Nat)} {TS : zk_TY} {M : zk_M} {CT : Nat → Option zk_Ct} {dm d : Nat} {w0 : zk_W0} {own mn : String} {nL : Nat} {cc : ByteArray} {code : List (List zi)} {cs : List zk_Cu} {ps : List zk_St} {mg : Nat} {sg : Nat → Int}
theorem zk_e1_ok (hTT : zk_TT c HT PT SU TS) {X : zk_St} {h : zk_Hn} {R : List (Nat × zk_St)} {pc : Nat}
    (hT : ∀ K, zz_KS l D cl fk cy z0 sp tys G yn (fun y => Cond.code (yn y) (cn y) (ml y) (rt y) :: Ts) d K → zz_TO l Ts D cl fk cy z0 sp tys G own mn nL cc d K (zi_T code)) (hC : ∀ y q, CT y = some q → zk_CA l Ts D cl fk cy z0 sp tys G yn cn ml rt c HT PT d (y % 1000) q) (hd : zl_ev sg (zk_dep dm) ≤ (d : Int)) (hdm : zl_mx (zk_dep dm).2 ≤ mg) (he : zk_e1 HT M SU TS CT code ps mg dm pc X h = some R)
    {s : Nat → Int} {f : zz_F} (hpc : f.1 = pc) (hpv : zk_pv s M.2 w0.2) (hG : zk_G2 PT (zk_J c HT M w0) s X f) (hs : ∀ j, j < mg → s j = sg j) :
    zk_Gd l Ts D cl fk cy z0 sp tys G own mn nL cc d (zi_T code) PT (zk_J c HT M w0) ps mg sg f ∨ ∃ (s' : Nat → Int) (f' : zz_F) (q : Nat × zk_St), zz_B l Ts D cl fk cy z0 sp tys G own mn nL cc d f f' ∧ q ∈ R ∧ f'.1 = q.1 ∧ zk_G2 PT (zk_J c HT M w0) s' q.2 f' ∧ X.1.2.2.2.1.length ≤ q.2.1.2.2.2.1.length ∧ ∀ j, j < X.1.2.2.2.1.length → s' j = s j := by
  unfold zk_e1 at he
  cases hr : (Nat.blt 200 (zi_at code pc).1 && Nat.blt (zi_at code pc).1 208) with
  | true =>
    rw [hr] at he
    have he : (match ps[(h.2.1.getD 0 []).getD 0 0]? with
      | some Q => cond (zk_ret X.1 h.2.1 ((zi_at code pc).1 - 200) && (zk_edg2 HT TS (([], X.1.2.1, X.1.2.2.1, X.1.2.2.2.1, X.1.2.2.2.2), X.2.1, X.2.2) Q h.2.2.1 h.2.2.2 && zk_gh mg 0 h.2.2.1.1)) (some ([] : List (Nat × zk_St))) none
      | none => none) = some R := he
    split at he
    · rename_i Q hQ
      obtain ⟨hb, he⟩ := zz_cond he
      obtain ⟨b1, hb⟩ := zz_and hb
      obtain ⟨b2, b3⟩ := zz_and hb
      obtain ⟨r1, r2⟩ := zz_and hr
      have r1 := zz_blt r1
      have hk : (zz_ent (zi_T code) f.1).1 = (zi_at code pc).1 - 200 := by
        rw [hpc, zi_ent]
        unfold zi_e
        have a1 : Nat.blt (zi_at code pc).1 /-N-/87 = false := by
          cases hb : Nat.blt (zi_at code pc).1 /-N-/87 with
          | false => rfl
          | true => have := zz_blt hb; omega
        rw [a1, hr]
        rfl
      obtain ⟨hG1, hG2, hG3⟩ := hG
      have hrt := zk_ret_ok (T := zi_T code) b1 hk hG1
      obtain ⟨g1, g2, g3, g4, g5, g6⟩ := hG1
      obtain ⟨e1, e2⟩ := zk_edg2_ok hTT (I := zk_J c HT M w0) (fun _ h => h.1) (s := s) (f := (0, [], f.2.2.1, f.2.2.2)) b2 ⟨⟨fun x hx => absurd (show x ∈ ([] : List (Nat × zk_V)) from hx) List.not_mem_nil, g2, g3, g4, g5, g6⟩, hG2, hG3⟩
      refine Or.inl ⟨f, zk_u s h.2.2.1.1, Q, zz_B_rf _, hrt, List.mem_of_getElem? hQ, e1, fun j hj => ?_⟩
      rw [zk_gh_ok (s := s) b3 j hj, Nat.zero_add]
      exact hs j hj
    · cases he
  | false =>
    rw [hr] at he
    obtain ⟨hi, he⟩ := zz_cond he
    exact Or.inr (zk_stp_ok hTT hT hC (zz_blt hi) he (by rw [zl_ev_eq (n := mg) hdm hs]; exact hd) hpc hpv hG)
theorem zk_pv_eq {P : List (Nat × zl_E)} {V : List (Nat × Int)} {mg : Nat} {s sg : Nat → Int} (hl : P.all (fun p => Nat.ble (zl_mx p.2.2) mg) = true) (hs : ∀ j, j < mg → s j = sg j) (h : zk_pv sg P V) : zk_pv s P V := by
  intro p hp
  have := h p hp
  rw [zl_ev_eq (n := mg) (zz_ble (List.all_eq_true.mp hl p hp)) hs]
  exact this
theorem zk_ex_ok (hTT : zk_TT c HT PT SU TS) {mu : zl_E} (hT : ∀ K, zz_KS l D cl fk cy z0 sp tys G yn (fun y => Cond.code (yn y) (cn y) (ml y) (rt y) :: Ts) d K → zz_TO l Ts D cl fk cy z0 sp tys G own mn nL cc d K (zi_T code)) (hC : ∀ y q, CT y = some q → zk_CA l Ts D cl fk cy z0 sp tys G yn cn ml rt c HT PT d (y % 1000) q) (hd : zl_ev sg (zk_dep dm) ≤ (d : Int)) (hdm : zl_mx (zk_dep dm).2 ≤ mg) {nD : Nat} {s0 : Nat → Int} (hP : zk_pv sg M.2 w0.2) (hPl : M.2.all (fun p => Nat.ble (zl_mx p.2.2) mg) = true) (hmu : zl_mx mu.2 ≤ nD) (hmg : mg ≤ nD) (hsg : ∀ j, j < mg → s0 j = sg j)
    (hlow : ∀ q ∈ cs, ∀ (s : Nat → Int) (f : zz_F), f.1 = q.1 → zk_G2 PT (zk_J c HT M w0) s q.2.1 f → (∀ j, j < mg → s j = sg j) → zl_ev s q.2.2 < zl_ev s0 mu → zk_Gd l Ts D cl fk cy z0 sp tys G own mn nL cc d (zi_T code) PT (zk_J c HT M w0) ps mg sg f) :
    ∀ (k : Nat) (W : List (Bool × Nat × zk_St)) (hs : List zk_Hn), zk_ex HT M SU TS CT code cs ps mg dm mu k W hs = true → ∀ x ∈ W, nD ≤ x.2.2.1.2.2.2.1.length → ∀ (s : Nat → Int) (f : zz_F), f.1 = x.2.1 → zk_G2 PT (zk_J c HT M w0) s x.2.2 f → (∀ j, j < nD → s j = s0 j) → zk_Gd l Ts D cl fk cy z0 sp tys G own mn nL cc d (zi_T code) PT (zk_J c HT M w0) ps mg sg f
  | _, [], _, _, x, hx, _, _, _, _, _, _ => absurd hx List.not_mem_nil
  | 0, _ :: _, _, h, _, _, _, _, _, _, _, _ => by cases h
  | _ + 1, _ :: _, [], h, _, _, _, _, _, _, _, _ => by cases h
  | k + 1, y :: W, h0 :: hs, h, x, hx, hl, s, f, hf, hG, hs0 => by
    have hm : (match h0.1 with
    | 1 => match zk_tel HT TS y.2.2 ((h0.2.1.getD 0 []).getD 0 0) (h0.2.2.1.1.getD 0 (zl_con 0)) (h0.2.1.drop 1) with
      | some R => zk_ex HT M SU TS CT code cs ps mg dm mu k (R.map (fun Y => (y.1, y.2.1, Y)) ++ W) hs
      | none => false
    | 3 => match zk_fo2 HT y.2.2 ((h0.2.1.getD 0 []).getD 0 0) ((h0.2.1.getD 0 []).getD 1 0) ((h0.2.1.getD 0 []).getD 2 0) with
      | some Y => zk_ex HT M SU TS CT code cs ps mg dm mu k ((y.1, y.2.1, Y) :: W) hs
      | none => false
    | 7 => match zk_kno HT y.2.2 ((h0.2.1.getD 0 []).getD 0 0) (h0.2.2.1.1.getD 0 (zl_con 0)) (h0.2.1.getD 1 []) (h0.2.1.getD 2 []) with
      | some Y => zk_ex HT M SU TS CT code cs ps mg dm mu k ((y.1, y.2.1, Y) :: W) hs
      | none => false
    | 6 => zl_en y.2.2.1.2.2.2.1 y.2.2.1.2.2.2.2 (h0.2.1.getD 0 []) (zl_con (-1)) && zk_ex HT M SU TS CT code cs ps mg dm mu k W hs
    | 4 => match zk_sam y.2.2 4 h0.2.1 h0.2.2.1.1 with
      | some Y => zk_ex HT M SU TS CT code cs ps mg dm mu k ((y.1, y.2.1, Y) :: W) hs
      | none => false
    | 5 => match zk_sam y.2.2 5 h0.2.1 h0.2.2.1.1 with
      | some Y => zk_ex HT M SU TS CT code cs ps mg dm mu k ((y.1, y.2.1, Y) :: W) hs
      | none => false
    | 2 => zk_ex HT M SU TS CT code cs ps mg dm mu k ((zk_spl y.2.2 (h0.2.2.1.1.getD 0 (zl_con 0)) h0.2.1).map (fun Y => (y.1, y.2.1, Y)) ++ W) hs
    | 8 => zk_ex HT M SU TS CT code cs ps mg dm mu k ((true, y.2.1, y.2.2) :: W) hs
    | 10 => zk_ex HT M SU TS CT code cs ps mg dm mu k ((y.1, y.2.1, zk_les y.2.2 h0.2.1) :: W) hs
    | 11 => match zk_lawp HT TS y.2.2 ((h0.2.1.getD 0 []).getD 0 0) h0.2.2.1.1 (h0.2.1.drop 1) h0.2.2.1.2.1 with
      | some R => zk_ex HT M SU TS CT code cs ps mg dm mu k (R.map (fun Y => (y.1, y.2.1, Y)) ++ W) hs
      | none => false
    | 12 => match zk_cng y.2.2 ((h0.2.1.getD 0 []).getD 0 0) ((h0.2.1.getD 0 []).getD 1 0) (h0.2.1.getD 1 []) (h0.2.1.getD 2 []) with
      | some Y => zk_ex HT M SU TS CT code cs ps mg dm mu k ((y.1, y.2.1, Y) :: W) hs
      | none => false
    | 13 => match zk_vx y.2.2 (h0.2.1.getD 0 []) h0.2.2.1.1 (h0.2.1.drop 1) with
      | some Y => zk_ex HT M SU TS CT code cs ps mg dm mu k ((y.1, y.2.1, Y) :: W) hs
      | none => false
    | 9 => match zk_tel2 HT TS y.2.2 ((h0.2.1.getD 0 []).getD 0 0) (h0.2.2.1.1.getD 0 (zl_con 0)) (h0.2.2.1.1.getD 1 (zl_con 0)) (h0.2.1.drop 1) with
      | some R => zk_ex HT M SU TS CT code cs ps mg dm mu k (R.map (fun Y => (y.1, y.2.1, Y)) ++ W) hs
      | none => false
    | _ => match cond y.1 none (zk_cut cs y.2.1 ((h0.2.1.getD 1 []).getD 0 0)) with
      | some q => zk_edg2 HT TS y.2.2 q.2.1 h0.2.2.1 h0.2.2.2 && (zk_gh mg 0 h0.2.2.1.1 && (Nat.ble (zl_mx q.2.2.2) h0.2.2.1.1.length && (zl_en y.2.2.1.2.2.2.1 y.2.2.1.2.2.2.2 (h0.2.1.getD 0 []) (zl_sub (zl_sub mu (zl_subst h0.2.2.1.1 q.2.2)) (zl_con 1)) && zk_ex HT M SU TS CT code cs ps mg dm mu k W hs)))
      | none => match zk_e1 HT M SU TS CT code ps mg dm y.2.1 y.2.2 h0 with
        | some R => zk_ex HT M SU TS CT code cs ps mg dm mu k (R.map (fun Y => (false, Y.1, Y.2)) ++ W) hs
        | none => false) = true := h
    clear h
    split at hm
    · split at hm
      · rename_i R hR
        rcases List.mem_cons.mp hx with e | hx
        · subst e
          obtain ⟨Y, y1, y2, y3⟩ := zk_tel_ok hTT hR hG
          exact zk_ex_ok hTT hT hC hd hdm hP hPl hmu hmg hsg hlow k _ hs hm (x.1, x.2.1, Y) (List.mem_append_left _ (List.mem_map.mpr ⟨Y, y1, rfl⟩)) (Nat.le_trans hl y3) s f hf y2 hs0
        · exact zk_ex_ok hTT hT hC hd hdm hP hPl hmu hmg hsg hlow k _ hs hm x (List.mem_append_right _ hx) hl s f hf hG hs0
      · cases hm
    · split at hm
      · rename_i Y hY
        rcases List.mem_cons.mp hx with e | hx
        · subst e
          obtain ⟨y1, s', y2, y3⟩ := zk_fo2_ok (fun _ h => h.1) hY hG
          exact zk_ex_ok hTT hT hC hd hdm hP hPl hmu hmg hsg hlow k _ hs hm (x.1, x.2.1, Y) List.mem_cons_self (Nat.le_trans hl y1) s' f hf y2 (fun j hj => by rw [y3 j (by omega)]; exact hs0 j hj)
        · exact zk_ex_ok hTT hT hC hd hdm hP hPl hmu hmg hsg hlow k _ hs hm x (List.mem_cons_of_mem _ hx) hl s f hf hG hs0
      · cases hm
    · split at hm
      · rename_i Y hY
        rcases List.mem_cons.mp hx with e | hx
        · subst e
          obtain ⟨y1, s', y2, y3⟩ := zk_kno_ok (fun _ h => h.1) hY hG
          exact zk_ex_ok hTT hT hC hd hdm hP hPl hmu hmg hsg hlow k _ hs hm (x.1, x.2.1, Y) List.mem_cons_self (Nat.le_trans hl y1) s' f hf y2 (fun j hj => by rw [y3 j (by omega)]; exact hs0 j hj)
        · exact zk_ex_ok hTT hT hC hd hdm hP hPl hmu hmg hsg hlow k _ hs hm x (List.mem_cons_of_mem _ hx) hl s f hf hG hs0
      · cases hm
    · obtain ⟨b1, b2⟩ := zz_and hm
      rcases List.mem_cons.mp hx with e | hx
      · subst e
        have h6 := zl_en_ok hG.1.2.2.2.1 hG.1.2.2.2.2.1 b1
        rw [zl_con_ev] at h6
        omega
      · exact zk_ex_ok hTT hT hC hd hdm hP hPl hmu hmg hsg hlow k _ hs b2 x hx hl s f hf hG hs0
    · split at hm
      · rename_i Y hY
        rcases List.mem_cons.mp hx with e | hx
        · subst e
          obtain ⟨y2, y1⟩ := zk_sam_ok hY hG
          exact zk_ex_ok hTT hT hC hd hdm hP hPl hmu hmg hsg hlow k _ hs hm (x.1, x.2.1, Y) List.mem_cons_self (Nat.le_trans hl y1) s f hf y2 hs0
        · exact zk_ex_ok hTT hT hC hd hdm hP hPl hmu hmg hsg hlow k _ hs hm x (List.mem_cons_of_mem _ hx) hl s f hf hG hs0
      · cases hm
    · split at hm
      · rename_i Y hY
        rcases List.mem_cons.mp hx with e | hx
        · subst e
          obtain ⟨y2, y1⟩ := zk_sam_ok hY hG
          exact zk_ex_ok hTT hT hC hd hdm hP hPl hmu hmg hsg hlow k _ hs hm (x.1, x.2.1, Y) List.mem_cons_self (Nat.le_trans hl y1) s f hf y2 hs0
        · exact zk_ex_ok hTT hT hC hd hdm hP hPl hmu hmg hsg hlow k _ hs hm x (List.mem_cons_of_mem _ hx) hl s f hf hG hs0
      · cases hm
    · rcases List.mem_cons.mp hx with e | hx
      · subst e
        obtain ⟨Y, y1, y2, y3⟩ := zk_spl_ok (e := h0.2.2.1.1.getD 0 (zl_con 0)) (hs := h0.2.1) hG
        exact zk_ex_ok hTT hT hC hd hdm hP hPl hmu hmg hsg hlow k _ hs hm (x.1, x.2.1, Y) (List.mem_append_left _ (List.mem_map.mpr ⟨Y, y1, rfl⟩)) (Nat.le_trans hl y3) s f hf y2 hs0
      · exact zk_ex_ok hTT hT hC hd hdm hP hPl hmu hmg hsg hlow k _ hs hm x (List.mem_append_right _ hx) hl s f hf hG hs0
    · rcases List.mem_cons.mp hx with e | hx
      · subst e
        exact zk_ex_ok hTT hT hC hd hdm hP hPl hmu hmg hsg hlow k _ hs hm (true, x.2.1, x.2.2) List.mem_cons_self hl s f hf hG hs0
      · exact zk_ex_ok hTT hT hC hd hdm hP hPl hmu hmg hsg hlow k _ hs hm x (List.mem_cons_of_mem _ hx) hl s f hf hG hs0
    · rcases List.mem_cons.mp hx with e | hx
      · subst e
        exact zk_ex_ok hTT hT hC hd hdm hP hPl hmu hmg hsg hlow k _ hs hm (x.1, x.2.1, zk_les x.2.2 h0.2.1) List.mem_cons_self hl s f hf (zk_les_ok hG) hs0
      · exact zk_ex_ok hTT hT hC hd hdm hP hPl hmu hmg hsg hlow k _ hs hm x (List.mem_cons_of_mem _ hx) hl s f hf hG hs0
    · split at hm
      · rename_i R hR
        rcases List.mem_cons.mp hx with e | hx
        · subst e
          obtain ⟨Y, y1, y2, s', y3, y4⟩ := zk_lawp_ok hTT (fun _ h => h.1) hR hG
          exact zk_ex_ok hTT hT hC hd hdm hP hPl hmu hmg hsg hlow k _ hs hm (x.1, x.2.1, Y) (List.mem_append_left _ (List.mem_map.mpr ⟨Y, y1, rfl⟩)) (Nat.le_trans hl y2) s' f hf y3 (fun j hj => by rw [y4 j (by omega)]; exact hs0 j hj)
        · exact zk_ex_ok hTT hT hC hd hdm hP hPl hmu hmg hsg hlow k _ hs hm x (List.mem_append_right _ hx) hl s f hf hG hs0
      · cases hm
    · split at hm
      · rename_i Y hY
        rcases List.mem_cons.mp hx with e | hx
        · subst e
          obtain ⟨y2, y1⟩ := zk_cng_ok hY hG
          exact zk_ex_ok hTT hT hC hd hdm hP hPl hmu hmg hsg hlow k _ hs hm (x.1, x.2.1, Y) List.mem_cons_self (Nat.le_trans hl y1) s f hf y2 hs0
        · exact zk_ex_ok hTT hT hC hd hdm hP hPl hmu hmg hsg hlow k _ hs hm x (List.mem_cons_of_mem _ hx) hl s f hf hG hs0
      · cases hm
    · split at hm
      · rename_i Y hY
        rcases List.mem_cons.mp hx with e | hx
        · subst e
          obtain ⟨y2, y1⟩ := zk_vx_ok hY hG
          exact zk_ex_ok hTT hT hC hd hdm hP hPl hmu hmg hsg hlow k _ hs hm (x.1, x.2.1, Y) List.mem_cons_self (Nat.le_trans hl y1) s f hf y2 hs0
        · exact zk_ex_ok hTT hT hC hd hdm hP hPl hmu hmg hsg hlow k _ hs hm x (List.mem_cons_of_mem _ hx) hl s f hf hG hs0
      · cases hm
    · split at hm
      · rename_i R hR
        rcases List.mem_cons.mp hx with e | hx
        · subst e
          obtain ⟨Y, y1, y2, y3⟩ := zk_tel2_ok hTT hR hG
          exact zk_ex_ok hTT hT hC hd hdm hP hPl hmu hmg hsg hlow k _ hs hm (x.1, x.2.1, Y) (List.mem_append_left _ (List.mem_map.mpr ⟨Y, y1, rfl⟩)) (Nat.le_trans hl y3) s f hf y2 hs0
        · exact zk_ex_ok hTT hT hC hd hdm hP hPl hmu hmg hsg hlow k _ hs hm x (List.mem_append_right _ hx) hl s f hf hG hs0
      · cases hm
    · split at hm
      · rename_i q hq
        obtain ⟨b1, hb⟩ := zz_and hm
        obtain ⟨b2, hb⟩ := zz_and hb
        obtain ⟨b3, hb⟩ := zz_and hb
        obtain ⟨b4, b5⟩ := zz_and hb
        rcases List.mem_cons.mp hx with e | hx
        · subst e
          have hq : zk_cut cs x.2.1 ((h0.2.1.getD 1 []).getD 0 0) = some q := by
            cases hb : x.1 with
            | true => rw [hb] at hq; cases hq
            | false => rw [hb] at hq; exact hq
          obtain ⟨m1, m2⟩ := zk_cut_mem hq
          obtain ⟨e1, -⟩ := zk_edg2_ok hTT (fun _ h => h.1) b1 hG
          refine hlow q m1 _ f (by rw [m2]; exact hf) e1 (fun j hj => ?_) ?_
          · rw [zk_gh_ok (s := s) b2 j hj, Nat.zero_add, hs0 j (by omega)]
            exact hsg j hj
          · have h6 := zl_en_ok hG.1.2.2.2.1 hG.1.2.2.2.2.1 b4
            rw [zl_sub_ev, zl_sub_ev, zl_con_ev, zl_subst_ev (u := zk_u s h0.2.2.1.1) (zz_ble b3) zk_u_at, zl_ev_eq (t := s0) (n := nD) hmu hs0] at h6
            omega
        · exact zk_ex_ok hTT hT hC hd hdm hP hPl hmu hmg hsg hlow k W hs b5 x hx hl s f hf hG hs0
      · split at hm
        · rename_i R hR
          rcases List.mem_cons.mp hx with e | hx
          · subst e
            rcases zk_e1_ok (sg := sg) hTT hT hC hd hdm hR hf (zk_pv_eq hPl (fun j hj => by rw [hs0 j (by omega)]; exact hsg j hj) hP) hG (fun j hj => by rw [hs0 j (by omega)]; exact hsg j hj) with hg | ⟨s', f', q, m1, m2, m3, m4, m5, m6⟩
            · exact hg
            · exact zk_Gd_B m1 (zk_ex_ok hTT hT hC hd hdm hP hPl hmu hmg hsg hlow k _ hs hm (false, q.1, q.2) (List.mem_append_left _ (List.mem_map.mpr ⟨q, m2, rfl⟩)) (Nat.le_trans hl m5) s' f' m3 m4 (fun j hj => by rw [m6 j (by omega)]; exact hs0 j hj))
          · exact zk_ex_ok hTT hT hC hd hdm hP hPl hmu hmg hsg hlow k _ hs hm x (List.mem_append_right _ hx) hl s f hf hG hs0
        · cases hm
/-- the check of one cut frame -/
def zk_ck1 (HT : List (List zk_H)) (M : zk_M) (SU : Nat → List (Nat × Nat)) (TS : zk_TY) (CT : Nat → Option zk_Ct) (code : List (List zi)) (cs : List zk_Cu) (ps : List zk_St) (mg dm fuel : Nat) (q : zk_Cu) (hs : List zk_Hn) : Bool := match hs with
  | h0 :: hs => zl_en q.2.1.1.2.2.2.1 q.2.1.1.2.2.2.2 (h0.2.1.getD 0 []) q.2.2 && (Nat.ble (zl_mx q.2.2.2) q.2.1.1.2.2.2.1.length && (Nat.ble mg q.2.1.1.2.2.2.1.length && zk_ex HT M SU TS CT code cs ps mg dm q.2.2 fuel [(true, q.1, q.2.1)] hs))
  | _ => false
def zk_cks (HT : List (List zk_H)) (M : zk_M) (SU : Nat → List (Nat × Nat)) (TS : zk_TY) (CT : Nat → Option zk_Ct) (code : List (List zi)) (cs : List zk_Cu) (ps : List zk_St) (mg dm fuel : Nat) : List zk_Cu → List (List zk_Hn) → Bool
  | [], _ => true
  | q :: qs, h :: hs => zk_ck1 HT M SU TS CT code cs ps mg dm fuel q h && zk_cks HT M SU TS CT code cs ps mg dm fuel qs hs
  | _ :: _, [] => false
theorem zk_cks_mem : ∀ {qs : List zk_Cu} {hs : List (List zk_Hn)} {fuel : Nat}, zk_cks HT M SU TS CT code cs ps mg dm fuel qs hs = true → ∀ q ∈ qs, ∃ h, zk_ck1 HT M SU TS CT code cs ps mg dm fuel q h = true
  | [], _, _, _, q, hq => absurd hq List.not_mem_nil
  | _ :: _, [], _, h, _, _ => by cases h
  | p :: qs, h0 :: hs, fuel, h, q, hq => by
    obtain ⟨b1, b2⟩ := zz_and h
    rcases List.mem_cons.mp hq with e | hq
    · subst e
      exact ⟨h0, b1⟩
    · exact zk_cks_mem b2 q hq
theorem zk_all_cuts (hTT : zk_TT c HT PT SU TS) {fuel : Nat} {H : List (List zk_Hn)} (hT : ∀ K, zz_KS l D cl fk cy z0 sp tys G yn (fun y => Cond.code (yn y) (cn y) (ml y) (rt y) :: Ts) d K → zz_TO l Ts D cl fk cy z0 sp tys G own mn nL cc d K (zi_T code)) (hC : ∀ y q, CT y = some q → zk_CA l Ts D cl fk cy z0 sp tys G yn cn ml rt c HT PT d (y % 1000) q) (hd : zl_ev sg (zk_dep dm) ≤ (d : Int)) (hdm : zl_mx (zk_dep dm).2 ≤ mg) (hP : zk_pv sg M.2 w0.2) (hPl : M.2.all (fun p => Nat.ble (zl_mx p.2.2) mg) = true) (hck : zk_cks HT M SU TS CT code cs ps mg dm fuel cs H = true) :
    ∀ (N : Nat), ∀ q ∈ cs, ∀ (s : Nat → Int) (f : zz_F), f.1 = q.1 → zk_G2 PT (zk_J c HT M w0) s q.2.1 f → (∀ j, j < mg → s j = sg j) → zl_ev s q.2.2 < (N : Int) → zk_Gd l Ts D cl fk cy z0 sp tys G own mn nL cc d (zi_T code) PT (zk_J c HT M w0) ps mg sg f := by
  intro N
  induction N with
  | zero =>
    intro q hq s f hf hG hs hN
    obtain ⟨h, hc⟩ := zk_cks_mem hck q hq
    unfold zk_ck1 at hc
    split at hc
    · obtain ⟨b1, -⟩ := zz_and hc
      have := zl_en_ok hG.1.2.2.2.1 hG.1.2.2.2.2.1 b1
      omega
    · cases hc
  | succ N ih =>
    intro q hq s f hf hG hs hN
    obtain ⟨h, hc⟩ := zk_cks_mem hck q hq
    unfold zk_ck1 at hc
    split at hc
    · rename_i h0 hs1
      obtain ⟨b1, hb⟩ := zz_and hc
      obtain ⟨b2, hb⟩ := zz_and hb
      obtain ⟨b3, b4⟩ := zz_and hb
      exact zk_ex_ok (s0 := s) (nD := q.2.1.1.2.2.2.1.length) hTT hT hC hd hdm hP hPl (zz_ble b2) (zz_ble b3) hs (fun q2 hq2 s2 f2 a1 a2 a3 a4 => ih q2 hq2 s2 f2 a1 a2 a3 (by omega)) fuel _ hs1 b4 (true, q.1, q.2.1) List.mem_cons_self (Nat.le_refl _) s f hf hG (fun _ _ => rfl)
    · cases hc
/-- the check of a whole method -/
def zk_chk (HT : List (List zk_H)) (SU : Nat → List (Nat × Nat)) (TS : zk_TY) (CT : Nat → Option zk_Ct) (code : List (List zi)) (cs : List zk_Cu) (q : zk_Ct) (fuel nl : Nat) (h0 : List zk_Hn) (H : List (List zk_Hn)) : Bool :=
  zk_t3 q.1.1.2.1 && (q.2.2.1.2.all (fun p => Nat.ble (zl_mx p.2.2) q.1.1.2.2.2.1.length) && (Nat.ble (zk_cz q.1.1.2.1) nl && ((zl_pos q.1.1.2.2.2.1 (zl_sub (zk_dep q.2.2.2) (zl_con 1)) && (zl_pos q.1.1.2.2.2.1 (zl_sub (zl_sub (zk_dep q.2.2.2) (zl_con 1)) (zk_dep (q.2.2.2 - 1))) && Nat.ble (zl_mx (zk_dep (q.2.2.2 - 1)).2) q.1.1.2.2.2.1.length)) && (zk_ex HT q.2.2.1 SU TS CT code cs q.2.1 q.1.1.2.2.2.1.length (q.2.2.2 - 1) (zl_con 100000000000000000000000000000000000000000000000000000000000000000000000000000000000000000000000000000000000000000000000000000000000000000000000000000000000000000000000000000000000000000000000000000000) fuel [(false, 0, ((zk_ar 0 q.1.1.2.1, [], q.1.1.2.2.1, q.1.1.2.2.2.1, q.1.1.2.2.2.2), q.1.2.1, q.1.2.2))] h0 && zk_cks HT q.2.2.1 SU TS CT code cs q.2.1 q.1.1.2.2.2.1.length (q.2.2.2 - 1) fuel cs H))))
/-- one deeper than what it calls -/
theorem zk_chk_at (hTT : zk_TT c HT PT SU TS) {y nl fuel : Nat} {q : zk_Ct} {h0 : List zk_Hn} {H : List (List zk_Hn)} {Py : zz_T} (hE : Py = zi_T code) (hT : ∀ (d : Nat) (K : zz_K), zz_KS l D cl fk cy z0 sp tys G yn (fun y => Cond.code (yn y) (cn y) (ml y) (rt y) :: Ts) d K → zz_TO l Ts D cl fk cy z0 sp tys G (yn y).cls (yn y).name (ml y) (cn y) d K Py) (hR : zz_RO (cn y) (rt y) Py) (hy : plainFor (yn y) = true) (hnl : ml y = nl) {d' : Nat} (hC : ∀ y' q', CT y' = some q' → zk_CA l Ts D cl fk cy z0 sp tys G yn cn ml rt c HT PT d' (y' % 1000) q') (h : zk_chk HT SU TS CT code cs q fuel nl h0 H = true) : zk_CA l Ts D cl fk cy z0 sp tys G yn cn ml rt c HT PT (d' + 1) y q := by
  subst hE
  unfold zk_chk at h
  obtain ⟨b1, hb⟩ := zz_and h
  obtain ⟨b6, hb⟩ := zz_and hb
  obtain ⟨b2, hb⟩ := zz_and hb
  obtain ⟨b3, hb⟩ := zz_and hb
  obtain ⟨b4, b5⟩ := zz_and hb
  obtain ⟨-, b3⟩ := zz_and b3
  obtain ⟨b7, b8⟩ := zz_and b3
  intro as w s hd hG
  obtain ⟨⟨g1, g2, g3, g4, g5, g6⟩, k1, k2⟩ := hG
  have g2 : zk_st s q.1.1.2.1 as := g2
  have hd2 : zl_ev s (zk_dep (q.2.2.2 - 1)) ≤ (d' : Int) := by
    have h1 := zl_pos_ok g4 b7
    rw [zl_sub_ev, zl_sub_ev, zl_con_ev] at h1
    omega
  have hP : zk_pv s q.2.2.1.2 (q.2.2.1.2.map (fun p => (p.1, zl_ev s p.2))) := fun p hp => List.mem_map.mpr ⟨p, hp, rfl⟩
  have hcuts := zk_all_cuts (c := c) (w0 := (w, q.2.2.1.2.map (fun p => (p.1, zl_ev s p.2)))) (sg := s) (own := (yn y).cls) (mn := (yn y).name) (nL := ml y) (cc := cn y) (d := d') hTT (hT d') hC hd2 (zz_ble b8) hP b6 b5
  have hG0 : zk_G2 PT (zk_J c HT q.2.2.1 (w, q.2.2.1.2.map (fun p => (p.1, zl_ev s p.2)))) s ((zk_ar 0 q.1.1.2.1, [], q.1.1.2.2.1, q.1.1.2.2.2.1, q.1.1.2.2.2.2), q.1.2.1, q.1.2.2) (0, lv_args 0 as, [], w) := ⟨⟨zk_ar_ok b1 g2, trivial, g3, g4, g5, zk_J_rf g6⟩, k1, k2⟩
  have hgd := zk_ex_ok (c := c) (w0 := (w, q.2.2.1.2.map (fun p => (p.1, zl_ev s p.2)))) (sg := s) (own := (yn y).cls) (mn := (yn y).name) (nL := ml y) (cc := cn y) (d := d') (nD := q.1.1.2.2.2.1.length) (s0 := s) (mu := zl_con 100000000000000000000000000000000000000000000000000000000000000000000000000000000000000000000000000000000000000000000000000000000000000000000000000000000000000000000000000000000000000000000000000000000) hTT (hT d') hC hd2 (zz_ble b8) hP b6 (Nat.zero_le _) (Nat.le_refl _) (fun _ _ => rfl) (fun q2 hq2 s2 f2 a1 a2 a3 a4 => hcuts 100000000000000000000000000000000000000000000000000000000000000000000000000000000000000000000000000000000000000000000000000000000000000000000000000000000000000000000000000000000000000000000000000000000 q2 hq2 s2 f2 a1 a2 a3 (by rw [zl_con_ev] at a4; exact a4)) fuel _ h0 b4 _ List.mem_cons_self (Nat.le_refl _) s (0, lv_args 0 as, [], w) rfl hG0 (fun _ _ => rfl)
  obtain ⟨fr, s', Q, k1, k2, k3, k4, k5⟩ := hgd
  obtain ⟨pc', lv', st', w'⟩ := fr
  obtain ⟨r1, -, r3⟩ := zz_rt_ok (l := l) (z0 := z0) (sp := sp) (P := fun _ => zi_T code) (y := y) hR k2
  refine ⟨st', w', s', Q, k3, ?_, k4, k5⟩
  exact zz_M_B rfl rfl rfl rfl rfl hy (by rw [zk_cz_ok b1 g2, hnl]; exact zz_ble b2) r1 r3 k1
/-- without any depth there is nothing to show -/
theorem zk_chk_0 {y nl fuel : Nat} {q : zk_Ct} {h0 : List zk_Hn} {H : List (List zk_Hn)} (h : zk_chk HT SU TS CT code cs q fuel nl h0 H = true) : zk_CA l Ts D cl fk cy z0 sp tys G yn cn ml rt c HT PT 0 y q := by
  unfold zk_chk at h
  obtain ⟨-, hb⟩ := zz_and h
  obtain ⟨-, hb⟩ := zz_and hb
  obtain ⟨-, hb⟩ := zz_and hb
  obtain ⟨b3, -⟩ := zz_and hb
  obtain ⟨b3, -⟩ := zz_and b3
  intro as w s hd hG
  obtain ⟨⟨g1, g2, g3, g4, g5, g6⟩, k1, k2⟩ := hG
  exfalso
  have h1 := zl_pos_ok g4 b3
  rw [zl_sub_ev, zl_con_ev] at h1
  have hd : zl_ev s (zk_dep q.2.2.2) ≤ 0 := hd
  omega
theorem zk_chk_ok (hTT : zk_TT c HT PT SU TS) {y nl fuel : Nat} {q : zk_Ct} {h0 : List zk_Hn} {H : List (List zk_Hn)} {Py : zz_T} (hE : Py = zi_T code) (hT : ∀ (d : Nat) (K : zz_K), zz_KS l D cl fk cy z0 sp tys G yn (fun y => Cond.code (yn y) (cn y) (ml y) (rt y) :: Ts) d K → zz_TO l Ts D cl fk cy z0 sp tys G (yn y).cls (yn y).name (ml y) (cn y) d K Py) (hR : zz_RO (cn y) (rt y) Py) (hy : plainFor (yn y) = true) (hnl : ml y = nl) (hC : ∀ y' q', CT y' = some q' → zk_Con l Ts D cl fk cy z0 sp tys G yn cn ml rt c HT PT (y' % 1000) q') (h : zk_chk HT SU TS CT code cs q fuel nl h0 H = true) : zk_Con l Ts D cl fk cy z0 sp tys G yn cn ml rt c HT PT y q := by
  intro d
  cases d with
  | zero => exact zk_chk_0 h
  | succ d' => exact zk_chk_at hTT hE hT hR hy hnl (fun y' q' h' => hC y' q' h' d') h
/-- contracts of methods that call each other: what holds one less deep gives what holds -/
theorem zk_rec {L : List (Nat × zk_Ct)} (h0 : ∀ p ∈ L, zk_CA l Ts D cl fk cy z0 sp tys G yn cn ml rt c HT PT 0 (p.1 % 1000) p.2) (h1 : ∀ d, (∀ p ∈ L, zk_CA l Ts D cl fk cy z0 sp tys G yn cn ml rt c HT PT d (p.1 % 1000) p.2) → ∀ p ∈ L, zk_CA l Ts D cl fk cy z0 sp tys G yn cn ml rt c HT PT (d + 1) (p.1 % 1000) p.2) : ∀ p ∈ L, zk_Con l Ts D cl fk cy z0 sp tys G yn cn ml rt c HT PT (p.1 % 1000) p.2 := by
  have h : ∀ d, ∀ p ∈ L, zk_CA l Ts D cl fk cy z0 sp tys G yn cn ml rt c HT PT d (p.1 % 1000) p.2 := by
    intro d
    induction d with
    | zero => exact h0
    | succ d ih => exact h1 d ih
  exact fun p hp d => h d p hp
end ZKN
end
end
section
/-! THE CHECK in pieces: each cut frame a theorem of its own (memory) -/
noncomputable def zk_chA (HT : List (List zk_H)) (SU : Nat → List (Nat × Nat)) (TS : zk_TY) (CT : Nat → Option zk_Ct) (code : List (List zi)) (cs : List zk_Cu) (q : zk_Ct) (fuel nl : Nat) (h0 : List zk_Hn) : Bool :=
  zk_t3 q.1.1.2.1 && (q.2.2.1.2.all (fun p => Nat.ble (zl_mx p.2.2) q.1.1.2.2.2.1.length) && (Nat.ble (zk_cz q.1.1.2.1) nl && ((zl_pos q.1.1.2.2.2.1 (zl_sub (zk_dep q.2.2.2) (zl_con 1)) && (zl_pos q.1.1.2.2.2.1 (zl_sub (zl_sub (zk_dep q.2.2.2) (zl_con 1)) (zk_dep (q.2.2.2 - 1))) && Nat.ble (zl_mx (zk_dep (q.2.2.2 - 1)).2) q.1.1.2.2.2.1.length)) && zk_ex HT q.2.2.1 SU TS CT code cs q.2.1 q.1.1.2.2.2.1.length (q.2.2.2 - 1) (zl_con 100000000000000000000000000000000000000000000000000000000000000000000000000000000000000000000000000000000000000000000000000000000000000000000000000000000000000000000000000000000000000000000000000000000) fuel [(false, 0, ((zk_ar 0 q.1.1.2.1, [], q.1.1.2.2.1, q.1.1.2.2.2.1, q.1.1.2.2.2.2), q.1.2.1, q.1.2.2))] h0)))
theorem zk_chk_sp {HT : List (List zk_H)} {SU : Nat → List (Nat × Nat)} {TS : zk_TY} {CT : Nat → Option zk_Ct} {code : List (List zi)} {cs : List zk_Cu} {q : zk_Ct} {fuel nl : Nat} {h0 : List zk_Hn} {H : List (List zk_Hn)} (h1 : zk_chA HT SU TS CT code cs q fuel nl h0 = true) (h2 : zk_cks HT q.2.2.1 SU TS CT code cs q.2.1 q.1.1.2.2.2.1.length (q.2.2.2 - 1) fuel cs H = true) : zk_chk HT SU TS CT code cs q fuel nl h0 H = true := by
  unfold zk_chA at h1
  obtain ⟨b1, hb⟩ := zz_and h1
  obtain ⟨b2, hb⟩ := zz_and hb
  obtain ⟨b3, hb⟩ := zz_and hb
  obtain ⟨b4, b5⟩ := zz_and hb
  unfold zk_chk
  rw [b1, b2, b3, b4, b5, h2]
  rfl
theorem zk_cks_nil {HT : List (List zk_H)} {M : zk_M} {SU : Nat → List (Nat × Nat)} {TS : zk_TY} {CT : Nat → Option zk_Ct} {code : List (List zi)} {cs : List zk_Cu} {ps : List zk_St} {mg dm fuel : Nat} : zk_cks HT M SU TS CT code cs ps mg dm fuel [] [] = true := rfl
theorem zk_cks_cons {HT : List (List zk_H)} {M : zk_M} {SU : Nat → List (Nat × Nat)} {TS : zk_TY} {CT : Nat → Option zk_Ct} {code : List (List zi)} {cs : List zk_Cu} {ps : List zk_St} {mg dm fuel : Nat} {q : zk_Cu} {qs : List zk_Cu} {h : List zk_Hn} {hs : List (List zk_Hn)} (h1 : zk_ck1 HT M SU TS CT code cs ps mg dm fuel q h = true) (h2 : zk_cks HT M SU TS CT code cs ps mg dm fuel qs hs = true) : zk_cks HT M SU TS CT code cs ps mg dm fuel (q :: qs) (h :: hs) = true := by
  show (zk_ck1 HT M SU TS CT code cs ps mg dm fuel q h && zk_cks HT M SU TS CT code cs ps mg dm fuel qs hs) = true
  rw [h1, h2]
  rfl
end
section
/-! HINTS written as numbers: read digit by digit, below 256; nothing has to be shown of them -/
noncomputable section
def zd_n {β : Type} (n : Nat) (k : Nat → Nat → β) : β :=
  zz_fN (Nat.mod n 256) (fun d => zz_fN (Nat.div n 256) (fun r => cond (Nat.blt d 240) (k d r) (zz_fN (Nat.pow 256 (cond (Nat.beq d 255) 40 (cond (Nat.beq d 254) 72 (Nat.sub d 239)))) (fun m => zz_fN (Nat.mod r m) (fun v => zz_fN (Nat.div r m) (fun q => k v q))))))
def zd_i {β : Type} (n : Nat) (k : Int → Nat → β) : β :=
  zd_n n (fun v r => zz_fN (Nat.div v 2) (fun h => cond (Nat.beq (Nat.mod v 2) 0) (k (Int.ofNat h) r) (k (Int.negSucc h) r)))
def zd_l {α β : Type} (rd : Nat → (α → Nat → β) → β) : Nat → Nat → (List α → Nat → β) → β
  | 0, n, k => k [] n
  | m + 1, n, k => rd n (fun a r => zd_l rd m r (fun l q => k (a :: l) q))
def zd_L {α β : Type} (rd : Nat → (α → Nat → β) → β) (n : Nat) (k : List α → Nat → β) : β := zd_n n (fun m r => zd_l rd m r k)
def zd_zr : Nat → List Nat → List Nat
  | 0, l => l
  | g + 1, l => 0 :: zd_zr g l
def zd_p {β : Type} : Nat → Nat → (List Nat → Nat → β) → β
  | 0, n, k => k [] n
  | m + 1, n, k => zd_n n (fun g r => zd_n r (fun v q => zd_p m q (fun l u => k (zd_zr g (v :: l)) u)))
def zd_m {β : Type} (n : Nat) (k : List Nat → Nat → β) : β := zd_n n (fun m r => zd_p m r k)
def zd_N {β : Type} (n : Nat) (k : zl_N → Nat → β) : β :=
  zd_n n (fun v r => zz_fN (Nat.div v 2) (fun h => cond (Nat.beq (Nat.mod v 2) 0) (k (h, 0) r) (k (0, Nat.succ h) r)))
def zd_t {β : Type} (n : Nat) (k : Nat × zl_N → Nat → β) : β := zd_n n (fun i r => zd_N r (fun c q => k (i, c) q))
def zd_e {β : Type} (n : Nat) (k : zl_E → Nat → β) : β := zd_n n (fun h r => match h with
  | 0 => zd_N r (fun c q => k (c, []) q)
  | 1 => zd_n r (fun i q => k (zl_sym i) q)
  | 2 => zd_n r (fun i q => zd_N q (fun c u => k (c, [(i, 1, 0)]) u))
  | _ => zd_N r (fun c q => zd_L zd_t q (fun l u => k (c, l) u)))
def zd_g {β : Type} (n : Nat) (k : zk_Gh → Nat → β) : β := zd_n n (fun a r => zd_L zd_m r (fun l q => k (a, l) q))
def zd_c {β : Type} (n : Nat) (k : zk_Cv → Nat → β) : β := zd_n n (fun a r => zd_n r (fun b r => zd_L zd_e r (fun es r => zd_L zd_g r (fun g1 r => zd_L zd_g r (fun g2 r => zd_g r (fun g3 r => k (a, b, es, g1, g2, g3) r))))))
/-- multipliers by places: place + 65536 times how many times -/
def zd_q {β : Type} : Nat → Nat → Nat → (List Nat → Nat → β) → β
  | 0, _, n, k => k [] n
  | m + 1, p, n, k => zd_n n (fun g r => zd_n r (fun v q => zz_fN (Nat.add p g) (fun a => zz_fN (Nat.add (Nat.mul v 65536) a) (fun c => zd_q m (Nat.succ a) q (fun l u => k (c :: l) u)))))
def zd_s {β : Type} (n : Nat) (k : List Nat → Nat → β) : β := zd_n n (fun m r => cond (Nat.beq m 0) (k [] r) (zd_q m 0 r (fun l u => k (zlm_mk :: l) u)))
def zd_h {β : Type} (n : Nat) (k : zk_Hn → Nat → β) : β := zd_n n (fun t r => zd_L zd_m r (fun hs r => zd_L zd_e r (fun es r => zd_L (fun n k => cond (Nat.beq t 11) (zd_m n k) (zd_s n k)) r (fun h1 r => zd_L zd_s r (fun h2 r => zd_L zd_c r (fun cv r => k (t, hs, (es, h1, h2), cv) r))))))
def zd_H : List Nat → List zk_Hn
  | [] => []
  | n :: r => zd_L zd_h n (fun l _ => l ++ zd_H r)
end
end
section
/-! CONTRACTS by a list -/
noncomputable section
def zk_ctl (l : List (Nat × zk_Ct)) (y : Nat) : Option zk_Ct := match l with
  | [] => none
  | p :: r => cond (Nat.beq p.1 y) (some p.2) (zk_ctl r y)
theorem zk_ctl_mem {y : Nat} {q : zk_Ct} : ∀ {l : List (Nat × zk_Ct)}, zk_ctl l y = some q → (y, q) ∈ l
  | [], h => by cases h
  | p :: r, h => by
    unfold zk_ctl at h
    cases hb : Nat.beq p.1 y with
    | true =>
      rw [hb] at h
      cases h
      rw [← zz_beq hb]
      exact List.mem_cons_self
    | false =>
      rw [hb] at h
      exact List.mem_cons_of_mem _ (zk_ctl_mem h)
end
end
section
/-! ENTRIES OF TABLES as numbers, one by one, by program -/
noncomputable section
theorem zz_c2 {α β : Type} {f : β → α} {a : α} {b : β} {l : List α} {m : List β} (h : a = f b) (h2 : l = m.map f) : a :: l = (b :: m).map f := by
  rw [h, h2]
  rfl
theorem zz_cn {α β : Type} {f : β → α} : ([] : List α) = ([] : List β).map f := rfl
theorem zie_n : zz_en0 = zi_e zi_n := rfl
theorem zie_r1 : ((1, fun _ _ => none) : Nat × zz_A) = zi_e (201, [], []) := rfl
theorem zie_r2 : ((2, fun _ _ => none) : Nat × zz_A) = zi_e (202, [], []) := rfl
theorem zie_r3 : ((3, fun _ _ => none) : Nat × zz_A) = zi_e (203, [], []) := rfl
theorem zie_r4 : ((4, fun _ _ => none) : Nat × zz_A) = zi_e (204, [], []) := rfl
theorem zie_r5 : ((5, fun _ _ => none) : Nat × zz_A) = zi_e (205, [], []) := rfl
theorem zie_r6 : ((6, fun _ _ => none) : Nat × zz_A) = zi_e (206, [], []) := rfl
theorem zie_r7 : ((7, fun _ _ => none) : Nat × zz_A) = zi_e (207, [], []) := rfl
theorem zie_0 {p0 p1 : Nat} : ((0, za_const (.int (Int32.ofNat p1)) p0) : Nat × zz_A) = zi_e (0, [p0, p1], []) := rfl
theorem zie_1 {p0 p1 : Nat} : ((0, za_const (.long (Int64.ofNat p1)) p0) : Nat × zz_A) = zi_e (1, [p0, p1], []) := rfl
theorem zie_2 {p0 p1 : Nat} : ((0, za_const (.ref p1) p0) : Nat × zz_A) = zi_e (2, [p0, p1], []) := rfl
theorem zie_3 {p0 : Nat} : ((0, za_const .null p0) : Nat × zz_A) = zi_e (3, [p0], []) := rfl
theorem zie_4 {p0 p1 : Nat} : ((0, za_iload p1 p0) : Nat × zz_A) = zi_e (4, [p0, p1], []) := rfl
theorem zie_5 {p0 p1 : Nat} : ((0, za_lload p1 p0) : Nat × zz_A) = zi_e (5, [p0, p1], []) := rfl
theorem zie_6 {p0 p1 : Nat} : ((0, za_aload p1 p0) : Nat × zz_A) = zi_e (6, [p0, p1], []) := rfl
theorem zie_7 {p0 p1 : Nat} : ((0, za_istore p1 p0) : Nat × zz_A) = zi_e (7, [p0, p1], []) := rfl
theorem zie_8 {p0 p1 : Nat} : ((0, za_lstore p1 p0) : Nat × zz_A) = zi_e (8, [p0, p1], []) := rfl
theorem zie_9 {p0 p1 : Nat} : ((0, za_astore p1 p0) : Nat × zz_A) = zi_e (9, [p0, p1], []) := rfl
theorem zie_10 {p0 p1 p2 : Nat} : ((0, za_iinc p1 (Int32.ofNat p2) p0) : Nat × zz_A) = zi_e (10, [p0, p1, p2], []) := rfl
theorem zie_11 {p0 : Nat} : ((0, za_iadd p0) : Nat × zz_A) = zi_e (11, [p0], []) := rfl
theorem zie_12 {p0 : Nat} : ((0, za_isub p0) : Nat × zz_A) = zi_e (12, [p0], []) := rfl
theorem zie_13 {p0 : Nat} : ((0, za_imul p0) : Nat × zz_A) = zi_e (13, [p0], []) := rfl
theorem zie_14 {p0 : Nat} : ((0, za_iand p0) : Nat × zz_A) = zi_e (14, [p0], []) := rfl
theorem zie_15 {p0 : Nat} : ((0, za_ior p0) : Nat × zz_A) = zi_e (15, [p0], []) := rfl
theorem zie_16 {p0 : Nat} : ((0, za_ixor p0) : Nat × zz_A) = zi_e (16, [p0], []) := rfl
theorem zie_17 {p0 : Nat} : ((0, za_ishl p0) : Nat × zz_A) = zi_e (17, [p0], []) := rfl
theorem zie_18 {p0 : Nat} : ((0, za_ishr p0) : Nat × zz_A) = zi_e (18, [p0], []) := rfl
theorem zie_19 {p0 : Nat} : ((0, za_iushr p0) : Nat × zz_A) = zi_e (19, [p0], []) := rfl
theorem zie_20 {p0 : Nat} : ((0, za_irem p0) : Nat × zz_A) = zi_e (20, [p0], []) := rfl
theorem zie_21 {p0 : Nat} : ((0, za_ineg p0) : Nat × zz_A) = zi_e (21, [p0], []) := rfl
theorem zie_22 {p0 : Nat} : ((0, za_i2b p0) : Nat × zz_A) = zi_e (22, [p0], []) := rfl
theorem zie_23 {p0 : Nat} : ((0, za_i2s p0) : Nat × zz_A) = zi_e (23, [p0], []) := rfl
theorem zie_24 {p0 : Nat} : ((0, za_i2l p0) : Nat × zz_A) = zi_e (24, [p0], []) := rfl
theorem zie_25 {p0 : Nat} : ((0, za_l2i p0) : Nat × zz_A) = zi_e (25, [p0], []) := rfl
theorem zie_26 {p0 : Nat} : ((0, za_lcmp p0) : Nat × zz_A) = zi_e (26, [p0], []) := rfl
theorem zie_27 {p0 : Nat} : ((0, za_ladd p0) : Nat × zz_A) = zi_e (27, [p0], []) := rfl
theorem zie_28 {p0 : Nat} : ((0, za_lsub p0) : Nat × zz_A) = zi_e (28, [p0], []) := rfl
theorem zie_29 {p0 : Nat} : ((0, za_lmul p0) : Nat × zz_A) = zi_e (29, [p0], []) := rfl
theorem zie_30 {p0 : Nat} : ((0, za_land p0) : Nat × zz_A) = zi_e (30, [p0], []) := rfl
theorem zie_31 {p0 : Nat} : ((0, za_lor p0) : Nat × zz_A) = zi_e (31, [p0], []) := rfl
theorem zie_32 {p0 : Nat} : ((0, za_lxor p0) : Nat × zz_A) = zi_e (32, [p0], []) := rfl
theorem zie_33 {p0 : Nat} : ((0, za_lshl p0) : Nat × zz_A) = zi_e (33, [p0], []) := rfl
theorem zie_34 {p0 : Nat} : ((0, za_lshr p0) : Nat × zz_A) = zi_e (34, [p0], []) := rfl
theorem zie_35 {p0 : Nat} : ((0, za_lushr p0) : Nat × zz_A) = zi_e (35, [p0], []) := rfl
theorem zie_36 {p0 : Nat} : ((0, za_dup p0) : Nat × zz_A) = zi_e (36, [p0], []) := rfl
theorem zie_37 {p0 : Nat} : ((0, za_pop p0) : Nat × zz_A) = zi_e (37, [p0], []) := rfl
theorem zie_38 {p0 : Nat} : ((0, za_dup_x1 p0) : Nat × zz_A) = zi_e (38, [p0], []) := rfl
theorem zie_39 {p0 : Nat} : ((0, za_dup2_11 p0) : Nat × zz_A) = zi_e (39, [p0], []) := rfl
theorem zie_40 {p0 p1 : Nat} : ((0, za_if_eq p1 p0) : Nat × zz_A) = zi_e (40, [p0, p1], []) := rfl
theorem zie_41 {p0 p1 : Nat} : ((0, za_if_ne p1 p0) : Nat × zz_A) = zi_e (41, [p0, p1], []) := rfl
theorem zie_42 {p0 p1 : Nat} : ((0, za_if_lt p1 p0) : Nat × zz_A) = zi_e (42, [p0, p1], []) := rfl
theorem zie_43 {p0 p1 : Nat} : ((0, za_if_ge p1 p0) : Nat × zz_A) = zi_e (43, [p0, p1], []) := rfl
theorem zie_44 {p0 p1 : Nat} : ((0, za_if_gt p1 p0) : Nat × zz_A) = zi_e (44, [p0, p1], []) := rfl
theorem zie_45 {p0 p1 : Nat} : ((0, za_if_le p1 p0) : Nat × zz_A) = zi_e (45, [p0, p1], []) := rfl
theorem zie_46 {p0 p1 : Nat} : ((0, za_icmp_eq p1 p0) : Nat × zz_A) = zi_e (46, [p0, p1], []) := rfl
theorem zie_47 {p0 p1 : Nat} : ((0, za_icmp_ne p1 p0) : Nat × zz_A) = zi_e (47, [p0, p1], []) := rfl
theorem zie_48 {p0 p1 : Nat} : ((0, za_icmp_lt p1 p0) : Nat × zz_A) = zi_e (48, [p0, p1], []) := rfl
theorem zie_49 {p0 p1 : Nat} : ((0, za_icmp_ge p1 p0) : Nat × zz_A) = zi_e (49, [p0, p1], []) := rfl
theorem zie_50 {p0 p1 : Nat} : ((0, za_icmp_gt p1 p0) : Nat × zz_A) = zi_e (50, [p0, p1], []) := rfl
theorem zie_51 {p0 p1 : Nat} : ((0, za_icmp_le p1 p0) : Nat × zz_A) = zi_e (51, [p0, p1], []) := rfl
theorem zie_52 {p0 p1 : Nat} : ((0, za_ifnull p1 p0) : Nat × zz_A) = zi_e (52, [p0, p1], []) := rfl
theorem zie_53 {p0 p1 : Nat} : ((0, za_ifnonnull p1 p0) : Nat × zz_A) = zi_e (53, [p0, p1], []) := rfl
theorem zie_54 {p0 : Nat} : ((0, za_goto p0) : Nat × zz_A) = zi_e (54, [p0], []) := rfl
theorem zie_55 {lo hi : Int} {dt : Nat} {ts : List Nat} : ((0, za_tsw lo hi dt ts) : Nat × zz_A) = zi_e (55, dt :: ts, [(lo, 0), (hi, 0)]) := rfl
theorem zie_56 {dt : Nat} {qs : List (Int × Nat)} : ((0, za_lsw (zz_lo dt qs)) : Nat × zz_A) = zi_e (56, [dt], qs) := rfl
theorem zie_57 {p0 p1 p2 : Nat} : ((0, za_getI p1 p2 p0) : Nat × zz_A) = zi_e (57, [p0, p1, p2], []) := rfl
theorem zie_58 {p0 p1 p2 : Nat} : ((0, za_getA p1 p2 p0) : Nat × zz_A) = zi_e (58, [p0, p1, p2], []) := rfl
theorem zie_59 {p0 p1 : Nat} : ((0, za_alen p1 p0) : Nat × zz_A) = zi_e (59, [p0, p1], []) := rfl
theorem zie_60 {p0 : Nat} : ((0, za_idiv p0) : Nat × zz_A) = zi_e (60, [p0], []) := rfl
theorem zie_61 {p0 p1 p2 : Nat} : ((0, za_getL p1 p2 p0) : Nat × zz_A) = zi_e (61, [p0, p1, p2], []) := rfl
theorem zie_62 {p0 p1 : Nat} : ((0, za_aldL p1 p0) : Nat × zz_A) = zi_e (62, [p0, p1], []) := rfl
theorem zie_63 {p0 p1 : Nat} : ((0, za_aldA p1 p0) : Nat × zz_A) = zi_e (63, [p0, p1], []) := rfl
theorem zie_64 {p0 p1 : Nat} : ((0, za_aldI p1 p0) : Nat × zz_A) = zi_e (64, [p0, p1], []) := rfl
theorem zie_65 {p0 p1 p2 : Nat} : ((0, za_putI p1 p2 p0) : Nat × zz_A) = zi_e (65, [p0, p1, p2], []) := rfl
theorem zie_66 {p0 p1 p2 : Nat} : ((0, za_putZ p1 p2 p0) : Nat × zz_A) = zi_e (66, [p0, p1, p2], []) := rfl
theorem zie_67 {p0 p1 p2 : Nat} : ((0, za_putA p1 p2 p0) : Nat × zz_A) = zi_e (67, [p0, p1, p2], []) := rfl
theorem zie_68 {p0 p1 : Nat} : ((0, za_astI p1 p0) : Nat × zz_A) = zi_e (68, [p0, p1], []) := rfl
theorem zie_69 {p0 p1 : Nat} : ((0, za_astZ p1 p0) : Nat × zz_A) = zi_e (69, [p0, p1], []) := rfl
theorem zie_70 {p0 p1 : Nat} : ((0, za_astB p1 p0) : Nat × zz_A) = zi_e (70, [p0, p1], []) := rfl
theorem zie_71 {p0 p1 p2 p3 : Nat} : ((0, za_callV p1 p2 p3 p0) : Nat × zz_A) = zi_e (71, [p0, p1, p2, p3], []) := rfl
theorem zie_72 {p0 p1 p2 : Nat} : ((0, za_callS p1 p2 p0) : Nat × zz_A) = zi_e (72, [p0, p1, p2], []) := rfl
theorem zie_73 {p0 p1 : Nat} : ((0, za_astL p1 p0) : Nat × zz_A) = zi_e (73, [p0, p1], []) := rfl
theorem zie_74 {p0 : Nat} : ((0, za_ldiv p0) : Nat × zz_A) = zi_e (74, [p0], []) := rfl
theorem zie_75 {p0 : Nat} : ((0, za_lrem p0) : Nat × zz_A) = zi_e (75, [p0], []) := rfl
theorem zie_76 {p0 : Nat} : ((0, za_lneg p0) : Nat × zz_A) = zi_e (76, [p0], []) := rfl
theorem zie_77 {p0 : Nat} : ((0, za_kl (zz_ki zS2) p0) : Nat × zz_A) = zi_e (77, [p0], []) := rfl
theorem zie_78 {p0 : Nat} : ((0, za_i2c p0) : Nat × zz_A) = zi_e (78, [p0], []) := rfl
theorem zie_79 {p0 p1 p2 : Nat} : ((0, za_callK (zz_kg zS) p1 p2 p0) : Nat × zz_A) = zi_e (79, [p0, p1, p2], []) := rfl
theorem zie_80 {p0 : Nat} : ((0, za_kf (zz_kv zS) p0) : Nat × zz_A) = zi_e (80, [p0], []) := rfl
theorem zie_81 {p0 : Nat} : ((0, za_kf (zz_kc zS) p0) : Nat × zz_A) = zi_e (81, [p0], []) := rfl
theorem zie_82 {p0 : Nat} : ((0, za_kn (zz_kn zS zS2) p0) : Nat × zz_A) = zi_e (82, [p0], []) := rfl
theorem zie_83 {p0 : Nat} : ((0, za_kl (zz_kb zS) p0) : Nat × zz_A) = zi_e (83, [p0], []) := rfl
theorem zie_84 {p0 p1 p2 : Nat} : ((0, za_putL p1 p2 p0) : Nat × zz_A) = zi_e (84, [p0, p1, p2], []) := rfl
theorem zie_85 {p0 p1 : Nat} : ((0, za_copyB p1 p0) : Nat × zz_A) = zi_e (85, [p0, p1], []) := rfl
theorem zie_86 {p0 p1 : Nat} : ((0, za_copyI p1 p0) : Nat × zz_A) = zi_e (86, [p0, p1], []) := rfl
end
end
section
/-! TOKENS by a list of laws of rows -/
noncomputable section
def zk_su (p : zk_Sp) : List (Nat × Nat) := p.2.1 ++ p.1.map (fun r => (r, 999))
theorem zk_P_su {HT : List (List zk_H)} {p : zk_Sp} {w w' : zz_W} (h1 : ∀ q ∈ zk_su p, q.2 ≠ 999 → zk_fd w' q = zk_fd w q) (h2 : ∀ q ∈ zk_su p, q.2 = 999 → zz_g w' q.1 = zz_g w q.1) (h9 : p.2.1.all (fun q => !(Nat.beq q.2 999)) = true) (h : zk_P HT p w) : zk_P HT p w' := by
  intro j hj
  have e1 : zk_al w' p.1 p.2.1 j = zk_al w p.1 p.2.1 j := by
    unfold zk_al
    congr 2
    · refine List.map_congr_left (fun r hr => ?_)
      have := h2 (r, 999) (List.mem_append_right _ (List.mem_map.mpr ⟨r, hr, rfl⟩)) rfl
      unfold zk_el
      rw [this]
    · refine List.map_congr_left (fun q hq => ?_)
      rw [h1 q (List.mem_append_left _ hq) (zk_nbeq (List.all_eq_true.mp h9 q hq))]
  rw [e1]
  exact h j hj
/-- a law of two places speaks of the rows of both -/
def zk_su2 (p : zk_Sp) : List (Nat × Nat) := p.2.1 ++ ((zk_sp2 p.1).1.map (fun r => (r, 999)) ++ (zk_sp2 p.1).2.map (fun r => (r, 999)))
theorem zk_P2_su {HT : List (List zk_H)} {p : zk_Sp} {w w' : zz_W} (h1 : ∀ q ∈ zk_su2 p, q.2 ≠ 999 → zk_fd w' q = zk_fd w q) (h2 : ∀ q ∈ zk_su2 p, q.2 = 999 → zz_g w' q.1 = zz_g w q.1) (h9 : p.2.1.all (fun q => !(Nat.beq q.2 999)) = true) (h : zk_P2 HT p w) : zk_P2 HT p w' := by
  intro k j hk hj
  have e1 : zk_al2 w' (zk_sp2 p.1).1 (zk_sp2 p.1).2 p.2.1 k j = zk_al2 w (zk_sp2 p.1).1 (zk_sp2 p.1).2 p.2.1 k j := by
    unfold zk_al2 zk_a1
    congr 1
    · congr 1
      refine List.map_congr_left (fun r hr => ?_)
      have := h2 (r, 999) (List.mem_append_right _ (List.mem_append_left _ (List.mem_map.mpr ⟨r, hr, rfl⟩))) rfl
      unfold zk_el
      rw [this]
    · congr 1
      · congr 1
        refine List.map_congr_left (fun r hr => ?_)
        have := h2 (r, 999) (List.mem_append_right _ (List.mem_append_right _ (List.mem_map.mpr ⟨r, hr, rfl⟩))) rfl
        unfold zk_el
        rw [this]
      · refine List.map_congr_left (fun q hq => ?_)
        rw [h1 q (List.mem_append_left _ hq) (zk_nbeq (List.all_eq_true.mp h9 q hq))]
  rw [e1]
  exact h k j hk hj
/-- tokens: below 100 laws of one place, from 100 on laws of two -/
def zk_tsl (TL TM : List zk_Sp) (t : Nat) : Option zk_Sp := cond (Nat.blt t 100) TL[t]? (cond (Nat.blt 1099 t) TM[t - 1100]? none)
def zk_sul (TL TM : List zk_Sp) (t : Nat) : List (Nat × Nat) := cond (Nat.blt t 100) (match TL[t]? with
  | some p => zk_su p
  | none => []) (match TM[t - 100]? with
  | some p => zk_su2 p
  | none => [])
def zk_ptl (HT : List (List zk_H)) (TL TM : List zk_Sp) (t : Nat) (w : zz_W) : Prop := match Nat.blt t 100 with
  | true => (match TL[t]? with
    | some p => zk_P HT p w
    | none => True)
  | false => match TM[t - 100]? with
    | some p => zk_P2 HT p w
    | none => True
theorem zk_TTl3 {c : Nat} {HT : List (List zk_H)} {TL TM : List zk_Sp} (h : TL.all (fun p => p.2.1.all (fun q => !(Nat.beq q.2 999))) = true) (hM : TM.all (fun p => p.2.1.all (fun q => !(Nat.beq q.2 999))) = true) : (∀ t w w', zk_I c HT w → zk_I c HT w' → (∀ q ∈ zk_sul TL TM t, q.2 ≠ 999 → zk_fd w' q = zk_fd w q) → (∀ q ∈ zk_sul TL TM t, q.2 = 999 → zz_g w' q.1 = zz_g w q.1) → zk_ptl HT TL TM t w → zk_ptl HT TL TM t w') ∧ (∀ t p, t < 1000 → zk_tsl TL TM t = some p → ∀ w, zk_ptl HT TL TM t w ↔ zk_P HT p w) ∧ (∀ t p, zk_tsl TL TM (1000 + t) = some p → ∀ w, zk_ptl HT TL TM t w ↔ zk_P2 HT p w) := by
  refine ⟨fun t w w' _ _ h1 h2 hP => ?_, fun t p ht hp w => ?_, fun t p hp w => ?_⟩
  · unfold zk_ptl at hP ⊢
    unfold zk_sul at h1 h2
    cases hb : Nat.blt t 100 with
    | true =>
      rw [hb] at h1 h2 hP
      cases ht : TL[t]? with
      | none => trivial
      | some p =>
        simp only [ht] at h1 h2 hP
        exact zk_P_su h1 h2 (List.all_eq_true.mp h p (List.mem_of_getElem? ht)) hP
    | false =>
      rw [hb] at h1 h2 hP
      cases ht : TM[t - 100]? with
      | none => trivial
      | some p =>
        simp only [ht] at h1 h2 hP
        exact zk_P2_su h1 h2 (List.all_eq_true.mp hM p (List.mem_of_getElem? ht)) hP
  · unfold zk_tsl at hp
    unfold zk_ptl
    cases hb : Nat.blt t 100 with
    | true =>
      rw [hb] at hp
      have hp : TL[t]? = some p := hp
      simp only [hp]
    | false =>
      rw [hb] at hp
      have h2 : Nat.blt 1099 t = false := by
        cases h3 : Nat.blt 1099 t with
        | false => rfl
        | true => have := zz_blt h3; omega
      rw [h2] at hp
      cases hp
  · unfold zk_tsl at hp
    unfold zk_ptl
    have hb : Nat.blt (1000 + t) 100 = false := by
      cases h3 : Nat.blt (1000 + t) 100 with
      | false => rfl
      | true => have := zz_blt h3; omega
    rw [hb] at hp
    cases h2 : Nat.blt 1099 (1000 + t) with
    | false => rw [h2] at hp; cases hp
    | true =>
      rw [h2] at hp
      have h4 := zz_blt h2
      have hp : TM[1000 + t - 1100]? = some p := hp
      rw [show 1000 + t - 1100 = t - 100 by omega] at hp
      have hb2 : Nat.blt t 100 = false := by
        cases h3 : Nat.blt t 100 with
        | false => rfl
        | true => have := zz_blt h3; omega
      rw [hb2]
      simp only [hp]
/-- from 200 on: tokens of one's own -/
def zk_ptx (HT : List (List zk_H)) (TL TM : List zk_Sp) (XP : Nat → zz_W → Prop) (t : Nat) (w : zz_W) : Prop := match Nat.blt t 200 with
  | true => zk_ptl HT TL TM t w
  | false => XP t w
def zk_sux (TL TM : List zk_Sp) (XS : Nat → List (Nat × Nat)) (t : Nat) : List (Nat × Nat) := cond (Nat.blt t 200) (zk_sul TL TM t) (XS t)
theorem zk_TTx {c : Nat} {HT : List (List zk_H)} {TL TM : List zk_Sp} {XP : Nat → zz_W → Prop} {XS : Nat → List (Nat × Nat)} {WL : Nat → Option zx_W} {LL : Nat → Option zx_L} {VL : Nat → Option zx_V} (h : TL.all (fun p => p.2.1.all (fun q => !(Nat.beq q.2 999))) = true) (hM : TM.all (fun p => p.2.1.all (fun q => !(Nat.beq q.2 999))) = true) (hl : TM.length ≤ 100)
    (hX : ∀ t w w', zk_I c HT w → zk_I c HT w' → (∀ q ∈ XS t, q.2 ≠ 999 → zk_fd w' q = zk_fd w q) → (∀ q ∈ XS t, q.2 = 999 → zz_g w' q.1 = zz_g w q.1) → XP t w → XP t w') (hW : ∀ j y, WL j = some y → zx_Wok c HT (zk_ptx HT TL TM XP) y) (hL : ∀ j x, LL j = some x → zx_Lok c HT (zk_ptx HT TL TM XP) x) (hV : ∀ j y, VL j = some y → zx_Vok c HT (zk_ptx HT TL TM XP) y) : zk_TT c HT (zk_ptx HT TL TM XP) (zk_sux TL TM XS) (zk_tsl TL TM, WL, LL, VL) := by
  obtain ⟨h1, h2, h3⟩ := zk_TTl3 (c := c) (HT := HT) h hM
  refine ⟨fun t w w' a b hf hg hP => ?_, fun t p ht hp w => ?_, fun t p hp w => ?_, hW, hL, hV⟩
  · unfold zk_ptx at hP ⊢
    unfold zk_sux at hf hg
    cases hb : Nat.blt t 200 with
    | true =>
      rw [hb] at hf hg hP
      exact h1 t w w' a b hf hg hP
    | false =>
      rw [hb] at hf hg hP
      exact hX t w w' a b hf hg hP
  · have hp : zk_tsl TL TM t = some p := hp
    unfold zk_ptx
    cases hb : Nat.blt t 200 with
    | true => exact h2 t p ht hp w
    | false =>
      have h200 : ¬ t < 200 := fun hc => by rw [show Nat.blt t 200 = true from Nat.ble_eq.mpr hc] at hb; cases hb
      unfold zk_tsl at hp
      have b1 : Nat.blt t 100 = false := by
        cases h4 : Nat.blt t 100 with
        | false => rfl
        | true => have := zz_blt h4; omega
      have b2 : Nat.blt 1099 t = false := by
        cases h4 : Nat.blt 1099 t with
        | false => rfl
        | true => have := zz_blt h4; omega
      rw [b1, b2] at hp
      cases hp
  · have hp : zk_tsl TL TM (1000 + t) = some p := hp
    unfold zk_ptx
    cases hb : Nat.blt t 200 with
    | true => exact h3 t p hp w
    | false =>
      have h200 : ¬ t < 200 := fun hc => by rw [show Nat.blt t 200 = true from Nat.ble_eq.mpr hc] at hb; cases hb
      unfold zk_tsl at hp
      have b1 : Nat.blt (1000 + t) 100 = false := by
        cases h4 : Nat.blt (1000 + t) 100 with
        | false => rfl
        | true => have := zz_blt h4; omega
      have b2 : Nat.blt 1099 (1000 + t) = true := Nat.ble_eq.mpr (by omega)
      rw [b1, b2] at hp
      have hp : TM[1000 + t - 1100]? = some p := hp
      rw [List.getElem?_eq_none (by omega)] at hp
      cases hp
/-- no tokens of one's own -/
theorem zk_TTl {c : Nat} {HT : List (List zk_H)} {TL TM : List zk_Sp} (h : TL.all (fun p => p.2.1.all (fun q => !(Nat.beq q.2 999))) = true) (hM : TM.all (fun p => p.2.1.all (fun q => !(Nat.beq q.2 999))) = true) (hl : TM.length ≤ 100) : zk_TT c HT (zk_ptx HT TL TM (fun _ _ => True)) (zk_sux TL TM (fun _ => [])) (zk_tsl TL TM, fun _ => none, fun _ => none, fun _ => none) :=
  zk_TTx h hM hl (fun _ _ _ _ _ _ _ _ => trivial) (fun _ _ h => by cases h) (fun _ _ h => by cases h) (fun _ _ h => by cases h)
end
end
section
/-! NAMING: the cells 58 to 74 change names with those 17 k on; a contract that was shown for the first unit holds for all -/
noncomputable section
theorem zz_Met_mono {l : Launch} {y : MethodName} {ws : List Cond} {rm : Room} {Pc Pc' : Array Value → State → Prop} {Qc Qc' : Array Value → State → Outcome → State → Prop} {mc ms : Nat} {free : Addr → Prop} (h : Met l y ws rm Pc Qc mc ms free) (hp : ∀ a s, Pc' a s → Pc a s) (hq : ∀ a s o t, Qc a s o t → Qc' a s o t) : Met l y ws rm Pc' Qc' mc ms free := by
  intro p e ha hc hk s m args below hf happ hP hK
  obtain ⟨n, o, h1, h2, h3, h4⟩ := h p e ha hc hk s m args below hf happ (hp _ _ hP) hK
  exact ⟨n, o, h1, h2, h3, hq _ _ _ _ h4.1, h4.2⟩
def zz_spk (k : Nat) (sp : Nat → Nat) : Nat → Nat := fun i => if i = 18446744073709551616 then k else sp i
theorem zz_spk_k {k : Nat} {sp : Nat → Nat} : zz_spk k sp 18446744073709551616 = k := if_pos rfl
theorem zz_spk_o {k i : Nat} {sp : Nat → Nat} (h : i ≠ 18446744073709551616) : zz_spk k sp i = sp i := if_neg h
/-- two namings, k apart -/
def zz_nm (k : Nat) (sp1 sp2 : Nat → Nat) : Prop := (∀ i, zz_sw (sp2 18446744073709551616) (zz_sw k i) = zz_sw (sp1 18446744073709551616) i) ∧ ∀ i, i ≠ 18446744073709551616 → sp2 i = sp1 i
theorem zz_nm_1 {k : Nat} {sp : Nat → Nat} (h : sp 18446744073709551616 = 0) : zz_nm k sp (zz_spk k sp) := ⟨fun i => by rw [zz_spk_k, h, zz_sw_sw, zz_sw_0], fun i hi => zz_spk_o hi⟩
theorem zz_nm_2 {k : Nat} {sp : Nat → Nat} (h : sp 18446744073709551616 = 0) : zz_nm k (zz_spk k sp) sp := ⟨fun i => by rw [zz_spk_k, h, zz_sw_0], fun i hi => (zz_spk_o hi).symm⟩
theorem zz_sw_lt {k i n : Nat} (hk : k ≤ 5) (hn : 160 ≤ n) (h : i < n) : zz_sw k i < n := by
  by_cases h1 : 58 ≤ i ∧ i < 75
  · rw [zz_sw_a h1]
    omega
  · by_cases h2 : 58 + 17 * k ≤ i ∧ i < 75 + 17 * k
    · rw [zz_sw_b h1 h2]
      omega
    · rw [zz_sw_c h1 h2]
      exact h
/-- a reference by the other naming; a number that stands for one -/
def zz_ri (k i : Nat) : Nat := if i < 1000000 then zz_sw k i else i
theorem zz_ri_ri {k i : Nat} (hk : k ≤ 5) : zz_ri k (zz_ri k i) = i := by
  by_cases h : i < 1000000
  · have e : zz_ri k i = zz_sw k i := if_pos h
    have h2 := zz_sw_lt hk (n := 1000000) (by decide) h
    have e2 : zz_ri k (zz_sw k i) = zz_sw k (zz_sw k i) := if_pos h2
    rw [e, e2, zz_sw_sw]
  · have e : zz_ri k i = i := if_neg h
    rw [e, e]
theorem zz_ri_lt {k i M : Nat} (hk : k ≤ 5) (hM : 1000000 ≤ M) (h : i < M) : zz_ri k i < M := by
  by_cases h1 : i < 1000000
  · have e : zz_ri k i = zz_sw k i := if_pos h1
    have h2 := zz_sw_lt hk (n := 1000000) (by decide) h1
    rw [e]
    omega
  · have e : zz_ri k i = i := if_neg h1
    rw [e]
    exact h
theorem zz_r_ri {k z0 i : Nat} {sp1 sp2 : Nat → Nat} (hk : k ≤ 5) (hn : zz_nm k sp1 sp2) (hi : i < 18446744073709551616) : zz_r z0 sp2 (zz_ri k i) = zz_r z0 sp1 i := by
  by_cases h : i < 1000000
  · have e : zz_ri k i = zz_sw k i := if_pos h
    have h2 := zz_sw_lt hk (n := 1000000) (by decide) h
    rw [e, zz_rm h2, zz_rm h]
    show z0 + zz_sw (sp2 18446744073709551616) (zz_sw k i) = z0 + zz_sw (sp1 18446744073709551616) i
    rw [hn.1]
  · have e : zz_ri k i = i := if_neg h
    rw [e]
    unfold zz_r
    rw [if_neg h, if_neg h, hn.2 _ (by omega)]
def zz_rfn (k n : Nat) : Nat := if n = 0 then 0 else zz_ri k (n - 1) + 1
theorem zz_rfn_0 {k : Nat} : zz_rfn k 0 = 0 := if_pos rfl
theorem zz_rfn_s {k n : Nat} : zz_rfn k (n + 1) = zz_ri k n + 1 := if_neg (Nat.succ_ne_zero n)
theorem zz_rfn_rf {k n : Nat} (hk : k ≤ 5) : zz_rfn k (zz_rfn k n) = n := by
  cases n with
  | zero => rw [zz_rfn_0, zz_rfn_0]
  | succ n => rw [zz_rfn_s, zz_rfn_s, zz_ri_ri hk]
theorem zz_rfn_lt {k n M : Nat} (hk : k ≤ 5) (hM : 1000000 < M) (h : n < M) : zz_rfn k n < M := by
  cases n with
  | zero =>
    rw [zz_rfn_0]
    omega
  | succ n =>
    rw [zz_rfn_s]
    have := zz_ri_lt (k := k) (i := n) (M := M - 1) hk (by omega) (by omega)
    omega
theorem zz_o_rfn {k z0 n : Nat} {sp1 sp2 : Nat → Nat} (hk : k ≤ 5) (hn : zz_nm k sp1 sp2) (h : n < 18446744073709551616) : zz_o z0 sp2 (zz_rfn k n) = zz_o z0 sp1 n := by
  cases n with
  | zero =>
    rw [zz_rfn_0]
    rfl
  | succ n =>
    rw [zz_rfn_s]
    unfold zz_o
    rw [if_neg (Nat.succ_ne_zero _), if_neg (Nat.succ_ne_zero _)]
    show some (zz_r z0 sp2 (zz_ri k n)) = some (zz_r z0 sp1 n)
    rw [zz_r_ri hk hn (by omega)]
/-- values -/
def zz_rv (k : Nat) (v : Value) : Value := match v with
  | .ref i => .ref (zz_ri k i)
  | x => x
theorem zz_v_rv {k z0 : Nat} {sp1 sp2 : Nat → Nat} (hk : k ≤ 5) (hn : zz_nm k sp1 sp2) {v : Value} (hv : ∀ i, v = .ref i → i < 18446744073709551616) : zz_v z0 sp2 (zz_rv k v) = zz_v z0 sp1 v := by
  cases v with
  | ref i =>
    show Value.ref (zz_r z0 sp2 (zz_ri k i)) = Value.ref (zz_r z0 sp1 i)
    rw [zz_r_ri hk hn (hv i rfl)]
  | retAddr n =>
    show (if sp2 2000000 = 0 then Value.null else .ref (sp2 2000000 - 1)) = (if sp1 2000000 = 0 then Value.null else .ref (sp1 2000000 - 1))
    rw [hn.2 2000000 (by decide)]
  | _ => rfl
def zz_g3 (fk : Nat → Nat → Nat) (k ci j x : Nat) : Nat := if fk ci j = 0 ∨ fk ci j = 1 then x else zz_rfn k x
theorem zz_g3_0 {fk : Nat → Nat → Nat} {k ci j : Nat} : zz_g3 fk k ci j 0 = 0 := by
  unfold zz_g3
  split
  · rfl
  · exact zz_rfn_0
theorem zz_g3_g3 {fk : Nat → Nat → Nat} {k ci j x : Nat} (hk : k ≤ 5) : zz_g3 fk k ci j (zz_g3 fk k ci j x) = x := by
  unfold zz_g3
  by_cases h : fk ci j = 0 ∨ fk ci j = 1
  · rw [if_pos h, if_pos h]
  · rw [if_neg h, if_neg h, zz_rfn_rf hk]
theorem zz_g3_lt {fk : Nat → Nat → Nat} {k ci j x : Nat} (hk : k ≤ 5) (hx : x < 2 ^ 64) : zz_g3 fk k ci j x < 2 ^ 64 := by
  unfold zz_g3
  split
  · exact hx
  · exact zz_rfn_lt hk (by decide) hx
theorem zz_v_g3 {fk : Nat → Nat → Nat} {k z0 ci j x : Nat} {sp1 sp2 : Nat → Nat} (hk : k ≤ 5) (hn : zz_nm k sp1 sp2) (hx : x < 2 ^ 64) : zz_v z0 sp2 (zz_av (fk ci j) (zz_g3 fk k ci j x)) = zz_v z0 sp1 (zz_av (fk ci j) x) := by
  unfold zz_g3 zz_av
  by_cases h0 : fk ci j = 0
  · rw [if_pos (Or.inl h0), if_pos h0]
    rfl
  · by_cases h1 : fk ci j = 1
    · rw [if_pos (Or.inr h1), if_neg h0, if_pos h1]
      rfl
    · have hh : ¬ (fk ci j = 0 ∨ fk ci j = 1) := fun h => Or.elim h h0 h1
      rw [if_neg hh, if_neg h0, if_neg h1, if_neg h0, if_neg h1]
      cases x with
      | zero =>
        rw [zz_rfn_0, if_pos rfl]
        rfl
      | succ x =>
        rw [zz_rfn_s, if_neg (Nat.succ_ne_zero _), if_neg (Nat.succ_ne_zero _)]
        exact zz_v_rv (v := .ref x) hk hn (fun i hi => by
          have h9 : x < 18446744073709551616 := by omega
          injection hi with hi
          rw [← hi]
          exact h9)
/-- each slot of a number by g -/
def zz_mpn (b : Nat) (g : Nat → Nat → Nat) (N : Nat) : Nat → Nat
  | 0 => N
  | n + 1 => zz_to b (zz_mpn b g N n) n (g n (zz_at b N n))
def zz_mp (b : Nat) (g : Nat → Nat → Nat) (N : Nat) : Nat := zz_mpn b g N (N + 1)
theorem zz_at_mpn {b N : Nat} {g : Nat → Nat → Nat} (hg : ∀ j x, x < 2 ^ b → g j x < 2 ^ b) (j : Nat) : ∀ n, zz_at b (zz_mpn b g N n) j = if j < n then g j (zz_at b N j) else zz_at b N j
  | 0 => by
    rw [if_neg (Nat.not_lt_zero _)]
    rfl
  | n + 1 => by
    show zz_at b (zz_to b (zz_mpn b g N n) n (g n (zz_at b N n))) j = _
    rw [zz_at_to (hg _ _ (zz_at_lt _ _ _)), zz_at_mpn hg j n]
    by_cases h : j = n
    · rw [if_pos h, if_pos (by omega), h]
    · rw [if_neg h]
      by_cases h2 : j < n
      · rw [if_pos h2, if_pos (by omega)]
      · rw [if_neg h2, if_neg (by omega)]
theorem zz_at_big {b N j : Nat} (hb : 0 < b) (h : N < j) : zz_at b N j = 0 := by
  have h1 : N < 2 ^ (b * j) := Nat.lt_of_lt_of_le (Nat.lt_two_pow_self) (Nat.pow_le_pow_right (by decide) (Nat.le_trans (Nat.le_of_lt h) (Nat.le_mul_of_pos_left j hb)))
  unfold zz_at
  rw [Nat.shiftRight_eq_div_pow, Nat.div_eq_of_lt h1, Nat.zero_mod]
theorem zz_at_mp {b N : Nat} {g : Nat → Nat → Nat} (hb : 0 < b) (hg : ∀ j x, x < 2 ^ b → g j x < 2 ^ b) (h0 : ∀ j, g j 0 = 0) (j : Nat) : zz_at b (zz_mp b g N) j = g j (zz_at b N j) := by
  unfold zz_mp
  rw [zz_at_mpn hg]
  by_cases h : j < N + 1
  · rw [if_pos h]
  · rw [if_neg h, zz_at_big hb (by omega), h0]
theorem zz_at_ext {b N M : Nat} (hb : 0 < b) (h : ∀ j, zz_at b N j = zz_at b M j) : N = M := by
  refine Nat.eq_of_testBit_eq (fun t => ?_)
  have h1 := congrArg (fun x => x.testBit (t % b)) (h (t / b))
  have h1 : (zz_at b N (t / b)).testBit (t % b) = (zz_at b M (t / b)).testBit (t % b) := h1
  rw [zz_at_bit, zz_at_bit, decide_eq_true (Nat.mod_lt t hb), Nat.div_add_mod] at h1
  exact h1
theorem zz_mp_mp {b N : Nat} {g : Nat → Nat → Nat} (hb : 0 < b) (hg : ∀ j x, x < 2 ^ b → g j x < 2 ^ b) (h0 : ∀ j, g j 0 = 0) (hi : ∀ j x, g j (g j x) = x) : zz_mp b g (zz_mp b g N) = N :=
  zz_at_ext hb (fun j => by rw [zz_at_mp hb hg h0, zz_at_mp hb hg h0, hi])
/-- cells -/
def zz_rc (fk : Nat → Nat → Nat) (k : Nat) (c : zz_C) : zz_C := if c.1 = 0 then c else if c.1 = 1 then c else if c.1 = 2 then (c.1, c.2.1, c.2.2.1, zz_mp 32 (fun _ => zz_rfn k) c.2.2.2) else (c.1, c.2.1, c.2.2.1, zz_mp 64 (zz_g3 fk k c.2.1) c.2.2.2)
theorem zz_rc_k {fk : Nat → Nat → Nat} {k : Nat} {c : zz_C} (h : c.1 < 2) : zz_rc fk k c = c := by
  unfold zz_rc
  by_cases h0 : c.1 = 0
  · rw [if_pos h0]
  · rw [if_neg h0, if_pos (by omega)]
theorem zz_rc_2 {fk : Nat → Nat → Nat} {k : Nat} {c : zz_C} (h : c.1 = 2) : zz_rc fk k c = (c.1, c.2.1, c.2.2.1, zz_mp 32 (fun _ => zz_rfn k) c.2.2.2) := by
  unfold zz_rc
  rw [if_neg (by omega), if_neg (by omega), if_pos h]
theorem zz_rc_3 {fk : Nat → Nat → Nat} {k : Nat} {c : zz_C} (h : 2 < c.1) : zz_rc fk k c = (c.1, c.2.1, c.2.2.1, zz_mp 64 (zz_g3 fk k c.2.1) c.2.2.2) := by
  unfold zz_rc
  rw [if_neg (by omega), if_neg (by omega), if_neg (by omega)]
theorem zz_rc_k3 {fk : Nat → Nat → Nat} {k : Nat} {c : zz_C} : zk_k3 (zz_rc fk k c) = zk_k3 c := by
  rcases (show c.1 < 2 ∨ c.1 = 2 ∨ 2 < c.1 by omega) with h | h | h
  · rw [zz_rc_k h]
  · rw [zz_rc_2 h]
    rfl
  · rw [zz_rc_3 h]
    rfl
theorem zz_f32 {k : Nat} (hk : k ≤ 5) : ∀ j x : Nat, x < 2 ^ 32 → (fun _ => zz_rfn k : Nat → Nat → Nat) j x < 2 ^ 32 := fun _ _ hx => zz_rfn_lt hk (by decide) hx
theorem zz_rc_rc {fk : Nat → Nat → Nat} {k : Nat} {c : zz_C} (hk : k ≤ 5) : zz_rc fk k (zz_rc fk k c) = c := by
  rcases (show c.1 < 2 ∨ c.1 = 2 ∨ 2 < c.1 by omega) with h | h | h
  · rw [zz_rc_k h, zz_rc_k h]
  · rw [zz_rc_2 h, zz_rc_2 (show (c.1, c.2.1, c.2.2.1, zz_mp 32 (fun _ => zz_rfn k) c.2.2.2).1 = 2 from h)]
    show (c.1, c.2.1, c.2.2.1, zz_mp 32 (fun _ => zz_rfn k) (zz_mp 32 (fun _ => zz_rfn k) c.2.2.2)) = c
    rw [zz_mp_mp (by decide) (zz_f32 hk) (fun _ => zz_rfn_0) (fun _ _ => zz_rfn_rf hk)]
  · rw [zz_rc_3 h, zz_rc_3 (show 2 < (c.1, c.2.1, c.2.2.1, zz_mp 64 (zz_g3 fk k c.2.1) c.2.2.2).1 from h)]
    show (c.1, c.2.1, c.2.2.1, zz_mp 64 (zz_g3 fk k c.2.1) (zz_mp 64 (zz_g3 fk k c.2.1) c.2.2.2)) = c
    rw [zz_mp_mp (g := zz_g3 fk k c.2.1) (by decide) (fun _ _ hx => zz_g3_lt hk hx) (fun _ => zz_g3_0) (fun _ _ => zz_g3_g3 hk)]
theorem zz_e_rc {fk : Nat → Nat → Nat} {cy : Nat → ClassId} {k z0 : Nat} {sp1 sp2 : Nat → Nat} (hk : k ≤ 5) (hn : zz_nm k sp1 sp2) (c : zz_C) : zz_e fk cy z0 sp2 (zz_rc fk k c) = zz_e fk cy z0 sp1 c := by
  rcases (show c.1 = 0 ∨ c.1 = 1 ∨ c.1 = 2 ∨ 2 < c.1 by omega) with h | h | h | h
  · rw [zz_rc_k (by omega)]
    unfold zz_e
    rw [if_pos h, if_pos h]
  · rw [zz_rc_k (by omega)]
    unfold zz_e
    rw [if_neg (by omega), if_pos h, if_neg (by omega), if_pos h]
  · rw [zz_rc_2 h]
    unfold zz_e
    rw [if_neg (show ¬ (c.1, c.2.1, c.2.2.1, zz_mp 32 (fun _ => zz_rfn k) c.2.2.2).1 = 0 by show ¬ c.1 = 0; omega), if_neg (show ¬ (c.1, c.2.1, c.2.2.1, zz_mp 32 (fun _ => zz_rfn k) c.2.2.2).1 = 1 by show ¬ c.1 = 1; omega), if_pos (show (c.1, c.2.1, c.2.2.1, zz_mp 32 (fun _ => zz_rfn k) c.2.2.2).1 = 2 from h), if_neg (show ¬ c.1 = 0 by omega), if_neg (show ¬ c.1 = 1 by omega), if_pos h]
    have e : (fun j => zz_o z0 sp2 (zz_at 32 (zz_mp 32 (fun _ => zz_rfn k) c.2.2.2) j)) = fun j => zz_o z0 sp1 (zz_at 32 c.2.2.2 j) := by
      funext j
      rw [zz_at_mp (by decide) (zz_f32 hk) (fun _ => zz_rfn_0), zz_o_rfn hk hn (Nat.lt_of_lt_of_le (zz_at_lt 32 _ _) (by decide))]
    show (Sum.inl (cy c.2.1, c.2.2.1, .inr (.inr (.inr (.inr (fun j => zz_o z0 sp2 (zz_at 32 (zz_mp 32 (fun _ => zz_rfn k) c.2.2.2) j)))))) : va_E) = _
    rw [e]
  · rw [zz_rc_3 h]
    unfold zz_e
    rw [if_neg (show ¬ (c.1, c.2.1, c.2.2.1, zz_mp 64 (zz_g3 fk k c.2.1) c.2.2.2).1 = 0 by show ¬ c.1 = 0; omega), if_neg (show ¬ (c.1, c.2.1, c.2.2.1, zz_mp 64 (zz_g3 fk k c.2.1) c.2.2.2).1 = 1 by show ¬ c.1 = 1; omega), if_neg (show ¬ (c.1, c.2.1, c.2.2.1, zz_mp 64 (zz_g3 fk k c.2.1) c.2.2.2).1 = 2 by show ¬ c.1 = 2; omega), if_neg (show ¬ c.1 = 0 by omega), if_neg (show ¬ c.1 = 1 by omega), if_neg (show ¬ c.1 = 2 by omega)]
    have e : (fun j => zz_v z0 sp2 (zz_av (fk c.2.1 j) (zz_at 64 (zz_mp 64 (zz_g3 fk k c.2.1) c.2.2.2) j))) = fun j => zz_v z0 sp1 (zz_av (fk c.2.1 j) (zz_at 64 c.2.2.2 j)) := by
      funext j
      rw [zz_at_mp (by decide) (fun _ _ hx => zz_g3_lt hk hx) (fun _ => zz_g3_0), zz_v_g3 hk hn (zz_at_lt 64 _ _)]
    show (Sum.inr (c.2.1, (List.range c.2.2.1).map (fun j => zz_v z0 sp2 (zz_av (fk c.2.1 j) (zz_at 64 (zz_mp 64 (zz_g3 fk k c.2.1) c.2.2.2) j)))) : va_E) = _
    rw [e]
/-- worlds -/
def zz_rw (fk : Nat → Nat → Nat) (k : Nat) (w : zz_W) : zz_W := (w.1, w.2.1, (List.range 64).map (fun a => (List.range 16).map (fun b => zz_rc fk k (zz_g w (zz_sw k (16 * a + b))))))
theorem zz_rw_g {fk : Nat → Nat → Nat} {k : Nat} {w : zz_W} {i : Nat} (h : i < 1024) : zz_g (zz_rw fk k w) i = zz_rc fk k (zz_g w (zz_sw k i)) := by
  have e : ((List.range 64).map (fun a => (List.range 16).map (fun b => zz_rc fk k (zz_g w (zz_sw k (16 * a + b)))))).getD (i / 16) [] = (List.range 16).map (fun b => zz_rc fk k (zz_g w (zz_sw k (16 * (i / 16) + b)))) := by
    rw [List.getD_eq_getElem?_getD, List.getElem?_map, List.getElem?_range (by omega)]
    rfl
  show (((List.range 64).map (fun a => (List.range 16).map (fun b => zz_rc fk k (zz_g w (zz_sw k (16 * a + b)))))).getD (i / 16) []).getD (i % 16) zz_c0 = _
  rw [e]
  rw [List.getD_eq_getElem?_getD, List.getElem?_map, List.getElem?_range (by omega)]
  show zz_rc fk k (zz_g w (zz_sw k (16 * (i / 16) + i % 16))) = _
  rw [Nat.div_add_mod]
theorem zz_rw_sh {fk : Nat → Nat → Nat} {k : Nat} {w : zz_W} : zk_sh 64 (zz_rw fk k w) := by
  refine ⟨?_, fun i hi => ?_⟩
  · show ((List.range 64).map _).length = 64
    rw [List.length_map, List.length_range]
  · show (((List.range 64).map (fun a => (List.range 16).map (fun b => zz_rc fk k (zz_g w (zz_sw k (16 * a + b)))))).getD i []).length = 16
    rw [List.getD_eq_getElem?_getD, List.getElem?_map, List.getElem?_range hi]
    show ((List.range 16).map _).length = 16
    rw [List.length_map, List.length_range]
theorem zz_I_rw {D : va_G} {cl : List vw_C} {fk : Nat → Nat → Nat} {cy : Nat → ClassId} {k z0 : Nat} {sp1 sp2 : Nat → Nat} {w : zz_W} {H : Heap} (hk : k ≤ 5) (hn : zz_nm k sp1 sp2) (h1 : 160 ≤ w.1) (h2 : w.1 ≤ 1024) (hI : zz_I D cl fk cy z0 sp1 w H) : zz_I D cl fk cy z0 sp2 (zz_rw fk k w) H := by
  refine ⟨hI.1, fun i q hq => ?_⟩
  obtain ⟨hl, rfl⟩ := zz_ws_at hq
  have hl : i < w.1 := hl
  have h3 := zz_I_at hI (i := zz_sw k i) (zz_sw_lt hk h1 hl)
  have e : zz_ad z0 sp2 i = zz_ad z0 sp1 (zz_sw k i) := by
    show z0 + zz_sw (sp2 18446744073709551616) i = z0 + zz_sw (sp1 18446744073709551616) (zz_sw k i)
    rw [← hn.1 (zz_sw k i), zz_sw_sw]
  rw [zz_rw_g (by omega), zz_e_rc hk hn, e]
  exact h3
end
end
section
/-! NAMING, on: tables, states, contracts -/
noncomputable section
/-- h' is h by the other naming: no rows of references -/
def zk_hf (fk : Nat → Nat → Nat) (k ci : Nat) : Nat → List (Nat × Nat × Int × Int) → List (Nat × Nat × Int × Int) → Bool
  | _, [], [] => true
  | j, a :: as, b :: bs => (Nat.beq a.1 b.1 && (cond (Nat.beq a.1 0) (decide (a.2.2 = b.2.2) && Nat.beq (fk ci j) 0) (cond (Nat.beq a.1 2) (Nat.beq b.2.1 (zz_rfn k a.2.1) && Nat.blt 1 (fk ci j)) true))) && zk_hf fk k ci (j + 1) as bs
  | _, _, _ => false
theorem zk_hf_at {fk : Nat → Nat → Nat} {k ci : Nat} : ∀ {as bs : List (Nat × Nat × Int × Int)} {j0 j : Nat} {a : Nat × Nat × Int × Int}, zk_hf fk k ci j0 as bs = true → as[j]? = some a → ∃ b, bs[j]? = some b ∧ a.1 = b.1 ∧ (a.1 = 0 → a.2.2 = b.2.2 ∧ fk ci (j0 + j) = 0) ∧ (a.1 = 2 → b.2.1 = zz_rfn k a.2.1 ∧ 1 < fk ci (j0 + j))
  | [], _, _, _, _, _, h => by cases h
  | _ :: _, [], _, _, _, h, _ => by cases h
  | x :: as, y :: bs, j0, 0, a, h, ha => by
    cases ha
    obtain ⟨h1, -⟩ := zz_and h
    obtain ⟨h2, h3⟩ := zz_and h1
    refine ⟨y, rfl, zz_beq h2, fun h0 => ?_, fun h0 => ?_⟩
    · rw [h0] at h3
      obtain ⟨h4, h5⟩ := zz_and (show (decide (x.2.2 = y.2.2) && Nat.beq (fk ci j0) 0) = true from h3)
      exact ⟨of_decide_eq_true h4, zz_beq h5⟩
    · rw [h0] at h3
      obtain ⟨h4, h5⟩ := zz_and (show (Nat.beq y.2.1 (zz_rfn k x.2.1) && Nat.blt 1 (fk ci j0)) = true from h3)
      exact ⟨zz_beq h4, zz_blt h5⟩
  | x :: as, y :: bs, j0, j + 1, a, h, ha => by
    obtain ⟨-, h2⟩ := zz_and h
    obtain ⟨b, b1, b2, b3, b4⟩ := zk_hf_at (j := j) h2 ha
    rw [show j0 + 1 + j = j0 + (j + 1) by omega] at b3 b4
    exact ⟨b, b1, b2, b3, b4⟩
def zk_hs (fk : Nat → Nat → Nat) (k : Nat) (h h' : zk_H) : Bool := (Nat.beq h'.1 h.1 && (Nat.beq h'.2.1 h.2.1 && Nat.beq h'.2.2.1 h.2.2.1)) && cond (Nat.blt h.1 2) (decide (h'.2.2.2 = h.2.2.2)) (cond (Nat.beq h.1 3) (zk_hf fk k h.2.1 0 h.2.2.2.2.2 h'.2.2.2.2.2) (Nat.beq h.1 9))
theorem zk_Hok_rc {fk : Nat → Nat → Nat} {k : Nat} {h h' : zk_H} {c : zz_C} (hk : k ≤ 5) (hs : zk_hs fk k h h' = true) (h9 : h.1 ≠ 9) (hok : zk_Hok h' c) : zk_Hok h (zz_rc fk k c) := by
  obtain ⟨b1, b2⟩ := zz_and hs
  obtain ⟨b3, b4⟩ := zz_and b1
  obtain ⟨b4, b5⟩ := zz_and b4
  have b3 := zz_beq b3
  have b4 := zz_beq b4
  have b5 := zz_beq b5
  obtain ⟨o1, o2, o3, o4, o5, o6, o7⟩ := hok
  cases hb : Nat.blt h.1 2 with
  | true =>
    rw [hb] at b2
    have e := of_decide_eq_true (show decide (h'.2.2.2 = h.2.2.2) = true from b2)
    have hlt := zz_blt hb
    rw [zz_rc_k (by omega)]
    have eh : h' = h := by
      obtain ⟨x1, x2, x3, x4⟩ := h
      obtain ⟨y1, y2, y3, y4⟩ := h'
      have b3 : y1 = x1 := b3
      have b4 : y2 = x2 := b4
      have b5 : y3 = x3 := b5
      have e : y4 = x4 := e
      rw [b3, b4, b5, e]
    rw [← eh]
    exact ⟨o1, o2, o3, o4, o5, o6, o7⟩
  | false =>
    rw [hb] at b2
    have b2 : cond (Nat.beq h.1 3) (zk_hf fk k h.2.1 0 h.2.2.2.2.2 h'.2.2.2.2.2) (Nat.beq h.1 9) = true := b2
    cases hb3 : Nat.beq h.1 3 with
    | false =>
      rw [hb3] at b2
      exact absurd (zz_beq (show Nat.beq h.1 9 = true from b2)) h9
    | true =>
      rw [hb3] at b2
      have b2 : zk_hf fk k h.2.1 0 h.2.2.2.2.2 h'.2.2.2.2.2 = true := b2
      have h3 := zz_beq hb3
      have hc3 : c.1 = 3 := by omega
      rw [zz_rc_3 (by omega)]
      refine ⟨o1.trans b3, o2.trans b4, o3.trans b5, fun h0 => ?_, fun h2 => ?_, fun _ j q hq => ?_, fun h1 => ?_⟩
      · omega
      · omega
      · obtain ⟨b, c1, c2, c3, c4⟩ := zk_hf_at b2 hq
        have o6 := o6 (by omega) j b c1
        show (q.1 = 0 → q.2.2.1 ≤ (Int32.ofNat (zz_at 64 (zz_mp 64 (zz_g3 fk k c.2.1) c.2.2.2) j)).toInt ∧ (Int32.ofNat (zz_at 64 (zz_mp 64 (zz_g3 fk k c.2.1) c.2.2.2) j)).toInt ≤ q.2.2.2) ∧ (q.1 = 2 → zz_at 64 (zz_mp 64 (zz_g3 fk k c.2.1) c.2.2.2) j = q.2.1)
        rw [zz_at_mp (by decide) (fun _ _ hx => zz_g3_lt hk hx) (fun _ => zz_g3_0)]
        have ec : c.2.1 = h.2.1 := o2.trans b4
        refine ⟨fun h0 => ?_, fun h0 => ?_⟩
        · obtain ⟨c5, c6⟩ := c3 h0
          rw [Nat.zero_add] at c6
          unfold zz_g3
          rw [ec, if_pos (Or.inl c6), c5]
          exact o6.1 (by omega)
        · obtain ⟨c5, c6⟩ := c4 h0
          rw [Nat.zero_add] at c6
          unfold zz_g3
          rw [ec, if_neg (by omega), o6.2 (by omega), c5, zz_rfn_rf hk]
      · omega
def zk_sym (fk : Nat → Nat → Nat) (k : Nat) (HU : List (List zk_H)) : Bool := Nat.ble HU.length 64 && (List.range 1024).all (fun i => zk_hs fk k (zk_h HU i) (zk_h HU (zz_sw k i)))
theorem zk_h_out {HU : List (List zk_H)} {i : Nat} (hl : HU.length ≤ 64) (h : 1024 ≤ i) : zk_h HU i = zk_h0 := by
  unfold zk_h
  rw [List.getD_eq_getElem?_getD (l := HU), List.getElem?_eq_none (by omega)]
  rfl
theorem zk_sym_at {fk : Nat → Nat → Nat} {k : Nat} {HU : List (List zk_H)} {i : Nat} (hs : zk_sym fk k HU = true) (h9 : (zk_h HU i).1 ≠ 9) : i < 1024 ∧ zk_hs fk k (zk_h HU i) (zk_h HU (zz_sw k i)) = true := by
  obtain ⟨h1, h2⟩ := zz_and hs
  have hi : i < 1024 := Classical.byContradiction (fun hn => h9 (by rw [zk_h_out (zz_ble h1) (by omega)]; rfl))
  exact ⟨hi, List.all_eq_true.mp h2 i (List.mem_range.mpr hi)⟩
theorem zk_hs_1 {fk : Nat → Nat → Nat} {k : Nat} {h h' : zk_H} (hs : zk_hs fk k h h' = true) : h'.1 = h.1 := zz_beq (zz_and (zz_and hs).1).1
theorem zk_I_rw {fk : Nat → Nat → Nat} {k : Nat} {HU : List (List zk_H)} {w : zz_W} (hk : k ≤ 5) (hs : zk_sym fk k HU = true) (h1 : 160 ≤ w.1) (hI : zk_I 64 HU w) : zk_I 64 HU (zz_rw fk k w) := by
  refine ⟨zz_rw_sh, hI.2.1, hI.2.2.1, fun i h9 => ?_⟩
  obtain ⟨hi, h2⟩ := zk_sym_at hs h9
  obtain ⟨h3, h4⟩ := hI.2.2.2 (zz_sw k i) (by rw [zk_hs_1 h2]; exact h9)
  refine ⟨?_, ?_⟩
  · show i < w.1
    have := zz_sw_lt hk h1 h3
    rw [zz_sw_sw] at this
    exact this
  · rw [zz_rw_g hi]
    exact zk_Hok_rc hk h2 h9 h4
/-- rows and functions -/
def zk_nr (k r : Nat) : Nat := cond (Nat.blt r 1000000) (zz_sw k r) (cond (Nat.beq r 2000015) (2000020 + k) (cond (Nat.beq r 2000019) (2000025 + k) (cond (Nat.beq r 2000031) (2000031 + k) (cond (Nat.beq r 2000037) (2000037 + k) (cond ((zk_rws r).all (fun x => Nat.beq (zz_sw k x) x)) r (r + 1000 * k))))))
def zk_okr (HU : List (List zk_H)) (k r : Nat) : Bool := (zk_rws r).all (fun x => Nat.blt x 1024 && (Nat.blt (zk_h HU x).1 2 && Nat.blt (zk_h HU (zz_sw k x)).1 2)) && (Nat.blt r 1000000 || (Nat.beq r 2000015 || (Nat.beq r 2000019 || (Nat.beq r 2000031 || (Nat.beq r 2000037 || ((zk_rws r).all (fun x => Nat.beq (zz_sw k x) x) || (Nat.ble 2000200 r && Nat.blt r 2001200)))))))
theorem zk_k_lt {HU : List (List zk_H)} {w : zz_W} {x : Nat} (hI : zk_I 64 HU w) (h : (zk_h HU x).1 < 2) : (zz_g w x).1 < 2 := by
  have h1 := (hI.2.2.2 x (by omega)).2.1
  omega
theorem zz_rw_k {fk : Nat → Nat → Nat} {k : Nat} {HU : List (List zk_H)} {w : zz_W} {x : Nat} (hI : zk_I 64 HU w) (hx : x < 1024) (h : (zk_h HU (zz_sw k x)).1 < 2) : zz_g (zz_rw fk k w) x = zz_g w (zz_sw k x) := by
  rw [zz_rw_g hx, zz_rc_k (zk_k_lt hI h)]
theorem zk_f_rw {w w' : zz_W} {r r' : Nat} (h : zz_g w' r = zz_g w r') : zh_f w' r = zh_f w r' := by
  funext i
  unfold zh_f zk_el
  rw [h]
theorem zk_e_rw {w w' : zz_W} {r r' : Nat} (h : zz_g w' r = zz_g w r') : zh_e w' r = zh_e w r' := by
  funext i
  unfold zh_e zk_el
  rw [h]
theorem zz_sw_n {k i : Nat} (h : i < 58) : zz_sw k i = i := by
  unfold zz_sw
  rw [if_neg (by omega), if_neg (by omega)]
theorem zu_ex_nm {k : Nat} {w w' : zz_W} : ∀ {s : List (Nat × zl_E)} {l : List Int}, (∀ x ∈ s.map (fun q => q.1), zz_g w' x = zz_g w (zz_sw k x)) → zu_ex w (s.map (fun q => (zz_sw k q.1, q.2))) l = zu_ex w' s l
  | [], _, _ => rfl
  | q :: s, l, h => by
    have e : ∀ x, zk_el w' q.1 x = zk_el w (zz_sw k q.1) x := fun x => by
      unfold zk_el
      rw [h q.1 List.mem_cons_self]
    show zu_ex w (s.map (fun q => (zz_sw k q.1, q.2))) (l ++ [zk_el w (zz_sw k q.1) (zl_ev (fun m => l.getD m 0) q.2)]) = zu_ex w' s (l ++ [zk_el w' q.1 (zl_ev (fun m => l.getD m 0) q.2)])
    rw [e]
    exact zu_ex_nm (fun x hx => h x (List.mem_cons_of_mem _ hx))
theorem zu_P_nm {k : Nat} {w w' : zz_W} {p : zu_Sp} {ps : List Int} (h : ∀ x ∈ p.1.map (fun q => q.1), zz_g w' x = zz_g w (zz_sw k x)) : zu_P (zu_nm k p) w ps = zu_P p w' ps := by
  have e : ∀ l : List Int, zu_ex w (p.1.map (fun q => (zz_sw k q.1, q.2))) l = zu_ex w' p.1 l := fun l => zu_ex_nm h
  show (∀ ix : List Int, zu_ix p.2.1 ix → ∃ d ∈ p.2.2.2, zk_cs (fun m => (zu_ex w (p.1.map (fun q => (zz_sw k q.1, q.2))) (ix ++ ps)).getD m 0) d) = _
  simp only [e]
  rfl
theorem zk_blt_f {a b : Nat} (h : b ≤ a) : Nat.blt a b = false := zv_bltF h
/-- what a row or function says in w' is what the other says in w: w' has the rows of w by their other names -/
theorem zk_xe_nm {HU : List (List zk_H)} {k r : Nat} {j : Int} {w w' : zz_W} (hk1 : 1 ≤ k) (hk : k ≤ 5) (ho : zk_okr HU k r = true) (hg : ∀ x ∈ zk_rws r, zz_g w' x = zz_g w (zz_sw k x)) : zk_xe w' r j = zk_xe w (zk_nr k r) j := by
  obtain ⟨-, h2⟩ := zz_and ho
  unfold zk_nr
  cases h1 : Nat.blt r 1000000 with
  | true =>
    have hr := zz_blt h1
    have hs := zz_sw_lt hk (n := 1000000) (by decide) hr
    rw [zk_cT rfl, zk_xe_r h1, zk_xe_r (Nat.ble_eq.mpr hs)]
    unfold zk_el
    rw [hg r (by rw [zk_rws_i1 h1]; exact List.mem_cons_self)]
  | false =>
    rw [zk_cF rfl]
    cases h15 : Nat.beq r 2000015 with
    | true =>
      rw [zk_cT rfl]
      have e := zz_beq h15
      subst e
      have e1 := zk_f_rw (hg 61 List.mem_cons_self)
      rw [zz_sw_a (by omega)] at e1
      rw [show (2000015 : Nat) = 2000000 + 15 from rfl, zk_xe_h, show 2000000 + 20 + k = 2000000 + (20 + k) by omega, zk_xe_h]
      show zh_b (zh_its (zh_f w' 61) j) = _
      rw [e1]
      rcases (show k = 1 ∨ k = 2 ∨ k = 3 ∨ k = 4 ∨ k = 5 by omega) with e | e | e | e | e <;> subst e <;> rfl
    | false =>
      rw [zk_cF rfl]
      cases h19 : Nat.beq r 2000019 with
      | true =>
        rw [zk_cT rfl]
        have e := zz_beq h19
        subst e
        have e1 := zk_f_rw (hg 60 List.mem_cons_self)
        rw [zz_sw_a (by omega)] at e1
        rw [show (2000019 : Nat) = 2000000 + 19 from rfl, zk_xe_h, show 2000000 + 25 + k = 2000000 + (25 + k) by omega, zk_xe_h]
        show zh_b (zh_lns (zh_f w' 60) j) = _
        rw [e1]
        rcases (show k = 1 ∨ k = 2 ∨ k = 3 ∨ k = 4 ∨ k = 5 by omega) with e | e | e | e | e <;> subst e <;> rfl
      | false =>
        rw [zk_cF rfl]
        cases h31 : Nat.beq r 2000031 with
        | true =>
          rw [zk_cT rfl]
          have e := zz_beq h31
          subst e
          have e1 := zk_e_rw (hg 61 List.mem_cons_self)
          rw [zz_sw_a (by omega)] at e1
          have e2 := zk_e_rw (hg 20 (List.mem_cons_of_mem _ List.mem_cons_self))
          rw [zz_sw_n (by omega)] at e2
          have e3 := zk_e_rw (hg 22 (List.mem_cons_of_mem _ (List.mem_cons_of_mem _ List.mem_cons_self)))
          rw [zz_sw_n (by omega)] at e3
          rw [show (2000031 : Nat) = 2000000 + 31 from rfl, zk_xe_h, show 2000000 + 31 + k = 2000000 + (31 + k) by omega, zk_xe_h]
          show zh_b (zg_sg (zh_e w' 61) (zh_e w' 20) (zh_e w' 22) j) = _
          rw [e1, e2, e3]
          rcases (show k = 1 ∨ k = 2 ∨ k = 3 ∨ k = 4 ∨ k = 5 by omega) with e | e | e | e | e <;> subst e <;> rfl
        | false =>
          rw [zk_cF rfl]
          cases h37 : Nat.beq r 2000037 with
          | true =>
            rw [zk_cT rfl]
            have e := zz_beq h37
            subst e
            have e1 := zk_e_rw (hg 61 List.mem_cons_self)
            rw [zz_sw_a (by omega)] at e1
            have e2 := zk_e_rw (hg 62 (List.mem_cons_of_mem _ List.mem_cons_self))
            rw [zz_sw_a (by omega)] at e2
            have e3 := zk_e_rw (hg 64 (List.mem_cons_of_mem _ (List.mem_cons_of_mem _ List.mem_cons_self)))
            rw [zz_sw_a (by omega)] at e3
            rw [show (2000037 : Nat) = 2000000 + 37 from rfl, zk_xe_h, show 2000000 + 37 + k = 2000000 + (37 + k) by omega, zk_xe_h]
            show zh_b (zg_dr (zh_e w' 61) (zh_e w' 62) (zh_e w' 64) j) = _
            rw [e1, e2, e3]
            rcases (show k = 1 ∨ k = 2 ∨ k = 3 ∨ k = 4 ∨ k = 5 by omega) with e | e | e | e | e <;> subst e <;> rfl
          | false =>
            rw [zk_cF rfl]
            cases hf : (zk_rws r).all (fun x => Nat.beq (zz_sw k x) x) with
            | true =>
              rw [zk_cT rfl]
              exact zk_xe_g (fun x hx => by rw [hg x hx, zz_beq (List.all_eq_true.mp hf x hx)])
            | false =>
              rw [zk_cF rfl]
              rw [h1, h15, h19, h31, h37, hf] at h2
              obtain ⟨h3, h4⟩ := zz_and (show (Nat.ble 2000200 r && Nat.blt r 2001200) = true from h2)
              have h3 := zz_ble h3
              have h4 := zz_blt h4
              obtain ⟨t, rfl⟩ : ∃ t, r = 2000000 + (200 + t) := ⟨r - 2000200, by omega⟩
              have hz : zk_rws (2000000 + (200 + t)) = (zu_T t).1.map (fun q => q.1) := by
                rw [zk_rws_i3 (zk_blt_f (by omega)) (zk_blt_f (by omega)), Nat.add_sub_cancel_left]
                unfold zv_HR
                rw [zv_bltF (show 100 ≤ 200 + t by omega), zv_bltF (show 200 ≤ 200 + t by omega), zv_cF, zv_cF, Nat.add_sub_cancel_left]
              rw [hz] at hg
              have ht : zu_T (1000 * k + t) = zu_nm k (zu_T t) := by
                unfold zu_T
                rw [zv_bltF (show 1000 ≤ 1000 * k + t by omega), show Nat.blt t 1000 = true from Nat.ble_eq.mpr (by omega), zv_cF, zv_cT, show (1000 * k + t) / 1000 = k by omega, show (1000 * k + t) % 1000 = t by omega]
              rw [show 2000000 + (200 + t) + 1000 * k = 2000000 + (200 + (1000 * k + t)) by omega, zk_xe_h, zk_xe_h, zv_H_u, zv_H_u, ht, zu_P_nm hg]
              rfl
/-- states -/
def zk_rV (k : Nat) (a : zk_V) : zk_V := cond (Nat.beq a.1 2) (2, zz_ri k a.2.1, a.2.2) a
def zk_okV (a : zk_V) : Bool := Nat.ble a.1 3 && Nat.blt a.2.1 1000000000000
theorem zk_rV_1 {k : Nat} {a : zk_V} : (zk_rV k a).1 = a.1 := by
  unfold zk_rV
  cases hb : Nat.beq a.1 2 with
  | true => exact (zz_beq hb).symm
  | false => rfl
theorem zk_rV_n {k : Nat} {a : zk_V} (h : a.1 ≠ 2) : zk_rV k a = a := by
  unfold zk_rV
  cases hb : Nat.beq a.1 2 with
  | true => exact absurd (zz_beq hb) h
  | false => rfl
theorem zk_rV_2 {k : Nat} {a : zk_V} (h : a.1 = 2) : (zk_rV k a).2.1 = zz_ri k a.2.1 := by
  unfold zk_rV
  cases hb : Nat.beq a.1 2 with
  | true => rfl
  | false =>
    rw [h] at hb
    cases hb
theorem zz_rv_i {k : Nat} {x : Int32} : zz_rv k (.int x) = .int x := rfl
/-- a value, and the value by the other naming -/
theorem zk_v_A {s : Nat → Int} {k : Nat} {a : zk_V} {v : Value} (h : zk_v s a v) (ho : zk_okV a = true) : zk_v s (zk_rV k a) (zz_rv k v) := by
  have h3 := zz_ble (zz_and ho).1
  by_cases h2 : a.1 = 2
  · have e := h.2.2.1 h2
    subst e
    refine ⟨fun hh => ?_, fun hh => ?_, fun _ => ?_, fun hh => ?_⟩
    · rw [zk_rV_1] at hh
      omega
    · rw [zk_rV_1] at hh
      omega
    · rw [zk_rV_2 h2]
      rfl
    · rw [zk_rV_1] at hh
      omega
  · rw [zk_rV_n h2]
    have e : zz_rv k v = v := by
      rcases (show a.1 = 0 ∨ a.1 = 1 ∨ a.1 = 3 by omega) with hh | hh | hh
      · obtain ⟨x, e, -⟩ := h.1 hh
        rw [e]
        rfl
      · obtain ⟨x, e, -⟩ := h.2.1 hh
        rw [e]
        rfl
      · rw [h.2.2.2 hh]
        rfl
    rw [e]
    exact h
theorem zk_v_B {s : Nat → Int} {k : Nat} {a : zk_V} {v : Value} (hk : k ≤ 5) (h : zk_v s (zk_rV k a) v) (ho : zk_okV a = true) : zk_v s a (zz_rv k v) := by
  have h3 := zz_ble (zz_and ho).1
  by_cases h2 : a.1 = 2
  · have e := h.2.2.1 (by rw [zk_rV_1]; exact h2)
    rw [zk_rV_2 h2] at e
    subst e
    refine ⟨fun hh => by omega, fun hh => by omega, fun _ => ?_, fun hh => by omega⟩
    show Value.ref (zz_ri k (zz_ri k a.2.1)) = _
    rw [zz_ri_ri hk]
  · rw [zk_rV_n h2] at h
    have e : zz_rv k v = v := by
      rcases (show a.1 = 0 ∨ a.1 = 1 ∨ a.1 = 3 by omega) with hh | hh | hh
      · obtain ⟨x, e, -⟩ := h.1 hh
        rw [e]
        rfl
      · obtain ⟨x, e, -⟩ := h.2.1 hh
        rw [e]
        rfl
      · rw [h.2.2.2 hh]
        rfl
    rw [e]
    exact h
theorem zk_v_ref_lt {s : Nat → Int} {a : zk_V} {v : Value} (h : zk_v s a v) (ho : zk_okV a = true) : ∀ i, v = .ref i → i < 18446744073709551616 := by
  intro i e
  obtain ⟨h1, h2⟩ := zz_and ho
  have h1 := zz_ble h1
  have h2 := zz_blt h2
  rcases (show a.1 = 0 ∨ a.1 = 1 ∨ a.1 = 2 ∨ a.1 = 3 by omega) with hh | hh | hh | hh
  · obtain ⟨x, e2, -⟩ := h.1 hh
    rw [e] at e2
    cases e2
  · obtain ⟨x, e2, -⟩ := h.2.1 hh
    rw [e] at e2
    cases e2
  · have e2 := h.2.2.1 hh
    rw [e] at e2
    injection e2 with e2
    rw [e2]
    exact Nat.lt_trans h2 (by decide)
  · have e2 := h.2.2.2 hh
    rw [e] at e2
    cases e2
theorem zk_st_A {s : Nat → Int} {k : Nat} : ∀ {T : List zk_V} {vs : List Value}, T.all zk_okV = true → zk_st s T vs → zk_st s (T.map (zk_rV k)) (vs.map (zz_rv k))
  | [], [], _, _ => trivial
  | [], _ :: _, _, h => h.elim
  | _ :: _, [], _, h => h.elim
  | a :: T, v :: vs, ho, h => by
    rw [List.all_cons] at ho
    obtain ⟨h1, h2⟩ := zz_and ho
    exact ⟨zk_v_A h.1 h1, zk_st_A h2 h.2⟩
theorem zk_st_B {s : Nat → Int} {k : Nat} (hk : k ≤ 5) : ∀ {T : List zk_V} {vs : List Value}, T.all zk_okV = true → zk_st s (T.map (zk_rV k)) vs → zk_st s T (vs.map (zz_rv k))
  | [], [], _, _ => trivial
  | [], _ :: _, _, h => h.elim
  | _ :: _, [], _, h => h.elim
  | a :: T, v :: vs, ho, h => by
    rw [List.all_cons] at ho
    obtain ⟨h1, h2⟩ := zz_and ho
    exact ⟨zk_v_B hk h.1 h1, zk_st_B hk h2 h.2⟩
theorem zk_st_sv {s : Nat → Int} {k z0 : Nat} {sp1 sp2 : Nat → Nat} (hk : k ≤ 5) (hn : zz_nm k sp1 sp2) : ∀ {T : List zk_V} {vs : List Value}, T.all zk_okV = true → zk_st s T vs → zz_sv z0 sp2 (vs.map (zz_rv k)) = zz_sv z0 sp1 vs
  | [], [], _, _ => rfl
  | [], _ :: _, _, h => h.elim
  | _ :: _, [], _, h => h.elim
  | a :: T, v :: vs, ho, h => by
    rw [List.all_cons] at ho
    obtain ⟨h1, h2⟩ := zz_and ho
    show zz_v z0 sp2 (zz_rv k v) :: zz_sv z0 sp2 (vs.map (zz_rv k)) = zz_v z0 sp1 v :: zz_sv z0 sp1 vs
    rw [zz_v_rv hk hn (zk_v_ref_lt h.1 h1), zk_st_sv hk hn h2 h.2]
theorem zk_okV_r {k : Nat} {a : zk_V} (hk : k ≤ 5) (h : zk_okV a = true) : zk_okV (zk_rV k a) = true := by
  obtain ⟨h1, h2⟩ := zz_and h
  by_cases e : a.1 = 2
  · refine zv_and ?_ ?_
    · rw [zk_rV_1]
      exact h1
    · rw [zk_rV_2 e]
      exact Nat.ble_eq.mpr (zz_ri_lt hk (by decide) (zz_blt h2))
  · rw [zk_rV_n e]
    exact h
/-- fields -/
def zk_okF (fk : Nat → Nat → Nat) (HU : List (List zk_H)) (q : (Nat × Nat) × zk_V) : Bool := (Nat.beq (zk_h HU q.1.1).1 3 && zk_okV q.2) && cond (Nat.beq q.2.1 0) (Nat.beq (fk (zk_h HU q.1.1).2.1 q.1.2) 0) (Nat.blt 1 (fk (zk_h HU q.1.1).2.1 q.1.2) && Nat.blt 1 q.2.1)
theorem zk_fd_rw {fk : Nat → Nat → Nat} {k i j : Nat} {w : zz_W} (hk : k ≤ 5) (hi : i < 1024) (h3 : (zz_g w (zz_sw k i)).1 = 3) : zk_fd (zz_rw fk k w) (i, j) = zz_g3 fk k (zz_g w (zz_sw k i)).2.1 j (zk_fd w (zz_sw k i, j)) := by
  unfold zk_fd
  show zz_at 64 (zz_g (zz_rw fk k w) i).2.2.2 j = _
  rw [zz_rw_g hi, zz_rc_3 (by omega)]
  show zz_at 64 (zz_mp 64 _ _) j = _
  rw [zz_at_mp (by decide) (fun _ _ hx => zz_g3_lt hk hx) (fun _ => zz_g3_0)]
theorem zk_n_g3 {s : Nat → Int} {fk : Nat → Nat → Nat} {k ci j n : Nat} {a : zk_V} (ho : cond (Nat.beq a.1 0) (Nat.beq (fk ci j) 0) (Nat.blt 1 (fk ci j) && Nat.blt 1 a.1) = true) (h : zk_n s a n) : zk_n s (zk_rV k a) (zz_g3 fk k ci j n) := by
  unfold zz_g3
  cases hb : Nat.beq a.1 0 with
  | true =>
    rw [hb] at ho
    have e := zz_beq hb
    rw [if_pos (Or.inl (zz_beq (show Nat.beq (fk ci j) 0 = true from ho))), zk_rV_n (by omega)]
    exact h
  | false =>
    rw [hb] at ho
    obtain ⟨h1, h2⟩ := zz_and (show (Nat.blt 1 (fk ci j) && Nat.blt 1 a.1) = true from ho)
    have h1 := zz_blt h1
    have h2 := zz_blt h2
    rw [if_neg (by omega)]
    refine ⟨fun hh => ?_, fun hh => ?_, fun hh => ?_⟩
    · rw [zk_rV_1] at hh
      omega
    · rw [zk_rV_1] at hh
      rw [h.2.1 hh, zk_rV_2 hh, zz_rfn_s]
    · rw [zk_rV_1] at hh
      rw [h.2.2 hh, zz_rfn_0]
theorem zk_rV_rV {k : Nat} {a : zk_V} (hk : k ≤ 5) : zk_rV k (zk_rV k a) = a := by
  by_cases e : a.1 = 2
  · obtain ⟨x, y, z⟩ := a
    have e : x = 2 := e
    subst e
    show (2, zz_ri k (zz_ri k y), z) = (2, y, z)
    rw [zz_ri_ri hk]
  · rw [zk_rV_n e, zk_rV_n e]
def zk_rF1 (k : Nat) (q : (Nat × Nat) × zk_V) : (Nat × Nat) × zk_V := ((zz_sw k q.1.1, q.1.2), zk_rV k q.2)
theorem zk_fl_A {s : Nat → Int} {fk : Nat → Nat → Nat} {HU : List (List zk_H)} {k : Nat} {w : zz_W} {F : List ((Nat × Nat) × zk_V)} (hk : k ≤ 5) (hs : zk_sym fk k HU = true) (hI : zk_I 64 HU w) (ho : F.all (zk_okF fk HU) = true) (h : zk_fl s F w) : zk_fl s (F.map (zk_rF1 k)) (zz_rw fk k w) := by
  intro q hq
  obtain ⟨p, p1, p2⟩ := List.mem_map.mp hq
  subst p2
  obtain ⟨h1, h2⟩ := zz_and (List.all_eq_true.mp ho p p1)
  obtain ⟨h3, h4⟩ := zz_and h1
  have h3 := zz_beq h3
  obtain ⟨hi, -⟩ := zk_sym_at hs (i := p.1.1) (by omega)
  have hok := (hI.2.2.2 p.1.1 (by omega)).2
  have hc : (zz_g w p.1.1).2.1 = (zk_h HU p.1.1).2.1 := hok.2.1
  have hk3 : (zz_g w p.1.1).1 = 3 := hok.1.trans h3
  show zk_n s (zk_rV k p.2) (zk_fd (zz_rw fk k w) (zz_sw k p.1.1, p.1.2))
  rw [zk_fd_rw hk (zz_sw_lt hk (by decide) hi) (by rw [zz_sw_sw]; exact hk3), zz_sw_sw, hc]
  exact zk_n_g3 h2 (h p p1)
theorem zk_fl_B {s : Nat → Int} {fk : Nat → Nat → Nat} {HU : List (List zk_H)} {k : Nat} {w : zz_W} {F : List ((Nat × Nat) × zk_V)} (hk : k ≤ 5) (hs : zk_sym fk k HU = true) (hI : zk_I 64 HU w) (ho : F.all (zk_okF fk HU) = true) (h : zk_fl s (F.map (zk_rF1 k)) w) : zk_fl s F (zz_rw fk k w) := by
  intro p p1
  obtain ⟨h1, h2⟩ := zz_and (List.all_eq_true.mp ho p p1)
  obtain ⟨h3, h4⟩ := zz_and h1
  have h3 := zz_beq h3
  obtain ⟨hi, hs1⟩ := zk_sym_at hs (i := p.1.1) (by omega)
  obtain ⟨e1, -⟩ := zz_and hs1
  obtain ⟨e2, e3⟩ := zz_and e1
  have e2 := zz_beq e2
  have e3 := zz_beq (zz_and e3).1
  have hok := (hI.2.2.2 (zz_sw k p.1.1) (by omega)).2
  have hc : (zz_g w (zz_sw k p.1.1)).2.1 = (zk_h HU p.1.1).2.1 := hok.2.1.trans e3
  have hk3 : (zz_g w (zz_sw k p.1.1)).1 = 3 := by
    have := hok.1
    omega
  rw [zk_fd_rw (i := p.1.1) (j := p.1.2) hk hi hk3, hc]
  have h5 := h _ (List.mem_map.mpr ⟨p, p1, rfl⟩)
  have h5 : zk_n s (zk_rV k p.2) (zk_fd w (zz_sw k p.1.1, p.1.2)) := h5
  have h6 := zk_n_g3 (k := k) (fk := fk) (ci := (zk_h HU p.1.1).2.1) (j := p.1.2) (a := zk_rV k p.2) (by rw [zk_rV_1]; exact h2) h5
  rw [zk_rV_rV hk] at h6
  exact h6
/-- elements -/
def zk_rE1 (k : Nat) (x : zk_E1) : zk_E1 := (zk_nr k x.1, x.2.1, x.2.2)
theorem zk_okr_at {HU : List (List zk_H)} {k r x : Nat} (h : zk_okr HU k r = true) (hx : x ∈ zk_rws r) : x < 1024 ∧ (zk_h HU x).1 < 2 ∧ (zk_h HU (zz_sw k x)).1 < 2 := by
  obtain ⟨h1, -⟩ := zz_and h
  obtain ⟨h2, h3⟩ := zz_and (List.all_eq_true.mp h1 x hx)
  obtain ⟨h3, h4⟩ := zz_and h3
  exact ⟨zz_blt h2, zz_blt h3, zz_blt h4⟩
theorem zk_eF_B {s : Nat → Int} {fk : Nat → Nat → Nat} {HU : List (List zk_H)} {k : Nat} {w : zz_W} {E : List zk_E1} (hk1 : 1 ≤ k) (hk : k ≤ 5) (hI : zk_I 64 HU w) (ho : E.all (fun x => zk_okr HU k x.1) = true) (h : zk_eF s (E.map (zk_rE1 k)) w) : zk_eF s E (zz_rw fk k w) := by
  intro x hx
  have h1 := h _ (List.mem_map.mpr ⟨x, hx, rfl⟩)
  have h1 : 0 ≤ zl_ev s x.2.1 ∧ zk_xe w (zk_nr k x.1) (zl_ev s x.2.1) = zl_ev s x.2.2 := h1
  have ho := List.all_eq_true.mp ho x hx
  refine ⟨h1.1, ?_⟩
  rw [zk_xe_nm hk1 hk ho (fun y hy => ?_)]
  · exact h1.2
  · obtain ⟨o1, o2, o3⟩ := zk_okr_at ho hy
    exact zz_rw_k hI o1 o3
theorem zk_eF_A {s : Nat → Int} {fk : Nat → Nat → Nat} {HU : List (List zk_H)} {k : Nat} {w : zz_W} {E : List zk_E1} (hk1 : 1 ≤ k) (hk : k ≤ 5) (hI : zk_I 64 HU w) (ho : E.all (fun x => zk_okr HU k x.1) = true) (h : zk_eF s E w) : zk_eF s (E.map (zk_rE1 k)) (zz_rw fk k w) := by
  intro y hy
  obtain ⟨x, hx, e⟩ := List.mem_map.mp hy
  subst e
  have h1 := h x hx
  have ho := List.all_eq_true.mp ho x hx
  refine ⟨h1.1, ?_⟩
  show zk_xe (zz_rw fk k w) (zk_nr k x.1) (zl_ev s x.2.1) = zl_ev s x.2.2
  rw [← zk_xe_nm (w' := w) hk1 hk ho (fun y hy => ?_)]
  · exact h1.2
  · obtain ⟨o1, o2, o3⟩ := zk_okr_at ho hy
    rw [zz_rw_k hI (zz_sw_lt hk (by decide) o1) (by rw [zz_sw_sw]; exact o2), zz_sw_sw]
end
end
section
/-! NAMING, on: contracts -/
noncomputable section
def zk_rX (k : Nat) (X : zk_St) : zk_St := ((X.1.1, X.1.2.1.map (zk_rV k), X.1.2.2.1.map (zk_rF1 k), X.1.2.2.2.1, X.1.2.2.2.2), X.2.1.map (zk_rE1 k), X.2.2)
def zk_rM1 (k : Nat) (p : Nat × Nat) : Nat × Nat := (zz_sw k p.1, p.2)
def zk_rq (k : Nat) (q : zk_Ct) : zk_Ct := (zk_rX k q.1, q.2.1.map (zk_rX k), (q.2.2.1.1.map (zk_rM1 k), []), q.2.2.2)
def zk_okX (fk : Nat → Nat → Nat) (HU : List (List zk_H)) (k : Nat) (X : zk_St) : Bool := (Nat.beq X.1.1.length 0 && X.1.2.1.all zk_okV) && (X.1.2.2.1.all (zk_okF fk HU) && (X.2.1.all (fun x => zk_okr HU k x.1) && Nat.beq X.2.2.length 0))
def zk_okq (fk : Nat → Nat → Nat) (HU : List (List zk_H)) (k : Nat) (q : zk_Ct) : Bool := (zk_okX fk HU k q.1 && q.2.1.all (zk_okX fk HU k)) && (q.2.2.1.1.all (fun p => !(Nat.beq p.2 998)) && Nat.beq q.2.2.1.2.length 0)
theorem zk_okX_at {fk : Nat → Nat → Nat} {HU : List (List zk_H)} {k : Nat} {X : zk_St} (h : zk_okX fk HU k X = true) : X.1.1 = [] ∧ X.1.2.1.all zk_okV = true ∧ X.1.2.2.1.all (zk_okF fk HU) = true ∧ X.2.1.all (fun x => zk_okr HU k x.1) = true ∧ X.2.2 = [] := by
  obtain ⟨h1, h2⟩ := zz_and h
  obtain ⟨h3, h4⟩ := zz_and h1
  obtain ⟨h5, h6⟩ := zz_and h2
  obtain ⟨h7, h8⟩ := zz_and h6
  exact ⟨List.length_eq_zero_iff.mp (zz_beq h3), h4, h5, h7, List.length_eq_zero_iff.mp (zz_beq h8)⟩
/-- what has not changed -/
theorem zk_J_rw {fk : Nat → Nat → Nat} {HU : List (List zk_H)} {k : Nat} {M : List (Nat × Nat)} {w w1 : zz_W} {V V' : List (Nat × Int)} (hk : k ≤ 5) (hs : zk_sym fk k HU = true) (h1 : 160 ≤ w.1) (h2 : w.1 ≤ 1024) (hM : M.all (fun p => !(Nat.beq p.2 998)) = true) (h : zk_J 64 HU (M, []) (zz_rw fk k w, V) w1) : zk_J 64 HU (M.map (zk_rM1 k), []) (w, V') (zz_rw fk k w1) := by
  obtain ⟨a1, a2, a3, a4, a5⟩ := h
  have a3 : w.1 ≤ w1.1 := a3
  have a4 : w1.1 = w.1 ∧ w1.2.1 = w.2.1 := a4
  have hmem : ∀ {i j : Nat}, (i, j) ∉ M.map (zk_rM1 k) → (zz_sw k i, j) ∉ M := fun {i j} hn hm => hn (List.mem_map.mpr ⟨(zz_sw k i, j), hm, by show (zz_sw k (zz_sw k i), j) = (i, j); rw [zz_sw_sw]⟩)
  have hk3 : ∀ i, i < w.1 → zk_k3 (zz_g w1 (zz_sw k i)) = zk_k3 (zz_g w i) := fun i hi => by
    have h3 := zz_sw_lt hk h1 hi
    have h4 := a5 (zz_sw k i) h3
    rw [h4]
    show zk_k3 (zz_g (zz_rw fk k w) (zz_sw k i)) = _
    rw [zz_rw_g (by omega), zz_sw_sw, zz_rc_k3]
  refine ⟨zk_I_rw hk hs (by omega) a1, ⟨fun i j h8 hn hi h3 => ?_, fun i hn hi h3 => ?_⟩, a3, a4, fun i hi => ?_⟩
  · have hi : i < w.1 := hi
    have h3 : (zz_g w i).1 = 3 := h3
    have hi' := zz_sw_lt hk h1 hi
    have e := hk3 i hi
    have e1 := a2.1 (zz_sw k i) j h8 (hmem hn) hi' (by
      show (zz_g (zz_rw fk k w) (zz_sw k i)).1 = 3
      rw [zz_rw_g (by omega), zz_sw_sw, zk_k3_1 zz_rc_k3]
      exact h3)
    have e1 : zk_fd w1 (zz_sw k i, j) = zk_fd (zz_rw fk k w) (zz_sw k i, j) := e1
    rw [zk_fd_rw hk (by omega) (by rw [zk_k3_1 e]; exact h3), e1, zk_fd_rw hk (by omega) (by rw [zz_sw_sw]; exact h3), zz_sw_sw, zk_k3_2 e, zz_g3_g3 hk]
  · have hi : i < w.1 := hi
    have h3 : (zz_g w i).1 ≠ 3 := h3
    have hi' := zz_sw_lt hk h1 hi
    have e1 := (a2.2 (zz_sw k i) (hmem hn) hi' (by
      show (zz_g (zz_rw fk k w) (zz_sw k i)).1 ≠ 3
      rw [zz_rw_g (by omega), zz_sw_sw, zk_k3_1 zz_rc_k3]
      exact h3)).1 (fun hm => by
        have := List.all_eq_true.mp hM _ hm
        cases this)
    have e1 : zz_g w1 (zz_sw k i) = zz_g (zz_rw fk k w) (zz_sw k i) := e1
    have e2 : zz_g (zz_rw fk k w1) i = zz_g w i := by
      rw [zz_rw_g (by omega), e1, zz_rw_g (by omega), zz_sw_sw, zz_rc_rc hk]
    refine ⟨fun _ => e2, fun m _ _ => ?_⟩
    unfold zk_el
    rw [e2]
  · have hi : i < w.1 := hi
    show zk_k3 (zz_g (zz_rw fk k w1) i) = zk_k3 (zz_g w i)
    rw [zz_rw_g (by omega), zz_rc_k3]
    exact hk3 i hi
section ZNM
variable {l : Launch} {Ts : List Cond} {D : va_G} {cl : List vw_C} {fk : Nat → Nat → Nat} {cy : Nat → ClassId} {z0 : Nat} {sp : Nat → Nat} {tys : List (ClassId × FieldType)} {G : State → Prop}
variable {yn : Nat → MethodName} {cn : Nat → ByteArray} {ml : Nat → Nat} {rt : Nat → Option FieldType}
theorem zk_ren {HU : List (List zk_H)} {PT : Nat → zz_W → Prop} {k d y : Nat} {q : zk_Ct} (hk1 : 1 ≤ k) (hk : k ≤ 5) (h0 : sp 18446744073709551616 = 0) (hs : zk_sym fk k HU = true) (h9 : Nat.beq (zk_h HU 159).1 9 = false) (ho : zk_okq fk HU k q = true) (hq : zk_CA l Ts D cl fk cy z0 (zz_spk k sp) tys G yn cn ml rt 64 HU PT d y q) : zk_CA l Ts D cl fk cy z0 sp tys G yn cn ml rt 64 HU PT d y (zk_rq k q) := by
  intro as w s hd hG
  obtain ⟨o1, o2⟩ := zz_and ho
  obtain ⟨o1, o3⟩ := zz_and o1
  obtain ⟨o4, o5⟩ := zz_and o2
  obtain ⟨x1, x2, x3, x4, x5⟩ := zk_okX_at o1
  obtain ⟨⟨g1, g2, g3, g4, g5, g6⟩, ge, gk⟩ := hG
  have g2 : zk_st s (q.1.1.2.1.map (zk_rV k)) as := g2
  have g3 : zk_fl s (q.1.1.2.2.1.map (zk_rF1 k)) w := g3
  have ge : zk_eF s (q.1.2.1.map (zk_rE1 k)) w := ge
  have g6 : zk_I 64 HU w := g6
  have w1 : 160 ≤ w.1 := (g6.2.2.2 159 (fun h => by rw [h] at h9; cases h9)).1
  have w2 : w.1 ≤ 1024 := g6.2.1
  have hlc : zk_lc s q.1.1.1 [] := by
    rw [x1]
    intro p hp
    cases hp
  have htk : ∀ t ∈ q.1.2.2, PT t (zz_rw fk k w) := by
    rw [x5]
    intro t ht
    cases ht
  obtain ⟨rv, v, s', Q, hQ, hM, ⟨⟨p1, p2, p3, p4, p5, p6⟩, pe, pk⟩, hs'⟩ := hq (as.map (zz_rv k)) (zz_rw fk k w) s hd ⟨⟨hlc, zk_st_B hk x2 g2, zk_fl_B hk hs g6 x3 g3, g4, g5, zk_I_rw hk hs w1 g6⟩, zk_eF_B hk1 hk g6 x4 ge, htk⟩
  obtain ⟨y1, y2, y3, y4, y5⟩ := zk_okX_at (List.all_eq_true.mp o3 Q hQ)
  have v1 : 160 ≤ v.1 := Nat.le_trans w1 p6.2.2.1
  have v2 : v.1 ≤ 1024 := p6.1.2.1
  have p6 : zk_J 64 HU q.2.2.1 (zz_rw fk k w, q.2.2.1.2.map (fun p => (p.1, zl_ev s p.2))) v := p6
  have e5 : q.2.2.1.2 = [] := List.length_eq_zero_iff.mp (zz_beq o5)
  have p6 : zk_J 64 HU (q.2.2.1.1, []) (zz_rw fk k w, q.2.2.1.2.map (fun p => (p.1, zl_ev s p.2))) v := by
    have e6 : q.2.2.1 = (q.2.2.1.1, []) := by rw [← e5]
    rw [← e6]
    exact p6
  have hsv : zz_sv z0 (zz_spk k sp) (as.map (zz_rv k)) = zz_sv z0 sp as := zk_st_sv (T := q.1.1.2.1.map (zk_rV k)) hk (zz_nm_1 h0) (List.all_eq_true.mpr (fun a ha => by
    obtain ⟨b, b1, b2⟩ := List.mem_map.mp ha
    subst b2
    exact zk_okV_r hk (List.all_eq_true.mp x2 b b1))) g2
  have hsr : zz_sv z0 sp (rv.map (zz_rv k)) = zz_sv z0 (zz_spk k sp) rv := zk_st_sv (T := Q.1.2.1) hk (zz_nm_2 h0) y2 p2
  have hlc2 : zk_lc s' Q.1.1 [] := by
    rw [y1]
    intro p hp
    cases hp
  have htk2 : ∀ t ∈ Q.2.2, PT t (zz_rw fk k v) := by
    rw [y5]
    intro t ht
    cases ht
  refine ⟨rv.map (zz_rv k), zz_rw fk k v, s', zk_rX k Q, List.mem_map.mpr ⟨Q, hQ, rfl⟩, ?_, ⟨⟨hlc2, zk_st_A y2 p2, zk_fl_A hk hs p6.1 y3 p3, p4, p5, zk_J_rw hk hs w1 w2 o4 p6⟩, zk_eF_A hk1 hk p6.1 y4 pe, htk2⟩, hs'⟩
  obtain ⟨m1, m2, m3⟩ := hM
  refine ⟨m1, by rw [List.length_map]; exact m2, zz_Met_mono m3 (fun a t hp => ?_) (fun a t oc u hqc => ?_)⟩
  · obtain ⟨c1, c2, c3, c4⟩ := hp
    exact ⟨by rw [hsv]; exact c1, zz_I_rw hk (zz_nm_1 h0) w1 w2 c2, c3, c4⟩
  · obtain ⟨⟨c1, c2⟩, c3⟩ := hqc
    exact ⟨⟨by rw [hsr]; exact c1, zz_I_rw hk (zz_nm_2 h0) v1 v2 c2⟩, c3⟩
def zk_heq (h h' : zk_H) : Bool := (Nat.beq h.1 h'.1 && (Nat.beq h.2.1 h'.2.1 && Nat.beq h.2.2.1 h'.2.2.1)) && decide (h.2.2.2 = h'.2.2.2)
theorem zk_heq_ok {h h' : zk_H} (hb : zk_heq h h' = true) : h = h' := by
  obtain ⟨b1, b2⟩ := zz_and hb
  obtain ⟨b3, b4⟩ := zz_and b1
  obtain ⟨b4, b5⟩ := zz_and b4
  have b3 := zz_beq b3
  have b4 := zz_beq b4
  have b5 := zz_beq b5
  have b2 := of_decide_eq_true b2
  obtain ⟨x1, x2, x3, x4⟩ := h
  obtain ⟨y1, y2, y3, y4⟩ := h'
  have b3 : x1 = y1 := b3
  have b4 : x2 = y2 := b4
  have b5 : x3 = y3 := b5
  have b2 : x4 = y4 := b2
  rw [b3, b4, b5, b2]
/-- tables: HU says nothing of cell x, else what HT says -/
def zk_less (HU HT : List (List zk_H)) (x : Nat) : Bool := (Nat.ble HU.length 64 && Nat.ble HT.length 64) && (List.range 1024).all (fun i => Nat.beq (zk_h HU i).2.2.1 (zk_h HT i).2.2.1 && cond (Nat.beq i x) (Nat.beq (zk_h HU i).1 9 && !(Nat.beq (zk_h HT i).1 3)) (zk_heq (zk_h HU i) (zk_h HT i)))
theorem zk_less_len {HU HT : List (List zk_H)} {x : Nat} (h : zk_less HU HT x = true) (i : Nat) : (zk_h HU i).2.2.1 = (zk_h HT i).2.2.1 := by
  obtain ⟨h1, h2⟩ := zz_and h
  obtain ⟨h3, h4⟩ := zz_and h1
  by_cases hi : i < 1024
  · exact zz_beq (zz_and (List.all_eq_true.mp h2 i (List.mem_range.mpr hi))).1
  · rw [zk_h_out (zz_ble h3) (by omega), zk_h_out (zz_ble h4) (by omega)]
theorem zk_less_at {HU HT : List (List zk_H)} {x i : Nat} (h : zk_less HU HT x = true) : (i ≠ x ∧ zk_h HU i = zk_h HT i) ∨ (i = x ∧ (zk_h HU i).1 = 9 ∧ (zk_h HT i).1 ≠ 3) ∨ ((zk_h HU i).1 = 9 ∧ (zk_h HT i).1 = 9) := by
  obtain ⟨h1, h2⟩ := zz_and h
  obtain ⟨h3, h4⟩ := zz_and h1
  by_cases hi : i < 1024
  · have h5 := (zz_and (List.all_eq_true.mp h2 i (List.mem_range.mpr hi))).2
    cases hb : Nat.beq i x with
    | true =>
      rw [hb] at h5
      obtain ⟨h6, h7⟩ := zz_and (show (Nat.beq (zk_h HU i).1 9 && !(Nat.beq (zk_h HT i).1 3)) = true from h5)
      refine Or.inr (Or.inl ⟨zz_beq hb, zz_beq h6, fun e => ?_⟩)
      rw [e] at h7
      cases h7
    | false =>
      rw [hb] at h5
      refine Or.inl ⟨fun e => ?_, zk_heq_ok (show zk_heq (zk_h HU i) (zk_h HT i) = true from h5)⟩
      rw [e, Nat.beq_refl] at hb
      cases hb
  · refine Or.inr (Or.inr ⟨?_, ?_⟩)
    · rw [zk_h_out (zz_ble h3) (by omega)]
      rfl
    · rw [zk_h_out (zz_ble h4) (by omega)]
      rfl
theorem zk_I_less {HU HT : List (List zk_H)} {x : Nat} {w : zz_W} (h : zk_less HU HT x = true) (hI : zk_I 64 HT w) : zk_I 64 HU w := by
  refine ⟨hI.1, hI.2.1, hI.2.2.1, fun i h9 => ?_⟩
  rcases zk_less_at (i := i) h with ⟨-, e⟩ | ⟨-, e, -⟩ | ⟨e, -⟩
  · rw [e]
    exact hI.2.2.2 i (by rw [← e]; exact h9)
  · exact absurd e h9
  · exact absurd e h9
theorem zk_lift {HU HT : List (List zk_H)} {PT : Nat → zz_W → Prop} {x d y : Nat} {q : zk_Ct} (h : zk_less HU HT x = true) (hm : q.2.2.1.1.all (fun p => !(Nat.beq p.1 x)) = true) (hq : zk_CA l Ts D cl fk cy z0 sp tys G yn cn ml rt 64 HU PT d y q) : zk_CA l Ts D cl fk cy z0 sp tys G yn cn ml rt 64 HT PT d y q := by
  intro as w s hd hG
  obtain ⟨⟨g1, g2, g3, g4, g5, g6⟩, ge, gk⟩ := hG
  have g6 : zk_I 64 HT w := g6
  obtain ⟨rv, v, s', Q, hQ, hM, ⟨⟨p1, p2, p3, p4, p5, p6⟩, pe, pk⟩, hs'⟩ := hq as w s hd ⟨⟨g1, g2, g3, g4, g5, zk_I_less h g6⟩, ge, gk⟩
  have p6 : zk_J 64 HU q.2.2.1 (w, q.2.2.1.2.map (fun p => (p.1, zl_ev s p.2))) v := p6
  refine ⟨rv, v, s', Q, hQ, hM, ⟨⟨p1, p2, p3, p4, p5, ⟨⟨p6.1.1, p6.1.2.1, p6.1.2.2.1, fun i h9 => ?_⟩, p6.2⟩⟩, pe, pk⟩, hs'⟩
  rcases zk_less_at (i := i) h with ⟨-, e⟩ | ⟨e0, e1, e2⟩ | ⟨-, e⟩
  · rw [← e]
    exact p6.1.2.2.2 i (by rw [e]; exact h9)
  · have e3 : ∀ n : Nat, (i, n) ∉ q.2.2.1.1 := fun n hn => by
      have := List.all_eq_true.mp hm _ hn
      rw [show ((i, n) : Nat × Nat).1 = x from e0, Nat.beq_refl] at this
      cases this
    obtain ⟨j1, j2⟩ := g6.2.2.2 i h9
    have e4 := (p6.2.1.2 i (e3 999) j1 (by
      show (zz_g w i).1 ≠ 3
      have := j2.1
      omega)).1 (e3 998)
    have e4 : zz_g v i = zz_g w i := e4
    rw [e4]
    exact ⟨Nat.lt_of_lt_of_le j1 p6.2.2.1, j2⟩
  · exact absurd e h9
/-- the same of laws -/
theorem zk_TT_less {HU HT : List (List zk_H)} {PT : Nat → zz_W → Prop} {SU : Nat → List (Nat × Nat)} {TS : zk_TY} {x : Nat} (h : zk_less HU HT x = true) (hT : zk_TT 64 HU PT SU TS) : zk_TT 64 HT PT SU TS := by
  have hl := zk_less_len h
  have hI : ∀ w, zk_I 64 HT w → zk_I 64 HU w := fun w => zk_I_less h
  obtain ⟨t1, t2, t3, t4, t5, t6⟩ := hT
  refine ⟨fun t w w' i1 i2 => t1 t w w' (hI w i1) (hI w' i2), fun t p ht hp w => ?_, fun t p hp w => ?_, fun j y hy w w' jj i1 i2 => t4 j y hy w w' jj (hI w i1) (hI w' i2), fun j y hy w i1 hK ins hin hr => ?_, fun j y hy w w' jj ins i1 i2 => t6 j y hy w w' jj ins (hI w i1) (hI w' i2)⟩
  · have h1 := t2 t p ht hp w
    unfold zk_P at h1 ⊢
    simp only [hl] at h1
    exact h1
  · have h1 := t3 t p hp w
    unfold zk_P2 at h1 ⊢
    simp only [hl] at h1
    exact h1
  · exact t5 j y hy w (hI w i1) hK ins hin (fun q hq => by
      rw [hl]
      exact hr q hq)
theorem zk_liftC {HU HT : List (List zk_H)} {PT : Nat → zz_W → Prop} {x y : Nat} {q : zk_Ct} (h : zk_less HU HT x = true) (hm : q.2.2.1.1.all (fun p => !(Nat.beq p.1 x)) = true) (hq : zk_Con l Ts D cl fk cy z0 sp tys G yn cn ml rt 64 HU PT y q) : zk_Con l Ts D cl fk cy z0 sp tys G yn cn ml rt 64 HT PT y q := fun d => zk_lift h hm (hq d)
theorem zk_renC {HU : List (List zk_H)} {PT : Nat → zz_W → Prop} {k y : Nat} {q : zk_Ct} (hk1 : 1 ≤ k) (hk : k ≤ 5) (h0 : sp 18446744073709551616 = 0) (hs : zk_sym fk k HU = true) (h9 : Nat.beq (zk_h HU 159).1 9 = false) (ho : zk_okq fk HU k q = true) (hq : zk_Con l Ts D cl fk cy z0 (zz_spk k sp) tys G yn cn ml rt 64 HU PT y q) : zk_Con l Ts D cl fk cy z0 sp tys G yn cn ml rt 64 HU PT y (zk_rq k q) := fun d => zk_ren hk1 hk h0 hs h9 ho (hq d)
/-- what stood there before does not know of the naming -/
def zz_okG (L : zz_Lg) : Bool := L.1.all (fun q => Nat.blt q.2.2.2 18446744073709551616) && L.2.1.all (fun q => match q.2.2.2 with
  | .ref i => Nat.ble 1000000 i && Nat.blt i 18446744073709551616
  | _ => true)
theorem zz_GD_nm {S S2 : zz_Lr} {L : zz_Lg} {k : Nat} {U : State} (h1 : Nat.blt S.length 4294967296 = true) (h2 : Nat.blt S2.length 4294967296 = true) (hL : zz_okG L = true) (h : zz_GD S S2 L z0 sp U) : zz_GD S S2 L z0 (zz_spk k sp) U := by
  have h1 := zz_blt h1
  have h2 := zz_blt h2
  obtain ⟨l1, l2⟩ := zz_and hL
  obtain ⟨a0, a1, a2, a3, a4, a5, a6, a7⟩ := h
  have e : ∀ i, i < 18446744073709551616 → zz_spk k sp i = sp i := fun i hi => zz_spk_o (by omega)
  refine ⟨a0, fun j q hq => ?_, fun j q hq => ?_, fun q hq => ?_, fun q hq => ?_, a5, a6, a7⟩
  · have hj : j < S.length := (List.getElem?_eq_some_iff.mp hq).1
    have b := a1 j q hq
    unfold zz_St at b ⊢
    rw [e _ (by omega), e _ (by omega)]
    exact b
  · have hj : j < S2.length := (List.getElem?_eq_some_iff.mp hq).1
    rw [e _ (by omega)]
    exact a2 j q hq
  · rw [e _ (zz_blt (List.all_eq_true.mp l1 q hq))]
    exact a3 q hq
  · have b := a4 q hq
    have c := List.all_eq_true.mp l2 q hq
    have ev : zz_v z0 (zz_spk k sp) q.2.2.2 = zz_v z0 sp q.2.2.2 := by
      generalize q.2.2.2 = v at c
      cases v with
      | ref i =>
        obtain ⟨c1, c2⟩ := zz_and (show (Nat.ble 1000000 i && Nat.blt i 18446744073709551616) = true from c)
        have c1 := zz_ble c1
        have c2 := zz_blt c2
        show Value.ref (zz_r z0 (zz_spk k sp) i) = Value.ref (zz_r z0 sp i)
        unfold zz_r
        rw [if_neg (by omega), if_neg (by omega), e _ (by omega)]
      | retAddr n =>
        show (if zz_spk k sp 2000000 = 0 then Value.null else .ref (zz_spk k sp 2000000 - 1)) = (if sp 2000000 = 0 then Value.null else .ref (sp 2000000 - 1))
        rw [e _ (by omega)]
      | _ => rfl
    rw [ev]
    exact b
end ZNM
end
end
section
/-! THROWS over the abstract frames: a call returns or throws -/
noncomputable section
theorem zkt_g {c : Nat} {w : zz_W} {x : zz_C} {N : Nat} (h : zk_sh c w) (hi : w.1 < 16 * c) (j : Nat) : zz_g (zz_pu w x N) j = if j = w.1 then x else zz_g w j := zk_up_g h hi j
theorem zkt_I {c : Nat} {HT : List (List zk_H)} {w : zz_W} {x : zz_C} {N : Nat} (h : zk_I c HT w) (hi : w.1 < 16 * c) (hc : c ≤ 60000) : zk_I c HT (zz_pu w x N) := by
  obtain ⟨s1, s2, s3, s4⟩ := h
  refine ⟨zk_up_sh s1, ?_, ?_, fun i hn => ?_⟩
  · show w.1 + 1 ≤ 16 * c
    omega
  · show w.1 + 1 ≤ 1000000
    omega
  · obtain ⟨a, b⟩ := s4 i hn
    refine ⟨Nat.lt_succ_of_lt a, ?_⟩
    rw [zkt_g s1 hi, if_neg (by omega)]
    exact b
/-- what a state says stands in cells that are there -/
def zkt_ok (HT : List (List zk_H)) (SU : Nat → List (Nat × Nat)) (Q : zk_St) : Bool := Q.1.2.2.1.all (fun q => Nat.beq (zk_h HT q.1.1).1 3) && (zk_eW HT Q.1.2.2.2.1.length Q.2.1 && Q.2.2.all (fun t => (SU t).all (fun p => !(Nat.beq (zk_h HT p.1).1 9))))
theorem zkt_G2 {c : Nat} {HT : List (List zk_H)} {PT : Nat → zz_W → Prop} {SU : Nat → List (Nat × Nat)} {TS : zk_TY} (hTT : zk_TT c HT PT SU TS) {Q : zk_St} {s : Nat → Int} {p : Nat} {lv : List (Nat × Value)} {st : List Value} {w : zz_W} {x : zz_C} {N : Nat} (hok : zkt_ok HT SU Q = true) (hi : w.1 < 16 * c) (hc : c ≤ 60000) (h : zk_G2 PT (zk_I c HT) s Q (p, lv, st, w)) : zk_G2 PT (zk_I c HT) s Q (p, lv, st, zz_pu w x N) := by
  obtain ⟨o1, o2⟩ := zz_and hok
  obtain ⟨o2, o3⟩ := zz_and o2
  obtain ⟨⟨g1, g2, g3, g4, g5, g6⟩, k1, k2⟩ := h
  have g3 : zk_fl s Q.1.2.2.1 w := g3
  have g6 : zk_I c HT w := g6
  have k1 : zk_eF s Q.2.1 w := k1
  have hg : ∀ i, (zk_h HT i).1 ≠ 9 → zz_g (zz_pu w x N) i = zz_g w i := fun i hn => by
    have := (g6.2.2.2 i hn).1
    rw [zkt_g g6.1 hi, if_neg (by omega)]
  have hfd : ∀ q : Nat × Nat, (zk_h HT q.1).1 ≠ 9 → zk_fd (zz_pu w x N) q = zk_fd w q := fun q hn => by
    unfold zk_fd
    rw [hg _ hn]
  refine ⟨⟨g1, g2, fun q hq => ?_, g4, g5, zkt_I g6 hi hc⟩, fun y hy => ?_, fun t ht => ?_⟩
  · show zk_n s q.2 (zk_fd (zz_pu w x N) q.1)
    have h1 := zz_beq (List.all_eq_true.mp o1 q hq)
    rw [hfd q.1 (by rw [h1]; decide)]
    exact g3 q hq
  · have h1 := zk_eW_row o2 y hy
    show 0 ≤ zl_ev s y.2.1 ∧ zk_xe (zz_pu w x N) y.1 (zl_ev s y.2.1) = zl_ev s y.2.2
    rw [zk_xe_g (fun r hr => hg r (by have := h1 r hr; omega))]
    exact k1 y hy
  · have h1 := List.all_eq_true.mp (List.all_eq_true.mp o3 t ht)
    have h2 : ∀ q ∈ SU t, (zk_h HT q.1).1 ≠ 9 := fun q hq e => by
      have := h1 q hq
      rw [e] at this
      cases this
    exact hTT.1 t w (zz_pu w x N) g6 (zkt_I g6 hi hc) (fun q hq _ => hfd q (h2 q hq)) (fun q hq _ => hg q.1 (h2 q hq)) (k2 t ht)
/-- a table with ends at places where something is thrown; nx: without the ends of its own -/
def zi_x : zi := (201, [], [])
def zi_pf (code : List (List zi)) (L : List Nat) (nx : Bool) (p : Nat) : zi := cond (L.any (fun q => Nat.beq q p)) zi_x (cond (nx && Nat.blt 200 (zi_at code p).1) zi_n (zi_at code p))
def zi_pt (code : List (List zi)) (n : Nat) (L : List Nat) (nx : Bool) : List (List zi) := (List.range n).map (fun i => (List.range 16).map (fun j => zi_pf code L nx (16 * i + j)))
theorem zi_pt_at {code : List (List zi)} {n : Nat} {L : List Nat} {nx : Bool} (p : Nat) : zi_at (zi_pt code n L nx) p = zi_pf code L nx p ∨ zi_at (zi_pt code n L nx) p = zi_n := by
  by_cases h : p / 16 < n
  · refine Or.inl ?_
    have h1 : (zi_pt code n L nx).getD (p / 16) [] = (List.range 16).map (fun j => zi_pf code L nx (16 * (p / 16) + j)) := by
      unfold zi_pt
      rw [List.getD_eq_getElem?_getD, List.getElem?_map, List.getElem?_range h]
      rfl
    show ((zi_pt code n L nx).getD (p / 16) []).getD (p % 16) zi_n = zi_pf code L nx p
    rw [h1, List.getD_eq_getElem?_getD, List.getElem?_map, List.getElem?_range (Nat.mod_lt _ (by decide))]
    show zi_pf code L nx (16 * (p / 16) + p % 16) = zi_pf code L nx p
    rw [Nat.div_add_mod]
  · refine Or.inr ?_
    have h1 : (zi_pt code n L nx).getD (p / 16) [] = [] := by
      unfold zi_pt
      rw [List.getD_eq_getElem?_getD, List.getElem?_eq_none (by rw [List.length_map, List.length_range]; omega)]
      rfl
    show ((zi_pt code n L nx).getD (p / 16) []).getD (p % 16) zi_n = zi_n
    rw [h1]
    rfl
/-- an entry of it: as it was, an end where something is thrown, nothing -/
theorem zi_pt_c {code : List (List zi)} {n : Nat} {L : List Nat} {nx : Bool} (p : Nat) : (zi_at (zi_pt code n L nx) p = zi_at code p ∧ (nx = true → Nat.blt 200 (zi_at code p).1 = false)) ∨ (p ∈ L ∧ zi_at (zi_pt code n L nx) p = zi_x) ∨ zi_at (zi_pt code n L nx) p = zi_n := by
  rcases zi_pt_at (code := code) (n := n) (L := L) (nx := nx) p with h | h
  · rw [h]
    unfold zi_pf
    cases h1 : L.any (fun q => Nat.beq q p) with
    | true =>
      refine Or.inr (Or.inl ⟨?_, rfl⟩)
      obtain ⟨q, q1, q2⟩ := List.any_eq_true.mp h1
      rw [← zz_beq q2]
      exact q1
    | false =>
      cases h2 : (nx && Nat.blt 200 (zi_at code p).1) with
      | true => exact Or.inr (Or.inr rfl)
      | false =>
        refine Or.inl ⟨rfl, fun e => ?_⟩
        rw [e] at h2
        exact h2
  · exact Or.inr (Or.inr h)
/-- an end has a kind of its own -/
theorem zz_rt_0 {T : zz_T} {f : zz_F} {r : List Value × zz_W} (h : zz_rt T f = some r) : (zz_ent T f.1).1 ≠ 0 ∧ (zz_ent T f.1).1 ≠ 9 := by
  refine ⟨fun e => ?_, fun e => ?_⟩
  · unfold zz_rt at h
    rw [e] at h
    first
      | cases h
      | simp at h
  · unfold zz_rt at h
    rw [e] at h
    first
      | cases h
      | simp at h
theorem zz_rt_eq {T T' : zz_T} {f : zz_F} (h : zz_ent T f.1 = zz_ent T' f.1) : zz_rt T f = zz_rt T' f := by
  unfold zz_rt
  rw [h]
section ZKX
variable {l : Launch} {Ts : List Cond} {D : va_G} {cl : List vw_C} {fk : Nat → Nat → Nat} {cy : Nat → ClassId} {z0 : Nat} {sp : Nat → Nat} {tys : List (ClassId × FieldType)} {G : State → Prop}
variable {yn : Nat → MethodName} {cn : Nat → ByteArray} {ml : Nat → Nat} {rt : Nat → Option FieldType}
variable {c : Nat} {HT : List (List zk_H)} {PT : Nat → zz_W → Prop} {SU : Nat → List (Nat × Nat)} {TS : zk_TY} {CT : Nat → Option zk_Ct} {d : Nat} {own mn : String} {nL : Nat} {cc : ByteArray} {code : List (List zi)} {cs : List zk_Cu}
theorem zi_pt_TO {K : zz_K} {n : Nat} {L : List Nat} {nx : Bool} (hT : zz_TO l Ts D cl fk cy z0 sp tys G own mn nL cc d K (zi_T code)) : zz_TO l Ts D cl fk cy z0 sp tys G own mn nL cc d K (zi_T (zi_pt code n L nx)) := by
  intro pc h
  rw [zi_ent] at h ⊢
  rcases zi_pt_c (code := code) (n := n) (L := L) (nx := nx) pc with ⟨e, -⟩ | ⟨-, e⟩ | e
  · rw [e] at h ⊢
    have h1 := hT pc (by rw [zi_ent]; exact h)
    rw [zi_ent] at h1
    exact h1
  · rw [e] at h
    exact absurd (show (1 : Nat) = 0 from h) (by decide)
  · rw [e] at h
    exact absurd (show (9 : Nat) = 0 from h) (by decide)
/-- the check, up to the end of the road -/
theorem zk_chk_B (hTT : zk_TT c HT PT SU TS) {nl fuel : Nat} {q : zk_Ct} {h0 : List zk_Hn} {H : List (List zk_Hn)} (hT : ∀ K, zz_KS l D cl fk cy z0 sp tys G yn (fun y => Cond.code (yn y) (cn y) (ml y) (rt y) :: Ts) d K → zz_TO l Ts D cl fk cy z0 sp tys G own mn nL cc d K (zi_T code)) (hC : ∀ y' q', CT y' = some q' → zk_CA l Ts D cl fk cy z0 sp tys G yn cn ml rt c HT PT d (y' % 1000) q') (h : zk_chk HT SU TS CT code cs q fuel nl h0 H = true)
    {as : List Value} {w : zz_W} {s : Nat → Int} (hd : zl_ev s (zk_dep q.2.2.2) ≤ ((d + 1 : Nat) : Int)) (hG : zk_G2 PT (zk_I c HT) s q.1 (0, [], as, w)) : zz_cs as ≤ nl ∧ zk_Gd l Ts D cl fk cy z0 sp tys G own mn nL cc d (zi_T code) PT (zk_J c HT q.2.2.1 (w, q.2.2.1.2.map (fun p => (p.1, zl_ev s p.2)))) q.2.1 q.1.1.2.2.2.1.length s (0, lv_args 0 as, [], w) := by
  unfold zk_chk at h
  obtain ⟨b1, hb⟩ := zz_and h
  obtain ⟨b6, hb⟩ := zz_and hb
  obtain ⟨b2, hb⟩ := zz_and hb
  obtain ⟨b3, hb⟩ := zz_and hb
  obtain ⟨b4, b5⟩ := zz_and hb
  obtain ⟨-, b3⟩ := zz_and b3
  obtain ⟨b7, b8⟩ := zz_and b3
  obtain ⟨⟨g1, g2, g3, g4, g5, g6⟩, k1, k2⟩ := hG
  have g2 : zk_st s q.1.1.2.1 as := g2
  have hd2 : zl_ev s (zk_dep (q.2.2.2 - 1)) ≤ (d : Int) := by
    have h1 := zl_pos_ok g4 b7
    rw [zl_sub_ev, zl_sub_ev, zl_con_ev] at h1
    omega
  have hP : zk_pv s q.2.2.1.2 (q.2.2.1.2.map (fun p => (p.1, zl_ev s p.2))) := fun p hp => List.mem_map.mpr ⟨p, hp, rfl⟩
  have hcuts := zk_all_cuts (c := c) (w0 := (w, q.2.2.1.2.map (fun p => (p.1, zl_ev s p.2)))) (sg := s) (own := own) (mn := mn) (nL := nL) (cc := cc) (d := d) hTT hT hC hd2 (zz_ble b8) hP b6 b5
  have hG0 : zk_G2 PT (zk_J c HT q.2.2.1 (w, q.2.2.1.2.map (fun p => (p.1, zl_ev s p.2)))) s ((zk_ar 0 q.1.1.2.1, [], q.1.1.2.2.1, q.1.1.2.2.2.1, q.1.1.2.2.2.2), q.1.2.1, q.1.2.2) (0, lv_args 0 as, [], w) := ⟨⟨zk_ar_ok b1 g2, trivial, g3, g4, g5, zk_J_rf g6⟩, k1, k2⟩
  exact ⟨by rw [zk_cz_ok b1 g2]; exact zz_ble b2, zk_ex_ok (c := c) (w0 := (w, q.2.2.1.2.map (fun p => (p.1, zl_ev s p.2)))) (sg := s) (own := own) (mn := mn) (nL := nL) (cc := cc) (d := d) (nD := q.1.1.2.2.2.1.length) (s0 := s) (mu := zl_con 100000000000000000000000000000000000000000000000000000000000000000000000000000000000000000000000000000000000000000000000000000000000000000000000000000000000000000000000000000000000000000000000000000000) hTT hT hC hd2 (zz_ble b8) hP b6 (Nat.zero_le _) (Nat.le_refl _) (fun _ _ => rfl) (fun q2 hq2 s2 f2 a1 a2 a3 a4 => hcuts 100000000000000000000000000000000000000000000000000000000000000000000000000000000000000000000000000000000000000000000000000000000000000000000000000000000000000000000000000000000000000000000000000000000 q2 hq2 s2 f2 a1 a2 a3 (by rw [zl_con_ev] at a4; exact a4)) fuel _ h0 b4 _ List.mem_cons_self (Nat.le_refl _) s (0, lv_args 0 as, [], w) rfl hG0 (fun _ _ => rfl)⟩
/-- the method y, called as q says, returns (not if nx), or throws at one of the places L what XE says of it; no cell comes but the thing thrown -/
def zk_PX (l : Launch) (Ts : List Cond) (D : va_G) (cl : List vw_C) (fk : Nat → Nat → Nat) (cy : Nat → ClassId) (z0 : Nat) (sp : Nat → Nat) (tys : List (ClassId × FieldType)) (G : State → Prop) (yn : Nat → MethodName) (cn : Nat → ByteArray) (ml : Nat → Nat) (rt : Nat → Option FieldType) (c : Nat) (HT : List (List zk_H)) (PT : Nat → zz_W → Prop) (y : Nat) (q : zk_Ct) (nx : Bool) (L : List Nat) (XE : Nat → String × Nat) : Prop :=
  ∀ (d : Nat) (as : List Value) (w : zz_W) (s : Nat → Int), zl_ev s (zk_dep q.2.2.2) ≤ ((d + 1 : Nat) : Int) → 5 ≤ d → w.1 < 16 * c → zk_G2 PT (zk_I c HT) s q.1 (0, [], as, w) →
    ∃ (w' : zz_W) (s' : Nat → Int) (Q : zk_St), Q ∈ q.2.1 ∧ w'.1 = w.1 ∧ w'.2.1 = w.2.1 ∧ ((nx = false ∧ ∃ rv, zz_M l Ts D cl fk cy z0 sp tys G yn cn ml rt (d + 1) y as w rv w' ∧ zk_G2 PT (zk_J c HT q.2.2.1 (w, q.2.2.1.2.map (fun p => (p.1, zl_ev s p.2)))) s' Q (0, [], rv, w') ∧ (rt y = some .int → ∃ v : Int32, rv = [.int v])) ∨
      ∃ pc, pc ∈ L ∧ zz_MX l Ts D cl fk cy z0 sp tys G yn cn ml rt (d + 1) y as w (XE pc).1 (zz_pu w' (3, (XE pc).2, 0, 0) 6) ∧ zk_G2 PT (zk_J c HT q.2.2.1 (w, q.2.2.1.2.map (fun p => (p.1, zl_ev s p.2)))) s' Q (0, [], [], w')) ∧ ∀ j, j < q.1.1.2.2.2.1.length → s' j = s j
theorem zz_rt_int {cc : ByteArray} {rt : Option FieldType} {T : zz_T} (hR : zz_RO cc rt T) (hr : rt = some .int) {f : zz_F} {rv : List Value} {w' : zz_W} (h : zz_rt T f = some (rv, w')) : ∃ v : Int32, rv = [.int v] := by
  subst hr
  unfold zz_rt at h
  split at h
  · rename_i hk hst
    exact absurd (hR.1 f.1 hk).2 (fun e => by cases e)
  · rename_i v hk hst
    cases h
    exact ⟨v, rfl⟩
  · rename_i v hk hst
    exact absurd (hR.2.2.1 f.1 hk).2 (fun e => by cases e)
  · rename_i v hk hst
    exact absurd (hR.2.2.2.1 f.1 hk).2 (fun e => by cases e)
  · rename_i v hk hst
    exact absurd (hR.2.2.2.2.2.1 f.1 hk).2 (fun e => by cases e)
  · rename_i v hk hst
    exact absurd (hR.2.2.2.2.2.2 f.1 hk).2 (fun e => by cases e)
  · rename_i v hk hst
    obtain ⟨-, t, ht, h2⟩ := hR.2.2.2.2.1 f.1 hk
    cases ht
    rcases h2 with ⟨n, e⟩ | ⟨u, e⟩ <;> cases e
  · rename_i hk hst
    obtain ⟨-, t, ht, h2⟩ := hR.2.2.2.2.1 f.1 hk
    cases ht
    rcases h2 with ⟨n, e⟩ | ⟨u, e⟩ <;> cases e
  · cases h
theorem zk_px (hTT : zk_TT c HT PT SU TS) {y nl fuel n : Nat} {q : zk_Ct} {h0 : List zk_Hn} {H : List (List zk_Hn)} {Py : zz_T} {nx : Bool} {L : List Nat} {XE : Nat → String × Nat} (hE : Py = zi_T code) (hT : ∀ (d : Nat) (K : zz_K), zz_KS l D cl fk cy z0 sp tys G yn (fun y => Cond.code (yn y) (cn y) (ml y) (rt y) :: Ts) d K → zz_TO l Ts D cl fk cy z0 sp tys G (yn y).cls (yn y).name (ml y) (cn y) d K Py) (hR : zz_RO (cn y) (rt y) Py) (hy : plainFor (yn y) = true) (hy2 : plainName (yn y).cls = true) (hnl : ml y = nl) (hC : ∀ y' q', CT y' = some q' → zk_Con l Ts D cl fk cy z0 sp tys G yn cn ml rt c HT PT (y' % 1000) q')
    (hX : ∀ pc ∈ L, ∀ (d : Nat) (lv : List (Nat × Value)) (w : zz_W), 5 ≤ d → zk_sh c w → w.1 < 16 * c → zz_TX l Ts D cl fk cy z0 sp tys G (yn y).cls (yn y).name (ml y) (cn y) d (pc, lv, [], w) (XE pc).1 (zz_pu w (3, (XE pc).2, 0, 0) 6)) (h : zk_chk HT SU TS CT (zi_pt code n L nx) cs q fuel nl h0 H = true) : zk_PX l Ts D cl fk cy z0 sp tys G yn cn ml rt c HT PT y q nx L XE := by
  subst hE
  intro d as w s hd h5 hi hG
  obtain ⟨hcs, fr, s', Q, k1, k2, k3, k4, k5⟩ := zk_chk_B (own := (yn y).cls) (mn := (yn y).name) (nL := ml y) (cc := cn y) (d := d) hTT (fun K hK => zi_pt_TO (hT d K hK)) (fun y' q' h' => hC y' q' h' d) h hd hG
  obtain ⟨pc', lv', st', w'⟩ := fr
  have k2 : zz_rt (zi_T (zi_pt code n L nx)) (pc', lv', st', w') = some (st', w') := k2
  have hJ : zk_J c HT q.2.2.1 (w, q.2.2.1.2.map (fun p => (p.1, zl_ev s p.2))) w' := k4.1.2.2.2.2.2
  have hw : w'.1 = w.1 := hJ.2.2.2.1.1
  have hw2 : w'.2.1 = w.2.1 := hJ.2.2.2.1.2
  have hr0 := zz_rt_0 k2
  refine ⟨w', s', Q, k3, hw, hw2, ?_, k5⟩
  rcases zi_pt_c (code := code) (n := n) (L := L) (nx := nx) pc' with ⟨e, hnx⟩ | ⟨e1, e2⟩ | e
  · have hen : zz_ent (zi_T (zi_pt code n L nx)) pc' = zi_e (zi_at code pc') := by rw [zi_ent, e]
    have k3' : zz_rt (zi_T code) (pc', lv', st', w') = some (st', w') := by
      rw [← k2]
      exact zz_rt_eq (by show zz_ent (zi_T code) pc' = zz_ent (zi_T (zi_pt code n L nx)) pc'; rw [hen, zi_ent])
    have hf : nx = false := by
      cases hn : nx with
      | false => rfl
      | true =>
        exfalso
        have h2 := hnx hn
        have hr1 : (zi_e (zi_at code pc')).1 ≠ 0 ∧ (zi_e (zi_at code pc')).1 ≠ 9 := by
          rw [← hen]
          exact hr0
        unfold zi_e at hr1
        rw [h2] at hr1
        cases h3 : Nat.blt (zi_at code pc').1 87 with
        | true =>
          rw [h3] at hr1
          exact hr1.1 rfl
        | false =>
          rw [h3] at hr1
          exact hr1.2 rfl
    obtain ⟨r1, -, r3⟩ := zz_rt_ok (l := l) (z0 := z0) (sp := sp) (P := fun _ => zi_T code) (y := y) hR k3'
    exact Or.inl ⟨hf, st', zz_M_B rfl rfl rfl rfl rfl hy (by rw [hnl]; exact hcs) r1 r3 k1, k4, fun hr => zz_rt_int hR hr k3'⟩
  · have he : zz_ent (zi_T (zi_pt code n L nx)) pc' = (1, fun _ _ => none) := by
      rw [zi_ent, e2]
      rfl
    have hst : st' = [] := by
      have k2 := k2
      unfold zz_rt at k2
      rw [show zz_ent (zi_T (zi_pt code n L nx)) (pc', lv', st', w').1 = (1, fun _ _ => none) from he] at k2
      cases st' with
      | nil => rfl
      | cons a b =>
        first
          | cases k2
          | simp at k2
    subst hst
    exact Or.inr ⟨pc', e1, zz_MX_B rfl rfl rfl rfl hy2 (by rw [hnl]; exact hcs) (zz_TX_B k1 (hX pc' e1 d lv' w' h5 hJ.1.1 (by rw [hw]; exact hi))), k4⟩
  · have hen : (zz_ent (zi_T (zi_pt code n L nx)) pc').1 = 9 := by
      rw [zi_ent, e]
      rfl
    exact absurd hen hr0.2
end ZKX
end
/-! 'throw new E("text")' in worlds of any number of chunks -/
section ZXN
variable {l : Launch} {Ts : List Cond} {D : va_G} {cl : List vw_C} {fk : Nat → Nat → Nat} {cy : Nat → ClassId} {z0 : Nat} {sp : Nat → Nat} {tys : List (ClassId × FieldType)} {G : State → Prop} {own mn : String} {nL : Nat} {cc : ByteArray} {d : Nat} {pc : Nat}
/-- 'throw new E("text")' -/
theorem zkt_new (hsp0 : sp 18446744073709551616 = 0) {E text : String} {names : List String} {ik is ic ci k ix : Nat} {rx : ByteArray} {T : u_T} {lv : List (Nat × Value)} {st : List Value} {w : zz_W} (x0 : decode rx 0 = .ok (.aload_n 0, 1)) (x1 : decode rx 1 = .ok (.aload_n 1, 1)) (x2 : decode rx 2 = .ok (.invokespecial ix, 3)) (x5 : decode rx 5 = .ok (.return_, 1)) (hl : l.stackTraces = false) (hcls : Bundle.fit E = true) (hnames : ∀ n ∈ names, Bundle.fit n = true) (hc : cl[ci]? = some (E, T, 0))
    (hw1 : Cond.classLink own ik E ∈ Ts) (hw2 : Cond.initialized E ∈ Ts) (hR : ∀ U, G U → vk_R own is text (sp k) U) (hat : ∀ s : State, G s → ∀ args : Array Value, (∀ w ∈ Ts, w.before args s = true) → ∀ w ∈ vx_atS own ic E ix rx names, w.before args s = true)
    (hgood : ∀ w ∈ Cond.classLink own ik E :: Cond.initialized E :: vx_atS own ic E ix rx names, vx_ot w = true)
    (hU : ∀ U, G U → vx_Zq Bundle.tN "UNASSIGNED_STACK" Bundle.steD (fun q : Nat => z0 ≤ q) U U.heap) (hN : ∀ U, G U → vx_Zq Bundle.tN "SUPPRESSED_SENTINEL" Bundle.listD (fun q : Nat => z0 ≤ q) U U.heap)
    (d0 : decode cc pc = .ok (.new ik, 3)) (d3 : decode cc (pc + 3) = .ok (.dup, 1)) (d4 : decode cc (pc + 4) = .ok (.ldc is, 2)) (d6 : decode cc (pc + 6) = .ok (.invokespecial ic, 3)) (d9 : decode cc (pc + 9) = .ok (.athrow, 1))
    (hd : names.length + 3 ≤ d) (hd2 : zz_cs st + (13 * (names.length + 1) + 43) ≤ 64 * (d + 1)) {nc : Nat} (hs : zk_sh nc w) (hi : w.1 < 16 * nc) : zz_TX l Ts D cl fk cy z0 sp tys G own mn nL cc d (pc, lv, st, w) E (zz_pu w (3, ci, 0, 0) 6) := by
  refine ⟨⟨Nat.le_succ _, Nat.le_add_right _ _⟩, ?_⟩
  intro p e R s m args below meth c X r1 r2 hx H locs n0 s0 ls hI hS hl' hn hs0 hc1 hc2
  have hc1 : w.1 + 1 - n0 ≤ R.cells := hc1
  have hc2 : w.2.1 + 6 - s0 ≤ R.slots := hc2
  have hn : n0 ≤ w.1 := hn
  have hs0 : s0 ≤ w.2.1 := hs0
  have hg := X.2.2.2.2.2.2.2.2
  have ecs : ((zz_sv z0 sp st).map fun v => v.category).sum = zz_cs st := zz_cs_sv st
  refine vx_throwS (rest := zz_sv z0 sp st) (text := text) X.1 X.2.1 hl x0 x1 x2 x5 X.2.2.2.1 hcls hnames (X.2.2.2.2.1 _ hw1) (X.2.2.2.2.1 _ hw2) (hR s hg) (hat s hg args X.2.2.2.2.1) hgood (hU s hg) (hN s hg) hS (by rw [hl'.1]; exact X.2.2.1.symm) d0 d3 d4 d6 d9 (fun x h => (hx x h).elim) (by omega) (by rw [ecs]; omega) (by show w.1 - n0 + 1 ≤ _; omega) (by show w.2.1 - s0 + 6 ≤ _; omega) X.2.2.2.2.2.2.1 ?_ hS.2.2 (by show w.1 - n0 + 1 ≤ w.1 + 1 - n0; omega) (by show w.2.1 - s0 + 6 ≤ w.2.1 + 6 - s0; omega)
  intro t ce _ hz hce hv hcl hold
  refine ⟨rfl, zz_I_push (w := w) hsp0 hI rfl (fun j => zkt_g hs hi j) ?_ hz hold, ?_, ?_⟩
  · have hK := X.2.2.2.2.2.1.1 ci _ hc
    refine ⟨_, hc, ce, by have h1 := hI.1; rw [← h1]; exact hce, Option.some.inj (hcl.symm.trans hK.2.1), hv, fun k hk => absurd hk (Nat.not_lt_zero _)⟩
  · rw [hz]
    exact Nat.le_succ_of_le hS.1
  · intro q h1 h2
    rw [hold q (Nat.lt_of_lt_of_le h1 hS.1)]
    exact hS.2.1 q h1 h2
/-- 'throw new E("text")' -/
theorem zkt_newW (hsp0 : sp 18446744073709551616 = 0) {E text : String} {names : List String} {ik is ic ci k ix : Nat} {rx : ByteArray} {T : u_T} {lv : List (Nat × Value)} {st : List Value} {w : zz_W} (x0 : decode rx 0 = .ok (.aload_n 0, 1)) (x1 : decode rx 1 = .ok (.aload_n 1, 1)) (x2 : decode rx 2 = .ok (.invokespecial ix, 3)) (x5 : decode rx 5 = .ok (.return_, 1)) (hl : l.stackTraces = false) (hcls : Bundle.fit E = true) (hnames : ∀ n ∈ names, Bundle.fit n = true) (hc : cl[ci]? = some (E, T, 0))
    (hw1 : Cond.classLink own ik E ∈ Ts) (hw2 : Cond.initialized E ∈ Ts) (hR : ∀ U, G U → vk_R own is text (sp k) U) (hat : ∀ s : State, G s → ∀ args : Array Value, (∀ w ∈ Ts, w.before args s = true) → ∀ w ∈ vx_atS own ic E ix rx names, w.before args s = true)
    (hgood : ∀ w ∈ Cond.classLink own ik E :: Cond.initialized E :: vx_atS own ic E ix rx names, vx_ot w = true)
    (hU : ∀ U, G U → vx_Zq Bundle.tN "UNASSIGNED_STACK" Bundle.steD (fun q : Nat => z0 ≤ q) U U.heap) (hN : ∀ U, G U → vx_Zq Bundle.tN "SUPPRESSED_SENTINEL" Bundle.listD (fun q : Nat => z0 ≤ q) U U.heap)
    (d0 : decode cc pc = .ok (.new ik, 3)) (d3 : decode cc (pc + 3) = .ok (.dup, 1)) (d4 : decode cc (pc + 4) = .ok (.ldc_w is, 3)) (d6 : decode cc (pc + 7) = .ok (.invokespecial ic, 3)) (d9 : decode cc (pc + 10) = .ok (.athrow, 1))
    (hd : names.length + 3 ≤ d) (hd2 : zz_cs st + (13 * (names.length + 1) + 43) ≤ 64 * (d + 1)) {nc : Nat} (hs : zk_sh nc w) (hi : w.1 < 16 * nc) : zz_TX l Ts D cl fk cy z0 sp tys G own mn nL cc d (pc, lv, st, w) E (zz_pu w (3, ci, 0, 0) 6) := by
  refine ⟨⟨Nat.le_succ _, Nat.le_add_right _ _⟩, ?_⟩
  intro p e R s m args below meth c X r1 r2 hx H locs n0 s0 ls hI hS hl' hn hs0 hc1 hc2
  have hc1 : w.1 + 1 - n0 ≤ R.cells := hc1
  have hc2 : w.2.1 + 6 - s0 ≤ R.slots := hc2
  have hn : n0 ≤ w.1 := hn
  have hs0 : s0 ≤ w.2.1 := hs0
  have hg := X.2.2.2.2.2.2.2.2
  have ecs : ((zz_sv z0 sp st).map fun v => v.category).sum = zz_cs st := zz_cs_sv st
  refine vx_throwSW (rest := zz_sv z0 sp st) (text := text) X.1 X.2.1 hl x0 x1 x2 x5 X.2.2.2.1 hcls hnames (X.2.2.2.2.1 _ hw1) (X.2.2.2.2.1 _ hw2) (hR s hg) (hat s hg args X.2.2.2.2.1) hgood (hU s hg) (hN s hg) hS (by rw [hl'.1]; exact X.2.2.1.symm) d0 d3 d4 d6 d9 (fun x h => (hx x h).elim) (by omega) (by rw [ecs]; omega) (by show w.1 - n0 + 1 ≤ _; omega) (by show w.2.1 - s0 + 6 ≤ _; omega) X.2.2.2.2.2.2.1 ?_ hS.2.2 (by show w.1 - n0 + 1 ≤ w.1 + 1 - n0; omega) (by show w.2.1 - s0 + 6 ≤ w.2.1 + 6 - s0; omega)
  intro t ce _ hz hce hv hcl hold
  refine ⟨rfl, zz_I_push (w := w) hsp0 hI rfl (fun j => zkt_g hs hi j) ?_ hz hold, ?_, ?_⟩
  · have hK := X.2.2.2.2.2.1.1 ci _ hc
    refine ⟨_, hc, ce, by have h1 := hI.1; rw [← h1]; exact hce, Option.some.inj (hcl.symm.trans hK.2.1), hv, fun k hk => absurd hk (Nat.not_lt_zero _)⟩
  · rw [hz]
    exact Nat.le_succ_of_le hS.1
  · intro q h1 h2
    rw [hold q (Nat.lt_of_lt_of_le h1 hS.1)]
    exact hS.2.1 q h1 h2
end ZXN
end
