/-! CALLS between abstract frames: contracts as abstract frames before and behind -/
noncomputable section
theorem zk_J_rf {c : Nat} {HT : List (List zk_H)} {M : zk_M} {w : zz_W} {V : List (Nat × Int)} (h : zk_I c HT w) : zk_J c HT M (w, V) w := ⟨h, ⟨fun _ _ _ _ _ _ => rfl, fun _ _ _ _ => ⟨fun _ => rfl, fun _ _ _ => rfl⟩⟩, Nat.le_refl _, ⟨rfl, rfl⟩, fun _ _ => rfl⟩
/-- what N lets change, M does too -/
def zk_sub (M N : zk_M) (V V' : List (Nat × Int)) : Prop := (∀ q ∈ N.1, q.2 ≠ 998 → q ∈ M.1) ∧ ∀ i, (i, 998) ∈ N.1 → (i, 999) ∈ M.1 ∨ ((i, 998) ∈ M.1 ∧ ∀ m, zk_fre V i m → zk_fre V' i m)
theorem zk_J_tr {c : Nat} {HT : List (List zk_H)} {M N : zk_M} {w0 : zk_W0} {w w' : zz_W} {V : List (Nat × Int)} (h : zk_J c HT M w0 w) (h2 : zk_J c HT N (w, V) w') (hN : zk_sub M N w0.2 V) : zk_J c HT M w0 w' := by
  obtain ⟨a1, a2, a3, a4, a5⟩ := h
  obtain ⟨b1, b2, b3, b4, b5⟩ := h2
  refine ⟨b1, ⟨fun i k hk hn hi h3 => ?_, fun i hn hi h3 => ?_⟩, Nat.le_trans a3 b3, ⟨b4.1.trans a4.1, b4.2.trans a4.2⟩, fun i hi => ?_⟩
  · rw [b2.1 i k hk (fun h => hn (hN.1 _ h (by show k ≠ 998; omega))) (Nat.lt_of_lt_of_le hi a3) (by rw [zk_k3_1 (a5 i hi)]; exact h3)]
    exact a2.1 i k hk hn hi h3
  · have h9 : (i, 999) ∉ N.1 := fun h => hn (hN.1 _ h (by show (999 : Nat) ≠ 998; decide))
    have hb := b2.2 i h9 (Nat.lt_of_lt_of_le hi a3) (by rw [zk_k3_1 (a5 i hi)]; exact h3)
    have ha := a2.2 i hn hi h3
    by_cases h8 : (i, 998) ∈ N.1
    · rcases hN.2 i h8 with h | ⟨m1, m2⟩
      · exact absurd h hn
      · refine ⟨fun h => absurd m1 h, fun m hm hv => ?_⟩
        rw [hb.2 m hm (m2 m hv)]
        exact ha.2 m hm hv
    · have he := hb.1 h8
      refine ⟨fun h => ?_, fun m hm hv => ?_⟩
      · rw [he]
        exact ha.1 h
      · rw [← ha.2 m hm hv]
        unfold zk_el
        rw [he]
  · rw [b5 i (Nat.lt_of_lt_of_le hi a3)]
    exact a5 i hi
/-- arguments as locals -/
def zk_ar : Nat → List zk_V → List (Nat × zk_V)
  | _, [] => []
  | i, a :: as => (i, a) :: zk_ar (cond (Nat.beq a.1 1) (i + 2) (i + 1)) as
theorem zk_ar_ge : ∀ {as : List zk_V} {i : Nat} {q : Nat × zk_V}, q ∈ zk_ar i as → i ≤ q.1
  | [], _, _, h => by cases h
  | a :: as, i, q, h => by
    rcases List.mem_cons.mp h with e | h
    · rw [e]
      exact Nat.le_refl _
    · have := zk_ar_ge h
      cases hb : Nat.beq a.1 1 with
      | true => rw [hb] at this; exact Nat.le_trans (Nat.le_add_right _ _) this
      | false => rw [hb] at this; exact Nat.le_trans (Nat.le_add_right _ _) this
theorem zk_cat {s : Nat → Int} {a : zk_V} {v : Value} (h : zk_v s a v) (ht : Nat.ble a.1 3 = true) : (if v.category = 2 then 2 else 1) = cond (Nat.beq a.1 1) 2 1 := by
  have h3 := zz_ble ht
  by_cases h1 : a.1 = 1
  · obtain ⟨x, e, -⟩ := h.2.1 h1
    rw [e, h1]
    rfl
  · have hc : v.category = 1 := zk_c1_ok (a := a) (by
      unfold zk_c1
      rcases (show a.1 = 0 ∨ a.1 = 2 ∨ a.1 = 3 by omega) with e | e | e <;> rw [e] <;> rfl) h
    have hb : Nat.beq a.1 1 = false := by
      cases hb : Nat.beq a.1 1 with
      | false => rfl
      | true => exact absurd (zz_beq hb) h1
    rw [hc, hb]
    rfl
theorem zk_ar_ok {s : Nat → Int} : ∀ {as : List zk_V} {vs : List Value} {i : Nat}, as.all (fun a => Nat.ble a.1 3) = true → zk_st s as vs → zk_lc s (zk_ar i as) (lv_args i vs)
  | [], _, _, _, _ => fun q hq => by cases hq
  | _ :: _, [], _, _, h => h.elim
  | a :: as, v :: vs, i, ht, h => by
    rw [List.all_cons] at ht
    obtain ⟨t1, t2⟩ := zz_and ht
    have hc := zk_cat h.1 t1
    have hl : lv_args i (v :: vs) = (i, v) :: lv_args (cond (Nat.beq a.1 1) (i + 2) (i + 1)) vs := by
      show (i, v) :: lv_args (if v.category = 2 then i + 2 else i + 1) vs = _
      congr 2
      cases hb : Nat.beq a.1 1 with
      | true =>
        rw [hb] at hc
        by_cases h2 : v.category = 2
        · rw [if_pos h2]; rfl
        · rw [if_neg h2] at hc; cases hc
      | false =>
        rw [hb] at hc
        by_cases h2 : v.category = 2
        · rw [if_pos h2] at hc; cases hc
        · rw [if_neg h2]; rfl
    rw [hl]
    intro q hq
    rcases List.mem_cons.mp hq with e | hq
    · subst e
      exact ⟨v, by unfold zz_lg; rw [if_pos (by simp)], h.1⟩
    · have hge := zk_ar_ge hq
      have hgt : i < q.1 := by
        cases hb : Nat.beq a.1 1 with
        | true => rw [hb] at hge; have hge : i + 2 ≤ q.1 := hge; omega
        | false => rw [hb] at hge; have hge : i + 1 ≤ q.1 := hge; omega
      obtain ⟨u, u1, u2⟩ := zk_ar_ok (i := cond (Nat.beq a.1 1) (i + 2) (i + 1)) t2 h.2 q hq
      refine ⟨u, ?_, u2⟩
      unfold zz_lg
      rw [if_neg (by simp; omega)]
      exact u1
/-- new symbols: n, n + 1, .. -/
def zk_syms : Nat → Nat → List zl_E
  | _, 0 => []
  | n, k + 1 => zl_sym n :: zk_syms (n + 1) k
theorem zk_syms_at : ∀ {k n j : Nat} {q : zl_E}, (zk_syms n k)[j]? = some q → q = zl_sym (n + j) ∧ j < k
  | 0, _, _, _, h => by cases h
  | k + 1, n, 0, q, h => by
    cases h
    exact ⟨rfl, Nat.succ_pos _⟩
  | k + 1, n, j + 1, q, h => by
    obtain ⟨h1, h2⟩ := zk_syms_at (k := k) (n := n + 1) (j := j) h
    refine ⟨?_, by omega⟩
    rw [h1]
    congr 1
    omega
/-- a value with other symbols -/
def zk_vs (t : List zl_E) (a : zk_V) : zk_V := (a.1, a.2.1, zl_subst t a.2.2)
/-- behind a call: Q's symbols from m on are new ones -/
def zk_out (A : zk_A) (R : List zk_V) (t : List zl_E) (m : Nat) (N : zk_M) (Q : zk_A) : zk_A :=
  let t' := t ++ zk_syms A.2.2.2.1.length (Q.2.2.2.1.length - m)
  (A.1, Q.2.1.map (zk_vs t') ++ R, A.2.2.1.filter (fun q => !(zk_inM N.1 q.1.1 q.1.2)) ++ Q.2.2.1.map (fun q => (q.1, zk_vs t' q.2)), A.2.2.2.1 ++ Q.2.2.2.1.drop m, A.2.2.2.2 ++ Q.2.2.2.2.map (zl_subst t'))
/-- no symbol of Q is beyond its bounds -/
def zk_wq (Q : zk_A) : Bool := zk_wf Q.2.2.2.1.length Q.1 Q.2.1 Q.2.2.1 Q.2.2.2.2
theorem zk_st_app {s : Nat → Int} : ∀ {A B : List zk_V} {x y : List Value}, zk_st s A x → zk_st s B y → zk_st s (A ++ B) (x ++ y)
  | [], _, [], _, _, h => h
  | [], _, _ :: _, _, h, _ => h.elim
  | _ :: _, _, [], _, h, _ => h.elim
  | a :: A, B, v :: x, y, h, h2 => ⟨h.1, zk_st_app h.2 h2⟩
theorem zk_st_map {s u : Nat → Int} {t : List zl_E} {n : Nat} (hu : ∀ e : zl_E, (zl_mx e.2) ≤ n → zl_ev s (zl_subst t e) = zl_ev u e) : ∀ {A : List zk_V} {x : List Value}, A.all (zk_wv n) = true → zk_st u A x → zk_st s (A.map (zk_vs t)) x
  | [], [], _, _ => trivial
  | [], _ :: _, _, h => h.elim
  | _ :: _, [], _, h => h.elim
  | a :: A, v :: x, hw, h => by
    rw [List.all_cons] at hw
    obtain ⟨w1, w2⟩ := zz_and hw
    refine ⟨⟨fun h0 => ?_, fun h1 => ?_, h.1.2.2⟩, zk_st_map hu w2 h.2⟩
    · obtain ⟨y, y1, y2⟩ := h.1.1 h0
      exact ⟨y, y1, by rw [y2]; exact (hu _ (zz_ble w1)).symm⟩
    · obtain ⟨y, y1, y2⟩ := h.1.2.1 h1
      exact ⟨y, y1, fun h2 => by rw [y2 h2]; exact (hu _ (zz_ble w1)).symm⟩
theorem zk_out_ok {c : Nat} {HT : List (List zk_H)} {M N : zk_M} {w0 : zk_W0} {w w' : zz_W} {V : List (Nat × Int)} {A Q : zk_A} {R : List zk_V} {t : List zl_E} {m p p' n : Nat} {lv lq : List (Nat × Value)} {r rv : List Value} {s s' : Nat → Int}
    (hw : zk_wf A.2.2.2.1.length A.1 R A.2.2.1 A.2.2.2.2 = true) (ht : t.all (fun e => Nat.ble (zl_mx e.2) A.2.2.2.1.length) = true) (hm : t.length = m) (hQ : m ≤ Q.2.2.2.1.length) (hwq : zk_wq Q = true) (hF : A.2.2.1.all (fun q => Nat.beq (zk_h HT q.1.1).1 3 && Nat.blt q.1.2 998) = true) (hN : zk_sub M N w0.2 V)
    (g1 : zk_lc s A.1 lv) (g2 : zk_st s R r) (g3 : zk_fl s A.2.2.1 w) (g4 : zl_in s A.2.2.2.1) (g5 : zk_cs s A.2.2.2.2) (g6 : zk_J c HT M w0 w) (hG : zk_G (zk_J c HT N (w, V)) s' Q (p', lq, rv, w')) (hs : ∀ j, j < m → s' j = zk_u s t j) :
    A.2.2.2.1.length ≤ (zk_out A R t m N Q).2.2.2.1.length ∧ ∃ s'' : Nat → Int, zk_G (zk_J c HT M w0) s'' (zk_out A R t m N Q) (n, lv, rv ++ r, w') ∧ (∀ j, j < A.2.2.2.1.length → s'' j = s j) ∧ ∀ e : zl_E, (zl_mx e.2) ≤ Q.2.2.2.1.length → zl_ev s'' (zl_subst (t ++ zk_syms A.2.2.2.1.length (Q.2.2.2.1.length - m)) e) = zl_ev s' e := by
  refine ⟨by show _ ≤ (A.2.2.2.1 ++ Q.2.2.2.1.drop m).length; simp, ?_⟩
  obtain ⟨s2, hs2⟩ : ∃ s2 : Nat → Int, (fun j => if j < A.2.2.2.1.length then s j else s' (m + (j - A.2.2.2.1.length))) = s2 := ⟨_, rfl⟩
  have hd : ∀ j, j < A.2.2.2.1.length → s2 j = s j := fun j hj => by rw [← hs2]; exact if_pos hj
  refine ⟨s2, ?_⟩
  have hnew : ∀ j, s2 (A.2.2.2.1.length + j) = s' (m + j) := by
    intro j
    rw [← hs2]
    show (if A.2.2.2.1.length + j < A.2.2.2.1.length then _ else _) = _
    rw [if_neg (by omega)]
    congr 2
    omega
  obtain ⟨v1, v2, v3, v4⟩ := zk_wf_ok hw hd g1 g2 g3 g5
  obtain ⟨q1, q2, q3, q4, q5, q6⟩ := hG
  unfold zk_wq zk_wf at hwq
  obtain ⟨-, hwq⟩ := zz_and hwq
  obtain ⟨w2, hwq⟩ := zz_and hwq
  obtain ⟨w3, w4⟩ := zz_and hwq
  have hsub : ∀ e : zl_E, (zl_mx e.2) ≤ Q.2.2.2.1.length → zl_ev s2 (zl_subst (t ++ zk_syms A.2.2.2.1.length (Q.2.2.2.1.length - m)) e) = zl_ev s' e := by
    intro e he
    have hsl : ∀ k n, (zk_syms n k).length = k := by
      intro k
      induction k with
      | zero => intro n; rfl
      | succ k ih => intro n; show (zk_syms (n + 1) k).length + 1 = k + 1; rw [ih]
    refine zl_subst_ev (by rw [List.length_append, hsl]; omega) (fun j q hq => ?_)
    by_cases hj : j < t.length
    · rw [List.getElem?_append_left hj] at hq
      rw [hs j (by omega), zk_u_at j q hq]
      exact (zl_ev_eq (zz_ble (List.all_eq_true.mp ht q (List.mem_of_getElem? hq))) hd).symm
    · rw [List.getElem?_append_right (by omega)] at hq
      obtain ⟨e1, -⟩ := zk_syms_at hq
      rw [e1, zl_sym_ev, hnew]
      congr 1
      omega
  refine ⟨⟨v1, zk_st_app (zk_st_map hsub w2 q2) v2, fun q hq => ?_, fun k q hq => ?_, fun e he => ?_, zk_J_tr g6 q6 hN⟩, hd, hsub⟩
  · rcases List.mem_append.mp hq with hq | hq
    · obtain ⟨f1, f2⟩ := List.mem_filter.mp hq
      obtain ⟨hk1, hk2⟩ := zz_and (List.all_eq_true.mp hF q f1)
      have hk : (zk_h HT q.1.1).1 = 3 := zz_beq hk1
      obtain ⟨o1, o2, -⟩ := g6.1.2.2.2 q.1.1 (by omega)
      have hnm : (q.1.1, q.1.2) ∉ N.1 := by
        intro hin
        have : zk_inM N.1 q.1.1 q.1.2 = true := List.any_eq_true.mpr ⟨(q.1.1, q.1.2), hin, by show (Nat.beq q.1.1 q.1.1 && Nat.beq q.1.2 q.1.2) = true; rw [Nat.beq_refl, Nat.beq_refl]; rfl⟩
        rw [this] at f2
        cases f2
      have := v3 q f1
      rw [show zk_fd w' q.1 = zk_fd w q.1 from q6.2.1.1 q.1.1 q.1.2 (zz_blt hk2) hnm o1 (by rw [o2]; exact hk)]
      exact this
    · obtain ⟨a, a1, a2⟩ := List.mem_map.mp hq
      subst a2
      have h0 := q3 a a1
      refine ⟨fun h => ?_, h0.2⟩
      rw [h0.1 h]
      exact (hsub _ (zz_ble (List.all_eq_true.mp w3 a a1))).symm
  · have hq : (A.2.2.2.1 ++ Q.2.2.2.1.drop m)[k]? = some q := hq
    by_cases hk : k < A.2.2.2.1.length
    · rw [List.getElem?_append_left hk] at hq
      rw [hd k hk]
      exact g4 k q hq
    · rw [List.getElem?_append_right (by omega), List.getElem?_drop] at hq
      have := q4 _ q hq
      have e1 := hnew (k - A.2.2.2.1.length)
      rw [show A.2.2.2.1.length + (k - A.2.2.2.1.length) = k by omega] at e1
      rw [e1]
      exact this
  · have he : e ∈ A.2.2.2.2 ++ Q.2.2.2.2.map (zl_subst (t ++ zk_syms A.2.2.2.1.length (Q.2.2.2.1.length - m))) := he
    rcases List.mem_append.mp he with he | he
    · exact v4 e he
    · obtain ⟨a, a1, a2⟩ := List.mem_map.mp he
      subst a2
      rw [hsub _ (zz_ble (List.all_eq_true.mp w4 a a1))]
      exact q5 a a1
end
