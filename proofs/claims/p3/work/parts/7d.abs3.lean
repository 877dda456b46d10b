/-! ABSTRACT FRAMES, on: each branch, switches -/
noncomputable section
theorem zk_i_eq {x y : Int32} : x = y ↔ x.toInt = y.toInt := Int32.toInt_inj.symm
theorem zk_i_lt {x y : Int32} : x < y ↔ x.toInt < y.toInt := Int32.lt_iff_toInt_lt
theorem zk_i_le {x y : Int32} : x ≤ y ↔ x.toInt ≤ y.toInt := Int32.le_iff_toInt_le
theorem zt_icmp_eq_ok {I : zz_W → Prop} {A : zk_A} {R : List (Nat × zk_A)} {hs : List Nat} {t n : Nat} (h : zt_icmp hs 0 t n A = some R) : zk_R I (za_icmp_eq t n) A R :=
  zt_icmp_ok (fun K p lv x y r w => by
    by_cases hc : x = y
    · refine Or.inl ⟨?_, ze_icmp_eq_t hc⟩
      rw [zk_i_eq] at hc
      exact hc
    · refine Or.inr ⟨?_, ze_icmp_eq_f hc⟩
      rw [zk_i_eq] at hc
      show x.toInt ≠ y.toInt
      omega) h
theorem zt_if_eq_ok {I : zz_W → Prop} {A : zk_A} {R : List (Nat × zk_A)} {hs : List Nat} {t n : Nat} (h : zt_if hs 0 t n A = some R) : zk_R I (za_if_eq t n) A R :=
  zt_if_ok (fun K p lv x r w => by
    have z : (0 : Int32).toInt = 0 := rfl
    by_cases hc : x = 0
    · refine Or.inl ⟨?_, ze_if_eq_t hc⟩
      rw [zk_i_eq, z] at hc
      exact hc
    · refine Or.inr ⟨?_, ze_if_eq_f hc⟩
      rw [zk_i_eq, z] at hc
      show x.toInt ≠ 0
      omega) h
theorem zt_icmp_ne_ok {I : zz_W → Prop} {A : zk_A} {R : List (Nat × zk_A)} {hs : List Nat} {t n : Nat} (h : zt_icmp hs 1 t n A = some R) : zk_R I (za_icmp_ne t n) A R :=
  zt_icmp_ok (fun K p lv x y r w => by
    by_cases hc : ¬ x = y
    · refine Or.inl ⟨?_, ze_icmp_ne_t hc⟩
      rw [zk_i_eq] at hc
      exact hc
    · refine Or.inr ⟨?_, ze_icmp_ne_f hc⟩
      rw [zk_i_eq] at hc
      show x.toInt = y.toInt
      omega) h
theorem zt_if_ne_ok {I : zz_W → Prop} {A : zk_A} {R : List (Nat × zk_A)} {hs : List Nat} {t n : Nat} (h : zt_if hs 1 t n A = some R) : zk_R I (za_if_ne t n) A R :=
  zt_if_ok (fun K p lv x r w => by
    have z : (0 : Int32).toInt = 0 := rfl
    by_cases hc : ¬ x = 0
    · refine Or.inl ⟨?_, ze_if_ne_t hc⟩
      rw [zk_i_eq, z] at hc
      exact hc
    · refine Or.inr ⟨?_, ze_if_ne_f hc⟩
      rw [zk_i_eq, z] at hc
      show x.toInt = 0
      omega) h
theorem zt_icmp_lt_ok {I : zz_W → Prop} {A : zk_A} {R : List (Nat × zk_A)} {hs : List Nat} {t n : Nat} (h : zt_icmp hs 2 t n A = some R) : zk_R I (za_icmp_lt t n) A R :=
  zt_icmp_ok (fun K p lv x y r w => by
    by_cases hc : x < y
    · refine Or.inl ⟨?_, ze_icmp_lt_t hc⟩
      rw [zk_i_lt] at hc
      exact hc
    · refine Or.inr ⟨?_, ze_icmp_lt_f hc⟩
      rw [zk_i_lt] at hc
      show y.toInt ≤ x.toInt
      omega) h
theorem zt_if_lt_ok {I : zz_W → Prop} {A : zk_A} {R : List (Nat × zk_A)} {hs : List Nat} {t n : Nat} (h : zt_if hs 2 t n A = some R) : zk_R I (za_if_lt t n) A R :=
  zt_if_ok (fun K p lv x r w => by
    have z : (0 : Int32).toInt = 0 := rfl
    by_cases hc : x < 0
    · refine Or.inl ⟨?_, ze_if_lt_t hc⟩
      rw [zk_i_lt, z] at hc
      exact hc
    · refine Or.inr ⟨?_, ze_if_lt_f hc⟩
      rw [zk_i_lt, z] at hc
      show 0 ≤ x.toInt
      omega) h
theorem zt_icmp_ge_ok {I : zz_W → Prop} {A : zk_A} {R : List (Nat × zk_A)} {hs : List Nat} {t n : Nat} (h : zt_icmp hs 3 t n A = some R) : zk_R I (za_icmp_ge t n) A R :=
  zt_icmp_ok (fun K p lv x y r w => by
    by_cases hc : y ≤ x
    · refine Or.inl ⟨?_, ze_icmp_ge_t hc⟩
      rw [zk_i_le] at hc
      exact hc
    · refine Or.inr ⟨?_, ze_icmp_ge_f hc⟩
      rw [zk_i_le] at hc
      show x.toInt < y.toInt
      omega) h
theorem zt_if_ge_ok {I : zz_W → Prop} {A : zk_A} {R : List (Nat × zk_A)} {hs : List Nat} {t n : Nat} (h : zt_if hs 3 t n A = some R) : zk_R I (za_if_ge t n) A R :=
  zt_if_ok (fun K p lv x r w => by
    have z : (0 : Int32).toInt = 0 := rfl
    by_cases hc : 0 ≤ x
    · refine Or.inl ⟨?_, ze_if_ge_t hc⟩
      rw [zk_i_le, z] at hc
      exact hc
    · refine Or.inr ⟨?_, ze_if_ge_f hc⟩
      rw [zk_i_le, z] at hc
      show x.toInt < 0
      omega) h
theorem zt_icmp_gt_ok {I : zz_W → Prop} {A : zk_A} {R : List (Nat × zk_A)} {hs : List Nat} {t n : Nat} (h : zt_icmp hs 4 t n A = some R) : zk_R I (za_icmp_gt t n) A R :=
  zt_icmp_ok (fun K p lv x y r w => by
    by_cases hc : y < x
    · refine Or.inl ⟨?_, ze_icmp_gt_t hc⟩
      rw [zk_i_lt] at hc
      exact hc
    · refine Or.inr ⟨?_, ze_icmp_gt_f hc⟩
      rw [zk_i_lt] at hc
      show x.toInt ≤ y.toInt
      omega) h
theorem zt_if_gt_ok {I : zz_W → Prop} {A : zk_A} {R : List (Nat × zk_A)} {hs : List Nat} {t n : Nat} (h : zt_if hs 4 t n A = some R) : zk_R I (za_if_gt t n) A R :=
  zt_if_ok (fun K p lv x r w => by
    have z : (0 : Int32).toInt = 0 := rfl
    by_cases hc : 0 < x
    · refine Or.inl ⟨?_, ze_if_gt_t hc⟩
      rw [zk_i_lt, z] at hc
      exact hc
    · refine Or.inr ⟨?_, ze_if_gt_f hc⟩
      rw [zk_i_lt, z] at hc
      show x.toInt ≤ 0
      omega) h
theorem zt_icmp_le_ok {I : zz_W → Prop} {A : zk_A} {R : List (Nat × zk_A)} {hs : List Nat} {t n : Nat} (h : zt_icmp hs 5 t n A = some R) : zk_R I (za_icmp_le t n) A R :=
  zt_icmp_ok (fun K p lv x y r w => by
    by_cases hc : x ≤ y
    · refine Or.inl ⟨?_, ze_icmp_le_t hc⟩
      rw [zk_i_le] at hc
      exact hc
    · refine Or.inr ⟨?_, ze_icmp_le_f hc⟩
      rw [zk_i_le] at hc
      show y.toInt < x.toInt
      omega) h
theorem zt_if_le_ok {I : zz_W → Prop} {A : zk_A} {R : List (Nat × zk_A)} {hs : List Nat} {t n : Nat} (h : zt_if hs 5 t n A = some R) : zk_R I (za_if_le t n) A R :=
  zt_if_ok (fun K p lv x r w => by
    have z : (0 : Int32).toInt = 0 := rfl
    by_cases hc : x ≤ 0
    · refine Or.inl ⟨?_, ze_if_le_t hc⟩
      rw [zk_i_le, z] at hc
      exact hc
    · refine Or.inr ⟨?_, ze_if_le_f hc⟩
      rw [zk_i_le, z] at hc
      show 0 < x.toInt
      omega) h
def zt_ifnull (t n : Nat) (A : zk_A) : Option (List (Nat × zk_A)) := match A.2.1 with
  | (2, _, _) :: T => some [(n, (A.1, T, A.2.2.1, A.2.2.2.1, A.2.2.2.2))]
  | (3, _, _) :: T => some [(t, (A.1, T, A.2.2.1, A.2.2.2.1, A.2.2.2.2))]
  | _ => none
theorem zt_ifnull_ok {I : zz_W → Prop} {A : zk_A} {R : List (Nat × zk_A)} {t n : Nat} (h : zt_ifnull t n A = some R) : zk_R I (za_ifnull t n) A R := by
  obtain ⟨L, T, F, B, C⟩ := A
  unfold zt_ifnull at h
  split at h
  · rename_i k e r hT
    have hT : T = (2, k, e) :: r := hT
    subst hT
    cases h
    refine zk_S_R (zk_S_st (fun K s p lv st w hL hT => ?_))
    obtain ⟨v, st2, q4, q5, q6⟩ := zk_st_cons hT
    have e3 : v = .ref k := q5.2.2.1 rfl
    subst e3
    subst q4
    exact ⟨st2, rfl, q6⟩
  · rename_i k e r hT
    have hT : T = (3, k, e) :: r := hT
    subst hT
    cases h
    refine zk_S_R (zk_S_st (fun K s p lv st w hL hT => ?_))
    obtain ⟨v, st2, q4, q5, q6⟩ := zk_st_cons hT
    have e3 : v = .null := q5.2.2.2 rfl
    subst e3
    subst q4
    exact ⟨st2, rfl, q6⟩
  · cases h
theorem zt_ifnonnull_ok {I : zz_W → Prop} {A : zk_A} {R : List (Nat × zk_A)} {t n : Nat} (h : zt_ifnull n t A = some R) : zk_R I (za_ifnonnull t n) A R := by
  obtain ⟨L, T, F, B, C⟩ := A
  unfold zt_ifnull at h
  split at h
  · rename_i k e r hT
    have hT : T = (2, k, e) :: r := hT
    subst hT
    cases h
    refine zk_S_R (zk_S_st (fun K s p lv st w hL hT => ?_))
    obtain ⟨v, st2, q4, q5, q6⟩ := zk_st_cons hT
    have e3 : v = .ref k := q5.2.2.1 rfl
    subst e3
    subst q4
    exact ⟨st2, rfl, q6⟩
  · rename_i k e r hT
    have hT : T = (3, k, e) :: r := hT
    subst hT
    cases h
    refine zk_S_R (zk_S_st (fun K s p lv st w hL hT => ?_))
    obtain ⟨v, st2, q4, q5, q6⟩ := zk_st_cons hT
    have e3 : v = .null := q5.2.2.2 rfl
    subst e3
    subst q4
    exact ⟨st2, rfl, q6⟩
  · cases h
/-- the cases of a switch: v, v + 1, .. go to these places -/
def zk_sw (A : zk_A) (T : List zk_V) (hs : List Nat) (e : zl_E) : Int → List Nat → List (Nat × zk_A)
  | _, [] => []
  | v, t :: ts => (zk_and A T hs [zl_sub e (zl_con v), zl_sub (zl_con v) e]).map (fun B => (t, B)) ++ zk_sw A T hs e (v + 1) ts
theorem zk_sw_in {A : zk_A} {T : List zk_V} {hs : List Nat} {e : zl_E} : ∀ {ts : List Nat} {v : Int} {i t : Nat}, ts[i]? = some t → ∀ A' ∈ zk_and A T hs [zl_sub e (zl_con (v + (i : Int))), zl_sub (zl_con (v + (i : Int))) e], (t, A') ∈ zk_sw A T hs e v ts
  | [], _, _, _, h, _, _ => by cases h
  | u :: ts, v, 0, t, h, A', hA => by
    cases h
    have e0 : v + ((0 : Nat) : Int) = v := by omega
    rw [e0] at hA
    exact List.mem_append_left _ (List.mem_map.mpr ⟨A', hA, rfl⟩)
  | u :: ts, v, i + 1, t, h, A', hA => by
    have e0 : v + ((i + 1 : Nat) : Int) = v + 1 + (i : Int) := by omega
    rw [e0] at hA
    exact List.mem_append_right _ (zk_sw_in (ts := ts) (v := v + 1) (i := i) h A' hA)
def zt_tsw (hs : List Nat) (lo hi : Int) (dt : Nat) (ts : List Nat) (A : zk_A) : Option (List (Nat × zk_A)) := match A.2.1 with
  | (0, _, e) :: T => cond (decide (hi - lo + 1 = (ts.length : Int))) (some ((zk_and A T hs [zl_sub (zl_con (lo - 1)) e]).map (fun B => (dt, B)) ++ ((zk_and A T hs [zl_sub e (zl_con (hi + 1))]).map (fun B => (dt, B)) ++ zk_sw A T hs e lo ts))) none
  | _ => none
theorem zt_tsw_ok {I : zz_W → Prop} {A : zk_A} {R : List (Nat × zk_A)} {hs : List Nat} {lo hi : Int} {dt : Nat} {ts : List Nat} (h : zt_tsw hs lo hi dt ts A = some R) : zk_R I (za_tsw lo hi dt ts) A R := by
  obtain ⟨L, T, F, B, C⟩ := A
  unfold zt_tsw at h
  split at h
  · rename_i k1 e1 r hT
    have hT : T = (0, k1, e1) :: r := hT
    subst hT
    obtain ⟨hlen, h⟩ := zz_cond h
    have hlen := of_decide_eq_true hlen
    cases h
    intro K s f hG
    obtain ⟨p, lv, st, w⟩ := f
    obtain ⟨g1, g2, g3, g4, g5, g6⟩ := hG
    obtain ⟨x, st2, q4, q5, q6⟩ := zk_st_int g2 rfl
    have q4 : st = .int x :: st2 := q4
    subst q4
    by_cases hr : x.toInt < lo ∨ hi < x.toInt
    · have q5 : x.toInt = zl_ev s e1 := q5
      rcases hr with hr1 | hr1
      · obtain ⟨A', m1, m2, m3⟩ := zk_and_ok (I := I) (A := (L, (0, k1, e1) :: r, F, B, C)) (T := r) (hs := hs) (cs := [zl_sub (zl_con (lo - 1)) e1]) (n := dt) (w := w) g1 q6 g3 g4 g5 g6 (fun c hc => by rw [List.mem_singleton.mp hc, zl_sub_ev, zl_con_ev]; omega)
        exact ⟨s, (dt, lv, st2, w), (dt, A'), if_pos (Or.inl hr1), List.mem_append_left _ (List.mem_map.mpr ⟨A', m1, rfl⟩), rfl, m2, m3, fun _ _ => rfl⟩
      · obtain ⟨A', m1, m2, m3⟩ := zk_and_ok (I := I) (A := (L, (0, k1, e1) :: r, F, B, C)) (T := r) (hs := hs) (cs := [zl_sub e1 (zl_con (hi + 1))]) (n := dt) (w := w) g1 q6 g3 g4 g5 g6 (fun c hc => by rw [List.mem_singleton.mp hc, zl_sub_ev, zl_con_ev]; omega)
        exact ⟨s, (dt, lv, st2, w), (dt, A'), if_pos (Or.inr hr1), List.mem_append_right _ (List.mem_append_left _ (List.mem_map.mpr ⟨A', m1, rfl⟩)), rfl, m2, m3, fun _ _ => rfl⟩
    · have hr2 : lo ≤ x.toInt ∧ x.toInt ≤ hi := by omega
      have hi2 : (x.toInt - lo).toNat < ts.length := by omega
      have ht : ts[(x.toInt - lo).toNat]? = some ts[(x.toInt - lo).toNat] := List.getElem?_eq_getElem hi2
      have hv : lo + ((x.toInt - lo).toNat : Int) = x.toInt := by omega
      have hcs : zk_cs s [zl_sub e1 (zl_con (lo + ((x.toInt - lo).toNat : Int))), zl_sub (zl_con (lo + ((x.toInt - lo).toNat : Int))) e1] := by
        intro c hc
        have q5 : x.toInt = zl_ev s e1 := q5
        rcases List.mem_cons.mp hc with e | hc
        · rw [e, zl_sub_ev, zl_con_ev]; omega
        · rw [List.mem_singleton.mp hc, zl_sub_ev, zl_con_ev]; omega
      obtain ⟨A', m1, m2, m3⟩ := zk_and_ok (I := I) (A := (L, (0, k1, e1) :: r, F, B, C)) (T := r) (hs := hs) (n := ts[(x.toInt - lo).toNat]) (w := w) g1 q6 g3 g4 g5 g6 hcs
      refine ⟨s, (ts[(x.toInt - lo).toNat], lv, st2, w), (ts[(x.toInt - lo).toNat], A'), ?_, List.mem_append_right _ (List.mem_append_right _ (zk_sw_in ht A' m1)), rfl, m2, m3, fun _ _ => rfl⟩
      show (if x.toInt < lo ∨ hi < x.toInt then some ((dt, lv, st2, w) : zz_F) else match ts[(x.toInt - lo).toNat]? with | some t => some (t, lv, st2, w) | none => none) = _
      rw [if_neg hr, ht]
  · cases h
/-- the cases of a switch by a list -/
def zk_sl (A : zk_A) (T : List zk_V) (hs : List Nat) (e : zl_E) : List (Int × Nat) → List (Nat × zk_A)
  | [] => []
  | q :: l => (zk_and A T hs [zl_sub e (zl_con q.1), zl_sub (zl_con q.1) e]).map (fun B => (q.2, B)) ++ zk_sl A T hs e l
def zt_lsw (hs : List Nat) (dt : Nat) (l : List (Int × Nat)) (A : zk_A) : Option (List (Nat × zk_A)) := match A.2.1 with
  | (0, _, e) :: T => some (cond (l.any (fun q => zl_pos A.2.2.2.1 (zl_sub e (zl_con q.1)) && zl_pos A.2.2.2.1 (zl_sub (zl_con q.1) e))) [] [(dt, (A.1, T, A.2.2.1, A.2.2.2.1, A.2.2.2.2))] ++ zk_sl A T hs e l)
  | _ => none
theorem zk_lo_case {dt : Nat} {x : Int} : ∀ {l : List (Int × Nat)}, (zz_lo dt l x = some dt ∧ ∀ q ∈ l, x ≠ q.1) ∨ ∃ q ∈ l, x = q.1 ∧ zz_lo dt l x = some q.2
  | [] => Or.inl ⟨rfl, fun q hq => absurd hq List.not_mem_nil⟩
  | q :: l => by
    unfold zz_lo
    by_cases hx : x = q.1
    · rw [if_pos hx]
      exact Or.inr ⟨q, List.mem_cons_self, hx, rfl⟩
    · rw [if_neg hx]
      rcases zk_lo_case (dt := dt) (x := x) (l := l) with ⟨h, h9⟩ | ⟨q', h1, h2, h3⟩
      · exact Or.inl ⟨h, fun q' hq' => by
          rcases List.mem_cons.mp hq' with e | hq'
          · rw [e]
            exact hx
          · exact h9 q' hq'⟩
      · exact Or.inr ⟨q', List.mem_cons_of_mem _ h1, h2, h3⟩
theorem zk_sl_in {A : zk_A} {T : List zk_V} {hs : List Nat} {e : zl_E} : ∀ {l : List (Int × Nat)} {q : Int × Nat}, q ∈ l → ∀ A' ∈ zk_and A T hs [zl_sub e (zl_con q.1), zl_sub (zl_con q.1) e], (q.2, A') ∈ zk_sl A T hs e l
  | [], _, h, _, _ => by cases h
  | u :: l, q, h, A', hA => by
    rcases List.mem_cons.mp h with h | h
    · subst h
      exact List.mem_append_left _ (List.mem_map.mpr ⟨A', hA, rfl⟩)
    · exact List.mem_append_right _ (zk_sl_in h A' hA)
theorem zt_lsw_ok {I : zz_W → Prop} {A : zk_A} {R : List (Nat × zk_A)} {hs : List Nat} {dt : Nat} {l : List (Int × Nat)} (h : zt_lsw hs dt l A = some R) : zk_R I (za_lsw (zz_lo dt l)) A R := by
  obtain ⟨L, T, F, B, C⟩ := A
  unfold zt_lsw at h
  split at h
  · rename_i k1 e1 r hT
    have hT : T = (0, k1, e1) :: r := hT
    subst hT
    cases h
    intro K s f hG
    obtain ⟨p, lv, st, w⟩ := f
    obtain ⟨g1, g2, g3, g4, g5, g6⟩ := hG
    obtain ⟨x, st2, q4, q5, q6⟩ := zk_st_int g2 rfl
    have q4 : st = .int x :: st2 := q4
    subst q4
    have q5 : x.toInt = zl_ev s e1 := q5
    have hact : ∀ t, zz_lo dt l x.toInt = some t → za_lsw (zz_lo dt l) K (p, lv, .int x :: st2, w) = some (t, lv, st2, w) := by
      intro t ht
      show (match zz_lo dt l x.toInt with | some t => some ((t, lv, st2, w) : zz_F) | none => none) = _
      rw [ht]
    rcases zk_lo_case (dt := dt) (x := x.toInt) (l := l) with ⟨hd, hne⟩ | ⟨q, h1, h2, h3⟩
    · have hdef : l.any (fun q => zl_pos B (zl_sub e1 (zl_con q.1)) && zl_pos B (zl_sub (zl_con q.1) e1)) = false := by
        cases hb : l.any (fun q => zl_pos B (zl_sub e1 (zl_con q.1)) && zl_pos B (zl_sub (zl_con q.1) e1)) with
        | false => rfl
        | true =>
          obtain ⟨q, w1, w2⟩ := List.any_eq_true.mp hb
          obtain ⟨c1, c2⟩ := zz_and w2
          have c1 := zl_pos_ok g4 c1
          have c2 := zl_pos_ok g4 c2
          rw [zl_sub_ev, zl_con_ev] at c1 c2
          exact absurd (show x.toInt = q.1 by omega) (hne q w1)
      refine ⟨s, (dt, lv, st2, w), (dt, (L, r, F, B, C)), hact _ hd, List.mem_append_left _ ?_, rfl, ⟨g1, q6, g3, g4, g5, g6⟩, Nat.le_refl _, fun _ _ => rfl⟩
      show (dt, (L, r, F, B, C)) ∈ cond (l.any (fun q => zl_pos B (zl_sub e1 (zl_con q.1)) && zl_pos B (zl_sub (zl_con q.1) e1))) [] [(dt, (L, r, F, B, C))]
      rw [hdef]
      exact List.mem_cons_self
    · have hcs : zk_cs s [zl_sub e1 (zl_con q.1), zl_sub (zl_con q.1) e1] := by
        intro c hc
        rcases List.mem_cons.mp hc with e | hc
        · rw [e, zl_sub_ev, zl_con_ev]; omega
        · rw [List.mem_singleton.mp hc, zl_sub_ev, zl_con_ev]; omega
      obtain ⟨A', m1, m2, m3⟩ := zk_and_ok (I := I) (A := (L, (0, k1, e1) :: r, F, B, C)) (T := r) (hs := hs) (n := q.2) (w := w) g1 q6 g3 g4 g5 g6 hcs
      exact ⟨s, (q.2, lv, st2, w), (q.2, A'), hact _ h3, List.mem_append_right _ (zk_sl_in h1 A' m1), rfl, m2, m3, fun _ _ => rfl⟩
  · cases h
end
