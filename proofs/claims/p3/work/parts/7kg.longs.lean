/-! ABSTRACT FRAMES, on: longs: quotients, rests, what is less, comparisons, masks -/
noncomputable section
/-- the divisor is not 0: 0 it is above, 1 below -/
def zk_nz (A : zk_A) (hs : List (List Nat)) (k : Nat) (e : zl_E) : Bool := Nat.beq k 1 && cond (Nat.beq ((hs.getD 0 []).getD 0 0) 0) (zl_en A.2.2.2.1 A.2.2.2.2 (hs.getD 1 []) (zl_sub e (zl_con 1))) (zl_en A.2.2.2.1 A.2.2.2.2 (hs.getD 1 []) (zl_sub (zl_con (-1)) e))
theorem zk_nz_ok {A : zk_A} {hs : List (List Nat)} {k : Nat} {e : zl_E} {s : Nat → Int} {y : Int64} (h : zk_nz A hs k e = true) (h4 : zl_in s A.2.2.2.1) (h5 : zk_cs s A.2.2.2.2) (hy : k = 1 → y.toInt = zl_ev s e) : ¬ y = 0 := by
  obtain ⟨b1, b2⟩ := zz_and h
  have hy := hy (zz_beq b1)
  intro h0
  subst h0
  have h0 : (0 : Int64).toInt = 0 := rfl
  rw [h0] at hy
  cases hm : Nat.beq ((hs.getD 0 []).getD 0 0) 0 with
  | true =>
    rw [hm] at b2
    have := zl_en_ok h4 h5 b2
    rw [zl_sub_ev, zl_con_ev] at this
    omega
  | false =>
    rw [hm] at b2
    have := zl_en_ok h4 h5 b2
    rw [zl_sub_ev, zl_con_ev] at this
    omega
def zt_lq (hs : List (List Nat)) (A : zk_A) : Option zk_A := match A.2.1 with
  | (1, k2, e2) :: (1, _, _) :: r => cond (zk_nz A hs k2 e2) (some (A.1, (1, 0, zl_con 0) :: r, A.2.2.1, A.2.2.2.1, A.2.2.2.2)) none
  | _ => none
theorem zt_lq_ok {I : zz_W → Prop} {A A' : zk_A} {n : Nat} {hs : List (List Nat)} {act : zz_A} {g : Int64 → Int64 → Int64} (ha : ∀ (K : zz_K) (p : Nat) (lv : List (Nat × Value)) (x y : Int64) (r : List Value) (w : zz_W), ¬ y = 0 → act K (p, lv, .long y :: .long x :: r, w) = some (n, lv, .long (g x y) :: r, w)) (h : zt_lq hs A = some A') : zk_S I act n A A' := by
  obtain ⟨L, T, F, B, C⟩ := A
  unfold zt_lq at h
  split at h
  · rename_i k2 e2 k1 e1 r hT
    have hT : T = (1, k2, e2) :: (1, k1, e1) :: r := hT
    subst hT
    obtain ⟨hb, h⟩ := zz_cond h
    cases h
    refine ⟨Nat.le_refl _, fun K s f hG => ?_⟩
    obtain ⟨p, lv, st, w⟩ := f
    obtain ⟨g1, g2, g3, g4, g5, g6⟩ := hG
    obtain ⟨y, st1, q1, q2, q3⟩ := zk_st_lv g2 rfl
    obtain ⟨x, st2, q4, q6⟩ := zk_st_long q3 rfl
    have hst : st = .long y :: .long x :: st2 := by rw [← q4]; exact q1
    subst hst
    exact ⟨s, _, ha K p lv x y st2 w (zk_nz_ok hb g4 g5 q2), rfl, ⟨g1, ⟨zk_v_long, q6⟩, g3, g4, g5, g6⟩, fun _ _ => rfl⟩
  · cases h
/-- a quotient by a number above 0, of what is not below 0 -/
def zt_ldivC (hs : List (List Nat)) (A : zk_A) : Option zk_A := match A.2.1 with
  | (1, k2, e2) :: (1, k1, e1) :: r => match zl_c e2, zl_ub A.2.2.2.1 e1 with
    | some c, some u => cond (Nat.beq k2 1 && (Nat.beq k1 1 && (decide (0 < c) && (zl_en A.2.2.2.1 A.2.2.2.2 (hs.getD 1 []) e1 && (Nat.ble (zl_mx e1.2) A.2.2.2.1.length && zk_wf A.2.2.2.1.length A.1 r A.2.2.1 A.2.2.2.2)))))
      (some (A.1, (1, 1, zl_sym A.2.2.2.1.length) :: r, A.2.2.1, A.2.2.2.1 ++ [(0, u / c)], zl_sub e1 (zl_mul c (zl_sym A.2.2.2.1.length)) :: zl_sub (zl_add (zl_mul c (zl_sym A.2.2.2.1.length)) (zl_con (c - 1))) e1 :: A.2.2.2.2)) none
    | _, _ => none
  | _ => none
theorem zk_ldiv_pos {x y : Int64} (hx : 0 ≤ x.toInt) (hy : 0 < y.toInt) : (x / y).toInt = x.toInt / y.toInt := by
  have h1 : (x / y).toInt = (x.toInt.tdiv y.toInt).bmod (2 ^ 64) := Int64.toInt_div x y
  rw [h1, Int.tdiv_eq_ediv_of_nonneg hx]
  have h2 : 0 ≤ x.toInt / y.toInt := Int.ediv_nonneg hx (by omega)
  have h3 : x.toInt / y.toInt ≤ x.toInt := Int.ediv_le_self _ hx
  have h4 := Int64.toInt_lt x
  rw [Int.bmod_def]
  omega
theorem zt_ldivC_ok {I : zz_W → Prop} {A A' : zk_A} {n : Nat} {hs : List (List Nat)} (h : zt_ldivC hs A = some A') : zk_S I (za_ldiv n) n A A' := by
  obtain ⟨L, T, F, B, C⟩ := A
  unfold zt_ldivC at h
  split at h
  · rename_i k2 e2 k1 e1 r hT
    have hT : T = (1, k2, e2) :: (1, k1, e1) :: r := hT
    subst hT
    split at h
    · rename_i c u hc hu
      obtain ⟨hb, h⟩ := zz_cond h
      obtain ⟨b1, hb⟩ := zz_and hb
      obtain ⟨b2, hb⟩ := zz_and hb
      obtain ⟨b3, hb⟩ := zz_and hb
      obtain ⟨b4, hb⟩ := zz_and hb
      obtain ⟨b5, b6⟩ := zz_and hb
      have b3 := of_decide_eq_true b3
      have hu : zl_ub B e1 = some u := hu
      cases h
      refine ⟨by show B.length ≤ (B ++ [(0, u / c)]).length; simp, fun K s f hG => ?_⟩
      obtain ⟨p, lv, st, w⟩ := f
      obtain ⟨g1, g2, g3, g4, g5, g6⟩ := hG
      obtain ⟨y, st1, q1, q2, q3⟩ := zk_st_lv g2 rfl
      obtain ⟨x, st2, q4, q5, q6⟩ := zk_st_lv q3 rfl
      have hst : st = .long y :: .long x :: st2 := by rw [← q4]; exact q1
      subst hst
      have q2 : y.toInt = zl_ev s e2 := q2 (zz_beq b1)
      have q5 : x.toInt = zl_ev s e1 := q5 (zz_beq b2)
      rw [zl_c_ok (s := s) hc] at q2
      have z1 := zl_en_ok g4 g5 b4
      have z2 := zl_ub_ok g4 hu
      have hq : (x / y).toInt = zl_ev s e1 / c := by rw [zk_ldiv_pos (by omega) (by omega), q5, q2]
      have hy0 : ¬ y = 0 := fun h0 => by
        subst h0
        have h0 : (0 : Int64).toInt = 0 := rfl
        rw [h0] at q2
        omega
      have hag : ∀ j, j < B.length → (fun j => if j = B.length then zl_ev s e1 / c else s j) j = s j := fun j hj => if_neg (by omega)
      generalize hs' : (fun j => if j = B.length then zl_ev s e1 / c else s j) = s' at hag
      have hsB : s' B.length = zl_ev s e1 / c := by rw [← hs']; exact if_pos rfl
      obtain ⟨m1, m2, m3, m4⟩ := zk_wf_ok b6 hag g1 q6 g3 g5
      have he1 : zl_ev s' e1 = zl_ev s e1 := zl_ev_eq (n := B.length) (zz_ble b5) hag
      have hd1 := Int.mul_ediv_add_emod (zl_ev s e1) c
      have hd2 := Int.emod_nonneg (zl_ev s e1) (b := c) (by omega)
      have hd3 := Int.emod_lt_of_pos (zl_ev s e1) b3
      refine ⟨s', _, ze_ldiv hy0 rfl, rfl, ⟨m1, ⟨zk_v_lv (by rw [zl_sym_ev, hsB]; exact hq), m2⟩, m3, zl_in_snoc (fun k q hk => ?_) ?_ ?_, fun c0 hc0 => ?_, g6⟩, hag⟩
      · have hk' : k < B.length := (List.getElem?_eq_some_iff.mp hk).1
        rw [hag k hk']
        exact g4 k q hk
      · rw [hsB]
        exact Int.ediv_nonneg z1 (by omega)
      · rw [hsB]
        exact Int.ediv_le_ediv b3 z2
      · rcases List.mem_cons.mp hc0 with e | hc0
        · rw [e, zl_sub_ev, zl_mul_ev, zl_sym_ev, hsB, he1]
          omega
        · rcases List.mem_cons.mp hc0 with e | hc0
          · rw [e, zl_sub_ev, zl_add_ev, zl_mul_ev, zl_sym_ev, zl_con_ev, hsB, he1]
            omega
          · exact m4 c0 hc0
    · cases h
  · cases h
/-- a quotient of two numbers -/
def zt_ldivK (A : zk_A) : Option zk_A := match A.2.1 with
  | (1, k2, e2) :: (1, k1, e1) :: r => match zl_c e2, zl_c e1 with
    | some c, some d => cond (Nat.beq k2 1 && (Nat.beq k1 1 && (decide (0 < c) && decide (0 ≤ d)))) (some (A.1, (1, 1, zl_con (d / c)) :: r, A.2.2.1, A.2.2.2.1, A.2.2.2.2)) none
    | _, _ => none
  | _ => none
theorem zt_ldivK_ok {I : zz_W → Prop} {A A' : zk_A} {n : Nat} (h : zt_ldivK A = some A') : zk_S I (za_ldiv n) n A A' := by
  obtain ⟨L, T, F, B, C⟩ := A
  unfold zt_ldivK at h
  split at h
  · rename_i k2 e2 k1 e1 r hT
    have hT : T = (1, k2, e2) :: (1, k1, e1) :: r := hT
    subst hT
    split at h
    · rename_i c d hc hd
      obtain ⟨hb, h⟩ := zz_cond h
      obtain ⟨b1, hb⟩ := zz_and hb
      obtain ⟨b2, hb⟩ := zz_and hb
      obtain ⟨b3, b4⟩ := zz_and hb
      have b3 := of_decide_eq_true b3
      have b4 := of_decide_eq_true b4
      cases h
      refine ⟨Nat.le_refl _, fun K s f hG => ?_⟩
      obtain ⟨p, lv, st, w⟩ := f
      obtain ⟨g1, g2, g3, g4, g5, g6⟩ := hG
      obtain ⟨y, st1, q1, q2, q3⟩ := zk_st_lv g2 rfl
      obtain ⟨x, st2, q4, q5, q6⟩ := zk_st_lv q3 rfl
      have hst : st = .long y :: .long x :: st2 := by rw [← q4]; exact q1
      subst hst
      have q2 : y.toInt = zl_ev s e2 := q2 (zz_beq b1)
      have q5 : x.toInt = zl_ev s e1 := q5 (zz_beq b2)
      rw [zl_c_ok (s := s) hc] at q2
      rw [zl_c_ok (s := s) hd] at q5
      have hy0 : ¬ y = 0 := fun h0 => by
        subst h0
        have h0 : (0 : Int64).toInt = 0 := rfl
        rw [h0] at q2
        omega
      exact ⟨s, _, ze_ldiv hy0 rfl, rfl, ⟨g1, ⟨zk_v_lv (by rw [zk_ldiv_pos (by omega) (by omega), q5, q2, zl_con_ev]), q6⟩, g3, g4, g5, g6⟩, fun _ _ => rfl⟩
    · cases h
  · cases h
def zt_ldiv (hs : List (List Nat)) (A : zk_A) : Option zk_A := cond (Nat.beq ((hs.getD 0 []).getD 0 0) 2) (zt_ldivC hs A) (cond (Nat.beq ((hs.getD 0 []).getD 0 0) 3) (zt_ldivK A) (zt_lq hs A))
theorem zt_ldiv_ok {I : zz_W → Prop} {A A' : zk_A} {n : Nat} {hs : List (List Nat)} (h : zt_ldiv hs A = some A') : zk_S I (za_ldiv n) n A A' := by
  unfold zt_ldiv at h
  cases hb : Nat.beq ((hs.getD 0 []).getD 0 0) 2 with
  | true =>
    rw [hb] at h
    exact zt_ldivC_ok h
  | false =>
    rw [hb] at h
    cases hb3 : Nat.beq ((hs.getD 0 []).getD 0 0) 3 with
    | true =>
      rw [hb3] at h
      exact zt_ldivK_ok h
    | false =>
      rw [hb3] at h
      exact zt_lq_ok (g := fun x y => x / y) (fun K p lv x y r w hy => ze_ldiv hy rfl) h
theorem zt_lrem_ok {I : zz_W → Prop} {A A' : zk_A} {n : Nat} {hs : List (List Nat)} (h : zt_lq hs A = some A') : zk_S I (za_lrem n) n A A' := zt_lq_ok (g := fun x y => x - x / y * y) (fun K p lv x y r w hy => ze_lrem hy rfl) h
/-- less than nothing -/
def zt_lneg (A : zk_A) : Option zk_A := match A.2.1 with
  | (1, k, e) :: r => cond (Nat.beq k 1 && zl_pos A.2.2.2.1 (zl_add e (zl_con 9223372036854775807))) (some (A.1, (1, 1, zl_neg e) :: r, A.2.2.1, A.2.2.2.1, A.2.2.2.2)) (some (A.1, (1, 0, zl_con 0) :: r, A.2.2.1, A.2.2.2.1, A.2.2.2.2))
  | _ => none
theorem zt_lneg_ok {I : zz_W → Prop} {A A' : zk_A} {n : Nat} (h : zt_lneg A = some A') : zk_S I (za_lneg n) n A A' := by
  obtain ⟨L, T, F, B, C⟩ := A
  unfold zt_lneg at h
  split at h
  · rename_i k e r hT
    have hT : T = (1, k, e) :: r := hT
    subst hT
    cases hb : (Nat.beq k 1 && zl_pos B (zl_add e (zl_con 9223372036854775807))) with
    | true =>
      rw [hb] at h
      cases h
      obtain ⟨b1, b2⟩ := zz_and hb
      refine ⟨Nat.le_refl _, fun K s f hG => ?_⟩
      obtain ⟨p, lv, st, w⟩ := f
      obtain ⟨g1, g2, g3, g4, g5, g6⟩ := hG
      obtain ⟨x, st1, q1, q2, q3⟩ := zk_st_lv g2 rfl
      have q1 : st = .long x :: st1 := q1
      subst q1
      have q2 : x.toInt = zl_ev s e := q2 (zz_beq b1)
      have z1 := zl_pos_ok g4 b2
      rw [zl_add_ev, zl_con_ev] at z1
      have z2 := Int64.toInt_lt x
      have hv : (-x).toInt = -x.toInt := by
        rw [Int64.toInt_neg, Int.bmod_def]
        omega
      exact ⟨s, _, ze_lneg rfl, rfl, ⟨g1, ⟨zk_v_lv (by rw [hv, q2, zl_neg_ev]), q3⟩, g3, g4, g5, g6⟩, fun _ _ => rfl⟩
    | false =>
      rw [hb] at h
      cases h
      refine ⟨Nat.le_refl _, fun K s f hG => ?_⟩
      obtain ⟨p, lv, st, w⟩ := f
      obtain ⟨g1, g2, g3, g4, g5, g6⟩ := hG
      obtain ⟨x, st1, q1, q3⟩ := zk_st_long g2 rfl
      have q1 : st = .long x :: st1 := q1
      subst q1
      exact ⟨s, _, ze_lneg rfl, rfl, ⟨g1, ⟨zk_v_long, q3⟩, g3, g4, g5, g6⟩, fun _ _ => rfl⟩
  · cases h
/-- a comparison: three roads, where both are known -/
def zt_lcmp3 (n : Nat) (hs : List (List Nat)) (A : zk_A) : Option (List (Nat × zk_A)) := match A.2.1, Nat.beq ((hs.getD 0 []).getD 0 0) 3 with
  | (1, k2, e2) :: (1, k1, e1) :: r, true => cond (Nat.beq k2 1 && Nat.beq k1 1) (some (((zk_and A ((0, 0, zl_con (-1)) :: r) (hs.getD 1 []) [zl_sub (zl_sub e2 e1) (zl_con 1)]) ++ ((zk_and A ((0, 0, zl_con 0) :: r) (hs.getD 2 []) [zl_sub e1 e2, zl_sub e2 e1]) ++ (zk_and A ((0, 0, zl_con 1) :: r) (hs.getD 3 []) [zl_sub (zl_sub e1 e2) (zl_con 1)]))).map (fun X => (n, X)))) none
  | _, _ => match zt_L2 (-1) 1 A with
    | some A' => some [(n, A')]
    | none => none
theorem zt_lcmp3_ok {I : zz_W → Prop} {A : zk_A} {n : Nat} {hs : List (List Nat)} {R : List (Nat × zk_A)} (h : zt_lcmp3 n hs A = some R) : zk_R I (za_lcmp n) A R := by
  unfold zt_lcmp3 at h
  split at h
  · rename_i k2 e2 k1 e1 r hT _
    obtain ⟨hb, h⟩ := zz_cond h
    obtain ⟨b1, b2⟩ := zz_and hb
    cases h
    intro K s f hG
    obtain ⟨p, lv, st, w⟩ := f
    obtain ⟨g1, g2, g3, g4, g5, g6⟩ := hG
    have g2 : zk_st s A.2.1 st := g2
    rw [hT] at g2
    obtain ⟨y, st1, q1, q2, q3⟩ := zk_st_lv g2 rfl
    obtain ⟨x, st2, q4, q5, q6⟩ := zk_st_lv q3 rfl
    have hst : st = .long y :: .long x :: st2 := by rw [← q4]; exact q1
    subst hst
    have q2 : y.toInt = zl_ev s e2 := q2 (zz_beq b1)
    have q5 : x.toInt = zl_ev s e1 := q5 (zz_beq b2)
    by_cases c1 : x > y
    · have c2 : y.toInt < x.toInt := Int64.lt_iff_toInt_lt.mp c1
      have hv : lg_cmp x y = 1 := if_pos c1
      obtain ⟨A', m1, m2, m3⟩ := zk_and_ok (I := I) (A := A) (T := (0, 0, zl_con 1) :: r) (r := Value.int 1 :: st2) (hs := hs.getD 3 []) (cs := [zl_sub (zl_sub e1 e2) (zl_con 1)]) (n := n) g1 ⟨zk_v_int (by rw [zl_con_ev]; rfl), q6⟩ g3 g4 g5 g6 (fun c hc => by rw [List.mem_singleton.mp hc, zl_sub_ev, zl_sub_ev, zl_con_ev]; omega)
      exact ⟨s, _, (n, A'), ze_lcmp hv, List.mem_map.mpr ⟨A', List.mem_append_right _ (List.mem_append_right _ m1), rfl⟩, rfl, m2, m3, fun _ _ => rfl⟩
    · by_cases c2 : x = y
      · have hv : lg_cmp x y = 0 := (if_neg c1).trans (if_pos c2)
        have c3 : x.toInt = y.toInt := congrArg Int64.toInt c2
        obtain ⟨A', m1, m2, m3⟩ := zk_and_ok (I := I) (A := A) (T := (0, 0, zl_con 0) :: r) (r := Value.int 0 :: st2) (hs := hs.getD 2 []) (cs := [zl_sub e1 e2, zl_sub e2 e1]) (n := n) g1 ⟨zk_v_int (by rw [zl_con_ev]; rfl), q6⟩ g3 g4 g5 g6 (fun c hc => by
          rcases List.mem_cons.mp hc with hc | hc
          · rw [hc, zl_sub_ev]
            omega
          · rw [List.mem_singleton.mp hc, zl_sub_ev]
            omega)
        exact ⟨s, _, (n, A'), ze_lcmp hv, List.mem_map.mpr ⟨A', List.mem_append_right _ (List.mem_append_left _ m1), rfl⟩, rfl, m2, m3, fun _ _ => rfl⟩
      · have hv : lg_cmp x y = -1 := (if_neg c1).trans (if_neg c2)
        have c3 : x.toInt < y.toInt := by
          have c4 : ¬ y.toInt < x.toInt := fun hc => c1 (Int64.lt_iff_toInt_lt.mpr hc)
          have c5 : x.toInt ≠ y.toInt := fun hc => c2 (Int64.toInt_inj.mp hc)
          omega
        obtain ⟨A', m1, m2, m3⟩ := zk_and_ok (I := I) (A := A) (T := (0, 0, zl_con (-1)) :: r) (r := Value.int (-1) :: st2) (hs := hs.getD 1 []) (cs := [zl_sub (zl_sub e2 e1) (zl_con 1)]) (n := n) g1 ⟨zk_v_int (by rw [zl_con_ev]; rfl), q6⟩ g3 g4 g5 g6 (fun c hc => by rw [List.mem_singleton.mp hc, zl_sub_ev, zl_sub_ev, zl_con_ev]; omega)
        exact ⟨s, _, (n, A'), ze_lcmp hv, List.mem_map.mpr ⟨A', List.mem_append_left _ m1, rfl⟩, rfl, m2, m3, fun _ _ => rfl⟩
  · split at h
    · rename_i A' hA
      cases h
      exact zk_S_R (zt_lcmp_ok hA)
    · cases h
/-- the lowest half of what an int was: 1 it is not below 0, 2 it is -/
def zt_land3 (hs : List (List Nat)) (A : zk_A) : Option zk_A := match A.2.1, (hs.getD 0 []).getD 0 0 with
  | (1, k2, e2) :: (1, k1, e1) :: r, 1 => cond ((Nat.beq k2 1 && Nat.beq k1 1) && (zl_nul (zl_sub e2 (zl_con 4294967295)) && (zl_en A.2.2.2.1 A.2.2.2.2 (hs.getD 1 []) e1 && zl_en A.2.2.2.1 A.2.2.2.2 (hs.getD 2 []) (zl_sub (zl_con 4294967295) e1)))) (some (A.1, (1, 1, e1) :: r, A.2.2.1, A.2.2.2.1, A.2.2.2.2)) none
  | (1, k2, e2) :: (1, k1, e1) :: r, 2 => cond ((Nat.beq k2 1 && Nat.beq k1 1) && (zl_nul (zl_sub e2 (zl_con 4294967295)) && (zl_en A.2.2.2.1 A.2.2.2.2 (hs.getD 1 []) (zl_sub (zl_con (-1)) e1) && zl_en A.2.2.2.1 A.2.2.2.2 (hs.getD 2 []) (zl_add e1 (zl_con 4294967296))))) (some (A.1, (1, 1, zl_add e1 (zl_con 4294967296)) :: r, A.2.2.1, A.2.2.2.1, A.2.2.2.2)) none
  | _, _ => zt_LL A
theorem zk_nL0 {x : Int64} (h : 0 ≤ x.toInt) : (zz_nL x : Int) = x.toInt := by
  have h1 : x.toInt = x.toBitVec.toInt := rfl
  rw [h1] at h ⊢
  rw [BitVec.toInt_eq_toNat_cond] at h ⊢
  have h2 := x.toBitVec.isLt
  show ((x.toBitVec.toNat : Nat) : Int) = _
  split at h
  · rw [if_pos (by assumption)]
  · omega
theorem zk_nL1 {x : Int64} (h : x.toInt < 0) : (zz_nL x : Int) = x.toInt + 18446744073709551616 := by
  have h1 : x.toInt = x.toBitVec.toInt := rfl
  rw [h1] at h ⊢
  rw [BitVec.toInt_eq_toNat_cond] at h ⊢
  have h2 := x.toBitVec.isLt
  show ((x.toBitVec.toNat : Nat) : Int) = _
  split at h
  · omega
  · rw [if_neg (by assumption)]
    omega
theorem zk_land_m {x y : Int64} (hy : y.toInt = 4294967295) : (x &&& y).toInt = ((zz_nL x % 4294967296 : Nat) : Int) := by
  have e1 : zz_nL (x &&& y) = zz_nL x % 4294967296 := by
    have e2 : zz_nL y = 2 ^ 32 - 1 := by
      have := zk_nL0 (x := y) (by omega)
      omega
    show (x.toBitVec &&& y.toBitVec).toNat = _
    rw [BitVec.toNat_and]
    show zz_nL x &&& zz_nL y = _
    rw [e2, Nat.and_two_pow_sub_one_eq_mod]
  have h1 : (x &&& y).toInt = (x &&& y).toBitVec.toInt := rfl
  have h2 : (x &&& y).toBitVec.toNat = zz_nL x % 4294967296 := e1
  rw [h1, BitVec.toInt_eq_toNat_cond, h2]
  have h3 : zz_nL x % 4294967296 < 4294967296 := Nat.mod_lt _ (by decide)
  rw [if_pos (by omega)]
theorem zt_land3_ok {I : zz_W → Prop} {A A' : zk_A} {n : Nat} {hs : List (List Nat)} (h : zt_land3 hs A = some A') : zk_S I (za_land n) n A A' := by
  obtain ⟨L, T, F, B, C⟩ := A
  unfold zt_land3 at h
  split at h
  · rename_i k2 e2 k1 e1 r hT _
    have hT : T = (1, k2, e2) :: (1, k1, e1) :: r := hT
    subst hT
    obtain ⟨hb, h⟩ := zz_cond h
    obtain ⟨ha, hb⟩ := zz_and hb
    obtain ⟨a1, a2⟩ := zz_and ha
    obtain ⟨b1, hb⟩ := zz_and hb
    obtain ⟨b2, b3⟩ := zz_and hb
    cases h
    refine ⟨Nat.le_refl _, fun K s f hG => ?_⟩
    obtain ⟨p, lv, st, w⟩ := f
    obtain ⟨g1, g2, g3, g4, g5, g6⟩ := hG
    obtain ⟨y, st1, q1, q2, q3⟩ := zk_st_lv g2 rfl
    obtain ⟨x, st2, q4, q5, q6⟩ := zk_st_lv q3 rfl
    have hst : st = .long y :: .long x :: st2 := by rw [← q4]; exact q1
    subst hst
    have q2 : y.toInt = zl_ev s e2 := q2 (zz_beq a1)
    have q5 : x.toInt = zl_ev s e1 := q5 (zz_beq a2)
    have z1 := zl_nul_ok (s := s) b1
    have z2 := zl_en_ok g4 g5 b2
    have z3 := zl_en_ok g4 g5 b3
    rw [zl_sub_ev, zl_con_ev] at z1 z3
    have z4 := zk_nL0 (x := x) (by omega)
    exact ⟨s, _, ze_land rfl, rfl, ⟨g1, ⟨zk_v_lv (by rw [zk_land_m (by omega)]; omega), q6⟩, g3, g4, g5, g6⟩, fun _ _ => rfl⟩
  · rename_i k2 e2 k1 e1 r hT _
    have hT : T = (1, k2, e2) :: (1, k1, e1) :: r := hT
    subst hT
    obtain ⟨hb, h⟩ := zz_cond h
    obtain ⟨ha, hb⟩ := zz_and hb
    obtain ⟨a1, a2⟩ := zz_and ha
    obtain ⟨b1, hb⟩ := zz_and hb
    obtain ⟨b2, b3⟩ := zz_and hb
    cases h
    refine ⟨Nat.le_refl _, fun K s f hG => ?_⟩
    obtain ⟨p, lv, st, w⟩ := f
    obtain ⟨g1, g2, g3, g4, g5, g6⟩ := hG
    obtain ⟨y, st1, q1, q2, q3⟩ := zk_st_lv g2 rfl
    obtain ⟨x, st2, q4, q5, q6⟩ := zk_st_lv q3 rfl
    have hst : st = .long y :: .long x :: st2 := by rw [← q4]; exact q1
    subst hst
    have q2 : y.toInt = zl_ev s e2 := q2 (zz_beq a1)
    have q5 : x.toInt = zl_ev s e1 := q5 (zz_beq a2)
    have z1 := zl_nul_ok (s := s) b1
    have z2 := zl_en_ok g4 g5 b2
    have z3 := zl_en_ok g4 g5 b3
    rw [zl_sub_ev, zl_con_ev] at z1 z2
    rw [zl_add_ev, zl_con_ev] at z3
    have z4 := zk_nL1 (x := x) (by omega)
    exact ⟨s, _, ze_land rfl, rfl, ⟨g1, ⟨zk_v_lv (by rw [zk_land_m (by omega), zl_add_ev, zl_con_ev]; omega), q6⟩, g3, g4, g5, g6⟩, fun _ _ => rfl⟩
  · exact zt_land_ok h
end
