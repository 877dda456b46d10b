/-! ABSTRACT FRAMES, on: booleans, longs, references, bytes that are set or read; quotients -/
noncomputable section
theorem zk_putI_gen2 {c : Nat} {HT : List (List zk_H)} {M : zk_M} {w0 : zk_W0} {A A' : zk_A} {h1 h2 : List Nat} {ci k n : Nat} {act : zz_A} {P : Int32 → Prop} (hP : ∀ (d1 : Nat) (e : zl_E) (i : Nat) (e0 : zl_E) (T : List zk_V), A.2.1 = (0, d1, e) :: (2, i, e0) :: T → ∀ (d : Nat) (lo hi : Int), zk_fs HT ci i k = some (0, d, lo, hi) → ∀ x : Int32, lo ≤ x.toInt → x.toInt ≤ hi → P x) (ha : ∀ (K : zz_K) (p : Nat) (lv : List (Nat × Value)) (x : Int32) (i : Nat) (r : List Value) (w : zz_W), P x → act K (p, lv, .int x :: .ref i :: r, w) = zz_pf w i ci k (zz_nI x) (fun w => some (n, lv, r, w))) (h : zt_putI HT M h1 h2 ci k A = some A') : zk_SW c HT M w0 act n A A' (fun _ w w' => zk_rF (zk_tg1 A) k w w') := by
  have h0 := zt_putI_ok (c := c) (w0 := w0) (n := n) h
  refine ⟨h0.1, fun K s f hpv hG => ?_⟩
  obtain ⟨f', e1, e2, e3, e4⟩ := h0.2 K s f hpv hG
  refine ⟨f', ?_, e2, e3, e4⟩
  obtain ⟨L, T0, F, B, C⟩ := A
  unfold zt_putI at h
  split at h
  · rename_i d1 e i e0 T hT
    split at h
    · rename_i d lo hi hfs
      obtain ⟨hb, -⟩ := zz_cond h
      obtain ⟨b1, hb⟩ := zz_and hb
      obtain ⟨b2, -⟩ := zz_and hb
      have hT' : T0 = (0, d1, e) :: (2, i, e0) :: T := hT
      subst hT'
      obtain ⟨p, lv, st, w⟩ := f
      obtain ⟨g1, g2, g3, g4, g5, g6⟩ := hG
      obtain ⟨x, st1, q1, q2, q3⟩ := zk_st_int g2 rfl
      obtain ⟨v, st2, q4, q5, q6⟩ := zk_st_cons q3
      have e5 : v = .ref i := q5.2.2.1 rfl
      subst e5
      have hst : st = .int x :: .ref i :: st2 := by rw [← q4]; exact q1
      subst hst
      have q2 : x.toInt = zl_ev s e := q2
      have c1 := zl_en_ok g4 g5 b1
      have c2 := zl_en_ok g4 g5 b2
      rw [zl_sub_ev, zl_con_ev] at c1 c2
      rw [ha K p lv x i st2 w (hP d1 e i e0 T rfl d lo hi hfs x (by omega) (by omega))]
      exact e1
    · cases h
  · cases h
/-- the spec's bounds are within others -/
def zk_wi (HT : List (List zk_H)) (ci k : Nat) (A : zk_A) (a b : Int) : Bool := match A.2.1 with
  | (0, _, _) :: (2, i, _) :: _ => match zk_fs HT ci i k with
    | some (0, _, lo, hi) => decide (a ≤ lo) && decide (hi ≤ b)
    | _ => false
  | _ => false
theorem zk_wi_ok {HT : List (List zk_H)} {ci k : Nat} {A : zk_A} {a b : Int} (h : zk_wi HT ci k A a b = true) (d1 : Nat) (e : zl_E) (i : Nat) (e0 : zl_E) (T : List zk_V) (hT : A.2.1 = (0, d1, e) :: (2, i, e0) :: T) (d : Nat) (lo hi : Int) (hf : zk_fs HT ci i k = some (0, d, lo, hi)) : a ≤ lo ∧ hi ≤ b := by
  unfold zk_wi at h
  rw [hT] at h
  have h : (match zk_fs HT ci i k with
    | some (0, _, lo, hi) => decide (a ≤ lo) && decide (hi ≤ b)
    | _ => false) = true := h
  rw [hf] at h
  obtain ⟨h1, h2⟩ := zz_and (show (decide (a ≤ lo) && decide (hi ≤ b)) = true from h)
  exact ⟨of_decide_eq_true h1, of_decide_eq_true h2⟩
def zt_putZ (HT : List (List zk_H)) (M : zk_M) (h1 h2 : List Nat) (ci k : Nat) (A : zk_A) : Option zk_A := cond (zk_wi HT ci k A 0 1) (zt_putI HT M h1 h2 ci k A) none
theorem zt_putZ_ok {c : Nat} {HT : List (List zk_H)} {M : zk_M} {w0 : zk_W0} {A A' : zk_A} {h1 h2 : List Nat} {ci k n : Nat} (h : zt_putZ HT M h1 h2 ci k A = some A') : zk_SW c HT M w0 (za_putZ ci k n) n A A' (fun _ w w' => zk_rF (zk_tg1 A) k w w') := by
  obtain ⟨hw, h⟩ := zz_cond h
  refine zk_putI_gen2 (P := fun x => zz_nI x < 2) (fun d1 e i e0 T hT d lo hi hf x hlo hhi => ?_) (fun K p lv x i r w hx => ?_) h
  · have := zk_wi_ok hw d1 e i e0 T hT d lo hi hf
    have hn := zk_nI (x := x) (by omega)
    omega
  · have hb : Nat.blt (zz_nI x) 2 = true := Nat.ble_eq.mpr hx
    show cond (Nat.blt (zz_nI x) 2) (zz_pf w i ci k (zz_nI x) (fun w => some ((n, lv, r, w) : zz_F))) none = _
    rw [hb]
    rfl
/-- a long's field -/
def zt_getL (HT : List (List zk_H)) (ci k : Nat) (A : zk_A) : Option zk_A := match A.2.1 with
  | (2, i, _) :: T => match zk_fs HT ci i k with
    | some (1, _, _) => some (A.1, (1, 0, zl_con 0) :: T, A.2.2.1, A.2.2.2.1, A.2.2.2.2)
    | _ => none
  | _ => none
theorem zt_getL_ok {c : Nat} {HT : List (List zk_H)} {I : zz_W → Prop} (hI : ∀ w, I w → zk_I c HT w) {A A' : zk_A} {ci k n : Nat} (h : zt_getL HT ci k A = some A') : zk_S I (za_getL ci k n) n A A' := by
  obtain ⟨L, T0, F, B, C⟩ := A
  unfold zt_getL at h
  split at h
  · rename_i i e0 T hT
    have hT : T0 = (2, i, e0) :: T := hT
    subst hT
    split at h
    · rename_i d q hfs
      cases h
      refine ⟨Nat.le_refl _, fun K s f hG => ?_⟩
      obtain ⟨p, lv, st, w⟩ := f
      obtain ⟨g1, g2, g3, g4, g5, g6⟩ := hG
      obtain ⟨v, st2, q4, q5, q6⟩ := zk_st_cons g2
      have e3 : v = .ref i := q5.2.2.1 rfl
      subst e3
      have q4 : st = .ref i :: st2 := q4
      subst q4
      obtain ⟨o1, o2, o3, o4, o5, o6, o7, o8⟩ := zk_fs_ok hfs (hI _ g6)
      refine ⟨s, (n, lv, .long (Int64.ofNat (zk_fd w (i, k))) :: st2, w), ?_, rfl, ⟨g1, ⟨zk_v_long, q6⟩, g3, g4, g5, g6⟩, fun _ _ => rfl⟩
      show cond (zz_io w i ci k) (zz_fN (zz_at 64 (zz_g w i).2.2.2 k) (fun v => some ((n, lv, .long (Int64.ofNat v) :: st2, w) : zz_F))) none = _
      rw [o6, zz_fN_eq]
      rfl
    · cases h
  · cases h
/-- a reference is set -/
def zt_putA (HT : List (List zk_H)) (M : zk_M) (ci k : Nat) (A : zk_A) : Option zk_A := match A.2.1 with
  | (2, b, _) :: (2, i, _) :: T => match zk_fs HT ci i k with
    | some (3, _, _) => cond (Nat.blt b 4000000 && zk_inM M.1 i k) (some (A.1, T, ((i, k), (2, b, zl_con 0)) :: zk_fr A.2.2.1 i k, A.2.2.2.1, A.2.2.2.2)) none
    | _ => none
  | _ => none
theorem zt_putA_ok {c : Nat} {HT : List (List zk_H)} {M : zk_M} {w0 : zk_W0} {A A' : zk_A} {ci k n : Nat} (h : zt_putA HT M ci k A = some A') : zk_SW c HT M w0 (za_putA ci k n) n A A' (fun _ w w' => zk_rF (zk_tg1 A) k w w') := by
  obtain ⟨L, T0, F, B, C⟩ := A
  unfold zt_putA at h
  split at h
  · rename_i b eb i e0 T hT
    have hT : T0 = (2, b, eb) :: (2, i, e0) :: T := hT
    subst hT
    split at h
    · rename_i d q hfs
      obtain ⟨hb, h⟩ := zz_cond h
      obtain ⟨b1, b2⟩ := zz_and hb
      cases h
      refine ⟨rfl, fun K s f hpv hG => ?_⟩
      obtain ⟨p, lv, st, w⟩ := f
      obtain ⟨g1, g2, g3, g4, g5, g6⟩ := hG
      obtain ⟨u, st1, q1, q2, q3⟩ := zk_st_cons g2
      have e2 : u = .ref b := q2.2.2.1 rfl
      subst e2
      obtain ⟨v, st2, q4, q5, q6⟩ := zk_st_cons q3
      have e3 : v = .ref i := q5.2.2.1 rfl
      subst e3
      have hst : st = .ref b :: .ref i :: st2 := by rw [← q4]; exact q1
      subst hst
      have hlt := zz_blt b1
      obtain ⟨w', u1, u2, u3, u4, u5⟩ := zk_J_pf (x := b + 1) g6 hfs (fun h => absurd (show (3 : Nat) = 2 from h) (by decide)) (Nat.lt_of_lt_of_le (show b + 1 < 4000001 by omega) (by decide)) (fun h => absurd (show (3 : Nat) = 0 from h) (by decide)) (zk_inM_ok b2)
      obtain ⟨o1, o2, o3, o4, o5, o6, o7, o8⟩ := zk_fs_ok hfs g6.1
      refine ⟨(n, lv, st2, w'), ?_, rfl, ⟨g1, q6, fun x hx => ?_, g4, g5, u2⟩, ⟨u5, fun m hm => u4 i m (fun e => hm (Prod.mk.inj e).2)⟩⟩
      · show cond (Nat.blt b 4000000) (zz_pf w i ci k (b + 1) (fun w => some ((n, lv, st2, w) : zz_F))) none = _
        rw [b1]
        show zz_pf w i ci k (b + 1) (fun w => some ((n, lv, st2, w) : zz_F)) = _
        unfold zz_pf
        rw [o6]
        show zz_fN (zz_to 64 (zz_g w i).2.2.2 k (b + 1)) (fun N => zz_st w i (3, ci, (zz_g w i).2.2.1, N) none (fun w => some ((n, lv, st2, w) : zz_F))) = _
        rw [zz_fN_eq]
        exact u1 _ _
      · rcases List.mem_cons.mp hx with e1 | hx
        · subst e1
          exact ⟨fun h => absurd (show (2 : Nat) = 0 from h) (by decide), fun _ => u3, fun h => absurd (show (2 : Nat) = 3 from h) (by decide)⟩
        · exact zk_fr_ok g3 u4 x hx
    · cases h
  · cases h
/-- rows of longs -/
def zt_aldL (HT : List (List zk_H)) (h1 h2 : List Nat) (t : Nat) (A : zk_A) : Option zk_A := match A.2.1 with
  | (0, _, e) :: (2, i, _) :: T => match zk_rs HT 1 t i with
    | some (len, _, _) => cond (zk_ix A h1 h2 e len) (some (A.1, (1, 0, zl_con 0) :: T, A.2.2.1, A.2.2.2.1, A.2.2.2.2)) none
    | none => none
  | _ => none
theorem zt_aldL_ok {c : Nat} {HT : List (List zk_H)} {I : zz_W → Prop} (hI : ∀ w, I w → zk_I c HT w) {A A' : zk_A} {h1 h2 : List Nat} {t n : Nat} (h : zt_aldL HT h1 h2 t A = some A') : zk_S I (za_aldL t n) n A A' := by
  obtain ⟨L, T0, F, B, C⟩ := A
  unfold zt_aldL at h
  split at h
  · rename_i d1 e i e0 T hT
    have hT : T0 = (0, d1, e) :: (2, i, e0) :: T := hT
    subst hT
    split at h
    · rename_i len lo hi hrs
      obtain ⟨hb, h⟩ := zz_cond h
      cases h
      refine ⟨Nat.le_refl _, fun K s f hG => ?_⟩
      obtain ⟨p, lv, st, w⟩ := f
      obtain ⟨g1, g2, g3, g4, g5, g6⟩ := hG
      obtain ⟨j, st1, q1, q2, q3⟩ := zk_st_int g2 rfl
      obtain ⟨v, st2, q4, q5, q6⟩ := zk_st_cons q3
      have e3 : v = .ref i := q5.2.2.1 rfl
      subst e3
      have hst : st = .int j :: .ref i :: st2 := by rw [← q4]; exact q1
      subst hst
      have hj := zk_ix_ok hb g4 g5 q2
      obtain ⟨o1, o2, o3, o4, o5, o6⟩ := zk_rs_ok hrs (by decide) (hI _ g6)
      refine ⟨s, (n, lv, .long (Int64.ofNat (zz_at 64 (zz_g w i).2.2.2 (zz_nI j))) :: st2, w), ?_, rfl, ⟨g1, ⟨zk_v_long, q6⟩, g3, g4, g5, g6⟩, fun _ _ => rfl⟩
      show cond (zz_ir w i 1 t (zz_nI j)) (zz_fN (zz_at 64 (zz_g w i).2.2.2 (zz_nI j)) (fun v => some ((n, lv, .long (Int64.ofNat v) :: st2, w) : zz_F))) none = _
      rw [o6 _ hj, zz_fN_eq]
      rfl
    · cases h
  · cases h
/-- booleans in rows -/
def zt_astZ (HT : List (List zk_H)) (M : zk_M) (h1 h2 h3 h4 : List Nat) (t : Nat) (A : zk_A) : Option zk_A := match A.2.1 with
  | (0, _, _) :: (0, _, _) :: (2, i, _) :: _ => cond (decide (0 ≤ (zk_h HT i).2.2.2.1) && decide ((zk_h HT i).2.2.2.2.1 ≤ 1)) (zt_astI HT M h1 h2 h3 h4 t A) none
  | _ => none
theorem zt_astZ_ok {c : Nat} {HT : List (List zk_H)} {M : zk_M} {w0 : zk_W0} {A A' : zk_A} {h1 h2 h3 h4 : List Nat} {t n : Nat} (h : zt_astZ HT M h1 h2 h3 h4 t A = some A') : zk_SW c HT M w0 (za_astZ t n) n A A' (fun s w w' => zk_rR (zk_tg2 A) (zl_ev s (zk_ix2 A)) w w' ∧ 0 ≤ zl_ev s (zk_ix2 A) ∧ (true = true → zk_el w' (zk_tg2 A) (zl_ev s (zk_ix2 A)) = zl_ev s (zk_vl A))) := by
  obtain ⟨L, T0, F, B, C⟩ := A
  unfold zt_astZ at h
  split at h
  · rename_i d0 ev d1 e i e0 T hT
    have hT : T0 = (0, d0, ev) :: (0, d1, e) :: (2, i, e0) :: T := hT
    subst hT
    obtain ⟨hz, h⟩ := zz_cond h
    obtain ⟨z1, z2⟩ := zz_and hz
    have z1 := of_decide_eq_true z1
    have z2 := of_decide_eq_true z2
    have h0 := zt_astI_ok (c := c) (M := M) (w0 := w0) (n := n) h
    refine ⟨h0.1, fun K s f hpv hG => ?_⟩
    obtain ⟨f', e1, e2, e3, e4⟩ := h0.2 K s f hpv hG
    refine ⟨f', ?_, e2, e3, e4⟩
    have h : (match zk_rs HT 0 t i with
      | some (len, lo, hi) => cond (zk_ix (L, (0, d0, ev) :: (0, d1, e) :: (2, i, e0) :: T, F, B, C) h1 h2 e len && (zl_en B C h3 (zl_sub ev (zl_con (zk_sb (zk_h HT i).2.2.2.2.2 lo hi e).1)) && (zl_en B C h4 (zl_sub (zl_con (zk_sb (zk_h HT i).2.2.2.2.2 lo hi e).2) ev) && (zk_inP M B C i e && (F.all (fun q => Nat.beq (zk_h HT q.1.1).1 3) && zk_swz (zk_h HT i).2.2.2.2.2 e))))) (some (L, T, F, B, C)) none
      | none => none) = some A' := h
    split at h
    · rename_i len lo hi hrs
      obtain ⟨hb, -⟩ := zz_cond h
      obtain ⟨-, hb⟩ := zz_and hb
      obtain ⟨b2, hb⟩ := zz_and hb
      obtain ⟨b3, -⟩ := zz_and hb
      obtain ⟨p, lv, st, w⟩ := f
      obtain ⟨g1, g2, g3, g4, g5, g6⟩ := hG
      obtain ⟨x, st0, r1, r2, r3⟩ := zk_st_int g2 rfl
      obtain ⟨j, st1, q1, q2, q3⟩ := zk_st_int r3 rfl
      obtain ⟨v, st2, q4, q5, q6⟩ := zk_st_cons q3
      have e5 : v = .ref i := q5.2.2.1 rfl
      subst e5
      have hst : st = .int x :: .int j :: .ref i :: st2 := by rw [← q4, ← q1]; exact r1
      subst hst
      have r2 : x.toInt = zl_ev s ev := r2
      have c1 := zl_en_ok g4 g5 b2
      have c2 := zl_en_ok g4 g5 b3
      rw [zl_sub_ev, zl_con_ev] at c1 c2
      unfold zk_rs at hrs
      obtain ⟨-, hrs⟩ := zz_cond hrs
      have hrs : ((zk_h HT i).2.2.1, (zk_h HT i).2.2.2.1, (zk_h HT i).2.2.2.2.1) = (len, lo, hi) := Option.some.inj hrs
      have e6 : (zk_h HT i).2.2.2.1 = lo := congrArg (fun q => q.2.1) hrs
      have e7 : (zk_h HT i).2.2.2.2.1 = hi := congrArg (fun q => q.2.2) hrs
      have hsl := zk_sb_le (zk_h HT i).2.2.2.2.2 lo hi e
      have hn := zk_nI (x := x) (by omega)
      have hb : Nat.blt (zz_nI x) 2 = true := Nat.ble_eq.mpr (by omega)
      show cond (Nat.blt (zz_nI x) 2) (zz_pr w i 0 t 32 (zz_nI j) (zz_nI x) (fun w => some ((n, lv, st2, w) : zz_F))) none = _
      rw [hb]
      exact e1
    · cases h
  · cases h
/-- bytes in rows: the row may hold all of them -/
def zt_astB (HT : List (List zk_H)) (M : zk_M) (h1 h2 : List Nat) (t : Nat) (A : zk_A) : Option zk_A := match A.2.1 with
  | (0, _, _) :: (0, _, e) :: (2, i, _) :: T => match zk_rs HT 0 t i with
    | some (len, lo, hi) => cond (zk_ix A h1 h2 e len && (decide (lo ≤ -128) && (decide (127 ≤ hi) && (zk_inP M A.2.2.2.1 A.2.2.2.2 i e && (A.2.2.1.all (fun q => Nat.beq (zk_h HT q.1.1).1 3) && Nat.beq (zk_h HT i).2.2.2.2.2.length 0))))) (some (A.1, T, A.2.2.1, A.2.2.2.1, A.2.2.2.2)) none
    | none => none
  | _ => none
theorem zt_astB_ok {c : Nat} {HT : List (List zk_H)} {M : zk_M} {w0 : zk_W0} {A A' : zk_A} {h1 h2 : List Nat} {t n : Nat} (h : zt_astB HT M h1 h2 t A = some A') : zk_SW c HT M w0 (za_astB t n) n A A' (fun s w w' => zk_rR (zk_tg2 A) (zl_ev s (zk_ix2 A)) w w' ∧ 0 ≤ zl_ev s (zk_ix2 A) ∧ (false = true → zk_el w' (zk_tg2 A) (zl_ev s (zk_ix2 A)) = zl_ev s (zk_vl A))) := by
  obtain ⟨L, T0, F, B, C⟩ := A
  unfold zt_astB at h
  split at h
  · rename_i d0 ev d1 e i e0 T hT
    have hT : T0 = (0, d0, ev) :: (0, d1, e) :: (2, i, e0) :: T := hT
    subst hT
    split at h
    · rename_i len lo hi hrs
      obtain ⟨hb, h⟩ := zz_cond h
      obtain ⟨b1, hb⟩ := zz_and hb
      obtain ⟨b2, hb⟩ := zz_and hb
      obtain ⟨b3, hb⟩ := zz_and hb
      obtain ⟨b5, b4⟩ := zz_and hb
      obtain ⟨b4, b6⟩ := zz_and b4
      have b6 : (zk_h HT i).2.2.2.2.2 = [] := List.length_eq_zero_iff.mp (zz_beq b6)
      have b2 := of_decide_eq_true b2
      have b3 := of_decide_eq_true b3
      cases h
      refine ⟨rfl, fun K s f hpv hG => ?_⟩
      obtain ⟨p, lv, st, w⟩ := f
      obtain ⟨g1, g2, g3, g4, g5, g6⟩ := hG
      obtain ⟨x, st0, r1, r2, r3⟩ := zk_st_int g2 rfl
      obtain ⟨j, st1, q1, q2, q3⟩ := zk_st_int r3 rfl
      obtain ⟨v, st2, q4, q5, q6⟩ := zk_st_cons q3
      have e3 : v = .ref i := q5.2.2.1 rfl
      subst e3
      have hst : st = .int x :: .int j :: .ref i :: st2 := by rw [← q4, ← q1]; exact r1
      subst hst
      have hj := zk_ix_ok b1 g4 g5 q2
      have hx : (Int32.ofNat (zz_nI x.toInt8.toInt32)).toInt = x.toInt8.toInt32.toInt := by rw [zz_nI_of]
      have hb8 := zk_b8 x
      obtain ⟨o1, o2, o3, o4, o5, o6⟩ := zk_rs_ok hrs (by decide) g6.1
      obtain ⟨w', u1, u2, u3, u4, u5⟩ := zk_J_pr (j := zz_nI j) (x := zz_nI x.toInt8.toInt32) g6 hrs (zz_nI_lt _) (by rw [hx]; constructor <;> omega) (fun q hq => by rw [b6] at hq; cases hq) (zk_inP_ok g4 g5 hpv b5 (by rw [← q2]; exact zk_nI (by have := zl_en_ok g4 g5 (zz_and b1).1; have q2 : j.toInt = zl_ev s e := q2; omega)))
      have q2 : j.toInt = zl_ev s e := q2
      have hj0 : 0 ≤ j.toInt := by
        have := zl_en_ok g4 g5 (zz_and b1).1
        omega
      have hrel := (zk_el_to (x := zz_nI x.toInt8.toInt32) hj0 (zz_nI_lt _) u4 u5).1
      rw [q2] at hrel
      refine ⟨(n, lv, st2, w'), ?_, rfl, ⟨g1, q6, fun q hq => ?_, g4, g5, u2⟩, hrel, (by rw [← q2]; exact hj0 : 0 ≤ zl_ev s e), fun h => absurd h (by decide)⟩
      · show zz_pr w i 0 t 32 (zz_nI j) (zz_nI x.toInt8.toInt32) (fun w => some ((n, lv, st2, w) : zz_F)) = _
        unfold zz_pr
        rw [o6 _ hj]
        show zz_fN (zz_to 32 (zz_g w i).2.2.2 (zz_nI j) (zz_nI x.toInt8.toInt32)) (fun N => zz_st w i (0, t, (zz_g w i).2.2.1, N) none (fun w => some ((n, lv, st2, w) : zz_F))) = _
        rw [zz_fN_eq]
        exact u1 _ _
      · have := g3 q hq
        rw [show zk_fd w' q.1 = zk_fd w q.1 from u3 q.1.1 q.1.2 (zz_beq (List.all_eq_true.mp b4 q hq))]
        exact this
    · cases h
  · cases h
end
