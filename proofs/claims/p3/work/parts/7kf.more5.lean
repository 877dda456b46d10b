/-! ABSTRACT FRAMES, on: elements of rows of longs are set; masks that leave what is there -/
noncomputable section
/-- an element of a row of longs; only element j of row i changes -/
def zk_lel (w : zz_W) (r : Nat) (i : Nat) : Int := (Int64.ofNat (zz_at 64 (zz_g w r).2.2.2 i)).toInt
def zk_rL (i : Nat) (j : Int) (w w' : zz_W) : Prop := (∀ a, a ≠ i → zz_g w' a = zz_g w a) ∧ ∀ m : Nat, (m : Int) ≠ j → zk_lel w' i m = zk_lel w i m
theorem zk_J_prL {c : Nat} {HT : List (List zk_H)} {M : zk_M} {w0 : zk_W0} {w : zz_W} {t i len j x : Nat} {lo hi : Int} (hJ : zk_J c HT M w0 w) (hr : zk_rs HT 1 t i = some (len, lo, hi)) (hM : (i, 999) ∈ M.1) (hx : x < 2 ^ 64) (hf : (zk_h HT i).2.2.2.2.2.length ≤ j) :
    ∃ w' : zz_W, (∀ (β : Type) (kk : zz_W → Option β), zz_st w i (1, t, (zz_g w i).2.2.1, zz_to 64 (zz_g w i).2.2.2 j x) none kk = kk w') ∧ zk_J c HT M w0 w' ∧ (∀ a m, (zk_h HT a).1 = 3 → zk_fd w' (a, m) = zk_fd w (a, m)) ∧ (∀ a, a ≠ i → zz_g w' a = zz_g w a) ∧ (zz_g w' i).2.2.2 = zz_to 64 (zz_g w i).2.2.2 j x := by
  obtain ⟨o1, o2, o3, o4, o5, o6⟩ := zk_rs_ok hr (by decide) hJ.1
  obtain ⟨⟨s1, s2, s3, s4⟩, hsm, hw1, hw2, hk⟩ := hJ
  have hi' : i < 16 * c := by omega
  have hg := zk_up_g (x := (1, t, (zz_g w i).2.2.1, zz_to 64 (zz_g w i).2.2.2 j x)) s1 hi'
  have h0 : (zz_g w i).1 = 1 := by rw [o4]
  refine ⟨zz_up w i (1, t, (zz_g w i).2.2.1, zz_to 64 (zz_g w i).2.2.2 j x), fun β kk => zk_up_st s1 hi', ⟨?_, ⟨fun a m h8 hn hl h3 => ?_, fun a hn hl h3 => ?_⟩, hw1, hw2, fun a ha => ?_⟩, fun a m h3 => ?_, fun a ha => by rw [hg, if_neg ha], by rw [hg, if_pos rfl]⟩
  · refine zk_I_up ⟨s1, s2, s3, s4⟩ o1 (fun hn => ?_)
    obtain ⟨-, g1, g2, g3, g4, g5, g6, g7⟩ := s4 i hn
    refine ⟨o2.symm, ?_, g3, fun h => absurd (o2.symm.trans h) (by decide), fun h => absurd (o2.symm.trans h) (by decide), fun h => absurd (o2.symm.trans h) (by decide), fun _ m q hq => ?_⟩
    · rw [o4] at g2
      exact g2
    · have hm : m < (zk_h HT i).2.2.2.2.2.length := (List.getElem?_eq_some_iff.mp hq).1
      show zz_at 64 (zz_to 64 (zz_g w i).2.2.2 j x) m = q.2.1
      rw [zz_at_to hx, if_neg (by omega)]
      exact g7 o2 m q hq
  · unfold zk_fd
    rw [hg]
    by_cases e : a = i
    · exfalso
      subst e
      have := zk_k3_1 (hk a hl)
      omega
    · rw [if_neg e]
      exact hsm.1 a m h8 hn hl h3
  · by_cases e : a = i
    · subst e
      exact absurd hM hn
    · refine ⟨fun h8 => ?_, fun m hm hv => ?_⟩
      · rw [hg, if_neg e]
        exact (hsm.2 a hn hl h3).1 h8
      · unfold zk_el
        rw [hg, if_neg e]
        exact (hsm.2 a hn hl h3).2 m hm hv
  · rw [hg]
    by_cases e : a = i
    · subst e
      rw [if_pos rfl]
      rw [← hk a ha]
      exact zk_k3_of h0 (by rw [o4]) rfl
    · rw [if_neg e]
      exact hk a ha
  · unfold zk_fd
    have hne : a ≠ i := fun e => by rw [e] at h3; omega
    show zz_at 64 (zz_g _ a).2.2.2 m = _
    rw [hg, if_neg hne]
/-- the long on top has a sum -/
def zk_lgk (A : zk_A) : Bool := match A.2.1 with
  | (1, 1, _) :: _ => true
  | _ => false
theorem zk_lgk_ok {A : zk_A} {k : Nat} {e : zl_E} {T : List zk_V} (h : zk_lgk A = true) (hT : A.2.1 = (1, k, e) :: T) : k = 1 := by
  unfold zk_lgk at h
  split at h
  · rename_i x r hx
    rw [hT] at hx
    cases hx
    rfl
  · cases h
def zt_astL (HT : List (List zk_H)) (M : zk_M) (h1 h2 : List Nat) (t : Nat) (A : zk_A) : Option zk_A := match A.2.1 with
  | (1, _, _) :: (0, _, e) :: (2, i, _) :: T => match zk_rs HT 1 t i with
    | some (len, _, _) => cond (zk_ix A h1 h2 e len && (zk_inM M.1 i 999 && (A.2.2.1.all (fun q => Nat.beq (zk_h HT q.1.1).1 3) && (Nat.beq (zk_h HT i).2.2.2.2.2.length 0 || zl_pos A.2.2.2.1 (zl_sub e (zl_con (Int.ofNat (zk_h HT i).2.2.2.2.2.length))))))) (some (A.1, T, A.2.2.1, A.2.2.2.1, A.2.2.2.2)) none
    | none => none
  | _ => none
theorem zt_astL_ok {c : Nat} {HT : List (List zk_H)} {M : zk_M} {w0 : zk_W0} {A A' : zk_A} {h1 h2 : List Nat} {t n : Nat} (h : zt_astL HT M h1 h2 t A = some A') : zk_SW c HT M w0 (za_astL t n) n A A' (fun s w w' => zk_rL (zk_tg2 A) (zl_ev s (zk_ix2 A)) w w' ∧ 0 ≤ zl_ev s (zk_ix2 A) ∧ (zk_lgk A = true → zk_lel w' (zk_tg2 A) (zl_ev s (zk_ix2 A)).toNat = zl_ev s (zk_vl A))) := by
  obtain ⟨L, T0, F, B, C⟩ := A
  unfold zt_astL at h
  split at h
  · rename_i d0 ev d1 e i e0 T hT
    have hT : T0 = (1, d0, ev) :: (0, d1, e) :: (2, i, e0) :: T := hT
    subst hT
    split at h
    · rename_i len lo hi hrs
      obtain ⟨hb, h⟩ := zz_cond h
      obtain ⟨b1, hb⟩ := zz_and hb
      obtain ⟨b5, hb⟩ := zz_and hb
      obtain ⟨b4, b6⟩ := zz_and hb
      cases h
      refine ⟨rfl, fun K s f hpv hG => ?_⟩
      obtain ⟨p, lv, st, w⟩ := f
      obtain ⟨g1, g2, g3, g4, g5, g6⟩ := hG
      obtain ⟨v0, st0, r1, r2, r3⟩ := zk_st_cons g2
      obtain ⟨x, ex, hxv⟩ := r2.2.1 rfl
      subst ex
      obtain ⟨j, st1, q1, q2, q3⟩ := zk_st_int r3 rfl
      obtain ⟨v, st2, q4, q5, q6⟩ := zk_st_cons q3
      have e3 : v = .ref i := q5.2.2.1 rfl
      subst e3
      have hst : st = .long x :: .int j :: .ref i :: st2 := by rw [← q4, ← q1]; exact r1
      subst hst
      have hj := zk_ix_ok b1 g4 g5 q2
      obtain ⟨o1, o2, o3, o4, o5, o6⟩ := zk_rs_ok hrs (by decide) g6.1
      have q2 : j.toInt = zl_ev s e := q2
      have hj0 : 0 ≤ zl_ev s e := zl_en_ok g4 g5 (zz_and b1).1
      have hjn := zk_nI (x := j) (by omega)
      have hfl : (zk_h HT i).2.2.2.2.2.length ≤ zz_nI j := by
        rcases Bool.or_eq_true_iff.mp b6 with b6 | b6
        · have := zz_beq b6
          omega
        · have z := zl_pos_ok g4 b6
          rw [zl_sub_ev, zl_con_ev] at z
          have z : 0 ≤ zl_ev s e - (((zk_h HT i).2.2.2.2.2.length : Nat) : Int) := z
          omega
      obtain ⟨w', u1, u2, u3, u4, u5⟩ := zk_J_prL (j := zz_nI j) (x := zz_nL x) g6 hrs (zk_inM_ok b5) (zz_nL_lt x) hfl
      refine ⟨(n, lv, st2, w'), ?_, rfl, ⟨g1, q6, fun q hq => ?_, g4, g5, u2⟩, ⟨u4, fun m hm => ?_⟩, hj0, fun hl => ?_⟩
      · show zz_pr w i 1 t 64 (zz_nI j) (zz_nL x) (fun w => some ((n, lv, st2, w) : zz_F)) = _
        unfold zz_pr
        rw [o6 _ hj]
        show zz_fN (zz_to 64 (zz_g w i).2.2.2 (zz_nI j) (zz_nL x)) (fun N => zz_st w i (1, t, (zz_g w i).2.2.1, N) none (fun w => some ((n, lv, st2, w) : zz_F))) = _
        rw [zz_fN_eq]
        exact u1 _ _
      · have := g3 q hq
        rw [show zk_fd w' q.1 = zk_fd w q.1 from u3 q.1.1 q.1.2 (zz_beq (List.all_eq_true.mp b4 q hq))]
        exact this
      · have hm : (m : Int) ≠ zl_ev s e := hm
        show zk_lel w' i m = zk_lel w i m
        unfold zk_lel
        rw [u5, zz_at_to (zz_nL_lt x), if_neg (by omega)]
      · have hk := zk_lgk_ok (A := (L, (1, d0, ev) :: (0, d1, e) :: (2, i, e0) :: T, F, B, C)) hl rfl
        show zk_lel w' i (zl_ev s e).toNat = zl_ev s ev
        unfold zk_lel
        rw [u5, zz_at_to (zz_nL_lt x), if_pos (by omega), zz_nL_of]
        exact hxv hk
    · cases h
  · cases h
/-- masks -/
theorem zk_and_nI (x y : Int32) : zz_nI (x &&& y) = zz_nI x &&& zz_nI y := by
  show (x.toBitVec &&& y.toBitVec).toNat = _
  rw [BitVec.toNat_and]
  rfl
theorem zk_and_id {x y : Int32} {m : Nat} (hy : y.toInt = (2 : Int) ^ m - 1) (h0 : 0 ≤ x.toInt) (h1 : x.toInt ≤ (2 : Int) ^ m - 1) : (x &&& y).toInt = x.toInt := by
  have hp : (1 : Int) ≤ (2 : Int) ^ m := by
    have := Nat.one_le_two_pow (n := m)
    have h2 : ((2 ^ m : Nat) : Int) = (2 : Int) ^ m := by rw [Int.natCast_pow]; rfl
    omega
  have e1 := zk_nI h0
  have e2 := zk_nI (x := y) (by omega)
  have h3 := zk_and_bd (x := x) (y := y) (by omega)
  have e3 := zk_nI h3.1
  have h2 : ((2 ^ m : Nat) : Int) = (2 : Int) ^ m := by rw [Int.natCast_pow]; rfl
  have e4 : zz_nI y = 2 ^ m - 1 := by omega
  have e5 : zz_nI (x &&& y) = zz_nI x := by
    rw [zk_and_nI, e4, Nat.and_two_pow_sub_one_eq_mod]
    exact Nat.mod_eq_of_lt (by omega)
  omega
theorem zk_and_wr {x y : Int32} {m : Nat} (hy : y.toInt = (2 : Int) ^ m - 1) (h1 : x.toInt = (2 : Int) ^ m) : (x &&& y).toInt = 0 := by
  have hp : (1 : Int) ≤ (2 : Int) ^ m := by
    have := Nat.one_le_two_pow (n := m)
    have h2 : ((2 ^ m : Nat) : Int) = (2 : Int) ^ m := by rw [Int.natCast_pow]; rfl
    omega
  have e1 := zk_nI (x := x) (by omega)
  have e2 := zk_nI (x := y) (by omega)
  have h3 := zk_and_bd (x := x) (y := y) (by omega)
  have e3 := zk_nI h3.1
  have h2 : ((2 ^ m : Nat) : Int) = (2 : Int) ^ m := by rw [Int.natCast_pow]; rfl
  have e4 : zz_nI y = 2 ^ m - 1 := by omega
  have e6 : zz_nI x = 2 ^ m := by omega
  have e5 : zz_nI (x &&& y) = 0 := by
    rw [zk_and_nI, e4, Nat.and_two_pow_sub_one_eq_mod, e6]
    exact Nat.mod_self _
  omega
def zt_iand3 (hs : List (List Nat)) (A : zk_A) : Option zk_A := match A.2.1, (hs.getD 0 []).getD 0 0 with
  | (0, _, e2) :: (0, _, e1) :: r, 1 => cond (zl_nul (zl_sub e2 (zl_con ((2 : Int) ^ ((hs.getD 0 []).getD 1 0) - 1))) && (zl_en A.2.2.2.1 A.2.2.2.2 (hs.getD 1 []) e1 && zl_en A.2.2.2.1 A.2.2.2.2 (hs.getD 2 []) (zl_sub (zl_con ((2 : Int) ^ ((hs.getD 0 []).getD 1 0) - 1)) e1))) (some (A.1, (0, 0, e1) :: r, A.2.2.1, A.2.2.2.1, A.2.2.2.2)) none
  | (0, _, e2) :: (0, _, e1) :: r, 2 => cond (zl_nul (zl_sub e2 (zl_con ((2 : Int) ^ ((hs.getD 0 []).getD 1 0) - 1))) && (zl_en A.2.2.2.1 A.2.2.2.2 (hs.getD 1 []) (zl_sub e1 (zl_con ((2 : Int) ^ ((hs.getD 0 []).getD 1 0)))) && zl_en A.2.2.2.1 A.2.2.2.2 (hs.getD 2 []) (zl_sub (zl_con ((2 : Int) ^ ((hs.getD 0 []).getD 1 0))) e1))) (some (A.1, (0, 0, zl_con 0) :: r, A.2.2.1, A.2.2.2.1, A.2.2.2.2)) none
  | (0, _, e2) :: (0, _, e1) :: r, 3 => cond ((zl_en A.2.2.2.1 A.2.2.2.2 (hs.getD 1 []) (zl_sub e2 (zl_con ((hs.getD 0 []).getD 1 0 : Nat))) && zl_en A.2.2.2.1 A.2.2.2.2 (hs.getD 2 []) (zl_sub (zl_con ((hs.getD 0 []).getD 1 0 : Nat)) e2)) && (zl_en A.2.2.2.1 A.2.2.2.2 (hs.getD 3 []) (zl_sub e1 (zl_con ((hs.getD 0 []).getD 2 0 : Nat))) && zl_en A.2.2.2.1 A.2.2.2.2 (hs.getD 4 []) (zl_sub (zl_con ((hs.getD 0 []).getD 2 0 : Nat)) e1))) (some (A.1, (0, 0, zl_con ((Nat.land ((hs.getD 0 []).getD 2 0) ((hs.getD 0 []).getD 1 0) : Nat) : Int)) :: r, A.2.2.1, A.2.2.2.1, A.2.2.2.2)) none
  | _, _ => zt_2b zk_bdAn2 A
theorem zk_and_nn {x y : Int32} {a b : Nat} (hy : y.toInt = (a : Int)) (hx : x.toInt = (b : Int)) : (x &&& y).toInt = ((Nat.land b a : Nat) : Int) := by
  have e1 := zk_nI (x := x) (by omega)
  have e2 := zk_nI (x := y) (by omega)
  have h3 := zk_and_bd (x := x) (y := y) (by omega)
  have e3 := zk_nI h3.1
  have e4 : zz_nI y = a := by omega
  have e6 : zz_nI x = b := by omega
  have e5 : zz_nI (x &&& y) = Nat.land b a := by
    rw [zk_and_nI, e4, e6]
    rfl
  omega
theorem zt_iand3_ok {I : zz_W → Prop} {A A' : zk_A} {n : Nat} {hs : List (List Nat)} (h : zt_iand3 hs A = some A') : zk_S I (za_iand n) n A A' := by
  obtain ⟨L, T, F, B, C⟩ := A
  unfold zt_iand3 at h
  split at h
  · rename_i k2 e2 k1 e1 r hT _
    have hT : T = (0, k2, e2) :: (0, k1, e1) :: r := hT
    subst hT
    obtain ⟨hb, h⟩ := zz_cond h
    obtain ⟨b1, hb⟩ := zz_and hb
    obtain ⟨b2, b3⟩ := zz_and hb
    cases h
    refine ⟨Nat.le_refl _, fun K s f hG => ?_⟩
    obtain ⟨p, lv, st, w⟩ := f
    obtain ⟨g1, g2, g3, g4, g5, g6⟩ := hG
    obtain ⟨y, st1, q1, q2, q3⟩ := zk_st_int g2 rfl
    obtain ⟨x, st2, q4, q5, q6⟩ := zk_st_int q3 rfl
    have hst : st = .int y :: .int x :: st2 := by rw [← q4]; exact q1
    subst hst
    have z1 := zl_nul_ok (s := s) b1
    have z2 := zl_en_ok g4 g5 b2
    have z3 := zl_en_ok g4 g5 b3
    rw [zl_sub_ev, zl_con_ev] at z1 z3
    have q2 : y.toInt = zl_ev s e2 := q2
    have q5 : x.toInt = zl_ev s e1 := q5
    exact ⟨s, _, ze_iand rfl, rfl, ⟨g1, ⟨zk_v_int (by rw [zk_and_id (m := (hs.getD 0 []).getD 1 0) (by omega) (by omega) (by omega)]; exact q5), q6⟩, g3, g4, g5, g6⟩, fun _ _ => rfl⟩
  · rename_i k2 e2 k1 e1 r hT _
    have hT : T = (0, k2, e2) :: (0, k1, e1) :: r := hT
    subst hT
    obtain ⟨hb, h⟩ := zz_cond h
    obtain ⟨b1, hb⟩ := zz_and hb
    obtain ⟨b2, b3⟩ := zz_and hb
    cases h
    refine ⟨Nat.le_refl _, fun K s f hG => ?_⟩
    obtain ⟨p, lv, st, w⟩ := f
    obtain ⟨g1, g2, g3, g4, g5, g6⟩ := hG
    obtain ⟨y, st1, q1, q2, q3⟩ := zk_st_int g2 rfl
    obtain ⟨x, st2, q4, q5, q6⟩ := zk_st_int q3 rfl
    have hst : st = .int y :: .int x :: st2 := by rw [← q4]; exact q1
    subst hst
    have z1 := zl_nul_ok (s := s) b1
    have z2 := zl_en_ok g4 g5 b2
    have z3 := zl_en_ok g4 g5 b3
    rw [zl_sub_ev, zl_con_ev] at z1 z2 z3
    have q2 : y.toInt = zl_ev s e2 := q2
    have q5 : x.toInt = zl_ev s e1 := q5
    exact ⟨s, _, ze_iand rfl, rfl, ⟨g1, ⟨zk_v_int (by rw [zk_and_wr (m := (hs.getD 0 []).getD 1 0) (by omega) (by omega), zl_con_ev]), q6⟩, g3, g4, g5, g6⟩, fun _ _ => rfl⟩
  · rename_i k2 e2 k1 e1 r hT _
    have hT : T = (0, k2, e2) :: (0, k1, e1) :: r := hT
    subst hT
    obtain ⟨hb, h⟩ := zz_cond h
    obtain ⟨b1, hb⟩ := zz_and hb
    obtain ⟨b3, b4⟩ := zz_and hb
    obtain ⟨b1, b2⟩ := zz_and b1
    cases h
    refine ⟨Nat.le_refl _, fun K s f hG => ?_⟩
    obtain ⟨p, lv, st, w⟩ := f
    obtain ⟨g1, g2, g3, g4, g5, g6⟩ := hG
    obtain ⟨y, st1, q1, q2, q3⟩ := zk_st_int g2 rfl
    obtain ⟨x, st2, q4, q5, q6⟩ := zk_st_int q3 rfl
    have hst : st = .int y :: .int x :: st2 := by rw [← q4]; exact q1
    subst hst
    have z1 := zl_en_ok g4 g5 b1
    have z2 := zl_en_ok g4 g5 b2
    have z3 := zl_en_ok g4 g5 b3
    have z4 := zl_en_ok g4 g5 b4
    rw [zl_sub_ev, zl_con_ev] at z1 z2 z3 z4
    have q2 : y.toInt = zl_ev s e2 := q2
    have q5 : x.toInt = zl_ev s e1 := q5
    exact ⟨s, _, ze_iand rfl, rfl, ⟨g1, ⟨zk_v_int (by rw [zk_and_nn (a := (hs.getD 0 []).getD 1 0) (b := (hs.getD 0 []).getD 2 0) (by omega) (by omega), zl_con_ev]), q6⟩, g3, g4, g5, g6⟩, fun _ _ => rfl⟩
  · exact zt_iand2_ok h
end
