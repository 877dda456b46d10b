/-! ABSTRACT FRAMES, on: fields that are set, rows -/
noncomputable section
theorem zk_nI {x : Int32} (h : 0 ≤ x.toInt) : (zz_nI x : Int) = x.toInt := by
  have h1 : x.toInt = x.toBitVec.toInt := rfl
  rw [h1] at h ⊢
  rw [BitVec.toInt_eq_toNat_cond] at h ⊢
  have h2 := x.toBitVec.isLt
  show ((x.toBitVec.toNat : Nat) : Int) = _
  split at h
  · rw [if_pos (by assumption)]
  · omega
theorem zk_nI64 (x : Int32) : zz_nI x < 2 ^ 64 := Nat.lt_of_lt_of_le (zz_nI_lt x) (Nat.pow_le_pow_right (by omega) (by omega))
/-- only field k of cell i changes -/
def zk_rF (i k : Nat) (w w' : zz_W) : Prop := (∀ j, j ≠ i → zz_g w' j = zz_g w j) ∧ ∀ m, m ≠ k → zk_fd w' (i, m) = zk_fd w (i, m)
/-- only element j of row i changes -/
def zk_rR (i : Nat) (j : Int) (w w' : zz_W) : Prop := (∀ a, a ≠ i → zz_g w' a = zz_g w a) ∧ ∀ m, 0 ≤ m → m ≠ j → zk_el w' i m = zk_el w i m
/-- where a field is set; where an element is set, its place, its value -/
def zk_tg1 (A : zk_A) : Nat := match A.2.1 with
  | _ :: (2, i, _) :: _ => i
  | _ => 0
def zk_tg2 (A : zk_A) : Nat := match A.2.1 with
  | _ :: _ :: (2, i, _) :: _ => i
  | _ => 0
def zk_ix2 (A : zk_A) : zl_E := match A.2.1 with
  | _ :: (_, _, e) :: _ => e
  | _ => zl_con 0
def zk_vl (A : zk_A) : zl_E := match A.2.1 with
  | (_, _, e) :: _ => e
  | _ => zl_con 0
/-- an instruction that changes the world, and what it changes -/
def zk_SW (c : Nat) (HT : List (List zk_H)) (M : zk_M) (w0 : zk_W0) (act : zz_A) (n : Nat) (A A' : zk_A) (rel : (Nat → Int) → zz_W → zz_W → Prop) : Prop :=
  A.2.2.2.1 = A'.2.2.2.1 ∧ ∀ (K : zz_K) (s : Nat → Int) (f : zz_F), zk_pv s M.2 w0.2 → zk_G (zk_J c HT M w0) s A f → ∃ f' : zz_F, act K f = some f' ∧ f'.1 = n ∧ zk_G (zk_J c HT M w0) s A' f' ∧ rel s f.2.2.2 f'.2.2.2
theorem zk_el_to {w w' : zz_W} {i : Nat} {j : Int32} {x : Nat} (hj : 0 ≤ j.toInt) (hx : x < 2 ^ 32) (h1 : ∀ a, a ≠ i → zz_g w' a = zz_g w a) (h2 : (zz_g w' i).2.2.2 = zz_to 32 (zz_g w i).2.2.2 (zz_nI j) x) : zk_rR i j.toInt w w' ∧ zk_el w' i j.toInt = (Int32.ofNat x).toInt := by
  have hn := zk_nI hj
  refine ⟨⟨h1, fun m hm hne => ?_⟩, ?_⟩
  · unfold zk_el
    rw [h2, zz_at_to hx, if_neg (by omega)]
  · unfold zk_el
    rw [h2, zz_at_to hx, if_pos (by omega)]
/-- a sum that is 0 -/
def zl_az (l : List (Nat × zl_N)) : Bool := List.rec (motive := fun _ => Bool) true (fun c _ ih => cond (Nat.beq c.2.1 c.2.2) ih false) l
def zl_nul (e : zl_E) : Bool := Nat.beq e.1.1 e.1.2 && zl_az e.2
theorem zl_nv_0 {a : zl_N} (h : Nat.beq a.1 a.2 = true) : zl_nv a = 0 := by
  have h : a.1 = a.2 := Nat.eq_of_beq_eq_true h
  rw [zl_nv_eq, h]
  omega
theorem zl_nul_dt (s : Nat → Int) : ∀ (a : List (Nat × zl_N)), zl_az a = true → zl_dt s a = 0
  | [], _ => rfl
  | c :: r, h => by
    have h : cond (Nat.beq c.2.1 c.2.2) (zl_az r) false = true := h
    cases hc : Nat.beq c.2.1 c.2.2 with
    | false =>
      rw [hc] at h
      cases h
    | true =>
      rw [hc] at h
      show zl_nv c.2 * s c.1 + zl_dt s r = 0
      rw [zl_nul_dt s r h, zl_nv_0 hc]
      omega
theorem zl_nul_ok {s : Nat → Int} {e : zl_E} (h : zl_nul e = true) : zl_ev s e = 0 := by
  obtain ⟨h1, h2⟩ := zz_and h
  show zl_nv e.1 + zl_dt s e.2 = 0
  rw [zl_nul_dt s e.2 h2, zl_nv_0 h1]
  rfl
/-- a field of the world is set -/
theorem zk_J_pf {c : Nat} {HT : List (List zk_H)} {M : zk_M} {w0 : zk_W0} {w : zz_W} {ci i k x : Nat} {q : Nat × Nat × Int × Int} (hJ : zk_J c HT M w0 w) (hq : zk_fs HT ci i k = some q) (h2 : q.1 ≠ 2) (hx : x < 2 ^ 64) (hb : q.1 = 0 → q.2.2.1 ≤ (Int32.ofNat x).toInt ∧ (Int32.ofNat x).toInt ≤ q.2.2.2) (hM : (i, k) ∈ M.1) :
    ∃ w' : zz_W, (∀ (β : Type) (kk : zz_W → Option β), zz_st w i (3, ci, (zz_g w i).2.2.1, zz_to 64 (zz_g w i).2.2.2 k x) none kk = kk w') ∧ zk_J c HT M w0 w' ∧ zk_fd w' (i, k) = x ∧ (∀ j m, (j, m) ≠ (i, k) → zk_fd w' (j, m) = zk_fd w (j, m)) ∧ ∀ j, j ≠ i → zz_g w' j = zz_g w j := by
  obtain ⟨o1, o2, o3, o4, o5, o6, o7, o8⟩ := zk_fs_ok hq hJ.1
  obtain ⟨⟨s1, s2, s3, s4⟩, hsm, hw1, hw2, hk⟩ := hJ
  have hi : i < 16 * c := by omega
  have hg := zk_up_g (x := (3, ci, (zz_g w i).2.2.1, zz_to 64 (zz_g w i).2.2.2 k x)) s1 hi
  have hown : zk_fd (zz_up w i (3, ci, (zz_g w i).2.2.1, zz_to 64 (zz_g w i).2.2.2 k x)) (i, k) = x := by
    unfold zk_fd
    rw [hg, if_pos rfl]
    show zz_at 64 (zz_to 64 (zz_g w i).2.2.2 k x) k = x
    rw [zz_at_to hx, if_pos rfl]
  have hoth : ∀ j m, (j, m) ≠ (i, k) → zk_fd (zz_up w i (3, ci, (zz_g w i).2.2.1, zz_to 64 (zz_g w i).2.2.2 k x)) (j, m) = zk_fd w (j, m) := by
    intro j m hn
    unfold zk_fd
    rw [hg]
    by_cases e : j = i
    · subst e
      rw [if_pos rfl]
      show zz_at 64 (zz_to 64 (zz_g w j).2.2.2 k x) m = zz_at 64 (zz_g w j).2.2.2 m
      rw [zz_at_to hx, if_neg (fun e => hn (by rw [e]))]
    · rw [if_neg e]
  refine ⟨zz_up w i (3, ci, (zz_g w i).2.2.1, zz_to 64 (zz_g w i).2.2.2 k x), fun β kk => zk_up_st s1 hi, ⟨?_, ⟨fun j m h8 hn hl h3 => ?_, fun j hn hl h3 => ?_⟩, hw1, hw2, fun j hj => ?_⟩, hown, hoth, fun j hj => by rw [hg, if_neg hj]⟩
  · refine zk_I_up ⟨s1, s2, s3, s4⟩ o1 (fun hn => ?_)
    obtain ⟨-, g1, g2, g3, g4, g5, g6, -⟩ := s4 i hn
    refine ⟨by rw [o2], ?_, g3, fun h => absurd (o2.symm.trans h) (by decide), fun h => absurd (o2.symm.trans h) (by decide), fun _ m q' hq' => ?_, fun h => absurd (o2.symm.trans h) (by decide)⟩
    · rw [o3] at g2
      exact g2
    · have g6 := g6 o2 m q' hq'
      show (q'.1 = 0 → q'.2.2.1 ≤ (Int32.ofNat (zz_at 64 (zz_to 64 (zz_g w i).2.2.2 k x) m)).toInt ∧ _ ≤ q'.2.2.2) ∧ (q'.1 = 2 → zz_at 64 (zz_to 64 (zz_g w i).2.2.2 k x) m = q'.2.1)
      rw [zz_at_to hx]
      by_cases e : m = k
      · subst e
        rw [o5] at hq'
        cases hq'
        rw [if_pos rfl]
        exact ⟨hb, fun h => absurd h h2⟩
      · rw [if_neg e]
        exact g6
  · rw [hoth j m (fun e => hn (by rw [e]; exact hM))]
    exact hsm.1 j m h8 hn hl h3
  · have e : j ≠ i := by
      intro e
      subst e
      have := zk_k3_1 (hk j hl)
      rw [o3] at this
      exact h3 this.symm
    refine ⟨fun h8 => ?_, fun m hm hv => ?_⟩
    · rw [hg, if_neg e]
      exact (hsm.2 j hn hl h3).1 h8
    · unfold zk_el
      rw [hg, if_neg e]
      exact (hsm.2 j hn hl h3).2 m hm hv
  · rw [hg]
    by_cases e : j = i
    · subst e
      rw [if_pos rfl]
      rw [← hk j hj]
      exact zk_k3_of (by rw [o3]) (by rw [o3]) rfl
    · rw [if_neg e]
      exact hk j hj
/-- the fields that are followed but one -/
def zk_fr (F : List ((Nat × Nat) × zk_V)) (i k : Nat) : List ((Nat × Nat) × zk_V) := F.filter (fun q => !(Nat.beq q.1.1 i && Nat.beq q.1.2 k))
theorem zk_fr_ok {s : Nat → Int} {F : List ((Nat × Nat) × zk_V)} {i k : Nat} {w w' : zz_W} (h : zk_fl s F w) (ho : ∀ j m, (j, m) ≠ (i, k) → zk_fd w' (j, m) = zk_fd w (j, m)) : zk_fl s (zk_fr F i k) w' := by
  intro q hq
  obtain ⟨h1, h2⟩ := List.mem_filter.mp hq
  have hn : (q.1.1, q.1.2) ≠ (i, k) := by
    intro e
    cases e
    rw [Nat.beq_refl, Nat.beq_refl] at h2
    cases h2
  have := h q h1
  rw [show zk_fd w' q.1 = zk_fd w q.1 from ho q.1.1 q.1.2 hn]
  exact this
def zk_inM (M : List (Nat × Nat)) (i k : Nat) : Bool := M.any (fun q => Nat.beq q.1 i && Nat.beq q.2 k)
theorem zk_inM_ok {M : List (Nat × Nat)} {i k : Nat} (h : zk_inM M i k = true) : (i, k) ∈ M := by
  obtain ⟨q, h1, h2⟩ := List.any_eq_true.mp h
  obtain ⟨b1, b2⟩ := zz_and h2
  rw [← zz_beq b1, ← zz_beq b2]
  exact h1
/-- an int is set -/
def zt_putI (HT : List (List zk_H)) (M : zk_M) (h1 h2 : List Nat) (ci k : Nat) (A : zk_A) : Option zk_A := match A.2.1 with
  | (0, _, e) :: (2, i, _) :: T => match zk_fs HT ci i k with
    | some (0, _, lo, hi) => cond (zl_en A.2.2.2.1 A.2.2.2.2 h1 (zl_sub e (zl_con lo)) && (zl_en A.2.2.2.1 A.2.2.2.2 h2 (zl_sub (zl_con hi) e) && zk_inM M.1 i k)) (some (A.1, T, ((i, k), (0, 0, e)) :: zk_fr A.2.2.1 i k, A.2.2.2.1, A.2.2.2.2)) none
    | _ => none
  | _ => none
theorem zk_putI_gen {c : Nat} {HT : List (List zk_H)} {M : zk_M} {w0 : zk_W0} {A A' : zk_A} {h1 h2 : List Nat} {ci k n : Nat} {act : zz_A} {P : Int32 → Prop} (hP : ∀ x lo hi d e, (∃ i, zk_fs HT ci i k = some (0, d, lo, hi)) → lo ≤ x.toInt → x.toInt ≤ hi → e = x.toInt → P x) (ha : ∀ (K : zz_K) (p : Nat) (lv : List (Nat × Value)) (x : Int32) (i : Nat) (r : List Value) (w : zz_W), P x → act K (p, lv, .int x :: .ref i :: r, w) = zz_pf w i ci k (zz_nI x) (fun w => some (n, lv, r, w))) (h : zt_putI HT M h1 h2 ci k A = some A') : zk_SW c HT M w0 act n A A' (fun _ w w' => zk_rF (zk_tg1 A) k w w') := by
  obtain ⟨L, T0, F, B, C⟩ := A
  unfold zt_putI at h
  split at h
  · rename_i d1 e i e0 T hT
    have hT : T0 = (0, d1, e) :: (2, i, e0) :: T := hT
    subst hT
    split at h
    · rename_i d lo hi hfs
      obtain ⟨hb, h⟩ := zz_cond h
      obtain ⟨b1, hb⟩ := zz_and hb
      obtain ⟨b2, b3⟩ := zz_and hb
      cases h
      refine ⟨rfl, fun K s f hpv hG => ?_⟩
      obtain ⟨p, lv, st, w⟩ := f
      obtain ⟨g1, g2, g3, g4, g5, g6⟩ := hG
      obtain ⟨x, st1, q1, q2, q3⟩ := zk_st_int g2 rfl
      obtain ⟨v, st2, q4, q5, q6⟩ := zk_st_cons q3
      have e3 : v = .ref i := q5.2.2.1 rfl
      subst e3
      have hst : st = .int x :: .ref i :: st2 := by rw [← q4]; exact q1
      subst hst
      have q2 : x.toInt = zl_ev s e := q2
      have c1 := zl_en_ok g4 g5 b1
      have c2 := zl_en_ok g4 g5 b2
      rw [zl_sub_ev, zl_con_ev] at c1 c2
      have hx : (Int32.ofNat (zz_nI x)).toInt = x.toInt := by rw [zz_nI_of]
      obtain ⟨w', u1, u2, u3, u4, u5⟩ := zk_J_pf (x := zz_nI x) g6 hfs (fun h => absurd (show (0 : Nat) = 2 from h) (by decide)) (zk_nI64 x) (fun _ => by rw [hx]; exact ⟨show lo ≤ x.toInt by omega, show x.toInt ≤ hi by omega⟩) (zk_inM_ok b3)
      obtain ⟨o1, o2, o3, o4, o5, o6, o7, o8⟩ := zk_fs_ok hfs g6.1
      refine ⟨(n, lv, st2, w'), ?_, rfl, ⟨g1, q6, fun q hq => ?_, g4, g5, u2⟩, ⟨u5, fun m hm => u4 i m (fun e => hm (Prod.mk.inj e).2)⟩⟩
      · rw [ha K p lv x i st2 w (hP x lo hi d _ ⟨i, hfs⟩ (by omega) (by omega) rfl)]
        unfold zz_pf
        rw [o6]
        show zz_fN (zz_to 64 (zz_g w i).2.2.2 k (zz_nI x)) (fun N => zz_st w i (3, ci, (zz_g w i).2.2.1, N) none (fun w => some ((n, lv, st2, w) : zz_F))) = _
        rw [zz_fN_eq]
        exact u1 _ _
      · rcases List.mem_cons.mp hq with e1 | hq
        · subst e1
          refine ⟨fun _ => ?_, fun h => absurd (show (0 : Nat) = 2 from h) (by decide), fun h => absurd (show (0 : Nat) = 3 from h) (by decide)⟩
          rw [u3, hx]
          exact q2
        · exact zk_fr_ok g3 u4 q hq
    · cases h
  · cases h
theorem zt_putI_ok {c : Nat} {HT : List (List zk_H)} {M : zk_M} {w0 : zk_W0} {A A' : zk_A} {h1 h2 : List Nat} {ci k n : Nat} (h : zt_putI HT M h1 h2 ci k A = some A') : zk_SW c HT M w0 (za_putI ci k n) n A A' (fun _ w w' => zk_rF (zk_tg1 A) k w w') :=
  zk_putI_gen (P := fun _ => True) (fun _ _ _ _ _ _ _ _ _ => trivial) (fun K p lv x i r w _ => rfl) h
/-- a sum is not below 0, by bounds or by one of the sums, once, twice or six times -/
def zl_gq (B : List (Int × Int)) (C : List zl_E) (x : zl_E) : Bool := zl_pos B x || C.any (fun c => zl_pos B (zl_sub x c) || (zl_pos B (zl_sub x (zl_mul 2 c)) || zl_pos B (zl_sub x (zl_mul 6 c))))
theorem zl_gq_ok {s : Nat → Int} {B : List (Int × Int)} {C : List zl_E} {x : zl_E} (hB : zl_in s B) (hC : ∀ c ∈ C, 0 ≤ zl_ev s c) (h : zl_gq B C x = true) : 0 ≤ zl_ev s x := by
  rcases Bool.or_eq_true_iff.mp h with h | h
  · exact zl_pos_ok hB h
  · obtain ⟨c, c1, c2⟩ := List.any_eq_true.mp h
    have hc := hC c c1
    rcases Bool.or_eq_true_iff.mp c2 with h | h
    · have := zl_pos_ok hB h
      rw [zl_sub_ev] at this
      omega
    · rcases Bool.or_eq_true_iff.mp h with h | h
      · have := zl_pos_ok hB h
        rw [zl_sub_ev, zl_mul_ev] at this
        omega
      · have := zl_pos_ok hB h
        rw [zl_sub_ev, zl_mul_ev] at this
        omega
/-- the element at e of row i may change -/
def zk_inP (M : zk_M) (B : List (Int × Int)) (C : List zl_E) (i : Nat) (e : zl_E) : Bool := zk_inM M.1 i 999 || (zk_inM M.1 i 998 && M.2.any (fun p => (Nat.beq p.1 i && zl_nul (zl_sub p.2 e)) || (Nat.beq p.1 (i + 10000000) && zl_gq B C (zl_sub e p.2))))
theorem zk_inP_ok {M : zk_M} {B : List (Int × Int)} {C : List zl_E} {w0 : zk_W0} {i : Nat} {e : zl_E} {s : Nat → Int} {j : Nat} (hB : zl_in s B) (hC : ∀ c ∈ C, 0 ≤ zl_ev s c) (hpv : zk_pv s M.2 w0.2) (h : zk_inP M B C i e = true) (hj : (j : Int) = zl_ev s e) : (i, 999) ∈ M.1 ∨ (i, 998) ∈ M.1 ∧ ¬ zk_fre w0.2 i (j : Int) := by
  rcases Bool.or_eq_true_iff.mp h with h | h
  · exact Or.inl (zk_inM_ok h)
  · obtain ⟨b1, b2⟩ := zz_and h
    obtain ⟨p, p1, p2⟩ := List.any_eq_true.mp b2
    refine Or.inr ⟨zk_inM_ok b1, fun hf => ?_⟩
    have h2 := hpv p p1
    rcases Bool.or_eq_true_iff.mp p2 with p2 | p2
    · obtain ⟨c1, c2⟩ := zz_and p2
      have h1 := zl_nul_ok (s := s) c2
      rw [zl_sub_ev] at h1
      rw [zz_beq c1] at h2
      refine hf.1 ?_
      rw [hj, show zl_ev s e = zl_ev s p.2 by omega]
      exact h2
    · obtain ⟨c1, c2⟩ := zz_and p2
      have h1 := zl_gq_ok hB hC c2
      rw [zl_sub_ev] at h1
      rw [zz_beq c1] at h2
      have h3 := hf.2 _ h2
      omega
/-- the place of a row -/
def zk_rs (HT : List (List zk_H)) (kd t i : Nat) : Option (Nat × Int × Int) :=
  cond (Nat.beq (zk_h HT i).1 kd && (Nat.beq (zk_h HT i).2.1 t && Nat.ble (zk_h HT i).2.2.1 2147483648)) (some ((zk_h HT i).2.2.1, (zk_h HT i).2.2.2.1, (zk_h HT i).2.2.2.2.1)) none
theorem zk_rs_ok {c : Nat} {HT : List (List zk_H)} {kd t i len : Nat} {lo hi : Int} {w : zz_W} (h : zk_rs HT kd t i = some (len, lo, hi)) (hkd : kd ≠ 9) (hI : zk_I c HT w) : i < w.1 ∧ (zk_h HT i).1 = kd ∧ (zk_h HT i).2.2.1 = len ∧ (zz_g w i) = (kd, t, len, (zz_g w i).2.2.2) ∧ (kd = 0 → ∀ j, j < len → (lo ≤ (Int32.ofNat (zz_at 32 (zz_g w i).2.2.2 j)).toInt ∧ (Int32.ofNat (zz_at 32 (zz_g w i).2.2.2 j)).toInt ≤ hi) ∧ ∀ q : Nat × Nat × Int × Int, (zk_h HT i).2.2.2.2.2[j % (zk_h HT i).2.2.2.2.2.length]? = some q → q.2.2.1 ≤ (Int32.ofNat (zz_at 32 (zz_g w i).2.2.2 j)).toInt ∧ (Int32.ofNat (zz_at 32 (zz_g w i).2.2.2 j)).toInt ≤ q.2.2.2) ∧ ∀ j, j < len → zz_ir w i kd t j = true := by
  unfold zk_rs at h
  obtain ⟨hb, h⟩ := zz_cond h
  obtain ⟨b1, hb⟩ := zz_and hb
  obtain ⟨b2, b3⟩ := zz_and hb
  have e1 := zz_beq b1
  have e2 := zz_beq b2
  have h : ((zk_h HT i).2.2.1, (zk_h HT i).2.2.2.1, (zk_h HT i).2.2.2.2.1) = (len, lo, hi) := Option.some.inj h
  have e4 : (zk_h HT i).2.2.1 = len := congrArg (fun q => q.1) h
  have e5 : (zk_h HT i).2.2.2.1 = lo := congrArg (fun q => q.2.1) h
  have e6 : (zk_h HT i).2.2.2.2.1 = hi := congrArg (fun q => q.2.2) h
  obtain ⟨hi', g1, g2, g3, g4, -, -⟩ := hI.2.2.2 i (by omega)
  have a0 : (zz_g w i) = (kd, t, len, (zz_g w i).2.2.2) := by
    rw [← e1, ← e2, ← e4, ← g1, ← g2, ← g3]
  refine ⟨hi', e1, e4, a0, fun h0 j hj => ?_, fun j hj => ?_⟩
  · have := g4 (e1.trans h0) j (by rw [e4]; exact hj)
    rw [e5, e6] at this
    exact this
  · unfold zz_ir
    have a1 : Nat.blt i w.1 = true := Nat.ble_eq.mpr hi'
    have a2 : Nat.blt i 1000000 = true := Nat.ble_eq.mpr (by have := hI.2.2.1; omega)
    have a3 : Nat.blt j len = true := Nat.ble_eq.mpr hj
    rw [e4] at b3
    rw [g1, g2, g3, e1, e2, e4, a1, a2, a3, b3, Nat.beq_refl, Nat.beq_refl]
    rfl
/-- an index is within a row -/
def zk_ix (A : zk_A) (h1 h2 : List Nat) (e : zl_E) (len : Nat) : Bool := zl_en A.2.2.2.1 A.2.2.2.2 h1 e && zl_en A.2.2.2.1 A.2.2.2.2 h2 (zl_sub (zl_con ((len : Int) - 1)) e)
theorem zk_ix_ok {A : zk_A} {h1 h2 : List Nat} {e : zl_E} {len : Nat} {s : Nat → Int} {j : Int32} (h : zk_ix A h1 h2 e len = true) (h4 : zl_in s A.2.2.2.1) (h5 : zk_cs s A.2.2.2.2) (hj : j.toInt = zl_ev s e) : zz_nI j < len := by
  obtain ⟨b1, b2⟩ := zz_and h
  have c1 := zl_en_ok h4 h5 b1
  have c2 := zl_en_ok h4 h5 b2
  rw [zl_sub_ev, zl_con_ev] at c2
  have := zk_nI (x := j) (by omega)
  omega
def zt_aldI (HT : List (List zk_H)) (h1 h2 : List Nat) (t : Nat) (A : zk_A) : Option zk_A := match A.2.1 with
  | (0, _, e) :: (2, i, _) :: T => match zk_rs HT 0 t i with
    | some (len, lo, hi) => cond (zk_ix A h1 h2 e len) (zk_new A T lo hi) none
    | none => none
  | _ => none
theorem zt_aldI_ok {c : Nat} {HT : List (List zk_H)} {I : zz_W → Prop} (hI : ∀ w, I w → zk_I c HT w) {A A' : zk_A} {h1 h2 : List Nat} {t n : Nat} (h : zt_aldI HT h1 h2 t A = some A') : zk_S I (za_aldI t n) n A A' := by
  obtain ⟨L, T0, F, B, C⟩ := A
  unfold zt_aldI at h
  split at h
  · rename_i d1 e i e0 T hT
    have hT : T0 = (0, d1, e) :: (2, i, e0) :: T := hT
    subst hT
    split at h
    · rename_i len lo hi hrs
      obtain ⟨hb, h⟩ := zz_cond h
      refine ⟨zk_new_len h, fun K s f hG => ?_⟩
      obtain ⟨p, lv, st, w⟩ := f
      obtain ⟨g1, g2, g3, g4, g5, g6⟩ := hG
      obtain ⟨j, st1, q1, q2, q3⟩ := zk_st_int g2 rfl
      obtain ⟨v, st2, q4, q5, q6⟩ := zk_st_cons q3
      have e3 : v = .ref i := q5.2.2.1 rfl
      subst e3
      have hst : st = .int j :: .ref i :: st2 := by rw [← q4]; exact q1
      subst hst
      have hj := zk_ix_ok hb g4 g5 q2
      obtain ⟨o1, o2, o3, o4, o5, o6⟩ := zk_rs_ok hrs (by decide) (hI _ g6)
      have o5 := (o5 rfl _ hj).1
      obtain ⟨-, s', hg, hs⟩ := zk_new_ok (I := I) (x := Int32.ofNat (zz_at 32 (zz_g w i).2.2.2 (zz_nI j))) (n := n) (w := w) (lv := lv) h g1 q6 g3 g4 g5 g6 o5.1 o5.2
      refine ⟨s', _, ?_, rfl, hg, hs⟩
      show cond (zz_ir w i 0 t (zz_nI j)) (zz_fN (zz_at 32 (zz_g w i).2.2.2 (zz_nI j)) (fun v => some ((n, lv, .int (Int32.ofNat v) :: st2, w) : zz_F))) none = _
      rw [o6 _ hj, zz_fN_eq]
      rfl
    · cases h
  · cases h
/-- rows with a stride: the rest of a place is known, if all factors are multiples of the stride -/
def zl_md (n : Nat) (e : zl_E) : Bool := e.2.all (fun q => Nat.beq (q.2.1 % n) (q.2.2 % n))
theorem zl_md_dt {n : Nat} {s : Nat → Int} : ∀ {l : List (Nat × zl_N)}, l.all (fun q => Nat.beq (q.2.1 % n) (q.2.2 % n)) = true → (n : Int) ∣ zl_dt s l
  | [], _ => ⟨0, by rw [Int.mul_zero]; rfl⟩
  | q :: l, h => by
    rw [List.all_cons] at h
    obtain ⟨h1, h2⟩ := zz_and h
    have h3 := zz_beq h1
    have h4 : (n : Int) ∣ zl_nv q.2 := by
      rw [zl_nv_eq]
      have a1 := Nat.div_add_mod q.2.1 n
      have a2 := Nat.div_add_mod q.2.2 n
      rw [h3] at a1
      refine ⟨((q.2.1 / n : Nat) : Int) - ((q.2.2 / n : Nat) : Int), ?_⟩
      rw [Int.mul_sub]
      have b1 : ((n * (q.2.1 / n) + q.2.2 % n : Nat) : Int) = (q.2.1 : Int) := by rw [a1]
      have b2 : ((n * (q.2.2 / n) + q.2.2 % n : Nat) : Int) = (q.2.2 : Int) := by rw [a2]
      rw [Int.natCast_add, Int.natCast_mul] at b1 b2
      omega
    obtain ⟨x, hx⟩ := h4
    obtain ⟨y, hy⟩ := zl_md_dt (s := s) h2
    refine ⟨x * s q.1 + y, ?_⟩
    show zl_nv q.2 * s q.1 + zl_dt s l = _
    rw [hx, hy, Int.mul_add, Int.mul_assoc]
theorem zl_md_ok {n : Nat} {s : Nat → Int} {e : zl_E} {j : Nat} (h : zl_md n e = true) (hj : (j : Int) = zl_ev s e) : (Int.emod (zl_nv e.1) (n : Int)).toNat = j % n := by
  obtain ⟨y, hy⟩ := zl_md_dt (s := s) h
  have h1 : (j : Int) = zl_nv e.1 + (n : Int) * y := by
    rw [hj, ← hy]
    rfl
  have h2 : Int.emod (zl_nv e.1) (n : Int) = ((j % n : Nat) : Int) := by
    show zl_nv e.1 % (n : Int) = _
    rw [Int.natCast_emod, h1, Int.add_mul_emod_self_left]
  rw [h2]
  rfl
def zk_sb (L : List (Nat × Nat × Int × Int)) (lo hi : Int) (e : zl_E) : Int × Int := cond (zl_md L.length e) (match L[(Int.emod (zl_nv e.1) (L.length : Int)).toNat]? with
  | some q => (cond (decide (lo ≤ q.2.2.1)) q.2.2.1 lo, cond (decide (q.2.2.2 ≤ hi)) q.2.2.2 hi)
  | none => (lo, hi)) (lo, hi)
theorem zk_mx (a b : Int) : (cond (decide (a ≤ b)) b a = b ∧ a ≤ b) ∨ (cond (decide (a ≤ b)) b a = a ∧ b < a) := by
  by_cases h : a ≤ b
  · rw [decide_eq_true h]
    exact Or.inl ⟨rfl, h⟩
  · rw [decide_eq_false h]
    exact Or.inr ⟨rfl, by omega⟩
theorem zk_mn (a b : Int) : (cond (decide (b ≤ a)) b a = b ∧ b ≤ a) ∨ (cond (decide (b ≤ a)) b a = a ∧ a < b) := by
  by_cases h : b ≤ a
  · rw [decide_eq_true h]
    exact Or.inl ⟨rfl, h⟩
  · rw [decide_eq_false h]
    exact Or.inr ⟨rfl, by omega⟩
theorem zk_sb_le (L : List (Nat × Nat × Int × Int)) (lo hi : Int) (e : zl_E) : lo ≤ (zk_sb L lo hi e).1 ∧ (zk_sb L lo hi e).2 ≤ hi := by
  unfold zk_sb
  cases zl_md L.length e with
  | false => exact ⟨Int.le_refl _, Int.le_refl _⟩
  | true =>
    cases L[(Int.emod (zl_nv e.1) (L.length : Int)).toNat]? with
    | none => exact ⟨Int.le_refl _, Int.le_refl _⟩
    | some q =>
      show lo ≤ cond (decide (lo ≤ q.2.2.1)) q.2.2.1 lo ∧ cond (decide (q.2.2.2 ≤ hi)) q.2.2.2 hi ≤ hi
      have h1 := zk_mx lo q.2.2.1
      have h2 := zk_mn hi q.2.2.2
      omega
theorem zk_sb_r {L : List (Nat × Nat × Int × Int)} {lo hi x : Int} {e : zl_E} {s : Nat → Int} {j : Nat} (hj : (j : Int) = zl_ev s e) (hb : lo ≤ x ∧ x ≤ hi) (hq : ∀ q : Nat × Nat × Int × Int, L[j % L.length]? = some q → q.2.2.1 ≤ x ∧ x ≤ q.2.2.2) : (zk_sb L lo hi e).1 ≤ x ∧ x ≤ (zk_sb L lo hi e).2 := by
  unfold zk_sb
  cases hm : zl_md L.length e with
  | false => exact hb
  | true =>
    rw [zl_md_ok hm hj]
    cases hk : L[j % L.length]? with
    | none => exact hb
    | some q =>
      show cond (decide (lo ≤ q.2.2.1)) q.2.2.1 lo ≤ x ∧ x ≤ cond (decide (q.2.2.2 ≤ hi)) q.2.2.2 hi
      have h0 := hq q hk
      have h1 := zk_mx lo q.2.2.1
      have h2 := zk_mn hi q.2.2.2
      omega
def zk_swz (L : List (Nat × Nat × Int × Int)) (e : zl_E) : Bool := cond (Nat.beq L.length 0) true (zl_md L.length e)
theorem zk_sb_w {L : List (Nat × Nat × Int × Int)} {lo hi x : Int} {e : zl_E} {s : Nat → Int} {j : Nat} (hw : zk_swz L e = true) (hj : (j : Int) = zl_ev s e) (h1 : (zk_sb L lo hi e).1 ≤ x) (h2 : x ≤ (zk_sb L lo hi e).2) (q : Nat × Nat × Int × Int) (hq : L[j % L.length]? = some q) : q.2.2.1 ≤ x ∧ x ≤ q.2.2.2 := by
  unfold zk_swz at hw
  cases hb : Nat.beq L.length 0 with
  | true =>
    have : L = [] := List.length_eq_zero_iff.mp (zz_beq hb)
    rw [this] at hq
    cases hq
  | false =>
    rw [hb] at hw
    have hw : zl_md L.length e = true := hw
    unfold zk_sb at h1 h2
    rw [hw, zl_md_ok hw hj, hq] at h1 h2
    have h1 : cond (decide (lo ≤ q.2.2.1)) q.2.2.1 lo ≤ x := h1
    have h2 : x ≤ cond (decide (q.2.2.2 ≤ hi)) q.2.2.2 hi := h2
    have h3 := zk_mx lo q.2.2.1
    have h4 := zk_mn hi q.2.2.2
    omega
/-- a row's element is set -/
theorem zk_J_pr {c : Nat} {HT : List (List zk_H)} {M : zk_M} {w0 : zk_W0} {w : zz_W} {t i len j x : Nat} {lo hi : Int} (hJ : zk_J c HT M w0 w) (hr : zk_rs HT 0 t i = some (len, lo, hi)) (hx : x < 2 ^ 32) (hb : lo ≤ (Int32.ofNat x).toInt ∧ (Int32.ofNat x).toInt ≤ hi) (hq : ∀ q : Nat × Nat × Int × Int, (zk_h HT i).2.2.2.2.2[j % (zk_h HT i).2.2.2.2.2.length]? = some q → q.2.2.1 ≤ (Int32.ofNat x).toInt ∧ (Int32.ofNat x).toInt ≤ q.2.2.2) (hM : (i, 999) ∈ M.1 ∨ (i, 998) ∈ M.1 ∧ ¬ zk_fre w0.2 i (j : Int)) :
    ∃ w' : zz_W, (∀ (β : Type) (kk : zz_W → Option β), zz_st w i (0, t, (zz_g w i).2.2.1, zz_to 32 (zz_g w i).2.2.2 j x) none kk = kk w') ∧ zk_J c HT M w0 w' ∧ (∀ a m, (zk_h HT a).1 = 3 → zk_fd w' (a, m) = zk_fd w (a, m)) ∧ (∀ a, a ≠ i → zz_g w' a = zz_g w a) ∧ (zz_g w' i).2.2.2 = zz_to 32 (zz_g w i).2.2.2 j x := by
  obtain ⟨o1, o2, o3, o4, o5, o6⟩ := zk_rs_ok hr (by decide) hJ.1
  obtain ⟨⟨s1, s2, s3, s4⟩, hsm, hw1, hw2, hk⟩ := hJ
  have hi' : i < 16 * c := by omega
  have hg := zk_up_g (x := (0, t, (zz_g w i).2.2.1, zz_to 32 (zz_g w i).2.2.2 j x)) s1 hi'
  have h0 : (zz_g w i).1 = 0 := by rw [o4]
  refine ⟨zz_up w i (0, t, (zz_g w i).2.2.1, zz_to 32 (zz_g w i).2.2.2 j x), fun β kk => zk_up_st s1 hi', ⟨?_, ⟨fun a m h8 hn hl h3 => ?_, fun a hn hl h3 => ?_⟩, hw1, hw2, fun a ha => ?_⟩, fun a m h3 => ?_, fun a ha => by rw [hg, if_neg ha], by rw [hg, if_pos rfl]⟩
  · refine zk_I_up ⟨s1, s2, s3, s4⟩ o1 (fun hn => ?_)
    obtain ⟨-, g1, g2, g3, g4, g5, g6, -⟩ := s4 i hn
    refine ⟨o2.symm, ?_, g3, fun _ m hm => ?_, fun h => absurd (o2.symm.trans h) (by decide), fun h => absurd (o2.symm.trans h) (by decide), fun h => absurd (o2.symm.trans h) (by decide)⟩
    · rw [o4] at g2
      exact g2
    · show (_ ≤ (Int32.ofNat (zz_at 32 (zz_to 32 (zz_g w i).2.2.2 j x) m)).toInt ∧ (Int32.ofNat (zz_at 32 (zz_to 32 (zz_g w i).2.2.2 j x) m)).toInt ≤ _) ∧ ∀ q : Nat × Nat × Int × Int, _ → q.2.2.1 ≤ (Int32.ofNat (zz_at 32 (zz_to 32 (zz_g w i).2.2.2 j x) m)).toInt ∧ (Int32.ofNat (zz_at 32 (zz_to 32 (zz_g w i).2.2.2 j x) m)).toInt ≤ q.2.2.2
      rw [zz_at_to hx]
      by_cases e : m = j
      · rw [if_pos e]
        unfold zk_rs at hr
        obtain ⟨-, hr⟩ := zz_cond hr
        have hr : ((zk_h HT i).2.2.1, (zk_h HT i).2.2.2.1, (zk_h HT i).2.2.2.2.1) = (len, lo, hi) := Option.some.inj hr
        have e5 : (zk_h HT i).2.2.2.1 = lo := congrArg (fun q => q.2.1) hr
        have e6 : (zk_h HT i).2.2.2.2.1 = hi := congrArg (fun q => q.2.2) hr
        rw [e5, e6]
        refine ⟨hb, ?_⟩
        rw [e]
        exact hq
      · rw [if_neg e]
        exact g4 o2 m hm
  · unfold zk_fd
    rw [hg]
    by_cases e : a = i
    · exfalso
      subst e
      have := zk_k3_1 (hk a hl)
      omega
    · rw [if_neg e]
      exact hsm.1 a m h8 hn hl h3
  · by_cases e : a = i
    · subst e
      rcases hM with hM | ⟨hM1, hM2⟩
      · exact absurd hM hn
      · refine ⟨fun h8 => absurd hM1 h8, fun m hm hv => ?_⟩
        rw [← (hsm.2 a hn hl h3).2 m hm hv]
        unfold zk_el
        rw [hg, if_pos rfl]
        show (Int32.ofNat (zz_at 32 (zz_to 32 (zz_g w a).2.2.2 j x) m.toNat)).toInt = _
        have hne : m.toNat ≠ j := by
          intro e2
          have : m = (j : Int) := by omega
          rw [this] at hv
          exact hM2 hv
        rw [zz_at_to hx, if_neg hne]
    · refine ⟨fun h8 => ?_, fun m hm hv => ?_⟩
      · rw [hg, if_neg e]
        exact (hsm.2 a hn hl h3).1 h8
      · unfold zk_el
        rw [hg, if_neg e]
        exact (hsm.2 a hn hl h3).2 m hm hv
  · rw [hg]
    by_cases e : a = i
    · subst e
      rw [if_pos rfl]
      rw [← hk a ha]
      exact zk_k3_of h0 (by rw [o4]) rfl
    · rw [if_neg e]
      exact hk a ha
  · unfold zk_fd
    rw [hg]
    by_cases e : a = i
    · subst e
      omega
    · rw [if_neg e]
def zt_astI (HT : List (List zk_H)) (M : zk_M) (h1 h2 h3 h4 : List Nat) (t : Nat) (A : zk_A) : Option zk_A := match A.2.1 with
  | (0, _, ev) :: (0, _, e) :: (2, i, _) :: T => match zk_rs HT 0 t i with
    | some (len, lo, hi) => cond (zk_ix A h1 h2 e len && (zl_en A.2.2.2.1 A.2.2.2.2 h3 (zl_sub ev (zl_con (zk_sb (zk_h HT i).2.2.2.2.2 lo hi e).1)) && (zl_en A.2.2.2.1 A.2.2.2.2 h4 (zl_sub (zl_con (zk_sb (zk_h HT i).2.2.2.2.2 lo hi e).2) ev) && (zk_inP M A.2.2.2.1 A.2.2.2.2 i e && (A.2.2.1.all (fun q => Nat.beq (zk_h HT q.1.1).1 3) && zk_swz (zk_h HT i).2.2.2.2.2 e))))) (some (A.1, T, A.2.2.1, A.2.2.2.1, A.2.2.2.2)) none
    | none => none
  | _ => none
theorem zt_astI_ok {c : Nat} {HT : List (List zk_H)} {M : zk_M} {w0 : zk_W0} {A A' : zk_A} {h1 h2 h3 h4 : List Nat} {t n : Nat} (h : zt_astI HT M h1 h2 h3 h4 t A = some A') : zk_SW c HT M w0 (za_astI t n) n A A' (fun s w w' => zk_rR (zk_tg2 A) (zl_ev s (zk_ix2 A)) w w' ∧ 0 ≤ zl_ev s (zk_ix2 A) ∧ (true = true → zk_el w' (zk_tg2 A) (zl_ev s (zk_ix2 A)) = zl_ev s (zk_vl A))) := by
  obtain ⟨L, T0, F, B, C⟩ := A
  unfold zt_astI at h
  split at h
  · rename_i d0 ev d1 e i e0 T hT
    have hT : T0 = (0, d0, ev) :: (0, d1, e) :: (2, i, e0) :: T := hT
    subst hT
    split at h
    · rename_i len lo hi hrs
      obtain ⟨hb, h⟩ := zz_cond h
      obtain ⟨b1, hb⟩ := zz_and hb
      obtain ⟨b2, hb⟩ := zz_and hb
      obtain ⟨b3, hb⟩ := zz_and hb
      obtain ⟨b5, b4⟩ := zz_and hb
      obtain ⟨b4, b6⟩ := zz_and b4
      cases h
      refine ⟨rfl, fun K s f hpv hG => ?_⟩
      obtain ⟨p, lv, st, w⟩ := f
      obtain ⟨g1, g2, g3, g4, g5, g6⟩ := hG
      obtain ⟨x, st0, r1, r2, r3⟩ := zk_st_int g2 rfl
      obtain ⟨j, st1, q1, q2, q3⟩ := zk_st_int r3 rfl
      obtain ⟨v, st2, q4, q5, q6⟩ := zk_st_cons q3
      have e3 : v = .ref i := q5.2.2.1 rfl
      subst e3
      have hst : st = .int x :: .int j :: .ref i :: st2 := by rw [← q4, ← q1]; exact r1
      subst hst
      have r2 : x.toInt = zl_ev s ev := r2
      have hj := zk_ix_ok b1 g4 g5 q2
      have c1 := zl_en_ok g4 g5 b2
      have c2 := zl_en_ok g4 g5 b3
      rw [zl_sub_ev, zl_con_ev] at c1 c2
      have hx : (Int32.ofNat (zz_nI x)).toInt = x.toInt := by rw [zz_nI_of]
      obtain ⟨o1, o2, o3, o4, o5, o6⟩ := zk_rs_ok hrs (by decide) g6.1
      have hjz : ((zz_nI j : Nat) : Int) = zl_ev s e := by rw [← q2]; exact zk_nI (by have := zl_en_ok g4 g5 (zz_and b1).1; have q2 : j.toInt = zl_ev s e := q2; omega)
      have hsl := zk_sb_le (zk_h HT i).2.2.2.2.2 lo hi e
      obtain ⟨w', u1, u2, u3, u4, u5⟩ := zk_J_pr (j := zz_nI j) (x := zz_nI x) g6 hrs (zz_nI_lt x) (by rw [hx]; constructor <;> omega) (zk_sb_w (lo := lo) (hi := hi) b6 hjz (by rw [hx]; omega) (by rw [hx]; omega)) (zk_inP_ok g4 g5 hpv b5 (by rw [← q2]; exact zk_nI (by have := zl_en_ok g4 g5 (zz_and b1).1; have q2 : j.toInt = zl_ev s e := q2; omega)))
      have q2 : j.toInt = zl_ev s e := q2
      have hj0 : 0 ≤ j.toInt := by
        have := zl_en_ok g4 g5 (zz_and b1).1
        omega
      have hrel := zk_el_to (x := zz_nI x) hj0 (zz_nI_lt x) u4 u5
      rw [hx, r2, q2] at hrel
      refine ⟨(n, lv, st2, w'), ?_, rfl, ⟨g1, q6, fun q hq => ?_, g4, g5, u2⟩, hrel.1, (by rw [← q2]; exact hj0 : 0 ≤ zl_ev s e), fun _ => hrel.2⟩
      · show zz_pr w i 0 t 32 (zz_nI j) (zz_nI x) (fun w => some ((n, lv, st2, w) : zz_F)) = _
        unfold zz_pr
        rw [o6 _ hj]
        show zz_fN (zz_to 32 (zz_g w i).2.2.2 (zz_nI j) (zz_nI x)) (fun N => zz_st w i (0, t, (zz_g w i).2.2.1, N) none (fun w => some ((n, lv, st2, w) : zz_F))) = _
        rw [zz_fN_eq]
        exact u1 _ _
      · have := g3 q hq
        rw [show zk_fd w' q.1 = zk_fd w q.1 from u3 q.1.1 q.1.2 (zz_beq (List.all_eq_true.mp b4 q hq))]
        exact this
    · cases h
  · cases h
end
