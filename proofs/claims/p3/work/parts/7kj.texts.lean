/-! ABSTRACT FRAMES, on: texts that stood there before, fields of longs that are set, bytes that are known, copies of rows -/
noncomputable section
/-- how many places values take -/
def zk_cz (T : List zk_V) : Nat := match T with
  | [] => 0
  | a :: T => cond (Nat.beq a.1 1) 2 1 + zk_cz T
def zk_t3 (T : List zk_V) : Bool := T.all (fun a => Nat.ble a.1 3)
theorem zk_cz_ok {s : Nat → Int} : ∀ {T : List zk_V} {st : List Value}, zk_t3 T = true → zk_st s T st → zz_cs st = zk_cz T
  | [], [], _, _ => rfl
  | [], _ :: _, _, h => h.elim
  | _ :: _, [], _, h => h.elim
  | a :: T, v :: st, ht, h => by
    unfold zk_t3 at ht
    rw [List.all_cons] at ht
    obtain ⟨t1, t2⟩ := zz_and ht
    have h2 : zz_cs (v :: st) = v.category + zz_cs st := by unfold zz_cs; simp
    rw [h2, zk_cz_ok (T := T) t2 h.2]
    show _ = cond (Nat.beq a.1 1) 2 1 + zk_cz T
    have hc := zk_cat h.1 t1
    rw [← hc]
    rcases lv_cat v with e | e
    · rw [e]; rfl
    · rw [e]; rfl
/-- a text's row of bytes -/
def zt_kv (S : zz_Lr) (A : zk_A) : Option zk_A := match A.2.1 with
  | (2, i, _) :: r => cond (zz_kg S i) (some (A.1, (2, i + 1, zl_con 0) :: r, A.2.2.1, A.2.2.2.1, A.2.2.2.2)) none
  | _ => none
theorem zt_kv_ok {S : zz_Lr} {I : zz_W → Prop} {A A' : zk_A} {n : Nat} (h : zt_kv S A = some A') : zk_S I (za_kf (zz_kv S) n) n A A' := by
  obtain ⟨L, T, F, B, C⟩ := A
  unfold zt_kv at h
  split at h
  · rename_i i e0 r hT
    have hT : T = (2, i, e0) :: r := hT
    subst hT
    obtain ⟨hb, h⟩ := zz_cond h
    cases h
    refine ⟨Nat.le_refl _, fun K s f hG => ?_⟩
    obtain ⟨p, lv, st, w⟩ := f
    obtain ⟨g1, g2, g3, g4, g5, g6⟩ := hG
    obtain ⟨v, st2, q4, q5, q6⟩ := zk_st_cons g2
    have e3 : v = .ref i := q5.2.2.1 rfl
    subst e3
    have q4 : st = .ref i :: st2 := q4
    subst q4
    have hv : zz_kv S i = some (.ref (i + 1)) := by
      unfold zz_kg at hb
      unfold zz_kv
      split at hb
      · rfl
      · cases hb
    exact ⟨s, _, ze_kf hv, rfl, ⟨g1, ⟨zk_v_ref, q6⟩, g3, g4, g5, g6⟩, fun _ _ => rfl⟩
  · cases h
def zt_kc (S : zz_Lr) (A : zk_A) : Option zk_A := match A.2.1 with
  | (2, i, _) :: r => cond (zz_kg S i) (some (A.1, (0, 0, zl_con 0) :: r, A.2.2.1, A.2.2.2.1, A.2.2.2.2)) none
  | _ => none
theorem zt_kc_ok {S : zz_Lr} {I : zz_W → Prop} {A A' : zk_A} {n : Nat} (h : zt_kc S A = some A') : zk_S I (za_kf (zz_kc S) n) n A A' := by
  obtain ⟨L, T, F, B, C⟩ := A
  unfold zt_kc at h
  split at h
  · rename_i i e0 r hT
    have hT : T = (2, i, e0) :: r := hT
    subst hT
    obtain ⟨hb, h⟩ := zz_cond h
    cases h
    refine ⟨Nat.le_refl _, fun K s f hG => ?_⟩
    obtain ⟨p, lv, st, w⟩ := f
    obtain ⟨g1, g2, g3, g4, g5, g6⟩ := hG
    obtain ⟨v, st2, q4, q5, q6⟩ := zk_st_cons g2
    have e3 : v = .ref i := q5.2.2.1 rfl
    subst e3
    have q4 : st = .ref i :: st2 := q4
    subst q4
    have hv : zz_kc S i = some (.int (Int32.ofNat 0)) := by
      unfold zz_kg at hb
      unfold zz_kc
      split at hb
      · rfl
      · cases hb
    exact ⟨s, _, ze_kf hv, rfl, ⟨g1, ⟨zk_v_int (by rw [zl_con_ev]; rfl), q6⟩, g3, g4, g5, g6⟩, fun _ _ => rfl⟩
  · cases h
/-- a constant row's length -/
def zt_kn (S S2 : zz_Lr) (A : zk_A) : Option zk_A := match A.2.1 with
  | (2, i, _) :: r => match zz_kn S S2 i with
    | some q => cond (Nat.blt q 2147483648) (some (A.1, (0, 0, zl_con (q : Int)) :: r, A.2.2.1, A.2.2.2.1, A.2.2.2.2)) none
    | none => none
  | _ => none
theorem zt_kn_ok {S S2 : zz_Lr} {I : zz_W → Prop} {A A' : zk_A} {n : Nat} (h : zt_kn S S2 A = some A') : zk_S I (za_kn (zz_kn S S2) n) n A A' := by
  obtain ⟨L, T, F, B, C⟩ := A
  unfold zt_kn at h
  split at h
  · rename_i i e0 r hT
    have hT : T = (2, i, e0) :: r := hT
    subst hT
    split at h
    · rename_i q hq
      obtain ⟨hb, h⟩ := zz_cond h
      have hb := zz_blt hb
      cases h
      refine ⟨Nat.le_refl _, fun K s f hG => ?_⟩
      obtain ⟨p, lv, st, w⟩ := f
      obtain ⟨g1, g2, g3, g4, g5, g6⟩ := hG
      obtain ⟨v, st2, q4, q5, q6⟩ := zk_st_cons g2
      have e3 : v = .ref i := q5.2.2.1 rfl
      subst e3
      have q4 : st = .ref i :: st2 := q4
      subst q4
      exact ⟨s, _, ze_kn hq rfl, rfl, ⟨g1, ⟨zk_v_int (by rw [zl_con_ev]; exact Int32.toInt_ofNat_of_lt (by omega)), q6⟩, g3, g4, g5, g6⟩, fun _ _ => rfl⟩
    · cases h
  · cases h
/-- a byte of a text: at a place that is known, the byte itself -/
def zt_kb (S : zz_Lr) (hs : List (List Nat)) (A : zk_A) : Option zk_A := match A.2.1 with
  | (0, _, e) :: (2, i, _) :: r => match zz_kt S 1 i with
    | some q => cond (zk_ix A (hs.getD 0 []) (hs.getD 1 []) e q.1 && (Nat.blt q.1 2147483648 && (Nat.blt ((hs.getD 5 []).getD 1 0) 128 && (List.range q.1).all (fun j => Nat.ble ((hs.getD 5 []).getD 0 0) (zz_at 8 q.2 j) && Nat.ble (zz_at 8 q.2 j) ((hs.getD 5 []).getD 1 0)))))
        (match hs.getD 2 [] with
          | k :: _ => cond (zl_en A.2.2.2.1 A.2.2.2.2 (hs.getD 3 []) (zl_sub e (zl_con (k : Int))) && zl_en A.2.2.2.1 A.2.2.2.2 (hs.getD 4 []) (zl_sub (zl_con (k : Int)) e)) (some (A.1, (0, 0, zl_con (zz_at 8 q.2 k : Int)) :: r, A.2.2.1, A.2.2.2.1, A.2.2.2.2)) none
          | [] => zk_new A r (((hs.getD 5 []).getD 0 0 : Nat) : Int) (((hs.getD 5 []).getD 1 0 : Nat) : Int)) none
    | none => none
  | _ => none
theorem zt_kb_ok {S : zz_Lr} {I : zz_W → Prop} {A A' : zk_A} {n : Nat} {hs : List (List Nat)} (h : zt_kb S hs A = some A') : zk_S I (za_kl (zz_kb S) n) n A A' := by
  obtain ⟨L, T, F, B, C⟩ := A
  unfold zt_kb at h
  split at h
  · rename_i d0 e i e0 r hT
    have hT : T = (0, d0, e) :: (2, i, e0) :: r := hT
    subst hT
    split at h
    · rename_i q hq
      obtain ⟨hb, h⟩ := zz_cond h
      obtain ⟨b1, hb⟩ := zz_and hb
      obtain ⟨b2, hb⟩ := zz_and hb
      obtain ⟨b0, b3⟩ := zz_and hb
      have b0 := zz_blt b0
      have key : ∀ (s : Nat → Int) (lv : List (Nat × Value)) (st : List Value) (w : zz_W), zk_st s ((0, d0, e) :: (2, i, e0) :: r) st → zl_in s B → zk_cs s C → ∃ (j : Int32) (st2 : List Value), st = .int j :: .ref i :: st2 ∧ j.toInt = zl_ev s e ∧ 0 ≤ j.toInt ∧ zk_st s r st2 ∧ zz_nI j < q.1 ∧ zz_kb S i (zz_nI j) = some (zz_at 8 q.2 (zz_nI j)) := by
        intro s lv st w g2 g4 g5
        obtain ⟨j, st1, q1, q2, q3⟩ := zk_st_int g2 rfl
        obtain ⟨v, st2, q4, q5, q6⟩ := zk_st_cons q3
        have e3 : v = .ref i := q5.2.2.1 rfl
        subst e3
        have hj := zk_ix_ok b1 g4 g5 q2
        have q2 : j.toInt = zl_ev s e := q2
        have hj0 : 0 ≤ j.toInt := by
          have := zl_en_ok g4 g5 (zz_and b1).1
          omega
        refine ⟨j, st2, by rw [← q4]; exact q1, q2, hj0, q6, hj, ?_⟩
        unfold zz_kb
        rw [hq]
        show cond (Nat.blt (zz_nI j) q.1 && Nat.blt q.1 2147483648) (some (zz_at 8 q.2 (zz_nI j))) none = _
        rw [show Nat.blt (zz_nI j) q.1 = true from Nat.ble_eq.mpr hj, b2]
        rfl
      split at h
      · rename_i k _ hk
        obtain ⟨hb2, h⟩ := zz_cond h
        obtain ⟨b4, b5⟩ := zz_and hb2
        cases h
        refine ⟨Nat.le_refl _, fun K s f hG => ?_⟩
        obtain ⟨p, lv, st, w⟩ := f
        obtain ⟨g1, g2, g3, g4, g5, g6⟩ := hG
        obtain ⟨j, st2, hst, q2, q3, q6, hj, hv⟩ := key s lv st w g2 g4 g5
        subst hst
        have c1 := zl_en_ok g4 g5 b4
        have c2 := zl_en_ok g4 g5 b5
        rw [zl_sub_ev, zl_con_ev] at c1 c2
        have hn := zk_nI q3
        have ek : zz_nI j = k := by omega
        rw [ek] at hv hj
        have h7 := zz_ble (zz_and (List.all_eq_true.mp b3 k (List.mem_range.mpr hj))).2
        refine ⟨s, _, ze_kl (by rw [ek]; exact hv) rfl, rfl, ⟨g1, ⟨zk_v_int ?_, q6⟩, g3, g4, g5, g6⟩, fun _ _ => rfl⟩
        rw [zl_con_ev]
        exact Int32.toInt_ofNat_of_lt (by omega)
      · refine ⟨zk_new_len h, fun K s f hG => ?_⟩
        obtain ⟨p, lv, st, w⟩ := f
        obtain ⟨g1, g2, g3, g4, g5, g6⟩ := hG
        obtain ⟨j, st2, hst, q2, q3, q6, hj, hv⟩ := key s lv st w g2 g4 g5
        subst hst
        obtain ⟨h6, h7⟩ := zz_and (List.all_eq_true.mp b3 (zz_nI j) (List.mem_range.mpr hj))
        have h6 := zz_ble h6
        have h7 := zz_ble h7
        have e7 : (Int32.ofNat (zz_at 8 q.2 (zz_nI j))).toInt = (zz_at 8 q.2 (zz_nI j) : Int) := Int32.toInt_ofNat_of_lt (by omega)
        obtain ⟨-, s', hg, hs'⟩ := zk_new_ok (I := I) (x := Int32.ofNat (zz_at 8 q.2 (zz_nI j))) (n := n) (w := w) (lv := lv) h g1 q6 g3 g4 g5 g6 (by rw [e7]; omega) (by rw [e7]; omega)
        exact ⟨s', _, ze_kl hv rfl, rfl, hg, hs'⟩
    · cases h
  · cases h
/-- a long's field is set -/
def zt_putL (HT : List (List zk_H)) (M : zk_M) (ci k : Nat) (A : zk_A) : Option zk_A := match A.2.1 with
  | (1, _, _) :: (2, i, _) :: T => match zk_fs HT ci i k with
    | some (1, _, _) => cond (zk_inM M.1 i k) (some (A.1, T, zk_fr A.2.2.1 i k, A.2.2.2.1, A.2.2.2.2)) none
    | _ => none
  | _ => none
theorem zt_putL_ok {c : Nat} {HT : List (List zk_H)} {M : zk_M} {w0 : zk_W0} {A A' : zk_A} {ci k n : Nat} (h : zt_putL HT M ci k A = some A') : zk_SW c HT M w0 (za_putL ci k n) n A A' (fun _ w w' => zk_rF (zk_tg1 A) k w w') := by
  obtain ⟨L, T0, F, B, C⟩ := A
  unfold zt_putL at h
  split at h
  · rename_i d0 ev i e0 T hT
    have hT : T0 = (1, d0, ev) :: (2, i, e0) :: T := hT
    subst hT
    split at h
    · rename_i d q hfs
      obtain ⟨b2, h⟩ := zz_cond h
      cases h
      refine ⟨rfl, fun K s f hpv hG => ?_⟩
      obtain ⟨p, lv, st, w⟩ := f
      obtain ⟨g1, g2, g3, g4, g5, g6⟩ := hG
      obtain ⟨u, st1, q1, q2, q3⟩ := zk_st_cons g2
      obtain ⟨x, ex, -⟩ := q2.2.1 rfl
      subst ex
      obtain ⟨v, st2, q4, q5, q6⟩ := zk_st_cons q3
      have e3 : v = .ref i := q5.2.2.1 rfl
      subst e3
      have hst : st = .long x :: .ref i :: st2 := by rw [← q4]; exact q1
      subst hst
      obtain ⟨w', u1, u2, u3, u4, u5⟩ := zk_J_pf (x := zz_nL x) g6 hfs (fun h => absurd (show (1 : Nat) = 2 from h) (by decide)) (zz_nL_lt x) (fun h => absurd (show (1 : Nat) = 0 from h) (by decide)) (zk_inM_ok b2)
      obtain ⟨o1, o2, o3, o4, o5, o6, o7, o8⟩ := zk_fs_ok hfs g6.1
      refine ⟨(n, lv, st2, w'), ?_, rfl, ⟨g1, q6, fun y hy => zk_fr_ok g3 u4 y hy, g4, g5, u2⟩, ⟨u5, fun m hm => u4 i m (fun e => hm (Prod.mk.inj e).2)⟩⟩
      show zz_pf w i ci k (zz_nL x) (fun w => some ((n, lv, st2, w) : zz_F)) = _
      unfold zz_pf
      rw [o6]
      show zz_fN (zz_to 64 (zz_g w i).2.2.2 k (zz_nL x)) (fun N => zz_st w i (3, ci, (zz_g w i).2.2.1, N) none (fun w => some ((n, lv, st2, w) : zz_F))) = _
      rw [zz_fN_eq]
      exact u1 _ _
    · cases h
  · cases h
/-- a byte that is known -/
theorem zk_b8x {x : Int32} (h1 : -128 ≤ x.toInt) (h2 : x.toInt ≤ 127) : (x.toInt8.toInt32).toInt = x.toInt := by
  have e : (x.toInt8.toInt32).toInt = x.toInt8.toInt := Int8.toInt_toInt32 _
  rw [e, Int32.toInt_toInt8, Int.bmod_def]
  omega
def zt_i2b2 (hs : List (List Nat)) (A : zk_A) : Option zk_A := match A.2.1, hs.getD 0 [] with
  | (0, _, e) :: r, _ :: _ => cond (zl_en A.2.2.2.1 A.2.2.2.2 (hs.getD 1 []) (zl_add e (zl_con 128)) && zl_en A.2.2.2.1 A.2.2.2.2 (hs.getD 2 []) (zl_sub (zl_con 127) e)) (some (A.1, (0, 0, e) :: r, A.2.2.1, A.2.2.2.1, A.2.2.2.2)) none
  | _, _ => zt_1b (fun _ _ => ((-128), 127)) A
theorem zt_i2b2_ok {I : zz_W → Prop} {A A' : zk_A} {n : Nat} {hs : List (List Nat)} (h : zt_i2b2 hs A = some A') : zk_S I (za_i2b n) n A A' := by
  unfold zt_i2b2 at h
  split at h
  · rename_i d0 e r k _ hT _
    obtain ⟨hb, h⟩ := zz_cond h
    obtain ⟨b1, b2⟩ := zz_and hb
    cases h
    obtain ⟨L, T, F, B, C⟩ := A
    have hT : T = (0, d0, e) :: r := hT
    subst hT
    refine ⟨Nat.le_refl _, fun K s f hG => ?_⟩
    obtain ⟨p, lv, st, w⟩ := f
    obtain ⟨g1, g2, g3, g4, g5, g6⟩ := hG
    obtain ⟨x, st2, q4, q5, q6⟩ := zk_st_int g2 rfl
    have q4 : st = .int x :: st2 := q4
    subst q4
    have c1 := zl_en_ok g4 g5 b1
    have c2 := zl_en_ok g4 g5 b2
    rw [zl_add_ev, zl_con_ev] at c1
    rw [zl_sub_ev, zl_con_ev] at c2
    have q5 : x.toInt = zl_ev s e := q5
    exact ⟨s, _, ze_i2b rfl, rfl, ⟨g1, ⟨zk_v_int (by rw [zk_b8x (by omega) (by omega)]; exact q5), q6⟩, g3, g4, g5, g6⟩, fun _ _ => rfl⟩
  · exact zt_i2b_ok h
/-- a char that is known -/
theorem zk_c16x {x : Int32} (h1 : 0 ≤ x.toInt) (h2 : x.toInt ≤ 65535) : ((x.toUInt32 % 65536).toInt32).toInt = x.toInt := by
  have e1 : zz_nI (x.toUInt32 % 65536).toInt32 = zz_nI x % 65536 := by
    show (x.toUInt32 % 65536).toNat = _
    rw [UInt32.toNat_mod]
    rfl
  have hn := zk_nI h1
  have e2 : zz_nI x % 65536 = zz_nI x := Nat.mod_eq_of_lt (by omega)
  rw [zk_nIx (by rw [e1, e2]; omega), e1, e2, hn]
theorem zk_nIn {x : Int32} (h : x.toInt < 0) : (zz_nI x : Int) = x.toInt + 4294967296 := by
  have h1 : x.toInt = x.toBitVec.toInt := rfl
  rw [h1] at h ⊢
  rw [BitVec.toInt_eq_toNat_cond] at h ⊢
  have h2 := x.toBitVec.isLt
  show ((x.toBitVec.toNat : Nat) : Int) = _
  split at h
  · omega
  · rw [if_neg (by assumption)]
    omega
theorem zk_c16n {x : Int32} (h1 : -65536 ≤ x.toInt) (h2 : x.toInt < 0) : ((x.toUInt32 % 65536).toInt32).toInt = x.toInt + 65536 := by
  have e1 : zz_nI (x.toUInt32 % 65536).toInt32 = zz_nI x % 65536 := by
    show (x.toUInt32 % 65536).toNat = _
    rw [UInt32.toNat_mod]
    rfl
  have hn := zk_nIn h2
  rw [zk_nIx (by rw [e1]; omega), e1]
  omega
def zt_i2c2 (hs : List (List Nat)) (A : zk_A) : Option zk_A := match A.2.1, hs.getD 0 [] with
  | (0, _, e) :: r, _ :: _ :: _ => cond (zl_en A.2.2.2.1 A.2.2.2.2 (hs.getD 1 []) (zl_add e (zl_con 65536)) && zl_en A.2.2.2.1 A.2.2.2.2 (hs.getD 2 []) (zl_sub (zl_con (-1)) e)) (some (A.1, (0, 0, zl_add e (zl_con 65536)) :: r, A.2.2.1, A.2.2.2.1, A.2.2.2.2)) none
  | (0, _, e) :: r, _ :: [] => cond (zl_en A.2.2.2.1 A.2.2.2.2 (hs.getD 1 []) e && zl_en A.2.2.2.1 A.2.2.2.2 (hs.getD 2 []) (zl_sub (zl_con 65535) e)) (some (A.1, (0, 0, e) :: r, A.2.2.1, A.2.2.2.1, A.2.2.2.2)) none
  | _, _ => zt_1b (fun _ _ => (0, 65535)) A
theorem zt_i2c2_ok {I : zz_W → Prop} {A A' : zk_A} {n : Nat} {hs : List (List Nat)} (h : zt_i2c2 hs A = some A') : zk_S I (za_i2c n) n A A' := by
  unfold zt_i2c2 at h
  split at h
  · rename_i d0 e r k _ _ hT _
    obtain ⟨hb, h⟩ := zz_cond h
    obtain ⟨b1, b2⟩ := zz_and hb
    cases h
    obtain ⟨L, T, F, B, C⟩ := A
    have hT : T = (0, d0, e) :: r := hT
    subst hT
    refine ⟨Nat.le_refl _, fun K s f hG => ?_⟩
    obtain ⟨p, lv, st, w⟩ := f
    obtain ⟨g1, g2, g3, g4, g5, g6⟩ := hG
    obtain ⟨x, st2, q4, q5, q6⟩ := zk_st_int g2 rfl
    have q4 : st = .int x :: st2 := q4
    subst q4
    have c1 := zl_en_ok g4 g5 b1
    have c2 := zl_en_ok g4 g5 b2
    rw [zl_add_ev, zl_con_ev] at c1
    rw [zl_sub_ev, zl_con_ev] at c2
    have q5 : x.toInt = zl_ev s e := q5
    exact ⟨s, _, ze_i2c rfl, rfl, ⟨g1, ⟨zk_v_int (by rw [zk_c16n (by omega) (by omega), zl_add_ev, zl_con_ev, q5]), q6⟩, g3, g4, g5, g6⟩, fun _ _ => rfl⟩
  · rename_i d0 e r k hT _
    obtain ⟨hb, h⟩ := zz_cond h
    obtain ⟨b1, b2⟩ := zz_and hb
    cases h
    obtain ⟨L, T, F, B, C⟩ := A
    have hT : T = (0, d0, e) :: r := hT
    subst hT
    refine ⟨Nat.le_refl _, fun K s f hG => ?_⟩
    obtain ⟨p, lv, st, w⟩ := f
    obtain ⟨g1, g2, g3, g4, g5, g6⟩ := hG
    obtain ⟨x, st2, q4, q5, q6⟩ := zk_st_int g2 rfl
    have q4 : st = .int x :: st2 := q4
    subst q4
    have c1 := zl_en_ok g4 g5 b1
    have c2 := zl_en_ok g4 g5 b2
    rw [zl_sub_ev, zl_con_ev] at c2
    have q5 : x.toInt = zl_ev s e := q5
    exact ⟨s, _, ze_i2c rfl, rfl, ⟨g1, ⟨zk_v_int (by rw [zk_c16x (by omega) (by omega)]; exact q5), q6⟩, g3, g4, g5, g6⟩, fun _ _ => rfl⟩
  · exact zt_i2c_ok h
/-- or, the low bits apart, the other way round -/
def zt_ior4 (hs : List (List Nat)) (A : zk_A) : Option zk_A := match A.2.1, hs.getD 1 [] with
  | (0, _, e2) :: (0, _, e1) :: r, k :: _ :: _ => cond ((Nat.ble k 31 && (zl_md (2 ^ k) e2 && Nat.beq (Int.emod (zl_nv e2.1) ((2 ^ k : Nat) : Int)).toNat 0)) && (zl_en A.2.2.2.1 A.2.2.2.2 (hs.getD 2 []) e2 && (zl_en A.2.2.2.1 A.2.2.2.2 (hs.getD 3 []) e1 && zl_en A.2.2.2.1 A.2.2.2.2 (hs.getD 4 []) (zl_sub (zl_con (((2 ^ k : Nat) : Int) - 1)) e1)))) (some (A.1, (0, 0, zl_add e1 e2) :: r, A.2.2.1, A.2.2.2.1, A.2.2.2.2)) none
  | _, _ => zt_ior3 hs A
theorem zt_ior4_ok {I : zz_W → Prop} {A A' : zk_A} {n : Nat} {hs : List (List Nat)} (h : zt_ior4 hs A = some A') : zk_S I (za_ior n) n A A' := by
  unfold zt_ior4 at h
  split at h
  · rename_i k2 e2 k1 e1 r k _ _ hT _
    obtain ⟨hb, h⟩ := zz_cond h
    obtain ⟨hb1, hb2⟩ := zz_and hb
    obtain ⟨b1, hb1⟩ := zz_and hb1
    obtain ⟨b2, b3⟩ := zz_and hb1
    obtain ⟨b4, hb2⟩ := zz_and hb2
    obtain ⟨b5, b6⟩ := zz_and hb2
    cases h
    refine zk_2g hT (Nat.le_refl _) (fun x y => x ||| y) (fun K p lv x y st w => ze_ior rfl) (fun s lv st w x y h1 h2 h3 h4 h5 h6 hx hy => ?_)
    have c1 := zl_en_ok h4 h5 b4
    have c2 := zl_en_ok h4 h5 b5
    have c3 := zl_en_ok h4 h5 b6
    rw [zl_sub_ev, zl_con_ev] at c3
    have hn := zk_nI (x := y) (by omega)
    have hm := zl_md_ok (j := zz_nI y) (s := s) b2 (by omega)
    rw [zz_beq b3] at hm
    refine ⟨s, ⟨h1, ⟨zk_v_int ?_, h2⟩, h3, h4, h5, h6⟩, fun _ _ => rfl⟩
    show (x ||| y).toInt = zl_ev s (zl_add e1 e2)
    rw [Int32.or_comm, zk_or_x (zz_ble b1) (by omega) hm.symm (by omega) (by omega), zl_add_ev, hx, hy]
    omega
  · exact zt_ior3_ok h
/-- a byte is set, whose value is known from here on -/
def zt_astB2 (HT : List (List zk_H)) (M : zk_M) (h1 h2 h3 h4 h5 h6 : List Nat) (t : Nat) (A : zk_A) : Option zk_A := match A.2.1 with
  | (0, _, ev) :: _ => cond (zl_en A.2.2.2.1 A.2.2.2.2 h5 (zl_add ev (zl_con 128)) && zl_en A.2.2.2.1 A.2.2.2.2 h6 (zl_sub (zl_con 127) ev)) (zt_astI HT M h1 h2 h3 h4 t A) none
  | _ => none
theorem zt_astB2_ok {c : Nat} {HT : List (List zk_H)} {M : zk_M} {w0 : zk_W0} {A A' : zk_A} {h1 h2 h3 h4 h5 h6 : List Nat} {t n : Nat} (h : zt_astB2 HT M h1 h2 h3 h4 h5 h6 t A = some A') : zk_SW c HT M w0 (za_astB t n) n A A' (fun s w w' => zk_rR (zk_tg2 A) (zl_ev s (zk_ix2 A)) w w' ∧ 0 ≤ zl_ev s (zk_ix2 A) ∧ (true = true → zk_el w' (zk_tg2 A) (zl_ev s (zk_ix2 A)) = zl_ev s (zk_vl A))) := by
  unfold zt_astB2 at h
  split at h
  · rename_i d0 ev r hT
    obtain ⟨hb, h⟩ := zz_cond h
    obtain ⟨b1, b2⟩ := zz_and hb
    have h0 := zt_astI_ok (c := c) (w0 := w0) (n := n) h
    refine ⟨h0.1, fun K s f hpv hG => ?_⟩
    obtain ⟨f', e1, e2, e3, e4⟩ := h0.2 K s f hpv hG
    refine ⟨f', ?_, e2, e3, e4⟩
    rw [← e1]
    obtain ⟨p, lv, st, w⟩ := f
    obtain ⟨g1, g2, g3, g4, g5, g6⟩ := hG
    rw [hT] at g2
    obtain ⟨x, st2, q4, q5, q6⟩ := zk_st_int g2 rfl
    have q4 : st = .int x :: st2 := q4
    subst q4
    have c1 := zl_en_ok g4 g5 b1
    have c2 := zl_en_ok g4 g5 b2
    rw [zl_add_ev, zl_con_ev] at c1
    rw [zl_sub_ev, zl_con_ev] at c2
    have q5 : x.toInt = zl_ev s ev := q5
    have hx : x.toInt8.toInt32 = x := Int32.toInt_inj.mp (zk_b8x (by omega) (by omega))
    unfold za_astB za_astI
    cases st2 with
    | nil => rfl
    | cons u st3 =>
      cases u with
      | int j =>
        cases st3 with
        | nil => rfl
        | cons u2 st4 =>
          cases u2 with
          | ref i =>
            show zz_pr w i 0 t 32 (zz_nI j) (zz_nI x.toInt8.toInt32) _ = zz_pr w i 0 t 32 (zz_nI j) (zz_nI x) _
            rw [hx]
          | _ => rfl
      | _ => rfl
  · cases h
/-- a copy of a row's elements into a row -/
theorem zk_J_cp {c : Nat} {HT : List (List zk_H)} {M : zk_M} {w0 : zk_W0} {w : zz_W} {t a b la lb i j k : Nat} {loa hia lob hib : Int} (hJ : zk_J c HT M w0 w) (ha : zk_rs HT 0 t a = some (la, loa, hia)) (hb : zk_rs HT 0 t b = some (lb, lob, hib)) (hi : i + k ≤ la) (hj : j + k ≤ lb) (h1 : lob ≤ loa) (h2 : hia ≤ hib) (hq : (zk_h HT b).2.2.2.2.2 = [] ∨ a = b ∧ i % (zk_h HT b).2.2.2.2.2.length = j % (zk_h HT b).2.2.2.2.2.length) (hM : (b, 999) ∈ M.1) :
    ∃ w' : zz_W, (∀ (β : Type) (kk : zz_W → Option β), zz_st w b (0, t, (zz_g w b).2.2.1, zz_cp 32 (zz_g w a).2.2.2 (zz_g w b).2.2.2 i j k) none kk = kk w') ∧ zk_J c HT M w0 w' ∧ (∀ a' m, (zk_h HT a').1 = 3 → zk_fd w' (a', m) = zk_fd w (a', m)) ∧ (∀ a', a' ≠ b → zz_g w' a' = zz_g w a') := by
  obtain ⟨o1, o2, o3, o4, o5, o6⟩ := zk_rs_ok hb (by decide) hJ.1
  obtain ⟨p1, p2, p3, p4, p5, p6⟩ := zk_rs_ok ha (by decide) hJ.1
  obtain ⟨⟨s1, s2, s3, s4⟩, hsm, hw1, hw2, hk⟩ := hJ
  have hi' : b < 16 * c := by omega
  have hg := zk_up_g (x := (0, t, (zz_g w b).2.2.1, zz_cp 32 (zz_g w a).2.2.2 (zz_g w b).2.2.2 i j k)) s1 hi'
  have h0 : (zz_g w b).1 = 0 := by rw [o4]
  refine ⟨zz_up w b (0, t, (zz_g w b).2.2.1, zz_cp 32 (zz_g w a).2.2.2 (zz_g w b).2.2.2 i j k), fun β kk => zk_up_st s1 hi', ⟨?_, ⟨fun a' m h8 hn hl h3 => ?_, fun a' hn hl h3 => ?_⟩, hw1, hw2, fun a' ha' => ?_⟩, fun a' m h3 => ?_, fun a' ha' => by rw [hg, if_neg ha']⟩
  · refine zk_I_up ⟨s1, s2, s3, s4⟩ o1 (fun hn => ?_)
    obtain ⟨-, g1, g2, g3, g4, g5, g6, -⟩ := s4 b hn
    refine ⟨o2.symm, ?_, g3, fun _ m hm => ?_, fun h => absurd (o2.symm.trans h) (by decide), fun h => absurd (o2.symm.trans h) (by decide), fun h => absurd (o2.symm.trans h) (by decide)⟩
    · rw [o4] at g2
      exact g2
    · show (_ ≤ (Int32.ofNat (zz_at 32 (zz_cp 32 (zz_g w a).2.2.2 (zz_g w b).2.2.2 i j k) m)).toInt ∧ (Int32.ofNat (zz_at 32 (zz_cp 32 (zz_g w a).2.2.2 (zz_g w b).2.2.2 i j k) m)).toInt ≤ _) ∧ ∀ q : Nat × Nat × Int × Int, _ → q.2.2.1 ≤ (Int32.ofNat (zz_at 32 (zz_cp 32 (zz_g w a).2.2.2 (zz_g w b).2.2.2 i j k) m)).toInt ∧ (Int32.ofNat (zz_at 32 (zz_cp 32 (zz_g w a).2.2.2 (zz_g w b).2.2.2 i j k) m)).toInt ≤ q.2.2.2
      rw [zz_at_cp]
      by_cases e : j ≤ m ∧ m < j + k
      · rw [if_pos e]
        have p5 := p5 rfl (i + (m - j)) (by omega)
        unfold zk_rs at hb
        obtain ⟨-, hb⟩ := zz_cond hb
        have hb : ((zk_h HT b).2.2.1, (zk_h HT b).2.2.2.1, (zk_h HT b).2.2.2.2.1) = (lb, lob, hib) := Option.some.inj hb
        have e5 : (zk_h HT b).2.2.2.1 = lob := congrArg (fun q => q.2.1) hb
        have e6 : (zk_h HT b).2.2.2.2.1 = hib := congrArg (fun q => q.2.2) hb
        rw [e5, e6]
        refine ⟨⟨by have := p5.1.1; omega, by have := p5.1.2; omega⟩, fun q hqq => ?_⟩
        rcases hq with hq | ⟨hq1, hq2⟩
        · rw [hq] at hqq
          cases hqq
        · subst hq1
          refine p5.2 q ?_
          rw [← hqq, Nat.add_mod, hq2, ← Nat.add_mod, show j + (m - j) = m by omega]
      · rw [if_neg e]
        exact g4 o2 m hm
  · unfold zk_fd
    rw [hg]
    by_cases e : a' = b
    · exfalso
      subst e
      have := zk_k3_1 (hk a' hl)
      omega
    · rw [if_neg e]
      exact hsm.1 a' m h8 hn hl h3
  · by_cases e : a' = b
    · subst e
      exact absurd hM hn
    · refine ⟨fun h8 => ?_, fun m hm hv => ?_⟩
      · rw [hg, if_neg e]
        exact (hsm.2 a' hn hl h3).1 h8
      · unfold zk_el
        rw [hg, if_neg e]
        exact (hsm.2 a' hn hl h3).2 m hm hv
  · rw [hg]
    by_cases e : a' = b
    · subst e
      rw [if_pos rfl]
      rw [← hk a' ha']
      exact zk_k3_of h0 (by rw [o4]) rfl
    · rw [if_neg e]
      exact hk a' ha'
  · unfold zk_fd
    rw [hg]
    by_cases e : a' = b
    · subst e
      omega
    · rw [if_neg e]
/-- where a copy goes -/
def zk_tgc (A : zk_A) : Nat := match A.2.1 with
  | _ :: _ :: (2, b, _) :: _ => b
  | _ => 0
/-- hints: 0 <= i, 0 <= j, 0 <= k, i + k and j + k within the rows -/
def zt_cpy (HT : List (List zk_H)) (M : zk_M) (hs : List (List Nat)) (t : Nat) (A : zk_A) : Option zk_A := match A.2.1 with
  | (0, _, k) :: (0, _, j) :: (2, b, _) :: (0, _, i) :: (2, a, _) :: T => match zk_rs HT 0 t a, zk_rs HT 0 t b with
    | some (la, loa, hia), some (lb, lob, hib) => cond ((zl_en A.2.2.2.1 A.2.2.2.2 (hs.getD 0 []) i && (zl_en A.2.2.2.1 A.2.2.2.2 (hs.getD 1 []) j && (zl_en A.2.2.2.1 A.2.2.2.2 (hs.getD 2 []) k && (zl_en A.2.2.2.1 A.2.2.2.2 (hs.getD 3 []) (zl_sub (zl_con (la : Int)) (zl_add i k)) && zl_en A.2.2.2.1 A.2.2.2.2 (hs.getD 4 []) (zl_sub (zl_con (lb : Int)) (zl_add j k)))))) && ((decide (lob ≤ loa) && (decide (hia ≤ hib) && (zk_inM M.1 b 999 && A.2.2.1.all (fun q => Nat.beq (zk_h HT q.1.1).1 3)))) && ((Nat.beq (zk_h HT b).2.2.2.2.2.length 0 || (Nat.beq a b && ((zl_md (zk_h HT b).2.2.2.2.2.length i && zl_md (zk_h HT b).2.2.2.2.2.length j) && Nat.beq (Int.emod (zl_nv i.1) ((zk_h HT b).2.2.2.2.2.length : Int)).toNat (Int.emod (zl_nv j.1) ((zk_h HT b).2.2.2.2.2.length : Int)).toNat))) && ((Nat.blt la 2147483648 && Nat.blt lb 2147483648) && (Nat.ble (zk_cz T) 8 && zk_t3 T))))) (some (A.1, T, A.2.2.1, A.2.2.2.1, A.2.2.2.2)) none
    | _, _ => none
  | _ => none
theorem zk_ik {w : zz_W} {t a la i k : Nat} (h1 : a < w.1) (h2 : w.1 ≤ 1000000) (h3 : zz_g w a = (0, t, la, (zz_g w a).2.2.2)) (h4 : i + k ≤ la) (h5 : la < 2147483648) : zz_ik w a t i k = true := by
  unfold zz_ik
  rw [h3]
  have a1 : Nat.blt a w.1 = true := Nat.ble_eq.mpr h1
  have a2 : Nat.blt a 1000000 = true := Nat.ble_eq.mpr (by omega)
  have a3 : Nat.ble (i + k) la = true := Nat.ble_eq.mpr h4
  have a4 : Nat.blt la 2147483648 = true := Nat.ble_eq.mpr h5
  show (Nat.blt a w.1 && (Nat.blt a 1000000 && (Nat.beq 0 0 && (Nat.beq t t && (Nat.ble (i + k) la && Nat.blt la 2147483648))))) = true
  rw [a1, a2, a3, a4, Nat.beq_refl t]
  rfl
theorem zt_cpy_gen {c : Nat} {HT : List (List zk_H)} {M : zk_M} {w0 : zk_W0} {A A' : zk_A} {hs : List (List Nat)} {t n : Nat} {act : zz_A} (ha : ∀ (K : zz_K) (p : Nat) (lv : List (Nat × Value)) (k j i : Int32) (b a : Nat) (r : List Value) (w : zz_W) (la : Nat) (loa hia : Int), zk_I c HT w → zk_rs HT 0 t a = some (la, loa, hia) → zz_nI i + zz_nI k ≤ la → zz_ik w a t (zz_nI i) (zz_nI k) = true → zz_ik w b t (zz_nI j) (zz_nI k) = true → zz_cs r ≤ 8 → act K (p, lv, .int k :: .int j :: .ref b :: .int i :: .ref a :: r, w) = zz_fN (zz_cp 32 (zz_g w a).2.2.2 (zz_g w b).2.2.2 (zz_nI i) (zz_nI j) (zz_nI k)) (fun N => zz_st w b (0, t, (zz_g w b).2.2.1, N) none (fun w' => some (n, lv, r, w'))))
    (h : zt_cpy HT M hs t A = some A') : zk_SW c HT M w0 act n A A' (fun _ w w' => ∀ a, a ≠ zk_tgc A → zz_g w' a = zz_g w a) := by
  obtain ⟨L, T0, F, B, C⟩ := A
  unfold zt_cpy at h
  split at h
  · rename_i d0 k d1 j b e0 d2 i a e1 T hT
    have hT : T0 = (0, d0, k) :: (0, d1, j) :: (2, b, e0) :: (0, d2, i) :: (2, a, e1) :: T := hT
    subst hT
    split at h
    · rename_i la loa hia lb lob hib hra hrb
      obtain ⟨hb, h⟩ := zz_cond h
      obtain ⟨hb1, hb⟩ := zz_and hb
      obtain ⟨b1, hb1⟩ := zz_and hb1
      obtain ⟨b2, hb1⟩ := zz_and hb1
      obtain ⟨b3, hb1⟩ := zz_and hb1
      obtain ⟨b4, b5⟩ := zz_and hb1
      obtain ⟨hb2, hb⟩ := zz_and hb
      obtain ⟨b6, hb2⟩ := zz_and hb2
      obtain ⟨b7, hb2⟩ := zz_and hb2
      obtain ⟨b8, b9⟩ := zz_and hb2
      obtain ⟨b10, hb⟩ := zz_and hb
      obtain ⟨hb3, hb4⟩ := zz_and hb
      obtain ⟨b11, b12⟩ := zz_and hb3
      obtain ⟨b13, b14⟩ := zz_and hb4
      cases h
      refine ⟨rfl, fun K s f hpv hG => ?_⟩
      obtain ⟨p, lv, st, w⟩ := f
      obtain ⟨g1, g2, g3, g4, g5, g6⟩ := hG
      obtain ⟨xk, st0, r1, r2, r3⟩ := zk_st_int g2 rfl
      obtain ⟨xj, st1, r4, r5, r6⟩ := zk_st_int r3 rfl
      obtain ⟨v, st2, r7, r8, r9⟩ := zk_st_cons r6
      have e3 : v = .ref b := r8.2.2.1 rfl
      subst e3
      obtain ⟨xi, st3, r10, r11, r12⟩ := zk_st_int r9 rfl
      obtain ⟨v2, st4, r13, r14, r15⟩ := zk_st_cons r12
      have e4 : v2 = .ref a := r14.2.2.1 rfl
      subst e4
      have hst : st = .int xk :: .int xj :: .ref b :: .int xi :: .ref a :: st4 := by rw [← r13, ← r10, ← r7, ← r4]; exact r1
      subst hst
      have r2 : xk.toInt = zl_ev s k := r2
      have r5 : xj.toInt = zl_ev s j := r5
      have r11 : xi.toInt = zl_ev s i := r11
      have c1 := zl_en_ok g4 g5 b1
      have c2 := zl_en_ok g4 g5 b2
      have c3 := zl_en_ok g4 g5 b3
      have c4 := zl_en_ok g4 g5 b4
      have c5 := zl_en_ok g4 g5 b5
      rw [zl_sub_ev, zl_add_ev, zl_con_ev] at c4 c5
      have ni := zk_nI (x := xi) (by omega)
      have nj := zk_nI (x := xj) (by omega)
      have nk := zk_nI (x := xk) (by omega)
      have hik : zz_nI xi + zz_nI xk ≤ la := by omega
      have hjk : zz_nI xj + zz_nI xk ≤ lb := by omega
      have b6 := of_decide_eq_true b6
      have b7 := of_decide_eq_true b7
      have hq : (zk_h HT b).2.2.2.2.2 = [] ∨ a = b ∧ zz_nI xi % (zk_h HT b).2.2.2.2.2.length = zz_nI xj % (zk_h HT b).2.2.2.2.2.length := by
        rcases Bool.or_eq_true_iff.mp b10 with h1 | h1
        · exact Or.inl (List.length_eq_zero_iff.mp (zz_beq h1))
        · obtain ⟨h1, h2⟩ := zz_and h1
          obtain ⟨h2, h3⟩ := zz_and h2
          obtain ⟨h4, h5⟩ := zz_and h2
          have k1 := zl_md_ok (j := zz_nI xi) (s := s) h4 (by omega)
          have k2 := zl_md_ok (j := zz_nI xj) (s := s) h5 (by omega)
          exact Or.inr ⟨zz_beq h1, by rw [← k1, ← k2]; exact zz_beq h3⟩
      obtain ⟨w', u1, u2, u3, u4⟩ := zk_J_cp (i := zz_nI xi) (j := zz_nI xj) (k := zz_nI xk) g6 hra hrb hik hjk b6 b7 hq (zk_inM_ok b8)
      obtain ⟨o1, -, -, o4, -, -⟩ := zk_rs_ok hra (by decide) g6.1
      obtain ⟨p1, -, -, p4, -, -⟩ := zk_rs_ok hrb (by decide) g6.1
      refine ⟨(n, lv, st4, w'), ?_, rfl, ⟨g1, r15, fun q hq => ?_, g4, g5, u2⟩, u4⟩
      · rw [ha K p lv xk xj xi b a st4 w la loa hia g6.1 hra hik (zk_ik o1 g6.1.2.2.1 o4 hik (zz_blt b11)) (zk_ik p1 g6.1.2.2.1 p4 hjk (zz_blt b12)) (by rw [zk_cz_ok b14 r15]; exact zz_ble b13), zz_fN_eq]
        exact u1 _ _
      · have := g3 q hq
        rw [show zk_fd w' q.1 = zk_fd w q.1 from u3 q.1.1 q.1.2 (zz_beq (List.all_eq_true.mp b9 q hq))]
        exact this
    · cases h
  · cases h
theorem zt_copyI_ok {c : Nat} {HT : List (List zk_H)} {M : zk_M} {w0 : zk_W0} {A A' : zk_A} {hs : List (List Nat)} {t n : Nat} (h : zt_cpy HT M hs t A = some A') : zk_SW c HT M w0 (za_copyI t n) n A A' (fun _ w w' => ∀ a, a ≠ zk_tgc A → zz_g w' a = zz_g w a) :=
  zt_cpy_gen (fun K p lv k j i b a r w la loa hia _ _ _ h1 h2 h3 => by
    show cond (zz_ik w a t (zz_nI i) (zz_nI k) && (zz_ik w b t (zz_nI j) (zz_nI k) && Nat.ble (zz_cs r) 8)) _ none = _
    rw [h1, h2, show Nat.ble (zz_cs r) 8 = true from Nat.ble_eq.mpr h3]
    rfl) h
theorem zk_by7 {v : Nat} (hv : v < 2 ^ 32) (h1 : -128 ≤ (Int32.ofNat v).toInt) (h2 : (Int32.ofNat v).toInt ≤ 127) : v < 128 ∨ 4294967168 ≤ v := by
  have h3 : (Int32.ofNat v).toInt = (BitVec.ofNat 32 v).toInt := rfl
  rw [h3, BitVec.toInt_eq_toNat_cond, BitVec.toNat_ofNat, Nat.mod_eq_of_lt hv] at h1 h2
  split at h1
  · rename_i hc
    rw [if_pos hc] at h2
    omega
  · rename_i hc
    rw [if_neg hc] at h2
    omega
/-- all elements of the row are bytes -/
def zk_byt (HT : List (List zk_H)) (A : zk_A) : Bool := match A.2.1 with
  | _ :: _ :: _ :: _ :: (2, a, _) :: _ => decide (-128 ≤ (zk_h HT a).2.2.2.1) && decide ((zk_h HT a).2.2.2.2.1 ≤ 127)
  | _ => false
def zt_cpyB (HT : List (List zk_H)) (M : zk_M) (hs : List (List Nat)) (t : Nat) (A : zk_A) : Option zk_A := cond (Nat.beq t 1) (zt_cpy HT M hs t A) none
/-- a row of bytes holds bytes -/
def zk_bt (HT : List (List zk_H)) : Bool := HT.all (fun l => l.all (fun h => !(Nat.beq h.1 0 && Nat.beq h.2.1 1) || (decide (-128 ≤ h.2.2.2.1) && decide (h.2.2.2.2.1 ≤ 127))))
theorem zk_bt_ok {HT : List (List zk_H)} (hbt : zk_bt HT = true) {i : Nat} (h0 : (zk_h HT i).1 = 0) (h1 : (zk_h HT i).2.1 = 1) : -128 ≤ (zk_h HT i).2.2.2.1 ∧ (zk_h HT i).2.2.2.2.1 ≤ 127 := by
  unfold zk_h at h0 h1 ⊢
  cases hl : HT[i / 16]? with
  | none =>
    have e : HT.getD (i / 16) [] = [] := by
      rw [List.getD_eq_getElem?_getD, hl]
      rfl
    rw [e] at h0
    exact absurd h0 (by show ¬ (zk_h0).1 = 0; decide)
  | some l =>
    have e : HT.getD (i / 16) [] = l := by
      rw [List.getD_eq_getElem?_getD, hl]
      rfl
    rw [e] at h0 h1 ⊢
    cases hx : l[i % 16]? with
    | none =>
      have e2 : l.getD (i % 16) zk_h0 = zk_h0 := by
        rw [List.getD_eq_getElem?_getD, hx]
        rfl
      rw [e2] at h0
      exact absurd h0 (by show ¬ (zk_h0).1 = 0; decide)
    | some x =>
      have e2 : l.getD (i % 16) zk_h0 = x := by
        rw [List.getD_eq_getElem?_getD, hx]
        rfl
      rw [e2] at h0 h1 ⊢
      have h2 := List.all_eq_true.mp (List.all_eq_true.mp hbt l (List.mem_of_getElem? hl)) x (List.mem_of_getElem? hx)
      rw [h0, h1] at h2
      obtain ⟨h3, h4⟩ := zz_and (show (decide (-128 ≤ x.2.2.2.1) && decide (x.2.2.2.2.1 ≤ 127)) = true from h2)
      exact ⟨of_decide_eq_true h3, of_decide_eq_true h4⟩
theorem zt_copyB_ok {c : Nat} {HT : List (List zk_H)} {M : zk_M} {w0 : zk_W0} {A A' : zk_A} {hs : List (List Nat)} {t n : Nat} (h : cond (zk_bt HT) (zt_cpyB HT M hs t A) none = some A') : zk_SW c HT M w0 (za_copyB t n) n A A' (fun _ w w' => ∀ a, a ≠ zk_tgc A → zz_g w' a = zz_g w a) := by
  obtain ⟨hbt, h⟩ := zz_cond h
  unfold zt_cpyB at h
  obtain ⟨ht, h⟩ := zz_cond h
  have ht := zz_beq ht
  subst ht
  refine zt_cpy_gen (fun K p lv k j i b a r w la loa hia hI hr hik h1 h2 h3 => ?_) h
  obtain ⟨-, o2, o3, o4, o5, -⟩ := zk_rs_ok hr (by decide) hI
  have hrr := hr
  unfold zk_rs at hrr
  obtain ⟨hb, hrr⟩ := zz_cond hrr
  obtain ⟨-, hb⟩ := zz_and hb
  obtain ⟨hb, -⟩ := zz_and hb
  have hrr : ((zk_h HT a).2.2.1, (zk_h HT a).2.2.2.1, (zk_h HT a).2.2.2.2.1) = (la, loa, hia) := Option.some.inj hrr
  have e5 : (zk_h HT a).2.2.2.1 = loa := congrArg (fun q => q.2.1) hrr
  have e6 : (zk_h HT a).2.2.2.2.1 = hia := congrArg (fun q => q.2.2) hrr
  have hbd := zk_bt_ok hbt o2 (zz_beq hb)
  rw [e5, e6] at hbd
  have h7 : zz_a7 (zz_g w a).2.2.2 (zz_nI i) (zz_nI k) = true := zz_a7_of (fun q hq => by
    have := (o5 rfl (zz_nI i + q) (by omega)).1
    exact zk_by7 (zz_at_lt 32 _ _) (by omega) (by omega))
  show cond (zz_ik w a 1 (zz_nI i) (zz_nI k) && (zz_ik w b 1 (zz_nI j) (zz_nI k) && (Nat.ble (zz_cs r) 8 && zz_a7 (zz_g w a).2.2.2 (zz_nI i) (zz_nI k)))) _ none = _
  rw [h1, h2, h7, show Nat.ble (zz_cs r) 8 = true from Nat.ble_eq.mpr h3]
  rfl
theorem ze_callK {g : Nat → Bool} {y na b n p : Nat} {K : zz_K} {lv : List (Nat × Value)} {as st r rv : List Value} {w w' : zz_W} (hst : st = as.reverse ++ .ref b :: r) (hna : as.length = na) (hb : g b = true) (hr : zz_cs r ≤ 8) (hrv : rv.length ≤ 1) (hK : K y (.ref b :: as) w = some (rv, w')) : za_callK g y na n K (p, lv, st, w) = some (n, lv, rv ++ r, w') := by
  subst hst
  unfold za_callK
  show zz_tk na (as.reverse ++ .ref b :: r) [] _ = _
  rw [zz_tk_eq hna]
  show cond (g b && Nat.ble (zz_cs r) 8) (zz_cr n lv r (K y (.ref b :: (as ++ [])) w)) none = _
  rw [List.append_nil, hb, Nat.ble_eq.mpr hr, hK]
  exact zz_cr_eq hrv
end
