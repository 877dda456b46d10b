/-! NAMING, on: contracts -/
noncomputable section
def zk_rX (k : Nat) (X : zk_St) : zk_St := ((X.1.1, X.1.2.1.map (zk_rV k), X.1.2.2.1.map (zk_rF1 k), X.1.2.2.2.1, X.1.2.2.2.2), X.2.1.map (zk_rE1 k), X.2.2)
def zk_rM1 (k : Nat) (p : Nat × Nat) : Nat × Nat := (zz_sw k p.1, p.2)
def zk_rq (k : Nat) (q : zk_Ct) : zk_Ct := (zk_rX k q.1, q.2.1.map (zk_rX k), (q.2.2.1.1.map (zk_rM1 k), []), q.2.2.2)
def zk_okX (fk : Nat → Nat → Nat) (HU : List (List zk_H)) (k : Nat) (X : zk_St) : Bool := (Nat.beq X.1.1.length 0 && X.1.2.1.all zk_okV) && (X.1.2.2.1.all (zk_okF fk HU) && (X.2.1.all (fun x => zk_okr HU k x.1) && Nat.beq X.2.2.length 0))
def zk_okq (fk : Nat → Nat → Nat) (HU : List (List zk_H)) (k : Nat) (q : zk_Ct) : Bool := (zk_okX fk HU k q.1 && q.2.1.all (zk_okX fk HU k)) && (q.2.2.1.1.all (fun p => !(Nat.beq p.2 998)) && Nat.beq q.2.2.1.2.length 0)
theorem zk_okX_at {fk : Nat → Nat → Nat} {HU : List (List zk_H)} {k : Nat} {X : zk_St} (h : zk_okX fk HU k X = true) : X.1.1 = [] ∧ X.1.2.1.all zk_okV = true ∧ X.1.2.2.1.all (zk_okF fk HU) = true ∧ X.2.1.all (fun x => zk_okr HU k x.1) = true ∧ X.2.2 = [] := by
  obtain ⟨h1, h2⟩ := zz_and h
  obtain ⟨h3, h4⟩ := zz_and h1
  obtain ⟨h5, h6⟩ := zz_and h2
  obtain ⟨h7, h8⟩ := zz_and h6
  exact ⟨List.length_eq_zero_iff.mp (zz_beq h3), h4, h5, h7, List.length_eq_zero_iff.mp (zz_beq h8)⟩
/-- what has not changed -/
theorem zk_J_rw {fk : Nat → Nat → Nat} {HU : List (List zk_H)} {k : Nat} {M : List (Nat × Nat)} {w w1 : zz_W} {V V' : List (Nat × Int)} (hk : k ≤ 5) (hs : zk_sym fk k HU = true) (h1 : 160 ≤ w.1) (h2 : w.1 ≤ 1024) (hM : M.all (fun p => !(Nat.beq p.2 998)) = true) (h : zk_J 64 HU (M, []) (zz_rw fk k w, V) w1) : zk_J 64 HU (M.map (zk_rM1 k), []) (w, V') (zz_rw fk k w1) := by
  obtain ⟨a1, a2, a3, a4, a5⟩ := h
  have a3 : w.1 ≤ w1.1 := a3
  have a4 : w1.1 = w.1 ∧ w1.2.1 = w.2.1 := a4
  have hmem : ∀ {i j : Nat}, (i, j) ∉ M.map (zk_rM1 k) → (zz_sw k i, j) ∉ M := fun {i j} hn hm => hn (List.mem_map.mpr ⟨(zz_sw k i, j), hm, by show (zz_sw k (zz_sw k i), j) = (i, j); rw [zz_sw_sw]⟩)
  have hk3 : ∀ i, i < w.1 → zk_k3 (zz_g w1 (zz_sw k i)) = zk_k3 (zz_g w i) := fun i hi => by
    have h3 := zz_sw_lt hk h1 hi
    have h4 := a5 (zz_sw k i) h3
    rw [h4]
    show zk_k3 (zz_g (zz_rw fk k w) (zz_sw k i)) = _
    rw [zz_rw_g (by omega), zz_sw_sw, zz_rc_k3]
  refine ⟨zk_I_rw hk hs (by omega) a1, ⟨fun i j h8 hn hi h3 => ?_, fun i hn hi h3 => ?_⟩, a3, a4, fun i hi => ?_⟩
  · have hi : i < w.1 := hi
    have h3 : (zz_g w i).1 = 3 := h3
    have hi' := zz_sw_lt hk h1 hi
    have e := hk3 i hi
    have e1 := a2.1 (zz_sw k i) j h8 (hmem hn) hi' (by
      show (zz_g (zz_rw fk k w) (zz_sw k i)).1 = 3
      rw [zz_rw_g (by omega), zz_sw_sw, zk_k3_1 zz_rc_k3]
      exact h3)
    have e1 : zk_fd w1 (zz_sw k i, j) = zk_fd (zz_rw fk k w) (zz_sw k i, j) := e1
    rw [zk_fd_rw hk (by omega) (by rw [zk_k3_1 e]; exact h3), e1, zk_fd_rw hk (by omega) (by rw [zz_sw_sw]; exact h3), zz_sw_sw, zk_k3_2 e, zz_g3_g3 hk]
  · have hi : i < w.1 := hi
    have h3 : (zz_g w i).1 ≠ 3 := h3
    have hi' := zz_sw_lt hk h1 hi
    have e1 := (a2.2 (zz_sw k i) (hmem hn) hi' (by
      show (zz_g (zz_rw fk k w) (zz_sw k i)).1 ≠ 3
      rw [zz_rw_g (by omega), zz_sw_sw, zk_k3_1 zz_rc_k3]
      exact h3)).1 (fun hm => by
        have := List.all_eq_true.mp hM _ hm
        cases this)
    have e1 : zz_g w1 (zz_sw k i) = zz_g (zz_rw fk k w) (zz_sw k i) := e1
    have e2 : zz_g (zz_rw fk k w1) i = zz_g w i := by
      rw [zz_rw_g (by omega), e1, zz_rw_g (by omega), zz_sw_sw, zz_rc_rc hk]
    refine ⟨fun _ => e2, fun m _ _ => ?_⟩
    unfold zk_el
    rw [e2]
  · have hi : i < w.1 := hi
    show zk_k3 (zz_g (zz_rw fk k w1) i) = zk_k3 (zz_g w i)
    rw [zz_rw_g (by omega), zz_rc_k3]
    exact hk3 i hi
section ZNM
variable {l : Launch} {Ts : List Cond} {D : va_G} {cl : List vw_C} {fk : Nat → Nat → Nat} {cy : Nat → ClassId} {z0 : Nat} {sp : Nat → Nat} {tys : List (ClassId × FieldType)} {G : State → Prop}
variable {yn : Nat → MethodName} {cn : Nat → ByteArray} {ml : Nat → Nat} {rt : Nat → Option FieldType}
theorem zk_ren {HU : List (List zk_H)} {PT : Nat → zz_W → Prop} {k d y : Nat} {q : zk_Ct} (hk1 : 1 ≤ k) (hk : k ≤ 5) (h0 : sp 18446744073709551616 = 0) (hs : zk_sym fk k HU = true) (h9 : Nat.beq (zk_h HU 159).1 9 = false) (ho : zk_okq fk HU k q = true) (hq : zk_CA l Ts D cl fk cy z0 (zz_spk k sp) tys G yn cn ml rt 64 HU PT d y q) : zk_CA l Ts D cl fk cy z0 sp tys G yn cn ml rt 64 HU PT d y (zk_rq k q) := by
  intro as w s hd hG
  obtain ⟨o1, o2⟩ := zz_and ho
  obtain ⟨o1, o3⟩ := zz_and o1
  obtain ⟨o4, o5⟩ := zz_and o2
  obtain ⟨x1, x2, x3, x4, x5⟩ := zk_okX_at o1
  obtain ⟨⟨g1, g2, g3, g4, g5, g6⟩, ge, gk⟩ := hG
  have g2 : zk_st s (q.1.1.2.1.map (zk_rV k)) as := g2
  have g3 : zk_fl s (q.1.1.2.2.1.map (zk_rF1 k)) w := g3
  have ge : zk_eF s (q.1.2.1.map (zk_rE1 k)) w := ge
  have g6 : zk_I 64 HU w := g6
  have w1 : 160 ≤ w.1 := (g6.2.2.2 159 (fun h => by rw [h] at h9; cases h9)).1
  have w2 : w.1 ≤ 1024 := g6.2.1
  have hlc : zk_lc s q.1.1.1 [] := by
    rw [x1]
    intro p hp
    cases hp
  have htk : ∀ t ∈ q.1.2.2, PT t (zz_rw fk k w) := by
    rw [x5]
    intro t ht
    cases ht
  obtain ⟨rv, v, s', Q, hQ, hM, ⟨⟨p1, p2, p3, p4, p5, p6⟩, pe, pk⟩, hs'⟩ := hq (as.map (zz_rv k)) (zz_rw fk k w) s hd ⟨⟨hlc, zk_st_B hk x2 g2, zk_fl_B hk hs g6 x3 g3, g4, g5, zk_I_rw hk hs w1 g6⟩, zk_eF_B hk1 hk g6 x4 ge, htk⟩
  obtain ⟨y1, y2, y3, y4, y5⟩ := zk_okX_at (List.all_eq_true.mp o3 Q hQ)
  have v1 : 160 ≤ v.1 := Nat.le_trans w1 p6.2.2.1
  have v2 : v.1 ≤ 1024 := p6.1.2.1
  have p6 : zk_J 64 HU q.2.2.1 (zz_rw fk k w, q.2.2.1.2.map (fun p => (p.1, zl_ev s p.2))) v := p6
  have e5 : q.2.2.1.2 = [] := List.length_eq_zero_iff.mp (zz_beq o5)
  have p6 : zk_J 64 HU (q.2.2.1.1, []) (zz_rw fk k w, q.2.2.1.2.map (fun p => (p.1, zl_ev s p.2))) v := by
    have e6 : q.2.2.1 = (q.2.2.1.1, []) := by rw [← e5]
    rw [← e6]
    exact p6
  have hsv : zz_sv z0 (zz_spk k sp) (as.map (zz_rv k)) = zz_sv z0 sp as := zk_st_sv (T := q.1.1.2.1.map (zk_rV k)) hk (zz_nm_1 h0) (List.all_eq_true.mpr (fun a ha => by
    obtain ⟨b, b1, b2⟩ := List.mem_map.mp ha
    subst b2
    exact zk_okV_r hk (List.all_eq_true.mp x2 b b1))) g2
  have hsr : zz_sv z0 sp (rv.map (zz_rv k)) = zz_sv z0 (zz_spk k sp) rv := zk_st_sv (T := Q.1.2.1) hk (zz_nm_2 h0) y2 p2
  have hlc2 : zk_lc s' Q.1.1 [] := by
    rw [y1]
    intro p hp
    cases hp
  have htk2 : ∀ t ∈ Q.2.2, PT t (zz_rw fk k v) := by
    rw [y5]
    intro t ht
    cases ht
  refine ⟨rv.map (zz_rv k), zz_rw fk k v, s', zk_rX k Q, List.mem_map.mpr ⟨Q, hQ, rfl⟩, ?_, ⟨⟨hlc2, zk_st_A y2 p2, zk_fl_A hk hs p6.1 y3 p3, p4, p5, zk_J_rw hk hs w1 w2 o4 p6⟩, zk_eF_A hk1 hk p6.1 y4 pe, htk2⟩, hs'⟩
  obtain ⟨m1, m2, m3⟩ := hM
  refine ⟨m1, by rw [List.length_map]; exact m2, zz_Met_mono m3 (fun a t hp => ?_) (fun a t oc u hqc => ?_)⟩
  · obtain ⟨c1, c2, c3, c4⟩ := hp
    exact ⟨by rw [hsv]; exact c1, zz_I_rw hk (zz_nm_1 h0) w1 w2 c2, c3, c4⟩
  · obtain ⟨⟨c1, c2⟩, c3⟩ := hqc
    exact ⟨⟨by rw [hsr]; exact c1, zz_I_rw hk (zz_nm_2 h0) v1 v2 c2⟩, c3⟩
def zk_heq (h h' : zk_H) : Bool := (Nat.beq h.1 h'.1 && (Nat.beq h.2.1 h'.2.1 && Nat.beq h.2.2.1 h'.2.2.1)) && decide (h.2.2.2 = h'.2.2.2)
theorem zk_heq_ok {h h' : zk_H} (hb : zk_heq h h' = true) : h = h' := by
  obtain ⟨b1, b2⟩ := zz_and hb
  obtain ⟨b3, b4⟩ := zz_and b1
  obtain ⟨b4, b5⟩ := zz_and b4
  have b3 := zz_beq b3
  have b4 := zz_beq b4
  have b5 := zz_beq b5
  have b2 := of_decide_eq_true b2
  obtain ⟨x1, x2, x3, x4⟩ := h
  obtain ⟨y1, y2, y3, y4⟩ := h'
  have b3 : x1 = y1 := b3
  have b4 : x2 = y2 := b4
  have b5 : x3 = y3 := b5
  have b2 : x4 = y4 := b2
  rw [b3, b4, b5, b2]
/-- tables: HU says nothing of cell x, else what HT says -/
def zk_less (HU HT : List (List zk_H)) (x : Nat) : Bool := (Nat.ble HU.length 64 && Nat.ble HT.length 64) && (List.range 1024).all (fun i => Nat.beq (zk_h HU i).2.2.1 (zk_h HT i).2.2.1 && cond (Nat.beq i x) (Nat.beq (zk_h HU i).1 9 && !(Nat.beq (zk_h HT i).1 3)) (zk_heq (zk_h HU i) (zk_h HT i)))
theorem zk_less_len {HU HT : List (List zk_H)} {x : Nat} (h : zk_less HU HT x = true) (i : Nat) : (zk_h HU i).2.2.1 = (zk_h HT i).2.2.1 := by
  obtain ⟨h1, h2⟩ := zz_and h
  obtain ⟨h3, h4⟩ := zz_and h1
  by_cases hi : i < 1024
  · exact zz_beq (zz_and (List.all_eq_true.mp h2 i (List.mem_range.mpr hi))).1
  · rw [zk_h_out (zz_ble h3) (by omega), zk_h_out (zz_ble h4) (by omega)]
theorem zk_less_at {HU HT : List (List zk_H)} {x i : Nat} (h : zk_less HU HT x = true) : (i ≠ x ∧ zk_h HU i = zk_h HT i) ∨ (i = x ∧ (zk_h HU i).1 = 9 ∧ (zk_h HT i).1 ≠ 3) ∨ ((zk_h HU i).1 = 9 ∧ (zk_h HT i).1 = 9) := by
  obtain ⟨h1, h2⟩ := zz_and h
  obtain ⟨h3, h4⟩ := zz_and h1
  by_cases hi : i < 1024
  · have h5 := (zz_and (List.all_eq_true.mp h2 i (List.mem_range.mpr hi))).2
    cases hb : Nat.beq i x with
    | true =>
      rw [hb] at h5
      obtain ⟨h6, h7⟩ := zz_and (show (Nat.beq (zk_h HU i).1 9 && !(Nat.beq (zk_h HT i).1 3)) = true from h5)
      refine Or.inr (Or.inl ⟨zz_beq hb, zz_beq h6, fun e => ?_⟩)
      rw [e] at h7
      cases h7
    | false =>
      rw [hb] at h5
      refine Or.inl ⟨fun e => ?_, zk_heq_ok (show zk_heq (zk_h HU i) (zk_h HT i) = true from h5)⟩
      rw [e, Nat.beq_refl] at hb
      cases hb
  · refine Or.inr (Or.inr ⟨?_, ?_⟩)
    · rw [zk_h_out (zz_ble h3) (by omega)]
      rfl
    · rw [zk_h_out (zz_ble h4) (by omega)]
      rfl
theorem zk_I_less {HU HT : List (List zk_H)} {x : Nat} {w : zz_W} (h : zk_less HU HT x = true) (hI : zk_I 64 HT w) : zk_I 64 HU w := by
  refine ⟨hI.1, hI.2.1, hI.2.2.1, fun i h9 => ?_⟩
  rcases zk_less_at (i := i) h with ⟨-, e⟩ | ⟨-, e, -⟩ | ⟨e, -⟩
  · rw [e]
    exact hI.2.2.2 i (by rw [← e]; exact h9)
  · exact absurd e h9
  · exact absurd e h9
theorem zk_lift {HU HT : List (List zk_H)} {PT : Nat → zz_W → Prop} {x d y : Nat} {q : zk_Ct} (h : zk_less HU HT x = true) (hm : q.2.2.1.1.all (fun p => !(Nat.beq p.1 x)) = true) (hq : zk_CA l Ts D cl fk cy z0 sp tys G yn cn ml rt 64 HU PT d y q) : zk_CA l Ts D cl fk cy z0 sp tys G yn cn ml rt 64 HT PT d y q := by
  intro as w s hd hG
  obtain ⟨⟨g1, g2, g3, g4, g5, g6⟩, ge, gk⟩ := hG
  have g6 : zk_I 64 HT w := g6
  obtain ⟨rv, v, s', Q, hQ, hM, ⟨⟨p1, p2, p3, p4, p5, p6⟩, pe, pk⟩, hs'⟩ := hq as w s hd ⟨⟨g1, g2, g3, g4, g5, zk_I_less h g6⟩, ge, gk⟩
  have p6 : zk_J 64 HU q.2.2.1 (w, q.2.2.1.2.map (fun p => (p.1, zl_ev s p.2))) v := p6
  refine ⟨rv, v, s', Q, hQ, hM, ⟨⟨p1, p2, p3, p4, p5, ⟨⟨p6.1.1, p6.1.2.1, p6.1.2.2.1, fun i h9 => ?_⟩, p6.2⟩⟩, pe, pk⟩, hs'⟩
  rcases zk_less_at (i := i) h with ⟨-, e⟩ | ⟨e0, e1, e2⟩ | ⟨-, e⟩
  · rw [← e]
    exact p6.1.2.2.2 i (by rw [e]; exact h9)
  · have e3 : ∀ n : Nat, (i, n) ∉ q.2.2.1.1 := fun n hn => by
      have := List.all_eq_true.mp hm _ hn
      rw [show ((i, n) : Nat × Nat).1 = x from e0, Nat.beq_refl] at this
      cases this
    obtain ⟨j1, j2⟩ := g6.2.2.2 i h9
    have e4 := (p6.2.1.2 i (e3 999) j1 (by
      show (zz_g w i).1 ≠ 3
      have := j2.1
      omega)).1 (e3 998)
    have e4 : zz_g v i = zz_g w i := e4
    rw [e4]
    exact ⟨Nat.lt_of_lt_of_le j1 p6.2.2.1, j2⟩
  · exact absurd e h9
/-- the same of laws -/
theorem zk_TT_less {HU HT : List (List zk_H)} {PT : Nat → zz_W → Prop} {SU : Nat → List (Nat × Nat)} {TS : zk_TY} {x : Nat} (h : zk_less HU HT x = true) (hT : zk_TT 64 HU PT SU TS) : zk_TT 64 HT PT SU TS := by
  have hl := zk_less_len h
  have hI : ∀ w, zk_I 64 HT w → zk_I 64 HU w := fun w => zk_I_less h
  obtain ⟨t1, t2, t3, t4, t5, t6⟩ := hT
  refine ⟨fun t w w' i1 i2 => t1 t w w' (hI w i1) (hI w' i2), fun t p ht hp w => ?_, fun t p hp w => ?_, fun j y hy w w' jj i1 i2 => t4 j y hy w w' jj (hI w i1) (hI w' i2), fun j y hy w i1 hK ins hin hr => ?_, fun j y hy w w' jj ins i1 i2 => t6 j y hy w w' jj ins (hI w i1) (hI w' i2)⟩
  · have h1 := t2 t p ht hp w
    unfold zk_P at h1 ⊢
    simp only [hl] at h1
    exact h1
  · have h1 := t3 t p hp w
    unfold zk_P2 at h1 ⊢
    simp only [hl] at h1
    exact h1
  · exact t5 j y hy w (hI w i1) hK ins hin (fun q hq => by
      rw [hl]
      exact hr q hq)
theorem zk_liftC {HU HT : List (List zk_H)} {PT : Nat → zz_W → Prop} {x y : Nat} {q : zk_Ct} (h : zk_less HU HT x = true) (hm : q.2.2.1.1.all (fun p => !(Nat.beq p.1 x)) = true) (hq : zk_Con l Ts D cl fk cy z0 sp tys G yn cn ml rt 64 HU PT y q) : zk_Con l Ts D cl fk cy z0 sp tys G yn cn ml rt 64 HT PT y q := fun d => zk_lift h hm (hq d)
theorem zk_renC {HU : List (List zk_H)} {PT : Nat → zz_W → Prop} {k y : Nat} {q : zk_Ct} (hk1 : 1 ≤ k) (hk : k ≤ 5) (h0 : sp 18446744073709551616 = 0) (hs : zk_sym fk k HU = true) (h9 : Nat.beq (zk_h HU 159).1 9 = false) (ho : zk_okq fk HU k q = true) (hq : zk_Con l Ts D cl fk cy z0 (zz_spk k sp) tys G yn cn ml rt 64 HU PT y q) : zk_Con l Ts D cl fk cy z0 sp tys G yn cn ml rt 64 HU PT y (zk_rq k q) := fun d => zk_ren hk1 hk h0 hs h9 ho (hq d)
/-- what stood there before does not know of the naming -/
def zz_okG (L : zz_Lg) : Bool := L.1.all (fun q => Nat.blt q.2.2.2 18446744073709551616) && L.2.1.all (fun q => match q.2.2.2 with
  | .ref i => Nat.ble 1000000 i && Nat.blt i 18446744073709551616
  | _ => true)
theorem zz_GD_nm {S S2 : zz_Lr} {L : zz_Lg} {k : Nat} {U : State} (h1 : Nat.blt S.length 4294967296 = true) (h2 : Nat.blt S2.length 4294967296 = true) (hL : zz_okG L = true) (h : zz_GD S S2 L z0 sp U) : zz_GD S S2 L z0 (zz_spk k sp) U := by
  have h1 := zz_blt h1
  have h2 := zz_blt h2
  obtain ⟨l1, l2⟩ := zz_and hL
  obtain ⟨a0, a1, a2, a3, a4, a5, a6, a7⟩ := h
  have e : ∀ i, i < 18446744073709551616 → zz_spk k sp i = sp i := fun i hi => zz_spk_o (by omega)
  refine ⟨a0, fun j q hq => ?_, fun j q hq => ?_, fun q hq => ?_, fun q hq => ?_, a5, a6, a7⟩
  · have hj : j < S.length := (List.getElem?_eq_some_iff.mp hq).1
    have b := a1 j q hq
    unfold zz_St at b ⊢
    rw [e _ (by omega), e _ (by omega)]
    exact b
  · have hj : j < S2.length := (List.getElem?_eq_some_iff.mp hq).1
    rw [e _ (by omega)]
    exact a2 j q hq
  · rw [e _ (zz_blt (List.all_eq_true.mp l1 q hq))]
    exact a3 q hq
  · have b := a4 q hq
    have c := List.all_eq_true.mp l2 q hq
    have ev : zz_v z0 (zz_spk k sp) q.2.2.2 = zz_v z0 sp q.2.2.2 := by
      generalize q.2.2.2 = v at c
      cases v with
      | ref i =>
        obtain ⟨c1, c2⟩ := zz_and (show (Nat.ble 1000000 i && Nat.blt i 18446744073709551616) = true from c)
        have c1 := zz_ble c1
        have c2 := zz_blt c2
        show Value.ref (zz_r z0 (zz_spk k sp) i) = Value.ref (zz_r z0 sp i)
        unfold zz_r
        rw [if_neg (by omega), if_neg (by omega), e _ (by omega)]
      | retAddr n =>
        show (if zz_spk k sp 2000000 = 0 then Value.null else .ref (zz_spk k sp 2000000 - 1)) = (if sp 2000000 = 0 then Value.null else .ref (sp 2000000 - 1))
        rw [e _ (by omega)]
      | _ => rfl
    rw [ev]
    exact b
end ZNM
end
