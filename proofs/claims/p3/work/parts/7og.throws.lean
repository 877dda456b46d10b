/-! THROWS over the abstract frames: a call returns or throws -/
noncomputable section
theorem zkt_g {c : Nat} {w : zz_W} {x : zz_C} {N : Nat} (h : zk_sh c w) (hi : w.1 < 16 * c) (j : Nat) : zz_g (zz_pu w x N) j = if j = w.1 then x else zz_g w j := zk_up_g h hi j
theorem zkt_I {c : Nat} {HT : List (List zk_H)} {w : zz_W} {x : zz_C} {N : Nat} (h : zk_I c HT w) (hi : w.1 < 16 * c) (hc : c ≤ 60000) : zk_I c HT (zz_pu w x N) := by
  obtain ⟨s1, s2, s3, s4⟩ := h
  refine ⟨zk_up_sh s1, ?_, ?_, fun i hn => ?_⟩
  · show w.1 + 1 ≤ 16 * c
    omega
  · show w.1 + 1 ≤ 1000000
    omega
  · obtain ⟨a, b⟩ := s4 i hn
    refine ⟨Nat.lt_succ_of_lt a, ?_⟩
    rw [zkt_g s1 hi, if_neg (by omega)]
    exact b
/-- what a state says stands in cells that are there -/
def zkt_ok (HT : List (List zk_H)) (SU : Nat → List (Nat × Nat)) (Q : zk_St) : Bool := Q.1.2.2.1.all (fun q => Nat.beq (zk_h HT q.1.1).1 3) && (zk_eW HT Q.1.2.2.2.1.length Q.2.1 && Q.2.2.all (fun t => (SU t).all (fun p => !(Nat.beq (zk_h HT p.1).1 9))))
theorem zkt_G2 {c : Nat} {HT : List (List zk_H)} {PT : Nat → zz_W → Prop} {SU : Nat → List (Nat × Nat)} {TS : zk_TY} (hTT : zk_TT c HT PT SU TS) {Q : zk_St} {s : Nat → Int} {p : Nat} {lv : List (Nat × Value)} {st : List Value} {w : zz_W} {x : zz_C} {N : Nat} (hok : zkt_ok HT SU Q = true) (hi : w.1 < 16 * c) (hc : c ≤ 60000) (h : zk_G2 PT (zk_I c HT) s Q (p, lv, st, w)) : zk_G2 PT (zk_I c HT) s Q (p, lv, st, zz_pu w x N) := by
  obtain ⟨o1, o2⟩ := zz_and hok
  obtain ⟨o2, o3⟩ := zz_and o2
  obtain ⟨⟨g1, g2, g3, g4, g5, g6⟩, k1, k2⟩ := h
  have g3 : zk_fl s Q.1.2.2.1 w := g3
  have g6 : zk_I c HT w := g6
  have k1 : zk_eF s Q.2.1 w := k1
  have hg : ∀ i, (zk_h HT i).1 ≠ 9 → zz_g (zz_pu w x N) i = zz_g w i := fun i hn => by
    have := (g6.2.2.2 i hn).1
    rw [zkt_g g6.1 hi, if_neg (by omega)]
  have hfd : ∀ q : Nat × Nat, (zk_h HT q.1).1 ≠ 9 → zk_fd (zz_pu w x N) q = zk_fd w q := fun q hn => by
    unfold zk_fd
    rw [hg _ hn]
  refine ⟨⟨g1, g2, fun q hq => ?_, g4, g5, zkt_I g6 hi hc⟩, fun y hy => ?_, fun t ht => ?_⟩
  · show zk_n s q.2 (zk_fd (zz_pu w x N) q.1)
    have h1 := zz_beq (List.all_eq_true.mp o1 q hq)
    rw [hfd q.1 (by rw [h1]; decide)]
    exact g3 q hq
  · have h1 := zk_eW_row o2 y hy
    show 0 ≤ zl_ev s y.2.1 ∧ zk_xe (zz_pu w x N) y.1 (zl_ev s y.2.1) = zl_ev s y.2.2
    rw [zk_xe_g (fun r hr => hg r (by have := h1 r hr; omega))]
    exact k1 y hy
  · have h1 := List.all_eq_true.mp (List.all_eq_true.mp o3 t ht)
    have h2 : ∀ q ∈ SU t, (zk_h HT q.1).1 ≠ 9 := fun q hq e => by
      have := h1 q hq
      rw [e] at this
      cases this
    exact hTT.1 t w (zz_pu w x N) g6 (zkt_I g6 hi hc) (fun q hq _ => hfd q (h2 q hq)) (fun q hq _ => hg q.1 (h2 q hq)) (k2 t ht)
/-- a table with ends at places where something is thrown; nx: without the ends of its own -/
def zi_x : zi := (201, [], [])
def zi_pf (code : List (List zi)) (L : List Nat) (nx : Bool) (p : Nat) : zi := cond (L.any (fun q => Nat.beq q p)) zi_x (cond (nx && Nat.blt 200 (zi_at code p).1) zi_n (zi_at code p))
def zi_pt (code : List (List zi)) (n : Nat) (L : List Nat) (nx : Bool) : List (List zi) := (List.range n).map (fun i => (List.range 16).map (fun j => zi_pf code L nx (16 * i + j)))
theorem zi_pt_at {code : List (List zi)} {n : Nat} {L : List Nat} {nx : Bool} (p : Nat) : zi_at (zi_pt code n L nx) p = zi_pf code L nx p ∨ zi_at (zi_pt code n L nx) p = zi_n := by
  by_cases h : p / 16 < n
  · refine Or.inl ?_
    have h1 : (zi_pt code n L nx).getD (p / 16) [] = (List.range 16).map (fun j => zi_pf code L nx (16 * (p / 16) + j)) := by
      unfold zi_pt
      rw [List.getD_eq_getElem?_getD, List.getElem?_map, List.getElem?_range h]
      rfl
    show ((zi_pt code n L nx).getD (p / 16) []).getD (p % 16) zi_n = zi_pf code L nx p
    rw [h1, List.getD_eq_getElem?_getD, List.getElem?_map, List.getElem?_range (Nat.mod_lt _ (by decide))]
    show zi_pf code L nx (16 * (p / 16) + p % 16) = zi_pf code L nx p
    rw [Nat.div_add_mod]
  · refine Or.inr ?_
    have h1 : (zi_pt code n L nx).getD (p / 16) [] = [] := by
      unfold zi_pt
      rw [List.getD_eq_getElem?_getD, List.getElem?_eq_none (by rw [List.length_map, List.length_range]; omega)]
      rfl
    show ((zi_pt code n L nx).getD (p / 16) []).getD (p % 16) zi_n = zi_n
    rw [h1]
    rfl
/-- an entry of it: as it was, an end where something is thrown, nothing -/
theorem zi_pt_c {code : List (List zi)} {n : Nat} {L : List Nat} {nx : Bool} (p : Nat) : (zi_at (zi_pt code n L nx) p = zi_at code p ∧ (nx = true → Nat.blt 200 (zi_at code p).1 = false)) ∨ (p ∈ L ∧ zi_at (zi_pt code n L nx) p = zi_x) ∨ zi_at (zi_pt code n L nx) p = zi_n := by
  rcases zi_pt_at (code := code) (n := n) (L := L) (nx := nx) p with h | h
  · rw [h]
    unfold zi_pf
    cases h1 : L.any (fun q => Nat.beq q p) with
    | true =>
      refine Or.inr (Or.inl ⟨?_, rfl⟩)
      obtain ⟨q, q1, q2⟩ := List.any_eq_true.mp h1
      rw [← zz_beq q2]
      exact q1
    | false =>
      cases h2 : (nx && Nat.blt 200 (zi_at code p).1) with
      | true => exact Or.inr (Or.inr rfl)
      | false =>
        refine Or.inl ⟨rfl, fun e => ?_⟩
        rw [e] at h2
        exact h2
  · exact Or.inr (Or.inr h)
/-- an end has a kind of its own -/
theorem zz_rt_0 {T : zz_T} {f : zz_F} {r : List Value × zz_W} (h : zz_rt T f = some r) : (zz_ent T f.1).1 ≠ 0 ∧ (zz_ent T f.1).1 ≠ 9 := by
  refine ⟨fun e => ?_, fun e => ?_⟩
  · unfold zz_rt at h
    rw [e] at h
    first
      | cases h
      | simp at h
  · unfold zz_rt at h
    rw [e] at h
    first
      | cases h
      | simp at h
theorem zz_rt_eq {T T' : zz_T} {f : zz_F} (h : zz_ent T f.1 = zz_ent T' f.1) : zz_rt T f = zz_rt T' f := by
  unfold zz_rt
  rw [h]
section ZKX
variable {l : Launch} {Ts : List Cond} {D : va_G} {cl : List vw_C} {fk : Nat → Nat → Nat} {cy : Nat → ClassId} {z0 : Nat} {sp : Nat → Nat} {tys : List (ClassId × FieldType)} {G : State → Prop}
variable {yn : Nat → MethodName} {cn : Nat → ByteArray} {ml : Nat → Nat} {rt : Nat → Option FieldType}
variable {c : Nat} {HT : List (List zk_H)} {PT : Nat → zz_W → Prop} {SU : Nat → List (Nat × Nat)} {TS : zk_TY} {CT : Nat → Option zk_Ct} {d : Nat} {own mn : String} {nL : Nat} {cc : ByteArray} {code : List (List zi)} {cs : List zk_Cu}
theorem zi_pt_TO {K : zz_K} {n : Nat} {L : List Nat} {nx : Bool} (hT : zz_TO l Ts D cl fk cy z0 sp tys G own mn nL cc d K (zi_T code)) : zz_TO l Ts D cl fk cy z0 sp tys G own mn nL cc d K (zi_T (zi_pt code n L nx)) := by
  intro pc h
  rw [zi_ent] at h ⊢
  rcases zi_pt_c (code := code) (n := n) (L := L) (nx := nx) pc with ⟨e, -⟩ | ⟨-, e⟩ | e
  · rw [e] at h ⊢
    have h1 := hT pc (by rw [zi_ent]; exact h)
    rw [zi_ent] at h1
    exact h1
  · rw [e] at h
    exact absurd (show (1 : Nat) = 0 from h) (by decide)
  · rw [e] at h
    exact absurd (show (9 : Nat) = 0 from h) (by decide)
/-- the check, up to the end of the road -/
theorem zk_chk_B (hTT : zk_TT c HT PT SU TS) {nl fuel : Nat} {q : zk_Ct} {h0 : List zk_Hn} {H : List (List zk_Hn)} (hT : ∀ K, zz_KS l D cl fk cy z0 sp tys G yn (fun y => Cond.code (yn y) (cn y) (ml y) (rt y) :: Ts) d K → zz_TO l Ts D cl fk cy z0 sp tys G own mn nL cc d K (zi_T code)) (hC : ∀ y' q', CT y' = some q' → zk_CA l Ts D cl fk cy z0 sp tys G yn cn ml rt c HT PT d (y' % 1000) q') (h : zk_chk HT SU TS CT code cs q fuel nl h0 H = true)
    {as : List Value} {w : zz_W} {s : Nat → Int} (hd : zl_ev s (zk_dep q.2.2.2) ≤ ((d + 1 : Nat) : Int)) (hG : zk_G2 PT (zk_I c HT) s q.1 (0, [], as, w)) : zz_cs as ≤ nl ∧ zk_Gd l Ts D cl fk cy z0 sp tys G own mn nL cc d (zi_T code) PT (zk_J c HT q.2.2.1 (w, q.2.2.1.2.map (fun p => (p.1, zl_ev s p.2)))) q.2.1 q.1.1.2.2.2.1.length s (0, lv_args 0 as, [], w) := by
  unfold zk_chk at h
  obtain ⟨b1, hb⟩ := zz_and h
  obtain ⟨b6, hb⟩ := zz_and hb
  obtain ⟨b2, hb⟩ := zz_and hb
  obtain ⟨b3, hb⟩ := zz_and hb
  obtain ⟨b4, b5⟩ := zz_and hb
  obtain ⟨-, b3⟩ := zz_and b3
  obtain ⟨b7, b8⟩ := zz_and b3
  obtain ⟨⟨g1, g2, g3, g4, g5, g6⟩, k1, k2⟩ := hG
  have g2 : zk_st s q.1.1.2.1 as := g2
  have hd2 : zl_ev s (zk_dep (q.2.2.2 - 1)) ≤ (d : Int) := by
    have h1 := zl_pos_ok g4 b7
    rw [zl_sub_ev, zl_sub_ev, zl_con_ev] at h1
    omega
  have hP : zk_pv s q.2.2.1.2 (q.2.2.1.2.map (fun p => (p.1, zl_ev s p.2))) := fun p hp => List.mem_map.mpr ⟨p, hp, rfl⟩
  have hcuts := zk_all_cuts (c := c) (w0 := (w, q.2.2.1.2.map (fun p => (p.1, zl_ev s p.2)))) (sg := s) (own := own) (mn := mn) (nL := nL) (cc := cc) (d := d) hTT hT hC hd2 (zz_ble b8) hP b6 b5
  have hG0 : zk_G2 PT (zk_J c HT q.2.2.1 (w, q.2.2.1.2.map (fun p => (p.1, zl_ev s p.2)))) s ((zk_ar 0 q.1.1.2.1, [], q.1.1.2.2.1, q.1.1.2.2.2.1, q.1.1.2.2.2.2), q.1.2.1, q.1.2.2) (0, lv_args 0 as, [], w) := ⟨⟨zk_ar_ok b1 g2, trivial, g3, g4, g5, zk_J_rf g6⟩, k1, k2⟩
  exact ⟨by rw [zk_cz_ok b1 g2]; exact zz_ble b2, zk_ex_ok (c := c) (w0 := (w, q.2.2.1.2.map (fun p => (p.1, zl_ev s p.2)))) (sg := s) (own := own) (mn := mn) (nL := nL) (cc := cc) (d := d) (nD := q.1.1.2.2.2.1.length) (s0 := s) (mu := zl_con 100000000000000000000000000000000000000000000000000000000000000000000000000000000000000000000000000000000000000000000000000000000000000000000000000000000000000000000000000000000000000000000000000000000) hTT hT hC hd2 (zz_ble b8) hP b6 (Nat.zero_le _) (Nat.le_refl _) (fun _ _ => rfl) (fun q2 hq2 s2 f2 a1 a2 a3 a4 => hcuts 100000000000000000000000000000000000000000000000000000000000000000000000000000000000000000000000000000000000000000000000000000000000000000000000000000000000000000000000000000000000000000000000000000000 q2 hq2 s2 f2 a1 a2 a3 (by rw [zl_con_ev] at a4; exact a4)) fuel _ h0 b4 _ List.mem_cons_self (Nat.le_refl _) s (0, lv_args 0 as, [], w) rfl hG0 (fun _ _ => rfl)⟩
/-- the method y, called as q says, returns (not if nx), or throws at one of the places L what XE says of it; no cell comes but the thing thrown -/
def zk_PX (l : Launch) (Ts : List Cond) (D : va_G) (cl : List vw_C) (fk : Nat → Nat → Nat) (cy : Nat → ClassId) (z0 : Nat) (sp : Nat → Nat) (tys : List (ClassId × FieldType)) (G : State → Prop) (yn : Nat → MethodName) (cn : Nat → ByteArray) (ml : Nat → Nat) (rt : Nat → Option FieldType) (c : Nat) (HT : List (List zk_H)) (PT : Nat → zz_W → Prop) (y : Nat) (q : zk_Ct) (nx : Bool) (L : List Nat) (XE : Nat → String × Nat) : Prop :=
  ∀ (d : Nat) (as : List Value) (w : zz_W) (s : Nat → Int), zl_ev s (zk_dep q.2.2.2) ≤ ((d + 1 : Nat) : Int) → 5 ≤ d → w.1 < 16 * c → zk_G2 PT (zk_I c HT) s q.1 (0, [], as, w) →
    ∃ (w' : zz_W) (s' : Nat → Int) (Q : zk_St), Q ∈ q.2.1 ∧ w'.1 = w.1 ∧ w'.2.1 = w.2.1 ∧ ((nx = false ∧ ∃ rv, zz_M l Ts D cl fk cy z0 sp tys G yn cn ml rt (d + 1) y as w rv w' ∧ zk_G2 PT (zk_J c HT q.2.2.1 (w, q.2.2.1.2.map (fun p => (p.1, zl_ev s p.2)))) s' Q (0, [], rv, w') ∧ (rt y = some .int → ∃ v : Int32, rv = [.int v])) ∨
      ∃ pc, pc ∈ L ∧ zz_MX l Ts D cl fk cy z0 sp tys G yn cn ml rt (d + 1) y as w (XE pc).1 (zz_pu w' (3, (XE pc).2, 0, 0) 6) ∧ zk_G2 PT (zk_J c HT q.2.2.1 (w, q.2.2.1.2.map (fun p => (p.1, zl_ev s p.2)))) s' Q (0, [], [], w')) ∧ ∀ j, j < q.1.1.2.2.2.1.length → s' j = s j
theorem zz_rt_int {cc : ByteArray} {rt : Option FieldType} {T : zz_T} (hR : zz_RO cc rt T) (hr : rt = some .int) {f : zz_F} {rv : List Value} {w' : zz_W} (h : zz_rt T f = some (rv, w')) : ∃ v : Int32, rv = [.int v] := by
  subst hr
  unfold zz_rt at h
  split at h
  · rename_i hk hst
    exact absurd (hR.1 f.1 hk).2 (fun e => by cases e)
  · rename_i v hk hst
    cases h
    exact ⟨v, rfl⟩
  · rename_i v hk hst
    exact absurd (hR.2.2.1 f.1 hk).2 (fun e => by cases e)
  · rename_i v hk hst
    exact absurd (hR.2.2.2.1 f.1 hk).2 (fun e => by cases e)
  · rename_i v hk hst
    exact absurd (hR.2.2.2.2.2.1 f.1 hk).2 (fun e => by cases e)
  · rename_i v hk hst
    exact absurd (hR.2.2.2.2.2.2 f.1 hk).2 (fun e => by cases e)
  · rename_i v hk hst
    obtain ⟨-, t, ht, h2⟩ := hR.2.2.2.2.1 f.1 hk
    cases ht
    rcases h2 with ⟨n, e⟩ | ⟨u, e⟩ <;> cases e
  · rename_i hk hst
    obtain ⟨-, t, ht, h2⟩ := hR.2.2.2.2.1 f.1 hk
    cases ht
    rcases h2 with ⟨n, e⟩ | ⟨u, e⟩ <;> cases e
  · cases h
theorem zk_px (hTT : zk_TT c HT PT SU TS) {y nl fuel n : Nat} {q : zk_Ct} {h0 : List zk_Hn} {H : List (List zk_Hn)} {Py : zz_T} {nx : Bool} {L : List Nat} {XE : Nat → String × Nat} (hE : Py = zi_T code) (hT : ∀ (d : Nat) (K : zz_K), zz_KS l D cl fk cy z0 sp tys G yn (fun y => Cond.code (yn y) (cn y) (ml y) (rt y) :: Ts) d K → zz_TO l Ts D cl fk cy z0 sp tys G (yn y).cls (yn y).name (ml y) (cn y) d K Py) (hR : zz_RO (cn y) (rt y) Py) (hy : plainFor (yn y) = true) (hy2 : plainName (yn y).cls = true) (hnl : ml y = nl) (hC : ∀ y' q', CT y' = some q' → zk_Con l Ts D cl fk cy z0 sp tys G yn cn ml rt c HT PT (y' % 1000) q')
    (hX : ∀ pc ∈ L, ∀ (d : Nat) (lv : List (Nat × Value)) (w : zz_W), 5 ≤ d → zk_sh c w → w.1 < 16 * c → zz_TX l Ts D cl fk cy z0 sp tys G (yn y).cls (yn y).name (ml y) (cn y) d (pc, lv, [], w) (XE pc).1 (zz_pu w (3, (XE pc).2, 0, 0) 6)) (h : zk_chk HT SU TS CT (zi_pt code n L nx) cs q fuel nl h0 H = true) : zk_PX l Ts D cl fk cy z0 sp tys G yn cn ml rt c HT PT y q nx L XE := by
  subst hE
  intro d as w s hd h5 hi hG
  obtain ⟨hcs, fr, s', Q, k1, k2, k3, k4, k5⟩ := zk_chk_B (own := (yn y).cls) (mn := (yn y).name) (nL := ml y) (cc := cn y) (d := d) hTT (fun K hK => zi_pt_TO (hT d K hK)) (fun y' q' h' => hC y' q' h' d) h hd hG
  obtain ⟨pc', lv', st', w'⟩ := fr
  have k2 : zz_rt (zi_T (zi_pt code n L nx)) (pc', lv', st', w') = some (st', w') := k2
  have hJ : zk_J c HT q.2.2.1 (w, q.2.2.1.2.map (fun p => (p.1, zl_ev s p.2))) w' := k4.1.2.2.2.2.2
  have hw : w'.1 = w.1 := hJ.2.2.2.1.1
  have hw2 : w'.2.1 = w.2.1 := hJ.2.2.2.1.2
  have hr0 := zz_rt_0 k2
  refine ⟨w', s', Q, k3, hw, hw2, ?_, k5⟩
  rcases zi_pt_c (code := code) (n := n) (L := L) (nx := nx) pc' with ⟨e, hnx⟩ | ⟨e1, e2⟩ | e
  · have hen : zz_ent (zi_T (zi_pt code n L nx)) pc' = zi_e (zi_at code pc') := by rw [zi_ent, e]
    have k3' : zz_rt (zi_T code) (pc', lv', st', w') = some (st', w') := by
      rw [← k2]
      exact zz_rt_eq (by show zz_ent (zi_T code) pc' = zz_ent (zi_T (zi_pt code n L nx)) pc'; rw [hen, zi_ent])
    have hf : nx = false := by
      cases hn : nx with
      | false => rfl
      | true =>
        exfalso
        have h2 := hnx hn
        have hr1 : (zi_e (zi_at code pc')).1 ≠ 0 ∧ (zi_e (zi_at code pc')).1 ≠ 9 := by
          rw [← hen]
          exact hr0
        unfold zi_e at hr1
        rw [h2] at hr1
        cases h3 : Nat.blt (zi_at code pc').1 87 with
        | true =>
          rw [h3] at hr1
          exact hr1.1 rfl
        | false =>
          rw [h3] at hr1
          exact hr1.2 rfl
    obtain ⟨r1, -, r3⟩ := zz_rt_ok (l := l) (z0 := z0) (sp := sp) (P := fun _ => zi_T code) (y := y) hR k3'
    exact Or.inl ⟨hf, st', zz_M_B rfl rfl rfl rfl rfl hy (by rw [hnl]; exact hcs) r1 r3 k1, k4, fun hr => zz_rt_int hR hr k3'⟩
  · have he : zz_ent (zi_T (zi_pt code n L nx)) pc' = (1, fun _ _ => none) := by
      rw [zi_ent, e2]
      rfl
    have hst : st' = [] := by
      have k2 := k2
      unfold zz_rt at k2
      rw [show zz_ent (zi_T (zi_pt code n L nx)) (pc', lv', st', w').1 = (1, fun _ _ => none) from he] at k2
      cases st' with
      | nil => rfl
      | cons a b =>
        first
          | cases k2
          | simp at k2
    subst hst
    exact Or.inr ⟨pc', e1, zz_MX_B rfl rfl rfl rfl hy2 (by rw [hnl]; exact hcs) (zz_TX_B k1 (hX pc' e1 d lv' w' h5 hJ.1.1 (by rw [hw]; exact hi))), k4⟩
  · have hen : (zz_ent (zi_T (zi_pt code n L nx)) pc').1 = 9 := by
      rw [zi_ent, e]
      rfl
    exact absurd hen hr0.2
end ZKX
end
/-! 'throw new E("text")' in worlds of any number of chunks -/
section ZXN
variable {l : Launch} {Ts : List Cond} {D : va_G} {cl : List vw_C} {fk : Nat → Nat → Nat} {cy : Nat → ClassId} {z0 : Nat} {sp : Nat → Nat} {tys : List (ClassId × FieldType)} {G : State → Prop} {own mn : String} {nL : Nat} {cc : ByteArray} {d : Nat} {pc : Nat}
/-- 'throw new E("text")' -/
theorem zkt_new (hsp0 : sp 18446744073709551616 = 0) {E text : String} {names : List String} {ik is ic ci k ix : Nat} {rx : ByteArray} {T : u_T} {lv : List (Nat × Value)} {st : List Value} {w : zz_W} (x0 : decode rx 0 = .ok (.aload_n 0, 1)) (x1 : decode rx 1 = .ok (.aload_n 1, 1)) (x2 : decode rx 2 = .ok (.invokespecial ix, 3)) (x5 : decode rx 5 = .ok (.return_, 1)) (hl : l.stackTraces = false) (hcls : Bundle.fit E = true) (hnames : ∀ n ∈ names, Bundle.fit n = true) (hc : cl[ci]? = some (E, T, 0))
    (hw1 : Cond.classLink own ik E ∈ Ts) (hw2 : Cond.initialized E ∈ Ts) (hR : ∀ U, G U → vk_R own is text (sp k) U) (hat : ∀ s : State, G s → ∀ args : Array Value, (∀ w ∈ Ts, w.before args s = true) → ∀ w ∈ vx_atS own ic E ix rx names, w.before args s = true)
    (hgood : ∀ w ∈ Cond.classLink own ik E :: Cond.initialized E :: vx_atS own ic E ix rx names, vx_ot w = true)
    (hU : ∀ U, G U → vx_Zq Bundle.tN "UNASSIGNED_STACK" Bundle.steD (fun q : Nat => z0 ≤ q) U U.heap) (hN : ∀ U, G U → vx_Zq Bundle.tN "SUPPRESSED_SENTINEL" Bundle.listD (fun q : Nat => z0 ≤ q) U U.heap)
    (d0 : decode cc pc = .ok (.new ik, 3)) (d3 : decode cc (pc + 3) = .ok (.dup, 1)) (d4 : decode cc (pc + 4) = .ok (.ldc is, 2)) (d6 : decode cc (pc + 6) = .ok (.invokespecial ic, 3)) (d9 : decode cc (pc + 9) = .ok (.athrow, 1))
    (hd : names.length + 3 ≤ d) (hd2 : zz_cs st + (13 * (names.length + 1) + 43) ≤ 64 * (d + 1)) {nc : Nat} (hs : zk_sh nc w) (hi : w.1 < 16 * nc) : zz_TX l Ts D cl fk cy z0 sp tys G own mn nL cc d (pc, lv, st, w) E (zz_pu w (3, ci, 0, 0) 6) := by
  refine ⟨⟨Nat.le_succ _, Nat.le_add_right _ _⟩, ?_⟩
  intro p e R s m args below meth c X r1 r2 hx H locs n0 s0 ls hI hS hl' hn hs0 hc1 hc2
  have hc1 : w.1 + 1 - n0 ≤ R.cells := hc1
  have hc2 : w.2.1 + 6 - s0 ≤ R.slots := hc2
  have hn : n0 ≤ w.1 := hn
  have hs0 : s0 ≤ w.2.1 := hs0
  have hg := X.2.2.2.2.2.2.2.2
  have ecs : ((zz_sv z0 sp st).map fun v => v.category).sum = zz_cs st := zz_cs_sv st
  refine vx_throwS (rest := zz_sv z0 sp st) (text := text) X.1 X.2.1 hl x0 x1 x2 x5 X.2.2.2.1 hcls hnames (X.2.2.2.2.1 _ hw1) (X.2.2.2.2.1 _ hw2) (hR s hg) (hat s hg args X.2.2.2.2.1) hgood (hU s hg) (hN s hg) hS (by rw [hl'.1]; exact X.2.2.1.symm) d0 d3 d4 d6 d9 (fun x h => (hx x h).elim) (by omega) (by rw [ecs]; omega) (by show w.1 - n0 + 1 ≤ _; omega) (by show w.2.1 - s0 + 6 ≤ _; omega) X.2.2.2.2.2.2.1 ?_ hS.2.2 (by show w.1 - n0 + 1 ≤ w.1 + 1 - n0; omega) (by show w.2.1 - s0 + 6 ≤ w.2.1 + 6 - s0; omega)
  intro t ce _ hz hce hv hcl hold
  refine ⟨rfl, zz_I_push (w := w) hsp0 hI rfl (fun j => zkt_g hs hi j) ?_ hz hold, ?_, ?_⟩
  · have hK := X.2.2.2.2.2.1.1 ci _ hc
    refine ⟨_, hc, ce, by have h1 := hI.1; rw [← h1]; exact hce, Option.some.inj (hcl.symm.trans hK.2.1), hv, fun k hk => absurd hk (Nat.not_lt_zero _)⟩
  · rw [hz]
    exact Nat.le_succ_of_le hS.1
  · intro q h1 h2
    rw [hold q (Nat.lt_of_lt_of_le h1 hS.1)]
    exact hS.2.1 q h1 h2
/-- 'throw new E("text")' -/
theorem zkt_newW (hsp0 : sp 18446744073709551616 = 0) {E text : String} {names : List String} {ik is ic ci k ix : Nat} {rx : ByteArray} {T : u_T} {lv : List (Nat × Value)} {st : List Value} {w : zz_W} (x0 : decode rx 0 = .ok (.aload_n 0, 1)) (x1 : decode rx 1 = .ok (.aload_n 1, 1)) (x2 : decode rx 2 = .ok (.invokespecial ix, 3)) (x5 : decode rx 5 = .ok (.return_, 1)) (hl : l.stackTraces = false) (hcls : Bundle.fit E = true) (hnames : ∀ n ∈ names, Bundle.fit n = true) (hc : cl[ci]? = some (E, T, 0))
    (hw1 : Cond.classLink own ik E ∈ Ts) (hw2 : Cond.initialized E ∈ Ts) (hR : ∀ U, G U → vk_R own is text (sp k) U) (hat : ∀ s : State, G s → ∀ args : Array Value, (∀ w ∈ Ts, w.before args s = true) → ∀ w ∈ vx_atS own ic E ix rx names, w.before args s = true)
    (hgood : ∀ w ∈ Cond.classLink own ik E :: Cond.initialized E :: vx_atS own ic E ix rx names, vx_ot w = true)
    (hU : ∀ U, G U → vx_Zq Bundle.tN "UNASSIGNED_STACK" Bundle.steD (fun q : Nat => z0 ≤ q) U U.heap) (hN : ∀ U, G U → vx_Zq Bundle.tN "SUPPRESSED_SENTINEL" Bundle.listD (fun q : Nat => z0 ≤ q) U U.heap)
    (d0 : decode cc pc = .ok (.new ik, 3)) (d3 : decode cc (pc + 3) = .ok (.dup, 1)) (d4 : decode cc (pc + 4) = .ok (.ldc_w is, 3)) (d6 : decode cc (pc + 7) = .ok (.invokespecial ic, 3)) (d9 : decode cc (pc + 10) = .ok (.athrow, 1))
    (hd : names.length + 3 ≤ d) (hd2 : zz_cs st + (13 * (names.length + 1) + 43) ≤ 64 * (d + 1)) {nc : Nat} (hs : zk_sh nc w) (hi : w.1 < 16 * nc) : zz_TX l Ts D cl fk cy z0 sp tys G own mn nL cc d (pc, lv, st, w) E (zz_pu w (3, ci, 0, 0) 6) := by
  refine ⟨⟨Nat.le_succ _, Nat.le_add_right _ _⟩, ?_⟩
  intro p e R s m args below meth c X r1 r2 hx H locs n0 s0 ls hI hS hl' hn hs0 hc1 hc2
  have hc1 : w.1 + 1 - n0 ≤ R.cells := hc1
  have hc2 : w.2.1 + 6 - s0 ≤ R.slots := hc2
  have hn : n0 ≤ w.1 := hn
  have hs0 : s0 ≤ w.2.1 := hs0
  have hg := X.2.2.2.2.2.2.2.2
  have ecs : ((zz_sv z0 sp st).map fun v => v.category).sum = zz_cs st := zz_cs_sv st
  refine vx_throwSW (rest := zz_sv z0 sp st) (text := text) X.1 X.2.1 hl x0 x1 x2 x5 X.2.2.2.1 hcls hnames (X.2.2.2.2.1 _ hw1) (X.2.2.2.2.1 _ hw2) (hR s hg) (hat s hg args X.2.2.2.2.1) hgood (hU s hg) (hN s hg) hS (by rw [hl'.1]; exact X.2.2.1.symm) d0 d3 d4 d6 d9 (fun x h => (hx x h).elim) (by omega) (by rw [ecs]; omega) (by show w.1 - n0 + 1 ≤ _; omega) (by show w.2.1 - s0 + 6 ≤ _; omega) X.2.2.2.2.2.2.1 ?_ hS.2.2 (by show w.1 - n0 + 1 ≤ w.1 + 1 - n0; omega) (by show w.2.1 - s0 + 6 ≤ w.2.1 + 6 - s0; omega)
  intro t ce _ hz hce hv hcl hold
  refine ⟨rfl, zz_I_push (w := w) hsp0 hI rfl (fun j => zkt_g hs hi j) ?_ hz hold, ?_, ?_⟩
  · have hK := X.2.2.2.2.2.1.1 ci _ hc
    refine ⟨_, hc, ce, by have h1 := hI.1; rw [← h1]; exact hce, Option.some.inj (hcl.symm.trans hK.2.1), hv, fun k hk => absurd hk (Nat.not_lt_zero _)⟩
  · rw [hz]
    exact Nat.le_succ_of_le hS.1
  · intro q h1 h2
    rw [hold q (Nat.lt_of_lt_of_le h1 hS.1)]
    exact hS.2.1 q h1 h2
end ZXN
