/-! BETWEEN CALLS, on: put and end, which leave something over between class and reference -/
noncomputable section
/-- as zIv, and symbol 1 is the number p -/
def zJv (X : zk_St) (n e : Nat) (p : Int32) (w : zz_W) : Prop := (∃ s : Nat → Int, (s 0 = (n : Int) ∧ s 1 = p.toInt) ∧ zk_G2 zPT (zk_I 64 zHX) s X (0, [], [], w)) ∧ zBi w ∧ w.1 ≤ 329 + n + e ∧ w.2.1 ≤ 2300586 + 40 * (n + e)
theorem zJv_I {X : zk_St} {n e : Nat} {p : Int32} {w : zz_W} (h : zJv X n e p w) : zk_I 64 zHX w := h.1.choose_spec.2.1.2.2.2.2.2
theorem zJv_up {X : zk_St} {n e N : Nat} {p : Int32} {w : zz_W} (hX : zl_w9 X = true) (h : zJv X n e p w) (hn : 329 + n + e ≤ 1000) : zJv X n e p (zz_up w 328 (1, 3, 1, N)) := by
  obtain ⟨⟨s, h1, h2⟩, h3, h4, h5⟩ := h
  have hI : zk_I 64 zHX w := h2.1.2.2.2.2.2
  exact ⟨⟨s, h1, zG2_up hX (zI_up hI) h2⟩, zBi_up h3 (zI_up hI) (by omega), h4, h5⟩
theorem zJv_pu {X : zk_St} {n ci : Nat} {p : Int32} {w : zz_W} (hX : zkt_ok zHX (zk_sux zTL zTM zXS) X = true) (h : zJv X n 0 p w) (hn : n ≤ 512) : zJv X n 1 p (zz_pu w (3, ci, 0, 0) 6) := by
  obtain ⟨⟨s, h1, h2⟩, h3, h4, h5⟩ := h
  have hI : zk_I 64 zHX w := h2.1.2.2.2.2.2
  have hw : w.1 < 16 * 64 := by omega
  refine ⟨⟨s, h1, zkt_G2 zTTx hX hw (by decide) h2⟩, zBi_pu h3 (zkt_I hI hw (by decide)) (by omega), ?_, ?_⟩
  · show w.1 + 1 ≤ _
    omega
  · show w.2.1 + 6 ≤ _
    omega
theorem zJv_1 {X : zk_St} {n : Nat} {p : Int32} {w : zz_W} (h : zJv X n 0 p w) : zJv X n 1 p w := ⟨h.1, h.2.1, by have := h.2.2.1; omega, by have := h.2.2.2; omega⟩
/-- nothing on the stack -/
theorem zG2_no {I : zz_W → Prop} {L : List (Nat × zk_V)} {T : List zk_V} {F : List ((Nat × Nat) × zk_V)} {B : List (Int × Int)} {C : List zl_E} {E : List zk_E1} {K : List Nat} {s : Nat → Int} {st : List Value} {w : zz_W} (h : zk_G2 zPT I s ((L, T, F, B, C), E, K) (0, [], st, w)) : zk_G2 zPT I s ((L, [], F, B, C), E, K) (0, [], [], w) := by
  obtain ⟨⟨g1, g2, g3, g4, g5, g6⟩, k1, k2⟩ := h
  exact ⟨⟨g1, trivial, g3, g4, g5, g6⟩, k1, k2⟩
theorem zG2_C {I : zz_W → Prop} {Q : zk_St} {C : List zl_E} {s : Nat → Int} {st : List Value} {w : zz_W} (h : zk_G2 zPT I s Q (0, [], st, w)) (hC : ∀ e ∈ C, 0 ≤ zl_ev s e) : zk_G2 zPT I s (zAC Q C) (0, [], st, w) := by
  obtain ⟨⟨g1, g2, g3, g4, g5, g6⟩, k1, k2⟩ := h
  refine ⟨⟨g1, g2, g3, g4, fun e he => ?_, g6⟩, k1, k2⟩
  rcases List.mem_append.mp he with he | he
  · exact g5 e he
  · exact hC e he
theorem zG2_s {I : zz_W → Prop} {Q : zk_St} {s : Nat → Int} {st : List Value} {w : zz_W} {x : Int32} (h : zk_G2 zPT I s Q (0, [], st, w)) (h1 : s 1 = x.toInt) : zk_G2 zPT I s (zAs Q) (0, [], st ++ [.int x], w) := by
  obtain ⟨⟨g1, g2, g3, g4, g5, g6⟩, k1, k2⟩ := h
  refine ⟨⟨g1, zk_st_app g2 ⟨⟨fun _ => ⟨x, rfl, ?_⟩, fun e => (by cases e), fun e => (by cases e), fun e => (by cases e)⟩, trivial⟩, g3, g4, g5, g6⟩, k1, k2⟩
  show x.toInt = zl_ev s (zl_sym 1)
  rw [zl_sym_ev, h1]
/-- what the stack holds -/
theorem zG2_t1 {I : zz_W → Prop} {Q : zk_St} {e : zl_E} {s : Nat → Int} {rv : List Value} {w : zz_W} (h : zk_G2 zPT I s Q (0, [], rv, w)) (hT : Q.1.2.1 = [(0, 0, e)]) : ∃ a : Int32, rv = [.int a] ∧ a.toInt = zl_ev s e := by
  have h2 : zk_st s Q.1.2.1 rv := h.1.2.1
  rw [hT] at h2
  obtain ⟨x, r, e1, e0, e2⟩ := zk_st_int h2 rfl
  have e3 := zk_st_len e2
  cases r with
  | nil => exact ⟨x, e1, e0⟩
  | cons _ _ => cases e3
theorem zG2_t0 {I : zz_W → Prop} {Q : zk_St} {s : Nat → Int} {rv : List Value} {w : zz_W} (h : zk_G2 zPT I s Q (0, [], rv, w)) (hT : Q.1.2.1 = []) : rv = [] := by
  have h2 : zk_st s Q.1.2.1 rv := h.1.2.1
  rw [hT] at h2
  have e3 := zk_st_len h2
  cases rv with
  | nil => rfl
  | cons _ _ => cases e3
/-- a call from one state to one of a few -/
theorem zG_call {n e : Nat} {w : zz_W} {X : zk_St} {t : Nat → Int} {as : List Value} (g : zk_G2 zPT (zk_I 64 zHX) t X (0, [], as, w)) (hb : zBi w) (c1 : w.1 ≤ 329 + n + e) (c2 : w.2.1 ≤ 2300586 + 40 * (n + e)) (h1 : n + e ≤ 600)
    {L : List (Nat × zk_Ct)} {k : Nat} {hs : List zk_Hn} {pre : List zl_E} {qs : List zk_St} (hp : pre.all (fun p => Nat.ble (zl_mx p.2) X.1.2.2.2.1.length) = true) (hk : zl_ex zHX (zk_sux zTL zTM zXS) (zk_tsl zTL zTM, zWL, zLL, zVL) (zk_ctl L) pre qs k [(false, X)] hs = true) (hm : L.all (fun p => p.2.2.2.1.1.all zl_mk) = true) (hL : X.1.1 = [])
    {Rl : List Value → zz_W → Prop} (hO : ∀ p ∈ L, zPP Rl as w p.2) : ∃ (rv : List Value) (w' : zz_W), Rl rv w' ∧ (∃ (s' : Nat → Int) (Q : zk_St), Q ∈ qs ∧ zk_G2 zPT (zk_I 64 zHX) s' Q (0, [], rv, w') ∧ ∀ j x, pre[j]? = some x → s' j = zl_ev t x) ∧ zBi w' ∧ w'.1 = w.1 ∧ w'.2.1 = w.2.1 := by
  have hI : zk_I 64 zHX w := g.1.2.2.2.2.2
  obtain ⟨rv, w', r1, r2, s', Q, q1, q2, q3⟩ := zl_px zTTx (n0 := X.1.2.2.2.1.length) hp hk (by rw [Nat.ble_eq]; exact Nat.le_refl _) hL (fun y q hq => List.all_eq_true.mp hm (y, q) (zk_ctl_mem hq)) (zPP_all hO) g
  exact ⟨rv, w', r1, ⟨s', Q, q1, q2, q3⟩, zBi_K hb hI r2 q2.1.2.2.2.2.2 (by omega), r2.1, r2.2.1⟩
/-- the class's argument p -/
theorem zG_arg1 {n : Nat} (hn : n ≤ 511) {w : zz_W} (h : zIv zQI n 0 w) (p : Int32) : ∃ t : Nat → Int, t 0 = (n : Int) ∧ t zNQ = p.toInt ∧ zk_G2 zPT (zk_I 64 zHX) t (zAr (zRe zQA 0) 1) (0, [], [.ref 0, .int p], w) := by
  obtain ⟨⟨s, s0, h2⟩, -⟩ := h
  have g : zk_G2 zPT (zk_I 64 zHX) s (zRe zQA 0) (0, [], [.ref 0], w) := zG2_ref 0 (zQI_A h2 s0 hn)
  obtain ⟨t, e1, g, e2⟩ := zG2_arg (Q := zAr (zRe zQA 0) 0) (by decide +kernel) (by decide +kernel) g p
  have e3 : (zAr (zRe zQA 0) 0).1.2.2.2.1.length = zNQ := by decide +kernel
  exact ⟨t, (e1 0 (by decide +kernel)).trans s0, by rw [e3] at e2; exact e2, g⟩
/-- behind the reference's call -/
theorem zG_end1 {n : Nat} (hn : n ≤ 511) {w' : zz_W} {rv : List Value} {s' : Nat → Int} (q2 : zk_G2 zPT (zk_I 64 zHX) s' (zA1 zQB) (0, [], rv, w')) (s1 : s' 0 = ((n + 1 : Nat) : Int)) (hb : zBi w') (c1 : w'.1 ≤ 329 + n + 1) (c2 : w'.2.1 ≤ 2300586 + 40 * (n + 1)) : ∃ a : Int32, rv = [.int a] ∧ zIv zQI (n + 1) 0 w' := by
  obtain ⟨a, e, -⟩ := zG2_t1 q2 (e := zl_sym zQB.1.2.2.2.1.length) rfl
  exact ⟨a, e, ⟨s', s1, zQB_I (zQB_1 q2)⟩, hb, by omega, by omega⟩
theorem zl_n1_ev {s : Nat → Int} {n : Nat} (h : s 0 = (n : Int)) : zl_ev s (zl_add (zl_sym 0) (zl_con 1)) = ((n + 1 : Nat) : Int) := by
  rw [zl_add_ev, zl_sym_ev, zl_con_ev, h]
  omega
/-- put, the reference's half -/
theorem zRf_put {X : zk_St} {n : Nat} (hn : n ≤ 511) {p : Int32} {w : zz_W} (h : zJv X n 1 p w) (hX : (zAs (zRe X 171)).1.1 = []) (hN : Nat.ble 1 (zAs (zRe X 171)).1.2.2.2.1.length = true) {L : List (Nat × zk_Ct)} {k : Nat} {hs : List zk_Hn} (hk : zl_ex zHX (zk_sux zTL zTM zXS) (zk_tsl zTL zTM, zWL, zLL, zVL) (zk_ctl L) [zl_add (zl_sym 0) (zl_con 1)] [zA1 zQB] k [(false, zAs (zRe X 171))] hs = true) (hm : L.all (fun p => p.2.2.2.1.1.all zl_mk) = true)
    {Rl : List Value → zz_W → Prop} (hO : ∀ q ∈ L, zPP Rl [.ref 171, .int p] w q.2) : ∃ (a : Int32) (w' : zz_W), Rl [.int a] w' ∧ zIv zQI (n + 1) 0 w' := by
  obtain ⟨⟨s, ⟨s0, s1⟩, h2⟩, hb, c1, c2⟩ := h
  have g : zk_G2 zPT (zk_I 64 zHX) s (zAs (zRe X 171)) (0, [], [.ref 171, .int p], w) := zG2_s (zG2_ref 171 h2) s1
  obtain ⟨rv, w', r1, ⟨s', Q, q1, q2, q3⟩, hb', d1, d2⟩ := zG_call (n := n) (e := 1) g hb c1 c2 (by omega) (pre := [zl_add (zl_sym 0) (zl_con 1)]) (by
    show (Nat.ble 1 _ && true) = true
    rw [hN]
    rfl) hk hm hX hO
  have e := List.mem_singleton.mp q1
  subst e
  obtain ⟨a, e2, hI⟩ := zG_end1 hn q2 ((q3 0 _ rfl).trans (zl_n1_ev s0)) hb' (by omega) (by omega)
  subst e2
  exact ⟨a, w', r1, hI⟩
/-- end, the reference's half, and what it noted -/
theorem zRf_end {X : zk_St} {n : Nat} (hn : n ≤ 511) {p : Int32} {w : zz_W} (h : zJv X n 1 p w) (hX : (zAs (zRe X 171)).1.1 = []) (hN : Nat.ble 1 (zAs (zRe X 171)).1.2.2.2.1.length = true) {v : Nat} {L L2 : List (Nat × zk_Ct)} {k k2 : Nat} {hs hs2 : List zk_Hn} (hk : zl_ex zHX (zk_sux zTL zTM zXS) (zk_tsl zTL zTM, zWL, zLL, zVL) (zk_ctl L) [zl_add (zl_sym 0) (zl_con 1)] [zAF zQB (v : Int)] k [(false, zAs (zRe X 171))] hs = true) (hm : L.all (fun p => p.2.2.2.1.1.all zl_mk) = true)
    (hk2 : zl_ex zHX (zk_sux zTL zTM zXS) (zk_tsl zTL zTM, zWL, zLL, zVL) (zk_ctl L2) [zl_sym 0] [zAk zQB (v : Int)] k2 [(false, zRe (zAF zQB (v : Int)) 171)] hs2 = true) (hm2 : L2.all (fun p => p.2.2.2.1.1.all zl_mk) = true)
    {Rl : List Value → zz_W → Prop} (hO : ∀ q ∈ L, zPP Rl [.ref 171, .int p] w q.2) {Rl2 : zz_W → List Value → zz_W → Prop} (hO2 : ∀ w1, ∀ q ∈ L2, zPP (Rl2 w1) [.ref 171] w1 q.2) : ∃ (w1 w2 : zz_W) (a : Int32), Rl [] w1 ∧ zz_ic w1 171 0 = true ∧ Rl2 w1 [.int a] w2 ∧ a.toInt = (v : Int) ∧ zIv zQI (n + 1) 0 w2 := by
  obtain ⟨⟨s, ⟨s0, s1⟩, h2⟩, hb, c1, c2⟩ := h
  have g : zk_G2 zPT (zk_I 64 zHX) s (zAs (zRe X 171)) (0, [], [.ref 171, .int p], w) := zG2_s (zG2_ref 171 h2) s1
  obtain ⟨rv, w1, r1, ⟨s', Q, q1, q2, q3⟩, hb', d1, d2⟩ := zG_call (n := n) (e := 1) g hb c1 c2 (by omega) (pre := [zl_add (zl_sym 0) (zl_con 1)]) (by
    show (Nat.ble 1 _ && true) = true
    rw [hN]
    rfl) hk hm hX hO
  have e := List.mem_singleton.mp q1
  subst e
  have e2 := zG2_t0 q2 rfl
  subst e2
  have g2 : zk_G2 zPT (zk_I 64 zHX) s' (zRe (zAF zQB (v : Int)) 171) (0, [], [.ref 171], w1) := zG2_ref 171 q2
  have t0 : s' 0 = ((n + 1 : Nat) : Int) := (q3 0 _ rfl).trans (zl_n1_ev s0)
  obtain ⟨rv2, w2, r2, ⟨s2, Q2, q4, q5, q6⟩, hb2, d3, d4⟩ := zG_call (n := n) (e := 1) g2 hb' (by omega) (by omega) (by omega) (pre := [zl_sym 0]) (show ([zl_sym 0].all (fun p => Nat.ble (zl_mx p.2) zQB.1.2.2.2.1.length)) = true from by decide +kernel) hk2 hm2 rfl (hO2 w1)
  have e := List.mem_singleton.mp q4
  subst e
  obtain ⟨a, e3, e4⟩ := zG2_t1 q5 (e := zl_con (v : Int)) rfl
  subst e3
  rw [zl_con_ev] at e4
  have t2 : s2 0 = ((n + 1 : Nat) : Int) := by rw [q6 0 _ rfl, zl_sym_ev, t0]
  have q7 : zk_G2 zPT (zk_I 64 zHX) s2 zQB (0, [], [], w2) := zG2_no (T := [(0, 0, zl_con (v : Int))]) q5
  exact ⟨w1, w2, a, r1, zI_ic171 q2.1.2.2.2.2.2, r2, e4, ⟨s2, t2, zQB_I q7⟩, hb2, by omega, by omega⟩
/-- forget: no value -/
theorem zCl_v {n : Nat} (hn : n ≤ 511) {w : zz_W} (h : zIv zQI n 0 w) {L : List (Nat × zk_Ct)} {k : Nat} {hs : List zk_Hn} (hk : zl_ex zHX (zk_sux zTL zTM zXS) (zk_tsl zTL zTM, zWL, zLL, zVL) (zk_ctl L) [zl_sym 0] [zQM] k [(false, zAr (zRe zQA 0) 0)] hs = true) (hm : L.all (fun p => p.2.2.2.1.1.all zl_mk) = true)
    {Rl : List Value → zz_W → Prop} (hO : ∀ p ∈ L, zPP Rl [.ref 0] w p.2) : ∃ w' : zz_W, Rl [] w' ∧ zIv zQM n 0 w' := by
  obtain ⟨⟨s, s0, h2⟩, hb, c1, c2⟩ := h
  have g : zk_G2 zPT (zk_I 64 zHX) s (zAr (zRe zQA 0) 0) (0, [], [.ref 0], w) := zG2_ref 0 (zQI_A h2 s0 hn)
  obtain ⟨rv, w1, r1, ⟨s', Q, q1, q2, q3⟩, hb', d1, d2⟩ := zG_call (n := n) (e := 0) g hb c1 c2 (by omega) (pre := [zl_sym 0]) (by decide +kernel) hk hm rfl hO
  have e := List.mem_singleton.mp q1
  subst e
  have e2 := zG2_t0 q2 rfl
  subst e2
  exact ⟨w1, r1, ⟨s', by rw [q3 0 _ rfl, zl_sym_ev, s0], q2⟩, hb', by omega, by omega⟩
theorem zRf_v {n : Nat} (hn : n ≤ 511) {w : zz_W} (h : zIv zQM n 1 w) {L : List (Nat × zk_Ct)} {k : Nat} {hs : List zk_Hn} (hk : zl_ex zHX (zk_sux zTL zTM zXS) (zk_tsl zTL zTM, zWL, zLL, zVL) (zk_ctl L) [zl_add (zl_sym 0) (zl_con 1)] [zQB] k [(false, zAr (zRe zQM 171) 0)] hs = true) (hm : L.all (fun p => p.2.2.2.1.1.all zl_mk) = true)
    {Rl : List Value → zz_W → Prop} (hO : ∀ p ∈ L, zPP Rl [.ref 171] w p.2) : ∃ w' : zz_W, Rl [] w' ∧ zIv zQI (n + 1) 0 w' := by
  obtain ⟨⟨s, s0, h2⟩, hb, c1, c2⟩ := h
  have g : zk_G2 zPT (zk_I 64 zHX) s (zAr (zRe zQM 171) 0) (0, [], [.ref 171], w) := zG2_ref 171 h2
  obtain ⟨rv, w1, r1, ⟨s', Q, q1, q2, q3⟩, hb', d1, d2⟩ := zG_call (n := n) (e := 1) g hb c1 c2 (by omega) (pre := [zl_add (zl_sym 0) (zl_con 1)]) (by decide +kernel) hk hm rfl hO
  have e := List.mem_singleton.mp q1
  subst e
  have e2 := zG2_t0 q2 rfl
  subst e2
  exact ⟨w1, r1, ⟨s', (q3 0 _ rfl).trans (zl_n1_ev s0), zQB_I q2⟩, hb', by omega, by omega⟩
end
/-! the listing, the class's half: the builder and its rows -/
noncomputable section
theorem zBi_B {w w' : zz_W} {T : List Nat} (hB : zB w T w') (h : w.1 ≤ 999) : zBi w' ∧ w'.1 ≤ w.1 + 1 ∧ w'.2.1 ≤ w.2.1 + 34 ∧ w.1 ≤ w'.1 := by
  obtain ⟨v, N, M, c, ⟨a1, ⟨⟨a2, a3⟩, a4⟩, a5, a6, a7, a8, a9, a10, a11⟩, b1, b2, b3⟩ := hB
  have hc : c ≤ 34 := by rcases a4 with ⟨e, -⟩ | ⟨e, -⟩ <;> omega
  have h1 : w'.1 ≤ w.1 + 1 ∧ w'.2.1 ≤ w.2.1 + 34 ∧ w.1 ≤ w'.1 := by rcases a4 with ⟨-, -, e1, e2⟩ | ⟨-, -, -, e1, e2, e3⟩ <;> omega
  refine ⟨⟨v, N, M, c, ⟨a1, ⟨⟨by omega, by omega⟩, ?_⟩, a5, a6, a7, a8, a9, a10, fun _ _ _ _ => rfl⟩, by omega⟩, h1.1, h1.2.1, h1.2.2⟩
  rcases a4 with ⟨e1, e2, -, -⟩ | ⟨e1, e2, e3, -, -, -⟩
  · exact Or.inl ⟨e1, e2, rfl, rfl⟩
  · exact Or.inr ⟨e1, e2, e3, Nat.le_refl _, Nat.le_succ _, Nat.le_add_right _ _⟩
theorem zHX_hi (i : Nat) (h : 329 ≤ i) : (zk_h zHX i).1 = 9 := by
  by_cases h2 : i < 336
  · have h3 : ∀ j, j < 7 → (zk_h zHX (329 + j)).1 = 9 := by decide +kernel
    have h4 := h3 (i - 329) (by omega)
    rw [show 329 + (i - 329) = i by omega] at h4
    exact h4
  · unfold zk_h
    have h5 : zHX[i / 16]? = none := List.getElem?_eq_none (by show (21 : Nat) ≤ i / 16; omega)
    show ((zHX[i / 16]?.getD []).getD (i % 16) zk_h0).1 = 9
    rw [h5]
    rfl
/-- not the builder's rows, and there from the start -/
def zl_rB (i : Nat) : Bool := Nat.blt i 329 && (!(Nat.beq i 16) && !(Nat.beq i 17))
theorem zHok_16 {M : Nat} (h2 : zz_at 64 M 2 ≤ 1) : zk_Hok (zk_h zHX 16) (3, 13, 4, M) := by
  rw [show zk_h zHX 16 = (3, 13, 4, 0, 0, [(3, 0, 0, 0), (0, 0, -2147483648, 2147483647), (0, 0, 0, 1), (0, 0, -2147483648, 2147483647)]) from rfl]
  have hb : ∀ x : Int32, (-2147483648 : Int) ≤ x.toInt ∧ x.toInt ≤ 2147483647 := fun x => ⟨Int32.le_toInt x, by have := Int32.toInt_lt x; omega⟩
  refine ⟨rfl, rfl, rfl, fun e => (by cases e), fun e => (by cases e), fun _ k q hq => ?_, fun e => (by cases e)⟩
  match k, hq with
  | 0, hq => cases hq; exact ⟨fun e => (by cases e), fun e => (by cases e)⟩
  | 1, hq => cases hq; exact ⟨fun _ => hb _, fun e => (by cases e)⟩
  | 2, hq =>
    cases hq
    refine ⟨fun _ => ?_, fun e => (by cases e)⟩
    show (0 : Int) ≤ (Int32.ofNat (zz_at 64 M 2)).toInt ∧ (Int32.ofNat (zz_at 64 M 2)).toInt ≤ 1
    rcases (by omega : zz_at 64 M 2 = 0 ∨ zz_at 64 M 2 = 1) with e | e <;> rw [e] <;> decide
  | 3, hq => cases hq; exact ⟨fun _ => hb _, fun e => (by cases e)⟩
  | _ + 4, hq => cases hq
theorem zI_B {w w' : zz_W} {M : Nat} (hs : zz_sh w') (h16 : zz_has w' 16 (3, 13, 4, M)) (hM : zz_at 64 M 2 ≤ 1) (h1 : w.1 ≤ w'.1) (h2 : w'.1 ≤ 1001) (hg : ∀ i, i ≠ 16 → i ≠ 17 → i < 329 → zz_g w' i = zz_g w i) (hI : zk_I 64 zHX w) : zk_I 64 zHX w' := by
  refine ⟨hs, by omega, by omega, fun i h9 => ?_⟩
  by_cases e16 : i = 16
  · subst e16
    rw [h16.2.2]
    exact ⟨h16.1, zHok_16 hM⟩
  have e17 : i ≠ 17 := fun e => h9 (by subst e; decide +kernel)
  have e3 : i < 329 := Nat.lt_of_not_le (fun e => h9 (zHX_hi i e))
  obtain ⟨k1, k2⟩ := hI.2.2.2 i h9
  rw [hg i e16 e17 e3]
  exact ⟨by omega, k2⟩
def zl_wB (X : zk_St) : Bool := (X.1.2.2.1.all (fun q => zl_rB q.1.1)) && (X.2.1.all (fun x => (zk_rws x.1).all zl_rB) && X.2.2.all (fun t => (zk_sux zTL zTM zXS t).all (fun p => zl_rB p.1)))
theorem zG2_B {X : zk_St} {s : Nat → Int} {st : List Value} {w w' : zz_W} (hX : zl_wB X = true) (hI' : zk_I 64 zHX w') (hg : ∀ i, i ≠ 16 → i ≠ 17 → i < 329 → zz_g w' i = zz_g w i) (h : zk_G2 zPT (zk_I 64 zHX) s X (0, [], st, w)) : zk_G2 zPT (zk_I 64 zHX) s X (0, [], st, w') := by
  obtain ⟨o1, o2⟩ := zz_and hX
  obtain ⟨o2, o3⟩ := zz_and o2
  obtain ⟨⟨g1, g2, g3, g4, g5, g6⟩, k1, k2⟩ := h
  have hb : ∀ i, zl_rB i = true → zz_g w' i = zz_g w i := fun i hi => by
    obtain ⟨b1, b2⟩ := zz_and hi
    obtain ⟨b2, b3⟩ := zz_and b2
    exact hg i (zk_nbq b2) (zk_nbq b3) (zz_blt b1)
  have hfd : ∀ q : Nat × Nat, zl_rB q.1 = true → zk_fd w' q = zk_fd w q := fun q hq => by
    unfold zk_fd
    rw [hb _ hq]
  refine ⟨⟨g1, g2, fun q hq => ?_, g4, g5, hI'⟩, fun y hy => ?_, fun t ht => ?_⟩
  · show zk_n s q.2 (zk_fd w' q.1)
    rw [hfd q.1 (List.all_eq_true.mp o1 q hq)]
    exact g3 q hq
  · have h1 := List.all_eq_true.mp o2 y hy
    show 0 ≤ zl_ev s y.2.1 ∧ zk_xe w' y.1 (zl_ev s y.2.1) = zl_ev s y.2.2
    rw [zk_xe_g (fun r hr => hb r (List.all_eq_true.mp h1 r hr))]
    exact k1 y hy
  · have h1 := List.all_eq_true.mp (List.all_eq_true.mp o3 t ht)
    exact zTTx.1 t w w' g6 hI' (fun q hq _ => hfd q (h1 q hq)) (fun q hq _ => hb q.1 (h1 q hq)) (k2 t ht)
theorem zQA_M {s : Nat → Int} {w : zz_W} (h : zk_G2 zPT (zk_I 64 zHX) s zQA (0, [], [], w)) : zk_G2 zPT (zk_I 64 zHX) s zQM (0, [], [], w) := by
  obtain ⟨⟨g1, g2, g3, g4, g5, g6⟩, k1, k2⟩ := h
  refine ⟨⟨g1, g2, g3, g4, fun e he => ?_, g6⟩, k1, k2⟩
  obtain ⟨c, hc, h1⟩ := List.any_eq_true.mp (List.all_eq_true.mp (by decide +kernel : zQCm.all (fun e => zQC.any (fun c => zl_pos zQA.1.2.2.2.1 (zl_sub e c))) = true) e he)
  have h2 := zl_pos_ok g4 h1
  rw [zl_sub_ev] at h2
  have h3 := g5 c hc
  omega
theorem zIv_M {n : Nat} (hn : n ≤ 511) {w : zz_W} (h : zIv zQI n 0 w) : zIv zQM n 0 w := by
  obtain ⟨⟨s, s0, h2⟩, hb⟩ := h
  exact ⟨⟨s, s0, zQA_M (zQI_A h2 s0 hn)⟩, hb⟩
theorem zIv_B {X : zk_St} {n : Nat} {w w' : zz_W} {T : List Nat} (hX : zl_wB X = true) (hn : n ≤ 511) (h : zIv X n 0 w) (hB : zB w T w') : zIv X n 1 w' := by
  obtain ⟨⟨s, s0, h2⟩, hb, c1, c2⟩ := h
  obtain ⟨b1, b2, b3, b4⟩ := zBi_B hB (by omega)
  have hg : ∀ i, i ≠ 16 → i ≠ 17 → i < 329 → zz_g w' i = zz_g w i := by
    obtain ⟨v, N, M, c, ⟨-, -, -, -, -, -, -, -, a⟩, -⟩ := hB
    exact fun i h1 h2 h3 => a i h1 h2 h3
  obtain ⟨v, N, M, c, ⟨hs, -, h16, -, -, -, -, ⟨-, hM⟩, -⟩, -⟩ := hB
  have hI := zI_B hs h16 hM b4 (by omega) hg h2.1.2.2.2.2.2
  exact ⟨⟨s, s0, zG2_B hX hI hg h2⟩, b1, by omega, by omega⟩
theorem zl_i32 (x : Int32) (h : ¬ x < 0) : ∃ k : Nat, k < 2 ^ 31 ∧ x = Int32.ofNat k := by
  have h1 : 0 ≤ x.toInt := by
    have := Int32.not_lt.mp h
    exact Int32.le_iff_toInt_le.mp this
  have h2 := Int32.toInt_lt x
  refine ⟨x.toInt.toNat, by omega, ?_⟩
  rw [← Int32.ofInt_eq_ofNat, Int.toNat_of_nonneg h1, Int32.ofInt_toInt]
end
/-- a method that surely throws -/
theorem zPP_nx {l : Launch} {D : va_G} {cy : Nat → ClassId} {z0 : Nat} {sp : Nat → Nat} {G : State → Prop} {d y : Nat} {q : zk_Ct} {L : List Nat} {XS : List (String × Nat)} {as : List Value} {w : zz_W} (h : zk_PX l zTs D zcl zFK cy z0 sp (zTys cy) G zYN zCN zMQ zRT 64 zHX zPT y q true L (zXE y)) (hd : (Nat.blt q.2.2.2 1000000 && Nat.ble q.2.2.2 (d + 1)) = true) (h5 : 5 ≤ d) (hL : L.all (fun pc => XS.any (fun x => decide (x = zXE y pc))) = true) (ha : as.take q.1.1.2.1.length = as) (hw : w.1 < 16 * 64) : zPP (fun rv w' => rv = [] ∧ ∃ x ∈ XS, zz_MX l zTs D zcl zFK cy z0 sp (zTys cy) G zYN zCN zMQ zRT (d + 1) y as w x.1 (zz_pu w' (3, x.2, 0, 0) 6)) as w q := by
  intro s hG
  obtain ⟨b1, b2⟩ := zz_and hd
  rw [ha] at hG
  obtain ⟨w', s', Q, m1, m2, m3, m4, m5⟩ := h d as w s (by rw [zl_dep_ok b1]; have := zz_ble b2; omega) h5 hw hG
  rcases m4 with ⟨e, -⟩ | ⟨pc, p1, p2, p3⟩
  · cases e
  · obtain ⟨x, x1, x2⟩ := List.any_eq_true.mp (List.all_eq_true.mp hL pc p1)
    have x2 := of_decide_eq_true x2
    exact ⟨[], w', s', Q, m1, ⟨rfl, x, x1, by rw [x2]; exact p2⟩, p3, m5⟩
