/-! THE CHECK OF A METHOD: cut frames, roads between them that the kernel goes, a number that gets less; then the method keeps its contract -/
/-- how many places values take -/
def zk_cz (T : List zk_V) : Nat := match T with
  | [] => 0
  | a :: T => cond (Nat.beq a.1 1) 2 1 + zk_cz T
def zk_t3 (T : List zk_V) : Bool := T.all (fun a => Nat.ble a.1 3)
theorem zk_cz_ok {s : Nat → Int} : ∀ {T : List zk_V} {st : List Value}, zk_t3 T = true → zk_st s T st → zz_cs st = zk_cz T
  | [], [], _, _ => rfl
  | [], _ :: _, _, h => h.elim
  | _ :: _, [], _, h => h.elim
  | a :: T, v :: st, ht, h => by
    unfold zk_t3 at ht
    rw [List.all_cons] at ht
    obtain ⟨t1, t2⟩ := zz_and ht
    have h2 : zz_cs (v :: st) = v.category + zz_cs st := by unfold zz_cs; simp
    rw [h2, zk_cz_ok (T := T) t2 h.2]
    show _ = cond (Nat.beq a.1 1) 2 1 + zk_cz T
    have hc := zk_cat h.1 t1
    rw [← hc]
    rcases lv_cat v with e | e
    · rw [e]; rfl
    · rw [e]; rfl
theorem zk_st_len {s : Nat → Int} : ∀ {T : List zk_V} {st : List Value}, zk_st s T st → st.length = T.length
  | [], [], _ => rfl
  | [], _ :: _, h => h.elim
  | _ :: _, [], h => h.elim
  | a :: T, v :: st, h => by
    rw [List.length_cons, List.length_cons, zk_st_len h.2]
theorem zk_st_split {s : Nat → Int} : ∀ {A B : List zk_V} {st : List Value}, zk_st s (A ++ B) st → ∃ x y, st = x ++ y ∧ zk_st s A x ∧ zk_st s B y
  | [], B, st, h => ⟨[], st, rfl, trivial, h⟩
  | a :: A, B, [], h => h.elim
  | a :: A, B, v :: st, h => by
    obtain ⟨x, y, e, h1, h2⟩ := zk_st_split (A := A) h.2
    exact ⟨v :: x, y, by rw [e]; rfl, ⟨h.1, h1⟩, h2⟩
theorem zk_st_rev {s : Nat → Int} : ∀ {A : List zk_V} {st : List Value}, zk_st s A st → zk_st s A.reverse st.reverse
  | [], [], _ => trivial
  | [], _ :: _, h => h.elim
  | _ :: _, [], h => h.elim
  | a :: A, v :: st, h => by
    rw [List.reverse_cons, List.reverse_cons]
    exact zk_st_app (zk_st_rev h.2) ⟨h.1, trivial⟩
/-- a return's kind fits the operands -/
def zk_ret (A : zk_A) (hs : List (List Nat)) (k : Nat) : Bool := match k, A.2.1 with
  | 1, [] => true
  | 2, [(0, _, _)] => true
  | 3, [(0, _, e)] => zl_en A.2.2.2.1 A.2.2.2.2 (hs.getD 1 []) e && zl_en A.2.2.2.1 A.2.2.2.2 (hs.getD 2 []) (zl_sub (zl_con 1) e)
  | 4, [(1, _, _)] => true
  | 5, [(2, _, _)] => true
  | 5, [(3, _, _)] => true
  | _, _ => false
theorem zk_ret_ok {I : zz_W → Prop} {A : zk_A} {hs : List (List Nat)} {k : Nat} {T : zz_T} {s : Nat → Int} {f : zz_F} (h : zk_ret A hs k = true) (hk : (zz_ent T f.1).1 = k) (hG : zk_G I s A f) : zz_rt T f = some (f.2.2.1, f.2.2.2) := by
  obtain ⟨L, T0, F, B, C⟩ := A
  obtain ⟨p, lv, st, w⟩ := f
  obtain ⟨g1, g2, g3, g4, g5, g6⟩ := hG
  change zk_st s T0 st at g2
  change (zz_ent T p).1 = k at hk
  unfold zk_ret at h
  split at h
  · rename_i hT
    have hT : T0 = [] := hT
    subst hT
    cases st with
    | nil =>
      unfold zz_rt
      rw [show (zz_ent T ((p, lv, [], w) : zz_F).1).1 = 1 from hk]
      rfl
    | cons _ _ => exact g2.elim
  · rename_i d e hT
    have hT : T0 = [(0, d, e)] := hT
    subst hT
    obtain ⟨x, r, q1, -, q3⟩ := zk_st_int g2 rfl
    subst q1
    cases r with
    | nil =>
      unfold zz_rt
      rw [show (zz_ent T ((p, lv, [Value.int x], w) : zz_F).1).1 = 2 from hk]
      rfl
    | cons _ _ => exact q3.elim
  · rename_i d e hT
    have hT : T0 = [(0, d, e)] := hT
    subst hT
    obtain ⟨x, r, q1, q2, q3⟩ := zk_st_int g2 rfl
    subst q1
    obtain ⟨b1, b2⟩ := zz_and h
    have c1 := zl_en_ok g4 g5 b1
    have c2 := zl_en_ok g4 g5 b2
    rw [zl_sub_ev, zl_con_ev] at c2
    have q2 : x.toInt = zl_ev s e := q2
    have hn := zk_nI (x := x) (by omega)
    have hb : Nat.blt (zz_nI x) 2 = true := Nat.ble_eq.mpr (by omega)
    cases r with
    | nil =>
      unfold zz_rt
      rw [show (zz_ent T ((p, lv, [Value.int x], w) : zz_F).1).1 = 3 from hk]
      show cond (Nat.blt (zz_nI x) 2) (some ([Value.int x], w)) none = _
      rw [hb]
      rfl
    | cons _ _ => exact q3.elim
  · rename_i d e hT
    have hT : T0 = [(1, d, e)] := hT
    subst hT
    obtain ⟨x, r, q1, q3⟩ := zk_st_long g2 rfl
    subst q1
    cases r with
    | nil =>
      unfold zz_rt
      rw [show (zz_ent T ((p, lv, [Value.long x], w) : zz_F).1).1 = 4 from hk]
      rfl
    | cons _ _ => exact q3.elim
  · rename_i d e hT
    have hT : T0 = [(2, d, e)] := hT
    subst hT
    obtain ⟨v, r, q1, q2, q3⟩ := zk_st_cons g2
    have e3 : v = .ref d := q2.2.2.1 rfl
    subst e3
    subst q1
    cases r with
    | nil =>
      unfold zz_rt
      rw [show (zz_ent T ((p, lv, [Value.ref d], w) : zz_F).1).1 = 5 from hk]
      rfl
    | cons _ _ => exact q3.elim
  · rename_i d e hT
    have hT : T0 = [(3, d, e)] := hT
    subst hT
    obtain ⟨v, r, q1, q2, q3⟩ := zk_st_cons g2
    have e3 : v = .null := q2.2.2.2 rfl
    subst e3
    subst q1
    cases r with
    | nil =>
      unfold zz_rt
      rw [show (zz_ent T ((p, lv, [Value.null], w) : zz_F).1).1 = 5 from hk]
      rfl
    | cons _ _ => exact q3.elim
  · cases h
/-- hints of one place: of the instruction, of an edge -/
abbrev zk_Hn : Type := List (List Nat) × zk_Eh
/-- cut frames: place, frame, the number that gets less -/
abbrev zk_Cu : Type := Nat × zk_A × zl_E
def zk_cut (cs : List zk_Cu) (pc : Nat) : Option zk_Cu := match cs with
  | [] => none
  | q :: r => cond (Nat.beq q.1 pc) (some q) (zk_cut r pc)
theorem zk_cut_mem {pc : Nat} {q : zk_Cu} : ∀ {cs : List zk_Cu}, zk_cut cs pc = some q → q ∈ cs ∧ q.1 = pc
  | [], h => by cases h
  | c :: r, h => by
    unfold zk_cut at h
    cases hb : Nat.beq c.1 pc with
    | true =>
      rw [hb] at h
      cases h
      exact ⟨List.mem_cons_self, zz_beq hb⟩
    | false =>
      rw [hb] at h
      obtain ⟨h1, h2⟩ := zk_cut_mem h
      exact ⟨List.mem_cons_of_mem _ h1, h2⟩
/-- a call: what comes in fits the contract; what goes out -/
def zk_cok (HT : List (List zk_H)) (M : List (Nat × Nat)) (A : zk_A) (as R : List zk_V) (q : zk_Ct) (dm : Nat) (h : zk_Eh) : Bool :=
  zk_edge ([], as, A.2.2.1, A.2.2.2.1, A.2.2.2.2) q.1 h && (Nat.ble q.2.2.2 dm && (q.2.2.1.all (fun x => zk_inM M x.1 x.2) && (zk_wf A.2.2.2.1.length A.1 R A.2.2.1 A.2.2.2.2 && (h.1.all (fun e => Nat.ble e.2.length A.2.2.2.1.length) && (A.2.2.1.all (fun x => Nat.beq (zk_h HT x.1.1).1 3) && (Nat.ble (zk_cz R) 8 && (zk_t3 R && q.2.1.all (fun Q => zk_wq Q && Nat.ble q.1.2.2.2.1.length Q.2.2.2.1.length))))))))
/-- one of its sums is a number below 0: there is no such frame -/
def zk_fal (A : zk_A) : Bool := A.2.2.2.2.any (fun e => match zl_c e with
  | some v => decide (v < 0)
  | none => false)
theorem zk_fal_ok {I : zz_W → Prop} {s : Nat → Int} {A : zk_A} {f : zz_F} (h : zk_G I s A f) : zk_fal A = false := by
  cases hb : zk_fal A with
  | false => rfl
  | true =>
    obtain ⟨e, e1, e2⟩ := List.any_eq_true.mp hb
    have h5 := h.2.2.2.2.1 e e1
    split at e2
    · rename_i v hv
      have h6 : v < 0 := of_decide_eq_true e2
      rw [zl_c_ok hv] at h5
      omega
    · cases e2
def zk_cal (HT : List (List zk_H)) (M : List (Nat × Nat)) (A : zk_A) (as R : List zk_V) (q : zk_Ct) (dm n : Nat) (h : zk_Eh) : Option (List (Nat × zk_A)) :=
  cond (zk_cok HT M A as R q dm h) (some ((q.2.1.map (fun Q => (n, zk_out A R h.1 q.1.2.2.2.1.length q.2.2.1 Q))).filter (fun x => !(zk_fal x.2)))) none
/-- one place: an instruction or a call -/
def zk_stp (HT : List (List zk_H)) (M : List (Nat × Nat)) (CT : Nat → Option zk_Ct) (dm : Nat) (i : zi) (A : zk_A) (h : zk_Hn) : Option (List (Nat × zk_A)) :=
  cond (Nat.beq i.1 71) (match A.2.1.drop (zi_p i.2.1 3), CT (zi_p i.2.1 2) with
    | (2, b, e) :: R, some q => cond (Nat.beq (A.2.1.take (zi_p i.2.1 3)).length (zi_p i.2.1 3) && (Nat.beq (zk_h HT b).1 3 && Nat.beq (zk_h HT b).2.1 (zi_p i.2.1 1))) (zk_cal HT M A ((2, b, e) :: (A.2.1.take (zi_p i.2.1 3)).reverse) R q dm (zi_p i.2.1 0) h.2) none
    | _, _ => none)
  (cond (Nat.beq i.1 72) (match CT (zi_p i.2.1 1) with
    | some q => cond (Nat.beq (A.2.1.take (zi_p i.2.1 2)).length (zi_p i.2.1 2)) (zk_cal HT M A (A.2.1.take (zi_p i.2.1 2)).reverse (A.2.1.drop (zi_p i.2.1 2)) q dm (zi_p i.2.1 0) h.2) none
    | none => none)
  (zi_tr HT M h.1 i A))
/-- one place: home, or where it goes on -/
def zk_e1 (HT : List (List zk_H)) (M : List (Nat × Nat)) (CT : Nat → Option zk_Ct) (code : List (List zi)) (ps : List zk_A) (mg dm : Nat) (pc : Nat) (A : zk_A) (h : zk_Hn) : Option (List (Nat × zk_A)) :=
  cond (Nat.blt 200 (zi_at code pc).1 && Nat.blt (zi_at code pc).1 208)
    (match ps[(h.1.getD 0 []).getD 0 0]? with
      | some Q => cond (zk_ret A h.1 ((zi_at code pc).1 - 200) && (zk_edge ([], A.2.1, A.2.2.1, A.2.2.2.1, A.2.2.2.2) Q h.2 && zk_gh mg 0 h.2.1)) (some []) none
      | none => none)
    (cond (Nat.blt (zi_at code pc).1 73) (zk_stp HT M CT dm (zi_at code pc) A h) none)
/-- roads: all of these frames come to cut frames with a lesser number, or home -/
def zk_ex (HT : List (List zk_H)) (M : List (Nat × Nat)) (CT : Nat → Option zk_Ct) (code : List (List zi)) (cs : List zk_Cu) (ps : List zk_A) (mg dm : Nat) (mu : zl_E) : Nat → List (Nat × zk_A) → List zk_Hn → Bool
  | _, [], _ => true
  | 0, _ :: _, _ => false
  | _ + 1, _ :: _, [] => false
  | k + 1, x :: W, h :: hs => match zk_cut cs x.1 with
    | some q => zk_edge x.2 q.2.1 h.2 && (zk_gh mg 0 h.2.1 && (Nat.ble q.2.2.2.length h.2.1.length && (zl_en x.2.2.2.2.1 x.2.2.2.2.2 (h.1.getD 0 []) (zl_sub (zl_sub mu (zl_subst h.2.1 q.2.2)) (zl_con 1)) && zk_ex HT M CT code cs ps mg dm mu k W hs)))
    | none => match zk_e1 HT M CT code ps mg dm x.1 x.2 h with
      | some R => zk_ex HT M CT code cs ps mg dm mu k (R ++ W) hs
      | none => false
section ZKM
variable {l : Launch} {Ts : List Cond} {D : va_G} {cl : List vw_C} {fk : Nat → Nat → Nat} {cy : Nat → ClassId} {z0 : Nat} {sp : Nat → Nat} {tys : List (ClassId × FieldType)} {G : State → Prop}
variable {yn : Nat → MethodName} {cn : Nat → ByteArray} {ml : Nat → Nat} {rt : Nat → Option FieldType}
/-- the method y keeps the contract q -/
def zk_Con (l : Launch) (Ts : List Cond) (D : va_G) (cl : List vw_C) (fk : Nat → Nat → Nat) (cy : Nat → ClassId) (z0 : Nat) (sp : Nat → Nat) (tys : List (ClassId × FieldType)) (G : State → Prop) (yn : Nat → MethodName) (cn : Nat → ByteArray) (ml : Nat → Nat) (rt : Nat → Option FieldType) (c : Nat) (HT : List (List zk_H)) (y : Nat) (q : zk_Ct) : Prop :=
  ∀ (d : Nat), q.2.2.2 ≤ d → ∀ (as : List Value) (w : zz_W) (s : Nat → Int), zk_G (zk_I c HT) s q.1 (0, [], as, w) →
    ∃ (rv : List Value) (w' : zz_W) (s' : Nat → Int) (Q : zk_A), Q ∈ q.2.1 ∧ zz_M l Ts D cl fk cy z0 sp tys G yn cn ml rt d y as w rv w' ∧ zk_G (zk_J c HT q.2.2.1 w) s' Q (0, [], rv, w') ∧ ∀ j, j < q.1.2.2.2.1.length → s' j = s j
/-- a frame that comes home -/
def zk_Gd (l : Launch) (Ts : List Cond) (D : va_G) (cl : List vw_C) (fk : Nat → Nat → Nat) (cy : Nat → ClassId) (z0 : Nat) (sp : Nat → Nat) (tys : List (ClassId × FieldType)) (G : State → Prop) (own mn : String) (nL : Nat) (cc : ByteArray) (d : Nat) (T : zz_T) (I : zz_W → Prop) (ps : List zk_A) (mg : Nat) (s0 : Nat → Int) (f : zz_F) : Prop :=
  ∃ (fr : zz_F) (s' : Nat → Int) (Q : zk_A), zz_B l Ts D cl fk cy z0 sp tys G own mn nL cc d f fr ∧ zz_rt T fr = some (fr.2.2.1, fr.2.2.2) ∧ Q ∈ ps ∧ zk_G I s' Q (0, [], fr.2.2.1, fr.2.2.2) ∧ ∀ j, j < mg → s' j = s0 j
theorem zk_Gd_B {own mn : String} {nL : Nat} {cc : ByteArray} {d : Nat} {T : zz_T} {I : zz_W → Prop} {ps : List zk_A} {mg : Nat} {s0 : Nat → Int} {f g : zz_F} (hB : zz_B l Ts D cl fk cy z0 sp tys G own mn nL cc d f g) (h : zk_Gd l Ts D cl fk cy z0 sp tys G own mn nL cc d T I ps mg s0 g) : zk_Gd l Ts D cl fk cy z0 sp tys G own mn nL cc d T I ps mg s0 f := by
  obtain ⟨fr, s', Q, h1, h2⟩ := h
  exact ⟨fr, s', Q, zz_B_tr hB h1, h2⟩
/-- one place is sound -/
theorem zk_stp_ok {c : Nat} {HT : List (List zk_H)} {M : List (Nat × Nat)} {CT : Nat → Option zk_Ct} {dm d : Nat} {w0 : zz_W} {own mn : String} {nL : Nat} {cc : ByteArray} {code : List (List zi)} {A : zk_A} {h : zk_Hn} {R : List (Nat × zk_A)} {pc : Nat}
    (hT : ∀ K, zz_KS l D cl fk cy z0 sp tys G yn (fun y => Cond.code (yn y) (cn y) (ml y) (rt y) :: Ts) d K → zz_TO l Ts D cl fk cy z0 sp tys G own mn nL cc d K (zi_T code)) (hC : ∀ y q, CT y = some q → zk_Con l Ts D cl fk cy z0 sp tys G yn cn ml rt c HT y q) (hd : dm ≤ d) (hi : (zi_at code pc).1 < 73) (hs : zk_stp HT M CT dm (zi_at code pc) A h = some R)
    {s : Nat → Int} {f : zz_F} (hpc : f.1 = pc) (hG : zk_G (zk_J c HT M w0) s A f) : ∃ (s' : Nat → Int) (f' : zz_F) (q : Nat × zk_A), zz_B l Ts D cl fk cy z0 sp tys G own mn nL cc d f f' ∧ q ∈ R ∧ f'.1 = q.1 ∧ zk_G (zk_J c HT M w0) s' q.2 f' ∧ A.2.2.2.1.length ≤ q.2.2.2.2.1.length ∧ ∀ j, j < A.2.2.2.1.length → s' j = s j := by
  have hent : zz_ent (zi_T code) pc = (0, zi_act (zi_at code pc)) := by
    rw [zi_ent]
    unfold zi_e
    rw [show Nat.blt (zi_at code pc).1 73 = true from Nat.ble_eq.mpr hi]
    rfl
  have hcal : ∀ (as Rr : List zk_V) (q : zk_Ct) (y n : Nat) (vs r : List Value) (p : Nat) (lv : List (Nat × Value)) (w : zz_W), CT y = some q → zk_cal HT M A as Rr q dm n h.2 = some R → zk_st s as vs → zk_st s Rr r → zk_lc s A.1 lv → zk_fl s A.2.2.1 w → zl_in s A.2.2.2.1 → zk_cs s A.2.2.2.2 → zk_J c HT M w0 w →
      ∃ (rv : List Value) (w' : zz_W) (s' : Nat → Int) (q' : Nat × zk_A), zz_M l Ts D cl fk cy z0 sp tys G yn cn ml rt d y vs w rv w' ∧ zz_cs r ≤ 8 ∧ q' ∈ R ∧ n = q'.1 ∧ zk_G (zk_J c HT M w0) s' q'.2 (n, lv, rv ++ r, w') ∧ A.2.2.2.1.length ≤ q'.2.2.2.2.1.length ∧ ∀ j, j < A.2.2.2.1.length → s' j = s j := by
    intro as Rr q y n vs r p lv w hq hcl hv hr g1 g3 g4 g5 g6
    unfold zk_cal at hcl
    obtain ⟨hb, hcl⟩ := zz_cond hcl
    cases hcl
    unfold zk_cok at hb
    obtain ⟨b1, hb⟩ := zz_and hb
    obtain ⟨b2, hb⟩ := zz_and hb
    obtain ⟨b3, hb⟩ := zz_and hb
    obtain ⟨b4, hb⟩ := zz_and hb
    obtain ⟨b5, hb⟩ := zz_and hb
    obtain ⟨b6, hb⟩ := zz_and hb
    obtain ⟨b7, hb⟩ := zz_and hb
    obtain ⟨b8, b9⟩ := zz_and hb
    obtain ⟨e1, e2⟩ := zk_edge_ok (I := zk_I c HT) (s := s) (f := (0, [], vs, w)) b1 ⟨fun x hx => absurd (show x ∈ ([] : List (Nat × zk_V)) from hx) List.not_mem_nil, hv, g3, g4, g5, g6.1⟩
    obtain ⟨rv, w', s', Q, k1, k2, k3, k4⟩ := hC y q hq d (Nat.le_trans (zz_ble b2) hd) vs w (zk_u s h.2.1) e1
    have hQ := List.all_eq_true.mp b9 Q k1
    obtain ⟨c1, c2⟩ := zz_and hQ
    obtain ⟨o1, s2, o2, o3⟩ := zk_out_ok (p := 0) (n := n) b4 b5 e2.symm (zz_ble c2) c1 b6 (fun x hx => zk_inM_ok (List.all_eq_true.mp b3 x hx)) g1 hr g3 g4 g5 g6 k3 k4
    refine ⟨rv, w', s2, (n, zk_out A Rr h.2.1 q.1.2.2.2.1.length q.2.2.1 Q), k2, ?_, List.mem_filter.mpr ⟨List.mem_map.mpr ⟨Q, k1, rfl⟩, by rw [zk_fal_ok o2]; rfl⟩, rfl, o2, o1, o3⟩
    rw [zk_cz_ok b8 hr]
    exact zz_ble b7
  obtain ⟨p, lv, st, w⟩ := f
  have hpc : p = pc := hpc
  subst hpc
  unfold zk_stp at hs
  cases h63 : Nat.beq (zi_at code p).1 71 with
  | true =>
    rw [h63] at hs
    have e63 := zz_beq h63
    have hs : (match A.2.1.drop (zi_p (zi_at code p).2.1 3), CT (zi_p (zi_at code p).2.1 2) with
      | (2, b, e) :: R', some q => cond (Nat.beq (A.2.1.take (zi_p (zi_at code p).2.1 3)).length (zi_p (zi_at code p).2.1 3) && (Nat.beq (zk_h HT b).1 3 && Nat.beq (zk_h HT b).2.1 (zi_p (zi_at code p).2.1 1))) (zk_cal HT M A ((2, b, e) :: (A.2.1.take (zi_p (zi_at code p).2.1 3)).reverse) R' q dm (zi_p (zi_at code p).2.1 0) h.2) none
      | _, _ => none) = some R := hs
    split at hs
    · rename_i b e Rr q hdrop hq
      obtain ⟨hb, hs⟩ := zz_cond hs
      obtain ⟨b1, hb⟩ := zz_and hb
      obtain ⟨b2, b3⟩ := zz_and hb
      obtain ⟨g1, g2, g3, g4, g5, g6⟩ := hG
      have g2 : zk_st s A.2.1 st := g2
      rw [← List.take_append_drop (zi_p (zi_at code p).2.1 3) A.2.1, hdrop] at g2
      obtain ⟨x, y, q1, q2, q3⟩ := zk_st_split g2
      obtain ⟨v, r, q4, q5, q6⟩ := zk_st_cons q3
      have e3 : v = .ref b := q5.2.2.1 rfl
      subst e3
      have hst : st = x.reverse.reverse ++ .ref b :: r := by rw [List.reverse_reverse, q1, q4]
      obtain ⟨rv, w', s', q', m1, m2, m3, m4, m5, m6, m7⟩ := hcal _ _ q _ _ (.ref b :: x.reverse) r p lv w hq hs ⟨q5, zk_st_rev q2⟩ q6 g1 g3 g4 g5 g6
      obtain ⟨o1, o2, o3, -⟩ := g6.1.2.2.2 b (by have := zz_beq b2; omega)
      have hic : zz_ic w b (zi_p (zi_at code p).2.1 1) = true := by
        unfold zz_ic
        have a1 : Nat.blt b w.1 = true := Nat.ble_eq.mpr o1
        have a2 : Nat.blt b 1000000 = true := Nat.ble_eq.mpr (by have := g6.1.2.2.1; omega)
        rw [o2, o3, a1, a2, b2, b3]
        rfl
      refine ⟨s', (zi_p (zi_at code p).2.1 0, lv, rv ++ r, w'), q', ?_, m3, m4, m5, m6, m7⟩
      have hact : zi_act (zi_at code p) = za_callV (zi_p (zi_at code p).2.1 1) (zi_p (zi_at code p).2.1 2) (zi_p (zi_at code p).2.1 3) (zi_p (zi_at code p).2.1 0) := by
        unfold zi_act
        rw [e63]
        rfl
      rw [hact] at hent
      exact zz_sV hT hent m1 hst (by rw [List.length_reverse, zk_st_len q2]; exact zz_beq b1) hic m2 (zz_B_rf _)
    · cases hs
  | false =>
    rw [h63] at hs
    cases h64 : Nat.beq (zi_at code p).1 72 with
    | true =>
      rw [h64] at hs
      have e64 := zz_beq h64
      have hs : (match CT (zi_p (zi_at code p).2.1 1) with
        | some q => cond (Nat.beq (A.2.1.take (zi_p (zi_at code p).2.1 2)).length (zi_p (zi_at code p).2.1 2)) (zk_cal HT M A (A.2.1.take (zi_p (zi_at code p).2.1 2)).reverse (A.2.1.drop (zi_p (zi_at code p).2.1 2)) q dm (zi_p (zi_at code p).2.1 0) h.2) none
        | none => none) = some R := hs
      split at hs
      · rename_i q hq
        obtain ⟨b1, hs⟩ := zz_cond hs
        obtain ⟨g1, g2, g3, g4, g5, g6⟩ := hG
        have g2 : zk_st s A.2.1 st := g2
        rw [← List.take_append_drop (zi_p (zi_at code p).2.1 2) A.2.1] at g2
        obtain ⟨x, r, q1, q2, q3⟩ := zk_st_split g2
        have hst : st = x.reverse.reverse ++ r := by rw [List.reverse_reverse, q1]
        obtain ⟨rv, w', s', q', m1, m2, m3, m4, m5, m6, m7⟩ := hcal _ _ q _ _ x.reverse r p lv w hq hs (zk_st_rev q2) q3 g1 g3 g4 g5 g6
        refine ⟨s', (zi_p (zi_at code p).2.1 0, lv, rv ++ r, w'), q', ?_, m3, m4, m5, m6, m7⟩
        have hact : zi_act (zi_at code p) = za_callS (zi_p (zi_at code p).2.1 1) (zi_p (zi_at code p).2.1 2) (zi_p (zi_at code p).2.1 0) := by
          unfold zi_act
          rw [e64]
          rfl
        rw [hact] at hent
        exact zz_sS hT hent m1 hst (by rw [List.length_reverse, zk_st_len q2]; exact zz_beq b1) m2 (zz_B_rf _)
      · cases hs
    | false =>
      rw [h64] at hs
      obtain ⟨s', f', q, m1, m2, m3, m4, m5, m6⟩ := zi_tr_ok (c := c) (w0 := w0) (show zi_tr HT M h.1 (zi_at code p) A = some R from hs) zz_k0 s (p, lv, st, w) hG
      exact ⟨s', f', q, zz_sg (hT _ zz_k0_KS) hent m1 (zz_B_rf _), m2, m3, m4, m5, m6⟩
end ZKM
