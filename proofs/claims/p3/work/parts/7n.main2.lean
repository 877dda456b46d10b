/-! THE CHECK OF A METHOD, on: what it proves -/
noncomputable section
section ZKN
variable {l : Launch} {Ts : List Cond} {D : va_G} {cl : List vw_C} {fk : Nat → Nat → Nat} {cy : Nat → ClassId} {z0 : Nat} {sp : Nat → Nat} {tys : List (ClassId × FieldType)} {G : State → Prop}
variable {yn : Nat → MethodName} {cn : Nat → ByteArray} {ml : Nat → Nat} {rt : Nat → Option FieldType}
variable {c : Nat} {HT : List (List zk_H)} {PT : Nat → zz_W → Prop} {SU : Nat → List (Nat × Nat)} {TS : zk_TY} {M : zk_M} {CT : Nat → Option zk_Ct} {dm d : Nat} {w0 : zk_W0} {own mn : String} {nL : Nat} {cc : ByteArray} {code : List (List zi)} {cs : List zk_Cu} {ps : List zk_St} {mg : Nat} {sg : Nat → Int}
theorem zk_e1_ok (hTT : zk_TT c HT PT SU TS) {X : zk_St} {h : zk_Hn} {R : List (Nat × zk_St)} {pc : Nat}
    (hT : ∀ K, zz_KS l D cl fk cy z0 sp tys G yn (fun y => Cond.code (yn y) (cn y) (ml y) (rt y) :: Ts) d K → zz_TO l Ts D cl fk cy z0 sp tys G own mn nL cc d K (zi_T code)) (hC : ∀ y q, CT y = some q → zk_CA l Ts D cl fk cy z0 sp tys G yn cn ml rt c HT PT d (y % 1000) q) (hd : zl_ev sg (zk_dep dm) ≤ (d : Int)) (hdm : zl_mx (zk_dep dm).2 ≤ mg) (he : zk_e1 HT M SU TS CT code ps mg dm pc X h = some R)
    {s : Nat → Int} {f : zz_F} (hpc : f.1 = pc) (hpv : zk_pv s M.2 w0.2) (hG : zk_G2 PT (zk_J c HT M w0) s X f) (hs : ∀ j, j < mg → s j = sg j) :
    zk_Gd l Ts D cl fk cy z0 sp tys G own mn nL cc d (zi_T code) PT (zk_J c HT M w0) ps mg sg f ∨ ∃ (s' : Nat → Int) (f' : zz_F) (q : Nat × zk_St), zz_B l Ts D cl fk cy z0 sp tys G own mn nL cc d f f' ∧ q ∈ R ∧ f'.1 = q.1 ∧ zk_G2 PT (zk_J c HT M w0) s' q.2 f' ∧ X.1.2.2.2.1.length ≤ q.2.1.2.2.2.1.length ∧ ∀ j, j < X.1.2.2.2.1.length → s' j = s j := by
  unfold zk_e1 at he
  cases hr : (Nat.blt 200 (zi_at code pc).1 && Nat.blt (zi_at code pc).1 208) with
  | true =>
    rw [hr] at he
    have he : (match ps[(h.2.1.getD 0 []).getD 0 0]? with
      | some Q => cond (zk_ret X.1 h.2.1 ((zi_at code pc).1 - 200) && (zk_edg2 HT TS (([], X.1.2.1, X.1.2.2.1, X.1.2.2.2.1, X.1.2.2.2.2), X.2.1, X.2.2) Q h.2.2.1 h.2.2.2 && zk_gh mg 0 h.2.2.1.1)) (some ([] : List (Nat × zk_St))) none
      | none => none) = some R := he
    split at he
    · rename_i Q hQ
      obtain ⟨hb, he⟩ := zz_cond he
      obtain ⟨b1, hb⟩ := zz_and hb
      obtain ⟨b2, b3⟩ := zz_and hb
      obtain ⟨r1, r2⟩ := zz_and hr
      have r1 := zz_blt r1
      have hk : (zz_ent (zi_T code) f.1).1 = (zi_at code pc).1 - 200 := by
        rw [hpc, zi_ent]
        unfold zi_e
        have a1 : Nat.blt (zi_at code pc).1 /-N-/87 = false := by
          cases hb : Nat.blt (zi_at code pc).1 /-N-/87 with
          | false => rfl
          | true => have := zz_blt hb; omega
        rw [a1, hr]
        rfl
      obtain ⟨hG1, hG2, hG3⟩ := hG
      have hrt := zk_ret_ok (T := zi_T code) b1 hk hG1
      obtain ⟨g1, g2, g3, g4, g5, g6⟩ := hG1
      obtain ⟨e1, e2⟩ := zk_edg2_ok hTT (I := zk_J c HT M w0) (fun _ h => h.1) (s := s) (f := (0, [], f.2.2.1, f.2.2.2)) b2 ⟨⟨fun x hx => absurd (show x ∈ ([] : List (Nat × zk_V)) from hx) List.not_mem_nil, g2, g3, g4, g5, g6⟩, hG2, hG3⟩
      refine Or.inl ⟨f, zk_u s h.2.2.1.1, Q, zz_B_rf _, hrt, List.mem_of_getElem? hQ, e1, fun j hj => ?_⟩
      rw [zk_gh_ok (s := s) b3 j hj, Nat.zero_add]
      exact hs j hj
    · cases he
  | false =>
    rw [hr] at he
    obtain ⟨hi, he⟩ := zz_cond he
    exact Or.inr (zk_stp_ok hTT hT hC (zz_blt hi) he (by rw [zl_ev_eq (n := mg) hdm hs]; exact hd) hpc hpv hG)
theorem zk_pv_eq {P : List (Nat × zl_E)} {V : List (Nat × Int)} {mg : Nat} {s sg : Nat → Int} (hl : P.all (fun p => Nat.ble (zl_mx p.2.2) mg) = true) (hs : ∀ j, j < mg → s j = sg j) (h : zk_pv sg P V) : zk_pv s P V := by
  intro p hp
  have := h p hp
  rw [zl_ev_eq (n := mg) (zz_ble (List.all_eq_true.mp hl p hp)) hs]
  exact this
theorem zk_ex_ok (hTT : zk_TT c HT PT SU TS) {mu : zl_E} (hT : ∀ K, zz_KS l D cl fk cy z0 sp tys G yn (fun y => Cond.code (yn y) (cn y) (ml y) (rt y) :: Ts) d K → zz_TO l Ts D cl fk cy z0 sp tys G own mn nL cc d K (zi_T code)) (hC : ∀ y q, CT y = some q → zk_CA l Ts D cl fk cy z0 sp tys G yn cn ml rt c HT PT d (y % 1000) q) (hd : zl_ev sg (zk_dep dm) ≤ (d : Int)) (hdm : zl_mx (zk_dep dm).2 ≤ mg) {nD : Nat} {s0 : Nat → Int} (hP : zk_pv sg M.2 w0.2) (hPl : M.2.all (fun p => Nat.ble (zl_mx p.2.2) mg) = true) (hmu : zl_mx mu.2 ≤ nD) (hmg : mg ≤ nD) (hsg : ∀ j, j < mg → s0 j = sg j)
    (hlow : ∀ q ∈ cs, ∀ (s : Nat → Int) (f : zz_F), f.1 = q.1 → zk_G2 PT (zk_J c HT M w0) s q.2.1 f → (∀ j, j < mg → s j = sg j) → zl_ev s q.2.2 < zl_ev s0 mu → zk_Gd l Ts D cl fk cy z0 sp tys G own mn nL cc d (zi_T code) PT (zk_J c HT M w0) ps mg sg f) :
    ∀ (k : Nat) (W : List (Bool × Nat × zk_St)) (hs : List zk_Hn), zk_ex HT M SU TS CT code cs ps mg dm mu k W hs = true → ∀ x ∈ W, nD ≤ x.2.2.1.2.2.2.1.length → ∀ (s : Nat → Int) (f : zz_F), f.1 = x.2.1 → zk_G2 PT (zk_J c HT M w0) s x.2.2 f → (∀ j, j < nD → s j = s0 j) → zk_Gd l Ts D cl fk cy z0 sp tys G own mn nL cc d (zi_T code) PT (zk_J c HT M w0) ps mg sg f
  | _, [], _, _, x, hx, _, _, _, _, _, _ => absurd hx List.not_mem_nil
  | 0, _ :: _, _, h, _, _, _, _, _, _, _, _ => by cases h
  | _ + 1, _ :: _, [], h, _, _, _, _, _, _, _, _ => by cases h
  | k + 1, y :: W, h0 :: hs, h, x, hx, hl, s, f, hf, hG, hs0 => by
    have hm : (match h0.1 with
    | 1 => match zk_tel HT TS y.2.2 ((h0.2.1.getD 0 []).getD 0 0) (h0.2.2.1.1.getD 0 (zl_con 0)) (h0.2.1.drop 1) with
      | some R => zk_ex HT M SU TS CT code cs ps mg dm mu k (R.map (fun Y => (y.1, y.2.1, Y)) ++ W) hs
      | none => false
    | 3 => match zk_fo2 HT y.2.2 ((h0.2.1.getD 0 []).getD 0 0) ((h0.2.1.getD 0 []).getD 1 0) ((h0.2.1.getD 0 []).getD 2 0) with
      | some Y => zk_ex HT M SU TS CT code cs ps mg dm mu k ((y.1, y.2.1, Y) :: W) hs
      | none => false
    | 7 => match zk_kno HT y.2.2 ((h0.2.1.getD 0 []).getD 0 0) (h0.2.2.1.1.getD 0 (zl_con 0)) (h0.2.1.getD 1 []) (h0.2.1.getD 2 []) with
      | some Y => zk_ex HT M SU TS CT code cs ps mg dm mu k ((y.1, y.2.1, Y) :: W) hs
      | none => false
    | 6 => zl_en y.2.2.1.2.2.2.1 y.2.2.1.2.2.2.2 (h0.2.1.getD 0 []) (zl_con (-1)) && zk_ex HT M SU TS CT code cs ps mg dm mu k W hs
    | 4 => match zk_sam y.2.2 4 h0.2.1 h0.2.2.1.1 with
      | some Y => zk_ex HT M SU TS CT code cs ps mg dm mu k ((y.1, y.2.1, Y) :: W) hs
      | none => false
    | 5 => match zk_sam y.2.2 5 h0.2.1 h0.2.2.1.1 with
      | some Y => zk_ex HT M SU TS CT code cs ps mg dm mu k ((y.1, y.2.1, Y) :: W) hs
      | none => false
    | 2 => zk_ex HT M SU TS CT code cs ps mg dm mu k ((zk_spl y.2.2 (h0.2.2.1.1.getD 0 (zl_con 0)) h0.2.1).map (fun Y => (y.1, y.2.1, Y)) ++ W) hs
    | 8 => zk_ex HT M SU TS CT code cs ps mg dm mu k ((true, y.2.1, y.2.2) :: W) hs
    | 10 => zk_ex HT M SU TS CT code cs ps mg dm mu k ((y.1, y.2.1, zk_les y.2.2 h0.2.1) :: W) hs
    | 11 => match zk_lawp HT TS y.2.2 ((h0.2.1.getD 0 []).getD 0 0) h0.2.2.1.1 (h0.2.1.drop 1) h0.2.2.1.2.1 with
      | some R => zk_ex HT M SU TS CT code cs ps mg dm mu k (R.map (fun Y => (y.1, y.2.1, Y)) ++ W) hs
      | none => false
    | 12 => match zk_cng y.2.2 ((h0.2.1.getD 0 []).getD 0 0) ((h0.2.1.getD 0 []).getD 1 0) (h0.2.1.getD 1 []) (h0.2.1.getD 2 []) with
      | some Y => zk_ex HT M SU TS CT code cs ps mg dm mu k ((y.1, y.2.1, Y) :: W) hs
      | none => false
    | 13 => match zk_vx y.2.2 (h0.2.1.getD 0 []) h0.2.2.1.1 (h0.2.1.drop 1) with
      | some Y => zk_ex HT M SU TS CT code cs ps mg dm mu k ((y.1, y.2.1, Y) :: W) hs
      | none => false
    | 9 => match zk_tel2 HT TS y.2.2 ((h0.2.1.getD 0 []).getD 0 0) (h0.2.2.1.1.getD 0 (zl_con 0)) (h0.2.2.1.1.getD 1 (zl_con 0)) (h0.2.1.drop 1) with
      | some R => zk_ex HT M SU TS CT code cs ps mg dm mu k (R.map (fun Y => (y.1, y.2.1, Y)) ++ W) hs
      | none => false
    | _ => match cond y.1 none (zk_cut cs y.2.1 ((h0.2.1.getD 1 []).getD 0 0)) with
      | some q => zk_edg2 HT TS y.2.2 q.2.1 h0.2.2.1 h0.2.2.2 && (zk_gh mg 0 h0.2.2.1.1 && (Nat.ble (zl_mx q.2.2.2) h0.2.2.1.1.length && (zl_en y.2.2.1.2.2.2.1 y.2.2.1.2.2.2.2 (h0.2.1.getD 0 []) (zl_sub (zl_sub mu (zl_subst h0.2.2.1.1 q.2.2)) (zl_con 1)) && zk_ex HT M SU TS CT code cs ps mg dm mu k W hs)))
      | none => match zk_e1 HT M SU TS CT code ps mg dm y.2.1 y.2.2 h0 with
        | some R => zk_ex HT M SU TS CT code cs ps mg dm mu k (R.map (fun Y => (false, Y.1, Y.2)) ++ W) hs
        | none => false) = true := h
    clear h
    split at hm
    · split at hm
      · rename_i R hR
        rcases List.mem_cons.mp hx with e | hx
        · subst e
          obtain ⟨Y, y1, y2, y3⟩ := zk_tel_ok hTT hR hG
          exact zk_ex_ok hTT hT hC hd hdm hP hPl hmu hmg hsg hlow k _ hs hm (x.1, x.2.1, Y) (List.mem_append_left _ (List.mem_map.mpr ⟨Y, y1, rfl⟩)) (Nat.le_trans hl y3) s f hf y2 hs0
        · exact zk_ex_ok hTT hT hC hd hdm hP hPl hmu hmg hsg hlow k _ hs hm x (List.mem_append_right _ hx) hl s f hf hG hs0
      · cases hm
    · split at hm
      · rename_i Y hY
        rcases List.mem_cons.mp hx with e | hx
        · subst e
          obtain ⟨y1, s', y2, y3⟩ := zk_fo2_ok (fun _ h => h.1) hY hG
          exact zk_ex_ok hTT hT hC hd hdm hP hPl hmu hmg hsg hlow k _ hs hm (x.1, x.2.1, Y) List.mem_cons_self (Nat.le_trans hl y1) s' f hf y2 (fun j hj => by rw [y3 j (by omega)]; exact hs0 j hj)
        · exact zk_ex_ok hTT hT hC hd hdm hP hPl hmu hmg hsg hlow k _ hs hm x (List.mem_cons_of_mem _ hx) hl s f hf hG hs0
      · cases hm
    · split at hm
      · rename_i Y hY
        rcases List.mem_cons.mp hx with e | hx
        · subst e
          obtain ⟨y1, s', y2, y3⟩ := zk_kno_ok (fun _ h => h.1) hY hG
          exact zk_ex_ok hTT hT hC hd hdm hP hPl hmu hmg hsg hlow k _ hs hm (x.1, x.2.1, Y) List.mem_cons_self (Nat.le_trans hl y1) s' f hf y2 (fun j hj => by rw [y3 j (by omega)]; exact hs0 j hj)
        · exact zk_ex_ok hTT hT hC hd hdm hP hPl hmu hmg hsg hlow k _ hs hm x (List.mem_cons_of_mem _ hx) hl s f hf hG hs0
      · cases hm
    · obtain ⟨b1, b2⟩ := zz_and hm
      rcases List.mem_cons.mp hx with e | hx
      · subst e
        have h6 := zl_en_ok hG.1.2.2.2.1 hG.1.2.2.2.2.1 b1
        rw [zl_con_ev] at h6
        omega
      · exact zk_ex_ok hTT hT hC hd hdm hP hPl hmu hmg hsg hlow k _ hs b2 x hx hl s f hf hG hs0
    · split at hm
      · rename_i Y hY
        rcases List.mem_cons.mp hx with e | hx
        · subst e
          obtain ⟨y2, y1⟩ := zk_sam_ok hY hG
          exact zk_ex_ok hTT hT hC hd hdm hP hPl hmu hmg hsg hlow k _ hs hm (x.1, x.2.1, Y) List.mem_cons_self (Nat.le_trans hl y1) s f hf y2 hs0
        · exact zk_ex_ok hTT hT hC hd hdm hP hPl hmu hmg hsg hlow k _ hs hm x (List.mem_cons_of_mem _ hx) hl s f hf hG hs0
      · cases hm
    · split at hm
      · rename_i Y hY
        rcases List.mem_cons.mp hx with e | hx
        · subst e
          obtain ⟨y2, y1⟩ := zk_sam_ok hY hG
          exact zk_ex_ok hTT hT hC hd hdm hP hPl hmu hmg hsg hlow k _ hs hm (x.1, x.2.1, Y) List.mem_cons_self (Nat.le_trans hl y1) s f hf y2 hs0
        · exact zk_ex_ok hTT hT hC hd hdm hP hPl hmu hmg hsg hlow k _ hs hm x (List.mem_cons_of_mem _ hx) hl s f hf hG hs0
      · cases hm
    · rcases List.mem_cons.mp hx with e | hx
      · subst e
        obtain ⟨Y, y1, y2, y3⟩ := zk_spl_ok (e := h0.2.2.1.1.getD 0 (zl_con 0)) (hs := h0.2.1) hG
        exact zk_ex_ok hTT hT hC hd hdm hP hPl hmu hmg hsg hlow k _ hs hm (x.1, x.2.1, Y) (List.mem_append_left _ (List.mem_map.mpr ⟨Y, y1, rfl⟩)) (Nat.le_trans hl y3) s f hf y2 hs0
      · exact zk_ex_ok hTT hT hC hd hdm hP hPl hmu hmg hsg hlow k _ hs hm x (List.mem_append_right _ hx) hl s f hf hG hs0
    · rcases List.mem_cons.mp hx with e | hx
      · subst e
        exact zk_ex_ok hTT hT hC hd hdm hP hPl hmu hmg hsg hlow k _ hs hm (true, x.2.1, x.2.2) List.mem_cons_self hl s f hf hG hs0
      · exact zk_ex_ok hTT hT hC hd hdm hP hPl hmu hmg hsg hlow k _ hs hm x (List.mem_cons_of_mem _ hx) hl s f hf hG hs0
    · rcases List.mem_cons.mp hx with e | hx
      · subst e
        exact zk_ex_ok hTT hT hC hd hdm hP hPl hmu hmg hsg hlow k _ hs hm (x.1, x.2.1, zk_les x.2.2 h0.2.1) List.mem_cons_self hl s f hf (zk_les_ok hG) hs0
      · exact zk_ex_ok hTT hT hC hd hdm hP hPl hmu hmg hsg hlow k _ hs hm x (List.mem_cons_of_mem _ hx) hl s f hf hG hs0
    · split at hm
      · rename_i R hR
        rcases List.mem_cons.mp hx with e | hx
        · subst e
          obtain ⟨Y, y1, y2, s', y3, y4⟩ := zk_lawp_ok hTT (fun _ h => h.1) hR hG
          exact zk_ex_ok hTT hT hC hd hdm hP hPl hmu hmg hsg hlow k _ hs hm (x.1, x.2.1, Y) (List.mem_append_left _ (List.mem_map.mpr ⟨Y, y1, rfl⟩)) (Nat.le_trans hl y2) s' f hf y3 (fun j hj => by rw [y4 j (by omega)]; exact hs0 j hj)
        · exact zk_ex_ok hTT hT hC hd hdm hP hPl hmu hmg hsg hlow k _ hs hm x (List.mem_append_right _ hx) hl s f hf hG hs0
      · cases hm
    · split at hm
      · rename_i Y hY
        rcases List.mem_cons.mp hx with e | hx
        · subst e
          obtain ⟨y2, y1⟩ := zk_cng_ok hY hG
          exact zk_ex_ok hTT hT hC hd hdm hP hPl hmu hmg hsg hlow k _ hs hm (x.1, x.2.1, Y) List.mem_cons_self (Nat.le_trans hl y1) s f hf y2 hs0
        · exact zk_ex_ok hTT hT hC hd hdm hP hPl hmu hmg hsg hlow k _ hs hm x (List.mem_cons_of_mem _ hx) hl s f hf hG hs0
      · cases hm
    · split at hm
      · rename_i Y hY
        rcases List.mem_cons.mp hx with e | hx
        · subst e
          obtain ⟨y2, y1⟩ := zk_vx_ok hY hG
          exact zk_ex_ok hTT hT hC hd hdm hP hPl hmu hmg hsg hlow k _ hs hm (x.1, x.2.1, Y) List.mem_cons_self (Nat.le_trans hl y1) s f hf y2 hs0
        · exact zk_ex_ok hTT hT hC hd hdm hP hPl hmu hmg hsg hlow k _ hs hm x (List.mem_cons_of_mem _ hx) hl s f hf hG hs0
      · cases hm
    · split at hm
      · rename_i R hR
        rcases List.mem_cons.mp hx with e | hx
        · subst e
          obtain ⟨Y, y1, y2, y3⟩ := zk_tel2_ok hTT hR hG
          exact zk_ex_ok hTT hT hC hd hdm hP hPl hmu hmg hsg hlow k _ hs hm (x.1, x.2.1, Y) (List.mem_append_left _ (List.mem_map.mpr ⟨Y, y1, rfl⟩)) (Nat.le_trans hl y3) s f hf y2 hs0
        · exact zk_ex_ok hTT hT hC hd hdm hP hPl hmu hmg hsg hlow k _ hs hm x (List.mem_append_right _ hx) hl s f hf hG hs0
      · cases hm
    · split at hm
      · rename_i q hq
        obtain ⟨b1, hb⟩ := zz_and hm
        obtain ⟨b2, hb⟩ := zz_and hb
        obtain ⟨b3, hb⟩ := zz_and hb
        obtain ⟨b4, b5⟩ := zz_and hb
        rcases List.mem_cons.mp hx with e | hx
        · subst e
          have hq : zk_cut cs x.2.1 ((h0.2.1.getD 1 []).getD 0 0) = some q := by
            cases hb : x.1 with
            | true => rw [hb] at hq; cases hq
            | false => rw [hb] at hq; exact hq
          obtain ⟨m1, m2⟩ := zk_cut_mem hq
          obtain ⟨e1, -⟩ := zk_edg2_ok hTT (fun _ h => h.1) b1 hG
          refine hlow q m1 _ f (by rw [m2]; exact hf) e1 (fun j hj => ?_) ?_
          · rw [zk_gh_ok (s := s) b2 j hj, Nat.zero_add, hs0 j (by omega)]
            exact hsg j hj
          · have h6 := zl_en_ok hG.1.2.2.2.1 hG.1.2.2.2.2.1 b4
            rw [zl_sub_ev, zl_sub_ev, zl_con_ev, zl_subst_ev (u := zk_u s h0.2.2.1.1) (zz_ble b3) zk_u_at, zl_ev_eq (t := s0) (n := nD) hmu hs0] at h6
            omega
        · exact zk_ex_ok hTT hT hC hd hdm hP hPl hmu hmg hsg hlow k W hs b5 x hx hl s f hf hG hs0
      · split at hm
        · rename_i R hR
          rcases List.mem_cons.mp hx with e | hx
          · subst e
            rcases zk_e1_ok (sg := sg) hTT hT hC hd hdm hR hf (zk_pv_eq hPl (fun j hj => by rw [hs0 j (by omega)]; exact hsg j hj) hP) hG (fun j hj => by rw [hs0 j (by omega)]; exact hsg j hj) with hg | ⟨s', f', q, m1, m2, m3, m4, m5, m6⟩
            · exact hg
            · exact zk_Gd_B m1 (zk_ex_ok hTT hT hC hd hdm hP hPl hmu hmg hsg hlow k _ hs hm (false, q.1, q.2) (List.mem_append_left _ (List.mem_map.mpr ⟨q, m2, rfl⟩)) (Nat.le_trans hl m5) s' f' m3 m4 (fun j hj => by rw [m6 j (by omega)]; exact hs0 j hj))
          · exact zk_ex_ok hTT hT hC hd hdm hP hPl hmu hmg hsg hlow k _ hs hm x (List.mem_append_right _ hx) hl s f hf hG hs0
        · cases hm
/-- the check of one cut frame -/
def zk_ck1 (HT : List (List zk_H)) (M : zk_M) (SU : Nat → List (Nat × Nat)) (TS : zk_TY) (CT : Nat → Option zk_Ct) (code : List (List zi)) (cs : List zk_Cu) (ps : List zk_St) (mg dm fuel : Nat) (q : zk_Cu) (hs : List zk_Hn) : Bool := match hs with
  | h0 :: hs => zl_en q.2.1.1.2.2.2.1 q.2.1.1.2.2.2.2 (h0.2.1.getD 0 []) q.2.2 && (Nat.ble (zl_mx q.2.2.2) q.2.1.1.2.2.2.1.length && (Nat.ble mg q.2.1.1.2.2.2.1.length && zk_ex HT M SU TS CT code cs ps mg dm q.2.2 fuel [(true, q.1, q.2.1)] hs))
  | _ => false
def zk_cks (HT : List (List zk_H)) (M : zk_M) (SU : Nat → List (Nat × Nat)) (TS : zk_TY) (CT : Nat → Option zk_Ct) (code : List (List zi)) (cs : List zk_Cu) (ps : List zk_St) (mg dm fuel : Nat) : List zk_Cu → List (List zk_Hn) → Bool
  | [], _ => true
  | q :: qs, h :: hs => zk_ck1 HT M SU TS CT code cs ps mg dm fuel q h && zk_cks HT M SU TS CT code cs ps mg dm fuel qs hs
  | _ :: _, [] => false
theorem zk_cks_mem : ∀ {qs : List zk_Cu} {hs : List (List zk_Hn)} {fuel : Nat}, zk_cks HT M SU TS CT code cs ps mg dm fuel qs hs = true → ∀ q ∈ qs, ∃ h, zk_ck1 HT M SU TS CT code cs ps mg dm fuel q h = true
  | [], _, _, _, q, hq => absurd hq List.not_mem_nil
  | _ :: _, [], _, h, _, _ => by cases h
  | p :: qs, h0 :: hs, fuel, h, q, hq => by
    obtain ⟨b1, b2⟩ := zz_and h
    rcases List.mem_cons.mp hq with e | hq
    · subst e
      exact ⟨h0, b1⟩
    · exact zk_cks_mem b2 q hq
theorem zk_all_cuts (hTT : zk_TT c HT PT SU TS) {fuel : Nat} {H : List (List zk_Hn)} (hT : ∀ K, zz_KS l D cl fk cy z0 sp tys G yn (fun y => Cond.code (yn y) (cn y) (ml y) (rt y) :: Ts) d K → zz_TO l Ts D cl fk cy z0 sp tys G own mn nL cc d K (zi_T code)) (hC : ∀ y q, CT y = some q → zk_CA l Ts D cl fk cy z0 sp tys G yn cn ml rt c HT PT d (y % 1000) q) (hd : zl_ev sg (zk_dep dm) ≤ (d : Int)) (hdm : zl_mx (zk_dep dm).2 ≤ mg) (hP : zk_pv sg M.2 w0.2) (hPl : M.2.all (fun p => Nat.ble (zl_mx p.2.2) mg) = true) (hck : zk_cks HT M SU TS CT code cs ps mg dm fuel cs H = true) :
    ∀ (N : Nat), ∀ q ∈ cs, ∀ (s : Nat → Int) (f : zz_F), f.1 = q.1 → zk_G2 PT (zk_J c HT M w0) s q.2.1 f → (∀ j, j < mg → s j = sg j) → zl_ev s q.2.2 < (N : Int) → zk_Gd l Ts D cl fk cy z0 sp tys G own mn nL cc d (zi_T code) PT (zk_J c HT M w0) ps mg sg f := by
  intro N
  induction N with
  | zero =>
    intro q hq s f hf hG hs hN
    obtain ⟨h, hc⟩ := zk_cks_mem hck q hq
    unfold zk_ck1 at hc
    split at hc
    · obtain ⟨b1, -⟩ := zz_and hc
      have := zl_en_ok hG.1.2.2.2.1 hG.1.2.2.2.2.1 b1
      omega
    · cases hc
  | succ N ih =>
    intro q hq s f hf hG hs hN
    obtain ⟨h, hc⟩ := zk_cks_mem hck q hq
    unfold zk_ck1 at hc
    split at hc
    · rename_i h0 hs1
      obtain ⟨b1, hb⟩ := zz_and hc
      obtain ⟨b2, hb⟩ := zz_and hb
      obtain ⟨b3, b4⟩ := zz_and hb
      exact zk_ex_ok (s0 := s) (nD := q.2.1.1.2.2.2.1.length) hTT hT hC hd hdm hP hPl (zz_ble b2) (zz_ble b3) hs (fun q2 hq2 s2 f2 a1 a2 a3 a4 => ih q2 hq2 s2 f2 a1 a2 a3 (by omega)) fuel _ hs1 b4 (true, q.1, q.2.1) List.mem_cons_self (Nat.le_refl _) s f hf hG (fun _ _ => rfl)
    · cases hc
/-- the check of a whole method -/
def zk_chk (HT : List (List zk_H)) (SU : Nat → List (Nat × Nat)) (TS : zk_TY) (CT : Nat → Option zk_Ct) (code : List (List zi)) (cs : List zk_Cu) (q : zk_Ct) (fuel nl : Nat) (h0 : List zk_Hn) (H : List (List zk_Hn)) : Bool :=
  zk_t3 q.1.1.2.1 && (q.2.2.1.2.all (fun p => Nat.ble (zl_mx p.2.2) q.1.1.2.2.2.1.length) && (Nat.ble (zk_cz q.1.1.2.1) nl && ((zl_pos q.1.1.2.2.2.1 (zl_sub (zk_dep q.2.2.2) (zl_con 1)) && (zl_pos q.1.1.2.2.2.1 (zl_sub (zl_sub (zk_dep q.2.2.2) (zl_con 1)) (zk_dep (q.2.2.2 - 1))) && Nat.ble (zl_mx (zk_dep (q.2.2.2 - 1)).2) q.1.1.2.2.2.1.length)) && (zk_ex HT q.2.2.1 SU TS CT code cs q.2.1 q.1.1.2.2.2.1.length (q.2.2.2 - 1) (zl_con 100000000000000000000000000000000000000000000000000000000000000000000000000000000000000000000000000000000000000000000000000000000000000000000000000000000000000000000000000000000000000000000000000000000) fuel [(false, 0, ((zk_ar 0 q.1.1.2.1, [], q.1.1.2.2.1, q.1.1.2.2.2.1, q.1.1.2.2.2.2), q.1.2.1, q.1.2.2))] h0 && zk_cks HT q.2.2.1 SU TS CT code cs q.2.1 q.1.1.2.2.2.1.length (q.2.2.2 - 1) fuel cs H))))
/-- one deeper than what it calls -/
theorem zk_chk_at (hTT : zk_TT c HT PT SU TS) {y nl fuel : Nat} {q : zk_Ct} {h0 : List zk_Hn} {H : List (List zk_Hn)} {Py : zz_T} (hE : Py = zi_T code) (hT : ∀ (d : Nat) (K : zz_K), zz_KS l D cl fk cy z0 sp tys G yn (fun y => Cond.code (yn y) (cn y) (ml y) (rt y) :: Ts) d K → zz_TO l Ts D cl fk cy z0 sp tys G (yn y).cls (yn y).name (ml y) (cn y) d K Py) (hR : zz_RO (cn y) (rt y) Py) (hy : plainFor (yn y) = true) (hnl : ml y = nl) {d' : Nat} (hC : ∀ y' q', CT y' = some q' → zk_CA l Ts D cl fk cy z0 sp tys G yn cn ml rt c HT PT d' (y' % 1000) q') (h : zk_chk HT SU TS CT code cs q fuel nl h0 H = true) : zk_CA l Ts D cl fk cy z0 sp tys G yn cn ml rt c HT PT (d' + 1) y q := by
  subst hE
  unfold zk_chk at h
  obtain ⟨b1, hb⟩ := zz_and h
  obtain ⟨b6, hb⟩ := zz_and hb
  obtain ⟨b2, hb⟩ := zz_and hb
  obtain ⟨b3, hb⟩ := zz_and hb
  obtain ⟨b4, b5⟩ := zz_and hb
  obtain ⟨-, b3⟩ := zz_and b3
  obtain ⟨b7, b8⟩ := zz_and b3
  intro as w s hd hG
  obtain ⟨⟨g1, g2, g3, g4, g5, g6⟩, k1, k2⟩ := hG
  have g2 : zk_st s q.1.1.2.1 as := g2
  have hd2 : zl_ev s (zk_dep (q.2.2.2 - 1)) ≤ (d' : Int) := by
    have h1 := zl_pos_ok g4 b7
    rw [zl_sub_ev, zl_sub_ev, zl_con_ev] at h1
    omega
  have hP : zk_pv s q.2.2.1.2 (q.2.2.1.2.map (fun p => (p.1, zl_ev s p.2))) := fun p hp => List.mem_map.mpr ⟨p, hp, rfl⟩
  have hcuts := zk_all_cuts (c := c) (w0 := (w, q.2.2.1.2.map (fun p => (p.1, zl_ev s p.2)))) (sg := s) (own := (yn y).cls) (mn := (yn y).name) (nL := ml y) (cc := cn y) (d := d') hTT (hT d') hC hd2 (zz_ble b8) hP b6 b5
  have hG0 : zk_G2 PT (zk_J c HT q.2.2.1 (w, q.2.2.1.2.map (fun p => (p.1, zl_ev s p.2)))) s ((zk_ar 0 q.1.1.2.1, [], q.1.1.2.2.1, q.1.1.2.2.2.1, q.1.1.2.2.2.2), q.1.2.1, q.1.2.2) (0, lv_args 0 as, [], w) := ⟨⟨zk_ar_ok b1 g2, trivial, g3, g4, g5, zk_J_rf g6⟩, k1, k2⟩
  have hgd := zk_ex_ok (c := c) (w0 := (w, q.2.2.1.2.map (fun p => (p.1, zl_ev s p.2)))) (sg := s) (own := (yn y).cls) (mn := (yn y).name) (nL := ml y) (cc := cn y) (d := d') (nD := q.1.1.2.2.2.1.length) (s0 := s) (mu := zl_con 100000000000000000000000000000000000000000000000000000000000000000000000000000000000000000000000000000000000000000000000000000000000000000000000000000000000000000000000000000000000000000000000000000000) hTT (hT d') hC hd2 (zz_ble b8) hP b6 (Nat.zero_le _) (Nat.le_refl _) (fun _ _ => rfl) (fun q2 hq2 s2 f2 a1 a2 a3 a4 => hcuts 100000000000000000000000000000000000000000000000000000000000000000000000000000000000000000000000000000000000000000000000000000000000000000000000000000000000000000000000000000000000000000000000000000000 q2 hq2 s2 f2 a1 a2 a3 (by rw [zl_con_ev] at a4; exact a4)) fuel _ h0 b4 _ List.mem_cons_self (Nat.le_refl _) s (0, lv_args 0 as, [], w) rfl hG0 (fun _ _ => rfl)
  obtain ⟨fr, s', Q, k1, k2, k3, k4, k5⟩ := hgd
  obtain ⟨pc', lv', st', w'⟩ := fr
  obtain ⟨r1, -, r3⟩ := zz_rt_ok (l := l) (z0 := z0) (sp := sp) (P := fun _ => zi_T code) (y := y) hR k2
  refine ⟨st', w', s', Q, k3, ?_, k4, k5⟩
  exact zz_M_B rfl rfl rfl rfl rfl hy (by rw [zk_cz_ok b1 g2, hnl]; exact zz_ble b2) r1 r3 k1
/-- without any depth there is nothing to show -/
theorem zk_chk_0 {y nl fuel : Nat} {q : zk_Ct} {h0 : List zk_Hn} {H : List (List zk_Hn)} (h : zk_chk HT SU TS CT code cs q fuel nl h0 H = true) : zk_CA l Ts D cl fk cy z0 sp tys G yn cn ml rt c HT PT 0 y q := by
  unfold zk_chk at h
  obtain ⟨-, hb⟩ := zz_and h
  obtain ⟨-, hb⟩ := zz_and hb
  obtain ⟨-, hb⟩ := zz_and hb
  obtain ⟨b3, -⟩ := zz_and hb
  obtain ⟨b3, -⟩ := zz_and b3
  intro as w s hd hG
  obtain ⟨⟨g1, g2, g3, g4, g5, g6⟩, k1, k2⟩ := hG
  exfalso
  have h1 := zl_pos_ok g4 b3
  rw [zl_sub_ev, zl_con_ev] at h1
  have hd : zl_ev s (zk_dep q.2.2.2) ≤ 0 := hd
  omega
theorem zk_chk_ok (hTT : zk_TT c HT PT SU TS) {y nl fuel : Nat} {q : zk_Ct} {h0 : List zk_Hn} {H : List (List zk_Hn)} {Py : zz_T} (hE : Py = zi_T code) (hT : ∀ (d : Nat) (K : zz_K), zz_KS l D cl fk cy z0 sp tys G yn (fun y => Cond.code (yn y) (cn y) (ml y) (rt y) :: Ts) d K → zz_TO l Ts D cl fk cy z0 sp tys G (yn y).cls (yn y).name (ml y) (cn y) d K Py) (hR : zz_RO (cn y) (rt y) Py) (hy : plainFor (yn y) = true) (hnl : ml y = nl) (hC : ∀ y' q', CT y' = some q' → zk_Con l Ts D cl fk cy z0 sp tys G yn cn ml rt c HT PT (y' % 1000) q') (h : zk_chk HT SU TS CT code cs q fuel nl h0 H = true) : zk_Con l Ts D cl fk cy z0 sp tys G yn cn ml rt c HT PT y q := by
  intro d
  cases d with
  | zero => exact zk_chk_0 h
  | succ d' => exact zk_chk_at hTT hE hT hR hy hnl (fun y' q' h' => hC y' q' h' d') h
/-- contracts of methods that call each other: what holds one less deep gives what holds -/
theorem zk_rec {L : List (Nat × zk_Ct)} (h0 : ∀ p ∈ L, zk_CA l Ts D cl fk cy z0 sp tys G yn cn ml rt c HT PT 0 (p.1 % 1000) p.2) (h1 : ∀ d, (∀ p ∈ L, zk_CA l Ts D cl fk cy z0 sp tys G yn cn ml rt c HT PT d (p.1 % 1000) p.2) → ∀ p ∈ L, zk_CA l Ts D cl fk cy z0 sp tys G yn cn ml rt c HT PT (d + 1) (p.1 % 1000) p.2) : ∀ p ∈ L, zk_Con l Ts D cl fk cy z0 sp tys G yn cn ml rt c HT PT (p.1 % 1000) p.2 := by
  have h : ∀ d, ∀ p ∈ L, zk_CA l Ts D cl fk cy z0 sp tys G yn cn ml rt c HT PT d (p.1 % 1000) p.2 := by
    intro d
    induction d with
    | zero => exact h0
    | succ d ih => exact h1 d ih
  exact fun p hp d => h d p hp
end ZKN
end
