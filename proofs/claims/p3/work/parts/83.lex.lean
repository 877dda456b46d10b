/-! CALLS OF THE LAW: from what holds between calls, by a contract of one call, to what holds behind it; worlds alone, no code -/
noncomputable section
/-- a step that changes no world: something is told, known, followed, split .. -/
def zl_stp (HT : List (List zk_H)) (TS : zk_TY) (X : zk_St) (h0 : zk_Hn) : Option (List zk_St) := match h0.1 with
  | 1 => zk_tel HT TS X ((h0.2.1.getD 0 []).getD 0 0) (h0.2.2.1.1.getD 0 (zl_con 0)) (h0.2.1.drop 1)
  | 3 => (zk_fo2 HT X ((h0.2.1.getD 0 []).getD 0 0) ((h0.2.1.getD 0 []).getD 1 0) ((h0.2.1.getD 0 []).getD 2 0)).map (fun Y => [Y])
  | 7 => (zk_kno HT X ((h0.2.1.getD 0 []).getD 0 0) (h0.2.2.1.1.getD 0 (zl_con 0)) (h0.2.1.getD 1 []) (h0.2.1.getD 2 [])).map (fun Y => [Y])
  | 6 => cond (zl_en X.1.2.2.2.1 X.1.2.2.2.2 (h0.2.1.getD 0 []) (zl_con (-1))) (some []) none
  | 4 => (zk_sam X 4 h0.2.1 h0.2.2.1.1).map (fun Y => [Y])
  | 5 => (zk_sam X 5 h0.2.1 h0.2.2.1.1).map (fun Y => [Y])
  | 2 => some (zk_spl X (h0.2.2.1.1.getD 0 (zl_con 0)) h0.2.1)
  | 10 => some [zk_les X h0.2.1]
  | 11 => zk_lawp HT TS X ((h0.2.1.getD 0 []).getD 0 0) h0.2.2.1.1 (h0.2.1.drop 1) h0.2.2.1.2.1
  | 12 => (zk_cng X ((h0.2.1.getD 0 []).getD 0 0) ((h0.2.1.getD 0 []).getD 1 0) (h0.2.1.getD 1 []) (h0.2.1.getD 2 [])).map (fun Y => [Y])
  | 13 => (zk_vx X (h0.2.1.getD 0 []) h0.2.2.1.1 (h0.2.1.drop 1)).map (fun Y => [Y])
  | 9 => zk_tel2 HT TS X ((h0.2.1.getD 0 []).getD 0 0) (h0.2.2.1.1.getD 0 (zl_con 0)) (h0.2.2.1.1.getD 1 (zl_con 0)) (h0.2.1.drop 1)
  | _ => none
theorem zl_map1 {α : Type} {o : Option α} {R : List α} (h : o.map (fun Y => [Y]) = some R) : ∃ Y, o = some Y ∧ R = [Y] := by
  cases o with
  | none => cases h
  | some Y => cases h; exact ⟨Y, rfl, rfl⟩
theorem zl_take {s : Nat → Int} : ∀ {T : List zk_V} {as : List Value} {n : Nat}, zk_st s T as → zk_st s (T.take n) (as.take n)
  | [], [], _, _ => by rw [List.take_nil, List.take_nil]; exact trivial
  | _ :: _, _ :: _, 0, _ => trivial
  | _ :: _, _ :: _, _ + 1, h => ⟨h.1, zl_take h.2⟩
  | [], _ :: _, _, h => absurd h (fun h => h.elim)
  | _ :: _, [], _, h => absurd h (fun h => h.elim)
section ZLX
variable {c : Nat} {HT : List (List zk_H)} {PT : Nat → zz_W → Prop} {SU : Nat → List (Nat × Nat)} {TS : zk_TY}
theorem zl_stp_ok (hTT : zk_TT c HT PT SU TS) {I : zz_W → Prop} (hI : ∀ w, I w → zk_I c HT w) {X : zk_St} {h0 : zk_Hn} {R : List zk_St} (h : zl_stp HT TS X h0 = some R) {s : Nat → Int} {f : zz_F} (hG : zk_G2 PT I s X f) :
    ∃ Y, Y ∈ R ∧ X.1.2.2.2.1.length ≤ Y.1.2.2.2.1.length ∧ ∃ s' : Nat → Int, zk_G2 PT I s' Y f ∧ ∀ j, j < X.1.2.2.2.1.length → s' j = s j := by
  unfold zl_stp at h
  split at h
  · obtain ⟨Y, y1, y2, y3⟩ := zk_tel_ok hTT h hG
    exact ⟨Y, y1, y3, s, y2, fun _ _ => rfl⟩
  · obtain ⟨Y, hY, rfl⟩ := zl_map1 h
    obtain ⟨y1, s', y2, y3⟩ := zk_fo2_ok hI hY hG
    exact ⟨Y, List.mem_cons_self, y1, s', y2, y3⟩
  · obtain ⟨Y, hY, rfl⟩ := zl_map1 h
    obtain ⟨y1, s', y2, y3⟩ := zk_kno_ok hI hY hG
    exact ⟨Y, List.mem_cons_self, y1, s', y2, y3⟩
  · obtain ⟨b1, -⟩ := zz_cond h
    have h6 := zl_en_ok hG.1.2.2.2.1 hG.1.2.2.2.2.1 b1
    rw [zl_con_ev] at h6
    omega
  · obtain ⟨Y, hY, rfl⟩ := zl_map1 h
    obtain ⟨y2, y1⟩ := zk_sam_ok hY hG
    exact ⟨Y, List.mem_cons_self, y1, s, y2, fun _ _ => rfl⟩
  · obtain ⟨Y, hY, rfl⟩ := zl_map1 h
    obtain ⟨y2, y1⟩ := zk_sam_ok hY hG
    exact ⟨Y, List.mem_cons_self, y1, s, y2, fun _ _ => rfl⟩
  · cases h
    obtain ⟨Y, y1, y2, y3⟩ := zk_spl_ok (e := h0.2.2.1.1.getD 0 (zl_con 0)) (hs := h0.2.1) hG
    exact ⟨Y, y1, y3, s, y2, fun _ _ => rfl⟩
  · cases h
    exact ⟨_, List.mem_cons_self, Nat.le_refl _, s, zk_les_ok hG, fun _ _ => rfl⟩
  · obtain ⟨Y, y1, y2, s', y3, y4⟩ := zk_lawp_ok hTT hI h hG
    exact ⟨Y, y1, y2, s', y3, y4⟩
  · obtain ⟨Y, hY, rfl⟩ := zl_map1 h
    obtain ⟨y2, y1⟩ := zk_cng_ok hY hG
    exact ⟨Y, List.mem_cons_self, y1, s, y2, fun _ _ => rfl⟩
  · obtain ⟨Y, hY, rfl⟩ := zl_map1 h
    obtain ⟨y2, y1⟩ := zk_vx_ok hY hG
    exact ⟨Y, List.mem_cons_self, y1, s, y2, fun _ _ => rfl⟩
  · obtain ⟨Y, y1, y2, y3⟩ := zk_tel2_ok hTT h hG
    exact ⟨Y, y1, y3, s, y2, fun _ _ => rfl⟩
  · cases h
/-- the first numbers of what comes out are these sums of what went in -/
def zl_pre : List zl_E → List zl_E → Bool
  | [], _ => true
  | p :: ps, e :: es => zl_nul (zl_sub e p) && zl_pre ps es
  | _ :: _, [] => false
theorem zl_pre_ok {s : Nat → Int} : ∀ {ps es : List zl_E}, zl_pre ps es = true → ∀ (j : Nat) (p : zl_E), ps[j]? = some p → zk_u s es j = zl_ev s p
  | [], _, _, j, p, h => by cases h
  | q :: ps, e :: es, h, 0, p, hp => by
    obtain ⟨b1, -⟩ := zz_and h
    cases hp
    have h1 := zl_nul_ok (s := s) b1
    rw [zl_sub_ev] at h1
    have h2 : zk_u s (e :: es) 0 = zl_ev s e := zk_u_at 0 e rfl
    rw [h2]
    omega
  | q :: ps, e :: es, h, j + 1, p, hp => by
    obtain ⟨-, b2⟩ := zz_and h
    exact zl_pre_ok b2 j p hp
  | _ :: _, [], h, _, _, _ => by cases h
/-- the whole: false: ahead of the call, true: behind it -/
def zl_ex (HT : List (List zk_H)) (SU : Nat → List (Nat × Nat)) (TS : zk_TY) (CT : Nat → Option zk_Ct) (pre : List zl_E) (ps : List zk_St) : Nat → List (Bool × zk_St) → List zk_Hn → Bool
  | _, [], _ => true
  | 0, _ :: _, _ => false
  | _ + 1, _ :: _, [] => false
  | k + 1, x :: W, h0 :: hs => cond (Nat.beq h0.1 0)
      (cond x.1 (match ps[(h0.2.1.getD 0 []).getD 0 0]? with
        | some Q => zk_edg2 HT TS (([], x.2.1.2.1, x.2.1.2.2.1, x.2.1.2.2.2.1, x.2.1.2.2.2.2), x.2.2.1, x.2.2.2) Q h0.2.2.1 h0.2.2.2 && (zl_pre pre h0.2.2.1.1 && zl_ex HT SU TS CT pre ps k W hs)
        | none => false)
       (match CT ((h0.2.1.getD 0 []).getD 0 0) with
        | some q => zk_cok HT TS q.2.2.1 x.2 (x.2.1.2.1.take q.1.1.2.1.length) [] q q.2.2.2 h0.2.2.1 h0.2.2.2 && zl_ex HT SU TS CT pre ps k (((q.2.1.map (fun Q => zk_out2 HT SU x.2 [] h0.2.2.1.1 q.1.1.2.2.2.1.length q.2.2.1 Q)).filter (fun Y => !(zk_fal Y.1))).map (fun Y => (true, Y)) ++ W) hs
        | none => false))
      (match zl_stp HT TS x.2 h0 with
        | some R => zl_ex HT SU TS CT pre ps k (R.map (fun Y => (x.1, Y)) ++ W) hs
        | none => false)
/-- what holds behind it -/
def zl_Po (PT : Nat → zz_W → Prop) (I : zz_W → Prop) (pre : List zl_E) (ps : List zk_St) (s : Nat → Int) (f : zz_F) : Prop := ∃ (s' : Nat → Int) (Q : zk_St), Q ∈ ps ∧ zk_G2 PT I s' Q (0, [], f.2.2.1, f.2.2.2) ∧ ∀ (j : Nat) (p : zl_E), pre[j]? = some p → s' j = zl_ev s p
/-- what is to be shown ahead of the call: one of the contracts can be used, and whatever it leaves is good -/
def zl_Ca (PT : Nat → zz_W → Prop) (c : Nat) (HT : List (List zk_H)) (CT : Nat → Option zk_Ct) (pre : List zl_E) (ps : List zk_St) (s : Nat → Int) (as : List Value) (w : zz_W) : Prop :=
  ∃ (y : Nat) (q : zk_Ct) (sq : Nat → Int), CT y = some q ∧ zk_G2 PT (zk_I c HT) sq q.1 (0, [], as.take q.1.1.2.1.length, w) ∧
    ∀ Q ∈ q.2.1, ∀ (rv : List Value) (w' : zz_W) (s' : Nat → Int), zk_G2 PT (zk_J c HT q.2.2.1 (w, q.2.2.1.2.map (fun p => (p.1, zl_ev sq p.2)))) s' Q (0, [], rv, w') → (∀ j, j < q.1.1.2.2.2.1.length → s' j = sq j) → zl_Po PT (zk_I c HT) pre ps s (0, [], rv, w')
theorem zl_pre_eq {pre : List zl_E} {n0 : Nat} (hp : pre.all (fun p => Nat.ble (zl_mx p.2) n0) = true) {s t : Nat → Int} (h : ∀ j, j < n0 → t j = s j) {j : Nat} {p : zl_E} (hj : pre[j]? = some p) : zl_ev t p = zl_ev s p :=
  zl_ev_eq (n := n0) (zz_ble (List.all_eq_true.mp hp p (List.mem_of_getElem? hj))) h
theorem zl_ex_ok (hTT : zk_TT c HT PT SU TS) {CT : Nat → Option zk_Ct} {pre : List zl_E} {ps : List zk_St} {n0 : Nat} (hp : pre.all (fun p => Nat.ble (zl_mx p.2) n0) = true) :
    ∀ (k : Nat) (W : List (Bool × zk_St)) (hs : List zk_Hn), zl_ex HT SU TS CT pre ps k W hs = true → ∀ x ∈ W, n0 ≤ x.2.1.2.2.2.1.length →
      (x.1 = true → ∀ (I : zz_W → Prop), (∀ w, I w → zk_I c HT w) → ∀ (s : Nat → Int) (f : zz_F), zk_G2 PT I s x.2 f → zl_Po PT I pre ps s f) ∧
      (x.1 = false → x.2.1.1 = [] → ∀ (s : Nat → Int) (as : List Value) (w : zz_W), zk_G2 PT (zk_I c HT) s x.2 (0, [], as, w) → zl_Ca PT c HT CT pre ps s as w)
  | _, [], _, _, x, hx, _ => absurd hx List.not_mem_nil
  | 0, _ :: _, _, h, _, _, _ => by cases h
  | _ + 1, _ :: _, [], h, _, _, _ => by cases h
  | k + 1, y :: W, h0 :: hs, h, x, hx, hl => by
    unfold zl_ex at h
    cases hk : Nat.beq h0.1 0 with
    | true =>
      rw [hk] at h
      cases hy : y.1 with
      | true =>
        rw [hy] at h
        have h : (match ps[(h0.2.1.getD 0 []).getD 0 0]? with
          | some Q => zk_edg2 HT TS (([], y.2.1.2.1, y.2.1.2.2.1, y.2.1.2.2.2.1, y.2.1.2.2.2.2), y.2.2.1, y.2.2.2) Q h0.2.2.1 h0.2.2.2 && (zl_pre pre h0.2.2.1.1 && zl_ex HT SU TS CT pre ps k W hs)
          | none => false) = true := h
        split at h
        · rename_i Q hQ
          obtain ⟨b1, hb⟩ := zz_and h
          obtain ⟨b2, b3⟩ := zz_and hb
          rcases List.mem_cons.mp hx with e | hx
          · subst e
            refine ⟨fun _ I hI s f hG => ?_, fun hf => by rw [hy] at hf; cases hf⟩
            obtain ⟨⟨g1, g2, g3, g4, g5, g6⟩, k1, k2⟩ := hG
            obtain ⟨e1, -⟩ := zk_edg2_ok hTT hI (s := s) (f := (0, [], f.2.2.1, f.2.2.2)) b1 ⟨⟨fun x hx => absurd (show x ∈ ([] : List (Nat × zk_V)) from hx) List.not_mem_nil, g2, g3, g4, g5, g6⟩, k1, k2⟩
            exact ⟨_, Q, List.mem_of_getElem? hQ, e1, zl_pre_ok b2⟩
          · exact zl_ex_ok hTT hp k W hs b3 x hx hl
        · cases h
      | false =>
        rw [hy] at h
        have h : (match CT ((h0.2.1.getD 0 []).getD 0 0) with
          | some q => zk_cok HT TS q.2.2.1 y.2 (y.2.1.2.1.take q.1.1.2.1.length) [] q q.2.2.2 h0.2.2.1 h0.2.2.2 && zl_ex HT SU TS CT pre ps k (((q.2.1.map (fun Q => zk_out2 HT SU y.2 [] h0.2.2.1.1 q.1.1.2.2.2.1.length q.2.2.1 Q)).filter (fun Y => !(zk_fal Y.1))).map (fun Y => (true, Y)) ++ W) hs
          | none => false) = true := h
        split at h
        · rename_i q hq
          obtain ⟨hb, b20⟩ := zz_and h
          rcases List.mem_cons.mp hx with e | hx
          · subst e
            refine ⟨fun hf => (by rw [hy] at hf; cases hf), fun _ hL s as w hG => ?_⟩
            unfold zk_cok at hb
            obtain ⟨b1, hb⟩ := zz_and hb
            obtain ⟨b2, hb⟩ := zz_and hb
            obtain ⟨b3, hb⟩ := zz_and hb
            obtain ⟨b4, hb⟩ := zz_and hb
            obtain ⟨b5, hb⟩ := zz_and hb
            obtain ⟨b6, hb⟩ := zz_and hb
            obtain ⟨b7, hb⟩ := zz_and hb
            obtain ⟨b8, hb⟩ := zz_and hb
            obtain ⟨b10, b9⟩ := zz_and hb
            obtain ⟨⟨g1, g2, g3, g4, g5, g6⟩, k1, k2⟩ := hG
            obtain ⟨e1, e2⟩ := zk_edg2_ok hTT (I := zk_I c HT) (fun _ h => h) (s := s) (f := (0, [], as.take q.1.1.2.1.length, w)) b1 ⟨⟨fun x hx => absurd (show x ∈ ([] : List (Nat × zk_V)) from hx) List.not_mem_nil, zl_take g2, g3, g4, g5, g6⟩, k1, k2⟩
            refine ⟨_, q, zk_u s h0.2.2.1.1, hq, e1, fun Q m1 rv w' s' m3 m4 => ?_⟩
            have hQ := List.all_eq_true.mp b9 Q m1
            obtain ⟨c1, hQ⟩ := zz_and hQ
            obtain ⟨c3, c2⟩ := zz_and hQ
            have hpv : zk_pv s q.2.2.1.2 (q.2.2.1.2.map (fun p => (p.1, zl_ev (zk_u s h0.2.2.1.1) p.2)) ++ q.2.2.1.2.map (fun p => (p.1, zl_ev s p.2))) := fun p hp => List.mem_append_right _ (List.mem_map.mpr ⟨p, hp, rfl⟩)
            obtain ⟨o1, s2, o2, o3⟩ := zk_out2_ok hTT (M := q.2.2.1) (w0 := (w, q.2.2.1.2.map (fun p => (p.1, zl_ev (zk_u s h0.2.2.1.1) p.2)) ++ q.2.2.1.2.map (fun p => (p.1, zl_ev s p.2)))) (n := 0) (r := []) (lv := []) rfl b4 b5 e2.symm (zz_ble c2) c1 b6 (zk_sbc_ok b3 g4 g5 hpv) b10 c3 (by rw [hL]; exact fun x hx => absurd hx List.not_mem_nil) trivial g3 g4 g5 (zk_J_rf g6) k1 k2 m3 m4
            rw [List.append_nil] at o2
            have hm : (true, zk_out2 HT SU x.2 [] h0.2.2.1.1 q.1.1.2.2.2.1.length q.2.2.1 Q) ∈ ((q.2.1.map (fun Q => zk_out2 HT SU x.2 [] h0.2.2.1.1 q.1.1.2.2.2.1.length q.2.2.1 Q)).filter (fun Y => !(zk_fal Y.1))).map (fun Y => (true, Y)) ++ W := List.mem_append_left _ (List.mem_map.mpr ⟨_, List.mem_filter.mpr ⟨List.mem_map.mpr ⟨Q, m1, rfl⟩, by rw [zk_fal_ok o2.1]; rfl⟩, rfl⟩)
            have o2' : zk_G2 PT (zk_I c HT) s2 (zk_out2 HT SU x.2 [] h0.2.2.1.1 q.1.1.2.2.2.1.length q.2.2.1 Q) (0, [], rv, w') := by
              obtain ⟨⟨a1, a2, a3, a4, a5, a6⟩, a7, a8⟩ := o2
              exact ⟨⟨a1, a2, a3, a4, a5, a6.1⟩, a7, a8⟩
            obtain ⟨s3, P, p1, p2, p3⟩ := (zl_ex_ok hTT hp k _ hs b20 _ hm (Nat.le_trans hl o1)).1 rfl (zk_I c HT) (fun _ h => h) s2 (0, [], rv, w') o2'
            exact ⟨s3, P, p1, p2, fun j p hj => by rw [p3 j p hj]; exact zl_pre_eq hp (fun i hi => o3 i (by have : n0 ≤ x.2.1.2.2.2.1.length := hl; omega)) hj⟩
          · exact zl_ex_ok hTT hp k _ hs b20 x (List.mem_append_right _ hx) hl
        · cases h
    | false =>
      rw [hk] at h
      have h : (match zl_stp HT TS y.2 h0 with
        | some R => zl_ex HT SU TS CT pre ps k (R.map (fun Y => (y.1, Y)) ++ W) hs
        | none => false) = true := h
      split at h
      · rename_i R hR
        rcases List.mem_cons.mp hx with e | hx
        · subst e
          refine ⟨fun ht I hI s f hG => ?_, fun hf hL s as w hG => ?_⟩
          · obtain ⟨Y, y1, y2, s', y3, y4⟩ := zl_stp_ok hTT hI hR hG
            obtain ⟨s3, P, p1, p2, p3⟩ := (zl_ex_ok hTT hp k _ hs h (x.1, Y) (List.mem_append_left _ (List.mem_map.mpr ⟨Y, y1, rfl⟩)) (Nat.le_trans hl y2)).1 ht I hI s' f y3
            exact ⟨s3, P, p1, p2, fun j p hj => by rw [p3 j p hj]; exact zl_pre_eq hp (fun i hi => y4 i (by omega)) hj⟩
          · obtain ⟨Y, y1, y2, s', y3, y4⟩ := zl_stp_ok hTT (I := zk_I c HT) (fun _ h => h) hR hG
            have hYL : Y.1.1 = [] := by
              cases hY : Y.1.1 with
              | nil => rfl
              | cons a l =>
                obtain ⟨v, hv, -⟩ := y3.1.1 a (by rw [hY]; exact List.mem_cons_self)
                cases hv
            obtain ⟨y0, q, sq, q1, q2, q3⟩ := (zl_ex_ok hTT hp k _ hs h (x.1, Y) (List.mem_append_left _ (List.mem_map.mpr ⟨Y, y1, rfl⟩)) (Nat.le_trans hl y2)).2 hf hYL s' as w y3
            refine ⟨y0, q, sq, q1, q2, fun Q hQ rv w' s2 m1 m2 => ?_⟩
            obtain ⟨s3, P, p1, p2, p3⟩ := q3 Q hQ rv w' s2 m1 m2
            exact ⟨s3, P, p1, p2, fun j p hj => by rw [p3 j p hj]; exact zl_pre_eq hp (fun i hi => y4 i (by omega)) hj⟩
        · exact zl_ex_ok hTT hp k _ hs h x (List.mem_append_right _ hx) hl
      · cases h
/-- cells 16, 17 and those that came later stay -/
def zl_mk (p : Nat × Nat) : Bool := (Nat.blt p.1 13 || Nat.blt 17 p.1) && Nat.blt p.1 329
def zl_Kp (w w' : zz_W) : Prop := w'.1 = w.1 ∧ w'.2.1 = w.2.1 ∧ (∀ i, 13 ≤ i ∧ i ≤ 15 ∨ (i = 17 ∨ 329 ≤ i) → i < w.1 → (zz_g w i).1 ≠ 3 → zz_g w' i = zz_g w i) ∧ (16 < w.1 → (zz_g w 16).1 = 3 → ∀ k, k < 998 → zk_fd w' (16, k) = zk_fd w (16, k)) ∧ ∀ i, i < w.1 → zk_k3 (zz_g w' i) = zk_k3 (zz_g w i)
theorem zl_mk_ok {M : List (Nat × Nat)} (h : M.all zl_mk = true) {i k : Nat} (hi : 13 ≤ i ∧ i ≤ 17 ∨ 329 ≤ i) : (i, k) ∉ M := by
  intro hin
  obtain ⟨b1, b3⟩ := zz_and (List.all_eq_true.mp h _ hin)
  have e3 : i < 329 := zz_blt b3
  rcases Bool.or_eq_true_iff.mp b1 with b1 | b1
  · have e1 : i < 13 := zz_blt b1
    omega
  · have e1 : 17 < i := zz_blt b1
    omega
theorem zl_Kp_J {M : zk_M} {w w' : zz_W} {V : List (Nat × Int)} (h : M.1.all zl_mk = true) (hJ : zk_J c HT M (w, V) w') : zl_Kp w w' :=
  ⟨hJ.2.2.2.1.1, hJ.2.2.2.1.2, fun i hi hl hk => (hJ.2.1.2 i (zl_mk_ok h (by omega)) hl hk).1 (zl_mk_ok h (by omega)), fun hl hk k h9 => hJ.2.1.1 16 k h9 (zl_mk_ok h (Or.inl ⟨by decide, by decide⟩)) hl hk, hJ.2.2.2.2⟩
/-- a call: whatever the contracts of its method say of a run (Rl), holds, and what is to hold behind it -/
theorem zl_px (hTT : zk_TT c HT PT SU TS) {CT : Nat → Option zk_Ct} {pre : List zl_E} {ps : List zk_St} {n0 : Nat} (hp : pre.all (fun p => Nat.ble (zl_mx p.2) n0) = true) {X : zk_St} {k : Nat} {hs : List zk_Hn} (h : zl_ex HT SU TS CT pre ps k [(false, X)] hs = true) (hn : Nat.ble n0 X.1.2.2.2.1.length = true) (hL : X.1.1 = []) (hM : ∀ y q, CT y = some q → q.2.2.1.1.all zl_mk = true)
    {as : List Value} {w : zz_W} {Rl : List Value → zz_W → Prop} (hO : ∀ y q, CT y = some q → ∀ s : Nat → Int, zk_G2 PT (zk_I c HT) s q.1 (0, [], as.take q.1.1.2.1.length, w) → ∃ (rv : List Value) (w' : zz_W) (s' : Nat → Int) (Q : zk_St), Q ∈ q.2.1 ∧ Rl rv w' ∧ zk_G2 PT (zk_J c HT q.2.2.1 (w, q.2.2.1.2.map (fun p => (p.1, zl_ev s p.2)))) s' Q (0, [], rv, w') ∧ ∀ j, j < q.1.1.2.2.2.1.length → s' j = s j)
    {s : Nat → Int} (hG : zk_G2 PT (zk_I c HT) s X (0, [], as, w)) : ∃ (rv : List Value) (w' : zz_W), Rl rv w' ∧ zl_Kp w w' ∧ zl_Po PT (zk_I c HT) pre ps s (0, [], rv, w') := by
  obtain ⟨y, q, sq, h1, h2, h3⟩ := (zl_ex_ok hTT hp k _ hs h _ List.mem_cons_self (zz_ble hn)).2 rfl hL s as w hG
  obtain ⟨rv, w', s', Q, m1, m2, m3, m4⟩ := hO y q h1 sq h2
  exact ⟨rv, w', m2, zl_Kp_J (hM y q h1) m3.1.2.2.2.2.2, h3 Q m1 rv w' s' m3 m4⟩
end ZLX
end
