/-! NAMING, on: tables, states, contracts -/
noncomputable section
/-- h' is h by the other naming: no rows of references -/
def zk_hf (fk : Nat → Nat → Nat) (k ci : Nat) : Nat → List (Nat × Nat × Int × Int) → List (Nat × Nat × Int × Int) → Bool
  | _, [], [] => true
  | j, a :: as, b :: bs => (Nat.beq a.1 b.1 && (cond (Nat.beq a.1 0) (decide (a.2.2 = b.2.2) && Nat.beq (fk ci j) 0) (cond (Nat.beq a.1 2) (Nat.beq b.2.1 (zz_rfn k a.2.1) && Nat.blt 1 (fk ci j)) true))) && zk_hf fk k ci (j + 1) as bs
  | _, _, _ => false
theorem zk_hf_at {fk : Nat → Nat → Nat} {k ci : Nat} : ∀ {as bs : List (Nat × Nat × Int × Int)} {j0 j : Nat} {a : Nat × Nat × Int × Int}, zk_hf fk k ci j0 as bs = true → as[j]? = some a → ∃ b, bs[j]? = some b ∧ a.1 = b.1 ∧ (a.1 = 0 → a.2.2 = b.2.2 ∧ fk ci (j0 + j) = 0) ∧ (a.1 = 2 → b.2.1 = zz_rfn k a.2.1 ∧ 1 < fk ci (j0 + j))
  | [], _, _, _, _, _, h => by cases h
  | _ :: _, [], _, _, _, h, _ => by cases h
  | x :: as, y :: bs, j0, 0, a, h, ha => by
    cases ha
    obtain ⟨h1, -⟩ := zz_and h
    obtain ⟨h2, h3⟩ := zz_and h1
    refine ⟨y, rfl, zz_beq h2, fun h0 => ?_, fun h0 => ?_⟩
    · rw [h0] at h3
      obtain ⟨h4, h5⟩ := zz_and (show (decide (x.2.2 = y.2.2) && Nat.beq (fk ci j0) 0) = true from h3)
      exact ⟨of_decide_eq_true h4, zz_beq h5⟩
    · rw [h0] at h3
      obtain ⟨h4, h5⟩ := zz_and (show (Nat.beq y.2.1 (zz_rfn k x.2.1) && Nat.blt 1 (fk ci j0)) = true from h3)
      exact ⟨zz_beq h4, zz_blt h5⟩
  | x :: as, y :: bs, j0, j + 1, a, h, ha => by
    obtain ⟨-, h2⟩ := zz_and h
    obtain ⟨b, b1, b2, b3, b4⟩ := zk_hf_at (j := j) h2 ha
    rw [show j0 + 1 + j = j0 + (j + 1) by omega] at b3 b4
    exact ⟨b, b1, b2, b3, b4⟩
def zk_hs (fk : Nat → Nat → Nat) (k : Nat) (h h' : zk_H) : Bool := (Nat.beq h'.1 h.1 && (Nat.beq h'.2.1 h.2.1 && Nat.beq h'.2.2.1 h.2.2.1)) && cond (Nat.blt h.1 2) (decide (h'.2.2.2 = h.2.2.2)) (cond (Nat.beq h.1 3) (zk_hf fk k h.2.1 0 h.2.2.2.2.2 h'.2.2.2.2.2) (Nat.beq h.1 9))
theorem zk_Hok_rc {fk : Nat → Nat → Nat} {k : Nat} {h h' : zk_H} {c : zz_C} (hk : k ≤ 5) (hs : zk_hs fk k h h' = true) (h9 : h.1 ≠ 9) (hok : zk_Hok h' c) : zk_Hok h (zz_rc fk k c) := by
  obtain ⟨b1, b2⟩ := zz_and hs
  obtain ⟨b3, b4⟩ := zz_and b1
  obtain ⟨b4, b5⟩ := zz_and b4
  have b3 := zz_beq b3
  have b4 := zz_beq b4
  have b5 := zz_beq b5
  obtain ⟨o1, o2, o3, o4, o5, o6, o7⟩ := hok
  cases hb : Nat.blt h.1 2 with
  | true =>
    rw [hb] at b2
    have e := of_decide_eq_true (show decide (h'.2.2.2 = h.2.2.2) = true from b2)
    have hlt := zz_blt hb
    rw [zz_rc_k (by omega)]
    have eh : h' = h := by
      obtain ⟨x1, x2, x3, x4⟩ := h
      obtain ⟨y1, y2, y3, y4⟩ := h'
      have b3 : y1 = x1 := b3
      have b4 : y2 = x2 := b4
      have b5 : y3 = x3 := b5
      have e : y4 = x4 := e
      rw [b3, b4, b5, e]
    rw [← eh]
    exact ⟨o1, o2, o3, o4, o5, o6, o7⟩
  | false =>
    rw [hb] at b2
    have b2 : cond (Nat.beq h.1 3) (zk_hf fk k h.2.1 0 h.2.2.2.2.2 h'.2.2.2.2.2) (Nat.beq h.1 9) = true := b2
    cases hb3 : Nat.beq h.1 3 with
    | false =>
      rw [hb3] at b2
      exact absurd (zz_beq (show Nat.beq h.1 9 = true from b2)) h9
    | true =>
      rw [hb3] at b2
      have b2 : zk_hf fk k h.2.1 0 h.2.2.2.2.2 h'.2.2.2.2.2 = true := b2
      have h3 := zz_beq hb3
      have hc3 : c.1 = 3 := by omega
      rw [zz_rc_3 (by omega)]
      refine ⟨o1.trans b3, o2.trans b4, o3.trans b5, fun h0 => ?_, fun h2 => ?_, fun _ j q hq => ?_, fun h1 => ?_⟩
      · omega
      · omega
      · obtain ⟨b, c1, c2, c3, c4⟩ := zk_hf_at b2 hq
        have o6 := o6 (by omega) j b c1
        show (q.1 = 0 → q.2.2.1 ≤ (Int32.ofNat (zz_at 64 (zz_mp 64 (zz_g3 fk k c.2.1) c.2.2.2) j)).toInt ∧ (Int32.ofNat (zz_at 64 (zz_mp 64 (zz_g3 fk k c.2.1) c.2.2.2) j)).toInt ≤ q.2.2.2) ∧ (q.1 = 2 → zz_at 64 (zz_mp 64 (zz_g3 fk k c.2.1) c.2.2.2) j = q.2.1)
        rw [zz_at_mp (by decide) (fun _ _ hx => zz_g3_lt hk hx) (fun _ => zz_g3_0)]
        have ec : c.2.1 = h.2.1 := o2.trans b4
        refine ⟨fun h0 => ?_, fun h0 => ?_⟩
        · obtain ⟨c5, c6⟩ := c3 h0
          rw [Nat.zero_add] at c6
          unfold zz_g3
          rw [ec, if_pos (Or.inl c6), c5]
          exact o6.1 (by omega)
        · obtain ⟨c5, c6⟩ := c4 h0
          rw [Nat.zero_add] at c6
          unfold zz_g3
          rw [ec, if_neg (by omega), o6.2 (by omega), c5, zz_rfn_rf hk]
      · omega
def zk_sym (fk : Nat → Nat → Nat) (k : Nat) (HU : List (List zk_H)) : Bool := Nat.ble HU.length 64 && (List.range 1024).all (fun i => zk_hs fk k (zk_h HU i) (zk_h HU (zz_sw k i)))
theorem zk_h_out {HU : List (List zk_H)} {i : Nat} (hl : HU.length ≤ 64) (h : 1024 ≤ i) : zk_h HU i = zk_h0 := by
  unfold zk_h
  rw [List.getD_eq_getElem?_getD (l := HU), List.getElem?_eq_none (by omega)]
  rfl
theorem zk_sym_at {fk : Nat → Nat → Nat} {k : Nat} {HU : List (List zk_H)} {i : Nat} (hs : zk_sym fk k HU = true) (h9 : (zk_h HU i).1 ≠ 9) : i < 1024 ∧ zk_hs fk k (zk_h HU i) (zk_h HU (zz_sw k i)) = true := by
  obtain ⟨h1, h2⟩ := zz_and hs
  have hi : i < 1024 := Classical.byContradiction (fun hn => h9 (by rw [zk_h_out (zz_ble h1) (by omega)]; rfl))
  exact ⟨hi, List.all_eq_true.mp h2 i (List.mem_range.mpr hi)⟩
theorem zk_hs_1 {fk : Nat → Nat → Nat} {k : Nat} {h h' : zk_H} (hs : zk_hs fk k h h' = true) : h'.1 = h.1 := zz_beq (zz_and (zz_and hs).1).1
theorem zk_I_rw {fk : Nat → Nat → Nat} {k : Nat} {HU : List (List zk_H)} {w : zz_W} (hk : k ≤ 5) (hs : zk_sym fk k HU = true) (h1 : 160 ≤ w.1) (hI : zk_I 64 HU w) : zk_I 64 HU (zz_rw fk k w) := by
  refine ⟨zz_rw_sh, hI.2.1, hI.2.2.1, fun i h9 => ?_⟩
  obtain ⟨hi, h2⟩ := zk_sym_at hs h9
  obtain ⟨h3, h4⟩ := hI.2.2.2 (zz_sw k i) (by rw [zk_hs_1 h2]; exact h9)
  refine ⟨?_, ?_⟩
  · show i < w.1
    have := zz_sw_lt hk h1 h3
    rw [zz_sw_sw] at this
    exact this
  · rw [zz_rw_g hi]
    exact zk_Hok_rc hk h2 h9 h4
/-- rows and functions -/
def zk_nr (k r : Nat) : Nat := cond (Nat.blt r 1000000) (zz_sw k r) (cond (Nat.beq r 2000015) (2000020 + k) (cond (Nat.beq r 2000019) (2000025 + k) (cond (Nat.beq r 2000031) (2000031 + k) (cond (Nat.beq r 2000037) (2000037 + k) (cond ((zk_rws r).all (fun x => Nat.beq (zz_sw k x) x)) r (r + 1000 * k))))))
def zk_okr (HU : List (List zk_H)) (k r : Nat) : Bool := (zk_rws r).all (fun x => Nat.blt x 1024 && (Nat.blt (zk_h HU x).1 2 && Nat.blt (zk_h HU (zz_sw k x)).1 2)) && (Nat.blt r 1000000 || (Nat.beq r 2000015 || (Nat.beq r 2000019 || (Nat.beq r 2000031 || (Nat.beq r 2000037 || ((zk_rws r).all (fun x => Nat.beq (zz_sw k x) x) || (Nat.ble 2000200 r && Nat.blt r 2001200)))))))
theorem zk_k_lt {HU : List (List zk_H)} {w : zz_W} {x : Nat} (hI : zk_I 64 HU w) (h : (zk_h HU x).1 < 2) : (zz_g w x).1 < 2 := by
  have h1 := (hI.2.2.2 x (by omega)).2.1
  omega
theorem zz_rw_k {fk : Nat → Nat → Nat} {k : Nat} {HU : List (List zk_H)} {w : zz_W} {x : Nat} (hI : zk_I 64 HU w) (hx : x < 1024) (h : (zk_h HU (zz_sw k x)).1 < 2) : zz_g (zz_rw fk k w) x = zz_g w (zz_sw k x) := by
  rw [zz_rw_g hx, zz_rc_k (zk_k_lt hI h)]
theorem zk_f_rw {w w' : zz_W} {r r' : Nat} (h : zz_g w' r = zz_g w r') : zh_f w' r = zh_f w r' := by
  funext i
  unfold zh_f zk_el
  rw [h]
theorem zk_e_rw {w w' : zz_W} {r r' : Nat} (h : zz_g w' r = zz_g w r') : zh_e w' r = zh_e w r' := by
  funext i
  unfold zh_e zk_el
  rw [h]
theorem zz_sw_n {k i : Nat} (h : i < 58) : zz_sw k i = i := by
  unfold zz_sw
  rw [if_neg (by omega), if_neg (by omega)]
theorem zu_ex_nm {k : Nat} {w w' : zz_W} : ∀ {s : List (Nat × zl_E)} {l : List Int}, (∀ x ∈ s.map (fun q => q.1), zz_g w' x = zz_g w (zz_sw k x)) → zu_ex w (s.map (fun q => (zz_sw k q.1, q.2))) l = zu_ex w' s l
  | [], _, _ => rfl
  | q :: s, l, h => by
    have e : ∀ x, zk_el w' q.1 x = zk_el w (zz_sw k q.1) x := fun x => by
      unfold zk_el
      rw [h q.1 List.mem_cons_self]
    show zu_ex w (s.map (fun q => (zz_sw k q.1, q.2))) (l ++ [zk_el w (zz_sw k q.1) (zl_ev (fun m => l.getD m 0) q.2)]) = zu_ex w' s (l ++ [zk_el w' q.1 (zl_ev (fun m => l.getD m 0) q.2)])
    rw [e]
    exact zu_ex_nm (fun x hx => h x (List.mem_cons_of_mem _ hx))
theorem zu_P_nm {k : Nat} {w w' : zz_W} {p : zu_Sp} {ps : List Int} (h : ∀ x ∈ p.1.map (fun q => q.1), zz_g w' x = zz_g w (zz_sw k x)) : zu_P (zu_nm k p) w ps = zu_P p w' ps := by
  have e : ∀ l : List Int, zu_ex w (p.1.map (fun q => (zz_sw k q.1, q.2))) l = zu_ex w' p.1 l := fun l => zu_ex_nm h
  show (∀ ix : List Int, zu_ix p.2.1 ix → ∃ d ∈ p.2.2.2, zk_cs (fun m => (zu_ex w (p.1.map (fun q => (zz_sw k q.1, q.2))) (ix ++ ps)).getD m 0) d) = _
  simp only [e]
  rfl
theorem zk_blt_f {a b : Nat} (h : b ≤ a) : Nat.blt a b = false := zv_bltF h
/-- what a row or function says in w' is what the other says in w: w' has the rows of w by their other names -/
theorem zk_xe_nm {HU : List (List zk_H)} {k r : Nat} {j : Int} {w w' : zz_W} (hk1 : 1 ≤ k) (hk : k ≤ 5) (ho : zk_okr HU k r = true) (hg : ∀ x ∈ zk_rws r, zz_g w' x = zz_g w (zz_sw k x)) : zk_xe w' r j = zk_xe w (zk_nr k r) j := by
  obtain ⟨-, h2⟩ := zz_and ho
  unfold zk_nr
  cases h1 : Nat.blt r 1000000 with
  | true =>
    have hr := zz_blt h1
    have hs := zz_sw_lt hk (n := 1000000) (by decide) hr
    rw [zk_cT rfl, zk_xe_r h1, zk_xe_r (Nat.ble_eq.mpr hs)]
    unfold zk_el
    rw [hg r (by rw [zk_rws_i1 h1]; exact List.mem_cons_self)]
  | false =>
    rw [zk_cF rfl]
    cases h15 : Nat.beq r 2000015 with
    | true =>
      rw [zk_cT rfl]
      have e := zz_beq h15
      subst e
      have e1 := zk_f_rw (hg 61 List.mem_cons_self)
      rw [zz_sw_a (by omega)] at e1
      rw [show (2000015 : Nat) = 2000000 + 15 from rfl, zk_xe_h, show 2000000 + 20 + k = 2000000 + (20 + k) by omega, zk_xe_h]
      show zh_b (zh_its (zh_f w' 61) j) = _
      rw [e1]
      rcases (show k = 1 ∨ k = 2 ∨ k = 3 ∨ k = 4 ∨ k = 5 by omega) with e | e | e | e | e <;> subst e <;> rfl
    | false =>
      rw [zk_cF rfl]
      cases h19 : Nat.beq r 2000019 with
      | true =>
        rw [zk_cT rfl]
        have e := zz_beq h19
        subst e
        have e1 := zk_f_rw (hg 60 List.mem_cons_self)
        rw [zz_sw_a (by omega)] at e1
        rw [show (2000019 : Nat) = 2000000 + 19 from rfl, zk_xe_h, show 2000000 + 25 + k = 2000000 + (25 + k) by omega, zk_xe_h]
        show zh_b (zh_lns (zh_f w' 60) j) = _
        rw [e1]
        rcases (show k = 1 ∨ k = 2 ∨ k = 3 ∨ k = 4 ∨ k = 5 by omega) with e | e | e | e | e <;> subst e <;> rfl
      | false =>
        rw [zk_cF rfl]
        cases h31 : Nat.beq r 2000031 with
        | true =>
          rw [zk_cT rfl]
          have e := zz_beq h31
          subst e
          have e1 := zk_e_rw (hg 61 List.mem_cons_self)
          rw [zz_sw_a (by omega)] at e1
          have e2 := zk_e_rw (hg 20 (List.mem_cons_of_mem _ List.mem_cons_self))
          rw [zz_sw_n (by omega)] at e2
          have e3 := zk_e_rw (hg 22 (List.mem_cons_of_mem _ (List.mem_cons_of_mem _ List.mem_cons_self)))
          rw [zz_sw_n (by omega)] at e3
          rw [show (2000031 : Nat) = 2000000 + 31 from rfl, zk_xe_h, show 2000000 + 31 + k = 2000000 + (31 + k) by omega, zk_xe_h]
          show zh_b (zg_sg (zh_e w' 61) (zh_e w' 20) (zh_e w' 22) j) = _
          rw [e1, e2, e3]
          rcases (show k = 1 ∨ k = 2 ∨ k = 3 ∨ k = 4 ∨ k = 5 by omega) with e | e | e | e | e <;> subst e <;> rfl
        | false =>
          rw [zk_cF rfl]
          cases h37 : Nat.beq r 2000037 with
          | true =>
            rw [zk_cT rfl]
            have e := zz_beq h37
            subst e
            have e1 := zk_e_rw (hg 61 List.mem_cons_self)
            rw [zz_sw_a (by omega)] at e1
            have e2 := zk_e_rw (hg 62 (List.mem_cons_of_mem _ List.mem_cons_self))
            rw [zz_sw_a (by omega)] at e2
            have e3 := zk_e_rw (hg 64 (List.mem_cons_of_mem _ (List.mem_cons_of_mem _ List.mem_cons_self)))
            rw [zz_sw_a (by omega)] at e3
            rw [show (2000037 : Nat) = 2000000 + 37 from rfl, zk_xe_h, show 2000000 + 37 + k = 2000000 + (37 + k) by omega, zk_xe_h]
            show zh_b (zg_dr (zh_e w' 61) (zh_e w' 62) (zh_e w' 64) j) = _
            rw [e1, e2, e3]
            rcases (show k = 1 ∨ k = 2 ∨ k = 3 ∨ k = 4 ∨ k = 5 by omega) with e | e | e | e | e <;> subst e <;> rfl
          | false =>
            rw [zk_cF rfl]
            cases hf : (zk_rws r).all (fun x => Nat.beq (zz_sw k x) x) with
            | true =>
              rw [zk_cT rfl]
              exact zk_xe_g (fun x hx => by rw [hg x hx, zz_beq (List.all_eq_true.mp hf x hx)])
            | false =>
              rw [zk_cF rfl]
              rw [h1, h15, h19, h31, h37, hf] at h2
              obtain ⟨h3, h4⟩ := zz_and (show (Nat.ble 2000200 r && Nat.blt r 2001200) = true from h2)
              have h3 := zz_ble h3
              have h4 := zz_blt h4
              obtain ⟨t, rfl⟩ : ∃ t, r = 2000000 + (200 + t) := ⟨r - 2000200, by omega⟩
              have hz : zk_rws (2000000 + (200 + t)) = (zu_T t).1.map (fun q => q.1) := by
                rw [zk_rws_i3 (zk_blt_f (by omega)) (zk_blt_f (by omega)), Nat.add_sub_cancel_left]
                unfold zv_HR
                rw [zv_bltF (show 100 ≤ 200 + t by omega), zv_bltF (show 200 ≤ 200 + t by omega), zv_cF, zv_cF, Nat.add_sub_cancel_left]
              rw [hz] at hg
              have ht : zu_T (1000 * k + t) = zu_nm k (zu_T t) := by
                unfold zu_T
                rw [zv_bltF (show 1000 ≤ 1000 * k + t by omega), show Nat.blt t 1000 = true from Nat.ble_eq.mpr (by omega), zv_cF, zv_cT, show (1000 * k + t) / 1000 = k by omega, show (1000 * k + t) % 1000 = t by omega]
              rw [show 2000000 + (200 + t) + 1000 * k = 2000000 + (200 + (1000 * k + t)) by omega, zk_xe_h, zk_xe_h, zv_H_u, zv_H_u, ht, zu_P_nm hg]
              rfl
/-- states -/
def zk_rV (k : Nat) (a : zk_V) : zk_V := cond (Nat.beq a.1 2) (2, zz_ri k a.2.1, a.2.2) a
def zk_okV (a : zk_V) : Bool := Nat.ble a.1 3 && Nat.blt a.2.1 1000000000000
theorem zk_rV_1 {k : Nat} {a : zk_V} : (zk_rV k a).1 = a.1 := by
  unfold zk_rV
  cases hb : Nat.beq a.1 2 with
  | true => exact (zz_beq hb).symm
  | false => rfl
theorem zk_rV_n {k : Nat} {a : zk_V} (h : a.1 ≠ 2) : zk_rV k a = a := by
  unfold zk_rV
  cases hb : Nat.beq a.1 2 with
  | true => exact absurd (zz_beq hb) h
  | false => rfl
theorem zk_rV_2 {k : Nat} {a : zk_V} (h : a.1 = 2) : (zk_rV k a).2.1 = zz_ri k a.2.1 := by
  unfold zk_rV
  cases hb : Nat.beq a.1 2 with
  | true => rfl
  | false =>
    rw [h] at hb
    cases hb
theorem zz_rv_i {k : Nat} {x : Int32} : zz_rv k (.int x) = .int x := rfl
/-- a value, and the value by the other naming -/
theorem zk_v_A {s : Nat → Int} {k : Nat} {a : zk_V} {v : Value} (h : zk_v s a v) (ho : zk_okV a = true) : zk_v s (zk_rV k a) (zz_rv k v) := by
  have h3 := zz_ble (zz_and ho).1
  by_cases h2 : a.1 = 2
  · have e := h.2.2.1 h2
    subst e
    refine ⟨fun hh => ?_, fun hh => ?_, fun _ => ?_, fun hh => ?_⟩
    · rw [zk_rV_1] at hh
      omega
    · rw [zk_rV_1] at hh
      omega
    · rw [zk_rV_2 h2]
      rfl
    · rw [zk_rV_1] at hh
      omega
  · rw [zk_rV_n h2]
    have e : zz_rv k v = v := by
      rcases (show a.1 = 0 ∨ a.1 = 1 ∨ a.1 = 3 by omega) with hh | hh | hh
      · obtain ⟨x, e, -⟩ := h.1 hh
        rw [e]
        rfl
      · obtain ⟨x, e, -⟩ := h.2.1 hh
        rw [e]
        rfl
      · rw [h.2.2.2 hh]
        rfl
    rw [e]
    exact h
theorem zk_v_B {s : Nat → Int} {k : Nat} {a : zk_V} {v : Value} (hk : k ≤ 5) (h : zk_v s (zk_rV k a) v) (ho : zk_okV a = true) : zk_v s a (zz_rv k v) := by
  have h3 := zz_ble (zz_and ho).1
  by_cases h2 : a.1 = 2
  · have e := h.2.2.1 (by rw [zk_rV_1]; exact h2)
    rw [zk_rV_2 h2] at e
    subst e
    refine ⟨fun hh => by omega, fun hh => by omega, fun _ => ?_, fun hh => by omega⟩
    show Value.ref (zz_ri k (zz_ri k a.2.1)) = _
    rw [zz_ri_ri hk]
  · rw [zk_rV_n h2] at h
    have e : zz_rv k v = v := by
      rcases (show a.1 = 0 ∨ a.1 = 1 ∨ a.1 = 3 by omega) with hh | hh | hh
      · obtain ⟨x, e, -⟩ := h.1 hh
        rw [e]
        rfl
      · obtain ⟨x, e, -⟩ := h.2.1 hh
        rw [e]
        rfl
      · rw [h.2.2.2 hh]
        rfl
    rw [e]
    exact h
theorem zk_v_ref_lt {s : Nat → Int} {a : zk_V} {v : Value} (h : zk_v s a v) (ho : zk_okV a = true) : ∀ i, v = .ref i → i < 18446744073709551616 := by
  intro i e
  obtain ⟨h1, h2⟩ := zz_and ho
  have h1 := zz_ble h1
  have h2 := zz_blt h2
  rcases (show a.1 = 0 ∨ a.1 = 1 ∨ a.1 = 2 ∨ a.1 = 3 by omega) with hh | hh | hh | hh
  · obtain ⟨x, e2, -⟩ := h.1 hh
    rw [e] at e2
    cases e2
  · obtain ⟨x, e2, -⟩ := h.2.1 hh
    rw [e] at e2
    cases e2
  · have e2 := h.2.2.1 hh
    rw [e] at e2
    injection e2 with e2
    rw [e2]
    exact Nat.lt_trans h2 (by decide)
  · have e2 := h.2.2.2 hh
    rw [e] at e2
    cases e2
theorem zk_st_A {s : Nat → Int} {k : Nat} : ∀ {T : List zk_V} {vs : List Value}, T.all zk_okV = true → zk_st s T vs → zk_st s (T.map (zk_rV k)) (vs.map (zz_rv k))
  | [], [], _, _ => trivial
  | [], _ :: _, _, h => h.elim
  | _ :: _, [], _, h => h.elim
  | a :: T, v :: vs, ho, h => by
    rw [List.all_cons] at ho
    obtain ⟨h1, h2⟩ := zz_and ho
    exact ⟨zk_v_A h.1 h1, zk_st_A h2 h.2⟩
theorem zk_st_B {s : Nat → Int} {k : Nat} (hk : k ≤ 5) : ∀ {T : List zk_V} {vs : List Value}, T.all zk_okV = true → zk_st s (T.map (zk_rV k)) vs → zk_st s T (vs.map (zz_rv k))
  | [], [], _, _ => trivial
  | [], _ :: _, _, h => h.elim
  | _ :: _, [], _, h => h.elim
  | a :: T, v :: vs, ho, h => by
    rw [List.all_cons] at ho
    obtain ⟨h1, h2⟩ := zz_and ho
    exact ⟨zk_v_B hk h.1 h1, zk_st_B hk h2 h.2⟩
theorem zk_st_sv {s : Nat → Int} {k z0 : Nat} {sp1 sp2 : Nat → Nat} (hk : k ≤ 5) (hn : zz_nm k sp1 sp2) : ∀ {T : List zk_V} {vs : List Value}, T.all zk_okV = true → zk_st s T vs → zz_sv z0 sp2 (vs.map (zz_rv k)) = zz_sv z0 sp1 vs
  | [], [], _, _ => rfl
  | [], _ :: _, _, h => h.elim
  | _ :: _, [], _, h => h.elim
  | a :: T, v :: vs, ho, h => by
    rw [List.all_cons] at ho
    obtain ⟨h1, h2⟩ := zz_and ho
    show zz_v z0 sp2 (zz_rv k v) :: zz_sv z0 sp2 (vs.map (zz_rv k)) = zz_v z0 sp1 v :: zz_sv z0 sp1 vs
    rw [zz_v_rv hk hn (zk_v_ref_lt h.1 h1), zk_st_sv hk hn h2 h.2]
theorem zk_okV_r {k : Nat} {a : zk_V} (hk : k ≤ 5) (h : zk_okV a = true) : zk_okV (zk_rV k a) = true := by
  obtain ⟨h1, h2⟩ := zz_and h
  by_cases e : a.1 = 2
  · refine zv_and ?_ ?_
    · rw [zk_rV_1]
      exact h1
    · rw [zk_rV_2 e]
      exact Nat.ble_eq.mpr (zz_ri_lt hk (by decide) (zz_blt h2))
  · rw [zk_rV_n e]
    exact h
/-- fields -/
def zk_okF (fk : Nat → Nat → Nat) (HU : List (List zk_H)) (q : (Nat × Nat) × zk_V) : Bool := (Nat.beq (zk_h HU q.1.1).1 3 && zk_okV q.2) && cond (Nat.beq q.2.1 0) (Nat.beq (fk (zk_h HU q.1.1).2.1 q.1.2) 0) (Nat.blt 1 (fk (zk_h HU q.1.1).2.1 q.1.2) && Nat.blt 1 q.2.1)
theorem zk_fd_rw {fk : Nat → Nat → Nat} {k i j : Nat} {w : zz_W} (hk : k ≤ 5) (hi : i < 1024) (h3 : (zz_g w (zz_sw k i)).1 = 3) : zk_fd (zz_rw fk k w) (i, j) = zz_g3 fk k (zz_g w (zz_sw k i)).2.1 j (zk_fd w (zz_sw k i, j)) := by
  unfold zk_fd
  show zz_at 64 (zz_g (zz_rw fk k w) i).2.2.2 j = _
  rw [zz_rw_g hi, zz_rc_3 (by omega)]
  show zz_at 64 (zz_mp 64 _ _) j = _
  rw [zz_at_mp (by decide) (fun _ _ hx => zz_g3_lt hk hx) (fun _ => zz_g3_0)]
theorem zk_n_g3 {s : Nat → Int} {fk : Nat → Nat → Nat} {k ci j n : Nat} {a : zk_V} (ho : cond (Nat.beq a.1 0) (Nat.beq (fk ci j) 0) (Nat.blt 1 (fk ci j) && Nat.blt 1 a.1) = true) (h : zk_n s a n) : zk_n s (zk_rV k a) (zz_g3 fk k ci j n) := by
  unfold zz_g3
  cases hb : Nat.beq a.1 0 with
  | true =>
    rw [hb] at ho
    have e := zz_beq hb
    rw [if_pos (Or.inl (zz_beq (show Nat.beq (fk ci j) 0 = true from ho))), zk_rV_n (by omega)]
    exact h
  | false =>
    rw [hb] at ho
    obtain ⟨h1, h2⟩ := zz_and (show (Nat.blt 1 (fk ci j) && Nat.blt 1 a.1) = true from ho)
    have h1 := zz_blt h1
    have h2 := zz_blt h2
    rw [if_neg (by omega)]
    refine ⟨fun hh => ?_, fun hh => ?_, fun hh => ?_⟩
    · rw [zk_rV_1] at hh
      omega
    · rw [zk_rV_1] at hh
      rw [h.2.1 hh, zk_rV_2 hh, zz_rfn_s]
    · rw [zk_rV_1] at hh
      rw [h.2.2 hh, zz_rfn_0]
theorem zk_rV_rV {k : Nat} {a : zk_V} (hk : k ≤ 5) : zk_rV k (zk_rV k a) = a := by
  by_cases e : a.1 = 2
  · obtain ⟨x, y, z⟩ := a
    have e : x = 2 := e
    subst e
    show (2, zz_ri k (zz_ri k y), z) = (2, y, z)
    rw [zz_ri_ri hk]
  · rw [zk_rV_n e, zk_rV_n e]
def zk_rF1 (k : Nat) (q : (Nat × Nat) × zk_V) : (Nat × Nat) × zk_V := ((zz_sw k q.1.1, q.1.2), zk_rV k q.2)
theorem zk_fl_A {s : Nat → Int} {fk : Nat → Nat → Nat} {HU : List (List zk_H)} {k : Nat} {w : zz_W} {F : List ((Nat × Nat) × zk_V)} (hk : k ≤ 5) (hs : zk_sym fk k HU = true) (hI : zk_I 64 HU w) (ho : F.all (zk_okF fk HU) = true) (h : zk_fl s F w) : zk_fl s (F.map (zk_rF1 k)) (zz_rw fk k w) := by
  intro q hq
  obtain ⟨p, p1, p2⟩ := List.mem_map.mp hq
  subst p2
  obtain ⟨h1, h2⟩ := zz_and (List.all_eq_true.mp ho p p1)
  obtain ⟨h3, h4⟩ := zz_and h1
  have h3 := zz_beq h3
  obtain ⟨hi, -⟩ := zk_sym_at hs (i := p.1.1) (by omega)
  have hok := (hI.2.2.2 p.1.1 (by omega)).2
  have hc : (zz_g w p.1.1).2.1 = (zk_h HU p.1.1).2.1 := hok.2.1
  have hk3 : (zz_g w p.1.1).1 = 3 := hok.1.trans h3
  show zk_n s (zk_rV k p.2) (zk_fd (zz_rw fk k w) (zz_sw k p.1.1, p.1.2))
  rw [zk_fd_rw hk (zz_sw_lt hk (by decide) hi) (by rw [zz_sw_sw]; exact hk3), zz_sw_sw, hc]
  exact zk_n_g3 h2 (h p p1)
theorem zk_fl_B {s : Nat → Int} {fk : Nat → Nat → Nat} {HU : List (List zk_H)} {k : Nat} {w : zz_W} {F : List ((Nat × Nat) × zk_V)} (hk : k ≤ 5) (hs : zk_sym fk k HU = true) (hI : zk_I 64 HU w) (ho : F.all (zk_okF fk HU) = true) (h : zk_fl s (F.map (zk_rF1 k)) w) : zk_fl s F (zz_rw fk k w) := by
  intro p p1
  obtain ⟨h1, h2⟩ := zz_and (List.all_eq_true.mp ho p p1)
  obtain ⟨h3, h4⟩ := zz_and h1
  have h3 := zz_beq h3
  obtain ⟨hi, hs1⟩ := zk_sym_at hs (i := p.1.1) (by omega)
  obtain ⟨e1, -⟩ := zz_and hs1
  obtain ⟨e2, e3⟩ := zz_and e1
  have e2 := zz_beq e2
  have e3 := zz_beq (zz_and e3).1
  have hok := (hI.2.2.2 (zz_sw k p.1.1) (by omega)).2
  have hc : (zz_g w (zz_sw k p.1.1)).2.1 = (zk_h HU p.1.1).2.1 := hok.2.1.trans e3
  have hk3 : (zz_g w (zz_sw k p.1.1)).1 = 3 := by
    have := hok.1
    omega
  rw [zk_fd_rw (i := p.1.1) (j := p.1.2) hk hi hk3, hc]
  have h5 := h _ (List.mem_map.mpr ⟨p, p1, rfl⟩)
  have h5 : zk_n s (zk_rV k p.2) (zk_fd w (zz_sw k p.1.1, p.1.2)) := h5
  have h6 := zk_n_g3 (k := k) (fk := fk) (ci := (zk_h HU p.1.1).2.1) (j := p.1.2) (a := zk_rV k p.2) (by rw [zk_rV_1]; exact h2) h5
  rw [zk_rV_rV hk] at h6
  exact h6
/-- elements -/
def zk_rE1 (k : Nat) (x : zk_E1) : zk_E1 := (zk_nr k x.1, x.2.1, x.2.2)
theorem zk_okr_at {HU : List (List zk_H)} {k r x : Nat} (h : zk_okr HU k r = true) (hx : x ∈ zk_rws r) : x < 1024 ∧ (zk_h HU x).1 < 2 ∧ (zk_h HU (zz_sw k x)).1 < 2 := by
  obtain ⟨h1, -⟩ := zz_and h
  obtain ⟨h2, h3⟩ := zz_and (List.all_eq_true.mp h1 x hx)
  obtain ⟨h3, h4⟩ := zz_and h3
  exact ⟨zz_blt h2, zz_blt h3, zz_blt h4⟩
theorem zk_eF_B {s : Nat → Int} {fk : Nat → Nat → Nat} {HU : List (List zk_H)} {k : Nat} {w : zz_W} {E : List zk_E1} (hk1 : 1 ≤ k) (hk : k ≤ 5) (hI : zk_I 64 HU w) (ho : E.all (fun x => zk_okr HU k x.1) = true) (h : zk_eF s (E.map (zk_rE1 k)) w) : zk_eF s E (zz_rw fk k w) := by
  intro x hx
  have h1 := h _ (List.mem_map.mpr ⟨x, hx, rfl⟩)
  have h1 : 0 ≤ zl_ev s x.2.1 ∧ zk_xe w (zk_nr k x.1) (zl_ev s x.2.1) = zl_ev s x.2.2 := h1
  have ho := List.all_eq_true.mp ho x hx
  refine ⟨h1.1, ?_⟩
  rw [zk_xe_nm hk1 hk ho (fun y hy => ?_)]
  · exact h1.2
  · obtain ⟨o1, o2, o3⟩ := zk_okr_at ho hy
    exact zz_rw_k hI o1 o3
theorem zk_eF_A {s : Nat → Int} {fk : Nat → Nat → Nat} {HU : List (List zk_H)} {k : Nat} {w : zz_W} {E : List zk_E1} (hk1 : 1 ≤ k) (hk : k ≤ 5) (hI : zk_I 64 HU w) (ho : E.all (fun x => zk_okr HU k x.1) = true) (h : zk_eF s E w) : zk_eF s (E.map (zk_rE1 k)) (zz_rw fk k w) := by
  intro y hy
  obtain ⟨x, hx, e⟩ := List.mem_map.mp hy
  subst e
  have h1 := h x hx
  have ho := List.all_eq_true.mp ho x hx
  refine ⟨h1.1, ?_⟩
  show zk_xe (zz_rw fk k w) (zk_nr k x.1) (zl_ev s x.2.1) = zl_ev s x.2.2
  rw [← zk_xe_nm (w' := w) hk1 hk ho (fun y hy => ?_)]
  · exact h1.2
  · obtain ⟨o1, o2, o3⟩ := zk_okr_at ho hy
    rw [zz_rw_k hI (zz_sw_lt hk (by decide) o1) (by rw [zz_sw_sw]; exact o2), zz_sw_sw]
end
