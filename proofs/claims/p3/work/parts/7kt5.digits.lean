/-! DIGITS of coded places; what a call leaves: places ahead of those that may change -/
noncomputable section
/-- a sum of numbers that are not below 0: its lowest digit (by 2^32), and the rest -/
def zl_nng (e : zl_E) : Bool := Nat.ble e.1.2 e.1.1 && e.2.all (fun q => Nat.ble q.2.2 q.2.1)
def zl_lo (e : zl_E) : zl_E := ((Nat.mod (Nat.sub e.1.1 e.1.2) 4294967296, 0), zl_mp (fun a => (Nat.mod (Nat.sub a.1 a.2) 4294967296, 0)) e.2)
def zl_hi (e : zl_E) : zl_E := ((Nat.div (Nat.sub e.1.1 e.1.2) 4294967296, 0), zl_mp (fun a => (Nat.div (Nat.sub a.1 a.2) 4294967296, 0)) e.2)
theorem zl_lh_nv {a : zl_N} (h : Nat.ble a.2 a.1 = true) : zl_nv a = zl_nv (Nat.mod (Nat.sub a.1 a.2) 4294967296, 0) + 4294967296 * zl_nv (Nat.div (Nat.sub a.1 a.2) 4294967296, 0) := by
  have h1 := zz_ble h
  rw [zl_nv_eq, zl_nv_eq, zl_nv_eq]
  show (a.1 : Int) - (a.2 : Int) = ((((a.1 - a.2) % 4294967296 : Nat) : Int) - ((0 : Nat) : Int)) + 4294967296 * ((((a.1 - a.2) / 4294967296 : Nat) : Int) - ((0 : Nat) : Int))
  omega
theorem zl_lh_dt (s : Nat → Int) : ∀ (l : List (Nat × zl_N)), l.all (fun q => Nat.ble q.2.2 q.2.1) = true → zl_dt s l = zl_dt s (zl_mp (fun a => (Nat.mod (Nat.sub a.1 a.2) 4294967296, 0)) l) + 4294967296 * zl_dt s (zl_mp (fun a => (Nat.div (Nat.sub a.1 a.2) 4294967296, 0)) l)
  | [], _ => by
    show (0 : Int) = 0 + 4294967296 * 0
    omega
  | q :: l, h => by
    obtain ⟨h1, h2⟩ := zz_and (show (Nat.ble q.2.2 q.2.1 && l.all (fun q => Nat.ble q.2.2 q.2.1)) = true from h)
    have h3 := zl_lh_dt s l h2
    have h4 := zl_lh_nv h1
    show zl_nv q.2 * s q.1 + zl_dt s l = (zl_nv (Nat.mod (Nat.sub q.2.1 q.2.2) 4294967296, 0) * s q.1 + zl_dt s (zl_mp (fun a => (Nat.mod (Nat.sub a.1 a.2) 4294967296, 0)) l)) + 4294967296 * (zl_nv (Nat.div (Nat.sub q.2.1 q.2.2) 4294967296, 0) * s q.1 + zl_dt s (zl_mp (fun a => (Nat.div (Nat.sub a.1 a.2) 4294967296, 0)) l))
    rw [h3, h4, Int.add_mul, Int.mul_assoc]
    omega
theorem zl_lh_ev {s : Nat → Int} {e : zl_E} (h : zl_nng e = true) : zl_ev s e = zl_ev s (zl_lo e) + 4294967296 * zl_ev s (zl_hi e) := by
  obtain ⟨h1, h2⟩ := zz_and h
  unfold zl_ev
  show zl_nv e.1 + zl_dt s e.2 = (zl_nv (Nat.mod (Nat.sub e.1.1 e.1.2) 4294967296, 0) + zl_dt s (zl_mp (fun a => (Nat.mod (Nat.sub a.1 a.2) 4294967296, 0)) e.2)) + 4294967296 * (zl_nv (Nat.div (Nat.sub e.1.1 e.1.2) 4294967296, 0) + zl_dt s (zl_mp (fun a => (Nat.div (Nat.sub a.1 a.2) 4294967296, 0)) e.2))
  rw [zl_lh_nv h1, zl_lh_dt s e.2 h2]
  omega
def zl_dig (B : List (Int × Int)) (C : List zl_E) : Nat → zl_E → Option zl_E
  | 0, e => cond (zl_nng e && (zl_gq B C (zl_lo e) && zl_gq B C (zl_sub (zl_con 4294967295) (zl_lo e)))) (some (zl_lo e)) none
  | i + 1, e => cond (zl_nng e && (zl_gq B C (zl_lo e) && zl_gq B C (zl_sub (zl_con 4294967295) (zl_lo e)))) (zl_dig B C i (zl_hi e)) none
theorem zl_dig_ok {s : Nat → Int} {B : List (Int × Int)} {C : List zl_E} (hB : zl_in s B) (hC : ∀ c ∈ C, 0 ≤ zl_ev s c) : ∀ {i : Nat} {e d : zl_E}, zl_dig B C i e = some d → zv_dg i (zl_ev s e) = zl_ev s d
  | 0, e, d, h => by
    unfold zl_dig at h
    obtain ⟨hb, h⟩ := zz_cond h
    cases h
    obtain ⟨b1, hb⟩ := zz_and hb
    obtain ⟨b2, b3⟩ := zz_and hb
    have h2 := zl_gq_ok hB hC b2
    have h3 := zl_gq_ok hB hC b3
    rw [zl_sub_ev, zl_con_ev] at h3
    rw [zl_lh_ev b1]
    show (zl_ev s (zl_lo e) + 4294967296 * zl_ev s (zl_hi e)) % 4294967296 = _
    omega
  | i + 1, e, d, h => by
    unfold zl_dig at h
    obtain ⟨hb, h⟩ := zz_cond h
    obtain ⟨b1, hb⟩ := zz_and hb
    obtain ⟨b2, b3⟩ := zz_and hb
    have h2 := zl_gq_ok hB hC b2
    have h3 := zl_gq_ok hB hC b3
    rw [zl_sub_ev, zl_con_ev] at h3
    have h4 := zl_dig_ok hB hC h
    rw [← h4, zl_lh_ev b1]
    show zv_dg i ((zl_ev s (zl_lo e) + 4294967296 * zl_ev s (zl_hi e)) / 4294967296) = _
    rw [show (zl_ev s (zl_lo e) + 4294967296 * zl_ev s (zl_hi e)) / 4294967296 = zl_ev s (zl_hi e) by omega]
def zl_digs (B : List (Int × Int)) (C : List zl_E) : Nat → zl_E → Option (List zl_E)
  | 0, _ => some []
  | n + 1, e => cond (zl_nng e && (zl_gq B C (zl_lo e) && zl_gq B C (zl_sub (zl_con 4294967295) (zl_lo e)))) (match zl_digs B C n (zl_hi e) with
    | some l => some (zl_lo e :: l)
    | none => none) none
theorem zl_digs_ok {s : Nat → Int} {B : List (Int × Int)} {C : List zl_E} (hB : zl_in s B) (hC : ∀ c ∈ C, 0 ≤ zl_ev s c) : ∀ {n : Nat} {e : zl_E} {l : List zl_E}, zl_digs B C n e = some l → ∀ i, i < n → zv_dg i (zl_ev s e) = zl_ev s (l.getD i (zl_con 0))
  | 0, _, _, _, _, hi => absurd hi (Nat.not_lt_zero _)
  | n + 1, e, l, h, i, hi => by
    unfold zl_digs at h
    obtain ⟨hb, h⟩ := zz_cond h
    obtain ⟨b1, hb⟩ := zz_and hb
    obtain ⟨b2, b3⟩ := zz_and hb
    have h2 := zl_gq_ok hB hC b2
    have h3 := zl_gq_ok hB hC b3
    rw [zl_sub_ev, zl_con_ev] at h3
    split at h
    · rename_i l' hl
      cases h
      rw [zl_lh_ev b1]
      cases i with
      | zero =>
        show (zl_ev s (zl_lo e) + 4294967296 * zl_ev s (zl_hi e)) % 4294967296 = zl_ev s (zl_lo e)
        omega
      | succ i =>
        have h4 := zl_digs_ok hB hC hl i (by omega)
        show zv_dg i ((zl_ev s (zl_lo e) + 4294967296 * zl_ev s (zl_hi e)) / 4294967296) = zl_ev s (l'.getD i (zl_con 0))
        rw [show (zl_ev s (zl_lo e) + 4294967296 * zl_ev s (zl_hi e)) / 4294967296 = zl_ev s (zl_hi e) by omega]
        exact h4
    · cases h
/-- the places from lo up to e of row r are left by a call (N: what it may change, t: its symbols) -/
def zk_bel (N : zk_M) (B : List (Int × Int)) (C : List zl_E) (t : List zl_E) (r : Nat) (lo e : zl_E) : Bool := !(zk_inM N.1 r 999) && N.2.all (fun p => Nat.ble (zl_mx p.2.2) t.length && ((!(Nat.beq p.1 r) || (zl_gq B C (zl_sub (zl_subst t p.2) e) || zl_gq B C (zl_sub (zl_sub lo (zl_con 1)) (zl_subst t p.2)))) && (!(Nat.beq p.1 (r + 10000000)) || zl_gq B C (zl_sub (zl_subst t p.2) e))))
theorem zk_nbq {a b : Nat} (h : (!(Nat.beq a b)) = true) : a ≠ b := by
  intro e
  rw [e, Nat.beq_refl] at h
  cases h
theorem zk_bel_ok {c : Nat} {HT : List (List zk_H)} {N : zk_M} {B : List (Int × Int)} {C : List zl_E} {t : List zl_E} {r : Nat} {lo e : zl_E} {s : Nat → Int} {w w' : zz_W} (hB : zl_in s B) (hC : ∀ c ∈ C, 0 ≤ zl_ev s c) (h : zk_bel N B C t r lo e = true) (hJ : zk_J c HT N (w, N.2.map (fun p => (p.1, zl_ev (zk_u s t) p.2))) w') (hr : r < w.1) (h3 : (zz_g w r).1 ≠ 3) {q : Int} (hq : 0 ≤ q) (hq1 : zl_ev s lo ≤ q) (hq2 : q < zl_ev s e) : zk_el w' r q = zk_el w r q := by
  obtain ⟨h1, h2⟩ := zz_and h
  have h9 : (r, 999) ∉ N.1 := fun hin => by
    rw [zk_inM_mem hin] at h1
    cases h1
  refine (hJ.2.1.2 r h9 hr h3).2 q hq ⟨fun hm => ?_, fun x hm => ?_⟩
  · obtain ⟨p, p1, p2⟩ := List.mem_map.mp hm
    have e1 : p.1 = r := congrArg Prod.fst p2
    have e2 : zl_ev (zk_u s t) p.2 = q := congrArg Prod.snd p2
    obtain ⟨b1, b2⟩ := zz_and (List.all_eq_true.mp h2 p p1)
    obtain ⟨b2, -⟩ := zz_and b2
    rcases Bool.or_eq_true_iff.mp b2 with b2 | b2
    · exact zk_nbq b2 e1
    · rcases Bool.or_eq_true_iff.mp b2 with b2 | b2
      · have := zl_gq_ok hB hC b2
        rw [zl_sub_ev, zl_subst_ev (u := zk_u s t) (zz_ble b1) zk_u_at] at this
        omega
      · have := zl_gq_ok hB hC b2
        rw [zl_sub_ev, zl_sub_ev, zl_con_ev, zl_subst_ev (u := zk_u s t) (zz_ble b1) zk_u_at] at this
        omega
  · obtain ⟨p, p1, p2⟩ := List.mem_map.mp hm
    have e1 : p.1 = r + 10000000 := congrArg Prod.fst p2
    have e2 : zl_ev (zk_u s t) p.2 = x := congrArg Prod.snd p2
    obtain ⟨b1, b2⟩ := zz_and (List.all_eq_true.mp h2 p p1)
    obtain ⟨-, b2⟩ := zz_and b2
    rcases Bool.or_eq_true_iff.mp b2 with b2 | b2
    · exact absurd e1 (zk_nbq b2)
    · have := zl_gq_ok hB hC b2
      rw [zl_sub_ev, zl_subst_ev (u := zk_u s t) (zz_ble b1) zk_u_at] at this
      omega
def zk_kc (N : zk_M) (i : Nat) : Bool := Nat.blt i 171 || (Nat.blt i 1000000 && N.2.any (fun p => Nat.beq p.1 (i + 10000000)))
theorem zk_kc_b {N : zk_M} {i : Nat} (h : zk_kc N i = true) : Nat.blt i 1000000 = true := by
  unfold zk_kc at h
  rcases Bool.or_eq_true_iff.mp h with h | h
  · exact Nat.ble_eq.mpr (by have := zz_blt h; omega)
  · exact (zz_and h).1
/-- an element that is known stays so over a call that may change its rows at other places -/
def zk_kep (N : zk_M) (B : List (Int × Int)) (C : List zl_E) (t : List zl_E) (x : zk_E1) : Bool :=
  cond (zk_kc N x.1) (zk_bel N B C t x.1 x.2.1 (zl_add x.2.1 (zl_con 1)))
    (!(Nat.blt x.1 2000000) && (zk_rws x.1).all (fun r => (!(zk_inM N.1 r 999) && !(zk_inM N.1 r 998)) || (zv_AP (x.1 - 2000000)).any (fun q => Nat.beq q.1 r && (match zl_dig B C q.2.2.1 x.2.1, zl_dig B C q.2.2.2 x.2.1 with
      | some d0, some d1 => zk_bel N B C t r (zl_mul (Int.ofNat q.2.1) d0) (zl_mul (Int.ofNat q.2.1) d1)
      | _, _ => false))))
theorem zk_kep_ok {c : Nat} {HT : List (List zk_H)} {N : zk_M} {B : List (Int × Int)} {C : List zl_E} {t : List zl_E} {x : zk_E1} {s : Nat → Int} {w w' : zz_W} (hB : zl_in s B) (hC : ∀ c ∈ C, 0 ≤ zl_ev s c) (h : zk_kep N B C t x = true) (hI : zk_I c HT w) (hJ : zk_J c HT N (w, N.2.map (fun p => (p.1, zl_ev (zk_u s t) p.2))) w') (h3 : ∀ r ∈ zk_rws x.1, (zk_h HT r).1 < 3) (hx : 0 ≤ zl_ev s x.2.1) : zk_xe w' x.1 (zl_ev s x.2.1) = zk_xe w x.1 (zl_ev s x.2.1) := by
  unfold zk_kep at h
  cases hb7 : zk_kc N x.1 with
  | true =>
    rw [hb7] at h
    have hb : Nat.blt x.1 1000000 = true := zk_kc_b hb7
    obtain ⟨i1, i2, -⟩ := hI.2.2.2 x.1 (by have := h3 x.1 (by rw [zk_rws_i1 hb]; exact List.mem_cons_self); omega)
    have h4 := h3 x.1 (by rw [zk_rws_i1 hb]; exact List.mem_cons_self)
    rw [zk_xe_r hb, zk_xe_r hb]
    exact zk_bel_ok hB hC h hJ i1 (by rw [i2]; omega) hx (Int.le_refl _) (by rw [zl_add_ev, zl_con_ev]; omega)
  | false =>
    rw [hb7] at h
    obtain ⟨h1, h2⟩ := zz_and (show (!(Nat.blt x.1 2000000) && (zk_rws x.1).all _) = true from h)
    have hb2 : Nat.blt x.1 2000000 = false := by
      cases hb2 : Nat.blt x.1 2000000 with
      | false => rfl
      | true =>
        rw [hb2] at h1
        cases h1
    have hb : Nat.blt x.1 1000000 = false := by
      cases hb : Nat.blt x.1 1000000 with
      | false => rfl
      | true =>
        have h9 : Nat.blt x.1 2000000 = true := Nat.ble_eq.mpr (by have := zz_blt hb; omega)
        rw [h9] at hb2
        cases hb2
    rw [zk_xe_i3 hb hb2, zk_xe_i3 hb hb2]
    refine zv_AP_ok (fun r hr => ?_)
    rw [← zk_rws_i3 hb hb2] at hr
    have h5 := h3 r hr
    obtain ⟨i1, i2, -⟩ := hI.2.2.2 r (by omega)
    rcases Bool.or_eq_true_iff.mp (List.all_eq_true.mp h2 r hr) with h6 | h6
    · obtain ⟨c1, c2⟩ := zz_and h6
      refine Or.inl ((hJ.2.1.2 r (fun hin => ?_) i1 (by rw [i2]; omega)).1 (fun hin => ?_))
      · rw [zk_inM_mem hin] at c1
        cases c1
      · rw [zk_inM_mem hin] at c2
        cases c2
    · obtain ⟨q, q1, q2⟩ := List.any_eq_true.mp h6
      obtain ⟨q2, q3⟩ := zz_and q2
      refine Or.inr ⟨q, q1, zz_beq q2, fun p hp0 hp1 hp2 => ?_⟩
      split at q3
      · rename_i d0 d1 hd0 hd1
        rw [zl_dig_ok hB hC hd0] at hp1
        rw [zl_dig_ok hB hC hd1] at hp2
        exact zk_bel_ok hB hC q3 hJ i1 (by rw [i2]; omega) hp0 (by rw [zl_mul_ev]; exact hp1) (by rw [zl_mul_ev]; exact hp2)
      · cases q3
end
