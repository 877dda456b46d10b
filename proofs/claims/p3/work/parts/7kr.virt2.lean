/-! VIRTUAL ROWS: row 1000000 + t at a place says a sum over the places ahead of it. A place is coded: place + 1048576 * parameter -/
noncomputable section
def zv_ca (u : Nat → Int) : List (List zl_E × zl_E) → Int
  | [] => 0
  | q :: r => cond (q.1.all (fun c => decide (0 ≤ zl_ev u c))) (zl_ev u q.2) (zv_ca u r)
def zv_al (w : zz_W) (rows : List Nat) (n : Int) (j : Nat) : List Int := (j : Int) :: (rows.map (fun r => zk_el w r (j : Int)) ++ [n])
def zv_F (p : zv_Sp) (w : zz_W) (n : Int) : Nat → Int
  | 0 => 0
  | j + 1 => zv_F p w n j + zv_ca (fun m => (zv_al w p.1 n j).getD m 0) p.2
/-- the rows that it speaks of -/
def zk_rws (i : Nat) : List Nat := cond (Nat.blt i 1000000) [i] (cond (Nat.blt i 2000000) (zv_T (i - 1000000)).1 (zv_HR (i - 2000000)))
/-- below 1000000 rows, below 2000000 virtual ones, then functions by hand -/
def zk_xe (w : zz_W) (i : Nat) (j : Int) : Int := cond (Nat.blt i 1000000) (zk_el w i j) (cond (Nat.blt i 2000000) (zv_F (zv_T (i - 1000000)) w (j / 1048576) (j % 1048576).toNat) (zv_H (i - 2000000) w j))
theorem zk_xe_r {w : zz_W} {i : Nat} {j : Int} (h : Nat.blt i 1000000 = true) : zk_xe w i j = zk_el w i j := by
  unfold zk_xe
  rw [h]
  rfl
theorem zv_F_eq {p : zv_Sp} {w w' : zz_W} {n : Int} : ∀ {m : Nat}, (∀ r ∈ p.1, ∀ j : Nat, j < m → zk_el w' r (j : Int) = zk_el w r (j : Int)) → zv_F p w' n m = zv_F p w n m
  | 0, _ => rfl
  | m + 1, h => by
    have e : zv_al w' p.1 n m = zv_al w p.1 n m := by
      unfold zv_al
      rw [List.map_congr_left (fun r hr => h r hr m (Nat.lt_succ_self m))]
    show zv_F p w' n m + zv_ca (fun k => (zv_al w' p.1 n m).getD k 0) p.2 = zv_F p w n m + zv_ca (fun k => (zv_al w p.1 n m).getD k 0) p.2
    rw [zv_F_eq (fun r hr j hj => h r hr j (Nat.lt_succ_of_lt hj)), e]
theorem zk_cF {α : Type} {b : Bool} (h : b = false) {x y : α} : cond b x y = y := by
  cases h
  rfl
theorem zk_cT {α : Type} {b : Bool} (h : b = true) {x y : α} : cond b x y = x := by
  cases h
  rfl
theorem zk_xe_i2 {w : zz_W} {i : Nat} {j : Int} (h1 : Nat.blt i 1000000 = false) (h2 : Nat.blt i 2000000 = true) : zk_xe w i j = zv_F (zv_T (i - 1000000)) w (j / 1048576) (j % 1048576).toNat := by
  unfold zk_xe
  rw [zk_cF h1, zk_cT h2]
theorem zk_xe_i3 {w : zz_W} {i : Nat} {j : Int} (h1 : Nat.blt i 1000000 = false) (h2 : Nat.blt i 2000000 = false) : zk_xe w i j = zv_H (i - 2000000) w j := by
  unfold zk_xe
  rw [zk_cF h1, zk_cF h2]
theorem zk_rws_i2 {i : Nat} (h1 : Nat.blt i 1000000 = false) (h2 : Nat.blt i 2000000 = true) : zk_rws i = (zv_T (i - 1000000)).1 := by
  unfold zk_rws
  rw [zk_cF h1, zk_cT h2]
theorem zk_rws_i3 {i : Nat} (h1 : Nat.blt i 1000000 = false) (h2 : Nat.blt i 2000000 = false) : zk_rws i = zv_HR (i - 2000000) := by
  unfold zk_rws
  rw [zk_cF h1, zk_cF h2]
theorem zk_rws_i1 {i : Nat} (h1 : Nat.blt i 1000000 = true) : zk_rws i = [i] := by
  unfold zk_rws
  rw [zk_cT h1]
theorem zk_xe_g {w w' : zz_W} {i : Nat} {j : Int} (h : ∀ r ∈ zk_rws i, zz_g w' r = zz_g w r) : zk_xe w' i j = zk_xe w i j := by
  cases hb : Nat.blt i 1000000 with
  | true =>
    rw [zk_xe_r hb, zk_xe_r hb]
    unfold zk_el
    rw [h i (by rw [zk_rws_i1 hb]; exact List.mem_cons_self)]
  | false =>
    cases h2 : Nat.blt i 2000000 with
    | true =>
      rw [zk_xe_i2 hb h2, zk_xe_i2 hb h2]
      exact zv_F_eq (fun r hr k _ => by
        unfold zk_el
        rw [h r (by rw [zk_rws_i2 hb h2]; exact hr)])
    | false =>
      rw [zk_xe_i3 hb h2, zk_xe_i3 hb h2]
      exact zv_H_g (fun r hr => h r (by rw [zk_rws_i3 hb h2]; exact hr))
/-- what stands ahead of the place that is written stays -/
theorem zk_xe_p {w w' : zz_W} {i a : Nat} {j j0 : Int} (hw : zk_rR a j0 w w') (hi : Nat.blt i 1000000 = false ∧ Nat.blt i 2000000 = true) (hj : j % 1048576 ≤ j0) : zk_xe w' i j = zk_xe w i j := by
  rw [zk_xe_i2 hi.1 hi.2, zk_xe_i2 hi.1 hi.2]
  refine zv_F_eq (fun r _ k hk => ?_)
  by_cases hr : r = a
  · subst hr
    refine hw.2 (k : Int) (Int.natCast_nonneg k) (fun e => ?_)
    have := Int.emod_nonneg j (show (1048576 : Int) ≠ 0 by decide)
    omega
  · unfold zk_el
    rw [hw.1 r hr]
/-- the coded place -/
theorem zv_code {j e n : Int} (h : j = e + 1048576 * n) (h1 : 0 ≤ e) (h2 : e < 1048576) : j / 1048576 = n ∧ j % 1048576 = e := by
  omega
theorem zk_xe_v {w : zz_W} {t : Nat} {j e n : Int} (ht : t < 1000000) (h : j = e + 1048576 * n) (h1 : 0 ≤ e) (h2 : e < 1048576) : zk_xe w (1000000 + t) j = zv_F (zv_T t) w n e.toNat := by
  obtain ⟨a, b⟩ := zv_code h h1 h2
  rw [zk_xe_i2 (by
    cases hb : Nat.blt (1000000 + t) 1000000 with
    | true => exact absurd (zz_blt hb) (by omega)
    | false => rfl) (show Nat.blt (1000000 + t) 2000000 = true from Nat.ble_eq.mpr (by omega)), a, b, Nat.add_sub_cancel_left]
theorem zk_xe_h {w : zz_W} {t : Nat} {j : Int} : zk_xe w (2000000 + t) j = zv_H t w j := by
  rw [zk_xe_i3 (by
    cases hb : Nat.blt (2000000 + t) 1000000 with
    | true => exact absurd (zz_blt hb) (by omega)
    | false => rfl) (by
    cases hb : Nat.blt (2000000 + t) 2000000 with
    | true => exact absurd (zz_blt hb) (by omega)
    | false => rfl), Nat.add_sub_cancel_left]
/-- which case it is -/
def zv_cs (B : List (Int × Int)) (C t : List zl_E) : List (List zl_E × zl_E) → List (List Nat) → Nat → Option zl_E
  | [], _, _ => some (zl_con 0)
  | q :: _, hs, 0 => cond (Nat.ble (zl_mx q.2.2) t.length && zk_ens B C t q.1 hs) (some (zl_subst t q.2)) none
  | q :: r, hs, k + 1 => match q.1[(hs.headD []).headD 0]? with
    | some c => cond (Nat.ble (zl_mx c.2) t.length && zl_en B C (hs.headD []).tail (zl_sub (zl_con (-1)) (zl_subst t c))) (zv_cs B C t r hs.tail k) none
    | none => none
theorem zv_cs_ok {s : Nat → Int} {B : List (Int × Int)} {C t : List zl_E} (hB : zl_in s B) (hC : zk_cs s C) : ∀ {cs : List (List zl_E × zl_E)} {hs : List (List Nat)} {k : Nat} {v : zl_E}, zv_cs B C t cs hs k = some v → zl_ev s v = zv_ca (zk_u s t) cs
  | [], _, _, v, h => by
    cases h
    rw [zl_con_ev]
    rfl
  | q :: r, hs, 0, v, h => by
    unfold zv_cs at h
    obtain ⟨hb, h⟩ := zz_cond h
    cases h
    obtain ⟨b1, b2⟩ := zz_and hb
    have h1 := zk_ens_ok hB hC b2
    unfold zv_ca
    rw [show q.1.all (fun c => decide (0 ≤ zl_ev (zk_u s t) c)) = true from List.all_eq_true.mpr (fun c hc => decide_eq_true (h1 c hc))]
    exact zl_subst_ev (zz_ble b1) zk_u_at
  | q :: r, hs, k + 1, v, h => by
    unfold zv_cs at h
    split at h
    · rename_i c hc
      obtain ⟨hb, h⟩ := zz_cond h
      obtain ⟨b1, b2⟩ := zz_and hb
      have h1 := zl_en_ok hB hC b2
      rw [zl_sub_ev, zl_con_ev, zl_subst_ev (u := zk_u s t) (zz_ble b1) zk_u_at] at h1
      unfold zv_ca
      rw [show q.1.all (fun c => decide (0 ≤ zl_ev (zk_u s t) c)) = false from by
        cases ha : q.1.all (fun c => decide (0 ≤ zl_ev (zk_u s t) c)) with
        | false => rfl
        | true =>
          have := of_decide_eq_true (List.all_eq_true.mp ha c (List.mem_of_getElem? hc))
          omega]
      exact zv_cs_ok hB hC h
    · cases h
/-- bounds of the values, where they are numbers -/
def zv_bd (lo hi : Int) (cs : List (List zl_E × zl_E)) : Bool := (decide (lo ≤ 0) && decide (0 ≤ hi)) && cs.all (fun q => Nat.beq (zl_mx q.2.2) 0 && (decide (lo ≤ zl_nv q.2.1) && decide (zl_nv q.2.1 ≤ hi)))
theorem zl_ev_con {s : Nat → Int} : ∀ {e : zl_E}, zl_mx e.2 = 0 → zl_ev s e = zl_nv e.1
  | (a, []), _ => by
    show zl_nv a + 0 = zl_nv a
    omega
  | (a, q :: l), h => by
    have := zl_mx_lt (l := q :: l) (q := q) List.mem_cons_self
    have h : zl_mx (q :: l) = 0 := h
    omega
theorem zv_and {a b : Bool} (h1 : a = true) (h2 : b = true) : (a && b) = true := by
  subst h1
  subst h2
  rfl
theorem zv_bd_ok {lo hi : Int} {u : Nat → Int} : ∀ {cs : List (List zl_E × zl_E)}, zv_bd lo hi cs = true → lo ≤ zv_ca u cs ∧ zv_ca u cs ≤ hi
  | [], h => by
    obtain ⟨h, -⟩ := zz_and h
    obtain ⟨h1, h2⟩ := zz_and h
    exact ⟨of_decide_eq_true h1, of_decide_eq_true h2⟩
  | q :: r, h => by
    obtain ⟨h0, h⟩ := zz_and h
    rw [List.all_cons] at h
    obtain ⟨h1, h2⟩ := zz_and h
    obtain ⟨h3, h4⟩ := zz_and h1
    obtain ⟨h5, h6⟩ := zz_and h4
    have ih := zv_bd_ok (u := u) (cs := r) (zv_and h0 h2)
    unfold zv_ca
    cases q.1.all (fun c => decide (0 ≤ zl_ev u c)) with
    | true =>
      show lo ≤ zl_ev u q.2 ∧ zl_ev u q.2 ≤ hi
      rw [zl_ev_con (zz_beq h3)]
      exact ⟨of_decide_eq_true h5, of_decide_eq_true h6⟩
    | false => exact ih
theorem zv_F_bd {p : zv_Sp} {w : zz_W} {n lo hi : Int} (h : zv_bd lo hi p.2 = true) {a : Nat} : ∀ d : Nat, lo * (d : Int) ≤ zv_F p w n (a + d) - zv_F p w n a ∧ zv_F p w n (a + d) - zv_F p w n a ≤ hi * (d : Int)
  | 0 => by
    show lo * 0 ≤ zv_F p w n a - zv_F p w n a ∧ zv_F p w n a - zv_F p w n a ≤ hi * 0
    rw [Int.mul_zero, Int.mul_zero]
    omega
  | d + 1 => by
    have ih := zv_F_bd (w := w) (n := n) h (a := a) d
    have h1 := zv_bd_ok (u := fun m => (zv_al w p.1 n (a + d)).getD m 0) h
    have h2 : zv_F p w n (a + (d + 1)) = zv_F p w n (a + d) + zv_ca (fun m => (zv_al w p.1 n (a + d)).getD m 0) p.2 := rfl
    rw [h2, show ((d + 1 : Nat) : Int) = (d : Int) + 1 from rfl, Int.mul_add, Int.mul_add, Int.mul_one, Int.mul_one]
    omega
end
