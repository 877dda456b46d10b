/-! what holds behind both constructors, on: numbers, elements, tokens -/
noncomputable section
def zSv : List Int := [0, 0, 0, 0, 0, 161, 1, 0, 0, 1, 0, 0, 1, 0, 0, 1, 0, 0, 1, 0, 0, 1, 0, 0, 1, 3, 32, 1, 0, 0, 0, 0, 1, 0, 0, 0, 0, 1, 0, 0, 0, 0, 1, 0, 0, 0, 0, 1, 0, 0, 0, 0, 1, 0, 0, 0, 0, 1, 1, 0, 0, 132, 1, 3, 1, 1, 0]
def zS0 (j : Nat) : Int := zSv.getD j 0
theorem z8YF : zk_fl zS0 zQF zW3 := by
  intro q hq
  have h := List.all_eq_true.mp (by decide +kernel : zQF.all (fun q => Nat.beq q.2.1 0 && decide ((Int32.ofNat (zk_fd zW3 q.1)).toInt = zl_ev zS0 q.2.2.2)) = true) q hq
  obtain ⟨h1, h2⟩ := zz_and h
  have h1 := zz_beq h1
  exact ⟨fun _ => of_decide_eq_true h2, fun e => by omega, fun e => by omega⟩
theorem z8YB : zl_in zS0 ((0, 512) :: zQBt) := by
  intro k q hq
  have h := z8Y_fs_ok (by decide +kernel : z8Y_fs (fun k (q : Int × Int) => decide (q.1 ≤ zS0 k) && decide (zS0 k ≤ q.2)) 0 ((0, 512) :: zQBt) = true) k q hq
  rw [Nat.zero_add] at h
  obtain ⟨h1, h2⟩ := zz_and h
  exact ⟨of_decide_eq_true h1, of_decide_eq_true h2⟩
theorem z8YC' : zk_cs zS0 zQC := fun e he => of_decide_eq_true (List.all_eq_true.mp (by decide +kernel : zQC.all (fun e => decide (0 ≤ zl_ev zS0 e)) = true) e he)
theorem z8Yg_dr {f d e : Int → Int} : zg_dr f d e 0 := ⟨fun i h0 h1 => absurd h1 (by rw [show zv_dg 0 (0 : Int) = 0 from by decide]; omega), fun i h0 h1 => absurd h1 (by rw [show zv_dg 0 (0 : Int) = 0 from by decide]; omega), fun k h0 h1 => absurd h1 (by rw [show zv_dg 1 (0 : Int) = 0 from by decide]; omega)⟩
theorem z8Ymn : zh_mn (zh_f zW3 54) := by
  intro i _
  have e : zh_f zW3 54 i = 0 := by
    show (Int32.ofNat (zz_at 32 (zz_g zW3 54).2.2.2 i)).toInt = 0
    rw [show (zz_g zW3 54).2.2.2 = 0 from by decide +kernel, show zz_at 32 0 i = 0 from by show (0 >>> (32 * i)) % 2 ^ 32 = 0; rw [Nat.zero_shiftRight, Nat.zero_mod]]
    rfl
  rw [e]
  decide
def z8Yu1 (p : zu_Sp) (w : zz_W) (ps : List Int) (n : Nat) : Bool := p.2.2.2.any (fun d => d.all (fun e => decide (0 ≤ zl_ev (fun m => (zu_ex w p.1 ([(n : Int)] ++ ps)).getD m 0) e)))
def z8Yu2 (p : zu_Sp) (w : zz_W) (ps : List Int) (a b : Nat) : Bool := p.2.2.2.any (fun d => d.all (fun e => decide (0 ≤ zl_ev (fun m => (zu_ex w p.1 ([(a : Int), (b : Int)] ++ ps)).getD m 0) e)))
theorem z8Y_any {cs : List (List zl_E)} {s : Nat → Int} (h : cs.any (fun d => d.all (fun e => decide (0 ≤ zl_ev s e))) = true) : ∃ d ∈ cs, zk_cs s d := by
  obtain ⟨d, h1, h2⟩ := List.any_eq_true.mp h
  exact ⟨d, h1, fun e he => of_decide_eq_true (List.all_eq_true.mp h2 e he)⟩
theorem z8Yu_1 {p : zu_Sp} {w : zz_W} {ps : List Int} {N : Nat} (hN : p.2.1 = [N]) (h : ∀ n, n < N → z8Yu1 p w ps n = true) : zu_P p w ps := by
  intro ix hix
  rw [hN] at hix
  obtain ⟨h1, h2⟩ := hix
  match ix, h1, h2 with
  | [x], _, h2 =>
    have h3 := h2 0 N rfl
    have h3 : 0 ≤ x ∧ x < (N : Int) := h3
    have e : x = ((x.toNat : Nat) : Int) := by omega
    rw [e]
    exact z8Y_any (h x.toNat (by omega))
theorem z8Yu_2 {p : zu_Sp} {w : zz_W} {ps : List Int} {N M : Nat} (hN : p.2.1 = [N, M]) (h : ∀ a, a < N → ∀ b, b < M → z8Yu2 p w ps a b = true) : zu_P p w ps := by
  intro ix hix
  rw [hN] at hix
  obtain ⟨h1, h2⟩ := hix
  match ix, h1, h2 with
  | [x, y], _, h2 =>
    have h3 : 0 ≤ x ∧ x < (N : Int) := h2 0 N rfl
    have h4 : 0 ≤ y ∧ y < (M : Int) := h2 1 M rfl
    have e : x = ((x.toNat : Nat) : Int) := by omega
    have e2 : y = ((y.toNat : Nat) : Int) := by omega
    rw [e, e2]
    exact z8Y_any (h x.toNat (by omega) y.toNat (by omega))
def z8Yk1 (p : zk_Sp) (w : zz_W) (j : Nat) : Bool := p.2.2.any (fun d => d.all (fun e => decide (0 ≤ zl_ev (fun m => (zk_al w p.1 p.2.1 j).getD m 0) e)))
theorem z8Yt1 {p : zk_Sp} {w : zz_W} {r N : Nat} (hr : r ∈ p.1) (hN : (zk_h zHT r).2.2.1 = N) (h : ∀ j, j < N → z8Yk1 p w j = true) : zk_P zHT p w := fun j hj => z8Y_any (h j (by
  have := hj r hr
  omega))
def z8Yk2 (p : zk_Sp) (w : zz_W) (k j : Nat) : Bool := p.2.2.any (fun d => d.all (fun e => decide (0 ≤ zl_ev (fun m => (zk_al2 w (zk_sp2 p.1).1 (zk_sp2 p.1).2 p.2.1 k j).getD m 0) e)))
theorem z8Yt2 {p : zk_Sp} {w : zz_W} {r1 r2 N M : Nat} (h1 : r1 ∈ (zk_sp2 p.1).1) (h2 : r2 ∈ (zk_sp2 p.1).2) (hN : (zk_h zHT r1).2.2.1 = N) (hM : (zk_h zHT r2).2.2.1 = M) (h : ∀ j, j < M → ∀ k, k < N → z8Yk2 p w k j = true) : zk_P2 zHT p w := fun k j hk hj => z8Y_any (h j (by
  have := hj r2 h2
  omega) k (by
  have := hk r1 h1
  omega))
/-- elements of a row of ints -/
theorem z8Yel (r n : Nat) (hw : (z8Yg r).2.2.2.1 = 32) (hs : z8Y_st 32 0 (z8Yg r).2.2.2.2 = true) : zk_el zW3 r (n : Int) = (Int32.ofNat (z8Y_lk (z8Yg r).2.2.2.2 n)).toInt := by
  show (Int32.ofNat (zz_at 32 (zz_g zW3 r).2.2.2 ((n : Int)).toNat)).toInt = _
  rw [Int.toNat_natCast, z8Yg_eq]
  show (Int32.ofNat (zz_at 32 (zz_sp (z8Yg r).2.2.2.1 (z8Yg r).2.2.2.2) n)).toInt = _
  rw [hw, ((z8Y_at hs).2 n).1]
theorem zn_c_eq {f g : Nat → Int} : ∀ {n : Nat}, (∀ j, j < n → f j = g j) → zn_c f n = zn_c g n
  | 0, _ => rfl
  | n + 1, h => by
    show zn_c f n + (if f n = 0 then 0 else 1) = zn_c g n + (if g n = 0 then 0 else 1)
    rw [zn_c_eq (fun j hj => h j (by omega)), h n (by omega)]
theorem zn_c_0 : ∀ n : Nat, zn_c (fun _ => (0 : Int)) n = 0
  | 0 => rfl
  | n + 1 => by
    show zn_c (fun _ => (0 : Int)) n + (if (0 : Int) = 0 then 0 else 1) = 0
    rw [zn_c_0 n]
    rfl
theorem zn_c_1 {f g : Nat → Int} {a : Nat} (h : ∀ j, j ≠ a → f j = g j) : ∀ n : Nat, zn_c f n ≤ zn_c g n + 1 ∧ (n ≤ a → zn_c f n ≤ zn_c g n)
  | 0 => ⟨Nat.zero_le _, fun _ => Nat.le_refl _⟩
  | n + 1 => by
    obtain ⟨h1, h2⟩ := zn_c_1 h n
    show zn_c f n + (if f n = 0 then 0 else 1) ≤ zn_c g n + (if g n = 0 then 0 else 1) + 1 ∧ (n + 1 ≤ a → zn_c f n + (if f n = 0 then 0 else 1) ≤ zn_c g n + (if g n = 0 then 0 else 1))
    by_cases hn : n = a
    · subst hn
      have h3 := h2 (Nat.le_refl _)
      refine ⟨?_, fun e => by omega⟩
      have : (if f n = 0 then 0 else 1) ≤ 1 := by split <;> decide
      omega
    · rw [h n hn]
      exact ⟨by omega, fun e => by have := h2 (by omega); omega⟩
theorem zn_c_lk : ∀ (L : List (Nat × Nat)) (n : Nat), zn_c (fun j => (Int32.ofNat (z8Y_lk L j)).toInt) n ≤ L.length
  | [], n => by
    rw [show (fun j => (Int32.ofNat (z8Y_lk [] j)).toInt) = (fun _ => (0 : Int)) from rfl, zn_c_0]
    exact Nat.le_refl _
  | q :: r, n => by
    have h := (zn_c_1 (f := fun j => (Int32.ofNat (z8Y_lk (q :: r) j)).toInt) (g := fun j => (Int32.ofNat (z8Y_lk r j)).toInt) (a := q.1) (fun j hj => by
      show (Int32.ofNat (if q.1 = j then q.2 else z8Y_lk r j)).toInt = _
      rw [if_neg (fun e => hj e.symm)]) n).1
    have := zn_c_lk r n
    show _ ≤ r.length + 1
    omega
theorem zu_ex_get {w : zz_W} : ∀ {s : List (Nat × zl_E)} {l : List Int} {m : Nat}, m < l.length → (zu_ex w s l).getD m 0 = l.getD m 0
  | [], _, _, _ => rfl
  | q :: s, l, m, h => by
    show (zu_ex w s (l ++ [zk_el w q.1 (zl_ev (fun m => l.getD m 0) q.2)])).getD m 0 = _
    rw [zu_ex_get (by rw [List.length_append]; exact Nat.lt_add_right _ h), List.getD_eq_getElem?_getD, List.getD_eq_getElem?_getD, List.getElem?_append_left h]
/-- the first case: a place behind those that are taken -/
theorem z8Yu_c {p : zu_Sp} {w : zz_W} {x : Int} {N M r : Nat} {tl : List (Nat × zl_E)} {cs : List (List zl_E)} (hN : p.2.1 = [N, M]) (h1 : p.1 = (r, zl_sym 0) :: tl) (hc : p.2.2.2 = [((0, 0), [(1, 1, 0), (3, 0, 1)])] :: cs) (h : ∀ a, a < N → ∀ b, b < (zk_el w r (a : Int)).toNat → z8Yu2 p w [x] a b = true) : zu_P p w [x] := by
  intro ix hix
  rw [hN] at hix
  obtain ⟨h2, h3⟩ := hix
  match ix, h2, h3 with
  | [a, b], _, h3 =>
    have h4 : 0 ≤ a ∧ a < (N : Int) := h3 0 N rfl
    have h5 : 0 ≤ b ∧ b < (M : Int) := h3 1 M rfl
    obtain ⟨a, rfl⟩ := Int.eq_ofNat_of_zero_le h4.1
    obtain ⟨b, rfl⟩ := Int.eq_ofNat_of_zero_le h5.1
    by_cases hb : b < (zk_el w r (a : Int)).toNat
    · exact z8Y_any (h a (by omega) b hb)
    · refine ⟨_, by rw [hc]; exact List.mem_cons_self, List.forall_mem_cons.mpr ⟨?_, fun _ h => absurd h List.not_mem_nil⟩⟩
      show 0 ≤ zl_ev (fun m => (zu_ex w p.1 [(a : Int), (b : Int), x]).getD m 0) (zl_sub (zl_sym 1) (zl_sym 3))
      rw [zl_sub_ev, zl_sym_ev, zl_sym_ev, h1]
      show 0 ≤ (zu_ex w tl [(a : Int), (b : Int), x, zk_el w r (zl_ev (fun m => ([(a : Int), (b : Int), x] : List Int).getD m 0) (zl_sym 0))]).getD 1 0 - (zu_ex w tl [(a : Int), (b : Int), x, zk_el w r (zl_ev (fun m => ([(a : Int), (b : Int), x] : List Int).getD m 0) (zl_sym 0))]).getD 3 0
      rw [zu_ex_get (by show 1 < 4; decide), zu_ex_get (by show 3 < 4; decide), zl_sym_ev]
      show (0 : Int) ≤ (b : Int) - zk_el w r (a : Int)
      omega
/-- the second case: nothing there -/
theorem z8Yu_z {p : zu_Sp} {w : zz_W} {x y : Int} {N r : Nat} {tl : List (Nat × zl_E)} {c : List zl_E} {cs : List (List zl_E)} {ks : List Nat} (hN : p.2.1 = [N]) (h1 : p.1 = (r, zl_sym 0) :: tl) (hc : p.2.2.2 = c :: [((0, 0), [(3, 0, 1)])] :: cs) (hk : ∀ n : Nat, n ∈ ks ∨ zk_el w r (n : Int) = 0) (h : ks.all (fun n => z8Yu1 p w [x, y] n) = true) : zu_P p w [x, y] := by
  intro ix hix
  rw [hN] at hix
  obtain ⟨h2, h3⟩ := hix
  match ix, h2, h3 with
  | [a], _, h3 =>
    have h4 : 0 ≤ a ∧ a < (N : Int) := h3 0 N rfl
    obtain ⟨a, rfl⟩ := Int.eq_ofNat_of_zero_le h4.1
    rcases hk a with h5 | h5
    · exact z8Y_any (List.all_eq_true.mp h a h5)
    · refine ⟨_, by rw [hc]; exact List.mem_cons_of_mem _ List.mem_cons_self, List.forall_mem_cons.mpr ⟨?_, fun _ h => absurd h List.not_mem_nil⟩⟩
      show 0 ≤ zl_ev (fun m => (zu_ex w p.1 [(a : Int), x, y]).getD m 0) (zl_neg (zl_sym 3))
      rw [zl_neg_ev, zl_sym_ev, h1]
      show 0 ≤ -(zu_ex w tl [(a : Int), x, y, zk_el w r (zl_ev (fun m => ([(a : Int), x, y] : List Int).getD m 0) (zl_sym 0))]).getD 3 0
      rw [zu_ex_get (by show 3 < 4; decide), zl_sym_ev]
      show (0 : Int) ≤ -zk_el w r (a : Int)
      rw [h5]
      decide

theorem z8Yg_10 : (z8Yg 10).2.2.2.1 = 32 ∧ z8Y_st 32 0 (z8Yg 10).2.2.2.2 = true := ⟨by decide +kernel, by decide +kernel⟩
theorem z8Yk_10 (n : Nat) : n ∈ (z8Yg 10).2.2.2.2.map (fun q => q.1) ∨ zk_el zW3 10 (n : Int) = 0 := by
  rw [z8Yel 10 n z8Yg_10.1 z8Yg_10.2]
  rcases z8Y_mem (z8Yg 10).2.2.2.2 n with h | h
  · rw [h]
    exact Or.inr rfl
  · exact Or.inl (List.mem_map.mpr ⟨_, h, rfl⟩)
set_option maxRecDepth 100000 in
theorem z8Yu_61 : zu_P (zu_T 61) zW3 (zq_dec (zu_T 61).2.2.1 (35184372088993 : Int)) := z8Yu_z (N := 8192) (r := 10) rfl rfl rfl z8Yk_10 (by decide +kernel)
set_option maxRecDepth 100000 in
theorem z8Ye_0 : 0 ≤ zl_ev zS0 ((35184372088832, 0), [(5, 1, 0)]) ∧ zk_xe zW3 2000261 (zl_ev zS0 ((35184372088832, 0), [(5, 1, 0)])) = zl_ev zS0 ((0, 0), [(6, 1, 0)]) := by
  rw [show zl_ev zS0 ((35184372088832, 0), [(5, 1, 0)]) = (35184372088993 : Int) from by decide +kernel, show zl_ev zS0 ((0, 0), [(6, 1, 0)]) = (1 : Int) from by decide +kernel]
  exact ⟨by decide, (zv_H_u (t := 61)).trans (zh_b1 z8Yu_61)⟩
set_option maxRecDepth 100000 in
theorem z8Yu_65 : zu_P (zu_T 65) zW3 (zq_dec (zu_T 65).2.2.1 (0 : Int)) := z8Yu_1 (N := 64) rfl (z8Y_all_ok (f := z8Yu1 (zu_T 65) zW3 (zq_dec (zu_T 65).2.2.1 (0 : Int))) (by decide +kernel))
set_option maxRecDepth 100000 in
theorem z8Ye_1 : 0 ≤ zl_ev zS0 ((0, 0), [(7, 4294967296, 0), (8, 18446744073709551616, 0)]) ∧ zk_xe zW3 2000265 (zl_ev zS0 ((0, 0), [(7, 4294967296, 0), (8, 18446744073709551616, 0)])) = zl_ev zS0 ((0, 0), [(9, 1, 0)]) := by
  rw [show zl_ev zS0 ((0, 0), [(7, 4294967296, 0), (8, 18446744073709551616, 0)]) = (0 : Int) from by decide +kernel, show zl_ev zS0 ((0, 0), [(9, 1, 0)]) = (1 : Int) from by decide +kernel]
  exact ⟨by decide, (zv_H_u (t := 65)).trans (zh_b1 z8Yu_65)⟩
set_option maxRecDepth 100000 in
theorem z8Yu_1065 : zu_P (zu_T 1065) zW3 (zq_dec (zu_T 1065).2.2.1 (0 : Int)) := z8Yu_1 (N := 64) rfl (z8Y_all_ok (f := z8Yu1 (zu_T 1065) zW3 (zq_dec (zu_T 1065).2.2.1 (0 : Int))) (by decide +kernel))
set_option maxRecDepth 100000 in
theorem z8Ye_2 : 0 ≤ zl_ev zS0 ((0, 0), [(10, 4294967296, 0), (11, 18446744073709551616, 0)]) ∧ zk_xe zW3 2001265 (zl_ev zS0 ((0, 0), [(10, 4294967296, 0), (11, 18446744073709551616, 0)])) = zl_ev zS0 ((0, 0), [(12, 1, 0)]) := by
  rw [show zl_ev zS0 ((0, 0), [(10, 4294967296, 0), (11, 18446744073709551616, 0)]) = (0 : Int) from by decide +kernel, show zl_ev zS0 ((0, 0), [(12, 1, 0)]) = (1 : Int) from by decide +kernel]
  exact ⟨by decide, (zv_H_u (t := 1065)).trans (zh_b1 z8Yu_1065)⟩
set_option maxRecDepth 100000 in
theorem z8Yu_2065 : zu_P (zu_T 2065) zW3 (zq_dec (zu_T 2065).2.2.1 (0 : Int)) := z8Yu_1 (N := 64) rfl (z8Y_all_ok (f := z8Yu1 (zu_T 2065) zW3 (zq_dec (zu_T 2065).2.2.1 (0 : Int))) (by decide +kernel))
set_option maxRecDepth 100000 in
theorem z8Ye_3 : 0 ≤ zl_ev zS0 ((0, 0), [(13, 4294967296, 0), (14, 18446744073709551616, 0)]) ∧ zk_xe zW3 2002265 (zl_ev zS0 ((0, 0), [(13, 4294967296, 0), (14, 18446744073709551616, 0)])) = zl_ev zS0 ((0, 0), [(15, 1, 0)]) := by
  rw [show zl_ev zS0 ((0, 0), [(13, 4294967296, 0), (14, 18446744073709551616, 0)]) = (0 : Int) from by decide +kernel, show zl_ev zS0 ((0, 0), [(15, 1, 0)]) = (1 : Int) from by decide +kernel]
  exact ⟨by decide, (zv_H_u (t := 2065)).trans (zh_b1 z8Yu_2065)⟩
set_option maxRecDepth 100000 in
theorem z8Yu_3065 : zu_P (zu_T 3065) zW3 (zq_dec (zu_T 3065).2.2.1 (0 : Int)) := z8Yu_1 (N := 64) rfl (z8Y_all_ok (f := z8Yu1 (zu_T 3065) zW3 (zq_dec (zu_T 3065).2.2.1 (0 : Int))) (by decide +kernel))
set_option maxRecDepth 100000 in
theorem z8Ye_4 : 0 ≤ zl_ev zS0 ((0, 0), [(16, 4294967296, 0), (17, 18446744073709551616, 0)]) ∧ zk_xe zW3 2003265 (zl_ev zS0 ((0, 0), [(16, 4294967296, 0), (17, 18446744073709551616, 0)])) = zl_ev zS0 ((0, 0), [(18, 1, 0)]) := by
  rw [show zl_ev zS0 ((0, 0), [(16, 4294967296, 0), (17, 18446744073709551616, 0)]) = (0 : Int) from by decide +kernel, show zl_ev zS0 ((0, 0), [(18, 1, 0)]) = (1 : Int) from by decide +kernel]
  exact ⟨by decide, (zv_H_u (t := 3065)).trans (zh_b1 z8Yu_3065)⟩
set_option maxRecDepth 100000 in
theorem z8Yu_4065 : zu_P (zu_T 4065) zW3 (zq_dec (zu_T 4065).2.2.1 (0 : Int)) := z8Yu_1 (N := 64) rfl (z8Y_all_ok (f := z8Yu1 (zu_T 4065) zW3 (zq_dec (zu_T 4065).2.2.1 (0 : Int))) (by decide +kernel))
set_option maxRecDepth 100000 in
theorem z8Ye_5 : 0 ≤ zl_ev zS0 ((0, 0), [(19, 4294967296, 0), (20, 18446744073709551616, 0)]) ∧ zk_xe zW3 2004265 (zl_ev zS0 ((0, 0), [(19, 4294967296, 0), (20, 18446744073709551616, 0)])) = zl_ev zS0 ((0, 0), [(21, 1, 0)]) := by
  rw [show zl_ev zS0 ((0, 0), [(19, 4294967296, 0), (20, 18446744073709551616, 0)]) = (0 : Int) from by decide +kernel, show zl_ev zS0 ((0, 0), [(21, 1, 0)]) = (1 : Int) from by decide +kernel]
  exact ⟨by decide, (zv_H_u (t := 4065)).trans (zh_b1 z8Yu_4065)⟩
set_option maxRecDepth 100000 in
theorem z8Yu_5065 : zu_P (zu_T 5065) zW3 (zq_dec (zu_T 5065).2.2.1 (0 : Int)) := z8Yu_1 (N := 64) rfl (z8Y_all_ok (f := z8Yu1 (zu_T 5065) zW3 (zq_dec (zu_T 5065).2.2.1 (0 : Int))) (by decide +kernel))
set_option maxRecDepth 100000 in
theorem z8Ye_6 : 0 ≤ zl_ev zS0 ((0, 0), [(22, 4294967296, 0), (23, 18446744073709551616, 0)]) ∧ zk_xe zW3 2005265 (zl_ev zS0 ((0, 0), [(22, 4294967296, 0), (23, 18446744073709551616, 0)])) = zl_ev zS0 ((0, 0), [(24, 1, 0)]) := by
  rw [show zl_ev zS0 ((0, 0), [(22, 4294967296, 0), (23, 18446744073709551616, 0)]) = (0 : Int) from by decide +kernel, show zl_ev zS0 ((0, 0), [(24, 1, 0)]) = (1 : Int) from by decide +kernel]
  exact ⟨by decide, (zv_H_u (t := 5065)).trans (zh_b1 z8Yu_5065)⟩
set_option maxRecDepth 100000 in
theorem z8Yu_80 : zu_P (zu_T 80) zW3 (zq_dec (zu_T 80).2.2.1 (590295810371590553600 : Int)) := z8Yu_1 (N := 4) rfl (z8Y_all_ok (f := z8Yu1 (zu_T 80) zW3 (zq_dec (zu_T 80).2.2.1 (590295810371590553600 : Int))) (by decide +kernel))
set_option maxRecDepth 100000 in
theorem z8Ye_7 : 0 ≤ zl_ev zS0 ((0, 0), [(25, 4294967296, 0), (26, 18446744073709551616, 0)]) ∧ zk_xe zW3 2000280 (zl_ev zS0 ((0, 0), [(25, 4294967296, 0), (26, 18446744073709551616, 0)])) = zl_ev zS0 ((0, 0), [(27, 1, 0)]) := by
  rw [show zl_ev zS0 ((0, 0), [(25, 4294967296, 0), (26, 18446744073709551616, 0)]) = (590295810371590553600 : Int) from by decide +kernel, show zl_ev zS0 ((0, 0), [(27, 1, 0)]) = (1 : Int) from by decide +kernel]
  exact ⟨by decide, (zv_H_u (t := 80)).trans (zh_b1 z8Yu_80)⟩
set_option maxRecDepth 100000 in
theorem z8Ye_8 : 0 ≤ zl_ev zS0 ((0, 0), [(28, 1, 0), (29, 4294967296, 0), (30, 18446744073709551616, 0)]) ∧ zk_xe zW3 2000037 (zl_ev zS0 ((0, 0), [(28, 1, 0), (29, 4294967296, 0), (30, 18446744073709551616, 0)])) = zl_ev zS0 ((0, 0), [(32, 1, 0)]) := by
  rw [show zl_ev zS0 ((0, 0), [(28, 1, 0), (29, 4294967296, 0), (30, 18446744073709551616, 0)]) = (0 : Int) from by decide +kernel, show zl_ev zS0 ((0, 0), [(32, 1, 0)]) = (1 : Int) from by decide +kernel]
  exact ⟨by decide, zh_b1 (z8Yg_dr)⟩
set_option maxRecDepth 100000 in
theorem z8Ye_9 : 0 ≤ zl_ev zS0 ((0, 0), [(33, 1, 0), (34, 4294967296, 0), (35, 18446744073709551616, 0)]) ∧ zk_xe zW3 2000038 (zl_ev zS0 ((0, 0), [(33, 1, 0), (34, 4294967296, 0), (35, 18446744073709551616, 0)])) = zl_ev zS0 ((0, 0), [(37, 1, 0)]) := by
  rw [show zl_ev zS0 ((0, 0), [(33, 1, 0), (34, 4294967296, 0), (35, 18446744073709551616, 0)]) = (0 : Int) from by decide +kernel, show zl_ev zS0 ((0, 0), [(37, 1, 0)]) = (1 : Int) from by decide +kernel]
  exact ⟨by decide, zh_b1 (z8Yg_dr)⟩
set_option maxRecDepth 100000 in
theorem z8Ye_10 : 0 ≤ zl_ev zS0 ((0, 0), [(38, 1, 0), (39, 4294967296, 0), (40, 18446744073709551616, 0)]) ∧ zk_xe zW3 2000039 (zl_ev zS0 ((0, 0), [(38, 1, 0), (39, 4294967296, 0), (40, 18446744073709551616, 0)])) = zl_ev zS0 ((0, 0), [(42, 1, 0)]) := by
  rw [show zl_ev zS0 ((0, 0), [(38, 1, 0), (39, 4294967296, 0), (40, 18446744073709551616, 0)]) = (0 : Int) from by decide +kernel, show zl_ev zS0 ((0, 0), [(42, 1, 0)]) = (1 : Int) from by decide +kernel]
  exact ⟨by decide, zh_b1 (z8Yg_dr)⟩
set_option maxRecDepth 100000 in
theorem z8Ye_11 : 0 ≤ zl_ev zS0 ((0, 0), [(43, 1, 0), (44, 4294967296, 0), (45, 18446744073709551616, 0)]) ∧ zk_xe zW3 2000040 (zl_ev zS0 ((0, 0), [(43, 1, 0), (44, 4294967296, 0), (45, 18446744073709551616, 0)])) = zl_ev zS0 ((0, 0), [(47, 1, 0)]) := by
  rw [show zl_ev zS0 ((0, 0), [(43, 1, 0), (44, 4294967296, 0), (45, 18446744073709551616, 0)]) = (0 : Int) from by decide +kernel, show zl_ev zS0 ((0, 0), [(47, 1, 0)]) = (1 : Int) from by decide +kernel]
  exact ⟨by decide, zh_b1 (z8Yg_dr)⟩
set_option maxRecDepth 100000 in
theorem z8Ye_12 : 0 ≤ zl_ev zS0 ((0, 0), [(48, 1, 0), (49, 4294967296, 0), (50, 18446744073709551616, 0)]) ∧ zk_xe zW3 2000041 (zl_ev zS0 ((0, 0), [(48, 1, 0), (49, 4294967296, 0), (50, 18446744073709551616, 0)])) = zl_ev zS0 ((0, 0), [(52, 1, 0)]) := by
  rw [show zl_ev zS0 ((0, 0), [(48, 1, 0), (49, 4294967296, 0), (50, 18446744073709551616, 0)]) = (0 : Int) from by decide +kernel, show zl_ev zS0 ((0, 0), [(52, 1, 0)]) = (1 : Int) from by decide +kernel]
  exact ⟨by decide, zh_b1 (z8Yg_dr)⟩
set_option maxRecDepth 100000 in
theorem z8Ye_13 : 0 ≤ zl_ev zS0 ((0, 0), [(53, 1, 0), (54, 4294967296, 0), (55, 18446744073709551616, 0)]) ∧ zk_xe zW3 2000042 (zl_ev zS0 ((0, 0), [(53, 1, 0), (54, 4294967296, 0), (55, 18446744073709551616, 0)])) = zl_ev zS0 ((0, 0), [(57, 1, 0)]) := by
  rw [show zl_ev zS0 ((0, 0), [(53, 1, 0), (54, 4294967296, 0), (55, 18446744073709551616, 0)]) = (0 : Int) from by decide +kernel, show zl_ev zS0 ((0, 0), [(57, 1, 0)]) = (1 : Int) from by decide +kernel]
  exact ⟨by decide, zh_b1 (z8Yg_dr)⟩
set_option maxRecDepth 100000 in
theorem z8Ye_14 : 0 ≤ zl_ev zS0 ((0, 0), []) ∧ zk_xe zW3 2000016 (zl_ev zS0 ((0, 0), [])) = zl_ev zS0 ((0, 0), [(58, 1, 0)]) := by
  rw [show zl_ev zS0 ((0, 0), []) = (0 : Int) from by decide +kernel, show zl_ev zS0 ((0, 0), [(58, 1, 0)]) = (1 : Int) from by decide +kernel]
  exact ⟨by decide, zh_b1 (z8Ymn)⟩
set_option maxRecDepth 100000 in
theorem z8Ye_15 : 0 ≤ zl_ev zS0 ((6, 0), []) ∧ zk_xe zW3 179 (zl_ev zS0 ((6, 0), [])) = zl_ev zS0 ((0, 0), [(63, 1, 0)]) := by exact ⟨by decide +kernel, by decide +kernel⟩
set_option maxRecDepth 100000 in
theorem z8Yu_40 : zu_P (zu_T 40) zW3 (zq_dec (zu_T 40).2.2.1 (7 : Int)) := z8Yu_c (N := 7) (M := 600) (r := 188) rfl rfl rfl (fun a ha => z8Y_all_ok (f := z8Yu2 (zu_T 40) zW3 (zq_dec (zu_T 40).2.2.1 (7 : Int)) a) (z8Y_all_ok (f := fun a => z8Y_all (zk_el zW3 188 (a : Int)).toNat (z8Yu2 (zu_T 40) zW3 (zq_dec (zu_T 40).2.2.1 (7 : Int)) a)) (by decide +kernel : z8Y_all 7 _ = true) a ha))
set_option maxRecDepth 100000 in
theorem z8Ye_16 : 0 ≤ zl_ev zS0 ((7, 0), []) ∧ zk_xe zW3 2000240 (zl_ev zS0 ((7, 0), [])) = zl_ev zS0 ((0, 0), [(64, 1, 0)]) := by
  rw [show zl_ev zS0 ((7, 0), []) = (7 : Int) from by decide +kernel, show zl_ev zS0 ((0, 0), [(64, 1, 0)]) = (1 : Int) from by decide +kernel]
  exact ⟨by decide, (zv_H_u (t := 40)).trans (zh_b1 z8Yu_40)⟩
set_option maxRecDepth 100000 in
theorem z8Yu_41 : zu_P (zu_T 41) zW3 (zq_dec (zu_T 41).2.2.1 (7 : Int)) := z8Yu_c (N := 7) (M := 3000) (r := 195) rfl rfl rfl (fun a ha => z8Y_all_ok (f := z8Yu2 (zu_T 41) zW3 (zq_dec (zu_T 41).2.2.1 (7 : Int)) a) (z8Y_all_ok (f := fun a => z8Y_all (zk_el zW3 195 (a : Int)).toNat (z8Yu2 (zu_T 41) zW3 (zq_dec (zu_T 41).2.2.1 (7 : Int)) a)) (by decide +kernel : z8Y_all 7 _ = true) a ha))
set_option maxRecDepth 100000 in
theorem z8Ye_17 : 0 ≤ zl_ev zS0 ((7, 0), []) ∧ zk_xe zW3 2000241 (zl_ev zS0 ((7, 0), [])) = zl_ev zS0 ((0, 0), [(65, 1, 0)]) := by
  rw [show zl_ev zS0 ((7, 0), []) = (7 : Int) from by decide +kernel, show zl_ev zS0 ((0, 0), [(65, 1, 0)]) = (1 : Int) from by decide +kernel]
  exact ⟨by decide, (zv_H_u (t := 41)).trans (zh_b1 z8Yu_41)⟩
set_option maxRecDepth 100000 in
theorem z8Ye_18 : 0 ≤ zl_ev zS0 ((0, 0), [(60, 1, 0)]) ∧ zk_xe zW3 2000182 (zl_ev zS0 ((0, 0), [(60, 1, 0)])) = zl_ev zS0 ((1, 0), []) := by
  rw [show zl_ev zS0 ((0, 0), [(60, 1, 0)]) = (0 : Int) from by decide +kernel, show zl_ev zS0 ((1, 0), []) = (1 : Int) from by decide +kernel]
  exact ⟨by decide, zh_b1 (fun _ u h0 h1 => absurd h1 (by rw [show zv_dg 0 (0 : Int) = 0 from by decide +kernel]; omega))⟩
set_option maxRecDepth 100000 in
theorem z8Ye_19 : 0 ≤ zl_ev zS0 ((0, 0), [(60, 1, 0)]) ∧ zk_xe zW3 2000169 (zl_ev zS0 ((0, 0), [(60, 1, 0)])) = zl_ev zS0 ((1, 0), []) := by
  rw [show zl_ev zS0 ((0, 0), [(60, 1, 0)]) = (0 : Int) from by decide +kernel, show zl_ev zS0 ((1, 0), []) = (1 : Int) from by decide +kernel]
  exact ⟨by decide, zh_b1 (fun _ u h0 h1 => absurd h1 (by rw [show zv_dg 0 (0 : Int) = 0 from by decide +kernel]; omega))⟩
set_option maxRecDepth 100000 in
theorem z8Ye_20 : 0 ≤ zl_ev zS0 ((0, 0), [(60, 1, 0)]) ∧ zk_xe zW3 2000176 (zl_ev zS0 ((0, 0), [(60, 1, 0)])) = zl_ev zS0 ((1, 0), []) := by
  rw [show zl_ev zS0 ((0, 0), [(60, 1, 0)]) = (0 : Int) from by decide +kernel, show zl_ev zS0 ((1, 0), []) = (1 : Int) from by decide +kernel]
  exact ⟨by decide, zh_b1 (fun _ u h0 h1 => absurd h1 (by rw [show zv_dg 0 (0 : Int) = 0 from by decide +kernel]; omega))⟩
set_option maxRecDepth 100000 in
theorem z8Ye_21 : 0 ≤ zl_ev zS0 ((0, 0), [(60, 1, 0), (61, 18446744073709551616, 0)]) ∧ zk_xe zW3 2000172 (zl_ev zS0 ((0, 0), [(60, 1, 0), (61, 18446744073709551616, 0)])) = zl_ev zS0 ((1, 0), []) := by
  rw [show zl_ev zS0 ((0, 0), [(60, 1, 0), (61, 18446744073709551616, 0)]) = (2434970217729660813312 : Int) from by decide +kernel, show zl_ev zS0 ((1, 0), []) = (1 : Int) from by decide +kernel]
  exact ⟨by decide, zh_b1 (fun _ u h0 h1 => absurd h1 (by rw [show zv_dg 0 (2434970217729660813312 : Int) = 0 from by decide +kernel]; omega))⟩
theorem z8YE : zk_eF zS0 zQE zW3 := by
  unfold zk_eF zQE
  exact List.forall_mem_cons.mpr ⟨z8Ye_0, List.forall_mem_cons.mpr ⟨z8Ye_1, List.forall_mem_cons.mpr ⟨z8Ye_2, List.forall_mem_cons.mpr ⟨z8Ye_3, List.forall_mem_cons.mpr ⟨z8Ye_4, List.forall_mem_cons.mpr ⟨z8Ye_5, List.forall_mem_cons.mpr ⟨z8Ye_6, List.forall_mem_cons.mpr ⟨z8Ye_7, List.forall_mem_cons.mpr ⟨z8Ye_8, List.forall_mem_cons.mpr ⟨z8Ye_9, List.forall_mem_cons.mpr ⟨z8Ye_10, List.forall_mem_cons.mpr ⟨z8Ye_11, List.forall_mem_cons.mpr ⟨z8Ye_12, List.forall_mem_cons.mpr ⟨z8Ye_13, List.forall_mem_cons.mpr ⟨z8Ye_14, List.forall_mem_cons.mpr ⟨z8Ye_15, List.forall_mem_cons.mpr ⟨z8Ye_16, List.forall_mem_cons.mpr ⟨z8Ye_17, List.forall_mem_cons.mpr ⟨z8Ye_18, List.forall_mem_cons.mpr ⟨z8Ye_19, List.forall_mem_cons.mpr ⟨z8Ye_20, List.forall_mem_cons.mpr ⟨z8Ye_21, (fun _ h => absurd h List.not_mem_nil)⟩⟩⟩⟩⟩⟩⟩⟩⟩⟩⟩⟩⟩⟩⟩⟩⟩⟩⟩⟩⟩⟩
set_option maxRecDepth 100000 in
theorem z8Yt_13 : zPT 13 zW3 := (z8Yt1 (p := ([308, 309], [], [[((1, 0), [(1, 0, 1)])], [((0, 3), [(1, 1, 0)])], [((0, 0), [(2, 1, 0)]), ((9, 0), [(2, 0, 1)])]])) (r := 308) (N := 3001) (by decide) rfl (z8Y_all_ok (f := z8Yk1 ([308, 309], [], [[((1, 0), [(1, 0, 1)])], [((0, 3), [(1, 1, 0)])], [((0, 0), [(2, 1, 0)]), ((9, 0), [(2, 0, 1)])]]) zW3) (by decide +kernel)) : zk_P zHT ([308, 309], [], [[((1, 0), [(1, 0, 1)])], [((0, 3), [(1, 1, 0)])], [((0, 0), [(2, 1, 0)]), ((9, 0), [(2, 0, 1)])]]) zW3)
set_option maxRecDepth 100000 in
theorem z8Yt_15 : zPT 15 zW3 := (z8Yt1 (p := ([260], [(171, 187), (171, 188)], [[((1, 0), [(2, 0, 1)])], [((0, 3), [(2, 1, 0)])], [((0, 0), [(3, 1, 0)]), ((9, 0), [(3, 0, 1)])]])) (r := 260) (N := 85) (by decide) rfl (z8Y_all_ok (f := z8Yk1 ([260], [(171, 187), (171, 188)], [[((1, 0), [(2, 0, 1)])], [((0, 3), [(2, 1, 0)])], [((0, 0), [(3, 1, 0)]), ((9, 0), [(3, 0, 1)])]]) zW3) (by decide +kernel)) : zk_P zHT ([260], [(171, 187), (171, 188)], [[((1, 0), [(2, 0, 1)])], [((0, 3), [(2, 1, 0)])], [((0, 0), [(3, 1, 0)]), ((9, 0), [(3, 0, 1)])]]) zW3)
set_option maxRecDepth 100000 in
theorem z8Yt_27 : zPT 27 zW3 := (z8Yt1 (p := ([184, 182], [], [[((383, 0), [(0, 0, 1)]), ((98304, 0), [(1, 0, 1)])], [((0, 384), [(0, 1, 0)]), ((114688, 0), [(1, 0, 1), (2, 0, 1)])]])) (r := 184) (N := 448) (by decide) rfl (z8Y_all_ok (f := z8Yk1 ([184, 182], [], [[((383, 0), [(0, 0, 1)]), ((98304, 0), [(1, 0, 1)])], [((0, 384), [(0, 1, 0)]), ((114688, 0), [(1, 0, 1), (2, 0, 1)])]]) zW3) (by decide +kernel)) : zk_P zHT ([184, 182], [], [[((383, 0), [(0, 0, 1)]), ((98304, 0), [(1, 0, 1)])], [((0, 384), [(0, 1, 0)]), ((114688, 0), [(1, 0, 1), (2, 0, 1)])]]) zW3)
theorem z8Yg_175 : (z8Yg 175).2.2.2.1 = 32 ∧ z8Y_st 32 0 (z8Yg 175).2.2.2.2 = true := ⟨by decide +kernel, by decide +kernel⟩
theorem z8Y_nm : (Int32.ofNat (zk_fd zW3 (171, 3))).toInt = 132 := by decide +kernel
set_option maxRecDepth 100000 in
theorem z8Yt_23 : zPT 23 zW3 := by
  show zk_P zHT ([175], [(171, 3)], [[((0, 0), [(1, 0, 1), (2, 1, 0)])]]) zW3
  intro j _
  refine ⟨_, List.mem_cons_self, List.forall_mem_cons.mpr ⟨?_, fun _ h => absurd h List.not_mem_nil⟩⟩
  have e : (zk_al zW3 [175] [(171, 3)] j) = [(j : Int), zk_el zW3 175 (j : Int), (Int32.ofNat (zk_fd zW3 (171, 3))).toInt] := rfl
  show 0 ≤ zl_ev (fun m => (zk_al zW3 [175] [(171, 3)] j).getD m 0) (zl_sub (zl_sym 2) (zl_sym 1))
  rw [zl_sub_ev, zl_sym_ev, zl_sym_ev, e, z8Yel 175 j z8Yg_175.1 z8Yg_175.2]
  show 0 ≤ (Int32.ofNat (zk_fd zW3 (171, 3))).toInt - (Int32.ofNat (z8Y_lk (z8Yg 175).2.2.2.2 j)).toInt
  rw [z8Y_nm]
  rcases z8Y_mem (z8Yg 175).2.2.2.2 j with h | h
  · rw [h]
    decide
  · have := of_decide_eq_true (List.all_eq_true.mp (by decide +kernel : (z8Yg 175).2.2.2.2.all (fun q => decide ((Int32.ofNat q.2).toInt ≤ 132)) = true) _ h)
    have h2 : (Int32.ofNat (z8Y_lk (z8Yg 175).2.2.2.2 j)).toInt ≤ 132 := this
    omega
set_option maxRecDepth 100000 in
theorem z8Yt_106 : zPT 106 zW3 := (z8Yt2 (p := ([183, 99999, 179], [], [[((0, 1), [(0, 0, 1), (2, 64, 0)])], [((0, 0), [(0, 1, 0), (2, 0, 64), (3, 0, 1)])], [((0, 1), [(1, 1, 0)]), ((1, 0), [(1, 0, 1)])], [((0, 2), [(1, 1, 0)]), ((2, 0), [(1, 0, 1)])], [((0, 4), [(1, 1, 0)]), ((4, 0), [(1, 0, 1)])], [((0, 8), [(1, 1, 0)]), ((8, 0), [(1, 0, 1)])], [((0, 16), [(1, 1, 0)]), ((16, 0), [(1, 0, 1)])]])) (r1 := 183) (r2 := 179) (N := 448) (M := 7) (by decide) (by decide) rfl rfl (fun j hj => z8Y_all_ok (f := fun k => z8Yk2 ([183, 99999, 179], [], [[((0, 1), [(0, 0, 1), (2, 64, 0)])], [((0, 0), [(0, 1, 0), (2, 0, 64), (3, 0, 1)])], [((0, 1), [(1, 1, 0)]), ((1, 0), [(1, 0, 1)])], [((0, 2), [(1, 1, 0)]), ((2, 0), [(1, 0, 1)])], [((0, 4), [(1, 1, 0)]), ((4, 0), [(1, 0, 1)])], [((0, 8), [(1, 1, 0)]), ((8, 0), [(1, 0, 1)])], [((0, 16), [(1, 1, 0)]), ((16, 0), [(1, 0, 1)])]]) zW3 k j) (z8Y_all_ok (f := fun j => z8Y_all 448 (fun k => z8Yk2 ([183, 99999, 179], [], [[((0, 1), [(0, 0, 1), (2, 64, 0)])], [((0, 0), [(0, 1, 0), (2, 0, 64), (3, 0, 1)])], [((0, 1), [(1, 1, 0)]), ((1, 0), [(1, 0, 1)])], [((0, 2), [(1, 1, 0)]), ((2, 0), [(1, 0, 1)])], [((0, 4), [(1, 1, 0)]), ((4, 0), [(1, 0, 1)])], [((0, 8), [(1, 1, 0)]), ((8, 0), [(1, 0, 1)])], [((0, 16), [(1, 1, 0)]), ((16, 0), [(1, 0, 1)])]]) zW3 k j)) (by decide +kernel) j hj)) : zk_P2 zHT ([183, 99999, 179], [], [[((0, 1), [(0, 0, 1), (2, 64, 0)])], [((0, 0), [(0, 1, 0), (2, 0, 64), (3, 0, 1)])], [((0, 1), [(1, 1, 0)]), ((1, 0), [(1, 0, 1)])], [((0, 2), [(1, 1, 0)]), ((2, 0), [(1, 0, 1)])], [((0, 4), [(1, 1, 0)]), ((4, 0), [(1, 0, 1)])], [((0, 8), [(1, 1, 0)]), ((8, 0), [(1, 0, 1)])], [((0, 16), [(1, 1, 0)]), ((16, 0), [(1, 0, 1)])]]) zW3)
def z8Yp104 : zk_Sp := ([199, 201, 99999, 195], [], [[((0, 1), [(0, 0, 1), (3, 3000, 0)])], [((0, 0), [(0, 1, 0), (3, 0, 3000), (4, 0, 1)])], [((0, 0), [(1, 1, 0)])], [((0, 0), [(2, 1, 0)])]])
set_option maxRecDepth 100000 in
theorem z8Yc104 : z8Y_all 7 (fun j => z8Y_all (zk_el zW3 195 (j : Int)).toNat (fun i => z8Yk2 z8Yp104 zW3 (3000 * j + i) j)) = true := by decide +kernel
set_option maxRecDepth 100000 in
theorem z8Yt_104 : zPT 104 zW3 := by
  show zk_P2 zHT z8Yp104 zW3
  intro k j hk hj
  have hj7 : j < 7 := hj 195 List.mem_cons_self
  have hc := z8Y_all_ok z8Yc104 j hj7
  by_cases h1 : k < 3000 * j
  · refine ⟨_, List.mem_cons_self, List.forall_mem_cons.mpr ⟨?_, fun _ h => absurd h List.not_mem_nil⟩⟩
    show 0 ≤ zl_ev (fun m => (zk_al2 zW3 [199, 201] [195] [] k j).getD m 0) (zl_sub (zl_sub (zl_mul 3000 (zl_sym 3)) (zl_sym 0)) (zl_con 1))
    rw [zl_sub_ev, zl_sub_ev, zl_mul_ev, zl_con_ev, zl_sym_ev, zl_sym_ev]
    show (0 : Int) ≤ 3000 * (j : Int) - (k : Int) - 1
    omega
  · by_cases h2 : k < 3000 * j + (zk_el zW3 195 (j : Int)).toNat
    · have h3 := z8Y_all_ok hc (k - 3000 * j) (by omega)
      have h3 : z8Yk2 z8Yp104 zW3 (3000 * j + (k - 3000 * j)) j = true := h3
      rw [show 3000 * j + (k - 3000 * j) = k by omega] at h3
      exact z8Y_any h3
    · refine ⟨_, List.mem_cons_of_mem _ List.mem_cons_self, List.forall_mem_cons.mpr ⟨?_, fun _ h => absurd h List.not_mem_nil⟩⟩
      show 0 ≤ zl_ev (fun m => (zk_al2 zW3 [199, 201] [195] [] k j).getD m 0) (zl_sub (zl_sub (zl_sym 0) (zl_mul 3000 (zl_sym 3))) (zl_sym 4))
      rw [zl_sub_ev, zl_sub_ev, zl_mul_ev, zl_sym_ev, zl_sym_ev, zl_sym_ev]
      show (0 : Int) ≤ (k : Int) - 3000 * (j : Int) - zk_el zW3 195 (j : Int)
      omega
/-- names at the beginning: how far each is from the place of its sum -/
def z8Yd : List Nat := [0, 0, 0, 0, 0, 0, 0, 0, 0, 0, 0, 0, 0, 0, 0, 0, 0, 0, 0, 0, 0, 0, 0, 0, 0, 0, 0, 0, 0, 0, 0, 0, 0, 0, 0, 0, 0, 1, 0, 0, 0, 0, 0, 0, 0, 0, 0, 0, 0, 0, 0, 0, 0, 0, 0, 0, 0, 0, 0, 0, 0, 0, 0, 0, 0, 0, 0, 0, 0, 0, 0, 0, 0, 0, 0, 0, 0, 0, 0, 0, 0, 0, 0, 0, 0, 0, 0, 0, 0, 0, 0, 0, 0, 0, 0, 0, 0, 0, 0, 0, 0, 0, 0, 0, 0, 0, 0, 0, 0, 0, 0, 0, 0, 0, 0, 0, 0, 0, 0, 0, 0, 0, 0, 0, 0, 0, 0, 0, 0, 0, 0, 0]
set_option maxRecDepth 100000 in
theorem z8Yt_200 : zPT 200 zW3 := by
  refine ⟨?_, fun i h0 h1 => ?_, fun i j h0 h1 h2 h3 h4 => ?_, fun i h0 h1 h2 => ?_⟩
  · show (zn_c (zn_el zW3) zn_N : Int) ≤ (Int32.ofNat (zk_fd zW3 (171, 3))).toInt
    rw [z8Y_nm]
    have e : zn_c (zn_el zW3) zn_N = zn_c (fun j => (Int32.ofNat (z8Y_lk (z8Yg 175).2.2.2.2 j)).toInt) zn_N := zn_c_eq (fun j _ => z8Yel 175 j z8Yg_175.1 z8Yg_175.2)
    have h := zn_c_lk (z8Yg 175).2.2.2.2 zn_N
    have h2 : (z8Yg 175).2.2.2.2.length = 132 := by decide +kernel
    omega
  · have h1 : i < 132 := by rw [← z8Y_nm]; exact h1
    obtain ⟨n, rfl⟩ := Int.eq_ofNat_of_zero_le h0
    have h := z8Y_all_ok (f := fun n => decide (zh_e zW3 175 ((zn_h (zn_l zW3 173 (n : Int)) (zn_l zW3 174 (n : Int)) + ((z8Yd.getD n 0 : Nat) : Int)) % 131072) = (n : Int) + 1) && z8Y_all (z8Yd.getD n 0) (fun e => decide (1 ≤ zh_e zW3 175 ((zn_h (zn_l zW3 173 (n : Int)) (zn_l zW3 174 (n : Int)) + (e : Int)) % 131072)))) (by decide +kernel : z8Y_all 132 _ = true) n (by omega)
    obtain ⟨h2, h3⟩ := zz_and h
    refine ⟨((z8Yd.getD n 0 : Nat) : Int), by omega, of_decide_eq_true h2, fun e he1 he2 => ?_⟩
    obtain ⟨m, rfl⟩ := Int.eq_ofNat_of_zero_le he1
    exact of_decide_eq_true (z8Y_all_ok h3 m (by omega))
  · have h2 : j < 132 := by rw [← z8Y_nm]; exact h2
    obtain ⟨n, rfl⟩ := Int.eq_ofNat_of_zero_le h0
    obtain ⟨m, rfl⟩ := Int.eq_ofNat_of_zero_le (by omega : 0 ≤ j)
    have h := z8Y_all_ok (z8Y_all_ok (f := fun m => z8Y_all m (fun n => !(decide (zn_l zW3 173 (n : Int) = zn_l zW3 173 (m : Int)) && decide (zn_l zW3 174 (n : Int) = zn_l zW3 174 (m : Int))))) (by decide +kernel : z8Y_all 132 _ = true) m (by omega)) n (by omega)
    rw [decide_eq_true h3, decide_eq_true h4] at h
    cases h
  · obtain ⟨n, rfl⟩ := Int.eq_ofNat_of_zero_le h0
    have h := z8Y_all_ok (f := fun n => decide (zn_l zW3 173 (n : Int) = zn_KA.getD n 0) && decide (zn_l zW3 174 (n : Int) = zn_KB.getD n 0)) (by decide +kernel : z8Y_all 125 _ = true) n (by omega)
    obtain ⟨h2, h3⟩ := zz_and h
    exact ⟨of_decide_eq_true h2, of_decide_eq_true h3⟩
theorem z8YK : ∀ t ∈ zQK, zPT t zW3 := List.forall_mem_cons.mpr ⟨z8Yt_13, List.forall_mem_cons.mpr ⟨z8Yt_15, List.forall_mem_cons.mpr ⟨z8Yt_23, List.forall_mem_cons.mpr ⟨z8Yt_200, List.forall_mem_cons.mpr ⟨z8Yt_27, List.forall_mem_cons.mpr ⟨z8Yt_106, List.forall_mem_cons.mpr ⟨z8Yt_104, (fun _ h => absurd h List.not_mem_nil)⟩⟩⟩⟩⟩⟩⟩
/-- at the start of the law's loop -/
theorem zIv_0 : zIv zQI 0 0 zW3 := ⟨⟨zS0, by decide +kernel, ⟨(fun _ h => absurd h List.not_mem_nil), trivial, z8YF, z8YB, z8YC', zW3_I⟩, z8YE, z8YK⟩, zW3_Bi, by rw [zW3_1]; decide, by rw [zW3_2]; decide⟩
end
