/-! the virtual rows of this program, and functions by hand (written by program) -/
noncomputable section
/-- rows; cases: conditions, value: sums over place, elements there, parameter; the first case that holds counts -/
abbrev zv_Sp : Type := List Nat × List (List zl_E × zl_E)
def zv_T (t : Nat) : zv_Sp := match t with
  | _ => ([], [])
/-- a row's elements -/
def zh_f (w : zz_W) (r : Nat) : Nat → Int := fun i => zk_el w r (i : Int)
def zh_b (P : Prop) : Int := @ite Int P (Classical.propDecidable P) 1 0
theorem zh_b1 {P : Prop} (h : P) : zh_b P = 1 := by
  unfold zh_b
  exact if_pos h
theorem zh_b0 {P : Prop} (h : ¬ P) : zh_b P = 0 := by
  unfold zh_b
  exact if_neg h
theorem zh_b1' {P : Prop} (h : zh_b P = 1) : P := Classical.byContradiction (fun hn => by
  rw [zh_b0 hn] at h
  omega)
theorem zh_b0' {P : Prop} (h : zh_b P = 0) : ¬ P := fun hp => by
  rw [zh_b1 hp] at h
  omega
/-- x stands among the first n -/
def zh_in (f : Nat → Int) (n : Nat) (x : Int) : Prop := ∃ i, i < n ∧ f i = x
/-- how many of the first n of g don't stand among the first a of f -/
def zh_cn (f : Nat → Int) (a : Nat) (g : Nat → Int) : Nat → Nat
  | 0 => 0
  | n + 1 => zh_cn f a g n + @ite Nat (zh_in f a (g n)) (Classical.propDecidable _) 0 1
/-- how many of the first n are not 0 -/
def zh_nz (f : Nat → Int) : Nat → Nat
  | 0 => 0
  | n + 1 => zh_nz f n + (if f n = 0 then 0 else 1)
/-- the sum of n elements from a on -/
def zh_sm (f : Nat → Int) (a : Nat) : Nat → Int
  | 0 => 0
  | n + 1 => zh_sm f a n + f (a + n)
/-- functions by hand: numbers that a world gives at a (coded) place, the rows that they speak of -/
def zv_Hh (t : Nat) (w : zz_W) (j : Int) : Int := match t with
  | 0 => zh_b (zh_in (zh_f w 286) (j % 1048576).toNat (j / 1048576))
  | 1 => zh_b (zh_in (zh_f w 287) (j % 1048576).toNat (j / 1048576))
  | 2 => zh_b (j % 1048576 + (zh_cn (zh_f w 286) (j % 1048576).toNat (zh_f w 287) (j / 1048576 % 1048576).toNat : Int) ≤ j / 1048576 / 1048576)
  | 3 => zh_b (j / 1048576 % 1048576 + (zh_cn (zh_f w 287) (j / 1048576 % 1048576).toNat (zh_f w 286) (j % 1048576).toNat : Int) ≤ j / 1048576 / 1048576)
  | 4 => zh_b (∀ i : Nat, (i : Int) < j → (zh_f w 292 i ≤ 0 ∨ (0 ≤ zh_f w 293 i ∧ zh_f w 293 i ≤ 16380)))
  | 5 => (zh_nz (zh_f w 186) 448 : Int)
  | 6 => zh_b (∀ i, i < min (j % 1048576).toNat 4 → zh_f w 311 i < j / 1048576)
  | 7 => zh_b (∀ i, i < (j % 1048576).toNat → zh_f w 279 i < j / 1048576)
  | 8 => zh_sm (zh_f w 182) (64 * j.toNat) (zh_f w 179 j.toNat).toNat
  | 9 => zh_sm (zh_f w 182) (64 * (j / 1048576).toNat) (j % 1048576).toNat
  | _ => 0
def zv_HRh (t : Nat) : List Nat := match t with
  | 0 => [286]
  | 1 => [287]
  | 2 => [286, 287]
  | 3 => [286, 287]
  | 4 => [292, 293]
  | 5 => [186]
  | 6 => [311]
  | 7 => [279]
  | 8 => [182, 179]
  | 9 => [182]
  | _ => []
theorem zh_f_g {w w' : zz_W} {r : Nat} (h : zz_g w' r = zz_g w r) : zh_f w' r = zh_f w r := by
  funext i
  unfold zh_f zk_el
  rw [h]
theorem zv_Hh_g {t : Nat} {w w' : zz_W} {j : Int} (h : ∀ r ∈ zv_HRh t, zz_g w' r = zz_g w r) : zv_Hh t w' j = zv_Hh t w j := by
  unfold zv_Hh
  unfold zv_HRh at h
  split
  · rw [zh_f_g (h 286 List.mem_cons_self)]
  · rw [zh_f_g (h 287 List.mem_cons_self)]
  · rw [zh_f_g (h 286 List.mem_cons_self), zh_f_g (h 287 (List.mem_cons_of_mem _ List.mem_cons_self))]
  · rw [zh_f_g (h 286 List.mem_cons_self), zh_f_g (h 287 (List.mem_cons_of_mem _ List.mem_cons_self))]
  · rw [zh_f_g (h 292 List.mem_cons_self), zh_f_g (h 293 (List.mem_cons_of_mem _ List.mem_cons_self))]
  · rw [zh_f_g (h 186 List.mem_cons_self)]
  · rw [zh_f_g (h 311 List.mem_cons_self)]
  · rw [zh_f_g (h 279 List.mem_cons_self)]
  · rw [zh_f_g (h 182 List.mem_cons_self), zh_f_g (h 179 (List.mem_cons_of_mem _ List.mem_cons_self))]
  · rw [zh_f_g (h 182 List.mem_cons_self)]
  · rfl
/-! laws of rows with parameters (functions 100 ..): rows, places below, how many parameters, cases (sums over: place, the rows' elements there, the parameters) -/
abbrev zq_Sp : Type := List Nat × Nat × Nat × List (List zl_E)
def zq_T (t : Nat) : zq_Sp := match t with
  | 0 => ([313], 64, 2, [[((0, 0), [(0, 1, 0), (2, 0, 1)])], [((0, 0), [(1, 0, 1), (3, 1, 0)])]])
  | 1 => ([184, 182], 448, 2, [[((0, 1), [(0, 0, 1), (3, 1, 0)])], [((0, 0), [(0, 1, 0), (4, 0, 1)])], [((98304, 0), [(1, 0, 1), (2, 0, 1)])]])
  | _ => ([], 0, 0, [[]])
def zq_dec : Nat → Int → List Int
  | 0, _ => []
  | m + 1, j => j % 4294967296 :: zq_dec m (j / 4294967296)
def zq_P (p : zq_Sp) (w : zz_W) (ps : List Int) : Prop := ∀ i : Nat, i < p.2.1 → ∃ d ∈ p.2.2.2, zk_cs (fun m => ((i : Int) :: (p.1.map (fun r => zk_el w r (i : Int)) ++ ps)).getD m 0) d
theorem zq_P_g {p : zq_Sp} {w w' : zz_W} {ps : List Int} (h : ∀ r ∈ p.1, zz_g w' r = zz_g w r) : zq_P p w' ps = zq_P p w ps := by
  have e : ∀ i : Nat, p.1.map (fun r => zk_el w' r (i : Int)) = p.1.map (fun r => zk_el w r (i : Int)) := fun i => List.map_congr_left (fun r hr => by
    unfold zk_el
    rw [h r hr])
  unfold zq_P
  simp only [e]
/-! the same with places that depend on parameters and elements (functions 200 ..): rows with their places (sums over: place, parameters, elements so far), places below, parameters, cases (sums over: place, parameters, elements) -/
abbrev zu_Sp : Type := List (Nat × zl_E) × Nat × Nat × List (List zl_E)
def zu_T (t : Nat) : zu_Sp := match t with
  | 0 => ([(299, ((0, 0), [(0, 1, 0)])), (300, ((0, 0), [(0, 1, 0)])), (182, ((0, 0), [(2, 64, 0), (3, 1, 0)])), (179, ((0, 0), [(2, 1, 0)]))], 3000, 2, [[((0, 0), [(0, 1, 0), (1, 0, 1)])], [((0, 1), [(3, 0, 1), (6, 1, 0)]), ((0, 0), [(4, 0, 1), (5, 1, 0)]), ((0, 0), [(4, 1, 0)]), ((0, 0), [(3, 1, 0)])]])
  | 1 => ([(292, ((0, 0), [(0, 1, 0)])), (182, ((0, 0), [(0, 1, 0), (1, 64, 0)])), (179, ((0, 0), [(1, 1, 0)]))], 64, 2, [[((0, 0), [(0, 1, 0), (5, 0, 1)])], [((0, 0), [(3, 0, 1)])], [((0, 4), [(4, 1, 0)])], [((1, 0), [(0, 1, 0), (2, 0, 1)]), ((0, 1), [(0, 0, 1), (2, 1, 0)])]])
  | 2 => ([], 64, 0, [[]])
  | _ => ([], 0, 0, [[]])
def zu_ex (w : zz_W) : List (Nat × zl_E) → List Int → List Int
  | [], l => l
  | q :: s, l => zu_ex w s (l ++ [zk_el w q.1 (zl_ev (fun m => l.getD m 0) q.2)])
def zu_P (p : zu_Sp) (w : zz_W) (ps : List Int) : Prop := ∀ i : Nat, i < p.2.1 → ∃ d ∈ p.2.2.2, zk_cs (fun m => (zu_ex w p.1 ((i : Int) :: ps)).getD m 0) d
theorem zu_ex_g {w w' : zz_W} : ∀ {s : List (Nat × zl_E)} {l : List Int}, (∀ r ∈ s.map (fun q => q.1), zz_g w' r = zz_g w r) → zu_ex w' s l = zu_ex w s l
  | [], _, _ => rfl
  | q :: s, l, h => by
    have e : ∀ x, zk_el w' q.1 x = zk_el w q.1 x := fun x => by
      unfold zk_el
      rw [h q.1 List.mem_cons_self]
    show zu_ex w' s (l ++ [zk_el w' q.1 (zl_ev (fun m => l.getD m 0) q.2)]) = zu_ex w s (l ++ [zk_el w q.1 (zl_ev (fun m => l.getD m 0) q.2)])
    rw [e]
    exact zu_ex_g (fun r hr => h r (List.mem_cons_of_mem _ hr))
theorem zu_P_g {p : zu_Sp} {w w' : zz_W} {ps : List Int} (h : ∀ r ∈ p.1.map (fun q => q.1), zz_g w' r = zz_g w r) : zu_P p w' ps = zu_P p w ps := by
  have e : ∀ l : List Int, zu_ex w' p.1 l = zu_ex w p.1 l := fun l => zu_ex_g h
  unfold zu_P
  simp only [e]
def zv_H (t : Nat) (w : zz_W) (j : Int) : Int := cond (Nat.blt t 100) (zv_Hh t w j) (cond (Nat.blt t 200) (zh_b (zq_P (zq_T (t - 100)) w (zq_dec (zq_T (t - 100)).2.2.1 j))) (zh_b (zu_P (zu_T (t - 200)) w (zq_dec (zu_T (t - 200)).2.2.1 j))))
def zv_HR (t : Nat) : List Nat := cond (Nat.blt t 100) (zv_HRh t) (cond (Nat.blt t 200) (zq_T (t - 100)).1 ((zu_T (t - 200)).1.map (fun q => q.1)))
theorem zv_cF {α : Type} {x y : α} : cond false x y = y := rfl
theorem zv_cT {α : Type} {x y : α} : cond true x y = x := rfl
theorem zv_H_g {t : Nat} {w w' : zz_W} {j : Int} (h : ∀ r ∈ zv_HR t, zz_g w' r = zz_g w r) : zv_H t w' j = zv_H t w j := by
  cases hb : Nat.blt t 100 with
  | true =>
    have e1 : zv_HR t = zv_HRh t := by
      unfold zv_HR
      rw [hb, zv_cT]
    have e2 : ∀ v, zv_H t v j = zv_Hh t v j := fun v => by
      unfold zv_H
      rw [hb, zv_cT]
    rw [e1] at h
    rw [e2, e2]
    exact zv_Hh_g h
  | false =>
    cases h2 : Nat.blt t 200 with
    | true =>
      have e1 : zv_HR t = (zq_T (t - 100)).1 := by
        unfold zv_HR
        rw [hb, h2, zv_cF, zv_cT]
      have e2 : ∀ v, zv_H t v j = zh_b (zq_P (zq_T (t - 100)) v (zq_dec (zq_T (t - 100)).2.2.1 j)) := fun v => by
        unfold zv_H
        rw [hb, h2, zv_cF, zv_cT]
      rw [e1] at h
      rw [e2, e2]
      generalize t - 100 = u at h ⊢
      exact congrArg zh_b (zq_P_g h)
    | false =>
      have e1 : zv_HR t = (zu_T (t - 200)).1.map (fun q => q.1) := by
        unfold zv_HR
        rw [hb, h2, zv_cF, zv_cF]
      have e2 : ∀ v, zv_H t v j = zh_b (zu_P (zu_T (t - 200)) v (zq_dec (zu_T (t - 200)).2.2.1 j)) := fun v => by
        unfold zv_H
        rw [hb, h2, zv_cF, zv_cF]
      rw [e1] at h
      rw [e2, e2]
      generalize t - 200 = u at h ⊢
      exact congrArg zh_b (zu_P_g h)
theorem zv_bltF {a b : Nat} (h : b ≤ a) : Nat.blt a b = false := by
  cases hb : Nat.blt a b with
  | true => exact absurd (zz_blt hb) (by omega)
  | false => rfl
theorem zv_H_q {t : Nat} {w : zz_W} {j : Int} (ht : t < 100) : zv_H (100 + t) w j = zh_b (zq_P (zq_T t) w (zq_dec (zq_T t).2.2.1 j)) := by
  unfold zv_H
  rw [zv_bltF (show 100 ≤ 100 + t by omega), show Nat.blt (100 + t) 200 = true from Nat.ble_eq.mpr (by omega), zv_cF, zv_cT, Nat.add_sub_cancel_left]
theorem zv_H_u {t : Nat} {w : zz_W} {j : Int} : zv_H (200 + t) w j = zh_b (zu_P (zu_T t) w (zq_dec (zu_T t).2.2.1 j)) := by
  unfold zv_H
  rw [zv_bltF (show 100 ≤ 200 + t by omega), zv_bltF (show 200 ≤ 200 + t by omega), zv_cF, zv_cF, Nat.add_sub_cancel_left]
end
