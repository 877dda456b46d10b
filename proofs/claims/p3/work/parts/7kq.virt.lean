/-! the virtual rows of this program, and functions by hand (written by program) -/
noncomputable section
/-- rows; cases: conditions, value: sums over place, elements there, parameter; the first case that holds counts -/
abbrev zv_Sp : Type := List Nat × List (List zl_E × zl_E)
def zv_T (t : Nat) : zv_Sp := match t with
  | _ => ([], [])
/-- a row's elements -/
def zh_f (w : zz_W) (r : Nat) : Nat → Int := fun i => zk_el w r (i : Int)
def zh_b (P : Prop) : Int := @ite Int P (Classical.propDecidable P) 1 0
theorem zh_b1 {P : Prop} (h : P) : zh_b P = 1 := by
  unfold zh_b
  exact if_pos h
theorem zh_b0 {P : Prop} (h : ¬ P) : zh_b P = 0 := by
  unfold zh_b
  exact if_neg h
theorem zh_b1' {P : Prop} (h : zh_b P = 1) : P := Classical.byContradiction (fun hn => by
  rw [zh_b0 hn] at h
  omega)
theorem zh_b0' {P : Prop} (h : zh_b P = 0) : ¬ P := fun hp => by
  rw [zh_b1 hp] at h
  omega
/-- x stands among the first n -/
def zh_in (f : Nat → Int) (n : Nat) (x : Int) : Prop := ∃ i, i < n ∧ f i = x
/-- how many of the first n of g don't stand among the first a of f -/
def zh_cn (f : Nat → Int) (a : Nat) (g : Nat → Int) : Nat → Nat
  | 0 => 0
  | n + 1 => zh_cn f a g n + @ite Nat (zh_in f a (g n)) (Classical.propDecidable _) 0 1
/-- how many of the first n are not 0 -/
def zh_nz (f : Nat → Int) : Nat → Nat
  | 0 => 0
  | n + 1 => zh_nz f n + (if f n = 0 then 0 else 1)
/-- functions by hand: numbers that a world gives at a (coded) place, the rows that they speak of -/
def zv_H (t : Nat) (w : zz_W) (j : Int) : Int := match t with
  | 0 => zh_b (zh_in (zh_f w 286) (j % 1048576).toNat (j / 1048576))
  | 1 => zh_b (zh_in (zh_f w 287) (j % 1048576).toNat (j / 1048576))
  | 2 => zh_b (j % 1048576 + (zh_cn (zh_f w 286) (j % 1048576).toNat (zh_f w 287) (j / 1048576 % 1048576).toNat : Int) ≤ j / 1048576 / 1048576)
  | 3 => zh_b (j / 1048576 % 1048576 + (zh_cn (zh_f w 287) (j / 1048576 % 1048576).toNat (zh_f w 286) (j % 1048576).toNat : Int) ≤ j / 1048576 / 1048576)
  | 4 => zh_b (∀ i : Nat, (i : Int) < j → (zh_f w 292 i ≤ 0 ∨ (0 ≤ zh_f w 293 i ∧ zh_f w 293 i ≤ 16380)))
  | 5 => (zh_nz (zh_f w 186) 448 : Int)
  | _ => 0
def zv_HR (t : Nat) : List Nat := match t with
  | 0 => [286]
  | 1 => [287]
  | 2 => [286, 287]
  | 3 => [286, 287]
  | 4 => [292, 293]
  | 5 => [186]
  | _ => []
theorem zh_f_g {w w' : zz_W} {r : Nat} (h : zz_g w' r = zz_g w r) : zh_f w' r = zh_f w r := by
  funext i
  unfold zh_f zk_el
  rw [h]
theorem zv_H_g {t : Nat} {w w' : zz_W} {j : Int} (h : ∀ r ∈ zv_HR t, zz_g w' r = zz_g w r) : zv_H t w' j = zv_H t w j := by
  unfold zv_H
  unfold zv_HR at h
  split
  · rw [zh_f_g (h 286 List.mem_cons_self)]
  · rw [zh_f_g (h 287 List.mem_cons_self)]
  · rw [zh_f_g (h 286 List.mem_cons_self), zh_f_g (h 287 (List.mem_cons_of_mem _ List.mem_cons_self))]
  · rw [zh_f_g (h 286 List.mem_cons_self), zh_f_g (h 287 (List.mem_cons_of_mem _ List.mem_cons_self))]
  · rw [zh_f_g (h 292 List.mem_cons_self), zh_f_g (h 293 (List.mem_cons_of_mem _ List.mem_cons_self))]
  · rw [zh_f_g (h 186 List.mem_cons_self)]
  · rfl
end
