/-! OWN TOKENS and their laws, by hand: 200 not more slots of the table of names are taken than there are names; 201 one less -/
noncomputable section
/-- how many of the first n are not 0 -/
def zn_c (f : Nat → Int) : Nat → Nat
  | 0 => 0
  | n + 1 => zn_c f n + (if f n = 0 then 0 else 1)
def zn_N : Nat := 131072
theorem zn_N_eq : zn_N = 131072 := rfl
theorem zn_full {f : Nat → Int} : ∀ {n : Nat}, (∀ j, j < n → f j ≠ 0) → zn_c f n = n
  | 0, _ => rfl
  | n + 1, h => by
    show zn_c f n + (if f n = 0 then 0 else 1) = n + 1
    rw [zn_full (fun j hj => h j (by omega)), if_neg (h n (by omega))]
theorem zn_ex {f : Nat → Int} {n : Nat} (h : zn_c f n < n) : ∃ j, j < n ∧ f j = 0 := by
  by_cases hc : ∃ j, j < n ∧ f j = 0
  · exact hc
  · have := zn_full (f := f) (n := n) (fun j hj h0 => hc ⟨j, hj, h0⟩)
    omega
theorem zn_one {f g : Nat → Int} {k : Nat} (h : ∀ j, j ≠ k → g j = f j) : ∀ n : Nat, zn_c g n ≤ zn_c f n + (if k < n then 1 else 0)
  | 0 => Nat.le_refl _
  | n + 1 => by
    have ih := zn_one h n
    show zn_c g n + (if g n = 0 then 0 else 1) ≤ zn_c f n + (if f n = 0 then 0 else 1) + (if k < n + 1 then 1 else 0)
    by_cases hk : n = k
    · subst hk
      rw [if_neg (Nat.lt_irrefl n)] at ih
      rw [if_pos (Nat.lt_succ_self n)]
      split <;> split <;> omega
    · rw [h n hk]
      by_cases h2 : k < n
      · rw [if_pos h2] at ih
        rw [if_pos (show k < n + 1 by omega)]
        omega
      · rw [if_neg h2] at ih
        rw [if_neg (show ¬ k < n + 1 by omega)]
        omega
/-- the names, the taken slots -/
def zn_nm (w : zz_W) : Int := (Int32.ofNat (zk_fd w (171, 3))).toInt
def zn_el (w : zz_W) (j : Nat) : Int := zk_el w 175 (j : Int)
/-- sign k of name n -/
def zn_sg (w : zz_W) (n k : Nat) : Nat := (zz_at 64 (zz_g w (if k < 8 then 173 else 174)).2.2.2 n >>> (8 * (k % 8))) % 128
def zXP (t : Nat) (w : zz_W) : Prop := match t with
  | 200 => (zn_c (zn_el w) zn_N : Int) ≤ zn_nm w
  | 201 => (zn_c (zn_el w) zn_N : Int) + 1 ≤ zn_nm w
  | 202 => ∀ n, n < 125 → ∃ k, k ≤ 10 ∧ zn_sg w n k = 0
  | 203 => zh_T w
  | 204 => zh_T4 w
  | _ => True
def zXS (t : Nat) : List (Nat × Nat) := match t with
  | 200 => [(171, 3), (175, 999)]
  | 201 => [(171, 3), (175, 999)]
  | 202 => [(173, 999), (174, 999)]
  | 203 => [(171, 160), (171, 163), (171, 158), (286, 999), (287, 999)]
  | 204 => [(171, 144), (171, 3), (279, 999)]
  | _ => []
theorem zn_el_g {w w' : zz_W} (h : zz_g w' 175 = zz_g w 175) : zn_el w' = zn_el w := by
  funext j
  unfold zn_el zk_el
  rw [h]
theorem zXP_su : ∀ t w w', zk_I 64 zHT w → zk_I 64 zHT w' → (∀ q ∈ zXS t, q.2 ≠ 999 → zk_fd w' q = zk_fd w q) → (∀ q ∈ zXS t, q.2 = 999 → zz_g w' q.1 = zz_g w q.1) → zXP t w → zXP t w' := by
  intro t w w' _ _ h1 h2 hP
  unfold zXP at hP ⊢
  unfold zXS at h1 h2
  split at hP
  · have e1 : zn_nm w' = zn_nm w := by
      unfold zn_nm
      rw [h1 (171, 3) List.mem_cons_self (by decide)]
    rw [zn_el_g (h2 (175, 999) (List.mem_cons_of_mem _ List.mem_cons_self) rfl), e1]
    exact hP
  · have e1 : zn_nm w' = zn_nm w := by
      unfold zn_nm
      rw [h1 (171, 3) List.mem_cons_self (by decide)]
    rw [zn_el_g (h2 (175, 999) (List.mem_cons_of_mem _ List.mem_cons_self) rfl), e1]
    exact hP
  · intro n hn
    obtain ⟨k, k1, k2⟩ := hP n hn
    refine ⟨k, k1, ?_⟩
    rw [← k2]
    unfold zn_sg
    by_cases hk : k < 8
    · rw [if_pos hk, h2 (173, 999) List.mem_cons_self rfl]
    · rw [if_neg hk, h2 (174, 999) (List.mem_cons_of_mem _ List.mem_cons_self) rfl]
  · have f1 : zn_fd w' 160 = zn_fd w 160 := by
      unfold zn_fd
      rw [h1 (171, 160) List.mem_cons_self (by decide)]
    have f2 : zn_fd w' 163 = zn_fd w 163 := by
      unfold zn_fd
      rw [h1 (171, 163) (List.mem_cons_of_mem _ List.mem_cons_self) (by decide)]
    have f3 : zn_fd w' 158 = zn_fd w 158 := by
      unfold zn_fd
      rw [h1 (171, 158) (List.mem_cons_of_mem _ (List.mem_cons_of_mem _ List.mem_cons_self)) (by decide)]
    have f4 : zh_f w' 286 = zh_f w 286 := zh_f_g (h2 (286, 999) (List.mem_cons_of_mem _ (List.mem_cons_of_mem _ (List.mem_cons_of_mem _ List.mem_cons_self))) rfl)
    have f5 : zh_f w' 287 = zh_f w 287 := zh_f_g (h2 (287, 999) (List.mem_cons_of_mem _ (List.mem_cons_of_mem _ (List.mem_cons_of_mem _ (List.mem_cons_of_mem _ List.mem_cons_self)))) rfl)
    unfold zh_T
    rw [f1, f2, f3, f4, f5]
    exact hP
  · have f1 : zn_fd w' 144 = zn_fd w 144 := by
      unfold zn_fd
      rw [h1 (171, 144) List.mem_cons_self (by decide)]
    have f2 : zn_fd w' 3 = zn_fd w 3 := by
      unfold zn_fd
      rw [h1 (171, 3) (List.mem_cons_of_mem _ List.mem_cons_self) (by decide)]
    have f3 : zh_f w' 279 = zh_f w 279 := zh_f_g (h2 (279, 999) (List.mem_cons_of_mem _ (List.mem_cons_of_mem _ List.mem_cons_self)) rfl)
    unfold zh_T4
    rw [f1, f2, f3]
    exact hP
  · trivial
def zPT : Nat → zz_W → Prop := zk_ptx zHT zTL zTM zXP
theorem zPT_200 (w : zz_W) : zPT 200 w = ((zn_c (zn_el w) zn_N : Int) ≤ zn_nm w) := rfl
theorem zPT_201 (w : zz_W) : zPT 201 w = ((zn_c (zn_el w) zn_N : Int) + 1 ≤ zn_nm w) := rfl
/-- names become one more; a slot is taken -/
def zx_W0 : zx_W := (201, (171, 3), [200], [], [(171, 3)], [((0, 1), [(1, 1, 0), (2, 0, 1)])])
theorem zx_W0_ok : zx_Wok 64 zHT zPT zx_W0 := by
  intro w w' j _ _ _ _ hF hK hc
  have h1 := hF (by decide)
  have h2 : zPT 200 w := hK 200 List.mem_cons_self
  rw [zPT_200] at h2
  show zPT 201 w'
  rw [zPT_201, zn_el_g (h1.1 175 (by decide))]
  have h3 := hc _ List.mem_cons_self
  have h4 : zl_ev (fun m => (zx_wl w w' zx_W0 j).getD m 0) ((0, 1), [(1, 1, 0), (2, 0, 1)]) = zn_nm w' - zn_nm w - 1 := by
    show zl_nv (0, 1) + (zl_nv (1, 0) * zn_nm w' + (zl_nv (0, 1) * zn_nm w + 0)) = _
    rw [zl_nv_eq, zl_nv_eq]
    show ((0 : Nat) : Int) - ((1 : Nat) : Int) + ((((1 : Nat) : Int) - ((0 : Nat) : Int)) * zn_nm w' + ((((0 : Nat) : Int) - ((1 : Nat) : Int)) * zn_nm w + 0)) = _
    omega
  rw [h4] at h3
  omega
def zx_W1 : zx_W := (200, (175, 999), [201], [], [], [])
theorem zx_W1_ok : zx_Wok 64 zHT zPT zx_W1 := by
  intro w w' j _ _ hj hR _ hK _
  have h1 : zk_rR 175 j w w' := hR rfl
  have h2 : zPT 201 w := hK 201 List.mem_cons_self
  rw [zPT_201] at h2
  show zPT 200 w'
  rw [zPT_200]
  have e1 : zn_nm w' = zn_nm w := by
    unfold zn_nm zk_fd
    rw [h1.1 171 (by decide)]
  have h3 := zn_one (f := zn_el w) (g := zn_el w') (k := j.toNat) (fun m hm => h1.2 (m : Int) (Int.natCast_nonneg m) (by omega)) zn_N
  have h4 : (if j.toNat < zn_N then 1 else 0) ≤ 1 := by split <;> omega
  rw [e1]
  generalize (if j.toNat < zn_N then 1 else 0) = d at h3 h4
  omega
/-- names become more: parameters of macros stay names -/
def zx_W2 : zx_W := (204, (171, 3), [204], [], [(171, 3)], [zl_sub (zl_sym 1) (zl_sym 2)])
theorem zx_W2_ok : zx_Wok 64 zHT zPT zx_W2 := by
  intro w w' j _ _ _ _ hF hK hc
  have h1 : zk_rF 171 3 w w' := hF (by decide)
  have h2 : zh_T4 w := hK 204 List.mem_cons_self
  have h3 := hc _ List.mem_cons_self
  rw [zl_sub_ev, zl_sym_ev, zl_sym_ev] at h3
  have h3 : 0 ≤ zn_fd w' 3 - zn_fd w 3 := h3
  show zh_T4 w'
  have f1 : zn_fd w' 144 = zn_fd w 144 := by
    unfold zn_fd
    rw [h1.2 144 (by decide)]
  have f2 : zh_f w' 279 = zh_f w 279 := zh_f_g (h1.1 279 (by decide))
  unfold zh_T4 at h2 ⊢
  rw [f1, f2]
  intro i hi
  have := h2 i hi
  omega
/-- there is an empty slot -/
def zx_L0 : zx_L := ([200], 0, [], [(171, 3)], [([(0, 131071)], [], [(175, zl_sym 1, zl_con 0)], [])])
theorem zn_hnm : (zk_h zHT 171).1 = 3 ∧ (zk_h zHT 171).2.2.2.2.2[3]? = some (0, 0, 0, 65536) := by decide +kernel
theorem zx_L0_ok : zx_Lok 64 zHT zPT zx_L0 := by
  intro w hI hK ins hins _
  have h1 : zPT 200 w := hK 200 List.mem_cons_self
  rw [zPT_200] at h1
  have h2 := (hI.2.2.2 171 (by rw [zn_hnm.1]; decide)).2
  have h3 := (h2.2.2.2.2.2 zn_hnm.1 3 _ zn_hnm.2).1 rfl
  have h4 : zn_nm w ≤ 65536 := h3.2
  obtain ⟨z, z1, z2⟩ := zn_ex (f := zn_el w) (n := zn_N) (by have := zn_N_eq; omega)
  have z1 : z < 131072 := by rw [← zn_N_eq]; exact z1
  have hi : ins = [] := List.length_eq_zero_iff.mp hins
  subst hi
  refine ⟨_, List.mem_cons_self, [(z : Int)], rfl, fun k q hq => ?_, fun c hc => absurd hc List.not_mem_nil, fun x hx => ?_, fun t ht => absurd ht List.not_mem_nil⟩
  · match k, hq with
    | 0, hq =>
      cases hq
      show (0 : Int) ≤ (z : Int) ∧ (z : Int) ≤ 131071
      omega
    | k + 1, hq => cases hq
  · rw [List.mem_singleton.mp hx]
    show 0 ≤ zl_ev _ (zl_sym 1) ∧ zk_xe w 175 (zl_ev _ (zl_sym 1)) = zl_ev _ (zl_con 0)
    rw [zk_xe_r (show Nat.blt 175 1000000 = true by decide), zl_sym_ev, zl_con_ev]
    show 0 ≤ (z : Int) ∧ zk_el w 175 (z : Int) = 0
    exact ⟨by omega, z2⟩
def zWL (j : Nat) : Option zx_W := match j with
  | 0 => some zx_W0
  | 1 => some zx_W1
  | 2 => some zx_W2
  | _ => none
theorem zh_Is0 : zh_Is 2000000 286 := fun _ _ _ _ h h0 h1 => zh_H0 h h0 h1
theorem zh_Is1 : zh_Is 2000001 287 := fun _ _ _ _ h h0 h1 => zh_H1 h h0 h1
def zLL (j : Nat) : Option zx_L := match j with
  | 0 => some (zx_L0)
  | 1 => some (zx_S 2000000 286)
  | 2 => some (zx_Z 2000000)
  | 3 => some (zx_M 2000000)
  | 4 => some (zx_S 2000001 287)
  | 5 => some (zx_Z 2000001)
  | 6 => some (zx_M 2000001)
  | 7 => some (zx_T1)
  | 8 => some (zx_T2)
  | 9 => some (zx_T0)
  | 10 => some (zx_R1)
  | 11 => some (zx_R2)
  | 12 => some (zx_R3)
  | 13 => some (zx_R4)
  | 14 => some (zx_A1)
  | 15 => some (zx_A2)
  | 16 => some (zx_N1)
  | 17 => some (zx_N2)
  | 18 => some (zx_Q0)
  | 19 => some (zx_Q1)
  | 20 => some (zx_Q2)
  | 21 => some (zx_Q3)
  | 22 => some (zx_Q4)
  | 23 => some (zx_Q5)
  | 24 => some (zx_Q6)
  | 25 => some (zx_Q7)
  | 26 => some (zx_M 2000007)
  | 27 => some (zx_S27)
  | 28 => some (zx_S28)
  | 29 => some (zx_S29)
  | 30 => some (zx_S30)
  | 40 => some (zq_Ln 0)
  | 41 => some (zq_Li 0 [((0, 0), [(0, 0, 1)])])
  | 42 => some (zq_Lv 0 0 [((0, 0), [(0, 1, 0), (2, 0, 1)]), ((0, 0), [(1, 0, 1), (3, 1, 0)])])
  | 43 => some (zq_Ln 1)
  | 44 => some (zq_Li 1 [((0, 0), [(0, 1, 0), (1, 0, 1)])])
  | 45 => some (zq_Lv 1 1 [((0, 0), [(0, 0, 1), (2, 1, 0)]), ((0, 0), [(1, 1, 0), (3, 0, 1)])])
  | 50 => some (zu_Ln 0)
  | 51 => some (zu_Li 0 [((0, 0), [(0, 0, 1)])])
  | 52 => some (zu_Li 2 [])
  | 53 => some (zu_Ln 1)
  | 54 => some (zu_L1 1)
  | 60 => some (zx_Y1)
  | 61 => some (zx_Y2)
  | 62 => some (zx_Y4)
  | 63 => some (zx_Y8)
  | 64 => some (zx_Y16)
  | _ => none
def zVL (j : Nat) : Option zx_V := match j with
  | 0 => some zx_V0
  | 1 => some zx_V1
  | 2 => some zx_V2
  | 3 => some zx_V3
  | 4 => some zx_V4
  | 5 => some zx_V5
  | 6 => some zx_V6
  | 7 => some zx_V7
  | 8 => some (zx_V8)
  | 9 => some (zx_V9)
  | 10 => some (zx_V10)
  | 11 => some (zx_V11)
  | 20 => some (zq_Vw 313 0 0 [((0, 0), [(1, 0, 1), (3, 1, 0)]), ((0, 0), [(3, 1, 0), (5, 0, 1)]), ((1, 0), [(0, 1, 0), (2, 0, 1)]), ((0, 0), [(0, 1, 0), (4, 0, 1)]), ((0, 0), [(0, 0, 1), (4, 1, 0)])])
  | 21 => some (zq_Vw 313 0 0 [((0, 0), [(1, 0, 1), (3, 1, 0)]), ((0, 0), [(3, 1, 0), (5, 0, 1)]), ((0, 0), [(0, 1, 0), (2, 0, 1)])])
  | 22 => some (zq_Vw 184 1 1 [((0, 0), [(0, 0, 1), (2, 1, 0)]), ((1, 0), [(1, 1, 0), (3, 0, 1)]), ((0, 0), [(1, 1, 0), (4, 0, 1)]), ((0, 0), [(1, 0, 1), (4, 1, 0)]), ((98304, 0), [(5, 0, 1), (6, 0, 1)])])
  | 30 => some (zu_Vw 182 0 0 [182] [((0, 0), [(1, 1, 0), (3, 0, 1)]), ((0, 0), [(1, 0, 1), (3, 1, 0)]), ((0, 0), [(0, 1, 0), (2, 0, 1)]), ((0, 0), [(4, 0, 1), (6, 1, 0)]), ((0, 0), [(4, 1, 0), (6, 0, 1)]), ((0, 0), [(5, 1, 0), (7, 0, 1)])])
  | 31 => some (zu_Vw 182 0 0 [179] [((0, 0), [(1, 1, 0), (3, 0, 1)]), ((0, 0), [(1, 0, 1), (3, 1, 0)]), ((0, 0), [(0, 1, 0), (2, 0, 1)]), ((0, 0), [(1, 0, 1), (6, 1, 0)]), ((0, 0), [(1, 1, 0), (6, 0, 1)]), ((0, 0), [(1, 0, 64), (4, 1, 0), (7, 0, 1)]), ((0, 0), [(1, 64, 0), (4, 0, 1), (7, 1, 0)])])
  | 32 => some (zu_Vw 179 0 0 [179] [((0, 0), [(1, 1, 0), (3, 0, 1)]), ((0, 0), [(1, 0, 1), (3, 1, 0)]), ((0, 0), [(0, 1, 0), (2, 0, 1)]), ((0, 0), [(4, 0, 1), (6, 1, 0)]), ((0, 0), [(4, 1, 0), (6, 0, 1)]), ((0, 0), [(5, 1, 0), (7, 0, 1)])])
  | 33 => some (zu_Vw 299 0 0 [] [((0, 0), [(1, 1, 0), (3, 0, 1)]), ((0, 0), [(1, 0, 1), (3, 1, 0)]), ((0, 0), [(0, 1, 0), (2, 0, 1)]), ((0, 0), [(0, 0, 1), (4, 1, 0)])])
  | 34 => some (zu_Vw 300 0 0 [299, 179, 182] [((0, 0), [(1, 1, 0), (3, 0, 1)]), ((0, 0), [(1, 0, 1), (3, 1, 0)]), ((1, 0), [(0, 1, 0), (2, 0, 1)]), ((0, 0), [(0, 0, 1), (4, 1, 0)]), ((0, 0), [(0, 1, 0), (4, 0, 1)]), ((0, 0), [(4, 0, 1), (6, 1, 0)]), ((0, 0), [(4, 1, 0), (6, 0, 1)]), ((0, 0), [(1, 0, 1), (7, 1, 0)]), ((0, 0), [(1, 1, 0), (7, 0, 1)]), ((0, 0), [(1, 0, 64), (8, 1, 0), (9, 0, 1)]), ((0, 0), [(1, 64, 0), (8, 0, 1), (9, 1, 0)]), ((0, 1), [(9, 0, 1), (10, 1, 0)]), ((0, 0), [(5, 0, 1), (11, 1, 0)]), ((0, 0), [(5, 1, 0)]), ((0, 0), [(9, 1, 0)])])
  | 35 => some (zu_Vw 300 0 0 [299, 182] [((0, 0), [(1, 1, 0), (3, 0, 1)]), ((0, 0), [(1, 0, 1), (3, 1, 0)]), ((0, 0), [(0, 1, 0), (2, 0, 1)]), ((0, 0), [(4, 0, 1), (6, 1, 0)]), ((0, 0), [(4, 1, 0), (6, 0, 1)]), ((0, 0), [(1, 0, 64), (7, 1, 0), (8, 0, 1)]), ((0, 0), [(1, 64, 0), (7, 0, 1), (8, 1, 0)]), ((0, 0), [(5, 0, 1), (9, 1, 0)]), ((0, 0), [(5, 1, 0)])])
  | 36 => some (zu_Vw 179 2 1 [] [((0, 0), [(3, 0, 1)]), ((0, 0), [(0, 0, 1), (2, 1, 0)]), ((0, 0), [(0, 1, 0), (2, 0, 1)])])
  | 37 => some (zu_Vw 292 1 1 [] [((0, 0), [(0, 1, 0), (2, 0, 1)]), ((0, 0), [(0, 0, 1), (2, 1, 0)]), ((0, 0), [(1, 1, 0)]), ((0, 0), [(1, 0, 1)]), ((0, 0), [(3, 1, 0)]), ((0, 0), [(3, 0, 1)]), ((0, 0), [(5, 0, 1)])])
  | 38 => some (zu_Vw 292 1 1 [] [((0, 0), [(0, 1, 0), (2, 0, 1)]), ((0, 0), [(0, 0, 1), (2, 1, 0)]), ((0, 1), [(1, 1, 0), (4, 0, 1)]), ((1, 0), [(1, 0, 1), (4, 1, 0)]), ((0, 0), [(3, 1, 0)]), ((0, 0), [(3, 0, 1)]), ((0, 0), [(5, 0, 1)])])
  | 39 => some (zu_Vw 292 1 1 [182] [((0, 0), [(0, 1, 0), (2, 0, 1)]), ((0, 0), [(0, 0, 1), (2, 1, 0)]), ((0, 0), [(1, 1, 0)]), ((0, 0), [(1, 0, 1)]), ((0, 0), [(3, 1, 0)]), ((0, 0), [(3, 0, 1)]), ((0, 0), [(0, 0, 64), (4, 0, 1), (6, 1, 0)]), ((0, 0), [(0, 64, 0), (4, 1, 0), (6, 0, 1)]), ((0, 4), [(7, 1, 0)])])
  | 40 => some (zu_Vw 182 1 1 [182] [((0, 0), [(0, 1, 0), (2, 0, 1)]), ((0, 0), [(0, 0, 1), (2, 1, 0)]), ((0, 0), [(1, 1, 0), (3, 0, 1)]), ((0, 0), [(1, 0, 1), (3, 1, 0)]), ((0, 0), [(4, 0, 1), (6, 1, 0)]), ((0, 0), [(4, 1, 0), (6, 0, 1)]), ((0, 0), [(5, 1, 0), (7, 0, 1)])])
  | 41 => some (zu_Vw 182 1 1 [179] [((0, 0), [(0, 1, 0), (2, 0, 1)]), ((0, 0), [(0, 0, 1), (2, 1, 0)]), ((0, 0), [(1, 1, 0), (3, 0, 1)]), ((0, 0), [(1, 0, 1), (3, 1, 0)]), ((0, 0), [(0, 0, 1), (6, 1, 0)]), ((0, 0), [(0, 1, 0), (6, 0, 1)]), ((0, 0), [(0, 0, 64), (4, 1, 0), (7, 0, 1)]), ((0, 0), [(0, 64, 0), (4, 0, 1), (7, 1, 0)])])
  | 42 => some (zu_Vw 179 1 1 [179] [((0, 0), [(0, 1, 0), (2, 0, 1)]), ((0, 0), [(0, 0, 1), (2, 1, 0)]), ((0, 0), [(1, 1, 0)]), ((0, 0), [(1, 0, 1)]), ((0, 0), [(0, 0, 1), (6, 1, 0)]), ((0, 0), [(0, 1, 0), (6, 0, 1)]), ((0, 0), [(0, 0, 1), (4, 1, 0)]), ((0, 0), [(0, 1, 0), (4, 0, 1)]), ((0, 1), [(5, 1, 0), (7, 0, 1)]), ((1, 0), [(5, 0, 1), (7, 1, 0)]), ((0, 0), [(3, 1, 0), (5, 0, 1)]), ((0, 0), [(3, 0, 1), (5, 1, 0)])])
  | _ => none
theorem zTT : zk_TT 64 zHT zPT (zk_sux zTL zTM zXS) (zk_tsl zTL zTM, zWL, zLL, zVL) :=
  zk_TTx (by decide +kernel) (by decide +kernel) (by decide) zXP_su (fun j y h => by
    unfold zWL at h
    split at h
    · cases h
      exact zx_W0_ok
    · cases h
      exact zx_W1_ok
    · cases h
      exact zx_W2_ok
    · cases h) (fun j x h => by
    unfold zLL at h
    split at h
    · cases h
      exact zx_L0_ok
    · cases h
      exact zx_S_ok (by decide) zh_Is0
    · cases h
      exact zx_Z_ok zh_Is0
    · cases h
      exact zx_M_ok
    · cases h
      exact zx_S_ok (by decide) zh_Is1
    · cases h
      exact zx_Z_ok zh_Is1
    · cases h
      exact zx_M_ok
    · cases h
      exact zx_T1_ok (fun _ h => h)
    · cases h
      exact zx_T2_ok (fun _ h => h)
    · cases h
      exact zx_T0_ok (fun _ h => h)
    · cases h
      exact zx_R1_ok
    · cases h
      exact zx_R2_ok
    · cases h
      exact zx_R3_ok
    · cases h
      exact zx_R4_ok
    · cases h
      exact zx_A1_ok (fun _ h => h)
    · cases h
      exact zx_A2_ok (fun _ h => h)
    · cases h
      exact zx_N1_ok
    · cases h
      exact zx_N2_ok
    · cases h
      exact zx_Q0_ok
    · cases h
      exact zx_Q1_ok
    · cases h
      exact zx_Q2_ok
    · cases h
      exact zx_Q3_ok
    · cases h
      exact zx_Q4_ok
    · cases h
      exact zx_Q5_ok (fun _ h => h)
    · cases h
      exact zx_Q6_ok (fun _ h => h)
    · cases h
      exact zx_Q7_ok (fun _ h => h)
    · cases h
      exact zx_M_ok
    · cases h
      exact zx_S27_ok
    · cases h
      exact zx_S28_ok
    · cases h
      exact zx_S29_ok
    · cases h
      exact zx_S30_ok
    · cases h
      exact zx_gl40_ok
    · cases h
      exact zx_gl41_ok
    · cases h
      exact zx_gl42_ok
    · cases h
      exact zx_gl43_ok
    · cases h
      exact zx_gl44_ok
    · cases h
      exact zx_gl45_ok
    · cases h
      exact zx_gl50_ok
    · cases h
      exact zx_gl51_ok
    · cases h
      exact zx_gl52_ok
    · cases h
      exact zx_gl53_ok
    · cases h
      exact zx_gl54_ok
    · cases h
      exact zx_Y1_ok
    · cases h
      exact zx_Y2_ok
    · cases h
      exact zx_Y4_ok
    · cases h
      exact zx_Y8_ok
    · cases h
      exact zx_Y16_ok
    · cases h) (fun j y h => by
    unfold zVL at h
    split at h
    · cases h
      exact zx_V0_ok
    · cases h
      exact zx_V1_ok
    · cases h
      exact zx_V2_ok
    · cases h
      exact zx_V3_ok
    · cases h
      exact zx_V4_ok
    · cases h
      exact zx_V5_ok
    · cases h
      exact zx_V6_ok
    · cases h
      exact zx_V7_ok
    · cases h
      exact zx_V8_ok
    · cases h
      exact zx_V9_ok
    · cases h
      exact zx_V10_ok
    · cases h
      exact zx_V11_ok
    · cases h
      exact zx_gv20_ok
    · cases h
      exact zx_gv21_ok
    · cases h
      exact zx_gv22_ok
    · cases h
      exact zx_gv30_ok
    · cases h
      exact zx_gv31_ok
    · cases h
      exact zx_gv32_ok
    · cases h
      exact zx_gv33_ok
    · cases h
      exact zx_gv34_ok
    · cases h
      exact zx_gv35_ok
    · cases h
      exact zx_gv36_ok
    · cases h
      exact zx_gv37_ok
    · cases h
      exact zx_gv38_ok
    · cases h
      exact zx_gv39_ok
    · cases h
      exact zx_gv40_ok
    · cases h
      exact zx_gv41_ok
    · cases h
      exact zx_gv42_ok
    · cases h)
end
