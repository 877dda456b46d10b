/-! OWN TOKENS and their laws, by hand: 200 not more slots of the table of names are taken than there are names; 201 one less -/
noncomputable section
/-- how many of the first n are not 0 -/
def zn_c (f : Nat → Int) : Nat → Nat
  | 0 => 0
  | n + 1 => zn_c f n + (if f n = 0 then 0 else 1)
def zn_N : Nat := 131072
theorem zn_N_eq : zn_N = 131072 := rfl
theorem zn_full {f : Nat → Int} : ∀ {n : Nat}, (∀ j, j < n → f j ≠ 0) → zn_c f n = n
  | 0, _ => rfl
  | n + 1, h => by
    show zn_c f n + (if f n = 0 then 0 else 1) = n + 1
    rw [zn_full (fun j hj => h j (by omega)), if_neg (h n (by omega))]
theorem zn_ex {f : Nat → Int} {n : Nat} (h : zn_c f n < n) : ∃ j, j < n ∧ f j = 0 := by
  by_cases hc : ∃ j, j < n ∧ f j = 0
  · exact hc
  · have := zn_full (f := f) (n := n) (fun j hj h0 => hc ⟨j, hj, h0⟩)
    omega
theorem zn_one {f g : Nat → Int} {k : Nat} (h : ∀ j, j ≠ k → g j = f j) : ∀ n : Nat, zn_c g n ≤ zn_c f n + (if k < n then 1 else 0)
  | 0 => Nat.le_refl _
  | n + 1 => by
    have ih := zn_one h n
    show zn_c g n + (if g n = 0 then 0 else 1) ≤ zn_c f n + (if f n = 0 then 0 else 1) + (if k < n + 1 then 1 else 0)
    by_cases hk : n = k
    · subst hk
      rw [if_neg (Nat.lt_irrefl n)] at ih
      rw [if_pos (Nat.lt_succ_self n)]
      split <;> split <;> omega
    · rw [h n hk]
      by_cases h2 : k < n
      · rw [if_pos h2] at ih
        rw [if_pos (show k < n + 1 by omega)]
        omega
      · rw [if_neg h2] at ih
        rw [if_neg (show ¬ k < n + 1 by omega)]
        omega
/-- the names, the taken slots -/
def zn_nm (w : zz_W) : Int := (Int32.ofNat (zk_fd w (171, 3))).toInt
def zn_el (w : zz_W) (j : Nat) : Int := zk_el w 175 (j : Int)
/-- sign k of name n -/
def zn_sg (w : zz_W) (n k : Nat) : Nat := (zz_at 64 (zz_g w (if k < 8 then 173 else 174)).2.2.2 n >>> (8 * (k % 8))) % 128
def zXP (t : Nat) (w : zz_W) : Prop := match t with
  | 200 => (zn_c (zn_el w) zn_N : Int) ≤ zn_nm w ∧ zs_nm (zn_l w 173) (zn_l w 174) (zh_e w 175) (zn_nm w)
  | 201 => (zn_c (zn_el w) zn_N : Int) + 1 ≤ zn_nm w
  | 202 => ∀ n, n < 125 → ∃ k, k ≤ 10 ∧ zn_sg w n k = 0
  | 203 => zh_T w
  | 204 => zh_T4 w
  | 205 => (zn_c (zn_el w) zn_N : Int) ≤ zn_nm w
  | 206 => zp_tn (zn_l w 173) (zn_l w 174) (zh_e w 221) (zh_e w 223) (zn_fd w 3) (zn_fd w 56)
  | 207 => zn_fd w 116 = 0 ∨ zc_wn (zh_e w 177) (zn_l w 173) (zn_l w 174) (zh_e w 256) (zh_e w 257) (zh_e w 178 (zn_fd w 63)) (40000 * zn_fd w 63) (zn_fd w 3) (zn_fd w 105)
  | _ => True
def zXS (t : Nat) : List (Nat × Nat) := match t with
  | 200 => [(171, 3), (175, 999), (173, 999), (174, 999)]
  | 201 => [(171, 3), (175, 999)]
  | 202 => [(173, 999), (174, 999)]
  | 203 => [(171, 160), (171, 163), (171, 158), (286, 999), (287, 999)]
  | 204 => [(171, 144), (171, 3), (279, 999)]
  | 205 => [(171, 3), (175, 999)]
  | 206 => [(171, 3), (171, 56), (221, 999), (223, 999), (173, 999), (174, 999)]
  | 207 => [(171, 116), (171, 3), (171, 63), (171, 105), (177, 999), (173, 999), (174, 999), (256, 999), (257, 999), (178, 999)]
  | _ => []
theorem zn_el_g {w w' : zz_W} (h : zz_g w' 175 = zz_g w 175) : zn_el w' = zn_el w := by
  funext j
  unfold zn_el zk_el
  rw [h]
theorem zXP_su : ∀ t w w', zk_I 64 zHT w → zk_I 64 zHT w' → (∀ q ∈ zXS t, q.2 ≠ 999 → zk_fd w' q = zk_fd w q) → (∀ q ∈ zXS t, q.2 = 999 → zz_g w' q.1 = zz_g w q.1) → zXP t w → zXP t w' := by
  intro t w w' _ _ h1 h2 hP
  unfold zXP at hP ⊢
  unfold zXS at h1 h2
  split at hP
  · have e1 : zn_nm w' = zn_nm w := by
      unfold zn_nm
      rw [h1 (171, 3) List.mem_cons_self (by decide)]
    have g1 := h2 (175, 999) (List.mem_cons_of_mem _ List.mem_cons_self) rfl
    have g2 := h2 (173, 999) (List.mem_cons_of_mem _ (List.mem_cons_of_mem _ List.mem_cons_self)) rfl
    have g3 := h2 (174, 999) (List.mem_cons_of_mem _ (List.mem_cons_of_mem _ (List.mem_cons_of_mem _ List.mem_cons_self))) rfl
    rw [zn_el_g g1, e1, zn_l_g g2, zn_l_g g3, zh_e_g g1]
    exact hP
  · have e1 : zn_nm w' = zn_nm w := by
      unfold zn_nm
      rw [h1 (171, 3) List.mem_cons_self (by decide)]
    rw [zn_el_g (h2 (175, 999) (List.mem_cons_of_mem _ List.mem_cons_self) rfl), e1]
    exact hP
  · intro n hn
    obtain ⟨k, k1, k2⟩ := hP n hn
    refine ⟨k, k1, ?_⟩
    rw [← k2]
    unfold zn_sg
    by_cases hk : k < 8
    · rw [if_pos hk, h2 (173, 999) List.mem_cons_self rfl]
    · rw [if_neg hk, h2 (174, 999) (List.mem_cons_of_mem _ List.mem_cons_self) rfl]
  · have f1 : zn_fd w' 160 = zn_fd w 160 := by
      unfold zn_fd
      rw [h1 (171, 160) List.mem_cons_self (by decide)]
    have f2 : zn_fd w' 163 = zn_fd w 163 := by
      unfold zn_fd
      rw [h1 (171, 163) (List.mem_cons_of_mem _ List.mem_cons_self) (by decide)]
    have f3 : zn_fd w' 158 = zn_fd w 158 := by
      unfold zn_fd
      rw [h1 (171, 158) (List.mem_cons_of_mem _ (List.mem_cons_of_mem _ List.mem_cons_self)) (by decide)]
    have f4 : zh_f w' 286 = zh_f w 286 := zh_f_g (h2 (286, 999) (List.mem_cons_of_mem _ (List.mem_cons_of_mem _ (List.mem_cons_of_mem _ List.mem_cons_self))) rfl)
    have f5 : zh_f w' 287 = zh_f w 287 := zh_f_g (h2 (287, 999) (List.mem_cons_of_mem _ (List.mem_cons_of_mem _ (List.mem_cons_of_mem _ (List.mem_cons_of_mem _ List.mem_cons_self)))) rfl)
    unfold zh_T
    rw [f1, f2, f3, f4, f5]
    exact hP
  · have f1 : zn_fd w' 144 = zn_fd w 144 := by
      unfold zn_fd
      rw [h1 (171, 144) List.mem_cons_self (by decide)]
    have f2 : zn_fd w' 3 = zn_fd w 3 := by
      unfold zn_fd
      rw [h1 (171, 3) (List.mem_cons_of_mem _ List.mem_cons_self) (by decide)]
    have f3 : zh_f w' 279 = zh_f w 279 := zh_f_g (h2 (279, 999) (List.mem_cons_of_mem _ (List.mem_cons_of_mem _ List.mem_cons_self)) rfl)
    unfold zh_T4
    rw [f1, f2, f3]
    exact hP
  · have e1 : zn_nm w' = zn_nm w := by
      unfold zn_nm
      rw [h1 (171, 3) List.mem_cons_self (by decide)]
    rw [zn_el_g (h2 (175, 999) (List.mem_cons_of_mem _ List.mem_cons_self) rfl), e1]
    exact hP
  · have f1 : zn_fd w' 3 = zn_fd w 3 := by
      unfold zn_fd
      rw [h1 (171, 3) List.mem_cons_self (by decide)]
    have f2 : zn_fd w' 56 = zn_fd w 56 := by
      unfold zn_fd
      rw [h1 (171, 56) (List.mem_cons_of_mem _ List.mem_cons_self) (by decide)]
    rw [f1, f2, zh_e_g (h2 (221, 999) (List.mem_cons_of_mem _ (List.mem_cons_of_mem _ List.mem_cons_self)) rfl), zh_e_g (h2 (223, 999) (List.mem_cons_of_mem _ (List.mem_cons_of_mem _ (List.mem_cons_of_mem _ List.mem_cons_self))) rfl), zn_l_g (h2 (173, 999) (List.mem_cons_of_mem _ (List.mem_cons_of_mem _ (List.mem_cons_of_mem _ (List.mem_cons_of_mem _ List.mem_cons_self)))) rfl), zn_l_g (h2 (174, 999) (List.mem_cons_of_mem _ (List.mem_cons_of_mem _ (List.mem_cons_of_mem _ (List.mem_cons_of_mem _ (List.mem_cons_of_mem _ List.mem_cons_self))))) rfl)]
    exact hP
  · have f0 : zn_fd w' 116 = zn_fd w 116 := by
      unfold zn_fd
      rw [h1 (171, 116) List.mem_cons_self (by decide)]
    have f1 : zn_fd w' 3 = zn_fd w 3 := by
      unfold zn_fd
      rw [h1 (171, 3) (List.mem_cons_of_mem _ List.mem_cons_self) (by decide)]
    have f2 : zn_fd w' 63 = zn_fd w 63 := by
      unfold zn_fd
      rw [h1 (171, 63) (List.mem_cons_of_mem _ (List.mem_cons_of_mem _ List.mem_cons_self)) (by decide)]
    have f3 : zn_fd w' 105 = zn_fd w 105 := by
      unfold zn_fd
      rw [h1 (171, 105) (List.mem_cons_of_mem _ (List.mem_cons_of_mem _ (List.mem_cons_of_mem _ List.mem_cons_self))) (by decide)]
    rw [f0, f1, f2, f3, zh_e_g (h2 (177, 999) (List.mem_cons_of_mem _ (List.mem_cons_of_mem _ (List.mem_cons_of_mem _ (List.mem_cons_of_mem _ List.mem_cons_self)))) rfl), zn_l_g (h2 (173, 999) (List.mem_cons_of_mem _ (List.mem_cons_of_mem _ (List.mem_cons_of_mem _ (List.mem_cons_of_mem _ (List.mem_cons_of_mem _ List.mem_cons_self))))) rfl), zn_l_g (h2 (174, 999) (List.mem_cons_of_mem _ (List.mem_cons_of_mem _ (List.mem_cons_of_mem _ (List.mem_cons_of_mem _ (List.mem_cons_of_mem _ (List.mem_cons_of_mem _ List.mem_cons_self)))))) rfl), zh_e_g (h2 (256, 999) (List.mem_cons_of_mem _ (List.mem_cons_of_mem _ (List.mem_cons_of_mem _ (List.mem_cons_of_mem _ (List.mem_cons_of_mem _ (List.mem_cons_of_mem _ (List.mem_cons_of_mem _ List.mem_cons_self))))))) rfl), zh_e_g (h2 (257, 999) (List.mem_cons_of_mem _ (List.mem_cons_of_mem _ (List.mem_cons_of_mem _ (List.mem_cons_of_mem _ (List.mem_cons_of_mem _ (List.mem_cons_of_mem _ (List.mem_cons_of_mem _ (List.mem_cons_of_mem _ List.mem_cons_self)))))))) rfl), zh_e_g (h2 (178, 999) (List.mem_cons_of_mem _ (List.mem_cons_of_mem _ (List.mem_cons_of_mem _ (List.mem_cons_of_mem _ (List.mem_cons_of_mem _ (List.mem_cons_of_mem _ (List.mem_cons_of_mem _ (List.mem_cons_of_mem _ (List.mem_cons_of_mem _ List.mem_cons_self))))))))) rfl)]
    exact hP
  · trivial
def zPT : Nat → zz_W → Prop := zk_ptx zHT zTL zTM zXP
theorem zPT_200 (w : zz_W) : zPT 200 w = ((zn_c (zn_el w) zn_N : Int) ≤ zn_nm w ∧ zs_nm (zn_l w 173) (zn_l w 174) (zh_e w 175) (zn_nm w)) := rfl
theorem zPT_205 (w : zz_W) : zPT 205 w = ((zn_c (zn_el w) zn_N : Int) ≤ zn_nm w) := rfl
theorem zPT_201 (w : zz_W) : zPT 201 w = ((zn_c (zn_el w) zn_N : Int) + 1 ≤ zn_nm w) := rfl
/-- names become one more; a slot is taken -/
def zx_W0 : zx_W := (201, (171, 3), [205], [], [(171, 3)], [((0, 1), [(1, 1, 0), (2, 0, 1)])])
theorem zx_W0_ok : zx_Wok 64 zHT zPT zx_W0 := by
  intro w w' j _ _ _ _ hF hK hc
  have h1 := hF (by decide)
  have h2 : zPT 205 w := hK 205 List.mem_cons_self
  rw [zPT_205] at h2
  show zPT 201 w'
  rw [zPT_201, zn_el_g (h1.1 175 (by decide))]
  have h3 := hc _ List.mem_cons_self
  have h4 : zl_ev (fun m => (zx_wl w w' zx_W0 j).getD m 0) ((0, 1), [(1, 1, 0), (2, 0, 1)]) = zn_nm w' - zn_nm w - 1 := by
    show zl_nv (0, 1) + (zl_nv (1, 0) * zn_nm w' + (zl_nv (0, 1) * zn_nm w + 0)) = _
    rw [zl_nv_eq, zl_nv_eq]
    show ((0 : Nat) : Int) - ((1 : Nat) : Int) + ((((1 : Nat) : Int) - ((0 : Nat) : Int)) * zn_nm w' + ((((0 : Nat) : Int) - ((1 : Nat) : Int)) * zn_nm w + 0)) = _
    omega
  rw [h4] at h3
  omega
def zx_W1 : zx_W := (205, (175, 999), [201], [], [], [])
theorem zx_W1_ok : zx_Wok 64 zHT zPT zx_W1 := by
  intro w w' j _ _ hj hR _ hK _
  have h1 : zk_rR 175 j w w' := hR rfl
  have h2 : zPT 201 w := hK 201 List.mem_cons_self
  rw [zPT_201] at h2
  show zPT 205 w'
  rw [zPT_205]
  have e1 : zn_nm w' = zn_nm w := by
    unfold zn_nm zk_fd
    rw [h1.1 171 (by decide)]
  have h3 := zn_one (f := zn_el w) (g := zn_el w') (k := j.toNat) (fun m hm => h1.2 (m : Int) (Int.natCast_nonneg m) (by omega)) zn_N
  have h4 : (if j.toNat < zn_N then 1 else 0) ≤ 1 := by split <;> omega
  rw [e1]
  generalize (if j.toNat < zn_N then 1 else 0) = d at h3 h4
  omega
/-- names become more: parameters of macros stay names -/
def zx_W2 : zx_W := (204, (171, 3), [204], [], [(171, 3)], [zl_sub (zl_sym 1) (zl_sym 2)])
theorem zx_W2_ok : zx_Wok 64 zHT zPT zx_W2 := by
  intro w w' j _ _ _ _ hF hK hc
  have h1 : zk_rF 171 3 w w' := hF (by decide)
  have h2 : zh_T4 w := hK 204 List.mem_cons_self
  have h3 := hc _ List.mem_cons_self
  rw [zl_sub_ev, zl_sym_ev, zl_sym_ev] at h3
  have h3 : 0 ≤ zn_fd w' 3 - zn_fd w 3 := h3
  show zh_T4 w'
  have f1 : zn_fd w' 144 = zn_fd w 144 := by
    unfold zn_fd
    rw [h1.2 144 (by decide)]
  have f2 : zh_f w' 279 = zh_f w 279 := zh_f_g (h1.1 279 (by decide))
  unfold zh_T4 at h2 ⊢
  rw [f1, f2]
  intro i hi
  have := h2 i hi
  omega
/-- there is an empty slot -/
def zx_L0 : zx_L := ([205], 0, [], [(171, 3)], [([(0, 131071)], [], [(175, zl_sym 1, zl_con 0)], [])])
theorem zn_hnm : (zk_h zHT 171).1 = 3 ∧ (zk_h zHT 171).2.2.2.2.2[3]? = some (0, 0, 0, 65536) := by decide +kernel
theorem zx_L0_ok : zx_Lok 64 zHT zPT zx_L0 := by
  intro w hI hK ins hins _
  have h1 : zPT 205 w := hK 205 List.mem_cons_self
  rw [zPT_205] at h1
  have h2 := (hI.2.2.2 171 (by rw [zn_hnm.1]; decide)).2
  have h3 := (h2.2.2.2.2.2.1 zn_hnm.1 3 _ zn_hnm.2).1 rfl
  have h4 : zn_nm w ≤ 65536 := h3.2
  obtain ⟨z, z1, z2⟩ := zn_ex (f := zn_el w) (n := zn_N) (by have := zn_N_eq; omega)
  have z1 : z < 131072 := by rw [← zn_N_eq]; exact z1
  have hi : ins = [] := List.length_eq_zero_iff.mp hins
  subst hi
  refine ⟨_, List.mem_cons_self, [(z : Int)], rfl, fun k q hq => ?_, fun c hc => absurd hc List.not_mem_nil, fun x hx => ?_, fun t ht => absurd ht List.not_mem_nil⟩
  · match k, hq with
    | 0, hq =>
      cases hq
      show (0 : Int) ≤ (z : Int) ∧ (z : Int) ≤ 131071
      omega
    | k + 1, hq => cases hq
  · rw [List.mem_singleton.mp hx]
    show 0 ≤ zl_ev _ (zl_sym 1) ∧ zk_xe w 175 (zl_ev _ (zl_sym 1)) = zl_ev _ (zl_con 0)
    rw [zk_xe_r (show Nat.blt 175 1000000 = true by decide), zl_sym_ev, zl_con_ev]
    show 0 ≤ (z : Int) ∧ zk_el w 175 (z : Int) = 0
    exact ⟨by omega, z2⟩
/-- laws 163, 164: the table of names as a function's value, and back -/
theorem zn_nmr {w : zz_W} (hI : zk_I 64 zHT w) : 0 ≤ zn_nm w ∧ zn_nm w ≤ 65536 := by
  have h2 := (hI.2.2.2 171 (by rw [zn_hnm.1]; decide)).2
  exact (h2.2.2.2.2.2.1 zn_hnm.1 3 _ zn_hnm.2).1 rfl
theorem zn_84 {w : zz_W} {j : Int} (h0 : 0 ≤ j) (h1 : j < 4294967296) : zk_xe w 2000084 j = zh_b (zs_nm (zn_l w 173) (zn_l w 174) (zh_e w 175) j) := by
  rw [show (2000084 : Nat) = 2000000 + 84 from rfl, zk_xe_h]
  show zh_b (zs_nm (zn_l w 173) (zn_l w 174) (zh_e w 175) (j % 4294967296)) = _
  rw [show j % 4294967296 = j by omega]
def zx_C1 : zx_L := ([200], 0, [], [(171, 3)], [([], [], [(2000084, zl_sym 0, zl_con 1)], [205])])
theorem zx_C1_ok : zx_Lok 64 zHT zPT zx_C1 := by
  intro w hI hK ins hins _
  have h1 : zPT 200 w := hK 200 List.mem_cons_self
  rw [zPT_200] at h1
  have h4 := zn_nmr hI
  have hi : ins = [] := List.length_eq_zero_iff.mp hins
  subst hi
  refine ⟨_, List.mem_cons_self, [], rfl, fun k q hq => (by cases hq), fun c hc => absurd hc List.not_mem_nil, fun x hx => ?_, fun t ht => ?_⟩
  · rw [List.mem_singleton.mp hx]
    show 0 ≤ zl_ev _ (zl_sym 0) ∧ zk_xe w 2000084 (zl_ev _ (zl_sym 0)) = zl_ev _ (zl_con 1)
    rw [zl_sym_ev, zl_con_ev]
    show 0 ≤ zn_nm w ∧ zk_xe w 2000084 (zn_nm w) = 1
    exact ⟨h4.1, by rw [zn_84 h4.1 (by omega)]; exact zh_b1 h1.2⟩
  · rw [List.mem_singleton.mp ht, zPT_205]
    exact h1.1
def zx_C2 : zx_L := zx_Lc [205] 1 [(2000084, 0)] [(171, 3)] [zl_sub (zl_sym 0) (zl_sym 2), zl_sub (zl_sym 1) (zl_con 1)] [] [([], [], [], [200])]
theorem zx_C2_ok : zx_Lok 64 zHT zPT zx_C2 := by
  refine zx_Lc_ok (fun w hI hK ins hl hr he hg => ?_)
  obtain ⟨P, rfl⟩ := zx_i1 hl
  have e0 := he _ List.mem_cons_self
  have e1 := he _ (List.mem_cons_of_mem _ List.mem_cons_self)
  rw [zl_sub_ev, zl_sym_ev, zl_sym_ev] at e0
  rw [zl_sub_ev, zl_sym_ev, zl_con_ev] at e1
  have e0 : P - zn_nm w = 0 := e0
  have e1 : zk_xe w 2000084 P - 1 = 0 := e1
  have h4 := zn_nmr hI
  have h1 : zPT 205 w := hK 205 List.mem_cons_self
  rw [zPT_205] at h1
  refine zx_one (l := zx_vl w ([205], 1, [(2000084, 0)], [(171, 3)], []) [P]) _ List.mem_cons_self rfl zx_cs0 zx_eF0 (fun t ht => ?_)
  rw [List.mem_singleton.mp ht, zPT_200]
  have e2 : P = zn_nm w := by omega
  rw [e2, zn_84 h4.1 (by omega)] at e1
  exact ⟨h1, zh_b1' (by omega)⟩
/-- laws 796, 797: tokens that are names, as a token and as a function's value -/
theorem zn_fdr {w : zz_W} (hI : zk_I 64 zHT w) {k : Nat} {lo hi : Int} (h : (zk_h zHT 171).2.2.2.2.2[k]? = some (0, 0, lo, hi)) : lo ≤ zn_fd w k ∧ zn_fd w k ≤ hi := by
  have h2 := (hI.2.2.2 171 (by rw [zn_hnm.1]; decide)).2
  exact (h2.2.2.2.2.2.1 zn_hnm.1 k _ h).1 rfl
theorem zn_htk : (zk_h zHT 171).2.2.2.2.2[56]? = some (0, 0, 0, 3001) := by decide +kernel
theorem zn_90x {w : zz_W} {n t : Int} (n0 : 0 ≤ n) (n1 : n < 4294967296) : zk_xe w 2000090 (n + 4294967296 * t) = zh_b (zp_tn (zn_l w 173) (zn_l w 174) (zh_e w 221) (zh_e w 223) n t) := by
  rw [show (2000090 : Nat) = 2000000 + 90 from rfl, zk_xe_h]
  show zh_b (zp_tn (zn_l w 173) (zn_l w 174) (zh_e w 221) (zh_e w 223) ((n + 4294967296 * t) % 4294967296) ((n + 4294967296 * t) / 4294967296)) = _
  rw [show (n + 4294967296 * t) % 4294967296 = n by omega, show (n + 4294967296 * t) / 4294967296 = t by omega]
theorem zPT_206 (w : zz_W) : zPT 206 w = zp_tn (zn_l w 173) (zn_l w 174) (zh_e w 221) (zh_e w 223) (zn_fd w 3) (zn_fd w 56) := rfl
def zx_C4 : zx_L := ([206], 0, [], [(171, 3), (171, 56)], [([], [], [(2000090, zl_add (zl_sym 0) (zl_mul 4294967296 (zl_sym 1)), zl_con 1)], [])])
theorem zx_C4_ok : zx_Lok 64 zHT zPT zx_C4 := by
  intro w hI hK ins hins _
  have h1 : zPT 206 w := hK 206 List.mem_cons_self
  rw [zPT_206] at h1
  have h4 := zn_fdr hI zn_hnm.2
  have h5 := zn_fdr hI zn_htk
  have hi : ins = [] := List.length_eq_zero_iff.mp hins
  subst hi
  refine ⟨_, List.mem_cons_self, [], rfl, fun k q hq => (by cases hq), fun c hc => absurd hc List.not_mem_nil, fun x hx => ?_, fun t ht => absurd ht List.not_mem_nil⟩
  rw [List.mem_singleton.mp hx]
  show 0 ≤ zl_ev _ (zl_add (zl_sym 0) (zl_mul 4294967296 (zl_sym 1))) ∧ zk_xe w 2000090 (zl_ev _ (zl_add (zl_sym 0) (zl_mul 4294967296 (zl_sym 1)))) = zl_ev _ (zl_con 1)
  rw [zl_add_ev, zl_mul_ev, zl_sym_ev, zl_sym_ev, zl_con_ev]
  show 0 ≤ zn_fd w 3 + 4294967296 * zn_fd w 56 ∧ zk_xe w 2000090 (zn_fd w 3 + 4294967296 * zn_fd w 56) = 1
  exact ⟨by omega, by rw [zn_90x (by omega) (by omega)]; exact zh_b1 h1⟩
def zx_C3 : zx_L := zx_Lc [] 1 [(2000090, 0)] [(171, 3), (171, 56)] [zl_sub (zl_sym 0) (zl_add (zl_sym 2) (zl_mul 4294967296 (zl_sym 3))), zl_sub (zl_sym 1) (zl_con 1)] [] [([], [], [], [206])]
theorem zx_C3_ok : zx_Lok 64 zHT zPT zx_C3 := by
  refine zx_Lc_ok (fun w hI hK ins hl hr he hg => ?_)
  obtain ⟨P, rfl⟩ := zx_i1 hl
  have e0 := he _ List.mem_cons_self
  have e1 := he _ (List.mem_cons_of_mem _ List.mem_cons_self)
  rw [zl_sub_ev, zl_add_ev, zl_mul_ev, zl_sym_ev, zl_sym_ev, zl_sym_ev] at e0
  rw [zl_sub_ev, zl_sym_ev, zl_con_ev] at e1
  have e0 : P - (zn_fd w 3 + 4294967296 * zn_fd w 56) = 0 := e0
  have e1 : zk_xe w 2000090 P - 1 = 0 := e1
  have h4 := zn_fdr hI zn_hnm.2
  refine zx_one (l := zx_vl w ([], 1, [(2000090, 0)], [(171, 3), (171, 56)], []) [P]) _ List.mem_cons_self rfl zx_cs0 zx_eF0 (fun t ht => ?_)
  rw [List.mem_singleton.mp ht, zPT_206]
  have e2 : P = zn_fd w 3 + 4294967296 * zn_fd w 56 := by omega
  rw [e2, zn_90x (by omega) (by omega)] at e1
  exact zh_b1' (by omega)
theorem zPT_207 (w : zz_W) : zPT 207 w = (zn_fd w 116 = 0 ∨ zc_wn (zh_e w 177) (zn_l w 173) (zn_l w 174) (zh_e w 256) (zh_e w 257) (zh_e w 178 (zn_fd w 63)) (40000 * zn_fd w 63) (zn_fd w 3) (zn_fd w 105)) := rfl
def zx_D1030 : zx_L := zx_Lc [207] 0 [] [(171, 3), (171, 63), (171, 105), (171, 116)] [] [((0, 0), [(0, 1, 0)]), ((4294967276, 0), [(0, 0, 1)]), ((0, 0), [(1, 1, 0)]), ((4294967276, 0), [(1, 0, 1)]), ((0, 0), [(2, 1, 0)]), ((4294967276, 0), [(2, 0, 1)]), ((0, 0), [(3, 1, 0)]), ((1, 0), [(3, 0, 1)])] [([(0, 1)], [((0, 0), [(3, 0, 1), (4, 1, 0)])], [(2000153, ((0, 0), [(0, 1, 0), (1, 4294967296, 0), (2, 18446744073709551616, 0)]), ((0, 0), [(4, 1, 0)]))], [])]
theorem zx_D1030_ok : zx_Lok 64 zHT zPT zx_D1030 := by
  refine zx_Lc_ok (fun w hI hK ins hl hr he hg => ?_)
  have hi : ins = [] := List.length_eq_zero_iff.mp hl
  subst hi
  have g0 : 0 ≤ (0 : Int) + (1 * (zn_fd w 3) + 0) := hg _ List.mem_cons_self
  have g1 : 0 ≤ (4294967276 : Int) + ((-1) * (zn_fd w 3) + 0) := hg _ (List.mem_cons_of_mem _ List.mem_cons_self)
  have g2 : 0 ≤ (0 : Int) + (1 * (zn_fd w 63) + 0) := hg _ (List.mem_cons_of_mem _ (List.mem_cons_of_mem _ List.mem_cons_self))
  have g3 : 0 ≤ (4294967276 : Int) + ((-1) * (zn_fd w 63) + 0) := hg _ (List.mem_cons_of_mem _ (List.mem_cons_of_mem _ (List.mem_cons_of_mem _ List.mem_cons_self)))
  have g4 : 0 ≤ (0 : Int) + (1 * (zn_fd w 105) + 0) := hg _ (List.mem_cons_of_mem _ (List.mem_cons_of_mem _ (List.mem_cons_of_mem _ (List.mem_cons_of_mem _ List.mem_cons_self))))
  have g5 : 0 ≤ (4294967276 : Int) + ((-1) * (zn_fd w 105) + 0) := hg _ (List.mem_cons_of_mem _ (List.mem_cons_of_mem _ (List.mem_cons_of_mem _ (List.mem_cons_of_mem _ (List.mem_cons_of_mem _ List.mem_cons_self)))))
  have g6 : 0 ≤ (0 : Int) + (1 * (zn_fd w 116) + 0) := hg _ (List.mem_cons_of_mem _ (List.mem_cons_of_mem _ (List.mem_cons_of_mem _ (List.mem_cons_of_mem _ (List.mem_cons_of_mem _ (List.mem_cons_of_mem _ List.mem_cons_self))))))
  have g7 : 0 ≤ (1 : Int) + ((-1) * (zn_fd w 116) + 0) := hg _ (List.mem_cons_of_mem _ (List.mem_cons_of_mem _ (List.mem_cons_of_mem _ (List.mem_cons_of_mem _ (List.mem_cons_of_mem _ (List.mem_cons_of_mem _ (List.mem_cons_of_mem _ List.mem_cons_self)))))))
  have h := hK 207 List.mem_cons_self
  rw [zPT_207] at h
  have hb := zc_153b (w := w) (j := ((zn_fd w 3) + 4294967296 * (zn_fd w 63) + 18446744073709551616 * (zn_fd w 105))) (N := (zn_fd w 3)) (u := (zn_fd w 63)) (o := (zn_fd w 105)) (by omega) (by omega) (by omega) (by omega) (by omega) (by omega) (by omega) 
  have hv : zk_xe w 2000153 ((zn_fd w 3) + 4294967296 * (zn_fd w 63) + 18446744073709551616 * (zn_fd w 105)) = 1 ∨ (zn_fd w 116) = 0 := by
    rcases h with h | h
    · exact Or.inr h
    · exact Or.inl ((zc_153 (w := w) (j := ((zn_fd w 3) + 4294967296 * (zn_fd w 63) + 18446744073709551616 * (zn_fd w 105))) (N := (zn_fd w 3)) (u := (zn_fd w 63)) (o := (zn_fd w 105)) (by omega) (by omega) (by omega) (by omega) (by omega) (by omega) (by omega) ).mpr h)
  exact ⟨_, List.mem_cons_self, [zk_xe w 2000153 ((zn_fd w 3) + 4294967296 * (zn_fd w 63) + 18446744073709551616 * (zn_fd w 105))], rfl, (zx_bcons (by show (0 : Int) ≤ zk_xe w 2000153 ((zn_fd w 3) + 4294967296 * (zn_fd w 63) + 18446744073709551616 * (zn_fd w 105)) ∧ zk_xe w 2000153 ((zn_fd w 3) + 4294967296 * (zn_fd w 63) + 18446744073709551616 * (zn_fd w 105)) ≤ (1 : Int); omega) zx_bnil), (zx_cs1 (by show 0 ≤ (0 : Int) + ((-1) * (zn_fd w 116) + (1 * (zk_xe w 2000153 ((zn_fd w 3) + 4294967296 * (zn_fd w 63) + 18446744073709551616 * (zn_fd w 105))) + 0)); omega) zx_cs0), (zx_eF1 (by show 0 ≤ (0 : Int) + (1 * (zn_fd w 3) + (4294967296 * (zn_fd w 63) + (18446744073709551616 * (zn_fd w 105) + 0))); omega) (by show zk_xe w 2000153 ((0 : Int) + (1 * (zn_fd w 3) + (4294967296 * (zn_fd w 63) + (18446744073709551616 * (zn_fd w 105) + 0)))) = (0 : Int) + (1 * (zk_xe w 2000153 ((zn_fd w 3) + 4294967296 * (zn_fd w 63) + 18446744073709551616 * (zn_fd w 105))) + 0); rw [show (0 : Int) + (1 * (zn_fd w 3) + (4294967296 * (zn_fd w 63) + (18446744073709551616 * (zn_fd w 105) + 0))) = ((zn_fd w 3) + 4294967296 * (zn_fd w 63) + 18446744073709551616 * (zn_fd w 105)) by omega]; omega) zx_eF0), zx_k0⟩
def zx_D1031 : zx_L := zx_Lc [] 2 [(2000153, 0)] [(171, 3), (171, 63), (171, 105), (171, 116)] [((0, 0), [(0, 1, 0), (1, 0, 1), (4, 0, 4294967296), (5, 0, 18446744073709551616)])] [((0, 0), [(1, 1, 0)]), ((4294967276, 0), [(1, 0, 1)]), ((0, 0), [(4, 1, 0)]), ((4294967276, 0), [(4, 0, 1)]), ((0, 0), [(5, 1, 0)]), ((4294967276, 0), [(5, 0, 1)]), ((0, 0), [(1, 0, 1), (3, 1, 0)]), ((0, 0), [(2, 1, 0), (6, 0, 1)]), ((0, 0), [(6, 1, 0)])] [([], [], [], [207])]
theorem zx_D1031_ok : zx_Lok 64 zHT zPT zx_D1031 := by
  refine zx_Lc_ok (fun w hI hK ins hl hr he hg => ?_)
  obtain ⟨a0, a1, rfl⟩ := zx_i2 hl
  have e0 : (0 : Int) + (1 * a0 + ((-1) * a1 + ((-4294967296) * (zn_fd w 63) + ((-18446744073709551616) * (zn_fd w 105) + 0)))) = 0 := he _ List.mem_cons_self
  have g0 : 0 ≤ (0 : Int) + (1 * a1 + 0) := hg _ List.mem_cons_self
  have g1 : 0 ≤ (4294967276 : Int) + ((-1) * a1 + 0) := hg _ (List.mem_cons_of_mem _ List.mem_cons_self)
  have g2 : 0 ≤ (0 : Int) + (1 * (zn_fd w 63) + 0) := hg _ (List.mem_cons_of_mem _ (List.mem_cons_of_mem _ List.mem_cons_self))
  have g3 : 0 ≤ (4294967276 : Int) + ((-1) * (zn_fd w 63) + 0) := hg _ (List.mem_cons_of_mem _ (List.mem_cons_of_mem _ (List.mem_cons_of_mem _ List.mem_cons_self)))
  have g4 : 0 ≤ (0 : Int) + (1 * (zn_fd w 105) + 0) := hg _ (List.mem_cons_of_mem _ (List.mem_cons_of_mem _ (List.mem_cons_of_mem _ (List.mem_cons_of_mem _ List.mem_cons_self))))
  have g5 : 0 ≤ (4294967276 : Int) + ((-1) * (zn_fd w 105) + 0) := hg _ (List.mem_cons_of_mem _ (List.mem_cons_of_mem _ (List.mem_cons_of_mem _ (List.mem_cons_of_mem _ (List.mem_cons_of_mem _ List.mem_cons_self)))))
  have g6 : 0 ≤ (0 : Int) + ((-1) * a1 + (1 * (zn_fd w 3) + 0)) := hg _ (List.mem_cons_of_mem _ (List.mem_cons_of_mem _ (List.mem_cons_of_mem _ (List.mem_cons_of_mem _ (List.mem_cons_of_mem _ (List.mem_cons_of_mem _ List.mem_cons_self))))))
  have g7 : 0 ≤ (0 : Int) + (1 * (zk_xe w 2000153 a0) + ((-1) * (zn_fd w 116) + 0)) := hg _ (List.mem_cons_of_mem _ (List.mem_cons_of_mem _ (List.mem_cons_of_mem _ (List.mem_cons_of_mem _ (List.mem_cons_of_mem _ (List.mem_cons_of_mem _ (List.mem_cons_of_mem _ List.mem_cons_self)))))))
  have g8 : 0 ≤ (0 : Int) + (1 * (zn_fd w 116) + 0) := hg _ (List.mem_cons_of_mem _ (List.mem_cons_of_mem _ (List.mem_cons_of_mem _ (List.mem_cons_of_mem _ (List.mem_cons_of_mem _ (List.mem_cons_of_mem _ (List.mem_cons_of_mem _ (List.mem_cons_of_mem _ List.mem_cons_self))))))))
  have r0 : 0 ≤ a0 := hr _ List.mem_cons_self
  have hb := zc_153b (w := w) (j := a0) (N := a1) (u := (zn_fd w 63)) (o := (zn_fd w 105)) (by omega) (by omega) (by omega) (by omega) (by omega) (by omega) (by omega) 
  have h : (zn_fd w 116) = 0 ∨ zc_wn (zh_e w 177) (zn_l w 173) (zn_l w 174) (zh_e w 256) (zh_e w 257) (zh_e w 178 (zn_fd w 63)) (40000 * (zn_fd w 63)) (zn_fd w 3) (zn_fd w 105) := by
    by_cases c : (zn_fd w 116) = 0
    · exact Or.inl c
    · exact Or.inr (zc_wnm (by omega) ((zc_153 (w := w) (j := a0) (N := a1) (u := (zn_fd w 63)) (o := (zn_fd w 105)) (by omega) (by omega) (by omega) (by omega) (by omega) (by omega) (by omega) ).mp (by omega)))
  exact ⟨_, List.mem_cons_self, [], rfl, zx_bnil, zx_cs0, zx_eF0, (fun t ht => by rw [List.mem_singleton.mp ht, zPT_207]; exact h)⟩
def zx_D1036 : zx_L := zx_Lc [] 0 [] [(171, 116)] [((0, 0), [(0, 1, 0)])] [] [([], [], [], [207])]
theorem zx_D1036_ok : zx_Lok 64 zHT zPT zx_D1036 := by
  refine zx_Lc_ok (fun w hI hK ins hl hr he hg => ?_)
  have hi : ins = [] := List.length_eq_zero_iff.mp hl
  subst hi
  have e0 : (0 : Int) + (1 * (zn_fd w 116) + 0) = 0 := he _ List.mem_cons_self
  have h : (zn_fd w 116) = 0 := by omega
  exact ⟨_, List.mem_cons_self, [], rfl, zx_bnil, zx_cs0, zx_eF0, (fun t ht => by rw [List.mem_singleton.mp ht, zPT_207]; exact Or.inl h)⟩
theorem zwq_64 {x : Nat} {c : Int} (hx : x < 2 ^ 64) (h : (Int64.ofNat x).toInt = c) (hc : 0 ≤ c) : x = c.toNat := by
  have h1 : (Int64.ofNat x).toInt = Int.bmod (x : Int) (2 ^ 64) := Int64.toInt_ofNat
  rw [h1, Int.bmod_def] at h
  have e : (2 ^ 64 : Nat) = 18446744073709551616 := by decide
  have e2 : (x : Int) % ((2 ^ 64 : Nat) : Int) = (x : Int) := Int.emod_eq_of_lt (by omega) (by omega)
  rw [e2] at h
  split at h <;> omega
theorem zwq_202d : (List.range 125).all (fun n => (List.range 11).any (fun k => Nat.beq ((((if k < 8 then zn_KA else zn_KB).getD n 0).toNat >>> (8 * (k % 8))) % 128) 0) && (decide (0 ≤ zn_KA.getD n 0) && decide (0 ≤ zn_KB.getD n 0))) = true := by decide +kernel
theorem zwq_202 {w : zz_W} (h : ∀ i : Int, 0 ≤ i → i < 125 → zn_l w 173 i = zn_KA.getD i.toNat 0 ∧ zn_l w 174 i = zn_KB.getD i.toNat 0) : ∀ n, n < 125 → ∃ k, k ≤ 10 ∧ zn_sg w n k = 0 := by
  intro n hn
  have hd := List.all_eq_true.mp zwq_202d n (List.mem_range.mpr hn)
  obtain ⟨d1, d2⟩ := zz_and hd
  obtain ⟨d2, d3⟩ := zz_and d2
  obtain ⟨k, k1, k2⟩ := List.any_eq_true.mp d1
  have k1 := List.mem_range.mp k1
  have k2 := zz_beq k2
  obtain ⟨a1, a2⟩ := h (n : Int) (by omega) (by omega)
  rw [Int.toNat_natCast] at a1 a2
  have b1 := zwq_64 (zz_at_lt 64 (zz_g w 173).2.2.2 n) a1 (of_decide_eq_true d2)
  have b2 := zwq_64 (zz_at_lt 64 (zz_g w 174).2.2.2 n) a2 (of_decide_eq_true d3)
  refine ⟨k, by omega, ?_⟩
  unfold zn_sg
  by_cases c : k < 8
  · rw [if_pos c] at k2 ⊢
    rw [b1]
    exact k2
  · rw [if_neg c] at k2 ⊢
    rw [b2]
    exact k2
def zx_D1337 : zx_L := zx_Lc [200] 0 [] [(171, 3)] [] [((0, 125), [(0, 1, 0)])] [([], [], [], [202])]
theorem zx_D1337_ok : zx_Lok 64 zHT zPT zx_D1337 := by
  refine zx_Lc_ok (fun w hI hK ins hl hr he hg => ?_)
  have hi : ins = [] := List.length_eq_zero_iff.mp hl
  subst hi
  have g0 : 0 ≤ ((-125) : Int) + (1 * (zn_fd w 3) + 0) := hg _ List.mem_cons_self
  have h := hK 200 List.mem_cons_self
  rw [zPT_200] at h
  have hn : 125 ≤ zn_nm w := by
    have : zn_nm w = zn_fd w 3 := rfl
    omega
  have h3 : zPT 202 w := zwq_202 (fun i i0 i1 => h.2.2.2 i i0 (by omega) i1)
  exact ⟨_, List.mem_cons_self, [], rfl, zx_bnil, zx_cs0, zx_eF0, (fun t ht => by rw [List.mem_singleton.mp ht]; exact h3)⟩
/-- law 161: no slot of the table of names is taken, there are no names -/
theorem zn_none {f : Nat → Int} : ∀ {n : Nat}, (∀ j, j < n → f j = 0) → zn_c f n = 0
  | 0, _ => rfl
  | n + 1, h => by
    show zn_c f n + (if f n = 0 then 0 else 1) = 0
    rw [zn_none (fun j hj => h j (by omega)), if_pos (h n (by omega))]
def zx_N0 : zx_L := zx_Lc [] 1 [(2000102, 0)] [(171, 3)] [zl_sub (zl_sym 0) (zl_con 131072), zl_sub (zl_sym 1) (zl_con 1), zl_sym 2] [] [([], [], [], [23, 200])]
theorem zn_zero {w : zz_W} (h : zq_P (zq_T 2) w [131072]) (i : Nat) (hi : i < 131072) : zk_el w 175 (i : Int) = 0 := by
  obtain ⟨d, d1, d2⟩ := h i hi
  rcases List.mem_cons.mp d1 with e | d1
  · subst e
    have h1 : 0 ≤ (0 : Int) + (1 * (i : Int) + ((-1) * (131072 : Int) + 0)) := d2 _ List.mem_cons_self
    omega
  · rw [List.mem_singleton.mp d1] at d2
    have a : 0 ≤ (0 : Int) + (1 * zk_el w 175 (i : Int) + 0) := d2 _ List.mem_cons_self
    have b : 0 ≤ (0 : Int) + ((-1) * zk_el w 175 (i : Int) + 0) := d2 _ (List.mem_cons_of_mem _ List.mem_cons_self)
    omega
theorem zx_N0_ok : zx_Lok 64 zHT zPT zx_N0 := by
  refine zx_Lc_ok (fun w _ _ ins hl hr he hg => ?_)
  obtain ⟨P, rfl⟩ := zx_i1 hl
  have e0 := he _ List.mem_cons_self
  have e1 := he _ (List.mem_cons_of_mem _ List.mem_cons_self)
  have e2 := he _ (List.mem_cons_of_mem _ (List.mem_cons_of_mem _ List.mem_cons_self))
  rw [zl_sub_ev, zl_sym_ev, zl_con_ev] at e0 e1
  rw [zl_sym_ev] at e2
  have e0 : P - 131072 = 0 := e0
  have e1 : zk_xe w 2000102 P - 1 = 0 := e1
  have e2 : zn_nm w = 0 := e2
  have hP := zq_P_of (w := w) (t := 2) (ps := [131072]) (P := P) (by decide) rfl (fun p hp => by rw [List.mem_singleton.mp hp]; exact ⟨by decide, by decide⟩) (by show P = 131072 + 4294967296 * 0; omega) (by show zk_xe w 2000102 P = 1; omega)
  have hz := zn_zero hP
  refine zx_one (l := zx_vl w ([], 1, [(2000102, 0)], [(171, 3)], []) [P]) _ List.mem_cons_self rfl zx_cs0 zx_eF0 (fun t ht => ?_)
  rcases List.mem_cons.mp ht with h | h
  · subst h
    show zk_P zHT ([175], [(171, 3)], [[((0, 0), [(1, 0, 1), (2, 1, 0)])]]) w
    intro j hj
    have hj : j < 131072 := hj _ List.mem_cons_self
    refine ⟨_, List.mem_cons_self, fun c hc => ?_⟩
    rw [List.mem_singleton.mp hc]
    show 0 ≤ (0 : Int) + ((-1) * zk_el w 175 (j : Int) + (1 * zn_nm w + 0))
    rw [hz j hj, e2]
    decide
  · rw [List.mem_singleton.mp h, zPT_200, zn_none (f := zn_el w) (fun j hj => hz j (by rw [← zn_N_eq]; exact hj)), e2]
    exact ⟨by decide, fun i i0 i1 => by omega, fun i j i0 ij jn => by omega, fun i i0 i1 => by omega⟩
def zWL (j : Nat) : Option zx_W := match j with
  | 0 => some zx_W0
  | 1 => some zx_W1
  | 2 => some zx_W2
  | _ => none
theorem zh_Is0 : zh_Is 2000000 286 := fun _ _ _ _ h h0 h1 => zh_H0 h h0 h1
theorem zh_Is1 : zh_Is 2000001 287 := fun _ _ _ _ h h0 h1 => zh_H1 h h0 h1
def zLLe (j : Nat) : Option zx_L := match j with
  | 1110 => some (zx_D1110)
  | 1120 => some (zx_D1120)
  | 1121 => some (zx_D1121)
  | 1122 => some (zx_D1122)
  | 1123 => some (zx_D1123)
  | 1124 => some (zx_D1124)
  | 1125 => some (zx_D1125)
  | 1126 => some (zx_D1126)
  | 1127 => some (zx_D1127)
  | 1128 => some (zx_D1128)
  | 1129 => some (zx_D1129)
  | 1130 => some (zx_D1130)
  | 1131 => some (zx_D1131)
  | 1132 => some (zx_D1132)
  | 1133 => some (zx_D1133)
  | 1134 => some (zx_D1134)
  | 1135 => some (zx_D1135)
  | 1136 => some (zx_D1136)
  | 1137 => some (zx_D1137)
  | 1138 => some (zx_D1138)
  | 1139 => some (zx_D1139)
  | 1140 => some (zx_D1140)
  | 1141 => some (zx_D1141)
  | 1142 => some (zx_D1142)
  | 1143 => some (zx_D1143)
  | 1144 => some (zu_Lx 16 16 [176] [((0, 1), [(0, 0, 1), (1, 1, 0)]), ((1, 0), [(0, 1, 0), (1, 0, 1)]), ((0, 0), [(0, 0, 1), (2, 1, 0)]), ((0, 0), [(0, 1, 0), (2, 0, 1)]), ((0, 0), [(3, 0, 1)])])
  | 1150 => some (zx_D1150)
  | 1151 => some (zx_D1151)
  | 1152 => some (zx_D1152)
  | 1153 => some (zx_D1153)
  | 1154 => some (zx_D1154)
  | 1155 => some (zx_D1155)
  | 1156 => some (zx_D1156)
  | 1157 => some (zx_D1157)
  | 1158 => some (zx_D1158)
  | 1159 => some (zx_D1159)
  | 1160 => some (zx_D1160)
  | 1161 => some (zx_D1161)
  | 1162 => some (zx_D1162)
  | 1163 => some (zx_D1163)
  | 1164 => some (zx_D1164)
  | 1165 => some (zx_D1165)
  | 1166 => some (zx_D1166)
  | 1167 => some (zx_D1167)
  | 1168 => some (zx_D1168)
  | 1169 => some (zx_D1169)
  | 1170 => some (zx_D1170)
  | 1171 => some (zx_D1171)
  | 1172 => some (zx_D1172)
  | 1173 => some (zx_D1173)
  | 1174 => some (zx_D1174)
  | 1175 => some (zx_D1175)
  | 1176 => some (zx_D1176)
  | 1177 => some (zx_D1177)
  | 1178 => some (zx_D1178)
  | 1179 => some (zx_D1179)
  | 1180 => some (zx_D1180)
  | 1181 => some (zx_D1181)
  | 1182 => some (zx_D1182)
  | 1183 => some (zx_D1183)
  | 1184 => some (zx_D1184)
  | 1186 => some (zx_D1186)
  | 1187 => some (zx_D1187)
  | 1190 => some (zx_D1190)
  | 1191 => some (zx_D1191)
  | 1192 => some (zx_D1192)
  | 1193 => some (zx_D1193)
  | 1194 => some (zx_D1194)
  | 1195 => some (zx_D1195)
  | 1196 => some (zx_D1196)
  | 1197 => some (zx_D1197)
  | 1199 => some (zx_D1199)
  | 1200 => some (zx_D1200)
  | 1201 => some (zx_D1201)
  | 1203 => some (zx_D1203)
  | 1204 => some (zx_D1204)
  | 1205 => some (zx_D1205)
  | 1206 => some (zx_D1206)
  | 1207 => some (zx_D1207)
  | 1208 => some (zx_D1208)
  | 1209 => some (zx_D1209)
  | 1210 => some (zx_D1210)
  | 1211 => some (zx_D1211)
  | 1212 => some (zx_D1212)
  | 1213 => some (zx_D1213)
  | 1214 => some (zx_D1214)
  | 1215 => some (zx_D1215)
  | 1216 => some (zx_D1216)
  | 1217 => some (zx_D1217)
  | 1220 => some (zx_D1220)
  | 1221 => some (zx_D1221)
  | 1222 => some (zx_D1222)
  | 1223 => some (zx_D1223)
  | 1224 => some (zx_D1224)
  | 1225 => some (zx_D1225)
  | 1226 => some (zx_D1226)
  | 1227 => some (zx_D1227)
  | 1228 => some (zx_D1228)
  | 1229 => some (zx_D1229)
  | 1230 => some (zx_D1230)
  | 1231 => some (zx_D1231)
  | 1232 => some (zx_D1232)
  | 1233 => some (zx_D1233)
  | 1234 => some (zx_D1234)
  | 1235 => some (zx_D1235)
  | 1236 => some (zx_D1236)
  | 1237 => some (zx_D1237)
  | 1240 => some (zx_D1240)
  | 1249 => some (zx_D1249)
  | 1250 => some (zx_D1250)
  | 1251 => some (zx_D1251)
  | 1252 => some (zx_D1252)
  | 1253 => some (zx_D1253)
  | 1254 => some (zx_D1254)
  | 1255 => some (zx_D1255)
  | 1256 => some (zx_D1256)
  | 1258 => some (zx_D1258)
  | 1259 => some (zx_D1259)
  | 1260 => some (zx_D1260)
  | 1261 => some (zx_D1261)
  | 1262 => some (zx_D1262)
  | 1263 => some (zx_D1263)
  | 1264 => some (zx_D1264)
  | 1265 => some (zx_D1265)
  | 1269 => some (zx_D1269)
  | 1270 => some (zx_D1270)
  | 1271 => some (zx_D1271)
  | 1272 => some (zx_D1272)
  | 1274 => some (zx_D1274)
  | 1275 => some (zx_D1275)
  | 1276 => some (zx_D1276)
  | 1277 => some (zx_D1277)
  | 1278 => some (zx_D1278)
  | 1279 => some (zx_D1279)
  | 1280 => some (zx_D1280)
  | 1281 => some (zx_D1281)
  | 1282 => some (zx_D1282)
  | 1283 => some (zx_D1283)
  | 1284 => some (zx_D1284)
  | 1286 => some (zx_D1286)
  | 1287 => some (zx_D1287)
  | 1288 => some (zx_D1288)
  | 1289 => some (zx_D1289)
  | 1290 => some (zx_D1290)
  | 1291 => some (zx_D1291)
  | 1292 => some (zx_D1292)
  | 1293 => some (zx_D1293)
  | 1294 => some (zx_D1294)
  | 1295 => some (zx_D1295)
  | 1296 => some (zx_D1296)
  | 1297 => some (zx_D1297)
  | 1298 => some (zx_D1298)
  | 1299 => some (zx_D1299)
  | 1300 => some (zx_D1300)
  | 1301 => some (zx_D1301)
  | 1302 => some (zx_D1302)
  | 1303 => some (zx_D1303)
  | 1304 => some (zx_D1304)
  | 1305 => some (zx_D1305)
  | 1310 => some (zx_D1310)
  | 1313 => some (zx_D1313)
  | 1314 => some (zx_D1314)
  | 1315 => some (zx_D1315)
  | 1316 => some (zx_D1316)
  | 1317 => some (zx_D1317)
  | 1318 => some (zx_D1318)
  | 1319 => some (zx_D1319)
  | 1320 => some (zx_D1320)
  | 1330 => some (zx_D1330)
  | 1331 => some (zx_D1331)
  | 1332 => some (zx_D1332)
  | 1333 => some (zx_D1333)
  | 1334 => some (zx_D1334)
  | 1335 => some (zx_D1335)
  | 1336 => some (zx_D1336)
  | 1337 => some (zx_D1337)
  | _ => none
def zLLd (j : Nat) : Option zx_L := match j with
  | 780 => some (zx_D780)
  | 781 => some (zx_D781)
  | 782 => some (zx_D782)
  | 783 => some (zx_D783)
  | 784 => some (zx_D784)
  | 785 => some (zx_D785)
  | 786 => some (zx_D786)
  | 787 => some (zx_D787)
  | 788 => some (zx_D788)
  | 790 => some (zx_D790)
  | 791 => some (zx_D791)
  | 792 => some (zx_D792)
  | 793 => some (zx_D793)
  | 795 => some (zx_D795)
  | 796 => some (zx_C4)
  | 797 => some (zx_C3)
  | 798 => some (zx_C2)
  | 799 => some (zx_C1)
  | 800 => some (zx_D800)
  | 801 => some (zx_D801)
  | 802 => some (zx_D802)
  | 803 => some (zx_D803)
  | 810 => some (zx_D810)
  | 811 => some (zx_D811)
  | 812 => some (zx_D812)
  | 813 => some (zx_D813)
  | 814 => some (zx_D814)
  | 815 => some (zx_D815)
  | 820 => some (zx_D820)
  | 821 => some (zx_D821)
  | 822 => some (zx_D822)
  | 823 => some (zx_D823)
  | 824 => some (zx_D824)
  | 825 => some (zx_D825)
  | 826 => some (zx_D826)
  | 827 => some (zx_D827)
  | 828 => some (zx_D828)
  | 829 => some (zx_D829)
  | 830 => some (zx_D830)
  | 831 => some (zx_D831)
  | 832 => some (zx_D832)
  | 833 => some (zx_D833)
  | 834 => some (zx_D834)
  | 835 => some (zx_D835)
  | 836 => some (zx_D836)
  | 837 => some (zx_D837)
  | 838 => some (zx_D838)
  | 840 => some (zx_D840)
  | 841 => some (zx_D841)
  | 842 => some (zx_D842)
  | 843 => some (zx_D843)
  | 850 => some (zx_D850)
  | 851 => some (zx_D851)
  | 855 => some (zx_D855)
  | 856 => some (zx_D856)
  | 857 => some (zx_D857)
  | 858 => some (zx_D858)
  | 859 => some (zx_D859)
  | 860 => some (zx_D860)
  | 861 => some (zx_D861)
  | 862 => some (zx_D862)
  | 863 => some (zx_D863)
  | 868 => some (zx_D868)
  | 869 => some (zx_D869)
  | 870 => some (zx_D870)
  | 872 => some (zx_D872)
  | 873 => some (zx_D873)
  | 874 => some (zx_D874)
  | 875 => some (zx_D875)
  | 880 => some (zx_D880)
  | 881 => some (zx_D881)
  | 882 => some (zx_D882)
  | 900 => some (zx_D900)
  | 901 => some (zx_D901)
  | 902 => some (zx_D902)
  | 903 => some (zx_D903)
  | 904 => some (zx_D904)
  | 905 => some (zx_D905)
  | 906 => some (zx_D906)
  | 907 => some (zx_D907)
  | 908 => some (zx_D908)
  | 909 => some (zx_D909)
  | 910 => some (zx_D910)
  | 911 => some (zx_D911)
  | 912 => some (zx_D912)
  | 913 => some (zx_D913)
  | 914 => some (zx_D914)
  | 915 => some (zx_D915)
  | 916 => some (zx_D916)
  | 917 => some (zx_D917)
  | 918 => some (zx_D918)
  | 919 => some (zx_D919)
  | 920 => some (zx_D920)
  | 921 => some (zx_D921)
  | 922 => some (zx_D922)
  | 923 => some (zx_D923)
  | 924 => some (zx_D924)
  | 925 => some (zx_D925)
  | 926 => some (zx_D926)
  | 927 => some (zx_D927)
  | 928 => some (zx_D928)
  | 929 => some (zx_D929)
  | 930 => some (zx_D930)
  | 931 => some (zx_D931)
  | 932 => some (zx_D932)
  | 933 => some (zx_D933)
  | 934 => some (zx_D934)
  | 935 => some (zx_D935)
  | 936 => some (zx_D936)
  | 937 => some (zx_D937)
  | 938 => some (zx_D938)
  | 939 => some (zx_D939)
  | 940 => some (zx_D940)
  | 941 => some (zx_D941)
  | 942 => some (zx_D942)
  | 943 => some (zx_D943)
  | 944 => some (zx_D944)
  | 945 => some (zx_D945)
  | 946 => some (zx_D946)
  | 947 => some (zx_D947)
  | 948 => some (zx_D948)
  | 949 => some (zx_D949)
  | 950 => some (zx_D950)
  | 951 => some (zx_D951)
  | 952 => some (zx_D952)
  | 953 => some (zx_D953)
  | 954 => some (zx_D954)
  | 955 => some (zx_D955)
  | 956 => some (zx_D956)
  | 957 => some (zx_D957)
  | 980 => some (zx_D980)
  | 981 => some (zx_D981)
  | 988 => some (zx_D988)
  | 989 => some (zx_D989)
  | 992 => some (zx_D992)
  | 993 => some (zx_D993)
  | 994 => some (zx_D994)
  | 997 => some (zx_D997)
  | 1001 => some (zx_D1001)
  | 1002 => some (zx_D1002)
  | 1003 => some (zx_D1003)
  | 1004 => some (zx_D1004)
  | 1005 => some (zx_D1005)
  | 1006 => some (zx_D1006)
  | 1010 => some (zx_D1010)
  | 1011 => some (zx_D1011)
  | 1012 => some (zx_D1012)
  | 1013 => some (zx_D1013)
  | 1014 => some (zx_D1014)
  | 1020 => some (zx_D1020)
  | 1021 => some (zx_D1021)
  | 1022 => some (zx_D1022)
  | 1023 => some (zx_D1023)
  | 1024 => some (zx_D1024)
  | 1025 => some (zx_D1025)
  | 1030 => some (zx_D1030)
  | 1031 => some (zx_D1031)
  | 1032 => some (zx_D1032)
  | 1033 => some (zx_D1033)
  | 1034 => some (zx_D1034)
  | 1035 => some (zx_D1035)
  | 1036 => some (zx_D1036)
  | 1040 => some (zx_D1040)
  | 1043 => some (zx_D1043)
  | 1044 => some (zx_D1044)
  | 1045 => some (zx_D1045)
  | 1050 => some (zx_D1050)
  | 1051 => some (zx_D1051)
  | 1052 => some (zx_D1052)
  | 1053 => some (zx_D1053)
  | 1054 => some (zx_D1054)
  | 1060 => some (zx_D1060)
  | 1061 => some (zx_D1061)
  | 1062 => some (zx_D1062)
  | 1070 => some (zx_D1070)
  | 1071 => some (zx_D1071)
  | 1080 => some (zx_D1080)
  | 1081 => some (zx_D1081)
  | 1082 => some (zx_D1082)
  | 1083 => some (zx_D1083)
  | 1084 => some (zx_D1084)
  | 1085 => some (zx_D1085)
  | 1086 => some (zx_D1086)
  | 1087 => some (zx_D1087)
  | 1088 => some (zx_D1088)
  | 1089 => some (zx_D1089)
  | 1090 => some (zx_D1090)
  | 1091 => some (zx_D1091)
  | 1092 => some (zx_D1092)
  | 1093 => some (zx_D1093)
  | 1094 => some (zx_D1094)
  | 1095 => some (zx_D1095)
  | 1096 => some (zx_D1096)
  | 1097 => some (zx_D1097)
  | 1098 => some (zx_D1098)
  | 1100 => some (zx_D1100)
  | 1101 => some (zx_D1101)
  | 1102 => some (zx_D1102)
  | 1103 => some (zx_D1103)
  | 1104 => some (zx_D1104)
  | 1105 => some (zx_D1105)
  | 1106 => some (zx_D1106)
  | 1107 => some (zx_D1107)
  | 1108 => some (zx_D1108)
  | 1109 => some (zx_D1109)
  | _ => zLLe j
def zLLc (j : Nat) : Option zx_L := match j with
  | 530 => some (zx_D530)
  | 531 => some (zx_D531)
  | 532 => some (zx_D532)
  | 533 => some (zx_D533)
  | 534 => some (zx_D534)
  | 535 => some (zx_D535)
  | 536 => some (zx_D536)
  | 537 => some (zx_D537)
  | 538 => some (zx_D538)
  | 539 => some (zx_D539)
  | 540 => some (zx_D540)
  | 541 => some (zx_D541)
  | 542 => some (zx_D542)
  | 543 => some (zx_D543)
  | 544 => some (zx_D544)
  | 545 => some (zx_D545)
  | 546 => some (zx_D546)
  | 547 => some (zx_D547)
  | 548 => some (zx_D548)
  | 549 => some (zx_D549)
  | 550 => some (zx_D550)
  | 551 => some (zx_D551)
  | 552 => some (zx_D552)
  | 553 => some (zx_D553)
  | 554 => some (zx_D554)
  | 555 => some (zx_D555)
  | 556 => some (zx_D556)
  | 557 => some (zx_D557)
  | 558 => some (zx_D558)
  | 559 => some (zx_D559)
  | 560 => some (zx_D560)
  | 561 => some (zx_D561)
  | 562 => some (zx_D562)
  | 563 => some (zx_D563)
  | 564 => some (zx_D564)
  | 565 => some (zx_D565)
  | 566 => some (zx_D566)
  | 575 => some (zx_D575)
  | 576 => some (zx_D576)
  | 577 => some (zx_D577)
  | 578 => some (zx_D578)
  | 579 => some (zx_D579)
  | 580 => some (zx_D580)
  | 581 => some (zx_D581)
  | 582 => some (zx_D582)
  | 583 => some (zx_D583)
  | 584 => some (zx_D584)
  | 585 => some (zx_D585)
  | 586 => some (zx_D586)
  | 587 => some (zx_D587)
  | 588 => some (zx_D588)
  | 589 => some (zx_D589)
  | 590 => some (zx_D590)
  | 591 => some (zx_D591)
  | 592 => some (zx_D592)
  | 593 => some (zx_D593)
  | 594 => some (zx_D594)
  | 595 => some (zx_D595)
  | 596 => some (zx_D596)
  | 597 => some (zx_D597)
  | 598 => some (zx_D598)
  | 599 => some (zx_D599)
  | 600 => some (zx_D600)
  | 601 => some (zx_D601)
  | 602 => some (zx_D602)
  | 603 => some (zx_D603)
  | 604 => some (zx_D604)
  | 605 => some (zx_D605)
  | 606 => some (zx_D606)
  | 607 => some (zx_D607)
  | 608 => some (zx_D608)
  | 609 => some (zx_D609)
  | 610 => some (zx_D610)
  | 611 => some (zx_D611)
  | 612 => some (zx_D612)
  | 613 => some (zx_D613)
  | 614 => some (zx_D614)
  | 615 => some (zx_D615)
  | 616 => some (zx_D616)
  | 617 => some (zx_D617)
  | 618 => some (zx_D618)
  | 619 => some (zx_D619)
  | 620 => some (zx_D620)
  | 621 => some (zx_D621)
  | 622 => some (zx_D622)
  | 623 => some (zx_D623)
  | 624 => some (zx_D624)
  | 625 => some (zx_D625)
  | 626 => some (zx_D626)
  | 627 => some (zx_D627)
  | 628 => some (zx_D628)
  | 629 => some (zx_D629)
  | 630 => some (zx_D630)
  | 631 => some (zx_D631)
  | 632 => some (zx_D632)
  | 633 => some (zx_D633)
  | 634 => some (zx_D634)
  | 635 => some (zx_D635)
  | 636 => some (zx_D636)
  | 637 => some (zx_D637)
  | 638 => some (zx_D638)
  | 639 => some (zx_D639)
  | 640 => some (zx_D640)
  | 641 => some (zx_D641)
  | 642 => some (zx_D642)
  | 643 => some (zx_D643)
  | 644 => some (zx_D644)
  | 645 => some (zx_D645)
  | 646 => some (zx_D646)
  | 647 => some (zx_D647)
  | 648 => some (zx_D648)
  | 649 => some (zx_D649)
  | 650 => some (zx_D650)
  | 651 => some (zx_D651)
  | 652 => some (zx_D652)
  | 653 => some (zx_D653)
  | 654 => some (zx_D654)
  | 655 => some (zx_D655)
  | 656 => some (zx_D656)
  | 657 => some (zx_D657)
  | 658 => some (zx_D658)
  | 659 => some (zx_D659)
  | 660 => some (zx_D660)
  | 661 => some (zx_D661)
  | 662 => some (zx_D662)
  | 663 => some (zx_D663)
  | 664 => some (zx_D664)
  | 665 => some (zx_D665)
  | 666 => some (zx_D666)
  | 667 => some (zx_D667)
  | 668 => some (zx_D668)
  | 669 => some (zx_D669)
  | 670 => some (zx_D670)
  | 671 => some (zx_D671)
  | 680 => some (zx_D680)
  | 681 => some (zx_D681)
  | 682 => some (zx_D682)
  | 683 => some (zx_D683)
  | 684 => some (zx_D684)
  | 685 => some (zx_D685)
  | 686 => some (zx_D686)
  | 687 => some (zx_D687)
  | 688 => some (zx_D688)
  | 689 => some (zx_D689)
  | 690 => some (zx_D690)
  | 691 => some (zx_D691)
  | 692 => some (zx_D692)
  | 693 => some (zx_D693)
  | 694 => some (zx_D694)
  | 695 => some (zx_D695)
  | 696 => some (zx_D696)
  | 697 => some (zx_D697)
  | 698 => some (zu_Ln 97)
  | 699 => some (zu_Li 98 [((0, 0), [(0, 1, 0)])])
  | 700 => some (zx_D700)
  | 701 => some (zx_D701)
  | 702 => some (zx_D702)
  | 703 => some (zx_D703)
  | 704 => some (zx_D704)
  | 705 => some (zx_D705)
  | 706 => some (zx_D706)
  | 707 => some (zx_D707)
  | 708 => some (zx_D708)
  | 709 => some (zx_D709)
  | 710 => some (zx_D710)
  | 711 => some (zx_D711)
  | 712 => some (zx_D712)
  | 713 => some (zx_D713)
  | 714 => some (zx_D714)
  | 715 => some (zx_D715)
  | 716 => some (zx_D716)
  | 717 => some (zx_D717)
  | 718 => some (zx_D718)
  | 719 => some (zx_D719)
  | 720 => some (zx_D720)
  | 721 => some (zx_D721)
  | 722 => some (zx_D722)
  | 723 => some (zx_D723)
  | 724 => some (zx_D724)
  | 725 => some (zx_D725)
  | 726 => some (zx_D726)
  | 727 => some (zx_D727)
  | 728 => some (zx_D728)
  | 729 => some (zx_D729)
  | 730 => some (zx_D730)
  | 731 => some (zx_D731)
  | 732 => some (zx_D732)
  | 735 => some (zu_Ln 99)
  | 736 => some (zu_Li 99 [((0, 0), [(0, 0, 1)])])
  | 740 => some (zx_D740)
  | 741 => some (zx_D741)
  | 742 => some (zx_D742)
  | 743 => some (zx_D743)
  | 744 => some (zx_D744)
  | 745 => some (zx_D745)
  | 746 => some (zx_D746)
  | 747 => some (zx_D747)
  | 748 => some (zx_D748)
  | 749 => some (zx_D749)
  | 750 => some (zx_D750)
  | 751 => some (zx_D751)
  | 752 => some (zx_D752)
  | 755 => some (zx_D755)
  | 756 => some (zx_D756)
  | 757 => some (zx_D757)
  | 758 => some (zx_D758)
  | 759 => some (zx_D759)
  | 760 => some (zx_D760)
  | 761 => some (zx_D761)
  | 762 => some (zx_D762)
  | _ => zLLd j
def zLLb (j : Nat) : Option zx_L := match j with
  | 300 => some (zu_Ln 61)
  | 301 => some (zu_Lv 61 60 [((0, 8192), [(1, 1, 0)]), ((0, 0), [(2, 1, 0), (3, 0, 1)]), ((0, 0), [(2, 0, 1), (3, 1, 0)]), ((0, 0), [(0, 0, 1), (4, 1, 0)]), ((0, 0), [(0, 1, 0), (4, 0, 1)])])
  | 302 => some (zu_Lv 60 61 [((0, 0), [(1, 1, 0), (2, 0, 1)]), ((0, 0), [(0, 0, 1), (3, 1, 0)]), ((0, 0), [(0, 1, 0), (3, 0, 1)])])
  | 303 => some (zu_Ln 66)
  | 304 => some (zu_Li 66 [((0, 0), [(0, 0, 1)])])
  | 305 => some (zu_Lx 66 66 [34, 34, 34] [((0, 1), [(0, 0, 1), (2, 1, 0)]), ((1, 0), [(0, 1, 0), (2, 0, 1)]), ((0, 0), [(1, 1, 0), (3, 0, 1)]), ((0, 0), [(1, 0, 1), (3, 1, 0)]), ((0, 0), [(0, 0, 8), (4, 1, 0)]), ((0, 0), [(0, 8, 0), (4, 0, 1)]), ((0, 1), [(0, 0, 8), (5, 1, 0)]), ((1, 0), [(0, 8, 0), (5, 0, 1)]), ((0, 2), [(0, 0, 8), (6, 1, 0)]), ((2, 0), [(0, 8, 0), (6, 0, 1)]), ((0, 0), [(1, 1, 0), (7, 0, 1)]), ((0, 0), [(1, 1, 0), (8, 0, 1)]), ((0, 0), [(1, 1, 0), (9, 0, 1)])])
  | 306 => some (zu_Lv 66 66 [((0, 0), [(0, 1, 0), (2, 0, 1)]), ((0, 0), [(1, 1, 0), (3, 0, 1)]), ((0, 0), [(1, 0, 1), (3, 1, 0)])])
  | 307 => some (zu_Ln 67)
  | 308 => some (zu_Li 67 [((0, 0), [(0, 0, 1)])])
  | 309 => some (zu_Lx 67 67 [35, 35] [((0, 1), [(0, 0, 1), (2, 1, 0)]), ((1, 0), [(0, 1, 0), (2, 0, 1)]), ((0, 0), [(1, 1, 0), (3, 0, 1)]), ((0, 0), [(1, 0, 1), (3, 1, 0)]), ((0, 0), [(0, 0, 3), (4, 1, 0)]), ((0, 0), [(0, 3, 0), (4, 0, 1)]), ((0, 1), [(0, 0, 3), (5, 1, 0)]), ((1, 0), [(0, 3, 0), (5, 0, 1)]), ((0, 0), [(1, 1, 0), (6, 0, 1)]), ((0, 0), [(1, 1, 0), (7, 0, 1)])])
  | 310 => some (zu_Ln 65)
  | 311 => some (zu_Lv 65 65 [((0, 0), [(0, 0, 1), (3, 1, 0)]), ((0, 0), [(1, 1, 0), (4, 0, 1)]), ((0, 0), [(2, 0, 1), (5, 1, 0)])])
  | 312 => some (zu_Li 65 [((0, 0), [(1, 0, 1)])])
  | 313 => some (zu_Lx 65 65 [67, 67] [((0, 0), [(0, 1, 0), (3, 0, 1)]), ((0, 0), [(0, 0, 1), (3, 1, 0)]), ((0, 0), [(2, 1, 0), (5, 0, 1)]), ((0, 0), [(2, 0, 1), (5, 1, 0)]), ((0, 1), [(1, 0, 1), (4, 1, 0)]), ((1, 0), [(1, 1, 0), (4, 0, 1)]), ((0, 1), [(1, 0, 6), (6, 1, 0)]), ((1, 0), [(1, 6, 0), (6, 0, 1)]), ((0, 3), [(1, 0, 6), (7, 1, 0)]), ((3, 0), [(1, 6, 0), (7, 0, 1)]), ((0, 0), [(2, 1, 0), (8, 0, 1), (9, 0, 1)])])
  | 320 => some (zu_Ln 63)
  | 321 => some (zu_Li 63 [((0, 0), [(0, 0, 1)])])
  | 322 => some (zu_Lv 63 63 [((0, 0), [(0, 1, 0), (2, 0, 1)]), ((0, 0), [(0, 0, 1), (2, 1, 0)]), ((0, 3), [(1, 1, 0)]), ((3, 0), [(1, 0, 1)])])
  | 323 => some (zu_Lv 63 63 [((0, 0), [(0, 1, 0), (2, 0, 1)]), ((0, 0), [(1, 1, 0), (3, 0, 1)]), ((0, 0), [(1, 0, 1), (3, 1, 0)])])
  | 330 => some (zx_D330)
  | 340 => some (zu_Li 69 [((0, 0), [(0, 0, 1)])])
  | 341 => some (zu_Lx 69 69 [19] [((0, 1), [(0, 0, 1), (2, 1, 0)]), ((1, 0), [(0, 1, 0), (2, 0, 1)]), ((0, 0), [(1, 0, 1), (3, 1, 0)]), ((0, 0), [(0, 0, 3), (4, 1, 0)]), ((0, 0), [(0, 3, 0), (4, 0, 1)]), ((0, 3), [(5, 1, 0)])])
  | 342 => some (zu_Lx 69 69 [19, 19] [((0, 1), [(0, 0, 1), (2, 1, 0)]), ((1, 0), [(0, 1, 0), (2, 0, 1)]), ((0, 0), [(1, 0, 1), (3, 1, 0)]), ((0, 0), [(0, 0, 3), (4, 1, 0)]), ((0, 0), [(0, 3, 0), (4, 0, 1)]), ((0, 2), [(0, 0, 3), (5, 1, 0)]), ((2, 0), [(0, 3, 0), (5, 0, 1)]), ((0, 2), [(6, 1, 0)]), ((2, 0), [(6, 0, 1)]), ((0, 0), [(7, 1, 0)]), ((0, 1), [(3, 1, 0), (7, 0, 1)])])
  | 343 => some (zu_Lx 69 68 [19] [((0, 0), [(0, 0, 1), (2, 1, 0)]), ((0, 0), [(0, 1, 0), (2, 0, 1)]), ((0, 0), [(1, 0, 1), (3, 1, 0)]), ((0, 0), [(1, 1, 0), (3, 0, 1)]), ((0, 0), [(0, 0, 3), (4, 1, 0)]), ((0, 0), [(0, 3, 0), (4, 0, 1)]), ((1, 0), [(5, 0, 1)])])
  | 344 => some (zu_Ln 68)
  | 345 => some (zu_Lv 69 69 [((0, 0), [(0, 1, 0), (2, 0, 1)]), ((0, 0), [(0, 0, 1), (2, 1, 0)]), ((0, 0), [(1, 0, 1), (3, 1, 0)])])
  | 346 => some (zu_Ln 62)
  | 347 => some (zu_Li 62 [((0, 0), [(0, 0, 1)])])
  | 348 => some (zu_Lv 62 62 [((0, 0), [(0, 1, 0), (1, 0, 1)])])
  | 349 => some (zu_Lx 62 62 [7, 9] [((0, 1), [(0, 0, 1), (1, 1, 0)]), ((1, 0), [(0, 1, 0), (1, 0, 1)]), ((0, 0), [(0, 0, 1), (2, 1, 0)]), ((0, 0), [(0, 1, 0), (2, 0, 1)]), ((0, 0), [(0, 0, 1), (3, 1, 0)]), ((0, 0), [(0, 1, 0), (3, 0, 1)]), ((511, 0), [(4, 0, 1)]), ((0, 0), [(5, 1, 0)]), ((750, 0), [(5, 0, 1)])])
  | 350 => some (zu_Li 72 [((0, 0), [(0, 0, 1)])])
  | 351 => some (zu_Lx 72 72 [20] [((0, 1), [(0, 0, 1), (2, 1, 0)]), ((1, 0), [(0, 1, 0), (2, 0, 1)]), ((0, 0), [(1, 1, 0), (3, 0, 1)]), ((0, 0), [(1, 0, 1), (3, 1, 0)]), ((0, 0), [(0, 0, 6), (4, 1, 0)]), ((0, 0), [(0, 6, 0), (4, 0, 1)]), ((0, 1), [(1, 1, 0), (5, 0, 1)])])
  | 352 => some (zu_Ln 72)
  | 360 => some (zu_Li 74 [((0, 0), [(0, 0, 1)])])
  | 361 => some (zu_Ln 73)
  | 362 => some (zu_Lx 74 74 [41, 42] [((0, 1), [(0, 0, 1), (1, 1, 0)]), ((1, 0), [(0, 1, 0), (1, 0, 1)]), ((0, 0), [(0, 0, 1), (2, 1, 0)]), ((0, 0), [(0, 1, 0), (2, 0, 1)]), ((0, 0), [(0, 0, 1), (3, 1, 0)]), ((0, 0), [(0, 1, 0), (3, 0, 1)]), ((0, 2), [(4, 1, 0)]), ((2, 0), [(4, 0, 1)]), ((1, 0), [(5, 1, 0)]), ((3999, 0), [(5, 0, 1)])])
  | 363 => some (zu_Lx 74 74 [41, 42] [((0, 1), [(0, 0, 1), (1, 1, 0)]), ((1, 0), [(0, 1, 0), (1, 0, 1)]), ((0, 0), [(0, 0, 1), (2, 1, 0)]), ((0, 0), [(0, 1, 0), (2, 0, 1)]), ((0, 0), [(0, 0, 1), (3, 1, 0)]), ((0, 0), [(0, 1, 0), (3, 0, 1)]), ((0, 3), [(4, 1, 0)]), ((3, 0), [(4, 0, 1)])])
  | 364 => some (zu_Lx 74 74 [41, 42] [((0, 1), [(0, 0, 1), (1, 1, 0)]), ((1, 0), [(0, 1, 0), (1, 0, 1)]), ((0, 0), [(0, 0, 1), (2, 1, 0)]), ((0, 0), [(0, 1, 0), (2, 0, 1)]), ((0, 0), [(0, 0, 1), (3, 1, 0)]), ((0, 0), [(0, 1, 0), (3, 0, 1)]), ((0, 4), [(4, 1, 0)]), ((5, 0), [(4, 0, 1)]), ((0, 0), [(5, 1, 0)]), ((9, 0), [(5, 0, 1)])])
  | 365 => some (zu_Lx 74 74 [41, 42] [((0, 1), [(0, 0, 1), (1, 1, 0)]), ((1, 0), [(0, 1, 0), (1, 0, 1)]), ((0, 0), [(0, 0, 1), (2, 1, 0)]), ((0, 0), [(0, 1, 0), (2, 0, 1)]), ((0, 0), [(0, 0, 1), (3, 1, 0)]), ((0, 0), [(0, 1, 0), (3, 0, 1)]), ((0, 6), [(4, 1, 0)])])
  | 366 => some (zu_Lx 74 73 [41] [((0, 0), [(0, 0, 1), (1, 1, 0)]), ((0, 0), [(0, 1, 0), (1, 0, 1)]), ((0, 0), [(0, 0, 1), (2, 1, 0)]), ((0, 0), [(0, 1, 0), (2, 0, 1)]), ((1, 0), [(3, 0, 1)])])
  | 367 => some (zu_Li 75 [((0, 0), [(0, 0, 1)])])
  | 368 => some (zu_Ln 75)
  | 369 => some (zu_Lx 73 75 [41, 42] [((0, 0), [(2, 1, 0), (3, 0, 1)]), ((0, 0), [(2, 0, 1), (3, 1, 0)]), ((0, 1), [(1, 1, 0), (2, 0, 1)]), ((1, 0), [(1, 0, 1), (2, 1, 0)]), ((0, 2), [(4, 1, 0)]), ((2, 0), [(4, 0, 1)])])
  | 370 => some (zu_Lx 73 75 [41, 42] [((0, 0), [(2, 1, 0), (3, 0, 1)]), ((0, 0), [(2, 0, 1), (3, 1, 0)]), ((0, 1), [(1, 1, 0), (2, 0, 1)]), ((1, 0), [(1, 0, 1), (2, 1, 0)]), ((0, 4), [(4, 1, 0)]), ((5, 0), [(4, 0, 1)]), ((0, 0), [(5, 1, 0)]), ((9, 0), [(5, 0, 1)])])
  | 371 => some (zu_Lv 75 75 [((0, 0), [(0, 1, 0), (1, 0, 1)]), ((0, 0), [(0, 0, 1), (1, 1, 0)])])
  | 380 => some (zx_D380)
  | 381 => some (zx_D381)
  | 382 => some (zx_D382)
  | 383 => some (zx_D383)
  | 384 => some (zx_D384)
  | 385 => some (zx_D385)
  | 386 => some (zx_D386)
  | 387 => some (zx_D387)
  | 390 => some (zx_D390)
  | 391 => some (zx_D391)
  | 392 => some (zx_D392)
  | 393 => some (zx_D393)
  | 395 => some (zx_D395)
  | 400 => some (zx_D400)
  | 401 => some (zx_D401)
  | 402 => some (zx_D402)
  | 403 => some (zx_D403)
  | 404 => some (zx_D404)
  | 405 => some (zx_D405)
  | 406 => some (zx_D406)
  | 407 => some (zx_D407)
  | 410 => some (zu_Ln 76)
  | 411 => some (zu_Li 76 [((0, 1), [(1, 1, 0)])])
  | 412 => some (zu_Li 76 [((0, 0), [(0, 0, 1)])])
  | 413 => some (zu_Lx 76 76 [62, 62] [((0, 1), [(0, 0, 1), (2, 1, 0)]), ((1, 0), [(0, 1, 0), (2, 0, 1)]), ((0, 0), [(1, 1, 0), (3, 0, 1)]), ((0, 0), [(1, 0, 1), (3, 1, 0)]), ((0, 0), [(0, 0, 6), (4, 1, 0)]), ((0, 0), [(0, 6, 0), (4, 0, 1)]), ((0, 2), [(0, 0, 6), (5, 1, 0)]), ((2, 0), [(0, 6, 0), (5, 0, 1)]), ((0, 1), [(6, 1, 0)]), ((7, 0), [(6, 0, 1)]), ((0, 0), [(7, 1, 0)]), ((400, 0), [(7, 0, 1)])])
  | 414 => some (zu_Ln 77)
  | 415 => some (zu_Li 77 [((0, 1), [(1, 1, 0)])])
  | 416 => some (zu_Li 77 [((0, 0), [(0, 0, 1)])])
  | 417 => some (zu_Lx 77 77 [20] [((0, 1), [(0, 0, 1), (2, 1, 0)]), ((1, 0), [(0, 1, 0), (2, 0, 1)]), ((0, 0), [(1, 1, 0), (3, 0, 1)]), ((0, 0), [(1, 0, 1), (3, 1, 0)]), ((0, 3), [(0, 0, 6), (4, 1, 0)]), ((3, 0), [(0, 6, 0), (4, 0, 1)]), ((0, 0), [(5, 1, 0)])])
  | 418 => some (zu_Lx 77 77 [20] [((0, 1), [(0, 0, 1), (2, 1, 0)]), ((1, 0), [(0, 1, 0), (2, 0, 1)]), ((0, 0), [(1, 1, 0), (3, 0, 1)]), ((0, 0), [(1, 0, 1), (3, 1, 0)]), ((0, 5), [(0, 0, 6), (4, 1, 0)]), ((5, 0), [(0, 6, 0), (4, 0, 1)]), ((0, 0), [(1, 4294967296, 0), (5, 1, 0)]), ((119, 0), [(1, 4294967296, 0), (5, 0, 1)])])
  | 420 => some (zu_Ln 78)
  | 421 => some (zu_Li 78 [((0, 1), [(1, 1, 0)])])
  | 422 => some (zu_Li 78 [((0, 0), [(0, 0, 1)])])
  | 423 => some (zu_Lx 78 78 [7, 8] [((0, 1), [(0, 0, 1), (3, 1, 0)]), ((1, 0), [(0, 1, 0), (3, 0, 1)]), ((0, 0), [(1, 1, 0), (4, 0, 1)]), ((0, 0), [(1, 0, 1), (4, 1, 0)]), ((0, 0), [(2, 1, 0), (5, 0, 1)]), ((0, 0), [(2, 0, 1), (5, 1, 0)]), ((0, 0), [(0, 0, 1), (6, 1, 0)]), ((0, 0), [(0, 1, 0), (6, 0, 1)]), ((0, 0), [(0, 0, 1), (7, 1, 0)]), ((0, 0), [(0, 1, 0), (7, 0, 1)]), ((59, 0), [(8, 0, 1)]), ((0, 1), [(2, 1, 0), (8, 0, 1)]), ((0, 0), [(9, 1, 0)]), ((60, 0), [(9, 0, 1)])])
  | 424 => some (zu_Lv 78 78 [((0, 0), [(0, 1, 0), (3, 0, 1)]), ((0, 0), [(1, 1, 0), (4, 0, 1)]), ((0, 0), [(1, 0, 1), (4, 1, 0)]), ((0, 0), [(2, 1, 0), (5, 0, 1)]), ((0, 0), [(2, 0, 1), (5, 1, 0)])])
  | 425 => some (zu_Ln 79)
  | 426 => some (zu_Li 79 [((0, 1), [(1, 1, 0)])])
  | 427 => some (zu_Li 79 [((0, 1), [(0, 1, 0), (2, 0, 1)])])
  | 428 => some (zu_Lv 77 77 [((0, 0), [(0, 1, 0), (2, 0, 1)]), ((0, 0), [(1, 1, 0), (3, 0, 1)]), ((0, 0), [(1, 0, 1), (3, 1, 0)])])
  | 430 => some (zx_D430)
  | 431 => some (zx_D431)
  | 432 => some (zx_D432)
  | 433 => some (zx_D433)
  | 434 => some (zx_D434)
  | 435 => some (zx_D435)
  | 436 => some (zx_D436)
  | 441 => some (zu_Ln 1065)
  | 442 => some (zu_Ln 2065)
  | 443 => some (zu_Ln 3065)
  | 444 => some (zu_Ln 4065)
  | 445 => some (zu_Ln 5065)
  | 446 => some (zu_Ln 80)
  | 450 => some (zu_Ln 84)
  | 451 => some (zu_Li 84 [((0, 0), [(0, 0, 1)])])
  | 452 => some (zu_Li 84 [((0, 1), [(1, 1, 0)])])
  | 453 => some (zu_Lv 84 84 [((0, 0), [(0, 1, 0), (3, 0, 1)]), ((0, 0), [(0, 0, 1), (3, 1, 0)]), ((0, 0), [(1, 1, 0), (4, 0, 1)]), ((0, 0), [(1, 0, 1), (4, 1, 0)]), ((0, 750), [(2, 1, 0)]), ((750, 0), [(2, 0, 1)])])
  | 454 => some (zu_Lx 84 84 [21, 21] [((0, 0), [(0, 1, 0), (3, 0, 1)]), ((0, 0), [(0, 0, 1), (3, 1, 0)]), ((0, 0), [(1, 1, 0), (4, 0, 1)]), ((0, 0), [(1, 0, 1), (4, 1, 0)]), ((0, 750), [(5, 1, 0)]), ((750, 0), [(5, 0, 1)]), ((0, 1), [(2, 0, 3), (6, 1, 0)]), ((1, 0), [(2, 3, 0), (6, 0, 1)]), ((0, 2), [(2, 0, 3), (7, 1, 0)]), ((2, 0), [(2, 3, 0), (7, 0, 1)]), ((403, 0), [(8, 0, 1)]), ((0, 0), [(9, 1, 0)]), ((404, 0), [(8, 0, 1), (9, 0, 1)])])
  | 455 => some (zu_Lv 84 84 [((0, 0), [(0, 1, 0), (3, 0, 1)]), ((0, 0), [(1, 1, 0), (4, 0, 1)]), ((0, 0), [(1, 0, 1), (4, 1, 0)]), ((0, 0), [(2, 1, 0), (5, 0, 1)]), ((0, 0), [(2, 0, 1), (5, 1, 0)])])
  | 456 => some (zu_Lx 84 84 [9] [((0, 1), [(0, 0, 1), (3, 1, 0)]), ((1, 0), [(0, 1, 0), (3, 0, 1)]), ((0, 0), [(1, 1, 0), (4, 0, 1)]), ((0, 0), [(1, 0, 1), (4, 1, 0)]), ((0, 0), [(2, 1, 0), (5, 0, 1)]), ((0, 0), [(2, 0, 1), (5, 1, 0)]), ((0, 0), [(0, 0, 1), (6, 1, 0)]), ((0, 0), [(0, 1, 0), (6, 0, 1)]), ((0, 0), [(7, 0, 1)])])
  | 460 => some (zu_Ln 82)
  | 461 => some (zu_Li 82 [((0, 0), [(0, 0, 1)])])
  | 462 => some (zu_Li 82 [((0, 1), [(1, 1, 0)])])
  | 464 => some (zu_Lx 82 82 [20, 20] [((0, 1), [(0, 0, 1), (2, 1, 0)]), ((1, 0), [(0, 1, 0), (2, 0, 1)]), ((0, 0), [(1, 1, 0), (3, 0, 1)]), ((0, 0), [(1, 0, 1), (3, 1, 0)]), ((0, 3), [(0, 0, 6), (4, 1, 0)]), ((3, 0), [(0, 6, 0), (4, 0, 1)]), ((0, 4), [(0, 0, 6), (5, 1, 0)]), ((4, 0), [(0, 6, 0), (5, 0, 1)]), ((403, 0), [(6, 0, 1)]), ((0, 0), [(7, 1, 0)]), ((404, 0), [(6, 0, 1), (7, 0, 1)])])
  | 470 => some (zu_Li 87 [((0, 0), [(0, 0, 1)])])
  | 471 => some (zu_Li 87 [((0, 1), [(1, 1, 0)])])
  | 472 => some (zu_Lx 87 87 [8] [((0, 1), [(0, 0, 1), (2, 1, 0)]), ((1, 0), [(0, 1, 0), (2, 0, 1)]), ((0, 0), [(1, 1, 0), (3, 0, 1)]), ((0, 0), [(1, 0, 1), (3, 1, 0)]), ((0, 0), [(0, 0, 1), (4, 1, 0)]), ((0, 0), [(0, 1, 0), (4, 0, 1)]), ((0, 0), [(5, 0, 1)])])
  | 473 => some (zu_Lv 87 87 [((0, 0), [(0, 1, 0), (2, 0, 1)]), ((0, 0), [(1, 1, 0), (3, 0, 1)]), ((0, 0), [(1, 0, 1), (3, 1, 0)])])
  | 474 => some (zu_Lv 87 86 [((0, 0), [(0, 1, 0), (2, 0, 1)]), ((0, 0), [(0, 0, 1), (2, 1, 0)]), ((0, 0), [(1, 1, 0), (3, 0, 1)]), ((0, 0), [(1, 0, 1), (3, 1, 0)])])
  | 475 => some (zu_Lv 86 86 [((0, 0), [(0, 1, 0), (4, 0, 1)]), ((0, 0), [(0, 0, 1), (4, 1, 0)]), ((0, 0), [(1, 1, 0), (5, 0, 1)]), ((0, 0), [(1, 0, 1), (5, 1, 0)]), ((0, 0), [(2, 1, 0), (6, 0, 1)]), ((0, 0), [(2, 0, 1), (6, 1, 0)]), ((0, 4000), [(3, 1, 0)]), ((4000, 0), [(3, 0, 1)])])
  | 476 => some (zu_Lv 86 86 [((0, 0), [(0, 1, 0), (4, 0, 1)]), ((0, 0), [(0, 0, 1), (4, 1, 0)]), ((0, 0), [(1, 1, 0), (5, 0, 1)]), ((0, 0), [(1, 0, 1), (5, 1, 0)]), ((0, 0), [(2, 0, 1), (6, 1, 0)]), ((0, 0), [(3, 1, 0), (7, 0, 1)]), ((0, 0), [(3, 0, 1), (7, 1, 0)])])
  | 477 => some (zu_Lx 86 86 [8, 9, 64] [((0, 0), [(0, 1, 0), (4, 0, 1)]), ((0, 0), [(0, 0, 1), (4, 1, 0)]), ((0, 0), [(1, 1, 0), (5, 0, 1)]), ((0, 0), [(1, 0, 1), (5, 1, 0)]), ((0, 0), [(2, 1, 0), (6, 0, 1)]), ((0, 0), [(2, 0, 1), (6, 1, 0)]), ((0, 4000), [(7, 1, 0)]), ((4000, 0), [(7, 0, 1)]), ((0, 0), [(3, 0, 1), (8, 1, 0)]), ((0, 0), [(3, 1, 0), (8, 0, 1)]), ((0, 0), [(3, 0, 1), (9, 1, 0)]), ((0, 0), [(3, 1, 0), (9, 0, 1)]), ((1, 0), [(10, 1, 0), (11, 0, 1)]), ((0, 1), [(10, 0, 1), (11, 1, 0)]), ((0, 1), [(11, 1, 0)]), ((0, 0), [(2, 1, 0), (11, 0, 1)]), ((60, 0), [(11, 0, 1)]), ((0, 0), [(12, 0, 1), (13, 1, 0)]), ((0, 0), [(12, 1, 0), (13, 0, 1)])])
  | 478 => some (zu_Ln 86)
  | 479 => some (zu_Li 86 [((0, 1), [(1, 1, 0)])])
  | 480 => some (zu_Li 85 [((0, 0), [(0, 0, 1)])])
  | 481 => some (zu_Li 85 [((0, 1), [(1, 1, 0)])])
  | 482 => some (zu_Lx 85 85 [20, 20] [((0, 1), [(0, 0, 1), (4, 1, 0)]), ((1, 0), [(0, 1, 0), (4, 0, 1)]), ((0, 0), [(1, 1, 0), (5, 0, 1)]), ((0, 0), [(1, 0, 1), (5, 1, 0)]), ((0, 0), [(2, 1, 0), (6, 0, 1)]), ((0, 0), [(2, 0, 1), (6, 1, 0)]), ((0, 0), [(3, 1, 0), (7, 0, 1)]), ((0, 0), [(3, 0, 1), (7, 1, 0)]), ((0, 2), [(0, 0, 6), (8, 1, 0)]), ((2, 0), [(0, 6, 0), (8, 0, 1)]), ((0, 3), [(0, 0, 6), (9, 1, 0)]), ((3, 0), [(0, 6, 0), (9, 0, 1)]), ((2, 0), [(10, 0, 1)]), ((0, 0), [(11, 1, 0)])])
  | 483 => some (zu_Lx 85 85 [20, 20, 20, 62] [((0, 1), [(0, 0, 1), (4, 1, 0)]), ((1, 0), [(0, 1, 0), (4, 0, 1)]), ((0, 0), [(1, 1, 0), (5, 0, 1)]), ((0, 0), [(1, 0, 1), (5, 1, 0)]), ((0, 0), [(2, 1, 0), (6, 0, 1)]), ((0, 0), [(2, 0, 1), (6, 1, 0)]), ((0, 0), [(3, 1, 0), (7, 0, 1)]), ((0, 0), [(3, 0, 1), (7, 1, 0)]), ((0, 2), [(0, 0, 6), (8, 1, 0)]), ((2, 0), [(0, 6, 0), (8, 0, 1)]), ((0, 3), [(0, 0, 6), (9, 1, 0)]), ((3, 0), [(0, 6, 0), (9, 0, 1)]), ((0, 5), [(0, 0, 6), (10, 1, 0)]), ((5, 0), [(0, 6, 0), (10, 0, 1)]), ((0, 0), [(11, 1, 0), (14, 0, 6)]), ((0, 0), [(11, 0, 1), (14, 6, 0)]), ((0, 1), [(13, 0, 1)]), ((0, 0), [(14, 1, 0)]), ((59, 0), [(14, 0, 1)]), ((0, 1), [(3, 1, 0), (14, 0, 1)]), ((0, 0), [(12, 0, 1), (15, 1, 0)]), ((0, 0), [(12, 1, 0), (15, 0, 1)])])
  | 484 => some (zu_Lx 85 85 [20, 20, 20, 64] [((0, 1), [(0, 0, 1), (4, 1, 0)]), ((1, 0), [(0, 1, 0), (4, 0, 1)]), ((0, 0), [(1, 1, 0), (5, 0, 1)]), ((0, 0), [(1, 0, 1), (5, 1, 0)]), ((0, 0), [(2, 1, 0), (6, 0, 1)]), ((0, 0), [(2, 0, 1), (6, 1, 0)]), ((0, 0), [(3, 1, 0), (7, 0, 1)]), ((0, 0), [(3, 0, 1), (7, 1, 0)]), ((0, 2), [(0, 0, 6), (8, 1, 0)]), ((2, 0), [(0, 6, 0), (8, 0, 1)]), ((0, 3), [(0, 0, 6), (9, 1, 0)]), ((3, 0), [(0, 6, 0), (9, 0, 1)]), ((0, 5), [(0, 0, 6), (10, 1, 0)]), ((5, 0), [(0, 6, 0), (10, 0, 1)]), ((60, 0), [(11, 1, 0), (14, 0, 1)]), ((0, 60), [(11, 0, 1), (14, 1, 0)]), ((0, 1), [(13, 0, 1)]), ((0, 60), [(14, 1, 0)]), ((119, 0), [(14, 0, 1)]), ((59, 0), [(2, 1, 0), (14, 0, 1)]), ((0, 0), [(12, 0, 1), (15, 1, 0)]), ((0, 0), [(12, 1, 0), (15, 0, 1)])])
  | 485 => some (zu_Lv 85 85 [((0, 0), [(0, 1, 0), (4, 0, 1)]), ((0, 0), [(1, 1, 0), (5, 0, 1)]), ((0, 0), [(1, 0, 1), (5, 1, 0)]), ((0, 0), [(2, 0, 1), (6, 1, 0)]), ((0, 0), [(3, 0, 1), (7, 1, 0)])])
  | 490 => some (zx_D490)
  | 491 => some (zx_D491)
  | 492 => some (zx_D492)
  | 493 => some (zx_D493)
  | 494 => some (zx_D494)
  | 495 => some (zu_Lv 85 88 [((0, 0), [(0, 1, 0), (4, 0, 1)]), ((0, 0), [(0, 0, 1), (4, 1, 0)]), ((0, 0), [(1, 1, 0), (5, 0, 1)]), ((0, 0), [(1, 0, 1), (5, 1, 0)]), ((0, 0), [(2, 1, 0), (6, 0, 1)]), ((0, 0), [(2, 0, 1), (6, 1, 0)]), ((0, 0), [(3, 1, 0), (7, 0, 1)]), ((0, 0), [(3, 0, 1), (7, 1, 0)])])
  | 496 => some (zu_Ln 88)
  | 497 => some (zu_Lv 85 89 [((0, 0), [(0, 1, 0), (4, 0, 1)]), ((0, 0), [(0, 0, 1), (4, 1, 0)]), ((0, 0), [(1, 1, 0), (5, 0, 1)]), ((0, 0), [(1, 0, 1), (5, 1, 0)]), ((0, 0), [(2, 1, 0), (6, 0, 1)]), ((0, 0), [(2, 0, 1), (6, 1, 0)]), ((0, 0), [(3, 1, 0), (7, 0, 1)]), ((0, 0), [(3, 0, 1), (7, 1, 0)])])
  | 498 => some (zu_Ln 89)
  | 499 => some (zu_Lv 85 90 [((0, 0), [(0, 1, 0), (4, 0, 1)]), ((0, 0), [(0, 0, 1), (4, 1, 0)]), ((0, 0), [(1, 1, 0), (5, 0, 1)]), ((0, 0), [(1, 0, 1), (5, 1, 0)]), ((0, 0), [(2, 1, 0), (6, 0, 1)]), ((0, 0), [(2, 0, 1), (6, 1, 0)]), ((0, 0), [(3, 1, 0), (7, 0, 1)]), ((0, 0), [(3, 0, 1), (7, 1, 0)])])
  | 500 => some (zu_Ln 90)
  | 510 => some (zu_Li 94 [((0, 1), [(2, 1, 0)])])
  | 511 => some (zu_Li 94 [((0, 0), [(0, 0, 1)])])
  | 512 => some (zu_Lx 94 94 [62] [((0, 1), [(0, 0, 1), (4, 1, 0)]), ((1, 0), [(0, 1, 0), (4, 0, 1)]), ((0, 0), [(1, 1, 0), (5, 0, 1)]), ((0, 0), [(1, 0, 1), (5, 1, 0)]), ((0, 0), [(2, 1, 0), (6, 0, 1)]), ((0, 0), [(2, 0, 1), (6, 1, 0)]), ((0, 0), [(0, 0, 1), (7, 1, 0)]), ((0, 0), [(0, 1, 0), (7, 0, 1)]), ((0, 5), [(0, 0, 6), (8, 1, 0)]), ((5, 0), [(0, 6, 0), (8, 0, 1)]), ((0, 0), [(1, 0, 1), (9, 1, 0)]), ((0, 0), [(1, 1, 0), (9, 0, 1)]), ((0, 512), [(3, 1, 0)])])
  | 513 => some (zu_Lv 94 94 [((0, 0), [(0, 1, 0), (4, 0, 1)]), ((0, 0), [(0, 0, 1), (4, 1, 0)]), ((0, 1), [(1, 0, 1), (5, 1, 0)]), ((1, 0), [(1, 1, 0), (5, 0, 1)]), ((0, 0), [(2, 1, 0), (6, 0, 1)]), ((0, 0), [(2, 0, 1), (6, 1, 0)]), ((0, 0), [(3, 1, 0), (7, 0, 1)]), ((0, 0), [(3, 0, 1), (7, 1, 0)]), ((0, 512), [(3, 1, 0)])])
  | 514 => some (zu_Lx 94 94 [61] [((0, 0), [(0, 1, 0), (4, 0, 1)]), ((0, 0), [(0, 0, 1), (4, 1, 0)]), ((0, 1), [(1, 0, 1), (5, 1, 0)]), ((1, 0), [(1, 1, 0), (5, 0, 1)]), ((0, 0), [(2, 1, 0), (6, 0, 1)]), ((0, 0), [(2, 0, 1), (6, 1, 0)]), ((0, 0), [(1, 0, 2), (8, 1, 0)]), ((0, 0), [(1, 2, 0), (8, 0, 1)]), ((0, 0), [(9, 1, 0)]), ((3, 0), [(9, 0, 1)]), ((0, 512), [(7, 1, 0)])])
  | 515 => some (zu_Lv 94 94 [((0, 0), [(0, 1, 0), (4, 0, 1)]), ((0, 0), [(0, 0, 1), (4, 1, 0)]), ((0, 0), [(1, 1, 0), (5, 0, 1)]), ((0, 0), [(1, 0, 1), (5, 1, 0)]), ((0, 0), [(2, 0, 1), (6, 1, 0)]), ((0, 0), [(3, 1, 0), (7, 0, 1)]), ((0, 0), [(3, 0, 1), (7, 1, 0)])])
  | 516 => some (zu_Li 94 [((0, 3200), [(1, 1, 0)])])
  | 517 => some (zx_D517)
  | 520 => some (zx_D520)
  | _ => zLLc j
def zLL (j : Nat) : Option zx_L := match j with
  | 0 => some (zx_L0)
  | 1 => some (zx_S 2000000 286)
  | 2 => some (zx_Z 2000000)
  | 3 => some (zx_M 2000000)
  | 4 => some (zx_S 2000001 287)
  | 5 => some (zx_Z 2000001)
  | 6 => some (zx_M 2000001)
  | 7 => some (zx_T1)
  | 8 => some (zx_T2)
  | 9 => some (zx_T0)
  | 10 => some (zx_R1)
  | 11 => some (zx_R2)
  | 12 => some (zx_R3)
  | 13 => some (zx_R4)
  | 14 => some (zx_A1)
  | 15 => some (zx_A2)
  | 16 => some (zx_N1)
  | 17 => some (zx_N2)
  | 18 => some (zx_Q0)
  | 19 => some (zx_Q1)
  | 20 => some (zx_Q2)
  | 21 => some (zx_Q3)
  | 22 => some (zx_Q4)
  | 23 => some (zx_Q5)
  | 24 => some (zx_Q6)
  | 25 => some (zx_Q7)
  | 26 => some (zx_M 2000007)
  | 27 => some (zx_S27)
  | 28 => some (zx_S28)
  | 29 => some (zx_S29)
  | 30 => some (zx_S30)
  | 40 => some (zq_Ln 0)
  | 41 => some (zq_Li 0 [((0, 0), [(0, 0, 1)])])
  | 42 => some (zq_Lv 0 0 [((0, 0), [(0, 1, 0), (2, 0, 1)]), ((0, 0), [(1, 0, 1), (3, 1, 0)])])
  | 43 => some (zq_Ln 1)
  | 44 => some (zq_Li 1 [((0, 0), [(0, 1, 0), (1, 0, 1)])])
  | 45 => some (zq_Lv 1 1 [((0, 0), [(0, 0, 1), (2, 1, 0)]), ((0, 0), [(1, 1, 0), (3, 0, 1)])])
  | 50 => some (zu_Ln 0)
  | 51 => some (zu_Li 0 [((0, 0), [(0, 0, 1)])])
  | 52 => some (zu_Li 2 [])
  | 53 => some (zu_Ln 1)
  | 54 => some (zu_L1 1)
  | 60 => some (zx_Y1)
  | 61 => some (zx_Y2)
  | 62 => some (zx_Y4)
  | 63 => some (zx_Y8)
  | 64 => some (zx_Y16)
  | 70 => some (zu_Ln 10)
  | 71 => some (zu_Ln 11)
  | 72 => some (zu_Ln 12)
  | 73 => some (zu_Ln 13)
  | 74 => some (zu_Ln 14)
  | 75 => some (zu_Ln 15)
  | 76 => some (zu_Ln 16)
  | 80 => some (zu_Lv 10 10 [((0, 0), [(0, 1, 0), (3, 0, 1)]), ((0, 0), [(0, 0, 1), (3, 1, 0)]), ((0, 0), [(1, 0, 1), (4, 1, 0)]), ((0, 0), [(2, 0, 1), (5, 1, 0)])])
  | 81 => some (zu_Lv 11 11 [((0, 0), [(0, 1, 0), (3, 0, 1)]), ((0, 0), [(0, 0, 1), (3, 1, 0)]), ((0, 0), [(1, 0, 1), (4, 1, 0)]), ((0, 0), [(2, 0, 1), (5, 1, 0)])])
  | 82 => some (zu_Lv 12 12 [((0, 0), [(0, 1, 0), (3, 0, 1)]), ((0, 0), [(0, 0, 1), (3, 1, 0)]), ((0, 0), [(1, 0, 1), (4, 1, 0)]), ((0, 0), [(2, 0, 1), (5, 1, 0)])])
  | 83 => some (zu_Lv 13 13 [((0, 0), [(0, 1, 0), (3, 0, 1)]), ((0, 0), [(0, 0, 1), (3, 1, 0)]), ((0, 0), [(1, 0, 1), (4, 1, 0)]), ((0, 0), [(2, 0, 1), (5, 1, 0)])])
  | 84 => some (zu_Lv 14 14 [((0, 0), [(0, 1, 0), (3, 0, 1)]), ((0, 0), [(0, 0, 1), (3, 1, 0)]), ((0, 0), [(1, 0, 1), (4, 1, 0)]), ((0, 0), [(2, 0, 1), (5, 1, 0)])])
  | 85 => some (zu_Lv 15 15 [((0, 0), [(0, 1, 0), (3, 0, 1)]), ((0, 0), [(0, 0, 1), (3, 1, 0)]), ((0, 0), [(1, 0, 1), (4, 1, 0)]), ((0, 0), [(2, 0, 1), (5, 1, 0)])])
  | 90 => some (zu_Li 20 [((0, 0), [(1, 0, 1)]), ((0, 0), [(2, 0, 1)])])
  | 91 => some (zu_Li 21 [((0, 0), [(1, 0, 1)]), ((0, 0), [(2, 0, 1)])])
  | 92 => some (zu_Li 22 [((0, 0), [(1, 0, 1)]), ((0, 0), [(2, 0, 1)])])
  | 93 => some (zu_Li 23 [((0, 0), [(1, 0, 1)]), ((0, 0), [(2, 0, 1)])])
  | 94 => some (zu_Li 24 [((0, 0), [(1, 0, 1)]), ((0, 0), [(2, 0, 1)])])
  | 95 => some (zu_Li 25 [((0, 0), [(1, 0, 1)]), ((0, 0), [(2, 0, 1)])])
  | 100 => some (zu_Lx 20 20 [180, 220] [((0, 0), [(0, 1, 0), (3, 0, 1)]), ((0, 0), [(0, 0, 1), (3, 1, 0)]), ((0, 0), [(1, 1, 0), (4, 0, 1)]), ((0, 0), [(1, 0, 1), (4, 1, 0)]), ((0, 1), [(2, 0, 1), (5, 1, 0)]), ((1, 0), [(2, 1, 0), (5, 0, 1)]), ((0, 0), [(2, 0, 1), (6, 1, 0)]), ((0, 0), [(2, 1, 0), (6, 0, 1)]), ((0, 0), [(7, 1, 0), (8, 0, 1)]), ((0, 0), [(7, 0, 1), (8, 1, 0)]), ((0, 1), [(9, 1, 0)]), ((1, 0), [(9, 0, 1)]), ((0, 0), [(8, 1, 0)]), ((0, 0), [(1, 0, 64), (2, 1, 0)]), ((63, 0), [(1, 64, 0), (2, 0, 1)])])
  | 101 => some (zu_Lx 21 21 [189, 220] [((0, 0), [(0, 1, 0), (3, 0, 1)]), ((0, 0), [(0, 0, 1), (3, 1, 0)]), ((0, 0), [(1, 1, 0), (4, 0, 1)]), ((0, 0), [(1, 0, 1), (4, 1, 0)]), ((0, 1), [(2, 0, 1), (5, 1, 0)]), ((1, 0), [(2, 1, 0), (5, 0, 1)]), ((0, 0), [(2, 0, 1), (6, 1, 0)]), ((0, 0), [(2, 1, 0), (6, 0, 1)]), ((0, 0), [(7, 1, 0), (8, 0, 1)]), ((0, 0), [(7, 0, 1), (8, 1, 0)]), ((0, 1), [(9, 1, 0)]), ((1, 0), [(9, 0, 1)]), ((0, 0), [(8, 1, 0)]), ((0, 0), [(1, 0, 600), (2, 1, 0)]), ((599, 0), [(1, 600, 0), (2, 0, 1)])])
  | 102 => some (zu_Lx 22 22 [201, 220] [((0, 0), [(0, 1, 0), (3, 0, 1)]), ((0, 0), [(0, 0, 1), (3, 1, 0)]), ((0, 0), [(1, 1, 0), (4, 0, 1)]), ((0, 0), [(1, 0, 1), (4, 1, 0)]), ((0, 1), [(2, 0, 1), (5, 1, 0)]), ((1, 0), [(2, 1, 0), (5, 0, 1)]), ((0, 0), [(2, 0, 1), (6, 1, 0)]), ((0, 0), [(2, 1, 0), (6, 0, 1)]), ((0, 0), [(7, 1, 0), (8, 0, 1)]), ((0, 0), [(7, 0, 1), (8, 1, 0)]), ((0, 1), [(9, 1, 0)]), ((1, 0), [(9, 0, 1)]), ((0, 0), [(8, 1, 0)]), ((0, 0), [(1, 0, 3000), (2, 1, 0)]), ((2999, 0), [(1, 3000, 0), (2, 0, 1)])])
  | 103 => some (zu_Lx 23 23 [204, 220] [((0, 0), [(0, 1, 0), (3, 0, 1)]), ((0, 0), [(0, 0, 1), (3, 1, 0)]), ((0, 0), [(1, 1, 0), (4, 0, 1)]), ((0, 0), [(1, 0, 1), (4, 1, 0)]), ((0, 1), [(2, 0, 1), (5, 1, 0)]), ((1, 0), [(2, 1, 0), (5, 0, 1)]), ((0, 0), [(2, 0, 1), (6, 1, 0)]), ((0, 0), [(2, 1, 0), (6, 0, 1)]), ((0, 0), [(7, 1, 0), (8, 0, 1)]), ((0, 0), [(7, 0, 1), (8, 1, 0)]), ((0, 1), [(9, 1, 0)]), ((1, 0), [(9, 0, 1)]), ((0, 0), [(8, 1, 0)]), ((0, 0), [(1, 0, 600), (2, 1, 0)]), ((599, 0), [(1, 600, 0), (2, 0, 1)])])
  | 104 => some (zu_Lx 24 24 [214, 220] [((0, 0), [(0, 1, 0), (3, 0, 1)]), ((0, 0), [(0, 0, 1), (3, 1, 0)]), ((0, 0), [(1, 1, 0), (4, 0, 1)]), ((0, 0), [(1, 0, 1), (4, 1, 0)]), ((0, 1), [(2, 0, 1), (5, 1, 0)]), ((1, 0), [(2, 1, 0), (5, 0, 1)]), ((0, 0), [(2, 0, 1), (6, 1, 0)]), ((0, 0), [(2, 1, 0), (6, 0, 1)]), ((0, 0), [(7, 1, 0), (8, 0, 1)]), ((0, 0), [(7, 0, 1), (8, 1, 0)]), ((0, 1), [(9, 1, 0)]), ((1, 0), [(9, 0, 1)]), ((0, 0), [(8, 1, 0)]), ((0, 0), [(1, 0, 64), (2, 1, 0)]), ((63, 0), [(1, 64, 0), (2, 0, 1)])])
  | 105 => some (zu_Lx 25 25 [209, 220] [((0, 0), [(0, 1, 0), (3, 0, 1)]), ((0, 0), [(0, 0, 1), (3, 1, 0)]), ((0, 0), [(1, 1, 0), (4, 0, 1)]), ((0, 0), [(1, 0, 1), (4, 1, 0)]), ((0, 1), [(2, 0, 1), (5, 1, 0)]), ((1, 0), [(2, 1, 0), (5, 0, 1)]), ((0, 0), [(2, 0, 1), (6, 1, 0)]), ((0, 0), [(2, 1, 0), (6, 0, 1)]), ((0, 0), [(7, 1, 0), (8, 0, 1)]), ((0, 0), [(7, 0, 1), (8, 1, 0)]), ((0, 1), [(9, 1, 0)]), ((1, 0), [(9, 0, 1)]), ((0, 0), [(8, 1, 0)]), ((0, 0), [(1, 0, 8000), (2, 1, 0)]), ((7999, 0), [(1, 8000, 0), (2, 0, 1)])])
  | 110 => some (zu_Lx 20 20 [179] [((0, 0), [(0, 1, 0), (3, 0, 1)]), ((0, 0), [(0, 0, 1), (3, 1, 0)]), ((0, 1), [(1, 0, 1), (4, 1, 0)]), ((1, 0), [(1, 1, 0), (4, 0, 1)]), ((0, 64), [(1, 0, 64), (5, 1, 0)]), ((64, 0), [(1, 64, 0), (5, 0, 1)]), ((0, 0), [(1, 0, 1), (6, 1, 0)]), ((0, 0), [(1, 1, 0), (6, 0, 1)]), ((0, 0), [(1, 0, 64), (2, 1, 0), (7, 0, 1)])])
  | 111 => some (zu_Lx 21 21 [188] [((0, 0), [(0, 1, 0), (3, 0, 1)]), ((0, 0), [(0, 0, 1), (3, 1, 0)]), ((0, 1), [(1, 0, 1), (4, 1, 0)]), ((1, 0), [(1, 1, 0), (4, 0, 1)]), ((0, 600), [(1, 0, 600), (5, 1, 0)]), ((600, 0), [(1, 600, 0), (5, 0, 1)]), ((0, 0), [(1, 0, 1), (6, 1, 0)]), ((0, 0), [(1, 1, 0), (6, 0, 1)]), ((0, 0), [(1, 0, 600), (2, 1, 0), (7, 0, 1)])])
  | 112 => some (zu_Lx 22 22 [195] [((0, 0), [(0, 1, 0), (3, 0, 1)]), ((0, 0), [(0, 0, 1), (3, 1, 0)]), ((0, 1), [(1, 0, 1), (4, 1, 0)]), ((1, 0), [(1, 1, 0), (4, 0, 1)]), ((0, 3000), [(1, 0, 3000), (5, 1, 0)]), ((3000, 0), [(1, 3000, 0), (5, 0, 1)]), ((0, 0), [(1, 0, 1), (6, 1, 0)]), ((0, 0), [(1, 1, 0), (6, 0, 1)]), ((0, 0), [(1, 0, 3000), (2, 1, 0), (7, 0, 1)])])
  | 113 => some (zu_Lx 23 23 [203] [((0, 0), [(0, 1, 0), (3, 0, 1)]), ((0, 0), [(0, 0, 1), (3, 1, 0)]), ((0, 1), [(1, 0, 1), (4, 1, 0)]), ((1, 0), [(1, 1, 0), (4, 0, 1)]), ((0, 600), [(1, 0, 600), (5, 1, 0)]), ((600, 0), [(1, 600, 0), (5, 0, 1)]), ((0, 0), [(1, 0, 1), (6, 1, 0)]), ((0, 0), [(1, 1, 0), (6, 0, 1)]), ((0, 0), [(1, 0, 600), (2, 1, 0), (7, 0, 1)])])
  | 114 => some (zu_Lx 24 24 [213] [((0, 0), [(0, 1, 0), (3, 0, 1)]), ((0, 0), [(0, 0, 1), (3, 1, 0)]), ((0, 1), [(1, 0, 1), (4, 1, 0)]), ((1, 0), [(1, 1, 0), (4, 0, 1)]), ((0, 64), [(1, 0, 64), (5, 1, 0)]), ((64, 0), [(1, 64, 0), (5, 0, 1)]), ((0, 0), [(1, 0, 1), (6, 1, 0)]), ((0, 0), [(1, 1, 0), (6, 0, 1)]), ((0, 0), [(1, 0, 64), (2, 1, 0), (7, 0, 1)])])
  | 115 => some (zu_Lx 25 25 [207] [((0, 0), [(0, 1, 0), (3, 0, 1)]), ((0, 0), [(0, 0, 1), (3, 1, 0)]), ((0, 1), [(1, 0, 1), (4, 1, 0)]), ((1, 0), [(1, 1, 0), (4, 0, 1)]), ((0, 8000), [(1, 0, 8000), (5, 1, 0)]), ((8000, 0), [(1, 8000, 0), (5, 0, 1)]), ((0, 0), [(1, 0, 1), (6, 1, 0)]), ((0, 0), [(1, 1, 0), (6, 0, 1)]), ((0, 0), [(1, 0, 8000), (2, 1, 0), (7, 0, 1)])])
  | 116 => some (zu_Lx 25 25 [176] [((0, 0), [(0, 1, 0), (3, 0, 1)]), ((0, 0), [(0, 0, 1), (3, 1, 0)]), ((0, 1), [(1, 0, 1), (4, 1, 0)]), ((1, 0), [(1, 1, 0), (4, 0, 1)]), ((0, 8000), [(1, 0, 8000), (5, 1, 0)]), ((8000, 0), [(1, 8000, 0), (5, 0, 1)]), ((0, 0), [(1, 0, 1), (6, 1, 0)]), ((0, 0), [(1, 1, 0), (6, 0, 1)]), ((0, 0), [(7, 0, 1)])])
  | 117 => some (zu_Lx 22 22 [201] [((0, 0), [(0, 1, 0), (3, 0, 1)]), ((0, 0), [(0, 0, 1), (3, 1, 0)]), ((0, 0), [(1, 1, 0), (4, 0, 1)]), ((0, 0), [(1, 0, 1), (4, 1, 0)]), ((0, 1), [(2, 0, 1), (5, 1, 0)]), ((1, 0), [(2, 1, 0), (5, 0, 1)]), ((0, 0), [(2, 0, 1), (6, 1, 0)]), ((0, 0), [(2, 1, 0), (6, 0, 1)]), ((0, 1), [(7, 0, 1)]), ((0, 0), [(1, 0, 3000), (2, 1, 0)]), ((2999, 0), [(1, 3000, 0), (2, 0, 1)])])
  | 120 => some (zu_Lx 25 25 [208] [((0, 0), [(0, 1, 0), (3, 0, 1)]), ((0, 0), [(0, 0, 1), (3, 1, 0)]), ((0, 0), [(1, 1, 0), (4, 0, 1)]), ((0, 0), [(1, 0, 1), (4, 1, 0)]), ((0, 1), [(2, 0, 1), (5, 1, 0)]), ((1, 0), [(2, 1, 0), (5, 0, 1)]), ((0, 0), [(2, 0, 1), (6, 1, 0)]), ((0, 0), [(2, 1, 0), (6, 0, 1)]), ((4, 0), [(7, 0, 1)]), ((0, 0), [(1, 0, 8000), (2, 1, 0)]), ((7999, 0), [(1, 8000, 0), (2, 0, 1)])])
  | 121 => some (zu_Lx 25 25 [208] [((0, 0), [(0, 1, 0), (3, 0, 1)]), ((0, 0), [(0, 0, 1), (3, 1, 0)]), ((0, 0), [(1, 1, 0), (4, 0, 1)]), ((0, 0), [(1, 0, 1), (4, 1, 0)]), ((0, 1), [(2, 0, 1), (5, 1, 0)]), ((1, 0), [(2, 1, 0), (5, 0, 1)]), ((0, 0), [(2, 0, 1), (6, 1, 0)]), ((0, 0), [(2, 1, 0), (6, 0, 1)]), ((0, 9), [(7, 1, 0)]), ((10, 0), [(7, 0, 1)]), ((0, 0), [(1, 0, 8000), (2, 1, 0)]), ((7999, 0), [(1, 8000, 0), (2, 0, 1)])])
  | 122 => some (zu_Lx 25 25 [208] [((0, 0), [(0, 1, 0), (3, 0, 1)]), ((0, 0), [(0, 0, 1), (3, 1, 0)]), ((0, 0), [(1, 1, 0), (4, 0, 1)]), ((0, 0), [(1, 0, 1), (4, 1, 0)]), ((0, 1), [(2, 0, 1), (5, 1, 0)]), ((1, 0), [(2, 1, 0), (5, 0, 1)]), ((0, 0), [(2, 0, 1), (6, 1, 0)]), ((0, 0), [(2, 1, 0), (6, 0, 1)]), ((0, 13), [(7, 1, 0)]), ((0, 0), [(1, 0, 8000), (2, 1, 0)]), ((7999, 0), [(1, 8000, 0), (2, 0, 1)])])
  | 130 => some (zu_Lv 20 20 [((0, 0), [(0, 1, 0), (3, 0, 1)]), ((0, 0), [(0, 0, 1), (3, 1, 0)]), ((0, 0), [(0, 0, 1), (1, 1, 0)]), ((0, 0), [(1, 0, 64), (2, 1, 0)]), ((0, 0), [(1, 64, 0), (2, 0, 1)]), ((0, 6), [(4, 1, 0)]), ((6, 0), [(4, 0, 1)]), ((0, 384), [(5, 1, 0)]), ((384, 0), [(5, 0, 1)]), ((6, 0), [(1, 0, 1)])])
  | 131 => some (zu_Lv 21 21 [((0, 0), [(0, 1, 0), (3, 0, 1)]), ((0, 0), [(0, 0, 1), (3, 1, 0)]), ((0, 0), [(0, 0, 1), (1, 1, 0)]), ((0, 0), [(1, 0, 600), (2, 1, 0)]), ((0, 0), [(1, 600, 0), (2, 0, 1)]), ((0, 6), [(4, 1, 0)]), ((6, 0), [(4, 0, 1)]), ((0, 3600), [(5, 1, 0)]), ((3600, 0), [(5, 0, 1)]), ((6, 0), [(1, 0, 1)])])
  | 132 => some (zu_Lv 22 22 [((0, 0), [(0, 1, 0), (3, 0, 1)]), ((0, 0), [(0, 0, 1), (3, 1, 0)]), ((0, 0), [(0, 0, 1), (1, 1, 0)]), ((0, 0), [(1, 0, 3000), (2, 1, 0)]), ((0, 0), [(1, 3000, 0), (2, 0, 1)]), ((0, 6), [(4, 1, 0)]), ((6, 0), [(4, 0, 1)]), ((0, 18000), [(5, 1, 0)]), ((18000, 0), [(5, 0, 1)]), ((6, 0), [(1, 0, 1)])])
  | 133 => some (zu_Lv 23 23 [((0, 0), [(0, 1, 0), (3, 0, 1)]), ((0, 0), [(0, 0, 1), (3, 1, 0)]), ((0, 0), [(0, 0, 1), (1, 1, 0)]), ((0, 0), [(1, 0, 600), (2, 1, 0)]), ((0, 0), [(1, 600, 0), (2, 0, 1)]), ((0, 6), [(4, 1, 0)]), ((6, 0), [(4, 0, 1)]), ((0, 3600), [(5, 1, 0)]), ((3600, 0), [(5, 0, 1)]), ((6, 0), [(1, 0, 1)])])
  | 134 => some (zu_Lv 24 24 [((0, 0), [(0, 1, 0), (3, 0, 1)]), ((0, 0), [(0, 0, 1), (3, 1, 0)]), ((0, 0), [(0, 0, 1), (1, 1, 0)]), ((0, 0), [(1, 0, 64), (2, 1, 0)]), ((0, 0), [(1, 64, 0), (2, 0, 1)]), ((0, 6), [(4, 1, 0)]), ((6, 0), [(4, 0, 1)]), ((0, 384), [(5, 1, 0)]), ((384, 0), [(5, 0, 1)]), ((6, 0), [(1, 0, 1)])])
  | 135 => some (zu_Lv 25 25 [((0, 0), [(0, 1, 0), (3, 0, 1)]), ((0, 0), [(0, 0, 1), (3, 1, 0)]), ((0, 0), [(0, 0, 1), (1, 1, 0)]), ((0, 0), [(1, 0, 8000), (2, 1, 0)]), ((0, 0), [(1, 8000, 0), (2, 0, 1)]), ((0, 6), [(4, 1, 0)]), ((6, 0), [(4, 0, 1)]), ((0, 48000), [(5, 1, 0)]), ((48000, 0), [(5, 0, 1)]), ((6, 0), [(1, 0, 1)])])
  | 136 => some (zu_Lv 24 24 [((0, 0), [(0, 1, 0), (3, 0, 1)]), ((0, 0), [(0, 0, 1), (3, 1, 0)]), ((0, 6), [(1, 1, 0)]), ((7, 0), [(4, 0, 1)])])
  | 137 => some (zu_Lv 25 25 [((0, 0), [(0, 1, 0), (3, 0, 1)]), ((0, 0), [(0, 0, 1), (3, 1, 0)]), ((0, 6), [(1, 1, 0)]), ((7, 0), [(4, 0, 1)])])
  | 140 => some (zu_Lv 20 30 [((0, 0), [(0, 1, 0), (3, 0, 1)]), ((0, 0), [(0, 0, 1), (3, 1, 0)]), ((0, 7), [(1, 1, 0)]), ((0, 0), [(4, 0, 1)])])
  | 141 => some (zu_Lv 21 31 [((0, 0), [(0, 1, 0), (3, 0, 1)]), ((0, 0), [(0, 0, 1), (3, 1, 0)]), ((0, 7), [(1, 1, 0)]), ((0, 0), [(4, 0, 1)])])
  | 142 => some (zu_Lv 22 32 [((0, 0), [(0, 1, 0), (3, 0, 1)]), ((0, 0), [(0, 0, 1), (3, 1, 0)]), ((0, 7), [(1, 1, 0)]), ((0, 0), [(4, 0, 1)])])
  | 143 => some (zu_Lv 23 33 [((0, 0), [(0, 1, 0), (3, 0, 1)]), ((0, 0), [(0, 0, 1), (3, 1, 0)]), ((0, 7), [(1, 1, 0)]), ((0, 0), [(4, 0, 1)])])
  | 144 => some (zu_Lv 24 34 [((0, 0), [(0, 1, 0), (3, 0, 1)]), ((0, 0), [(0, 0, 1), (3, 1, 0)]), ((0, 7), [(1, 1, 0)]), ((0, 0), [(4, 0, 1)])])
  | 145 => some (zu_Lv 25 35 [((0, 0), [(0, 1, 0), (3, 0, 1)]), ((0, 0), [(0, 0, 1), (3, 1, 0)]), ((0, 7), [(1, 1, 0)]), ((0, 0), [(4, 0, 1)])])
  | 150 => some (zu_Lv 30 10 [((0, 0), [(0, 1, 0), (2, 0, 1)]), ((0, 0), [(0, 0, 1), (2, 1, 0)]), ((0, 0), [(3, 0, 1)]), ((0, 0), [(4, 0, 1)])])
  | 151 => some (zu_Lv 31 11 [((0, 0), [(0, 1, 0), (2, 0, 1)]), ((0, 0), [(0, 0, 1), (2, 1, 0)]), ((0, 0), [(3, 0, 1)]), ((0, 0), [(4, 0, 1)])])
  | 152 => some (zu_Lv 32 12 [((0, 0), [(0, 1, 0), (2, 0, 1)]), ((0, 0), [(0, 0, 1), (2, 1, 0)]), ((0, 0), [(3, 0, 1)]), ((0, 0), [(4, 0, 1)])])
  | 153 => some (zu_Lv 33 13 [((0, 0), [(0, 1, 0), (2, 0, 1)]), ((0, 0), [(0, 0, 1), (2, 1, 0)]), ((0, 0), [(3, 0, 1)]), ((0, 0), [(4, 0, 1)])])
  | 154 => some (zu_Lv 34 14 [((0, 0), [(0, 1, 0), (2, 0, 1)]), ((0, 0), [(0, 0, 1), (2, 1, 0)]), ((0, 0), [(3, 0, 1)]), ((0, 0), [(4, 0, 1)])])
  | 155 => some (zu_Lv 35 15 [((0, 0), [(0, 1, 0), (2, 0, 1)]), ((0, 0), [(0, 0, 1), (2, 1, 0)]), ((0, 0), [(3, 0, 1)]), ((0, 0), [(4, 0, 1)])])
  | 160 => some (zq_Li 2 [((0, 0), [(0, 0, 1)])])
  | 161 => some (zx_N0)
  | 170 => some (zx_D170)
  | 171 => some (zx_D171)
  | 172 => some (zx_D172)
  | 173 => some (zx_D173)
  | 174 => some (zx_D174)
  | 200 => some (zu_Ln 40)
  | 201 => some (zu_Lv 40 40 [((0, 7), [(0, 1, 0)]), ((7, 0), [(0, 0, 1)])])
  | 202 => some (zu_Lx 40 40 [188] [((0, 7), [(1, 1, 0)]), ((7, 0), [(1, 0, 1)]), ((0, 0), [(0, 0, 1), (2, 1, 0)]), ((0, 0), [(0, 1, 0), (2, 0, 1)]), ((0, 0), [(3, 0, 1)])])
  | 203 => some (zu_Ln 41)
  | 204 => some (zu_Lv 41 41 [((0, 7), [(0, 1, 0)]), ((7, 0), [(0, 0, 1)])])
  | 205 => some (zu_Lx 41 41 [195] [((0, 7), [(1, 1, 0)]), ((7, 0), [(1, 0, 1)]), ((0, 0), [(0, 0, 1), (2, 1, 0)]), ((0, 0), [(0, 1, 0), (2, 0, 1)]), ((0, 0), [(3, 0, 1)])])
  | 206 => some (zu_Ln 42)
  | 207 => some (zu_Li 42 [((0, 0), [(0, 0, 1)])])
  | 208 => some (zu_Lx 42 42 [304, 179] [((0, 0), [(1, 1, 0), (3, 0, 1)]), ((0, 0), [(1, 0, 1), (3, 1, 0)]), ((0, 1), [(0, 0, 1), (2, 1, 0)]), ((1, 0), [(0, 1, 0), (2, 0, 1)]), ((0, 0), [(0, 0, 1), (4, 1, 0)]), ((0, 0), [(0, 1, 0), (4, 0, 1)]), ((0, 0), [(1, 0, 1), (5, 1, 0)]), ((0, 0), [(1, 1, 0), (5, 0, 1)]), ((0, 1), [(6, 0, 1), (7, 1, 0)])])
  | 209 => some (zu_Ln 43)
  | 210 => some (zu_Li 43 [((0, 0), [(0, 0, 1)])])
  | 211 => some (zu_Ln 45)
  | 212 => some (zu_Li 45 [((0, 0), [(0, 0, 1)])])
  | 213 => some (zu_Lx 45 45 [302, 303, 304] [((0, 0), [(1, 1, 0), (3, 0, 1)]), ((0, 0), [(1, 0, 1), (3, 1, 0)]), ((0, 1), [(0, 0, 1), (2, 1, 0)]), ((1, 0), [(0, 1, 0), (2, 0, 1)]), ((0, 0), [(0, 0, 1), (4, 1, 0)]), ((0, 0), [(0, 1, 0), (4, 0, 1)]), ((0, 0), [(0, 0, 1), (5, 1, 0)]), ((0, 0), [(0, 1, 0), (5, 0, 1)]), ((0, 0), [(0, 0, 1), (6, 1, 0)]), ((0, 0), [(0, 1, 0), (6, 0, 1)]), ((0, 1), [(7, 1, 0)]), ((1, 0), [(7, 0, 1)]), ((0, 0), [(8, 1, 0)])])
  | 214 => some (zu_Lx 45 45 [302, 303, 304] [((0, 0), [(1, 1, 0), (3, 0, 1)]), ((0, 0), [(1, 0, 1), (3, 1, 0)]), ((0, 1), [(0, 0, 1), (2, 1, 0)]), ((1, 0), [(0, 1, 0), (2, 0, 1)]), ((0, 0), [(0, 0, 1), (4, 1, 0)]), ((0, 0), [(0, 1, 0), (4, 0, 1)]), ((0, 0), [(0, 0, 1), (5, 1, 0)]), ((0, 0), [(0, 1, 0), (5, 0, 1)]), ((0, 0), [(0, 0, 1), (6, 1, 0)]), ((0, 0), [(0, 1, 0), (6, 0, 1)]), ((0, 2), [(7, 1, 0)]), ((2, 0), [(7, 0, 1)]), ((0, 0), [(9, 1, 0)])])
  | 215 => some (zu_Lx 45 45 [302, 303, 304] [((0, 0), [(1, 1, 0), (3, 0, 1)]), ((0, 0), [(1, 0, 1), (3, 1, 0)]), ((0, 1), [(0, 0, 1), (2, 1, 0)]), ((1, 0), [(0, 1, 0), (2, 0, 1)]), ((0, 0), [(0, 0, 1), (4, 1, 0)]), ((0, 0), [(0, 1, 0), (4, 0, 1)]), ((0, 0), [(0, 0, 1), (5, 1, 0)]), ((0, 0), [(0, 1, 0), (5, 0, 1)]), ((0, 0), [(0, 0, 1), (6, 1, 0)]), ((0, 0), [(0, 1, 0), (6, 0, 1)]), ((0, 3), [(7, 1, 0)]), ((3, 0), [(7, 0, 1)])])
  | 216 => some (zu_Ln 46)
  | 217 => some (zu_Li 46 [((0, 0), [(0, 0, 1)])])
  | 218 => some (zu_Lx 46 46 [308] [((0, 1), [(0, 0, 1), (1, 1, 0)]), ((1, 0), [(0, 1, 0), (1, 0, 1)]), ((0, 0), [(0, 0, 1), (2, 1, 0)]), ((0, 0), [(0, 1, 0), (2, 0, 1)]), ((1, 0), [(3, 0, 1)])])
  | 219 => some (zu_Lx 46 46 [308] [((0, 1), [(0, 0, 1), (1, 1, 0)]), ((1, 0), [(0, 1, 0), (1, 0, 1)]), ((0, 0), [(0, 0, 1), (2, 1, 0)]), ((0, 0), [(0, 1, 0), (2, 0, 1)]), ((0, 3), [(3, 1, 0)])])
  | 220 => some (zu_Lx 46 46 [309, 297] [((0, 1), [(0, 0, 1), (1, 1, 0)]), ((1, 0), [(0, 1, 0), (1, 0, 1)]), ((0, 0), [(0, 0, 1), (2, 1, 0)]), ((0, 0), [(0, 1, 0), (2, 0, 1)]), ((0, 0), [(3, 1, 0), (4, 0, 1)]), ((0, 0), [(3, 0, 1), (4, 1, 0)]), ((0, 0), [(4, 1, 0)]), ((9, 0), [(4, 0, 1)]), ((0, 0), [(5, 1, 0)])])
  | 221 => some (zu_Lv 43 43 [((0, 0), [(1, 1, 0), (3, 0, 1)]), ((0, 0), [(1, 0, 1), (3, 1, 0)]), ((0, 0), [(0, 1, 0), (2, 0, 1)])])
  | 222 => some (zu_Ln 50)
  | 223 => some (zu_Li 51 [((0, 0), [(1, 0, 1)])])
  | 224 => some (zu_Ln 51)
  | 225 => some (zu_Li 52 [((0, 0), [(1, 0, 1)])])
  | 226 => some (zu_Lx 52 52 [195, 196, 186] [((0, 0), [(0, 1, 0), (2, 0, 1)]), ((0, 0), [(0, 0, 1), (2, 1, 0)]), ((0, 1), [(1, 0, 1), (3, 1, 0)]), ((1, 0), [(1, 1, 0), (3, 0, 1)]), ((0, 0), [(1, 1, 0), (4, 0, 3000)]), ((2999, 0), [(1, 0, 1), (4, 3000, 0)]), ((0, 0), [(1, 0, 1), (5, 1, 0)]), ((0, 0), [(1, 1, 0), (5, 0, 1)]), ((0, 0), [(4, 0, 64), (6, 1, 0), (8, 0, 1)]), ((0, 0), [(4, 64, 0), (6, 0, 1), (8, 1, 0)]), ((0, 0), [(9, 0, 1)])])
  | 227 => some (zu_Lx 52 52 [199] [((0, 0), [(0, 1, 0), (2, 0, 1)]), ((0, 0), [(0, 0, 1), (2, 1, 0)]), ((0, 1), [(1, 0, 1), (3, 1, 0)]), ((1, 0), [(1, 1, 0), (3, 0, 1)]), ((0, 0), [(1, 0, 1), (4, 1, 0)]), ((0, 0), [(1, 1, 0), (4, 0, 1)]), ((0, 0), [(5, 1, 0)])])
  | 228 => some (zu_Lx 52 52 [201, 315] [((0, 0), [(0, 1, 0), (2, 0, 1)]), ((0, 0), [(0, 0, 1), (2, 1, 0)]), ((0, 1), [(1, 0, 1), (3, 1, 0)]), ((1, 0), [(1, 1, 0), (3, 0, 1)]), ((0, 0), [(1, 0, 1), (4, 1, 0)]), ((0, 0), [(1, 1, 0), (4, 0, 1)]), ((0, 0), [(5, 1, 0), (6, 0, 1)]), ((0, 0), [(5, 0, 1), (6, 1, 0)]), ((0, 0), [(6, 1, 0)]), ((0, 1), [(7, 1, 0)])])
  | 229 => some (zu_Lx 52 52 [195] [((0, 0), [(0, 1, 0), (2, 0, 1)]), ((0, 0), [(0, 0, 1), (2, 1, 0)]), ((0, 0), [(5, 1, 0)]), ((0, 0), [(1, 1, 0), (4, 0, 3000), (5, 0, 1)]), ((0, 3000), [(3, 1, 0), (4, 0, 3000)]), ((3000, 0), [(3, 0, 1), (4, 3000, 0)])])
  | 230 => some (zu_Lv 52 52 [((0, 0), [(0, 1, 0), (2, 0, 1)]), ((0, 0), [(0, 0, 1), (2, 1, 0)]), ((0, 0), [(0, 0, 3000), (1, 1, 0)]), ((18000, 0), [(3, 0, 1)])])
  | 231 => some (zu_Ln 52)
  | 239 => some (zu_Li 50 [((0, 0), [(1, 0, 1)])])
  | 240 => some (zu_L1 52)
  | 241 => some (zu_Lv 50 50 [((0, 0), [(0, 1, 0), (2, 0, 1)]), ((0, 0), [(0, 0, 1), (2, 1, 0)]), ((0, 0), [(1, 1, 0), (3, 0, 1)])])
  | 243 => some (zu_Lv 51 51 [((0, 0), [(0, 1, 0), (2, 0, 1)]), ((0, 0), [(0, 0, 1), (2, 1, 0)]), ((0, 0), [(1, 1, 0), (3, 0, 1)])])
  | 244 => some (zu_Lv 46 46 [((0, 0), [(0, 1, 0), (1, 0, 1)])])
  | 250 => some (zu_Ln 53)
  | 251 => some (zu_Li 53 [((0, 0), [(1, 0, 1)])])
  | 252 => some (zu_Lx 53 53 [186] [((0, 0), [(0, 1, 0), (4, 0, 1)]), ((0, 0), [(0, 0, 1), (4, 1, 0)]), ((0, 0), [(2, 1, 0), (6, 0, 1)]), ((0, 0), [(2, 0, 1), (6, 1, 0)]), ((0, 0), [(3, 1, 0), (7, 0, 1)]), ((0, 0), [(3, 0, 1), (7, 1, 0)]), ((0, 1), [(1, 0, 1), (5, 1, 0)]), ((1, 0), [(1, 1, 0), (5, 0, 1)]), ((0, 0), [(1, 0, 1), (8, 1, 0)]), ((0, 0), [(1, 1, 0), (8, 0, 1)]), ((0, 0), [(9, 0, 1)])])
  | 253 => some (zu_Lx 53 53 [181] [((0, 0), [(0, 1, 0), (4, 0, 1)]), ((0, 0), [(0, 0, 1), (4, 1, 0)]), ((0, 0), [(2, 1, 0), (6, 0, 1)]), ((0, 0), [(2, 0, 1), (6, 1, 0)]), ((0, 0), [(3, 1, 0), (7, 0, 1)]), ((0, 0), [(3, 0, 1), (7, 1, 0)]), ((0, 1), [(1, 0, 1), (5, 1, 0)]), ((1, 0), [(1, 1, 0), (5, 0, 1)]), ((0, 0), [(1, 0, 1), (8, 1, 0)]), ((0, 0), [(1, 1, 0), (8, 0, 1)]), ((0, 1), [(9, 1, 0)])])
  | 254 => some (zu_Lx 53 53 [179] [((0, 0), [(0, 1, 0), (4, 0, 1)]), ((0, 0), [(0, 0, 1), (4, 1, 0)]), ((0, 0), [(2, 1, 0), (6, 0, 1)]), ((0, 0), [(2, 0, 1), (6, 1, 0)]), ((0, 0), [(3, 1, 0), (7, 0, 1)]), ((0, 0), [(3, 0, 1), (7, 1, 0)]), ((0, 0), [(9, 1, 0)]), ((0, 0), [(1, 1, 0), (8, 0, 64), (9, 0, 1)]), ((0, 64), [(5, 1, 0), (8, 0, 64)]), ((64, 0), [(5, 0, 1), (8, 64, 0)])])
  | 255 => some (zu_Lv 53 53 [((0, 0), [(0, 1, 0), (4, 0, 1)]), ((0, 0), [(0, 0, 1), (4, 1, 0)]), ((0, 0), [(2, 1, 0), (6, 0, 1)]), ((0, 0), [(2, 0, 1), (6, 1, 0)]), ((0, 0), [(3, 1, 0), (7, 0, 1)]), ((0, 0), [(3, 0, 1), (7, 1, 0)]), ((0, 0), [(0, 0, 64), (1, 1, 0)]), ((384, 0), [(5, 0, 1)])])
  | 256 => some (zu_Lv 53 53 [((0, 0), [(0, 1, 0), (4, 0, 1)]), ((0, 0), [(0, 0, 1), (4, 1, 0)]), ((0, 0), [(2, 1, 0), (6, 0, 1)]), ((0, 0), [(2, 0, 1), (6, 1, 0)]), ((0, 0), [(1, 1, 0), (5, 0, 1)]), ((0, 0), [(1, 0, 1), (5, 1, 0)]), ((0, 0), [(3, 0, 1), (7, 1, 0)])])
  | 260 => some (zu_Ln 54)
  | 261 => some (zu_Li 54 [((0, 0), [(1, 0, 1)])])
  | 262 => some (zu_Lx 54 54 [186] [((0, 0), [(0, 1, 0), (4, 0, 1)]), ((0, 0), [(0, 0, 1), (4, 1, 0)]), ((0, 0), [(2, 1, 0), (6, 0, 1)]), ((0, 0), [(2, 0, 1), (6, 1, 0)]), ((0, 0), [(3, 1, 0), (7, 0, 1)]), ((0, 0), [(3, 0, 1), (7, 1, 0)]), ((0, 1), [(1, 0, 1), (5, 1, 0)]), ((1, 0), [(1, 1, 0), (5, 0, 1)]), ((0, 0), [(1, 0, 1), (8, 1, 0)]), ((0, 0), [(1, 1, 0), (8, 0, 1)]), ((0, 0), [(9, 0, 1)])])
  | 263 => some (zu_Lx 54 54 [181] [((0, 0), [(0, 1, 0), (4, 0, 1)]), ((0, 0), [(0, 0, 1), (4, 1, 0)]), ((0, 0), [(2, 1, 0), (6, 0, 1)]), ((0, 0), [(2, 0, 1), (6, 1, 0)]), ((0, 0), [(3, 1, 0), (7, 0, 1)]), ((0, 0), [(3, 0, 1), (7, 1, 0)]), ((0, 1), [(1, 0, 1), (5, 1, 0)]), ((1, 0), [(1, 1, 0), (5, 0, 1)]), ((0, 0), [(1, 0, 1), (8, 1, 0)]), ((0, 0), [(1, 1, 0), (8, 0, 1)]), ((0, 0), [(9, 0, 1)])])
  | 264 => some (zu_Lx 54 54 [179] [((0, 0), [(0, 1, 0), (4, 0, 1)]), ((0, 0), [(0, 0, 1), (4, 1, 0)]), ((0, 0), [(2, 1, 0), (6, 0, 1)]), ((0, 0), [(2, 0, 1), (6, 1, 0)]), ((0, 0), [(3, 1, 0), (7, 0, 1)]), ((0, 0), [(3, 0, 1), (7, 1, 0)]), ((0, 0), [(9, 1, 0)]), ((0, 0), [(1, 1, 0), (8, 0, 64), (9, 0, 1)]), ((0, 64), [(5, 1, 0), (8, 0, 64)]), ((64, 0), [(5, 0, 1), (8, 64, 0)])])
  | 265 => some (zu_Lv 54 54 [((0, 0), [(0, 1, 0), (4, 0, 1)]), ((0, 0), [(0, 0, 1), (4, 1, 0)]), ((0, 0), [(2, 1, 0), (6, 0, 1)]), ((0, 0), [(2, 0, 1), (6, 1, 0)]), ((0, 0), [(3, 1, 0), (7, 0, 1)]), ((0, 0), [(3, 0, 1), (7, 1, 0)]), ((0, 0), [(0, 0, 64), (1, 1, 0)]), ((384, 0), [(5, 0, 1)])])
  | 266 => some (zu_Lv 54 54 [((0, 0), [(0, 1, 0), (4, 0, 1)]), ((0, 0), [(0, 0, 1), (4, 1, 0)]), ((0, 0), [(2, 1, 0), (6, 0, 1)]), ((0, 0), [(2, 0, 1), (6, 1, 0)]), ((0, 0), [(1, 1, 0), (5, 0, 1)]), ((0, 0), [(1, 0, 1), (5, 1, 0)]), ((0, 0), [(3, 0, 1), (7, 1, 0)])])
  | 270 => some (zx_D270)
  | _ => zLLb j
def zVLc (j : Nat) : Option zx_V := match j with
  | 700 => some (zx_E700)
  | 701 => some (zx_E701)
  | 702 => some (zx_E702)
  | 703 => some (zx_E703)
  | 704 => some (zx_E704)
  | 705 => some (zx_E705)
  | 706 => some (zx_E706)
  | 707 => some (zx_E707)
  | 708 => some (zx_E708)
  | 709 => some (zu_Vw 176 16 16 [] [((0, 0), [(0, 1, 0), (1, 0, 1)]), ((0, 0), [(0, 0, 1), (1, 1, 0)]), ((0, 0), [(0, 0, 1), (2, 1, 0)])])
  | 710 => some (zx_E710)
  | 720 => some (zx_E720)
  | 733 => some (zx_E733)
  | 734 => some (zx_E734)
  | 735 => some (zx_E735)
  | 736 => some (zx_E736)
  | 737 => some (zx_E737)
  | 738 => some (zx_E738)
  | 740 => some (zx_E740)
  | 741 => some (zx_E741)
  | 742 => some (zx_E742)
  | 743 => some (zx_E743)
  | 744 => some (zx_E744)
  | 745 => some (zx_E745)
  | 746 => some (zx_E746)
  | 747 => some (zx_E747)
  | 748 => some (zx_E748)
  | 749 => some (zx_E749)
  | 750 => some (zx_E750)
  | 751 => some (zx_E751)
  | 752 => some (zx_E752)
  | 760 => some (zx_E760)
  | 761 => some (zx_E761)
  | 762 => some (zx_E762)
  | 763 => some (zx_E763)
  | 764 => some (zx_E764)
  | 765 => some (zx_E765)
  | 766 => some (zx_E766)
  | 767 => some (zx_E767)
  | 770 => some (zx_E770)
  | 771 => some (zx_E771)
  | 772 => some (zx_E772)
  | 773 => some (zx_E773)
  | 774 => some (zx_E774)
  | 775 => some (zx_E775)
  | 777 => some (zx_E777)
  | 778 => some (zx_E778)
  | 779 => some (zx_E779)
  | 780 => some (zx_E780)
  | 781 => some (zx_E781)
  | 782 => some (zx_E782)
  | 783 => some (zx_E783)
  | 784 => some (zx_E784)
  | 785 => some (zx_E785)
  | 786 => some (zx_E786)
  | 787 => some (zx_E787)
  | 788 => some (zx_E788)
  | _ => none
def zVLb (j : Nat) : Option zx_V := match j with
  | 400 => some (zx_E400)
  | 401 => some (zu_Vw 67 65 65 [31] [((0, 0), [(0, 1, 0), (3, 0, 1)]), ((0, 0), [(0, 0, 1), (3, 1, 0)]), ((0, 0), [(2, 1, 0), (5, 0, 1)]), ((0, 0), [(2, 0, 1), (5, 1, 0)]), ((0, 0), [(1, 1, 0), (4, 0, 1)]), ((0, 0), [(1, 0, 1), (4, 1, 0)]), ((0, 4), [(6, 1, 0), (8, 0, 6)]), ((4, 0), [(6, 0, 1), (8, 6, 0)])])
  | 402 => some (zu_Vw 67 65 65 [31] [((0, 0), [(0, 1, 0), (3, 0, 1)]), ((0, 0), [(0, 0, 1), (3, 1, 0)]), ((0, 0), [(2, 1, 0), (5, 0, 1)]), ((0, 0), [(2, 0, 1), (5, 1, 0)]), ((0, 0), [(1, 1, 0), (4, 0, 1)]), ((0, 0), [(1, 0, 1), (4, 1, 0)]), ((0, 5), [(6, 1, 0), (8, 0, 6)]), ((5, 0), [(6, 0, 1), (8, 6, 0)])])
  | 403 => some (zu_Vw 84 1065 1065 [31] [((0, 0), [(0, 1, 0), (3, 0, 1)]), ((0, 0), [(0, 0, 1), (3, 1, 0)]), ((0, 0), [(2, 1, 0), (5, 0, 1)]), ((0, 0), [(2, 0, 1), (5, 1, 0)]), ((0, 0), [(1, 1, 0), (4, 0, 1)]), ((0, 0), [(1, 0, 1), (4, 1, 0)]), ((0, 4), [(6, 1, 0), (8, 0, 6)]), ((4, 0), [(6, 0, 1), (8, 6, 0)])])
  | 404 => some (zu_Vw 84 1065 1065 [31] [((0, 0), [(0, 1, 0), (3, 0, 1)]), ((0, 0), [(0, 0, 1), (3, 1, 0)]), ((0, 0), [(2, 1, 0), (5, 0, 1)]), ((0, 0), [(2, 0, 1), (5, 1, 0)]), ((0, 0), [(1, 1, 0), (4, 0, 1)]), ((0, 0), [(1, 0, 1), (4, 1, 0)]), ((0, 5), [(6, 1, 0), (8, 0, 6)]), ((5, 0), [(6, 0, 1), (8, 6, 0)])])
  | 405 => some (zu_Vw 101 2065 2065 [31] [((0, 0), [(0, 1, 0), (3, 0, 1)]), ((0, 0), [(0, 0, 1), (3, 1, 0)]), ((0, 0), [(2, 1, 0), (5, 0, 1)]), ((0, 0), [(2, 0, 1), (5, 1, 0)]), ((0, 0), [(1, 1, 0), (4, 0, 1)]), ((0, 0), [(1, 0, 1), (4, 1, 0)]), ((0, 4), [(6, 1, 0), (8, 0, 6)]), ((4, 0), [(6, 0, 1), (8, 6, 0)])])
  | 406 => some (zu_Vw 101 2065 2065 [31] [((0, 0), [(0, 1, 0), (3, 0, 1)]), ((0, 0), [(0, 0, 1), (3, 1, 0)]), ((0, 0), [(2, 1, 0), (5, 0, 1)]), ((0, 0), [(2, 0, 1), (5, 1, 0)]), ((0, 0), [(1, 1, 0), (4, 0, 1)]), ((0, 0), [(1, 0, 1), (4, 1, 0)]), ((0, 5), [(6, 1, 0), (8, 0, 6)]), ((5, 0), [(6, 0, 1), (8, 6, 0)])])
  | 407 => some (zu_Vw 118 3065 3065 [31] [((0, 0), [(0, 1, 0), (3, 0, 1)]), ((0, 0), [(0, 0, 1), (3, 1, 0)]), ((0, 0), [(2, 1, 0), (5, 0, 1)]), ((0, 0), [(2, 0, 1), (5, 1, 0)]), ((0, 0), [(1, 1, 0), (4, 0, 1)]), ((0, 0), [(1, 0, 1), (4, 1, 0)]), ((0, 4), [(6, 1, 0), (8, 0, 6)]), ((4, 0), [(6, 0, 1), (8, 6, 0)])])
  | 408 => some (zu_Vw 118 3065 3065 [31] [((0, 0), [(0, 1, 0), (3, 0, 1)]), ((0, 0), [(0, 0, 1), (3, 1, 0)]), ((0, 0), [(2, 1, 0), (5, 0, 1)]), ((0, 0), [(2, 0, 1), (5, 1, 0)]), ((0, 0), [(1, 1, 0), (4, 0, 1)]), ((0, 0), [(1, 0, 1), (4, 1, 0)]), ((0, 5), [(6, 1, 0), (8, 0, 6)]), ((5, 0), [(6, 0, 1), (8, 6, 0)])])
  | 409 => some (zu_Vw 135 4065 4065 [31] [((0, 0), [(0, 1, 0), (3, 0, 1)]), ((0, 0), [(0, 0, 1), (3, 1, 0)]), ((0, 0), [(2, 1, 0), (5, 0, 1)]), ((0, 0), [(2, 0, 1), (5, 1, 0)]), ((0, 0), [(1, 1, 0), (4, 0, 1)]), ((0, 0), [(1, 0, 1), (4, 1, 0)]), ((0, 4), [(6, 1, 0), (8, 0, 6)]), ((4, 0), [(6, 0, 1), (8, 6, 0)])])
  | 410 => some (zu_Vw 135 4065 4065 [31] [((0, 0), [(0, 1, 0), (3, 0, 1)]), ((0, 0), [(0, 0, 1), (3, 1, 0)]), ((0, 0), [(2, 1, 0), (5, 0, 1)]), ((0, 0), [(2, 0, 1), (5, 1, 0)]), ((0, 0), [(1, 1, 0), (4, 0, 1)]), ((0, 0), [(1, 0, 1), (4, 1, 0)]), ((0, 5), [(6, 1, 0), (8, 0, 6)]), ((5, 0), [(6, 0, 1), (8, 6, 0)])])
  | 411 => some (zu_Vw 152 5065 5065 [31] [((0, 0), [(0, 1, 0), (3, 0, 1)]), ((0, 0), [(0, 0, 1), (3, 1, 0)]), ((0, 0), [(2, 1, 0), (5, 0, 1)]), ((0, 0), [(2, 0, 1), (5, 1, 0)]), ((0, 0), [(1, 1, 0), (4, 0, 1)]), ((0, 0), [(1, 0, 1), (4, 1, 0)]), ((0, 4), [(6, 1, 0), (8, 0, 6)]), ((4, 0), [(6, 0, 1), (8, 6, 0)])])
  | 412 => some (zu_Vw 152 5065 5065 [31] [((0, 0), [(0, 1, 0), (3, 0, 1)]), ((0, 0), [(0, 0, 1), (3, 1, 0)]), ((0, 0), [(2, 1, 0), (5, 0, 1)]), ((0, 0), [(2, 0, 1), (5, 1, 0)]), ((0, 0), [(1, 1, 0), (4, 0, 1)]), ((0, 0), [(1, 0, 1), (4, 1, 0)]), ((0, 5), [(6, 1, 0), (8, 0, 6)]), ((5, 0), [(6, 0, 1), (8, 6, 0)])])
  | 413 => some (zu_Vw 163 80 80 [31] [((0, 0), [(0, 1, 0), (3, 0, 1)]), ((0, 0), [(0, 0, 1), (3, 1, 0)]), ((0, 0), [(2, 1, 0), (5, 0, 1)]), ((0, 0), [(2, 0, 1), (5, 1, 0)]), ((0, 0), [(1, 1, 0), (4, 0, 1)]), ((0, 0), [(1, 0, 1), (4, 1, 0)]), ((0, 4), [(6, 1, 0), (8, 0, 6)]), ((4, 0), [(6, 0, 1), (8, 6, 0)])])
  | 414 => some (zu_Vw 163 80 80 [31] [((0, 0), [(0, 1, 0), (3, 0, 1)]), ((0, 0), [(0, 0, 1), (3, 1, 0)]), ((0, 0), [(2, 1, 0), (5, 0, 1)]), ((0, 0), [(2, 0, 1), (5, 1, 0)]), ((0, 0), [(1, 1, 0), (4, 0, 1)]), ((0, 0), [(1, 0, 1), (4, 1, 0)]), ((0, 5), [(6, 1, 0), (8, 0, 6)]), ((5, 0), [(6, 0, 1), (8, 6, 0)])])
  | 420 => some (zx_E420)
  | 421 => some (zx_E421)
  | 422 => some (zu_Vw 21 84 84 [] [((0, 0), [(0, 1, 0), (3, 0, 1)]), ((0, 0), [(0, 0, 1), (3, 1, 0)]), ((0, 0), [(1, 1, 0), (4, 0, 1)]), ((0, 0), [(1, 0, 1), (4, 1, 0)]), ((0, 0), [(2, 1, 0), (5, 0, 1)]), ((0, 0), [(2, 0, 1), (5, 1, 0)]), ((0, 0), [(2, 0, 3), (6, 1, 0)]), ((2, 0), [(2, 3, 0), (6, 0, 1)]), ((749, 0), [(2, 0, 1)])])
  | 423 => some (zu_Vw 9 84 84 [] [((0, 0), [(0, 1, 0), (3, 0, 1)]), ((0, 0), [(0, 0, 1), (3, 1, 0)]), ((0, 0), [(1, 1, 0), (4, 0, 1)]), ((0, 0), [(1, 0, 1), (4, 1, 0)]), ((0, 0), [(2, 1, 0), (5, 0, 1)]), ((0, 0), [(2, 0, 1), (5, 1, 0)]), ((0, 0), [(7, 0, 1)])])
  | 424 => some (zu_Vw 9 84 84 [21, 21] [((0, 0), [(0, 1, 0), (3, 0, 1)]), ((0, 0), [(0, 0, 1), (3, 1, 0)]), ((0, 0), [(1, 1, 0), (4, 0, 1)]), ((0, 0), [(1, 0, 1), (4, 1, 0)]), ((0, 0), [(2, 1, 0), (5, 0, 1)]), ((0, 0), [(2, 0, 1), (5, 1, 0)]), ((0, 750), [(2, 1, 0)]), ((750, 0), [(2, 0, 1)]), ((2, 0), [(7, 0, 3), (8, 1, 0)]), ((0, 2), [(7, 3, 0), (8, 0, 1)]), ((1, 0), [(7, 0, 3), (9, 1, 0)]), ((0, 1), [(7, 3, 0), (9, 0, 1)]), ((0, 1), [(7, 1, 0)]), ((403, 0), [(10, 0, 1)]), ((0, 0), [(11, 1, 0)]), ((404, 0), [(10, 0, 1), (11, 0, 1)])])
  | 425 => some (zu_Vw 20 82 82 [] [((0, 0), [(0, 1, 0), (2, 0, 1)]), ((0, 0), [(0, 0, 1), (2, 1, 0)]), ((0, 0), [(1, 1, 0), (3, 0, 1)]), ((0, 0), [(1, 0, 1), (3, 1, 0)]), ((0, 0), [(0, 0, 6), (4, 1, 0)])])
  | 426 => some (zu_Vw 20 82 82 [20] [((0, 0), [(0, 1, 0), (2, 0, 1)]), ((0, 0), [(0, 0, 1), (2, 1, 0)]), ((0, 0), [(1, 1, 0), (3, 0, 1)]), ((0, 0), [(1, 0, 1), (3, 1, 0)]), ((0, 2), [(4, 1, 0), (6, 0, 6)]), ((2, 0), [(4, 0, 1), (6, 6, 0)])])
  | 427 => some (zu_Vw 20 82 82 [20] [((0, 0), [(0, 1, 0), (2, 0, 1)]), ((0, 0), [(0, 0, 1), (2, 1, 0)]), ((0, 0), [(1, 1, 0), (3, 0, 1)]), ((0, 0), [(1, 0, 1), (3, 1, 0)]), ((0, 5), [(4, 1, 0), (6, 0, 6)]), ((5, 0), [(4, 0, 1), (6, 6, 0)])])
  | 430 => some (zu_Vw 8 87 87 [] [((0, 0), [(0, 1, 0), (2, 0, 1)]), ((0, 0), [(0, 0, 1), (2, 1, 0)]), ((0, 0), [(1, 1, 0), (3, 0, 1)]), ((0, 0), [(1, 0, 1), (3, 1, 0)]), ((0, 0), [(5, 0, 1)])])
  | 431 => some (zu_Vw 8 86 86 [] [((0, 0), [(0, 1, 0), (4, 0, 1)]), ((0, 0), [(0, 0, 1), (4, 1, 0)]), ((0, 0), [(1, 1, 0), (5, 0, 1)]), ((0, 0), [(1, 0, 1), (5, 1, 0)]), ((0, 0), [(2, 1, 0), (6, 0, 1)]), ((0, 0), [(2, 0, 1), (6, 1, 0)]), ((0, 0), [(3, 1, 0), (7, 0, 1)]), ((0, 0), [(3, 0, 1), (7, 1, 0)]), ((0, 0), [(3, 0, 1), (8, 1, 0)]), ((0, 0), [(3, 1, 0), (8, 0, 1)])])
  | 432 => some (zu_Vw 9 86 86 [] [((0, 0), [(0, 1, 0), (4, 0, 1)]), ((0, 0), [(0, 0, 1), (4, 1, 0)]), ((0, 0), [(1, 1, 0), (5, 0, 1)]), ((0, 0), [(1, 0, 1), (5, 1, 0)]), ((0, 0), [(2, 1, 0), (6, 0, 1)]), ((0, 0), [(2, 0, 1), (6, 1, 0)]), ((0, 0), [(3, 1, 0), (7, 0, 1)]), ((0, 0), [(3, 0, 1), (7, 1, 0)]), ((0, 0), [(3, 0, 1), (8, 1, 0)]), ((0, 0), [(3, 1, 0), (8, 0, 1)])])
  | 433 => some (zu_Vw 64 86 86 [] [((0, 0), [(0, 1, 0), (4, 0, 1)]), ((0, 0), [(0, 0, 1), (4, 1, 0)]), ((0, 0), [(1, 1, 0), (5, 0, 1)]), ((0, 0), [(1, 0, 1), (5, 1, 0)]), ((0, 0), [(2, 1, 0), (6, 0, 1)]), ((0, 0), [(2, 0, 1), (6, 1, 0)]), ((0, 0), [(3, 1, 0), (7, 0, 1)]), ((0, 0), [(3, 0, 1), (7, 1, 0)]), ((0, 0), [(2, 0, 1), (8, 1, 0)])])
  | 434 => some (zu_Vw 20 85 85 [] [((0, 0), [(0, 1, 0), (4, 0, 1)]), ((0, 0), [(0, 0, 1), (4, 1, 0)]), ((0, 0), [(1, 1, 0), (5, 0, 1)]), ((0, 0), [(1, 0, 1), (5, 1, 0)]), ((0, 0), [(2, 1, 0), (6, 0, 1)]), ((0, 0), [(2, 0, 1), (6, 1, 0)]), ((0, 0), [(3, 1, 0), (7, 0, 1)]), ((0, 0), [(3, 0, 1), (7, 1, 0)]), ((0, 0), [(0, 0, 6), (8, 1, 0)])])
  | 435 => some (zu_Vw 64 85 85 [] [((0, 0), [(0, 1, 0), (4, 0, 1)]), ((0, 0), [(0, 0, 1), (4, 1, 0)]), ((0, 0), [(1, 1, 0), (5, 0, 1)]), ((0, 0), [(1, 0, 1), (5, 1, 0)]), ((0, 0), [(2, 1, 0), (6, 0, 1)]), ((0, 0), [(2, 0, 1), (6, 1, 0)]), ((0, 0), [(3, 1, 0), (7, 0, 1)]), ((0, 0), [(3, 0, 1), (7, 1, 0)]), ((0, 0), [(2, 0, 1), (8, 1, 0)])])
  | 440 => some (zx_E440)
  | 441 => some (zx_E441)
  | 442 => some (zx_E442)
  | 443 => some (zx_E443)
  | 444 => some (zx_E444)
  | 445 => some (zx_E445)
  | 446 => some (zx_E446)
  | 447 => some (zx_E447)
  | 448 => some (zx_E448)
  | 460 => some (zu_Vw 62 94 94 [] [((0, 0), [(0, 1, 0), (4, 0, 1)]), ((0, 0), [(0, 0, 1), (4, 1, 0)]), ((0, 0), [(1, 1, 0), (5, 0, 1)]), ((0, 0), [(1, 0, 1), (5, 1, 0)]), ((0, 0), [(2, 1, 0), (6, 0, 1)]), ((0, 0), [(2, 0, 1), (6, 1, 0)]), ((0, 0), [(3, 1, 0), (7, 0, 1)]), ((0, 0), [(3, 0, 1), (7, 1, 0)]), ((0, 0), [(0, 0, 6), (8, 1, 0)])])
  | 461 => some (zu_Vw 62 94 94 [62] [((0, 0), [(0, 1, 0), (4, 0, 1)]), ((0, 0), [(0, 0, 1), (4, 1, 0)]), ((0, 0), [(1, 1, 0), (5, 0, 1)]), ((0, 0), [(1, 0, 1), (5, 1, 0)]), ((0, 0), [(2, 1, 0), (6, 0, 1)]), ((0, 0), [(2, 0, 1), (6, 1, 0)]), ((0, 0), [(3, 1, 0), (7, 0, 1)]), ((0, 0), [(3, 0, 1), (7, 1, 0)]), ((0, 0), [(8, 1, 0), (10, 0, 6)]), ((0, 0), [(8, 0, 1), (10, 6, 0)])])
  | 462 => some (zu_Vw 62 94 94 [62] [((0, 0), [(0, 1, 0), (4, 0, 1)]), ((0, 0), [(0, 0, 1), (4, 1, 0)]), ((0, 0), [(1, 1, 0), (5, 0, 1)]), ((0, 0), [(1, 0, 1), (5, 1, 0)]), ((0, 0), [(2, 1, 0), (6, 0, 1)]), ((0, 0), [(2, 0, 1), (6, 1, 0)]), ((0, 0), [(3, 1, 0), (7, 0, 1)]), ((0, 0), [(3, 0, 1), (7, 1, 0)]), ((0, 2), [(8, 1, 0), (10, 0, 6)]), ((2, 0), [(8, 0, 1), (10, 6, 0)])])
  | 463 => some (zu_Vw 62 94 94 [62] [((0, 0), [(0, 1, 0), (4, 0, 1)]), ((0, 0), [(0, 0, 1), (4, 1, 0)]), ((0, 0), [(1, 1, 0), (5, 0, 1)]), ((0, 0), [(1, 0, 1), (5, 1, 0)]), ((0, 0), [(2, 1, 0), (6, 0, 1)]), ((0, 0), [(2, 0, 1), (6, 1, 0)]), ((0, 0), [(3, 1, 0), (7, 0, 1)]), ((0, 0), [(3, 0, 1), (7, 1, 0)]), ((0, 3), [(8, 1, 0), (10, 0, 6)]), ((3, 0), [(8, 0, 1), (10, 6, 0)])])
  | 464 => some (zu_Vw 61 94 94 [] [((0, 0), [(0, 1, 0), (4, 0, 1)]), ((0, 0), [(0, 0, 1), (4, 1, 0)]), ((0, 0), [(1, 1, 0), (5, 0, 1)]), ((0, 0), [(1, 0, 1), (5, 1, 0)]), ((0, 0), [(2, 1, 0), (6, 0, 1)]), ((0, 0), [(2, 0, 1), (6, 1, 0)]), ((0, 0), [(3, 1, 0), (7, 0, 1)]), ((0, 0), [(3, 0, 1), (7, 1, 0)]), ((0, 0), [(1, 0, 2), (8, 1, 0)])])
  | 465 => some (zu_Vw 61 94 94 [61] [((0, 0), [(0, 1, 0), (4, 0, 1)]), ((0, 0), [(0, 0, 1), (4, 1, 0)]), ((0, 0), [(1, 1, 0), (5, 0, 1)]), ((0, 0), [(1, 0, 1), (5, 1, 0)]), ((0, 0), [(2, 1, 0), (6, 0, 1)]), ((0, 0), [(2, 0, 1), (6, 1, 0)]), ((0, 0), [(3, 1, 0), (7, 0, 1)]), ((0, 0), [(3, 0, 1), (7, 1, 0)]), ((0, 1), [(8, 1, 0), (10, 0, 2)]), ((1, 0), [(8, 0, 1), (10, 2, 0)])])
  | 466 => some (zx_E466)
  | 467 => some (zx_E467)
  | 468 => some (zx_E468)
  | 475 => some (zx_E475)
  | 476 => some (zx_E476)
  | 477 => some (zx_E477)
  | 478 => some (zx_E478)
  | 479 => some (zx_E479)
  | 480 => some (zx_E480)
  | 481 => some (zx_E481)
  | 482 => some (zx_E482)
  | 483 => some (zx_E483)
  | 484 => some (zx_E484)
  | 490 => some (zx_E490)
  | 491 => some (zx_E491)
  | 492 => some (zx_E492)
  | 493 => some (zx_E493)
  | 494 => some (zx_E494)
  | 495 => some (zx_E495)
  | 496 => some (zx_E496)
  | 497 => some (zx_E497)
  | 498 => some (zx_E498)
  | 499 => some (zx_E499)
  | 500 => some (zx_E500)
  | 501 => some (zx_E501)
  | 502 => some (zx_E502)
  | 503 => some (zu_Vw 208 97 97 [207] [((0, 0), [(0, 1, 0), (1, 0, 1)]), ((0, 0), [(0, 0, 1), (1, 1, 0)]), ((0, 0), [(0, 0, 1), (4, 1, 0)]), ((0, 0), [(0, 1, 0), (4, 0, 1)]), ((0, 0), [(5, 1, 0)]), ((0, 0), [(0, 0, 8000), (2, 1, 0), (5, 0, 1)])])
  | 504 => some (zu_Vw 209 97 97 [207] [((0, 0), [(0, 1, 0), (1, 0, 1)]), ((0, 0), [(0, 0, 1), (1, 1, 0)]), ((0, 0), [(0, 0, 1), (4, 1, 0)]), ((0, 0), [(0, 1, 0), (4, 0, 1)]), ((0, 0), [(5, 1, 0)]), ((0, 0), [(0, 0, 8000), (2, 1, 0), (5, 0, 1)])])
  | 505 => some (zu_Vw 207 97 97 [207, 208, 209, 210] [((0, 0), [(0, 1, 0), (1, 0, 1)]), ((0, 0), [(0, 0, 1), (1, 1, 0)]), ((0, 0), [(0, 0, 1), (2, 1, 0)]), ((0, 0), [(0, 1, 0), (2, 0, 1)]), ((0, 0), [(0, 0, 1), (4, 1, 0)]), ((0, 0), [(0, 1, 0), (4, 0, 1)]), ((0, 0), [(0, 0, 8000), (5, 1, 0), (8, 0, 1)]), ((0, 0), [(0, 8000, 0), (5, 0, 1), (8, 1, 0)]), ((0, 0), [(0, 0, 8000), (6, 1, 0), (8, 0, 1)]), ((0, 0), [(0, 8000, 0), (6, 0, 1), (8, 1, 0)]), ((0, 0), [(0, 0, 8000), (7, 1, 0), (8, 0, 1)]), ((0, 0), [(0, 8000, 0), (7, 0, 1), (8, 1, 0)]), ((0, 1), [(3, 1, 0), (8, 0, 1)]), ((1, 0), [(3, 0, 1), (8, 1, 0)]), ((0, 0), [(8, 1, 0)]), ((0, 1), [(9, 1, 0)]), ((4, 0), [(9, 0, 1)])])
  | 506 => some (zu_Vw 207 97 97 [207, 208, 209, 210] [((0, 0), [(0, 1, 0), (1, 0, 1)]), ((0, 0), [(0, 0, 1), (1, 1, 0)]), ((0, 0), [(0, 0, 1), (2, 1, 0)]), ((0, 0), [(0, 1, 0), (2, 0, 1)]), ((0, 0), [(0, 0, 1), (4, 1, 0)]), ((0, 0), [(0, 1, 0), (4, 0, 1)]), ((0, 0), [(0, 0, 8000), (5, 1, 0), (8, 0, 1)]), ((0, 0), [(0, 8000, 0), (5, 0, 1), (8, 1, 0)]), ((0, 0), [(0, 0, 8000), (6, 1, 0), (8, 0, 1)]), ((0, 0), [(0, 8000, 0), (6, 0, 1), (8, 1, 0)]), ((0, 0), [(0, 0, 8000), (7, 1, 0), (8, 0, 1)]), ((0, 0), [(0, 8000, 0), (7, 0, 1), (8, 1, 0)]), ((0, 1), [(3, 1, 0), (8, 0, 1)]), ((1, 0), [(3, 0, 1), (8, 1, 0)]), ((0, 0), [(8, 1, 0)]), ((0, 9), [(9, 1, 0)]), ((10, 0), [(9, 0, 1)])])
  | 507 => some (zu_Vw 207 97 97 [207, 208, 209, 210] [((0, 0), [(0, 1, 0), (1, 0, 1)]), ((0, 0), [(0, 0, 1), (1, 1, 0)]), ((0, 0), [(0, 0, 1), (2, 1, 0)]), ((0, 0), [(0, 1, 0), (2, 0, 1)]), ((0, 0), [(0, 0, 1), (4, 1, 0)]), ((0, 0), [(0, 1, 0), (4, 0, 1)]), ((0, 0), [(0, 0, 8000), (5, 1, 0), (8, 0, 1)]), ((0, 0), [(0, 8000, 0), (5, 0, 1), (8, 1, 0)]), ((0, 0), [(0, 0, 8000), (6, 1, 0), (8, 0, 1)]), ((0, 0), [(0, 8000, 0), (6, 0, 1), (8, 1, 0)]), ((0, 0), [(0, 0, 8000), (7, 1, 0), (8, 0, 1)]), ((0, 0), [(0, 8000, 0), (7, 0, 1), (8, 1, 0)]), ((0, 1), [(3, 1, 0), (8, 0, 1)]), ((1, 0), [(3, 0, 1), (8, 1, 0)]), ((0, 0), [(8, 1, 0)]), ((0, 13), [(9, 1, 0)])])
  | 508 => some (zu_Vw 207 97 97 [207, 208, 209, 210] [((0, 0), [(0, 1, 0), (1, 0, 1)]), ((0, 0), [(0, 0, 1), (1, 1, 0)]), ((0, 0), [(0, 0, 1), (2, 1, 0)]), ((0, 0), [(0, 1, 0), (2, 0, 1)]), ((0, 0), [(0, 0, 1), (4, 1, 0)]), ((0, 0), [(0, 1, 0), (4, 0, 1)]), ((0, 0), [(0, 0, 8000), (5, 1, 0), (8, 0, 1)]), ((0, 0), [(0, 8000, 0), (5, 0, 1), (8, 1, 0)]), ((0, 0), [(0, 0, 8000), (6, 1, 0), (8, 0, 1)]), ((0, 0), [(0, 8000, 0), (6, 0, 1), (8, 1, 0)]), ((0, 0), [(0, 0, 8000), (7, 1, 0), (8, 0, 1)]), ((0, 0), [(0, 8000, 0), (7, 0, 1), (8, 1, 0)]), ((0, 1), [(3, 1, 0), (8, 0, 1)]), ((1, 0), [(3, 0, 1), (8, 1, 0)]), ((0, 0), [(8, 1, 0)]), ((0, 0), [(10, 1, 0)]), ((65535, 0), [(10, 0, 1)]), ((7, 0), [(9, 0, 1)]), ((0, 5), [(9, 1, 0)])])
  | 509 => some (zu_Vw 207 98 97 [] [((0, 0), [(0, 1, 0), (1, 0, 1)]), ((0, 0), [(0, 0, 1), (1, 1, 0)]), ((0, 0), [(0, 0, 1), (2, 1, 0)]), ((0, 0), [(0, 1, 0), (2, 0, 1)]), ((0, 0), [(3, 0, 1)])])
  | 510 => some (zu_Vw 207 97 97 [207, 208, 209, 210] [((0, 0), [(0, 1, 0), (1, 0, 1)]), ((0, 0), [(0, 0, 1), (1, 1, 0)]), ((0, 0), [(0, 0, 1), (2, 1, 0)]), ((0, 0), [(0, 1, 0), (2, 0, 1)]), ((0, 0), [(0, 0, 1), (4, 1, 0)]), ((0, 0), [(0, 1, 0), (4, 0, 1)]), ((0, 0), [(0, 0, 8000), (5, 1, 0), (8, 0, 1)]), ((0, 0), [(0, 8000, 0), (5, 0, 1), (8, 1, 0)]), ((0, 0), [(0, 0, 8000), (6, 1, 0), (8, 0, 1)]), ((0, 0), [(0, 8000, 0), (6, 0, 1), (8, 1, 0)]), ((0, 0), [(0, 0, 8000), (7, 1, 0), (8, 0, 1)]), ((0, 0), [(0, 8000, 0), (7, 0, 1), (8, 1, 0)]), ((0, 1), [(3, 1, 0), (8, 0, 1)]), ((1, 0), [(3, 0, 1), (8, 1, 0)]), ((0, 0), [(8, 1, 0)]), ((0, 0), [(9, 0, 1)]), ((0, 0), [(10, 1, 0)]), ((3000, 0), [(10, 0, 1)])])
  | 511 => some (zu_Vw 210 97 97 [207] [((0, 0), [(0, 1, 0), (1, 0, 1)]), ((0, 0), [(0, 0, 1), (1, 1, 0)]), ((0, 0), [(0, 0, 1), (4, 1, 0)]), ((0, 0), [(0, 1, 0), (4, 0, 1)]), ((0, 0), [(5, 1, 0)]), ((0, 0), [(0, 0, 8000), (2, 1, 0), (5, 0, 1)])])
  | 512 => some (zu_Vw 207 97 97 [207, 208, 209, 210] [((0, 0), [(0, 1, 0), (1, 0, 1)]), ((0, 0), [(0, 0, 1), (1, 1, 0)]), ((0, 0), [(0, 0, 1), (2, 1, 0)]), ((0, 0), [(0, 1, 0), (2, 0, 1)]), ((0, 0), [(0, 0, 1), (4, 1, 0)]), ((0, 0), [(0, 1, 0), (4, 0, 1)]), ((0, 0), [(0, 0, 8000), (5, 1, 0), (8, 0, 1)]), ((0, 0), [(0, 8000, 0), (5, 0, 1), (8, 1, 0)]), ((0, 0), [(0, 0, 8000), (6, 1, 0), (8, 0, 1)]), ((0, 0), [(0, 8000, 0), (6, 0, 1), (8, 1, 0)]), ((0, 0), [(0, 0, 8000), (7, 1, 0), (8, 0, 1)]), ((0, 0), [(0, 8000, 0), (7, 0, 1), (8, 1, 0)]), ((0, 1), [(3, 1, 0), (8, 0, 1)]), ((1, 0), [(3, 0, 1), (8, 1, 0)]), ((0, 0), [(8, 1, 0)]), ((0, 0), [(10, 1, 0)]), ((65535, 0), [(10, 0, 1)]), ((0, 11), [(9, 1, 0)]), ((12, 0), [(9, 0, 1)])])
  | 513 => some (zu_Vw 207 97 97 [207, 208, 209, 210] [((0, 0), [(0, 1, 0), (1, 0, 1)]), ((0, 0), [(0, 0, 1), (1, 1, 0)]), ((0, 0), [(0, 0, 1), (2, 1, 0)]), ((0, 0), [(0, 1, 0), (2, 0, 1)]), ((0, 0), [(0, 0, 1), (4, 1, 0)]), ((0, 0), [(0, 1, 0), (4, 0, 1)]), ((0, 0), [(0, 0, 8000), (5, 1, 0), (8, 0, 1)]), ((0, 0), [(0, 8000, 0), (5, 0, 1), (8, 1, 0)]), ((0, 0), [(0, 0, 8000), (6, 1, 0), (8, 0, 1)]), ((0, 0), [(0, 8000, 0), (6, 0, 1), (8, 1, 0)]), ((0, 0), [(0, 0, 8000), (7, 1, 0), (8, 0, 1)]), ((0, 0), [(0, 8000, 0), (7, 0, 1), (8, 1, 0)]), ((0, 1), [(3, 1, 0), (8, 0, 1)]), ((1, 0), [(3, 0, 1), (8, 1, 0)]), ((0, 0), [(8, 1, 0)]), ((0, 0), [(10, 1, 0)]), ((65535, 0), [(10, 0, 1)]), ((0, 0), [(11, 1, 0)]), ((4, 0), [(11, 0, 1)]), ((0, 8), [(9, 1, 0)]), ((8, 0), [(9, 0, 1)])])
  | 520 => some (zx_E520)
  | 521 => some (zx_E521)
  | 522 => some (zx_E522)
  | 523 => some (zx_E523)
  | 524 => some (zx_E524)
  | 525 => some (zx_E525)
  | 526 => some (zx_E526)
  | 527 => some (zx_E527)
  | 528 => some (zx_E528)
  | 529 => some (zx_E529)
  | 530 => some (zx_E530)
  | 531 => some (zx_E531)
  | 532 => some (zx_E532)
  | 533 => some (zx_E533)
  | 534 => some (zx_E534)
  | 535 => some (zx_E535)
  | 536 => some (zx_E536)
  | 537 => some (zx_E537)
  | 540 => some (zx_E540)
  | 541 => some (zx_E541)
  | 542 => some (zx_E542)
  | 543 => some (zx_E543)
  | 550 => some (zx_E550)
  | 551 => some (zx_E551)
  | 552 => some (zx_E552)
  | 553 => some (zx_E553)
  | 554 => some (zx_E554)
  | 555 => some (zx_E555)
  | 556 => some (zx_E556)
  | 557 => some (zx_E557)
  | 558 => some (zx_E558)
  | 559 => some (zx_E559)
  | 560 => some (zx_E560)
  | 561 => some (zx_E561)
  | 562 => some (zx_E562)
  | 563 => some (zx_E563)
  | 564 => some (zx_E564)
  | 565 => some (zx_E565)
  | 566 => some (zx_E566)
  | 567 => some (zu_Vw 234 99 99 [] [((0, 0), [(0, 1, 0), (1, 0, 1)]), ((0, 0), [(0, 0, 1), (1, 1, 0)]), ((0, 0), [(0, 0, 1), (2, 1, 0)])])
  | 568 => some (zu_Vw 234 99 99 [] [((0, 1), [(0, 0, 1), (1, 1, 0)]), ((1, 0), [(0, 1, 0), (1, 0, 1)]), ((0, 0), [(0, 0, 1), (2, 1, 0)]), ((0, 0), [(0, 1, 0), (2, 0, 1)]), ((0, 1), [(3, 1, 0)])])
  | 570 => some (zx_E570)
  | 571 => some (zx_E571)
  | 572 => some (zx_E572)
  | 573 => some (zx_E573)
  | 574 => some (zx_E574)
  | 575 => some (zx_E575)
  | 576 => some (zx_E576)
  | 577 => some (zx_E577)
  | 578 => some (zx_E578)
  | 579 => some (zx_E579)
  | 580 => some (zx_E580)
  | 581 => some (zx_E581)
  | 585 => some (zx_E585)
  | 586 => some (zx_E586)
  | 590 => some (zx_E590)
  | 591 => some (zx_E591)
  | 592 => some (zx_E592)
  | 593 => some (zx_E593)
  | 610 => some (zx_E610)
  | 611 => some (zx_E611)
  | 612 => some (zx_E612)
  | 613 => some (zx_E613)
  | 614 => some (zx_E614)
  | 615 => some (zx_E615)
  | 616 => some (zx_E616)
  | 620 => some (zx_E620)
  | 621 => some (zx_E621)
  | 622 => some (zx_E622)
  | 623 => some (zx_E623)
  | 624 => some (zx_E624)
  | 625 => some (zx_E625)
  | 626 => some (zx_E626)
  | 627 => some (zx_E627)
  | 628 => some (zx_E628)
  | 629 => some (zx_E629)
  | 630 => some (zx_E630)
  | 631 => some (zx_E631)
  | 632 => some (zx_E632)
  | 640 => some (zx_E640)
  | 641 => some (zx_E641)
  | 642 => some (zx_E642)
  | 643 => some (zx_E643)
  | 644 => some (zx_E644)
  | 645 => some (zx_E645)
  | 646 => some (zx_E646)
  | 650 => some (zx_E650)
  | 651 => some (zx_E651)
  | 660 => some (zx_E660)
  | 661 => some (zx_E661)
  | 670 => some (zx_E670)
  | 671 => some (zx_E671)
  | 672 => some (zx_E672)
  | 673 => some (zx_E673)
  | 680 => some (zx_E680)
  | 681 => some (zx_E681)
  | 682 => some (zx_E682)
  | 690 => some (zx_E690)
  | 691 => some (zx_E691)
  | 692 => some (zx_E692)
  | 693 => some (zx_E693)
  | 694 => some (zx_E694)
  | 695 => some (zx_E695)
  | 696 => some (zx_E696)
  | 697 => some (zx_E697)
  | 698 => some (zx_E698)
  | 699 => some (zx_E699)
  | _ => zVLc j
def zVL (j : Nat) : Option zx_V := match j with
  | 0 => some zx_V0
  | 1 => some zx_V1
  | 2 => some zx_V2
  | 3 => some zx_V3
  | 4 => some zx_V4
  | 5 => some zx_V5
  | 6 => some zx_V6
  | 7 => some zx_V7
  | 8 => some (zx_V8)
  | 9 => some (zx_V9)
  | 10 => some (zx_V10)
  | 11 => some (zx_V11)
  | 20 => some (zq_Vw 313 0 0 [((0, 0), [(1, 0, 1), (3, 1, 0)]), ((0, 0), [(3, 1, 0), (5, 0, 1)]), ((1, 0), [(0, 1, 0), (2, 0, 1)]), ((0, 0), [(0, 1, 0), (4, 0, 1)]), ((0, 0), [(0, 0, 1), (4, 1, 0)])])
  | 21 => some (zq_Vw 313 0 0 [((0, 0), [(1, 0, 1), (3, 1, 0)]), ((0, 0), [(3, 1, 0), (5, 0, 1)]), ((0, 0), [(0, 1, 0), (2, 0, 1)])])
  | 22 => some (zq_Vw 184 1 1 [((0, 0), [(0, 0, 1), (2, 1, 0)]), ((1, 0), [(1, 1, 0), (3, 0, 1)]), ((0, 0), [(1, 1, 0), (4, 0, 1)]), ((0, 0), [(1, 0, 1), (4, 1, 0)]), ((98304, 0), [(5, 0, 1), (6, 0, 1)])])
  | 30 => some (zu_Vw 182 0 0 [182] [((0, 0), [(1, 1, 0), (3, 0, 1)]), ((0, 0), [(1, 0, 1), (3, 1, 0)]), ((0, 0), [(0, 1, 0), (2, 0, 1)]), ((0, 0), [(4, 0, 1), (6, 1, 0)]), ((0, 0), [(4, 1, 0), (6, 0, 1)]), ((0, 0), [(5, 1, 0), (7, 0, 1)])])
  | 31 => some (zu_Vw 182 0 0 [179] [((0, 0), [(1, 1, 0), (3, 0, 1)]), ((0, 0), [(1, 0, 1), (3, 1, 0)]), ((0, 0), [(0, 1, 0), (2, 0, 1)]), ((0, 0), [(1, 0, 1), (6, 1, 0)]), ((0, 0), [(1, 1, 0), (6, 0, 1)]), ((0, 0), [(1, 0, 64), (4, 1, 0), (7, 0, 1)]), ((0, 0), [(1, 64, 0), (4, 0, 1), (7, 1, 0)])])
  | 32 => some (zu_Vw 179 0 0 [179] [((0, 0), [(1, 1, 0), (3, 0, 1)]), ((0, 0), [(1, 0, 1), (3, 1, 0)]), ((0, 0), [(0, 1, 0), (2, 0, 1)]), ((0, 0), [(4, 0, 1), (6, 1, 0)]), ((0, 0), [(4, 1, 0), (6, 0, 1)]), ((0, 0), [(5, 1, 0), (7, 0, 1)])])
  | 33 => some (zu_Vw 299 0 0 [] [((0, 0), [(1, 1, 0), (3, 0, 1)]), ((0, 0), [(1, 0, 1), (3, 1, 0)]), ((0, 0), [(0, 1, 0), (2, 0, 1)]), ((0, 0), [(0, 0, 1), (4, 1, 0)])])
  | 34 => some (zu_Vw 300 0 0 [299, 179, 182] [((0, 0), [(1, 1, 0), (3, 0, 1)]), ((0, 0), [(1, 0, 1), (3, 1, 0)]), ((1, 0), [(0, 1, 0), (2, 0, 1)]), ((0, 0), [(0, 0, 1), (4, 1, 0)]), ((0, 0), [(0, 1, 0), (4, 0, 1)]), ((0, 0), [(4, 0, 1), (6, 1, 0)]), ((0, 0), [(4, 1, 0), (6, 0, 1)]), ((0, 0), [(1, 0, 1), (7, 1, 0)]), ((0, 0), [(1, 1, 0), (7, 0, 1)]), ((0, 0), [(1, 0, 64), (8, 1, 0), (9, 0, 1)]), ((0, 0), [(1, 64, 0), (8, 0, 1), (9, 1, 0)]), ((0, 1), [(9, 0, 1), (10, 1, 0)]), ((0, 0), [(5, 0, 1), (11, 1, 0)]), ((0, 0), [(5, 1, 0)]), ((0, 0), [(9, 1, 0)])])
  | 35 => some (zu_Vw 300 0 0 [299, 182] [((0, 0), [(1, 1, 0), (3, 0, 1)]), ((0, 0), [(1, 0, 1), (3, 1, 0)]), ((0, 0), [(0, 1, 0), (2, 0, 1)]), ((0, 0), [(4, 0, 1), (6, 1, 0)]), ((0, 0), [(4, 1, 0), (6, 0, 1)]), ((0, 0), [(1, 0, 64), (7, 1, 0), (8, 0, 1)]), ((0, 0), [(1, 64, 0), (7, 0, 1), (8, 1, 0)]), ((0, 0), [(5, 0, 1), (9, 1, 0)]), ((0, 0), [(5, 1, 0)])])
  | 36 => some (zu_Vw 179 2 1 [] [((0, 0), [(3, 0, 1)]), ((0, 0), [(0, 0, 1), (2, 1, 0)]), ((0, 0), [(0, 1, 0), (2, 0, 1)])])
  | 37 => some (zu_Vw 292 1 1 [] [((0, 0), [(0, 1, 0), (2, 0, 1)]), ((0, 0), [(0, 0, 1), (2, 1, 0)]), ((0, 0), [(1, 1, 0)]), ((0, 0), [(1, 0, 1)]), ((0, 0), [(3, 1, 0)]), ((0, 0), [(3, 0, 1)]), ((0, 0), [(5, 0, 1)])])
  | 38 => some (zu_Vw 292 1 1 [] [((0, 0), [(0, 1, 0), (2, 0, 1)]), ((0, 0), [(0, 0, 1), (2, 1, 0)]), ((0, 1), [(1, 1, 0), (4, 0, 1)]), ((1, 0), [(1, 0, 1), (4, 1, 0)]), ((0, 0), [(3, 1, 0)]), ((0, 0), [(3, 0, 1)]), ((0, 0), [(5, 0, 1)])])
  | 39 => some (zu_Vw 292 1 1 [182] [((0, 0), [(0, 1, 0), (2, 0, 1)]), ((0, 0), [(0, 0, 1), (2, 1, 0)]), ((0, 0), [(1, 1, 0)]), ((0, 0), [(1, 0, 1)]), ((0, 0), [(3, 1, 0)]), ((0, 0), [(3, 0, 1)]), ((0, 0), [(0, 0, 64), (4, 0, 1), (6, 1, 0)]), ((0, 0), [(0, 64, 0), (4, 1, 0), (6, 0, 1)]), ((0, 4), [(7, 1, 0)])])
  | 40 => some (zu_Vw 182 1 1 [182] [((0, 0), [(0, 1, 0), (2, 0, 1)]), ((0, 0), [(0, 0, 1), (2, 1, 0)]), ((0, 0), [(1, 1, 0), (3, 0, 1)]), ((0, 0), [(1, 0, 1), (3, 1, 0)]), ((0, 0), [(4, 0, 1), (6, 1, 0)]), ((0, 0), [(4, 1, 0), (6, 0, 1)]), ((0, 0), [(5, 1, 0), (7, 0, 1)])])
  | 41 => some (zu_Vw 182 1 1 [179] [((0, 0), [(0, 1, 0), (2, 0, 1)]), ((0, 0), [(0, 0, 1), (2, 1, 0)]), ((0, 0), [(1, 1, 0), (3, 0, 1)]), ((0, 0), [(1, 0, 1), (3, 1, 0)]), ((0, 0), [(0, 0, 1), (6, 1, 0)]), ((0, 0), [(0, 1, 0), (6, 0, 1)]), ((0, 0), [(0, 0, 64), (4, 1, 0), (7, 0, 1)]), ((0, 0), [(0, 64, 0), (4, 0, 1), (7, 1, 0)])])
  | 42 => some (zu_Vw 179 1 1 [179] [((0, 0), [(0, 1, 0), (2, 0, 1)]), ((0, 0), [(0, 0, 1), (2, 1, 0)]), ((0, 0), [(1, 1, 0)]), ((0, 0), [(1, 0, 1)]), ((0, 0), [(0, 0, 1), (6, 1, 0)]), ((0, 0), [(0, 1, 0), (6, 0, 1)]), ((0, 0), [(0, 0, 1), (4, 1, 0)]), ((0, 0), [(0, 1, 0), (4, 0, 1)]), ((0, 1), [(5, 1, 0), (7, 0, 1)]), ((1, 0), [(5, 0, 1), (7, 1, 0)]), ((0, 0), [(3, 1, 0), (5, 0, 1)]), ((0, 0), [(3, 0, 1), (5, 1, 0)])])
  | 50 => some (zu_Vw 180 10 10 [] [((0, 0), [(0, 1, 0), (3, 0, 1)]), ((0, 0), [(0, 0, 1), (3, 1, 0)]), ((0, 0), [(1, 1, 0), (4, 0, 1)]), ((0, 0), [(1, 0, 1), (4, 1, 0)]), ((0, 1), [(2, 0, 1), (5, 1, 0)]), ((1, 0), [(2, 1, 0), (5, 0, 1)]), ((0, 0), [(2, 0, 1), (6, 1, 0)]), ((0, 0), [(2, 1, 0), (6, 0, 1)]), ((0, 0), [(1, 0, 64), (2, 1, 0)]), ((63, 0), [(1, 64, 0), (2, 0, 1)])])
  | 51 => some (zu_Vw 189 11 11 [] [((0, 0), [(0, 1, 0), (3, 0, 1)]), ((0, 0), [(0, 0, 1), (3, 1, 0)]), ((0, 0), [(1, 1, 0), (4, 0, 1)]), ((0, 0), [(1, 0, 1), (4, 1, 0)]), ((0, 1), [(2, 0, 1), (5, 1, 0)]), ((1, 0), [(2, 1, 0), (5, 0, 1)]), ((0, 0), [(2, 0, 1), (6, 1, 0)]), ((0, 0), [(2, 1, 0), (6, 0, 1)]), ((0, 0), [(1, 0, 600), (2, 1, 0)]), ((599, 0), [(1, 600, 0), (2, 0, 1)])])
  | 52 => some (zu_Vw 201 12 12 [] [((0, 0), [(0, 1, 0), (3, 0, 1)]), ((0, 0), [(0, 0, 1), (3, 1, 0)]), ((0, 0), [(1, 1, 0), (4, 0, 1)]), ((0, 0), [(1, 0, 1), (4, 1, 0)]), ((0, 1), [(2, 0, 1), (5, 1, 0)]), ((1, 0), [(2, 1, 0), (5, 0, 1)]), ((0, 0), [(2, 0, 1), (6, 1, 0)]), ((0, 0), [(2, 1, 0), (6, 0, 1)]), ((0, 0), [(1, 0, 3000), (2, 1, 0)]), ((2999, 0), [(1, 3000, 0), (2, 0, 1)])])
  | 53 => some (zu_Vw 204 13 13 [] [((0, 0), [(0, 1, 0), (3, 0, 1)]), ((0, 0), [(0, 0, 1), (3, 1, 0)]), ((0, 0), [(1, 1, 0), (4, 0, 1)]), ((0, 0), [(1, 0, 1), (4, 1, 0)]), ((0, 1), [(2, 0, 1), (5, 1, 0)]), ((1, 0), [(2, 1, 0), (5, 0, 1)]), ((0, 0), [(2, 0, 1), (6, 1, 0)]), ((0, 0), [(2, 1, 0), (6, 0, 1)]), ((0, 0), [(1, 0, 600), (2, 1, 0)]), ((599, 0), [(1, 600, 0), (2, 0, 1)])])
  | 54 => some (zu_Vw 214 14 14 [] [((0, 0), [(0, 1, 0), (3, 0, 1)]), ((0, 0), [(0, 0, 1), (3, 1, 0)]), ((0, 0), [(1, 1, 0), (4, 0, 1)]), ((0, 0), [(1, 0, 1), (4, 1, 0)]), ((0, 1), [(2, 0, 1), (5, 1, 0)]), ((1, 0), [(2, 1, 0), (5, 0, 1)]), ((0, 0), [(2, 0, 1), (6, 1, 0)]), ((0, 0), [(2, 1, 0), (6, 0, 1)]), ((0, 0), [(1, 0, 64), (2, 1, 0)]), ((63, 0), [(1, 64, 0), (2, 0, 1)])])
  | 55 => some (zu_Vw 209 15 15 [] [((0, 0), [(0, 1, 0), (3, 0, 1)]), ((0, 0), [(0, 0, 1), (3, 1, 0)]), ((0, 0), [(1, 1, 0), (4, 0, 1)]), ((0, 0), [(1, 0, 1), (4, 1, 0)]), ((0, 1), [(2, 0, 1), (5, 1, 0)]), ((1, 0), [(2, 1, 0), (5, 0, 1)]), ((0, 0), [(2, 0, 1), (6, 1, 0)]), ((0, 0), [(2, 1, 0), (6, 0, 1)]), ((0, 0), [(1, 0, 8000), (2, 1, 0)]), ((7999, 0), [(1, 8000, 0), (2, 0, 1)])])
  | 56 => some (zu_Vw 209 16 16 [] [((0, 0), [(0, 1, 0), (1, 0, 1)]), ((0, 0), [(0, 0, 1), (1, 1, 0)]), ((0, 0), [(3, 1, 0)]), ((65535, 0), [(3, 0, 1)])])
  | 57 => some (zu_Vw 209 16 16 [209] [((0, 0), [(0, 1, 0), (1, 0, 1)]), ((0, 0), [(0, 0, 1), (1, 1, 0)]), ((0, 0), [(2, 0, 1), (4, 1, 0)]), ((0, 0), [(2, 1, 0), (4, 0, 1)]), ((0, 0), [(3, 0, 1), (5, 1, 0)]), ((0, 0), [(3, 1, 0), (5, 0, 1)])])
  | 60 => some (zu_Vw 220 20 20 [] [((0, 0), [(0, 1, 0), (3, 0, 1)]), ((0, 0), [(0, 0, 1), (3, 1, 0)]), ((0, 0), [(1, 1, 0), (4, 0, 1)]), ((0, 0), [(1, 0, 1), (4, 1, 0)]), ((0, 0), [(2, 1, 0), (5, 0, 1)]), ((0, 0), [(2, 0, 1), (5, 1, 0)]), ((0, 1), [(7, 1, 0)]), ((1, 0), [(7, 0, 1)])])
  | 61 => some (zu_Vw 220 21 21 [] [((0, 0), [(0, 1, 0), (3, 0, 1)]), ((0, 0), [(0, 0, 1), (3, 1, 0)]), ((0, 0), [(1, 1, 0), (4, 0, 1)]), ((0, 0), [(1, 0, 1), (4, 1, 0)]), ((0, 0), [(2, 1, 0), (5, 0, 1)]), ((0, 0), [(2, 0, 1), (5, 1, 0)]), ((0, 1), [(7, 1, 0)]), ((1, 0), [(7, 0, 1)])])
  | 62 => some (zu_Vw 220 22 22 [] [((0, 0), [(0, 1, 0), (3, 0, 1)]), ((0, 0), [(0, 0, 1), (3, 1, 0)]), ((0, 0), [(1, 1, 0), (4, 0, 1)]), ((0, 0), [(1, 0, 1), (4, 1, 0)]), ((0, 0), [(2, 1, 0), (5, 0, 1)]), ((0, 0), [(2, 0, 1), (5, 1, 0)]), ((0, 1), [(7, 1, 0)]), ((1, 0), [(7, 0, 1)])])
  | 63 => some (zu_Vw 220 23 23 [] [((0, 0), [(0, 1, 0), (3, 0, 1)]), ((0, 0), [(0, 0, 1), (3, 1, 0)]), ((0, 0), [(1, 1, 0), (4, 0, 1)]), ((0, 0), [(1, 0, 1), (4, 1, 0)]), ((0, 0), [(2, 1, 0), (5, 0, 1)]), ((0, 0), [(2, 0, 1), (5, 1, 0)]), ((0, 1), [(7, 1, 0)]), ((1, 0), [(7, 0, 1)])])
  | 64 => some (zu_Vw 220 24 24 [] [((0, 0), [(0, 1, 0), (3, 0, 1)]), ((0, 0), [(0, 0, 1), (3, 1, 0)]), ((0, 0), [(1, 1, 0), (4, 0, 1)]), ((0, 0), [(1, 0, 1), (4, 1, 0)]), ((0, 0), [(2, 1, 0), (5, 0, 1)]), ((0, 0), [(2, 0, 1), (5, 1, 0)]), ((0, 1), [(7, 1, 0)]), ((1, 0), [(7, 0, 1)])])
  | 65 => some (zu_Vw 220 25 25 [] [((0, 0), [(0, 1, 0), (3, 0, 1)]), ((0, 0), [(0, 0, 1), (3, 1, 0)]), ((0, 0), [(1, 1, 0), (4, 0, 1)]), ((0, 0), [(1, 0, 1), (4, 1, 0)]), ((0, 0), [(2, 1, 0), (5, 0, 1)]), ((0, 0), [(2, 0, 1), (5, 1, 0)]), ((0, 1), [(7, 1, 0)]), ((1, 0), [(7, 0, 1)])])
  | 70 => some (zu_Vw 220 30 30 [220] [((0, 0), [(0, 1, 0), (2, 0, 1)]), ((0, 0), [(0, 0, 1), (2, 1, 0)]), ((0, 1), [(1, 0, 1), (3, 1, 0)]), ((1, 0), [(1, 1, 0), (3, 0, 1)]), ((0, 0), [(1, 0, 1), (4, 1, 0)]), ((0, 0), [(1, 1, 0), (4, 0, 1)]), ((0, 0), [(4, 0, 1), (6, 1, 0)]), ((0, 0), [(4, 1, 0), (6, 0, 1)]), ((0, 1), [(7, 1, 0)]), ((1, 0), [(7, 0, 1)]), ((0, 0), [(5, 1, 0)])])
  | 71 => some (zu_Vw 220 30 30 [220] [((0, 0), [(0, 1, 0), (2, 0, 1)]), ((0, 0), [(0, 0, 1), (2, 1, 0)]), ((0, 1), [(1, 0, 1), (3, 1, 0)]), ((1, 0), [(1, 1, 0), (3, 0, 1)]), ((0, 0), [(1, 0, 1), (4, 1, 0)]), ((0, 0), [(1, 1, 0), (4, 0, 1)]), ((0, 0), [(4, 0, 1), (6, 1, 0)]), ((0, 0), [(4, 1, 0), (6, 0, 1)]), ((0, 0), [(7, 0, 1)])])
  | 72 => some (zu_Vw 220 30 30 [220] [((0, 0), [(0, 1, 0), (2, 0, 1)]), ((0, 0), [(0, 0, 1), (2, 1, 0)]), ((0, 1), [(1, 0, 1), (3, 1, 0)]), ((1, 0), [(1, 1, 0), (3, 0, 1)]), ((0, 0), [(1, 0, 1), (4, 1, 0)]), ((0, 0), [(1, 1, 0), (4, 0, 1)]), ((0, 0), [(4, 0, 1), (6, 1, 0)]), ((0, 0), [(4, 1, 0), (6, 0, 1)]), ((0, 2), [(7, 1, 0)])])
  | 73 => some (zu_Vw 220 31 31 [220] [((0, 0), [(0, 1, 0), (2, 0, 1)]), ((0, 0), [(0, 0, 1), (2, 1, 0)]), ((0, 1), [(1, 0, 1), (3, 1, 0)]), ((1, 0), [(1, 1, 0), (3, 0, 1)]), ((0, 0), [(1, 0, 1), (4, 1, 0)]), ((0, 0), [(1, 1, 0), (4, 0, 1)]), ((0, 0), [(4, 0, 1), (6, 1, 0)]), ((0, 0), [(4, 1, 0), (6, 0, 1)]), ((0, 1), [(7, 1, 0)]), ((1, 0), [(7, 0, 1)]), ((0, 0), [(5, 1, 0)])])
  | 74 => some (zu_Vw 220 31 31 [220] [((0, 0), [(0, 1, 0), (2, 0, 1)]), ((0, 0), [(0, 0, 1), (2, 1, 0)]), ((0, 1), [(1, 0, 1), (3, 1, 0)]), ((1, 0), [(1, 1, 0), (3, 0, 1)]), ((0, 0), [(1, 0, 1), (4, 1, 0)]), ((0, 0), [(1, 1, 0), (4, 0, 1)]), ((0, 0), [(4, 0, 1), (6, 1, 0)]), ((0, 0), [(4, 1, 0), (6, 0, 1)]), ((0, 0), [(7, 0, 1)])])
  | 75 => some (zu_Vw 220 31 31 [220] [((0, 0), [(0, 1, 0), (2, 0, 1)]), ((0, 0), [(0, 0, 1), (2, 1, 0)]), ((0, 1), [(1, 0, 1), (3, 1, 0)]), ((1, 0), [(1, 1, 0), (3, 0, 1)]), ((0, 0), [(1, 0, 1), (4, 1, 0)]), ((0, 0), [(1, 1, 0), (4, 0, 1)]), ((0, 0), [(4, 0, 1), (6, 1, 0)]), ((0, 0), [(4, 1, 0), (6, 0, 1)]), ((0, 2), [(7, 1, 0)])])
  | 76 => some (zu_Vw 220 32 32 [220] [((0, 0), [(0, 1, 0), (2, 0, 1)]), ((0, 0), [(0, 0, 1), (2, 1, 0)]), ((0, 1), [(1, 0, 1), (3, 1, 0)]), ((1, 0), [(1, 1, 0), (3, 0, 1)]), ((0, 0), [(1, 0, 1), (4, 1, 0)]), ((0, 0), [(1, 1, 0), (4, 0, 1)]), ((0, 0), [(4, 0, 1), (6, 1, 0)]), ((0, 0), [(4, 1, 0), (6, 0, 1)]), ((0, 1), [(7, 1, 0)]), ((1, 0), [(7, 0, 1)]), ((0, 0), [(5, 1, 0)])])
  | 77 => some (zu_Vw 220 32 32 [220] [((0, 0), [(0, 1, 0), (2, 0, 1)]), ((0, 0), [(0, 0, 1), (2, 1, 0)]), ((0, 1), [(1, 0, 1), (3, 1, 0)]), ((1, 0), [(1, 1, 0), (3, 0, 1)]), ((0, 0), [(1, 0, 1), (4, 1, 0)]), ((0, 0), [(1, 1, 0), (4, 0, 1)]), ((0, 0), [(4, 0, 1), (6, 1, 0)]), ((0, 0), [(4, 1, 0), (6, 0, 1)]), ((0, 0), [(7, 0, 1)])])
  | 78 => some (zu_Vw 220 32 32 [220] [((0, 0), [(0, 1, 0), (2, 0, 1)]), ((0, 0), [(0, 0, 1), (2, 1, 0)]), ((0, 1), [(1, 0, 1), (3, 1, 0)]), ((1, 0), [(1, 1, 0), (3, 0, 1)]), ((0, 0), [(1, 0, 1), (4, 1, 0)]), ((0, 0), [(1, 1, 0), (4, 0, 1)]), ((0, 0), [(4, 0, 1), (6, 1, 0)]), ((0, 0), [(4, 1, 0), (6, 0, 1)]), ((0, 2), [(7, 1, 0)])])
  | 79 => some (zu_Vw 220 33 33 [220] [((0, 0), [(0, 1, 0), (2, 0, 1)]), ((0, 0), [(0, 0, 1), (2, 1, 0)]), ((0, 1), [(1, 0, 1), (3, 1, 0)]), ((1, 0), [(1, 1, 0), (3, 0, 1)]), ((0, 0), [(1, 0, 1), (4, 1, 0)]), ((0, 0), [(1, 1, 0), (4, 0, 1)]), ((0, 0), [(4, 0, 1), (6, 1, 0)]), ((0, 0), [(4, 1, 0), (6, 0, 1)]), ((0, 1), [(7, 1, 0)]), ((1, 0), [(7, 0, 1)]), ((0, 0), [(5, 1, 0)])])
  | 80 => some (zu_Vw 220 33 33 [220] [((0, 0), [(0, 1, 0), (2, 0, 1)]), ((0, 0), [(0, 0, 1), (2, 1, 0)]), ((0, 1), [(1, 0, 1), (3, 1, 0)]), ((1, 0), [(1, 1, 0), (3, 0, 1)]), ((0, 0), [(1, 0, 1), (4, 1, 0)]), ((0, 0), [(1, 1, 0), (4, 0, 1)]), ((0, 0), [(4, 0, 1), (6, 1, 0)]), ((0, 0), [(4, 1, 0), (6, 0, 1)]), ((0, 0), [(7, 0, 1)])])
  | 81 => some (zu_Vw 220 33 33 [220] [((0, 0), [(0, 1, 0), (2, 0, 1)]), ((0, 0), [(0, 0, 1), (2, 1, 0)]), ((0, 1), [(1, 0, 1), (3, 1, 0)]), ((1, 0), [(1, 1, 0), (3, 0, 1)]), ((0, 0), [(1, 0, 1), (4, 1, 0)]), ((0, 0), [(1, 1, 0), (4, 0, 1)]), ((0, 0), [(4, 0, 1), (6, 1, 0)]), ((0, 0), [(4, 1, 0), (6, 0, 1)]), ((0, 2), [(7, 1, 0)])])
  | 82 => some (zu_Vw 220 34 34 [220] [((0, 0), [(0, 1, 0), (2, 0, 1)]), ((0, 0), [(0, 0, 1), (2, 1, 0)]), ((0, 1), [(1, 0, 1), (3, 1, 0)]), ((1, 0), [(1, 1, 0), (3, 0, 1)]), ((0, 0), [(1, 0, 1), (4, 1, 0)]), ((0, 0), [(1, 1, 0), (4, 0, 1)]), ((0, 0), [(4, 0, 1), (6, 1, 0)]), ((0, 0), [(4, 1, 0), (6, 0, 1)]), ((0, 1), [(7, 1, 0)]), ((1, 0), [(7, 0, 1)]), ((0, 0), [(5, 1, 0)])])
  | 83 => some (zu_Vw 220 34 34 [220] [((0, 0), [(0, 1, 0), (2, 0, 1)]), ((0, 0), [(0, 0, 1), (2, 1, 0)]), ((0, 1), [(1, 0, 1), (3, 1, 0)]), ((1, 0), [(1, 1, 0), (3, 0, 1)]), ((0, 0), [(1, 0, 1), (4, 1, 0)]), ((0, 0), [(1, 1, 0), (4, 0, 1)]), ((0, 0), [(4, 0, 1), (6, 1, 0)]), ((0, 0), [(4, 1, 0), (6, 0, 1)]), ((0, 0), [(7, 0, 1)])])
  | 84 => some (zu_Vw 220 34 34 [220] [((0, 0), [(0, 1, 0), (2, 0, 1)]), ((0, 0), [(0, 0, 1), (2, 1, 0)]), ((0, 1), [(1, 0, 1), (3, 1, 0)]), ((1, 0), [(1, 1, 0), (3, 0, 1)]), ((0, 0), [(1, 0, 1), (4, 1, 0)]), ((0, 0), [(1, 1, 0), (4, 0, 1)]), ((0, 0), [(4, 0, 1), (6, 1, 0)]), ((0, 0), [(4, 1, 0), (6, 0, 1)]), ((0, 2), [(7, 1, 0)])])
  | 85 => some (zu_Vw 220 35 35 [220] [((0, 0), [(0, 1, 0), (2, 0, 1)]), ((0, 0), [(0, 0, 1), (2, 1, 0)]), ((0, 1), [(1, 0, 1), (3, 1, 0)]), ((1, 0), [(1, 1, 0), (3, 0, 1)]), ((0, 0), [(1, 0, 1), (4, 1, 0)]), ((0, 0), [(1, 1, 0), (4, 0, 1)]), ((0, 0), [(4, 0, 1), (6, 1, 0)]), ((0, 0), [(4, 1, 0), (6, 0, 1)]), ((0, 1), [(7, 1, 0)]), ((1, 0), [(7, 0, 1)]), ((0, 0), [(5, 1, 0)])])
  | 86 => some (zu_Vw 220 35 35 [220] [((0, 0), [(0, 1, 0), (2, 0, 1)]), ((0, 0), [(0, 0, 1), (2, 1, 0)]), ((0, 1), [(1, 0, 1), (3, 1, 0)]), ((1, 0), [(1, 1, 0), (3, 0, 1)]), ((0, 0), [(1, 0, 1), (4, 1, 0)]), ((0, 0), [(1, 1, 0), (4, 0, 1)]), ((0, 0), [(4, 0, 1), (6, 1, 0)]), ((0, 0), [(4, 1, 0), (6, 0, 1)]), ((0, 0), [(7, 0, 1)])])
  | 87 => some (zu_Vw 220 35 35 [220] [((0, 0), [(0, 1, 0), (2, 0, 1)]), ((0, 0), [(0, 0, 1), (2, 1, 0)]), ((0, 1), [(1, 0, 1), (3, 1, 0)]), ((1, 0), [(1, 1, 0), (3, 0, 1)]), ((0, 0), [(1, 0, 1), (4, 1, 0)]), ((0, 0), [(1, 1, 0), (4, 0, 1)]), ((0, 0), [(4, 0, 1), (6, 1, 0)]), ((0, 0), [(4, 1, 0), (6, 0, 1)]), ((0, 2), [(7, 1, 0)])])
  | 90 => some (zq_Vw 175 2 2 [((0, 1), [(0, 0, 1), (1, 1, 0)]), ((1, 0), [(0, 1, 0), (1, 0, 1)]), ((0, 0), [(0, 0, 1), (2, 1, 0)]), ((0, 0), [(0, 1, 0), (2, 0, 1)]), ((0, 0), [(3, 1, 0)]), ((0, 0), [(3, 0, 1)])])
  | 100 => some (zu_Vw 188 40 40 [] [((0, 0), [(0, 1, 0), (1, 0, 1)]), ((0, 0), [(0, 0, 1), (1, 1, 0)]), ((0, 0), [(3, 0, 1)])])
  | 101 => some (zu_Vw 188 40 40 [188, 190, 179] [((0, 0), [(0, 1, 0), (1, 0, 1)]), ((0, 0), [(0, 0, 1), (1, 1, 0)]), ((0, 0), [(2, 0, 1), (4, 1, 0)]), ((0, 0), [(2, 1, 0), (4, 0, 1)]), ((0, 0), [(2, 0, 600), (5, 1, 0), (7, 0, 1)]), ((0, 0), [(2, 600, 0), (5, 0, 1), (7, 1, 0)]), ((0, 0), [(2, 0, 1), (6, 1, 0)]), ((0, 0), [(2, 1, 0), (6, 0, 1)]), ((0, 1), [(3, 1, 0), (7, 0, 1)]), ((1, 0), [(3, 0, 1), (7, 1, 0)]), ((0, 1), [(8, 0, 1), (9, 1, 0)]), ((0, 0), [(8, 1, 0)]), ((0, 0), [(7, 1, 0)])])
  | 102 => some (zu_Vw 190 40 40 [188] [((0, 0), [(0, 1, 0), (1, 0, 1)]), ((0, 0), [(0, 0, 1), (1, 1, 0)]), ((0, 0), [(2, 1, 0), (4, 0, 600), (5, 0, 1)]), ((599, 0), [(2, 0, 1), (4, 600, 0)]), ((0, 0), [(5, 1, 0)])])
  | 103 => some (zu_Vw 179 40 40 [179] [((0, 0), [(0, 1, 0), (1, 0, 1)]), ((0, 0), [(0, 0, 1), (1, 1, 0)]), ((0, 0), [(2, 0, 1), (4, 1, 0)]), ((0, 0), [(2, 1, 0), (4, 0, 1)]), ((0, 0), [(3, 1, 0), (5, 0, 1)])])
  | 104 => some (zu_Vw 179 40 40 [] [((0, 0), [(0, 1, 0), (1, 0, 1)]), ((0, 0), [(0, 0, 1), (1, 1, 0)]), ((0, 0), [(0, 0, 1), (2, 1, 0)]), ((0, 0), [(0, 1, 0), (2, 0, 1)])])
  | 110 => some (zu_Vw 195 41 41 [] [((0, 0), [(0, 1, 0), (1, 0, 1)]), ((0, 0), [(0, 0, 1), (1, 1, 0)]), ((0, 0), [(3, 0, 1)])])
  | 111 => some (zu_Vw 195 41 41 [195, 196, 199, 197, 179, 182] [((0, 0), [(0, 1, 0), (1, 0, 1)]), ((0, 0), [(0, 0, 1), (1, 1, 0)]), ((0, 0), [(2, 0, 1), (4, 1, 0)]), ((0, 0), [(2, 1, 0), (4, 0, 1)]), ((0, 0), [(2, 0, 3000), (5, 1, 0), (10, 0, 1)]), ((0, 0), [(2, 3000, 0), (5, 0, 1), (10, 1, 0)]), ((0, 0), [(2, 0, 3000), (6, 1, 0), (10, 0, 1)]), ((0, 0), [(2, 3000, 0), (6, 0, 1), (10, 1, 0)]), ((0, 0), [(2, 0, 3000), (7, 1, 0), (10, 0, 1)]), ((0, 0), [(2, 3000, 0), (7, 0, 1), (10, 1, 0)]), ((0, 0), [(2, 0, 1), (8, 1, 0)]), ((0, 0), [(2, 1, 0), (8, 0, 1)]), ((0, 0), [(2, 0, 64), (9, 1, 0), (11, 0, 1)]), ((0, 0), [(2, 64, 0), (9, 0, 1), (11, 1, 0)]), ((0, 1), [(3, 1, 0), (10, 0, 1)]), ((1, 0), [(3, 0, 1), (10, 1, 0)]), ((0, 0), [(10, 1, 0)]), ((0, 0), [(11, 1, 0)]), ((63, 0), [(11, 0, 1)]), ((0, 1), [(11, 0, 1), (14, 1, 0)]), ((0, 1), [(12, 0, 1), (14, 1, 0)]), ((0, 0), [(13, 1, 0)]), ((0, 0), [(13, 0, 1), (15, 1, 0)])])
  | 112 => some (zu_Vw 196 41 41 [195] [((0, 0), [(0, 1, 0), (1, 0, 1)]), ((0, 0), [(0, 0, 1), (1, 1, 0)]), ((0, 0), [(2, 1, 0), (4, 0, 3000), (5, 0, 1)]), ((2999, 0), [(2, 0, 1), (4, 3000, 0)]), ((0, 0), [(5, 1, 0)])])
  | 113 => some (zu_Vw 199 41 41 [195] [((0, 0), [(0, 1, 0), (1, 0, 1)]), ((0, 0), [(0, 0, 1), (1, 1, 0)]), ((0, 0), [(2, 1, 0), (4, 0, 3000), (5, 0, 1)]), ((2999, 0), [(2, 0, 1), (4, 3000, 0)]), ((0, 0), [(5, 1, 0)])])
  | 114 => some (zu_Vw 197 41 41 [195] [((0, 0), [(0, 1, 0), (1, 0, 1)]), ((0, 0), [(0, 0, 1), (1, 1, 0)]), ((0, 0), [(2, 1, 0), (4, 0, 3000), (5, 0, 1)]), ((2999, 0), [(2, 0, 1), (4, 3000, 0)]), ((0, 0), [(5, 1, 0)])])
  | 115 => some (zu_Vw 179 41 41 [179] [((0, 0), [(0, 1, 0), (1, 0, 1)]), ((0, 0), [(0, 0, 1), (1, 1, 0)]), ((0, 0), [(2, 0, 1), (4, 1, 0)]), ((0, 0), [(2, 1, 0), (4, 0, 1)]), ((0, 0), [(3, 1, 0), (5, 0, 1)])])
  | 116 => some (zu_Vw 179 41 41 [] [((0, 0), [(0, 1, 0), (1, 0, 1)]), ((0, 0), [(0, 0, 1), (1, 1, 0)]), ((0, 0), [(0, 0, 1), (2, 1, 0)]), ((0, 0), [(0, 1, 0), (2, 0, 1)])])
  | 117 => some (zu_Vw 182 41 41 [182] [((0, 0), [(0, 1, 0), (1, 0, 1)]), ((0, 0), [(0, 0, 1), (1, 1, 0)]), ((0, 0), [(2, 0, 1), (4, 1, 0)]), ((0, 0), [(2, 1, 0), (4, 0, 1)]), ((0, 0), [(3, 1, 0), (5, 0, 1)])])
  | 118 => some (zu_Vw 182 41 41 [179] [((0, 0), [(0, 1, 0), (1, 0, 1)]), ((0, 0), [(0, 0, 1), (1, 1, 0)]), ((0, 0), [(2, 1, 0), (4, 0, 64), (5, 0, 1)]), ((0, 0), [(2, 0, 1), (4, 64, 0), (5, 1, 0)]), ((0, 0), [(5, 1, 0)]), ((63, 0), [(5, 0, 1)])])
  | 120 => some (zu_Vw 304 42 42 [] [((0, 0), [(1, 1, 0), (3, 0, 1)]), ((0, 0), [(1, 0, 1), (3, 1, 0)]), ((0, 0), [(0, 1, 0), (2, 0, 1)]), ((0, 0), [(0, 0, 1), (2, 1, 0)]), ((0, 0), [(0, 0, 1), (4, 1, 0)])])
  | 121 => some (zu_Vw 304 42 42 [179] [((0, 0), [(1, 1, 0), (3, 0, 1)]), ((0, 0), [(1, 0, 1), (3, 1, 0)]), ((0, 0), [(0, 1, 0), (2, 0, 1)]), ((0, 0), [(0, 0, 1), (2, 1, 0)]), ((0, 0), [(1, 0, 1), (6, 1, 0)]), ((0, 0), [(1, 1, 0), (6, 0, 1)]), ((0, 1), [(5, 0, 1), (7, 1, 0)])])
  | 122 => some (zu_Vw 179 42 42 [179] [((0, 0), [(1, 1, 0), (3, 0, 1)]), ((0, 0), [(1, 0, 1), (3, 1, 0)]), ((0, 0), [(0, 1, 0), (2, 0, 1)]), ((0, 0), [(0, 0, 1), (2, 1, 0)]), ((0, 0), [(4, 0, 1), (6, 1, 0)]), ((0, 0), [(4, 1, 0), (6, 0, 1)]), ((0, 0), [(5, 1, 0), (7, 0, 1)])])
  | 123 => some (zu_Vw 297 43 43 [179] [((0, 0), [(1, 1, 0), (3, 0, 1)]), ((0, 0), [(1, 0, 1), (3, 1, 0)]), ((0, 1), [(0, 0, 1), (2, 1, 0)]), ((1, 0), [(0, 1, 0), (2, 0, 1)]), ((0, 0), [(0, 0, 1), (4, 1, 0)]), ((0, 0), [(0, 1, 0), (4, 0, 1)]), ((0, 0), [(1, 0, 1), (6, 1, 0)]), ((0, 0), [(1, 1, 0), (6, 0, 1)]), ((0, 1), [(5, 0, 1), (7, 1, 0)])])
  | 124 => some (zu_Vw 297 43 43 [179] [((0, 0), [(1, 1, 0), (3, 0, 1)]), ((0, 0), [(1, 0, 1), (3, 1, 0)]), ((0, 0), [(0, 1, 0), (2, 0, 1)]), ((0, 0), [(0, 0, 1), (2, 1, 0)]), ((0, 0), [(1, 0, 1), (6, 1, 0)]), ((0, 0), [(1, 1, 0), (6, 0, 1)]), ((0, 1), [(5, 0, 1), (7, 1, 0)])])
  | 125 => some (zu_Vw 179 43 43 [179] [((0, 0), [(1, 1, 0), (3, 0, 1)]), ((0, 0), [(1, 0, 1), (3, 1, 0)]), ((0, 0), [(0, 1, 0), (2, 0, 1)]), ((0, 0), [(0, 0, 1), (2, 1, 0)]), ((0, 0), [(4, 0, 1), (6, 1, 0)]), ((0, 0), [(4, 1, 0), (6, 0, 1)]), ((0, 0), [(5, 1, 0), (7, 0, 1)])])
  | 126 => some (zu_Vw 302 45 45 [] [((0, 0), [(0, 1, 0), (2, 0, 1)]), ((0, 0), [(0, 0, 1), (2, 1, 0)]), ((0, 0), [(1, 1, 0), (3, 0, 1)]), ((0, 0), [(1, 0, 1), (3, 1, 0)]), ((0, 0), [(0, 0, 1), (4, 1, 0)])])
  | 127 => some (zu_Vw 303 45 45 [] [((0, 0), [(0, 1, 0), (2, 0, 1)]), ((0, 0), [(0, 0, 1), (2, 1, 0)]), ((0, 0), [(1, 1, 0), (3, 0, 1)]), ((0, 0), [(1, 0, 1), (3, 1, 0)]), ((0, 0), [(0, 0, 1), (4, 1, 0)])])
  | 128 => some (zu_Vw 304 45 45 [] [((0, 0), [(0, 1, 0), (2, 0, 1)]), ((0, 0), [(0, 0, 1), (2, 1, 0)]), ((0, 0), [(1, 1, 0), (3, 0, 1)]), ((0, 0), [(1, 0, 1), (3, 1, 0)]), ((0, 0), [(0, 0, 1), (4, 1, 0)])])
  | 129 => some (zu_Vw 302 45 45 [] [((0, 0), [(0, 1, 0), (2, 0, 1)]), ((0, 0), [(0, 0, 1), (2, 1, 0)]), ((0, 3000), [(1, 1, 0)]), ((0, 0), [(3, 1, 0), (4, 0, 1)]), ((0, 0), [(3, 0, 1), (4, 1, 0)])])
  | 130 => some (zu_Vw 304 45 45 [302] [((0, 0), [(0, 1, 0), (2, 0, 1)]), ((0, 0), [(0, 0, 1), (2, 1, 0)]), ((0, 0), [(1, 1, 0), (4, 0, 1)]), ((0, 0), [(1, 0, 1), (4, 1, 0)]), ((0, 0), [(4, 0, 1), (6, 1, 0)]), ((0, 0), [(4, 1, 0), (6, 0, 1)]), ((0, 3000), [(3, 1, 0)]), ((0, 0), [(5, 1, 0)]), ((0, 2), [(7, 1, 0)]), ((2, 0), [(7, 0, 1)])])
  | 131 => some (zu_Vw 315 50 50 [] [((0, 0), [(0, 1, 0), (2, 0, 1)]), ((0, 0), [(0, 0, 1), (2, 1, 0)]), ((0, 1), [(1, 0, 1), (3, 1, 0)]), ((1, 0), [(1, 1, 0), (3, 0, 1)]), ((0, 0), [(1, 0, 1), (4, 1, 0)]), ((0, 0), [(1, 1, 0), (4, 0, 1)]), ((0, 0), [(5, 1, 0)]), ((0, 0), [(5, 0, 1)])])
  | 132 => some (zu_Vw 315 50 50 [190, 179] [((0, 0), [(0, 1, 0), (2, 0, 1)]), ((0, 0), [(0, 0, 1), (2, 1, 0)]), ((0, 0), [(1, 1, 0), (3, 0, 1)]), ((0, 0), [(1, 0, 1), (3, 1, 0)]), ((1, 0), [(5, 0, 1), (6, 1, 0)]), ((0, 1), [(5, 1, 0), (6, 0, 1)]), ((0, 1), [(5, 1, 0), (7, 0, 600)]), ((600, 0), [(5, 0, 1), (7, 600, 0)]), ((0, 1), [(8, 0, 1), (9, 1, 0)]), ((0, 0), [(8, 1, 0)]), ((0, 1), [(5, 1, 0)]), ((0, 1), [(0, 1, 0), (7, 0, 1)])])
  | 133 => some (zu_Vw 315 50 50 [190, 179] [((0, 0), [(0, 1, 0), (2, 0, 1)]), ((0, 0), [(0, 0, 1), (2, 1, 0)]), ((0, 0), [(1, 1, 0), (3, 0, 1)]), ((0, 0), [(1, 0, 1), (3, 1, 0)]), ((1, 0), [(5, 0, 1), (6, 1, 0)]), ((0, 1), [(5, 1, 0), (6, 0, 1)]), ((0, 1), [(5, 1, 0), (7, 0, 600)]), ((600, 0), [(5, 0, 1), (7, 600, 0)]), ((0, 1), [(8, 0, 1), (9, 1, 0)]), ((0, 0), [(8, 1, 0)]), ((0, 1), [(5, 1, 0)]), ((0, 6), [(7, 1, 0)]), ((6, 0), [(7, 0, 1)])])
  | 134 => some (zu_Vw 186 51 51 [] [((0, 0), [(0, 1, 0), (2, 0, 1)]), ((0, 0), [(0, 0, 1), (2, 1, 0)]), ((0, 1), [(1, 0, 1), (3, 1, 0)]), ((1, 0), [(1, 1, 0), (3, 0, 1)]), ((0, 0), [(1, 0, 1), (4, 1, 0)]), ((0, 0), [(1, 1, 0), (4, 0, 1)]), ((0, 0), [(5, 0, 1)])])
  | 135 => some (zu_Vw 186 51 51 [179] [((0, 0), [(0, 1, 0), (2, 0, 1)]), ((0, 0), [(0, 0, 1), (2, 1, 0)]), ((0, 0), [(1, 1, 0), (3, 0, 1)]), ((0, 0), [(1, 0, 1), (3, 1, 0)]), ((0, 0), [(4, 1, 0), (6, 0, 64)]), ((63, 0), [(4, 0, 1), (6, 64, 0)]), ((0, 1), [(4, 0, 1), (6, 64, 0), (7, 1, 0)]), ((0, 1), [(0, 1, 0), (6, 0, 1)])])
  | 136 => some (zu_Vw 186 51 51 [179] [((0, 0), [(0, 1, 0), (2, 0, 1)]), ((0, 0), [(0, 0, 1), (2, 1, 0)]), ((0, 0), [(1, 1, 0), (3, 0, 1)]), ((0, 0), [(1, 0, 1), (3, 1, 0)]), ((0, 0), [(4, 1, 0), (6, 0, 64)]), ((63, 0), [(4, 0, 1), (6, 64, 0)]), ((0, 1), [(4, 0, 1), (6, 64, 0), (7, 1, 0)]), ((0, 6), [(6, 1, 0)]), ((6, 0), [(6, 0, 1)])])
  | 250 => some (zu_Vw 185 53 53 [182] [((0, 0), [(0, 1, 0), (4, 0, 1)]), ((0, 0), [(0, 0, 1), (4, 1, 0)]), ((0, 0), [(2, 1, 0), (6, 0, 1)]), ((0, 0), [(2, 0, 1), (6, 1, 0)]), ((0, 1), [(1, 0, 1), (5, 1, 0)]), ((1, 0), [(1, 1, 0), (5, 0, 1)]), ((0, 0), [(1, 0, 1), (8, 1, 0)]), ((0, 0), [(1, 1, 0), (8, 0, 1)]), ((0, 0), [(3, 0, 1), (7, 1, 0)]), ((0, 0), [(2, 0, 1), (9, 1, 0)]), ((0, 0), [(8, 0, 1), (10, 1, 0)]), ((0, 0), [(8, 1, 0), (10, 0, 1)]), ((0, 0), [(7, 1, 0), (9, 0, 1), (11, 0, 1)])])
  | 251 => some (zu_Vw 185 53 53 [181] [((0, 0), [(0, 1, 0), (4, 0, 1)]), ((0, 0), [(0, 0, 1), (4, 1, 0)]), ((0, 0), [(2, 1, 0), (6, 0, 1)]), ((0, 0), [(2, 0, 1), (6, 1, 0)]), ((0, 0), [(1, 1, 0), (5, 0, 1)]), ((0, 0), [(1, 0, 1), (5, 1, 0)]), ((0, 0), [(3, 1, 0), (7, 0, 1)]), ((0, 0), [(3, 0, 1), (7, 1, 0)]), ((0, 0), [(8, 0, 1), (10, 1, 0)]), ((0, 0), [(8, 1, 0), (10, 0, 1)]), ((0, 1), [(11, 1, 0)])])
  | 260 => some (zu_Vw 185 54 54 [182] [((0, 0), [(0, 1, 0), (4, 0, 1)]), ((0, 0), [(0, 0, 1), (4, 1, 0)]), ((0, 0), [(2, 1, 0), (6, 0, 1)]), ((0, 0), [(2, 0, 1), (6, 1, 0)]), ((0, 1), [(1, 0, 1), (5, 1, 0)]), ((1, 0), [(1, 1, 0), (5, 0, 1)]), ((0, 0), [(1, 0, 1), (8, 1, 0)]), ((0, 0), [(1, 1, 0), (8, 0, 1)]), ((0, 0), [(3, 0, 1), (7, 1, 0)]), ((0, 0), [(2, 0, 1), (9, 1, 0)]), ((0, 0), [(8, 0, 1), (10, 1, 0)]), ((0, 0), [(8, 1, 0), (10, 0, 1)]), ((0, 0), [(7, 1, 0), (9, 0, 1), (11, 0, 1)])])
  | 261 => some (zu_Vw 185 54 54 [181] [((0, 0), [(0, 1, 0), (4, 0, 1)]), ((0, 0), [(0, 0, 1), (4, 1, 0)]), ((0, 0), [(2, 1, 0), (6, 0, 1)]), ((0, 0), [(2, 0, 1), (6, 1, 0)]), ((0, 0), [(1, 1, 0), (5, 0, 1)]), ((0, 0), [(1, 0, 1), (5, 1, 0)]), ((0, 0), [(3, 1, 0), (7, 0, 1)]), ((0, 0), [(3, 0, 1), (7, 1, 0)]), ((0, 0), [(8, 0, 1), (10, 1, 0)]), ((0, 0), [(8, 1, 0), (10, 0, 1)]), ((0, 0), [(11, 0, 1)])])
  | 300 => some (zu_Vw 10 60 60 [11] [((0, 0), [(0, 1, 0), (3, 0, 1)]), ((0, 0), [(0, 0, 1), (3, 1, 0)]), ((0, 0), [(2, 1, 0), (5, 0, 1)]), ((0, 0), [(2, 0, 1), (5, 1, 0)]), ((0, 1), [(1, 0, 1), (4, 1, 0)]), ((1, 0), [(1, 1, 0), (4, 0, 1)]), ((0, 0), [(7, 0, 1)]), ((0, 0), [(1, 0, 1), (8, 1, 0)]), ((0, 0), [(1, 1, 0), (8, 0, 1)]), ((0, 0), [(6, 0, 1), (9, 1, 0)]), ((0, 0), [(6, 1, 0), (9, 0, 1)])])
  | 301 => some (zu_Vw 10 61 61 [] [((0, 0), [(0, 1, 0), (2, 0, 1)]), ((0, 0), [(0, 0, 1), (2, 1, 0)]), ((0, 8192), [(1, 1, 0)]), ((0, 0), [(3, 1, 0), (4, 0, 1)]), ((0, 0), [(3, 0, 1), (4, 1, 0)])])
  | 302 => some (zu_Vw 11 61 61 [10] [((0, 0), [(0, 0, 1), (4, 1, 0)]), ((0, 0), [(0, 1, 0), (4, 0, 1)]), ((0, 0), [(1, 0, 1), (5, 1, 0)]), ((0, 0), [(1, 1, 0), (5, 0, 1)]), ((0, 0), [(1, 0, 1), (6, 1, 0)]), ((0, 0), [(1, 1, 0), (6, 0, 1)]), ((0, 1), [(0, 0, 1), (7, 1, 0)]), ((1, 0), [(0, 1, 0), (7, 0, 1)]), ((0, 1), [(0, 0, 1), (2, 1, 0)]), ((1, 0), [(0, 1, 0), (2, 0, 1)])])
  | 303 => some (zu_Vw 34 66 66 [] [((0, 0), [(0, 1, 0), (2, 0, 1)]), ((0, 0), [(0, 0, 1), (2, 1, 0)]), ((0, 0), [(1, 1, 0), (3, 0, 1)]), ((0, 0), [(1, 0, 1), (3, 1, 0)]), ((5, 0), [(0, 0, 8), (4, 1, 0)])])
  | 304 => some (zu_Vw 34 66 66 [] [((0, 0), [(0, 1, 0), (2, 0, 1)]), ((0, 0), [(0, 0, 1), (2, 1, 0)]), ((0, 0), [(1, 1, 0), (3, 0, 1)]), ((0, 0), [(1, 0, 1), (3, 1, 0)]), ((0, 0), [(1, 1, 0), (5, 0, 1)])])
  | 305 => some (zu_Vw 35 67 67 [] [((0, 0), [(0, 1, 0), (2, 0, 1)]), ((0, 0), [(0, 0, 1), (2, 1, 0)]), ((0, 0), [(1, 1, 0), (3, 0, 1)]), ((0, 0), [(1, 0, 1), (3, 1, 0)]), ((0, 0), [(0, 0, 3), (4, 1, 0)])])
  | 306 => some (zu_Vw 67 65 65 [] [((0, 0), [(0, 1, 0), (3, 0, 1)]), ((0, 0), [(0, 0, 1), (3, 1, 0)]), ((0, 0), [(2, 1, 0), (5, 0, 1)]), ((0, 0), [(2, 0, 1), (5, 1, 0)]), ((0, 0), [(1, 1, 0), (4, 0, 1)]), ((0, 0), [(1, 0, 1), (4, 1, 0)]), ((0, 0), [(1, 0, 6), (6, 1, 0)])])
  | 307 => some (zu_Vw 67 65 65 [] [((0, 1), [(0, 0, 1), (3, 1, 0)]), ((1, 0), [(0, 1, 0), (3, 0, 1)]), ((0, 0), [(1, 1, 0), (4, 0, 1)]), ((0, 0), [(1, 0, 1), (4, 1, 0)]), ((0, 0), [(2, 1, 0), (5, 0, 1)]), ((0, 0), [(2, 0, 1), (5, 1, 0)]), ((0, 3), [(0, 0, 6), (6, 1, 0)]), ((3, 0), [(0, 6, 0), (6, 0, 1)])])
  | 308 => some (zu_Vw 67 65 65 [67] [((0, 0), [(0, 1, 0), (3, 0, 1)]), ((0, 0), [(0, 0, 1), (3, 1, 0)]), ((0, 0), [(2, 1, 0), (5, 0, 1)]), ((0, 0), [(2, 0, 1), (5, 1, 0)]), ((0, 1), [(1, 0, 1), (4, 1, 0)]), ((1, 0), [(1, 1, 0), (4, 0, 1)]), ((0, 3), [(1, 0, 6), (6, 1, 0)]), ((3, 0), [(1, 6, 0), (6, 0, 1)]), ((0, 1), [(1, 0, 6), (8, 1, 0)]), ((1, 0), [(1, 6, 0), (8, 0, 1)]), ((0, 0), [(2, 1, 0), (7, 0, 1), (9, 0, 1)])])
  | 309 => some (zu_Vw 67 65 65 [67, 31] [((0, 0), [(0, 1, 0), (3, 0, 1)]), ((0, 0), [(0, 0, 1), (3, 1, 0)]), ((0, 0), [(2, 1, 0), (5, 0, 1)]), ((0, 0), [(2, 0, 1), (5, 1, 0)]), ((0, 0), [(1, 1, 0), (4, 0, 1)]), ((0, 0), [(1, 0, 1), (4, 1, 0)]), ((0, 1), [(6, 1, 0), (9, 0, 6)]), ((1, 0), [(6, 0, 1), (9, 6, 0)]), ((0, 3), [(8, 1, 0), (9, 0, 6)]), ((3, 0), [(8, 0, 1), (9, 6, 0)]), ((0, 0), [(2, 1, 0), (7, 0, 1), (10, 0, 1)])])
  | 320 => some (zu_Vw 7 63 63 [] [((0, 1), [(0, 0, 1), (2, 1, 0)]), ((1, 0), [(0, 1, 0), (2, 0, 1)]), ((0, 0), [(1, 1, 0), (3, 0, 1)]), ((0, 0), [(1, 0, 1), (3, 1, 0)]), ((0, 0), [(0, 0, 1), (4, 1, 0)]), ((0, 0), [(0, 1, 0), (4, 0, 1)]), ((0, 1), [(5, 0, 1)])])
  | 321 => some (zu_Vw 7 63 63 [] [((0, 0), [(0, 1, 0), (2, 0, 1)]), ((0, 0), [(0, 0, 1), (2, 1, 0)]), ((0, 0), [(1, 1, 0)]), ((0, 0), [(1, 0, 1)]), ((0, 0), [(3, 1, 0)]), ((0, 0), [(3, 0, 1)]), ((0, 0), [(5, 1, 0)]), ((599, 0), [(5, 0, 1)])])
  | 322 => some (zu_Vw 7 63 63 [] [((0, 0), [(0, 1, 0), (2, 0, 1)]), ((0, 0), [(0, 0, 1), (2, 1, 0)]), ((0, 1), [(1, 1, 0)]), ((1, 0), [(1, 0, 1)]), ((0, 1), [(3, 1, 0)]), ((1, 0), [(3, 0, 1)]), ((0, 0), [(5, 1, 0)]), ((599, 0), [(5, 0, 1)])])
  | 323 => some (zu_Vw 7 63 63 [] [((0, 0), [(0, 1, 0), (2, 0, 1)]), ((0, 0), [(0, 0, 1), (2, 1, 0)]), ((0, 1), [(1, 1, 0)]), ((1, 0), [(1, 0, 1)]), ((0, 1), [(3, 1, 0)]), ((1, 0), [(3, 0, 1)]), ((0, 1024), [(5, 1, 0)]), ((1623, 0), [(5, 0, 1)])])
  | 324 => some (zu_Vw 7 63 63 [] [((0, 0), [(0, 1, 0), (2, 0, 1)]), ((0, 0), [(0, 0, 1), (2, 1, 0)]), ((0, 1), [(1, 1, 0)]), ((1, 0), [(1, 0, 1)]), ((0, 1), [(3, 1, 0)]), ((1, 0), [(3, 0, 1)]), ((0, 2048), [(5, 1, 0)]), ((2647, 0), [(5, 0, 1)])])
  | 325 => some (zu_Vw 7 63 63 [] [((0, 0), [(0, 1, 0), (2, 0, 1)]), ((0, 0), [(0, 0, 1), (2, 1, 0)]), ((0, 1), [(1, 1, 0)]), ((1, 0), [(1, 0, 1)]), ((0, 1), [(3, 1, 0)]), ((1, 0), [(3, 0, 1)]), ((0, 3072), [(5, 1, 0)]), ((3671, 0), [(5, 0, 1)])])
  | 326 => some (zu_Vw 7 63 63 [] [((0, 0), [(0, 1, 0), (2, 0, 1)]), ((0, 0), [(0, 0, 1), (2, 1, 0)]), ((0, 1), [(1, 1, 0)]), ((1, 0), [(1, 0, 1)]), ((0, 1), [(3, 1, 0)]), ((1, 0), [(3, 0, 1)]), ((0, 4096), [(5, 1, 0)]), ((4695, 0), [(5, 0, 1)])])
  | 327 => some (zu_Vw 7 63 63 [] [((0, 0), [(0, 1, 0), (2, 0, 1)]), ((0, 0), [(0, 0, 1), (2, 1, 0)]), ((0, 1), [(1, 1, 0)]), ((1, 0), [(1, 0, 1)]), ((0, 1), [(3, 1, 0)]), ((1, 0), [(3, 0, 1)]), ((0, 5120), [(5, 1, 0)]), ((5719, 0), [(5, 0, 1)])])
  | 328 => some (zu_Vw 7 63 63 [] [((0, 0), [(0, 1, 0), (2, 0, 1)]), ((0, 0), [(0, 0, 1), (2, 1, 0)]), ((0, 1), [(1, 1, 0)]), ((1, 0), [(1, 0, 1)]), ((0, 1), [(3, 1, 0)]), ((1, 0), [(3, 0, 1)]), ((0, 6144), [(5, 1, 0)]), ((6147, 0), [(5, 0, 1)])])
  | 329 => some (zu_Vw 7 63 63 [] [((0, 0), [(0, 1, 0), (2, 0, 1)]), ((0, 0), [(0, 0, 1), (2, 1, 0)]), ((0, 2), [(1, 1, 0)]), ((2, 0), [(1, 0, 1)]), ((0, 2), [(3, 1, 0)]), ((2, 0), [(3, 0, 1)]), ((0, 0), [(5, 1, 0)]), ((59, 0), [(5, 0, 1)])])
  | 330 => some (zu_Vw 7 63 63 [] [((0, 0), [(0, 1, 0), (2, 0, 1)]), ((0, 0), [(0, 0, 1), (2, 1, 0)]), ((0, 2), [(1, 1, 0)]), ((2, 0), [(1, 0, 1)]), ((0, 2), [(3, 1, 0)]), ((2, 0), [(3, 0, 1)]), ((0, 512), [(5, 1, 0)]), ((571, 0), [(5, 0, 1)])])
  | 331 => some (zu_Vw 7 63 63 [] [((0, 0), [(0, 1, 0), (2, 0, 1)]), ((0, 0), [(0, 0, 1), (2, 1, 0)]), ((0, 2), [(1, 1, 0)]), ((2, 0), [(1, 0, 1)]), ((0, 2), [(3, 1, 0)]), ((2, 0), [(3, 0, 1)]), ((0, 1024), [(5, 1, 0)]), ((1083, 0), [(5, 0, 1)])])
  | 332 => some (zu_Vw 7 63 63 [] [((0, 0), [(0, 1, 0), (2, 0, 1)]), ((0, 0), [(0, 0, 1), (2, 1, 0)]), ((0, 2), [(1, 1, 0)]), ((2, 0), [(1, 0, 1)]), ((0, 2), [(3, 1, 0)]), ((2, 0), [(3, 0, 1)]), ((0, 1536), [(5, 1, 0)]), ((1595, 0), [(5, 0, 1)])])
  | 333 => some (zu_Vw 7 63 63 [] [((0, 0), [(0, 1, 0), (2, 0, 1)]), ((0, 0), [(0, 0, 1), (2, 1, 0)]), ((0, 2), [(1, 1, 0)]), ((2, 0), [(1, 0, 1)]), ((0, 2), [(3, 1, 0)]), ((2, 0), [(3, 0, 1)]), ((0, 2048), [(5, 1, 0)]), ((2107, 0), [(5, 0, 1)])])
  | 334 => some (zu_Vw 7 63 63 [] [((0, 0), [(0, 1, 0), (2, 0, 1)]), ((0, 0), [(0, 0, 1), (2, 1, 0)]), ((0, 2), [(1, 1, 0)]), ((2, 0), [(1, 0, 1)]), ((0, 2), [(3, 1, 0)]), ((2, 0), [(3, 0, 1)]), ((0, 2560), [(5, 1, 0)]), ((2619, 0), [(5, 0, 1)])])
  | 340 => some (zu_Vw 19 69 69 [] [((0, 0), [(0, 1, 0), (2, 0, 1)]), ((0, 0), [(0, 0, 1), (2, 1, 0)]), ((0, 0), [(1, 1, 0), (3, 0, 1)]), ((0, 0), [(1, 0, 1), (3, 1, 0)]), ((0, 0), [(0, 0, 3), (4, 1, 0)])])
  | 341 => some (zu_Vw 7 62 62 [] [((0, 0), [(0, 1, 0), (1, 0, 1)]), ((0, 0), [(0, 0, 1), (1, 1, 0)]), ((511, 0), [(3, 0, 1)])])
  | 342 => some (zu_Vw 9 62 62 [] [((0, 0), [(0, 1, 0), (1, 0, 1)]), ((0, 0), [(0, 0, 1), (1, 1, 0)]), ((0, 0), [(3, 1, 0)]), ((750, 0), [(3, 0, 1)])])
  | 343 => some (zu_Vw 20 72 72 [] [((0, 0), [(0, 1, 0), (2, 0, 1)]), ((0, 0), [(0, 0, 1), (2, 1, 0)]), ((0, 0), [(1, 1, 0), (3, 0, 1)]), ((0, 0), [(1, 0, 1), (3, 1, 0)]), ((0, 0), [(0, 0, 6), (4, 1, 0)])])
  | 344 => some (zu_Vw 20 72 72 [20] [((0, 0), [(0, 1, 0), (2, 0, 1)]), ((0, 0), [(0, 0, 1), (2, 1, 0)]), ((0, 0), [(1, 1, 0), (3, 0, 1)]), ((0, 0), [(1, 0, 1), (3, 1, 0)]), ((0, 2), [(4, 1, 0), (6, 0, 6)]), ((2, 0), [(4, 0, 1), (6, 6, 0)])])
  | 345 => some (zu_Vw 20 72 72 [20] [((0, 0), [(0, 1, 0), (2, 0, 1)]), ((0, 0), [(0, 0, 1), (2, 1, 0)]), ((0, 0), [(1, 1, 0), (3, 0, 1)]), ((0, 0), [(1, 0, 1), (3, 1, 0)]), ((0, 5), [(4, 1, 0), (6, 0, 6)]), ((5, 0), [(4, 0, 1), (6, 6, 0)])])
  | 350 => some (zu_Vw 41 74 74 [] [((0, 0), [(0, 1, 0), (1, 0, 1)]), ((0, 0), [(0, 0, 1), (1, 1, 0)]), ((0, 0), [(0, 0, 1), (2, 1, 0)])])
  | 351 => some (zu_Vw 42 74 74 [] [((0, 0), [(0, 1, 0), (1, 0, 1)]), ((0, 0), [(0, 0, 1), (1, 1, 0)]), ((0, 0), [(0, 0, 1), (2, 1, 0)])])
  | 352 => some (zu_Vw 67 65 65 [67] [((0, 0), [(0, 1, 0), (3, 0, 1)]), ((0, 0), [(0, 0, 1), (3, 1, 0)]), ((0, 0), [(2, 1, 0), (5, 0, 1)]), ((0, 0), [(2, 0, 1), (5, 1, 0)]), ((0, 0), [(1, 1, 0), (4, 0, 1)]), ((0, 0), [(1, 0, 1), (4, 1, 0)]), ((0, 2), [(6, 1, 0), (8, 0, 6)]), ((2, 0), [(6, 0, 1), (8, 6, 0)])])
  | 360 => some (zx_E360)
  | 361 => some (zx_E361)
  | 370 => some (zx_E370)
  | 380 => some (zx_E380)
  | 381 => some (zx_E381)
  | 392 => some (zu_Vw 62 76 76 [] [((0, 0), [(0, 1, 0), (2, 0, 1)]), ((0, 0), [(0, 0, 1), (2, 1, 0)]), ((0, 0), [(1, 1, 0), (3, 0, 1)]), ((0, 0), [(1, 0, 1), (3, 1, 0)]), ((0, 0), [(0, 0, 6), (4, 1, 0)])])
  | 393 => some (zu_Vw 62 76 76 [62] [((0, 0), [(0, 1, 0), (2, 0, 1)]), ((0, 0), [(0, 0, 1), (2, 1, 0)]), ((0, 0), [(1, 1, 0), (3, 0, 1)]), ((0, 0), [(1, 0, 1), (3, 1, 0)]), ((0, 0), [(4, 1, 0), (6, 0, 6)]), ((0, 0), [(4, 0, 1), (6, 6, 0)]), ((0, 1), [(1, 4294967296, 0), (5, 1, 0)]), ((7, 0), [(1, 4294967296, 0), (5, 0, 1)])])
  | 394 => some (zu_Vw 62 76 76 [62] [((0, 0), [(0, 1, 0), (2, 0, 1)]), ((0, 0), [(0, 0, 1), (2, 1, 0)]), ((0, 0), [(1, 1, 0), (3, 0, 1)]), ((0, 0), [(1, 0, 1), (3, 1, 0)]), ((0, 2), [(4, 1, 0), (6, 0, 6)]), ((2, 0), [(4, 0, 1), (6, 6, 0)]), ((0, 0), [(1, 4294967296, 0), (5, 1, 0)]), ((400, 0), [(1, 4294967296, 0), (5, 0, 1)])])
  | 395 => some (zu_Vw 62 76 76 [62] [((0, 0), [(0, 1, 0), (2, 0, 1)]), ((0, 0), [(0, 0, 1), (2, 1, 0)]), ((0, 0), [(1, 1, 0), (3, 0, 1)]), ((0, 0), [(1, 0, 1), (3, 1, 0)]), ((0, 3), [(4, 1, 0), (6, 0, 6)]), ((3, 0), [(4, 0, 1), (6, 6, 0)])])
  | 396 => some (zu_Vw 20 77 77 [] [((0, 0), [(0, 1, 0), (2, 0, 1)]), ((0, 0), [(0, 0, 1), (2, 1, 0)]), ((0, 0), [(1, 1, 0), (3, 0, 1)]), ((0, 0), [(1, 0, 1), (3, 1, 0)]), ((0, 0), [(0, 0, 6), (4, 1, 0)])])
  | 397 => some (zu_Vw 7 78 78 [] [((0, 0), [(0, 1, 0), (3, 0, 1)]), ((0, 0), [(0, 0, 1), (3, 1, 0)]), ((0, 0), [(1, 1, 0), (4, 0, 1)]), ((0, 0), [(1, 0, 1), (4, 1, 0)]), ((0, 0), [(2, 0, 1), (5, 1, 0)]), ((59, 0), [(1, 4294967296, 0), (7, 0, 1)]), ((0, 1), [(5, 1, 0), (7, 0, 1)])])
  | 398 => some (zu_Vw 8 78 78 [] [((0, 0), [(0, 1, 0), (3, 0, 1)]), ((0, 0), [(0, 0, 1), (3, 1, 0)]), ((0, 0), [(1, 1, 0), (4, 0, 1)]), ((0, 0), [(1, 0, 1), (4, 1, 0)]), ((0, 0), [(2, 1, 0), (5, 0, 1)]), ((0, 0), [(2, 0, 1), (5, 1, 0)]), ((0, 0), [(1, 4294967296, 0), (7, 1, 0)]), ((60, 0), [(1, 4294967296, 0), (7, 0, 1)])])
  | 399 => some (zx_E399)
  | _ => zVLb j
set_option maxRecDepth 4000 in
theorem zVLc_ok {j : Nat} {x : zx_V} (h : zVLc j = some x) : zx_Vok 64 zHT zPT x := by
  unfold zVLc at h
  split at h
  · cases h
    exact zx_E700_ok
  · cases h
    exact zx_E701_ok
  · cases h
    exact zx_E702_ok
  · cases h
    exact zx_E703_ok
  · cases h
    exact zx_E704_ok
  · cases h
    exact zx_E705_ok
  · cases h
    exact zx_E706_ok
  · cases h
    exact zx_E707_ok
  · cases h
    exact zx_E708_ok
  · cases h
    exact zx_gv709_ok
  · cases h
    exact zx_E710_ok
  · cases h
    exact zx_E720_ok
  · cases h
    exact zx_E733_ok
  · cases h
    exact zx_E734_ok
  · cases h
    exact zx_E735_ok
  · cases h
    exact zx_E736_ok
  · cases h
    exact zx_E737_ok
  · cases h
    exact zx_E738_ok
  · cases h
    exact zx_E740_ok
  · cases h
    exact zx_E741_ok
  · cases h
    exact zx_E742_ok
  · cases h
    exact zx_E743_ok
  · cases h
    exact zx_E744_ok
  · cases h
    exact zx_E745_ok
  · cases h
    exact zx_E746_ok
  · cases h
    exact zx_E747_ok
  · cases h
    exact zx_E748_ok
  · cases h
    exact zx_E749_ok
  · cases h
    exact zx_E750_ok
  · cases h
    exact zx_E751_ok
  · cases h
    exact zx_E752_ok
  · cases h
    exact zx_E760_ok
  · cases h
    exact zx_E761_ok
  · cases h
    exact zx_E762_ok
  · cases h
    exact zx_E763_ok
  · cases h
    exact zx_E764_ok
  · cases h
    exact zx_E765_ok
  · cases h
    exact zx_E766_ok
  · cases h
    exact zx_E767_ok
  · cases h
    exact zx_E770_ok
  · cases h
    exact zx_E771_ok
  · cases h
    exact zx_E772_ok
  · cases h
    exact zx_E773_ok
  · cases h
    exact zx_E774_ok
  · cases h
    exact zx_E775_ok
  · cases h
    exact zx_E777_ok
  · cases h
    exact zx_E778_ok
  · cases h
    exact zx_E779_ok
  · cases h
    exact zx_E780_ok
  · cases h
    exact zx_E781_ok
  · cases h
    exact zx_E782_ok
  · cases h
    exact zx_E783_ok
  · cases h
    exact zx_E784_ok
  · cases h
    exact zx_E785_ok
  · cases h
    exact zx_E786_ok
  · cases h
    exact zx_E787_ok
  · cases h
    exact zx_E788_ok
  · cases h
set_option maxRecDepth 4000 in
theorem zVLb_ok {j : Nat} {x : zx_V} (h : zVLb j = some x) : zx_Vok 64 zHT zPT x := by
  unfold zVLb at h
  split at h
  · cases h
    exact zx_E400_ok
  · cases h
    exact zx_gv401_ok
  · cases h
    exact zx_gv402_ok
  · cases h
    exact zx_gv403_ok
  · cases h
    exact zx_gv404_ok
  · cases h
    exact zx_gv405_ok
  · cases h
    exact zx_gv406_ok
  · cases h
    exact zx_gv407_ok
  · cases h
    exact zx_gv408_ok
  · cases h
    exact zx_gv409_ok
  · cases h
    exact zx_gv410_ok
  · cases h
    exact zx_gv411_ok
  · cases h
    exact zx_gv412_ok
  · cases h
    exact zx_gv413_ok
  · cases h
    exact zx_gv414_ok
  · cases h
    exact zx_E420_ok
  · cases h
    exact zx_E421_ok
  · cases h
    exact zx_gv422_ok
  · cases h
    exact zx_gv423_ok
  · cases h
    exact zx_gv424_ok
  · cases h
    exact zx_gv425_ok
  · cases h
    exact zx_gv426_ok
  · cases h
    exact zx_gv427_ok
  · cases h
    exact zx_gv430_ok
  · cases h
    exact zx_gv431_ok
  · cases h
    exact zx_gv432_ok
  · cases h
    exact zx_gv433_ok
  · cases h
    exact zx_gv434_ok
  · cases h
    exact zx_gv435_ok
  · cases h
    exact zx_E440_ok
  · cases h
    exact zx_E441_ok
  · cases h
    exact zx_E442_ok
  · cases h
    exact zx_E443_ok
  · cases h
    exact zx_E444_ok
  · cases h
    exact zx_E445_ok
  · cases h
    exact zx_E446_ok
  · cases h
    exact zx_E447_ok
  · cases h
    exact zx_E448_ok
  · cases h
    exact zx_gv460_ok
  · cases h
    exact zx_gv461_ok
  · cases h
    exact zx_gv462_ok
  · cases h
    exact zx_gv463_ok
  · cases h
    exact zx_gv464_ok
  · cases h
    exact zx_gv465_ok
  · cases h
    exact zx_E466_ok
  · cases h
    exact zx_E467_ok
  · cases h
    exact zx_E468_ok
  · cases h
    exact zx_E475_ok
  · cases h
    exact zx_E476_ok
  · cases h
    exact zx_E477_ok
  · cases h
    exact zx_E478_ok
  · cases h
    exact zx_E479_ok
  · cases h
    exact zx_E480_ok
  · cases h
    exact zx_E481_ok
  · cases h
    exact zx_E482_ok
  · cases h
    exact zx_E483_ok
  · cases h
    exact zx_E484_ok
  · cases h
    exact zx_E490_ok
  · cases h
    exact zx_E491_ok
  · cases h
    exact zx_E492_ok
  · cases h
    exact zx_E493_ok
  · cases h
    exact zx_E494_ok
  · cases h
    exact zx_E495_ok
  · cases h
    exact zx_E496_ok
  · cases h
    exact zx_E497_ok
  · cases h
    exact zx_E498_ok
  · cases h
    exact zx_E499_ok
  · cases h
    exact zx_E500_ok
  · cases h
    exact zx_E501_ok
  · cases h
    exact zx_E502_ok
  · cases h
    exact zx_gv503_ok
  · cases h
    exact zx_gv504_ok
  · cases h
    exact zx_gv505_ok
  · cases h
    exact zx_gv506_ok
  · cases h
    exact zx_gv507_ok
  · cases h
    exact zx_gv508_ok
  · cases h
    exact zx_gv509_ok
  · cases h
    exact zx_gv510_ok
  · cases h
    exact zx_gv511_ok
  · cases h
    exact zx_gv512_ok
  · cases h
    exact zx_gv513_ok
  · cases h
    exact zx_E520_ok
  · cases h
    exact zx_E521_ok
  · cases h
    exact zx_E522_ok
  · cases h
    exact zx_E523_ok
  · cases h
    exact zx_E524_ok
  · cases h
    exact zx_E525_ok
  · cases h
    exact zx_E526_ok
  · cases h
    exact zx_E527_ok
  · cases h
    exact zx_E528_ok
  · cases h
    exact zx_E529_ok
  · cases h
    exact zx_E530_ok
  · cases h
    exact zx_E531_ok
  · cases h
    exact zx_E532_ok
  · cases h
    exact zx_E533_ok
  · cases h
    exact zx_E534_ok
  · cases h
    exact zx_E535_ok
  · cases h
    exact zx_E536_ok
  · cases h
    exact zx_E537_ok
  · cases h
    exact zx_E540_ok
  · cases h
    exact zx_E541_ok
  · cases h
    exact zx_E542_ok
  · cases h
    exact zx_E543_ok
  · cases h
    exact zx_E550_ok
  · cases h
    exact zx_E551_ok
  · cases h
    exact zx_E552_ok
  · cases h
    exact zx_E553_ok
  · cases h
    exact zx_E554_ok
  · cases h
    exact zx_E555_ok
  · cases h
    exact zx_E556_ok
  · cases h
    exact zx_E557_ok
  · cases h
    exact zx_E558_ok
  · cases h
    exact zx_E559_ok
  · cases h
    exact zx_E560_ok
  · cases h
    exact zx_E561_ok
  · cases h
    exact zx_E562_ok
  · cases h
    exact zx_E563_ok
  · cases h
    exact zx_E564_ok
  · cases h
    exact zx_E565_ok
  · cases h
    exact zx_E566_ok
  · cases h
    exact zx_gv567_ok
  · cases h
    exact zx_gv568_ok
  · cases h
    exact zx_E570_ok
  · cases h
    exact zx_E571_ok
  · cases h
    exact zx_E572_ok
  · cases h
    exact zx_E573_ok
  · cases h
    exact zx_E574_ok
  · cases h
    exact zx_E575_ok
  · cases h
    exact zx_E576_ok
  · cases h
    exact zx_E577_ok
  · cases h
    exact zx_E578_ok
  · cases h
    exact zx_E579_ok
  · cases h
    exact zx_E580_ok
  · cases h
    exact zx_E581_ok
  · cases h
    exact zx_E585_ok
  · cases h
    exact zx_E586_ok
  · cases h
    exact zx_E590_ok
  · cases h
    exact zx_E591_ok
  · cases h
    exact zx_E592_ok
  · cases h
    exact zx_E593_ok
  · cases h
    exact zx_E610_ok
  · cases h
    exact zx_E611_ok
  · cases h
    exact zx_E612_ok
  · cases h
    exact zx_E613_ok
  · cases h
    exact zx_E614_ok
  · cases h
    exact zx_E615_ok
  · cases h
    exact zx_E616_ok
  · cases h
    exact zx_E620_ok
  · cases h
    exact zx_E621_ok
  · cases h
    exact zx_E622_ok
  · cases h
    exact zx_E623_ok
  · cases h
    exact zx_E624_ok
  · cases h
    exact zx_E625_ok
  · cases h
    exact zx_E626_ok
  · cases h
    exact zx_E627_ok
  · cases h
    exact zx_E628_ok
  · cases h
    exact zx_E629_ok
  · cases h
    exact zx_E630_ok
  · cases h
    exact zx_E631_ok
  · cases h
    exact zx_E632_ok
  · cases h
    exact zx_E640_ok
  · cases h
    exact zx_E641_ok
  · cases h
    exact zx_E642_ok
  · cases h
    exact zx_E643_ok
  · cases h
    exact zx_E644_ok
  · cases h
    exact zx_E645_ok
  · cases h
    exact zx_E646_ok
  · cases h
    exact zx_E650_ok
  · cases h
    exact zx_E651_ok
  · cases h
    exact zx_E660_ok
  · cases h
    exact zx_E661_ok
  · cases h
    exact zx_E670_ok
  · cases h
    exact zx_E671_ok
  · cases h
    exact zx_E672_ok
  · cases h
    exact zx_E673_ok
  · cases h
    exact zx_E680_ok
  · cases h
    exact zx_E681_ok
  · cases h
    exact zx_E682_ok
  · cases h
    exact zx_E690_ok
  · cases h
    exact zx_E691_ok
  · cases h
    exact zx_E692_ok
  · cases h
    exact zx_E693_ok
  · cases h
    exact zx_E694_ok
  · cases h
    exact zx_E695_ok
  · cases h
    exact zx_E696_ok
  · cases h
    exact zx_E697_ok
  · cases h
    exact zx_E698_ok
  · cases h
    exact zx_E699_ok
  · exact zVLc_ok h
set_option maxRecDepth 4000 in
theorem zLLe_ok {j : Nat} {x : zx_L} (h : zLLe j = some x) : zx_Lok 64 zHT zPT x := by
  unfold zLLe at h
  split at h
  · cases h
    exact zx_D1110_ok
  · cases h
    exact zx_D1120_ok
  · cases h
    exact zx_D1121_ok
  · cases h
    exact zx_D1122_ok
  · cases h
    exact zx_D1123_ok
  · cases h
    exact zx_D1124_ok
  · cases h
    exact zx_D1125_ok
  · cases h
    exact zx_D1126_ok
  · cases h
    exact zx_D1127_ok
  · cases h
    exact zx_D1128_ok
  · cases h
    exact zx_D1129_ok
  · cases h
    exact zx_D1130_ok
  · cases h
    exact zx_D1131_ok
  · cases h
    exact zx_D1132_ok
  · cases h
    exact zx_D1133_ok
  · cases h
    exact zx_D1134_ok
  · cases h
    exact zx_D1135_ok
  · cases h
    exact zx_D1136_ok
  · cases h
    exact zx_D1137_ok
  · cases h
    exact zx_D1138_ok
  · cases h
    exact zx_D1139_ok
  · cases h
    exact zx_D1140_ok
  · cases h
    exact zx_D1141_ok
  · cases h
    exact zx_D1142_ok
  · cases h
    exact zx_D1143_ok
  · cases h
    exact zx_gl1144_ok
  · cases h
    exact zx_D1150_ok
  · cases h
    exact zx_D1151_ok
  · cases h
    exact zx_D1152_ok
  · cases h
    exact zx_D1153_ok
  · cases h
    exact zx_D1154_ok
  · cases h
    exact zx_D1155_ok
  · cases h
    exact zx_D1156_ok
  · cases h
    exact zx_D1157_ok
  · cases h
    exact zx_D1158_ok
  · cases h
    exact zx_D1159_ok
  · cases h
    exact zx_D1160_ok
  · cases h
    exact zx_D1161_ok
  · cases h
    exact zx_D1162_ok
  · cases h
    exact zx_D1163_ok
  · cases h
    exact zx_D1164_ok
  · cases h
    exact zx_D1165_ok
  · cases h
    exact zx_D1166_ok
  · cases h
    exact zx_D1167_ok
  · cases h
    exact zx_D1168_ok
  · cases h
    exact zx_D1169_ok
  · cases h
    exact zx_D1170_ok
  · cases h
    exact zx_D1171_ok
  · cases h
    exact zx_D1172_ok
  · cases h
    exact zx_D1173_ok
  · cases h
    exact zx_D1174_ok
  · cases h
    exact zx_D1175_ok
  · cases h
    exact zx_D1176_ok
  · cases h
    exact zx_D1177_ok
  · cases h
    exact zx_D1178_ok
  · cases h
    exact zx_D1179_ok
  · cases h
    exact zx_D1180_ok
  · cases h
    exact zx_D1181_ok
  · cases h
    exact zx_D1182_ok
  · cases h
    exact zx_D1183_ok
  · cases h
    exact zx_D1184_ok
  · cases h
    exact zx_D1186_ok
  · cases h
    exact zx_D1187_ok
  · cases h
    exact zx_D1190_ok
  · cases h
    exact zx_D1191_ok
  · cases h
    exact zx_D1192_ok
  · cases h
    exact zx_D1193_ok
  · cases h
    exact zx_D1194_ok
  · cases h
    exact zx_D1195_ok
  · cases h
    exact zx_D1196_ok
  · cases h
    exact zx_D1197_ok
  · cases h
    exact zx_D1199_ok
  · cases h
    exact zx_D1200_ok
  · cases h
    exact zx_D1201_ok
  · cases h
    exact zx_D1203_ok
  · cases h
    exact zx_D1204_ok
  · cases h
    exact zx_D1205_ok
  · cases h
    exact zx_D1206_ok
  · cases h
    exact zx_D1207_ok
  · cases h
    exact zx_D1208_ok
  · cases h
    exact zx_D1209_ok
  · cases h
    exact zx_D1210_ok
  · cases h
    exact zx_D1211_ok
  · cases h
    exact zx_D1212_ok
  · cases h
    exact zx_D1213_ok
  · cases h
    exact zx_D1214_ok
  · cases h
    exact zx_D1215_ok
  · cases h
    exact zx_D1216_ok
  · cases h
    exact zx_D1217_ok
  · cases h
    exact zx_D1220_ok
  · cases h
    exact zx_D1221_ok
  · cases h
    exact zx_D1222_ok
  · cases h
    exact zx_D1223_ok
  · cases h
    exact zx_D1224_ok
  · cases h
    exact zx_D1225_ok
  · cases h
    exact zx_D1226_ok
  · cases h
    exact zx_D1227_ok
  · cases h
    exact zx_D1228_ok
  · cases h
    exact zx_D1229_ok
  · cases h
    exact zx_D1230_ok
  · cases h
    exact zx_D1231_ok
  · cases h
    exact zx_D1232_ok
  · cases h
    exact zx_D1233_ok
  · cases h
    exact zx_D1234_ok
  · cases h
    exact zx_D1235_ok
  · cases h
    exact zx_D1236_ok
  · cases h
    exact zx_D1237_ok
  · cases h
    exact zx_D1240_ok
  · cases h
    exact zx_D1249_ok
  · cases h
    exact zx_D1250_ok
  · cases h
    exact zx_D1251_ok
  · cases h
    exact zx_D1252_ok
  · cases h
    exact zx_D1253_ok
  · cases h
    exact zx_D1254_ok
  · cases h
    exact zx_D1255_ok
  · cases h
    exact zx_D1256_ok
  · cases h
    exact zx_D1258_ok
  · cases h
    exact zx_D1259_ok
  · cases h
    exact zx_D1260_ok
  · cases h
    exact zx_D1261_ok
  · cases h
    exact zx_D1262_ok
  · cases h
    exact zx_D1263_ok
  · cases h
    exact zx_D1264_ok
  · cases h
    exact zx_D1265_ok
  · cases h
    exact zx_D1269_ok
  · cases h
    exact zx_D1270_ok
  · cases h
    exact zx_D1271_ok
  · cases h
    exact zx_D1272_ok
  · cases h
    exact zx_D1274_ok
  · cases h
    exact zx_D1275_ok
  · cases h
    exact zx_D1276_ok
  · cases h
    exact zx_D1277_ok
  · cases h
    exact zx_D1278_ok
  · cases h
    exact zx_D1279_ok
  · cases h
    exact zx_D1280_ok
  · cases h
    exact zx_D1281_ok
  · cases h
    exact zx_D1282_ok
  · cases h
    exact zx_D1283_ok
  · cases h
    exact zx_D1284_ok
  · cases h
    exact zx_D1286_ok
  · cases h
    exact zx_D1287_ok
  · cases h
    exact zx_D1288_ok
  · cases h
    exact zx_D1289_ok
  · cases h
    exact zx_D1290_ok
  · cases h
    exact zx_D1291_ok
  · cases h
    exact zx_D1292_ok
  · cases h
    exact zx_D1293_ok
  · cases h
    exact zx_D1294_ok
  · cases h
    exact zx_D1295_ok
  · cases h
    exact zx_D1296_ok
  · cases h
    exact zx_D1297_ok
  · cases h
    exact zx_D1298_ok
  · cases h
    exact zx_D1299_ok
  · cases h
    exact zx_D1300_ok
  · cases h
    exact zx_D1301_ok
  · cases h
    exact zx_D1302_ok
  · cases h
    exact zx_D1303_ok
  · cases h
    exact zx_D1304_ok
  · cases h
    exact zx_D1305_ok
  · cases h
    exact zx_D1310_ok
  · cases h
    exact zx_D1313_ok
  · cases h
    exact zx_D1314_ok
  · cases h
    exact zx_D1315_ok
  · cases h
    exact zx_D1316_ok
  · cases h
    exact zx_D1317_ok
  · cases h
    exact zx_D1318_ok
  · cases h
    exact zx_D1319_ok
  · cases h
    exact zx_D1320_ok
  · cases h
    exact zx_D1330_ok
  · cases h
    exact zx_D1331_ok
  · cases h
    exact zx_D1332_ok
  · cases h
    exact zx_D1333_ok
  · cases h
    exact zx_D1334_ok
  · cases h
    exact zx_D1335_ok
  · cases h
    exact zx_D1336_ok
  · cases h
    exact zx_D1337_ok
  · cases h
set_option maxRecDepth 4000 in
theorem zLLd_ok {j : Nat} {x : zx_L} (h : zLLd j = some x) : zx_Lok 64 zHT zPT x := by
  unfold zLLd at h
  split at h
  · cases h
    exact zx_D780_ok
  · cases h
    exact zx_D781_ok
  · cases h
    exact zx_D782_ok
  · cases h
    exact zx_D783_ok
  · cases h
    exact zx_D784_ok
  · cases h
    exact zx_D785_ok
  · cases h
    exact zx_D786_ok
  · cases h
    exact zx_D787_ok
  · cases h
    exact zx_D788_ok
  · cases h
    exact zx_D790_ok
  · cases h
    exact zx_D791_ok
  · cases h
    exact zx_D792_ok
  · cases h
    exact zx_D793_ok
  · cases h
    exact zx_D795_ok
  · cases h
    exact zx_C4_ok
  · cases h
    exact zx_C3_ok
  · cases h
    exact zx_C2_ok
  · cases h
    exact zx_C1_ok
  · cases h
    exact zx_D800_ok
  · cases h
    exact zx_D801_ok
  · cases h
    exact zx_D802_ok
  · cases h
    exact zx_D803_ok
  · cases h
    exact zx_D810_ok
  · cases h
    exact zx_D811_ok
  · cases h
    exact zx_D812_ok
  · cases h
    exact zx_D813_ok
  · cases h
    exact zx_D814_ok
  · cases h
    exact zx_D815_ok
  · cases h
    exact zx_D820_ok
  · cases h
    exact zx_D821_ok
  · cases h
    exact zx_D822_ok
  · cases h
    exact zx_D823_ok
  · cases h
    exact zx_D824_ok
  · cases h
    exact zx_D825_ok
  · cases h
    exact zx_D826_ok
  · cases h
    exact zx_D827_ok
  · cases h
    exact zx_D828_ok
  · cases h
    exact zx_D829_ok
  · cases h
    exact zx_D830_ok
  · cases h
    exact zx_D831_ok
  · cases h
    exact zx_D832_ok
  · cases h
    exact zx_D833_ok
  · cases h
    exact zx_D834_ok
  · cases h
    exact zx_D835_ok
  · cases h
    exact zx_D836_ok
  · cases h
    exact zx_D837_ok
  · cases h
    exact zx_D838_ok
  · cases h
    exact zx_D840_ok
  · cases h
    exact zx_D841_ok
  · cases h
    exact zx_D842_ok
  · cases h
    exact zx_D843_ok
  · cases h
    exact zx_D850_ok
  · cases h
    exact zx_D851_ok
  · cases h
    exact zx_D855_ok
  · cases h
    exact zx_D856_ok
  · cases h
    exact zx_D857_ok
  · cases h
    exact zx_D858_ok
  · cases h
    exact zx_D859_ok
  · cases h
    exact zx_D860_ok
  · cases h
    exact zx_D861_ok
  · cases h
    exact zx_D862_ok
  · cases h
    exact zx_D863_ok
  · cases h
    exact zx_D868_ok
  · cases h
    exact zx_D869_ok
  · cases h
    exact zx_D870_ok
  · cases h
    exact zx_D872_ok
  · cases h
    exact zx_D873_ok
  · cases h
    exact zx_D874_ok
  · cases h
    exact zx_D875_ok
  · cases h
    exact zx_D880_ok
  · cases h
    exact zx_D881_ok
  · cases h
    exact zx_D882_ok
  · cases h
    exact zx_D900_ok
  · cases h
    exact zx_D901_ok
  · cases h
    exact zx_D902_ok
  · cases h
    exact zx_D903_ok
  · cases h
    exact zx_D904_ok
  · cases h
    exact zx_D905_ok
  · cases h
    exact zx_D906_ok
  · cases h
    exact zx_D907_ok
  · cases h
    exact zx_D908_ok
  · cases h
    exact zx_D909_ok
  · cases h
    exact zx_D910_ok
  · cases h
    exact zx_D911_ok
  · cases h
    exact zx_D912_ok
  · cases h
    exact zx_D913_ok
  · cases h
    exact zx_D914_ok
  · cases h
    exact zx_D915_ok
  · cases h
    exact zx_D916_ok
  · cases h
    exact zx_D917_ok
  · cases h
    exact zx_D918_ok
  · cases h
    exact zx_D919_ok
  · cases h
    exact zx_D920_ok
  · cases h
    exact zx_D921_ok
  · cases h
    exact zx_D922_ok
  · cases h
    exact zx_D923_ok
  · cases h
    exact zx_D924_ok
  · cases h
    exact zx_D925_ok
  · cases h
    exact zx_D926_ok
  · cases h
    exact zx_D927_ok
  · cases h
    exact zx_D928_ok
  · cases h
    exact zx_D929_ok
  · cases h
    exact zx_D930_ok
  · cases h
    exact zx_D931_ok
  · cases h
    exact zx_D932_ok
  · cases h
    exact zx_D933_ok
  · cases h
    exact zx_D934_ok
  · cases h
    exact zx_D935_ok
  · cases h
    exact zx_D936_ok
  · cases h
    exact zx_D937_ok
  · cases h
    exact zx_D938_ok
  · cases h
    exact zx_D939_ok
  · cases h
    exact zx_D940_ok
  · cases h
    exact zx_D941_ok
  · cases h
    exact zx_D942_ok
  · cases h
    exact zx_D943_ok
  · cases h
    exact zx_D944_ok
  · cases h
    exact zx_D945_ok
  · cases h
    exact zx_D946_ok
  · cases h
    exact zx_D947_ok
  · cases h
    exact zx_D948_ok
  · cases h
    exact zx_D949_ok
  · cases h
    exact zx_D950_ok
  · cases h
    exact zx_D951_ok
  · cases h
    exact zx_D952_ok
  · cases h
    exact zx_D953_ok
  · cases h
    exact zx_D954_ok
  · cases h
    exact zx_D955_ok
  · cases h
    exact zx_D956_ok
  · cases h
    exact zx_D957_ok
  · cases h
    exact zx_D980_ok
  · cases h
    exact zx_D981_ok
  · cases h
    exact zx_D988_ok
  · cases h
    exact zx_D989_ok
  · cases h
    exact zx_D992_ok
  · cases h
    exact zx_D993_ok
  · cases h
    exact zx_D994_ok
  · cases h
    exact zx_D997_ok
  · cases h
    exact zx_D1001_ok
  · cases h
    exact zx_D1002_ok
  · cases h
    exact zx_D1003_ok
  · cases h
    exact zx_D1004_ok
  · cases h
    exact zx_D1005_ok
  · cases h
    exact zx_D1006_ok
  · cases h
    exact zx_D1010_ok
  · cases h
    exact zx_D1011_ok
  · cases h
    exact zx_D1012_ok
  · cases h
    exact zx_D1013_ok
  · cases h
    exact zx_D1014_ok
  · cases h
    exact zx_D1020_ok
  · cases h
    exact zx_D1021_ok
  · cases h
    exact zx_D1022_ok
  · cases h
    exact zx_D1023_ok
  · cases h
    exact zx_D1024_ok
  · cases h
    exact zx_D1025_ok
  · cases h
    exact zx_D1030_ok
  · cases h
    exact zx_D1031_ok
  · cases h
    exact zx_D1032_ok
  · cases h
    exact zx_D1033_ok
  · cases h
    exact zx_D1034_ok
  · cases h
    exact zx_D1035_ok
  · cases h
    exact zx_D1036_ok
  · cases h
    exact zx_D1040_ok
  · cases h
    exact zx_D1043_ok
  · cases h
    exact zx_D1044_ok
  · cases h
    exact zx_D1045_ok
  · cases h
    exact zx_D1050_ok
  · cases h
    exact zx_D1051_ok
  · cases h
    exact zx_D1052_ok
  · cases h
    exact zx_D1053_ok
  · cases h
    exact zx_D1054_ok
  · cases h
    exact zx_D1060_ok
  · cases h
    exact zx_D1061_ok
  · cases h
    exact zx_D1062_ok
  · cases h
    exact zx_D1070_ok
  · cases h
    exact zx_D1071_ok
  · cases h
    exact zx_D1080_ok
  · cases h
    exact zx_D1081_ok
  · cases h
    exact zx_D1082_ok
  · cases h
    exact zx_D1083_ok
  · cases h
    exact zx_D1084_ok
  · cases h
    exact zx_D1085_ok
  · cases h
    exact zx_D1086_ok
  · cases h
    exact zx_D1087_ok
  · cases h
    exact zx_D1088_ok
  · cases h
    exact zx_D1089_ok
  · cases h
    exact zx_D1090_ok
  · cases h
    exact zx_D1091_ok
  · cases h
    exact zx_D1092_ok
  · cases h
    exact zx_D1093_ok
  · cases h
    exact zx_D1094_ok
  · cases h
    exact zx_D1095_ok
  · cases h
    exact zx_D1096_ok
  · cases h
    exact zx_D1097_ok
  · cases h
    exact zx_D1098_ok
  · cases h
    exact zx_D1100_ok
  · cases h
    exact zx_D1101_ok
  · cases h
    exact zx_D1102_ok
  · cases h
    exact zx_D1103_ok
  · cases h
    exact zx_D1104_ok
  · cases h
    exact zx_D1105_ok
  · cases h
    exact zx_D1106_ok
  · cases h
    exact zx_D1107_ok
  · cases h
    exact zx_D1108_ok
  · cases h
    exact zx_D1109_ok
  · exact zLLe_ok h
set_option maxRecDepth 4000 in
theorem zLLc_ok {j : Nat} {x : zx_L} (h : zLLc j = some x) : zx_Lok 64 zHT zPT x := by
  unfold zLLc at h
  split at h
  · cases h
    exact zx_D530_ok
  · cases h
    exact zx_D531_ok
  · cases h
    exact zx_D532_ok
  · cases h
    exact zx_D533_ok
  · cases h
    exact zx_D534_ok
  · cases h
    exact zx_D535_ok
  · cases h
    exact zx_D536_ok
  · cases h
    exact zx_D537_ok
  · cases h
    exact zx_D538_ok
  · cases h
    exact zx_D539_ok
  · cases h
    exact zx_D540_ok
  · cases h
    exact zx_D541_ok
  · cases h
    exact zx_D542_ok
  · cases h
    exact zx_D543_ok
  · cases h
    exact zx_D544_ok
  · cases h
    exact zx_D545_ok
  · cases h
    exact zx_D546_ok
  · cases h
    exact zx_D547_ok
  · cases h
    exact zx_D548_ok
  · cases h
    exact zx_D549_ok
  · cases h
    exact zx_D550_ok
  · cases h
    exact zx_D551_ok
  · cases h
    exact zx_D552_ok
  · cases h
    exact zx_D553_ok
  · cases h
    exact zx_D554_ok
  · cases h
    exact zx_D555_ok
  · cases h
    exact zx_D556_ok
  · cases h
    exact zx_D557_ok
  · cases h
    exact zx_D558_ok
  · cases h
    exact zx_D559_ok
  · cases h
    exact zx_D560_ok
  · cases h
    exact zx_D561_ok
  · cases h
    exact zx_D562_ok
  · cases h
    exact zx_D563_ok
  · cases h
    exact zx_D564_ok
  · cases h
    exact zx_D565_ok
  · cases h
    exact zx_D566_ok
  · cases h
    exact zx_D575_ok
  · cases h
    exact zx_D576_ok
  · cases h
    exact zx_D577_ok
  · cases h
    exact zx_D578_ok
  · cases h
    exact zx_D579_ok
  · cases h
    exact zx_D580_ok
  · cases h
    exact zx_D581_ok
  · cases h
    exact zx_D582_ok
  · cases h
    exact zx_D583_ok
  · cases h
    exact zx_D584_ok
  · cases h
    exact zx_D585_ok
  · cases h
    exact zx_D586_ok
  · cases h
    exact zx_D587_ok
  · cases h
    exact zx_D588_ok
  · cases h
    exact zx_D589_ok
  · cases h
    exact zx_D590_ok
  · cases h
    exact zx_D591_ok
  · cases h
    exact zx_D592_ok
  · cases h
    exact zx_D593_ok
  · cases h
    exact zx_D594_ok
  · cases h
    exact zx_D595_ok
  · cases h
    exact zx_D596_ok
  · cases h
    exact zx_D597_ok
  · cases h
    exact zx_D598_ok
  · cases h
    exact zx_D599_ok
  · cases h
    exact zx_D600_ok
  · cases h
    exact zx_D601_ok
  · cases h
    exact zx_D602_ok
  · cases h
    exact zx_D603_ok
  · cases h
    exact zx_D604_ok
  · cases h
    exact zx_D605_ok
  · cases h
    exact zx_D606_ok
  · cases h
    exact zx_D607_ok
  · cases h
    exact zx_D608_ok
  · cases h
    exact zx_D609_ok
  · cases h
    exact zx_D610_ok
  · cases h
    exact zx_D611_ok
  · cases h
    exact zx_D612_ok
  · cases h
    exact zx_D613_ok
  · cases h
    exact zx_D614_ok
  · cases h
    exact zx_D615_ok
  · cases h
    exact zx_D616_ok
  · cases h
    exact zx_D617_ok
  · cases h
    exact zx_D618_ok
  · cases h
    exact zx_D619_ok
  · cases h
    exact zx_D620_ok
  · cases h
    exact zx_D621_ok
  · cases h
    exact zx_D622_ok
  · cases h
    exact zx_D623_ok
  · cases h
    exact zx_D624_ok
  · cases h
    exact zx_D625_ok
  · cases h
    exact zx_D626_ok
  · cases h
    exact zx_D627_ok
  · cases h
    exact zx_D628_ok
  · cases h
    exact zx_D629_ok
  · cases h
    exact zx_D630_ok
  · cases h
    exact zx_D631_ok
  · cases h
    exact zx_D632_ok
  · cases h
    exact zx_D633_ok
  · cases h
    exact zx_D634_ok
  · cases h
    exact zx_D635_ok
  · cases h
    exact zx_D636_ok
  · cases h
    exact zx_D637_ok
  · cases h
    exact zx_D638_ok
  · cases h
    exact zx_D639_ok
  · cases h
    exact zx_D640_ok
  · cases h
    exact zx_D641_ok
  · cases h
    exact zx_D642_ok
  · cases h
    exact zx_D643_ok
  · cases h
    exact zx_D644_ok
  · cases h
    exact zx_D645_ok
  · cases h
    exact zx_D646_ok
  · cases h
    exact zx_D647_ok
  · cases h
    exact zx_D648_ok
  · cases h
    exact zx_D649_ok
  · cases h
    exact zx_D650_ok
  · cases h
    exact zx_D651_ok
  · cases h
    exact zx_D652_ok
  · cases h
    exact zx_D653_ok
  · cases h
    exact zx_D654_ok
  · cases h
    exact zx_D655_ok
  · cases h
    exact zx_D656_ok
  · cases h
    exact zx_D657_ok
  · cases h
    exact zx_D658_ok
  · cases h
    exact zx_D659_ok
  · cases h
    exact zx_D660_ok
  · cases h
    exact zx_D661_ok
  · cases h
    exact zx_D662_ok
  · cases h
    exact zx_D663_ok
  · cases h
    exact zx_D664_ok
  · cases h
    exact zx_D665_ok
  · cases h
    exact zx_D666_ok
  · cases h
    exact zx_D667_ok
  · cases h
    exact zx_D668_ok
  · cases h
    exact zx_D669_ok
  · cases h
    exact zx_D670_ok
  · cases h
    exact zx_D671_ok
  · cases h
    exact zx_D680_ok
  · cases h
    exact zx_D681_ok
  · cases h
    exact zx_D682_ok
  · cases h
    exact zx_D683_ok
  · cases h
    exact zx_D684_ok
  · cases h
    exact zx_D685_ok
  · cases h
    exact zx_D686_ok
  · cases h
    exact zx_D687_ok
  · cases h
    exact zx_D688_ok
  · cases h
    exact zx_D689_ok
  · cases h
    exact zx_D690_ok
  · cases h
    exact zx_D691_ok
  · cases h
    exact zx_D692_ok
  · cases h
    exact zx_D693_ok
  · cases h
    exact zx_D694_ok
  · cases h
    exact zx_D695_ok
  · cases h
    exact zx_D696_ok
  · cases h
    exact zx_D697_ok
  · cases h
    exact zx_gl698_ok
  · cases h
    exact zx_gl699_ok
  · cases h
    exact zx_D700_ok
  · cases h
    exact zx_D701_ok
  · cases h
    exact zx_D702_ok
  · cases h
    exact zx_D703_ok
  · cases h
    exact zx_D704_ok
  · cases h
    exact zx_D705_ok
  · cases h
    exact zx_D706_ok
  · cases h
    exact zx_D707_ok
  · cases h
    exact zx_D708_ok
  · cases h
    exact zx_D709_ok
  · cases h
    exact zx_D710_ok
  · cases h
    exact zx_D711_ok
  · cases h
    exact zx_D712_ok
  · cases h
    exact zx_D713_ok
  · cases h
    exact zx_D714_ok
  · cases h
    exact zx_D715_ok
  · cases h
    exact zx_D716_ok
  · cases h
    exact zx_D717_ok
  · cases h
    exact zx_D718_ok
  · cases h
    exact zx_D719_ok
  · cases h
    exact zx_D720_ok
  · cases h
    exact zx_D721_ok
  · cases h
    exact zx_D722_ok
  · cases h
    exact zx_D723_ok
  · cases h
    exact zx_D724_ok
  · cases h
    exact zx_D725_ok
  · cases h
    exact zx_D726_ok
  · cases h
    exact zx_D727_ok
  · cases h
    exact zx_D728_ok
  · cases h
    exact zx_D729_ok
  · cases h
    exact zx_D730_ok
  · cases h
    exact zx_D731_ok
  · cases h
    exact zx_D732_ok
  · cases h
    exact zx_gl735_ok
  · cases h
    exact zx_gl736_ok
  · cases h
    exact zx_D740_ok
  · cases h
    exact zx_D741_ok
  · cases h
    exact zx_D742_ok
  · cases h
    exact zx_D743_ok
  · cases h
    exact zx_D744_ok
  · cases h
    exact zx_D745_ok
  · cases h
    exact zx_D746_ok
  · cases h
    exact zx_D747_ok
  · cases h
    exact zx_D748_ok
  · cases h
    exact zx_D749_ok
  · cases h
    exact zx_D750_ok
  · cases h
    exact zx_D751_ok
  · cases h
    exact zx_D752_ok
  · cases h
    exact zx_D755_ok
  · cases h
    exact zx_D756_ok
  · cases h
    exact zx_D757_ok
  · cases h
    exact zx_D758_ok
  · cases h
    exact zx_D759_ok
  · cases h
    exact zx_D760_ok
  · cases h
    exact zx_D761_ok
  · cases h
    exact zx_D762_ok
  · exact zLLd_ok h
set_option maxRecDepth 4000 in
theorem zLLb_ok {j : Nat} {x : zx_L} (h : zLLb j = some x) : zx_Lok 64 zHT zPT x := by
  unfold zLLb at h
  split at h
  · cases h
    exact zx_gl300_ok
  · cases h
    exact zx_gl301_ok
  · cases h
    exact zx_gl302_ok
  · cases h
    exact zx_gl303_ok
  · cases h
    exact zx_gl304_ok
  · cases h
    exact zx_gl305_ok
  · cases h
    exact zx_gl306_ok
  · cases h
    exact zx_gl307_ok
  · cases h
    exact zx_gl308_ok
  · cases h
    exact zx_gl309_ok
  · cases h
    exact zx_gl310_ok
  · cases h
    exact zx_gl311_ok
  · cases h
    exact zx_gl312_ok
  · cases h
    exact zx_gl313_ok
  · cases h
    exact zx_gl320_ok
  · cases h
    exact zx_gl321_ok
  · cases h
    exact zx_gl322_ok
  · cases h
    exact zx_gl323_ok
  · cases h
    exact zx_D330_ok
  · cases h
    exact zx_gl340_ok
  · cases h
    exact zx_gl341_ok
  · cases h
    exact zx_gl342_ok
  · cases h
    exact zx_gl343_ok
  · cases h
    exact zx_gl344_ok
  · cases h
    exact zx_gl345_ok
  · cases h
    exact zx_gl346_ok
  · cases h
    exact zx_gl347_ok
  · cases h
    exact zx_gl348_ok
  · cases h
    exact zx_gl349_ok
  · cases h
    exact zx_gl350_ok
  · cases h
    exact zx_gl351_ok
  · cases h
    exact zx_gl352_ok
  · cases h
    exact zx_gl360_ok
  · cases h
    exact zx_gl361_ok
  · cases h
    exact zx_gl362_ok
  · cases h
    exact zx_gl363_ok
  · cases h
    exact zx_gl364_ok
  · cases h
    exact zx_gl365_ok
  · cases h
    exact zx_gl366_ok
  · cases h
    exact zx_gl367_ok
  · cases h
    exact zx_gl368_ok
  · cases h
    exact zx_gl369_ok
  · cases h
    exact zx_gl370_ok
  · cases h
    exact zx_gl371_ok
  · cases h
    exact zx_D380_ok
  · cases h
    exact zx_D381_ok
  · cases h
    exact zx_D382_ok
  · cases h
    exact zx_D383_ok
  · cases h
    exact zx_D384_ok
  · cases h
    exact zx_D385_ok
  · cases h
    exact zx_D386_ok
  · cases h
    exact zx_D387_ok
  · cases h
    exact zx_D390_ok
  · cases h
    exact zx_D391_ok
  · cases h
    exact zx_D392_ok
  · cases h
    exact zx_D393_ok
  · cases h
    exact zx_D395_ok
  · cases h
    exact zx_D400_ok
  · cases h
    exact zx_D401_ok
  · cases h
    exact zx_D402_ok
  · cases h
    exact zx_D403_ok
  · cases h
    exact zx_D404_ok
  · cases h
    exact zx_D405_ok
  · cases h
    exact zx_D406_ok
  · cases h
    exact zx_D407_ok
  · cases h
    exact zx_gl410_ok
  · cases h
    exact zx_gl411_ok
  · cases h
    exact zx_gl412_ok
  · cases h
    exact zx_gl413_ok
  · cases h
    exact zx_gl414_ok
  · cases h
    exact zx_gl415_ok
  · cases h
    exact zx_gl416_ok
  · cases h
    exact zx_gl417_ok
  · cases h
    exact zx_gl418_ok
  · cases h
    exact zx_gl420_ok
  · cases h
    exact zx_gl421_ok
  · cases h
    exact zx_gl422_ok
  · cases h
    exact zx_gl423_ok
  · cases h
    exact zx_gl424_ok
  · cases h
    exact zx_gl425_ok
  · cases h
    exact zx_gl426_ok
  · cases h
    exact zx_gl427_ok
  · cases h
    exact zx_gl428_ok
  · cases h
    exact zx_D430_ok
  · cases h
    exact zx_D431_ok
  · cases h
    exact zx_D432_ok
  · cases h
    exact zx_D433_ok
  · cases h
    exact zx_D434_ok
  · cases h
    exact zx_D435_ok
  · cases h
    exact zx_D436_ok
  · cases h
    exact zx_gl441_ok
  · cases h
    exact zx_gl442_ok
  · cases h
    exact zx_gl443_ok
  · cases h
    exact zx_gl444_ok
  · cases h
    exact zx_gl445_ok
  · cases h
    exact zx_gl446_ok
  · cases h
    exact zx_gl450_ok
  · cases h
    exact zx_gl451_ok
  · cases h
    exact zx_gl452_ok
  · cases h
    exact zx_gl453_ok
  · cases h
    exact zx_gl454_ok
  · cases h
    exact zx_gl455_ok
  · cases h
    exact zx_gl456_ok
  · cases h
    exact zx_gl460_ok
  · cases h
    exact zx_gl461_ok
  · cases h
    exact zx_gl462_ok
  · cases h
    exact zx_gl464_ok
  · cases h
    exact zx_gl470_ok
  · cases h
    exact zx_gl471_ok
  · cases h
    exact zx_gl472_ok
  · cases h
    exact zx_gl473_ok
  · cases h
    exact zx_gl474_ok
  · cases h
    exact zx_gl475_ok
  · cases h
    exact zx_gl476_ok
  · cases h
    exact zx_gl477_ok
  · cases h
    exact zx_gl478_ok
  · cases h
    exact zx_gl479_ok
  · cases h
    exact zx_gl480_ok
  · cases h
    exact zx_gl481_ok
  · cases h
    exact zx_gl482_ok
  · cases h
    exact zx_gl483_ok
  · cases h
    exact zx_gl484_ok
  · cases h
    exact zx_gl485_ok
  · cases h
    exact zx_D490_ok
  · cases h
    exact zx_D491_ok
  · cases h
    exact zx_D492_ok
  · cases h
    exact zx_D493_ok
  · cases h
    exact zx_D494_ok
  · cases h
    exact zx_gl495_ok
  · cases h
    exact zx_gl496_ok
  · cases h
    exact zx_gl497_ok
  · cases h
    exact zx_gl498_ok
  · cases h
    exact zx_gl499_ok
  · cases h
    exact zx_gl500_ok
  · cases h
    exact zx_gl510_ok
  · cases h
    exact zx_gl511_ok
  · cases h
    exact zx_gl512_ok
  · cases h
    exact zx_gl513_ok
  · cases h
    exact zx_gl514_ok
  · cases h
    exact zx_gl515_ok
  · cases h
    exact zx_gl516_ok
  · cases h
    exact zx_D517_ok
  · cases h
    exact zx_D520_ok
  · exact zLLc_ok h
set_option maxRecDepth 4000 in
theorem zTT : zk_TT 64 zHT zPT (zk_sux zTL zTM zXS) (zk_tsl zTL zTM, zWL, zLL, zVL) :=
  zk_TTx (by decide +kernel) (by decide +kernel) (by decide) zXP_su (fun j y h => by
    unfold zWL at h
    split at h
    · cases h
      exact zx_W0_ok
    · cases h
      exact zx_W1_ok
    · cases h
      exact zx_W2_ok
    · cases h) (fun j x h => by
    unfold zLL at h
    split at h
    · cases h
      exact zx_L0_ok
    · cases h
      exact zx_S_ok (by decide) zh_Is0
    · cases h
      exact zx_Z_ok zh_Is0
    · cases h
      exact zx_M_ok
    · cases h
      exact zx_S_ok (by decide) zh_Is1
    · cases h
      exact zx_Z_ok zh_Is1
    · cases h
      exact zx_M_ok
    · cases h
      exact zx_T1_ok (fun _ h => h)
    · cases h
      exact zx_T2_ok (fun _ h => h)
    · cases h
      exact zx_T0_ok (fun _ h => h)
    · cases h
      exact zx_R1_ok
    · cases h
      exact zx_R2_ok
    · cases h
      exact zx_R3_ok
    · cases h
      exact zx_R4_ok
    · cases h
      exact zx_A1_ok (fun _ h => h)
    · cases h
      exact zx_A2_ok (fun _ h => h)
    · cases h
      exact zx_N1_ok
    · cases h
      exact zx_N2_ok
    · cases h
      exact zx_Q0_ok
    · cases h
      exact zx_Q1_ok
    · cases h
      exact zx_Q2_ok
    · cases h
      exact zx_Q3_ok
    · cases h
      exact zx_Q4_ok
    · cases h
      exact zx_Q5_ok (fun _ h => h)
    · cases h
      exact zx_Q6_ok (fun _ h => h)
    · cases h
      exact zx_Q7_ok (fun _ h => h)
    · cases h
      exact zx_M_ok
    · cases h
      exact zx_S27_ok
    · cases h
      exact zx_S28_ok
    · cases h
      exact zx_S29_ok
    · cases h
      exact zx_S30_ok
    · cases h
      exact zx_gl40_ok
    · cases h
      exact zx_gl41_ok
    · cases h
      exact zx_gl42_ok
    · cases h
      exact zx_gl43_ok
    · cases h
      exact zx_gl44_ok
    · cases h
      exact zx_gl45_ok
    · cases h
      exact zx_gl50_ok
    · cases h
      exact zx_gl51_ok
    · cases h
      exact zx_gl52_ok
    · cases h
      exact zx_gl53_ok
    · cases h
      exact zx_gl54_ok
    · cases h
      exact zx_Y1_ok
    · cases h
      exact zx_Y2_ok
    · cases h
      exact zx_Y4_ok
    · cases h
      exact zx_Y8_ok
    · cases h
      exact zx_Y16_ok
    · cases h
      exact zx_gl70_ok
    · cases h
      exact zx_gl71_ok
    · cases h
      exact zx_gl72_ok
    · cases h
      exact zx_gl73_ok
    · cases h
      exact zx_gl74_ok
    · cases h
      exact zx_gl75_ok
    · cases h
      exact zx_gl76_ok
    · cases h
      exact zx_gl80_ok
    · cases h
      exact zx_gl81_ok
    · cases h
      exact zx_gl82_ok
    · cases h
      exact zx_gl83_ok
    · cases h
      exact zx_gl84_ok
    · cases h
      exact zx_gl85_ok
    · cases h
      exact zx_gl90_ok
    · cases h
      exact zx_gl91_ok
    · cases h
      exact zx_gl92_ok
    · cases h
      exact zx_gl93_ok
    · cases h
      exact zx_gl94_ok
    · cases h
      exact zx_gl95_ok
    · cases h
      exact zx_gl100_ok
    · cases h
      exact zx_gl101_ok
    · cases h
      exact zx_gl102_ok
    · cases h
      exact zx_gl103_ok
    · cases h
      exact zx_gl104_ok
    · cases h
      exact zx_gl105_ok
    · cases h
      exact zx_gl110_ok
    · cases h
      exact zx_gl111_ok
    · cases h
      exact zx_gl112_ok
    · cases h
      exact zx_gl113_ok
    · cases h
      exact zx_gl114_ok
    · cases h
      exact zx_gl115_ok
    · cases h
      exact zx_gl116_ok
    · cases h
      exact zx_gl117_ok
    · cases h
      exact zx_gl120_ok
    · cases h
      exact zx_gl121_ok
    · cases h
      exact zx_gl122_ok
    · cases h
      exact zx_gl130_ok
    · cases h
      exact zx_gl131_ok
    · cases h
      exact zx_gl132_ok
    · cases h
      exact zx_gl133_ok
    · cases h
      exact zx_gl134_ok
    · cases h
      exact zx_gl135_ok
    · cases h
      exact zx_gl136_ok
    · cases h
      exact zx_gl137_ok
    · cases h
      exact zx_gl140_ok
    · cases h
      exact zx_gl141_ok
    · cases h
      exact zx_gl142_ok
    · cases h
      exact zx_gl143_ok
    · cases h
      exact zx_gl144_ok
    · cases h
      exact zx_gl145_ok
    · cases h
      exact zx_gl150_ok
    · cases h
      exact zx_gl151_ok
    · cases h
      exact zx_gl152_ok
    · cases h
      exact zx_gl153_ok
    · cases h
      exact zx_gl154_ok
    · cases h
      exact zx_gl155_ok
    · cases h
      exact zx_gl160_ok
    · cases h
      exact zx_N0_ok
    · cases h
      exact zx_D170_ok
    · cases h
      exact zx_D171_ok
    · cases h
      exact zx_D172_ok
    · cases h
      exact zx_D173_ok
    · cases h
      exact zx_D174_ok
    · cases h
      exact zx_gl200_ok
    · cases h
      exact zx_gl201_ok
    · cases h
      exact zx_gl202_ok
    · cases h
      exact zx_gl203_ok
    · cases h
      exact zx_gl204_ok
    · cases h
      exact zx_gl205_ok
    · cases h
      exact zx_gl206_ok
    · cases h
      exact zx_gl207_ok
    · cases h
      exact zx_gl208_ok
    · cases h
      exact zx_gl209_ok
    · cases h
      exact zx_gl210_ok
    · cases h
      exact zx_gl211_ok
    · cases h
      exact zx_gl212_ok
    · cases h
      exact zx_gl213_ok
    · cases h
      exact zx_gl214_ok
    · cases h
      exact zx_gl215_ok
    · cases h
      exact zx_gl216_ok
    · cases h
      exact zx_gl217_ok
    · cases h
      exact zx_gl218_ok
    · cases h
      exact zx_gl219_ok
    · cases h
      exact zx_gl220_ok
    · cases h
      exact zx_gl221_ok
    · cases h
      exact zx_gl222_ok
    · cases h
      exact zx_gl223_ok
    · cases h
      exact zx_gl224_ok
    · cases h
      exact zx_gl225_ok
    · cases h
      exact zx_gl226_ok
    · cases h
      exact zx_gl227_ok
    · cases h
      exact zx_gl228_ok
    · cases h
      exact zx_gl229_ok
    · cases h
      exact zx_gl230_ok
    · cases h
      exact zx_gl231_ok
    · cases h
      exact zx_gl239_ok
    · cases h
      exact zx_gl240_ok
    · cases h
      exact zx_gl241_ok
    · cases h
      exact zx_gl243_ok
    · cases h
      exact zx_gl244_ok
    · cases h
      exact zx_gl250_ok
    · cases h
      exact zx_gl251_ok
    · cases h
      exact zx_gl252_ok
    · cases h
      exact zx_gl253_ok
    · cases h
      exact zx_gl254_ok
    · cases h
      exact zx_gl255_ok
    · cases h
      exact zx_gl256_ok
    · cases h
      exact zx_gl260_ok
    · cases h
      exact zx_gl261_ok
    · cases h
      exact zx_gl262_ok
    · cases h
      exact zx_gl263_ok
    · cases h
      exact zx_gl264_ok
    · cases h
      exact zx_gl265_ok
    · cases h
      exact zx_gl266_ok
    · cases h
      exact zx_D270_ok
    · exact zLLb_ok h) (fun j y h => by
    unfold zVL at h
    split at h
    · cases h
      exact zx_V0_ok
    · cases h
      exact zx_V1_ok
    · cases h
      exact zx_V2_ok
    · cases h
      exact zx_V3_ok
    · cases h
      exact zx_V4_ok
    · cases h
      exact zx_V5_ok
    · cases h
      exact zx_V6_ok
    · cases h
      exact zx_V7_ok
    · cases h
      exact zx_V8_ok
    · cases h
      exact zx_V9_ok
    · cases h
      exact zx_V10_ok
    · cases h
      exact zx_V11_ok
    · cases h
      exact zx_gv20_ok
    · cases h
      exact zx_gv21_ok
    · cases h
      exact zx_gv22_ok
    · cases h
      exact zx_gv30_ok
    · cases h
      exact zx_gv31_ok
    · cases h
      exact zx_gv32_ok
    · cases h
      exact zx_gv33_ok
    · cases h
      exact zx_gv34_ok
    · cases h
      exact zx_gv35_ok
    · cases h
      exact zx_gv36_ok
    · cases h
      exact zx_gv37_ok
    · cases h
      exact zx_gv38_ok
    · cases h
      exact zx_gv39_ok
    · cases h
      exact zx_gv40_ok
    · cases h
      exact zx_gv41_ok
    · cases h
      exact zx_gv42_ok
    · cases h
      exact zx_gv50_ok
    · cases h
      exact zx_gv51_ok
    · cases h
      exact zx_gv52_ok
    · cases h
      exact zx_gv53_ok
    · cases h
      exact zx_gv54_ok
    · cases h
      exact zx_gv55_ok
    · cases h
      exact zx_gv56_ok
    · cases h
      exact zx_gv57_ok
    · cases h
      exact zx_gv60_ok
    · cases h
      exact zx_gv61_ok
    · cases h
      exact zx_gv62_ok
    · cases h
      exact zx_gv63_ok
    · cases h
      exact zx_gv64_ok
    · cases h
      exact zx_gv65_ok
    · cases h
      exact zx_gv70_ok
    · cases h
      exact zx_gv71_ok
    · cases h
      exact zx_gv72_ok
    · cases h
      exact zx_gv73_ok
    · cases h
      exact zx_gv74_ok
    · cases h
      exact zx_gv75_ok
    · cases h
      exact zx_gv76_ok
    · cases h
      exact zx_gv77_ok
    · cases h
      exact zx_gv78_ok
    · cases h
      exact zx_gv79_ok
    · cases h
      exact zx_gv80_ok
    · cases h
      exact zx_gv81_ok
    · cases h
      exact zx_gv82_ok
    · cases h
      exact zx_gv83_ok
    · cases h
      exact zx_gv84_ok
    · cases h
      exact zx_gv85_ok
    · cases h
      exact zx_gv86_ok
    · cases h
      exact zx_gv87_ok
    · cases h
      exact zx_gv90_ok
    · cases h
      exact zx_gv100_ok
    · cases h
      exact zx_gv101_ok
    · cases h
      exact zx_gv102_ok
    · cases h
      exact zx_gv103_ok
    · cases h
      exact zx_gv104_ok
    · cases h
      exact zx_gv110_ok
    · cases h
      exact zx_gv111_ok
    · cases h
      exact zx_gv112_ok
    · cases h
      exact zx_gv113_ok
    · cases h
      exact zx_gv114_ok
    · cases h
      exact zx_gv115_ok
    · cases h
      exact zx_gv116_ok
    · cases h
      exact zx_gv117_ok
    · cases h
      exact zx_gv118_ok
    · cases h
      exact zx_gv120_ok
    · cases h
      exact zx_gv121_ok
    · cases h
      exact zx_gv122_ok
    · cases h
      exact zx_gv123_ok
    · cases h
      exact zx_gv124_ok
    · cases h
      exact zx_gv125_ok
    · cases h
      exact zx_gv126_ok
    · cases h
      exact zx_gv127_ok
    · cases h
      exact zx_gv128_ok
    · cases h
      exact zx_gv129_ok
    · cases h
      exact zx_gv130_ok
    · cases h
      exact zx_gv131_ok
    · cases h
      exact zx_gv132_ok
    · cases h
      exact zx_gv133_ok
    · cases h
      exact zx_gv134_ok
    · cases h
      exact zx_gv135_ok
    · cases h
      exact zx_gv136_ok
    · cases h
      exact zx_gv250_ok
    · cases h
      exact zx_gv251_ok
    · cases h
      exact zx_gv260_ok
    · cases h
      exact zx_gv261_ok
    · cases h
      exact zx_gv300_ok
    · cases h
      exact zx_gv301_ok
    · cases h
      exact zx_gv302_ok
    · cases h
      exact zx_gv303_ok
    · cases h
      exact zx_gv304_ok
    · cases h
      exact zx_gv305_ok
    · cases h
      exact zx_gv306_ok
    · cases h
      exact zx_gv307_ok
    · cases h
      exact zx_gv308_ok
    · cases h
      exact zx_gv309_ok
    · cases h
      exact zx_gv320_ok
    · cases h
      exact zx_gv321_ok
    · cases h
      exact zx_gv322_ok
    · cases h
      exact zx_gv323_ok
    · cases h
      exact zx_gv324_ok
    · cases h
      exact zx_gv325_ok
    · cases h
      exact zx_gv326_ok
    · cases h
      exact zx_gv327_ok
    · cases h
      exact zx_gv328_ok
    · cases h
      exact zx_gv329_ok
    · cases h
      exact zx_gv330_ok
    · cases h
      exact zx_gv331_ok
    · cases h
      exact zx_gv332_ok
    · cases h
      exact zx_gv333_ok
    · cases h
      exact zx_gv334_ok
    · cases h
      exact zx_gv340_ok
    · cases h
      exact zx_gv341_ok
    · cases h
      exact zx_gv342_ok
    · cases h
      exact zx_gv343_ok
    · cases h
      exact zx_gv344_ok
    · cases h
      exact zx_gv345_ok
    · cases h
      exact zx_gv350_ok
    · cases h
      exact zx_gv351_ok
    · cases h
      exact zx_gv352_ok
    · cases h
      exact zx_E360_ok
    · cases h
      exact zx_E361_ok
    · cases h
      exact zx_E370_ok
    · cases h
      exact zx_E380_ok
    · cases h
      exact zx_E381_ok
    · cases h
      exact zx_gv392_ok
    · cases h
      exact zx_gv393_ok
    · cases h
      exact zx_gv394_ok
    · cases h
      exact zx_gv395_ok
    · cases h
      exact zx_gv396_ok
    · cases h
      exact zx_gv397_ok
    · cases h
      exact zx_gv398_ok
    · cases h
      exact zx_E399_ok
    · exact zVLb_ok h)
/-! the row of units; the other namings -/
theorem zHX_ok : zk_less zHT zHX 2 = true := by decide +kernel
theorem zTTx : zk_TT 64 zHX zPT (zk_sux zTL zTM zXS) (zk_tsl zTL zTM, zWL, zLL, zVL) := zk_TT_less zHX_ok zTT
theorem zSy_1 : zk_sym zFK 1 zHT = true := by decide +kernel
theorem zSy_2 : zk_sym zFK 2 zHT = true := by decide +kernel
theorem zSy_3 : zk_sym zFK 3 zHT = true := by decide +kernel
theorem zSy_4 : zk_sym zFK 4 zHT = true := by decide +kernel
theorem zSy_5 : zk_sym zFK 5 zHT = true := by decide +kernel
theorem z159 : Nat.beq (zk_h zHT 159).1 9 = false := by decide +kernel
end
