/-! LAWS BY HAND, want lines that are read back -/
noncomputable section
/-- brackets by kind (function 178), the last step (179), what is declared (180), copies (177), shapes (176) -/
theorem zc_178 {w : zz_W} {j a e b : Int} (h : j = 4294967296 * b + 18446744073709551616 * e + 79228162514264337593543950336 * a) (a0 : 0 ≤ a) (a1 : a < 4294967296) (e0 : 0 ≤ e) (e1 : e < 4294967296) (b0 : 0 ≤ b) (b1 : b < 4294967296) : zk_xe w 2000178 j = zc_bv (zc_r (zh_e w 208) a (e - a).toNat) (zc_m (zh_e w 254) b.toNat) := by
  obtain ⟨d0, d1, d2, d3⟩ := zg_d4 (j := j) (n := 0) (k := b) (u := e) (l := a) (by omega) (by omega) (by omega) b0 b1 e0 e1 a0 a1
  rw [show (2000178 : Nat) = 2000000 + 178 from rfl, zk_xe_h]
  show (if zv_dg 0 j = 0 then zc_bv (zc_r (zh_e w 208) (zv_dg 3 j) (zv_dg 2 j - zv_dg 3 j).toNat) (zc_m (zh_e w 254) (zv_dg 1 j).toNat) else 0) = _
  rw [if_pos d0, d1, d2, d3]
theorem zc_183 {w : zz_W} {j u b : Int} (e : j = u + 4294967296 * b) (u0 : 0 ≤ u) (u1 : u < 4294967296) (b0 : 0 ≤ b) (b1 : b < 4294967296) : zk_xe w 2000183 j = zc_bv (zc_r (zh_e w 208) (8000 * u) (zh_e w 207 u).toNat) (zc_m (zh_e w 254) b.toNat) := by
  obtain ⟨d0, d1, -⟩ := zg_d3 (j := j) (n := u) (k := b) (u := 0) (by omega) u0 u1 b0 b1 (by omega) (by omega)
  rw [show (2000183 : Nat) = 2000000 + 183 from rfl, zk_xe_h]
  show zc_bv (zc_r (zh_e w 208) (8000 * zv_dg 0 j) (zh_e w 207 (zv_dg 0 j)).toNat) (zc_m (zh_e w 254) (zv_dg 1 j).toNat) = _
  rw [d0, d1]
theorem zc_179 {w : zz_W} {j : Int} : zk_xe w 2000179 j = zh_b (zh_e w 207 j ≤ 0 ∨ zh_e w 208 (8000 * j + zh_e w 207 j - 1) = 1) := by
  rw [show (2000179 : Nat) = 2000000 + 179 from rfl, zk_xe_h]
  rfl
theorem zc_180 {w : zz_W} {j f N : Int} (e : j = f + 4294967296 * N) (f0 : 0 ≤ f) (f1 : f < 4294967296) (N0 : 0 ≤ N) (N1 : N < 4294967296) : zk_xe w 2000180 j = 1 ↔ ∀ i, 0 ≤ i → i < f → (0 ≤ zh_e w 233 i ∧ zh_e w 233 i < N) ∧ (1 ≤ zh_e w 234 i ∧ zh_e w 234 i ≤ 7) ∧ 0 ≤ zh_e w 235 i ∧ zh_e w 235 i ≤ 200 := by
  obtain ⟨d0, d1, -⟩ := zg_d3 (j := j) (n := f) (k := N) (u := 0) (by omega) f0 f1 N0 N1 (by omega) (by omega)
  rw [show (2000180 : Nat) = 2000000 + 180 from rfl, zk_xe_h]
  have h : zv_H 180 w j = zh_b (∀ i, 0 ≤ i → i < f → (0 ≤ zh_e w 233 i ∧ zh_e w 233 i < N) ∧ (1 ≤ zh_e w 234 i ∧ zh_e w 234 i ≤ 7) ∧ 0 ≤ zh_e w 235 i ∧ zh_e w 235 i ≤ 200) := by
    show zh_b (∀ i, 0 ≤ i → i < zv_dg 0 j → (0 ≤ zh_e w 233 i ∧ zh_e w 233 i < zv_dg 1 j) ∧ (1 ≤ zh_e w 234 i ∧ zh_e w 234 i ≤ 7) ∧ 0 ≤ zh_e w 235 i ∧ zh_e w 235 i ≤ 200) = _
    rw [d0, d1]
  rw [h]
  exact ⟨zh_b1', zh_b1⟩
theorem zc_177 {w : zz_W} {j u k : Int} (e : j = u + 4294967296 * k) (u0 : 0 ≤ u) (u1 : u < 4294967296) (k0 : 0 ≤ k) (k1 : k < 4294967296) : zk_xe w 2000177 j = 1 ↔ ∀ m, 0 ≤ m → m < k → zh_e w 214 (64 * u + m) = zh_e w 233 m ∧ zh_e w 215 (64 * u + m) = zh_e w 234 m ∧ zh_e w 216 (64 * u + m) = zh_e w 235 m ∧ zh_e w 217 (64 * u + m) = zh_e w 236 m := by
  obtain ⟨d0, d1, -⟩ := zg_d3 (j := j) (n := u) (k := k) (u := 0) (by omega) u0 u1 k0 k1 (by omega) (by omega)
  rw [show (2000177 : Nat) = 2000000 + 177 from rfl, zk_xe_h]
  have h : zv_H 177 w j = zh_b (∀ m, 0 ≤ m → m < k → zh_e w 214 (64 * u + m) = zh_e w 233 m ∧ zh_e w 215 (64 * u + m) = zh_e w 234 m ∧ zh_e w 216 (64 * u + m) = zh_e w 235 m ∧ zh_e w 217 (64 * u + m) = zh_e w 236 m) := by
    show zh_b (∀ m, 0 ≤ m → m < zv_dg 1 j → zh_e w 214 (64 * zv_dg 0 j + m) = zh_e w 233 m ∧ zh_e w 215 (64 * zv_dg 0 j + m) = zh_e w 234 m ∧ zh_e w 216 (64 * zv_dg 0 j + m) = zh_e w 235 m ∧ zh_e w 217 (64 * zv_dg 0 j + m) = zh_e w 236 m) = _
    rw [d0, d1]
  rw [h]
  exact ⟨zh_b1', zh_b1⟩
theorem zc_176 {w : zz_W} {j n : Int} (e : j = n) (n0 : 0 ≤ n) (n1 : n < 4294967296) : zk_xe w 2000176 j = 1 ↔ ∀ u, 0 ≤ u → u < n → 1 ≤ zh_e w 176 u → zj_sh (zh_e w 208) (8000 * u) (fun m => zh_e w 215 (64 * u + m)) (fun m => zh_e w 216 (64 * u + m)) (fun m => zh_e w 217 (64 * u + m)) (zh_e w 207 u) (zh_e w 213 u) := by
  obtain ⟨d0, d1, -⟩ := zg_d3 (j := j) (n := n) (k := 0) (u := 0) (by omega) n0 n1 (by omega) (by omega) (by omega) (by omega)
  rw [show (2000176 : Nat) = 2000000 + 176 from rfl, zk_xe_h]
  have h : zv_H 176 w j = zh_b (∀ u, 0 ≤ u → u < n → 1 ≤ zh_e w 176 u → zj_sh (zh_e w 208) (8000 * u) (fun m => zh_e w 215 (64 * u + m)) (fun m => zh_e w 216 (64 * u + m)) (fun m => zh_e w 217 (64 * u + m)) (zh_e w 207 u) (zh_e w 213 u)) := by
    show zh_b (zv_dg 1 j = 0 → ∀ u, 0 ≤ u → u < zv_dg 0 j → 1 ≤ zh_e w 176 u → zj_sh (zh_e w 208) (8000 * u) (fun m => zh_e w 215 (64 * u + m)) (fun m => zh_e w 216 (64 * u + m)) (fun m => zh_e w 217 (64 * u + m)) (zh_e w 207 u) (zh_e w 213 u)) = _
    rw [d0, d1]
    exact congrArg zh_b (propext ⟨fun q => q rfl, fun q _ => q⟩)
  rw [h]
  exact ⟨zh_b1', zh_b1⟩
theorem zc_sn {f : Int → Int} {a s : Int} (h : 0 ≤ s) : zc_r f a (s + 1).toNat = (zc_r f a s.toNat).bind (zc_k (f (a + s))) := by
  have e : (s.toNat : Int) = s := Int.toNat_of_nonneg h
  rw [show (s + 1).toNat = s.toNat + 1 by omega]
  show (zc_r f a s.toNat).bind (zc_k (f (a + (s.toNat : Int)))) = _
  rw [e]
theorem zc_k0 {x : Int} {l : List Nat} (h : x ≤ 12 ∨ 19 ≤ x) : zc_k x l = some l := by
  unfold zc_k
  rw [if_neg (show ¬ (x = 13) by omega), if_neg (show ¬ (x = 14) by omega), if_neg (show ¬ (x = 15) by omega), if_neg (show ¬ (x = 16) by omega), if_neg (show ¬ (x = 17) by omega), if_neg (show ¬ (x = 18) by omega)]
theorem zc_kb {x : Int} {r : Option (List Nat)} (h : x ≤ 12 ∨ 19 ≤ x) : r.bind (zc_k x) = r := by
  cases r with
  | none => rfl
  | some l => exact zc_k0 h
theorem zc_cq {x : Nat} {m : List Nat} : ¬ (some (x :: m) = some m) := fun h => absurd (congrArg List.length (Option.some.inj h)) (by rw [List.length_cons]; omega)
theorem zc_cn {x y : Nat} {m : List Nat} (h : x ≠ y) : ¬ (some (x :: m) = some (y :: m)) := fun q => h (List.cons.inj (Option.some.inj q)).1
theorem zc_w1 {m : List Nat} : zc_bv (some m) m = 1 := if_pos rfl
theorem zc_w2 {m : List Nat} : zc_bv (some (1 :: m)) m = 2 := by
  unfold zc_bv
  rw [if_neg zc_cq, if_pos rfl]
theorem zc_w3 {m : List Nat} : zc_bv (some (2 :: m)) m = 3 := by
  unfold zc_bv
  rw [if_neg zc_cq, if_neg (zc_cn (by decide)), if_pos rfl]
theorem zc_w4 {m : List Nat} : zc_bv (some (3 :: m)) m = 4 := by
  unfold zc_bv
  rw [if_neg zc_cq, if_neg (zc_cn (by decide)), if_neg (zc_cn (by decide)), if_pos rfl]
theorem zc_u {r : Option (List Nat)} {m : List Nat} : (zc_bv r m = 1 ∧ r = some m) ∨ (zc_bv r m = 2 ∧ r = some (1 :: m)) ∨ (zc_bv r m = 3 ∧ r = some (2 :: m)) ∨ (zc_bv r m = 4 ∧ r = some (3 :: m)) ∨ zc_bv r m = 0 := by
  unfold zc_bv
  by_cases c1 : r = some m
  · exact Or.inl ⟨if_pos c1, c1⟩
  · rw [if_neg c1]
    by_cases c2 : r = some (1 :: m)
    · exact Or.inr (Or.inl ⟨if_pos c2, c2⟩)
    · rw [if_neg c2]
      by_cases c3 : r = some (2 :: m)
      · exact Or.inr (Or.inr (Or.inl ⟨if_pos c3, c3⟩))
      · rw [if_neg c3]
        by_cases c4 : r = some (3 :: m)
        · exact Or.inr (Or.inr (Or.inr (Or.inl ⟨if_pos c4, c4⟩)))
        · exact Or.inr (Or.inr (Or.inr (Or.inr (if_neg c4))))
theorem zc_u1 {r : Option (List Nat)} {m : List Nat} (h : zc_bv r m = 1) : r = some m := by
  rcases zc_u (r := r) (m := m) with ⟨-, q⟩ | ⟨q, -⟩ | ⟨q, -⟩ | ⟨q, -⟩ | q
  · exact q
  all_goals omega
theorem zc_u2 {r : Option (List Nat)} {m : List Nat} (h : zc_bv r m = 2) : r = some (1 :: m) := by
  rcases zc_u (r := r) (m := m) with ⟨q, -⟩ | ⟨-, q⟩ | ⟨q, -⟩ | ⟨q, -⟩ | q
  · omega
  · exact q
  all_goals omega
theorem zc_u3 {r : Option (List Nat)} {m : List Nat} (h : zc_bv r m = 3) : r = some (2 :: m) := by
  rcases zc_u (r := r) (m := m) with ⟨q, -⟩ | ⟨q, -⟩ | ⟨-, q⟩ | ⟨q, -⟩ | q
  · omega
  · omega
  · exact q
  all_goals omega
theorem zc_u4 {r : Option (List Nat)} {m : List Nat} (h : zc_bv r m = 4) : r = some (3 :: m) := by
  rcases zc_u (r := r) (m := m) with ⟨q, -⟩ | ⟨q, -⟩ | ⟨q, -⟩ | ⟨-, q⟩ | q
  · omega
  · omega
  · omega
  · exact q
  · omega
theorem zc_vb {r : Option (List Nat)} {m : List Nat} : 0 ≤ zc_bv r m ∧ zc_bv r m ≤ 4 := by
  rcases zc_u (r := r) (m := m) with ⟨q, -⟩ | ⟨q, -⟩ | ⟨q, -⟩ | ⟨q, -⟩ | q <;> omega
theorem zc_x13 {m : List Nat} : zc_bv ((some m).bind (zc_k 13)) m = 2 := zc_w2
theorem zc_x14 {m : List Nat} : zc_bv ((some (1 :: m)).bind (zc_k 14)) m = 2 := zc_w2
theorem zc_x15 {m : List Nat} : zc_bv ((some (1 :: m)).bind (zc_k 15)) m = 1 := zc_w1
theorem zc_x16 {m : List Nat} : zc_bv ((some m).bind (zc_k 16)) m = 3 := zc_w3
theorem zc_x17 {m : List Nat} : zc_bv ((some (2 :: m)).bind (zc_k 17)) m = 4 := zc_w4
theorem zc_x18 {m : List Nat} : zc_bv ((some (3 :: m)).bind (zc_k 18)) m = 1 := zc_w1
theorem zc_tl {f c : Int → Int} {o a : Int} {m : Nat} : ∀ {n : Nat}, m ≤ n → zs_t f c o a n ≤ (m : Int) → zc_r f a n = zc_r f a m
  | 0, h, _ => by rw [show m = 0 by omega]
  | n + 1, h, ht => by
    by_cases e : m = n + 1
    · rw [e]
    · have hc : 3 ≤ f (a + (n : Int)) ∧ f (a + (n : Int)) ≤ 10 ∧ o ≤ c (a + (n : Int)) := by
        by_cases hc : 3 ≤ f (a + (n : Int)) ∧ f (a + (n : Int)) ≤ 10 ∧ o ≤ c (a + (n : Int))
        · exact hc
        · have q : zs_t f c o a (n + 1) = (n : Int) + 1 := if_neg hc
          rw [q] at ht
          omega
      have q : zs_t f c o a (n + 1) = zs_t f c o a n := if_pos hc
      rw [q] at ht
      show (zc_r f a n).bind (zc_k (f (a + (n : Int)))) = _
      rw [zc_kb (by omega)]
      exact zc_tl (by omega) ht
theorem zc_mn {g : Int → Int} {b : Int} (h : 2 ≤ b) : zc_m g b.toNat = (if g (b - 1) = 3 then 3 else 1) :: zc_m g (b - 1).toNat := by
  have e : ((b - 1).toNat : Int) = b - 1 := Int.toNat_of_nonneg (by omega)
  rw [show b.toNat = (b - 1).toNat + 1 by omega]
  show (if (b - 1).toNat = 0 then [] else (if g ((b - 1).toNat : Int) = 3 then 3 else 1) :: zc_m g (b - 1).toNat) = _
  rw [if_neg (show ¬ ((b - 1).toNat = 0) by omega), e]
def zx_E720 : zx_V := zx_Vc 208 [] 4 [(2000178, 0)] [((0, 0), [(2, 1, 0), (3, 0, 79228162514264337593543950336), (4, 0, 18446744073709551616), (5, 0, 4294967296)])] [((0, 0), [(3, 1, 0)]), ((4294967276, 0), [(3, 0, 1)]), ((0, 0), [(4, 1, 0)]), ((4294967276, 0), [(4, 0, 1)]), ((0, 0), [(5, 1, 0)]), ((4294967276, 0), [(5, 0, 1)]), ((0, 0), [(3, 0, 1), (4, 1, 0)]), ((0, 0), [(0, 1, 0), (4, 0, 1)])] [(2000178, ((0, 0), [(2, 1, 0)]), ((0, 0), [(6, 1, 0)]))]
theorem zx_E720_ok {PT : Nat → zz_W → Prop} : zx_Vok 64 zHT PT zx_E720 := by
  refine zx_Vc_ok (fun w w' j ins hI hI' h0 hw hK hl he hg => ?_)
  obtain ⟨a0, a1, a2, a3, rfl⟩ := zx_i4 hl
  have e0 : (0 : Int) + (1 * a0 + ((-79228162514264337593543950336) * a1 + ((-18446744073709551616) * a2 + ((-4294967296) * a3 + 0)))) = 0 := he _ List.mem_cons_self
  have g0 : 0 ≤ (0 : Int) + (1 * a1 + 0) := hg _ List.mem_cons_self
  have g1 : 0 ≤ (4294967276 : Int) + ((-1) * a1 + 0) := hg _ (List.mem_cons_of_mem _ List.mem_cons_self)
  have g2 : 0 ≤ (0 : Int) + (1 * a2 + 0) := hg _ (List.mem_cons_of_mem _ (List.mem_cons_of_mem _ List.mem_cons_self))
  have g3 : 0 ≤ (4294967276 : Int) + ((-1) * a2 + 0) := hg _ (List.mem_cons_of_mem _ (List.mem_cons_of_mem _ (List.mem_cons_of_mem _ List.mem_cons_self)))
  have g4 : 0 ≤ (0 : Int) + (1 * a3 + 0) := hg _ (List.mem_cons_of_mem _ (List.mem_cons_of_mem _ (List.mem_cons_of_mem _ (List.mem_cons_of_mem _ List.mem_cons_self))))
  have g5 : 0 ≤ (4294967276 : Int) + ((-1) * a3 + 0) := hg _ (List.mem_cons_of_mem _ (List.mem_cons_of_mem _ (List.mem_cons_of_mem _ (List.mem_cons_of_mem _ (List.mem_cons_of_mem _ List.mem_cons_self)))))
  have g6 : 0 ≤ (0 : Int) + ((-1) * a1 + (1 * a2 + 0)) := hg _ (List.mem_cons_of_mem _ (List.mem_cons_of_mem _ (List.mem_cons_of_mem _ (List.mem_cons_of_mem _ (List.mem_cons_of_mem _ (List.mem_cons_of_mem _ List.mem_cons_self))))))
  have g7 : 0 ≤ (0 : Int) + (1 * j + ((-1) * a2 + 0)) := hg _ (List.mem_cons_of_mem _ (List.mem_cons_of_mem _ (List.mem_cons_of_mem _ (List.mem_cons_of_mem _ (List.mem_cons_of_mem _ (List.mem_cons_of_mem _ (List.mem_cons_of_mem _ List.mem_cons_self)))))))
  have h : zk_xe w' 2000178 a0 = zk_xe w 2000178 a0 := by
    rw [(zc_178 (w := w') (j := a0) (a := a1) (e := a2) (b := a3) (by omega) (by omega) (by omega) (by omega) (by omega) (by omega) (by omega) ), (zc_178 (w := w) (j := a0) (a := a1) (e := a2) (b := a3) (by omega) (by omega) (by omega) (by omega) (by omega) (by omega) (by omega) ), zh_e_g (hw.1 254 (by decide)), zc_re (f := zh_e w 208) (f' := zh_e w' 208) (a := a1) (n := (a2 - a1).toNat) (fun i i0 i1 => hw.2 _ (by omega) (by omega))]
  exact (zx_eF1 (by show 0 ≤ (0 : Int) + (1 * a0 + 0); omega) (by show zk_xe w' 2000178 ((0 : Int) + (1 * a0 + 0)) = (0 : Int) + (1 * (zk_xe w 2000178 a0) + 0); rw [show (0 : Int) + (1 * a0 + 0) = a0 by omega]; exact h.trans (by omega)) zx_eF0)
def zx_D1171 : zx_L := zx_Lc [] 5 [(2000178, 0), (208, 2)] [] [((0, 0), [(0, 1, 0), (1, 0, 79228162514264337593543950336), (2, 0, 18446744073709551616), (3, 0, 4294967296)]), ((0, 18446744073709551616), [(1, 0, 79228162514264337593543950336), (2, 0, 18446744073709551616), (3, 0, 4294967296), (4, 1, 0)])] [((0, 0), [(1, 1, 0)]), ((4294967276, 0), [(1, 0, 1)]), ((0, 0), [(2, 1, 0)]), ((4294967276, 0), [(2, 0, 1)]), ((0, 0), [(3, 1, 0)]), ((4294967276, 0), [(3, 0, 1)]), ((0, 0), [(1, 0, 1), (2, 1, 0)]), ((12, 0), [(6, 0, 1)])] [([], [], [(2000178, ((0, 0), [(4, 1, 0)]), ((0, 0), [(5, 1, 0)]))], [])]
theorem zx_D1171_ok {PT : Nat → zz_W → Prop} : zx_Lok 64 zHT PT zx_D1171 := by
  refine zx_Lc_ok (fun w hI hK ins hl hr he hg => ?_)
  obtain ⟨a0, a1, a2, a3, a4, rfl⟩ := zx_i5 hl
  have e0 : (0 : Int) + (1 * a0 + ((-79228162514264337593543950336) * a1 + ((-18446744073709551616) * a2 + ((-4294967296) * a3 + 0)))) = 0 := he _ List.mem_cons_self
  have e1 : ((-18446744073709551616) : Int) + ((-79228162514264337593543950336) * a1 + ((-18446744073709551616) * a2 + ((-4294967296) * a3 + (1 * a4 + 0)))) = 0 := he _ (List.mem_cons_of_mem _ List.mem_cons_self)
  have g0 : 0 ≤ (0 : Int) + (1 * a1 + 0) := hg _ List.mem_cons_self
  have g1 : 0 ≤ (4294967276 : Int) + ((-1) * a1 + 0) := hg _ (List.mem_cons_of_mem _ List.mem_cons_self)
  have g2 : 0 ≤ (0 : Int) + (1 * a2 + 0) := hg _ (List.mem_cons_of_mem _ (List.mem_cons_of_mem _ List.mem_cons_self))
  have g3 : 0 ≤ (4294967276 : Int) + ((-1) * a2 + 0) := hg _ (List.mem_cons_of_mem _ (List.mem_cons_of_mem _ (List.mem_cons_of_mem _ List.mem_cons_self)))
  have g4 : 0 ≤ (0 : Int) + (1 * a3 + 0) := hg _ (List.mem_cons_of_mem _ (List.mem_cons_of_mem _ (List.mem_cons_of_mem _ (List.mem_cons_of_mem _ List.mem_cons_self))))
  have g5 : 0 ≤ (4294967276 : Int) + ((-1) * a3 + 0) := hg _ (List.mem_cons_of_mem _ (List.mem_cons_of_mem _ (List.mem_cons_of_mem _ (List.mem_cons_of_mem _ (List.mem_cons_of_mem _ List.mem_cons_self)))))
  have g6 : 0 ≤ (0 : Int) + ((-1) * a1 + (1 * a2 + 0)) := hg _ (List.mem_cons_of_mem _ (List.mem_cons_of_mem _ (List.mem_cons_of_mem _ (List.mem_cons_of_mem _ (List.mem_cons_of_mem _ (List.mem_cons_of_mem _ List.mem_cons_self))))))
  have g7 : 0 ≤ (12 : Int) + ((-1) * (zk_xe w 208 a2) + 0) := hg _ (List.mem_cons_of_mem _ (List.mem_cons_of_mem _ (List.mem_cons_of_mem _ (List.mem_cons_of_mem _ (List.mem_cons_of_mem _ (List.mem_cons_of_mem _ (List.mem_cons_of_mem _ List.mem_cons_self)))))))
  have r0 : 0 ≤ a0 := hr _ List.mem_cons_self
  have r1 : 0 ≤ a2 := hr _ (List.mem_cons_of_mem _ List.mem_cons_self)
  have k1 : zh_e w 208 (a2) = zk_xe w 208 a2 := by rw [zk_xe_r (i := 208) (by decide)]; show zk_el w 208 (a2) = zk_el w 208 a2; rw [show a2 = a2 by omega]
  have h : zk_xe w 2000178 a4 = zk_xe w 2000178 a0 := by
    rw [(zc_178 (w := w) (j := a4) (a := a1) (e := (a2 + 1)) (b := a3) (by omega) (by omega) (by omega) (by omega) (by omega) (by omega) (by omega) ), (zc_178 (w := w) (j := a0) (a := a1) (e := a2) (b := a3) (by omega) (by omega) (by omega) (by omega) (by omega) (by omega) (by omega) )]
    rw [show a2 + 1 - a1 = (a2 - a1) + 1 by omega, zc_sn (show 0 ≤ a2 - a1 by omega), show a1 + (a2 - a1) = a2 by omega, k1, zc_kb (by omega)]
  exact ⟨_, List.mem_cons_self, [], rfl, zx_bnil, zx_cs0, (zx_eF1 (by show 0 ≤ (0 : Int) + (1 * a4 + 0); omega) (by show zk_xe w 2000178 ((0 : Int) + (1 * a4 + 0)) = (0 : Int) + (1 * (zk_xe w 2000178 a0) + 0); rw [show (0 : Int) + (1 * a4 + 0) = a4 by omega]; exact h.trans (by omega)) zx_eF0), zx_k0⟩
def zx_D1172 : zx_L := zx_Lc [] 5 [(2000178, 0), (208, 2)] [] [((0, 0), [(0, 1, 0), (1, 0, 79228162514264337593543950336), (2, 0, 18446744073709551616), (3, 0, 4294967296)]), ((0, 18446744073709551616), [(1, 0, 79228162514264337593543950336), (2, 0, 18446744073709551616), (3, 0, 4294967296), (4, 1, 0)])] [((0, 0), [(1, 1, 0)]), ((4294967276, 0), [(1, 0, 1)]), ((0, 0), [(2, 1, 0)]), ((4294967276, 0), [(2, 0, 1)]), ((0, 0), [(3, 1, 0)]), ((4294967276, 0), [(3, 0, 1)]), ((0, 0), [(1, 0, 1), (2, 1, 0)]), ((0, 19), [(6, 1, 0)])] [([], [], [(2000178, ((0, 0), [(4, 1, 0)]), ((0, 0), [(5, 1, 0)]))], [])]
theorem zx_D1172_ok {PT : Nat → zz_W → Prop} : zx_Lok 64 zHT PT zx_D1172 := by
  refine zx_Lc_ok (fun w hI hK ins hl hr he hg => ?_)
  obtain ⟨a0, a1, a2, a3, a4, rfl⟩ := zx_i5 hl
  have e0 : (0 : Int) + (1 * a0 + ((-79228162514264337593543950336) * a1 + ((-18446744073709551616) * a2 + ((-4294967296) * a3 + 0)))) = 0 := he _ List.mem_cons_self
  have e1 : ((-18446744073709551616) : Int) + ((-79228162514264337593543950336) * a1 + ((-18446744073709551616) * a2 + ((-4294967296) * a3 + (1 * a4 + 0)))) = 0 := he _ (List.mem_cons_of_mem _ List.mem_cons_self)
  have g0 : 0 ≤ (0 : Int) + (1 * a1 + 0) := hg _ List.mem_cons_self
  have g1 : 0 ≤ (4294967276 : Int) + ((-1) * a1 + 0) := hg _ (List.mem_cons_of_mem _ List.mem_cons_self)
  have g2 : 0 ≤ (0 : Int) + (1 * a2 + 0) := hg _ (List.mem_cons_of_mem _ (List.mem_cons_of_mem _ List.mem_cons_self))
  have g3 : 0 ≤ (4294967276 : Int) + ((-1) * a2 + 0) := hg _ (List.mem_cons_of_mem _ (List.mem_cons_of_mem _ (List.mem_cons_of_mem _ List.mem_cons_self)))
  have g4 : 0 ≤ (0 : Int) + (1 * a3 + 0) := hg _ (List.mem_cons_of_mem _ (List.mem_cons_of_mem _ (List.mem_cons_of_mem _ (List.mem_cons_of_mem _ List.mem_cons_self))))
  have g5 : 0 ≤ (4294967276 : Int) + ((-1) * a3 + 0) := hg _ (List.mem_cons_of_mem _ (List.mem_cons_of_mem _ (List.mem_cons_of_mem _ (List.mem_cons_of_mem _ (List.mem_cons_of_mem _ List.mem_cons_self)))))
  have g6 : 0 ≤ (0 : Int) + ((-1) * a1 + (1 * a2 + 0)) := hg _ (List.mem_cons_of_mem _ (List.mem_cons_of_mem _ (List.mem_cons_of_mem _ (List.mem_cons_of_mem _ (List.mem_cons_of_mem _ (List.mem_cons_of_mem _ List.mem_cons_self))))))
  have g7 : 0 ≤ ((-19) : Int) + (1 * (zk_xe w 208 a2) + 0) := hg _ (List.mem_cons_of_mem _ (List.mem_cons_of_mem _ (List.mem_cons_of_mem _ (List.mem_cons_of_mem _ (List.mem_cons_of_mem _ (List.mem_cons_of_mem _ (List.mem_cons_of_mem _ List.mem_cons_self)))))))
  have r0 : 0 ≤ a0 := hr _ List.mem_cons_self
  have r1 : 0 ≤ a2 := hr _ (List.mem_cons_of_mem _ List.mem_cons_self)
  have k1 : zh_e w 208 (a2) = zk_xe w 208 a2 := by rw [zk_xe_r (i := 208) (by decide)]; show zk_el w 208 (a2) = zk_el w 208 a2; rw [show a2 = a2 by omega]
  have h : zk_xe w 2000178 a4 = zk_xe w 2000178 a0 := by
    rw [(zc_178 (w := w) (j := a4) (a := a1) (e := (a2 + 1)) (b := a3) (by omega) (by omega) (by omega) (by omega) (by omega) (by omega) (by omega) ), (zc_178 (w := w) (j := a0) (a := a1) (e := a2) (b := a3) (by omega) (by omega) (by omega) (by omega) (by omega) (by omega) (by omega) )]
    rw [show a2 + 1 - a1 = (a2 - a1) + 1 by omega, zc_sn (show 0 ≤ a2 - a1 by omega), show a1 + (a2 - a1) = a2 by omega, k1, zc_kb (by omega)]
  exact ⟨_, List.mem_cons_self, [], rfl, zx_bnil, zx_cs0, (zx_eF1 (by show 0 ≤ (0 : Int) + (1 * a4 + 0); omega) (by show zk_xe w 2000178 ((0 : Int) + (1 * a4 + 0)) = (0 : Int) + (1 * (zk_xe w 2000178 a0) + 0); rw [show (0 : Int) + (1 * a4 + 0) = a4 by omega]; exact h.trans (by omega)) zx_eF0), zx_k0⟩
def zx_D1173 : zx_L := zx_Lc [] 6 [(2000178, 0), (208, 2), (2000071, 5)] [] [((0, 0), [(0, 1, 0), (1, 0, 79228162514264337593543950336), (2, 0, 18446744073709551616), (3, 0, 4294967296)]), ((0, 18446744073709551616), [(1, 0, 79228162514264337593543950336), (2, 0, 18446744073709551616), (3, 0, 4294967296), (4, 1, 0)]), ((0, 13), [(7, 1, 0)]), ((0, 0), [(5, 1, 0)])] [((0, 0), [(1, 1, 0)]), ((4294967276, 0), [(1, 0, 1)]), ((0, 0), [(2, 1, 0)]), ((4294967276, 0), [(2, 0, 1)]), ((0, 0), [(3, 1, 0)]), ((4294967276, 0), [(3, 0, 1)]), ((0, 0), [(1, 0, 1), (2, 1, 0)]), ((0, 1), [(6, 1, 0), (8, 4, 0)]), ((1, 0), [(6, 0, 1), (8, 4, 0)])] [([(0, 4)], [((0, 2), [(8, 4, 0), (9, 1, 0)]), ((2, 0), [(8, 4, 0), (9, 0, 1)])], [(2000178, ((0, 0), [(4, 1, 0)]), ((0, 0), [(9, 1, 0)]))], [])]
theorem zx_D1173_ok {PT : Nat → zz_W → Prop} : zx_Lok 64 zHT PT zx_D1173 := by
  refine zx_Lc_ok (fun w hI hK ins hl hr he hg => ?_)
  obtain ⟨a0, a1, a2, a3, a4, a5, rfl⟩ := zx_i6 hl
  have e0 : (0 : Int) + (1 * a0 + ((-79228162514264337593543950336) * a1 + ((-18446744073709551616) * a2 + ((-4294967296) * a3 + 0)))) = 0 := he _ List.mem_cons_self
  have e1 : ((-18446744073709551616) : Int) + ((-79228162514264337593543950336) * a1 + ((-18446744073709551616) * a2 + ((-4294967296) * a3 + (1 * a4 + 0)))) = 0 := he _ (List.mem_cons_of_mem _ List.mem_cons_self)
  have e2 : ((-13) : Int) + (1 * (zk_xe w 208 a2) + 0) = 0 := he _ (List.mem_cons_of_mem _ (List.mem_cons_of_mem _ List.mem_cons_self))
  have e3 : (0 : Int) + (1 * a5 + 0) = 0 := he _ (List.mem_cons_of_mem _ (List.mem_cons_of_mem _ (List.mem_cons_of_mem _ List.mem_cons_self)))
  have g0 : 0 ≤ (0 : Int) + (1 * a1 + 0) := hg _ List.mem_cons_self
  have g1 : 0 ≤ (4294967276 : Int) + ((-1) * a1 + 0) := hg _ (List.mem_cons_of_mem _ List.mem_cons_self)
  have g2 : 0 ≤ (0 : Int) + (1 * a2 + 0) := hg _ (List.mem_cons_of_mem _ (List.mem_cons_of_mem _ List.mem_cons_self))
  have g3 : 0 ≤ (4294967276 : Int) + ((-1) * a2 + 0) := hg _ (List.mem_cons_of_mem _ (List.mem_cons_of_mem _ (List.mem_cons_of_mem _ List.mem_cons_self)))
  have g4 : 0 ≤ (0 : Int) + (1 * a3 + 0) := hg _ (List.mem_cons_of_mem _ (List.mem_cons_of_mem _ (List.mem_cons_of_mem _ (List.mem_cons_of_mem _ List.mem_cons_self))))
  have g5 : 0 ≤ (4294967276 : Int) + ((-1) * a3 + 0) := hg _ (List.mem_cons_of_mem _ (List.mem_cons_of_mem _ (List.mem_cons_of_mem _ (List.mem_cons_of_mem _ (List.mem_cons_of_mem _ List.mem_cons_self)))))
  have g6 : 0 ≤ (0 : Int) + ((-1) * a1 + (1 * a2 + 0)) := hg _ (List.mem_cons_of_mem _ (List.mem_cons_of_mem _ (List.mem_cons_of_mem _ (List.mem_cons_of_mem _ (List.mem_cons_of_mem _ (List.mem_cons_of_mem _ List.mem_cons_self))))))
  have g7 : 0 ≤ ((-1) : Int) + (1 * (zk_xe w 2000178 a0) + (4 * (zk_xe w 2000071 a5) + 0)) := hg _ (List.mem_cons_of_mem _ (List.mem_cons_of_mem _ (List.mem_cons_of_mem _ (List.mem_cons_of_mem _ (List.mem_cons_of_mem _ (List.mem_cons_of_mem _ (List.mem_cons_of_mem _ List.mem_cons_self)))))))
  have g8 : 0 ≤ (1 : Int) + ((-1) * (zk_xe w 2000178 a0) + (4 * (zk_xe w 2000071 a5) + 0)) := hg _ (List.mem_cons_of_mem _ (List.mem_cons_of_mem _ (List.mem_cons_of_mem _ (List.mem_cons_of_mem _ (List.mem_cons_of_mem _ (List.mem_cons_of_mem _ (List.mem_cons_of_mem _ (List.mem_cons_of_mem _ List.mem_cons_self))))))))
  have r0 : 0 ≤ a0 := hr _ List.mem_cons_self
  have r1 : 0 ≤ a2 := hr _ (List.mem_cons_of_mem _ List.mem_cons_self)
  have r2 : 0 ≤ a5 := hr _ (List.mem_cons_of_mem _ (List.mem_cons_of_mem _ List.mem_cons_self))
  have hb : 0 ≤ zk_xe w 2000178 a4 ∧ zk_xe w 2000178 a4 ≤ 4 := by
    rw [(zc_178 (w := w) (j := a4) (a := a1) (e := (a2 + 1)) (b := a3) (by omega) (by omega) (by omega) (by omega) (by omega) (by omega) (by omega) )]
    exact zc_vb
  have hr : zk_xe w 2000071 a5 = 1 ∨ (zk_xe w 2000071 a5 = 0 ∧ zk_xe w 2000178 a4 = 2) := by
    rcases zs_71c (w := w) (j := a5) with ⟨hx, -⟩ | ⟨hx, -⟩
    · exact Or.inl hx
    · refine Or.inr ⟨hx, ?_⟩
      have k1 : zh_e w 208 (a2) = zk_xe w 208 a2 := by rw [zk_xe_r (i := 208) (by decide)]; show zk_el w 208 (a2) = zk_el w 208 a2; rw [show a2 = a2 by omega]
      have hv := zc_u1 ((zc_178 (w := w) (j := a0) (a := a1) (e := a2) (b := a3) (by omega) (by omega) (by omega) (by omega) (by omega) (by omega) (by omega) ).symm.trans (show zk_xe w 2000178 a0 = 1 by omega))
      rw [(zc_178 (w := w) (j := a4) (a := a1) (e := (a2 + 1)) (b := a3) (by omega) (by omega) (by omega) (by omega) (by omega) (by omega) (by omega) )]
      rw [show a2 + 1 - a1 = (a2 - a1) + 1 by omega, zc_sn (show 0 ≤ a2 - a1 by omega), show a1 + (a2 - a1) = a2 by omega, k1, hv, show zk_xe w 208 a2 = 13 by omega]
      exact zc_x13
  exact ⟨_, List.mem_cons_self, [zk_xe w 2000178 a4], rfl, (zx_bcons (by show (0 : Int) ≤ zk_xe w 2000178 a4 ∧ zk_xe w 2000178 a4 ≤ (4 : Int); omega) zx_bnil), (zx_cs1 (by show 0 ≤ ((-2) : Int) + (4 * (zk_xe w 2000071 a5) + (1 * (zk_xe w 2000178 a4) + 0)); omega) (zx_cs1 (by show 0 ≤ (2 : Int) + (4 * (zk_xe w 2000071 a5) + ((-1) * (zk_xe w 2000178 a4) + 0)); omega) zx_cs0)), (zx_eF1 (by show 0 ≤ (0 : Int) + (1 * a4 + 0); omega) (by show zk_xe w 2000178 ((0 : Int) + (1 * a4 + 0)) = (0 : Int) + (1 * (zk_xe w 2000178 a4) + 0); rw [show (0 : Int) + (1 * a4 + 0) = a4 by omega]; omega) zx_eF0), zx_k0⟩
def zx_D1174 : zx_L := zx_Lc [] 6 [(2000178, 0), (208, 2), (2000071, 5)] [] [((0, 0), [(0, 1, 0), (1, 0, 79228162514264337593543950336), (2, 0, 18446744073709551616), (3, 0, 4294967296)]), ((0, 18446744073709551616), [(1, 0, 79228162514264337593543950336), (2, 0, 18446744073709551616), (3, 0, 4294967296), (4, 1, 0)]), ((0, 14), [(7, 1, 0)]), ((0, 0), [(5, 1, 0)])] [((0, 0), [(1, 1, 0)]), ((4294967276, 0), [(1, 0, 1)]), ((0, 0), [(2, 1, 0)]), ((4294967276, 0), [(2, 0, 1)]), ((0, 0), [(3, 1, 0)]), ((4294967276, 0), [(3, 0, 1)]), ((0, 0), [(1, 0, 1), (2, 1, 0)]), ((0, 2), [(6, 1, 0), (8, 4, 0)]), ((2, 0), [(6, 0, 1), (8, 4, 0)])] [([(0, 4)], [((0, 2), [(8, 4, 0), (9, 1, 0)]), ((2, 0), [(8, 4, 0), (9, 0, 1)])], [(2000178, ((0, 0), [(4, 1, 0)]), ((0, 0), [(9, 1, 0)]))], [])]
theorem zx_D1174_ok {PT : Nat → zz_W → Prop} : zx_Lok 64 zHT PT zx_D1174 := by
  refine zx_Lc_ok (fun w hI hK ins hl hr he hg => ?_)
  obtain ⟨a0, a1, a2, a3, a4, a5, rfl⟩ := zx_i6 hl
  have e0 : (0 : Int) + (1 * a0 + ((-79228162514264337593543950336) * a1 + ((-18446744073709551616) * a2 + ((-4294967296) * a3 + 0)))) = 0 := he _ List.mem_cons_self
  have e1 : ((-18446744073709551616) : Int) + ((-79228162514264337593543950336) * a1 + ((-18446744073709551616) * a2 + ((-4294967296) * a3 + (1 * a4 + 0)))) = 0 := he _ (List.mem_cons_of_mem _ List.mem_cons_self)
  have e2 : ((-14) : Int) + (1 * (zk_xe w 208 a2) + 0) = 0 := he _ (List.mem_cons_of_mem _ (List.mem_cons_of_mem _ List.mem_cons_self))
  have e3 : (0 : Int) + (1 * a5 + 0) = 0 := he _ (List.mem_cons_of_mem _ (List.mem_cons_of_mem _ (List.mem_cons_of_mem _ List.mem_cons_self)))
  have g0 : 0 ≤ (0 : Int) + (1 * a1 + 0) := hg _ List.mem_cons_self
  have g1 : 0 ≤ (4294967276 : Int) + ((-1) * a1 + 0) := hg _ (List.mem_cons_of_mem _ List.mem_cons_self)
  have g2 : 0 ≤ (0 : Int) + (1 * a2 + 0) := hg _ (List.mem_cons_of_mem _ (List.mem_cons_of_mem _ List.mem_cons_self))
  have g3 : 0 ≤ (4294967276 : Int) + ((-1) * a2 + 0) := hg _ (List.mem_cons_of_mem _ (List.mem_cons_of_mem _ (List.mem_cons_of_mem _ List.mem_cons_self)))
  have g4 : 0 ≤ (0 : Int) + (1 * a3 + 0) := hg _ (List.mem_cons_of_mem _ (List.mem_cons_of_mem _ (List.mem_cons_of_mem _ (List.mem_cons_of_mem _ List.mem_cons_self))))
  have g5 : 0 ≤ (4294967276 : Int) + ((-1) * a3 + 0) := hg _ (List.mem_cons_of_mem _ (List.mem_cons_of_mem _ (List.mem_cons_of_mem _ (List.mem_cons_of_mem _ (List.mem_cons_of_mem _ List.mem_cons_self)))))
  have g6 : 0 ≤ (0 : Int) + ((-1) * a1 + (1 * a2 + 0)) := hg _ (List.mem_cons_of_mem _ (List.mem_cons_of_mem _ (List.mem_cons_of_mem _ (List.mem_cons_of_mem _ (List.mem_cons_of_mem _ (List.mem_cons_of_mem _ List.mem_cons_self))))))
  have g7 : 0 ≤ ((-2) : Int) + (1 * (zk_xe w 2000178 a0) + (4 * (zk_xe w 2000071 a5) + 0)) := hg _ (List.mem_cons_of_mem _ (List.mem_cons_of_mem _ (List.mem_cons_of_mem _ (List.mem_cons_of_mem _ (List.mem_cons_of_mem _ (List.mem_cons_of_mem _ (List.mem_cons_of_mem _ List.mem_cons_self)))))))
  have g8 : 0 ≤ (2 : Int) + ((-1) * (zk_xe w 2000178 a0) + (4 * (zk_xe w 2000071 a5) + 0)) := hg _ (List.mem_cons_of_mem _ (List.mem_cons_of_mem _ (List.mem_cons_of_mem _ (List.mem_cons_of_mem _ (List.mem_cons_of_mem _ (List.mem_cons_of_mem _ (List.mem_cons_of_mem _ (List.mem_cons_of_mem _ List.mem_cons_self))))))))
  have r0 : 0 ≤ a0 := hr _ List.mem_cons_self
  have r1 : 0 ≤ a2 := hr _ (List.mem_cons_of_mem _ List.mem_cons_self)
  have r2 : 0 ≤ a5 := hr _ (List.mem_cons_of_mem _ (List.mem_cons_of_mem _ List.mem_cons_self))
  have hb : 0 ≤ zk_xe w 2000178 a4 ∧ zk_xe w 2000178 a4 ≤ 4 := by
    rw [(zc_178 (w := w) (j := a4) (a := a1) (e := (a2 + 1)) (b := a3) (by omega) (by omega) (by omega) (by omega) (by omega) (by omega) (by omega) )]
    exact zc_vb
  have hr : zk_xe w 2000071 a5 = 1 ∨ (zk_xe w 2000071 a5 = 0 ∧ zk_xe w 2000178 a4 = 2) := by
    rcases zs_71c (w := w) (j := a5) with ⟨hx, -⟩ | ⟨hx, -⟩
    · exact Or.inl hx
    · refine Or.inr ⟨hx, ?_⟩
      have k1 : zh_e w 208 (a2) = zk_xe w 208 a2 := by rw [zk_xe_r (i := 208) (by decide)]; show zk_el w 208 (a2) = zk_el w 208 a2; rw [show a2 = a2 by omega]
      have hv := zc_u2 ((zc_178 (w := w) (j := a0) (a := a1) (e := a2) (b := a3) (by omega) (by omega) (by omega) (by omega) (by omega) (by omega) (by omega) ).symm.trans (show zk_xe w 2000178 a0 = 2 by omega))
      rw [(zc_178 (w := w) (j := a4) (a := a1) (e := (a2 + 1)) (b := a3) (by omega) (by omega) (by omega) (by omega) (by omega) (by omega) (by omega) )]
      rw [show a2 + 1 - a1 = (a2 - a1) + 1 by omega, zc_sn (show 0 ≤ a2 - a1 by omega), show a1 + (a2 - a1) = a2 by omega, k1, hv, show zk_xe w 208 a2 = 14 by omega]
      exact zc_x14
  exact ⟨_, List.mem_cons_self, [zk_xe w 2000178 a4], rfl, (zx_bcons (by show (0 : Int) ≤ zk_xe w 2000178 a4 ∧ zk_xe w 2000178 a4 ≤ (4 : Int); omega) zx_bnil), (zx_cs1 (by show 0 ≤ ((-2) : Int) + (4 * (zk_xe w 2000071 a5) + (1 * (zk_xe w 2000178 a4) + 0)); omega) (zx_cs1 (by show 0 ≤ (2 : Int) + (4 * (zk_xe w 2000071 a5) + ((-1) * (zk_xe w 2000178 a4) + 0)); omega) zx_cs0)), (zx_eF1 (by show 0 ≤ (0 : Int) + (1 * a4 + 0); omega) (by show zk_xe w 2000178 ((0 : Int) + (1 * a4 + 0)) = (0 : Int) + (1 * (zk_xe w 2000178 a4) + 0); rw [show (0 : Int) + (1 * a4 + 0) = a4 by omega]; omega) zx_eF0), zx_k0⟩
def zx_D1175 : zx_L := zx_Lc [] 6 [(2000178, 0), (208, 2), (2000071, 5)] [] [((0, 0), [(0, 1, 0), (1, 0, 79228162514264337593543950336), (2, 0, 18446744073709551616), (3, 0, 4294967296)]), ((0, 18446744073709551616), [(1, 0, 79228162514264337593543950336), (2, 0, 18446744073709551616), (3, 0, 4294967296), (4, 1, 0)]), ((0, 15), [(7, 1, 0)]), ((0, 0), [(5, 1, 0)])] [((0, 0), [(1, 1, 0)]), ((4294967276, 0), [(1, 0, 1)]), ((0, 0), [(2, 1, 0)]), ((4294967276, 0), [(2, 0, 1)]), ((0, 0), [(3, 1, 0)]), ((4294967276, 0), [(3, 0, 1)]), ((0, 0), [(1, 0, 1), (2, 1, 0)]), ((0, 2), [(6, 1, 0), (8, 4, 0)]), ((2, 0), [(6, 0, 1), (8, 4, 0)])] [([(0, 4)], [((0, 1), [(8, 4, 0), (9, 1, 0)]), ((1, 0), [(8, 4, 0), (9, 0, 1)])], [(2000178, ((0, 0), [(4, 1, 0)]), ((0, 0), [(9, 1, 0)]))], [])]
theorem zx_D1175_ok {PT : Nat → zz_W → Prop} : zx_Lok 64 zHT PT zx_D1175 := by
  refine zx_Lc_ok (fun w hI hK ins hl hr he hg => ?_)
  obtain ⟨a0, a1, a2, a3, a4, a5, rfl⟩ := zx_i6 hl
  have e0 : (0 : Int) + (1 * a0 + ((-79228162514264337593543950336) * a1 + ((-18446744073709551616) * a2 + ((-4294967296) * a3 + 0)))) = 0 := he _ List.mem_cons_self
  have e1 : ((-18446744073709551616) : Int) + ((-79228162514264337593543950336) * a1 + ((-18446744073709551616) * a2 + ((-4294967296) * a3 + (1 * a4 + 0)))) = 0 := he _ (List.mem_cons_of_mem _ List.mem_cons_self)
  have e2 : ((-15) : Int) + (1 * (zk_xe w 208 a2) + 0) = 0 := he _ (List.mem_cons_of_mem _ (List.mem_cons_of_mem _ List.mem_cons_self))
  have e3 : (0 : Int) + (1 * a5 + 0) = 0 := he _ (List.mem_cons_of_mem _ (List.mem_cons_of_mem _ (List.mem_cons_of_mem _ List.mem_cons_self)))
  have g0 : 0 ≤ (0 : Int) + (1 * a1 + 0) := hg _ List.mem_cons_self
  have g1 : 0 ≤ (4294967276 : Int) + ((-1) * a1 + 0) := hg _ (List.mem_cons_of_mem _ List.mem_cons_self)
  have g2 : 0 ≤ (0 : Int) + (1 * a2 + 0) := hg _ (List.mem_cons_of_mem _ (List.mem_cons_of_mem _ List.mem_cons_self))
  have g3 : 0 ≤ (4294967276 : Int) + ((-1) * a2 + 0) := hg _ (List.mem_cons_of_mem _ (List.mem_cons_of_mem _ (List.mem_cons_of_mem _ List.mem_cons_self)))
  have g4 : 0 ≤ (0 : Int) + (1 * a3 + 0) := hg _ (List.mem_cons_of_mem _ (List.mem_cons_of_mem _ (List.mem_cons_of_mem _ (List.mem_cons_of_mem _ List.mem_cons_self))))
  have g5 : 0 ≤ (4294967276 : Int) + ((-1) * a3 + 0) := hg _ (List.mem_cons_of_mem _ (List.mem_cons_of_mem _ (List.mem_cons_of_mem _ (List.mem_cons_of_mem _ (List.mem_cons_of_mem _ List.mem_cons_self)))))
  have g6 : 0 ≤ (0 : Int) + ((-1) * a1 + (1 * a2 + 0)) := hg _ (List.mem_cons_of_mem _ (List.mem_cons_of_mem _ (List.mem_cons_of_mem _ (List.mem_cons_of_mem _ (List.mem_cons_of_mem _ (List.mem_cons_of_mem _ List.mem_cons_self))))))
  have g7 : 0 ≤ ((-2) : Int) + (1 * (zk_xe w 2000178 a0) + (4 * (zk_xe w 2000071 a5) + 0)) := hg _ (List.mem_cons_of_mem _ (List.mem_cons_of_mem _ (List.mem_cons_of_mem _ (List.mem_cons_of_mem _ (List.mem_cons_of_mem _ (List.mem_cons_of_mem _ (List.mem_cons_of_mem _ List.mem_cons_self)))))))
  have g8 : 0 ≤ (2 : Int) + ((-1) * (zk_xe w 2000178 a0) + (4 * (zk_xe w 2000071 a5) + 0)) := hg _ (List.mem_cons_of_mem _ (List.mem_cons_of_mem _ (List.mem_cons_of_mem _ (List.mem_cons_of_mem _ (List.mem_cons_of_mem _ (List.mem_cons_of_mem _ (List.mem_cons_of_mem _ (List.mem_cons_of_mem _ List.mem_cons_self))))))))
  have r0 : 0 ≤ a0 := hr _ List.mem_cons_self
  have r1 : 0 ≤ a2 := hr _ (List.mem_cons_of_mem _ List.mem_cons_self)
  have r2 : 0 ≤ a5 := hr _ (List.mem_cons_of_mem _ (List.mem_cons_of_mem _ List.mem_cons_self))
  have hb : 0 ≤ zk_xe w 2000178 a4 ∧ zk_xe w 2000178 a4 ≤ 4 := by
    rw [(zc_178 (w := w) (j := a4) (a := a1) (e := (a2 + 1)) (b := a3) (by omega) (by omega) (by omega) (by omega) (by omega) (by omega) (by omega) )]
    exact zc_vb
  have hr : zk_xe w 2000071 a5 = 1 ∨ (zk_xe w 2000071 a5 = 0 ∧ zk_xe w 2000178 a4 = 1) := by
    rcases zs_71c (w := w) (j := a5) with ⟨hx, -⟩ | ⟨hx, -⟩
    · exact Or.inl hx
    · refine Or.inr ⟨hx, ?_⟩
      have k1 : zh_e w 208 (a2) = zk_xe w 208 a2 := by rw [zk_xe_r (i := 208) (by decide)]; show zk_el w 208 (a2) = zk_el w 208 a2; rw [show a2 = a2 by omega]
      have hv := zc_u2 ((zc_178 (w := w) (j := a0) (a := a1) (e := a2) (b := a3) (by omega) (by omega) (by omega) (by omega) (by omega) (by omega) (by omega) ).symm.trans (show zk_xe w 2000178 a0 = 2 by omega))
      rw [(zc_178 (w := w) (j := a4) (a := a1) (e := (a2 + 1)) (b := a3) (by omega) (by omega) (by omega) (by omega) (by omega) (by omega) (by omega) )]
      rw [show a2 + 1 - a1 = (a2 - a1) + 1 by omega, zc_sn (show 0 ≤ a2 - a1 by omega), show a1 + (a2 - a1) = a2 by omega, k1, hv, show zk_xe w 208 a2 = 15 by omega]
      exact zc_x15
  exact ⟨_, List.mem_cons_self, [zk_xe w 2000178 a4], rfl, (zx_bcons (by show (0 : Int) ≤ zk_xe w 2000178 a4 ∧ zk_xe w 2000178 a4 ≤ (4 : Int); omega) zx_bnil), (zx_cs1 (by show 0 ≤ ((-1) : Int) + (4 * (zk_xe w 2000071 a5) + (1 * (zk_xe w 2000178 a4) + 0)); omega) (zx_cs1 (by show 0 ≤ (1 : Int) + (4 * (zk_xe w 2000071 a5) + ((-1) * (zk_xe w 2000178 a4) + 0)); omega) zx_cs0)), (zx_eF1 (by show 0 ≤ (0 : Int) + (1 * a4 + 0); omega) (by show zk_xe w 2000178 ((0 : Int) + (1 * a4 + 0)) = (0 : Int) + (1 * (zk_xe w 2000178 a4) + 0); rw [show (0 : Int) + (1 * a4 + 0) = a4 by omega]; omega) zx_eF0), zx_k0⟩
def zx_D1176 : zx_L := zx_Lc [] 6 [(2000178, 0), (208, 2), (2000071, 5)] [] [((0, 0), [(0, 1, 0), (1, 0, 79228162514264337593543950336), (2, 0, 18446744073709551616), (3, 0, 4294967296)]), ((0, 18446744073709551616), [(1, 0, 79228162514264337593543950336), (2, 0, 18446744073709551616), (3, 0, 4294967296), (4, 1, 0)]), ((0, 16), [(7, 1, 0)]), ((0, 0), [(5, 1, 0)])] [((0, 0), [(1, 1, 0)]), ((4294967276, 0), [(1, 0, 1)]), ((0, 0), [(2, 1, 0)]), ((4294967276, 0), [(2, 0, 1)]), ((0, 0), [(3, 1, 0)]), ((4294967276, 0), [(3, 0, 1)]), ((0, 0), [(1, 0, 1), (2, 1, 0)]), ((0, 1), [(6, 1, 0), (8, 4, 0)]), ((1, 0), [(6, 0, 1), (8, 4, 0)])] [([(0, 4)], [((0, 3), [(8, 4, 0), (9, 1, 0)]), ((3, 0), [(8, 4, 0), (9, 0, 1)])], [(2000178, ((0, 0), [(4, 1, 0)]), ((0, 0), [(9, 1, 0)]))], [])]
theorem zx_D1176_ok {PT : Nat → zz_W → Prop} : zx_Lok 64 zHT PT zx_D1176 := by
  refine zx_Lc_ok (fun w hI hK ins hl hr he hg => ?_)
  obtain ⟨a0, a1, a2, a3, a4, a5, rfl⟩ := zx_i6 hl
  have e0 : (0 : Int) + (1 * a0 + ((-79228162514264337593543950336) * a1 + ((-18446744073709551616) * a2 + ((-4294967296) * a3 + 0)))) = 0 := he _ List.mem_cons_self
  have e1 : ((-18446744073709551616) : Int) + ((-79228162514264337593543950336) * a1 + ((-18446744073709551616) * a2 + ((-4294967296) * a3 + (1 * a4 + 0)))) = 0 := he _ (List.mem_cons_of_mem _ List.mem_cons_self)
  have e2 : ((-16) : Int) + (1 * (zk_xe w 208 a2) + 0) = 0 := he _ (List.mem_cons_of_mem _ (List.mem_cons_of_mem _ List.mem_cons_self))
  have e3 : (0 : Int) + (1 * a5 + 0) = 0 := he _ (List.mem_cons_of_mem _ (List.mem_cons_of_mem _ (List.mem_cons_of_mem _ List.mem_cons_self)))
  have g0 : 0 ≤ (0 : Int) + (1 * a1 + 0) := hg _ List.mem_cons_self
  have g1 : 0 ≤ (4294967276 : Int) + ((-1) * a1 + 0) := hg _ (List.mem_cons_of_mem _ List.mem_cons_self)
  have g2 : 0 ≤ (0 : Int) + (1 * a2 + 0) := hg _ (List.mem_cons_of_mem _ (List.mem_cons_of_mem _ List.mem_cons_self))
  have g3 : 0 ≤ (4294967276 : Int) + ((-1) * a2 + 0) := hg _ (List.mem_cons_of_mem _ (List.mem_cons_of_mem _ (List.mem_cons_of_mem _ List.mem_cons_self)))
  have g4 : 0 ≤ (0 : Int) + (1 * a3 + 0) := hg _ (List.mem_cons_of_mem _ (List.mem_cons_of_mem _ (List.mem_cons_of_mem _ (List.mem_cons_of_mem _ List.mem_cons_self))))
  have g5 : 0 ≤ (4294967276 : Int) + ((-1) * a3 + 0) := hg _ (List.mem_cons_of_mem _ (List.mem_cons_of_mem _ (List.mem_cons_of_mem _ (List.mem_cons_of_mem _ (List.mem_cons_of_mem _ List.mem_cons_self)))))
  have g6 : 0 ≤ (0 : Int) + ((-1) * a1 + (1 * a2 + 0)) := hg _ (List.mem_cons_of_mem _ (List.mem_cons_of_mem _ (List.mem_cons_of_mem _ (List.mem_cons_of_mem _ (List.mem_cons_of_mem _ (List.mem_cons_of_mem _ List.mem_cons_self))))))
  have g7 : 0 ≤ ((-1) : Int) + (1 * (zk_xe w 2000178 a0) + (4 * (zk_xe w 2000071 a5) + 0)) := hg _ (List.mem_cons_of_mem _ (List.mem_cons_of_mem _ (List.mem_cons_of_mem _ (List.mem_cons_of_mem _ (List.mem_cons_of_mem _ (List.mem_cons_of_mem _ (List.mem_cons_of_mem _ List.mem_cons_self)))))))
  have g8 : 0 ≤ (1 : Int) + ((-1) * (zk_xe w 2000178 a0) + (4 * (zk_xe w 2000071 a5) + 0)) := hg _ (List.mem_cons_of_mem _ (List.mem_cons_of_mem _ (List.mem_cons_of_mem _ (List.mem_cons_of_mem _ (List.mem_cons_of_mem _ (List.mem_cons_of_mem _ (List.mem_cons_of_mem _ (List.mem_cons_of_mem _ List.mem_cons_self))))))))
  have r0 : 0 ≤ a0 := hr _ List.mem_cons_self
  have r1 : 0 ≤ a2 := hr _ (List.mem_cons_of_mem _ List.mem_cons_self)
  have r2 : 0 ≤ a5 := hr _ (List.mem_cons_of_mem _ (List.mem_cons_of_mem _ List.mem_cons_self))
  have hb : 0 ≤ zk_xe w 2000178 a4 ∧ zk_xe w 2000178 a4 ≤ 4 := by
    rw [(zc_178 (w := w) (j := a4) (a := a1) (e := (a2 + 1)) (b := a3) (by omega) (by omega) (by omega) (by omega) (by omega) (by omega) (by omega) )]
    exact zc_vb
  have hr : zk_xe w 2000071 a5 = 1 ∨ (zk_xe w 2000071 a5 = 0 ∧ zk_xe w 2000178 a4 = 3) := by
    rcases zs_71c (w := w) (j := a5) with ⟨hx, -⟩ | ⟨hx, -⟩
    · exact Or.inl hx
    · refine Or.inr ⟨hx, ?_⟩
      have k1 : zh_e w 208 (a2) = zk_xe w 208 a2 := by rw [zk_xe_r (i := 208) (by decide)]; show zk_el w 208 (a2) = zk_el w 208 a2; rw [show a2 = a2 by omega]
      have hv := zc_u1 ((zc_178 (w := w) (j := a0) (a := a1) (e := a2) (b := a3) (by omega) (by omega) (by omega) (by omega) (by omega) (by omega) (by omega) ).symm.trans (show zk_xe w 2000178 a0 = 1 by omega))
      rw [(zc_178 (w := w) (j := a4) (a := a1) (e := (a2 + 1)) (b := a3) (by omega) (by omega) (by omega) (by omega) (by omega) (by omega) (by omega) )]
      rw [show a2 + 1 - a1 = (a2 - a1) + 1 by omega, zc_sn (show 0 ≤ a2 - a1 by omega), show a1 + (a2 - a1) = a2 by omega, k1, hv, show zk_xe w 208 a2 = 16 by omega]
      exact zc_x16
  exact ⟨_, List.mem_cons_self, [zk_xe w 2000178 a4], rfl, (zx_bcons (by show (0 : Int) ≤ zk_xe w 2000178 a4 ∧ zk_xe w 2000178 a4 ≤ (4 : Int); omega) zx_bnil), (zx_cs1 (by show 0 ≤ ((-3) : Int) + (4 * (zk_xe w 2000071 a5) + (1 * (zk_xe w 2000178 a4) + 0)); omega) (zx_cs1 (by show 0 ≤ (3 : Int) + (4 * (zk_xe w 2000071 a5) + ((-1) * (zk_xe w 2000178 a4) + 0)); omega) zx_cs0)), (zx_eF1 (by show 0 ≤ (0 : Int) + (1 * a4 + 0); omega) (by show zk_xe w 2000178 ((0 : Int) + (1 * a4 + 0)) = (0 : Int) + (1 * (zk_xe w 2000178 a4) + 0); rw [show (0 : Int) + (1 * a4 + 0) = a4 by omega]; omega) zx_eF0), zx_k0⟩
def zx_D1177 : zx_L := zx_Lc [] 6 [(2000178, 0), (208, 2), (2000071, 5)] [] [((0, 0), [(0, 1, 0), (1, 0, 79228162514264337593543950336), (2, 0, 18446744073709551616), (3, 0, 4294967296)]), ((0, 18446744073709551616), [(1, 0, 79228162514264337593543950336), (2, 0, 18446744073709551616), (3, 0, 4294967296), (4, 1, 0)]), ((0, 17), [(7, 1, 0)]), ((0, 0), [(5, 1, 0)])] [((0, 0), [(1, 1, 0)]), ((4294967276, 0), [(1, 0, 1)]), ((0, 0), [(2, 1, 0)]), ((4294967276, 0), [(2, 0, 1)]), ((0, 0), [(3, 1, 0)]), ((4294967276, 0), [(3, 0, 1)]), ((0, 0), [(1, 0, 1), (2, 1, 0)]), ((0, 3), [(6, 1, 0), (8, 4, 0)]), ((3, 0), [(6, 0, 1), (8, 4, 0)])] [([(0, 4)], [((0, 4), [(8, 4, 0), (9, 1, 0)]), ((4, 0), [(8, 4, 0), (9, 0, 1)])], [(2000178, ((0, 0), [(4, 1, 0)]), ((0, 0), [(9, 1, 0)]))], [])]
theorem zx_D1177_ok {PT : Nat → zz_W → Prop} : zx_Lok 64 zHT PT zx_D1177 := by
  refine zx_Lc_ok (fun w hI hK ins hl hr he hg => ?_)
  obtain ⟨a0, a1, a2, a3, a4, a5, rfl⟩ := zx_i6 hl
  have e0 : (0 : Int) + (1 * a0 + ((-79228162514264337593543950336) * a1 + ((-18446744073709551616) * a2 + ((-4294967296) * a3 + 0)))) = 0 := he _ List.mem_cons_self
  have e1 : ((-18446744073709551616) : Int) + ((-79228162514264337593543950336) * a1 + ((-18446744073709551616) * a2 + ((-4294967296) * a3 + (1 * a4 + 0)))) = 0 := he _ (List.mem_cons_of_mem _ List.mem_cons_self)
  have e2 : ((-17) : Int) + (1 * (zk_xe w 208 a2) + 0) = 0 := he _ (List.mem_cons_of_mem _ (List.mem_cons_of_mem _ List.mem_cons_self))
  have e3 : (0 : Int) + (1 * a5 + 0) = 0 := he _ (List.mem_cons_of_mem _ (List.mem_cons_of_mem _ (List.mem_cons_of_mem _ List.mem_cons_self)))
  have g0 : 0 ≤ (0 : Int) + (1 * a1 + 0) := hg _ List.mem_cons_self
  have g1 : 0 ≤ (4294967276 : Int) + ((-1) * a1 + 0) := hg _ (List.mem_cons_of_mem _ List.mem_cons_self)
  have g2 : 0 ≤ (0 : Int) + (1 * a2 + 0) := hg _ (List.mem_cons_of_mem _ (List.mem_cons_of_mem _ List.mem_cons_self))
  have g3 : 0 ≤ (4294967276 : Int) + ((-1) * a2 + 0) := hg _ (List.mem_cons_of_mem _ (List.mem_cons_of_mem _ (List.mem_cons_of_mem _ List.mem_cons_self)))
  have g4 : 0 ≤ (0 : Int) + (1 * a3 + 0) := hg _ (List.mem_cons_of_mem _ (List.mem_cons_of_mem _ (List.mem_cons_of_mem _ (List.mem_cons_of_mem _ List.mem_cons_self))))
  have g5 : 0 ≤ (4294967276 : Int) + ((-1) * a3 + 0) := hg _ (List.mem_cons_of_mem _ (List.mem_cons_of_mem _ (List.mem_cons_of_mem _ (List.mem_cons_of_mem _ (List.mem_cons_of_mem _ List.mem_cons_self)))))
  have g6 : 0 ≤ (0 : Int) + ((-1) * a1 + (1 * a2 + 0)) := hg _ (List.mem_cons_of_mem _ (List.mem_cons_of_mem _ (List.mem_cons_of_mem _ (List.mem_cons_of_mem _ (List.mem_cons_of_mem _ (List.mem_cons_of_mem _ List.mem_cons_self))))))
  have g7 : 0 ≤ ((-3) : Int) + (1 * (zk_xe w 2000178 a0) + (4 * (zk_xe w 2000071 a5) + 0)) := hg _ (List.mem_cons_of_mem _ (List.mem_cons_of_mem _ (List.mem_cons_of_mem _ (List.mem_cons_of_mem _ (List.mem_cons_of_mem _ (List.mem_cons_of_mem _ (List.mem_cons_of_mem _ List.mem_cons_self)))))))
  have g8 : 0 ≤ (3 : Int) + ((-1) * (zk_xe w 2000178 a0) + (4 * (zk_xe w 2000071 a5) + 0)) := hg _ (List.mem_cons_of_mem _ (List.mem_cons_of_mem _ (List.mem_cons_of_mem _ (List.mem_cons_of_mem _ (List.mem_cons_of_mem _ (List.mem_cons_of_mem _ (List.mem_cons_of_mem _ (List.mem_cons_of_mem _ List.mem_cons_self))))))))
  have r0 : 0 ≤ a0 := hr _ List.mem_cons_self
  have r1 : 0 ≤ a2 := hr _ (List.mem_cons_of_mem _ List.mem_cons_self)
  have r2 : 0 ≤ a5 := hr _ (List.mem_cons_of_mem _ (List.mem_cons_of_mem _ List.mem_cons_self))
  have hb : 0 ≤ zk_xe w 2000178 a4 ∧ zk_xe w 2000178 a4 ≤ 4 := by
    rw [(zc_178 (w := w) (j := a4) (a := a1) (e := (a2 + 1)) (b := a3) (by omega) (by omega) (by omega) (by omega) (by omega) (by omega) (by omega) )]
    exact zc_vb
  have hr : zk_xe w 2000071 a5 = 1 ∨ (zk_xe w 2000071 a5 = 0 ∧ zk_xe w 2000178 a4 = 4) := by
    rcases zs_71c (w := w) (j := a5) with ⟨hx, -⟩ | ⟨hx, -⟩
    · exact Or.inl hx
    · refine Or.inr ⟨hx, ?_⟩
      have k1 : zh_e w 208 (a2) = zk_xe w 208 a2 := by rw [zk_xe_r (i := 208) (by decide)]; show zk_el w 208 (a2) = zk_el w 208 a2; rw [show a2 = a2 by omega]
      have hv := zc_u3 ((zc_178 (w := w) (j := a0) (a := a1) (e := a2) (b := a3) (by omega) (by omega) (by omega) (by omega) (by omega) (by omega) (by omega) ).symm.trans (show zk_xe w 2000178 a0 = 3 by omega))
      rw [(zc_178 (w := w) (j := a4) (a := a1) (e := (a2 + 1)) (b := a3) (by omega) (by omega) (by omega) (by omega) (by omega) (by omega) (by omega) )]
      rw [show a2 + 1 - a1 = (a2 - a1) + 1 by omega, zc_sn (show 0 ≤ a2 - a1 by omega), show a1 + (a2 - a1) = a2 by omega, k1, hv, show zk_xe w 208 a2 = 17 by omega]
      exact zc_x17
  exact ⟨_, List.mem_cons_self, [zk_xe w 2000178 a4], rfl, (zx_bcons (by show (0 : Int) ≤ zk_xe w 2000178 a4 ∧ zk_xe w 2000178 a4 ≤ (4 : Int); omega) zx_bnil), (zx_cs1 (by show 0 ≤ ((-4) : Int) + (4 * (zk_xe w 2000071 a5) + (1 * (zk_xe w 2000178 a4) + 0)); omega) (zx_cs1 (by show 0 ≤ (4 : Int) + (4 * (zk_xe w 2000071 a5) + ((-1) * (zk_xe w 2000178 a4) + 0)); omega) zx_cs0)), (zx_eF1 (by show 0 ≤ (0 : Int) + (1 * a4 + 0); omega) (by show zk_xe w 2000178 ((0 : Int) + (1 * a4 + 0)) = (0 : Int) + (1 * (zk_xe w 2000178 a4) + 0); rw [show (0 : Int) + (1 * a4 + 0) = a4 by omega]; omega) zx_eF0), zx_k0⟩
def zx_D1178 : zx_L := zx_Lc [] 6 [(2000178, 0), (208, 2), (2000071, 5)] [] [((0, 0), [(0, 1, 0), (1, 0, 79228162514264337593543950336), (2, 0, 18446744073709551616), (3, 0, 4294967296)]), ((0, 18446744073709551616), [(1, 0, 79228162514264337593543950336), (2, 0, 18446744073709551616), (3, 0, 4294967296), (4, 1, 0)]), ((0, 18), [(7, 1, 0)]), ((0, 0), [(5, 1, 0)])] [((0, 0), [(1, 1, 0)]), ((4294967276, 0), [(1, 0, 1)]), ((0, 0), [(2, 1, 0)]), ((4294967276, 0), [(2, 0, 1)]), ((0, 0), [(3, 1, 0)]), ((4294967276, 0), [(3, 0, 1)]), ((0, 0), [(1, 0, 1), (2, 1, 0)]), ((0, 4), [(6, 1, 0), (8, 4, 0)]), ((4, 0), [(6, 0, 1), (8, 4, 0)])] [([(0, 4)], [((0, 1), [(8, 4, 0), (9, 1, 0)]), ((1, 0), [(8, 4, 0), (9, 0, 1)])], [(2000178, ((0, 0), [(4, 1, 0)]), ((0, 0), [(9, 1, 0)]))], [])]
theorem zx_D1178_ok {PT : Nat → zz_W → Prop} : zx_Lok 64 zHT PT zx_D1178 := by
  refine zx_Lc_ok (fun w hI hK ins hl hr he hg => ?_)
  obtain ⟨a0, a1, a2, a3, a4, a5, rfl⟩ := zx_i6 hl
  have e0 : (0 : Int) + (1 * a0 + ((-79228162514264337593543950336) * a1 + ((-18446744073709551616) * a2 + ((-4294967296) * a3 + 0)))) = 0 := he _ List.mem_cons_self
  have e1 : ((-18446744073709551616) : Int) + ((-79228162514264337593543950336) * a1 + ((-18446744073709551616) * a2 + ((-4294967296) * a3 + (1 * a4 + 0)))) = 0 := he _ (List.mem_cons_of_mem _ List.mem_cons_self)
  have e2 : ((-18) : Int) + (1 * (zk_xe w 208 a2) + 0) = 0 := he _ (List.mem_cons_of_mem _ (List.mem_cons_of_mem _ List.mem_cons_self))
  have e3 : (0 : Int) + (1 * a5 + 0) = 0 := he _ (List.mem_cons_of_mem _ (List.mem_cons_of_mem _ (List.mem_cons_of_mem _ List.mem_cons_self)))
  have g0 : 0 ≤ (0 : Int) + (1 * a1 + 0) := hg _ List.mem_cons_self
  have g1 : 0 ≤ (4294967276 : Int) + ((-1) * a1 + 0) := hg _ (List.mem_cons_of_mem _ List.mem_cons_self)
  have g2 : 0 ≤ (0 : Int) + (1 * a2 + 0) := hg _ (List.mem_cons_of_mem _ (List.mem_cons_of_mem _ List.mem_cons_self))
  have g3 : 0 ≤ (4294967276 : Int) + ((-1) * a2 + 0) := hg _ (List.mem_cons_of_mem _ (List.mem_cons_of_mem _ (List.mem_cons_of_mem _ List.mem_cons_self)))
  have g4 : 0 ≤ (0 : Int) + (1 * a3 + 0) := hg _ (List.mem_cons_of_mem _ (List.mem_cons_of_mem _ (List.mem_cons_of_mem _ (List.mem_cons_of_mem _ List.mem_cons_self))))
  have g5 : 0 ≤ (4294967276 : Int) + ((-1) * a3 + 0) := hg _ (List.mem_cons_of_mem _ (List.mem_cons_of_mem _ (List.mem_cons_of_mem _ (List.mem_cons_of_mem _ (List.mem_cons_of_mem _ List.mem_cons_self)))))
  have g6 : 0 ≤ (0 : Int) + ((-1) * a1 + (1 * a2 + 0)) := hg _ (List.mem_cons_of_mem _ (List.mem_cons_of_mem _ (List.mem_cons_of_mem _ (List.mem_cons_of_mem _ (List.mem_cons_of_mem _ (List.mem_cons_of_mem _ List.mem_cons_self))))))
  have g7 : 0 ≤ ((-4) : Int) + (1 * (zk_xe w 2000178 a0) + (4 * (zk_xe w 2000071 a5) + 0)) := hg _ (List.mem_cons_of_mem _ (List.mem_cons_of_mem _ (List.mem_cons_of_mem _ (List.mem_cons_of_mem _ (List.mem_cons_of_mem _ (List.mem_cons_of_mem _ (List.mem_cons_of_mem _ List.mem_cons_self)))))))
  have g8 : 0 ≤ (4 : Int) + ((-1) * (zk_xe w 2000178 a0) + (4 * (zk_xe w 2000071 a5) + 0)) := hg _ (List.mem_cons_of_mem _ (List.mem_cons_of_mem _ (List.mem_cons_of_mem _ (List.mem_cons_of_mem _ (List.mem_cons_of_mem _ (List.mem_cons_of_mem _ (List.mem_cons_of_mem _ (List.mem_cons_of_mem _ List.mem_cons_self))))))))
  have r0 : 0 ≤ a0 := hr _ List.mem_cons_self
  have r1 : 0 ≤ a2 := hr _ (List.mem_cons_of_mem _ List.mem_cons_self)
  have r2 : 0 ≤ a5 := hr _ (List.mem_cons_of_mem _ (List.mem_cons_of_mem _ List.mem_cons_self))
  have hb : 0 ≤ zk_xe w 2000178 a4 ∧ zk_xe w 2000178 a4 ≤ 4 := by
    rw [(zc_178 (w := w) (j := a4) (a := a1) (e := (a2 + 1)) (b := a3) (by omega) (by omega) (by omega) (by omega) (by omega) (by omega) (by omega) )]
    exact zc_vb
  have hr : zk_xe w 2000071 a5 = 1 ∨ (zk_xe w 2000071 a5 = 0 ∧ zk_xe w 2000178 a4 = 1) := by
    rcases zs_71c (w := w) (j := a5) with ⟨hx, -⟩ | ⟨hx, -⟩
    · exact Or.inl hx
    · refine Or.inr ⟨hx, ?_⟩
      have k1 : zh_e w 208 (a2) = zk_xe w 208 a2 := by rw [zk_xe_r (i := 208) (by decide)]; show zk_el w 208 (a2) = zk_el w 208 a2; rw [show a2 = a2 by omega]
      have hv := zc_u4 ((zc_178 (w := w) (j := a0) (a := a1) (e := a2) (b := a3) (by omega) (by omega) (by omega) (by omega) (by omega) (by omega) (by omega) ).symm.trans (show zk_xe w 2000178 a0 = 4 by omega))
      rw [(zc_178 (w := w) (j := a4) (a := a1) (e := (a2 + 1)) (b := a3) (by omega) (by omega) (by omega) (by omega) (by omega) (by omega) (by omega) )]
      rw [show a2 + 1 - a1 = (a2 - a1) + 1 by omega, zc_sn (show 0 ≤ a2 - a1 by omega), show a1 + (a2 - a1) = a2 by omega, k1, hv, show zk_xe w 208 a2 = 18 by omega]
      exact zc_x18
  exact ⟨_, List.mem_cons_self, [zk_xe w 2000178 a4], rfl, (zx_bcons (by show (0 : Int) ≤ zk_xe w 2000178 a4 ∧ zk_xe w 2000178 a4 ≤ (4 : Int); omega) zx_bnil), (zx_cs1 (by show 0 ≤ ((-1) : Int) + (4 * (zk_xe w 2000071 a5) + (1 * (zk_xe w 2000178 a4) + 0)); omega) (zx_cs1 (by show 0 ≤ (1 : Int) + (4 * (zk_xe w 2000071 a5) + ((-1) * (zk_xe w 2000178 a4) + 0)); omega) zx_cs0)), (zx_eF1 (by show 0 ≤ (0 : Int) + (1 * a4 + 0); omega) (by show zk_xe w 2000178 ((0 : Int) + (1 * a4 + 0)) = (0 : Int) + (1 * (zk_xe w 2000178 a4) + 0); rw [show (0 : Int) + (1 * a4 + 0) = a4 by omega]; omega) zx_eF0), zx_k0⟩
def zx_D1170 : zx_L := zx_Lc [] 2 [] [] [((0, 0), [(0, 1, 0), (1, 0, 79228162532711081667253501952)])] [((0, 0), [(1, 1, 0)]), ((4294967276, 0), [(1, 0, 1)])] [([], [], [(2000178, ((0, 0), [(0, 1, 0)]), ((1, 0), []))], [])]
theorem zx_D1170_ok {PT : Nat → zz_W → Prop} : zx_Lok 64 zHT PT zx_D1170 := by
  refine zx_Lc_ok (fun w hI hK ins hl hr he hg => ?_)
  obtain ⟨a0, a1, rfl⟩ := zx_i2 hl
  have e0 : (0 : Int) + (1 * a0 + ((-79228162532711081667253501952) * a1 + 0)) = 0 := he _ List.mem_cons_self
  have g0 : 0 ≤ (0 : Int) + (1 * a1 + 0) := hg _ List.mem_cons_self
  have g1 : 0 ≤ (4294967276 : Int) + ((-1) * a1 + 0) := hg _ (List.mem_cons_of_mem _ List.mem_cons_self)
  have h : zk_xe w 2000178 a0 = 1 := by
    rw [(zc_178 (w := w) (j := a0) (a := a1) (e := a1) (b := 0) (by omega) (by omega) (by omega) (by omega) (by omega) (by omega) (by omega) ), show a1 - a1 = 0 by omega]
    exact zc_w1 (m := [])
  exact ⟨_, List.mem_cons_self, [], rfl, zx_bnil, zx_cs0, (zx_eF1 (by show 0 ≤ (0 : Int) + (1 * a0 + 0); omega) (by show zk_xe w 2000178 ((0 : Int) + (1 * a0 + 0)) = (1 : Int) + (0); rw [show (0 : Int) + (1 * a0 + 0) = a0 by omega]; exact h.trans (by omega)) zx_eF0), zx_k0⟩
def zx_D1182 : zx_L := zx_Lc [] 7 [(2000178, 0), (254, 5), (2000071, 6)] [] [((0, 0), [(0, 1, 0), (1, 0, 79228162514264337593543950336), (2, 0, 18446744073709551616), (3, 0, 4294967296)]), ((0, 4294967296), [(1, 0, 79228162514264337593543950336), (2, 0, 18446744073709551616), (3, 0, 4294967296), (4, 1, 0)]), ((0, 0), [(3, 0, 1), (5, 1, 0)]), ((0, 0), [(6, 1, 0)])] [((0, 0), [(1, 1, 0)]), ((4294967276, 0), [(1, 0, 1)]), ((0, 0), [(2, 1, 0)]), ((4294967276, 0), [(2, 0, 1)]), ((0, 0), [(3, 1, 0)]), ((4294967276, 0), [(3, 0, 1)]), ((0, 1), [(3, 1, 0)]), ((0, 1), [(8, 1, 0)]), ((2, 0), [(8, 0, 1)]), ((0, 2), [(7, 1, 0), (9, 4, 0)]), ((2, 0), [(7, 0, 1), (9, 4, 0)])] [([(0, 4)], [((0, 1), [(9, 4, 0), (10, 1, 0)]), ((1, 0), [(9, 4, 0), (10, 0, 1)])], [(2000178, ((0, 0), [(4, 1, 0)]), ((0, 0), [(10, 1, 0)]))], [])]
theorem zx_D1182_ok {PT : Nat → zz_W → Prop} : zx_Lok 64 zHT PT zx_D1182 := by
  refine zx_Lc_ok (fun w hI hK ins hl hr he hg => ?_)
  obtain ⟨a0, a1, a2, a3, a4, a5, a6, rfl⟩ := zx_i7 hl
  have e0 : (0 : Int) + (1 * a0 + ((-79228162514264337593543950336) * a1 + ((-18446744073709551616) * a2 + ((-4294967296) * a3 + 0)))) = 0 := he _ List.mem_cons_self
  have e1 : ((-4294967296) : Int) + ((-79228162514264337593543950336) * a1 + ((-18446744073709551616) * a2 + ((-4294967296) * a3 + (1 * a4 + 0)))) = 0 := he _ (List.mem_cons_of_mem _ List.mem_cons_self)
  have e2 : (0 : Int) + ((-1) * a3 + (1 * a5 + 0)) = 0 := he _ (List.mem_cons_of_mem _ (List.mem_cons_of_mem _ List.mem_cons_self))
  have e3 : (0 : Int) + (1 * a6 + 0) = 0 := he _ (List.mem_cons_of_mem _ (List.mem_cons_of_mem _ (List.mem_cons_of_mem _ List.mem_cons_self)))
  have g0 : 0 ≤ (0 : Int) + (1 * a1 + 0) := hg _ List.mem_cons_self
  have g1 : 0 ≤ (4294967276 : Int) + ((-1) * a1 + 0) := hg _ (List.mem_cons_of_mem _ List.mem_cons_self)
  have g2 : 0 ≤ (0 : Int) + (1 * a2 + 0) := hg _ (List.mem_cons_of_mem _ (List.mem_cons_of_mem _ List.mem_cons_self))
  have g3 : 0 ≤ (4294967276 : Int) + ((-1) * a2 + 0) := hg _ (List.mem_cons_of_mem _ (List.mem_cons_of_mem _ (List.mem_cons_of_mem _ List.mem_cons_self)))
  have g4 : 0 ≤ (0 : Int) + (1 * a3 + 0) := hg _ (List.mem_cons_of_mem _ (List.mem_cons_of_mem _ (List.mem_cons_of_mem _ (List.mem_cons_of_mem _ List.mem_cons_self))))
  have g5 : 0 ≤ (4294967276 : Int) + ((-1) * a3 + 0) := hg _ (List.mem_cons_of_mem _ (List.mem_cons_of_mem _ (List.mem_cons_of_mem _ (List.mem_cons_of_mem _ (List.mem_cons_of_mem _ List.mem_cons_self)))))
  have g6 : 0 ≤ ((-1) : Int) + (1 * a3 + 0) := hg _ (List.mem_cons_of_mem _ (List.mem_cons_of_mem _ (List.mem_cons_of_mem _ (List.mem_cons_of_mem _ (List.mem_cons_of_mem _ (List.mem_cons_of_mem _ List.mem_cons_self))))))
  have g7 : 0 ≤ ((-1) : Int) + (1 * (zk_xe w 254 a5) + 0) := hg _ (List.mem_cons_of_mem _ (List.mem_cons_of_mem _ (List.mem_cons_of_mem _ (List.mem_cons_of_mem _ (List.mem_cons_of_mem _ (List.mem_cons_of_mem _ (List.mem_cons_of_mem _ List.mem_cons_self)))))))
  have g8 : 0 ≤ (2 : Int) + ((-1) * (zk_xe w 254 a5) + 0) := hg _ (List.mem_cons_of_mem _ (List.mem_cons_of_mem _ (List.mem_cons_of_mem _ (List.mem_cons_of_mem _ (List.mem_cons_of_mem _ (List.mem_cons_of_mem _ (List.mem_cons_of_mem _ (List.mem_cons_of_mem _ List.mem_cons_self))))))))
  have g9 : 0 ≤ ((-2) : Int) + (1 * (zk_xe w 2000178 a0) + (4 * (zk_xe w 2000071 a6) + 0)) := hg _ (List.mem_cons_of_mem _ (List.mem_cons_of_mem _ (List.mem_cons_of_mem _ (List.mem_cons_of_mem _ (List.mem_cons_of_mem _ (List.mem_cons_of_mem _ (List.mem_cons_of_mem _ (List.mem_cons_of_mem _ (List.mem_cons_of_mem _ List.mem_cons_self)))))))))
  have g10 : 0 ≤ (2 : Int) + ((-1) * (zk_xe w 2000178 a0) + (4 * (zk_xe w 2000071 a6) + 0)) := hg _ (List.mem_cons_of_mem _ (List.mem_cons_of_mem _ (List.mem_cons_of_mem _ (List.mem_cons_of_mem _ (List.mem_cons_of_mem _ (List.mem_cons_of_mem _ (List.mem_cons_of_mem _ (List.mem_cons_of_mem _ (List.mem_cons_of_mem _ (List.mem_cons_of_mem _ List.mem_cons_self))))))))))
  have r0 : 0 ≤ a0 := hr _ List.mem_cons_self
  have r1 : 0 ≤ a5 := hr _ (List.mem_cons_of_mem _ List.mem_cons_self)
  have r2 : 0 ≤ a6 := hr _ (List.mem_cons_of_mem _ (List.mem_cons_of_mem _ List.mem_cons_self))
  have hb : 0 ≤ zk_xe w 2000178 a4 ∧ zk_xe w 2000178 a4 ≤ 4 := by
    rw [(zc_178 (w := w) (j := a4) (a := a1) (e := a2) (b := (a3 + 1)) (by omega) (by omega) (by omega) (by omega) (by omega) (by omega) (by omega) )]
    exact zc_vb
  have hr : zk_xe w 2000071 a6 = 1 ∨ (zk_xe w 2000071 a6 = 0 ∧ zk_xe w 2000178 a4 = 1) := by
    rcases zs_71c (w := w) (j := a6) with ⟨hx, -⟩ | ⟨hx, -⟩
    · exact Or.inl hx
    · refine Or.inr ⟨hx, ?_⟩
      have hv := zc_u2 ((zc_178 (w := w) (j := a0) (a := a1) (e := a2) (b := a3) (by omega) (by omega) (by omega) (by omega) (by omega) (by omega) (by omega) ).symm.trans (show zk_xe w 2000178 a0 = 2 by omega))
      have kb : zh_e w 254 (a3) = zk_xe w 254 a5 := by rw [zk_xe_r (i := 254) (by decide)]; show zk_el w 254 (a3) = zk_el w 254 a5; rw [show a3 = a5 by omega]
      rw [(zc_178 (w := w) (j := a4) (a := a1) (e := a2) (b := (a3 + 1)) (by omega) (by omega) (by omega) (by omega) (by omega) (by omega) (by omega) ), hv, zc_mn (show 2 ≤ a3 + 1 by omega), show a3 + 1 - 1 = a3 by omega, kb, if_neg (show ¬ (zk_xe w 254 a5 = 3) by omega)]
      exact zc_w1
  exact ⟨_, List.mem_cons_self, [zk_xe w 2000178 a4], rfl, (zx_bcons (by show (0 : Int) ≤ zk_xe w 2000178 a4 ∧ zk_xe w 2000178 a4 ≤ (4 : Int); omega) zx_bnil), (zx_cs1 (by show 0 ≤ ((-1) : Int) + (4 * (zk_xe w 2000071 a6) + (1 * (zk_xe w 2000178 a4) + 0)); omega) (zx_cs1 (by show 0 ≤ (1 : Int) + (4 * (zk_xe w 2000071 a6) + ((-1) * (zk_xe w 2000178 a4) + 0)); omega) zx_cs0)), (zx_eF1 (by show 0 ≤ (0 : Int) + (1 * a4 + 0); omega) (by show zk_xe w 2000178 ((0 : Int) + (1 * a4 + 0)) = (0 : Int) + (1 * (zk_xe w 2000178 a4) + 0); rw [show (0 : Int) + (1 * a4 + 0) = a4 by omega]; omega) zx_eF0), zx_k0⟩
def zx_D1183 : zx_L := zx_Lc [] 7 [(2000178, 0), (254, 5), (2000071, 6)] [] [((0, 0), [(0, 1, 0), (1, 0, 79228162514264337593543950336), (2, 0, 18446744073709551616), (3, 0, 4294967296)]), ((0, 4294967296), [(1, 0, 79228162514264337593543950336), (2, 0, 18446744073709551616), (3, 0, 4294967296), (4, 1, 0)]), ((0, 0), [(3, 0, 1), (5, 1, 0)]), ((0, 0), [(6, 1, 0)])] [((0, 0), [(1, 1, 0)]), ((4294967276, 0), [(1, 0, 1)]), ((0, 0), [(2, 1, 0)]), ((4294967276, 0), [(2, 0, 1)]), ((0, 0), [(3, 1, 0)]), ((4294967276, 0), [(3, 0, 1)]), ((0, 1), [(3, 1, 0)]), ((0, 3), [(8, 1, 0)]), ((3, 0), [(8, 0, 1)]), ((0, 4), [(7, 1, 0), (9, 4, 0)]), ((4, 0), [(7, 0, 1), (9, 4, 0)])] [([(0, 4)], [((0, 1), [(9, 4, 0), (10, 1, 0)]), ((1, 0), [(9, 4, 0), (10, 0, 1)])], [(2000178, ((0, 0), [(4, 1, 0)]), ((0, 0), [(10, 1, 0)]))], [])]
theorem zx_D1183_ok {PT : Nat → zz_W → Prop} : zx_Lok 64 zHT PT zx_D1183 := by
  refine zx_Lc_ok (fun w hI hK ins hl hr he hg => ?_)
  obtain ⟨a0, a1, a2, a3, a4, a5, a6, rfl⟩ := zx_i7 hl
  have e0 : (0 : Int) + (1 * a0 + ((-79228162514264337593543950336) * a1 + ((-18446744073709551616) * a2 + ((-4294967296) * a3 + 0)))) = 0 := he _ List.mem_cons_self
  have e1 : ((-4294967296) : Int) + ((-79228162514264337593543950336) * a1 + ((-18446744073709551616) * a2 + ((-4294967296) * a3 + (1 * a4 + 0)))) = 0 := he _ (List.mem_cons_of_mem _ List.mem_cons_self)
  have e2 : (0 : Int) + ((-1) * a3 + (1 * a5 + 0)) = 0 := he _ (List.mem_cons_of_mem _ (List.mem_cons_of_mem _ List.mem_cons_self))
  have e3 : (0 : Int) + (1 * a6 + 0) = 0 := he _ (List.mem_cons_of_mem _ (List.mem_cons_of_mem _ (List.mem_cons_of_mem _ List.mem_cons_self)))
  have g0 : 0 ≤ (0 : Int) + (1 * a1 + 0) := hg _ List.mem_cons_self
  have g1 : 0 ≤ (4294967276 : Int) + ((-1) * a1 + 0) := hg _ (List.mem_cons_of_mem _ List.mem_cons_self)
  have g2 : 0 ≤ (0 : Int) + (1 * a2 + 0) := hg _ (List.mem_cons_of_mem _ (List.mem_cons_of_mem _ List.mem_cons_self))
  have g3 : 0 ≤ (4294967276 : Int) + ((-1) * a2 + 0) := hg _ (List.mem_cons_of_mem _ (List.mem_cons_of_mem _ (List.mem_cons_of_mem _ List.mem_cons_self)))
  have g4 : 0 ≤ (0 : Int) + (1 * a3 + 0) := hg _ (List.mem_cons_of_mem _ (List.mem_cons_of_mem _ (List.mem_cons_of_mem _ (List.mem_cons_of_mem _ List.mem_cons_self))))
  have g5 : 0 ≤ (4294967276 : Int) + ((-1) * a3 + 0) := hg _ (List.mem_cons_of_mem _ (List.mem_cons_of_mem _ (List.mem_cons_of_mem _ (List.mem_cons_of_mem _ (List.mem_cons_of_mem _ List.mem_cons_self)))))
  have g6 : 0 ≤ ((-1) : Int) + (1 * a3 + 0) := hg _ (List.mem_cons_of_mem _ (List.mem_cons_of_mem _ (List.mem_cons_of_mem _ (List.mem_cons_of_mem _ (List.mem_cons_of_mem _ (List.mem_cons_of_mem _ List.mem_cons_self))))))
  have g7 : 0 ≤ ((-3) : Int) + (1 * (zk_xe w 254 a5) + 0) := hg _ (List.mem_cons_of_mem _ (List.mem_cons_of_mem _ (List.mem_cons_of_mem _ (List.mem_cons_of_mem _ (List.mem_cons_of_mem _ (List.mem_cons_of_mem _ (List.mem_cons_of_mem _ List.mem_cons_self)))))))
  have g8 : 0 ≤ (3 : Int) + ((-1) * (zk_xe w 254 a5) + 0) := hg _ (List.mem_cons_of_mem _ (List.mem_cons_of_mem _ (List.mem_cons_of_mem _ (List.mem_cons_of_mem _ (List.mem_cons_of_mem _ (List.mem_cons_of_mem _ (List.mem_cons_of_mem _ (List.mem_cons_of_mem _ List.mem_cons_self))))))))
  have g9 : 0 ≤ ((-4) : Int) + (1 * (zk_xe w 2000178 a0) + (4 * (zk_xe w 2000071 a6) + 0)) := hg _ (List.mem_cons_of_mem _ (List.mem_cons_of_mem _ (List.mem_cons_of_mem _ (List.mem_cons_of_mem _ (List.mem_cons_of_mem _ (List.mem_cons_of_mem _ (List.mem_cons_of_mem _ (List.mem_cons_of_mem _ (List.mem_cons_of_mem _ List.mem_cons_self)))))))))
  have g10 : 0 ≤ (4 : Int) + ((-1) * (zk_xe w 2000178 a0) + (4 * (zk_xe w 2000071 a6) + 0)) := hg _ (List.mem_cons_of_mem _ (List.mem_cons_of_mem _ (List.mem_cons_of_mem _ (List.mem_cons_of_mem _ (List.mem_cons_of_mem _ (List.mem_cons_of_mem _ (List.mem_cons_of_mem _ (List.mem_cons_of_mem _ (List.mem_cons_of_mem _ (List.mem_cons_of_mem _ List.mem_cons_self))))))))))
  have r0 : 0 ≤ a0 := hr _ List.mem_cons_self
  have r1 : 0 ≤ a5 := hr _ (List.mem_cons_of_mem _ List.mem_cons_self)
  have r2 : 0 ≤ a6 := hr _ (List.mem_cons_of_mem _ (List.mem_cons_of_mem _ List.mem_cons_self))
  have hb : 0 ≤ zk_xe w 2000178 a4 ∧ zk_xe w 2000178 a4 ≤ 4 := by
    rw [(zc_178 (w := w) (j := a4) (a := a1) (e := a2) (b := (a3 + 1)) (by omega) (by omega) (by omega) (by omega) (by omega) (by omega) (by omega) )]
    exact zc_vb
  have hr : zk_xe w 2000071 a6 = 1 ∨ (zk_xe w 2000071 a6 = 0 ∧ zk_xe w 2000178 a4 = 1) := by
    rcases zs_71c (w := w) (j := a6) with ⟨hx, -⟩ | ⟨hx, -⟩
    · exact Or.inl hx
    · refine Or.inr ⟨hx, ?_⟩
      have hv := zc_u4 ((zc_178 (w := w) (j := a0) (a := a1) (e := a2) (b := a3) (by omega) (by omega) (by omega) (by omega) (by omega) (by omega) (by omega) ).symm.trans (show zk_xe w 2000178 a0 = 4 by omega))
      have kb : zh_e w 254 (a3) = zk_xe w 254 a5 := by rw [zk_xe_r (i := 254) (by decide)]; show zk_el w 254 (a3) = zk_el w 254 a5; rw [show a3 = a5 by omega]
      rw [(zc_178 (w := w) (j := a4) (a := a1) (e := a2) (b := (a3 + 1)) (by omega) (by omega) (by omega) (by omega) (by omega) (by omega) (by omega) ), hv, zc_mn (show 2 ≤ a3 + 1 by omega), show a3 + 1 - 1 = a3 by omega, kb, if_pos (show zk_xe w 254 a5 = 3 by omega)]
      exact zc_w1
  exact ⟨_, List.mem_cons_self, [zk_xe w 2000178 a4], rfl, (zx_bcons (by show (0 : Int) ≤ zk_xe w 2000178 a4 ∧ zk_xe w 2000178 a4 ≤ (4 : Int); omega) zx_bnil), (zx_cs1 (by show 0 ≤ ((-1) : Int) + (4 * (zk_xe w 2000071 a6) + (1 * (zk_xe w 2000178 a4) + 0)); omega) (zx_cs1 (by show 0 ≤ (1 : Int) + (4 * (zk_xe w 2000071 a6) + ((-1) * (zk_xe w 2000178 a4) + 0)); omega) zx_cs0)), (zx_eF1 (by show 0 ≤ (0 : Int) + (1 * a4 + 0); omega) (by show zk_xe w 2000178 ((0 : Int) + (1 * a4 + 0)) = (0 : Int) + (1 * (zk_xe w 2000178 a4) + 0); rw [show (0 : Int) + (1 * a4 + 0) = a4 by omega]; omega) zx_eF0), zx_k0⟩
def zx_D1184 : zx_L := zx_Lc [] 6 [(2000178, 0), (2000071, 5)] [] [((0, 0), [(0, 1, 0), (1, 0, 79228162514264337593543950336), (2, 0, 18446744073709551616), (3, 0, 4294967296)]), ((0, 4294967296), [(1, 0, 79228162514264337593543950336), (2, 0, 18446744073709551616), (3, 0, 4294967296), (4, 1, 0)]), ((0, 0), [(3, 1, 0)]), ((0, 0), [(5, 1, 0)])] [((0, 0), [(1, 1, 0)]), ((4294967276, 0), [(1, 0, 1)]), ((0, 0), [(2, 1, 0)]), ((4294967276, 0), [(2, 0, 1)]), ((0, 1), [(6, 1, 0), (7, 4, 0)]), ((1, 0), [(6, 0, 1), (7, 4, 0)])] [([(0, 4)], [((0, 1), [(7, 4, 0), (8, 1, 0)]), ((1, 0), [(7, 4, 0), (8, 0, 1)])], [(2000178, ((0, 0), [(4, 1, 0)]), ((0, 0), [(8, 1, 0)]))], [])]
theorem zx_D1184_ok {PT : Nat → zz_W → Prop} : zx_Lok 64 zHT PT zx_D1184 := by
  refine zx_Lc_ok (fun w hI hK ins hl hr he hg => ?_)
  obtain ⟨a0, a1, a2, a3, a4, a5, rfl⟩ := zx_i6 hl
  have e0 : (0 : Int) + (1 * a0 + ((-79228162514264337593543950336) * a1 + ((-18446744073709551616) * a2 + ((-4294967296) * a3 + 0)))) = 0 := he _ List.mem_cons_self
  have e1 : ((-4294967296) : Int) + ((-79228162514264337593543950336) * a1 + ((-18446744073709551616) * a2 + ((-4294967296) * a3 + (1 * a4 + 0)))) = 0 := he _ (List.mem_cons_of_mem _ List.mem_cons_self)
  have e2 : (0 : Int) + (1 * a3 + 0) = 0 := he _ (List.mem_cons_of_mem _ (List.mem_cons_of_mem _ List.mem_cons_self))
  have e3 : (0 : Int) + (1 * a5 + 0) = 0 := he _ (List.mem_cons_of_mem _ (List.mem_cons_of_mem _ (List.mem_cons_of_mem _ List.mem_cons_self)))
  have g0 : 0 ≤ (0 : Int) + (1 * a1 + 0) := hg _ List.mem_cons_self
  have g1 : 0 ≤ (4294967276 : Int) + ((-1) * a1 + 0) := hg _ (List.mem_cons_of_mem _ List.mem_cons_self)
  have g2 : 0 ≤ (0 : Int) + (1 * a2 + 0) := hg _ (List.mem_cons_of_mem _ (List.mem_cons_of_mem _ List.mem_cons_self))
  have g3 : 0 ≤ (4294967276 : Int) + ((-1) * a2 + 0) := hg _ (List.mem_cons_of_mem _ (List.mem_cons_of_mem _ (List.mem_cons_of_mem _ List.mem_cons_self)))
  have g4 : 0 ≤ ((-1) : Int) + (1 * (zk_xe w 2000178 a0) + (4 * (zk_xe w 2000071 a5) + 0)) := hg _ (List.mem_cons_of_mem _ (List.mem_cons_of_mem _ (List.mem_cons_of_mem _ (List.mem_cons_of_mem _ List.mem_cons_self))))
  have g5 : 0 ≤ (1 : Int) + ((-1) * (zk_xe w 2000178 a0) + (4 * (zk_xe w 2000071 a5) + 0)) := hg _ (List.mem_cons_of_mem _ (List.mem_cons_of_mem _ (List.mem_cons_of_mem _ (List.mem_cons_of_mem _ (List.mem_cons_of_mem _ List.mem_cons_self)))))
  have r0 : 0 ≤ a0 := hr _ List.mem_cons_self
  have r1 : 0 ≤ a5 := hr _ (List.mem_cons_of_mem _ List.mem_cons_self)
  have hb : 0 ≤ zk_xe w 2000178 a4 ∧ zk_xe w 2000178 a4 ≤ 4 := by
    rw [(zc_178 (w := w) (j := a4) (a := a1) (e := a2) (b := 1) (by omega) (by omega) (by omega) (by omega) (by omega) (by omega) (by omega) )]
    exact zc_vb
  have hr : zk_xe w 2000071 a5 = 1 ∨ (zk_xe w 2000071 a5 = 0 ∧ zk_xe w 2000178 a4 = 1) := by
    rcases zs_71c (w := w) (j := a5) with ⟨hx, -⟩ | ⟨hx, -⟩
    · exact Or.inl hx
    · refine Or.inr ⟨hx, ?_⟩
      have hv := zc_u1 ((zc_178 (w := w) (j := a0) (a := a1) (e := a2) (b := 0) (by omega) (by omega) (by omega) (by omega) (by omega) (by omega) (by omega) ).symm.trans (show zk_xe w 2000178 a0 = 1 by omega))
      rw [(zc_178 (w := w) (j := a4) (a := a1) (e := a2) (b := 1) (by omega) (by omega) (by omega) (by omega) (by omega) (by omega) (by omega) ), hv]
      exact zc_w1 (m := [])
  exact ⟨_, List.mem_cons_self, [zk_xe w 2000178 a4], rfl, (zx_bcons (by show (0 : Int) ≤ zk_xe w 2000178 a4 ∧ zk_xe w 2000178 a4 ≤ (4 : Int); omega) zx_bnil), (zx_cs1 (by show 0 ≤ ((-1) : Int) + (4 * (zk_xe w 2000071 a5) + (1 * (zk_xe w 2000178 a4) + 0)); omega) (zx_cs1 (by show 0 ≤ (1 : Int) + (4 * (zk_xe w 2000071 a5) + ((-1) * (zk_xe w 2000178 a4) + 0)); omega) zx_cs0)), (zx_eF1 (by show 0 ≤ (0 : Int) + (1 * a4 + 0); omega) (by show zk_xe w 2000178 ((0 : Int) + (1 * a4 + 0)) = (0 : Int) + (1 * (zk_xe w 2000178 a4) + 0); rw [show (0 : Int) + (1 * a4 + 0) = a4 by omega]; omega) zx_eF0), zx_k0⟩
def zx_E733 : zx_V := zx_Vc 207 [] 2 [(207, 0), (208, 1)] [((0, 0), [(0, 1, 0), (2, 0, 1)]), ((0, 1), [(1, 1, 0), (4, 0, 1)]), ((0, 0), [(2, 0, 8000), (3, 1, 0), (4, 0, 1)]), ((0, 1), [(5, 1, 0)])] [((0, 0), [(2, 1, 0)]), ((4294967276, 0), [(2, 0, 1)]), ((0, 0), [(4, 1, 0)])] [(2000179, ((0, 0), [(2, 1, 0)]), ((1, 0), []))]
theorem zx_E733_ok {PT : Nat → zz_W → Prop} : zx_Vok 64 zHT PT zx_E733 := by
  refine zx_Vc_ok (fun w w' j ins hI hI' h0 hw hK hl he hg => ?_)
  obtain ⟨a0, a1, rfl⟩ := zx_i2 hl
  have e0 : (0 : Int) + (1 * j + ((-1) * a0 + 0)) = 0 := he _ List.mem_cons_self
  have e1 : ((-1) : Int) + (1 * (zk_el w' 207 j) + ((-1) * (zk_xe w 207 a0) + 0)) = 0 := he _ (List.mem_cons_of_mem _ List.mem_cons_self)
  have e2 : (0 : Int) + ((-8000) * a0 + (1 * a1 + ((-1) * (zk_xe w 207 a0) + 0))) = 0 := he _ (List.mem_cons_of_mem _ (List.mem_cons_of_mem _ List.mem_cons_self))
  have e3 : ((-1) : Int) + (1 * (zk_xe w 208 a1) + 0) = 0 := he _ (List.mem_cons_of_mem _ (List.mem_cons_of_mem _ (List.mem_cons_of_mem _ List.mem_cons_self)))
  have g0 : 0 ≤ (0 : Int) + (1 * a0 + 0) := hg _ List.mem_cons_self
  have g1 : 0 ≤ (4294967276 : Int) + ((-1) * a0 + 0) := hg _ (List.mem_cons_of_mem _ List.mem_cons_self)
  have g2 : 0 ≤ (0 : Int) + (1 * (zk_xe w 207 a0) + 0) := hg _ (List.mem_cons_of_mem _ (List.mem_cons_of_mem _ List.mem_cons_self))
  have k1 : zh_e w 208 (8000 * a0 + zk_xe w 207 a0) = zk_xe w 208 a1 := by rw [zk_xe_r (i := 208) (by decide)]; show zk_el w 208 (8000 * a0 + zk_xe w 207 a0) = zk_el w 208 a1; rw [show 8000 * a0 + zk_xe w 207 a0 = a1 by omega]
  have kS : zh_e w' 207 a0 = zk_xe w 207 a0 + 1 := by
    show zk_el w' 207 a0 = _
    have q : zk_el w' 207 a0 = zk_el w' 207 j := by rw [show a0 = j by omega]
    omega
  have h : zk_xe w' 2000179 a0 = 1 := by
    rw [zc_179, kS, zh_e_g (hw.1 208 (by decide))]
    refine zh_b1 (Or.inr ?_)
    rw [show 8000 * a0 + (zk_xe w 207 a0 + 1) - 1 = 8000 * a0 + zk_xe w 207 a0 by omega, k1]
    omega
  exact (zx_eF1 (by show 0 ≤ (0 : Int) + (1 * a0 + 0); omega) (by show zk_xe w' 2000179 ((0 : Int) + (1 * a0 + 0)) = (1 : Int) + (0); rw [show (0 : Int) + (1 * a0 + 0) = a0 by omega]; exact h.trans (by omega)) zx_eF0)
def zx_E738 : zx_V := zx_Vc 208 [] 1 [(2000179, 0), (207, 0)] [((0, 0), [(0, 1, 0), (2, 0, 8000), (4, 0, 1)]), ((0, 1), [(3, 1, 0)])] [((0, 0), [(2, 1, 0)]), ((4294967276, 0), [(2, 0, 1)]), ((0, 0), [(4, 1, 0)])] [(2000179, ((0, 0), [(2, 1, 0)]), ((1, 0), []))]
theorem zx_E738_ok {PT : Nat → zz_W → Prop} : zx_Vok 64 zHT PT zx_E738 := by
  refine zx_Vc_ok (fun w w' j ins hI hI' h0 hw hK hl he hg => ?_)
  obtain ⟨a0, rfl⟩ := zx_i1 hl
  have e0 : (0 : Int) + (1 * j + ((-8000) * a0 + ((-1) * (zk_xe w 207 a0) + 0))) = 0 := he _ List.mem_cons_self
  have e1 : ((-1) : Int) + (1 * (zk_xe w 2000179 a0) + 0) = 0 := he _ (List.mem_cons_of_mem _ List.mem_cons_self)
  have g0 : 0 ≤ (0 : Int) + (1 * a0 + 0) := hg _ List.mem_cons_self
  have g1 : 0 ≤ (4294967276 : Int) + ((-1) * a0 + 0) := hg _ (List.mem_cons_of_mem _ List.mem_cons_self)
  have g2 : 0 ≤ (0 : Int) + (1 * (zk_xe w 207 a0) + 0) := hg _ (List.mem_cons_of_mem _ (List.mem_cons_of_mem _ List.mem_cons_self))
  have k1 : zh_e w 207 (a0) = zk_xe w 207 a0 := by rw [zk_xe_r (i := 207) (by decide)]; show zk_el w 207 (a0) = zk_el w 207 a0; rw [show a0 = a0 by omega]
  have hl := zh_b1' ((zc_179 (w := w) (j := a0)).symm.trans (show zk_xe w 2000179 a0 = 1 by omega))
  have h : zk_xe w' 2000179 a0 = 1 := by
    rw [zc_179, zh_e_g (hw.1 207 (by decide))]
    by_cases c : zh_e w 207 a0 ≤ 0
    · exact zh_b1 (Or.inl c)
    · refine zh_b1 (Or.inr ?_)
      have z := hl.resolve_left c
      exact Eq.trans (hw.2 (8000 * a0 + zh_e w 207 a0 - 1) (by omega) (by omega)) z
  exact (zx_eF1 (by show 0 ≤ (0 : Int) + (1 * a0 + 0); omega) (by show zk_xe w' 2000179 ((0 : Int) + (1 * a0 + 0)) = (1 : Int) + (0); rw [show (0 : Int) + (1 * a0 + 0) = a0 by omega]; exact h.trans (by omega)) zx_eF0)
def zx_E734 : zx_V := zx_Vc 207 [] 1 [] [((0, 0), [(0, 1, 0), (2, 0, 1)]), ((0, 0), [(1, 1, 0)])] [((0, 0), [(2, 1, 0)]), ((4294967276, 0), [(2, 0, 1)])] [(2000179, ((0, 0), [(2, 1, 0)]), ((1, 0), []))]
theorem zx_E734_ok {PT : Nat → zz_W → Prop} : zx_Vok 64 zHT PT zx_E734 := by
  refine zx_Vc_ok (fun w w' j ins hI hI' h0 hw hK hl he hg => ?_)
  obtain ⟨a0, rfl⟩ := zx_i1 hl
  have e0 : (0 : Int) + (1 * j + ((-1) * a0 + 0)) = 0 := he _ List.mem_cons_self
  have e1 : (0 : Int) + (1 * (zk_el w' 207 j) + 0) = 0 := he _ (List.mem_cons_of_mem _ List.mem_cons_self)
  have g0 : 0 ≤ (0 : Int) + (1 * a0 + 0) := hg _ List.mem_cons_self
  have g1 : 0 ≤ (4294967276 : Int) + ((-1) * a0 + 0) := hg _ (List.mem_cons_of_mem _ List.mem_cons_self)
  have kS : zh_e w' 207 a0 = 0 := by
    show zk_el w' 207 a0 = _
    have q : zk_el w' 207 a0 = zk_el w' 207 j := by rw [show a0 = j by omega]
    omega
  have h : zk_xe w' 2000179 a0 = 1 := by
    rw [zc_179, kS]
    exact zh_b1 (Or.inl (by omega))
  exact (zx_eF1 (by show 0 ≤ (0 : Int) + (1 * a0 + 0); omega) (by show zk_xe w' 2000179 ((0 : Int) + (1 * a0 + 0)) = (1 : Int) + (0); rw [show (0 : Int) + (1 * a0 + 0) = a0 by omega]; exact h.trans (by omega)) zx_eF0)
def zx_D1160 : zx_L := zx_Lc [] 6 [(2000178, 0), (254, 4), (2000071, 5)] [] [((0, 0), [(0, 1, 0), (1, 0, 79228162514264337593543950336), (2, 0, 18446744073709551616), (3, 0, 4294967296)]), ((1, 0), [(3, 0, 1), (4, 1, 0)]), ((0, 0), [(5, 1, 0)])] [((0, 0), [(1, 1, 0)]), ((4294967276, 0), [(1, 0, 1)]), ((0, 0), [(2, 1, 0)]), ((4294967276, 0), [(2, 0, 1)]), ((0, 0), [(3, 1, 0)]), ((4294967276, 0), [(3, 0, 1)]), ((0, 2), [(3, 1, 0)]), ((100, 0), [(3, 0, 1)]), ((0, 1), [(7, 1, 0)]), ((2, 0), [(7, 0, 1)]), ((0, 1), [(6, 1, 0), (8, 4, 0)]), ((1, 0), [(6, 0, 1), (8, 4, 0)])] [([(0, 4), (0, 100)], [((0, 2), [(8, 4, 0), (9, 1, 0)]), ((2, 0), [(8, 4, 0), (9, 0, 1)]), ((1, 0), [(3, 0, 1), (10, 1, 0)]), ((0, 1), [(3, 1, 0), (10, 0, 1)])], [(2000178, ((0, 0), [(1, 79228162514264337593543950336, 0), (2, 18446744073709551616, 0), (10, 4294967296, 0)]), ((0, 0), [(9, 1, 0)]))], [])]
theorem zx_D1160_ok {PT : Nat → zz_W → Prop} : zx_Lok 64 zHT PT zx_D1160 := by
  refine zx_Lc_ok (fun w hI hK ins hl hr he hg => ?_)
  obtain ⟨a0, a1, a2, a3, a4, a5, rfl⟩ := zx_i6 hl
  have e0 : (0 : Int) + (1 * a0 + ((-79228162514264337593543950336) * a1 + ((-18446744073709551616) * a2 + ((-4294967296) * a3 + 0)))) = 0 := he _ List.mem_cons_self
  have e1 : (1 : Int) + ((-1) * a3 + (1 * a4 + 0)) = 0 := he _ (List.mem_cons_of_mem _ List.mem_cons_self)
  have e2 : (0 : Int) + (1 * a5 + 0) = 0 := he _ (List.mem_cons_of_mem _ (List.mem_cons_of_mem _ List.mem_cons_self))
  have g0 : 0 ≤ (0 : Int) + (1 * a1 + 0) := hg _ List.mem_cons_self
  have g1 : 0 ≤ (4294967276 : Int) + ((-1) * a1 + 0) := hg _ (List.mem_cons_of_mem _ List.mem_cons_self)
  have g2 : 0 ≤ (0 : Int) + (1 * a2 + 0) := hg _ (List.mem_cons_of_mem _ (List.mem_cons_of_mem _ List.mem_cons_self))
  have g3 : 0 ≤ (4294967276 : Int) + ((-1) * a2 + 0) := hg _ (List.mem_cons_of_mem _ (List.mem_cons_of_mem _ (List.mem_cons_of_mem _ List.mem_cons_self)))
  have g4 : 0 ≤ (0 : Int) + (1 * a3 + 0) := hg _ (List.mem_cons_of_mem _ (List.mem_cons_of_mem _ (List.mem_cons_of_mem _ (List.mem_cons_of_mem _ List.mem_cons_self))))
  have g5 : 0 ≤ (4294967276 : Int) + ((-1) * a3 + 0) := hg _ (List.mem_cons_of_mem _ (List.mem_cons_of_mem _ (List.mem_cons_of_mem _ (List.mem_cons_of_mem _ (List.mem_cons_of_mem _ List.mem_cons_self)))))
  have g6 : 0 ≤ ((-2) : Int) + (1 * a3 + 0) := hg _ (List.mem_cons_of_mem _ (List.mem_cons_of_mem _ (List.mem_cons_of_mem _ (List.mem_cons_of_mem _ (List.mem_cons_of_mem _ (List.mem_cons_of_mem _ List.mem_cons_self))))))
  have g7 : 0 ≤ (100 : Int) + ((-1) * a3 + 0) := hg _ (List.mem_cons_of_mem _ (List.mem_cons_of_mem _ (List.mem_cons_of_mem _ (List.mem_cons_of_mem _ (List.mem_cons_of_mem _ (List.mem_cons_of_mem _ (List.mem_cons_of_mem _ List.mem_cons_self)))))))
  have g8 : 0 ≤ ((-1) : Int) + (1 * (zk_xe w 254 a4) + 0) := hg _ (List.mem_cons_of_mem _ (List.mem_cons_of_mem _ (List.mem_cons_of_mem _ (List.mem_cons_of_mem _ (List.mem_cons_of_mem _ (List.mem_cons_of_mem _ (List.mem_cons_of_mem _ (List.mem_cons_of_mem _ List.mem_cons_self))))))))
  have g9 : 0 ≤ (2 : Int) + ((-1) * (zk_xe w 254 a4) + 0) := hg _ (List.mem_cons_of_mem _ (List.mem_cons_of_mem _ (List.mem_cons_of_mem _ (List.mem_cons_of_mem _ (List.mem_cons_of_mem _ (List.mem_cons_of_mem _ (List.mem_cons_of_mem _ (List.mem_cons_of_mem _ (List.mem_cons_of_mem _ List.mem_cons_self)))))))))
  have g10 : 0 ≤ ((-1) : Int) + (1 * (zk_xe w 2000178 a0) + (4 * (zk_xe w 2000071 a5) + 0)) := hg _ (List.mem_cons_of_mem _ (List.mem_cons_of_mem _ (List.mem_cons_of_mem _ (List.mem_cons_of_mem _ (List.mem_cons_of_mem _ (List.mem_cons_of_mem _ (List.mem_cons_of_mem _ (List.mem_cons_of_mem _ (List.mem_cons_of_mem _ (List.mem_cons_of_mem _ List.mem_cons_self))))))))))
  have g11 : 0 ≤ (1 : Int) + ((-1) * (zk_xe w 2000178 a0) + (4 * (zk_xe w 2000071 a5) + 0)) := hg _ (List.mem_cons_of_mem _ (List.mem_cons_of_mem _ (List.mem_cons_of_mem _ (List.mem_cons_of_mem _ (List.mem_cons_of_mem _ (List.mem_cons_of_mem _ (List.mem_cons_of_mem _ (List.mem_cons_of_mem _ (List.mem_cons_of_mem _ (List.mem_cons_of_mem _ (List.mem_cons_of_mem _ List.mem_cons_self)))))))))))
  have r0 : 0 ≤ a0 := hr _ List.mem_cons_self
  have r1 : 0 ≤ a4 := hr _ (List.mem_cons_of_mem _ List.mem_cons_self)
  have r2 : 0 ≤ a5 := hr _ (List.mem_cons_of_mem _ (List.mem_cons_of_mem _ List.mem_cons_self))
  have hb : 0 ≤ zk_xe w 2000178 (4294967296 * (a3 - 1) + 18446744073709551616 * a2 + 79228162514264337593543950336 * a1) ∧ zk_xe w 2000178 (4294967296 * (a3 - 1) + 18446744073709551616 * a2 + 79228162514264337593543950336 * a1) ≤ 4 := by
    rw [(zc_178 (w := w) (j := (4294967296 * (a3 - 1) + 18446744073709551616 * a2 + 79228162514264337593543950336 * a1)) (a := a1) (e := a2) (b := (a3 - 1)) (by omega) (by omega) (by omega) (by omega) (by omega) (by omega) (by omega) )]
    exact zc_vb
  have hr : zk_xe w 2000071 a5 = 1 ∨ (zk_xe w 2000071 a5 = 0 ∧ zk_xe w 2000178 (4294967296 * (a3 - 1) + 18446744073709551616 * a2 + 79228162514264337593543950336 * a1) = 2) := by
    rcases zs_71c (w := w) (j := a5) with ⟨hx, -⟩ | ⟨hx, -⟩
    · exact Or.inl hx
    · refine Or.inr ⟨hx, ?_⟩
      have hv := zc_u1 ((zc_178 (w := w) (j := a0) (a := a1) (e := a2) (b := a3) (by omega) (by omega) (by omega) (by omega) (by omega) (by omega) (by omega) ).symm.trans (show zk_xe w 2000178 a0 = 1 by omega))
      have k0 : zh_e w 254 (a3 - 1) = zk_xe w 254 a4 := by rw [zk_xe_r (i := 254) (by decide)]; show zk_el w 254 (a3 - 1) = zk_el w 254 a4; rw [show a3 - 1 = a4 by omega]
      rw [zc_mn (show 2 ≤ a3 by omega), k0, if_neg (show ¬ (zk_xe w 254 a4 = 3) by omega)] at hv
      rw [(zc_178 (w := w) (j := (4294967296 * (a3 - 1) + 18446744073709551616 * a2 + 79228162514264337593543950336 * a1)) (a := a1) (e := a2) (b := (a3 - 1)) (by omega) (by omega) (by omega) (by omega) (by omega) (by omega) (by omega) ), hv]
      exact zc_w2
  generalize hq : zk_xe w 2000178 (4294967296 * (a3 - 1) + 18446744073709551616 * a2 + 79228162514264337593543950336 * a1) = q at hb hr
  exact ⟨_, List.mem_cons_self, [q, a3 - 1], rfl, (zx_bcons (by show (0 : Int) ≤ q ∧ q ≤ (4 : Int); omega) (zx_bcons (by show (0 : Int) ≤ a3 - 1 ∧ a3 - 1 ≤ (100 : Int); omega) zx_bnil)), (zx_cs1 (by show 0 ≤ ((-2) : Int) + (4 * (zk_xe w 2000071 a5) + (1 * (q) + 0)); omega) (zx_cs1 (by show 0 ≤ (2 : Int) + (4 * (zk_xe w 2000071 a5) + ((-1) * (q) + 0)); omega) (zx_cs1 (by show 0 ≤ (1 : Int) + ((-1) * a3 + (1 * (a3 - 1) + 0)); omega) (zx_cs1 (by show 0 ≤ ((-1) : Int) + (1 * a3 + ((-1) * (a3 - 1) + 0)); omega) zx_cs0)))), (zx_eF1 (by show 0 ≤ (0 : Int) + (79228162514264337593543950336 * a1 + (18446744073709551616 * a2 + (4294967296 * (a3 - 1) + 0))); omega) (by show zk_xe w 2000178 ((0 : Int) + (79228162514264337593543950336 * a1 + (18446744073709551616 * a2 + (4294967296 * (a3 - 1) + 0)))) = (0 : Int) + (1 * (q) + 0); rw [show (0 : Int) + (79228162514264337593543950336 * a1 + (18446744073709551616 * a2 + (4294967296 * (a3 - 1) + 0))) = (4294967296 * (a3 - 1) + 18446744073709551616 * a2 + 79228162514264337593543950336 * a1) by omega]; rw [hq]; omega) zx_eF0), zx_k0⟩
def zx_D1161 : zx_L := zx_Lc [] 6 [(2000178, 0), (254, 4), (2000071, 5)] [] [((0, 0), [(0, 1, 0), (1, 0, 79228162514264337593543950336), (2, 0, 18446744073709551616), (3, 0, 4294967296)]), ((1, 0), [(3, 0, 1), (4, 1, 0)]), ((0, 0), [(5, 1, 0)])] [((0, 0), [(1, 1, 0)]), ((4294967276, 0), [(1, 0, 1)]), ((0, 0), [(2, 1, 0)]), ((4294967276, 0), [(2, 0, 1)]), ((0, 0), [(3, 1, 0)]), ((4294967276, 0), [(3, 0, 1)]), ((0, 2), [(3, 1, 0)]), ((100, 0), [(3, 0, 1)]), ((0, 3), [(7, 1, 0)]), ((3, 0), [(7, 0, 1)]), ((0, 1), [(6, 1, 0), (8, 4, 0)]), ((1, 0), [(6, 0, 1), (8, 4, 0)])] [([(0, 4), (0, 100)], [((0, 4), [(8, 4, 0), (9, 1, 0)]), ((4, 0), [(8, 4, 0), (9, 0, 1)]), ((1, 0), [(3, 0, 1), (10, 1, 0)]), ((0, 1), [(3, 1, 0), (10, 0, 1)])], [(2000178, ((0, 0), [(1, 79228162514264337593543950336, 0), (2, 18446744073709551616, 0), (10, 4294967296, 0)]), ((0, 0), [(9, 1, 0)]))], [])]
theorem zx_D1161_ok {PT : Nat → zz_W → Prop} : zx_Lok 64 zHT PT zx_D1161 := by
  refine zx_Lc_ok (fun w hI hK ins hl hr he hg => ?_)
  obtain ⟨a0, a1, a2, a3, a4, a5, rfl⟩ := zx_i6 hl
  have e0 : (0 : Int) + (1 * a0 + ((-79228162514264337593543950336) * a1 + ((-18446744073709551616) * a2 + ((-4294967296) * a3 + 0)))) = 0 := he _ List.mem_cons_self
  have e1 : (1 : Int) + ((-1) * a3 + (1 * a4 + 0)) = 0 := he _ (List.mem_cons_of_mem _ List.mem_cons_self)
  have e2 : (0 : Int) + (1 * a5 + 0) = 0 := he _ (List.mem_cons_of_mem _ (List.mem_cons_of_mem _ List.mem_cons_self))
  have g0 : 0 ≤ (0 : Int) + (1 * a1 + 0) := hg _ List.mem_cons_self
  have g1 : 0 ≤ (4294967276 : Int) + ((-1) * a1 + 0) := hg _ (List.mem_cons_of_mem _ List.mem_cons_self)
  have g2 : 0 ≤ (0 : Int) + (1 * a2 + 0) := hg _ (List.mem_cons_of_mem _ (List.mem_cons_of_mem _ List.mem_cons_self))
  have g3 : 0 ≤ (4294967276 : Int) + ((-1) * a2 + 0) := hg _ (List.mem_cons_of_mem _ (List.mem_cons_of_mem _ (List.mem_cons_of_mem _ List.mem_cons_self)))
  have g4 : 0 ≤ (0 : Int) + (1 * a3 + 0) := hg _ (List.mem_cons_of_mem _ (List.mem_cons_of_mem _ (List.mem_cons_of_mem _ (List.mem_cons_of_mem _ List.mem_cons_self))))
  have g5 : 0 ≤ (4294967276 : Int) + ((-1) * a3 + 0) := hg _ (List.mem_cons_of_mem _ (List.mem_cons_of_mem _ (List.mem_cons_of_mem _ (List.mem_cons_of_mem _ (List.mem_cons_of_mem _ List.mem_cons_self)))))
  have g6 : 0 ≤ ((-2) : Int) + (1 * a3 + 0) := hg _ (List.mem_cons_of_mem _ (List.mem_cons_of_mem _ (List.mem_cons_of_mem _ (List.mem_cons_of_mem _ (List.mem_cons_of_mem _ (List.mem_cons_of_mem _ List.mem_cons_self))))))
  have g7 : 0 ≤ (100 : Int) + ((-1) * a3 + 0) := hg _ (List.mem_cons_of_mem _ (List.mem_cons_of_mem _ (List.mem_cons_of_mem _ (List.mem_cons_of_mem _ (List.mem_cons_of_mem _ (List.mem_cons_of_mem _ (List.mem_cons_of_mem _ List.mem_cons_self)))))))
  have g8 : 0 ≤ ((-3) : Int) + (1 * (zk_xe w 254 a4) + 0) := hg _ (List.mem_cons_of_mem _ (List.mem_cons_of_mem _ (List.mem_cons_of_mem _ (List.mem_cons_of_mem _ (List.mem_cons_of_mem _ (List.mem_cons_of_mem _ (List.mem_cons_of_mem _ (List.mem_cons_of_mem _ List.mem_cons_self))))))))
  have g9 : 0 ≤ (3 : Int) + ((-1) * (zk_xe w 254 a4) + 0) := hg _ (List.mem_cons_of_mem _ (List.mem_cons_of_mem _ (List.mem_cons_of_mem _ (List.mem_cons_of_mem _ (List.mem_cons_of_mem _ (List.mem_cons_of_mem _ (List.mem_cons_of_mem _ (List.mem_cons_of_mem _ (List.mem_cons_of_mem _ List.mem_cons_self)))))))))
  have g10 : 0 ≤ ((-1) : Int) + (1 * (zk_xe w 2000178 a0) + (4 * (zk_xe w 2000071 a5) + 0)) := hg _ (List.mem_cons_of_mem _ (List.mem_cons_of_mem _ (List.mem_cons_of_mem _ (List.mem_cons_of_mem _ (List.mem_cons_of_mem _ (List.mem_cons_of_mem _ (List.mem_cons_of_mem _ (List.mem_cons_of_mem _ (List.mem_cons_of_mem _ (List.mem_cons_of_mem _ List.mem_cons_self))))))))))
  have g11 : 0 ≤ (1 : Int) + ((-1) * (zk_xe w 2000178 a0) + (4 * (zk_xe w 2000071 a5) + 0)) := hg _ (List.mem_cons_of_mem _ (List.mem_cons_of_mem _ (List.mem_cons_of_mem _ (List.mem_cons_of_mem _ (List.mem_cons_of_mem _ (List.mem_cons_of_mem _ (List.mem_cons_of_mem _ (List.mem_cons_of_mem _ (List.mem_cons_of_mem _ (List.mem_cons_of_mem _ (List.mem_cons_of_mem _ List.mem_cons_self)))))))))))
  have r0 : 0 ≤ a0 := hr _ List.mem_cons_self
  have r1 : 0 ≤ a4 := hr _ (List.mem_cons_of_mem _ List.mem_cons_self)
  have r2 : 0 ≤ a5 := hr _ (List.mem_cons_of_mem _ (List.mem_cons_of_mem _ List.mem_cons_self))
  have hb : 0 ≤ zk_xe w 2000178 (4294967296 * (a3 - 1) + 18446744073709551616 * a2 + 79228162514264337593543950336 * a1) ∧ zk_xe w 2000178 (4294967296 * (a3 - 1) + 18446744073709551616 * a2 + 79228162514264337593543950336 * a1) ≤ 4 := by
    rw [(zc_178 (w := w) (j := (4294967296 * (a3 - 1) + 18446744073709551616 * a2 + 79228162514264337593543950336 * a1)) (a := a1) (e := a2) (b := (a3 - 1)) (by omega) (by omega) (by omega) (by omega) (by omega) (by omega) (by omega) )]
    exact zc_vb
  have hr : zk_xe w 2000071 a5 = 1 ∨ (zk_xe w 2000071 a5 = 0 ∧ zk_xe w 2000178 (4294967296 * (a3 - 1) + 18446744073709551616 * a2 + 79228162514264337593543950336 * a1) = 4) := by
    rcases zs_71c (w := w) (j := a5) with ⟨hx, -⟩ | ⟨hx, -⟩
    · exact Or.inl hx
    · refine Or.inr ⟨hx, ?_⟩
      have hv := zc_u1 ((zc_178 (w := w) (j := a0) (a := a1) (e := a2) (b := a3) (by omega) (by omega) (by omega) (by omega) (by omega) (by omega) (by omega) ).symm.trans (show zk_xe w 2000178 a0 = 1 by omega))
      have k0 : zh_e w 254 (a3 - 1) = zk_xe w 254 a4 := by rw [zk_xe_r (i := 254) (by decide)]; show zk_el w 254 (a3 - 1) = zk_el w 254 a4; rw [show a3 - 1 = a4 by omega]
      rw [zc_mn (show 2 ≤ a3 by omega), k0, if_pos (show zk_xe w 254 a4 = 3 by omega)] at hv
      rw [(zc_178 (w := w) (j := (4294967296 * (a3 - 1) + 18446744073709551616 * a2 + 79228162514264337593543950336 * a1)) (a := a1) (e := a2) (b := (a3 - 1)) (by omega) (by omega) (by omega) (by omega) (by omega) (by omega) (by omega) ), hv]
      exact zc_w4
  generalize hq : zk_xe w 2000178 (4294967296 * (a3 - 1) + 18446744073709551616 * a2 + 79228162514264337593543950336 * a1) = q at hb hr
  exact ⟨_, List.mem_cons_self, [q, a3 - 1], rfl, (zx_bcons (by show (0 : Int) ≤ q ∧ q ≤ (4 : Int); omega) (zx_bcons (by show (0 : Int) ≤ a3 - 1 ∧ a3 - 1 ≤ (100 : Int); omega) zx_bnil)), (zx_cs1 (by show 0 ≤ ((-4) : Int) + (4 * (zk_xe w 2000071 a5) + (1 * (q) + 0)); omega) (zx_cs1 (by show 0 ≤ (4 : Int) + (4 * (zk_xe w 2000071 a5) + ((-1) * (q) + 0)); omega) (zx_cs1 (by show 0 ≤ (1 : Int) + ((-1) * a3 + (1 * (a3 - 1) + 0)); omega) (zx_cs1 (by show 0 ≤ ((-1) : Int) + (1 * a3 + ((-1) * (a3 - 1) + 0)); omega) zx_cs0)))), (zx_eF1 (by show 0 ≤ (0 : Int) + (79228162514264337593543950336 * a1 + (18446744073709551616 * a2 + (4294967296 * (a3 - 1) + 0))); omega) (by show zk_xe w 2000178 ((0 : Int) + (79228162514264337593543950336 * a1 + (18446744073709551616 * a2 + (4294967296 * (a3 - 1) + 0)))) = (0 : Int) + (1 * (q) + 0); rw [show (0 : Int) + (79228162514264337593543950336 * a1 + (18446744073709551616 * a2 + (4294967296 * (a3 - 1) + 0))) = (4294967296 * (a3 - 1) + 18446744073709551616 * a2 + 79228162514264337593543950336 * a1) by omega]; rw [hq]; omega) zx_eF0), zx_k0⟩
def zx_D1162 : zx_L := zx_Lc [] 5 [(2000178, 0), (2000071, 4)] [] [((0, 0), [(0, 1, 0), (1, 0, 79228162514264337593543950336), (2, 0, 18446744073709551616), (3, 0, 4294967296)]), ((0, 0), [(4, 1, 0)])] [((0, 0), [(1, 1, 0)]), ((4294967276, 0), [(1, 0, 1)]), ((0, 0), [(2, 1, 0)]), ((4294967276, 0), [(2, 0, 1)]), ((0, 0), [(3, 1, 0)]), ((4294967276, 0), [(3, 0, 1)]), ((1, 0), [(3, 0, 1)]), ((0, 1), [(3, 1, 0)]), ((0, 1), [(5, 1, 0), (6, 4, 0)]), ((1, 0), [(5, 0, 1), (6, 4, 0)])] [([(0, 4), (0, 100)], [((0, 1), [(6, 4, 0), (7, 1, 0)]), ((1, 0), [(6, 4, 0), (7, 0, 1)]), ((1, 0), [(3, 0, 1), (8, 1, 0)]), ((0, 1), [(3, 1, 0), (8, 0, 1)])], [(2000178, ((0, 0), [(1, 79228162514264337593543950336, 0), (2, 18446744073709551616, 0), (8, 4294967296, 0)]), ((0, 0), [(7, 1, 0)]))], [])]
theorem zx_D1162_ok {PT : Nat → zz_W → Prop} : zx_Lok 64 zHT PT zx_D1162 := by
  refine zx_Lc_ok (fun w hI hK ins hl hr he hg => ?_)
  obtain ⟨a0, a1, a2, a3, a4, rfl⟩ := zx_i5 hl
  have e0 : (0 : Int) + (1 * a0 + ((-79228162514264337593543950336) * a1 + ((-18446744073709551616) * a2 + ((-4294967296) * a3 + 0)))) = 0 := he _ List.mem_cons_self
  have e1 : (0 : Int) + (1 * a4 + 0) = 0 := he _ (List.mem_cons_of_mem _ List.mem_cons_self)
  have g0 : 0 ≤ (0 : Int) + (1 * a1 + 0) := hg _ List.mem_cons_self
  have g1 : 0 ≤ (4294967276 : Int) + ((-1) * a1 + 0) := hg _ (List.mem_cons_of_mem _ List.mem_cons_self)
  have g2 : 0 ≤ (0 : Int) + (1 * a2 + 0) := hg _ (List.mem_cons_of_mem _ (List.mem_cons_of_mem _ List.mem_cons_self))
  have g3 : 0 ≤ (4294967276 : Int) + ((-1) * a2 + 0) := hg _ (List.mem_cons_of_mem _ (List.mem_cons_of_mem _ (List.mem_cons_of_mem _ List.mem_cons_self)))
  have g4 : 0 ≤ (0 : Int) + (1 * a3 + 0) := hg _ (List.mem_cons_of_mem _ (List.mem_cons_of_mem _ (List.mem_cons_of_mem _ (List.mem_cons_of_mem _ List.mem_cons_self))))
  have g5 : 0 ≤ (4294967276 : Int) + ((-1) * a3 + 0) := hg _ (List.mem_cons_of_mem _ (List.mem_cons_of_mem _ (List.mem_cons_of_mem _ (List.mem_cons_of_mem _ (List.mem_cons_of_mem _ List.mem_cons_self)))))
  have g6 : 0 ≤ (1 : Int) + ((-1) * a3 + 0) := hg _ (List.mem_cons_of_mem _ (List.mem_cons_of_mem _ (List.mem_cons_of_mem _ (List.mem_cons_of_mem _ (List.mem_cons_of_mem _ (List.mem_cons_of_mem _ List.mem_cons_self))))))
  have g7 : 0 ≤ ((-1) : Int) + (1 * a3 + 0) := hg _ (List.mem_cons_of_mem _ (List.mem_cons_of_mem _ (List.mem_cons_of_mem _ (List.mem_cons_of_mem _ (List.mem_cons_of_mem _ (List.mem_cons_of_mem _ (List.mem_cons_of_mem _ List.mem_cons_self)))))))
  have g8 : 0 ≤ ((-1) : Int) + (1 * (zk_xe w 2000178 a0) + (4 * (zk_xe w 2000071 a4) + 0)) := hg _ (List.mem_cons_of_mem _ (List.mem_cons_of_mem _ (List.mem_cons_of_mem _ (List.mem_cons_of_mem _ (List.mem_cons_of_mem _ (List.mem_cons_of_mem _ (List.mem_cons_of_mem _ (List.mem_cons_of_mem _ List.mem_cons_self))))))))
  have g9 : 0 ≤ (1 : Int) + ((-1) * (zk_xe w 2000178 a0) + (4 * (zk_xe w 2000071 a4) + 0)) := hg _ (List.mem_cons_of_mem _ (List.mem_cons_of_mem _ (List.mem_cons_of_mem _ (List.mem_cons_of_mem _ (List.mem_cons_of_mem _ (List.mem_cons_of_mem _ (List.mem_cons_of_mem _ (List.mem_cons_of_mem _ (List.mem_cons_of_mem _ List.mem_cons_self)))))))))
  have r0 : 0 ≤ a0 := hr _ List.mem_cons_self
  have r1 : 0 ≤ a4 := hr _ (List.mem_cons_of_mem _ List.mem_cons_self)
  have hb : 0 ≤ zk_xe w 2000178 (4294967296 * (a3 - 1) + 18446744073709551616 * a2 + 79228162514264337593543950336 * a1) ∧ zk_xe w 2000178 (4294967296 * (a3 - 1) + 18446744073709551616 * a2 + 79228162514264337593543950336 * a1) ≤ 4 := by
    rw [(zc_178 (w := w) (j := (4294967296 * (a3 - 1) + 18446744073709551616 * a2 + 79228162514264337593543950336 * a1)) (a := a1) (e := a2) (b := (a3 - 1)) (by omega) (by omega) (by omega) (by omega) (by omega) (by omega) (by omega) )]
    exact zc_vb
  have hr : zk_xe w 2000071 a4 = 1 ∨ (zk_xe w 2000071 a4 = 0 ∧ zk_xe w 2000178 (4294967296 * (a3 - 1) + 18446744073709551616 * a2 + 79228162514264337593543950336 * a1) = 1) := by
    rcases zs_71c (w := w) (j := a4) with ⟨hx, -⟩ | ⟨hx, -⟩
    · exact Or.inl hx
    · refine Or.inr ⟨hx, ?_⟩
      have hv := zc_u1 ((zc_178 (w := w) (j := a0) (a := a1) (e := a2) (b := a3) (by omega) (by omega) (by omega) (by omega) (by omega) (by omega) (by omega) ).symm.trans (show zk_xe w 2000178 a0 = 1 by omega))
      rw [show a3 = 1 by omega] at hv
      rw [(zc_178 (w := w) (j := (4294967296 * (a3 - 1) + 18446744073709551616 * a2 + 79228162514264337593543950336 * a1)) (a := a1) (e := a2) (b := (a3 - 1)) (by omega) (by omega) (by omega) (by omega) (by omega) (by omega) (by omega) ), hv, show a3 - 1 = 0 by omega]
      exact zc_w1 (m := [])
  generalize hq : zk_xe w 2000178 (4294967296 * (a3 - 1) + 18446744073709551616 * a2 + 79228162514264337593543950336 * a1) = q at hb hr
  exact ⟨_, List.mem_cons_self, [q, a3 - 1], rfl, (zx_bcons (by show (0 : Int) ≤ q ∧ q ≤ (4 : Int); omega) (zx_bcons (by show (0 : Int) ≤ a3 - 1 ∧ a3 - 1 ≤ (100 : Int); omega) zx_bnil)), (zx_cs1 (by show 0 ≤ ((-1) : Int) + (4 * (zk_xe w 2000071 a4) + (1 * (q) + 0)); omega) (zx_cs1 (by show 0 ≤ (1 : Int) + (4 * (zk_xe w 2000071 a4) + ((-1) * (q) + 0)); omega) (zx_cs1 (by show 0 ≤ (1 : Int) + ((-1) * a3 + (1 * (a3 - 1) + 0)); omega) (zx_cs1 (by show 0 ≤ ((-1) : Int) + (1 * a3 + ((-1) * (a3 - 1) + 0)); omega) zx_cs0)))), (zx_eF1 (by show 0 ≤ (0 : Int) + (79228162514264337593543950336 * a1 + (18446744073709551616 * a2 + (4294967296 * (a3 - 1) + 0))); omega) (by show zk_xe w 2000178 ((0 : Int) + (79228162514264337593543950336 * a1 + (18446744073709551616 * a2 + (4294967296 * (a3 - 1) + 0)))) = (0 : Int) + (1 * (q) + 0); rw [show (0 : Int) + (79228162514264337593543950336 * a1 + (18446744073709551616 * a2 + (4294967296 * (a3 - 1) + 0))) = (4294967296 * (a3 - 1) + 18446744073709551616 * a2 + 79228162514264337593543950336 * a1) by omega]; rw [hq]; omega) zx_eF0), zx_k0⟩
def zx_D1187 : zx_L := zx_Lc [] 6 [(2000178, 0), (2000071, 5)] [] [((0, 0), [(0, 1, 0), (1, 0, 79228162514264337593543950336), (2, 0, 18446744073709551616), (3, 0, 4294967296)]), ((0, 0), [(1, 0, 79228162514264337593543950336), (2, 0, 18446744073709551616), (4, 1, 0)]), ((0, 0), [(5, 1, 0)])] [((0, 0), [(1, 1, 0)]), ((4294967276, 0), [(1, 0, 1)]), ((0, 0), [(2, 1, 0)]), ((4294967276, 0), [(2, 0, 1)]), ((0, 0), [(3, 1, 0)]), ((4294967276, 0), [(3, 0, 1)]), ((1, 0), [(3, 0, 1)]), ((0, 1), [(6, 1, 0), (7, 4, 0)]), ((1, 0), [(6, 0, 1), (7, 4, 0)])] [([(0, 4)], [((0, 1), [(7, 4, 0), (8, 1, 0)]), ((1, 0), [(7, 4, 0), (8, 0, 1)])], [(2000178, ((0, 0), [(4, 1, 0)]), ((0, 0), [(8, 1, 0)]))], [])]
theorem zx_D1187_ok {PT : Nat → zz_W → Prop} : zx_Lok 64 zHT PT zx_D1187 := by
  refine zx_Lc_ok (fun w hI hK ins hl hr he hg => ?_)
  obtain ⟨a0, a1, a2, a3, a4, a5, rfl⟩ := zx_i6 hl
  have e0 : (0 : Int) + (1 * a0 + ((-79228162514264337593543950336) * a1 + ((-18446744073709551616) * a2 + ((-4294967296) * a3 + 0)))) = 0 := he _ List.mem_cons_self
  have e1 : (0 : Int) + ((-79228162514264337593543950336) * a1 + ((-18446744073709551616) * a2 + (1 * a4 + 0))) = 0 := he _ (List.mem_cons_of_mem _ List.mem_cons_self)
  have e2 : (0 : Int) + (1 * a5 + 0) = 0 := he _ (List.mem_cons_of_mem _ (List.mem_cons_of_mem _ List.mem_cons_self))
  have g0 : 0 ≤ (0 : Int) + (1 * a1 + 0) := hg _ List.mem_cons_self
  have g1 : 0 ≤ (4294967276 : Int) + ((-1) * a1 + 0) := hg _ (List.mem_cons_of_mem _ List.mem_cons_self)
  have g2 : 0 ≤ (0 : Int) + (1 * a2 + 0) := hg _ (List.mem_cons_of_mem _ (List.mem_cons_of_mem _ List.mem_cons_self))
  have g3 : 0 ≤ (4294967276 : Int) + ((-1) * a2 + 0) := hg _ (List.mem_cons_of_mem _ (List.mem_cons_of_mem _ (List.mem_cons_of_mem _ List.mem_cons_self)))
  have g4 : 0 ≤ (0 : Int) + (1 * a3 + 0) := hg _ (List.mem_cons_of_mem _ (List.mem_cons_of_mem _ (List.mem_cons_of_mem _ (List.mem_cons_of_mem _ List.mem_cons_self))))
  have g5 : 0 ≤ (4294967276 : Int) + ((-1) * a3 + 0) := hg _ (List.mem_cons_of_mem _ (List.mem_cons_of_mem _ (List.mem_cons_of_mem _ (List.mem_cons_of_mem _ (List.mem_cons_of_mem _ List.mem_cons_self)))))
  have g6 : 0 ≤ (1 : Int) + ((-1) * a3 + 0) := hg _ (List.mem_cons_of_mem _ (List.mem_cons_of_mem _ (List.mem_cons_of_mem _ (List.mem_cons_of_mem _ (List.mem_cons_of_mem _ (List.mem_cons_of_mem _ List.mem_cons_self))))))
  have g7 : 0 ≤ ((-1) : Int) + (1 * (zk_xe w 2000178 a0) + (4 * (zk_xe w 2000071 a5) + 0)) := hg _ (List.mem_cons_of_mem _ (List.mem_cons_of_mem _ (List.mem_cons_of_mem _ (List.mem_cons_of_mem _ (List.mem_cons_of_mem _ (List.mem_cons_of_mem _ (List.mem_cons_of_mem _ List.mem_cons_self)))))))
  have g8 : 0 ≤ (1 : Int) + ((-1) * (zk_xe w 2000178 a0) + (4 * (zk_xe w 2000071 a5) + 0)) := hg _ (List.mem_cons_of_mem _ (List.mem_cons_of_mem _ (List.mem_cons_of_mem _ (List.mem_cons_of_mem _ (List.mem_cons_of_mem _ (List.mem_cons_of_mem _ (List.mem_cons_of_mem _ (List.mem_cons_of_mem _ List.mem_cons_self))))))))
  have r0 : 0 ≤ a0 := hr _ List.mem_cons_self
  have r1 : 0 ≤ a5 := hr _ (List.mem_cons_of_mem _ List.mem_cons_self)
  have hb : 0 ≤ zk_xe w 2000178 a4 ∧ zk_xe w 2000178 a4 ≤ 4 := by
    rw [(zc_178 (w := w) (j := a4) (a := a1) (e := a2) (b := 0) (by omega) (by omega) (by omega) (by omega) (by omega) (by omega) (by omega) )]
    exact zc_vb
  have hr : zk_xe w 2000071 a5 = 1 ∨ (zk_xe w 2000071 a5 = 0 ∧ zk_xe w 2000178 a4 = 1) := by
    rcases zs_71c (w := w) (j := a5) with ⟨hx, -⟩ | ⟨hx, -⟩
    · exact Or.inl hx
    · refine Or.inr ⟨hx, ?_⟩
      have hv := zc_u1 ((zc_178 (w := w) (j := a0) (a := a1) (e := a2) (b := a3) (by omega) (by omega) (by omega) (by omega) (by omega) (by omega) (by omega) ).symm.trans (show zk_xe w 2000178 a0 = 1 by omega))
      have e : zc_m (zh_e w 254) a3.toNat = [] := by
        rcases (show a3 = 0 ∨ a3 = 1 by omega) with e | e <;> rw [e] <;> rfl
      rw [e] at hv
      rw [(zc_178 (w := w) (j := a4) (a := a1) (e := a2) (b := 0) (by omega) (by omega) (by omega) (by omega) (by omega) (by omega) (by omega) ), hv]
      exact zc_w1 (m := [])
  exact ⟨_, List.mem_cons_self, [zk_xe w 2000178 a4], rfl, (zx_bcons (by show (0 : Int) ≤ zk_xe w 2000178 a4 ∧ zk_xe w 2000178 a4 ≤ (4 : Int); omega) zx_bnil), (zx_cs1 (by show 0 ≤ ((-1) : Int) + (4 * (zk_xe w 2000071 a5) + (1 * (zk_xe w 2000178 a4) + 0)); omega) (zx_cs1 (by show 0 ≤ (1 : Int) + (4 * (zk_xe w 2000071 a5) + ((-1) * (zk_xe w 2000178 a4) + 0)); omega) zx_cs0)), (zx_eF1 (by show 0 ≤ (0 : Int) + (1 * a4 + 0); omega) (by show zk_xe w 2000178 ((0 : Int) + (1 * a4 + 0)) = (0 : Int) + (1 * (zk_xe w 2000178 a4) + 0); rw [show (0 : Int) + (1 * a4 + 0) = a4 by omega]; omega) zx_eF0), zx_k0⟩
def zx_D1163 : zx_L := zx_Lc [] 4 [] [] [((0, 0), [(0, 1, 0), (1, 0, 79228162514264337593543950336), (2, 0, 18446744073709551616), (3, 0, 4294967296)])] [((0, 0), [(1, 1, 0)]), ((4294967276, 0), [(1, 0, 1)]), ((0, 0), [(2, 1, 0)]), ((4294967276, 0), [(2, 0, 1)]), ((0, 0), [(3, 1, 0)]), ((4294967276, 0), [(3, 0, 1)])] [([(0, 4)], [], [(2000178, ((0, 0), [(0, 1, 0)]), ((0, 0), [(4, 1, 0)]))], [])]
theorem zx_D1163_ok {PT : Nat → zz_W → Prop} : zx_Lok 64 zHT PT zx_D1163 := by
  refine zx_Lc_ok (fun w hI hK ins hl hr he hg => ?_)
  obtain ⟨a0, a1, a2, a3, rfl⟩ := zx_i4 hl
  have e0 : (0 : Int) + (1 * a0 + ((-79228162514264337593543950336) * a1 + ((-18446744073709551616) * a2 + ((-4294967296) * a3 + 0)))) = 0 := he _ List.mem_cons_self
  have g0 : 0 ≤ (0 : Int) + (1 * a1 + 0) := hg _ List.mem_cons_self
  have g1 : 0 ≤ (4294967276 : Int) + ((-1) * a1 + 0) := hg _ (List.mem_cons_of_mem _ List.mem_cons_self)
  have g2 : 0 ≤ (0 : Int) + (1 * a2 + 0) := hg _ (List.mem_cons_of_mem _ (List.mem_cons_of_mem _ List.mem_cons_self))
  have g3 : 0 ≤ (4294967276 : Int) + ((-1) * a2 + 0) := hg _ (List.mem_cons_of_mem _ (List.mem_cons_of_mem _ (List.mem_cons_of_mem _ List.mem_cons_self)))
  have g4 : 0 ≤ (0 : Int) + (1 * a3 + 0) := hg _ (List.mem_cons_of_mem _ (List.mem_cons_of_mem _ (List.mem_cons_of_mem _ (List.mem_cons_of_mem _ List.mem_cons_self))))
  have g5 : 0 ≤ (4294967276 : Int) + ((-1) * a3 + 0) := hg _ (List.mem_cons_of_mem _ (List.mem_cons_of_mem _ (List.mem_cons_of_mem _ (List.mem_cons_of_mem _ (List.mem_cons_of_mem _ List.mem_cons_self)))))
  have h : 0 ≤ zk_xe w 2000178 a0 ∧ zk_xe w 2000178 a0 ≤ 4 := by
    rw [(zc_178 (w := w) (j := a0) (a := a1) (e := a2) (b := a3) (by omega) (by omega) (by omega) (by omega) (by omega) (by omega) (by omega) )]
    exact zc_vb
  exact ⟨_, List.mem_cons_self, [zk_xe w 2000178 a0], rfl, (zx_bcons (by show (0 : Int) ≤ zk_xe w 2000178 a0 ∧ zk_xe w 2000178 a0 ≤ (4 : Int); omega) zx_bnil), zx_cs0, (zx_eF1 (by show 0 ≤ (0 : Int) + (1 * a0 + 0); omega) (by show zk_xe w 2000178 ((0 : Int) + (1 * a0 + 0)) = (0 : Int) + (1 * (zk_xe w 2000178 a0) + 0); rw [show (0 : Int) + (1 * a0 + 0) = a0 by omega]; omega) zx_eF0), zx_k0⟩
def zx_D1186 : zx_L := zx_Lc [] 5 [(2000178, 0), (208, 2), (207, 1)] [] [((0, 0), [(0, 1, 0), (1, 0, 633825300114114700748351602688000), (2, 0, 18446744073709551616), (3, 0, 4294967296)]), ((0, 0), [(1, 0, 1), (3, 0, 4294967296), (4, 1, 0)]), ((0, 1), [(1, 8000, 0), (2, 0, 1), (7, 1, 0)])] [((0, 0), [(1, 1, 0)]), ((400000, 0), [(1, 0, 1)]), ((0, 0), [(2, 1, 0)]), ((4294967276, 0), [(2, 0, 1)]), ((0, 0), [(3, 1, 0)]), ((4294967276, 0), [(3, 0, 1)]), ((0, 0), [(1, 0, 8000), (2, 1, 0)]), ((100000, 0), [(7, 0, 1)]), ((12, 0), [(6, 0, 1)])] [([], [], [(2000183, ((0, 0), [(4, 1, 0)]), ((0, 0), [(5, 1, 0)]))], [])]
theorem zx_D1186_ok {PT : Nat → zz_W → Prop} : zx_Lok 64 zHT PT zx_D1186 := by
  refine zx_Lc_ok (fun w hI hK ins hl hr he hg => ?_)
  obtain ⟨a0, a1, a2, a3, a4, rfl⟩ := zx_i5 hl
  have e0 : (0 : Int) + (1 * a0 + ((-633825300114114700748351602688000) * a1 + ((-18446744073709551616) * a2 + ((-4294967296) * a3 + 0)))) = 0 := he _ List.mem_cons_self
  have e1 : (0 : Int) + ((-1) * a1 + ((-4294967296) * a3 + (1 * a4 + 0))) = 0 := he _ (List.mem_cons_of_mem _ List.mem_cons_self)
  have e2 : ((-1) : Int) + (8000 * a1 + ((-1) * a2 + (1 * (zk_xe w 207 a1) + 0))) = 0 := he _ (List.mem_cons_of_mem _ (List.mem_cons_of_mem _ List.mem_cons_self))
  have g0 : 0 ≤ (0 : Int) + (1 * a1 + 0) := hg _ List.mem_cons_self
  have g1 : 0 ≤ (400000 : Int) + ((-1) * a1 + 0) := hg _ (List.mem_cons_of_mem _ List.mem_cons_self)
  have g2 : 0 ≤ (0 : Int) + (1 * a2 + 0) := hg _ (List.mem_cons_of_mem _ (List.mem_cons_of_mem _ List.mem_cons_self))
  have g3 : 0 ≤ (4294967276 : Int) + ((-1) * a2 + 0) := hg _ (List.mem_cons_of_mem _ (List.mem_cons_of_mem _ (List.mem_cons_of_mem _ List.mem_cons_self)))
  have g4 : 0 ≤ (0 : Int) + (1 * a3 + 0) := hg _ (List.mem_cons_of_mem _ (List.mem_cons_of_mem _ (List.mem_cons_of_mem _ (List.mem_cons_of_mem _ List.mem_cons_self))))
  have g5 : 0 ≤ (4294967276 : Int) + ((-1) * a3 + 0) := hg _ (List.mem_cons_of_mem _ (List.mem_cons_of_mem _ (List.mem_cons_of_mem _ (List.mem_cons_of_mem _ (List.mem_cons_of_mem _ List.mem_cons_self)))))
  have g6 : 0 ≤ (0 : Int) + ((-8000) * a1 + (1 * a2 + 0)) := hg _ (List.mem_cons_of_mem _ (List.mem_cons_of_mem _ (List.mem_cons_of_mem _ (List.mem_cons_of_mem _ (List.mem_cons_of_mem _ (List.mem_cons_of_mem _ List.mem_cons_self))))))
  have g7 : 0 ≤ (100000 : Int) + ((-1) * (zk_xe w 207 a1) + 0) := hg _ (List.mem_cons_of_mem _ (List.mem_cons_of_mem _ (List.mem_cons_of_mem _ (List.mem_cons_of_mem _ (List.mem_cons_of_mem _ (List.mem_cons_of_mem _ (List.mem_cons_of_mem _ List.mem_cons_self)))))))
  have g8 : 0 ≤ (12 : Int) + ((-1) * (zk_xe w 208 a2) + 0) := hg _ (List.mem_cons_of_mem _ (List.mem_cons_of_mem _ (List.mem_cons_of_mem _ (List.mem_cons_of_mem _ (List.mem_cons_of_mem _ (List.mem_cons_of_mem _ (List.mem_cons_of_mem _ (List.mem_cons_of_mem _ List.mem_cons_self))))))))
  have r0 : 0 ≤ a0 := hr _ List.mem_cons_self
  have r1 : 0 ≤ a2 := hr _ (List.mem_cons_of_mem _ List.mem_cons_self)
  have r2 : 0 ≤ a1 := hr _ (List.mem_cons_of_mem _ (List.mem_cons_of_mem _ List.mem_cons_self))
  have k1 : zh_e w 208 (a2) = zk_xe w 208 a2 := by rw [zk_xe_r (i := 208) (by decide)]; show zk_el w 208 (a2) = zk_el w 208 a2; rw [show a2 = a2 by omega]
  have k0 : zh_e w 207 (a1) = zk_xe w 207 a1 := by rw [zk_xe_r (i := 207) (by decide)]; show zk_el w 207 (a1) = zk_el w 207 a1; rw [show a1 = a1 by omega]
  have h : zk_xe w 2000183 a4 = zk_xe w 2000178 a0 := by
    have h1 := (zc_183 (w := w) (j := a4) (u := a1) (b := a3) (by omega) (by omega) (by omega) (by omega) (by omega) )
    have h2 := (zc_178 (w := w) (j := a0) (a := (8000 * a1)) (e := a2) (b := a3) (by omega) (by omega) (by omega) (by omega) (by omega) (by omega) (by omega) )
    rw [k0, show zk_xe w 207 a1 = (a2 - 8000 * a1) + 1 by omega, zc_sn (show 0 ≤ a2 - 8000 * a1 by omega), show 8000 * a1 + (a2 - 8000 * a1) = a2 by omega, k1, zc_kb (by omega)] at h1
    rw [h1, h2]
  exact ⟨_, List.mem_cons_self, [], rfl, zx_bnil, zx_cs0, (zx_eF1 (by show 0 ≤ (0 : Int) + (1 * a4 + 0); omega) (by show zk_xe w 2000183 ((0 : Int) + (1 * a4 + 0)) = (0 : Int) + (1 * (zk_xe w 2000178 a0) + 0); rw [show (0 : Int) + (1 * a4 + 0) = a4 by omega]; exact h.trans (by omega)) zx_eF0), zx_k0⟩
def zx_D1179 : zx_L := zx_Lc [] 4 [(2000183, 0), (207, 1)] [] [((0, 0), [(0, 1, 0), (1, 0, 1), (2, 0, 4294967296)]), ((0, 0), [(1, 0, 633825300261688653338028015616000), (2, 0, 4294967296), (3, 1, 0), (5, 0, 18446744073709551616)])] [((0, 0), [(1, 1, 0)]), ((400000, 0), [(1, 0, 1)]), ((0, 0), [(2, 1, 0)]), ((4294967276, 0), [(2, 0, 1)]), ((0, 0), [(5, 1, 0)]), ((100000, 0), [(5, 0, 1)])] [([], [], [(2000178, ((0, 0), [(3, 1, 0)]), ((0, 0), [(4, 1, 0)]))], [])]
theorem zx_D1179_ok {PT : Nat → zz_W → Prop} : zx_Lok 64 zHT PT zx_D1179 := by
  refine zx_Lc_ok (fun w hI hK ins hl hr he hg => ?_)
  obtain ⟨a0, a1, a2, a3, rfl⟩ := zx_i4 hl
  have e0 : (0 : Int) + (1 * a0 + ((-1) * a1 + ((-4294967296) * a2 + 0))) = 0 := he _ List.mem_cons_self
  have e1 : (0 : Int) + ((-633825300261688653338028015616000) * a1 + ((-4294967296) * a2 + (1 * a3 + ((-18446744073709551616) * (zk_xe w 207 a1) + 0)))) = 0 := he _ (List.mem_cons_of_mem _ List.mem_cons_self)
  have g0 : 0 ≤ (0 : Int) + (1 * a1 + 0) := hg _ List.mem_cons_self
  have g1 : 0 ≤ (400000 : Int) + ((-1) * a1 + 0) := hg _ (List.mem_cons_of_mem _ List.mem_cons_self)
  have g2 : 0 ≤ (0 : Int) + (1 * a2 + 0) := hg _ (List.mem_cons_of_mem _ (List.mem_cons_of_mem _ List.mem_cons_self))
  have g3 : 0 ≤ (4294967276 : Int) + ((-1) * a2 + 0) := hg _ (List.mem_cons_of_mem _ (List.mem_cons_of_mem _ (List.mem_cons_of_mem _ List.mem_cons_self)))
  have g4 : 0 ≤ (0 : Int) + (1 * (zk_xe w 207 a1) + 0) := hg _ (List.mem_cons_of_mem _ (List.mem_cons_of_mem _ (List.mem_cons_of_mem _ (List.mem_cons_of_mem _ List.mem_cons_self))))
  have g5 : 0 ≤ (100000 : Int) + ((-1) * (zk_xe w 207 a1) + 0) := hg _ (List.mem_cons_of_mem _ (List.mem_cons_of_mem _ (List.mem_cons_of_mem _ (List.mem_cons_of_mem _ (List.mem_cons_of_mem _ List.mem_cons_self)))))
  have r0 : 0 ≤ a0 := hr _ List.mem_cons_self
  have r1 : 0 ≤ a1 := hr _ (List.mem_cons_of_mem _ List.mem_cons_self)
  have k0 : zh_e w 207 (a1) = zk_xe w 207 a1 := by rw [zk_xe_r (i := 207) (by decide)]; show zk_el w 207 (a1) = zk_el w 207 a1; rw [show a1 = a1 by omega]
  have h : zk_xe w 2000178 a3 = zk_xe w 2000183 a0 := by
    have h1 := (zc_183 (w := w) (j := a0) (u := a1) (b := a2) (by omega) (by omega) (by omega) (by omega) (by omega) )
    have h2 := (zc_178 (w := w) (j := a3) (a := (8000 * a1)) (e := (8000 * a1 + zk_xe w 207 a1)) (b := a2) (by omega) (by omega) (by omega) (by omega) (by omega) (by omega) (by omega) )
    rw [k0] at h1
    rw [show 8000 * a1 + zk_xe w 207 a1 - 8000 * a1 = zk_xe w 207 a1 by omega] at h2
    rw [h1, h2]
  exact ⟨_, List.mem_cons_self, [], rfl, zx_bnil, zx_cs0, (zx_eF1 (by show 0 ≤ (0 : Int) + (1 * a3 + 0); omega) (by show zk_xe w 2000178 ((0 : Int) + (1 * a3 + 0)) = (0 : Int) + (1 * (zk_xe w 2000183 a0) + 0); rw [show (0 : Int) + (1 * a3 + 0) = a3 by omega]; exact h.trans (by omega)) zx_eF0), zx_k0⟩
def zx_D1180 : zx_L := zx_Lc [] 5 [(2000178, 0), (207, 1)] [] [((0, 0), [(0, 1, 0), (1, 0, 633825300261688653338028015616000), (2, 0, 4294967296), (6, 0, 18446744073709551616)]), ((0, 0), [(1, 0, 1), (3, 1, 0), (4, 0, 4294967296)]), ((0, 0), [(2, 0, 1), (4, 1, 0)])] [((0, 0), [(1, 1, 0)]), ((400000, 0), [(1, 0, 1)]), ((0, 0), [(2, 1, 0)]), ((4294967276, 0), [(2, 0, 1)]), ((0, 0), [(6, 1, 0)]), ((100000, 0), [(6, 0, 1)])] [([], [], [(2000183, ((0, 0), [(3, 1, 0)]), ((0, 0), [(5, 1, 0)]))], [])]
theorem zx_D1180_ok {PT : Nat → zz_W → Prop} : zx_Lok 64 zHT PT zx_D1180 := by
  refine zx_Lc_ok (fun w hI hK ins hl hr he hg => ?_)
  obtain ⟨a0, a1, a2, a3, a4, rfl⟩ := zx_i5 hl
  have e0 : (0 : Int) + (1 * a0 + ((-633825300261688653338028015616000) * a1 + ((-4294967296) * a2 + ((-18446744073709551616) * (zk_xe w 207 a1) + 0)))) = 0 := he _ List.mem_cons_self
  have e1 : (0 : Int) + ((-1) * a1 + (1 * a3 + ((-4294967296) * a4 + 0))) = 0 := he _ (List.mem_cons_of_mem _ List.mem_cons_self)
  have e2 : (0 : Int) + ((-1) * a2 + (1 * a4 + 0)) = 0 := he _ (List.mem_cons_of_mem _ (List.mem_cons_of_mem _ List.mem_cons_self))
  have g0 : 0 ≤ (0 : Int) + (1 * a1 + 0) := hg _ List.mem_cons_self
  have g1 : 0 ≤ (400000 : Int) + ((-1) * a1 + 0) := hg _ (List.mem_cons_of_mem _ List.mem_cons_self)
  have g2 : 0 ≤ (0 : Int) + (1 * a2 + 0) := hg _ (List.mem_cons_of_mem _ (List.mem_cons_of_mem _ List.mem_cons_self))
  have g3 : 0 ≤ (4294967276 : Int) + ((-1) * a2 + 0) := hg _ (List.mem_cons_of_mem _ (List.mem_cons_of_mem _ (List.mem_cons_of_mem _ List.mem_cons_self)))
  have g4 : 0 ≤ (0 : Int) + (1 * (zk_xe w 207 a1) + 0) := hg _ (List.mem_cons_of_mem _ (List.mem_cons_of_mem _ (List.mem_cons_of_mem _ (List.mem_cons_of_mem _ List.mem_cons_self))))
  have g5 : 0 ≤ (100000 : Int) + ((-1) * (zk_xe w 207 a1) + 0) := hg _ (List.mem_cons_of_mem _ (List.mem_cons_of_mem _ (List.mem_cons_of_mem _ (List.mem_cons_of_mem _ (List.mem_cons_of_mem _ List.mem_cons_self)))))
  have r0 : 0 ≤ a0 := hr _ List.mem_cons_self
  have r1 : 0 ≤ a1 := hr _ (List.mem_cons_of_mem _ List.mem_cons_self)
  have k0 : zh_e w 207 (a1) = zk_xe w 207 a1 := by rw [zk_xe_r (i := 207) (by decide)]; show zk_el w 207 (a1) = zk_el w 207 a1; rw [show a1 = a1 by omega]
  have h : zk_xe w 2000183 a3 = zk_xe w 2000178 a0 := by
    have h1 := (zc_183 (w := w) (j := a3) (u := a1) (b := a2) (by omega) (by omega) (by omega) (by omega) (by omega) )
    have h2 := (zc_178 (w := w) (j := a0) (a := (8000 * a1)) (e := (8000 * a1 + zk_xe w 207 a1)) (b := a2) (by omega) (by omega) (by omega) (by omega) (by omega) (by omega) (by omega) )
    rw [k0] at h1
    rw [show 8000 * a1 + zk_xe w 207 a1 - 8000 * a1 = zk_xe w 207 a1 by omega] at h2
    rw [h1, h2]
  exact ⟨_, List.mem_cons_self, [], rfl, zx_bnil, zx_cs0, (zx_eF1 (by show 0 ≤ (0 : Int) + (1 * a3 + 0); omega) (by show zk_xe w 2000183 ((0 : Int) + (1 * a3 + 0)) = (0 : Int) + (1 * (zk_xe w 2000178 a0) + 0); rw [show (0 : Int) + (1 * a3 + 0) = a3 by omega]; exact h.trans (by omega)) zx_eF0), zx_k0⟩
def zx_D1181 : zx_L := zx_Lc [] 1 [] [] [] [((0, 0), [(0, 1, 0)])] [([(0, 4)], [], [(2000183, ((0, 0), [(0, 1, 0)]), ((0, 0), [(1, 1, 0)]))], [])]
theorem zx_D1181_ok {PT : Nat → zz_W → Prop} : zx_Lok 64 zHT PT zx_D1181 := by
  refine zx_Lc_ok (fun w hI hK ins hl hr he hg => ?_)
  obtain ⟨a0, rfl⟩ := zx_i1 hl
  have g0 : 0 ≤ (0 : Int) + (1 * a0 + 0) := hg _ List.mem_cons_self
  have h : 0 ≤ zk_xe w 2000183 a0 ∧ zk_xe w 2000183 a0 ≤ 4 := by
    rw [show (2000183 : Nat) = 2000000 + 183 from rfl, zk_xe_h]
    exact zc_vb
  exact ⟨_, List.mem_cons_self, [zk_xe w 2000183 a0], rfl, (zx_bcons (by show (0 : Int) ≤ zk_xe w 2000183 a0 ∧ zk_xe w 2000183 a0 ≤ (4 : Int); omega) zx_bnil), zx_cs0, (zx_eF1 (by show 0 ≤ (0 : Int) + (1 * a0 + 0); omega) (by show zk_xe w 2000183 ((0 : Int) + (1 * a0 + 0)) = (0 : Int) + (1 * (zk_xe w 2000183 a0) + 0); rw [show (0 : Int) + (1 * a0 + 0) = a0 by omega]; omega) zx_eF0), zx_k0⟩
def zx_D1169 : zx_L := zx_Lc [] 6 [(2000178, 0), (2000073, 1), (207, 1), (2000071, 5)] [] [((0, 0), [(0, 1, 0), (1, 0, 633825300114114700748351602688000), (2, 0, 18446744073709551616), (3, 0, 4294967296)]), ((0, 0), [(1, 0, 633825300261688653338028015616000), (3, 0, 4294967296), (4, 1, 0), (8, 0, 18446744073709551616)]), ((0, 0), [(5, 1, 0)])] [((0, 0), [(1, 1, 0)]), ((400000, 0), [(1, 0, 1)]), ((0, 0), [(2, 1, 0)]), ((4294967276, 0), [(2, 0, 1)]), ((0, 0), [(3, 1, 0)]), ((4294967276, 0), [(3, 0, 1)]), ((0, 0), [(1, 0, 8000), (2, 1, 0)]), ((0, 0), [(8, 1, 0)]), ((100000, 0), [(8, 0, 1)]), ((0, 0), [(1, 8000, 0), (2, 0, 1), (8, 1, 0)]), ((0, 0), [(1, 0, 8000), (2, 1, 0), (7, 0, 1)])] [([(0, 4)], [((0, 0), [(6, 0, 1), (9, 4, 0), (10, 1, 0)]), ((0, 0), [(6, 1, 0), (9, 4, 0), (10, 0, 1)])], [(2000178, ((0, 0), [(4, 1, 0)]), ((0, 0), [(10, 1, 0)]))], [])]
theorem zx_D1169_ok {PT : Nat → zz_W → Prop} : zx_Lok 64 zHT PT zx_D1169 := by
  refine zx_Lc_ok (fun w hI hK ins hl hr he hg => ?_)
  obtain ⟨a0, a1, a2, a3, a4, a5, rfl⟩ := zx_i6 hl
  have e0 : (0 : Int) + (1 * a0 + ((-633825300114114700748351602688000) * a1 + ((-18446744073709551616) * a2 + ((-4294967296) * a3 + 0)))) = 0 := he _ List.mem_cons_self
  have e1 : (0 : Int) + ((-633825300261688653338028015616000) * a1 + ((-4294967296) * a3 + (1 * a4 + ((-18446744073709551616) * (zk_xe w 207 a1) + 0)))) = 0 := he _ (List.mem_cons_of_mem _ List.mem_cons_self)
  have e2 : (0 : Int) + (1 * a5 + 0) = 0 := he _ (List.mem_cons_of_mem _ (List.mem_cons_of_mem _ List.mem_cons_self))
  have g0 : 0 ≤ (0 : Int) + (1 * a1 + 0) := hg _ List.mem_cons_self
  have g1 : 0 ≤ (400000 : Int) + ((-1) * a1 + 0) := hg _ (List.mem_cons_of_mem _ List.mem_cons_self)
  have g2 : 0 ≤ (0 : Int) + (1 * a2 + 0) := hg _ (List.mem_cons_of_mem _ (List.mem_cons_of_mem _ List.mem_cons_self))
  have g3 : 0 ≤ (4294967276 : Int) + ((-1) * a2 + 0) := hg _ (List.mem_cons_of_mem _ (List.mem_cons_of_mem _ (List.mem_cons_of_mem _ List.mem_cons_self)))
  have g4 : 0 ≤ (0 : Int) + (1 * a3 + 0) := hg _ (List.mem_cons_of_mem _ (List.mem_cons_of_mem _ (List.mem_cons_of_mem _ (List.mem_cons_of_mem _ List.mem_cons_self))))
  have g5 : 0 ≤ (4294967276 : Int) + ((-1) * a3 + 0) := hg _ (List.mem_cons_of_mem _ (List.mem_cons_of_mem _ (List.mem_cons_of_mem _ (List.mem_cons_of_mem _ (List.mem_cons_of_mem _ List.mem_cons_self)))))
  have g6 : 0 ≤ (0 : Int) + ((-8000) * a1 + (1 * a2 + 0)) := hg _ (List.mem_cons_of_mem _ (List.mem_cons_of_mem _ (List.mem_cons_of_mem _ (List.mem_cons_of_mem _ (List.mem_cons_of_mem _ (List.mem_cons_of_mem _ List.mem_cons_self))))))
  have g7 : 0 ≤ (0 : Int) + (1 * (zk_xe w 207 a1) + 0) := hg _ (List.mem_cons_of_mem _ (List.mem_cons_of_mem _ (List.mem_cons_of_mem _ (List.mem_cons_of_mem _ (List.mem_cons_of_mem _ (List.mem_cons_of_mem _ (List.mem_cons_of_mem _ List.mem_cons_self)))))))
  have g8 : 0 ≤ (100000 : Int) + ((-1) * (zk_xe w 207 a1) + 0) := hg _ (List.mem_cons_of_mem _ (List.mem_cons_of_mem _ (List.mem_cons_of_mem _ (List.mem_cons_of_mem _ (List.mem_cons_of_mem _ (List.mem_cons_of_mem _ (List.mem_cons_of_mem _ (List.mem_cons_of_mem _ List.mem_cons_self))))))))
  have g9 : 0 ≤ (0 : Int) + (8000 * a1 + ((-1) * a2 + (1 * (zk_xe w 207 a1) + 0))) := hg _ (List.mem_cons_of_mem _ (List.mem_cons_of_mem _ (List.mem_cons_of_mem _ (List.mem_cons_of_mem _ (List.mem_cons_of_mem _ (List.mem_cons_of_mem _ (List.mem_cons_of_mem _ (List.mem_cons_of_mem _ (List.mem_cons_of_mem _ List.mem_cons_self)))))))))
  have g10 : 0 ≤ (0 : Int) + ((-8000) * a1 + (1 * a2 + ((-1) * (zk_xe w 2000073 a1) + 0))) := hg _ (List.mem_cons_of_mem _ (List.mem_cons_of_mem _ (List.mem_cons_of_mem _ (List.mem_cons_of_mem _ (List.mem_cons_of_mem _ (List.mem_cons_of_mem _ (List.mem_cons_of_mem _ (List.mem_cons_of_mem _ (List.mem_cons_of_mem _ (List.mem_cons_of_mem _ List.mem_cons_self))))))))))
  have r0 : 0 ≤ a0 := hr _ List.mem_cons_self
  have r1 : 0 ≤ a1 := hr _ (List.mem_cons_of_mem _ List.mem_cons_self)
  have r2 : 0 ≤ a1 := hr _ (List.mem_cons_of_mem _ (List.mem_cons_of_mem _ List.mem_cons_self))
  have r3 : 0 ≤ a5 := hr _ (List.mem_cons_of_mem _ (List.mem_cons_of_mem _ (List.mem_cons_of_mem _ List.mem_cons_self)))
  have h0 := (zc_178 (w := w) (j := a0) (a := (8000 * a1)) (e := a2) (b := a3) (by omega) (by omega) (by omega) (by omega) (by omega) (by omega) (by omega) )
  have h4 := (zc_178 (w := w) (j := a4) (a := (8000 * a1)) (e := (8000 * a1 + zk_xe w 207 a1)) (b := a3) (by omega) (by omega) (by omega) (by omega) (by omega) (by omega) (by omega) )
  have hb0 : 0 ≤ zk_xe w 2000178 a0 ∧ zk_xe w 2000178 a0 ≤ 4 := by
    rw [h0]
    exact zc_vb
  have hb : 0 ≤ zk_xe w 2000178 a4 ∧ zk_xe w 2000178 a4 ≤ 4 := by
    rw [h4]
    exact zc_vb
  have hr : zk_xe w 2000071 a5 = 1 ∨ (zk_xe w 2000071 a5 = 0 ∧ zk_xe w 2000178 a4 = zk_xe w 2000178 a0) := by
    rcases zs_71c (w := w) (j := a5) with ⟨hx, -⟩ | ⟨hx, hy⟩
    · exact Or.inl hx
    · refine Or.inr ⟨hx, ?_⟩
      have k0 : zh_e w 207 (a1) = zk_xe w 207 a1 := by rw [zk_xe_r (i := 207) (by decide)]; show zk_el w 207 (a1) = zk_el w 207 a1; rw [show a1 = a1 by omega]
      have ht := zs_73 (w := w) (j := a1)
      rw [zs_T0 hy, k0] at ht
      rw [h0, h4, show 8000 * a1 + zk_xe w 207 a1 - 8000 * a1 = zk_xe w 207 a1 by omega]
      rw [zc_tl (f := zh_e w 208) (c := zh_e w 211) (o := zh_e w 250 0) (a := 8000 * a1) (n := (zk_xe w 207 a1).toNat) (m := (a2 - 8000 * a1).toNat) (by omega) (by rw [← ht]; omega)]
  exact ⟨_, List.mem_cons_self, [zk_xe w 2000178 a4], rfl, (zx_bcons (by show (0 : Int) ≤ zk_xe w 2000178 a4 ∧ zk_xe w 2000178 a4 ≤ (4 : Int); omega) zx_bnil), (zx_cs1 (by show 0 ≤ (0 : Int) + ((-1) * (zk_xe w 2000178 a0) + (4 * (zk_xe w 2000071 a5) + (1 * (zk_xe w 2000178 a4) + 0))); omega) (zx_cs1 (by show 0 ≤ (0 : Int) + (1 * (zk_xe w 2000178 a0) + (4 * (zk_xe w 2000071 a5) + ((-1) * (zk_xe w 2000178 a4) + 0))); omega) zx_cs0)), (zx_eF1 (by show 0 ≤ (0 : Int) + (1 * a4 + 0); omega) (by show zk_xe w 2000178 ((0 : Int) + (1 * a4 + 0)) = (0 : Int) + (1 * (zk_xe w 2000178 a4) + 0); rw [show (0 : Int) + (1 * a4 + 0) = a4 by omega]; omega) zx_eF0), zx_k0⟩
def zx_D1201 : zx_L := zx_Lc [] 2 [(2000183, 0), (2000071, 1)] [] [((0, 0), [(1, 1, 0)])] [((0, 0), [(0, 1, 0)]), ((0, 1), [(2, 1, 0), (3, 1000, 0)]), ((1, 0), [(2, 0, 1), (3, 1000, 0)])] [([], [((0, 1), [(2, 1, 0), (3, 4, 0)]), ((1, 0), [(2, 0, 1), (3, 4, 0)])], [], [])]
theorem zx_D1201_ok {PT : Nat → zz_W → Prop} : zx_Lok 64 zHT PT zx_D1201 := by
  refine zx_Lc_ok (fun w hI hK ins hl hr he hg => ?_)
  obtain ⟨a0, a1, rfl⟩ := zx_i2 hl
  have e0 : (0 : Int) + (1 * a1 + 0) = 0 := he _ List.mem_cons_self
  have g0 : 0 ≤ (0 : Int) + (1 * a0 + 0) := hg _ List.mem_cons_self
  have g1 : 0 ≤ ((-1) : Int) + (1 * (zk_xe w 2000183 a0) + (1000 * (zk_xe w 2000071 a1) + 0)) := hg _ (List.mem_cons_of_mem _ List.mem_cons_self)
  have g2 : 0 ≤ (1 : Int) + ((-1) * (zk_xe w 2000183 a0) + (1000 * (zk_xe w 2000071 a1) + 0)) := hg _ (List.mem_cons_of_mem _ (List.mem_cons_of_mem _ List.mem_cons_self))
  have r0 : 0 ≤ a0 := hr _ List.mem_cons_self
  have r1 : 0 ≤ a1 := hr _ (List.mem_cons_of_mem _ List.mem_cons_self)
  have hb : 0 ≤ zk_xe w 2000183 a0 ∧ zk_xe w 2000183 a0 ≤ 4 := by
    rw [show (2000183 : Nat) = 2000000 + 183 from rfl, zk_xe_h]
    exact zc_vb
  have hx := zs_71c (w := w) (j := a1)
  have hx : zk_xe w 2000071 a1 = 1 ∨ zk_xe w 2000071 a1 = 0 := hx.imp (fun q => q.1) (fun q => q.1)
  exact ⟨_, List.mem_cons_self, [], rfl, zx_bnil, (zx_cs1 (by show 0 ≤ ((-1) : Int) + (1 * (zk_xe w 2000183 a0) + (4 * (zk_xe w 2000071 a1) + 0)); omega) (zx_cs1 (by show 0 ≤ (1 : Int) + ((-1) * (zk_xe w 2000183 a0) + (4 * (zk_xe w 2000071 a1) + 0)); omega) zx_cs0)), zx_eF0, zx_k0⟩
def zx_D1199 : zx_L := zx_Lc [] 6 [(2000178, 0), (2000073, 1), (207, 1), (2000071, 5)] [] [((0, 0), [(0, 1, 0), (1, 0, 633825300114114700748351602688000), (2, 0, 18446744073709551616), (3, 0, 4294967296)]), ((0, 0), [(1, 0, 633825300261688653338028015616000), (3, 0, 4294967296), (4, 1, 0), (8, 0, 18446744073709551616)]), ((0, 0), [(5, 1, 0)])] [((0, 0), [(1, 1, 0)]), ((400000, 0), [(1, 0, 1)]), ((0, 0), [(2, 1, 0)]), ((4294967276, 0), [(2, 0, 1)]), ((0, 0), [(3, 1, 0)]), ((4294967276, 0), [(3, 0, 1)]), ((0, 0), [(1, 0, 8000), (2, 1, 0)]), ((0, 0), [(8, 1, 0)]), ((100000, 0), [(8, 0, 1)]), ((0, 0), [(1, 8000, 0), (2, 0, 1), (8, 1, 0)]), ((0, 0), [(1, 0, 8000), (2, 1, 0), (7, 0, 1)]), ((0, 1), [(6, 1, 0), (9, 4, 0)]), ((1, 0), [(6, 0, 1), (9, 4, 0)])] [([(0, 4)], [((0, 1), [(9, 4, 0), (10, 1, 0)]), ((1, 0), [(9, 4, 0), (10, 0, 1)])], [(2000178, ((0, 0), [(4, 1, 0)]), ((0, 0), [(10, 1, 0)]))], [])]
theorem zx_D1199_ok {PT : Nat → zz_W → Prop} : zx_Lok 64 zHT PT zx_D1199 := by
  refine zx_Lc_ok (fun w hI hK ins hl hr he hg => ?_)
  obtain ⟨a0, a1, a2, a3, a4, a5, rfl⟩ := zx_i6 hl
  have e0 : (0 : Int) + (1 * a0 + ((-633825300114114700748351602688000) * a1 + ((-18446744073709551616) * a2 + ((-4294967296) * a3 + 0)))) = 0 := he _ List.mem_cons_self
  have e1 : (0 : Int) + ((-633825300261688653338028015616000) * a1 + ((-4294967296) * a3 + (1 * a4 + ((-18446744073709551616) * (zk_xe w 207 a1) + 0)))) = 0 := he _ (List.mem_cons_of_mem _ List.mem_cons_self)
  have e2 : (0 : Int) + (1 * a5 + 0) = 0 := he _ (List.mem_cons_of_mem _ (List.mem_cons_of_mem _ List.mem_cons_self))
  have g0 : 0 ≤ (0 : Int) + (1 * a1 + 0) := hg _ List.mem_cons_self
  have g1 : 0 ≤ (400000 : Int) + ((-1) * a1 + 0) := hg _ (List.mem_cons_of_mem _ List.mem_cons_self)
  have g2 : 0 ≤ (0 : Int) + (1 * a2 + 0) := hg _ (List.mem_cons_of_mem _ (List.mem_cons_of_mem _ List.mem_cons_self))
  have g3 : 0 ≤ (4294967276 : Int) + ((-1) * a2 + 0) := hg _ (List.mem_cons_of_mem _ (List.mem_cons_of_mem _ (List.mem_cons_of_mem _ List.mem_cons_self)))
  have g4 : 0 ≤ (0 : Int) + (1 * a3 + 0) := hg _ (List.mem_cons_of_mem _ (List.mem_cons_of_mem _ (List.mem_cons_of_mem _ (List.mem_cons_of_mem _ List.mem_cons_self))))
  have g5 : 0 ≤ (4294967276 : Int) + ((-1) * a3 + 0) := hg _ (List.mem_cons_of_mem _ (List.mem_cons_of_mem _ (List.mem_cons_of_mem _ (List.mem_cons_of_mem _ (List.mem_cons_of_mem _ List.mem_cons_self)))))
  have g6 : 0 ≤ (0 : Int) + ((-8000) * a1 + (1 * a2 + 0)) := hg _ (List.mem_cons_of_mem _ (List.mem_cons_of_mem _ (List.mem_cons_of_mem _ (List.mem_cons_of_mem _ (List.mem_cons_of_mem _ (List.mem_cons_of_mem _ List.mem_cons_self))))))
  have g7 : 0 ≤ (0 : Int) + (1 * (zk_xe w 207 a1) + 0) := hg _ (List.mem_cons_of_mem _ (List.mem_cons_of_mem _ (List.mem_cons_of_mem _ (List.mem_cons_of_mem _ (List.mem_cons_of_mem _ (List.mem_cons_of_mem _ (List.mem_cons_of_mem _ List.mem_cons_self)))))))
  have g8 : 0 ≤ (100000 : Int) + ((-1) * (zk_xe w 207 a1) + 0) := hg _ (List.mem_cons_of_mem _ (List.mem_cons_of_mem _ (List.mem_cons_of_mem _ (List.mem_cons_of_mem _ (List.mem_cons_of_mem _ (List.mem_cons_of_mem _ (List.mem_cons_of_mem _ (List.mem_cons_of_mem _ List.mem_cons_self))))))))
  have g9 : 0 ≤ (0 : Int) + (8000 * a1 + ((-1) * a2 + (1 * (zk_xe w 207 a1) + 0))) := hg _ (List.mem_cons_of_mem _ (List.mem_cons_of_mem _ (List.mem_cons_of_mem _ (List.mem_cons_of_mem _ (List.mem_cons_of_mem _ (List.mem_cons_of_mem _ (List.mem_cons_of_mem _ (List.mem_cons_of_mem _ (List.mem_cons_of_mem _ List.mem_cons_self)))))))))
  have g10 : 0 ≤ (0 : Int) + ((-8000) * a1 + (1 * a2 + ((-1) * (zk_xe w 2000073 a1) + 0))) := hg _ (List.mem_cons_of_mem _ (List.mem_cons_of_mem _ (List.mem_cons_of_mem _ (List.mem_cons_of_mem _ (List.mem_cons_of_mem _ (List.mem_cons_of_mem _ (List.mem_cons_of_mem _ (List.mem_cons_of_mem _ (List.mem_cons_of_mem _ (List.mem_cons_of_mem _ List.mem_cons_self))))))))))
  have g11 : 0 ≤ ((-1) : Int) + (1 * (zk_xe w 2000178 a0) + (4 * (zk_xe w 2000071 a5) + 0)) := hg _ (List.mem_cons_of_mem _ (List.mem_cons_of_mem _ (List.mem_cons_of_mem _ (List.mem_cons_of_mem _ (List.mem_cons_of_mem _ (List.mem_cons_of_mem _ (List.mem_cons_of_mem _ (List.mem_cons_of_mem _ (List.mem_cons_of_mem _ (List.mem_cons_of_mem _ (List.mem_cons_of_mem _ List.mem_cons_self)))))))))))
  have g12 : 0 ≤ (1 : Int) + ((-1) * (zk_xe w 2000178 a0) + (4 * (zk_xe w 2000071 a5) + 0)) := hg _ (List.mem_cons_of_mem _ (List.mem_cons_of_mem _ (List.mem_cons_of_mem _ (List.mem_cons_of_mem _ (List.mem_cons_of_mem _ (List.mem_cons_of_mem _ (List.mem_cons_of_mem _ (List.mem_cons_of_mem _ (List.mem_cons_of_mem _ (List.mem_cons_of_mem _ (List.mem_cons_of_mem _ (List.mem_cons_of_mem _ List.mem_cons_self))))))))))))
  have r0 : 0 ≤ a0 := hr _ List.mem_cons_self
  have r1 : 0 ≤ a1 := hr _ (List.mem_cons_of_mem _ List.mem_cons_self)
  have r2 : 0 ≤ a1 := hr _ (List.mem_cons_of_mem _ (List.mem_cons_of_mem _ List.mem_cons_self))
  have r3 : 0 ≤ a5 := hr _ (List.mem_cons_of_mem _ (List.mem_cons_of_mem _ (List.mem_cons_of_mem _ List.mem_cons_self)))
  have h0 := (zc_178 (w := w) (j := a0) (a := (8000 * a1)) (e := a2) (b := a3) (by omega) (by omega) (by omega) (by omega) (by omega) (by omega) (by omega) )
  have h4 := (zc_178 (w := w) (j := a4) (a := (8000 * a1)) (e := (8000 * a1 + zk_xe w 207 a1)) (b := a3) (by omega) (by omega) (by omega) (by omega) (by omega) (by omega) (by omega) )
  have hb : 0 ≤ zk_xe w 2000178 a4 ∧ zk_xe w 2000178 a4 ≤ 4 := by
    rw [h4]
    exact zc_vb
  have hr : zk_xe w 2000071 a5 = 1 ∨ (zk_xe w 2000071 a5 = 0 ∧ zk_xe w 2000178 a4 = zk_xe w 2000178 a0) := by
    rcases zs_71c (w := w) (j := a5) with ⟨hx, -⟩ | ⟨hx, hy⟩
    · exact Or.inl hx
    · refine Or.inr ⟨hx, ?_⟩
      have k0 : zh_e w 207 (a1) = zk_xe w 207 a1 := by rw [zk_xe_r (i := 207) (by decide)]; show zk_el w 207 (a1) = zk_el w 207 a1; rw [show a1 = a1 by omega]
      have ht := zs_73 (w := w) (j := a1)
      rw [zs_T0 hy, k0] at ht
      rw [h0, h4, show 8000 * a1 + zk_xe w 207 a1 - 8000 * a1 = zk_xe w 207 a1 by omega]
      rw [zc_tl (f := zh_e w 208) (c := zh_e w 211) (o := zh_e w 250 0) (a := 8000 * a1) (n := (zk_xe w 207 a1).toNat) (m := (a2 - 8000 * a1).toNat) (by omega) (by rw [← ht]; omega)]
  exact ⟨_, List.mem_cons_self, [zk_xe w 2000178 a4], rfl, (zx_bcons (by show (0 : Int) ≤ zk_xe w 2000178 a4 ∧ zk_xe w 2000178 a4 ≤ (4 : Int); omega) zx_bnil), (zx_cs1 (by show 0 ≤ ((-1) : Int) + (4 * (zk_xe w 2000071 a5) + (1 * (zk_xe w 2000178 a4) + 0)); omega) (zx_cs1 (by show 0 ≤ (1 : Int) + (4 * (zk_xe w 2000071 a5) + ((-1) * (zk_xe w 2000178 a4) + 0)); omega) zx_cs0)), (zx_eF1 (by show 0 ≤ (0 : Int) + (1 * a4 + 0); omega) (by show zk_xe w 2000178 ((0 : Int) + (1 * a4 + 0)) = (0 : Int) + (1 * (zk_xe w 2000178 a4) + 0); rw [show (0 : Int) + (1 * a4 + 0) = a4 by omega]; omega) zx_eF0), zx_k0⟩
def zx_D1200 : zx_L := zx_Lc [] 6 [(2000178, 0), (2000073, 1), (207, 1), (2000071, 5)] [] [((0, 0), [(0, 1, 0), (1, 0, 633825300114114700748351602688000), (2, 0, 18446744073709551616), (3, 0, 4294967296)]), ((0, 0), [(1, 0, 633825300261688653338028015616000), (3, 0, 4294967296), (4, 1, 0), (8, 0, 18446744073709551616)]), ((0, 0), [(5, 1, 0)])] [((0, 0), [(1, 1, 0)]), ((400000, 0), [(1, 0, 1)]), ((0, 0), [(2, 1, 0)]), ((4294967276, 0), [(2, 0, 1)]), ((0, 0), [(3, 1, 0)]), ((4294967276, 0), [(3, 0, 1)]), ((0, 0), [(1, 0, 8000), (2, 1, 0)]), ((0, 0), [(8, 1, 0)]), ((100000, 0), [(8, 0, 1)]), ((0, 0), [(1, 8000, 0), (2, 0, 1), (8, 1, 0)]), ((0, 0), [(1, 0, 8000), (2, 1, 0), (7, 0, 1)]), ((0, 3), [(6, 1, 0), (9, 4, 0)]), ((3, 0), [(6, 0, 1), (9, 4, 0)])] [([(0, 4)], [((0, 3), [(9, 4, 0), (10, 1, 0)]), ((3, 0), [(9, 4, 0), (10, 0, 1)])], [(2000178, ((0, 0), [(4, 1, 0)]), ((0, 0), [(10, 1, 0)]))], [])]
theorem zx_D1200_ok {PT : Nat → zz_W → Prop} : zx_Lok 64 zHT PT zx_D1200 := by
  refine zx_Lc_ok (fun w hI hK ins hl hr he hg => ?_)
  obtain ⟨a0, a1, a2, a3, a4, a5, rfl⟩ := zx_i6 hl
  have e0 : (0 : Int) + (1 * a0 + ((-633825300114114700748351602688000) * a1 + ((-18446744073709551616) * a2 + ((-4294967296) * a3 + 0)))) = 0 := he _ List.mem_cons_self
  have e1 : (0 : Int) + ((-633825300261688653338028015616000) * a1 + ((-4294967296) * a3 + (1 * a4 + ((-18446744073709551616) * (zk_xe w 207 a1) + 0)))) = 0 := he _ (List.mem_cons_of_mem _ List.mem_cons_self)
  have e2 : (0 : Int) + (1 * a5 + 0) = 0 := he _ (List.mem_cons_of_mem _ (List.mem_cons_of_mem _ List.mem_cons_self))
  have g0 : 0 ≤ (0 : Int) + (1 * a1 + 0) := hg _ List.mem_cons_self
  have g1 : 0 ≤ (400000 : Int) + ((-1) * a1 + 0) := hg _ (List.mem_cons_of_mem _ List.mem_cons_self)
  have g2 : 0 ≤ (0 : Int) + (1 * a2 + 0) := hg _ (List.mem_cons_of_mem _ (List.mem_cons_of_mem _ List.mem_cons_self))
  have g3 : 0 ≤ (4294967276 : Int) + ((-1) * a2 + 0) := hg _ (List.mem_cons_of_mem _ (List.mem_cons_of_mem _ (List.mem_cons_of_mem _ List.mem_cons_self)))
  have g4 : 0 ≤ (0 : Int) + (1 * a3 + 0) := hg _ (List.mem_cons_of_mem _ (List.mem_cons_of_mem _ (List.mem_cons_of_mem _ (List.mem_cons_of_mem _ List.mem_cons_self))))
  have g5 : 0 ≤ (4294967276 : Int) + ((-1) * a3 + 0) := hg _ (List.mem_cons_of_mem _ (List.mem_cons_of_mem _ (List.mem_cons_of_mem _ (List.mem_cons_of_mem _ (List.mem_cons_of_mem _ List.mem_cons_self)))))
  have g6 : 0 ≤ (0 : Int) + ((-8000) * a1 + (1 * a2 + 0)) := hg _ (List.mem_cons_of_mem _ (List.mem_cons_of_mem _ (List.mem_cons_of_mem _ (List.mem_cons_of_mem _ (List.mem_cons_of_mem _ (List.mem_cons_of_mem _ List.mem_cons_self))))))
  have g7 : 0 ≤ (0 : Int) + (1 * (zk_xe w 207 a1) + 0) := hg _ (List.mem_cons_of_mem _ (List.mem_cons_of_mem _ (List.mem_cons_of_mem _ (List.mem_cons_of_mem _ (List.mem_cons_of_mem _ (List.mem_cons_of_mem _ (List.mem_cons_of_mem _ List.mem_cons_self)))))))
  have g8 : 0 ≤ (100000 : Int) + ((-1) * (zk_xe w 207 a1) + 0) := hg _ (List.mem_cons_of_mem _ (List.mem_cons_of_mem _ (List.mem_cons_of_mem _ (List.mem_cons_of_mem _ (List.mem_cons_of_mem _ (List.mem_cons_of_mem _ (List.mem_cons_of_mem _ (List.mem_cons_of_mem _ List.mem_cons_self))))))))
  have g9 : 0 ≤ (0 : Int) + (8000 * a1 + ((-1) * a2 + (1 * (zk_xe w 207 a1) + 0))) := hg _ (List.mem_cons_of_mem _ (List.mem_cons_of_mem _ (List.mem_cons_of_mem _ (List.mem_cons_of_mem _ (List.mem_cons_of_mem _ (List.mem_cons_of_mem _ (List.mem_cons_of_mem _ (List.mem_cons_of_mem _ (List.mem_cons_of_mem _ List.mem_cons_self)))))))))
  have g10 : 0 ≤ (0 : Int) + ((-8000) * a1 + (1 * a2 + ((-1) * (zk_xe w 2000073 a1) + 0))) := hg _ (List.mem_cons_of_mem _ (List.mem_cons_of_mem _ (List.mem_cons_of_mem _ (List.mem_cons_of_mem _ (List.mem_cons_of_mem _ (List.mem_cons_of_mem _ (List.mem_cons_of_mem _ (List.mem_cons_of_mem _ (List.mem_cons_of_mem _ (List.mem_cons_of_mem _ List.mem_cons_self))))))))))
  have g11 : 0 ≤ ((-3) : Int) + (1 * (zk_xe w 2000178 a0) + (4 * (zk_xe w 2000071 a5) + 0)) := hg _ (List.mem_cons_of_mem _ (List.mem_cons_of_mem _ (List.mem_cons_of_mem _ (List.mem_cons_of_mem _ (List.mem_cons_of_mem _ (List.mem_cons_of_mem _ (List.mem_cons_of_mem _ (List.mem_cons_of_mem _ (List.mem_cons_of_mem _ (List.mem_cons_of_mem _ (List.mem_cons_of_mem _ List.mem_cons_self)))))))))))
  have g12 : 0 ≤ (3 : Int) + ((-1) * (zk_xe w 2000178 a0) + (4 * (zk_xe w 2000071 a5) + 0)) := hg _ (List.mem_cons_of_mem _ (List.mem_cons_of_mem _ (List.mem_cons_of_mem _ (List.mem_cons_of_mem _ (List.mem_cons_of_mem _ (List.mem_cons_of_mem _ (List.mem_cons_of_mem _ (List.mem_cons_of_mem _ (List.mem_cons_of_mem _ (List.mem_cons_of_mem _ (List.mem_cons_of_mem _ (List.mem_cons_of_mem _ List.mem_cons_self))))))))))))
  have r0 : 0 ≤ a0 := hr _ List.mem_cons_self
  have r1 : 0 ≤ a1 := hr _ (List.mem_cons_of_mem _ List.mem_cons_self)
  have r2 : 0 ≤ a1 := hr _ (List.mem_cons_of_mem _ (List.mem_cons_of_mem _ List.mem_cons_self))
  have r3 : 0 ≤ a5 := hr _ (List.mem_cons_of_mem _ (List.mem_cons_of_mem _ (List.mem_cons_of_mem _ List.mem_cons_self)))
  have h0 := (zc_178 (w := w) (j := a0) (a := (8000 * a1)) (e := a2) (b := a3) (by omega) (by omega) (by omega) (by omega) (by omega) (by omega) (by omega) )
  have h4 := (zc_178 (w := w) (j := a4) (a := (8000 * a1)) (e := (8000 * a1 + zk_xe w 207 a1)) (b := a3) (by omega) (by omega) (by omega) (by omega) (by omega) (by omega) (by omega) )
  have hb : 0 ≤ zk_xe w 2000178 a4 ∧ zk_xe w 2000178 a4 ≤ 4 := by
    rw [h4]
    exact zc_vb
  have hr : zk_xe w 2000071 a5 = 1 ∨ (zk_xe w 2000071 a5 = 0 ∧ zk_xe w 2000178 a4 = zk_xe w 2000178 a0) := by
    rcases zs_71c (w := w) (j := a5) with ⟨hx, -⟩ | ⟨hx, hy⟩
    · exact Or.inl hx
    · refine Or.inr ⟨hx, ?_⟩
      have k0 : zh_e w 207 (a1) = zk_xe w 207 a1 := by rw [zk_xe_r (i := 207) (by decide)]; show zk_el w 207 (a1) = zk_el w 207 a1; rw [show a1 = a1 by omega]
      have ht := zs_73 (w := w) (j := a1)
      rw [zs_T0 hy, k0] at ht
      rw [h0, h4, show 8000 * a1 + zk_xe w 207 a1 - 8000 * a1 = zk_xe w 207 a1 by omega]
      rw [zc_tl (f := zh_e w 208) (c := zh_e w 211) (o := zh_e w 250 0) (a := 8000 * a1) (n := (zk_xe w 207 a1).toNat) (m := (a2 - 8000 * a1).toNat) (by omega) (by rw [← ht]; omega)]
  exact ⟨_, List.mem_cons_self, [zk_xe w 2000178 a4], rfl, (zx_bcons (by show (0 : Int) ≤ zk_xe w 2000178 a4 ∧ zk_xe w 2000178 a4 ≤ (4 : Int); omega) zx_bnil), (zx_cs1 (by show 0 ≤ ((-3) : Int) + (4 * (zk_xe w 2000071 a5) + (1 * (zk_xe w 2000178 a4) + 0)); omega) (zx_cs1 (by show 0 ≤ (3 : Int) + (4 * (zk_xe w 2000071 a5) + ((-1) * (zk_xe w 2000178 a4) + 0)); omega) zx_cs0)), (zx_eF1 (by show 0 ≤ (0 : Int) + (1 * a4 + 0); omega) (by show zk_xe w 2000178 ((0 : Int) + (1 * a4 + 0)) = (0 : Int) + (1 * (zk_xe w 2000178 a4) + 0); rw [show (0 : Int) + (1 * a4 + 0) = a4 by omega]; omega) zx_eF0), zx_k0⟩
def zx_E735 : zx_V := zx_Vc 233 [] 3 [(2000180, 0)] [((0, 0), [(2, 1, 0), (3, 0, 1), (4, 0, 4294967296)]), ((0, 1), [(5, 1, 0)])] [((0, 0), [(3, 1, 0)]), ((4294967276, 0), [(3, 0, 1)]), ((0, 0), [(4, 1, 0)]), ((4294967276, 0), [(4, 0, 1)]), ((0, 0), [(0, 1, 0), (3, 0, 1)])] [(2000180, ((0, 0), [(2, 1, 0)]), ((1, 0), []))]
theorem zx_E735_ok {PT : Nat → zz_W → Prop} : zx_Vok 64 zHT PT zx_E735 := by
  refine zx_Vc_ok (fun w w' j ins hI hI' h0 hw hK hl he hg => ?_)
  obtain ⟨a0, a1, a2, rfl⟩ := zx_i3 hl
  have e0 : (0 : Int) + (1 * a0 + ((-1) * a1 + ((-4294967296) * a2 + 0))) = 0 := he _ List.mem_cons_self
  have e1 : ((-1) : Int) + (1 * (zk_xe w 2000180 a0) + 0) = 0 := he _ (List.mem_cons_of_mem _ List.mem_cons_self)
  have g0 : 0 ≤ (0 : Int) + (1 * a1 + 0) := hg _ List.mem_cons_self
  have g1 : 0 ≤ (4294967276 : Int) + ((-1) * a1 + 0) := hg _ (List.mem_cons_of_mem _ List.mem_cons_self)
  have g2 : 0 ≤ (0 : Int) + (1 * a2 + 0) := hg _ (List.mem_cons_of_mem _ (List.mem_cons_of_mem _ List.mem_cons_self))
  have g3 : 0 ≤ (4294967276 : Int) + ((-1) * a2 + 0) := hg _ (List.mem_cons_of_mem _ (List.mem_cons_of_mem _ (List.mem_cons_of_mem _ List.mem_cons_self)))
  have g4 : 0 ≤ (0 : Int) + (1 * j + ((-1) * a1 + 0)) := hg _ (List.mem_cons_of_mem _ (List.mem_cons_of_mem _ (List.mem_cons_of_mem _ (List.mem_cons_of_mem _ List.mem_cons_self))))
  have hp := (zc_180 (w := w) (j := a0) (f := a1) (N := a2) (by omega) (by omega) (by omega) (by omega) (by omega) ).mp (by omega)
  have h : zk_xe w' 2000180 a0 = 1 := by
    refine (zc_180 (w := w') (j := a0) (f := a1) (N := a2) (by omega) (by omega) (by omega) (by omega) (by omega) ).mpr (fun i i0 i1 => ?_)
    have q : zh_e w' 233 i = zh_e w 233 i := hw.2 i i0 (by omega)
    rw [zh_e_g (hw.1 234 (by decide)), zh_e_g (hw.1 235 (by decide)), q]
    exact hp i i0 i1
  exact (zx_eF1 (by show 0 ≤ (0 : Int) + (1 * a0 + 0); omega) (by show zk_xe w' 2000180 ((0 : Int) + (1 * a0 + 0)) = (1 : Int) + (0); rw [show (0 : Int) + (1 * a0 + 0) = a0 by omega]; exact h.trans (by omega)) zx_eF0)
def zx_E736 : zx_V := zx_Vc 234 [] 3 [(2000180, 0)] [((0, 0), [(2, 1, 0), (3, 0, 1), (4, 0, 4294967296)]), ((0, 1), [(5, 1, 0)])] [((0, 0), [(3, 1, 0)]), ((4294967276, 0), [(3, 0, 1)]), ((0, 0), [(4, 1, 0)]), ((4294967276, 0), [(4, 0, 1)]), ((0, 0), [(0, 1, 0), (3, 0, 1)])] [(2000180, ((0, 0), [(2, 1, 0)]), ((1, 0), []))]
theorem zx_E736_ok {PT : Nat → zz_W → Prop} : zx_Vok 64 zHT PT zx_E736 := by
  refine zx_Vc_ok (fun w w' j ins hI hI' h0 hw hK hl he hg => ?_)
  obtain ⟨a0, a1, a2, rfl⟩ := zx_i3 hl
  have e0 : (0 : Int) + (1 * a0 + ((-1) * a1 + ((-4294967296) * a2 + 0))) = 0 := he _ List.mem_cons_self
  have e1 : ((-1) : Int) + (1 * (zk_xe w 2000180 a0) + 0) = 0 := he _ (List.mem_cons_of_mem _ List.mem_cons_self)
  have g0 : 0 ≤ (0 : Int) + (1 * a1 + 0) := hg _ List.mem_cons_self
  have g1 : 0 ≤ (4294967276 : Int) + ((-1) * a1 + 0) := hg _ (List.mem_cons_of_mem _ List.mem_cons_self)
  have g2 : 0 ≤ (0 : Int) + (1 * a2 + 0) := hg _ (List.mem_cons_of_mem _ (List.mem_cons_of_mem _ List.mem_cons_self))
  have g3 : 0 ≤ (4294967276 : Int) + ((-1) * a2 + 0) := hg _ (List.mem_cons_of_mem _ (List.mem_cons_of_mem _ (List.mem_cons_of_mem _ List.mem_cons_self)))
  have g4 : 0 ≤ (0 : Int) + (1 * j + ((-1) * a1 + 0)) := hg _ (List.mem_cons_of_mem _ (List.mem_cons_of_mem _ (List.mem_cons_of_mem _ (List.mem_cons_of_mem _ List.mem_cons_self))))
  have hp := (zc_180 (w := w) (j := a0) (f := a1) (N := a2) (by omega) (by omega) (by omega) (by omega) (by omega) ).mp (by omega)
  have h : zk_xe w' 2000180 a0 = 1 := by
    refine (zc_180 (w := w') (j := a0) (f := a1) (N := a2) (by omega) (by omega) (by omega) (by omega) (by omega) ).mpr (fun i i0 i1 => ?_)
    have q : zh_e w' 234 i = zh_e w 234 i := hw.2 i i0 (by omega)
    rw [zh_e_g (hw.1 233 (by decide)), zh_e_g (hw.1 235 (by decide)), q]
    exact hp i i0 i1
  exact (zx_eF1 (by show 0 ≤ (0 : Int) + (1 * a0 + 0); omega) (by show zk_xe w' 2000180 ((0 : Int) + (1 * a0 + 0)) = (1 : Int) + (0); rw [show (0 : Int) + (1 * a0 + 0) = a0 by omega]; exact h.trans (by omega)) zx_eF0)
def zx_E737 : zx_V := zx_Vc 235 [] 3 [(2000180, 0)] [((0, 0), [(2, 1, 0), (3, 0, 1), (4, 0, 4294967296)]), ((0, 1), [(5, 1, 0)])] [((0, 0), [(3, 1, 0)]), ((4294967276, 0), [(3, 0, 1)]), ((0, 0), [(4, 1, 0)]), ((4294967276, 0), [(4, 0, 1)]), ((0, 0), [(0, 1, 0), (3, 0, 1)])] [(2000180, ((0, 0), [(2, 1, 0)]), ((1, 0), []))]
theorem zx_E737_ok {PT : Nat → zz_W → Prop} : zx_Vok 64 zHT PT zx_E737 := by
  refine zx_Vc_ok (fun w w' j ins hI hI' h0 hw hK hl he hg => ?_)
  obtain ⟨a0, a1, a2, rfl⟩ := zx_i3 hl
  have e0 : (0 : Int) + (1 * a0 + ((-1) * a1 + ((-4294967296) * a2 + 0))) = 0 := he _ List.mem_cons_self
  have e1 : ((-1) : Int) + (1 * (zk_xe w 2000180 a0) + 0) = 0 := he _ (List.mem_cons_of_mem _ List.mem_cons_self)
  have g0 : 0 ≤ (0 : Int) + (1 * a1 + 0) := hg _ List.mem_cons_self
  have g1 : 0 ≤ (4294967276 : Int) + ((-1) * a1 + 0) := hg _ (List.mem_cons_of_mem _ List.mem_cons_self)
  have g2 : 0 ≤ (0 : Int) + (1 * a2 + 0) := hg _ (List.mem_cons_of_mem _ (List.mem_cons_of_mem _ List.mem_cons_self))
  have g3 : 0 ≤ (4294967276 : Int) + ((-1) * a2 + 0) := hg _ (List.mem_cons_of_mem _ (List.mem_cons_of_mem _ (List.mem_cons_of_mem _ List.mem_cons_self)))
  have g4 : 0 ≤ (0 : Int) + (1 * j + ((-1) * a1 + 0)) := hg _ (List.mem_cons_of_mem _ (List.mem_cons_of_mem _ (List.mem_cons_of_mem _ (List.mem_cons_of_mem _ List.mem_cons_self))))
  have hp := (zc_180 (w := w) (j := a0) (f := a1) (N := a2) (by omega) (by omega) (by omega) (by omega) (by omega) ).mp (by omega)
  have h : zk_xe w' 2000180 a0 = 1 := by
    refine (zc_180 (w := w') (j := a0) (f := a1) (N := a2) (by omega) (by omega) (by omega) (by omega) (by omega) ).mpr (fun i i0 i1 => ?_)
    have q : zh_e w' 235 i = zh_e w 235 i := hw.2 i i0 (by omega)
    rw [zh_e_g (hw.1 233 (by decide)), zh_e_g (hw.1 234 (by decide)), q]
    exact hp i i0 i1
  exact (zx_eF1 (by show 0 ≤ (0 : Int) + (1 * a0 + 0); omega) (by show zk_xe w' 2000180 ((0 : Int) + (1 * a0 + 0)) = (1 : Int) + (0); rw [show (0 : Int) + (1 * a0 + 0) = a0 by omega]; exact h.trans (by omega)) zx_eF0)
def zx_D1164 : zx_L := zx_Lc [] 4 [(2000180, 0), (233, 1), (234, 1), (235, 1)] [] [((0, 0), [(0, 1, 0), (1, 0, 1), (2, 0, 4294967296)]), ((0, 1), [(4, 1, 0)]), ((0, 1), [(1, 0, 1), (2, 0, 4294967296), (3, 1, 0)])] [((0, 0), [(1, 1, 0)]), ((4294967276, 0), [(1, 0, 1)]), ((0, 0), [(2, 1, 0)]), ((4294967276, 0), [(2, 0, 1)]), ((0, 0), [(5, 1, 0)]), ((0, 1), [(2, 1, 0), (5, 0, 1)]), ((0, 1), [(6, 1, 0)]), ((7, 0), [(6, 0, 1)]), ((0, 0), [(7, 1, 0)]), ((200, 0), [(7, 0, 1)])] [([], [], [(2000180, ((0, 0), [(3, 1, 0)]), ((1, 0), []))], [])]
theorem zx_D1164_ok {PT : Nat → zz_W → Prop} : zx_Lok 64 zHT PT zx_D1164 := by
  refine zx_Lc_ok (fun w hI hK ins hl hr he hg => ?_)
  obtain ⟨a0, a1, a2, a3, rfl⟩ := zx_i4 hl
  have e0 : (0 : Int) + (1 * a0 + ((-1) * a1 + ((-4294967296) * a2 + 0))) = 0 := he _ List.mem_cons_self
  have e1 : ((-1) : Int) + (1 * (zk_xe w 2000180 a0) + 0) = 0 := he _ (List.mem_cons_of_mem _ List.mem_cons_self)
  have e2 : ((-1) : Int) + ((-1) * a1 + ((-4294967296) * a2 + (1 * a3 + 0))) = 0 := he _ (List.mem_cons_of_mem _ (List.mem_cons_of_mem _ List.mem_cons_self))
  have g0 : 0 ≤ (0 : Int) + (1 * a1 + 0) := hg _ List.mem_cons_self
  have g1 : 0 ≤ (4294967276 : Int) + ((-1) * a1 + 0) := hg _ (List.mem_cons_of_mem _ List.mem_cons_self)
  have g2 : 0 ≤ (0 : Int) + (1 * a2 + 0) := hg _ (List.mem_cons_of_mem _ (List.mem_cons_of_mem _ List.mem_cons_self))
  have g3 : 0 ≤ (4294967276 : Int) + ((-1) * a2 + 0) := hg _ (List.mem_cons_of_mem _ (List.mem_cons_of_mem _ (List.mem_cons_of_mem _ List.mem_cons_self)))
  have g4 : 0 ≤ (0 : Int) + (1 * (zk_xe w 233 a1) + 0) := hg _ (List.mem_cons_of_mem _ (List.mem_cons_of_mem _ (List.mem_cons_of_mem _ (List.mem_cons_of_mem _ List.mem_cons_self))))
  have g5 : 0 ≤ ((-1) : Int) + (1 * a2 + ((-1) * (zk_xe w 233 a1) + 0)) := hg _ (List.mem_cons_of_mem _ (List.mem_cons_of_mem _ (List.mem_cons_of_mem _ (List.mem_cons_of_mem _ (List.mem_cons_of_mem _ List.mem_cons_self)))))
  have g6 : 0 ≤ ((-1) : Int) + (1 * (zk_xe w 234 a1) + 0) := hg _ (List.mem_cons_of_mem _ (List.mem_cons_of_mem _ (List.mem_cons_of_mem _ (List.mem_cons_of_mem _ (List.mem_cons_of_mem _ (List.mem_cons_of_mem _ List.mem_cons_self))))))
  have g7 : 0 ≤ (7 : Int) + ((-1) * (zk_xe w 234 a1) + 0) := hg _ (List.mem_cons_of_mem _ (List.mem_cons_of_mem _ (List.mem_cons_of_mem _ (List.mem_cons_of_mem _ (List.mem_cons_of_mem _ (List.mem_cons_of_mem _ (List.mem_cons_of_mem _ List.mem_cons_self)))))))
  have g8 : 0 ≤ (0 : Int) + (1 * (zk_xe w 235 a1) + 0) := hg _ (List.mem_cons_of_mem _ (List.mem_cons_of_mem _ (List.mem_cons_of_mem _ (List.mem_cons_of_mem _ (List.mem_cons_of_mem _ (List.mem_cons_of_mem _ (List.mem_cons_of_mem _ (List.mem_cons_of_mem _ List.mem_cons_self))))))))
  have g9 : 0 ≤ (200 : Int) + ((-1) * (zk_xe w 235 a1) + 0) := hg _ (List.mem_cons_of_mem _ (List.mem_cons_of_mem _ (List.mem_cons_of_mem _ (List.mem_cons_of_mem _ (List.mem_cons_of_mem _ (List.mem_cons_of_mem _ (List.mem_cons_of_mem _ (List.mem_cons_of_mem _ (List.mem_cons_of_mem _ List.mem_cons_self)))))))))
  have r0 : 0 ≤ a0 := hr _ List.mem_cons_self
  have r1 : 0 ≤ a1 := hr _ (List.mem_cons_of_mem _ List.mem_cons_self)
  have r2 : 0 ≤ a1 := hr _ (List.mem_cons_of_mem _ (List.mem_cons_of_mem _ List.mem_cons_self))
  have r3 : 0 ≤ a1 := hr _ (List.mem_cons_of_mem _ (List.mem_cons_of_mem _ (List.mem_cons_of_mem _ List.mem_cons_self)))
  have hp := (zc_180 (w := w) (j := a0) (f := a1) (N := a2) (by omega) (by omega) (by omega) (by omega) (by omega) ).mp (by omega)
  have k0 : zh_e w 233 (a1) = zk_xe w 233 a1 := by rw [zk_xe_r (i := 233) (by decide)]; show zk_el w 233 (a1) = zk_el w 233 a1; rw [show a1 = a1 by omega]
  have k1 : zh_e w 234 (a1) = zk_xe w 234 a1 := by rw [zk_xe_r (i := 234) (by decide)]; show zk_el w 234 (a1) = zk_el w 234 a1; rw [show a1 = a1 by omega]
  have k2 : zh_e w 235 (a1) = zk_xe w 235 a1 := by rw [zk_xe_r (i := 235) (by decide)]; show zk_el w 235 (a1) = zk_el w 235 a1; rw [show a1 = a1 by omega]
  have h : zk_xe w 2000180 a3 = 1 := by
    refine (zc_180 (w := w) (j := a3) (f := (a1 + 1)) (N := a2) (by omega) (by omega) (by omega) (by omega) (by omega) ).mpr (fun i i0 i1 => ?_)
    by_cases c : i = a1
    · rw [c, k0, k1, k2]
      omega
    · exact hp i i0 (by omega)
  exact ⟨_, List.mem_cons_self, [], rfl, zx_bnil, zx_cs0, (zx_eF1 (by show 0 ≤ (0 : Int) + (1 * a3 + 0); omega) (by show zk_xe w 2000180 ((0 : Int) + (1 * a3 + 0)) = (1 : Int) + (0); rw [show (0 : Int) + (1 * a3 + 0) = a3 by omega]; exact h.trans (by omega)) zx_eF0), zx_k0⟩
def zx_D1165 : zx_L := zx_Lc [] 2 [] [] [((0, 0), [(0, 1, 0), (1, 0, 4294967296)])] [((0, 0), [(1, 1, 0)]), ((4294967276, 0), [(1, 0, 1)])] [([], [], [(2000180, ((0, 0), [(0, 1, 0)]), ((1, 0), []))], [])]
theorem zx_D1165_ok {PT : Nat → zz_W → Prop} : zx_Lok 64 zHT PT zx_D1165 := by
  refine zx_Lc_ok (fun w hI hK ins hl hr he hg => ?_)
  obtain ⟨a0, a1, rfl⟩ := zx_i2 hl
  have e0 : (0 : Int) + (1 * a0 + ((-4294967296) * a1 + 0)) = 0 := he _ List.mem_cons_self
  have g0 : 0 ≤ (0 : Int) + (1 * a1 + 0) := hg _ List.mem_cons_self
  have g1 : 0 ≤ (4294967276 : Int) + ((-1) * a1 + 0) := hg _ (List.mem_cons_of_mem _ List.mem_cons_self)
  have h : zk_xe w 2000180 a0 = 1 := (zc_180 (w := w) (j := a0) (f := 0) (N := a1) (by omega) (by omega) (by omega) (by omega) (by omega) ).mpr (fun i i0 i1 => by omega)
  exact ⟨_, List.mem_cons_self, [], rfl, zx_bnil, zx_cs0, (zx_eF1 (by show 0 ≤ (0 : Int) + (1 * a0 + 0); omega) (by show zk_xe w 2000180 ((0 : Int) + (1 * a0 + 0)) = (1 : Int) + (0); rw [show (0 : Int) + (1 * a0 + 0) = a0 by omega]; exact h.trans (by omega)) zx_eF0), zx_k0⟩
def zx_D1166 : zx_L := zx_Lc [] 5 [(2000180, 0)] [] [((0, 0), [(0, 1, 0), (1, 0, 1), (2, 0, 4294967296)]), ((0, 1), [(5, 1, 0)]), ((0, 0), [(1, 0, 1), (3, 1, 0), (4, 0, 4294967296)])] [((0, 0), [(1, 1, 0)]), ((4294967276, 0), [(1, 0, 1)]), ((0, 0), [(2, 1, 0)]), ((4294967276, 0), [(2, 0, 1)]), ((0, 0), [(4, 1, 0)]), ((4294967276, 0), [(4, 0, 1)]), ((0, 0), [(2, 0, 1), (4, 1, 0)])] [([], [], [(2000180, ((0, 0), [(3, 1, 0)]), ((1, 0), []))], [])]
theorem zx_D1166_ok {PT : Nat → zz_W → Prop} : zx_Lok 64 zHT PT zx_D1166 := by
  refine zx_Lc_ok (fun w hI hK ins hl hr he hg => ?_)
  obtain ⟨a0, a1, a2, a3, a4, rfl⟩ := zx_i5 hl
  have e0 : (0 : Int) + (1 * a0 + ((-1) * a1 + ((-4294967296) * a2 + 0))) = 0 := he _ List.mem_cons_self
  have e1 : ((-1) : Int) + (1 * (zk_xe w 2000180 a0) + 0) = 0 := he _ (List.mem_cons_of_mem _ List.mem_cons_self)
  have e2 : (0 : Int) + ((-1) * a1 + (1 * a3 + ((-4294967296) * a4 + 0))) = 0 := he _ (List.mem_cons_of_mem _ (List.mem_cons_of_mem _ List.mem_cons_self))
  have g0 : 0 ≤ (0 : Int) + (1 * a1 + 0) := hg _ List.mem_cons_self
  have g1 : 0 ≤ (4294967276 : Int) + ((-1) * a1 + 0) := hg _ (List.mem_cons_of_mem _ List.mem_cons_self)
  have g2 : 0 ≤ (0 : Int) + (1 * a2 + 0) := hg _ (List.mem_cons_of_mem _ (List.mem_cons_of_mem _ List.mem_cons_self))
  have g3 : 0 ≤ (4294967276 : Int) + ((-1) * a2 + 0) := hg _ (List.mem_cons_of_mem _ (List.mem_cons_of_mem _ (List.mem_cons_of_mem _ List.mem_cons_self)))
  have g4 : 0 ≤ (0 : Int) + (1 * a4 + 0) := hg _ (List.mem_cons_of_mem _ (List.mem_cons_of_mem _ (List.mem_cons_of_mem _ (List.mem_cons_of_mem _ List.mem_cons_self))))
  have g5 : 0 ≤ (4294967276 : Int) + ((-1) * a4 + 0) := hg _ (List.mem_cons_of_mem _ (List.mem_cons_of_mem _ (List.mem_cons_of_mem _ (List.mem_cons_of_mem _ (List.mem_cons_of_mem _ List.mem_cons_self)))))
  have g6 : 0 ≤ (0 : Int) + ((-1) * a2 + (1 * a4 + 0)) := hg _ (List.mem_cons_of_mem _ (List.mem_cons_of_mem _ (List.mem_cons_of_mem _ (List.mem_cons_of_mem _ (List.mem_cons_of_mem _ (List.mem_cons_of_mem _ List.mem_cons_self))))))
  have r0 : 0 ≤ a0 := hr _ List.mem_cons_self
  have hp := (zc_180 (w := w) (j := a0) (f := a1) (N := a2) (by omega) (by omega) (by omega) (by omega) (by omega) ).mp (by omega)
  have h : zk_xe w 2000180 a3 = 1 := by
    refine (zc_180 (w := w) (j := a3) (f := a1) (N := a4) (by omega) (by omega) (by omega) (by omega) (by omega) ).mpr (fun i i0 i1 => ?_)
    have q := hp i i0 i1
    omega
  exact ⟨_, List.mem_cons_self, [], rfl, zx_bnil, zx_cs0, (zx_eF1 (by show 0 ≤ (0 : Int) + (1 * a3 + 0); omega) (by show zk_xe w 2000180 ((0 : Int) + (1 * a3 + 0)) = (1 : Int) + (0); rw [show (0 : Int) + (1 * a3 + 0) = a3 by omega]; exact h.trans (by omega)) zx_eF0), zx_k0⟩
def zx_E740 : zx_V := zx_Vc 214 [] 3 [(2000177, 0)] [((0, 0), [(2, 1, 0), (3, 0, 1), (4, 0, 4294967296)]), ((0, 1), [(5, 1, 0)])] [((0, 0), [(3, 1, 0)]), ((4294967276, 0), [(3, 0, 1)]), ((0, 0), [(4, 1, 0)]), ((4294967276, 0), [(4, 0, 1)]), ((0, 0), [(0, 1, 0), (3, 0, 64), (4, 0, 1)])] [(2000177, ((0, 0), [(2, 1, 0)]), ((1, 0), []))]
theorem zx_E740_ok {PT : Nat → zz_W → Prop} : zx_Vok 64 zHT PT zx_E740 := by
  refine zx_Vc_ok (fun w w' j ins hI hI' h0 hw hK hl he hg => ?_)
  obtain ⟨a0, a1, a2, rfl⟩ := zx_i3 hl
  have e0 : (0 : Int) + (1 * a0 + ((-1) * a1 + ((-4294967296) * a2 + 0))) = 0 := he _ List.mem_cons_self
  have e1 : ((-1) : Int) + (1 * (zk_xe w 2000177 a0) + 0) = 0 := he _ (List.mem_cons_of_mem _ List.mem_cons_self)
  have g0 : 0 ≤ (0 : Int) + (1 * a1 + 0) := hg _ List.mem_cons_self
  have g1 : 0 ≤ (4294967276 : Int) + ((-1) * a1 + 0) := hg _ (List.mem_cons_of_mem _ List.mem_cons_self)
  have g2 : 0 ≤ (0 : Int) + (1 * a2 + 0) := hg _ (List.mem_cons_of_mem _ (List.mem_cons_of_mem _ List.mem_cons_self))
  have g3 : 0 ≤ (4294967276 : Int) + ((-1) * a2 + 0) := hg _ (List.mem_cons_of_mem _ (List.mem_cons_of_mem _ (List.mem_cons_of_mem _ List.mem_cons_self)))
  have g4 : 0 ≤ (0 : Int) + (1 * j + ((-64) * a1 + ((-1) * a2 + 0))) := hg _ (List.mem_cons_of_mem _ (List.mem_cons_of_mem _ (List.mem_cons_of_mem _ (List.mem_cons_of_mem _ List.mem_cons_self))))
  have hp := (zc_177 (w := w) (j := a0) (u := a1) (k := a2) (by omega) (by omega) (by omega) (by omega) (by omega) ).mp (by omega)
  have h : zk_xe w' 2000177 a0 = 1 := by
    refine (zc_177 (w := w') (j := a0) (u := a1) (k := a2) (by omega) (by omega) (by omega) (by omega) (by omega) ).mpr (fun i i0 i1 => ?_)
    have q : zh_e w' 214 (64 * a1 + i) = zh_e w 214 (64 * a1 + i) := hw.2 _ (by omega) (by omega)
    rw [zh_e_g (hw.1 233 (by decide)), zh_e_g (hw.1 215 (by decide)), zh_e_g (hw.1 234 (by decide)), zh_e_g (hw.1 216 (by decide)), zh_e_g (hw.1 235 (by decide)), zh_e_g (hw.1 217 (by decide)), zh_e_g (hw.1 236 (by decide)), q]
    exact hp i i0 i1
  exact (zx_eF1 (by show 0 ≤ (0 : Int) + (1 * a0 + 0); omega) (by show zk_xe w' 2000177 ((0 : Int) + (1 * a0 + 0)) = (1 : Int) + (0); rw [show (0 : Int) + (1 * a0 + 0) = a0 by omega]; exact h.trans (by omega)) zx_eF0)
def zx_E741 : zx_V := zx_Vc 215 [] 3 [(2000177, 0)] [((0, 0), [(2, 1, 0), (3, 0, 1), (4, 0, 4294967296)]), ((0, 1), [(5, 1, 0)])] [((0, 0), [(3, 1, 0)]), ((4294967276, 0), [(3, 0, 1)]), ((0, 0), [(4, 1, 0)]), ((4294967276, 0), [(4, 0, 1)]), ((0, 0), [(0, 1, 0), (3, 0, 64), (4, 0, 1)])] [(2000177, ((0, 0), [(2, 1, 0)]), ((1, 0), []))]
theorem zx_E741_ok {PT : Nat → zz_W → Prop} : zx_Vok 64 zHT PT zx_E741 := by
  refine zx_Vc_ok (fun w w' j ins hI hI' h0 hw hK hl he hg => ?_)
  obtain ⟨a0, a1, a2, rfl⟩ := zx_i3 hl
  have e0 : (0 : Int) + (1 * a0 + ((-1) * a1 + ((-4294967296) * a2 + 0))) = 0 := he _ List.mem_cons_self
  have e1 : ((-1) : Int) + (1 * (zk_xe w 2000177 a0) + 0) = 0 := he _ (List.mem_cons_of_mem _ List.mem_cons_self)
  have g0 : 0 ≤ (0 : Int) + (1 * a1 + 0) := hg _ List.mem_cons_self
  have g1 : 0 ≤ (4294967276 : Int) + ((-1) * a1 + 0) := hg _ (List.mem_cons_of_mem _ List.mem_cons_self)
  have g2 : 0 ≤ (0 : Int) + (1 * a2 + 0) := hg _ (List.mem_cons_of_mem _ (List.mem_cons_of_mem _ List.mem_cons_self))
  have g3 : 0 ≤ (4294967276 : Int) + ((-1) * a2 + 0) := hg _ (List.mem_cons_of_mem _ (List.mem_cons_of_mem _ (List.mem_cons_of_mem _ List.mem_cons_self)))
  have g4 : 0 ≤ (0 : Int) + (1 * j + ((-64) * a1 + ((-1) * a2 + 0))) := hg _ (List.mem_cons_of_mem _ (List.mem_cons_of_mem _ (List.mem_cons_of_mem _ (List.mem_cons_of_mem _ List.mem_cons_self))))
  have hp := (zc_177 (w := w) (j := a0) (u := a1) (k := a2) (by omega) (by omega) (by omega) (by omega) (by omega) ).mp (by omega)
  have h : zk_xe w' 2000177 a0 = 1 := by
    refine (zc_177 (w := w') (j := a0) (u := a1) (k := a2) (by omega) (by omega) (by omega) (by omega) (by omega) ).mpr (fun i i0 i1 => ?_)
    have q : zh_e w' 215 (64 * a1 + i) = zh_e w 215 (64 * a1 + i) := hw.2 _ (by omega) (by omega)
    rw [zh_e_g (hw.1 214 (by decide)), zh_e_g (hw.1 233 (by decide)), zh_e_g (hw.1 234 (by decide)), zh_e_g (hw.1 216 (by decide)), zh_e_g (hw.1 235 (by decide)), zh_e_g (hw.1 217 (by decide)), zh_e_g (hw.1 236 (by decide)), q]
    exact hp i i0 i1
  exact (zx_eF1 (by show 0 ≤ (0 : Int) + (1 * a0 + 0); omega) (by show zk_xe w' 2000177 ((0 : Int) + (1 * a0 + 0)) = (1 : Int) + (0); rw [show (0 : Int) + (1 * a0 + 0) = a0 by omega]; exact h.trans (by omega)) zx_eF0)
def zx_E742 : zx_V := zx_Vc 216 [] 3 [(2000177, 0)] [((0, 0), [(2, 1, 0), (3, 0, 1), (4, 0, 4294967296)]), ((0, 1), [(5, 1, 0)])] [((0, 0), [(3, 1, 0)]), ((4294967276, 0), [(3, 0, 1)]), ((0, 0), [(4, 1, 0)]), ((4294967276, 0), [(4, 0, 1)]), ((0, 0), [(0, 1, 0), (3, 0, 64), (4, 0, 1)])] [(2000177, ((0, 0), [(2, 1, 0)]), ((1, 0), []))]
theorem zx_E742_ok {PT : Nat → zz_W → Prop} : zx_Vok 64 zHT PT zx_E742 := by
  refine zx_Vc_ok (fun w w' j ins hI hI' h0 hw hK hl he hg => ?_)
  obtain ⟨a0, a1, a2, rfl⟩ := zx_i3 hl
  have e0 : (0 : Int) + (1 * a0 + ((-1) * a1 + ((-4294967296) * a2 + 0))) = 0 := he _ List.mem_cons_self
  have e1 : ((-1) : Int) + (1 * (zk_xe w 2000177 a0) + 0) = 0 := he _ (List.mem_cons_of_mem _ List.mem_cons_self)
  have g0 : 0 ≤ (0 : Int) + (1 * a1 + 0) := hg _ List.mem_cons_self
  have g1 : 0 ≤ (4294967276 : Int) + ((-1) * a1 + 0) := hg _ (List.mem_cons_of_mem _ List.mem_cons_self)
  have g2 : 0 ≤ (0 : Int) + (1 * a2 + 0) := hg _ (List.mem_cons_of_mem _ (List.mem_cons_of_mem _ List.mem_cons_self))
  have g3 : 0 ≤ (4294967276 : Int) + ((-1) * a2 + 0) := hg _ (List.mem_cons_of_mem _ (List.mem_cons_of_mem _ (List.mem_cons_of_mem _ List.mem_cons_self)))
  have g4 : 0 ≤ (0 : Int) + (1 * j + ((-64) * a1 + ((-1) * a2 + 0))) := hg _ (List.mem_cons_of_mem _ (List.mem_cons_of_mem _ (List.mem_cons_of_mem _ (List.mem_cons_of_mem _ List.mem_cons_self))))
  have hp := (zc_177 (w := w) (j := a0) (u := a1) (k := a2) (by omega) (by omega) (by omega) (by omega) (by omega) ).mp (by omega)
  have h : zk_xe w' 2000177 a0 = 1 := by
    refine (zc_177 (w := w') (j := a0) (u := a1) (k := a2) (by omega) (by omega) (by omega) (by omega) (by omega) ).mpr (fun i i0 i1 => ?_)
    have q : zh_e w' 216 (64 * a1 + i) = zh_e w 216 (64 * a1 + i) := hw.2 _ (by omega) (by omega)
    rw [zh_e_g (hw.1 214 (by decide)), zh_e_g (hw.1 233 (by decide)), zh_e_g (hw.1 215 (by decide)), zh_e_g (hw.1 234 (by decide)), zh_e_g (hw.1 235 (by decide)), zh_e_g (hw.1 217 (by decide)), zh_e_g (hw.1 236 (by decide)), q]
    exact hp i i0 i1
  exact (zx_eF1 (by show 0 ≤ (0 : Int) + (1 * a0 + 0); omega) (by show zk_xe w' 2000177 ((0 : Int) + (1 * a0 + 0)) = (1 : Int) + (0); rw [show (0 : Int) + (1 * a0 + 0) = a0 by omega]; exact h.trans (by omega)) zx_eF0)
def zx_E743 : zx_V := zx_Vc 217 [] 3 [(2000177, 0)] [((0, 0), [(2, 1, 0), (3, 0, 1), (4, 0, 4294967296)]), ((0, 1), [(5, 1, 0)])] [((0, 0), [(3, 1, 0)]), ((4294967276, 0), [(3, 0, 1)]), ((0, 0), [(4, 1, 0)]), ((4294967276, 0), [(4, 0, 1)]), ((0, 0), [(0, 1, 0), (3, 0, 64), (4, 0, 1)])] [(2000177, ((0, 0), [(2, 1, 0)]), ((1, 0), []))]
theorem zx_E743_ok {PT : Nat → zz_W → Prop} : zx_Vok 64 zHT PT zx_E743 := by
  refine zx_Vc_ok (fun w w' j ins hI hI' h0 hw hK hl he hg => ?_)
  obtain ⟨a0, a1, a2, rfl⟩ := zx_i3 hl
  have e0 : (0 : Int) + (1 * a0 + ((-1) * a1 + ((-4294967296) * a2 + 0))) = 0 := he _ List.mem_cons_self
  have e1 : ((-1) : Int) + (1 * (zk_xe w 2000177 a0) + 0) = 0 := he _ (List.mem_cons_of_mem _ List.mem_cons_self)
  have g0 : 0 ≤ (0 : Int) + (1 * a1 + 0) := hg _ List.mem_cons_self
  have g1 : 0 ≤ (4294967276 : Int) + ((-1) * a1 + 0) := hg _ (List.mem_cons_of_mem _ List.mem_cons_self)
  have g2 : 0 ≤ (0 : Int) + (1 * a2 + 0) := hg _ (List.mem_cons_of_mem _ (List.mem_cons_of_mem _ List.mem_cons_self))
  have g3 : 0 ≤ (4294967276 : Int) + ((-1) * a2 + 0) := hg _ (List.mem_cons_of_mem _ (List.mem_cons_of_mem _ (List.mem_cons_of_mem _ List.mem_cons_self)))
  have g4 : 0 ≤ (0 : Int) + (1 * j + ((-64) * a1 + ((-1) * a2 + 0))) := hg _ (List.mem_cons_of_mem _ (List.mem_cons_of_mem _ (List.mem_cons_of_mem _ (List.mem_cons_of_mem _ List.mem_cons_self))))
  have hp := (zc_177 (w := w) (j := a0) (u := a1) (k := a2) (by omega) (by omega) (by omega) (by omega) (by omega) ).mp (by omega)
  have h : zk_xe w' 2000177 a0 = 1 := by
    refine (zc_177 (w := w') (j := a0) (u := a1) (k := a2) (by omega) (by omega) (by omega) (by omega) (by omega) ).mpr (fun i i0 i1 => ?_)
    have q : zh_e w' 217 (64 * a1 + i) = zh_e w 217 (64 * a1 + i) := hw.2 _ (by omega) (by omega)
    rw [zh_e_g (hw.1 214 (by decide)), zh_e_g (hw.1 233 (by decide)), zh_e_g (hw.1 215 (by decide)), zh_e_g (hw.1 234 (by decide)), zh_e_g (hw.1 216 (by decide)), zh_e_g (hw.1 235 (by decide)), zh_e_g (hw.1 236 (by decide)), q]
    exact hp i i0 i1
  exact (zx_eF1 (by show 0 ≤ (0 : Int) + (1 * a0 + 0); omega) (by show zk_xe w' 2000177 ((0 : Int) + (1 * a0 + 0)) = (1 : Int) + (0); rw [show (0 : Int) + (1 * a0 + 0) = a0 by omega]; exact h.trans (by omega)) zx_eF0)
def zx_D1167 : zx_L := zx_Lc [] 1 [] [] [] [((0, 0), [(0, 1, 0)]), ((4294967276, 0), [(0, 0, 1)])] [([], [], [(2000177, ((0, 0), [(0, 1, 0)]), ((1, 0), []))], [])]
theorem zx_D1167_ok {PT : Nat → zz_W → Prop} : zx_Lok 64 zHT PT zx_D1167 := by
  refine zx_Lc_ok (fun w hI hK ins hl hr he hg => ?_)
  obtain ⟨a0, rfl⟩ := zx_i1 hl
  have g0 : 0 ≤ (0 : Int) + (1 * a0 + 0) := hg _ List.mem_cons_self
  have g1 : 0 ≤ (4294967276 : Int) + ((-1) * a0 + 0) := hg _ (List.mem_cons_of_mem _ List.mem_cons_self)
  have h : zk_xe w 2000177 a0 = 1 := (zc_177 (w := w) (j := a0) (u := a0) (k := 0) (by omega) (by omega) (by omega) (by omega) (by omega) ).mpr (fun i i0 i1 => by omega)
  exact ⟨_, List.mem_cons_self, [], rfl, zx_bnil, zx_cs0, (zx_eF1 (by show 0 ≤ (0 : Int) + (1 * a0 + 0); omega) (by show zk_xe w 2000177 ((0 : Int) + (1 * a0 + 0)) = (1 : Int) + (0); rw [show (0 : Int) + (1 * a0 + 0) = a0 by omega]; exact h.trans (by omega)) zx_eF0), zx_k0⟩
def zx_D1168 : zx_L := zx_Lc [] 5 [(2000177, 0), (214, 3), (233, 2), (215, 3), (234, 2), (216, 3), (235, 2), (217, 3), (236, 2)] [] [((0, 0), [(0, 1, 0), (1, 0, 1), (2, 0, 4294967296)]), ((0, 1), [(5, 1, 0)]), ((0, 0), [(1, 0, 64), (2, 0, 1), (3, 1, 0)]), ((0, 4294967296), [(1, 0, 1), (2, 0, 4294967296), (4, 1, 0)]), ((0, 0), [(6, 1, 0), (7, 0, 1)]), ((0, 0), [(8, 1, 0), (9, 0, 1)]), ((0, 0), [(10, 1, 0), (11, 0, 1)]), ((0, 0), [(12, 1, 0), (13, 0, 1)])] [((0, 0), [(1, 1, 0)]), ((4294967276, 0), [(1, 0, 1)]), ((0, 0), [(2, 1, 0)]), ((4294967276, 0), [(2, 0, 1)])] [([], [], [(2000177, ((0, 0), [(4, 1, 0)]), ((1, 0), []))], [])]
theorem zx_D1168_ok {PT : Nat → zz_W → Prop} : zx_Lok 64 zHT PT zx_D1168 := by
  refine zx_Lc_ok (fun w hI hK ins hl hr he hg => ?_)
  obtain ⟨a0, a1, a2, a3, a4, rfl⟩ := zx_i5 hl
  have e0 : (0 : Int) + (1 * a0 + ((-1) * a1 + ((-4294967296) * a2 + 0))) = 0 := he _ List.mem_cons_self
  have e1 : ((-1) : Int) + (1 * (zk_xe w 2000177 a0) + 0) = 0 := he _ (List.mem_cons_of_mem _ List.mem_cons_self)
  have e2 : (0 : Int) + ((-64) * a1 + ((-1) * a2 + (1 * a3 + 0))) = 0 := he _ (List.mem_cons_of_mem _ (List.mem_cons_of_mem _ List.mem_cons_self))
  have e3 : ((-4294967296) : Int) + ((-1) * a1 + ((-4294967296) * a2 + (1 * a4 + 0))) = 0 := he _ (List.mem_cons_of_mem _ (List.mem_cons_of_mem _ (List.mem_cons_of_mem _ List.mem_cons_self)))
  have e4 : (0 : Int) + (1 * (zk_xe w 214 a3) + ((-1) * (zk_xe w 233 a2) + 0)) = 0 := he _ (List.mem_cons_of_mem _ (List.mem_cons_of_mem _ (List.mem_cons_of_mem _ (List.mem_cons_of_mem _ List.mem_cons_self))))
  have e5 : (0 : Int) + (1 * (zk_xe w 215 a3) + ((-1) * (zk_xe w 234 a2) + 0)) = 0 := he _ (List.mem_cons_of_mem _ (List.mem_cons_of_mem _ (List.mem_cons_of_mem _ (List.mem_cons_of_mem _ (List.mem_cons_of_mem _ List.mem_cons_self)))))
  have e6 : (0 : Int) + (1 * (zk_xe w 216 a3) + ((-1) * (zk_xe w 235 a2) + 0)) = 0 := he _ (List.mem_cons_of_mem _ (List.mem_cons_of_mem _ (List.mem_cons_of_mem _ (List.mem_cons_of_mem _ (List.mem_cons_of_mem _ (List.mem_cons_of_mem _ List.mem_cons_self))))))
  have e7 : (0 : Int) + (1 * (zk_xe w 217 a3) + ((-1) * (zk_xe w 236 a2) + 0)) = 0 := he _ (List.mem_cons_of_mem _ (List.mem_cons_of_mem _ (List.mem_cons_of_mem _ (List.mem_cons_of_mem _ (List.mem_cons_of_mem _ (List.mem_cons_of_mem _ (List.mem_cons_of_mem _ List.mem_cons_self)))))))
  have g0 : 0 ≤ (0 : Int) + (1 * a1 + 0) := hg _ List.mem_cons_self
  have g1 : 0 ≤ (4294967276 : Int) + ((-1) * a1 + 0) := hg _ (List.mem_cons_of_mem _ List.mem_cons_self)
  have g2 : 0 ≤ (0 : Int) + (1 * a2 + 0) := hg _ (List.mem_cons_of_mem _ (List.mem_cons_of_mem _ List.mem_cons_self))
  have g3 : 0 ≤ (4294967276 : Int) + ((-1) * a2 + 0) := hg _ (List.mem_cons_of_mem _ (List.mem_cons_of_mem _ (List.mem_cons_of_mem _ List.mem_cons_self)))
  have r0 : 0 ≤ a0 := hr _ List.mem_cons_self
  have r1 : 0 ≤ a3 := hr _ (List.mem_cons_of_mem _ List.mem_cons_self)
  have r2 : 0 ≤ a2 := hr _ (List.mem_cons_of_mem _ (List.mem_cons_of_mem _ List.mem_cons_self))
  have r3 : 0 ≤ a3 := hr _ (List.mem_cons_of_mem _ (List.mem_cons_of_mem _ (List.mem_cons_of_mem _ List.mem_cons_self)))
  have r4 : 0 ≤ a2 := hr _ (List.mem_cons_of_mem _ (List.mem_cons_of_mem _ (List.mem_cons_of_mem _ (List.mem_cons_of_mem _ List.mem_cons_self))))
  have r5 : 0 ≤ a3 := hr _ (List.mem_cons_of_mem _ (List.mem_cons_of_mem _ (List.mem_cons_of_mem _ (List.mem_cons_of_mem _ (List.mem_cons_of_mem _ List.mem_cons_self)))))
  have r6 : 0 ≤ a2 := hr _ (List.mem_cons_of_mem _ (List.mem_cons_of_mem _ (List.mem_cons_of_mem _ (List.mem_cons_of_mem _ (List.mem_cons_of_mem _ (List.mem_cons_of_mem _ List.mem_cons_self))))))
  have r7 : 0 ≤ a3 := hr _ (List.mem_cons_of_mem _ (List.mem_cons_of_mem _ (List.mem_cons_of_mem _ (List.mem_cons_of_mem _ (List.mem_cons_of_mem _ (List.mem_cons_of_mem _ (List.mem_cons_of_mem _ List.mem_cons_self)))))))
  have r8 : 0 ≤ a2 := hr _ (List.mem_cons_of_mem _ (List.mem_cons_of_mem _ (List.mem_cons_of_mem _ (List.mem_cons_of_mem _ (List.mem_cons_of_mem _ (List.mem_cons_of_mem _ (List.mem_cons_of_mem _ (List.mem_cons_of_mem _ List.mem_cons_self))))))))
  have hp := (zc_177 (w := w) (j := a0) (u := a1) (k := a2) (by omega) (by omega) (by omega) (by omega) (by omega) ).mp (by omega)
  have k0 : zh_e w 214 (64 * a1 + a2) = zk_xe w 214 a3 := by rw [zk_xe_r (i := 214) (by decide)]; show zk_el w 214 (64 * a1 + a2) = zk_el w 214 a3; rw [show 64 * a1 + a2 = a3 by omega]
  have k1 : zh_e w 215 (64 * a1 + a2) = zk_xe w 215 a3 := by rw [zk_xe_r (i := 215) (by decide)]; show zk_el w 215 (64 * a1 + a2) = zk_el w 215 a3; rw [show 64 * a1 + a2 = a3 by omega]
  have k2 : zh_e w 216 (64 * a1 + a2) = zk_xe w 216 a3 := by rw [zk_xe_r (i := 216) (by decide)]; show zk_el w 216 (64 * a1 + a2) = zk_el w 216 a3; rw [show 64 * a1 + a2 = a3 by omega]
  have k3 : zh_e w 217 (64 * a1 + a2) = zk_xe w 217 a3 := by rw [zk_xe_r (i := 217) (by decide)]; show zk_el w 217 (64 * a1 + a2) = zk_el w 217 a3; rw [show 64 * a1 + a2 = a3 by omega]
  have f0 : zh_e w 233 (a2) = zk_xe w 233 a2 := by rw [zk_xe_r (i := 233) (by decide)]; show zk_el w 233 (a2) = zk_el w 233 a2; rw [show a2 = a2 by omega]
  have f1 : zh_e w 234 (a2) = zk_xe w 234 a2 := by rw [zk_xe_r (i := 234) (by decide)]; show zk_el w 234 (a2) = zk_el w 234 a2; rw [show a2 = a2 by omega]
  have f2 : zh_e w 235 (a2) = zk_xe w 235 a2 := by rw [zk_xe_r (i := 235) (by decide)]; show zk_el w 235 (a2) = zk_el w 235 a2; rw [show a2 = a2 by omega]
  have f3 : zh_e w 236 (a2) = zk_xe w 236 a2 := by rw [zk_xe_r (i := 236) (by decide)]; show zk_el w 236 (a2) = zk_el w 236 a2; rw [show a2 = a2 by omega]
  have h : zk_xe w 2000177 a4 = 1 := by
    refine (zc_177 (w := w) (j := a4) (u := a1) (k := (a2 + 1)) (by omega) (by omega) (by omega) (by omega) (by omega) ).mpr (fun i i0 i1 => ?_)
    by_cases c : i = a2
    · rw [c, k0, k1, k2, k3, f0, f1, f2, f3]
      omega
    · exact hp i i0 (by omega)
  exact ⟨_, List.mem_cons_self, [], rfl, zx_bnil, zx_cs0, (zx_eF1 (by show 0 ≤ (0 : Int) + (1 * a4 + 0); omega) (by show zk_xe w 2000177 ((0 : Int) + (1 * a4 + 0)) = (1 : Int) + (0); rw [show (0 : Int) + (1 * a4 + 0) = a4 by omega]; exact h.trans (by omega)) zx_eF0), zx_k0⟩
def zx_E744 : zx_V := zx_Vc 213 [] 3 [(2000172, 0)] [((0, 0), [(2, 1, 0), (3, 0, 1), (4, 0, 18446744073709551616)]), ((0, 1), [(5, 1, 0)])] [((0, 0), [(3, 1, 0)]), ((4294967276, 0), [(3, 0, 1)]), ((0, 0), [(4, 1, 0)]), ((4294967276, 0), [(4, 0, 1)]), ((0, 0), [(0, 1, 0), (3, 0, 1)])] [(2000172, ((0, 0), [(2, 1, 0)]), ((1, 0), []))]
theorem zx_E744_ok {PT : Nat → zz_W → Prop} : zx_Vok 64 zHT PT zx_E744 := by
  refine zx_Vc_ok (fun w w' j ins hI hI' h0 hw hK hl he hg => ?_)
  obtain ⟨a0, a1, a2, rfl⟩ := zx_i3 hl
  have e0 : (0 : Int) + (1 * a0 + ((-1) * a1 + ((-18446744073709551616) * a2 + 0))) = 0 := he _ List.mem_cons_self
  have e1 : ((-1) : Int) + (1 * (zk_xe w 2000172 a0) + 0) = 0 := he _ (List.mem_cons_of_mem _ List.mem_cons_self)
  have g0 : 0 ≤ (0 : Int) + (1 * a1 + 0) := hg _ List.mem_cons_self
  have g1 : 0 ≤ (4294967276 : Int) + ((-1) * a1 + 0) := hg _ (List.mem_cons_of_mem _ List.mem_cons_self)
  have g2 : 0 ≤ (0 : Int) + (1 * a2 + 0) := hg _ (List.mem_cons_of_mem _ (List.mem_cons_of_mem _ List.mem_cons_self))
  have g3 : 0 ≤ (4294967276 : Int) + ((-1) * a2 + 0) := hg _ (List.mem_cons_of_mem _ (List.mem_cons_of_mem _ (List.mem_cons_of_mem _ List.mem_cons_self)))
  have g4 : 0 ≤ (0 : Int) + (1 * j + ((-1) * a1 + 0)) := hg _ (List.mem_cons_of_mem _ (List.mem_cons_of_mem _ (List.mem_cons_of_mem _ (List.mem_cons_of_mem _ List.mem_cons_self))))
  obtain ⟨d0, d1, -⟩ := zg_d3 (j := a0) (n := a1) (k := 0) (u := a2) (by omega) (by omega) (by omega) (by omega) (by omega) (by omega) (by omega)
  have h : zk_xe w' 2000172 a0 = zk_xe w 2000172 a0 := by
    rw [show (2000172 : Nat) = 2000000 + 172 from rfl, zk_xe_h, zk_xe_h]
    refine zj_a172 (fun r hr => ?_)
    by_cases c : r = 213
    · refine Or.inr ⟨(213, 1, 1, 0), by decide, c.symm, fun p p0 _ p1 => ?_⟩
      have p2 : p < (1 : Int) * zv_dg 0 a0 := p1
      rw [d0] at p2
      rw [c]
      exact hw.2 p p0 (by omega)
    · exact Or.inl (hw.1 r c)
  exact (zx_eF1 (by show 0 ≤ (0 : Int) + (1 * a0 + 0); omega) (by show zk_xe w' 2000172 ((0 : Int) + (1 * a0 + 0)) = (1 : Int) + (0); rw [show (0 : Int) + (1 * a0 + 0) = a0 by omega]; exact h.trans (by omega)) zx_eF0)
def zx_E745 : zx_V := zx_Vc 214 [] 3 [(2000172, 0)] [((0, 0), [(2, 1, 0), (3, 0, 1), (4, 0, 18446744073709551616)]), ((0, 1), [(5, 1, 0)])] [((0, 0), [(3, 1, 0)]), ((4294967276, 0), [(3, 0, 1)]), ((0, 0), [(4, 1, 0)]), ((4294967276, 0), [(4, 0, 1)]), ((0, 0), [(0, 1, 0), (3, 0, 64)])] [(2000172, ((0, 0), [(2, 1, 0)]), ((1, 0), []))]
theorem zx_E745_ok {PT : Nat → zz_W → Prop} : zx_Vok 64 zHT PT zx_E745 := by
  refine zx_Vc_ok (fun w w' j ins hI hI' h0 hw hK hl he hg => ?_)
  obtain ⟨a0, a1, a2, rfl⟩ := zx_i3 hl
  have e0 : (0 : Int) + (1 * a0 + ((-1) * a1 + ((-18446744073709551616) * a2 + 0))) = 0 := he _ List.mem_cons_self
  have e1 : ((-1) : Int) + (1 * (zk_xe w 2000172 a0) + 0) = 0 := he _ (List.mem_cons_of_mem _ List.mem_cons_self)
  have g0 : 0 ≤ (0 : Int) + (1 * a1 + 0) := hg _ List.mem_cons_self
  have g1 : 0 ≤ (4294967276 : Int) + ((-1) * a1 + 0) := hg _ (List.mem_cons_of_mem _ List.mem_cons_self)
  have g2 : 0 ≤ (0 : Int) + (1 * a2 + 0) := hg _ (List.mem_cons_of_mem _ (List.mem_cons_of_mem _ List.mem_cons_self))
  have g3 : 0 ≤ (4294967276 : Int) + ((-1) * a2 + 0) := hg _ (List.mem_cons_of_mem _ (List.mem_cons_of_mem _ (List.mem_cons_of_mem _ List.mem_cons_self)))
  have g4 : 0 ≤ (0 : Int) + (1 * j + ((-64) * a1 + 0)) := hg _ (List.mem_cons_of_mem _ (List.mem_cons_of_mem _ (List.mem_cons_of_mem _ (List.mem_cons_of_mem _ List.mem_cons_self))))
  obtain ⟨d0, d1, -⟩ := zg_d3 (j := a0) (n := a1) (k := 0) (u := a2) (by omega) (by omega) (by omega) (by omega) (by omega) (by omega) (by omega)
  have h : zk_xe w' 2000172 a0 = zk_xe w 2000172 a0 := by
    rw [show (2000172 : Nat) = 2000000 + 172 from rfl, zk_xe_h, zk_xe_h]
    refine zj_a172 (fun r hr => ?_)
    by_cases c : r = 214
    · refine Or.inr ⟨(214, 64, 1, 0), by decide, c.symm, fun p p0 _ p1 => ?_⟩
      have p2 : p < (64 : Int) * zv_dg 0 a0 := p1
      rw [d0] at p2
      rw [c]
      exact hw.2 p p0 (by omega)
    · exact Or.inl (hw.1 r c)
  exact (zx_eF1 (by show 0 ≤ (0 : Int) + (1 * a0 + 0); omega) (by show zk_xe w' 2000172 ((0 : Int) + (1 * a0 + 0)) = (1 : Int) + (0); rw [show (0 : Int) + (1 * a0 + 0) = a0 by omega]; exact h.trans (by omega)) zx_eF0)
def zx_E746 : zx_V := zx_Vc 215 [] 3 [(2000172, 0)] [((0, 0), [(2, 1, 0), (3, 0, 1), (4, 0, 18446744073709551616)]), ((0, 1), [(5, 1, 0)])] [((0, 0), [(3, 1, 0)]), ((4294967276, 0), [(3, 0, 1)]), ((0, 0), [(4, 1, 0)]), ((4294967276, 0), [(4, 0, 1)]), ((0, 0), [(0, 1, 0), (3, 0, 64)])] [(2000172, ((0, 0), [(2, 1, 0)]), ((1, 0), []))]
theorem zx_E746_ok {PT : Nat → zz_W → Prop} : zx_Vok 64 zHT PT zx_E746 := by
  refine zx_Vc_ok (fun w w' j ins hI hI' h0 hw hK hl he hg => ?_)
  obtain ⟨a0, a1, a2, rfl⟩ := zx_i3 hl
  have e0 : (0 : Int) + (1 * a0 + ((-1) * a1 + ((-18446744073709551616) * a2 + 0))) = 0 := he _ List.mem_cons_self
  have e1 : ((-1) : Int) + (1 * (zk_xe w 2000172 a0) + 0) = 0 := he _ (List.mem_cons_of_mem _ List.mem_cons_self)
  have g0 : 0 ≤ (0 : Int) + (1 * a1 + 0) := hg _ List.mem_cons_self
  have g1 : 0 ≤ (4294967276 : Int) + ((-1) * a1 + 0) := hg _ (List.mem_cons_of_mem _ List.mem_cons_self)
  have g2 : 0 ≤ (0 : Int) + (1 * a2 + 0) := hg _ (List.mem_cons_of_mem _ (List.mem_cons_of_mem _ List.mem_cons_self))
  have g3 : 0 ≤ (4294967276 : Int) + ((-1) * a2 + 0) := hg _ (List.mem_cons_of_mem _ (List.mem_cons_of_mem _ (List.mem_cons_of_mem _ List.mem_cons_self)))
  have g4 : 0 ≤ (0 : Int) + (1 * j + ((-64) * a1 + 0)) := hg _ (List.mem_cons_of_mem _ (List.mem_cons_of_mem _ (List.mem_cons_of_mem _ (List.mem_cons_of_mem _ List.mem_cons_self))))
  obtain ⟨d0, d1, -⟩ := zg_d3 (j := a0) (n := a1) (k := 0) (u := a2) (by omega) (by omega) (by omega) (by omega) (by omega) (by omega) (by omega)
  have h : zk_xe w' 2000172 a0 = zk_xe w 2000172 a0 := by
    rw [show (2000172 : Nat) = 2000000 + 172 from rfl, zk_xe_h, zk_xe_h]
    refine zj_a172 (fun r hr => ?_)
    by_cases c : r = 215
    · refine Or.inr ⟨(215, 64, 1, 0), by decide, c.symm, fun p p0 _ p1 => ?_⟩
      have p2 : p < (64 : Int) * zv_dg 0 a0 := p1
      rw [d0] at p2
      rw [c]
      exact hw.2 p p0 (by omega)
    · exact Or.inl (hw.1 r c)
  exact (zx_eF1 (by show 0 ≤ (0 : Int) + (1 * a0 + 0); omega) (by show zk_xe w' 2000172 ((0 : Int) + (1 * a0 + 0)) = (1 : Int) + (0); rw [show (0 : Int) + (1 * a0 + 0) = a0 by omega]; exact h.trans (by omega)) zx_eF0)
def zx_E747 : zx_V := zx_Vc 176 [] 2 [(2000176, 0)] [((0, 0), [(2, 1, 0), (3, 0, 1)]), ((0, 1), [(4, 1, 0)])] [((0, 0), [(3, 1, 0)]), ((4294967276, 0), [(3, 0, 1)]), ((0, 0), [(0, 1, 0), (3, 0, 1)])] [(2000176, ((0, 0), [(2, 1, 0)]), ((1, 0), []))]
theorem zx_E747_ok {PT : Nat → zz_W → Prop} : zx_Vok 64 zHT PT zx_E747 := by
  refine zx_Vc_ok (fun w w' j ins hI hI' h0 hw hK hl he hg => ?_)
  obtain ⟨a0, a1, rfl⟩ := zx_i2 hl
  have e0 : (0 : Int) + (1 * a0 + ((-1) * a1 + 0)) = 0 := he _ List.mem_cons_self
  have e1 : ((-1) : Int) + (1 * (zk_xe w 2000176 a0) + 0) = 0 := he _ (List.mem_cons_of_mem _ List.mem_cons_self)
  have g0 : 0 ≤ (0 : Int) + (1 * a1 + 0) := hg _ List.mem_cons_self
  have g1 : 0 ≤ (4294967276 : Int) + ((-1) * a1 + 0) := hg _ (List.mem_cons_of_mem _ List.mem_cons_self)
  have g2 : 0 ≤ (0 : Int) + (1 * j + ((-1) * a1 + 0)) := hg _ (List.mem_cons_of_mem _ (List.mem_cons_of_mem _ List.mem_cons_self))
  obtain ⟨d0, d1, -⟩ := zg_d3 (j := a0) (n := a1) (k := 0) (u := 0) (by omega) (by omega) (by omega) (by omega) (by omega) (by omega) (by omega)
  have h : zk_xe w' 2000176 a0 = zk_xe w 2000176 a0 := by
    rw [show (2000176 : Nat) = 2000000 + 176 from rfl, zk_xe_h, zk_xe_h]
    refine zj_a176 (fun r hr => ?_)
    by_cases c : r = 176
    · refine Or.inr ⟨(176, 1, 1, 0), by decide, c.symm, fun p p0 _ p1 => ?_⟩
      have p2 : p < (1 : Int) * zv_dg 0 a0 := p1
      rw [d0] at p2
      rw [c]
      exact hw.2 p p0 (by omega)
    · exact Or.inl (hw.1 r c)
  exact (zx_eF1 (by show 0 ≤ (0 : Int) + (1 * a0 + 0); omega) (by show zk_xe w' 2000176 ((0 : Int) + (1 * a0 + 0)) = (1 : Int) + (0); rw [show (0 : Int) + (1 * a0 + 0) = a0 by omega]; exact h.trans (by omega)) zx_eF0)
def zx_E748 : zx_V := zx_Vc 213 [] 2 [(2000176, 0)] [((0, 0), [(2, 1, 0), (3, 0, 1)]), ((0, 1), [(4, 1, 0)])] [((0, 0), [(3, 1, 0)]), ((4294967276, 0), [(3, 0, 1)]), ((0, 0), [(0, 1, 0), (3, 0, 1)])] [(2000176, ((0, 0), [(2, 1, 0)]), ((1, 0), []))]
theorem zx_E748_ok {PT : Nat → zz_W → Prop} : zx_Vok 64 zHT PT zx_E748 := by
  refine zx_Vc_ok (fun w w' j ins hI hI' h0 hw hK hl he hg => ?_)
  obtain ⟨a0, a1, rfl⟩ := zx_i2 hl
  have e0 : (0 : Int) + (1 * a0 + ((-1) * a1 + 0)) = 0 := he _ List.mem_cons_self
  have e1 : ((-1) : Int) + (1 * (zk_xe w 2000176 a0) + 0) = 0 := he _ (List.mem_cons_of_mem _ List.mem_cons_self)
  have g0 : 0 ≤ (0 : Int) + (1 * a1 + 0) := hg _ List.mem_cons_self
  have g1 : 0 ≤ (4294967276 : Int) + ((-1) * a1 + 0) := hg _ (List.mem_cons_of_mem _ List.mem_cons_self)
  have g2 : 0 ≤ (0 : Int) + (1 * j + ((-1) * a1 + 0)) := hg _ (List.mem_cons_of_mem _ (List.mem_cons_of_mem _ List.mem_cons_self))
  obtain ⟨d0, d1, -⟩ := zg_d3 (j := a0) (n := a1) (k := 0) (u := 0) (by omega) (by omega) (by omega) (by omega) (by omega) (by omega) (by omega)
  have h : zk_xe w' 2000176 a0 = zk_xe w 2000176 a0 := by
    rw [show (2000176 : Nat) = 2000000 + 176 from rfl, zk_xe_h, zk_xe_h]
    refine zj_a176 (fun r hr => ?_)
    by_cases c : r = 213
    · refine Or.inr ⟨(213, 1, 1, 0), by decide, c.symm, fun p p0 _ p1 => ?_⟩
      have p2 : p < (1 : Int) * zv_dg 0 a0 := p1
      rw [d0] at p2
      rw [c]
      exact hw.2 p p0 (by omega)
    · exact Or.inl (hw.1 r c)
  exact (zx_eF1 (by show 0 ≤ (0 : Int) + (1 * a0 + 0); omega) (by show zk_xe w' 2000176 ((0 : Int) + (1 * a0 + 0)) = (1 : Int) + (0); rw [show (0 : Int) + (1 * a0 + 0) = a0 by omega]; exact h.trans (by omega)) zx_eF0)
def zx_E749 : zx_V := zx_Vc 215 [] 2 [(2000176, 0)] [((0, 0), [(2, 1, 0), (3, 0, 1)]), ((0, 1), [(4, 1, 0)])] [((0, 0), [(3, 1, 0)]), ((4294967276, 0), [(3, 0, 1)]), ((0, 0), [(0, 1, 0), (3, 0, 64)])] [(2000176, ((0, 0), [(2, 1, 0)]), ((1, 0), []))]
theorem zx_E749_ok {PT : Nat → zz_W → Prop} : zx_Vok 64 zHT PT zx_E749 := by
  refine zx_Vc_ok (fun w w' j ins hI hI' h0 hw hK hl he hg => ?_)
  obtain ⟨a0, a1, rfl⟩ := zx_i2 hl
  have e0 : (0 : Int) + (1 * a0 + ((-1) * a1 + 0)) = 0 := he _ List.mem_cons_self
  have e1 : ((-1) : Int) + (1 * (zk_xe w 2000176 a0) + 0) = 0 := he _ (List.mem_cons_of_mem _ List.mem_cons_self)
  have g0 : 0 ≤ (0 : Int) + (1 * a1 + 0) := hg _ List.mem_cons_self
  have g1 : 0 ≤ (4294967276 : Int) + ((-1) * a1 + 0) := hg _ (List.mem_cons_of_mem _ List.mem_cons_self)
  have g2 : 0 ≤ (0 : Int) + (1 * j + ((-64) * a1 + 0)) := hg _ (List.mem_cons_of_mem _ (List.mem_cons_of_mem _ List.mem_cons_self))
  obtain ⟨d0, d1, -⟩ := zg_d3 (j := a0) (n := a1) (k := 0) (u := 0) (by omega) (by omega) (by omega) (by omega) (by omega) (by omega) (by omega)
  have h : zk_xe w' 2000176 a0 = zk_xe w 2000176 a0 := by
    rw [show (2000176 : Nat) = 2000000 + 176 from rfl, zk_xe_h, zk_xe_h]
    refine zj_a176 (fun r hr => ?_)
    by_cases c : r = 215
    · refine Or.inr ⟨(215, 64, 1, 0), by decide, c.symm, fun p p0 _ p1 => ?_⟩
      have p2 : p < (64 : Int) * zv_dg 0 a0 := p1
      rw [d0] at p2
      rw [c]
      exact hw.2 p p0 (by omega)
    · exact Or.inl (hw.1 r c)
  exact (zx_eF1 (by show 0 ≤ (0 : Int) + (1 * a0 + 0); omega) (by show zk_xe w' 2000176 ((0 : Int) + (1 * a0 + 0)) = (1 : Int) + (0); rw [show (0 : Int) + (1 * a0 + 0) = a0 by omega]; exact h.trans (by omega)) zx_eF0)
def zx_E750 : zx_V := zx_Vc 216 [] 2 [(2000176, 0)] [((0, 0), [(2, 1, 0), (3, 0, 1)]), ((0, 1), [(4, 1, 0)])] [((0, 0), [(3, 1, 0)]), ((4294967276, 0), [(3, 0, 1)]), ((0, 0), [(0, 1, 0), (3, 0, 64)])] [(2000176, ((0, 0), [(2, 1, 0)]), ((1, 0), []))]
theorem zx_E750_ok {PT : Nat → zz_W → Prop} : zx_Vok 64 zHT PT zx_E750 := by
  refine zx_Vc_ok (fun w w' j ins hI hI' h0 hw hK hl he hg => ?_)
  obtain ⟨a0, a1, rfl⟩ := zx_i2 hl
  have e0 : (0 : Int) + (1 * a0 + ((-1) * a1 + 0)) = 0 := he _ List.mem_cons_self
  have e1 : ((-1) : Int) + (1 * (zk_xe w 2000176 a0) + 0) = 0 := he _ (List.mem_cons_of_mem _ List.mem_cons_self)
  have g0 : 0 ≤ (0 : Int) + (1 * a1 + 0) := hg _ List.mem_cons_self
  have g1 : 0 ≤ (4294967276 : Int) + ((-1) * a1 + 0) := hg _ (List.mem_cons_of_mem _ List.mem_cons_self)
  have g2 : 0 ≤ (0 : Int) + (1 * j + ((-64) * a1 + 0)) := hg _ (List.mem_cons_of_mem _ (List.mem_cons_of_mem _ List.mem_cons_self))
  obtain ⟨d0, d1, -⟩ := zg_d3 (j := a0) (n := a1) (k := 0) (u := 0) (by omega) (by omega) (by omega) (by omega) (by omega) (by omega) (by omega)
  have h : zk_xe w' 2000176 a0 = zk_xe w 2000176 a0 := by
    rw [show (2000176 : Nat) = 2000000 + 176 from rfl, zk_xe_h, zk_xe_h]
    refine zj_a176 (fun r hr => ?_)
    by_cases c : r = 216
    · refine Or.inr ⟨(216, 64, 1, 0), by decide, c.symm, fun p p0 _ p1 => ?_⟩
      have p2 : p < (64 : Int) * zv_dg 0 a0 := p1
      rw [d0] at p2
      rw [c]
      exact hw.2 p p0 (by omega)
    · exact Or.inl (hw.1 r c)
  exact (zx_eF1 (by show 0 ≤ (0 : Int) + (1 * a0 + 0); omega) (by show zk_xe w' 2000176 ((0 : Int) + (1 * a0 + 0)) = (1 : Int) + (0); rw [show (0 : Int) + (1 * a0 + 0) = a0 by omega]; exact h.trans (by omega)) zx_eF0)
def zx_E751 : zx_V := zx_Vc 217 [] 2 [(2000176, 0)] [((0, 0), [(2, 1, 0), (3, 0, 1)]), ((0, 1), [(4, 1, 0)])] [((0, 0), [(3, 1, 0)]), ((4294967276, 0), [(3, 0, 1)]), ((0, 0), [(0, 1, 0), (3, 0, 64)])] [(2000176, ((0, 0), [(2, 1, 0)]), ((1, 0), []))]
theorem zx_E751_ok {PT : Nat → zz_W → Prop} : zx_Vok 64 zHT PT zx_E751 := by
  refine zx_Vc_ok (fun w w' j ins hI hI' h0 hw hK hl he hg => ?_)
  obtain ⟨a0, a1, rfl⟩ := zx_i2 hl
  have e0 : (0 : Int) + (1 * a0 + ((-1) * a1 + 0)) = 0 := he _ List.mem_cons_self
  have e1 : ((-1) : Int) + (1 * (zk_xe w 2000176 a0) + 0) = 0 := he _ (List.mem_cons_of_mem _ List.mem_cons_self)
  have g0 : 0 ≤ (0 : Int) + (1 * a1 + 0) := hg _ List.mem_cons_self
  have g1 : 0 ≤ (4294967276 : Int) + ((-1) * a1 + 0) := hg _ (List.mem_cons_of_mem _ List.mem_cons_self)
  have g2 : 0 ≤ (0 : Int) + (1 * j + ((-64) * a1 + 0)) := hg _ (List.mem_cons_of_mem _ (List.mem_cons_of_mem _ List.mem_cons_self))
  obtain ⟨d0, d1, -⟩ := zg_d3 (j := a0) (n := a1) (k := 0) (u := 0) (by omega) (by omega) (by omega) (by omega) (by omega) (by omega) (by omega)
  have h : zk_xe w' 2000176 a0 = zk_xe w 2000176 a0 := by
    rw [show (2000176 : Nat) = 2000000 + 176 from rfl, zk_xe_h, zk_xe_h]
    refine zj_a176 (fun r hr => ?_)
    by_cases c : r = 217
    · refine Or.inr ⟨(217, 64, 1, 0), by decide, c.symm, fun p p0 _ p1 => ?_⟩
      have p2 : p < (64 : Int) * zv_dg 0 a0 := p1
      rw [d0] at p2
      rw [c]
      exact hw.2 p p0 (by omega)
    · exact Or.inl (hw.1 r c)
  exact (zx_eF1 (by show 0 ≤ (0 : Int) + (1 * a0 + 0); omega) (by show zk_xe w' 2000176 ((0 : Int) + (1 * a0 + 0)) = (1 : Int) + (0); rw [show (0 : Int) + (1 * a0 + 0) = a0 by omega]; exact h.trans (by omega)) zx_eF0)
def zx_E752 : zx_V := zx_Vc 176 [] 2 [(2000182, 0)] [((0, 0), [(2, 1, 0), (3, 0, 1)]), ((0, 1), [(4, 1, 0)])] [((0, 0), [(3, 1, 0)]), ((4294967276, 0), [(3, 0, 1)]), ((0, 0), [(0, 1, 0), (3, 0, 1)])] [(2000182, ((0, 0), [(2, 1, 0)]), ((1, 0), []))]
theorem zx_E752_ok {PT : Nat → zz_W → Prop} : zx_Vok 64 zHT PT zx_E752 := by
  refine zx_Vc_ok (fun w w' j ins hI hI' h0 hw hK hl he hg => ?_)
  obtain ⟨a0, a1, rfl⟩ := zx_i2 hl
  have e0 : (0 : Int) + (1 * a0 + ((-1) * a1 + 0)) = 0 := he _ List.mem_cons_self
  have e1 : ((-1) : Int) + (1 * (zk_xe w 2000182 a0) + 0) = 0 := he _ (List.mem_cons_of_mem _ List.mem_cons_self)
  have g0 : 0 ≤ (0 : Int) + (1 * a1 + 0) := hg _ List.mem_cons_self
  have g1 : 0 ≤ (4294967276 : Int) + ((-1) * a1 + 0) := hg _ (List.mem_cons_of_mem _ List.mem_cons_self)
  have g2 : 0 ≤ (0 : Int) + (1 * j + ((-1) * a1 + 0)) := hg _ (List.mem_cons_of_mem _ (List.mem_cons_of_mem _ List.mem_cons_self))
  obtain ⟨d0, d1, -⟩ := zg_d3 (j := a0) (n := a1) (k := 0) (u := 0) (by omega) (by omega) (by omega) (by omega) (by omega) (by omega) (by omega)
  have h : zk_xe w' 2000182 a0 = zk_xe w 2000182 a0 := by
    rw [show (2000182 : Nat) = 2000000 + 182 from rfl, zk_xe_h, zk_xe_h]
    refine zj_a182 (fun r hr => ?_)
    by_cases c : r = 176
    · refine Or.inr ⟨(176, 1, 1, 0), by decide, c.symm, fun p p0 _ p1 => ?_⟩
      have p2 : p < (1 : Int) * zv_dg 0 a0 := p1
      rw [d0] at p2
      rw [c]
      exact hw.2 p p0 (by omega)
    · exact Or.inl (hw.1 r c)
  exact (zx_eF1 (by show 0 ≤ (0 : Int) + (1 * a0 + 0); omega) (by show zk_xe w' 2000182 ((0 : Int) + (1 * a0 + 0)) = (1 : Int) + (0); rw [show (0 : Int) + (1 * a0 + 0) = a0 by omega]; exact h.trans (by omega)) zx_eF0)
theorem zj_n181 {w : zz_W} {j u N : Int} (e : j = u + 18446744073709551616 * N) (u0 : 0 ≤ u) (u1 : u < 4294967296) (N0 : 0 ≤ N) (N1 : N < 4294967296) : zk_xe w 2000181 j = 1 ↔ zj_nu (fun k => zh_e w 208 (8000 * u + k)) (fun k => zh_e w 209 (8000 * u + k)) (fun k => zh_e w 210 (8000 * u + k)) (fun k => zh_e w 211 (8000 * u + k)) (fun k => zh_e w 212 (8000 * u + k)) (fun k => zh_e w 214 (64 * u + k)) (fun k => zh_e w 215 (64 * u + k)) (fun k => zh_e w 204 (600 * u + k)) (fun k => zh_e w 205 (600 * u + k)) (zh_e w 207 u) (zh_e w 213 u) (zh_e w 203 u) N := by
  obtain ⟨d0, d1, d2⟩ := zg_d3 (j := j) (n := u) (k := 0) (u := N) (by omega) u0 u1 (by omega) (by omega) N0 N1
  rw [show (2000181 : Nat) = 2000000 + 181 from rfl, zk_xe_h]
  have h : zv_H 181 w j = zh_b (zj_nu (fun k => zh_e w 208 (8000 * u + k)) (fun k => zh_e w 209 (8000 * u + k)) (fun k => zh_e w 210 (8000 * u + k)) (fun k => zh_e w 211 (8000 * u + k)) (fun k => zh_e w 212 (8000 * u + k)) (fun k => zh_e w 214 (64 * u + k)) (fun k => zh_e w 215 (64 * u + k)) (fun k => zh_e w 204 (600 * u + k)) (fun k => zh_e w 205 (600 * u + k)) (zh_e w 207 u) (zh_e w 213 u) (zh_e w 203 u) N) := by
    show zh_b (zj_nu (fun k => zh_e w 208 (8000 * (zv_dg 0 j) + k)) (fun k => zh_e w 209 (8000 * (zv_dg 0 j) + k)) (fun k => zh_e w 210 (8000 * (zv_dg 0 j) + k)) (fun k => zh_e w 211 (8000 * (zv_dg 0 j) + k)) (fun k => zh_e w 212 (8000 * (zv_dg 0 j) + k)) (fun k => zh_e w 214 (64 * (zv_dg 0 j) + k)) (fun k => zh_e w 215 (64 * (zv_dg 0 j) + k)) (fun k => zh_e w 204 (600 * (zv_dg 0 j) + k)) (fun k => zh_e w 205 (600 * (zv_dg 0 j) + k)) (zh_e w 207 (zv_dg 0 j)) (zh_e w 213 (zv_dg 0 j)) (zh_e w 203 (zv_dg 0 j)) (zv_dg 2 j)) = _
    rw [d0, d2]
  rw [h]
  exact ⟨zh_b1', zh_b1⟩
theorem zj_n182 {w : zz_W} {j n : Int} (e : j = n) (n0 : 0 ≤ n) (n1 : n < 4294967296) : zk_xe w 2000182 j = 1 ↔ ∀ u, 0 ≤ u → u < n → 1 ≤ zh_e w 176 u → ∀ k, 0 ≤ k → k < zh_e w 207 u → k < 8000 → zj_nm (zh_e w 208 (8000 * u + k)) → 0 ≤ zh_e w 209 (8000 * u + k) ∧ zh_e w 209 (8000 * u + k) ≤ 65535 := by
  obtain ⟨d0, d1, -⟩ := zg_d3 (j := j) (n := n) (k := 0) (u := 0) (by omega) n0 n1 (by omega) (by omega) (by omega) (by omega)
  rw [show (2000182 : Nat) = 2000000 + 182 from rfl, zk_xe_h]
  have h : zv_H 182 w j = zh_b (∀ u, 0 ≤ u → u < n → 1 ≤ zh_e w 176 u → ∀ k, 0 ≤ k → k < zh_e w 207 u → k < 8000 → zj_nm (zh_e w 208 (8000 * u + k)) → 0 ≤ zh_e w 209 (8000 * u + k) ∧ zh_e w 209 (8000 * u + k) ≤ 65535) := by
    show zh_b (zv_dg 1 j = 0 → ∀ u, 0 ≤ u → u < zv_dg 0 j → 1 ≤ zh_e w 176 u → ∀ k, 0 ≤ k → k < zh_e w 207 u → k < 8000 → zj_nm (zh_e w 208 (8000 * u + k)) → 0 ≤ zh_e w 209 (8000 * u + k) ∧ zh_e w 209 (8000 * u + k) ≤ 65535) = _
    rw [d0, d1]
    exact congrArg zh_b (propext ⟨fun q => q rfl, fun q _ => q⟩)
  rw [h]
  exact ⟨zh_b1', zh_b1⟩
def zx_D1152 : zx_L := zx_Lc [] 5 [(2000172, 0), (2000181, 3)] [] [((0, 0), [(0, 1, 0), (1, 0, 1), (2, 0, 18446744073709551616)]), ((0, 1), [(5, 1, 0)]), ((0, 0), [(0, 0, 1), (3, 1, 0)]), ((0, 1), [(6, 1, 0)]), ((0, 1), [(1, 0, 1), (2, 0, 18446744073709551616), (4, 1, 0)])] [((0, 0), [(1, 1, 0)]), ((4294967276, 0), [(1, 0, 1)]), ((0, 0), [(2, 1, 0)]), ((4294967276, 0), [(2, 0, 1)])] [([], [], [(2000172, ((0, 0), [(4, 1, 0)]), ((1, 0), []))], [])]
theorem zx_D1152_ok {PT : Nat → zz_W → Prop} : zx_Lok 64 zHT PT zx_D1152 := by
  refine zx_Lc_ok (fun w hI hK ins hl hr he hg => ?_)
  obtain ⟨a0, a1, a2, a3, a4, rfl⟩ := zx_i5 hl
  have e0 : (0 : Int) + (1 * a0 + ((-1) * a1 + ((-18446744073709551616) * a2 + 0))) = 0 := he _ List.mem_cons_self
  have e1 : ((-1) : Int) + (1 * (zk_xe w 2000172 a0) + 0) = 0 := he _ (List.mem_cons_of_mem _ List.mem_cons_self)
  have e2 : (0 : Int) + ((-1) * a0 + (1 * a3 + 0)) = 0 := he _ (List.mem_cons_of_mem _ (List.mem_cons_of_mem _ List.mem_cons_self))
  have e3 : ((-1) : Int) + (1 * (zk_xe w 2000181 a3) + 0) = 0 := he _ (List.mem_cons_of_mem _ (List.mem_cons_of_mem _ (List.mem_cons_of_mem _ List.mem_cons_self)))
  have e4 : ((-1) : Int) + ((-1) * a1 + ((-18446744073709551616) * a2 + (1 * a4 + 0))) = 0 := he _ (List.mem_cons_of_mem _ (List.mem_cons_of_mem _ (List.mem_cons_of_mem _ (List.mem_cons_of_mem _ List.mem_cons_self))))
  have g0 : 0 ≤ (0 : Int) + (1 * a1 + 0) := hg _ List.mem_cons_self
  have g1 : 0 ≤ (4294967276 : Int) + ((-1) * a1 + 0) := hg _ (List.mem_cons_of_mem _ List.mem_cons_self)
  have g2 : 0 ≤ (0 : Int) + (1 * a2 + 0) := hg _ (List.mem_cons_of_mem _ (List.mem_cons_of_mem _ List.mem_cons_self))
  have g3 : 0 ≤ (4294967276 : Int) + ((-1) * a2 + 0) := hg _ (List.mem_cons_of_mem _ (List.mem_cons_of_mem _ (List.mem_cons_of_mem _ List.mem_cons_self)))
  have r0 : 0 ≤ a0 := hr _ List.mem_cons_self
  have r1 : 0 ≤ a3 := hr _ (List.mem_cons_of_mem _ List.mem_cons_self)
  have hp := (zj_n172 (w := w) (j := a0) (n := a1) (N := a2) (by omega) (by omega) (by omega) (by omega) (by omega) ).mp (by omega)
  have hu := (zj_n181 (w := w) (j := a3) (u := a1) (N := a2) (by omega) (by omega) (by omega) (by omega) (by omega) ).mp (by omega)
  have h : zk_xe w 2000172 a4 = 1 := by
    refine (zj_n172 (w := w) (j := a4) (n := (a1 + 1)) (N := a2) (by omega) (by omega) (by omega) (by omega) (by omega) ).mpr (fun u u0 u1 u2 => ?_)
    by_cases c : u = a1
    · rw [c]
      exact hu
    · exact hp u u0 (by omega) u2
  exact ⟨_, List.mem_cons_self, [], rfl, zx_bnil, zx_cs0, (zx_eF1 (by show 0 ≤ (0 : Int) + (1 * a4 + 0); omega) (by show zk_xe w 2000172 ((0 : Int) + (1 * a4 + 0)) = (1 : Int) + (0); rw [show (0 : Int) + (1 * a4 + 0) = a4 by omega]; exact h.trans (by omega)) zx_eF0), zx_k0⟩
def zx_D1153 : zx_L := zx_Lc [] 2 [(2000176, 0), (176, 0)] [] [((0, 1), [(0, 0, 1), (1, 1, 0)]), ((0, 1), [(2, 1, 0)]), ((0, 0), [(3, 1, 0)])] [((0, 0), [(0, 1, 0)]), ((4294967276, 0), [(0, 0, 1)])] [([], [], [(2000176, ((0, 0), [(1, 1, 0)]), ((1, 0), []))], [])]
theorem zx_D1153_ok {PT : Nat → zz_W → Prop} : zx_Lok 64 zHT PT zx_D1153 := by
  refine zx_Lc_ok (fun w hI hK ins hl hr he hg => ?_)
  obtain ⟨a0, a1, rfl⟩ := zx_i2 hl
  have e0 : ((-1) : Int) + ((-1) * a0 + (1 * a1 + 0)) = 0 := he _ List.mem_cons_self
  have e1 : ((-1) : Int) + (1 * (zk_xe w 2000176 a0) + 0) = 0 := he _ (List.mem_cons_of_mem _ List.mem_cons_self)
  have e2 : (0 : Int) + (1 * (zk_xe w 176 a0) + 0) = 0 := he _ (List.mem_cons_of_mem _ (List.mem_cons_of_mem _ List.mem_cons_self))
  have g0 : 0 ≤ (0 : Int) + (1 * a0 + 0) := hg _ List.mem_cons_self
  have g1 : 0 ≤ (4294967276 : Int) + ((-1) * a0 + 0) := hg _ (List.mem_cons_of_mem _ List.mem_cons_self)
  have r0 : 0 ≤ a0 := hr _ List.mem_cons_self
  have r1 : 0 ≤ a0 := hr _ (List.mem_cons_of_mem _ List.mem_cons_self)
  have hp := (zc_176 (w := w) (j := a0) (n := a0) (by omega) (by omega) (by omega) ).mp (by omega)
  have k0 : zh_e w 176 (a0) = zk_xe w 176 a0 := by rw [zk_xe_r (i := 176) (by decide)]; show zk_el w 176 (a0) = zk_el w 176 a0; rw [show a0 = a0 by omega]
  have h : zk_xe w 2000176 a1 = 1 := by
    refine (zc_176 (w := w) (j := a1) (n := (a0 + 1)) (by omega) (by omega) (by omega) ).mpr (fun u u0 u1 u2 => ?_)
    by_cases c : u = a0
    · rw [c, k0] at u2
      omega
    · exact hp u u0 (by omega) u2
  exact ⟨_, List.mem_cons_self, [], rfl, zx_bnil, zx_cs0, (zx_eF1 (by show 0 ≤ (0 : Int) + (1 * a1 + 0); omega) (by show zk_xe w 2000176 ((0 : Int) + (1 * a1 + 0)) = (1 : Int) + (0); rw [show (0 : Int) + (1 * a1 + 0) = a1 by omega]; exact h.trans (by omega)) zx_eF0), zx_k0⟩
def zx_D1154 : zx_L := zx_Lc [] 2 [(2000182, 0), (176, 0)] [] [((0, 1), [(0, 0, 1), (1, 1, 0)]), ((0, 1), [(2, 1, 0)]), ((0, 0), [(3, 1, 0)])] [((0, 0), [(0, 1, 0)]), ((4294967276, 0), [(0, 0, 1)])] [([], [], [(2000182, ((0, 0), [(1, 1, 0)]), ((1, 0), []))], [])]
theorem zx_D1154_ok {PT : Nat → zz_W → Prop} : zx_Lok 64 zHT PT zx_D1154 := by
  refine zx_Lc_ok (fun w hI hK ins hl hr he hg => ?_)
  obtain ⟨a0, a1, rfl⟩ := zx_i2 hl
  have e0 : ((-1) : Int) + ((-1) * a0 + (1 * a1 + 0)) = 0 := he _ List.mem_cons_self
  have e1 : ((-1) : Int) + (1 * (zk_xe w 2000182 a0) + 0) = 0 := he _ (List.mem_cons_of_mem _ List.mem_cons_self)
  have e2 : (0 : Int) + (1 * (zk_xe w 176 a0) + 0) = 0 := he _ (List.mem_cons_of_mem _ (List.mem_cons_of_mem _ List.mem_cons_self))
  have g0 : 0 ≤ (0 : Int) + (1 * a0 + 0) := hg _ List.mem_cons_self
  have g1 : 0 ≤ (4294967276 : Int) + ((-1) * a0 + 0) := hg _ (List.mem_cons_of_mem _ List.mem_cons_self)
  have r0 : 0 ≤ a0 := hr _ List.mem_cons_self
  have r1 : 0 ≤ a0 := hr _ (List.mem_cons_of_mem _ List.mem_cons_self)
  have hp := (zj_n182 (w := w) (j := a0) (n := a0) (by omega) (by omega) (by omega) ).mp (by omega)
  have k0 : zh_e w 176 (a0) = zk_xe w 176 a0 := by rw [zk_xe_r (i := 176) (by decide)]; show zk_el w 176 (a0) = zk_el w 176 a0; rw [show a0 = a0 by omega]
  have h : zk_xe w 2000182 a1 = 1 := by
    refine (zj_n182 (w := w) (j := a1) (n := (a0 + 1)) (by omega) (by omega) (by omega) ).mpr (fun u u0 u1 u2 => ?_)
    by_cases c : u = a0
    · rw [c, k0] at u2
      omega
    · exact hp u u0 (by omega) u2
  exact ⟨_, List.mem_cons_self, [], rfl, zx_bnil, zx_cs0, (zx_eF1 (by show 0 ≤ (0 : Int) + (1 * a1 + 0); omega) (by show zk_xe w 2000182 ((0 : Int) + (1 * a1 + 0)) = (1 : Int) + (0); rw [show (0 : Int) + (1 * a1 + 0) = a1 by omega]; exact h.trans (by omega)) zx_eF0), zx_k0⟩
/-- a unit that is new -/
theorem zc_184 {w : zz_W} {j : Int} : zk_xe w 2000184 j = 1 ↔ ∀ p, 0 ≤ p → p < j → 0 ≤ zh_e w 256 p := by
  rw [show (2000184 : Nat) = 2000000 + 184 from rfl, zk_xe_h]
  exact ⟨zh_b1', zh_b1⟩
theorem zj_un {sw sa sb sc sd un uk D K V Q : Int → Int} {n u s d e N : Int} (hS : zs_sts sw sa sb sc sd un uk n (8000 * u) (8000 * u + s)) (hr : ∀ a k, zs_u un uk 0 n a k → zj_res D K V Q d e N a k) (hD : ∀ m, 0 ≤ m → m < d → m < 64 → 0 ≤ D m ∧ D m < N) : zj_nu (fun k => sw (8000 * u + k)) (fun k => sa (8000 * u + k)) (fun k => sb (8000 * u + k)) (fun k => sc (8000 * u + k)) (fun k => sd (8000 * u + k)) D K V Q s d e N := by
  refine ⟨fun k k0 k1 k2 => ?_, hD⟩
  obtain ⟨q0, q1, q2, q3, q4, q5, q6, q7⟩ := hS (8000 * u + k) (by omega) (by omega)
  refine ⟨q0, fun q => ?_, fun q => ?_, fun q => ?_, fun q => ?_, fun q => ?_, fun q => ?_, fun q => ?_⟩
  · exact (q1 q).imp (fun x => ⟨x.1, hr _ _ x.2⟩) id
  · exact (q2 q).imp (fun x => ⟨x.1, hr _ _ x.2⟩) id
  · obtain ⟨a, b, c, d', f⟩ := q3 q
    have e : 8000 * u + (k - 1) = 8000 * u + k - 1 := by omega
    show 0 < k ∧ sw (8000 * u + (k - 1)) = 6 ∧ sa (8000 * u + (k - 1)) = sa (8000 * u + k) ∧ sb (8000 * u + (k - 1)) = sb (8000 * u + k) ∧ sc (8000 * u + (k - 1)) = sc (8000 * u + k)
    rw [e]
    exact ⟨by omega, b, c, d', f⟩
  · obtain ⟨a, b, c⟩ := q4 q
    exact ⟨a, b, hr _ _ c⟩
  · obtain ⟨j, j0, j1, a, b, c, d', f⟩ := q5 q
    have e : 8000 * u + (j - 8000 * u) = j := by omega
    refine ⟨j - 8000 * u, by omega, by omega, ?_, ?_, ?_, ?_, fun m m0 m1 => ?_⟩
    · show sw (8000 * u + (j - 8000 * u)) = 6
      rw [e]
      exact a
    · show sa (8000 * u + (j - 8000 * u)) = sa (8000 * u + k)
      rw [e]
      exact b
    · show sb (8000 * u + (j - 8000 * u)) = sb (8000 * u + k)
      rw [e]
      exact c
    · show sc (8000 * u + (j - 8000 * u)) = 0
      rw [e]
      exact d'
    · exact f (8000 * u + m) (by omega) (by omega)
  · obtain ⟨j, j0, j1, a, f⟩ := q6 q
    have e : 8000 * u + (j - 8000 * u) = j := by omega
    refine ⟨j - 8000 * u, by omega, by omega, ?_, fun m m0 m1 => ?_⟩
    · show sw (8000 * u + (j - 8000 * u)) = 2
      rw [e]
      exact a
    · exact f (8000 * u + m) (by omega) (by omega)
  · rcases q7 q with z | z
    · exact Or.inl (by omega)
    · refine Or.inr ?_
      show sw (8000 * u + (k - 1)) = 1
      rw [show 8000 * u + (k - 1) = 8000 * u + k - 1 by omega]
      exact z
theorem zj_97 {w : zz_W} {n k : Int} (h : zu_P (zu_T 97) w [n]) (k0 : 0 ≤ k) (k1 : k < 8000) : zh_e w 207 n ≤ k ∨ ¬ zj_nm (zh_e w 208 (8000 * n + k)) ∨ (0 ≤ zh_e w 209 (8000 * n + k) ∧ zh_e w 209 (8000 * n + k) ≤ 65535) := by
  have hix : zu_ix [8000] [k] := by
    refine ⟨rfl, fun j N hj => ?_⟩
    cases j with
    | zero =>
      have e : 8000 = N := Option.some.inj hj
      rw [← e]
      exact ⟨k0, k1⟩
    | succ j =>
      simp at hj
  have e1 : (0 : Int) + (1 * n + 0) = n := by omega
  have e2 : (0 : Int) + (1 * k + (8000 * n + 0)) = 8000 * n + k := by omega
  obtain ⟨d, hd, hc⟩ := h [k] hix
  have hd : d ∈ [[((0, 0), [(0, 1, 0), (2, 0, 1)])], [((0, 1), [(3, 1, 0)]), ((4, 0), [(3, 0, 1)])], [((0, 0), [(3, 0, 1)]), ((0, 0), [(4, 1, 0)]), ((3000, 0), [(4, 0, 1)])], [((0, 9), [(3, 1, 0)]), ((10, 0), [(3, 0, 1)])], [((0, 13), [(3, 1, 0)])], [((0, 0), [(4, 1, 0)]), ((65535, 0), [(4, 0, 1)]), ((7, 0), [(3, 0, 1)]), ((0, 5), [(3, 1, 0)])], [((0, 0), [(4, 1, 0)]), ((65535, 0), [(4, 0, 1)]), ((0, 11), [(3, 1, 0)]), ((12, 0), [(3, 0, 1)])], [((0, 0), [(4, 1, 0)]), ((65535, 0), [(4, 0, 1)]), ((0, 0), [(5, 1, 0)]), ((4, 0), [(5, 0, 1)]), ((0, 8), [(3, 1, 0)]), ((8, 0), [(3, 0, 1)])]] := hd
  have no : ∀ x : Int, (x ≤ 4 ∨ (9 ≤ x ∧ x ≤ 10) ∨ 13 ≤ x) → ¬ zj_nm x := fun x hx => by
    unfold zj_nm
    omega
  have q1 := List.mem_cons_self (a := (0 : Nat)) (l := [])
  rcases List.mem_cons.mp hd with hq | hd
  · subst hq
    have c : 0 ≤ (0 : Int) + (1 * k + ((-1) * zk_el w 207 ((0 : Int) + (1 * n + 0)) + 0)) := hc _ List.mem_cons_self
    rw [e1] at c
    exact Or.inl (by show zk_el w 207 n ≤ k; omega)
  rcases List.mem_cons.mp hd with hq | hd
  · subst hq
    have c : 0 ≤ (4 : Int) + ((-1) * zk_el w 208 ((0 : Int) + (1 * k + (8000 * n + 0))) + 0) := hc _ (List.mem_cons_of_mem _ List.mem_cons_self)
    rw [e2] at c
    exact Or.inr (Or.inl (no _ (Or.inl (by show zk_el w 208 (8000 * n + k) ≤ 4; omega))))
  rcases List.mem_cons.mp hd with hq | hd
  · subst hq
    have c : 0 ≤ (0 : Int) + ((-1) * zk_el w 208 ((0 : Int) + (1 * k + (8000 * n + 0))) + 0) := hc _ List.mem_cons_self
    rw [e2] at c
    exact Or.inr (Or.inl (no _ (Or.inl (by show zk_el w 208 (8000 * n + k) ≤ 4; omega))))
  rcases List.mem_cons.mp hd with hq | hd
  · subst hq
    have c : 0 ≤ (-9 : Int) + (1 * zk_el w 208 ((0 : Int) + (1 * k + (8000 * n + 0))) + 0) := hc _ List.mem_cons_self
    have c' : 0 ≤ (10 : Int) + ((-1) * zk_el w 208 ((0 : Int) + (1 * k + (8000 * n + 0))) + 0) := hc _ (List.mem_cons_of_mem _ List.mem_cons_self)
    rw [e2] at c c'
    exact Or.inr (Or.inl (no _ (Or.inr (Or.inl (by show 9 ≤ zk_el w 208 (8000 * n + k) ∧ zk_el w 208 (8000 * n + k) ≤ 10; omega)))))
  rcases List.mem_cons.mp hd with hq | hd
  · subst hq
    have c : 0 ≤ (-13 : Int) + (1 * zk_el w 208 ((0 : Int) + (1 * k + (8000 * n + 0))) + 0) := hc _ List.mem_cons_self
    rw [e2] at c
    exact Or.inr (Or.inl (no _ (Or.inr (Or.inr (by show 13 ≤ zk_el w 208 (8000 * n + k); omega)))))
  have fin : ∀ d' : List zl_E, zk_cs (fun m => (zu_ex w (zu_T 97).1 ([k] ++ [n])).getD m 0) (((0, 0), [(4, 1, 0)]) :: ((65535, 0), [(4, 0, 1)]) :: d') → 0 ≤ zh_e w 209 (8000 * n + k) ∧ zh_e w 209 (8000 * n + k) ≤ 65535 := by
    intro d' hc
    have c : 0 ≤ (0 : Int) + (1 * zk_el w 209 ((0 : Int) + (1 * k + (8000 * n + 0))) + 0) := hc _ List.mem_cons_self
    have c' : 0 ≤ (65535 : Int) + ((-1) * zk_el w 209 ((0 : Int) + (1 * k + (8000 * n + 0))) + 0) := hc _ (List.mem_cons_of_mem _ List.mem_cons_self)
    rw [e2] at c c'
    show 0 ≤ zk_el w 209 (8000 * n + k) ∧ zk_el w 209 (8000 * n + k) ≤ 65535
    omega
  rcases List.mem_cons.mp hd with hq | hd
  · subst hq
    exact Or.inr (Or.inr (fin _ hc))
  rcases List.mem_cons.mp hd with hq | hd
  · subst hq
    exact Or.inr (Or.inr (fin _ hc))
  rcases List.mem_cons.mp hd with hq | hd
  · subst hq
    exact Or.inr (Or.inr (fin _ hc))
  · exact absurd hd List.not_mem_nil
def zx_D1155 : zx_L := zx_Lc [] 16 [(2000074, 3), (2000092, 5), (2000076, 8), (2000151, 10), (2000177, 11), (2000180, 12), (2000154, 13), (2000184, 6), (2000071, 15), (222, 9), (213, 1), (203, 1)] [] [((0, 0), [(0, 1, 0), (1, 0, 1), (2, 0, 18446744073709551616)]), ((0, 0), [(1, 0, 4294967296), (3, 1, 0), (4, 0, 1)]), ((0, 12889196855296), [(4, 0, 1), (5, 1, 0), (6, 0, 18446744073709551616), (7, 0, 79228162514264337593543950336)]), ((0, 0), [(4, 0, 1), (8, 1, 0), (9, 0, 18446744073709551616)]), ((0, 0), [(1, 0, 1), (6, 0, 4294967296), (10, 1, 0)]), ((0, 0), [(1, 0, 1), (7, 0, 4294967296), (11, 1, 0)]), ((0, 0), [(2, 0, 4294967296), (7, 0, 1), (12, 1, 0)]), ((0, 0), [(6, 0, 1), (13, 1, 0), (14, 0, 4294967296)]), ((0, 0), [(15, 1, 0)]), ((0, 1), [(16, 1, 0)]), ((0, 1), [(17, 1, 0)]), ((0, 1), [(18, 1, 0)]), ((0, 1), [(19, 1, 0)]), ((0, 1), [(20, 1, 0)]), ((0, 1), [(21, 1, 0)]), ((0, 1), [(22, 1, 0)]), ((0, 1), [(23, 1, 0)]), ((0, 0), [(24, 1, 0)]), ((0, 0), [(7, 0, 1), (26, 1, 0)])] [((0, 0), [(1, 1, 0)]), ((4294967276, 0), [(1, 0, 1)]), ((0, 0), [(2, 1, 0)]), ((4294967276, 0), [(2, 0, 1)]), ((0, 0), [(4, 1, 0)]), ((4294967276, 0), [(4, 0, 1)]), ((0, 0), [(6, 1, 0)]), ((4294967276, 0), [(6, 0, 1)]), ((0, 0), [(7, 1, 0)]), ((4294967276, 0), [(7, 0, 1)]), ((0, 0), [(9, 1, 0)]), ((4294967276, 0), [(9, 0, 1)]), ((0, 0), [(14, 1, 0)]), ((4294967276, 0), [(14, 0, 1)]), ((3001, 0), [(25, 0, 1)]), ((600, 0), [(27, 0, 1)]), ((64, 0), [(7, 0, 1)]), ((0, 0), [(2, 1, 0), (14, 0, 1)])] [([], [], [(2000181, ((0, 0), [(0, 1, 0)]), ((1, 0), []))], [])]
theorem zx_D1155_ok {PT : Nat → zz_W → Prop} : zx_Lok 64 zHT PT zx_D1155 := by
  refine zx_Lc_ok (fun w hI hK ins hl hr he hg => ?_)
  obtain ⟨a0, a1, a2, a3, a4, a5, a6, a7, a8, a9, a10, a11, a12, a13, a14, a15, rfl⟩ := zx_i16 hl
  have e0 : (0 : Int) + (1 * a0 + ((-1) * a1 + ((-18446744073709551616) * a2 + 0))) = 0 := he _ List.mem_cons_self
  have e1 : (0 : Int) + ((-4294967296) * a1 + (1 * a3 + ((-1) * a4 + 0))) = 0 := he _ (List.mem_cons_of_mem _ List.mem_cons_self)
  have e2 : ((-12889196855296) : Int) + ((-1) * a4 + (1 * a5 + ((-18446744073709551616) * a6 + ((-79228162514264337593543950336) * a7 + 0)))) = 0 := he _ (List.mem_cons_of_mem _ (List.mem_cons_of_mem _ List.mem_cons_self))
  have e3 : (0 : Int) + ((-1) * a4 + (1 * a8 + ((-18446744073709551616) * a9 + 0))) = 0 := he _ (List.mem_cons_of_mem _ (List.mem_cons_of_mem _ (List.mem_cons_of_mem _ List.mem_cons_self)))
  have e4 : (0 : Int) + ((-1) * a1 + ((-4294967296) * a6 + (1 * a10 + 0))) = 0 := he _ (List.mem_cons_of_mem _ (List.mem_cons_of_mem _ (List.mem_cons_of_mem _ (List.mem_cons_of_mem _ List.mem_cons_self))))
  have e5 : (0 : Int) + ((-1) * a1 + ((-4294967296) * a7 + (1 * a11 + 0))) = 0 := he _ (List.mem_cons_of_mem _ (List.mem_cons_of_mem _ (List.mem_cons_of_mem _ (List.mem_cons_of_mem _ (List.mem_cons_of_mem _ List.mem_cons_self)))))
  have e6 : (0 : Int) + ((-4294967296) * a2 + ((-1) * a7 + (1 * a12 + 0))) = 0 := he _ (List.mem_cons_of_mem _ (List.mem_cons_of_mem _ (List.mem_cons_of_mem _ (List.mem_cons_of_mem _ (List.mem_cons_of_mem _ (List.mem_cons_of_mem _ List.mem_cons_self))))))
  have e7 : (0 : Int) + ((-1) * a6 + (1 * a13 + ((-4294967296) * a14 + 0))) = 0 := he _ (List.mem_cons_of_mem _ (List.mem_cons_of_mem _ (List.mem_cons_of_mem _ (List.mem_cons_of_mem _ (List.mem_cons_of_mem _ (List.mem_cons_of_mem _ (List.mem_cons_of_mem _ List.mem_cons_self)))))))
  have e8 : (0 : Int) + (1 * a15 + 0) = 0 := he _ (List.mem_cons_of_mem _ (List.mem_cons_of_mem _ (List.mem_cons_of_mem _ (List.mem_cons_of_mem _ (List.mem_cons_of_mem _ (List.mem_cons_of_mem _ (List.mem_cons_of_mem _ (List.mem_cons_of_mem _ List.mem_cons_self))))))))
  have e9 : ((-1) : Int) + (1 * (zk_xe w 2000074 a3) + 0) = 0 := he _ (List.mem_cons_of_mem _ (List.mem_cons_of_mem _ (List.mem_cons_of_mem _ (List.mem_cons_of_mem _ (List.mem_cons_of_mem _ (List.mem_cons_of_mem _ (List.mem_cons_of_mem _ (List.mem_cons_of_mem _ (List.mem_cons_of_mem _ List.mem_cons_self)))))))))
  have e10 : ((-1) : Int) + (1 * (zk_xe w 2000092 a5) + 0) = 0 := he _ (List.mem_cons_of_mem _ (List.mem_cons_of_mem _ (List.mem_cons_of_mem _ (List.mem_cons_of_mem _ (List.mem_cons_of_mem _ (List.mem_cons_of_mem _ (List.mem_cons_of_mem _ (List.mem_cons_of_mem _ (List.mem_cons_of_mem _ (List.mem_cons_of_mem _ List.mem_cons_self))))))))))
  have e11 : ((-1) : Int) + (1 * (zk_xe w 2000076 a8) + 0) = 0 := he _ (List.mem_cons_of_mem _ (List.mem_cons_of_mem _ (List.mem_cons_of_mem _ (List.mem_cons_of_mem _ (List.mem_cons_of_mem _ (List.mem_cons_of_mem _ (List.mem_cons_of_mem _ (List.mem_cons_of_mem _ (List.mem_cons_of_mem _ (List.mem_cons_of_mem _ (List.mem_cons_of_mem _ List.mem_cons_self)))))))))))
  have e12 : ((-1) : Int) + (1 * (zk_xe w 2000151 a10) + 0) = 0 := he _ (List.mem_cons_of_mem _ (List.mem_cons_of_mem _ (List.mem_cons_of_mem _ (List.mem_cons_of_mem _ (List.mem_cons_of_mem _ (List.mem_cons_of_mem _ (List.mem_cons_of_mem _ (List.mem_cons_of_mem _ (List.mem_cons_of_mem _ (List.mem_cons_of_mem _ (List.mem_cons_of_mem _ (List.mem_cons_of_mem _ List.mem_cons_self))))))))))))
  have e13 : ((-1) : Int) + (1 * (zk_xe w 2000177 a11) + 0) = 0 := he _ (List.mem_cons_of_mem _ (List.mem_cons_of_mem _ (List.mem_cons_of_mem _ (List.mem_cons_of_mem _ (List.mem_cons_of_mem _ (List.mem_cons_of_mem _ (List.mem_cons_of_mem _ (List.mem_cons_of_mem _ (List.mem_cons_of_mem _ (List.mem_cons_of_mem _ (List.mem_cons_of_mem _ (List.mem_cons_of_mem _ (List.mem_cons_of_mem _ List.mem_cons_self)))))))))))))
  have e14 : ((-1) : Int) + (1 * (zk_xe w 2000180 a12) + 0) = 0 := he _ (List.mem_cons_of_mem _ (List.mem_cons_of_mem _ (List.mem_cons_of_mem _ (List.mem_cons_of_mem _ (List.mem_cons_of_mem _ (List.mem_cons_of_mem _ (List.mem_cons_of_mem _ (List.mem_cons_of_mem _ (List.mem_cons_of_mem _ (List.mem_cons_of_mem _ (List.mem_cons_of_mem _ (List.mem_cons_of_mem _ (List.mem_cons_of_mem _ (List.mem_cons_of_mem _ List.mem_cons_self))))))))))))))
  have e15 : ((-1) : Int) + (1 * (zk_xe w 2000154 a13) + 0) = 0 := he _ (List.mem_cons_of_mem _ (List.mem_cons_of_mem _ (List.mem_cons_of_mem _ (List.mem_cons_of_mem _ (List.mem_cons_of_mem _ (List.mem_cons_of_mem _ (List.mem_cons_of_mem _ (List.mem_cons_of_mem _ (List.mem_cons_of_mem _ (List.mem_cons_of_mem _ (List.mem_cons_of_mem _ (List.mem_cons_of_mem _ (List.mem_cons_of_mem _ (List.mem_cons_of_mem _ (List.mem_cons_of_mem _ List.mem_cons_self)))))))))))))))
  have e16 : ((-1) : Int) + (1 * (zk_xe w 2000184 a6) + 0) = 0 := he _ (List.mem_cons_of_mem _ (List.mem_cons_of_mem _ (List.mem_cons_of_mem _ (List.mem_cons_of_mem _ (List.mem_cons_of_mem _ (List.mem_cons_of_mem _ (List.mem_cons_of_mem _ (List.mem_cons_of_mem _ (List.mem_cons_of_mem _ (List.mem_cons_of_mem _ (List.mem_cons_of_mem _ (List.mem_cons_of_mem _ (List.mem_cons_of_mem _ (List.mem_cons_of_mem _ (List.mem_cons_of_mem _ (List.mem_cons_of_mem _ List.mem_cons_self))))))))))))))))
  have e17 : (0 : Int) + (1 * (zk_xe w 2000071 a15) + 0) = 0 := he _ (List.mem_cons_of_mem _ (List.mem_cons_of_mem _ (List.mem_cons_of_mem _ (List.mem_cons_of_mem _ (List.mem_cons_of_mem _ (List.mem_cons_of_mem _ (List.mem_cons_of_mem _ (List.mem_cons_of_mem _ (List.mem_cons_of_mem _ (List.mem_cons_of_mem _ (List.mem_cons_of_mem _ (List.mem_cons_of_mem _ (List.mem_cons_of_mem _ (List.mem_cons_of_mem _ (List.mem_cons_of_mem _ (List.mem_cons_of_mem _ (List.mem_cons_of_mem _ List.mem_cons_self)))))))))))))))))
  have e18 : (0 : Int) + ((-1) * a7 + (1 * (zk_xe w 213 a1) + 0)) = 0 := he _ (List.mem_cons_of_mem _ (List.mem_cons_of_mem _ (List.mem_cons_of_mem _ (List.mem_cons_of_mem _ (List.mem_cons_of_mem _ (List.mem_cons_of_mem _ (List.mem_cons_of_mem _ (List.mem_cons_of_mem _ (List.mem_cons_of_mem _ (List.mem_cons_of_mem _ (List.mem_cons_of_mem _ (List.mem_cons_of_mem _ (List.mem_cons_of_mem _ (List.mem_cons_of_mem _ (List.mem_cons_of_mem _ (List.mem_cons_of_mem _ (List.mem_cons_of_mem _ (List.mem_cons_of_mem _ List.mem_cons_self))))))))))))))))))
  have g0 : 0 ≤ (0 : Int) + (1 * a1 + 0) := hg _ List.mem_cons_self
  have g1 : 0 ≤ (4294967276 : Int) + ((-1) * a1 + 0) := hg _ (List.mem_cons_of_mem _ List.mem_cons_self)
  have g2 : 0 ≤ (0 : Int) + (1 * a2 + 0) := hg _ (List.mem_cons_of_mem _ (List.mem_cons_of_mem _ List.mem_cons_self))
  have g3 : 0 ≤ (4294967276 : Int) + ((-1) * a2 + 0) := hg _ (List.mem_cons_of_mem _ (List.mem_cons_of_mem _ (List.mem_cons_of_mem _ List.mem_cons_self)))
  have g4 : 0 ≤ (0 : Int) + (1 * a4 + 0) := hg _ (List.mem_cons_of_mem _ (List.mem_cons_of_mem _ (List.mem_cons_of_mem _ (List.mem_cons_of_mem _ List.mem_cons_self))))
  have g5 : 0 ≤ (4294967276 : Int) + ((-1) * a4 + 0) := hg _ (List.mem_cons_of_mem _ (List.mem_cons_of_mem _ (List.mem_cons_of_mem _ (List.mem_cons_of_mem _ (List.mem_cons_of_mem _ List.mem_cons_self)))))
  have g6 : 0 ≤ (0 : Int) + (1 * a6 + 0) := hg _ (List.mem_cons_of_mem _ (List.mem_cons_of_mem _ (List.mem_cons_of_mem _ (List.mem_cons_of_mem _ (List.mem_cons_of_mem _ (List.mem_cons_of_mem _ List.mem_cons_self))))))
  have g7 : 0 ≤ (4294967276 : Int) + ((-1) * a6 + 0) := hg _ (List.mem_cons_of_mem _ (List.mem_cons_of_mem _ (List.mem_cons_of_mem _ (List.mem_cons_of_mem _ (List.mem_cons_of_mem _ (List.mem_cons_of_mem _ (List.mem_cons_of_mem _ List.mem_cons_self)))))))
  have g8 : 0 ≤ (0 : Int) + (1 * a7 + 0) := hg _ (List.mem_cons_of_mem _ (List.mem_cons_of_mem _ (List.mem_cons_of_mem _ (List.mem_cons_of_mem _ (List.mem_cons_of_mem _ (List.mem_cons_of_mem _ (List.mem_cons_of_mem _ (List.mem_cons_of_mem _ List.mem_cons_self))))))))
  have g9 : 0 ≤ (4294967276 : Int) + ((-1) * a7 + 0) := hg _ (List.mem_cons_of_mem _ (List.mem_cons_of_mem _ (List.mem_cons_of_mem _ (List.mem_cons_of_mem _ (List.mem_cons_of_mem _ (List.mem_cons_of_mem _ (List.mem_cons_of_mem _ (List.mem_cons_of_mem _ (List.mem_cons_of_mem _ List.mem_cons_self)))))))))
  have g10 : 0 ≤ (0 : Int) + (1 * a9 + 0) := hg _ (List.mem_cons_of_mem _ (List.mem_cons_of_mem _ (List.mem_cons_of_mem _ (List.mem_cons_of_mem _ (List.mem_cons_of_mem _ (List.mem_cons_of_mem _ (List.mem_cons_of_mem _ (List.mem_cons_of_mem _ (List.mem_cons_of_mem _ (List.mem_cons_of_mem _ List.mem_cons_self))))))))))
  have g11 : 0 ≤ (4294967276 : Int) + ((-1) * a9 + 0) := hg _ (List.mem_cons_of_mem _ (List.mem_cons_of_mem _ (List.mem_cons_of_mem _ (List.mem_cons_of_mem _ (List.mem_cons_of_mem _ (List.mem_cons_of_mem _ (List.mem_cons_of_mem _ (List.mem_cons_of_mem _ (List.mem_cons_of_mem _ (List.mem_cons_of_mem _ (List.mem_cons_of_mem _ List.mem_cons_self)))))))))))
  have g12 : 0 ≤ (0 : Int) + (1 * a14 + 0) := hg _ (List.mem_cons_of_mem _ (List.mem_cons_of_mem _ (List.mem_cons_of_mem _ (List.mem_cons_of_mem _ (List.mem_cons_of_mem _ (List.mem_cons_of_mem _ (List.mem_cons_of_mem _ (List.mem_cons_of_mem _ (List.mem_cons_of_mem _ (List.mem_cons_of_mem _ (List.mem_cons_of_mem _ (List.mem_cons_of_mem _ List.mem_cons_self))))))))))))
  have g13 : 0 ≤ (4294967276 : Int) + ((-1) * a14 + 0) := hg _ (List.mem_cons_of_mem _ (List.mem_cons_of_mem _ (List.mem_cons_of_mem _ (List.mem_cons_of_mem _ (List.mem_cons_of_mem _ (List.mem_cons_of_mem _ (List.mem_cons_of_mem _ (List.mem_cons_of_mem _ (List.mem_cons_of_mem _ (List.mem_cons_of_mem _ (List.mem_cons_of_mem _ (List.mem_cons_of_mem _ (List.mem_cons_of_mem _ List.mem_cons_self)))))))))))))
  have g14 : 0 ≤ (3001 : Int) + ((-1) * (zk_xe w 222 a9) + 0) := hg _ (List.mem_cons_of_mem _ (List.mem_cons_of_mem _ (List.mem_cons_of_mem _ (List.mem_cons_of_mem _ (List.mem_cons_of_mem _ (List.mem_cons_of_mem _ (List.mem_cons_of_mem _ (List.mem_cons_of_mem _ (List.mem_cons_of_mem _ (List.mem_cons_of_mem _ (List.mem_cons_of_mem _ (List.mem_cons_of_mem _ (List.mem_cons_of_mem _ (List.mem_cons_of_mem _ List.mem_cons_self))))))))))))))
  have g15 : 0 ≤ (600 : Int) + ((-1) * (zk_xe w 203 a1) + 0) := hg _ (List.mem_cons_of_mem _ (List.mem_cons_of_mem _ (List.mem_cons_of_mem _ (List.mem_cons_of_mem _ (List.mem_cons_of_mem _ (List.mem_cons_of_mem _ (List.mem_cons_of_mem _ (List.mem_cons_of_mem _ (List.mem_cons_of_mem _ (List.mem_cons_of_mem _ (List.mem_cons_of_mem _ (List.mem_cons_of_mem _ (List.mem_cons_of_mem _ (List.mem_cons_of_mem _ (List.mem_cons_of_mem _ List.mem_cons_self)))))))))))))))
  have g16 : 0 ≤ (64 : Int) + ((-1) * a7 + 0) := hg _ (List.mem_cons_of_mem _ (List.mem_cons_of_mem _ (List.mem_cons_of_mem _ (List.mem_cons_of_mem _ (List.mem_cons_of_mem _ (List.mem_cons_of_mem _ (List.mem_cons_of_mem _ (List.mem_cons_of_mem _ (List.mem_cons_of_mem _ (List.mem_cons_of_mem _ (List.mem_cons_of_mem _ (List.mem_cons_of_mem _ (List.mem_cons_of_mem _ (List.mem_cons_of_mem _ (List.mem_cons_of_mem _ (List.mem_cons_of_mem _ List.mem_cons_self))))))))))))))))
  have g17 : 0 ≤ (0 : Int) + (1 * a2 + ((-1) * a14 + 0)) := hg _ (List.mem_cons_of_mem _ (List.mem_cons_of_mem _ (List.mem_cons_of_mem _ (List.mem_cons_of_mem _ (List.mem_cons_of_mem _ (List.mem_cons_of_mem _ (List.mem_cons_of_mem _ (List.mem_cons_of_mem _ (List.mem_cons_of_mem _ (List.mem_cons_of_mem _ (List.mem_cons_of_mem _ (List.mem_cons_of_mem _ (List.mem_cons_of_mem _ (List.mem_cons_of_mem _ (List.mem_cons_of_mem _ (List.mem_cons_of_mem _ (List.mem_cons_of_mem _ List.mem_cons_self)))))))))))))))))
  have r0 : 0 ≤ a3 := hr _ List.mem_cons_self
  have r1 : 0 ≤ a5 := hr _ (List.mem_cons_of_mem _ List.mem_cons_self)
  have r2 : 0 ≤ a8 := hr _ (List.mem_cons_of_mem _ (List.mem_cons_of_mem _ List.mem_cons_self))
  have r3 : 0 ≤ a10 := hr _ (List.mem_cons_of_mem _ (List.mem_cons_of_mem _ (List.mem_cons_of_mem _ List.mem_cons_self)))
  have r4 : 0 ≤ a11 := hr _ (List.mem_cons_of_mem _ (List.mem_cons_of_mem _ (List.mem_cons_of_mem _ (List.mem_cons_of_mem _ List.mem_cons_self))))
  have r5 : 0 ≤ a12 := hr _ (List.mem_cons_of_mem _ (List.mem_cons_of_mem _ (List.mem_cons_of_mem _ (List.mem_cons_of_mem _ (List.mem_cons_of_mem _ List.mem_cons_self)))))
  have r6 : 0 ≤ a13 := hr _ (List.mem_cons_of_mem _ (List.mem_cons_of_mem _ (List.mem_cons_of_mem _ (List.mem_cons_of_mem _ (List.mem_cons_of_mem _ (List.mem_cons_of_mem _ List.mem_cons_self))))))
  have r7 : 0 ≤ a6 := hr _ (List.mem_cons_of_mem _ (List.mem_cons_of_mem _ (List.mem_cons_of_mem _ (List.mem_cons_of_mem _ (List.mem_cons_of_mem _ (List.mem_cons_of_mem _ (List.mem_cons_of_mem _ List.mem_cons_self)))))))
  have r8 : 0 ≤ a15 := hr _ (List.mem_cons_of_mem _ (List.mem_cons_of_mem _ (List.mem_cons_of_mem _ (List.mem_cons_of_mem _ (List.mem_cons_of_mem _ (List.mem_cons_of_mem _ (List.mem_cons_of_mem _ (List.mem_cons_of_mem _ List.mem_cons_self))))))))
  have r9 : 0 ≤ a9 := hr _ (List.mem_cons_of_mem _ (List.mem_cons_of_mem _ (List.mem_cons_of_mem _ (List.mem_cons_of_mem _ (List.mem_cons_of_mem _ (List.mem_cons_of_mem _ (List.mem_cons_of_mem _ (List.mem_cons_of_mem _ (List.mem_cons_of_mem _ List.mem_cons_self)))))))))
  have r10 : 0 ≤ a1 := hr _ (List.mem_cons_of_mem _ (List.mem_cons_of_mem _ (List.mem_cons_of_mem _ (List.mem_cons_of_mem _ (List.mem_cons_of_mem _ (List.mem_cons_of_mem _ (List.mem_cons_of_mem _ (List.mem_cons_of_mem _ (List.mem_cons_of_mem _ (List.mem_cons_of_mem _ List.mem_cons_self))))))))))
  have r11 : 0 ≤ a1 := hr _ (List.mem_cons_of_mem _ (List.mem_cons_of_mem _ (List.mem_cons_of_mem _ (List.mem_cons_of_mem _ (List.mem_cons_of_mem _ (List.mem_cons_of_mem _ (List.mem_cons_of_mem _ (List.mem_cons_of_mem _ (List.mem_cons_of_mem _ (List.mem_cons_of_mem _ (List.mem_cons_of_mem _ List.mem_cons_self)))))))))))
  have h3 := (zs_74 (w := w) (j := a3) (n := a4) (u := a1) (by omega) (by omega) (by omega) (by omega) (by omega) ).mp (by omega)
  have h5 := (zy_r92 (w := w) (j := a5) (n := a4) (l := 3000) (o := a6) (f := a7) (by omega) (by omega) (by omega) (by omega) (by omega) (by omega) (by omega) (by omega) (by omega) ).mp (by omega)
  have h8 := (zs_76 (w := w) (j := a8) (n := a4) (c := 0) (t := a9) (by omega) (by omega) (by omega) (by omega) (by omega) (by omega) (by omega) ).mp (by omega)
  have h10 := (zc_151 (w := w) (j := a10) (u := a1) (q := a6) (by omega) (by omega) (by omega) (by omega) (by omega) ).mp (by omega)
  have h11 := (zc_177 (w := w) (j := a11) (u := a1) (k := a7) (by omega) (by omega) (by omega) (by omega) (by omega) ).mp (by omega)
  have h12 := (zc_180 (w := w) (j := a12) (f := a7) (N := a2) (by omega) (by omega) (by omega) (by omega) (by omega) ).mp (by omega)
  have h13 := (zc_154 (w := w) (j := a13) (o := a6) (N := a14) (by omega) (by omega) (by omega) (by omega) (by omega) ).mp (by omega)
  have h6 := (zc_184 (w := w) (j := a6)).mp (by omega)
  have hx : ¬ zs_x (zh_e w 224) := by
    rcases zs_71c (w := w) (j := a15) with ⟨z, -⟩ | ⟨-, z⟩
    · omega
    · exact z
  have h3 := h3.resolve_left hx
  have h5 := h5.resolve_left hx
  have kD : zh_e w 213 (a1) = zk_xe w 213 a1 := by rw [zk_xe_r (i := 213) (by decide)]; show zk_el w 213 (a1) = zk_el w 213 a1; rw [show a1 = a1 by omega]
  have kW : zh_e w 203 (a1) = zk_xe w 203 a1 := by rw [zk_xe_r (i := 203) (by decide)]; show zk_el w 203 (a1) = zk_el w 203 a1; rw [show a1 = a1 by omega]
  have kT : zh_e w 222 (a9) = zk_xe w 222 a9 := by rw [zk_xe_r (i := 222) (by decide)]; show zk_el w 222 (a9) = zk_el w 222 a9; rw [show a9 = a9 by omega]
  have hr : ∀ a k, zs_u (zh_e w 229) (zh_e w 230) 0 a4 a k → zj_res (fun k => zh_e w 214 (64 * a1 + k)) (fun k => zh_e w 215 (64 * a1 + k)) (fun k => zh_e w 204 (600 * a1 + k)) (fun k => zh_e w 205 (600 * a1 + k)) (zh_e w 213 a1) (zh_e w 203 a1) a2 a k := by
    intro a k hu
    obtain ⟨j, j0, -, j1, ja, jk⟩ := hu
    have hp := (h8.2.1 j j0 j1).2
    rw [kT] at hp
    rcases h5 j j0 j1 (by omega) with ⟨m, m0, m1, m2, m3, m4⟩ | ⟨z1, m, m0, m1, m2, m3⟩
    · refine Or.inl ⟨m, m0, by omega, by omega, ?_, ?_, fun y y0 y1 e => ?_⟩
      · exact (h11 m m0 m1).1.trans (m2.trans ja)
      · exact (h11 m m0 m1).2.1.trans (m3.trans jk)
      · exact m4 y y0 y1 ((h11 y y0 (by omega)).1.symm.trans (Eq.trans e ja.symm))
    · obtain ⟨i, i0, i1, i2, i3⟩ := h10 m m0 m1
      have b0 := h6 m m0 m1
      have b1 := h13 m m0 m1
      have e0 : zh_e w 256 m = a := m2.trans ja
      refine Or.inr ⟨by omega, by omega, fun y y0 y1 y2 e => ?_, i, i0, i1, by omega, i2.trans e0, i3.trans (m3.trans jk)⟩
      exact z1 y y0 (by omega) ((h11 y y0 (by omega)).1.symm.trans (Eq.trans e ja.symm))
  have hD : ∀ m, 0 ≤ m → m < zh_e w 213 a1 → m < 64 → 0 ≤ zh_e w 214 (64 * a1 + m) ∧ zh_e w 214 (64 * a1 + m) < a2 := by
    intro m m0 m1 m2
    rw [(h11 m m0 (by omega)).1]
    exact (h12 m m0 (by omega)).1
  have h : zk_xe w 2000181 a0 = 1 := (zj_n181 (w := w) (j := a0) (u := a1) (N := a2) (by omega) (by omega) (by omega) (by omega) (by omega) ).mpr (zj_un h3 hr hD)
  exact ⟨_, List.mem_cons_self, [], rfl, zx_bnil, zx_cs0, (zx_eF1 (by show 0 ≤ (0 : Int) + (1 * a0 + 0); omega) (by show zk_xe w 2000181 ((0 : Int) + (1 * a0 + 0)) = (1 : Int) + (0); rw [show (0 : Int) + (1 * a0 + 0) = a0 by omega]; exact h.trans (by omega)) zx_eF0), zx_k0⟩
def zx_D1204 : zx_L := zx_Lc [] 1 [(2000093, 0)] [] [((0, 1), [(1, 1, 0)])] [((0, 0), [(0, 1, 0)]), ((4294967276, 0), [(0, 0, 1)])] [([], [], [(2000184, ((0, 0), [(0, 1, 0)]), ((1, 0), []))], [])]
theorem zx_D1204_ok {PT : Nat → zz_W → Prop} : zx_Lok 64 zHT PT zx_D1204 := by
  refine zx_Lc_ok (fun w hI hK ins hl hr he hg => ?_)
  obtain ⟨a0, rfl⟩ := zx_i1 hl
  have e0 : ((-1) : Int) + (1 * (zk_xe w 2000093 a0) + 0) = 0 := he _ List.mem_cons_self
  have g0 : 0 ≤ (0 : Int) + (1 * a0 + 0) := hg _ List.mem_cons_self
  have g1 : 0 ≤ (4294967276 : Int) + ((-1) * a0 + 0) := hg _ (List.mem_cons_of_mem _ List.mem_cons_self)
  have r0 : 0 ≤ a0 := hr _ List.mem_cons_self
  have hp := (zy_r93 (w := w) (j := a0) (by omega) (by omega) ).mp (by omega)
  have h : zk_xe w 2000184 a0 = 1 := zc_184.mpr (fun p p0 p1 => (hp p p0 p1).1)
  exact ⟨_, List.mem_cons_self, [], rfl, zx_bnil, zx_cs0, (zx_eF1 (by show 0 ≤ (0 : Int) + (1 * a0 + 0); omega) (by show zk_xe w 2000184 ((0 : Int) + (1 * a0 + 0)) = (1 : Int) + (0); rw [show (0 : Int) + (1 * a0 + 0) = a0 by omega]; exact h.trans (by omega)) zx_eF0), zx_k0⟩
def zx_D1156 : zx_L := zx_Lc [] 7 [(2000176, 0), (2000179, 0), (2000183, 0), (2000061, 0), (2000140, 2), (2000177, 6), (2000180, 3), (213, 0), (207, 0)] [] [((0, 0), [(0, 0, 1), (1, 0, 4294967296), (2, 1, 0)]), ((0, 0), [(2, 0, 1), (6, 1, 0)]), ((0, 0), [(1, 0, 1), (3, 1, 0), (4, 0, 4294967296)]), ((0, 1), [(0, 0, 1), (5, 1, 0)]), ((0, 1), [(7, 1, 0)]), ((0, 1), [(8, 1, 0)]), ((0, 1), [(9, 1, 0)]), ((0, 1), [(10, 1, 0)]), ((0, 1), [(11, 1, 0)]), ((0, 1), [(12, 1, 0)]), ((0, 1), [(13, 1, 0)]), ((0, 0), [(1, 0, 1), (14, 1, 0)])] [((0, 0), [(0, 1, 0)]), ((4294967276, 0), [(0, 0, 1)]), ((0, 0), [(1, 1, 0)]), ((4294967276, 0), [(1, 0, 1)]), ((0, 0), [(4, 1, 0)]), ((4294967276, 0), [(4, 0, 1)]), ((60, 0), [(1, 0, 1)]), ((0, 0), [(15, 1, 0)]), ((8000, 0), [(15, 0, 1)])] [([], [], [(2000176, ((0, 0), [(5, 1, 0)]), ((1, 0), []))], [])]
theorem zx_D1156_ok {PT : Nat → zz_W → Prop} : zx_Lok 64 zHT PT zx_D1156 := by
  refine zx_Lc_ok (fun w hI hK ins hl hr he hg => ?_)
  obtain ⟨a0, a1, a2, a3, a4, a5, a6, rfl⟩ := zx_i7 hl
  have e0 : (0 : Int) + ((-1) * a0 + ((-4294967296) * a1 + (1 * a2 + 0))) = 0 := he _ List.mem_cons_self
  have e1 : (0 : Int) + ((-1) * a2 + (1 * a6 + 0)) = 0 := he _ (List.mem_cons_of_mem _ List.mem_cons_self)
  have e2 : (0 : Int) + ((-1) * a1 + (1 * a3 + ((-4294967296) * a4 + 0))) = 0 := he _ (List.mem_cons_of_mem _ (List.mem_cons_of_mem _ List.mem_cons_self))
  have e3 : ((-1) : Int) + ((-1) * a0 + (1 * a5 + 0)) = 0 := he _ (List.mem_cons_of_mem _ (List.mem_cons_of_mem _ (List.mem_cons_of_mem _ List.mem_cons_self)))
  have e4 : ((-1) : Int) + (1 * (zk_xe w 2000176 a0) + 0) = 0 := he _ (List.mem_cons_of_mem _ (List.mem_cons_of_mem _ (List.mem_cons_of_mem _ (List.mem_cons_of_mem _ List.mem_cons_self))))
  have e5 : ((-1) : Int) + (1 * (zk_xe w 2000179 a0) + 0) = 0 := he _ (List.mem_cons_of_mem _ (List.mem_cons_of_mem _ (List.mem_cons_of_mem _ (List.mem_cons_of_mem _ (List.mem_cons_of_mem _ List.mem_cons_self)))))
  have e6 : ((-1) : Int) + (1 * (zk_xe w 2000183 a0) + 0) = 0 := he _ (List.mem_cons_of_mem _ (List.mem_cons_of_mem _ (List.mem_cons_of_mem _ (List.mem_cons_of_mem _ (List.mem_cons_of_mem _ (List.mem_cons_of_mem _ List.mem_cons_self))))))
  have e7 : ((-1) : Int) + (1 * (zk_xe w 2000061 a0) + 0) = 0 := he _ (List.mem_cons_of_mem _ (List.mem_cons_of_mem _ (List.mem_cons_of_mem _ (List.mem_cons_of_mem _ (List.mem_cons_of_mem _ (List.mem_cons_of_mem _ (List.mem_cons_of_mem _ List.mem_cons_self)))))))
  have e8 : ((-1) : Int) + (1 * (zk_xe w 2000140 a2) + 0) = 0 := he _ (List.mem_cons_of_mem _ (List.mem_cons_of_mem _ (List.mem_cons_of_mem _ (List.mem_cons_of_mem _ (List.mem_cons_of_mem _ (List.mem_cons_of_mem _ (List.mem_cons_of_mem _ (List.mem_cons_of_mem _ List.mem_cons_self))))))))
  have e9 : ((-1) : Int) + (1 * (zk_xe w 2000177 a6) + 0) = 0 := he _ (List.mem_cons_of_mem _ (List.mem_cons_of_mem _ (List.mem_cons_of_mem _ (List.mem_cons_of_mem _ (List.mem_cons_of_mem _ (List.mem_cons_of_mem _ (List.mem_cons_of_mem _ (List.mem_cons_of_mem _ (List.mem_cons_of_mem _ List.mem_cons_self)))))))))
  have e10 : ((-1) : Int) + (1 * (zk_xe w 2000180 a3) + 0) = 0 := he _ (List.mem_cons_of_mem _ (List.mem_cons_of_mem _ (List.mem_cons_of_mem _ (List.mem_cons_of_mem _ (List.mem_cons_of_mem _ (List.mem_cons_of_mem _ (List.mem_cons_of_mem _ (List.mem_cons_of_mem _ (List.mem_cons_of_mem _ (List.mem_cons_of_mem _ List.mem_cons_self))))))))))
  have e11 : (0 : Int) + ((-1) * a1 + (1 * (zk_xe w 213 a0) + 0)) = 0 := he _ (List.mem_cons_of_mem _ (List.mem_cons_of_mem _ (List.mem_cons_of_mem _ (List.mem_cons_of_mem _ (List.mem_cons_of_mem _ (List.mem_cons_of_mem _ (List.mem_cons_of_mem _ (List.mem_cons_of_mem _ (List.mem_cons_of_mem _ (List.mem_cons_of_mem _ (List.mem_cons_of_mem _ List.mem_cons_self)))))))))))
  have g0 : 0 ≤ (0 : Int) + (1 * a0 + 0) := hg _ List.mem_cons_self
  have g1 : 0 ≤ (4294967276 : Int) + ((-1) * a0 + 0) := hg _ (List.mem_cons_of_mem _ List.mem_cons_self)
  have g2 : 0 ≤ (0 : Int) + (1 * a1 + 0) := hg _ (List.mem_cons_of_mem _ (List.mem_cons_of_mem _ List.mem_cons_self))
  have g3 : 0 ≤ (4294967276 : Int) + ((-1) * a1 + 0) := hg _ (List.mem_cons_of_mem _ (List.mem_cons_of_mem _ (List.mem_cons_of_mem _ List.mem_cons_self)))
  have g4 : 0 ≤ (0 : Int) + (1 * a4 + 0) := hg _ (List.mem_cons_of_mem _ (List.mem_cons_of_mem _ (List.mem_cons_of_mem _ (List.mem_cons_of_mem _ List.mem_cons_self))))
  have g5 : 0 ≤ (4294967276 : Int) + ((-1) * a4 + 0) := hg _ (List.mem_cons_of_mem _ (List.mem_cons_of_mem _ (List.mem_cons_of_mem _ (List.mem_cons_of_mem _ (List.mem_cons_of_mem _ List.mem_cons_self)))))
  have g6 : 0 ≤ (60 : Int) + ((-1) * a1 + 0) := hg _ (List.mem_cons_of_mem _ (List.mem_cons_of_mem _ (List.mem_cons_of_mem _ (List.mem_cons_of_mem _ (List.mem_cons_of_mem _ (List.mem_cons_of_mem _ List.mem_cons_self))))))
  have g7 : 0 ≤ (0 : Int) + (1 * (zk_xe w 207 a0) + 0) := hg _ (List.mem_cons_of_mem _ (List.mem_cons_of_mem _ (List.mem_cons_of_mem _ (List.mem_cons_of_mem _ (List.mem_cons_of_mem _ (List.mem_cons_of_mem _ (List.mem_cons_of_mem _ List.mem_cons_self)))))))
  have g8 : 0 ≤ (8000 : Int) + ((-1) * (zk_xe w 207 a0) + 0) := hg _ (List.mem_cons_of_mem _ (List.mem_cons_of_mem _ (List.mem_cons_of_mem _ (List.mem_cons_of_mem _ (List.mem_cons_of_mem _ (List.mem_cons_of_mem _ (List.mem_cons_of_mem _ (List.mem_cons_of_mem _ List.mem_cons_self))))))))
  have r0 : 0 ≤ a0 := hr _ List.mem_cons_self
  have r1 : 0 ≤ a0 := hr _ (List.mem_cons_of_mem _ List.mem_cons_self)
  have r2 : 0 ≤ a0 := hr _ (List.mem_cons_of_mem _ (List.mem_cons_of_mem _ List.mem_cons_self))
  have r3 : 0 ≤ a0 := hr _ (List.mem_cons_of_mem _ (List.mem_cons_of_mem _ (List.mem_cons_of_mem _ List.mem_cons_self)))
  have r4 : 0 ≤ a2 := hr _ (List.mem_cons_of_mem _ (List.mem_cons_of_mem _ (List.mem_cons_of_mem _ (List.mem_cons_of_mem _ List.mem_cons_self))))
  have r5 : 0 ≤ a6 := hr _ (List.mem_cons_of_mem _ (List.mem_cons_of_mem _ (List.mem_cons_of_mem _ (List.mem_cons_of_mem _ (List.mem_cons_of_mem _ List.mem_cons_self)))))
  have r6 : 0 ≤ a3 := hr _ (List.mem_cons_of_mem _ (List.mem_cons_of_mem _ (List.mem_cons_of_mem _ (List.mem_cons_of_mem _ (List.mem_cons_of_mem _ (List.mem_cons_of_mem _ List.mem_cons_self))))))
  have r7 : 0 ≤ a0 := hr _ (List.mem_cons_of_mem _ (List.mem_cons_of_mem _ (List.mem_cons_of_mem _ (List.mem_cons_of_mem _ (List.mem_cons_of_mem _ (List.mem_cons_of_mem _ (List.mem_cons_of_mem _ List.mem_cons_self)))))))
  have r8 : 0 ≤ a0 := hr _ (List.mem_cons_of_mem _ (List.mem_cons_of_mem _ (List.mem_cons_of_mem _ (List.mem_cons_of_mem _ (List.mem_cons_of_mem _ (List.mem_cons_of_mem _ (List.mem_cons_of_mem _ (List.mem_cons_of_mem _ List.mem_cons_self))))))))
  have hp := (zc_176 (w := w) (j := a0) (n := a0) (by omega) (by omega) (by omega) ).mp (by omega)
  have hl := zc_179 (w := w) (j := a0)
  have hl := zh_b1' (hl.symm.trans (show zk_xe w 2000179 a0 = 1 by omega))
  have hv := zc_u1 ((zc_183 (w := w) (j := a0) (u := a0) (b := 0) (by omega) (by omega) (by omega) (by omega) (by omega) ).symm.trans (show zk_xe w 2000183 a0 = 1 by omega))
  have ho := zb_61.mp (show zk_xe w 2000061 a0 = 1 by omega)
  have hb := (zc_140 (w := w) (j := a2) (u := a0) (F := a1) (x := 0) (by omega) (by omega) (by omega) (by omega) (by omega) (by omega) (by omega) ).mp (by omega)
  have hc := (zc_177 (w := w) (j := a6) (u := a0) (k := a1) (by omega) (by omega) (by omega) (by omega) (by omega) ).mp (by omega)
  have hf := (zc_180 (w := w) (j := a3) (f := a1) (N := a4) (by omega) (by omega) (by omega) (by omega) (by omega) ).mp (by omega)
  have kD : zh_e w 213 (a0) = zk_xe w 213 a0 := by rw [zk_xe_r (i := 213) (by decide)]; show zk_el w 213 (a0) = zk_el w 213 a0; rw [show a0 = a0 by omega]
  have kS : zh_e w 207 (a0) = zk_xe w 207 a0 := by rw [zk_xe_r (i := 207) (by decide)]; show zk_el w 207 (a0) = zk_el w 207 a0; rw [show a0 = a0 by omega]
  have hs : zj_sh (zh_e w 208) (8000 * a0) (fun m => zh_e w 215 (64 * a0 + m)) (fun m => zh_e w 216 (64 * a0 + m)) (fun m => zh_e w 217 (64 * a0 + m)) (zh_e w 207 a0) (zh_e w 213 a0) := by
    refine ⟨⟨by omega, by omega⟩, fun q => ?_, hv, ho, by omega, fun m m0 m1 => ?_⟩
    · rcases hl with z | z
      · omega
      · exact z
    · have c := hc m m0 (by omega)
      have f := hf m m0 (by omega)
      show (1 ≤ zh_e w 215 (64 * a0 + m) ∧ zh_e w 215 (64 * a0 + m) ≤ 7) ∧ (0 ≤ zh_e w 216 (64 * a0 + m) ∧ zh_e w 216 (64 * a0 + m) ≤ 200) ∧ (3 ≤ zh_e w 215 (64 * a0 + m) → 0 ≤ zh_e w 217 (64 * a0 + m) ∧ zh_e w 217 (64 * a0 + m) + 1 < zh_e w 207 a0 ∧ zh_e w 208 (8000 * a0 + zh_e w 217 (64 * a0 + m)) = 0)
      rw [c.2.1, c.2.2.1, c.2.2.2]
      refine ⟨f.2.1, f.2.2, fun q => ?_⟩
      obtain ⟨b1, b2, b3⟩ := hb.2.1 m m0 (by omega) q
      refine ⟨b1, ?_, b3⟩
      rcases hl with z | z
      · omega
      · by_cases y : zh_e w 236 m = zh_e w 207 a0 - 1
        · rw [y, show 8000 * a0 + (zh_e w 207 a0 - 1) = 8000 * a0 + zh_e w 207 a0 - 1 by omega, z] at b3
          exact absurd b3 (by decide)
        · omega
  have h : zk_xe w 2000176 a5 = 1 := by
    refine (zc_176 (w := w) (j := a5) (n := a0 + 1) (by omega) (by omega) (by omega) ).mpr (fun u u0 u1 u2 => ?_)
    by_cases c : u = a0
    · rw [c]
      exact hs
    · exact hp u u0 (by omega) u2
  exact ⟨_, List.mem_cons_self, [], rfl, zx_bnil, zx_cs0, (zx_eF1 (by show 0 ≤ (0 : Int) + (1 * a5 + 0); omega) (by show zk_xe w 2000176 ((0 : Int) + (1 * a5 + 0)) = (1 : Int) + (0); rw [show (0 : Int) + (1 * a5 + 0) = a5 by omega]; exact h.trans (by omega)) zx_eF0), zx_k0⟩
def zx_D1157 : zx_L := zx_Lc [] 2 [(2000182, 0), (2000297, 0)] [] [((0, 1), [(0, 0, 1), (1, 1, 0)]), ((0, 1), [(2, 1, 0)]), ((0, 1), [(3, 1, 0)])] [((0, 0), [(0, 1, 0)]), ((4294967276, 0), [(0, 0, 1)])] [([], [], [(2000182, ((0, 0), [(1, 1, 0)]), ((1, 0), []))], [])]
theorem zx_D1157_ok {PT : Nat → zz_W → Prop} : zx_Lok 64 zHT PT zx_D1157 := by
  refine zx_Lc_ok (fun w hI hK ins hl hr he hg => ?_)
  obtain ⟨a0, a1, rfl⟩ := zx_i2 hl
  have e0 : ((-1) : Int) + ((-1) * a0 + (1 * a1 + 0)) = 0 := he _ List.mem_cons_self
  have e1 : ((-1) : Int) + (1 * (zk_xe w 2000182 a0) + 0) = 0 := he _ (List.mem_cons_of_mem _ List.mem_cons_self)
  have e2 : ((-1) : Int) + (1 * (zk_xe w 2000297 a0) + 0) = 0 := he _ (List.mem_cons_of_mem _ (List.mem_cons_of_mem _ List.mem_cons_self))
  have g0 : 0 ≤ (0 : Int) + (1 * a0 + 0) := hg _ List.mem_cons_self
  have g1 : 0 ≤ (4294967276 : Int) + ((-1) * a0 + 0) := hg _ (List.mem_cons_of_mem _ List.mem_cons_self)
  have r0 : 0 ≤ a0 := hr _ List.mem_cons_self
  have r1 : 0 ≤ a0 := hr _ (List.mem_cons_of_mem _ List.mem_cons_self)
  have hp := (zj_n182 (w := w) (j := a0) (n := a0) (by omega) (by omega) (by omega) ).mp (by omega)
  have hu := zu_P_of (w := w) (t := 97) (P := a0) (ps := [a0]) rfl (fun p hp => by rw [List.mem_singleton.mp hp]; omega) (by show a0 = a0 + 4294967296 * 0; omega) (by show zk_xe w 2000297 a0 = 1; omega)
  have h : zk_xe w 2000182 a1 = 1 := by
    refine (zj_n182 (w := w) (j := a1) (n := a0 + 1) (by omega) (by omega) (by omega) ).mpr (fun u u0 u1 u2 k k0 k1 k2 k3 => ?_)
    by_cases c : u = a0
    · rw [c] at k1 k3 ⊢
      rcases zj_97 hu k0 k2 with z | z | z
      · omega
      · exact absurd k3 z
      · exact z
    · exact hp u u0 (by omega) u2 k k0 k1 k2 k3
  exact ⟨_, List.mem_cons_self, [], rfl, zx_bnil, zx_cs0, (zx_eF1 (by show 0 ≤ (0 : Int) + (1 * a1 + 0); omega) (by show zk_xe w 2000182 ((0 : Int) + (1 * a1 + 0)) = (1 : Int) + (0); rw [show (0 : Int) + (1 * a1 + 0) = a1 by omega]; exact h.trans (by omega)) zx_eF0), zx_k0⟩
/-- renaming -/
theorem zg_d5 {j n k u l m : Int} (e : j = n + 4294967296 * k + 18446744073709551616 * u + 79228162514264337593543950336 * l + 340282366920938463463374607431768211456 * m) (n0 : 0 ≤ n) (n1 : n < 4294967296) (k0 : 0 ≤ k) (k1 : k < 4294967296) (u0 : 0 ≤ u) (u1 : u < 4294967296) (l0 : 0 ≤ l) (l1 : l < 4294967296) (m0 : 0 ≤ m) (m1 : m < 4294967296) : zv_dg 0 j = n ∧ zv_dg 1 j = k ∧ zv_dg 2 j = u ∧ zv_dg 3 j = l ∧ zv_dg 4 j = m := by
  refine ⟨?_, ?_, ?_, ?_, ?_⟩
  · show j % 4294967296 = n
    omega
  · show j / 4294967296 % 4294967296 = k
    omega
  · show j / 4294967296 / 4294967296 % 4294967296 = u
    omega
  · show j / 4294967296 / 4294967296 / 4294967296 % 4294967296 = l
    omega
  · show j / 4294967296 / 4294967296 / 4294967296 / 4294967296 % 4294967296 = m
    omega
theorem zj_n173 {w : zz_W} {p u i j k h : Int} (e : p = u + 4294967296 * i + 18446744073709551616 * j + 79228162514264337593543950336 * k + 340282366920938463463374607431768211456 * h) (u0 : 0 ≤ u) (u1 : u < 4294967296) (i0 : 0 ≤ i) (i1 : i < 4294967296) (j0 : 0 ≤ j) (j1 : j < 4294967296) (k0 : 0 ≤ k) (k1 : k < 4294967296) (h0 : 0 ≤ h) (h1 : h < 4294967296) : zk_xe w 2000173 p = 1 ↔ (1 ≤ zh_e w 176 u → zj_rn (fun k => zh_e w 208 (8000 * u + k)) (fun k => zh_e w 209 (8000 * u + k)) (fun k => zh_e w 210 (8000 * u + k)) (fun k => zh_e w 211 (8000 * u + k)) (fun k => zh_e w 212 (8000 * u + k)) (fun k => zh_e w 214 (64 * u + k)) (fun k => zh_e w 215 (64 * u + k)) (fun k => zh_e w 204 (600 * u + k)) (fun k => zh_e w 205 (600 * u + k)) (zh_e w 220) (zh_e w 207 u) (zh_e w 213 u) (zh_e w 203 u) i j k h) := by
  obtain ⟨d0, d1, d2, d3, d4⟩ := zg_d5 e u0 u1 i0 i1 j0 j1 k0 k1 h0 h1
  rw [show (2000173 : Nat) = 2000000 + 173 from rfl, zk_xe_h]
  have q : zv_H 173 w p = zh_b (1 ≤ zh_e w 176 u → zj_rn (fun k => zh_e w 208 (8000 * u + k)) (fun k => zh_e w 209 (8000 * u + k)) (fun k => zh_e w 210 (8000 * u + k)) (fun k => zh_e w 211 (8000 * u + k)) (fun k => zh_e w 212 (8000 * u + k)) (fun k => zh_e w 214 (64 * u + k)) (fun k => zh_e w 215 (64 * u + k)) (fun k => zh_e w 204 (600 * u + k)) (fun k => zh_e w 205 (600 * u + k)) (zh_e w 220) (zh_e w 207 u) (zh_e w 213 u) (zh_e w 203 u) i j k h) := by
    show zh_b (1 ≤ zh_e w 176 (zv_dg 0 p) → zj_rn (fun k => zh_e w 208 (8000 * (zv_dg 0 p) + k)) (fun k => zh_e w 209 (8000 * (zv_dg 0 p) + k)) (fun k => zh_e w 210 (8000 * (zv_dg 0 p) + k)) (fun k => zh_e w 211 (8000 * (zv_dg 0 p) + k)) (fun k => zh_e w 212 (8000 * (zv_dg 0 p) + k)) (fun k => zh_e w 214 (64 * (zv_dg 0 p) + k)) (fun k => zh_e w 215 (64 * (zv_dg 0 p) + k)) (fun k => zh_e w 204 (600 * (zv_dg 0 p) + k)) (fun k => zh_e w 205 (600 * (zv_dg 0 p) + k)) (zh_e w 220) (zh_e w 207 (zv_dg 0 p)) (zh_e w 213 (zv_dg 0 p)) (zh_e w 203 (zv_dg 0 p)) (zv_dg 1 p) (zv_dg 2 p) (zv_dg 3 p) (zv_dg 4 p)) = _
    rw [d0, d1, d2, d3, d4]
  rw [q]
  exact ⟨zh_b1', zh_b1⟩
theorem zj_n174 {w : zz_W} {p n u h N : Int} (e : p = n + 4294967296 * u + 18446744073709551616 * h + 79228162514264337593543950336 * N) (n0 : 0 ≤ n) (n1 : n < 4294967296) (u0 : 0 ≤ u) (u1 : u < 4294967296) (h0 : 0 ≤ h) (h1 : h < 4294967296) (N0 : 0 ≤ N) (N1 : N < 4294967296) : zk_xe w 2000174 p = 1 ↔ ∀ v, 0 ≤ v → v < n → 1 ≤ zh_e w 176 v → zj_nu (fun k => zh_e w 208 (8000 * v + k)) (fun k => zh_e w 209 (8000 * v + k)) (fun k => zh_e w 210 (8000 * v + k)) (fun k => zh_e w 211 (8000 * v + k)) (fun k => zh_e w 212 (8000 * v + k)) (fun k => zh_e w 214 (64 * v + k)) (fun k => zh_e w 215 (64 * v + k)) (fun k => zh_e w 204 (600 * v + k)) (fun k => zh_e w 205 (600 * v + k)) (zh_e w 207 v) (zh_e w 213 v) (zh_e w 203 v)  (if v < u then N else h) := by
  obtain ⟨d0, d1, d2, d3⟩ := zg_d4 e n0 n1 u0 u1 h0 h1 N0 N1
  rw [show (2000174 : Nat) = 2000000 + 174 from rfl, zk_xe_h]
  have q : zv_H 174 w p = zh_b (∀ v, 0 ≤ v → v < n → 1 ≤ zh_e w 176 v → zj_nu (fun k => zh_e w 208 (8000 * v + k)) (fun k => zh_e w 209 (8000 * v + k)) (fun k => zh_e w 210 (8000 * v + k)) (fun k => zh_e w 211 (8000 * v + k)) (fun k => zh_e w 212 (8000 * v + k)) (fun k => zh_e w 214 (64 * v + k)) (fun k => zh_e w 215 (64 * v + k)) (fun k => zh_e w 204 (600 * v + k)) (fun k => zh_e w 205 (600 * v + k)) (zh_e w 207 v) (zh_e w 213 v) (zh_e w 203 v)  (if v < u then N else h)) := by
    show zh_b (∀ v, 0 ≤ v → v < zv_dg 0 p → 1 ≤ zh_e w 176 v → zj_nu (fun k => zh_e w 208 (8000 * v + k)) (fun k => zh_e w 209 (8000 * v + k)) (fun k => zh_e w 210 (8000 * v + k)) (fun k => zh_e w 211 (8000 * v + k)) (fun k => zh_e w 212 (8000 * v + k)) (fun k => zh_e w 214 (64 * v + k)) (fun k => zh_e w 215 (64 * v + k)) (fun k => zh_e w 204 (600 * v + k)) (fun k => zh_e w 205 (600 * v + k)) (zh_e w 207 v) (zh_e w 213 v) (zh_e w 203 v)  (if v < zv_dg 1 p then zv_dg 3 p else zv_dg 2 p)) = _
    rw [d0, d1, d2, d3]
  rw [q]
  exact ⟨zh_b1', zh_b1⟩
theorem zj_n175 {w : zz_W} {p n u h N : Int} (e : p = n + 4294967296 * u + 18446744073709551616 * h + 79228162514264337593543950336 * N) (n0 : 0 ≤ n) (n1 : n < 4294967296) (u0 : 0 ≤ u) (u1 : u < 4294967296) (h0 : 0 ≤ h) (h1 : h < 4294967296) (N0 : 0 ≤ N) (N1 : N < 4294967296) : zk_xe w 2000175 p = 1 ↔ ∀ v, 0 ≤ v → v < n → v ≠ u → 1 ≤ zh_e w 176 v → zj_nu (fun k => zh_e w 208 (8000 * v + k)) (fun k => zh_e w 209 (8000 * v + k)) (fun k => zh_e w 210 (8000 * v + k)) (fun k => zh_e w 211 (8000 * v + k)) (fun k => zh_e w 212 (8000 * v + k)) (fun k => zh_e w 214 (64 * v + k)) (fun k => zh_e w 215 (64 * v + k)) (fun k => zh_e w 204 (600 * v + k)) (fun k => zh_e w 205 (600 * v + k)) (zh_e w 207 v) (zh_e w 213 v) (zh_e w 203 v)  (if v < u then N else h) := by
  obtain ⟨d0, d1, d2, d3⟩ := zg_d4 e n0 n1 u0 u1 h0 h1 N0 N1
  rw [show (2000175 : Nat) = 2000000 + 175 from rfl, zk_xe_h]
  have q : zv_H 175 w p = zh_b (∀ v, 0 ≤ v → v < n → v ≠ u → 1 ≤ zh_e w 176 v → zj_nu (fun k => zh_e w 208 (8000 * v + k)) (fun k => zh_e w 209 (8000 * v + k)) (fun k => zh_e w 210 (8000 * v + k)) (fun k => zh_e w 211 (8000 * v + k)) (fun k => zh_e w 212 (8000 * v + k)) (fun k => zh_e w 214 (64 * v + k)) (fun k => zh_e w 215 (64 * v + k)) (fun k => zh_e w 204 (600 * v + k)) (fun k => zh_e w 205 (600 * v + k)) (zh_e w 207 v) (zh_e w 213 v) (zh_e w 203 v)  (if v < u then N else h)) := by
    show zh_b (∀ v, 0 ≤ v → v < zv_dg 0 p → v ≠ zv_dg 1 p → 1 ≤ zh_e w 176 v → zj_nu (fun k => zh_e w 208 (8000 * v + k)) (fun k => zh_e w 209 (8000 * v + k)) (fun k => zh_e w 210 (8000 * v + k)) (fun k => zh_e w 211 (8000 * v + k)) (fun k => zh_e w 212 (8000 * v + k)) (fun k => zh_e w 214 (64 * v + k)) (fun k => zh_e w 215 (64 * v + k)) (fun k => zh_e w 204 (600 * v + k)) (fun k => zh_e w 205 (600 * v + k)) (zh_e w 207 v) (zh_e w 213 v) (zh_e w 203 v)  (if v < zv_dg 1 p then zv_dg 3 p else zv_dg 2 p)) = _
    rw [d0, d1, d2, d3]
  rw [q]
  exact ⟨zh_b1', zh_b1⟩
theorem zj_ro0 {R : Int → Int} {z : Int} (h : 0 ≤ z) : zj_ro R z = R z := if_neg (show ¬ (z < 0) by omega)
theorem zj_ijx {R : Int → Int} {h N x y : Int} (hj : zj_ij R h N) (x0 : 0 ≤ x) (x1 : x < h) (y0 : 0 ≤ y) (y1 : y < h) (hx : 0 ≤ R x) (hy : 0 ≤ R y) (e : R x = R y) : x = y := by
  rcases Int.lt_trichotomy x y with c | c | c
  · have q := (hj x x0 x1).2 y c y1 hx hy
    omega
  · exact c
  · have q := (hj y y0 y1).2 x c x1 hy hx
    omega
theorem zj_rr {D D0 K V V0 Q R : Int → Int} {d e h N x k : Int} (hj : zj_ij R h N) (hD : ∀ m, 0 ≤ m → m < d → m < 64 → D m = R (D0 m) ∧ 0 ≤ R (D0 m) ∧ 0 ≤ D0 m ∧ D0 m < h) (hV : ∀ i, 0 ≤ i → i < e → i < 600 → 0 ≤ V0 i → V i = R (V0 i) ∧ 0 ≤ R (V0 i)) (hr : zj_res D0 K V0 Q d e h x k) : zj_res D K V Q d e N (zj_ro R x) k := by
  rcases hr with ⟨n, n0, n1, n2, n3, n4, n5⟩ | ⟨x0, x1, h1, i, i0, i1, i2, i3, i4⟩
  · obtain ⟨a1, a2, a3, a4⟩ := hD n n0 n1 n2
    rw [zj_ro0 (by omega)]
    refine Or.inl ⟨n, n0, n1, n2, by rw [a1, n3], n4, fun m m0 m1 q => ?_⟩
    obtain ⟨b1, b2, b3, b4⟩ := hD m m0 (by omega) (by omega)
    rw [n3] at a2
    rw [b1] at q
    exact n5 m m0 m1 (zj_ijx hj b3 b4 (by omega) (by omega) b2 a2 q)
  · obtain ⟨a1, a2⟩ := hV i i0 i1 i2 (by omega)
    rw [i3] at a1 a2
    rw [zj_ro0 x0]
    refine Or.inr ⟨a2, (hj x x0 x1).1, fun m m0 m1 m2 q => ?_, i, i0, i1, i2, a1, i4⟩
    obtain ⟨b1, b2, b3, b4⟩ := hD m m0 m1 m2
    rw [b1] at q
    exact h1 m m0 m1 m2 (zj_ijx hj b3 b4 x0 x1 b2 a2 q)
theorem zj_rne {T A B C E D K V Q R : Int → Int} {s d e i j k h N : Int} (hj : zj_ij R h N) (hi : e ≤ i) (hd : d ≤ j) (hk : s ≤ k) (hh : zj_rn T A B C E D K V Q R s d e i j k h) : zj_nu T A B C E D K V Q s d e N := by
  obtain ⟨A0, D0, V0, ⟨h1, h2⟩, h3, h4, h5⟩ := hh
  have hD : ∀ m, 0 ≤ m → m < d → m < 64 → D m = R (D0 m) ∧ 0 ≤ R (D0 m) ∧ 0 ≤ D0 m ∧ D0 m < h := by
    intro m m0 m1 m2
    obtain ⟨a, b⟩ := h4 m m0 m1 m2
    obtain ⟨c, f⟩ := h2 m m0 m1 m2
    rw [if_pos (show m < j by omega), zj_ro0 c] at a
    exact ⟨a, b, c, f⟩
  have hV : ∀ x, 0 ≤ x → x < e → x < 600 → 0 ≤ V0 x → V x = R (V0 x) ∧ 0 ≤ R (V0 x) := by
    intro x x0 x1 x2 x3
    obtain ⟨a, b⟩ := h3 x x0 x1 x2
    rw [if_pos (show x < i by omega), zj_ro0 x3] at a
    exact ⟨a, b x3⟩
  have hA : ∀ x, 0 ≤ x → x < s → x < 8000 → zj_nm (T x) → A x = zj_ro R (A0 x) := by
    intro x x0 x1 x2 x3
    have a := (h5 x x0 x1 x2).1 x3
    rw [if_pos (show x < k by omega)] at a
    exact a
  have nm : ∀ x : Int, x = 5 ∨ x = 6 ∨ x = 7 ∨ x = 8 ∨ x = 11 ∨ x = 12 → zj_nm x := fun x q => by
    unfold zj_nm
    omega
  have hr : ∀ x y, zj_res D0 K V0 Q d e h x y → zj_res D K V Q d e N (zj_ro R x) y := fun x y => zj_rr hj hD hV
  refine ⟨fun x x0 x1 x2 => ?_, fun m m0 m1 m2 => ?_⟩
  · obtain ⟨q0, q1, q2, q3, q4, q5, q6⟩ := h1 x x0 x1 x2
    refine ⟨q0, fun q => ?_, fun q => ?_, fun q => ?_, fun q => ?_, fun q => ?_, q6⟩
    · rw [hA x x0 x1 x2 (nm _ (by omega))]
      exact (q1 q).imp (fun z => ⟨z.1, hr _ _ z.2⟩) id
    · rw [hA x x0 x1 x2 (nm _ (by omega))]
      exact (q2 q).imp (fun z => ⟨z.1, hr _ _ z.2⟩) id
    · obtain ⟨a, b, c, d', f⟩ := q3 q
      rw [hA x x0 x1 x2 (nm _ (by omega)), hA (x - 1) (by omega) (by omega) (by omega) (nm _ (by omega)), c]
      exact ⟨a, b, rfl, d', f⟩
    · rw [hA x x0 x1 x2 (nm _ (by omega))]
      obtain ⟨a, b, c⟩ := q4 q
      exact ⟨a, b, hr _ _ c⟩
    · obtain ⟨y, y0, y1, a, b, c, d', f⟩ := q5 q
      refine ⟨y, y0, y1, a, ?_, c, d', f⟩
      rw [hA x x0 x1 x2 (nm _ (by omega)), hA y y0 (by omega) (by omega) (nm _ (by omega)), b]
  · obtain ⟨a, b, c, f⟩ := hD m m0 m1 m2
    rw [a]
    exact ⟨b, (hj (D0 m) c f).1⟩
theorem zj_rnb {T A B C E D K V Q R : Int → Int} {s d e h : Int} (h1 : zj_nu T A B C E D K V Q s d e h) (hV : ∀ x, 0 ≤ x → x < e → x < 600 → 0 ≤ V x → 0 ≤ R (V x)) (hD : ∀ x, 0 ≤ x → x < d → x < 64 → 0 ≤ R (D x)) : zj_rn T A B C E D K V Q R s d e 0 0 0 h := by
  refine ⟨A, D, V, h1, fun x x0 x1 x2 => ⟨?_, hV x x0 x1 x2⟩, fun x x0 x1 x2 => ⟨?_, hD x x0 x1 x2⟩, fun x x0 x1 x2 => ⟨fun _ => ?_, fun _ => rfl⟩⟩
  · rw [if_neg (show ¬ (x < 0) by omega)]
  · rw [if_neg (show ¬ (x < 0) by omega)]
  · rw [if_neg (show ¬ (x < 0) by omega)]
theorem zj_rnV {T A B C E D K V V' Q R : Int → Int} {s d e i j k h v : Int} (i0 : 0 ≤ i) (hv : 0 ≤ V i) (e1 : V' i = R (V i)) (e2 : ∀ x, 0 ≤ x → x < 600 → x ≠ i → V' x = V x) (hh : zj_rn T A B C E D K V Q R s d e i j k h) : zj_rn T A B C E D K V' Q R s d e (i + 1) j k h := by
  obtain ⟨A0, D0, V0, h1, h3, h4, h5⟩ := hh
  refine ⟨A0, D0, V0, h1, fun x x0 x1 x2 => ⟨?_, (h3 x x0 x1 x2).2⟩, h4, h5⟩
  have a := (h3 x x0 x1 x2).1
  by_cases c : x = i
  · rw [c] at a ⊢
    rw [if_neg (show ¬ (i < i) by omega)] at a
    rw [if_pos (show i < i + 1 by omega), e1, a, zj_ro0 (by omega)]
  · rw [e2 x x0 x2 c, a]
    by_cases c2 : x < i
    · rw [if_pos c2, if_pos (show x < i + 1 by omega)]
    · rw [if_neg c2, if_neg (show ¬ (x < i + 1) by omega)]
theorem zj_rnD {T A B C E D D' K V Q R : Int → Int} {s d e i j k h : Int} (j0 : 0 ≤ j) (hv : 0 ≤ D j) (e1 : D' j = R (D j)) (e2 : ∀ x, 0 ≤ x → x < 64 → x ≠ j → D' x = D x) (hh : zj_rn T A B C E D K V Q R s d e i j k h) : zj_rn T A B C E D' K V Q R s d e i (j + 1) k h := by
  obtain ⟨A0, D0, V0, h1, h3, h4, h5⟩ := hh
  refine ⟨A0, D0, V0, h1, h3, fun x x0 x1 x2 => ⟨?_, (h4 x x0 x1 x2).2⟩, h5⟩
  have a := (h4 x x0 x1 x2).1
  by_cases c : x = j
  · rw [c] at a ⊢
    rw [if_neg (show ¬ (j < j) by omega)] at a
    rw [if_pos (show j < j + 1 by omega), e1, a, zj_ro0 (by omega)]
  · rw [e2 x x0 x2 c, a]
    by_cases c2 : x < j
    · rw [if_pos c2, if_pos (show x < j + 1 by omega)]
    · rw [if_neg c2, if_neg (show ¬ (x < j + 1) by omega)]
theorem zj_rnA {T A A' B C E D K V Q R : Int → Int} {s d e i j k h : Int} (k0 : 0 ≤ k) (e1 : (zj_nm (T k) ∧ 0 ≤ A k ∧ A' k = R (A k)) ∨ (¬ zj_nm (T k) ∧ A' k = A k)) (e2 : ∀ x, 0 ≤ x → x < 8000 → x ≠ k → A' x = A x) (hh : zj_rn T A B C E D K V Q R s d e i j k h) : zj_rn T A' B C E D K V Q R s d e i j (k + 1) h := by
  obtain ⟨A0, D0, V0, h1, h3, h4, h5⟩ := hh
  refine ⟨A0, D0, V0, h1, h3, h4, fun x x0 x1 x2 => ⟨fun q => ?_, fun q => ?_⟩⟩
  · have a := (h5 x x0 x1 x2).1 q
    by_cases c : x = k
    · rw [c] at a q ⊢
      rw [if_neg (show ¬ (k < k) by omega)] at a
      rcases e1 with ⟨_, b, c1⟩ | ⟨b, _⟩
      · rw [if_pos (show k < k + 1 by omega), c1, a, zj_ro0 (by omega)]
      · exact absurd q b
    · rw [e2 x x0 x2 c, a]
      by_cases c2 : x < k
      · rw [if_pos c2, if_pos (show x < k + 1 by omega)]
      · rw [if_neg c2, if_neg (show ¬ (x < k + 1) by omega)]
  · have a := (h5 x x0 x1 x2).2 q
    by_cases c : x = k
    · rw [c] at a q ⊢
      rcases e1 with ⟨b, _, _⟩ | ⟨_, b⟩
      · exact absurd b q
      · rw [b, a]
    · rw [e2 x x0 x2 c, a]
theorem zj_d13 {w : zz_W} {n u i : Int} (h : zu_P (zu_T 13) w [n, u, 600 * u]) (u0 : 0 ≤ u) (u1 : u < n) (u2 : u < 7) (i0 : 0 ≤ i) (i1 : i < 600) : zh_e w 203 u ≤ i ∨ 0 ≤ zh_e w 220 (zh_e w 204 (600 * u + i)) := by
  have hix : zu_ix [7, 600] [u, i] := by
    refine ⟨rfl, fun j N hj => ?_⟩
    cases j with
    | zero =>
      have e : 7 = N := Option.some.inj hj
      rw [← e]
      exact ⟨u0, u2⟩
    | succ j =>
      cases j with
      | zero =>
        have e : 600 = N := Option.some.inj hj
        rw [← e]
        exact ⟨i0, i1⟩
      | succ j =>
        simp at hj
  have e1 : (0 : Int) + (1 * u + 0) = u := by omega
  have e2 : (0 : Int) + (600 * u + (1 * i + 0)) = 600 * u + i := by omega
  obtain ⟨d, hd, hc⟩ := h [u, i] hix
  have hd : d ∈ [[((0, 0), [(1, 1, 0), (5, 0, 1)])], [((0, 1), [(0, 0, 1), (3, 1, 0)])], [((0, 0), [(0, 0, 1), (3, 1, 0)]), ((0, 1), [(0, 0, 600), (1, 0, 1), (4, 1, 0)])], [((5, 0), [(0, 0, 1)]), ((0, 0), [(0, 1, 0), (2, 0, 1)])], [((0, 0), [(7, 1, 0)])]] := hd
  rcases List.mem_cons.mp hd with hq | hd
  · subst hq
    have c : 0 ≤ (0 : Int) + (1 * i + ((-1) * zk_el w 203 ((0 : Int) + (1 * u + 0)) + 0)) := hc _ List.mem_cons_self
    rw [e1] at c
    exact Or.inl (by show zk_el w 203 u ≤ i; omega)
  rcases List.mem_cons.mp hd with hq | hd
  · subst hq
    have c : 0 ≤ (-1 : Int) + ((-1) * u + (1 * u + 0)) := hc _ List.mem_cons_self
    omega
  rcases List.mem_cons.mp hd with hq | hd
  · subst hq
    have c : 0 ≤ (-1 : Int) + ((-600) * u + ((-1) * i + (1 * (600 * u) + 0))) := hc _ (List.mem_cons_of_mem _ List.mem_cons_self)
    omega
  rcases List.mem_cons.mp hd with hq | hd
  · subst hq
    have c : 0 ≤ (0 : Int) + (1 * u + ((-1) * n + 0)) := hc _ (List.mem_cons_of_mem _ List.mem_cons_self)
    omega
  rcases List.mem_cons.mp hd with hq | hd
  · subst hq
    have c : 0 ≤ (0 : Int) + (1 * zk_el w 220 ((0 : Int) + (1 * zk_el w 204 ((0 : Int) + (600 * u + (1 * i + 0))) + 0)) + 0) := hc _ List.mem_cons_self
    rw [e2, show (0 : Int) + (1 * zk_el w 204 (600 * u + i) + 0) = zk_el w 204 (600 * u + i) by omega] at c
    exact Or.inr (by show 0 ≤ zk_el w 220 (zk_el w 204 (600 * u + i)); omega)
  · exact absurd hd List.not_mem_nil
theorem zj_d14 {w : zz_W} {n u i : Int} (h : zu_P (zu_T 14) w [n, u, 64 * u]) (u0 : 0 ≤ u) (u1 : u < n) (u2 : u < 6) (i0 : 0 ≤ i) (i1 : i < 64) : zh_e w 213 u ≤ i ∨ 0 ≤ zh_e w 220 (zh_e w 214 (64 * u + i)) := by
  have hix : zu_ix [6, 64] [u, i] := by
    refine ⟨rfl, fun j N hj => ?_⟩
    cases j with
    | zero =>
      have e : 6 = N := Option.some.inj hj
      rw [← e]
      exact ⟨u0, u2⟩
    | succ j =>
      cases j with
      | zero =>
        have e : 64 = N := Option.some.inj hj
        rw [← e]
        exact ⟨i0, i1⟩
      | succ j =>
        simp at hj
  have e1 : (0 : Int) + (1 * u + 0) = u := by omega
  have e2 : (0 : Int) + (64 * u + (1 * i + 0)) = 64 * u + i := by omega
  obtain ⟨d, hd, hc⟩ := h [u, i] hix
  have hd : d ∈ [[((0, 0), [(1, 1, 0), (5, 0, 1)])], [((0, 1), [(0, 0, 1), (3, 1, 0)])], [((0, 0), [(0, 0, 1), (3, 1, 0)]), ((0, 1), [(0, 0, 64), (1, 0, 1), (4, 1, 0)])], [((5, 0), [(0, 0, 1)]), ((0, 0), [(0, 1, 0), (2, 0, 1)])], [((0, 0), [(7, 1, 0)])]] := hd
  rcases List.mem_cons.mp hd with hq | hd
  · subst hq
    have c : 0 ≤ (0 : Int) + (1 * i + ((-1) * zk_el w 213 ((0 : Int) + (1 * u + 0)) + 0)) := hc _ List.mem_cons_self
    rw [e1] at c
    exact Or.inl (by show zk_el w 213 u ≤ i; omega)
  rcases List.mem_cons.mp hd with hq | hd
  · subst hq
    have c : 0 ≤ (-1 : Int) + ((-1) * u + (1 * u + 0)) := hc _ List.mem_cons_self
    omega
  rcases List.mem_cons.mp hd with hq | hd
  · subst hq
    have c : 0 ≤ (-1 : Int) + ((-64) * u + ((-1) * i + (1 * (64 * u) + 0))) := hc _ (List.mem_cons_of_mem _ List.mem_cons_self)
    omega
  rcases List.mem_cons.mp hd with hq | hd
  · subst hq
    have c : 0 ≤ (0 : Int) + (1 * u + ((-1) * n + 0)) := hc _ (List.mem_cons_of_mem _ List.mem_cons_self)
    omega
  rcases List.mem_cons.mp hd with hq | hd
  · subst hq
    have c : 0 ≤ (0 : Int) + (1 * zk_el w 220 ((0 : Int) + (1 * zk_el w 214 ((0 : Int) + (64 * u + (1 * i + 0))) + 0)) + 0) := hc _ List.mem_cons_self
    rw [e2, show (0 : Int) + (1 * zk_el w 214 (64 * u + i) + 0) = zk_el w 214 (64 * u + i) by omega] at c
    exact Or.inr (by show 0 ≤ zk_el w 220 (zk_el w 214 (64 * u + i)); omega)
  · exact absurd hd List.not_mem_nil
def zx_D1190 : zx_L := zx_Lc [] 5 [(2000172, 0)] [] [((0, 0), [(0, 1, 0), (1, 0, 1), (2, 0, 18446744073709551616)]), ((0, 1), [(5, 1, 0)]), ((0, 0), [(1, 0, 1), (2, 0, 18446744073709551616), (3, 1, 0), (4, 0, 79228162514264337593543950336)])] [((0, 0), [(1, 1, 0)]), ((4294967276, 0), [(1, 0, 1)]), ((0, 0), [(2, 1, 0)]), ((4294967276, 0), [(2, 0, 1)]), ((0, 0), [(4, 1, 0)]), ((4294967276, 0), [(4, 0, 1)])] [([], [], [(2000174, ((0, 0), [(3, 1, 0)]), ((1, 0), []))], [])]
theorem zx_D1190_ok {PT : Nat → zz_W → Prop} : zx_Lok 64 zHT PT zx_D1190 := by
  refine zx_Lc_ok (fun w hI hK ins hl hr he hg => ?_)
  obtain ⟨a0, a1, a2, a3, a4, rfl⟩ := zx_i5 hl
  have e0 : (0 : Int) + (1 * a0 + ((-1) * a1 + ((-18446744073709551616) * a2 + 0))) = 0 := he _ List.mem_cons_self
  have e1 : ((-1) : Int) + (1 * (zk_xe w 2000172 a0) + 0) = 0 := he _ (List.mem_cons_of_mem _ List.mem_cons_self)
  have e2 : (0 : Int) + ((-1) * a1 + ((-18446744073709551616) * a2 + (1 * a3 + ((-79228162514264337593543950336) * a4 + 0)))) = 0 := he _ (List.mem_cons_of_mem _ (List.mem_cons_of_mem _ List.mem_cons_self))
  have g0 : 0 ≤ (0 : Int) + (1 * a1 + 0) := hg _ List.mem_cons_self
  have g1 : 0 ≤ (4294967276 : Int) + ((-1) * a1 + 0) := hg _ (List.mem_cons_of_mem _ List.mem_cons_self)
  have g2 : 0 ≤ (0 : Int) + (1 * a2 + 0) := hg _ (List.mem_cons_of_mem _ (List.mem_cons_of_mem _ List.mem_cons_self))
  have g3 : 0 ≤ (4294967276 : Int) + ((-1) * a2 + 0) := hg _ (List.mem_cons_of_mem _ (List.mem_cons_of_mem _ (List.mem_cons_of_mem _ List.mem_cons_self)))
  have g4 : 0 ≤ (0 : Int) + (1 * a4 + 0) := hg _ (List.mem_cons_of_mem _ (List.mem_cons_of_mem _ (List.mem_cons_of_mem _ (List.mem_cons_of_mem _ List.mem_cons_self))))
  have g5 : 0 ≤ (4294967276 : Int) + ((-1) * a4 + 0) := hg _ (List.mem_cons_of_mem _ (List.mem_cons_of_mem _ (List.mem_cons_of_mem _ (List.mem_cons_of_mem _ (List.mem_cons_of_mem _ List.mem_cons_self)))))
  have r0 : 0 ≤ a0 := hr _ List.mem_cons_self
  have hp := (zj_n172 (w := w) (j := a0) (n := a1) (N := a2) (by omega) (by omega) (by omega) (by omega) (by omega) ).mp (by omega)
  have h : zk_xe w 2000174 a3 = 1 := by
    refine (zj_n174 (w := w) (p := a3) (n := a1) (u := 0) (h := a2) (N := a4) (by omega) (by omega) (by omega) (by omega) (by omega) (by omega) (by omega) (by omega) (by omega) ).mpr (fun v v0 v1 v2 => ?_)
    rw [if_neg (show ¬ (v < 0) by omega)]
    exact hp v v0 v1 v2
  exact ⟨_, List.mem_cons_self, [], rfl, zx_bnil, zx_cs0, (zx_eF1 (by show 0 ≤ (0 : Int) + (1 * a3 + 0); omega) (by show zk_xe w 2000174 ((0 : Int) + (1 * a3 + 0)) = (1 : Int) + (0); rw [show (0 : Int) + (1 * a3 + 0) = a3 by omega]; exact h.trans (by omega)) zx_eF0), zx_k0⟩
def zx_D1191 : zx_L := zx_Lc [] 8 [(2000174, 0), (2000213, 5), (2000214, 6)] [] [((0, 0), [(0, 1, 0), (1, 0, 1), (2, 0, 4294967296), (3, 0, 18446744073709551616), (4, 0, 79228162514264337593543950336)]), ((0, 1), [(8, 1, 0)]), ((0, 1), [(9, 1, 0)]), ((0, 1), [(10, 1, 0)]), ((0, 0), [(1, 0, 1), (2, 0, 11068046444230025936896), (5, 1, 0)]), ((0, 0), [(1, 0, 1), (2, 0, 1180591620721706270720), (6, 1, 0)]), ((0, 0), [(2, 0, 1), (3, 0, 340282366920938463463374607431768211456), (7, 1, 0)])] [((0, 0), [(1, 1, 0)]), ((4294967276, 0), [(1, 0, 1)]), ((0, 0), [(2, 1, 0)]), ((4294967276, 0), [(2, 0, 1)]), ((0, 0), [(3, 1, 0)]), ((4294967276, 0), [(3, 0, 1)]), ((0, 0), [(4, 1, 0)]), ((4294967276, 0), [(4, 0, 1)]), ((0, 1), [(1, 1, 0), (2, 0, 1)]), ((5, 0), [(2, 0, 1)])] [([], [], [(2000175, ((0, 0), [(0, 1, 0)]), ((1, 0), [])), (2000173, ((0, 0), [(7, 1, 0)]), ((1, 0), []))], [])]
theorem zx_D1191_ok {PT : Nat → zz_W → Prop} : zx_Lok 64 zHT PT zx_D1191 := by
  refine zx_Lc_ok (fun w hI hK ins hl hr he hg => ?_)
  obtain ⟨a0, a1, a2, a3, a4, a5, a6, a7, rfl⟩ := zx_i8 hl
  have e0 : (0 : Int) + (1 * a0 + ((-1) * a1 + ((-4294967296) * a2 + ((-18446744073709551616) * a3 + ((-79228162514264337593543950336) * a4 + 0))))) = 0 := he _ List.mem_cons_self
  have e1 : ((-1) : Int) + (1 * (zk_xe w 2000174 a0) + 0) = 0 := he _ (List.mem_cons_of_mem _ List.mem_cons_self)
  have e2 : ((-1) : Int) + (1 * (zk_xe w 2000213 a5) + 0) = 0 := he _ (List.mem_cons_of_mem _ (List.mem_cons_of_mem _ List.mem_cons_self))
  have e3 : ((-1) : Int) + (1 * (zk_xe w 2000214 a6) + 0) = 0 := he _ (List.mem_cons_of_mem _ (List.mem_cons_of_mem _ (List.mem_cons_of_mem _ List.mem_cons_self)))
  have e4 : (0 : Int) + ((-1) * a1 + ((-11068046444230025936896) * a2 + (1 * a5 + 0))) = 0 := he _ (List.mem_cons_of_mem _ (List.mem_cons_of_mem _ (List.mem_cons_of_mem _ (List.mem_cons_of_mem _ List.mem_cons_self))))
  have e5 : (0 : Int) + ((-1) * a1 + ((-1180591620721706270720) * a2 + (1 * a6 + 0))) = 0 := he _ (List.mem_cons_of_mem _ (List.mem_cons_of_mem _ (List.mem_cons_of_mem _ (List.mem_cons_of_mem _ (List.mem_cons_of_mem _ List.mem_cons_self)))))
  have e6 : (0 : Int) + ((-1) * a2 + ((-340282366920938463463374607431768211456) * a3 + (1 * a7 + 0))) = 0 := he _ (List.mem_cons_of_mem _ (List.mem_cons_of_mem _ (List.mem_cons_of_mem _ (List.mem_cons_of_mem _ (List.mem_cons_of_mem _ (List.mem_cons_of_mem _ List.mem_cons_self))))))
  have g0 : 0 ≤ (0 : Int) + (1 * a1 + 0) := hg _ List.mem_cons_self
  have g1 : 0 ≤ (4294967276 : Int) + ((-1) * a1 + 0) := hg _ (List.mem_cons_of_mem _ List.mem_cons_self)
  have g2 : 0 ≤ (0 : Int) + (1 * a2 + 0) := hg _ (List.mem_cons_of_mem _ (List.mem_cons_of_mem _ List.mem_cons_self))
  have g3 : 0 ≤ (4294967276 : Int) + ((-1) * a2 + 0) := hg _ (List.mem_cons_of_mem _ (List.mem_cons_of_mem _ (List.mem_cons_of_mem _ List.mem_cons_self)))
  have g4 : 0 ≤ (0 : Int) + (1 * a3 + 0) := hg _ (List.mem_cons_of_mem _ (List.mem_cons_of_mem _ (List.mem_cons_of_mem _ (List.mem_cons_of_mem _ List.mem_cons_self))))
  have g5 : 0 ≤ (4294967276 : Int) + ((-1) * a3 + 0) := hg _ (List.mem_cons_of_mem _ (List.mem_cons_of_mem _ (List.mem_cons_of_mem _ (List.mem_cons_of_mem _ (List.mem_cons_of_mem _ List.mem_cons_self)))))
  have g6 : 0 ≤ (0 : Int) + (1 * a4 + 0) := hg _ (List.mem_cons_of_mem _ (List.mem_cons_of_mem _ (List.mem_cons_of_mem _ (List.mem_cons_of_mem _ (List.mem_cons_of_mem _ (List.mem_cons_of_mem _ List.mem_cons_self))))))
  have g7 : 0 ≤ (4294967276 : Int) + ((-1) * a4 + 0) := hg _ (List.mem_cons_of_mem _ (List.mem_cons_of_mem _ (List.mem_cons_of_mem _ (List.mem_cons_of_mem _ (List.mem_cons_of_mem _ (List.mem_cons_of_mem _ (List.mem_cons_of_mem _ List.mem_cons_self)))))))
  have g8 : 0 ≤ ((-1) : Int) + (1 * a1 + ((-1) * a2 + 0)) := hg _ (List.mem_cons_of_mem _ (List.mem_cons_of_mem _ (List.mem_cons_of_mem _ (List.mem_cons_of_mem _ (List.mem_cons_of_mem _ (List.mem_cons_of_mem _ (List.mem_cons_of_mem _ (List.mem_cons_of_mem _ List.mem_cons_self))))))))
  have g9 : 0 ≤ (5 : Int) + ((-1) * a2 + 0) := hg _ (List.mem_cons_of_mem _ (List.mem_cons_of_mem _ (List.mem_cons_of_mem _ (List.mem_cons_of_mem _ (List.mem_cons_of_mem _ (List.mem_cons_of_mem _ (List.mem_cons_of_mem _ (List.mem_cons_of_mem _ (List.mem_cons_of_mem _ List.mem_cons_self)))))))))
  have r0 : 0 ≤ a0 := hr _ List.mem_cons_self
  have r1 : 0 ≤ a5 := hr _ (List.mem_cons_of_mem _ List.mem_cons_self)
  have r2 : 0 ≤ a6 := hr _ (List.mem_cons_of_mem _ (List.mem_cons_of_mem _ List.mem_cons_self))
  have hp := (zj_n174 (w := w) (p := a0) (n := a1) (u := a2) (h := a3) (N := a4) (by omega) (by omega) (by omega) (by omega) (by omega) (by omega) (by omega) (by omega) (by omega) ).mp (by omega)
  have hu13 := zu_P_of (w := w) (t := 13) (P := a5) (ps := [a1, a2, 600 * a2]) rfl (fun p hp => by rcases List.mem_cons.mp hp with e | hp; (· rw [e]; omega); rcases List.mem_cons.mp hp with e | hp; (· rw [e]; omega); rw [List.mem_singleton.mp hp]; omega) (by show a5 = a1 + 4294967296 * (a2 + 4294967296 * (600 * a2 + 4294967296 * 0)); omega) (by show zk_xe w 2000213 a5 = 1; omega)
  have hu14 := zu_P_of (w := w) (t := 14) (P := a6) (ps := [a1, a2, 64 * a2]) rfl (fun p hp => by rcases List.mem_cons.mp hp with e | hp; (· rw [e]; omega); rcases List.mem_cons.mp hp with e | hp; (· rw [e]; omega); rw [List.mem_singleton.mp hp]; omega) (by show a6 = a1 + 4294967296 * (a2 + 4294967296 * (64 * a2 + 4294967296 * 0)); omega) (by show zk_xe w 2000214 a6 = 1; omega)
  have h1 : zk_xe w 2000175 a0 = 1 := by
    refine (zj_n175 (w := w) (p := a0) (n := a1) (u := a2) (h := a3) (N := a4) (by omega) (by omega) (by omega) (by omega) (by omega) (by omega) (by omega) (by omega) (by omega) ).mpr (fun v v0 v1 v2 v3 => ?_)
    exact hp v v0 v1 v3
  have h2 : zk_xe w 2000173 a7 = 1 := by
    refine (zj_n173 (w := w) (p := a7) (u := a2) (i := 0) (j := 0) (k := 0) (h := a3) (by omega) (by omega) (by omega) (by omega) (by omega) (by omega) (by omega) (by omega) (by omega) (by omega) (by omega) ).mpr (fun q => ?_)
    have z := hp a2 (by omega) (by omega) q
    rw [if_neg (show ¬ (a2 < a2) by omega)] at z
    refine zj_rnb z (fun x x0 x1 x2 _ => ?_) (fun x x0 x1 x2 => ?_)
    · rcases zj_d13 hu13 (by omega) (by omega) (by omega) x0 x2 with y | y
      · omega
      · exact y
    · rcases zj_d14 hu14 (by omega) (by omega) (by omega) x0 x2 with y | y
      · omega
      · exact y
  exact ⟨_, List.mem_cons_self, [], rfl, zx_bnil, zx_cs0, (zx_eF1 (by show 0 ≤ (0 : Int) + (1 * a0 + 0); omega) (by show zk_xe w 2000175 ((0 : Int) + (1 * a0 + 0)) = (1 : Int) + (0); rw [show (0 : Int) + (1 * a0 + 0) = a0 by omega]; exact h1.trans (by omega)) (zx_eF1 (by show 0 ≤ (0 : Int) + (1 * a7 + 0); omega) (by show zk_xe w 2000173 ((0 : Int) + (1 * a7 + 0)) = (1 : Int) + (0); rw [show (0 : Int) + (1 * a7 + 0) = a7 by omega]; exact h2.trans (by omega)) zx_eF0)), zx_k0⟩
def zx_E760 : zx_V := zx_Vc 204 [] 12 [(2000173, 0), (2000175, 6), (204, 9), (220, 10)] [((0, 0), [(2, 1, 0), (3, 0, 1), (4, 0, 4294967296), (5, 0, 18446744073709551616), (6, 0, 79228162514264337593543950336), (7, 0, 340282366920938463463374607431768211456)]), ((0, 1), [(14, 1, 0)]), ((0, 0), [(3, 0, 4294967296), (7, 0, 18446744073709551616), (8, 1, 0), (9, 0, 1), (10, 0, 79228162514264337593543950336)]), ((0, 1), [(15, 1, 0)]), ((0, 0), [(0, 1, 0), (11, 0, 1)]), ((0, 0), [(3, 0, 600), (4, 0, 1), (11, 1, 0)]), ((0, 0), [(12, 0, 1), (16, 1, 0)]), ((0, 4294967296), [(3, 0, 1), (4, 0, 4294967296), (5, 0, 18446744073709551616), (6, 0, 79228162514264337593543950336), (7, 0, 340282366920938463463374607431768211456), (13, 1, 0)]), ((0, 0), [(1, 1, 0), (17, 0, 1)])] [((0, 0), [(3, 1, 0)]), ((4294967276, 0), [(3, 0, 1)]), ((0, 0), [(4, 1, 0)]), ((4294967276, 0), [(4, 0, 1)]), ((0, 0), [(5, 1, 0)]), ((4294967276, 0), [(5, 0, 1)]), ((0, 0), [(6, 1, 0)]), ((4294967276, 0), [(6, 0, 1)]), ((0, 0), [(7, 1, 0)]), ((4294967276, 0), [(7, 0, 1)]), ((0, 0), [(9, 1, 0)]), ((4294967276, 0), [(9, 0, 1)]), ((0, 0), [(10, 1, 0)]), ((4294967276, 0), [(10, 0, 1)]), ((599, 0), [(4, 0, 1)]), ((0, 0), [(12, 1, 0)])] [(2000173, ((0, 0), [(13, 1, 0)]), ((1, 0), [])), (2000175, ((0, 0), [(8, 1, 0)]), ((1, 0), []))]
theorem zx_E760_ok {PT : Nat → zz_W → Prop} : zx_Vok 64 zHT PT zx_E760 := by
  refine zx_Vc_ok (fun w w' j ins hI hI' h0 hw hK hl he hg => ?_)
  obtain ⟨a0, a1, a2, a3, a4, a5, a6, a7, a8, a9, a10, a11, rfl⟩ := zx_i12 hl
  have e0 : (0 : Int) + (1 * a0 + ((-1) * a1 + ((-4294967296) * a2 + ((-18446744073709551616) * a3 + ((-79228162514264337593543950336) * a4 + ((-340282366920938463463374607431768211456) * a5 + 0)))))) = 0 := he _ List.mem_cons_self
  have e1 : ((-1) : Int) + (1 * (zk_xe w 2000173 a0) + 0) = 0 := he _ (List.mem_cons_of_mem _ List.mem_cons_self)
  have e2 : (0 : Int) + ((-4294967296) * a1 + ((-18446744073709551616) * a5 + (1 * a6 + ((-1) * a7 + ((-79228162514264337593543950336) * a8 + 0))))) = 0 := he _ (List.mem_cons_of_mem _ (List.mem_cons_of_mem _ List.mem_cons_self))
  have e3 : ((-1) : Int) + (1 * (zk_xe w 2000175 a6) + 0) = 0 := he _ (List.mem_cons_of_mem _ (List.mem_cons_of_mem _ (List.mem_cons_of_mem _ List.mem_cons_self)))
  have e4 : (0 : Int) + (1 * j + ((-1) * a9 + 0)) = 0 := he _ (List.mem_cons_of_mem _ (List.mem_cons_of_mem _ (List.mem_cons_of_mem _ (List.mem_cons_of_mem _ List.mem_cons_self))))
  have e5 : (0 : Int) + ((-600) * a1 + ((-1) * a2 + (1 * a9 + 0))) = 0 := he _ (List.mem_cons_of_mem _ (List.mem_cons_of_mem _ (List.mem_cons_of_mem _ (List.mem_cons_of_mem _ (List.mem_cons_of_mem _ List.mem_cons_self)))))
  have e6 : (0 : Int) + ((-1) * a10 + (1 * (zk_xe w 204 a9) + 0)) = 0 := he _ (List.mem_cons_of_mem _ (List.mem_cons_of_mem _ (List.mem_cons_of_mem _ (List.mem_cons_of_mem _ (List.mem_cons_of_mem _ (List.mem_cons_of_mem _ List.mem_cons_self))))))
  have e7 : ((-4294967296) : Int) + ((-1) * a1 + ((-4294967296) * a2 + ((-18446744073709551616) * a3 + ((-79228162514264337593543950336) * a4 + ((-340282366920938463463374607431768211456) * a5 + (1 * a11 + 0)))))) = 0 := he _ (List.mem_cons_of_mem _ (List.mem_cons_of_mem _ (List.mem_cons_of_mem _ (List.mem_cons_of_mem _ (List.mem_cons_of_mem _ (List.mem_cons_of_mem _ (List.mem_cons_of_mem _ List.mem_cons_self)))))))
  have e8 : (0 : Int) + (1 * (zk_el w' 204 j) + ((-1) * (zk_xe w 220 a10) + 0)) = 0 := he _ (List.mem_cons_of_mem _ (List.mem_cons_of_mem _ (List.mem_cons_of_mem _ (List.mem_cons_of_mem _ (List.mem_cons_of_mem _ (List.mem_cons_of_mem _ (List.mem_cons_of_mem _ (List.mem_cons_of_mem _ List.mem_cons_self))))))))
  have g0 : 0 ≤ (0 : Int) + (1 * a1 + 0) := hg _ List.mem_cons_self
  have g1 : 0 ≤ (4294967276 : Int) + ((-1) * a1 + 0) := hg _ (List.mem_cons_of_mem _ List.mem_cons_self)
  have g2 : 0 ≤ (0 : Int) + (1 * a2 + 0) := hg _ (List.mem_cons_of_mem _ (List.mem_cons_of_mem _ List.mem_cons_self))
  have g3 : 0 ≤ (4294967276 : Int) + ((-1) * a2 + 0) := hg _ (List.mem_cons_of_mem _ (List.mem_cons_of_mem _ (List.mem_cons_of_mem _ List.mem_cons_self)))
  have g4 : 0 ≤ (0 : Int) + (1 * a3 + 0) := hg _ (List.mem_cons_of_mem _ (List.mem_cons_of_mem _ (List.mem_cons_of_mem _ (List.mem_cons_of_mem _ List.mem_cons_self))))
  have g5 : 0 ≤ (4294967276 : Int) + ((-1) * a3 + 0) := hg _ (List.mem_cons_of_mem _ (List.mem_cons_of_mem _ (List.mem_cons_of_mem _ (List.mem_cons_of_mem _ (List.mem_cons_of_mem _ List.mem_cons_self)))))
  have g6 : 0 ≤ (0 : Int) + (1 * a4 + 0) := hg _ (List.mem_cons_of_mem _ (List.mem_cons_of_mem _ (List.mem_cons_of_mem _ (List.mem_cons_of_mem _ (List.mem_cons_of_mem _ (List.mem_cons_of_mem _ List.mem_cons_self))))))
  have g7 : 0 ≤ (4294967276 : Int) + ((-1) * a4 + 0) := hg _ (List.mem_cons_of_mem _ (List.mem_cons_of_mem _ (List.mem_cons_of_mem _ (List.mem_cons_of_mem _ (List.mem_cons_of_mem _ (List.mem_cons_of_mem _ (List.mem_cons_of_mem _ List.mem_cons_self)))))))
  have g8 : 0 ≤ (0 : Int) + (1 * a5 + 0) := hg _ (List.mem_cons_of_mem _ (List.mem_cons_of_mem _ (List.mem_cons_of_mem _ (List.mem_cons_of_mem _ (List.mem_cons_of_mem _ (List.mem_cons_of_mem _ (List.mem_cons_of_mem _ (List.mem_cons_of_mem _ List.mem_cons_self))))))))
  have g9 : 0 ≤ (4294967276 : Int) + ((-1) * a5 + 0) := hg _ (List.mem_cons_of_mem _ (List.mem_cons_of_mem _ (List.mem_cons_of_mem _ (List.mem_cons_of_mem _ (List.mem_cons_of_mem _ (List.mem_cons_of_mem _ (List.mem_cons_of_mem _ (List.mem_cons_of_mem _ (List.mem_cons_of_mem _ List.mem_cons_self)))))))))
  have g10 : 0 ≤ (0 : Int) + (1 * a7 + 0) := hg _ (List.mem_cons_of_mem _ (List.mem_cons_of_mem _ (List.mem_cons_of_mem _ (List.mem_cons_of_mem _ (List.mem_cons_of_mem _ (List.mem_cons_of_mem _ (List.mem_cons_of_mem _ (List.mem_cons_of_mem _ (List.mem_cons_of_mem _ (List.mem_cons_of_mem _ List.mem_cons_self))))))))))
  have g11 : 0 ≤ (4294967276 : Int) + ((-1) * a7 + 0) := hg _ (List.mem_cons_of_mem _ (List.mem_cons_of_mem _ (List.mem_cons_of_mem _ (List.mem_cons_of_mem _ (List.mem_cons_of_mem _ (List.mem_cons_of_mem _ (List.mem_cons_of_mem _ (List.mem_cons_of_mem _ (List.mem_cons_of_mem _ (List.mem_cons_of_mem _ (List.mem_cons_of_mem _ List.mem_cons_self)))))))))))
  have g12 : 0 ≤ (0 : Int) + (1 * a8 + 0) := hg _ (List.mem_cons_of_mem _ (List.mem_cons_of_mem _ (List.mem_cons_of_mem _ (List.mem_cons_of_mem _ (List.mem_cons_of_mem _ (List.mem_cons_of_mem _ (List.mem_cons_of_mem _ (List.mem_cons_of_mem _ (List.mem_cons_of_mem _ (List.mem_cons_of_mem _ (List.mem_cons_of_mem _ (List.mem_cons_of_mem _ List.mem_cons_self))))))))))))
  have g13 : 0 ≤ (4294967276 : Int) + ((-1) * a8 + 0) := hg _ (List.mem_cons_of_mem _ (List.mem_cons_of_mem _ (List.mem_cons_of_mem _ (List.mem_cons_of_mem _ (List.mem_cons_of_mem _ (List.mem_cons_of_mem _ (List.mem_cons_of_mem _ (List.mem_cons_of_mem _ (List.mem_cons_of_mem _ (List.mem_cons_of_mem _ (List.mem_cons_of_mem _ (List.mem_cons_of_mem _ (List.mem_cons_of_mem _ List.mem_cons_self)))))))))))))
  have g14 : 0 ≤ (599 : Int) + ((-1) * a2 + 0) := hg _ (List.mem_cons_of_mem _ (List.mem_cons_of_mem _ (List.mem_cons_of_mem _ (List.mem_cons_of_mem _ (List.mem_cons_of_mem _ (List.mem_cons_of_mem _ (List.mem_cons_of_mem _ (List.mem_cons_of_mem _ (List.mem_cons_of_mem _ (List.mem_cons_of_mem _ (List.mem_cons_of_mem _ (List.mem_cons_of_mem _ (List.mem_cons_of_mem _ (List.mem_cons_of_mem _ List.mem_cons_self))))))))))))))
  have g15 : 0 ≤ (0 : Int) + (1 * a10 + 0) := hg _ (List.mem_cons_of_mem _ (List.mem_cons_of_mem _ (List.mem_cons_of_mem _ (List.mem_cons_of_mem _ (List.mem_cons_of_mem _ (List.mem_cons_of_mem _ (List.mem_cons_of_mem _ (List.mem_cons_of_mem _ (List.mem_cons_of_mem _ (List.mem_cons_of_mem _ (List.mem_cons_of_mem _ (List.mem_cons_of_mem _ (List.mem_cons_of_mem _ (List.mem_cons_of_mem _ (List.mem_cons_of_mem _ List.mem_cons_self)))))))))))))))
  have hp := (zj_n173 (w := w) (p := a0) (u := a1) (i := a2) (j := a3) (k := a4) (h := a5) (by omega) (by omega) (by omega) (by omega) (by omega) (by omega) (by omega) (by omega) (by omega) (by omega) (by omega) ).mp (by omega)
  have hx := (zj_n175 (w := w) (p := a6) (n := a7) (u := a1) (h := a5) (N := a8) (by omega) (by omega) (by omega) (by omega) (by omega) (by omega) (by omega) (by omega) (by omega) ).mp (by omega)
  have k0 : zh_e w 204 (600 * a1 + a2) = zk_xe w 204 a9 := by rw [zk_xe_r (i := 204) (by decide)]; show zk_el w 204 (600 * a1 + a2) = zk_el w 204 a9; rw [show 600 * a1 + a2 = a9 by omega]
  have k1 : zh_e w' 204 (600 * a1 + a2) = zk_el w' 204 j := by
    show zk_el w' 204 (600 * a1 + a2) = _
    rw [show 600 * a1 + a2 = j by omega]
  have k2 : zh_e w 220 (zk_xe w 204 a9) = zk_xe w 220 a10 := by rw [zk_xe_r (i := 220) (by decide)]; show zk_el w 220 (zk_xe w 204 a9) = zk_el w 220 a10; rw [show zk_xe w 204 a9 = a10 by omega]
  have o208 : zh_e w' 208 = zh_e w 208 := zh_e_g (hw.1 208 (by decide))
  have o209 : zh_e w' 209 = zh_e w 209 := zh_e_g (hw.1 209 (by decide))
  have o210 : zh_e w' 210 = zh_e w 210 := zh_e_g (hw.1 210 (by decide))
  have o211 : zh_e w' 211 = zh_e w 211 := zh_e_g (hw.1 211 (by decide))
  have o212 : zh_e w' 212 = zh_e w 212 := zh_e_g (hw.1 212 (by decide))
  have o214 : zh_e w' 214 = zh_e w 214 := zh_e_g (hw.1 214 (by decide))
  have o215 : zh_e w' 215 = zh_e w 215 := zh_e_g (hw.1 215 (by decide))
  have o205 : zh_e w' 205 = zh_e w 205 := zh_e_g (hw.1 205 (by decide))
  have o207 : zh_e w' 207 = zh_e w 207 := zh_e_g (hw.1 207 (by decide))
  have o213 : zh_e w' 213 = zh_e w 213 := zh_e_g (hw.1 213 (by decide))
  have o203 : zh_e w' 203 = zh_e w 203 := zh_e_g (hw.1 203 (by decide))
  have o176 : zh_e w' 176 = zh_e w 176 := zh_e_g (hw.1 176 (by decide))
  have o220 : zh_e w' 220 = zh_e w 220 := zh_e_g (hw.1 220 (by decide))
  have h1 : zk_xe w' 2000173 a11 = 1 := by
    refine (zj_n173 (w := w') (p := a11) (u := a1) (i := (a2 + 1)) (j := a3) (k := a4) (h := a5) (by omega) (by omega) (by omega) (by omega) (by omega) (by omega) (by omega) (by omega) (by omega) (by omega) (by omega) ).mpr (fun q => ?_)
    rw [o176] at q
    have z := hp q
    rw [o208, o209, o210, o211, o212, o214, o215, o205, o207, o213, o203, o220]
    refine zj_rnV (v := 0) (by omega) (by show 0 ≤ zh_e w 204 (600 * a1 + a2); rw [k0]; omega) ?_ (fun x x0 x1 x2 => hw.2 _ (by omega) (by omega)) z
    show zh_e w' 204 (600 * a1 + a2) = zh_e w 220 (zh_e w 204 (600 * a1 + a2))
    rw [k0, k1, k2]
    omega
  have h2 : zk_xe w' 2000175 a6 = 1 := by
    refine (zj_n175 (w := w') (p := a6) (n := a7) (u := a1) (h := a5) (N := a8) (by omega) (by omega) (by omega) (by omega) (by omega) (by omega) (by omega) (by omega) (by omega) ).mpr (fun v v0 v1 v2 v3 => ?_)
    rw [o176] at v3
    have z := hx v v0 v1 v2 v3
    rw [o208, o209, o210, o211, o212, o214, o215, o205, o207, o213, o203]
    exact zj_nuc (Int.le_refl _) (fun _ _ _ => rfl) (fun _ _ _ => rfl) (fun _ _ _ => rfl) (fun _ _ _ => rfl) (fun _ _ _ => rfl) (fun _ _ _ => rfl) (fun _ _ _ => rfl) (fun x x0 x1 => hw.2 _ (by omega) (by omega)) (fun _ _ _ => rfl) z
  exact (zx_eF1 (by show 0 ≤ (0 : Int) + (1 * a11 + 0); omega) (by show zk_xe w' 2000173 ((0 : Int) + (1 * a11 + 0)) = (1 : Int) + (0); rw [show (0 : Int) + (1 * a11 + 0) = a11 by omega]; exact h1.trans (by omega)) (zx_eF1 (by show 0 ≤ (0 : Int) + (1 * a6 + 0); omega) (by show zk_xe w' 2000175 ((0 : Int) + (1 * a6 + 0)) = (1 : Int) + (0); rw [show (0 : Int) + (1 * a6 + 0) = a6 by omega]; exact h2.trans (by omega)) zx_eF0))
def zx_E761 : zx_V := zx_Vc 214 [] 12 [(2000173, 0), (2000175, 6), (214, 9), (220, 10)] [((0, 0), [(2, 1, 0), (3, 0, 1), (4, 0, 4294967296), (5, 0, 18446744073709551616), (6, 0, 79228162514264337593543950336), (7, 0, 340282366920938463463374607431768211456)]), ((0, 1), [(14, 1, 0)]), ((0, 0), [(3, 0, 4294967296), (7, 0, 18446744073709551616), (8, 1, 0), (9, 0, 1), (10, 0, 79228162514264337593543950336)]), ((0, 1), [(15, 1, 0)]), ((0, 0), [(0, 1, 0), (11, 0, 1)]), ((0, 0), [(3, 0, 64), (5, 0, 1), (11, 1, 0)]), ((0, 0), [(12, 0, 1), (16, 1, 0)]), ((0, 18446744073709551616), [(3, 0, 1), (4, 0, 4294967296), (5, 0, 18446744073709551616), (6, 0, 79228162514264337593543950336), (7, 0, 340282366920938463463374607431768211456), (13, 1, 0)]), ((0, 0), [(1, 1, 0), (17, 0, 1)])] [((0, 0), [(3, 1, 0)]), ((4294967276, 0), [(3, 0, 1)]), ((0, 0), [(4, 1, 0)]), ((4294967276, 0), [(4, 0, 1)]), ((0, 0), [(5, 1, 0)]), ((4294967276, 0), [(5, 0, 1)]), ((0, 0), [(6, 1, 0)]), ((4294967276, 0), [(6, 0, 1)]), ((0, 0), [(7, 1, 0)]), ((4294967276, 0), [(7, 0, 1)]), ((0, 0), [(9, 1, 0)]), ((4294967276, 0), [(9, 0, 1)]), ((0, 0), [(10, 1, 0)]), ((4294967276, 0), [(10, 0, 1)]), ((63, 0), [(5, 0, 1)]), ((0, 0), [(12, 1, 0)])] [(2000173, ((0, 0), [(13, 1, 0)]), ((1, 0), [])), (2000175, ((0, 0), [(8, 1, 0)]), ((1, 0), []))]
theorem zx_E761_ok {PT : Nat → zz_W → Prop} : zx_Vok 64 zHT PT zx_E761 := by
  refine zx_Vc_ok (fun w w' j ins hI hI' h0 hw hK hl he hg => ?_)
  obtain ⟨a0, a1, a2, a3, a4, a5, a6, a7, a8, a9, a10, a11, rfl⟩ := zx_i12 hl
  have e0 : (0 : Int) + (1 * a0 + ((-1) * a1 + ((-4294967296) * a2 + ((-18446744073709551616) * a3 + ((-79228162514264337593543950336) * a4 + ((-340282366920938463463374607431768211456) * a5 + 0)))))) = 0 := he _ List.mem_cons_self
  have e1 : ((-1) : Int) + (1 * (zk_xe w 2000173 a0) + 0) = 0 := he _ (List.mem_cons_of_mem _ List.mem_cons_self)
  have e2 : (0 : Int) + ((-4294967296) * a1 + ((-18446744073709551616) * a5 + (1 * a6 + ((-1) * a7 + ((-79228162514264337593543950336) * a8 + 0))))) = 0 := he _ (List.mem_cons_of_mem _ (List.mem_cons_of_mem _ List.mem_cons_self))
  have e3 : ((-1) : Int) + (1 * (zk_xe w 2000175 a6) + 0) = 0 := he _ (List.mem_cons_of_mem _ (List.mem_cons_of_mem _ (List.mem_cons_of_mem _ List.mem_cons_self)))
  have e4 : (0 : Int) + (1 * j + ((-1) * a9 + 0)) = 0 := he _ (List.mem_cons_of_mem _ (List.mem_cons_of_mem _ (List.mem_cons_of_mem _ (List.mem_cons_of_mem _ List.mem_cons_self))))
  have e5 : (0 : Int) + ((-64) * a1 + ((-1) * a3 + (1 * a9 + 0))) = 0 := he _ (List.mem_cons_of_mem _ (List.mem_cons_of_mem _ (List.mem_cons_of_mem _ (List.mem_cons_of_mem _ (List.mem_cons_of_mem _ List.mem_cons_self)))))
  have e6 : (0 : Int) + ((-1) * a10 + (1 * (zk_xe w 214 a9) + 0)) = 0 := he _ (List.mem_cons_of_mem _ (List.mem_cons_of_mem _ (List.mem_cons_of_mem _ (List.mem_cons_of_mem _ (List.mem_cons_of_mem _ (List.mem_cons_of_mem _ List.mem_cons_self))))))
  have e7 : ((-18446744073709551616) : Int) + ((-1) * a1 + ((-4294967296) * a2 + ((-18446744073709551616) * a3 + ((-79228162514264337593543950336) * a4 + ((-340282366920938463463374607431768211456) * a5 + (1 * a11 + 0)))))) = 0 := he _ (List.mem_cons_of_mem _ (List.mem_cons_of_mem _ (List.mem_cons_of_mem _ (List.mem_cons_of_mem _ (List.mem_cons_of_mem _ (List.mem_cons_of_mem _ (List.mem_cons_of_mem _ List.mem_cons_self)))))))
  have e8 : (0 : Int) + (1 * (zk_el w' 214 j) + ((-1) * (zk_xe w 220 a10) + 0)) = 0 := he _ (List.mem_cons_of_mem _ (List.mem_cons_of_mem _ (List.mem_cons_of_mem _ (List.mem_cons_of_mem _ (List.mem_cons_of_mem _ (List.mem_cons_of_mem _ (List.mem_cons_of_mem _ (List.mem_cons_of_mem _ List.mem_cons_self))))))))
  have g0 : 0 ≤ (0 : Int) + (1 * a1 + 0) := hg _ List.mem_cons_self
  have g1 : 0 ≤ (4294967276 : Int) + ((-1) * a1 + 0) := hg _ (List.mem_cons_of_mem _ List.mem_cons_self)
  have g2 : 0 ≤ (0 : Int) + (1 * a2 + 0) := hg _ (List.mem_cons_of_mem _ (List.mem_cons_of_mem _ List.mem_cons_self))
  have g3 : 0 ≤ (4294967276 : Int) + ((-1) * a2 + 0) := hg _ (List.mem_cons_of_mem _ (List.mem_cons_of_mem _ (List.mem_cons_of_mem _ List.mem_cons_self)))
  have g4 : 0 ≤ (0 : Int) + (1 * a3 + 0) := hg _ (List.mem_cons_of_mem _ (List.mem_cons_of_mem _ (List.mem_cons_of_mem _ (List.mem_cons_of_mem _ List.mem_cons_self))))
  have g5 : 0 ≤ (4294967276 : Int) + ((-1) * a3 + 0) := hg _ (List.mem_cons_of_mem _ (List.mem_cons_of_mem _ (List.mem_cons_of_mem _ (List.mem_cons_of_mem _ (List.mem_cons_of_mem _ List.mem_cons_self)))))
  have g6 : 0 ≤ (0 : Int) + (1 * a4 + 0) := hg _ (List.mem_cons_of_mem _ (List.mem_cons_of_mem _ (List.mem_cons_of_mem _ (List.mem_cons_of_mem _ (List.mem_cons_of_mem _ (List.mem_cons_of_mem _ List.mem_cons_self))))))
  have g7 : 0 ≤ (4294967276 : Int) + ((-1) * a4 + 0) := hg _ (List.mem_cons_of_mem _ (List.mem_cons_of_mem _ (List.mem_cons_of_mem _ (List.mem_cons_of_mem _ (List.mem_cons_of_mem _ (List.mem_cons_of_mem _ (List.mem_cons_of_mem _ List.mem_cons_self)))))))
  have g8 : 0 ≤ (0 : Int) + (1 * a5 + 0) := hg _ (List.mem_cons_of_mem _ (List.mem_cons_of_mem _ (List.mem_cons_of_mem _ (List.mem_cons_of_mem _ (List.mem_cons_of_mem _ (List.mem_cons_of_mem _ (List.mem_cons_of_mem _ (List.mem_cons_of_mem _ List.mem_cons_self))))))))
  have g9 : 0 ≤ (4294967276 : Int) + ((-1) * a5 + 0) := hg _ (List.mem_cons_of_mem _ (List.mem_cons_of_mem _ (List.mem_cons_of_mem _ (List.mem_cons_of_mem _ (List.mem_cons_of_mem _ (List.mem_cons_of_mem _ (List.mem_cons_of_mem _ (List.mem_cons_of_mem _ (List.mem_cons_of_mem _ List.mem_cons_self)))))))))
  have g10 : 0 ≤ (0 : Int) + (1 * a7 + 0) := hg _ (List.mem_cons_of_mem _ (List.mem_cons_of_mem _ (List.mem_cons_of_mem _ (List.mem_cons_of_mem _ (List.mem_cons_of_mem _ (List.mem_cons_of_mem _ (List.mem_cons_of_mem _ (List.mem_cons_of_mem _ (List.mem_cons_of_mem _ (List.mem_cons_of_mem _ List.mem_cons_self))))))))))
  have g11 : 0 ≤ (4294967276 : Int) + ((-1) * a7 + 0) := hg _ (List.mem_cons_of_mem _ (List.mem_cons_of_mem _ (List.mem_cons_of_mem _ (List.mem_cons_of_mem _ (List.mem_cons_of_mem _ (List.mem_cons_of_mem _ (List.mem_cons_of_mem _ (List.mem_cons_of_mem _ (List.mem_cons_of_mem _ (List.mem_cons_of_mem _ (List.mem_cons_of_mem _ List.mem_cons_self)))))))))))
  have g12 : 0 ≤ (0 : Int) + (1 * a8 + 0) := hg _ (List.mem_cons_of_mem _ (List.mem_cons_of_mem _ (List.mem_cons_of_mem _ (List.mem_cons_of_mem _ (List.mem_cons_of_mem _ (List.mem_cons_of_mem _ (List.mem_cons_of_mem _ (List.mem_cons_of_mem _ (List.mem_cons_of_mem _ (List.mem_cons_of_mem _ (List.mem_cons_of_mem _ (List.mem_cons_of_mem _ List.mem_cons_self))))))))))))
  have g13 : 0 ≤ (4294967276 : Int) + ((-1) * a8 + 0) := hg _ (List.mem_cons_of_mem _ (List.mem_cons_of_mem _ (List.mem_cons_of_mem _ (List.mem_cons_of_mem _ (List.mem_cons_of_mem _ (List.mem_cons_of_mem _ (List.mem_cons_of_mem _ (List.mem_cons_of_mem _ (List.mem_cons_of_mem _ (List.mem_cons_of_mem _ (List.mem_cons_of_mem _ (List.mem_cons_of_mem _ (List.mem_cons_of_mem _ List.mem_cons_self)))))))))))))
  have g14 : 0 ≤ (63 : Int) + ((-1) * a3 + 0) := hg _ (List.mem_cons_of_mem _ (List.mem_cons_of_mem _ (List.mem_cons_of_mem _ (List.mem_cons_of_mem _ (List.mem_cons_of_mem _ (List.mem_cons_of_mem _ (List.mem_cons_of_mem _ (List.mem_cons_of_mem _ (List.mem_cons_of_mem _ (List.mem_cons_of_mem _ (List.mem_cons_of_mem _ (List.mem_cons_of_mem _ (List.mem_cons_of_mem _ (List.mem_cons_of_mem _ List.mem_cons_self))))))))))))))
  have g15 : 0 ≤ (0 : Int) + (1 * a10 + 0) := hg _ (List.mem_cons_of_mem _ (List.mem_cons_of_mem _ (List.mem_cons_of_mem _ (List.mem_cons_of_mem _ (List.mem_cons_of_mem _ (List.mem_cons_of_mem _ (List.mem_cons_of_mem _ (List.mem_cons_of_mem _ (List.mem_cons_of_mem _ (List.mem_cons_of_mem _ (List.mem_cons_of_mem _ (List.mem_cons_of_mem _ (List.mem_cons_of_mem _ (List.mem_cons_of_mem _ (List.mem_cons_of_mem _ List.mem_cons_self)))))))))))))))
  have hp := (zj_n173 (w := w) (p := a0) (u := a1) (i := a2) (j := a3) (k := a4) (h := a5) (by omega) (by omega) (by omega) (by omega) (by omega) (by omega) (by omega) (by omega) (by omega) (by omega) (by omega) ).mp (by omega)
  have hx := (zj_n175 (w := w) (p := a6) (n := a7) (u := a1) (h := a5) (N := a8) (by omega) (by omega) (by omega) (by omega) (by omega) (by omega) (by omega) (by omega) (by omega) ).mp (by omega)
  have k0 : zh_e w 214 (64 * a1 + a3) = zk_xe w 214 a9 := by rw [zk_xe_r (i := 214) (by decide)]; show zk_el w 214 (64 * a1 + a3) = zk_el w 214 a9; rw [show 64 * a1 + a3 = a9 by omega]
  have k1 : zh_e w' 214 (64 * a1 + a3) = zk_el w' 214 j := by
    show zk_el w' 214 (64 * a1 + a3) = _
    rw [show 64 * a1 + a3 = j by omega]
  have k2 : zh_e w 220 (zk_xe w 214 a9) = zk_xe w 220 a10 := by rw [zk_xe_r (i := 220) (by decide)]; show zk_el w 220 (zk_xe w 214 a9) = zk_el w 220 a10; rw [show zk_xe w 214 a9 = a10 by omega]
  have o208 : zh_e w' 208 = zh_e w 208 := zh_e_g (hw.1 208 (by decide))
  have o209 : zh_e w' 209 = zh_e w 209 := zh_e_g (hw.1 209 (by decide))
  have o210 : zh_e w' 210 = zh_e w 210 := zh_e_g (hw.1 210 (by decide))
  have o211 : zh_e w' 211 = zh_e w 211 := zh_e_g (hw.1 211 (by decide))
  have o212 : zh_e w' 212 = zh_e w 212 := zh_e_g (hw.1 212 (by decide))
  have o215 : zh_e w' 215 = zh_e w 215 := zh_e_g (hw.1 215 (by decide))
  have o204 : zh_e w' 204 = zh_e w 204 := zh_e_g (hw.1 204 (by decide))
  have o205 : zh_e w' 205 = zh_e w 205 := zh_e_g (hw.1 205 (by decide))
  have o207 : zh_e w' 207 = zh_e w 207 := zh_e_g (hw.1 207 (by decide))
  have o213 : zh_e w' 213 = zh_e w 213 := zh_e_g (hw.1 213 (by decide))
  have o203 : zh_e w' 203 = zh_e w 203 := zh_e_g (hw.1 203 (by decide))
  have o176 : zh_e w' 176 = zh_e w 176 := zh_e_g (hw.1 176 (by decide))
  have o220 : zh_e w' 220 = zh_e w 220 := zh_e_g (hw.1 220 (by decide))
  have h1 : zk_xe w' 2000173 a11 = 1 := by
    refine (zj_n173 (w := w') (p := a11) (u := a1) (i := a2) (j := (a3 + 1)) (k := a4) (h := a5) (by omega) (by omega) (by omega) (by omega) (by omega) (by omega) (by omega) (by omega) (by omega) (by omega) (by omega) ).mpr (fun q => ?_)
    rw [o176] at q
    have z := hp q
    rw [o208, o209, o210, o211, o212, o215, o204, o205, o207, o213, o203, o220]
    refine zj_rnD (by omega) (by show 0 ≤ zh_e w 214 (64 * a1 + a3); rw [k0]; omega) ?_ (fun x x0 x1 x2 => hw.2 _ (by omega) (by omega)) z
    show zh_e w' 214 (64 * a1 + a3) = zh_e w 220 (zh_e w 214 (64 * a1 + a3))
    rw [k0, k1, k2]
    omega
  have h2 : zk_xe w' 2000175 a6 = 1 := by
    refine (zj_n175 (w := w') (p := a6) (n := a7) (u := a1) (h := a5) (N := a8) (by omega) (by omega) (by omega) (by omega) (by omega) (by omega) (by omega) (by omega) (by omega) ).mpr (fun v v0 v1 v2 v3 => ?_)
    rw [o176] at v3
    have z := hx v v0 v1 v2 v3
    rw [o208, o209, o210, o211, o212, o215, o204, o205, o207, o213, o203]
    exact zj_nuc (Int.le_refl _) (fun _ _ _ => rfl) (fun _ _ _ => rfl) (fun _ _ _ => rfl) (fun _ _ _ => rfl) (fun _ _ _ => rfl) (fun x x0 x1 => hw.2 _ (by omega) (by omega)) (fun _ _ _ => rfl) (fun _ _ _ => rfl) (fun _ _ _ => rfl) z
  exact (zx_eF1 (by show 0 ≤ (0 : Int) + (1 * a11 + 0); omega) (by show zk_xe w' 2000173 ((0 : Int) + (1 * a11 + 0)) = (1 : Int) + (0); rw [show (0 : Int) + (1 * a11 + 0) = a11 by omega]; exact h1.trans (by omega)) (zx_eF1 (by show 0 ≤ (0 : Int) + (1 * a6 + 0); omega) (by show zk_xe w' 2000175 ((0 : Int) + (1 * a6 + 0)) = (1 : Int) + (0); rw [show (0 : Int) + (1 * a6 + 0) = a6 by omega]; exact h2.trans (by omega)) zx_eF0))
def zx_E763 : zx_V := zx_Vc 209 [] 12 [(2000173, 0), (2000175, 6), (209, 9), (220, 10), (208, 9)] [((0, 0), [(2, 1, 0), (3, 0, 1), (4, 0, 4294967296), (5, 0, 18446744073709551616), (6, 0, 79228162514264337593543950336), (7, 0, 340282366920938463463374607431768211456)]), ((0, 1), [(14, 1, 0)]), ((0, 0), [(3, 0, 4294967296), (7, 0, 18446744073709551616), (8, 1, 0), (9, 0, 1), (10, 0, 79228162514264337593543950336)]), ((0, 1), [(15, 1, 0)]), ((0, 0), [(0, 1, 0), (11, 0, 1)]), ((0, 0), [(3, 0, 8000), (6, 0, 1), (11, 1, 0)]), ((0, 0), [(12, 0, 1), (16, 1, 0)]), ((0, 79228162514264337593543950336), [(3, 0, 1), (4, 0, 4294967296), (5, 0, 18446744073709551616), (6, 0, 79228162514264337593543950336), (7, 0, 340282366920938463463374607431768211456), (13, 1, 0)]), ((0, 0), [(1, 1, 0), (17, 0, 1)])] [((0, 0), [(3, 1, 0)]), ((4294967276, 0), [(3, 0, 1)]), ((0, 0), [(4, 1, 0)]), ((4294967276, 0), [(4, 0, 1)]), ((0, 0), [(5, 1, 0)]), ((4294967276, 0), [(5, 0, 1)]), ((0, 0), [(6, 1, 0)]), ((4294967276, 0), [(6, 0, 1)]), ((0, 0), [(7, 1, 0)]), ((4294967276, 0), [(7, 0, 1)]), ((0, 0), [(9, 1, 0)]), ((4294967276, 0), [(9, 0, 1)]), ((0, 0), [(10, 1, 0)]), ((4294967276, 0), [(10, 0, 1)]), ((7999, 0), [(6, 0, 1)]), ((0, 0), [(12, 1, 0)]), ((0, 5), [(18, 1, 0)]), ((8, 0), [(18, 0, 1)])] [(2000173, ((0, 0), [(13, 1, 0)]), ((1, 0), [])), (2000175, ((0, 0), [(8, 1, 0)]), ((1, 0), []))]
theorem zx_E763_ok {PT : Nat → zz_W → Prop} : zx_Vok 64 zHT PT zx_E763 := by
  refine zx_Vc_ok (fun w w' j ins hI hI' h0 hw hK hl he hg => ?_)
  obtain ⟨a0, a1, a2, a3, a4, a5, a6, a7, a8, a9, a10, a11, rfl⟩ := zx_i12 hl
  have e0 : (0 : Int) + (1 * a0 + ((-1) * a1 + ((-4294967296) * a2 + ((-18446744073709551616) * a3 + ((-79228162514264337593543950336) * a4 + ((-340282366920938463463374607431768211456) * a5 + 0)))))) = 0 := he _ List.mem_cons_self
  have e1 : ((-1) : Int) + (1 * (zk_xe w 2000173 a0) + 0) = 0 := he _ (List.mem_cons_of_mem _ List.mem_cons_self)
  have e2 : (0 : Int) + ((-4294967296) * a1 + ((-18446744073709551616) * a5 + (1 * a6 + ((-1) * a7 + ((-79228162514264337593543950336) * a8 + 0))))) = 0 := he _ (List.mem_cons_of_mem _ (List.mem_cons_of_mem _ List.mem_cons_self))
  have e3 : ((-1) : Int) + (1 * (zk_xe w 2000175 a6) + 0) = 0 := he _ (List.mem_cons_of_mem _ (List.mem_cons_of_mem _ (List.mem_cons_of_mem _ List.mem_cons_self)))
  have e4 : (0 : Int) + (1 * j + ((-1) * a9 + 0)) = 0 := he _ (List.mem_cons_of_mem _ (List.mem_cons_of_mem _ (List.mem_cons_of_mem _ (List.mem_cons_of_mem _ List.mem_cons_self))))
  have e5 : (0 : Int) + ((-8000) * a1 + ((-1) * a4 + (1 * a9 + 0))) = 0 := he _ (List.mem_cons_of_mem _ (List.mem_cons_of_mem _ (List.mem_cons_of_mem _ (List.mem_cons_of_mem _ (List.mem_cons_of_mem _ List.mem_cons_self)))))
  have e6 : (0 : Int) + ((-1) * a10 + (1 * (zk_xe w 209 a9) + 0)) = 0 := he _ (List.mem_cons_of_mem _ (List.mem_cons_of_mem _ (List.mem_cons_of_mem _ (List.mem_cons_of_mem _ (List.mem_cons_of_mem _ (List.mem_cons_of_mem _ List.mem_cons_self))))))
  have e7 : ((-79228162514264337593543950336) : Int) + ((-1) * a1 + ((-4294967296) * a2 + ((-18446744073709551616) * a3 + ((-79228162514264337593543950336) * a4 + ((-340282366920938463463374607431768211456) * a5 + (1 * a11 + 0)))))) = 0 := he _ (List.mem_cons_of_mem _ (List.mem_cons_of_mem _ (List.mem_cons_of_mem _ (List.mem_cons_of_mem _ (List.mem_cons_of_mem _ (List.mem_cons_of_mem _ (List.mem_cons_of_mem _ List.mem_cons_self)))))))
  have e8 : (0 : Int) + (1 * (zk_el w' 209 j) + ((-1) * (zk_xe w 220 a10) + 0)) = 0 := he _ (List.mem_cons_of_mem _ (List.mem_cons_of_mem _ (List.mem_cons_of_mem _ (List.mem_cons_of_mem _ (List.mem_cons_of_mem _ (List.mem_cons_of_mem _ (List.mem_cons_of_mem _ (List.mem_cons_of_mem _ List.mem_cons_self))))))))
  have g0 : 0 ≤ (0 : Int) + (1 * a1 + 0) := hg _ List.mem_cons_self
  have g1 : 0 ≤ (4294967276 : Int) + ((-1) * a1 + 0) := hg _ (List.mem_cons_of_mem _ List.mem_cons_self)
  have g2 : 0 ≤ (0 : Int) + (1 * a2 + 0) := hg _ (List.mem_cons_of_mem _ (List.mem_cons_of_mem _ List.mem_cons_self))
  have g3 : 0 ≤ (4294967276 : Int) + ((-1) * a2 + 0) := hg _ (List.mem_cons_of_mem _ (List.mem_cons_of_mem _ (List.mem_cons_of_mem _ List.mem_cons_self)))
  have g4 : 0 ≤ (0 : Int) + (1 * a3 + 0) := hg _ (List.mem_cons_of_mem _ (List.mem_cons_of_mem _ (List.mem_cons_of_mem _ (List.mem_cons_of_mem _ List.mem_cons_self))))
  have g5 : 0 ≤ (4294967276 : Int) + ((-1) * a3 + 0) := hg _ (List.mem_cons_of_mem _ (List.mem_cons_of_mem _ (List.mem_cons_of_mem _ (List.mem_cons_of_mem _ (List.mem_cons_of_mem _ List.mem_cons_self)))))
  have g6 : 0 ≤ (0 : Int) + (1 * a4 + 0) := hg _ (List.mem_cons_of_mem _ (List.mem_cons_of_mem _ (List.mem_cons_of_mem _ (List.mem_cons_of_mem _ (List.mem_cons_of_mem _ (List.mem_cons_of_mem _ List.mem_cons_self))))))
  have g7 : 0 ≤ (4294967276 : Int) + ((-1) * a4 + 0) := hg _ (List.mem_cons_of_mem _ (List.mem_cons_of_mem _ (List.mem_cons_of_mem _ (List.mem_cons_of_mem _ (List.mem_cons_of_mem _ (List.mem_cons_of_mem _ (List.mem_cons_of_mem _ List.mem_cons_self)))))))
  have g8 : 0 ≤ (0 : Int) + (1 * a5 + 0) := hg _ (List.mem_cons_of_mem _ (List.mem_cons_of_mem _ (List.mem_cons_of_mem _ (List.mem_cons_of_mem _ (List.mem_cons_of_mem _ (List.mem_cons_of_mem _ (List.mem_cons_of_mem _ (List.mem_cons_of_mem _ List.mem_cons_self))))))))
  have g9 : 0 ≤ (4294967276 : Int) + ((-1) * a5 + 0) := hg _ (List.mem_cons_of_mem _ (List.mem_cons_of_mem _ (List.mem_cons_of_mem _ (List.mem_cons_of_mem _ (List.mem_cons_of_mem _ (List.mem_cons_of_mem _ (List.mem_cons_of_mem _ (List.mem_cons_of_mem _ (List.mem_cons_of_mem _ List.mem_cons_self)))))))))
  have g10 : 0 ≤ (0 : Int) + (1 * a7 + 0) := hg _ (List.mem_cons_of_mem _ (List.mem_cons_of_mem _ (List.mem_cons_of_mem _ (List.mem_cons_of_mem _ (List.mem_cons_of_mem _ (List.mem_cons_of_mem _ (List.mem_cons_of_mem _ (List.mem_cons_of_mem _ (List.mem_cons_of_mem _ (List.mem_cons_of_mem _ List.mem_cons_self))))))))))
  have g11 : 0 ≤ (4294967276 : Int) + ((-1) * a7 + 0) := hg _ (List.mem_cons_of_mem _ (List.mem_cons_of_mem _ (List.mem_cons_of_mem _ (List.mem_cons_of_mem _ (List.mem_cons_of_mem _ (List.mem_cons_of_mem _ (List.mem_cons_of_mem _ (List.mem_cons_of_mem _ (List.mem_cons_of_mem _ (List.mem_cons_of_mem _ (List.mem_cons_of_mem _ List.mem_cons_self)))))))))))
  have g12 : 0 ≤ (0 : Int) + (1 * a8 + 0) := hg _ (List.mem_cons_of_mem _ (List.mem_cons_of_mem _ (List.mem_cons_of_mem _ (List.mem_cons_of_mem _ (List.mem_cons_of_mem _ (List.mem_cons_of_mem _ (List.mem_cons_of_mem _ (List.mem_cons_of_mem _ (List.mem_cons_of_mem _ (List.mem_cons_of_mem _ (List.mem_cons_of_mem _ (List.mem_cons_of_mem _ List.mem_cons_self))))))))))))
  have g13 : 0 ≤ (4294967276 : Int) + ((-1) * a8 + 0) := hg _ (List.mem_cons_of_mem _ (List.mem_cons_of_mem _ (List.mem_cons_of_mem _ (List.mem_cons_of_mem _ (List.mem_cons_of_mem _ (List.mem_cons_of_mem _ (List.mem_cons_of_mem _ (List.mem_cons_of_mem _ (List.mem_cons_of_mem _ (List.mem_cons_of_mem _ (List.mem_cons_of_mem _ (List.mem_cons_of_mem _ (List.mem_cons_of_mem _ List.mem_cons_self)))))))))))))
  have g14 : 0 ≤ (7999 : Int) + ((-1) * a4 + 0) := hg _ (List.mem_cons_of_mem _ (List.mem_cons_of_mem _ (List.mem_cons_of_mem _ (List.mem_cons_of_mem _ (List.mem_cons_of_mem _ (List.mem_cons_of_mem _ (List.mem_cons_of_mem _ (List.mem_cons_of_mem _ (List.mem_cons_of_mem _ (List.mem_cons_of_mem _ (List.mem_cons_of_mem _ (List.mem_cons_of_mem _ (List.mem_cons_of_mem _ (List.mem_cons_of_mem _ List.mem_cons_self))))))))))))))
  have g15 : 0 ≤ (0 : Int) + (1 * a10 + 0) := hg _ (List.mem_cons_of_mem _ (List.mem_cons_of_mem _ (List.mem_cons_of_mem _ (List.mem_cons_of_mem _ (List.mem_cons_of_mem _ (List.mem_cons_of_mem _ (List.mem_cons_of_mem _ (List.mem_cons_of_mem _ (List.mem_cons_of_mem _ (List.mem_cons_of_mem _ (List.mem_cons_of_mem _ (List.mem_cons_of_mem _ (List.mem_cons_of_mem _ (List.mem_cons_of_mem _ (List.mem_cons_of_mem _ List.mem_cons_self)))))))))))))))
  have g16 : 0 ≤ ((-5) : Int) + (1 * (zk_xe w 208 a9) + 0) := hg _ (List.mem_cons_of_mem _ (List.mem_cons_of_mem _ (List.mem_cons_of_mem _ (List.mem_cons_of_mem _ (List.mem_cons_of_mem _ (List.mem_cons_of_mem _ (List.mem_cons_of_mem _ (List.mem_cons_of_mem _ (List.mem_cons_of_mem _ (List.mem_cons_of_mem _ (List.mem_cons_of_mem _ (List.mem_cons_of_mem _ (List.mem_cons_of_mem _ (List.mem_cons_of_mem _ (List.mem_cons_of_mem _ (List.mem_cons_of_mem _ List.mem_cons_self))))))))))))))))
  have g17 : 0 ≤ (8 : Int) + ((-1) * (zk_xe w 208 a9) + 0) := hg _ (List.mem_cons_of_mem _ (List.mem_cons_of_mem _ (List.mem_cons_of_mem _ (List.mem_cons_of_mem _ (List.mem_cons_of_mem _ (List.mem_cons_of_mem _ (List.mem_cons_of_mem _ (List.mem_cons_of_mem _ (List.mem_cons_of_mem _ (List.mem_cons_of_mem _ (List.mem_cons_of_mem _ (List.mem_cons_of_mem _ (List.mem_cons_of_mem _ (List.mem_cons_of_mem _ (List.mem_cons_of_mem _ (List.mem_cons_of_mem _ (List.mem_cons_of_mem _ List.mem_cons_self)))))))))))))))))
  have hp := (zj_n173 (w := w) (p := a0) (u := a1) (i := a2) (j := a3) (k := a4) (h := a5) (by omega) (by omega) (by omega) (by omega) (by omega) (by omega) (by omega) (by omega) (by omega) (by omega) (by omega) ).mp (by omega)
  have hx := (zj_n175 (w := w) (p := a6) (n := a7) (u := a1) (h := a5) (N := a8) (by omega) (by omega) (by omega) (by omega) (by omega) (by omega) (by omega) (by omega) (by omega) ).mp (by omega)
  have k0 : zh_e w 209 (8000 * a1 + a4) = zk_xe w 209 a9 := by rw [zk_xe_r (i := 209) (by decide)]; show zk_el w 209 (8000 * a1 + a4) = zk_el w 209 a9; rw [show 8000 * a1 + a4 = a9 by omega]
  have k1 : zh_e w' 209 (8000 * a1 + a4) = zk_el w' 209 j := by
    show zk_el w' 209 (8000 * a1 + a4) = _
    rw [show 8000 * a1 + a4 = j by omega]
  have k2 : zh_e w 220 (zk_xe w 209 a9) = zk_xe w 220 a10 := by rw [zk_xe_r (i := 220) (by decide)]; show zk_el w 220 (zk_xe w 209 a9) = zk_el w 220 a10; rw [show zk_xe w 209 a9 = a10 by omega]
  have k3 : zh_e w 208 (8000 * a1 + a4) = zk_xe w 208 a9 := by rw [zk_xe_r (i := 208) (by decide)]; show zk_el w 208 (8000 * a1 + a4) = zk_el w 208 a9; rw [show 8000 * a1 + a4 = a9 by omega]
  have o208 : zh_e w' 208 = zh_e w 208 := zh_e_g (hw.1 208 (by decide))
  have o210 : zh_e w' 210 = zh_e w 210 := zh_e_g (hw.1 210 (by decide))
  have o211 : zh_e w' 211 = zh_e w 211 := zh_e_g (hw.1 211 (by decide))
  have o212 : zh_e w' 212 = zh_e w 212 := zh_e_g (hw.1 212 (by decide))
  have o214 : zh_e w' 214 = zh_e w 214 := zh_e_g (hw.1 214 (by decide))
  have o215 : zh_e w' 215 = zh_e w 215 := zh_e_g (hw.1 215 (by decide))
  have o204 : zh_e w' 204 = zh_e w 204 := zh_e_g (hw.1 204 (by decide))
  have o205 : zh_e w' 205 = zh_e w 205 := zh_e_g (hw.1 205 (by decide))
  have o207 : zh_e w' 207 = zh_e w 207 := zh_e_g (hw.1 207 (by decide))
  have o213 : zh_e w' 213 = zh_e w 213 := zh_e_g (hw.1 213 (by decide))
  have o203 : zh_e w' 203 = zh_e w 203 := zh_e_g (hw.1 203 (by decide))
  have o176 : zh_e w' 176 = zh_e w 176 := zh_e_g (hw.1 176 (by decide))
  have o220 : zh_e w' 220 = zh_e w 220 := zh_e_g (hw.1 220 (by decide))
  have h1 : zk_xe w' 2000173 a11 = 1 := by
    refine (zj_n173 (w := w') (p := a11) (u := a1) (i := a2) (j := a3) (k := (a4 + 1)) (h := a5) (by omega) (by omega) (by omega) (by omega) (by omega) (by omega) (by omega) (by omega) (by omega) (by omega) (by omega) ).mpr (fun q => ?_)
    rw [o176] at q
    have z := hp q
    rw [o208, o210, o211, o212, o214, o215, o204, o205, o207, o213, o203, o220]
    refine zj_rnA (by omega) (Or.inl ⟨?_, ?_, ?_⟩) (fun x x0 x1 x2 => hw.2 _ (by omega) (by omega)) z
    · show zj_nm (zh_e w 208 (8000 * a1 + a4))
      rw [k3]
      unfold zj_nm
      omega
    · show 0 ≤ zh_e w 209 (8000 * a1 + a4)
      rw [k0]
      omega
    · show zh_e w' 209 (8000 * a1 + a4) = zh_e w 220 (zh_e w 209 (8000 * a1 + a4))
      rw [k0, k1, k2]
      omega
  have h2 : zk_xe w' 2000175 a6 = 1 := by
    refine (zj_n175 (w := w') (p := a6) (n := a7) (u := a1) (h := a5) (N := a8) (by omega) (by omega) (by omega) (by omega) (by omega) (by omega) (by omega) (by omega) (by omega) ).mpr (fun v v0 v1 v2 v3 => ?_)
    rw [o176] at v3
    have z := hx v v0 v1 v2 v3
    rw [o208, o210, o211, o212, o214, o215, o204, o205, o207, o213, o203]
    exact zj_nuc (Int.le_refl _) (fun _ _ _ => rfl) (fun x x0 x1 => hw.2 _ (by omega) (by omega)) (fun _ _ _ => rfl) (fun _ _ _ => rfl) (fun _ _ _ => rfl) (fun _ _ _ => rfl) (fun _ _ _ => rfl) (fun _ _ _ => rfl) (fun _ _ _ => rfl) z
  exact (zx_eF1 (by show 0 ≤ (0 : Int) + (1 * a11 + 0); omega) (by show zk_xe w' 2000173 ((0 : Int) + (1 * a11 + 0)) = (1 : Int) + (0); rw [show (0 : Int) + (1 * a11 + 0) = a11 by omega]; exact h1.trans (by omega)) (zx_eF1 (by show 0 ≤ (0 : Int) + (1 * a6 + 0); omega) (by show zk_xe w' 2000175 ((0 : Int) + (1 * a6 + 0)) = (1 : Int) + (0); rw [show (0 : Int) + (1 * a6 + 0) = a6 by omega]; exact h2.trans (by omega)) zx_eF0))
def zx_E764 : zx_V := zx_Vc 209 [] 12 [(2000173, 0), (2000175, 6), (209, 9), (220, 10), (208, 9)] [((0, 0), [(2, 1, 0), (3, 0, 1), (4, 0, 4294967296), (5, 0, 18446744073709551616), (6, 0, 79228162514264337593543950336), (7, 0, 340282366920938463463374607431768211456)]), ((0, 1), [(14, 1, 0)]), ((0, 0), [(3, 0, 4294967296), (7, 0, 18446744073709551616), (8, 1, 0), (9, 0, 1), (10, 0, 79228162514264337593543950336)]), ((0, 1), [(15, 1, 0)]), ((0, 0), [(0, 1, 0), (11, 0, 1)]), ((0, 0), [(3, 0, 8000), (6, 0, 1), (11, 1, 0)]), ((0, 0), [(12, 0, 1), (16, 1, 0)]), ((0, 79228162514264337593543950336), [(3, 0, 1), (4, 0, 4294967296), (5, 0, 18446744073709551616), (6, 0, 79228162514264337593543950336), (7, 0, 340282366920938463463374607431768211456), (13, 1, 0)]), ((0, 0), [(1, 1, 0), (17, 0, 1)])] [((0, 0), [(3, 1, 0)]), ((4294967276, 0), [(3, 0, 1)]), ((0, 0), [(4, 1, 0)]), ((4294967276, 0), [(4, 0, 1)]), ((0, 0), [(5, 1, 0)]), ((4294967276, 0), [(5, 0, 1)]), ((0, 0), [(6, 1, 0)]), ((4294967276, 0), [(6, 0, 1)]), ((0, 0), [(7, 1, 0)]), ((4294967276, 0), [(7, 0, 1)]), ((0, 0), [(9, 1, 0)]), ((4294967276, 0), [(9, 0, 1)]), ((0, 0), [(10, 1, 0)]), ((4294967276, 0), [(10, 0, 1)]), ((7999, 0), [(6, 0, 1)]), ((0, 0), [(12, 1, 0)]), ((0, 11), [(18, 1, 0)]), ((12, 0), [(18, 0, 1)])] [(2000173, ((0, 0), [(13, 1, 0)]), ((1, 0), [])), (2000175, ((0, 0), [(8, 1, 0)]), ((1, 0), []))]
theorem zx_E764_ok {PT : Nat → zz_W → Prop} : zx_Vok 64 zHT PT zx_E764 := by
  refine zx_Vc_ok (fun w w' j ins hI hI' h0 hw hK hl he hg => ?_)
  obtain ⟨a0, a1, a2, a3, a4, a5, a6, a7, a8, a9, a10, a11, rfl⟩ := zx_i12 hl
  have e0 : (0 : Int) + (1 * a0 + ((-1) * a1 + ((-4294967296) * a2 + ((-18446744073709551616) * a3 + ((-79228162514264337593543950336) * a4 + ((-340282366920938463463374607431768211456) * a5 + 0)))))) = 0 := he _ List.mem_cons_self
  have e1 : ((-1) : Int) + (1 * (zk_xe w 2000173 a0) + 0) = 0 := he _ (List.mem_cons_of_mem _ List.mem_cons_self)
  have e2 : (0 : Int) + ((-4294967296) * a1 + ((-18446744073709551616) * a5 + (1 * a6 + ((-1) * a7 + ((-79228162514264337593543950336) * a8 + 0))))) = 0 := he _ (List.mem_cons_of_mem _ (List.mem_cons_of_mem _ List.mem_cons_self))
  have e3 : ((-1) : Int) + (1 * (zk_xe w 2000175 a6) + 0) = 0 := he _ (List.mem_cons_of_mem _ (List.mem_cons_of_mem _ (List.mem_cons_of_mem _ List.mem_cons_self)))
  have e4 : (0 : Int) + (1 * j + ((-1) * a9 + 0)) = 0 := he _ (List.mem_cons_of_mem _ (List.mem_cons_of_mem _ (List.mem_cons_of_mem _ (List.mem_cons_of_mem _ List.mem_cons_self))))
  have e5 : (0 : Int) + ((-8000) * a1 + ((-1) * a4 + (1 * a9 + 0))) = 0 := he _ (List.mem_cons_of_mem _ (List.mem_cons_of_mem _ (List.mem_cons_of_mem _ (List.mem_cons_of_mem _ (List.mem_cons_of_mem _ List.mem_cons_self)))))
  have e6 : (0 : Int) + ((-1) * a10 + (1 * (zk_xe w 209 a9) + 0)) = 0 := he _ (List.mem_cons_of_mem _ (List.mem_cons_of_mem _ (List.mem_cons_of_mem _ (List.mem_cons_of_mem _ (List.mem_cons_of_mem _ (List.mem_cons_of_mem _ List.mem_cons_self))))))
  have e7 : ((-79228162514264337593543950336) : Int) + ((-1) * a1 + ((-4294967296) * a2 + ((-18446744073709551616) * a3 + ((-79228162514264337593543950336) * a4 + ((-340282366920938463463374607431768211456) * a5 + (1 * a11 + 0)))))) = 0 := he _ (List.mem_cons_of_mem _ (List.mem_cons_of_mem _ (List.mem_cons_of_mem _ (List.mem_cons_of_mem _ (List.mem_cons_of_mem _ (List.mem_cons_of_mem _ (List.mem_cons_of_mem _ List.mem_cons_self)))))))
  have e8 : (0 : Int) + (1 * (zk_el w' 209 j) + ((-1) * (zk_xe w 220 a10) + 0)) = 0 := he _ (List.mem_cons_of_mem _ (List.mem_cons_of_mem _ (List.mem_cons_of_mem _ (List.mem_cons_of_mem _ (List.mem_cons_of_mem _ (List.mem_cons_of_mem _ (List.mem_cons_of_mem _ (List.mem_cons_of_mem _ List.mem_cons_self))))))))
  have g0 : 0 ≤ (0 : Int) + (1 * a1 + 0) := hg _ List.mem_cons_self
  have g1 : 0 ≤ (4294967276 : Int) + ((-1) * a1 + 0) := hg _ (List.mem_cons_of_mem _ List.mem_cons_self)
  have g2 : 0 ≤ (0 : Int) + (1 * a2 + 0) := hg _ (List.mem_cons_of_mem _ (List.mem_cons_of_mem _ List.mem_cons_self))
  have g3 : 0 ≤ (4294967276 : Int) + ((-1) * a2 + 0) := hg _ (List.mem_cons_of_mem _ (List.mem_cons_of_mem _ (List.mem_cons_of_mem _ List.mem_cons_self)))
  have g4 : 0 ≤ (0 : Int) + (1 * a3 + 0) := hg _ (List.mem_cons_of_mem _ (List.mem_cons_of_mem _ (List.mem_cons_of_mem _ (List.mem_cons_of_mem _ List.mem_cons_self))))
  have g5 : 0 ≤ (4294967276 : Int) + ((-1) * a3 + 0) := hg _ (List.mem_cons_of_mem _ (List.mem_cons_of_mem _ (List.mem_cons_of_mem _ (List.mem_cons_of_mem _ (List.mem_cons_of_mem _ List.mem_cons_self)))))
  have g6 : 0 ≤ (0 : Int) + (1 * a4 + 0) := hg _ (List.mem_cons_of_mem _ (List.mem_cons_of_mem _ (List.mem_cons_of_mem _ (List.mem_cons_of_mem _ (List.mem_cons_of_mem _ (List.mem_cons_of_mem _ List.mem_cons_self))))))
  have g7 : 0 ≤ (4294967276 : Int) + ((-1) * a4 + 0) := hg _ (List.mem_cons_of_mem _ (List.mem_cons_of_mem _ (List.mem_cons_of_mem _ (List.mem_cons_of_mem _ (List.mem_cons_of_mem _ (List.mem_cons_of_mem _ (List.mem_cons_of_mem _ List.mem_cons_self)))))))
  have g8 : 0 ≤ (0 : Int) + (1 * a5 + 0) := hg _ (List.mem_cons_of_mem _ (List.mem_cons_of_mem _ (List.mem_cons_of_mem _ (List.mem_cons_of_mem _ (List.mem_cons_of_mem _ (List.mem_cons_of_mem _ (List.mem_cons_of_mem _ (List.mem_cons_of_mem _ List.mem_cons_self))))))))
  have g9 : 0 ≤ (4294967276 : Int) + ((-1) * a5 + 0) := hg _ (List.mem_cons_of_mem _ (List.mem_cons_of_mem _ (List.mem_cons_of_mem _ (List.mem_cons_of_mem _ (List.mem_cons_of_mem _ (List.mem_cons_of_mem _ (List.mem_cons_of_mem _ (List.mem_cons_of_mem _ (List.mem_cons_of_mem _ List.mem_cons_self)))))))))
  have g10 : 0 ≤ (0 : Int) + (1 * a7 + 0) := hg _ (List.mem_cons_of_mem _ (List.mem_cons_of_mem _ (List.mem_cons_of_mem _ (List.mem_cons_of_mem _ (List.mem_cons_of_mem _ (List.mem_cons_of_mem _ (List.mem_cons_of_mem _ (List.mem_cons_of_mem _ (List.mem_cons_of_mem _ (List.mem_cons_of_mem _ List.mem_cons_self))))))))))
  have g11 : 0 ≤ (4294967276 : Int) + ((-1) * a7 + 0) := hg _ (List.mem_cons_of_mem _ (List.mem_cons_of_mem _ (List.mem_cons_of_mem _ (List.mem_cons_of_mem _ (List.mem_cons_of_mem _ (List.mem_cons_of_mem _ (List.mem_cons_of_mem _ (List.mem_cons_of_mem _ (List.mem_cons_of_mem _ (List.mem_cons_of_mem _ (List.mem_cons_of_mem _ List.mem_cons_self)))))))))))
  have g12 : 0 ≤ (0 : Int) + (1 * a8 + 0) := hg _ (List.mem_cons_of_mem _ (List.mem_cons_of_mem _ (List.mem_cons_of_mem _ (List.mem_cons_of_mem _ (List.mem_cons_of_mem _ (List.mem_cons_of_mem _ (List.mem_cons_of_mem _ (List.mem_cons_of_mem _ (List.mem_cons_of_mem _ (List.mem_cons_of_mem _ (List.mem_cons_of_mem _ (List.mem_cons_of_mem _ List.mem_cons_self))))))))))))
  have g13 : 0 ≤ (4294967276 : Int) + ((-1) * a8 + 0) := hg _ (List.mem_cons_of_mem _ (List.mem_cons_of_mem _ (List.mem_cons_of_mem _ (List.mem_cons_of_mem _ (List.mem_cons_of_mem _ (List.mem_cons_of_mem _ (List.mem_cons_of_mem _ (List.mem_cons_of_mem _ (List.mem_cons_of_mem _ (List.mem_cons_of_mem _ (List.mem_cons_of_mem _ (List.mem_cons_of_mem _ (List.mem_cons_of_mem _ List.mem_cons_self)))))))))))))
  have g14 : 0 ≤ (7999 : Int) + ((-1) * a4 + 0) := hg _ (List.mem_cons_of_mem _ (List.mem_cons_of_mem _ (List.mem_cons_of_mem _ (List.mem_cons_of_mem _ (List.mem_cons_of_mem _ (List.mem_cons_of_mem _ (List.mem_cons_of_mem _ (List.mem_cons_of_mem _ (List.mem_cons_of_mem _ (List.mem_cons_of_mem _ (List.mem_cons_of_mem _ (List.mem_cons_of_mem _ (List.mem_cons_of_mem _ (List.mem_cons_of_mem _ List.mem_cons_self))))))))))))))
  have g15 : 0 ≤ (0 : Int) + (1 * a10 + 0) := hg _ (List.mem_cons_of_mem _ (List.mem_cons_of_mem _ (List.mem_cons_of_mem _ (List.mem_cons_of_mem _ (List.mem_cons_of_mem _ (List.mem_cons_of_mem _ (List.mem_cons_of_mem _ (List.mem_cons_of_mem _ (List.mem_cons_of_mem _ (List.mem_cons_of_mem _ (List.mem_cons_of_mem _ (List.mem_cons_of_mem _ (List.mem_cons_of_mem _ (List.mem_cons_of_mem _ (List.mem_cons_of_mem _ List.mem_cons_self)))))))))))))))
  have g16 : 0 ≤ ((-11) : Int) + (1 * (zk_xe w 208 a9) + 0) := hg _ (List.mem_cons_of_mem _ (List.mem_cons_of_mem _ (List.mem_cons_of_mem _ (List.mem_cons_of_mem _ (List.mem_cons_of_mem _ (List.mem_cons_of_mem _ (List.mem_cons_of_mem _ (List.mem_cons_of_mem _ (List.mem_cons_of_mem _ (List.mem_cons_of_mem _ (List.mem_cons_of_mem _ (List.mem_cons_of_mem _ (List.mem_cons_of_mem _ (List.mem_cons_of_mem _ (List.mem_cons_of_mem _ (List.mem_cons_of_mem _ List.mem_cons_self))))))))))))))))
  have g17 : 0 ≤ (12 : Int) + ((-1) * (zk_xe w 208 a9) + 0) := hg _ (List.mem_cons_of_mem _ (List.mem_cons_of_mem _ (List.mem_cons_of_mem _ (List.mem_cons_of_mem _ (List.mem_cons_of_mem _ (List.mem_cons_of_mem _ (List.mem_cons_of_mem _ (List.mem_cons_of_mem _ (List.mem_cons_of_mem _ (List.mem_cons_of_mem _ (List.mem_cons_of_mem _ (List.mem_cons_of_mem _ (List.mem_cons_of_mem _ (List.mem_cons_of_mem _ (List.mem_cons_of_mem _ (List.mem_cons_of_mem _ (List.mem_cons_of_mem _ List.mem_cons_self)))))))))))))))))
  have hp := (zj_n173 (w := w) (p := a0) (u := a1) (i := a2) (j := a3) (k := a4) (h := a5) (by omega) (by omega) (by omega) (by omega) (by omega) (by omega) (by omega) (by omega) (by omega) (by omega) (by omega) ).mp (by omega)
  have hx := (zj_n175 (w := w) (p := a6) (n := a7) (u := a1) (h := a5) (N := a8) (by omega) (by omega) (by omega) (by omega) (by omega) (by omega) (by omega) (by omega) (by omega) ).mp (by omega)
  have k0 : zh_e w 209 (8000 * a1 + a4) = zk_xe w 209 a9 := by rw [zk_xe_r (i := 209) (by decide)]; show zk_el w 209 (8000 * a1 + a4) = zk_el w 209 a9; rw [show 8000 * a1 + a4 = a9 by omega]
  have k1 : zh_e w' 209 (8000 * a1 + a4) = zk_el w' 209 j := by
    show zk_el w' 209 (8000 * a1 + a4) = _
    rw [show 8000 * a1 + a4 = j by omega]
  have k2 : zh_e w 220 (zk_xe w 209 a9) = zk_xe w 220 a10 := by rw [zk_xe_r (i := 220) (by decide)]; show zk_el w 220 (zk_xe w 209 a9) = zk_el w 220 a10; rw [show zk_xe w 209 a9 = a10 by omega]
  have k3 : zh_e w 208 (8000 * a1 + a4) = zk_xe w 208 a9 := by rw [zk_xe_r (i := 208) (by decide)]; show zk_el w 208 (8000 * a1 + a4) = zk_el w 208 a9; rw [show 8000 * a1 + a4 = a9 by omega]
  have o208 : zh_e w' 208 = zh_e w 208 := zh_e_g (hw.1 208 (by decide))
  have o210 : zh_e w' 210 = zh_e w 210 := zh_e_g (hw.1 210 (by decide))
  have o211 : zh_e w' 211 = zh_e w 211 := zh_e_g (hw.1 211 (by decide))
  have o212 : zh_e w' 212 = zh_e w 212 := zh_e_g (hw.1 212 (by decide))
  have o214 : zh_e w' 214 = zh_e w 214 := zh_e_g (hw.1 214 (by decide))
  have o215 : zh_e w' 215 = zh_e w 215 := zh_e_g (hw.1 215 (by decide))
  have o204 : zh_e w' 204 = zh_e w 204 := zh_e_g (hw.1 204 (by decide))
  have o205 : zh_e w' 205 = zh_e w 205 := zh_e_g (hw.1 205 (by decide))
  have o207 : zh_e w' 207 = zh_e w 207 := zh_e_g (hw.1 207 (by decide))
  have o213 : zh_e w' 213 = zh_e w 213 := zh_e_g (hw.1 213 (by decide))
  have o203 : zh_e w' 203 = zh_e w 203 := zh_e_g (hw.1 203 (by decide))
  have o176 : zh_e w' 176 = zh_e w 176 := zh_e_g (hw.1 176 (by decide))
  have o220 : zh_e w' 220 = zh_e w 220 := zh_e_g (hw.1 220 (by decide))
  have h1 : zk_xe w' 2000173 a11 = 1 := by
    refine (zj_n173 (w := w') (p := a11) (u := a1) (i := a2) (j := a3) (k := (a4 + 1)) (h := a5) (by omega) (by omega) (by omega) (by omega) (by omega) (by omega) (by omega) (by omega) (by omega) (by omega) (by omega) ).mpr (fun q => ?_)
    rw [o176] at q
    have z := hp q
    rw [o208, o210, o211, o212, o214, o215, o204, o205, o207, o213, o203, o220]
    refine zj_rnA (by omega) (Or.inl ⟨?_, ?_, ?_⟩) (fun x x0 x1 x2 => hw.2 _ (by omega) (by omega)) z
    · show zj_nm (zh_e w 208 (8000 * a1 + a4))
      rw [k3]
      unfold zj_nm
      omega
    · show 0 ≤ zh_e w 209 (8000 * a1 + a4)
      rw [k0]
      omega
    · show zh_e w' 209 (8000 * a1 + a4) = zh_e w 220 (zh_e w 209 (8000 * a1 + a4))
      rw [k0, k1, k2]
      omega
  have h2 : zk_xe w' 2000175 a6 = 1 := by
    refine (zj_n175 (w := w') (p := a6) (n := a7) (u := a1) (h := a5) (N := a8) (by omega) (by omega) (by omega) (by omega) (by omega) (by omega) (by omega) (by omega) (by omega) ).mpr (fun v v0 v1 v2 v3 => ?_)
    rw [o176] at v3
    have z := hx v v0 v1 v2 v3
    rw [o208, o210, o211, o212, o214, o215, o204, o205, o207, o213, o203]
    exact zj_nuc (Int.le_refl _) (fun _ _ _ => rfl) (fun x x0 x1 => hw.2 _ (by omega) (by omega)) (fun _ _ _ => rfl) (fun _ _ _ => rfl) (fun _ _ _ => rfl) (fun _ _ _ => rfl) (fun _ _ _ => rfl) (fun _ _ _ => rfl) (fun _ _ _ => rfl) z
  exact (zx_eF1 (by show 0 ≤ (0 : Int) + (1 * a11 + 0); omega) (by show zk_xe w' 2000173 ((0 : Int) + (1 * a11 + 0)) = (1 : Int) + (0); rw [show (0 : Int) + (1 * a11 + 0) = a11 by omega]; exact h1.trans (by omega)) (zx_eF1 (by show 0 ≤ (0 : Int) + (1 * a6 + 0); omega) (by show zk_xe w' 2000175 ((0 : Int) + (1 * a6 + 0)) = (1 : Int) + (0); rw [show (0 : Int) + (1 * a6 + 0) = a6 by omega]; exact h2.trans (by omega)) zx_eF0))
def zx_E765 : zx_V := zx_Vc 209 [] 12 [(2000173, 0), (2000175, 6), (209, 9), (208, 9)] [((0, 0), [(2, 1, 0), (3, 0, 1), (4, 0, 4294967296), (5, 0, 18446744073709551616), (6, 0, 79228162514264337593543950336), (7, 0, 340282366920938463463374607431768211456)]), ((0, 1), [(14, 1, 0)]), ((0, 0), [(3, 0, 4294967296), (7, 0, 18446744073709551616), (8, 1, 0), (9, 0, 1), (10, 0, 79228162514264337593543950336)]), ((0, 1), [(15, 1, 0)]), ((0, 0), [(0, 1, 0), (11, 0, 1)]), ((0, 0), [(3, 0, 8000), (6, 0, 1), (11, 1, 0)]), ((0, 0), [(12, 0, 1), (16, 1, 0)]), ((0, 79228162514264337593543950336), [(3, 0, 1), (4, 0, 4294967296), (5, 0, 18446744073709551616), (6, 0, 79228162514264337593543950336), (7, 0, 340282366920938463463374607431768211456), (13, 1, 0)]), ((0, 0), [(1, 1, 0), (12, 0, 1)])] [((0, 0), [(3, 1, 0)]), ((4294967276, 0), [(3, 0, 1)]), ((0, 0), [(4, 1, 0)]), ((4294967276, 0), [(4, 0, 1)]), ((0, 0), [(5, 1, 0)]), ((4294967276, 0), [(5, 0, 1)]), ((0, 0), [(6, 1, 0)]), ((4294967276, 0), [(6, 0, 1)]), ((0, 0), [(7, 1, 0)]), ((4294967276, 0), [(7, 0, 1)]), ((0, 0), [(9, 1, 0)]), ((4294967276, 0), [(9, 0, 1)]), ((0, 0), [(10, 1, 0)]), ((4294967276, 0), [(10, 0, 1)]), ((7999, 0), [(6, 0, 1)]), ((4, 0), [(17, 0, 1)])] [(2000173, ((0, 0), [(13, 1, 0)]), ((1, 0), [])), (2000175, ((0, 0), [(8, 1, 0)]), ((1, 0), []))]
theorem zx_E765_ok {PT : Nat → zz_W → Prop} : zx_Vok 64 zHT PT zx_E765 := by
  refine zx_Vc_ok (fun w w' j ins hI hI' h0 hw hK hl he hg => ?_)
  obtain ⟨a0, a1, a2, a3, a4, a5, a6, a7, a8, a9, a10, a11, rfl⟩ := zx_i12 hl
  have e0 : (0 : Int) + (1 * a0 + ((-1) * a1 + ((-4294967296) * a2 + ((-18446744073709551616) * a3 + ((-79228162514264337593543950336) * a4 + ((-340282366920938463463374607431768211456) * a5 + 0)))))) = 0 := he _ List.mem_cons_self
  have e1 : ((-1) : Int) + (1 * (zk_xe w 2000173 a0) + 0) = 0 := he _ (List.mem_cons_of_mem _ List.mem_cons_self)
  have e2 : (0 : Int) + ((-4294967296) * a1 + ((-18446744073709551616) * a5 + (1 * a6 + ((-1) * a7 + ((-79228162514264337593543950336) * a8 + 0))))) = 0 := he _ (List.mem_cons_of_mem _ (List.mem_cons_of_mem _ List.mem_cons_self))
  have e3 : ((-1) : Int) + (1 * (zk_xe w 2000175 a6) + 0) = 0 := he _ (List.mem_cons_of_mem _ (List.mem_cons_of_mem _ (List.mem_cons_of_mem _ List.mem_cons_self)))
  have e4 : (0 : Int) + (1 * j + ((-1) * a9 + 0)) = 0 := he _ (List.mem_cons_of_mem _ (List.mem_cons_of_mem _ (List.mem_cons_of_mem _ (List.mem_cons_of_mem _ List.mem_cons_self))))
  have e5 : (0 : Int) + ((-8000) * a1 + ((-1) * a4 + (1 * a9 + 0))) = 0 := he _ (List.mem_cons_of_mem _ (List.mem_cons_of_mem _ (List.mem_cons_of_mem _ (List.mem_cons_of_mem _ (List.mem_cons_of_mem _ List.mem_cons_self)))))
  have e6 : (0 : Int) + ((-1) * a10 + (1 * (zk_xe w 209 a9) + 0)) = 0 := he _ (List.mem_cons_of_mem _ (List.mem_cons_of_mem _ (List.mem_cons_of_mem _ (List.mem_cons_of_mem _ (List.mem_cons_of_mem _ (List.mem_cons_of_mem _ List.mem_cons_self))))))
  have e7 : ((-79228162514264337593543950336) : Int) + ((-1) * a1 + ((-4294967296) * a2 + ((-18446744073709551616) * a3 + ((-79228162514264337593543950336) * a4 + ((-340282366920938463463374607431768211456) * a5 + (1 * a11 + 0)))))) = 0 := he _ (List.mem_cons_of_mem _ (List.mem_cons_of_mem _ (List.mem_cons_of_mem _ (List.mem_cons_of_mem _ (List.mem_cons_of_mem _ (List.mem_cons_of_mem _ (List.mem_cons_of_mem _ List.mem_cons_self)))))))
  have e8 : (0 : Int) + (1 * (zk_el w' 209 j) + ((-1) * a10 + 0)) = 0 := he _ (List.mem_cons_of_mem _ (List.mem_cons_of_mem _ (List.mem_cons_of_mem _ (List.mem_cons_of_mem _ (List.mem_cons_of_mem _ (List.mem_cons_of_mem _ (List.mem_cons_of_mem _ (List.mem_cons_of_mem _ List.mem_cons_self))))))))
  have g0 : 0 ≤ (0 : Int) + (1 * a1 + 0) := hg _ List.mem_cons_self
  have g1 : 0 ≤ (4294967276 : Int) + ((-1) * a1 + 0) := hg _ (List.mem_cons_of_mem _ List.mem_cons_self)
  have g2 : 0 ≤ (0 : Int) + (1 * a2 + 0) := hg _ (List.mem_cons_of_mem _ (List.mem_cons_of_mem _ List.mem_cons_self))
  have g3 : 0 ≤ (4294967276 : Int) + ((-1) * a2 + 0) := hg _ (List.mem_cons_of_mem _ (List.mem_cons_of_mem _ (List.mem_cons_of_mem _ List.mem_cons_self)))
  have g4 : 0 ≤ (0 : Int) + (1 * a3 + 0) := hg _ (List.mem_cons_of_mem _ (List.mem_cons_of_mem _ (List.mem_cons_of_mem _ (List.mem_cons_of_mem _ List.mem_cons_self))))
  have g5 : 0 ≤ (4294967276 : Int) + ((-1) * a3 + 0) := hg _ (List.mem_cons_of_mem _ (List.mem_cons_of_mem _ (List.mem_cons_of_mem _ (List.mem_cons_of_mem _ (List.mem_cons_of_mem _ List.mem_cons_self)))))
  have g6 : 0 ≤ (0 : Int) + (1 * a4 + 0) := hg _ (List.mem_cons_of_mem _ (List.mem_cons_of_mem _ (List.mem_cons_of_mem _ (List.mem_cons_of_mem _ (List.mem_cons_of_mem _ (List.mem_cons_of_mem _ List.mem_cons_self))))))
  have g7 : 0 ≤ (4294967276 : Int) + ((-1) * a4 + 0) := hg _ (List.mem_cons_of_mem _ (List.mem_cons_of_mem _ (List.mem_cons_of_mem _ (List.mem_cons_of_mem _ (List.mem_cons_of_mem _ (List.mem_cons_of_mem _ (List.mem_cons_of_mem _ List.mem_cons_self)))))))
  have g8 : 0 ≤ (0 : Int) + (1 * a5 + 0) := hg _ (List.mem_cons_of_mem _ (List.mem_cons_of_mem _ (List.mem_cons_of_mem _ (List.mem_cons_of_mem _ (List.mem_cons_of_mem _ (List.mem_cons_of_mem _ (List.mem_cons_of_mem _ (List.mem_cons_of_mem _ List.mem_cons_self))))))))
  have g9 : 0 ≤ (4294967276 : Int) + ((-1) * a5 + 0) := hg _ (List.mem_cons_of_mem _ (List.mem_cons_of_mem _ (List.mem_cons_of_mem _ (List.mem_cons_of_mem _ (List.mem_cons_of_mem _ (List.mem_cons_of_mem _ (List.mem_cons_of_mem _ (List.mem_cons_of_mem _ (List.mem_cons_of_mem _ List.mem_cons_self)))))))))
  have g10 : 0 ≤ (0 : Int) + (1 * a7 + 0) := hg _ (List.mem_cons_of_mem _ (List.mem_cons_of_mem _ (List.mem_cons_of_mem _ (List.mem_cons_of_mem _ (List.mem_cons_of_mem _ (List.mem_cons_of_mem _ (List.mem_cons_of_mem _ (List.mem_cons_of_mem _ (List.mem_cons_of_mem _ (List.mem_cons_of_mem _ List.mem_cons_self))))))))))
  have g11 : 0 ≤ (4294967276 : Int) + ((-1) * a7 + 0) := hg _ (List.mem_cons_of_mem _ (List.mem_cons_of_mem _ (List.mem_cons_of_mem _ (List.mem_cons_of_mem _ (List.mem_cons_of_mem _ (List.mem_cons_of_mem _ (List.mem_cons_of_mem _ (List.mem_cons_of_mem _ (List.mem_cons_of_mem _ (List.mem_cons_of_mem _ (List.mem_cons_of_mem _ List.mem_cons_self)))))))))))
  have g12 : 0 ≤ (0 : Int) + (1 * a8 + 0) := hg _ (List.mem_cons_of_mem _ (List.mem_cons_of_mem _ (List.mem_cons_of_mem _ (List.mem_cons_of_mem _ (List.mem_cons_of_mem _ (List.mem_cons_of_mem _ (List.mem_cons_of_mem _ (List.mem_cons_of_mem _ (List.mem_cons_of_mem _ (List.mem_cons_of_mem _ (List.mem_cons_of_mem _ (List.mem_cons_of_mem _ List.mem_cons_self))))))))))))
  have g13 : 0 ≤ (4294967276 : Int) + ((-1) * a8 + 0) := hg _ (List.mem_cons_of_mem _ (List.mem_cons_of_mem _ (List.mem_cons_of_mem _ (List.mem_cons_of_mem _ (List.mem_cons_of_mem _ (List.mem_cons_of_mem _ (List.mem_cons_of_mem _ (List.mem_cons_of_mem _ (List.mem_cons_of_mem _ (List.mem_cons_of_mem _ (List.mem_cons_of_mem _ (List.mem_cons_of_mem _ (List.mem_cons_of_mem _ List.mem_cons_self)))))))))))))
  have g14 : 0 ≤ (7999 : Int) + ((-1) * a4 + 0) := hg _ (List.mem_cons_of_mem _ (List.mem_cons_of_mem _ (List.mem_cons_of_mem _ (List.mem_cons_of_mem _ (List.mem_cons_of_mem _ (List.mem_cons_of_mem _ (List.mem_cons_of_mem _ (List.mem_cons_of_mem _ (List.mem_cons_of_mem _ (List.mem_cons_of_mem _ (List.mem_cons_of_mem _ (List.mem_cons_of_mem _ (List.mem_cons_of_mem _ (List.mem_cons_of_mem _ List.mem_cons_self))))))))))))))
  have g15 : 0 ≤ (4 : Int) + ((-1) * (zk_xe w 208 a9) + 0) := hg _ (List.mem_cons_of_mem _ (List.mem_cons_of_mem _ (List.mem_cons_of_mem _ (List.mem_cons_of_mem _ (List.mem_cons_of_mem _ (List.mem_cons_of_mem _ (List.mem_cons_of_mem _ (List.mem_cons_of_mem _ (List.mem_cons_of_mem _ (List.mem_cons_of_mem _ (List.mem_cons_of_mem _ (List.mem_cons_of_mem _ (List.mem_cons_of_mem _ (List.mem_cons_of_mem _ (List.mem_cons_of_mem _ List.mem_cons_self)))))))))))))))
  have hp := (zj_n173 (w := w) (p := a0) (u := a1) (i := a2) (j := a3) (k := a4) (h := a5) (by omega) (by omega) (by omega) (by omega) (by omega) (by omega) (by omega) (by omega) (by omega) (by omega) (by omega) ).mp (by omega)
  have hx := (zj_n175 (w := w) (p := a6) (n := a7) (u := a1) (h := a5) (N := a8) (by omega) (by omega) (by omega) (by omega) (by omega) (by omega) (by omega) (by omega) (by omega) ).mp (by omega)
  have k0 : zh_e w 209 (8000 * a1 + a4) = zk_xe w 209 a9 := by rw [zk_xe_r (i := 209) (by decide)]; show zk_el w 209 (8000 * a1 + a4) = zk_el w 209 a9; rw [show 8000 * a1 + a4 = a9 by omega]
  have k1 : zh_e w' 209 (8000 * a1 + a4) = zk_el w' 209 j := by
    show zk_el w' 209 (8000 * a1 + a4) = _
    rw [show 8000 * a1 + a4 = j by omega]
  have k3 : zh_e w 208 (8000 * a1 + a4) = zk_xe w 208 a9 := by rw [zk_xe_r (i := 208) (by decide)]; show zk_el w 208 (8000 * a1 + a4) = zk_el w 208 a9; rw [show 8000 * a1 + a4 = a9 by omega]
  have o208 : zh_e w' 208 = zh_e w 208 := zh_e_g (hw.1 208 (by decide))
  have o210 : zh_e w' 210 = zh_e w 210 := zh_e_g (hw.1 210 (by decide))
  have o211 : zh_e w' 211 = zh_e w 211 := zh_e_g (hw.1 211 (by decide))
  have o212 : zh_e w' 212 = zh_e w 212 := zh_e_g (hw.1 212 (by decide))
  have o214 : zh_e w' 214 = zh_e w 214 := zh_e_g (hw.1 214 (by decide))
  have o215 : zh_e w' 215 = zh_e w 215 := zh_e_g (hw.1 215 (by decide))
  have o204 : zh_e w' 204 = zh_e w 204 := zh_e_g (hw.1 204 (by decide))
  have o205 : zh_e w' 205 = zh_e w 205 := zh_e_g (hw.1 205 (by decide))
  have o207 : zh_e w' 207 = zh_e w 207 := zh_e_g (hw.1 207 (by decide))
  have o213 : zh_e w' 213 = zh_e w 213 := zh_e_g (hw.1 213 (by decide))
  have o203 : zh_e w' 203 = zh_e w 203 := zh_e_g (hw.1 203 (by decide))
  have o176 : zh_e w' 176 = zh_e w 176 := zh_e_g (hw.1 176 (by decide))
  have o220 : zh_e w' 220 = zh_e w 220 := zh_e_g (hw.1 220 (by decide))
  have h1 : zk_xe w' 2000173 a11 = 1 := by
    refine (zj_n173 (w := w') (p := a11) (u := a1) (i := a2) (j := a3) (k := (a4 + 1)) (h := a5) (by omega) (by omega) (by omega) (by omega) (by omega) (by omega) (by omega) (by omega) (by omega) (by omega) (by omega) ).mpr (fun q => ?_)
    rw [o176] at q
    have z := hp q
    rw [o208, o210, o211, o212, o214, o215, o204, o205, o207, o213, o203, o220]
    refine zj_rnA (by omega) (Or.inr ⟨?_, ?_⟩) (fun x x0 x1 x2 => hw.2 _ (by omega) (by omega)) z
    · show ¬ zj_nm (zh_e w 208 (8000 * a1 + a4))
      rw [k3]
      unfold zj_nm
      omega
    · show zh_e w' 209 (8000 * a1 + a4) = zh_e w 209 (8000 * a1 + a4)
      rw [k0, k1]
      omega
  have h2 : zk_xe w' 2000175 a6 = 1 := by
    refine (zj_n175 (w := w') (p := a6) (n := a7) (u := a1) (h := a5) (N := a8) (by omega) (by omega) (by omega) (by omega) (by omega) (by omega) (by omega) (by omega) (by omega) ).mpr (fun v v0 v1 v2 v3 => ?_)
    rw [o176] at v3
    have z := hx v v0 v1 v2 v3
    rw [o208, o210, o211, o212, o214, o215, o204, o205, o207, o213, o203]
    exact zj_nuc (Int.le_refl _) (fun _ _ _ => rfl) (fun x x0 x1 => hw.2 _ (by omega) (by omega)) (fun _ _ _ => rfl) (fun _ _ _ => rfl) (fun _ _ _ => rfl) (fun _ _ _ => rfl) (fun _ _ _ => rfl) (fun _ _ _ => rfl) (fun _ _ _ => rfl) z
  exact (zx_eF1 (by show 0 ≤ (0 : Int) + (1 * a11 + 0); omega) (by show zk_xe w' 2000173 ((0 : Int) + (1 * a11 + 0)) = (1 : Int) + (0); rw [show (0 : Int) + (1 * a11 + 0) = a11 by omega]; exact h1.trans (by omega)) (zx_eF1 (by show 0 ≤ (0 : Int) + (1 * a6 + 0); omega) (by show zk_xe w' 2000175 ((0 : Int) + (1 * a6 + 0)) = (1 : Int) + (0); rw [show (0 : Int) + (1 * a6 + 0) = a6 by omega]; exact h2.trans (by omega)) zx_eF0))
def zx_E766 : zx_V := zx_Vc 209 [] 12 [(2000173, 0), (2000175, 6), (209, 9), (208, 9)] [((0, 0), [(2, 1, 0), (3, 0, 1), (4, 0, 4294967296), (5, 0, 18446744073709551616), (6, 0, 79228162514264337593543950336), (7, 0, 340282366920938463463374607431768211456)]), ((0, 1), [(14, 1, 0)]), ((0, 0), [(3, 0, 4294967296), (7, 0, 18446744073709551616), (8, 1, 0), (9, 0, 1), (10, 0, 79228162514264337593543950336)]), ((0, 1), [(15, 1, 0)]), ((0, 0), [(0, 1, 0), (11, 0, 1)]), ((0, 0), [(3, 0, 8000), (6, 0, 1), (11, 1, 0)]), ((0, 0), [(12, 0, 1), (16, 1, 0)]), ((0, 79228162514264337593543950336), [(3, 0, 1), (4, 0, 4294967296), (5, 0, 18446744073709551616), (6, 0, 79228162514264337593543950336), (7, 0, 340282366920938463463374607431768211456), (13, 1, 0)]), ((0, 0), [(1, 1, 0), (12, 0, 1)])] [((0, 0), [(3, 1, 0)]), ((4294967276, 0), [(3, 0, 1)]), ((0, 0), [(4, 1, 0)]), ((4294967276, 0), [(4, 0, 1)]), ((0, 0), [(5, 1, 0)]), ((4294967276, 0), [(5, 0, 1)]), ((0, 0), [(6, 1, 0)]), ((4294967276, 0), [(6, 0, 1)]), ((0, 0), [(7, 1, 0)]), ((4294967276, 0), [(7, 0, 1)]), ((0, 0), [(9, 1, 0)]), ((4294967276, 0), [(9, 0, 1)]), ((0, 0), [(10, 1, 0)]), ((4294967276, 0), [(10, 0, 1)]), ((7999, 0), [(6, 0, 1)]), ((0, 9), [(17, 1, 0)]), ((10, 0), [(17, 0, 1)])] [(2000173, ((0, 0), [(13, 1, 0)]), ((1, 0), [])), (2000175, ((0, 0), [(8, 1, 0)]), ((1, 0), []))]
theorem zx_E766_ok {PT : Nat → zz_W → Prop} : zx_Vok 64 zHT PT zx_E766 := by
  refine zx_Vc_ok (fun w w' j ins hI hI' h0 hw hK hl he hg => ?_)
  obtain ⟨a0, a1, a2, a3, a4, a5, a6, a7, a8, a9, a10, a11, rfl⟩ := zx_i12 hl
  have e0 : (0 : Int) + (1 * a0 + ((-1) * a1 + ((-4294967296) * a2 + ((-18446744073709551616) * a3 + ((-79228162514264337593543950336) * a4 + ((-340282366920938463463374607431768211456) * a5 + 0)))))) = 0 := he _ List.mem_cons_self
  have e1 : ((-1) : Int) + (1 * (zk_xe w 2000173 a0) + 0) = 0 := he _ (List.mem_cons_of_mem _ List.mem_cons_self)
  have e2 : (0 : Int) + ((-4294967296) * a1 + ((-18446744073709551616) * a5 + (1 * a6 + ((-1) * a7 + ((-79228162514264337593543950336) * a8 + 0))))) = 0 := he _ (List.mem_cons_of_mem _ (List.mem_cons_of_mem _ List.mem_cons_self))
  have e3 : ((-1) : Int) + (1 * (zk_xe w 2000175 a6) + 0) = 0 := he _ (List.mem_cons_of_mem _ (List.mem_cons_of_mem _ (List.mem_cons_of_mem _ List.mem_cons_self)))
  have e4 : (0 : Int) + (1 * j + ((-1) * a9 + 0)) = 0 := he _ (List.mem_cons_of_mem _ (List.mem_cons_of_mem _ (List.mem_cons_of_mem _ (List.mem_cons_of_mem _ List.mem_cons_self))))
  have e5 : (0 : Int) + ((-8000) * a1 + ((-1) * a4 + (1 * a9 + 0))) = 0 := he _ (List.mem_cons_of_mem _ (List.mem_cons_of_mem _ (List.mem_cons_of_mem _ (List.mem_cons_of_mem _ (List.mem_cons_of_mem _ List.mem_cons_self)))))
  have e6 : (0 : Int) + ((-1) * a10 + (1 * (zk_xe w 209 a9) + 0)) = 0 := he _ (List.mem_cons_of_mem _ (List.mem_cons_of_mem _ (List.mem_cons_of_mem _ (List.mem_cons_of_mem _ (List.mem_cons_of_mem _ (List.mem_cons_of_mem _ List.mem_cons_self))))))
  have e7 : ((-79228162514264337593543950336) : Int) + ((-1) * a1 + ((-4294967296) * a2 + ((-18446744073709551616) * a3 + ((-79228162514264337593543950336) * a4 + ((-340282366920938463463374607431768211456) * a5 + (1 * a11 + 0)))))) = 0 := he _ (List.mem_cons_of_mem _ (List.mem_cons_of_mem _ (List.mem_cons_of_mem _ (List.mem_cons_of_mem _ (List.mem_cons_of_mem _ (List.mem_cons_of_mem _ (List.mem_cons_of_mem _ List.mem_cons_self)))))))
  have e8 : (0 : Int) + (1 * (zk_el w' 209 j) + ((-1) * a10 + 0)) = 0 := he _ (List.mem_cons_of_mem _ (List.mem_cons_of_mem _ (List.mem_cons_of_mem _ (List.mem_cons_of_mem _ (List.mem_cons_of_mem _ (List.mem_cons_of_mem _ (List.mem_cons_of_mem _ (List.mem_cons_of_mem _ List.mem_cons_self))))))))
  have g0 : 0 ≤ (0 : Int) + (1 * a1 + 0) := hg _ List.mem_cons_self
  have g1 : 0 ≤ (4294967276 : Int) + ((-1) * a1 + 0) := hg _ (List.mem_cons_of_mem _ List.mem_cons_self)
  have g2 : 0 ≤ (0 : Int) + (1 * a2 + 0) := hg _ (List.mem_cons_of_mem _ (List.mem_cons_of_mem _ List.mem_cons_self))
  have g3 : 0 ≤ (4294967276 : Int) + ((-1) * a2 + 0) := hg _ (List.mem_cons_of_mem _ (List.mem_cons_of_mem _ (List.mem_cons_of_mem _ List.mem_cons_self)))
  have g4 : 0 ≤ (0 : Int) + (1 * a3 + 0) := hg _ (List.mem_cons_of_mem _ (List.mem_cons_of_mem _ (List.mem_cons_of_mem _ (List.mem_cons_of_mem _ List.mem_cons_self))))
  have g5 : 0 ≤ (4294967276 : Int) + ((-1) * a3 + 0) := hg _ (List.mem_cons_of_mem _ (List.mem_cons_of_mem _ (List.mem_cons_of_mem _ (List.mem_cons_of_mem _ (List.mem_cons_of_mem _ List.mem_cons_self)))))
  have g6 : 0 ≤ (0 : Int) + (1 * a4 + 0) := hg _ (List.mem_cons_of_mem _ (List.mem_cons_of_mem _ (List.mem_cons_of_mem _ (List.mem_cons_of_mem _ (List.mem_cons_of_mem _ (List.mem_cons_of_mem _ List.mem_cons_self))))))
  have g7 : 0 ≤ (4294967276 : Int) + ((-1) * a4 + 0) := hg _ (List.mem_cons_of_mem _ (List.mem_cons_of_mem _ (List.mem_cons_of_mem _ (List.mem_cons_of_mem _ (List.mem_cons_of_mem _ (List.mem_cons_of_mem _ (List.mem_cons_of_mem _ List.mem_cons_self)))))))
  have g8 : 0 ≤ (0 : Int) + (1 * a5 + 0) := hg _ (List.mem_cons_of_mem _ (List.mem_cons_of_mem _ (List.mem_cons_of_mem _ (List.mem_cons_of_mem _ (List.mem_cons_of_mem _ (List.mem_cons_of_mem _ (List.mem_cons_of_mem _ (List.mem_cons_of_mem _ List.mem_cons_self))))))))
  have g9 : 0 ≤ (4294967276 : Int) + ((-1) * a5 + 0) := hg _ (List.mem_cons_of_mem _ (List.mem_cons_of_mem _ (List.mem_cons_of_mem _ (List.mem_cons_of_mem _ (List.mem_cons_of_mem _ (List.mem_cons_of_mem _ (List.mem_cons_of_mem _ (List.mem_cons_of_mem _ (List.mem_cons_of_mem _ List.mem_cons_self)))))))))
  have g10 : 0 ≤ (0 : Int) + (1 * a7 + 0) := hg _ (List.mem_cons_of_mem _ (List.mem_cons_of_mem _ (List.mem_cons_of_mem _ (List.mem_cons_of_mem _ (List.mem_cons_of_mem _ (List.mem_cons_of_mem _ (List.mem_cons_of_mem _ (List.mem_cons_of_mem _ (List.mem_cons_of_mem _ (List.mem_cons_of_mem _ List.mem_cons_self))))))))))
  have g11 : 0 ≤ (4294967276 : Int) + ((-1) * a7 + 0) := hg _ (List.mem_cons_of_mem _ (List.mem_cons_of_mem _ (List.mem_cons_of_mem _ (List.mem_cons_of_mem _ (List.mem_cons_of_mem _ (List.mem_cons_of_mem _ (List.mem_cons_of_mem _ (List.mem_cons_of_mem _ (List.mem_cons_of_mem _ (List.mem_cons_of_mem _ (List.mem_cons_of_mem _ List.mem_cons_self)))))))))))
  have g12 : 0 ≤ (0 : Int) + (1 * a8 + 0) := hg _ (List.mem_cons_of_mem _ (List.mem_cons_of_mem _ (List.mem_cons_of_mem _ (List.mem_cons_of_mem _ (List.mem_cons_of_mem _ (List.mem_cons_of_mem _ (List.mem_cons_of_mem _ (List.mem_cons_of_mem _ (List.mem_cons_of_mem _ (List.mem_cons_of_mem _ (List.mem_cons_of_mem _ (List.mem_cons_of_mem _ List.mem_cons_self))))))))))))
  have g13 : 0 ≤ (4294967276 : Int) + ((-1) * a8 + 0) := hg _ (List.mem_cons_of_mem _ (List.mem_cons_of_mem _ (List.mem_cons_of_mem _ (List.mem_cons_of_mem _ (List.mem_cons_of_mem _ (List.mem_cons_of_mem _ (List.mem_cons_of_mem _ (List.mem_cons_of_mem _ (List.mem_cons_of_mem _ (List.mem_cons_of_mem _ (List.mem_cons_of_mem _ (List.mem_cons_of_mem _ (List.mem_cons_of_mem _ List.mem_cons_self)))))))))))))
  have g14 : 0 ≤ (7999 : Int) + ((-1) * a4 + 0) := hg _ (List.mem_cons_of_mem _ (List.mem_cons_of_mem _ (List.mem_cons_of_mem _ (List.mem_cons_of_mem _ (List.mem_cons_of_mem _ (List.mem_cons_of_mem _ (List.mem_cons_of_mem _ (List.mem_cons_of_mem _ (List.mem_cons_of_mem _ (List.mem_cons_of_mem _ (List.mem_cons_of_mem _ (List.mem_cons_of_mem _ (List.mem_cons_of_mem _ (List.mem_cons_of_mem _ List.mem_cons_self))))))))))))))
  have g15 : 0 ≤ ((-9) : Int) + (1 * (zk_xe w 208 a9) + 0) := hg _ (List.mem_cons_of_mem _ (List.mem_cons_of_mem _ (List.mem_cons_of_mem _ (List.mem_cons_of_mem _ (List.mem_cons_of_mem _ (List.mem_cons_of_mem _ (List.mem_cons_of_mem _ (List.mem_cons_of_mem _ (List.mem_cons_of_mem _ (List.mem_cons_of_mem _ (List.mem_cons_of_mem _ (List.mem_cons_of_mem _ (List.mem_cons_of_mem _ (List.mem_cons_of_mem _ (List.mem_cons_of_mem _ List.mem_cons_self)))))))))))))))
  have g16 : 0 ≤ (10 : Int) + ((-1) * (zk_xe w 208 a9) + 0) := hg _ (List.mem_cons_of_mem _ (List.mem_cons_of_mem _ (List.mem_cons_of_mem _ (List.mem_cons_of_mem _ (List.mem_cons_of_mem _ (List.mem_cons_of_mem _ (List.mem_cons_of_mem _ (List.mem_cons_of_mem _ (List.mem_cons_of_mem _ (List.mem_cons_of_mem _ (List.mem_cons_of_mem _ (List.mem_cons_of_mem _ (List.mem_cons_of_mem _ (List.mem_cons_of_mem _ (List.mem_cons_of_mem _ (List.mem_cons_of_mem _ List.mem_cons_self))))))))))))))))
  have hp := (zj_n173 (w := w) (p := a0) (u := a1) (i := a2) (j := a3) (k := a4) (h := a5) (by omega) (by omega) (by omega) (by omega) (by omega) (by omega) (by omega) (by omega) (by omega) (by omega) (by omega) ).mp (by omega)
  have hx := (zj_n175 (w := w) (p := a6) (n := a7) (u := a1) (h := a5) (N := a8) (by omega) (by omega) (by omega) (by omega) (by omega) (by omega) (by omega) (by omega) (by omega) ).mp (by omega)
  have k0 : zh_e w 209 (8000 * a1 + a4) = zk_xe w 209 a9 := by rw [zk_xe_r (i := 209) (by decide)]; show zk_el w 209 (8000 * a1 + a4) = zk_el w 209 a9; rw [show 8000 * a1 + a4 = a9 by omega]
  have k1 : zh_e w' 209 (8000 * a1 + a4) = zk_el w' 209 j := by
    show zk_el w' 209 (8000 * a1 + a4) = _
    rw [show 8000 * a1 + a4 = j by omega]
  have k3 : zh_e w 208 (8000 * a1 + a4) = zk_xe w 208 a9 := by rw [zk_xe_r (i := 208) (by decide)]; show zk_el w 208 (8000 * a1 + a4) = zk_el w 208 a9; rw [show 8000 * a1 + a4 = a9 by omega]
  have o208 : zh_e w' 208 = zh_e w 208 := zh_e_g (hw.1 208 (by decide))
  have o210 : zh_e w' 210 = zh_e w 210 := zh_e_g (hw.1 210 (by decide))
  have o211 : zh_e w' 211 = zh_e w 211 := zh_e_g (hw.1 211 (by decide))
  have o212 : zh_e w' 212 = zh_e w 212 := zh_e_g (hw.1 212 (by decide))
  have o214 : zh_e w' 214 = zh_e w 214 := zh_e_g (hw.1 214 (by decide))
  have o215 : zh_e w' 215 = zh_e w 215 := zh_e_g (hw.1 215 (by decide))
  have o204 : zh_e w' 204 = zh_e w 204 := zh_e_g (hw.1 204 (by decide))
  have o205 : zh_e w' 205 = zh_e w 205 := zh_e_g (hw.1 205 (by decide))
  have o207 : zh_e w' 207 = zh_e w 207 := zh_e_g (hw.1 207 (by decide))
  have o213 : zh_e w' 213 = zh_e w 213 := zh_e_g (hw.1 213 (by decide))
  have o203 : zh_e w' 203 = zh_e w 203 := zh_e_g (hw.1 203 (by decide))
  have o176 : zh_e w' 176 = zh_e w 176 := zh_e_g (hw.1 176 (by decide))
  have o220 : zh_e w' 220 = zh_e w 220 := zh_e_g (hw.1 220 (by decide))
  have h1 : zk_xe w' 2000173 a11 = 1 := by
    refine (zj_n173 (w := w') (p := a11) (u := a1) (i := a2) (j := a3) (k := (a4 + 1)) (h := a5) (by omega) (by omega) (by omega) (by omega) (by omega) (by omega) (by omega) (by omega) (by omega) (by omega) (by omega) ).mpr (fun q => ?_)
    rw [o176] at q
    have z := hp q
    rw [o208, o210, o211, o212, o214, o215, o204, o205, o207, o213, o203, o220]
    refine zj_rnA (by omega) (Or.inr ⟨?_, ?_⟩) (fun x x0 x1 x2 => hw.2 _ (by omega) (by omega)) z
    · show ¬ zj_nm (zh_e w 208 (8000 * a1 + a4))
      rw [k3]
      unfold zj_nm
      omega
    · show zh_e w' 209 (8000 * a1 + a4) = zh_e w 209 (8000 * a1 + a4)
      rw [k0, k1]
      omega
  have h2 : zk_xe w' 2000175 a6 = 1 := by
    refine (zj_n175 (w := w') (p := a6) (n := a7) (u := a1) (h := a5) (N := a8) (by omega) (by omega) (by omega) (by omega) (by omega) (by omega) (by omega) (by omega) (by omega) ).mpr (fun v v0 v1 v2 v3 => ?_)
    rw [o176] at v3
    have z := hx v v0 v1 v2 v3
    rw [o208, o210, o211, o212, o214, o215, o204, o205, o207, o213, o203]
    exact zj_nuc (Int.le_refl _) (fun _ _ _ => rfl) (fun x x0 x1 => hw.2 _ (by omega) (by omega)) (fun _ _ _ => rfl) (fun _ _ _ => rfl) (fun _ _ _ => rfl) (fun _ _ _ => rfl) (fun _ _ _ => rfl) (fun _ _ _ => rfl) (fun _ _ _ => rfl) z
  exact (zx_eF1 (by show 0 ≤ (0 : Int) + (1 * a11 + 0); omega) (by show zk_xe w' 2000173 ((0 : Int) + (1 * a11 + 0)) = (1 : Int) + (0); rw [show (0 : Int) + (1 * a11 + 0) = a11 by omega]; exact h1.trans (by omega)) (zx_eF1 (by show 0 ≤ (0 : Int) + (1 * a6 + 0); omega) (by show zk_xe w' 2000175 ((0 : Int) + (1 * a6 + 0)) = (1 : Int) + (0); rw [show (0 : Int) + (1 * a6 + 0) = a6 by omega]; exact h2.trans (by omega)) zx_eF0))
def zx_E767 : zx_V := zx_Vc 209 [] 12 [(2000173, 0), (2000175, 6), (209, 9), (208, 9)] [((0, 0), [(2, 1, 0), (3, 0, 1), (4, 0, 4294967296), (5, 0, 18446744073709551616), (6, 0, 79228162514264337593543950336), (7, 0, 340282366920938463463374607431768211456)]), ((0, 1), [(14, 1, 0)]), ((0, 0), [(3, 0, 4294967296), (7, 0, 18446744073709551616), (8, 1, 0), (9, 0, 1), (10, 0, 79228162514264337593543950336)]), ((0, 1), [(15, 1, 0)]), ((0, 0), [(0, 1, 0), (11, 0, 1)]), ((0, 0), [(3, 0, 8000), (6, 0, 1), (11, 1, 0)]), ((0, 0), [(12, 0, 1), (16, 1, 0)]), ((0, 79228162514264337593543950336), [(3, 0, 1), (4, 0, 4294967296), (5, 0, 18446744073709551616), (6, 0, 79228162514264337593543950336), (7, 0, 340282366920938463463374607431768211456), (13, 1, 0)]), ((0, 0), [(1, 1, 0), (12, 0, 1)])] [((0, 0), [(3, 1, 0)]), ((4294967276, 0), [(3, 0, 1)]), ((0, 0), [(4, 1, 0)]), ((4294967276, 0), [(4, 0, 1)]), ((0, 0), [(5, 1, 0)]), ((4294967276, 0), [(5, 0, 1)]), ((0, 0), [(6, 1, 0)]), ((4294967276, 0), [(6, 0, 1)]), ((0, 0), [(7, 1, 0)]), ((4294967276, 0), [(7, 0, 1)]), ((0, 0), [(9, 1, 0)]), ((4294967276, 0), [(9, 0, 1)]), ((0, 0), [(10, 1, 0)]), ((4294967276, 0), [(10, 0, 1)]), ((7999, 0), [(6, 0, 1)]), ((0, 13), [(17, 1, 0)])] [(2000173, ((0, 0), [(13, 1, 0)]), ((1, 0), [])), (2000175, ((0, 0), [(8, 1, 0)]), ((1, 0), []))]
theorem zx_E767_ok {PT : Nat → zz_W → Prop} : zx_Vok 64 zHT PT zx_E767 := by
  refine zx_Vc_ok (fun w w' j ins hI hI' h0 hw hK hl he hg => ?_)
  obtain ⟨a0, a1, a2, a3, a4, a5, a6, a7, a8, a9, a10, a11, rfl⟩ := zx_i12 hl
  have e0 : (0 : Int) + (1 * a0 + ((-1) * a1 + ((-4294967296) * a2 + ((-18446744073709551616) * a3 + ((-79228162514264337593543950336) * a4 + ((-340282366920938463463374607431768211456) * a5 + 0)))))) = 0 := he _ List.mem_cons_self
  have e1 : ((-1) : Int) + (1 * (zk_xe w 2000173 a0) + 0) = 0 := he _ (List.mem_cons_of_mem _ List.mem_cons_self)
  have e2 : (0 : Int) + ((-4294967296) * a1 + ((-18446744073709551616) * a5 + (1 * a6 + ((-1) * a7 + ((-79228162514264337593543950336) * a8 + 0))))) = 0 := he _ (List.mem_cons_of_mem _ (List.mem_cons_of_mem _ List.mem_cons_self))
  have e3 : ((-1) : Int) + (1 * (zk_xe w 2000175 a6) + 0) = 0 := he _ (List.mem_cons_of_mem _ (List.mem_cons_of_mem _ (List.mem_cons_of_mem _ List.mem_cons_self)))
  have e4 : (0 : Int) + (1 * j + ((-1) * a9 + 0)) = 0 := he _ (List.mem_cons_of_mem _ (List.mem_cons_of_mem _ (List.mem_cons_of_mem _ (List.mem_cons_of_mem _ List.mem_cons_self))))
  have e5 : (0 : Int) + ((-8000) * a1 + ((-1) * a4 + (1 * a9 + 0))) = 0 := he _ (List.mem_cons_of_mem _ (List.mem_cons_of_mem _ (List.mem_cons_of_mem _ (List.mem_cons_of_mem _ (List.mem_cons_of_mem _ List.mem_cons_self)))))
  have e6 : (0 : Int) + ((-1) * a10 + (1 * (zk_xe w 209 a9) + 0)) = 0 := he _ (List.mem_cons_of_mem _ (List.mem_cons_of_mem _ (List.mem_cons_of_mem _ (List.mem_cons_of_mem _ (List.mem_cons_of_mem _ (List.mem_cons_of_mem _ List.mem_cons_self))))))
  have e7 : ((-79228162514264337593543950336) : Int) + ((-1) * a1 + ((-4294967296) * a2 + ((-18446744073709551616) * a3 + ((-79228162514264337593543950336) * a4 + ((-340282366920938463463374607431768211456) * a5 + (1 * a11 + 0)))))) = 0 := he _ (List.mem_cons_of_mem _ (List.mem_cons_of_mem _ (List.mem_cons_of_mem _ (List.mem_cons_of_mem _ (List.mem_cons_of_mem _ (List.mem_cons_of_mem _ (List.mem_cons_of_mem _ List.mem_cons_self)))))))
  have e8 : (0 : Int) + (1 * (zk_el w' 209 j) + ((-1) * a10 + 0)) = 0 := he _ (List.mem_cons_of_mem _ (List.mem_cons_of_mem _ (List.mem_cons_of_mem _ (List.mem_cons_of_mem _ (List.mem_cons_of_mem _ (List.mem_cons_of_mem _ (List.mem_cons_of_mem _ (List.mem_cons_of_mem _ List.mem_cons_self))))))))
  have g0 : 0 ≤ (0 : Int) + (1 * a1 + 0) := hg _ List.mem_cons_self
  have g1 : 0 ≤ (4294967276 : Int) + ((-1) * a1 + 0) := hg _ (List.mem_cons_of_mem _ List.mem_cons_self)
  have g2 : 0 ≤ (0 : Int) + (1 * a2 + 0) := hg _ (List.mem_cons_of_mem _ (List.mem_cons_of_mem _ List.mem_cons_self))
  have g3 : 0 ≤ (4294967276 : Int) + ((-1) * a2 + 0) := hg _ (List.mem_cons_of_mem _ (List.mem_cons_of_mem _ (List.mem_cons_of_mem _ List.mem_cons_self)))
  have g4 : 0 ≤ (0 : Int) + (1 * a3 + 0) := hg _ (List.mem_cons_of_mem _ (List.mem_cons_of_mem _ (List.mem_cons_of_mem _ (List.mem_cons_of_mem _ List.mem_cons_self))))
  have g5 : 0 ≤ (4294967276 : Int) + ((-1) * a3 + 0) := hg _ (List.mem_cons_of_mem _ (List.mem_cons_of_mem _ (List.mem_cons_of_mem _ (List.mem_cons_of_mem _ (List.mem_cons_of_mem _ List.mem_cons_self)))))
  have g6 : 0 ≤ (0 : Int) + (1 * a4 + 0) := hg _ (List.mem_cons_of_mem _ (List.mem_cons_of_mem _ (List.mem_cons_of_mem _ (List.mem_cons_of_mem _ (List.mem_cons_of_mem _ (List.mem_cons_of_mem _ List.mem_cons_self))))))
  have g7 : 0 ≤ (4294967276 : Int) + ((-1) * a4 + 0) := hg _ (List.mem_cons_of_mem _ (List.mem_cons_of_mem _ (List.mem_cons_of_mem _ (List.mem_cons_of_mem _ (List.mem_cons_of_mem _ (List.mem_cons_of_mem _ (List.mem_cons_of_mem _ List.mem_cons_self)))))))
  have g8 : 0 ≤ (0 : Int) + (1 * a5 + 0) := hg _ (List.mem_cons_of_mem _ (List.mem_cons_of_mem _ (List.mem_cons_of_mem _ (List.mem_cons_of_mem _ (List.mem_cons_of_mem _ (List.mem_cons_of_mem _ (List.mem_cons_of_mem _ (List.mem_cons_of_mem _ List.mem_cons_self))))))))
  have g9 : 0 ≤ (4294967276 : Int) + ((-1) * a5 + 0) := hg _ (List.mem_cons_of_mem _ (List.mem_cons_of_mem _ (List.mem_cons_of_mem _ (List.mem_cons_of_mem _ (List.mem_cons_of_mem _ (List.mem_cons_of_mem _ (List.mem_cons_of_mem _ (List.mem_cons_of_mem _ (List.mem_cons_of_mem _ List.mem_cons_self)))))))))
  have g10 : 0 ≤ (0 : Int) + (1 * a7 + 0) := hg _ (List.mem_cons_of_mem _ (List.mem_cons_of_mem _ (List.mem_cons_of_mem _ (List.mem_cons_of_mem _ (List.mem_cons_of_mem _ (List.mem_cons_of_mem _ (List.mem_cons_of_mem _ (List.mem_cons_of_mem _ (List.mem_cons_of_mem _ (List.mem_cons_of_mem _ List.mem_cons_self))))))))))
  have g11 : 0 ≤ (4294967276 : Int) + ((-1) * a7 + 0) := hg _ (List.mem_cons_of_mem _ (List.mem_cons_of_mem _ (List.mem_cons_of_mem _ (List.mem_cons_of_mem _ (List.mem_cons_of_mem _ (List.mem_cons_of_mem _ (List.mem_cons_of_mem _ (List.mem_cons_of_mem _ (List.mem_cons_of_mem _ (List.mem_cons_of_mem _ (List.mem_cons_of_mem _ List.mem_cons_self)))))))))))
  have g12 : 0 ≤ (0 : Int) + (1 * a8 + 0) := hg _ (List.mem_cons_of_mem _ (List.mem_cons_of_mem _ (List.mem_cons_of_mem _ (List.mem_cons_of_mem _ (List.mem_cons_of_mem _ (List.mem_cons_of_mem _ (List.mem_cons_of_mem _ (List.mem_cons_of_mem _ (List.mem_cons_of_mem _ (List.mem_cons_of_mem _ (List.mem_cons_of_mem _ (List.mem_cons_of_mem _ List.mem_cons_self))))))))))))
  have g13 : 0 ≤ (4294967276 : Int) + ((-1) * a8 + 0) := hg _ (List.mem_cons_of_mem _ (List.mem_cons_of_mem _ (List.mem_cons_of_mem _ (List.mem_cons_of_mem _ (List.mem_cons_of_mem _ (List.mem_cons_of_mem _ (List.mem_cons_of_mem _ (List.mem_cons_of_mem _ (List.mem_cons_of_mem _ (List.mem_cons_of_mem _ (List.mem_cons_of_mem _ (List.mem_cons_of_mem _ (List.mem_cons_of_mem _ List.mem_cons_self)))))))))))))
  have g14 : 0 ≤ (7999 : Int) + ((-1) * a4 + 0) := hg _ (List.mem_cons_of_mem _ (List.mem_cons_of_mem _ (List.mem_cons_of_mem _ (List.mem_cons_of_mem _ (List.mem_cons_of_mem _ (List.mem_cons_of_mem _ (List.mem_cons_of_mem _ (List.mem_cons_of_mem _ (List.mem_cons_of_mem _ (List.mem_cons_of_mem _ (List.mem_cons_of_mem _ (List.mem_cons_of_mem _ (List.mem_cons_of_mem _ (List.mem_cons_of_mem _ List.mem_cons_self))))))))))))))
  have g15 : 0 ≤ ((-13) : Int) + (1 * (zk_xe w 208 a9) + 0) := hg _ (List.mem_cons_of_mem _ (List.mem_cons_of_mem _ (List.mem_cons_of_mem _ (List.mem_cons_of_mem _ (List.mem_cons_of_mem _ (List.mem_cons_of_mem _ (List.mem_cons_of_mem _ (List.mem_cons_of_mem _ (List.mem_cons_of_mem _ (List.mem_cons_of_mem _ (List.mem_cons_of_mem _ (List.mem_cons_of_mem _ (List.mem_cons_of_mem _ (List.mem_cons_of_mem _ (List.mem_cons_of_mem _ List.mem_cons_self)))))))))))))))
  have hp := (zj_n173 (w := w) (p := a0) (u := a1) (i := a2) (j := a3) (k := a4) (h := a5) (by omega) (by omega) (by omega) (by omega) (by omega) (by omega) (by omega) (by omega) (by omega) (by omega) (by omega) ).mp (by omega)
  have hx := (zj_n175 (w := w) (p := a6) (n := a7) (u := a1) (h := a5) (N := a8) (by omega) (by omega) (by omega) (by omega) (by omega) (by omega) (by omega) (by omega) (by omega) ).mp (by omega)
  have k0 : zh_e w 209 (8000 * a1 + a4) = zk_xe w 209 a9 := by rw [zk_xe_r (i := 209) (by decide)]; show zk_el w 209 (8000 * a1 + a4) = zk_el w 209 a9; rw [show 8000 * a1 + a4 = a9 by omega]
  have k1 : zh_e w' 209 (8000 * a1 + a4) = zk_el w' 209 j := by
    show zk_el w' 209 (8000 * a1 + a4) = _
    rw [show 8000 * a1 + a4 = j by omega]
  have k3 : zh_e w 208 (8000 * a1 + a4) = zk_xe w 208 a9 := by rw [zk_xe_r (i := 208) (by decide)]; show zk_el w 208 (8000 * a1 + a4) = zk_el w 208 a9; rw [show 8000 * a1 + a4 = a9 by omega]
  have o208 : zh_e w' 208 = zh_e w 208 := zh_e_g (hw.1 208 (by decide))
  have o210 : zh_e w' 210 = zh_e w 210 := zh_e_g (hw.1 210 (by decide))
  have o211 : zh_e w' 211 = zh_e w 211 := zh_e_g (hw.1 211 (by decide))
  have o212 : zh_e w' 212 = zh_e w 212 := zh_e_g (hw.1 212 (by decide))
  have o214 : zh_e w' 214 = zh_e w 214 := zh_e_g (hw.1 214 (by decide))
  have o215 : zh_e w' 215 = zh_e w 215 := zh_e_g (hw.1 215 (by decide))
  have o204 : zh_e w' 204 = zh_e w 204 := zh_e_g (hw.1 204 (by decide))
  have o205 : zh_e w' 205 = zh_e w 205 := zh_e_g (hw.1 205 (by decide))
  have o207 : zh_e w' 207 = zh_e w 207 := zh_e_g (hw.1 207 (by decide))
  have o213 : zh_e w' 213 = zh_e w 213 := zh_e_g (hw.1 213 (by decide))
  have o203 : zh_e w' 203 = zh_e w 203 := zh_e_g (hw.1 203 (by decide))
  have o176 : zh_e w' 176 = zh_e w 176 := zh_e_g (hw.1 176 (by decide))
  have o220 : zh_e w' 220 = zh_e w 220 := zh_e_g (hw.1 220 (by decide))
  have h1 : zk_xe w' 2000173 a11 = 1 := by
    refine (zj_n173 (w := w') (p := a11) (u := a1) (i := a2) (j := a3) (k := (a4 + 1)) (h := a5) (by omega) (by omega) (by omega) (by omega) (by omega) (by omega) (by omega) (by omega) (by omega) (by omega) (by omega) ).mpr (fun q => ?_)
    rw [o176] at q
    have z := hp q
    rw [o208, o210, o211, o212, o214, o215, o204, o205, o207, o213, o203, o220]
    refine zj_rnA (by omega) (Or.inr ⟨?_, ?_⟩) (fun x x0 x1 x2 => hw.2 _ (by omega) (by omega)) z
    · show ¬ zj_nm (zh_e w 208 (8000 * a1 + a4))
      rw [k3]
      unfold zj_nm
      omega
    · show zh_e w' 209 (8000 * a1 + a4) = zh_e w 209 (8000 * a1 + a4)
      rw [k0, k1]
      omega
  have h2 : zk_xe w' 2000175 a6 = 1 := by
    refine (zj_n175 (w := w') (p := a6) (n := a7) (u := a1) (h := a5) (N := a8) (by omega) (by omega) (by omega) (by omega) (by omega) (by omega) (by omega) (by omega) (by omega) ).mpr (fun v v0 v1 v2 v3 => ?_)
    rw [o176] at v3
    have z := hx v v0 v1 v2 v3
    rw [o208, o210, o211, o212, o214, o215, o204, o205, o207, o213, o203]
    exact zj_nuc (Int.le_refl _) (fun _ _ _ => rfl) (fun x x0 x1 => hw.2 _ (by omega) (by omega)) (fun _ _ _ => rfl) (fun _ _ _ => rfl) (fun _ _ _ => rfl) (fun _ _ _ => rfl) (fun _ _ _ => rfl) (fun _ _ _ => rfl) (fun _ _ _ => rfl) z
  exact (zx_eF1 (by show 0 ≤ (0 : Int) + (1 * a11 + 0); omega) (by show zk_xe w' 2000173 ((0 : Int) + (1 * a11 + 0)) = (1 : Int) + (0); rw [show (0 : Int) + (1 * a11 + 0) = a11 by omega]; exact h1.trans (by omega)) (zx_eF1 (by show 0 ≤ (0 : Int) + (1 * a6 + 0); omega) (by show zk_xe w' 2000175 ((0 : Int) + (1 * a6 + 0)) = (1 : Int) + (0); rw [show (0 : Int) + (1 * a6 + 0) = a6 by omega]; exact h2.trans (by omega)) zx_eF0))
def zx_E762 : zx_V := zx_Vc 204 [] 5 [(2000174, 0)] [((0, 0), [(2, 1, 0), (3, 0, 1), (4, 0, 4294967296), (5, 0, 18446744073709551616), (6, 0, 79228162514264337593543950336)]), ((0, 1), [(7, 1, 0)])] [((0, 0), [(3, 1, 0)]), ((4294967276, 0), [(3, 0, 1)]), ((0, 0), [(4, 1, 0)]), ((4294967276, 0), [(4, 0, 1)]), ((0, 0), [(5, 1, 0)]), ((4294967276, 0), [(5, 0, 1)]), ((0, 0), [(6, 1, 0)]), ((4294967276, 0), [(6, 0, 1)]), ((0, 0), [(0, 1, 0), (3, 0, 600)])] [(2000174, ((0, 0), [(2, 1, 0)]), ((1, 0), []))]
theorem zx_E762_ok {PT : Nat → zz_W → Prop} : zx_Vok 64 zHT PT zx_E762 := by
  refine zx_Vc_ok (fun w w' j ins hI hI' h0 hw hK hl he hg => ?_)
  obtain ⟨a0, a1, a2, a3, a4, rfl⟩ := zx_i5 hl
  have e0 : (0 : Int) + (1 * a0 + ((-1) * a1 + ((-4294967296) * a2 + ((-18446744073709551616) * a3 + ((-79228162514264337593543950336) * a4 + 0))))) = 0 := he _ List.mem_cons_self
  have e1 : ((-1) : Int) + (1 * (zk_xe w 2000174 a0) + 0) = 0 := he _ (List.mem_cons_of_mem _ List.mem_cons_self)
  have g0 : 0 ≤ (0 : Int) + (1 * a1 + 0) := hg _ List.mem_cons_self
  have g1 : 0 ≤ (4294967276 : Int) + ((-1) * a1 + 0) := hg _ (List.mem_cons_of_mem _ List.mem_cons_self)
  have g2 : 0 ≤ (0 : Int) + (1 * a2 + 0) := hg _ (List.mem_cons_of_mem _ (List.mem_cons_of_mem _ List.mem_cons_self))
  have g3 : 0 ≤ (4294967276 : Int) + ((-1) * a2 + 0) := hg _ (List.mem_cons_of_mem _ (List.mem_cons_of_mem _ (List.mem_cons_of_mem _ List.mem_cons_self)))
  have g4 : 0 ≤ (0 : Int) + (1 * a3 + 0) := hg _ (List.mem_cons_of_mem _ (List.mem_cons_of_mem _ (List.mem_cons_of_mem _ (List.mem_cons_of_mem _ List.mem_cons_self))))
  have g5 : 0 ≤ (4294967276 : Int) + ((-1) * a3 + 0) := hg _ (List.mem_cons_of_mem _ (List.mem_cons_of_mem _ (List.mem_cons_of_mem _ (List.mem_cons_of_mem _ (List.mem_cons_of_mem _ List.mem_cons_self)))))
  have g6 : 0 ≤ (0 : Int) + (1 * a4 + 0) := hg _ (List.mem_cons_of_mem _ (List.mem_cons_of_mem _ (List.mem_cons_of_mem _ (List.mem_cons_of_mem _ (List.mem_cons_of_mem _ (List.mem_cons_of_mem _ List.mem_cons_self))))))
  have g7 : 0 ≤ (4294967276 : Int) + ((-1) * a4 + 0) := hg _ (List.mem_cons_of_mem _ (List.mem_cons_of_mem _ (List.mem_cons_of_mem _ (List.mem_cons_of_mem _ (List.mem_cons_of_mem _ (List.mem_cons_of_mem _ (List.mem_cons_of_mem _ List.mem_cons_self)))))))
  have g8 : 0 ≤ (0 : Int) + (1 * j + ((-600) * a1 + 0)) := hg _ (List.mem_cons_of_mem _ (List.mem_cons_of_mem _ (List.mem_cons_of_mem _ (List.mem_cons_of_mem _ (List.mem_cons_of_mem _ (List.mem_cons_of_mem _ (List.mem_cons_of_mem _ (List.mem_cons_of_mem _ List.mem_cons_self))))))))
  have hx := (zj_n174 (w := w) (p := a0) (n := a1) (u := a2) (h := a3) (N := a4) (by omega) (by omega) (by omega) (by omega) (by omega) (by omega) (by omega) (by omega) (by omega) ).mp (by omega)
  have o208 : zh_e w' 208 = zh_e w 208 := zh_e_g (hw.1 208 (by decide))
  have o209 : zh_e w' 209 = zh_e w 209 := zh_e_g (hw.1 209 (by decide))
  have o210 : zh_e w' 210 = zh_e w 210 := zh_e_g (hw.1 210 (by decide))
  have o211 : zh_e w' 211 = zh_e w 211 := zh_e_g (hw.1 211 (by decide))
  have o212 : zh_e w' 212 = zh_e w 212 := zh_e_g (hw.1 212 (by decide))
  have o214 : zh_e w' 214 = zh_e w 214 := zh_e_g (hw.1 214 (by decide))
  have o215 : zh_e w' 215 = zh_e w 215 := zh_e_g (hw.1 215 (by decide))
  have o205 : zh_e w' 205 = zh_e w 205 := zh_e_g (hw.1 205 (by decide))
  have o207 : zh_e w' 207 = zh_e w 207 := zh_e_g (hw.1 207 (by decide))
  have o213 : zh_e w' 213 = zh_e w 213 := zh_e_g (hw.1 213 (by decide))
  have o203 : zh_e w' 203 = zh_e w 203 := zh_e_g (hw.1 203 (by decide))
  have o176 : zh_e w' 176 = zh_e w 176 := zh_e_g (hw.1 176 (by decide))
  have h2 : zk_xe w' 2000174 a0 = 1 := by
    refine (zj_n174 (w := w') (p := a0) (n := a1) (u := a2) (h := a3) (N := a4) (by omega) (by omega) (by omega) (by omega) (by omega) (by omega) (by omega) (by omega) (by omega) ).mpr (fun v v0 v1 v3 => ?_)
    rw [o176] at v3
    have z := hx v v0 v1 v3
    rw [o208, o209, o210, o211, o212, o214, o215, o205, o207, o213, o203]
    exact zj_nuc (Int.le_refl _) (fun _ _ _ => rfl) (fun _ _ _ => rfl) (fun _ _ _ => rfl) (fun _ _ _ => rfl) (fun _ _ _ => rfl) (fun _ _ _ => rfl) (fun _ _ _ => rfl) (fun x x0 x1 => hw.2 _ (by omega) (by omega)) (fun _ _ _ => rfl) z
  exact (zx_eF1 (by show 0 ≤ (0 : Int) + (1 * a0 + 0); omega) (by show zk_xe w' 2000174 ((0 : Int) + (1 * a0 + 0)) = (1 : Int) + (0); rw [show (0 : Int) + (1 * a0 + 0) = a0 by omega]; exact h2.trans (by omega)) zx_eF0)
def zx_D1192 : zx_L := zx_Lc [] 11 [(2000173, 0), (2000175, 6), (2000165, 9), (203, 1), (213, 1), (207, 1)] [] [((0, 0), [(0, 1, 0), (1, 0, 1), (2, 0, 4294967296), (3, 0, 18446744073709551616), (4, 0, 79228162514264337593543950336), (5, 0, 340282366920938463463374607431768211456)]), ((0, 1), [(11, 1, 0)]), ((0, 0), [(1, 0, 4294967296), (5, 0, 18446744073709551616), (6, 1, 0), (7, 0, 1), (8, 0, 79228162514264337593543950336)]), ((0, 1), [(12, 1, 0)]), ((0, 0), [(5, 0, 1), (8, 0, 4294967296), (9, 1, 0)]), ((0, 1), [(13, 1, 0)]), ((0, 4294967296), [(1, 0, 4294967296), (5, 0, 18446744073709551616), (7, 0, 1), (8, 0, 79228162514264337593543950336), (10, 1, 0)])] [((0, 0), [(1, 1, 0)]), ((4294967276, 0), [(1, 0, 1)]), ((0, 0), [(2, 1, 0)]), ((4294967276, 0), [(2, 0, 1)]), ((0, 0), [(3, 1, 0)]), ((4294967276, 0), [(3, 0, 1)]), ((0, 0), [(4, 1, 0)]), ((4294967276, 0), [(4, 0, 1)]), ((0, 0), [(5, 1, 0)]), ((4294967276, 0), [(5, 0, 1)]), ((0, 0), [(7, 1, 0)]), ((4294967276, 0), [(7, 0, 1)]), ((0, 0), [(8, 1, 0)]), ((4294967276, 0), [(8, 0, 1)]), ((0, 0), [(2, 1, 0), (14, 0, 1)]), ((0, 0), [(3, 1, 0), (15, 0, 1)]), ((0, 0), [(4, 1, 0), (16, 0, 1)])] [([], [], [(2000174, ((0, 0), [(10, 1, 0)]), ((1, 0), []))], [])]
theorem zx_D1192_ok {PT : Nat → zz_W → Prop} : zx_Lok 64 zHT PT zx_D1192 := by
  refine zx_Lc_ok (fun w hI hK ins hl hr he hg => ?_)
  obtain ⟨a0, a1, a2, a3, a4, a5, a6, a7, a8, a9, a10, rfl⟩ := zx_i11 hl
  have e0 : (0 : Int) + (1 * a0 + ((-1) * a1 + ((-4294967296) * a2 + ((-18446744073709551616) * a3 + ((-79228162514264337593543950336) * a4 + ((-340282366920938463463374607431768211456) * a5 + 0)))))) = 0 := he _ List.mem_cons_self
  have e1 : ((-1) : Int) + (1 * (zk_xe w 2000173 a0) + 0) = 0 := he _ (List.mem_cons_of_mem _ List.mem_cons_self)
  have e2 : (0 : Int) + ((-4294967296) * a1 + ((-18446744073709551616) * a5 + (1 * a6 + ((-1) * a7 + ((-79228162514264337593543950336) * a8 + 0))))) = 0 := he _ (List.mem_cons_of_mem _ (List.mem_cons_of_mem _ List.mem_cons_self))
  have e3 : ((-1) : Int) + (1 * (zk_xe w 2000175 a6) + 0) = 0 := he _ (List.mem_cons_of_mem _ (List.mem_cons_of_mem _ (List.mem_cons_of_mem _ List.mem_cons_self)))
  have e4 : (0 : Int) + ((-1) * a5 + ((-4294967296) * a8 + (1 * a9 + 0))) = 0 := he _ (List.mem_cons_of_mem _ (List.mem_cons_of_mem _ (List.mem_cons_of_mem _ (List.mem_cons_of_mem _ List.mem_cons_self))))
  have e5 : ((-1) : Int) + (1 * (zk_xe w 2000165 a9) + 0) = 0 := he _ (List.mem_cons_of_mem _ (List.mem_cons_of_mem _ (List.mem_cons_of_mem _ (List.mem_cons_of_mem _ (List.mem_cons_of_mem _ List.mem_cons_self)))))
  have e6 : ((-4294967296) : Int) + ((-4294967296) * a1 + ((-18446744073709551616) * a5 + ((-1) * a7 + ((-79228162514264337593543950336) * a8 + (1 * a10 + 0))))) = 0 := he _ (List.mem_cons_of_mem _ (List.mem_cons_of_mem _ (List.mem_cons_of_mem _ (List.mem_cons_of_mem _ (List.mem_cons_of_mem _ (List.mem_cons_of_mem _ List.mem_cons_self))))))
  have g0 : 0 ≤ (0 : Int) + (1 * a1 + 0) := hg _ List.mem_cons_self
  have g1 : 0 ≤ (4294967276 : Int) + ((-1) * a1 + 0) := hg _ (List.mem_cons_of_mem _ List.mem_cons_self)
  have g2 : 0 ≤ (0 : Int) + (1 * a2 + 0) := hg _ (List.mem_cons_of_mem _ (List.mem_cons_of_mem _ List.mem_cons_self))
  have g3 : 0 ≤ (4294967276 : Int) + ((-1) * a2 + 0) := hg _ (List.mem_cons_of_mem _ (List.mem_cons_of_mem _ (List.mem_cons_of_mem _ List.mem_cons_self)))
  have g4 : 0 ≤ (0 : Int) + (1 * a3 + 0) := hg _ (List.mem_cons_of_mem _ (List.mem_cons_of_mem _ (List.mem_cons_of_mem _ (List.mem_cons_of_mem _ List.mem_cons_self))))
  have g5 : 0 ≤ (4294967276 : Int) + ((-1) * a3 + 0) := hg _ (List.mem_cons_of_mem _ (List.mem_cons_of_mem _ (List.mem_cons_of_mem _ (List.mem_cons_of_mem _ (List.mem_cons_of_mem _ List.mem_cons_self)))))
  have g6 : 0 ≤ (0 : Int) + (1 * a4 + 0) := hg _ (List.mem_cons_of_mem _ (List.mem_cons_of_mem _ (List.mem_cons_of_mem _ (List.mem_cons_of_mem _ (List.mem_cons_of_mem _ (List.mem_cons_of_mem _ List.mem_cons_self))))))
  have g7 : 0 ≤ (4294967276 : Int) + ((-1) * a4 + 0) := hg _ (List.mem_cons_of_mem _ (List.mem_cons_of_mem _ (List.mem_cons_of_mem _ (List.mem_cons_of_mem _ (List.mem_cons_of_mem _ (List.mem_cons_of_mem _ (List.mem_cons_of_mem _ List.mem_cons_self)))))))
  have g8 : 0 ≤ (0 : Int) + (1 * a5 + 0) := hg _ (List.mem_cons_of_mem _ (List.mem_cons_of_mem _ (List.mem_cons_of_mem _ (List.mem_cons_of_mem _ (List.mem_cons_of_mem _ (List.mem_cons_of_mem _ (List.mem_cons_of_mem _ (List.mem_cons_of_mem _ List.mem_cons_self))))))))
  have g9 : 0 ≤ (4294967276 : Int) + ((-1) * a5 + 0) := hg _ (List.mem_cons_of_mem _ (List.mem_cons_of_mem _ (List.mem_cons_of_mem _ (List.mem_cons_of_mem _ (List.mem_cons_of_mem _ (List.mem_cons_of_mem _ (List.mem_cons_of_mem _ (List.mem_cons_of_mem _ (List.mem_cons_of_mem _ List.mem_cons_self)))))))))
  have g10 : 0 ≤ (0 : Int) + (1 * a7 + 0) := hg _ (List.mem_cons_of_mem _ (List.mem_cons_of_mem _ (List.mem_cons_of_mem _ (List.mem_cons_of_mem _ (List.mem_cons_of_mem _ (List.mem_cons_of_mem _ (List.mem_cons_of_mem _ (List.mem_cons_of_mem _ (List.mem_cons_of_mem _ (List.mem_cons_of_mem _ List.mem_cons_self))))))))))
  have g11 : 0 ≤ (4294967276 : Int) + ((-1) * a7 + 0) := hg _ (List.mem_cons_of_mem _ (List.mem_cons_of_mem _ (List.mem_cons_of_mem _ (List.mem_cons_of_mem _ (List.mem_cons_of_mem _ (List.mem_cons_of_mem _ (List.mem_cons_of_mem _ (List.mem_cons_of_mem _ (List.mem_cons_of_mem _ (List.mem_cons_of_mem _ (List.mem_cons_of_mem _ List.mem_cons_self)))))))))))
  have g12 : 0 ≤ (0 : Int) + (1 * a8 + 0) := hg _ (List.mem_cons_of_mem _ (List.mem_cons_of_mem _ (List.mem_cons_of_mem _ (List.mem_cons_of_mem _ (List.mem_cons_of_mem _ (List.mem_cons_of_mem _ (List.mem_cons_of_mem _ (List.mem_cons_of_mem _ (List.mem_cons_of_mem _ (List.mem_cons_of_mem _ (List.mem_cons_of_mem _ (List.mem_cons_of_mem _ List.mem_cons_self))))))))))))
  have g13 : 0 ≤ (4294967276 : Int) + ((-1) * a8 + 0) := hg _ (List.mem_cons_of_mem _ (List.mem_cons_of_mem _ (List.mem_cons_of_mem _ (List.mem_cons_of_mem _ (List.mem_cons_of_mem _ (List.mem_cons_of_mem _ (List.mem_cons_of_mem _ (List.mem_cons_of_mem _ (List.mem_cons_of_mem _ (List.mem_cons_of_mem _ (List.mem_cons_of_mem _ (List.mem_cons_of_mem _ (List.mem_cons_of_mem _ List.mem_cons_self)))))))))))))
  have g14 : 0 ≤ (0 : Int) + (1 * a2 + ((-1) * (zk_xe w 203 a1) + 0)) := hg _ (List.mem_cons_of_mem _ (List.mem_cons_of_mem _ (List.mem_cons_of_mem _ (List.mem_cons_of_mem _ (List.mem_cons_of_mem _ (List.mem_cons_of_mem _ (List.mem_cons_of_mem _ (List.mem_cons_of_mem _ (List.mem_cons_of_mem _ (List.mem_cons_of_mem _ (List.mem_cons_of_mem _ (List.mem_cons_of_mem _ (List.mem_cons_of_mem _ (List.mem_cons_of_mem _ List.mem_cons_self))))))))))))))
  have g15 : 0 ≤ (0 : Int) + (1 * a3 + ((-1) * (zk_xe w 213 a1) + 0)) := hg _ (List.mem_cons_of_mem _ (List.mem_cons_of_mem _ (List.mem_cons_of_mem _ (List.mem_cons_of_mem _ (List.mem_cons_of_mem _ (List.mem_cons_of_mem _ (List.mem_cons_of_mem _ (List.mem_cons_of_mem _ (List.mem_cons_of_mem _ (List.mem_cons_of_mem _ (List.mem_cons_of_mem _ (List.mem_cons_of_mem _ (List.mem_cons_of_mem _ (List.mem_cons_of_mem _ (List.mem_cons_of_mem _ List.mem_cons_self)))))))))))))))
  have g16 : 0 ≤ (0 : Int) + (1 * a4 + ((-1) * (zk_xe w 207 a1) + 0)) := hg _ (List.mem_cons_of_mem _ (List.mem_cons_of_mem _ (List.mem_cons_of_mem _ (List.mem_cons_of_mem _ (List.mem_cons_of_mem _ (List.mem_cons_of_mem _ (List.mem_cons_of_mem _ (List.mem_cons_of_mem _ (List.mem_cons_of_mem _ (List.mem_cons_of_mem _ (List.mem_cons_of_mem _ (List.mem_cons_of_mem _ (List.mem_cons_of_mem _ (List.mem_cons_of_mem _ (List.mem_cons_of_mem _ (List.mem_cons_of_mem _ List.mem_cons_self))))))))))))))))
  have r0 : 0 ≤ a0 := hr _ List.mem_cons_self
  have r1 : 0 ≤ a6 := hr _ (List.mem_cons_of_mem _ List.mem_cons_self)
  have r2 : 0 ≤ a9 := hr _ (List.mem_cons_of_mem _ (List.mem_cons_of_mem _ List.mem_cons_self))
  have r3 : 0 ≤ a1 := hr _ (List.mem_cons_of_mem _ (List.mem_cons_of_mem _ (List.mem_cons_of_mem _ List.mem_cons_self)))
  have r4 : 0 ≤ a1 := hr _ (List.mem_cons_of_mem _ (List.mem_cons_of_mem _ (List.mem_cons_of_mem _ (List.mem_cons_of_mem _ List.mem_cons_self))))
  have r5 : 0 ≤ a1 := hr _ (List.mem_cons_of_mem _ (List.mem_cons_of_mem _ (List.mem_cons_of_mem _ (List.mem_cons_of_mem _ (List.mem_cons_of_mem _ List.mem_cons_self)))))
  have hp := (zj_n173 (w := w) (p := a0) (u := a1) (i := a2) (j := a3) (k := a4) (h := a5) (by omega) (by omega) (by omega) (by omega) (by omega) (by omega) (by omega) (by omega) (by omega) (by omega) (by omega) ).mp (by omega)
  have hx := (zj_n175 (w := w) (p := a6) (n := a7) (u := a1) (h := a5) (N := a8) (by omega) (by omega) (by omega) (by omega) (by omega) (by omega) (by omega) (by omega) (by omega) ).mp (by omega)
  have hj := (zj_165 (w := w) (j := a9) (i := a5) (N := a8) (by omega) (by omega) (by omega) (by omega) (by omega) ).mp (by omega)
  have k0 : zh_e w 203 (a1) = zk_xe w 203 a1 := by rw [zk_xe_r (i := 203) (by decide)]; show zk_el w 203 (a1) = zk_el w 203 a1; rw [show a1 = a1 by omega]
  have k1 : zh_e w 213 (a1) = zk_xe w 213 a1 := by rw [zk_xe_r (i := 213) (by decide)]; show zk_el w 213 (a1) = zk_el w 213 a1; rw [show a1 = a1 by omega]
  have k2 : zh_e w 207 (a1) = zk_xe w 207 a1 := by rw [zk_xe_r (i := 207) (by decide)]; show zk_el w 207 (a1) = zk_el w 207 a1; rw [show a1 = a1 by omega]
  have h : zk_xe w 2000174 a10 = 1 := by
    refine (zj_n174 (w := w) (p := a10) (n := a7) (u := (a1 + 1)) (h := a5) (N := a8) (by omega) (by omega) (by omega) (by omega) (by omega) (by omega) (by omega) (by omega) (by omega) ).mpr (fun v v0 v1 v2 => ?_)
    by_cases c : v = a1
    · rw [c] at v2 ⊢
      rw [if_pos (show a1 < a1 + 1 by omega)]
      exact zj_rne hj (by omega) (by omega) (by omega) (hp v2)
    · have z := hx v v0 v1 c v2
      by_cases c2 : v < a1
      · rw [if_pos c2] at z
        rw [if_pos (show v < a1 + 1 by omega)]
        exact z
      · rw [if_neg c2] at z
        rw [if_neg (show ¬ (v < a1 + 1) by omega)]
        exact z
  exact ⟨_, List.mem_cons_self, [], rfl, zx_bnil, zx_cs0, (zx_eF1 (by show 0 ≤ (0 : Int) + (1 * a10 + 0); omega) (by show zk_xe w 2000174 ((0 : Int) + (1 * a10 + 0)) = (1 : Int) + (0); rw [show (0 : Int) + (1 * a10 + 0) = a10 by omega]; exact h.trans (by omega)) zx_eF0), zx_k0⟩
def zx_D1193 : zx_L := zx_Lc [] 6 [(2000175, 1), (176, 0)] [] [((0, 0), [(0, 0, 4294967296), (1, 1, 0), (2, 0, 1), (3, 0, 18446744073709551616), (4, 0, 79228162514264337593543950336)]), ((0, 1), [(6, 1, 0)]), ((0, 4294967296), [(0, 0, 4294967296), (2, 0, 1), (3, 0, 18446744073709551616), (4, 0, 79228162514264337593543950336), (5, 1, 0)])] [((0, 0), [(0, 1, 0)]), ((4294967276, 0), [(0, 0, 1)]), ((0, 0), [(2, 1, 0)]), ((4294967276, 0), [(2, 0, 1)]), ((0, 0), [(3, 1, 0)]), ((4294967276, 0), [(3, 0, 1)]), ((0, 0), [(4, 1, 0)]), ((4294967276, 0), [(4, 0, 1)]), ((0, 0), [(7, 0, 1)])] [([], [], [(2000174, ((0, 0), [(5, 1, 0)]), ((1, 0), []))], [])]
theorem zx_D1193_ok {PT : Nat → zz_W → Prop} : zx_Lok 64 zHT PT zx_D1193 := by
  refine zx_Lc_ok (fun w hI hK ins hl hr he hg => ?_)
  obtain ⟨a0, a1, a2, a3, a4, a5, rfl⟩ := zx_i6 hl
  have e0 : (0 : Int) + ((-4294967296) * a0 + (1 * a1 + ((-1) * a2 + ((-18446744073709551616) * a3 + ((-79228162514264337593543950336) * a4 + 0))))) = 0 := he _ List.mem_cons_self
  have e1 : ((-1) : Int) + (1 * (zk_xe w 2000175 a1) + 0) = 0 := he _ (List.mem_cons_of_mem _ List.mem_cons_self)
  have e2 : ((-4294967296) : Int) + ((-4294967296) * a0 + ((-1) * a2 + ((-18446744073709551616) * a3 + ((-79228162514264337593543950336) * a4 + (1 * a5 + 0))))) = 0 := he _ (List.mem_cons_of_mem _ (List.mem_cons_of_mem _ List.mem_cons_self))
  have g0 : 0 ≤ (0 : Int) + (1 * a0 + 0) := hg _ List.mem_cons_self
  have g1 : 0 ≤ (4294967276 : Int) + ((-1) * a0 + 0) := hg _ (List.mem_cons_of_mem _ List.mem_cons_self)
  have g2 : 0 ≤ (0 : Int) + (1 * a2 + 0) := hg _ (List.mem_cons_of_mem _ (List.mem_cons_of_mem _ List.mem_cons_self))
  have g3 : 0 ≤ (4294967276 : Int) + ((-1) * a2 + 0) := hg _ (List.mem_cons_of_mem _ (List.mem_cons_of_mem _ (List.mem_cons_of_mem _ List.mem_cons_self)))
  have g4 : 0 ≤ (0 : Int) + (1 * a3 + 0) := hg _ (List.mem_cons_of_mem _ (List.mem_cons_of_mem _ (List.mem_cons_of_mem _ (List.mem_cons_of_mem _ List.mem_cons_self))))
  have g5 : 0 ≤ (4294967276 : Int) + ((-1) * a3 + 0) := hg _ (List.mem_cons_of_mem _ (List.mem_cons_of_mem _ (List.mem_cons_of_mem _ (List.mem_cons_of_mem _ (List.mem_cons_of_mem _ List.mem_cons_self)))))
  have g6 : 0 ≤ (0 : Int) + (1 * a4 + 0) := hg _ (List.mem_cons_of_mem _ (List.mem_cons_of_mem _ (List.mem_cons_of_mem _ (List.mem_cons_of_mem _ (List.mem_cons_of_mem _ (List.mem_cons_of_mem _ List.mem_cons_self))))))
  have g7 : 0 ≤ (4294967276 : Int) + ((-1) * a4 + 0) := hg _ (List.mem_cons_of_mem _ (List.mem_cons_of_mem _ (List.mem_cons_of_mem _ (List.mem_cons_of_mem _ (List.mem_cons_of_mem _ (List.mem_cons_of_mem _ (List.mem_cons_of_mem _ List.mem_cons_self)))))))
  have g8 : 0 ≤ (0 : Int) + ((-1) * (zk_xe w 176 a0) + 0) := hg _ (List.mem_cons_of_mem _ (List.mem_cons_of_mem _ (List.mem_cons_of_mem _ (List.mem_cons_of_mem _ (List.mem_cons_of_mem _ (List.mem_cons_of_mem _ (List.mem_cons_of_mem _ (List.mem_cons_of_mem _ List.mem_cons_self))))))))
  have r0 : 0 ≤ a1 := hr _ List.mem_cons_self
  have r1 : 0 ≤ a0 := hr _ (List.mem_cons_of_mem _ List.mem_cons_self)
  have hx := (zj_n175 (w := w) (p := a1) (n := a2) (u := a0) (h := a3) (N := a4) (by omega) (by omega) (by omega) (by omega) (by omega) (by omega) (by omega) (by omega) (by omega) ).mp (by omega)
  have k0 : zh_e w 176 (a0) = zk_xe w 176 a0 := by rw [zk_xe_r (i := 176) (by decide)]; show zk_el w 176 (a0) = zk_el w 176 a0; rw [show a0 = a0 by omega]
  have h : zk_xe w 2000174 a5 = 1 := by
    refine (zj_n174 (w := w) (p := a5) (n := a2) (u := (a0 + 1)) (h := a3) (N := a4) (by omega) (by omega) (by omega) (by omega) (by omega) (by omega) (by omega) (by omega) (by omega) ).mpr (fun v v0 v1 v2 => ?_)
    by_cases c : v = a0
    · rw [c, k0] at v2
      omega
    · have z := hx v v0 v1 c v2
      by_cases c2 : v < a0
      · rw [if_pos c2] at z
        rw [if_pos (show v < a0 + 1 by omega)]
        exact z
      · rw [if_neg c2] at z
        rw [if_neg (show ¬ (v < a0 + 1) by omega)]
        exact z
  exact ⟨_, List.mem_cons_self, [], rfl, zx_bnil, zx_cs0, (zx_eF1 (by show 0 ≤ (0 : Int) + (1 * a5 + 0); omega) (by show zk_xe w 2000174 ((0 : Int) + (1 * a5 + 0)) = (1 : Int) + (0); rw [show (0 : Int) + (1 * a5 + 0) = a5 by omega]; exact h.trans (by omega)) zx_eF0), zx_k0⟩
def zx_D1194 : zx_L := zx_Lc [] 6 [(2000174, 0)] [] [((0, 0), [(0, 1, 0), (1, 0, 1), (2, 0, 4294967296), (3, 0, 18446744073709551616), (4, 0, 79228162514264337593543950336)]), ((0, 1), [(6, 1, 0)]), ((0, 0), [(1, 0, 1), (4, 0, 18446744073709551616), (5, 1, 0)])] [((0, 0), [(1, 1, 0)]), ((4294967276, 0), [(1, 0, 1)]), ((0, 0), [(2, 1, 0)]), ((4294967276, 0), [(2, 0, 1)]), ((0, 0), [(3, 1, 0)]), ((4294967276, 0), [(3, 0, 1)]), ((0, 0), [(4, 1, 0)]), ((4294967276, 0), [(4, 0, 1)]), ((0, 0), [(1, 0, 1), (2, 1, 0)])] [([], [], [(2000172, ((0, 0), [(5, 1, 0)]), ((1, 0), []))], [])]
theorem zx_D1194_ok {PT : Nat → zz_W → Prop} : zx_Lok 64 zHT PT zx_D1194 := by
  refine zx_Lc_ok (fun w hI hK ins hl hr he hg => ?_)
  obtain ⟨a0, a1, a2, a3, a4, a5, rfl⟩ := zx_i6 hl
  have e0 : (0 : Int) + (1 * a0 + ((-1) * a1 + ((-4294967296) * a2 + ((-18446744073709551616) * a3 + ((-79228162514264337593543950336) * a4 + 0))))) = 0 := he _ List.mem_cons_self
  have e1 : ((-1) : Int) + (1 * (zk_xe w 2000174 a0) + 0) = 0 := he _ (List.mem_cons_of_mem _ List.mem_cons_self)
  have e2 : (0 : Int) + ((-1) * a1 + ((-18446744073709551616) * a4 + (1 * a5 + 0))) = 0 := he _ (List.mem_cons_of_mem _ (List.mem_cons_of_mem _ List.mem_cons_self))
  have g0 : 0 ≤ (0 : Int) + (1 * a1 + 0) := hg _ List.mem_cons_self
  have g1 : 0 ≤ (4294967276 : Int) + ((-1) * a1 + 0) := hg _ (List.mem_cons_of_mem _ List.mem_cons_self)
  have g2 : 0 ≤ (0 : Int) + (1 * a2 + 0) := hg _ (List.mem_cons_of_mem _ (List.mem_cons_of_mem _ List.mem_cons_self))
  have g3 : 0 ≤ (4294967276 : Int) + ((-1) * a2 + 0) := hg _ (List.mem_cons_of_mem _ (List.mem_cons_of_mem _ (List.mem_cons_of_mem _ List.mem_cons_self)))
  have g4 : 0 ≤ (0 : Int) + (1 * a3 + 0) := hg _ (List.mem_cons_of_mem _ (List.mem_cons_of_mem _ (List.mem_cons_of_mem _ (List.mem_cons_of_mem _ List.mem_cons_self))))
  have g5 : 0 ≤ (4294967276 : Int) + ((-1) * a3 + 0) := hg _ (List.mem_cons_of_mem _ (List.mem_cons_of_mem _ (List.mem_cons_of_mem _ (List.mem_cons_of_mem _ (List.mem_cons_of_mem _ List.mem_cons_self)))))
  have g6 : 0 ≤ (0 : Int) + (1 * a4 + 0) := hg _ (List.mem_cons_of_mem _ (List.mem_cons_of_mem _ (List.mem_cons_of_mem _ (List.mem_cons_of_mem _ (List.mem_cons_of_mem _ (List.mem_cons_of_mem _ List.mem_cons_self))))))
  have g7 : 0 ≤ (4294967276 : Int) + ((-1) * a4 + 0) := hg _ (List.mem_cons_of_mem _ (List.mem_cons_of_mem _ (List.mem_cons_of_mem _ (List.mem_cons_of_mem _ (List.mem_cons_of_mem _ (List.mem_cons_of_mem _ (List.mem_cons_of_mem _ List.mem_cons_self)))))))
  have g8 : 0 ≤ (0 : Int) + ((-1) * a1 + (1 * a2 + 0)) := hg _ (List.mem_cons_of_mem _ (List.mem_cons_of_mem _ (List.mem_cons_of_mem _ (List.mem_cons_of_mem _ (List.mem_cons_of_mem _ (List.mem_cons_of_mem _ (List.mem_cons_of_mem _ (List.mem_cons_of_mem _ List.mem_cons_self))))))))
  have r0 : 0 ≤ a0 := hr _ List.mem_cons_self
  have hp := (zj_n174 (w := w) (p := a0) (n := a1) (u := a2) (h := a3) (N := a4) (by omega) (by omega) (by omega) (by omega) (by omega) (by omega) (by omega) (by omega) (by omega) ).mp (by omega)
  have h : zk_xe w 2000172 a5 = 1 := by
    refine (zj_n172 (w := w) (j := a5) (n := a1) (N := a4) (by omega) (by omega) (by omega) (by omega) (by omega) ).mpr (fun v v0 v1 v2 => ?_)
    have z := hp v v0 v1 v2
    rw [if_pos (show v < a2 by omega)] at z
    exact z
  exact ⟨_, List.mem_cons_self, [], rfl, zx_bnil, zx_cs0, (zx_eF1 (by show 0 ≤ (0 : Int) + (1 * a5 + 0); omega) (by show zk_xe w 2000172 ((0 : Int) + (1 * a5 + 0)) = (1 : Int) + (0); rw [show (0 : Int) + (1 * a5 + 0) = a5 by omega]; exact h.trans (by omega)) zx_eF0), zx_k0⟩
def zx_D1195 : zx_L := zx_Lc [] 5 [(2000165, 0)] [] [((0, 0), [(0, 1, 0), (1, 0, 1), (2, 0, 4294967296)]), ((0, 1), [(5, 1, 0)]), ((0, 0), [(2, 0, 4294967296), (3, 1, 0), (4, 0, 1)])] [((0, 0), [(1, 1, 0)]), ((4294967276, 0), [(1, 0, 1)]), ((0, 0), [(2, 1, 0)]), ((4294967276, 0), [(2, 0, 1)]), ((0, 0), [(4, 1, 0)]), ((4294967276, 0), [(4, 0, 1)]), ((0, 0), [(1, 1, 0), (4, 0, 1)])] [([], [], [(2000165, ((0, 0), [(3, 1, 0)]), ((1, 0), []))], [])]
theorem zx_D1195_ok {PT : Nat → zz_W → Prop} : zx_Lok 64 zHT PT zx_D1195 := by
  refine zx_Lc_ok (fun w hI hK ins hl hr he hg => ?_)
  obtain ⟨a0, a1, a2, a3, a4, rfl⟩ := zx_i5 hl
  have e0 : (0 : Int) + (1 * a0 + ((-1) * a1 + ((-4294967296) * a2 + 0))) = 0 := he _ List.mem_cons_self
  have e1 : ((-1) : Int) + (1 * (zk_xe w 2000165 a0) + 0) = 0 := he _ (List.mem_cons_of_mem _ List.mem_cons_self)
  have e2 : (0 : Int) + ((-4294967296) * a2 + (1 * a3 + ((-1) * a4 + 0))) = 0 := he _ (List.mem_cons_of_mem _ (List.mem_cons_of_mem _ List.mem_cons_self))
  have g0 : 0 ≤ (0 : Int) + (1 * a1 + 0) := hg _ List.mem_cons_self
  have g1 : 0 ≤ (4294967276 : Int) + ((-1) * a1 + 0) := hg _ (List.mem_cons_of_mem _ List.mem_cons_self)
  have g2 : 0 ≤ (0 : Int) + (1 * a2 + 0) := hg _ (List.mem_cons_of_mem _ (List.mem_cons_of_mem _ List.mem_cons_self))
  have g3 : 0 ≤ (4294967276 : Int) + ((-1) * a2 + 0) := hg _ (List.mem_cons_of_mem _ (List.mem_cons_of_mem _ (List.mem_cons_of_mem _ List.mem_cons_self)))
  have g4 : 0 ≤ (0 : Int) + (1 * a4 + 0) := hg _ (List.mem_cons_of_mem _ (List.mem_cons_of_mem _ (List.mem_cons_of_mem _ (List.mem_cons_of_mem _ List.mem_cons_self))))
  have g5 : 0 ≤ (4294967276 : Int) + ((-1) * a4 + 0) := hg _ (List.mem_cons_of_mem _ (List.mem_cons_of_mem _ (List.mem_cons_of_mem _ (List.mem_cons_of_mem _ (List.mem_cons_of_mem _ List.mem_cons_self)))))
  have g6 : 0 ≤ (0 : Int) + (1 * a1 + ((-1) * a4 + 0)) := hg _ (List.mem_cons_of_mem _ (List.mem_cons_of_mem _ (List.mem_cons_of_mem _ (List.mem_cons_of_mem _ (List.mem_cons_of_mem _ (List.mem_cons_of_mem _ List.mem_cons_self))))))
  have r0 : 0 ≤ a0 := hr _ List.mem_cons_self
  have hp := (zj_165 (w := w) (j := a0) (i := a1) (N := a2) (by omega) (by omega) (by omega) (by omega) (by omega) ).mp (by omega)
  have h : zk_xe w 2000165 a3 = 1 := by
    refine (zj_165 (w := w) (j := a3) (i := a4) (N := a2) (by omega) (by omega) (by omega) (by omega) (by omega) ).mpr (fun m m0 m1 => ⟨(hp m m0 (by omega)).1, fun n n0 n1 => (hp m m0 (by omega)).2 n n0 (by omega)⟩)
  exact ⟨_, List.mem_cons_self, [], rfl, zx_bnil, zx_cs0, (zx_eF1 (by show 0 ≤ (0 : Int) + (1 * a3 + 0); omega) (by show zk_xe w 2000165 ((0 : Int) + (1 * a3 + 0)) = (1 : Int) + (0); rw [show (0 : Int) + (1 * a3 + 0) = a3 by omega]; exact h.trans (by omega)) zx_eF0), zx_k0⟩
def zx_D1196 : zx_L := zx_Lc [] 7 [(2000173, 0), (203, 1)] [] [((0, 0), [(0, 1, 0), (1, 0, 1), (2, 0, 4294967296), (3, 0, 18446744073709551616), (4, 0, 79228162514264337593543950336), (5, 0, 340282366920938463463374607431768211456)]), ((0, 1), [(7, 1, 0)]), ((0, 2576980377600), [(1, 0, 1), (3, 0, 18446744073709551616), (4, 0, 79228162514264337593543950336), (5, 0, 340282366920938463463374607431768211456), (6, 1, 0)])] [((0, 0), [(1, 1, 0)]), ((4294967276, 0), [(1, 0, 1)]), ((0, 0), [(2, 1, 0)]), ((4294967276, 0), [(2, 0, 1)]), ((0, 0), [(3, 1, 0)]), ((4294967276, 0), [(3, 0, 1)]), ((0, 0), [(4, 1, 0)]), ((4294967276, 0), [(4, 0, 1)]), ((0, 0), [(5, 1, 0)]), ((4294967276, 0), [(5, 0, 1)]), ((0, 0), [(2, 1, 0), (8, 0, 1)]), ((600, 0), [(8, 0, 1)])] [([], [], [(2000173, ((0, 0), [(6, 1, 0)]), ((1, 0), []))], [])]
theorem zx_D1196_ok {PT : Nat → zz_W → Prop} : zx_Lok 64 zHT PT zx_D1196 := by
  refine zx_Lc_ok (fun w hI hK ins hl hr he hg => ?_)
  obtain ⟨a0, a1, a2, a3, a4, a5, a6, rfl⟩ := zx_i7 hl
  have e0 : (0 : Int) + (1 * a0 + ((-1) * a1 + ((-4294967296) * a2 + ((-18446744073709551616) * a3 + ((-79228162514264337593543950336) * a4 + ((-340282366920938463463374607431768211456) * a5 + 0)))))) = 0 := he _ List.mem_cons_self
  have e1 : ((-1) : Int) + (1 * (zk_xe w 2000173 a0) + 0) = 0 := he _ (List.mem_cons_of_mem _ List.mem_cons_self)
  have e2 : ((-2576980377600) : Int) + ((-1) * a1 + ((-18446744073709551616) * a3 + ((-79228162514264337593543950336) * a4 + ((-340282366920938463463374607431768211456) * a5 + (1 * a6 + 0))))) = 0 := he _ (List.mem_cons_of_mem _ (List.mem_cons_of_mem _ List.mem_cons_self))
  have g0 : 0 ≤ (0 : Int) + (1 * a1 + 0) := hg _ List.mem_cons_self
  have g1 : 0 ≤ (4294967276 : Int) + ((-1) * a1 + 0) := hg _ (List.mem_cons_of_mem _ List.mem_cons_self)
  have g2 : 0 ≤ (0 : Int) + (1 * a2 + 0) := hg _ (List.mem_cons_of_mem _ (List.mem_cons_of_mem _ List.mem_cons_self))
  have g3 : 0 ≤ (4294967276 : Int) + ((-1) * a2 + 0) := hg _ (List.mem_cons_of_mem _ (List.mem_cons_of_mem _ (List.mem_cons_of_mem _ List.mem_cons_self)))
  have g4 : 0 ≤ (0 : Int) + (1 * a3 + 0) := hg _ (List.mem_cons_of_mem _ (List.mem_cons_of_mem _ (List.mem_cons_of_mem _ (List.mem_cons_of_mem _ List.mem_cons_self))))
  have g5 : 0 ≤ (4294967276 : Int) + ((-1) * a3 + 0) := hg _ (List.mem_cons_of_mem _ (List.mem_cons_of_mem _ (List.mem_cons_of_mem _ (List.mem_cons_of_mem _ (List.mem_cons_of_mem _ List.mem_cons_self)))))
  have g6 : 0 ≤ (0 : Int) + (1 * a4 + 0) := hg _ (List.mem_cons_of_mem _ (List.mem_cons_of_mem _ (List.mem_cons_of_mem _ (List.mem_cons_of_mem _ (List.mem_cons_of_mem _ (List.mem_cons_of_mem _ List.mem_cons_self))))))
  have g7 : 0 ≤ (4294967276 : Int) + ((-1) * a4 + 0) := hg _ (List.mem_cons_of_mem _ (List.mem_cons_of_mem _ (List.mem_cons_of_mem _ (List.mem_cons_of_mem _ (List.mem_cons_of_mem _ (List.mem_cons_of_mem _ (List.mem_cons_of_mem _ List.mem_cons_self)))))))
  have g8 : 0 ≤ (0 : Int) + (1 * a5 + 0) := hg _ (List.mem_cons_of_mem _ (List.mem_cons_of_mem _ (List.mem_cons_of_mem _ (List.mem_cons_of_mem _ (List.mem_cons_of_mem _ (List.mem_cons_of_mem _ (List.mem_cons_of_mem _ (List.mem_cons_of_mem _ List.mem_cons_self))))))))
  have g9 : 0 ≤ (4294967276 : Int) + ((-1) * a5 + 0) := hg _ (List.mem_cons_of_mem _ (List.mem_cons_of_mem _ (List.mem_cons_of_mem _ (List.mem_cons_of_mem _ (List.mem_cons_of_mem _ (List.mem_cons_of_mem _ (List.mem_cons_of_mem _ (List.mem_cons_of_mem _ (List.mem_cons_of_mem _ List.mem_cons_self)))))))))
  have g10 : 0 ≤ (0 : Int) + (1 * a2 + ((-1) * (zk_xe w 203 a1) + 0)) := hg _ (List.mem_cons_of_mem _ (List.mem_cons_of_mem _ (List.mem_cons_of_mem _ (List.mem_cons_of_mem _ (List.mem_cons_of_mem _ (List.mem_cons_of_mem _ (List.mem_cons_of_mem _ (List.mem_cons_of_mem _ (List.mem_cons_of_mem _ (List.mem_cons_of_mem _ List.mem_cons_self))))))))))
  have g11 : 0 ≤ (600 : Int) + ((-1) * (zk_xe w 203 a1) + 0) := hg _ (List.mem_cons_of_mem _ (List.mem_cons_of_mem _ (List.mem_cons_of_mem _ (List.mem_cons_of_mem _ (List.mem_cons_of_mem _ (List.mem_cons_of_mem _ (List.mem_cons_of_mem _ (List.mem_cons_of_mem _ (List.mem_cons_of_mem _ (List.mem_cons_of_mem _ (List.mem_cons_of_mem _ List.mem_cons_self)))))))))))
  have r0 : 0 ≤ a0 := hr _ List.mem_cons_self
  have r1 : 0 ≤ a1 := hr _ (List.mem_cons_of_mem _ List.mem_cons_self)
  have hp := (zj_n173 (w := w) (p := a0) (u := a1) (i := a2) (j := a3) (k := a4) (h := a5) (by omega) (by omega) (by omega) (by omega) (by omega) (by omega) (by omega) (by omega) (by omega) (by omega) (by omega) ).mp (by omega)
  have k0 : zh_e w 203 (a1) = zk_xe w 203 a1 := by rw [zk_xe_r (i := 203) (by decide)]; show zk_el w 203 (a1) = zk_el w 203 a1; rw [show a1 = a1 by omega]
  have h : zk_xe w 2000173 a6 = 1 := by
    refine (zj_n173 (w := w) (p := a6) (u := a1) (i := 600) (j := a3) (k := a4) (h := a5) (by omega) (by omega) (by omega) (by omega) (by omega) (by omega) (by omega) (by omega) (by omega) (by omega) (by omega) ).mpr (fun q => ?_)
    obtain ⟨A0, D0, V0, h1, h3, h4, h5⟩ := hp q
    refine ⟨A0, D0, V0, h1, fun x x0 x1 x2 => ⟨?_, (h3 x x0 x1 x2).2⟩, h4, h5⟩
    have a := (h3 x x0 x1 x2).1
    rw [if_pos (show x < a2 by omega)] at a
    rw [if_pos (show x < 600 by omega)]
    exact a
  exact ⟨_, List.mem_cons_self, [], rfl, zx_bnil, zx_cs0, (zx_eF1 (by show 0 ≤ (0 : Int) + (1 * a6 + 0); omega) (by show zk_xe w 2000173 ((0 : Int) + (1 * a6 + 0)) = (1 : Int) + (0); rw [show (0 : Int) + (1 * a6 + 0) = a6 by omega]; exact h.trans (by omega)) zx_eF0), zx_k0⟩
def zx_D1197 : zx_L := zx_Lc [] 7 [(2000173, 0), (213, 1)] [] [((0, 0), [(0, 1, 0), (1, 0, 1), (2, 0, 4294967296), (3, 0, 18446744073709551616), (4, 0, 79228162514264337593543950336), (5, 0, 340282366920938463463374607431768211456)]), ((0, 1), [(7, 1, 0)]), ((0, 1180591620717411303424), [(1, 0, 1), (2, 0, 4294967296), (4, 0, 79228162514264337593543950336), (5, 0, 340282366920938463463374607431768211456), (6, 1, 0)])] [((0, 0), [(1, 1, 0)]), ((4294967276, 0), [(1, 0, 1)]), ((0, 0), [(2, 1, 0)]), ((4294967276, 0), [(2, 0, 1)]), ((0, 0), [(3, 1, 0)]), ((4294967276, 0), [(3, 0, 1)]), ((0, 0), [(4, 1, 0)]), ((4294967276, 0), [(4, 0, 1)]), ((0, 0), [(5, 1, 0)]), ((4294967276, 0), [(5, 0, 1)]), ((0, 0), [(3, 1, 0), (8, 0, 1)]), ((64, 0), [(8, 0, 1)])] [([], [], [(2000173, ((0, 0), [(6, 1, 0)]), ((1, 0), []))], [])]
theorem zx_D1197_ok {PT : Nat → zz_W → Prop} : zx_Lok 64 zHT PT zx_D1197 := by
  refine zx_Lc_ok (fun w hI hK ins hl hr he hg => ?_)
  obtain ⟨a0, a1, a2, a3, a4, a5, a6, rfl⟩ := zx_i7 hl
  have e0 : (0 : Int) + (1 * a0 + ((-1) * a1 + ((-4294967296) * a2 + ((-18446744073709551616) * a3 + ((-79228162514264337593543950336) * a4 + ((-340282366920938463463374607431768211456) * a5 + 0)))))) = 0 := he _ List.mem_cons_self
  have e1 : ((-1) : Int) + (1 * (zk_xe w 2000173 a0) + 0) = 0 := he _ (List.mem_cons_of_mem _ List.mem_cons_self)
  have e2 : ((-1180591620717411303424) : Int) + ((-1) * a1 + ((-4294967296) * a2 + ((-79228162514264337593543950336) * a4 + ((-340282366920938463463374607431768211456) * a5 + (1 * a6 + 0))))) = 0 := he _ (List.mem_cons_of_mem _ (List.mem_cons_of_mem _ List.mem_cons_self))
  have g0 : 0 ≤ (0 : Int) + (1 * a1 + 0) := hg _ List.mem_cons_self
  have g1 : 0 ≤ (4294967276 : Int) + ((-1) * a1 + 0) := hg _ (List.mem_cons_of_mem _ List.mem_cons_self)
  have g2 : 0 ≤ (0 : Int) + (1 * a2 + 0) := hg _ (List.mem_cons_of_mem _ (List.mem_cons_of_mem _ List.mem_cons_self))
  have g3 : 0 ≤ (4294967276 : Int) + ((-1) * a2 + 0) := hg _ (List.mem_cons_of_mem _ (List.mem_cons_of_mem _ (List.mem_cons_of_mem _ List.mem_cons_self)))
  have g4 : 0 ≤ (0 : Int) + (1 * a3 + 0) := hg _ (List.mem_cons_of_mem _ (List.mem_cons_of_mem _ (List.mem_cons_of_mem _ (List.mem_cons_of_mem _ List.mem_cons_self))))
  have g5 : 0 ≤ (4294967276 : Int) + ((-1) * a3 + 0) := hg _ (List.mem_cons_of_mem _ (List.mem_cons_of_mem _ (List.mem_cons_of_mem _ (List.mem_cons_of_mem _ (List.mem_cons_of_mem _ List.mem_cons_self)))))
  have g6 : 0 ≤ (0 : Int) + (1 * a4 + 0) := hg _ (List.mem_cons_of_mem _ (List.mem_cons_of_mem _ (List.mem_cons_of_mem _ (List.mem_cons_of_mem _ (List.mem_cons_of_mem _ (List.mem_cons_of_mem _ List.mem_cons_self))))))
  have g7 : 0 ≤ (4294967276 : Int) + ((-1) * a4 + 0) := hg _ (List.mem_cons_of_mem _ (List.mem_cons_of_mem _ (List.mem_cons_of_mem _ (List.mem_cons_of_mem _ (List.mem_cons_of_mem _ (List.mem_cons_of_mem _ (List.mem_cons_of_mem _ List.mem_cons_self)))))))
  have g8 : 0 ≤ (0 : Int) + (1 * a5 + 0) := hg _ (List.mem_cons_of_mem _ (List.mem_cons_of_mem _ (List.mem_cons_of_mem _ (List.mem_cons_of_mem _ (List.mem_cons_of_mem _ (List.mem_cons_of_mem _ (List.mem_cons_of_mem _ (List.mem_cons_of_mem _ List.mem_cons_self))))))))
  have g9 : 0 ≤ (4294967276 : Int) + ((-1) * a5 + 0) := hg _ (List.mem_cons_of_mem _ (List.mem_cons_of_mem _ (List.mem_cons_of_mem _ (List.mem_cons_of_mem _ (List.mem_cons_of_mem _ (List.mem_cons_of_mem _ (List.mem_cons_of_mem _ (List.mem_cons_of_mem _ (List.mem_cons_of_mem _ List.mem_cons_self)))))))))
  have g10 : 0 ≤ (0 : Int) + (1 * a3 + ((-1) * (zk_xe w 213 a1) + 0)) := hg _ (List.mem_cons_of_mem _ (List.mem_cons_of_mem _ (List.mem_cons_of_mem _ (List.mem_cons_of_mem _ (List.mem_cons_of_mem _ (List.mem_cons_of_mem _ (List.mem_cons_of_mem _ (List.mem_cons_of_mem _ (List.mem_cons_of_mem _ (List.mem_cons_of_mem _ List.mem_cons_self))))))))))
  have g11 : 0 ≤ (64 : Int) + ((-1) * (zk_xe w 213 a1) + 0) := hg _ (List.mem_cons_of_mem _ (List.mem_cons_of_mem _ (List.mem_cons_of_mem _ (List.mem_cons_of_mem _ (List.mem_cons_of_mem _ (List.mem_cons_of_mem _ (List.mem_cons_of_mem _ (List.mem_cons_of_mem _ (List.mem_cons_of_mem _ (List.mem_cons_of_mem _ (List.mem_cons_of_mem _ List.mem_cons_self)))))))))))
  have r0 : 0 ≤ a0 := hr _ List.mem_cons_self
  have r1 : 0 ≤ a1 := hr _ (List.mem_cons_of_mem _ List.mem_cons_self)
  have hp := (zj_n173 (w := w) (p := a0) (u := a1) (i := a2) (j := a3) (k := a4) (h := a5) (by omega) (by omega) (by omega) (by omega) (by omega) (by omega) (by omega) (by omega) (by omega) (by omega) (by omega) ).mp (by omega)
  have k0 : zh_e w 213 (a1) = zk_xe w 213 a1 := by rw [zk_xe_r (i := 213) (by decide)]; show zk_el w 213 (a1) = zk_el w 213 a1; rw [show a1 = a1 by omega]
  have h : zk_xe w 2000173 a6 = 1 := by
    refine (zj_n173 (w := w) (p := a6) (u := a1) (i := a2) (j := 64) (k := a4) (h := a5) (by omega) (by omega) (by omega) (by omega) (by omega) (by omega) (by omega) (by omega) (by omega) (by omega) (by omega) ).mpr (fun q => ?_)
    obtain ⟨A0, D0, V0, h1, h3, h4, h5⟩ := hp q
    refine ⟨A0, D0, V0, h1, h3, fun x x0 x1 x2 => ⟨?_, (h4 x x0 x1 x2).2⟩, h5⟩
    have a := (h4 x x0 x1 x2).1
    rw [if_pos (show x < a3 by omega)] at a
    rw [if_pos (show x < 64 by omega)]
    exact a
  exact ⟨_, List.mem_cons_self, [], rfl, zx_bnil, zx_cs0, (zx_eF1 (by show 0 ≤ (0 : Int) + (1 * a6 + 0); omega) (by show zk_xe w 2000173 ((0 : Int) + (1 * a6 + 0)) = (1 : Int) + (0); rw [show (0 : Int) + (1 * a6 + 0) = a6 by omega]; exact h.trans (by omega)) zx_eF0), zx_k0⟩
theorem zj_16a {w : zz_W} {n : Int} (h : zu_P (zu_T 16) w [n]) (n1 : n ≤ 6) : ∀ u, 0 ≤ u → u < n → 1 ≤ zh_e w 176 u → ∀ k, 0 ≤ k → k < zh_e w 207 u → k < 8000 → zj_nm (zh_e w 208 (8000 * u + k)) → 0 ≤ zh_e w 209 (8000 * u + k) ∧ zh_e w 209 (8000 * u + k) ≤ 65535 := by
  intro u u0 u1 u2 k k0 k1 k2 k3
  have hix : zu_ix [6, 8000] [u, k] := by
    refine ⟨rfl, fun j N hj => ?_⟩
    cases j with
    | zero =>
      have e : 6 = N := Option.some.inj hj
      rw [← e]
      exact ⟨u0, by show u < ((6 : Nat) : Int); omega⟩
    | succ j =>
      cases j with
      | zero =>
        have e : 8000 = N := Option.some.inj hj
        rw [← e]
        exact ⟨k0, k2⟩
      | succ j =>
        simp at hj
  have e1 : (0 : Int) + (1 * u + 0) = u := by omega
  have e2 : (0 : Int) + (8000 * u + (1 * k + 0)) = 8000 * u + k := by omega
  obtain ⟨d, hd, hc⟩ := h [u, k] hix
  have hd : d ∈ [[((0, 0), [(6, 0, 1)])], [((0, 0), [(1, 1, 0), (3, 0, 1)])], [((0, 0), [(0, 1, 0), (2, 0, 1)])], [((4, 0), [(4, 0, 1)])], [((0, 9), [(4, 1, 0)]), ((10, 0), [(4, 0, 1)])], [((0, 13), [(4, 1, 0)])], [((0, 0), [(5, 1, 0)]), ((65535, 0), [(5, 0, 1)])]] := hd
  have k3 : (5 ≤ zk_el w 208 (8000 * u + k) ∧ zk_el w 208 (8000 * u + k) ≤ 8) ∨ (11 ≤ zk_el w 208 (8000 * u + k) ∧ zk_el w 208 (8000 * u + k) ≤ 12) := k3
  have u2 : 1 ≤ zk_el w 176 u := u2
  have k1 : k < zk_el w 207 u := k1
  show 0 ≤ zk_el w 209 (8000 * u + k) ∧ zk_el w 209 (8000 * u + k) ≤ 65535
  rcases List.mem_cons.mp hd with hq | hd
  · subst hq
    have c : 0 ≤ (0 : Int) + ((-1) * zk_el w 176 ((0 : Int) + (1 * u + 0)) + 0) := hc _ List.mem_cons_self
    rw [e1] at c
    omega
  rcases List.mem_cons.mp hd with hq | hd
  · subst hq
    have c : 0 ≤ (0 : Int) + (1 * k + ((-1) * zk_el w 207 ((0 : Int) + (1 * u + 0)) + 0)) := hc _ List.mem_cons_self
    rw [e1] at c
    omega
  rcases List.mem_cons.mp hd with hq | hd
  · subst hq
    have c : 0 ≤ (0 : Int) + (1 * u + ((-1) * n + 0)) := hc _ List.mem_cons_self
    omega
  rcases List.mem_cons.mp hd with hq | hd
  · subst hq
    have c : 0 ≤ (4 : Int) + ((-1) * zk_el w 208 ((0 : Int) + (8000 * u + (1 * k + 0))) + 0) := hc _ List.mem_cons_self
    rw [e2] at c
    omega
  rcases List.mem_cons.mp hd with hq | hd
  · subst hq
    have c : 0 ≤ (-9 : Int) + (1 * zk_el w 208 ((0 : Int) + (8000 * u + (1 * k + 0))) + 0) := hc _ List.mem_cons_self
    have c' : 0 ≤ (10 : Int) + ((-1) * zk_el w 208 ((0 : Int) + (8000 * u + (1 * k + 0))) + 0) := hc _ (List.mem_cons_of_mem _ List.mem_cons_self)
    rw [e2] at c c'
    omega
  rcases List.mem_cons.mp hd with hq | hd
  · subst hq
    have c : 0 ≤ (-13 : Int) + (1 * zk_el w 208 ((0 : Int) + (8000 * u + (1 * k + 0))) + 0) := hc _ List.mem_cons_self
    rw [e2] at c
    omega
  rcases List.mem_cons.mp hd with hq | hd
  · subst hq
    have c : 0 ≤ (0 : Int) + (1 * zk_el w 209 ((0 : Int) + (8000 * u + (1 * k + 0))) + 0) := hc _ List.mem_cons_self
    have c' : 0 ≤ (65535 : Int) + ((-1) * zk_el w 209 ((0 : Int) + (8000 * u + (1 * k + 0))) + 0) := hc _ (List.mem_cons_of_mem _ List.mem_cons_self)
    rw [e2] at c c'
    omega
  · exact absurd hd List.not_mem_nil
theorem zj_16b {w : zz_W} {n : Int} (h : ∀ u, 0 ≤ u → u < n → 1 ≤ zh_e w 176 u → ∀ k, 0 ≤ k → k < zh_e w 207 u → k < 8000 → zj_nm (zh_e w 208 (8000 * u + k)) → 0 ≤ zh_e w 209 (8000 * u + k) ∧ zh_e w 209 (8000 * u + k) ≤ 65535) : zu_P (zu_T 16) w [n] := by
  intro ix hix
  obtain ⟨hl, hb⟩ := hix
  have hl : ix.length = 2 := hl
  obtain ⟨u, k, rfl⟩ := zx_i2 hl
  have hu : 0 ≤ u ∧ u < ((6 : Nat) : Int) := hb 0 6 rfl
  have hk : 0 ≤ k ∧ k < ((8000 : Nat) : Int) := hb 1 8000 rfl
  have e1 : (0 : Int) + (1 * u + 0) = u := by omega
  have e2 : (0 : Int) + (8000 * u + (1 * k + 0)) = 8000 * u + k := by omega
  have one : ∀ (c : zl_E) (d : List (List zl_E)), [c] ∈ d → 0 ≤ zl_ev (fun m => (zu_ex w (zu_T 16).1 ([u, k] ++ [n])).getD m 0) c → ∃ q ∈ d, zk_cs (fun m => (zu_ex w (zu_T 16).1 ([u, k] ++ [n])).getD m 0) q := fun c d hd hc => ⟨[c], hd, fun c' h' => by rw [List.mem_singleton.mp h']; exact hc⟩
  show ∃ d ∈ [[((0, 0), [(6, 0, 1)])], [((0, 0), [(1, 1, 0), (3, 0, 1)])], [((0, 0), [(0, 1, 0), (2, 0, 1)])], [((4, 0), [(4, 0, 1)])], [((0, 9), [(4, 1, 0)]), ((10, 0), [(4, 0, 1)])], [((0, 13), [(4, 1, 0)])], [((0, 0), [(5, 1, 0)]), ((65535, 0), [(5, 0, 1)])]], zk_cs (fun m => (zu_ex w (zu_T 16).1 ([u, k] ++ [n])).getD m 0) d
  by_cases c1 : zk_el w 176 u ≤ 0
  · refine one ((0, 0), [(6, 0, 1)]) _ List.mem_cons_self ?_
    show 0 ≤ (0 : Int) + ((-1) * zk_el w 176 ((0 : Int) + (1 * u + 0)) + 0)
    rw [e1]
    omega
  by_cases c2 : zk_el w 207 u ≤ k
  · refine one ((0, 0), [(1, 1, 0), (3, 0, 1)]) _ (List.mem_cons_of_mem _ List.mem_cons_self) ?_
    show 0 ≤ (0 : Int) + (1 * k + ((-1) * zk_el w 207 ((0 : Int) + (1 * u + 0)) + 0))
    rw [e1]
    omega
  by_cases c3 : n ≤ u
  · refine one ((0, 0), [(0, 1, 0), (2, 0, 1)]) _ (List.mem_cons_of_mem _ (List.mem_cons_of_mem _ List.mem_cons_self)) ?_
    show 0 ≤ (0 : Int) + (1 * u + ((-1) * n + 0))
    omega
  by_cases c4 : zk_el w 208 (8000 * u + k) ≤ 4
  · refine one ((4, 0), [(4, 0, 1)]) _ (List.mem_cons_of_mem _ (List.mem_cons_of_mem _ (List.mem_cons_of_mem _ List.mem_cons_self))) ?_
    show 0 ≤ (4 : Int) + ((-1) * zk_el w 208 ((0 : Int) + (8000 * u + (1 * k + 0))) + 0)
    rw [e2]
    omega
  by_cases c5 : 13 ≤ zk_el w 208 (8000 * u + k)
  · refine one ((0, 13), [(4, 1, 0)]) _ (List.mem_cons_of_mem _ (List.mem_cons_of_mem _ (List.mem_cons_of_mem _ (List.mem_cons_of_mem _ (List.mem_cons_of_mem _ List.mem_cons_self))))) ?_
    show 0 ≤ (-13 : Int) + (1 * zk_el w 208 ((0 : Int) + (8000 * u + (1 * k + 0))) + 0)
    rw [e2]
    omega
  by_cases c6 : 9 ≤ zk_el w 208 (8000 * u + k) ∧ zk_el w 208 (8000 * u + k) ≤ 10
  · refine ⟨_, List.mem_cons_of_mem _ (List.mem_cons_of_mem _ (List.mem_cons_of_mem _ (List.mem_cons_of_mem _ List.mem_cons_self))), fun c hc => ?_⟩
    rcases List.mem_cons.mp hc with e | hc
    · rw [e]
      show 0 ≤ (-9 : Int) + (1 * zk_el w 208 ((0 : Int) + (8000 * u + (1 * k + 0))) + 0)
      rw [e2]
      omega
    · rw [List.mem_singleton.mp hc]
      show 0 ≤ (10 : Int) + ((-1) * zk_el w 208 ((0 : Int) + (8000 * u + (1 * k + 0))) + 0)
      rw [e2]
      omega
  · have q := h u hu.1 (by omega) (by show 1 ≤ zk_el w 176 u; omega) k hk.1 (by show k < zk_el w 207 u; omega) hk.2 (by show (5 ≤ zk_el w 208 (8000 * u + k) ∧ zk_el w 208 (8000 * u + k) ≤ 8) ∨ (11 ≤ zk_el w 208 (8000 * u + k) ∧ zk_el w 208 (8000 * u + k) ≤ 12); omega)
    have q : 0 ≤ zk_el w 209 (8000 * u + k) ∧ zk_el w 209 (8000 * u + k) ≤ 65535 := q
    refine ⟨_, List.mem_cons_of_mem _ (List.mem_cons_of_mem _ (List.mem_cons_of_mem _ (List.mem_cons_of_mem _ (List.mem_cons_of_mem _ (List.mem_cons_of_mem _ List.mem_cons_self))))), fun c hc => ?_⟩
    rcases List.mem_cons.mp hc with e | hc
    · rw [e]
      show 0 ≤ (0 : Int) + (1 * zk_el w 209 ((0 : Int) + (8000 * u + (1 * k + 0))) + 0)
      rw [e2]
      omega
    · rw [List.mem_singleton.mp hc]
      show 0 ≤ (65535 : Int) + ((-1) * zk_el w 209 ((0 : Int) + (8000 * u + (1 * k + 0))) + 0)
      rw [e2]
      omega
def zx_D1158 : zx_L := zx_Lc [] 1 [(2000182, 0)] [] [((0, 1), [(1, 1, 0)])] [((0, 0), [(0, 1, 0)]), ((4294967276, 0), [(0, 0, 1)])] [([], [], [(2000216, ((0, 0), [(0, 1, 0)]), ((1, 0), []))], [])]
theorem zx_D1158_ok {PT : Nat → zz_W → Prop} : zx_Lok 64 zHT PT zx_D1158 := by
  refine zx_Lc_ok (fun w hI hK ins hl hr he hg => ?_)
  obtain ⟨a0, rfl⟩ := zx_i1 hl
  have e0 : ((-1) : Int) + (1 * (zk_xe w 2000182 a0) + 0) = 0 := he _ List.mem_cons_self
  have g0 : 0 ≤ (0 : Int) + (1 * a0 + 0) := hg _ List.mem_cons_self
  have g1 : 0 ≤ (4294967276 : Int) + ((-1) * a0 + 0) := hg _ (List.mem_cons_of_mem _ List.mem_cons_self)
  have r0 : 0 ≤ a0 := hr _ List.mem_cons_self
  have hp := (zj_n182 (w := w) (j := a0) (n := a0) (by omega) (by omega) (by omega) ).mp (by omega)
  have h : zk_xe w 2000216 a0 = 1 := by
    rw [show (2000216 : Nat) = 2000200 + 16 from rfl, zu_xe]
    refine zh_b1 ?_
    have e : zq_dec (zu_T 16).2.2.1 a0 = [a0] := by
      show [a0 % 4294967296] = [a0]
      rw [show a0 % 4294967296 = a0 by omega]
    rw [e]
    exact zj_16b hp
  exact ⟨_, List.mem_cons_self, [], rfl, zx_bnil, zx_cs0, (zx_eF1 (by show 0 ≤ (0 : Int) + (1 * a0 + 0); omega) (by show zk_xe w 2000216 ((0 : Int) + (1 * a0 + 0)) = (1 : Int) + (0); rw [show (0 : Int) + (1 * a0 + 0) = a0 by omega]; exact h.trans (by omega)) zx_eF0), zx_k0⟩
def zx_D1159 : zx_L := zx_Lc [] 1 [(2000216, 0)] [] [((0, 1), [(1, 1, 0)])] [((0, 0), [(0, 1, 0)]), ((4294967276, 0), [(0, 0, 1)]), ((6, 0), [(0, 0, 1)])] [([], [], [(2000182, ((0, 0), [(0, 1, 0)]), ((1, 0), []))], [])]
theorem zx_D1159_ok {PT : Nat → zz_W → Prop} : zx_Lok 64 zHT PT zx_D1159 := by
  refine zx_Lc_ok (fun w hI hK ins hl hr he hg => ?_)
  obtain ⟨a0, rfl⟩ := zx_i1 hl
  have e0 : ((-1) : Int) + (1 * (zk_xe w 2000216 a0) + 0) = 0 := he _ List.mem_cons_self
  have g0 : 0 ≤ (0 : Int) + (1 * a0 + 0) := hg _ List.mem_cons_self
  have g1 : 0 ≤ (4294967276 : Int) + ((-1) * a0 + 0) := hg _ (List.mem_cons_of_mem _ List.mem_cons_self)
  have g2 : 0 ≤ (6 : Int) + ((-1) * a0 + 0) := hg _ (List.mem_cons_of_mem _ (List.mem_cons_of_mem _ List.mem_cons_self))
  have r0 : 0 ≤ a0 := hr _ List.mem_cons_self
  have hu := zu_P_of (w := w) (t := 16) (P := a0) (ps := [a0]) rfl (fun p hp => by rw [List.mem_singleton.mp hp]; omega) (by show a0 = a0 + 4294967296 * 0; omega) (by show zk_xe w 2000216 a0 = 1; omega)
  have h : zk_xe w 2000182 a0 = 1 := (zj_n182 (w := w) (j := a0) (n := a0) (by omega) (by omega) (by omega) ).mpr (zj_16a hu (by omega))
  exact ⟨_, List.mem_cons_self, [], rfl, zx_bnil, zx_cs0, (zx_eF1 (by show 0 ≤ (0 : Int) + (1 * a0 + 0); omega) (by show zk_xe w 2000182 ((0 : Int) + (1 * a0 + 0)) = (1 : Int) + (0); rw [show (0 : Int) + (1 * a0 + 0) = a0 by omega]; exact h.trans (by omega)) zx_eF0), zx_k0⟩
def zx_D1203 : zx_L := zx_Lc [] 4 [(2000071, 0), (224, 1), (224, 2), (224, 3)] [] [((0, 0), [(0, 1, 0)]), ((0, 1), [(1, 1, 0)]), ((0, 3), [(2, 1, 0)]), ((0, 4), [(3, 1, 0)])] [((0, 1), [(5, 0, 1)]), ((0, 1), [(6, 0, 1)]), ((0, 1), [(7, 0, 1)])] [([], [((0, 0), [(4, 0, 1)])], [], [])]
theorem zx_D1203_ok {PT : Nat → zz_W → Prop} : zx_Lok 64 zHT PT zx_D1203 := by
  refine zx_Lc_ok (fun w hI hK ins hl hr he hg => ?_)
  obtain ⟨a0, a1, a2, a3, rfl⟩ := zx_i4 hl
  have e0 : (0 : Int) + (1 * a0 + 0) = 0 := he _ List.mem_cons_self
  have e1 : ((-1) : Int) + (1 * a1 + 0) = 0 := he _ (List.mem_cons_of_mem _ List.mem_cons_self)
  have e2 : ((-3) : Int) + (1 * a2 + 0) = 0 := he _ (List.mem_cons_of_mem _ (List.mem_cons_of_mem _ List.mem_cons_self))
  have e3 : ((-4) : Int) + (1 * a3 + 0) = 0 := he _ (List.mem_cons_of_mem _ (List.mem_cons_of_mem _ (List.mem_cons_of_mem _ List.mem_cons_self)))
  have g0 : 0 ≤ ((-1) : Int) + ((-1) * (zk_xe w 224 a1) + 0) := hg _ List.mem_cons_self
  have g1 : 0 ≤ ((-1) : Int) + ((-1) * (zk_xe w 224 a2) + 0) := hg _ (List.mem_cons_of_mem _ List.mem_cons_self)
  have g2 : 0 ≤ ((-1) : Int) + ((-1) * (zk_xe w 224 a3) + 0) := hg _ (List.mem_cons_of_mem _ (List.mem_cons_of_mem _ List.mem_cons_self))
  have r0 : 0 ≤ a0 := hr _ List.mem_cons_self
  have r1 : 0 ≤ a1 := hr _ (List.mem_cons_of_mem _ List.mem_cons_self)
  have r2 : 0 ≤ a2 := hr _ (List.mem_cons_of_mem _ (List.mem_cons_of_mem _ List.mem_cons_self))
  have r3 : 0 ≤ a3 := hr _ (List.mem_cons_of_mem _ (List.mem_cons_of_mem _ (List.mem_cons_of_mem _ List.mem_cons_self)))
  have k1 : zh_e w 224 (1) = zk_xe w 224 a1 := by rw [zk_xe_r (i := 224) (by decide)]; show zk_el w 224 (1) = zk_el w 224 a1; rw [show (1 : Int) = a1 by omega]
  have k2 : zh_e w 224 (3) = zk_xe w 224 a2 := by rw [zk_xe_r (i := 224) (by decide)]; show zk_el w 224 (3) = zk_el w 224 a2; rw [show (3 : Int) = a2 by omega]
  have k3 : zh_e w 224 (4) = zk_xe w 224 a3 := by rw [zk_xe_r (i := 224) (by decide)]; show zk_el w 224 (4) = zk_el w 224 a3; rw [show (4 : Int) = a3 by omega]
  have h : zk_xe w 2000071 a0 = 0 := by
    rcases zs_71c (w := w) (j := a0) with ⟨-, z⟩ | ⟨z, -⟩
    · unfold zs_x at z
      rw [k1, k2, k3] at z
      omega
    · exact z
  exact ⟨_, List.mem_cons_self, [], rfl, zx_bnil, (zx_cs1 (by show 0 ≤ (0 : Int) + ((-1) * (zk_xe w 2000071 a0) + 0); omega) zx_cs0), zx_eF0, zx_k0⟩
/-- leads -/
theorem zfl_s1 {f J1 J2 L : Int → Int} {a b p q : Int} {l : List Nat} : zfl_s f J1 J2 L a b (1 :: l) p q ↔ (0 < p ∧ (a ≤ J1 (p - 1) ∧ J1 (p - 1) < b ∧ (f (J1 (p - 1)) = 13 ∨ f (J1 (p - 1)) = 14)) ∧ zfl_s f J1 J2 L a b l (p - 1) q) := by
  show (if (1 : Nat) = 1 then _ else _) ↔ _
  rw [if_pos rfl]
theorem zfl_s2 {f J1 J2 L : Int → Int} {a b p q : Int} {x : Nat} {l : List Nat} (h : ¬ (x = 1)) : zfl_s f J1 J2 L a b (x :: l) p q ↔ (0 < q ∧ (a ≤ J2 (q - 1) ∧ J2 (q - 1) < b ∧ f (J2 (q - 1)) = 16 ∧ (∀ i, 0 ≤ i → i < q - 1 → J2 i < J2 (q - 1)) ∧ (x = 3 → J2 (q - 1) < L (J2 (q - 1)) ∧ L (J2 (q - 1)) < b ∧ f (L (J2 (q - 1))) = 17)) ∧ zfl_s f J1 J2 L a b l p (q - 1)) := by
  show (if x = 1 then _ else _) ↔ _
  rw [if_neg h]
theorem zfl_o1 {J1 J2 L : Int → Int} {y p q : Int} {l : List Nat} : zfl_o J1 J2 L y (1 :: l) p q ↔ (J1 (p - 1) = y ∨ zfl_o J1 J2 L y l (p - 1) q) := by
  show (if (1 : Nat) = 1 then _ else _) ↔ _
  rw [if_pos rfl]
theorem zfl_o2 {J1 J2 L : Int → Int} {y p q : Int} {x : Nat} {l : List Nat} (h : ¬ (x = 1)) : zfl_o J1 J2 L y (x :: l) p q ↔ ((x = 3 ∧ L (J2 (q - 1)) = y) ∨ zfl_o J1 J2 L y l p (q - 1)) := by
  show (if x = 1 then _ else _) ↔ _
  rw [if_neg h]
theorem zfl_b {f J1 J2 L : Int → Int} {a b : Int} : ∀ {l : List Nat} {p q : Int}, zfl_s f J1 J2 L a b l p q → 0 ≤ p ∧ 0 ≤ q ∧ p + q = (l.length : Int) ∧ (∀ i, 0 ≤ i → i < p → a ≤ J1 i ∧ J1 i < b ∧ (f (J1 i) = 13 ∨ f (J1 i) = 14)) ∧ (∀ i, 0 ≤ i → i < q → a ≤ J2 i ∧ J2 i < b ∧ f (J2 i) = 16)
  | [], p, q, h => by
    have h : p = 0 ∧ q = 0 := h
    refine ⟨by omega, by omega, ?_, fun i i0 i1 => by omega, fun i i0 i1 => by omega⟩
    show p + q = ((0 : Nat) : Int)
    omega
  | x :: l, p, q, h => by
    by_cases c : x = 1
    · subst c
      obtain ⟨h1, h2, h3⟩ := zfl_s1.mp h
      obtain ⟨b1, b2, b3, b4, b5⟩ := zfl_b h3
      refine ⟨by omega, b2, ?_, fun i i0 i1 => ?_, b5⟩
      · rw [List.length_cons]
        omega
      · by_cases d : i = p - 1
        · rw [d]
          exact h2
        · exact b4 i i0 (by omega)
    · obtain ⟨h1, h2, h3⟩ := (zfl_s2 c).mp h
      obtain ⟨b1, b2, b3, b4, b5⟩ := zfl_b h3
      refine ⟨b1, by omega, ?_, b4, fun i i0 i1 => ?_⟩
      · rw [List.length_cons]
        omega
      · by_cases d : i = q - 1
        · rw [d]
          exact ⟨h2.1, h2.2.1, h2.2.2.1⟩
        · exact b5 i i0 (by omega)
theorem zfl_f {f J1 J2 L J1' J2' L' : Int → Int} {a b b' : Int} : ∀ {l : List Nat} {p q : Int}, zfl_s f J1 J2 L a b l p q → b ≤ b' → (∀ i, 0 ≤ i → i < p → J1' i = J1 i) → (∀ i, 0 ≤ i → i < q → J2' i = J2 i) → (∀ i, 0 ≤ i → i < q → L' (J2 i) = L (J2 i)) → zfl_s f J1' J2' L' a b' l p q
  | [], p, q, h, _, _, _, _ => h
  | x :: l, p, q, h, hb, k1, k2, k3 => by
    by_cases c : x = 1
    · subst c
      obtain ⟨h1, h2, h3⟩ := zfl_s1.mp h
      obtain ⟨b1, b2, -, -, -⟩ := zfl_b h3
      have e := k1 (p - 1) (by omega) (by omega)
      refine zfl_s1.mpr ⟨h1, ?_, zfl_f h3 hb (fun i i0 i1 => k1 i i0 (by omega)) k2 k3⟩
      rw [e]
      exact ⟨h2.1, by omega, h2.2.2⟩
    · obtain ⟨h1, ⟨g1, g2, g3, g4, g5⟩, h3⟩ := (zfl_s2 c).mp h
      have e := k2 (q - 1) (by omega) (by omega)
      have eL := k3 (q - 1) (by omega) (by omega)
      refine (zfl_s2 c).mpr ⟨h1, ?_, zfl_f h3 hb k1 (fun i i0 i1 => k2 i i0 (by omega)) (fun i i0 i1 => k3 i i0 (by omega))⟩
      rw [e, eL]
      refine ⟨g1, by omega, g3, fun i i0 i1 => ?_, fun hx => ?_⟩
      · rw [k2 i i0 (by omega)]
        exact g4 i i0 i1
      · obtain ⟨z1, z2, z3⟩ := g5 hx
        exact ⟨z1, by omega, z3⟩
theorem zfl_fo {f J1 J2 L J1' J2' L' : Int → Int} {a b y : Int} : ∀ {l : List Nat} {p q : Int}, zfl_s f J1 J2 L a b l p q → zfl_o J1 J2 L y l p q → (∀ i, 0 ≤ i → i < p → J1' i = J1 i) → (∀ i, 0 ≤ i → i < q → J2' i = J2 i) → (∀ i, 0 ≤ i → i < q → L' (J2 i) = L (J2 i)) → zfl_o J1' J2' L' y l p q
  | [], _, _, _, h, _, _, _ => h
  | x :: l, p, q, h, o, k1, k2, k3 => by
    by_cases c : x = 1
    · subst c
      obtain ⟨h1, h2, h3⟩ := zfl_s1.mp h
      rcases zfl_o1.mp o with o | o
      · exact zfl_o1.mpr (Or.inl ((k1 (p - 1) (by omega) (by omega)).trans o))
      · exact zfl_o1.mpr (Or.inr (zfl_fo h3 o (fun i i0 i1 => k1 i i0 (by omega)) k2 k3))
    · obtain ⟨h1, h2, h3⟩ := (zfl_s2 c).mp h
      rcases (zfl_o2 c).mp o with ⟨x3, o⟩ | o
      · refine (zfl_o2 c).mpr (Or.inl ⟨x3, ?_⟩)
        rw [k2 (q - 1) (by omega) (by omega), k3 (q - 1) (by omega) (by omega)]
        exact o
      · exact (zfl_o2 c).mpr (Or.inr (zfl_fo h3 o k1 (fun i i0 i1 => k2 i i0 (by omega)) (fun i i0 i1 => k3 i i0 (by omega))))
theorem zfl_pre {f : Int → Int} {a : Int} : ∀ {n m : Nat} {l : List Nat}, m ≤ n → zc_r f a n = some l → ∃ l', zc_r f a m = some l'
  | 0, m, l, hm, h => by
    have e : m = 0 := by omega
    subst e
    exact ⟨l, h⟩
  | n + 1, m, l, hm, h => by
    by_cases c : m = n + 1
    · subst c
      exact ⟨l, h⟩
    · have h : (zc_r f a n).bind (zc_k (f (a + (n : Int)))) = some l := h
      cases hz : zc_r f a n with
      | none =>
        rw [hz] at h
        cases h
      | some l2 => exact zfl_pre (by omega) hz
theorem zfl_k14 {l l' : List Nat} (h : zc_k 14 l = some l') : ∃ t, l = 1 :: t ∧ l' = 1 :: t := by
  cases l with
  | nil =>
    have h : (none : Option (List Nat)) = some l' := h
    cases h
  | cons y t =>
    by_cases c : y = 1
    · subst c
      have h : some (1 :: t) = some l' := h
      cases h
      exact ⟨t, rfl, rfl⟩
    · unfold zc_k at h
      rw [if_neg (show ¬ ((14 : Int) = 13) by decide), if_pos rfl, if_neg (show ¬ ((y :: t).head? = some 1) from fun q => c (Option.some.inj q))] at h
      cases h
theorem zfl_k15 {l l' : List Nat} (h : zc_k 15 l = some l') : ∃ t, l = 1 :: t ∧ l' = t := by
  cases l with
  | nil =>
    have h : (none : Option (List Nat)) = some l' := h
    cases h
  | cons y t =>
    by_cases c : y = 1
    · subst c
      have h : some t = some l' := h
      cases h
      exact ⟨_, rfl, rfl⟩
    · unfold zc_k at h
      rw [if_neg (show ¬ ((15 : Int) = 13) by decide), if_neg (show ¬ ((15 : Int) = 14) by decide), if_pos rfl, if_neg (show ¬ ((y :: t).head? = some 1) from fun q => c (Option.some.inj q))] at h
      cases h
theorem zfl_k17 {l l' : List Nat} (h : zc_k 17 l = some l') : ∃ t, l = 2 :: t ∧ l' = 3 :: t := by
  cases l with
  | nil =>
    have h : (none : Option (List Nat)) = some l' := h
    cases h
  | cons y t =>
    by_cases c : y = 2
    · subst c
      have h : some (3 :: t) = some l' := h
      cases h
      exact ⟨t, rfl, rfl⟩
    · unfold zc_k at h
      rw [if_neg (show ¬ ((17 : Int) = 13) by decide), if_neg (show ¬ ((17 : Int) = 14) by decide), if_neg (show ¬ ((17 : Int) = 15) by decide), if_neg (show ¬ ((17 : Int) = 16) by decide), if_pos rfl, if_neg (show ¬ ((y :: t).head? = some 2) from fun q => c (Option.some.inj q))] at h
      cases h
theorem zfl_k18 {l l' : List Nat} (h : zc_k 18 l = some l') : ∃ t, l = 3 :: t ∧ l' = t := by
  cases l with
  | nil =>
    have h : (none : Option (List Nat)) = some l' := h
    cases h
  | cons y t =>
    by_cases c : y = 3
    · subst c
      have h : some t = some l' := h
      cases h
      exact ⟨_, rfl, rfl⟩
    · unfold zc_k at h
      rw [if_neg (show ¬ ((18 : Int) = 13) by decide), if_neg (show ¬ ((18 : Int) = 14) by decide), if_neg (show ¬ ((18 : Int) = 15) by decide), if_neg (show ¬ ((18 : Int) = 16) by decide), if_neg (show ¬ ((18 : Int) = 17) by decide), if_pos rfl, if_neg (show ¬ ((y :: t).head? = some 3) from fun q => c (Option.some.inj q))] at h
      cases h
theorem zfl_kl {x : Int} {l l' : List Nat} (h : zc_k x l = some l') : (l'.length : Int) = (l.length : Int) + zb_v x := by
  by_cases c3 : x = 13
  · subst c3
    have h : some (1 :: l) = some l' := h
    cases h
    rw [show zb_v 13 = 1 by decide, List.length_cons]
    omega
  by_cases c4 : x = 14
  · subst c4
    obtain ⟨t, e1, e2⟩ := zfl_k14 h
    rw [e1, e2, show zb_v 14 = 0 by decide]
    omega
  by_cases c5 : x = 15
  · subst c5
    obtain ⟨t, e1, e2⟩ := zfl_k15 h
    rw [e1, e2, show zb_v 15 = -1 by decide, List.length_cons]
    omega
  by_cases c6 : x = 16
  · subst c6
    have h : some (2 :: l) = some l' := h
    cases h
    rw [show zb_v 16 = 1 by decide, List.length_cons]
    omega
  by_cases c7 : x = 17
  · subst c7
    obtain ⟨t, e1, e2⟩ := zfl_k17 h
    rw [e1, e2, show zb_v 17 = 0 by decide, List.length_cons, List.length_cons]
    omega
  by_cases c8 : x = 18
  · subst c8
    obtain ⟨t, e1, e2⟩ := zfl_k18 h
    rw [e1, e2, show zb_v 18 = -1 by decide, List.length_cons]
    omega
  · rw [zc_k0 (by omega)] at h
    cases h
    unfold zb_v
    rw [if_neg (by omega), if_neg (by omega)]
    omega
theorem zfl_len {f : Int → Int} {a : Int} : ∀ {n : Nat} {l : List Nat}, zc_r f a n = some l → (l.length : Int) = zb_D f a n
  | 0, l, h => by
    have h : some ([] : List Nat) = some l := h
    cases h
    rfl
  | n + 1, l, h => by
    have h : (zc_r f a n).bind (zc_k (f (a + (n : Int)))) = some l := h
    cases hz : zc_r f a n with
    | none =>
      rw [hz] at h
      cases h
    | some l2 =>
      rw [hz] at h
      have h : zc_k (f (a + (n : Int))) l2 = some l := h
      have ih := zfl_len hz
      show (l.length : Int) = zb_D f a n + zb_v (f (a + (n : Int)))
      rw [← ih]
      exact zfl_kl h
theorem zfl_st {f : Int → Int} {a s k : Int} {l : List Nat} (hc : zc_r f a s.toNat = some []) (k0 : 0 ≤ k) (k1 : k < s) (hl : zc_r f a k.toNat = some l) : ∃ l', zc_k (f (a + k)) l = some l' ∧ zc_r f a (k + 1).toNat = some l' := by
  obtain ⟨l', h'⟩ := zfl_pre (m := (k + 1).toNat) (by omega) hc
  have e := zc_sn (f := f) (a := a) (s := k) k0
  rw [h', hl] at e
  exact ⟨l', e.symm, h'⟩
theorem zfl_i {f J1 J2 L : Int → Int} {a s : Int} (h : 0 ≤ s) : zfl_le f J1 J2 L a s 0 0 0 := ⟨⟨by omega, h⟩, [], rfl, ⟨rfl, rfl⟩, fun y y0 y1 => by omega⟩
theorem zfl_n {f J1 J2 L : Int → Int} {a s k p q : Int} (h : zfl_le f J1 J2 L a s k p q) (k1 : k < s) (hx : f (a + k) ≤ 12 ∨ 19 ≤ f (a + k)) : zfl_le f J1 J2 L a s (k + 1) p q := by
  obtain ⟨⟨k0, -⟩, l, hl, hS, hd⟩ := h
  refine ⟨⟨by omega, by omega⟩, l, ?_, zfl_f hS (by omega) (fun _ _ _ => rfl) (fun _ _ _ => rfl) (fun _ _ _ => rfl), fun y y0 y1 hy => ?_⟩
  · rw [zc_sn k0, hl]
    exact zc_k0 hx
  · by_cases c : y = a + k
    · rw [c] at hy
      unfold zfl_t at hy
      omega
    · exact hd y y0 (by omega) hy
theorem zfl_bd {f J1 J2 L : Int → Int} {a s k p q : Int} (h : zfl_le f J1 J2 L a s k p q) (k1 : k < s) (hB : zb_ok f a s) : (0 ≤ p ∧ p ≤ 63) ∧ 0 ≤ q ∧ q ≤ 63 := by
  obtain ⟨⟨k0, -⟩, l, hl, hS, hd⟩ := h
  obtain ⟨b1, b2, b3, -, -⟩ := zfl_b hS
  have e := zfl_len hl
  have h := (hB k.toNat (by omega)).1
  omega
theorem zfl_w {f J1 J2 L J1' J2' L' : Int → Int} {a s k p q : Int} (h : zfl_le f J1 J2 L a s k p q) (k1 : ∀ i, 0 ≤ i → i < p → J1' i = J1 i) (k2 : ∀ i, 0 ≤ i → i < q → J2' i = J2 i) (k3 : ∀ y, a ≤ y → y < a + k → L' y = L y) : zfl_le f J1' J2' L' a s k p q := by
  obtain ⟨k0, l, hl, hS, hd⟩ := h
  obtain ⟨-, -, -, -, b5⟩ := zfl_b hS
  have k4 : ∀ i, 0 ≤ i → i < q → L' (J2 i) = L (J2 i) := fun i i0 i1 => k3 _ (b5 i i0 i1).1 (b5 i i0 i1).2.1
  refine ⟨k0, l, hl, zfl_f hS (by omega) k1 k2 k4, fun y y0 y1 hy => ?_⟩
  rcases hd y y0 y1 hy with z | z
  · exact Or.inl (by rw [k3 y y0 y1]; exact z)
  · exact Or.inr (zfl_fo hS z k1 k2 k4)
theorem zfl_wg {f J1 J2 L L' : Int → Int} {a s k p q v : Int} (h : zfl_le f J1 J2 L a s k p q) (a0 : 0 ≤ a) (hv : ¬ (f v = 16)) (hL : ∀ y, 0 ≤ y → ¬ (y = v) → L' y = L y) (hg : zfl_g f a s v (L' v)) : zfl_le f J1 J2 L' a s k p q := by
  obtain ⟨k0, l, hl, hS, hd⟩ := h
  obtain ⟨-, -, -, -, b5⟩ := zfl_b hS
  have k4 : ∀ i, 0 ≤ i → i < q → L' (J2 i) = L (J2 i) := fun i i0 i1 => hL _ (by have := (b5 i i0 i1).1; omega) (fun e => hv (by rw [← e]; exact (b5 i i0 i1).2.2))
  refine ⟨k0, l, hl, zfl_f hS (by omega) (fun _ _ _ => rfl) (fun _ _ _ => rfl) k4, fun y y0 y1 hy => ?_⟩
  by_cases c : y = v
  · rw [c]
    exact Or.inl hg
  · rcases hd y y0 y1 hy with z | z
    · exact Or.inl (by rw [hL y (by omega) c]; exact z)
    · exact Or.inr (zfl_fo hS z (fun _ _ _ => rfl) (fun _ _ _ => rfl) k4)
theorem zfl_13 {f J1 J2 L : Int → Int} {a s k p q : Int} (h : zfl_le f J1 J2 L a s k p q) (k1 : k < s) (hx : f (a + k) = 13) (hJ : J1 p = a + k) : zfl_le f J1 J2 L a s (k + 1) (p + 1) q := by
  obtain ⟨⟨k0, -⟩, l, hl, hS, hd⟩ := h
  obtain ⟨b1, -, -, -, -⟩ := zfl_b hS
  have e : p + 1 - 1 = p := by omega
  refine ⟨⟨by omega, by omega⟩, 1 :: l, ?_, zfl_s1.mpr ⟨by omega, ?_, ?_⟩, fun y y0 y1 hy => ?_⟩
  · rw [zc_sn k0, hl, hx]
    rfl
  · rw [e, hJ]
    exact ⟨by omega, by omega, Or.inl hx⟩
  · rw [e]
    exact zfl_f hS (by omega) (fun _ _ _ => rfl) (fun _ _ _ => rfl) (fun _ _ _ => rfl)
  · by_cases c : y = a + k
    · exact Or.inr (zfl_o1.mpr (Or.inl (by rw [e, hJ, c])))
    · rcases hd y y0 (by omega) hy with z | z
      · exact Or.inl z
      · exact Or.inr (zfl_o1.mpr (Or.inr (by rw [e]; exact z)))
theorem zfl_16 {f J1 J2 L : Int → Int} {a s k p q : Int} (h : zfl_le f J1 J2 L a s k p q) (k1 : k < s) (hx : f (a + k) = 16) (hJ : J2 q = a + k) : zfl_le f J1 J2 L a s (k + 1) p (q + 1) := by
  obtain ⟨⟨k0, -⟩, l, hl, hS, hd⟩ := h
  obtain ⟨-, b2, -, -, b5⟩ := zfl_b hS
  have e : q + 1 - 1 = q := by omega
  have n2 : ¬ ((2 : Nat) = 1) := by decide
  refine ⟨⟨by omega, by omega⟩, 2 :: l, ?_, (zfl_s2 n2).mpr ⟨by omega, ?_, ?_⟩, fun y y0 y1 hy => ?_⟩
  · rw [zc_sn k0, hl, hx]
    rfl
  · rw [e, hJ]
    exact ⟨by omega, by omega, hx, fun i i0 i1 => by have := (b5 i i0 i1).2.1; omega, fun z => absurd z (by decide)⟩
  · rw [e]
    exact zfl_f hS (by omega) (fun _ _ _ => rfl) (fun _ _ _ => rfl) (fun _ _ _ => rfl)
  · by_cases c : y = a + k
    · rw [c, hx] at hy
      unfold zfl_t at hy
      omega
    · rcases hd y y0 (by omega) hy with z | z
      · exact Or.inl z
      · exact Or.inr ((zfl_o2 n2).mpr (Or.inr (by rw [e]; exact z)))
theorem zfl_p1 {f J1 J2 L : Int → Int} {a s k p q : Int} (h : zfl_le f J1 J2 L a s k p q) (hc : zc_r f a s.toNat = some []) (k1 : k < s) (hx : f (a + k) = 14 ∨ f (a + k) = 15) : 0 < p ∧ a ≤ J1 (p - 1) ∧ J1 (p - 1) < a + k ∧ (f (J1 (p - 1)) = 13 ∨ f (J1 (p - 1)) = 14) := by
  obtain ⟨⟨k0, -⟩, l, hl, hS, hd⟩ := h
  obtain ⟨l', z1, z2⟩ := zfl_st hc k0 k1 hl
  have q1 : ∃ t, l = 1 :: t := by
    rcases hx with e | e
    · rw [e] at z1
      obtain ⟨t, e1, -⟩ := zfl_k14 z1
      exact ⟨t, e1⟩
    · rw [e] at z1
      obtain ⟨t, e1, -⟩ := zfl_k15 z1
      exact ⟨t, e1⟩
  obtain ⟨t, e1⟩ := q1
  rw [e1] at hS
  obtain ⟨h1, h2, -⟩ := zfl_s1.mp hS
  exact ⟨h1, h2⟩
theorem zfl_p2 {f J1 J2 L : Int → Int} {a s k p q : Int} (h : zfl_le f J1 J2 L a s k p q) (hc : zc_r f a s.toNat = some []) (k1 : k < s) (hx : f (a + k) = 17 ∨ f (a + k) = 18) : 0 < q ∧ a ≤ J2 (q - 1) ∧ J2 (q - 1) < a + k ∧ f (J2 (q - 1)) = 16 := by
  obtain ⟨⟨k0, -⟩, l, hl, hS, hd⟩ := h
  obtain ⟨l', z1, z2⟩ := zfl_st hc k0 k1 hl
  have q1 : ∃ (x : Nat) (t : List Nat), l = x :: t ∧ ¬ (x = 1) := by
    rcases hx with e | e
    · rw [e] at z1
      obtain ⟨t, e1, -⟩ := zfl_k17 z1
      exact ⟨2, t, e1, by decide⟩
    · rw [e] at z1
      obtain ⟨t, e1, -⟩ := zfl_k18 z1
      exact ⟨3, t, e1, by decide⟩
  obtain ⟨x, t, e1, e2⟩ := q1
  rw [e1] at hS
  obtain ⟨h1, h2, -⟩ := (zfl_s2 e2).mp hS
  exact ⟨h1, h2.1, h2.2.1, h2.2.2.1⟩
theorem zfl_p3 {f J1 J2 L : Int → Int} {a s k p q : Int} (h : zfl_le f J1 J2 L a s k p q) (hc : zc_r f a s.toNat = some []) (k1 : k < s) (hx : f (a + k) = 18) : J2 (q - 1) < L (J2 (q - 1)) ∧ L (J2 (q - 1)) < a + k ∧ f (L (J2 (q - 1))) = 17 := by
  obtain ⟨⟨k0, -⟩, l, hl, hS, hd⟩ := h
  obtain ⟨l', z1, z2⟩ := zfl_st hc k0 k1 hl
  rw [hx] at z1
  obtain ⟨t, e1, -⟩ := zfl_k18 z1
  rw [e1] at hS
  obtain ⟨h1, h2, -⟩ := (zfl_s2 (by decide)).mp hS
  exact h2.2.2.2.2 rfl
theorem zfl_14 {f J1 J2 L J1' : Int → Int} {a s k p q : Int} (h : zfl_le f J1 J2 L a s k p q) (hc : zc_r f a s.toNat = some []) (k1 : k < s) (hx : f (a + k) = 14) (hg : zfl_g f a s (J1 (p - 1)) (L (J1 (p - 1)))) (hJ : J1' (p - 1) = a + k) (hk : ∀ i, 0 ≤ i → i < p - 1 → J1' i = J1 i) : zfl_le f J1' J2 L a s (k + 1) p q := by
  obtain ⟨⟨k0, -⟩, l, hl, hS, hd⟩ := h
  obtain ⟨l', z1, z2⟩ := zfl_st hc k0 k1 hl
  rw [hx] at z1
  obtain ⟨t, e1, e2⟩ := zfl_k14 z1
  rw [e1] at hS hd
  rw [e2] at z2
  obtain ⟨h1, h2, h3⟩ := zfl_s1.mp hS
  refine ⟨⟨by omega, by omega⟩, 1 :: t, z2, zfl_s1.mpr ⟨h1, ?_, zfl_f h3 (by omega) hk (fun _ _ _ => rfl) (fun _ _ _ => rfl)⟩, fun y y0 y1 hy => ?_⟩
  · rw [hJ]
    exact ⟨by omega, by omega, Or.inr hx⟩
  · by_cases c : y = a + k
    · exact Or.inr (zfl_o1.mpr (Or.inl (by rw [hJ, c])))
    · rcases hd y y0 (by omega) hy with z | z
      · exact Or.inl z
      · rcases zfl_o1.mp z with z | z
        · rw [← z]
          exact Or.inl hg
        · exact Or.inr (zfl_o1.mpr (Or.inr (zfl_fo h3 z hk (fun _ _ _ => rfl) (fun _ _ _ => rfl))))
theorem zfl_15 {f J1 J2 L : Int → Int} {a s k p q : Int} (h : zfl_le f J1 J2 L a s k p q) (hc : zc_r f a s.toNat = some []) (k1 : k < s) (hx : f (a + k) = 15) (hg : zfl_g f a s (J1 (p - 1)) (L (J1 (p - 1)))) : zfl_le f J1 J2 L a s (k + 1) (p - 1) q := by
  obtain ⟨⟨k0, -⟩, l, hl, hS, hd⟩ := h
  obtain ⟨l', z1, z2⟩ := zfl_st hc k0 k1 hl
  rw [hx] at z1
  obtain ⟨t, e1, e2⟩ := zfl_k15 z1
  rw [e1] at hS hd
  rw [e2] at z2
  obtain ⟨h1, h2, h3⟩ := zfl_s1.mp hS
  refine ⟨⟨by omega, by omega⟩, t, z2, zfl_f h3 (by omega) (fun _ _ _ => rfl) (fun _ _ _ => rfl) (fun _ _ _ => rfl), fun y y0 y1 hy => ?_⟩
  by_cases c : y = a + k
  · rw [c, hx] at hy
    unfold zfl_t at hy
    omega
  · rcases hd y y0 (by omega) hy with z | z
    · exact Or.inl z
    · rcases zfl_o1.mp z with z | z
      · rw [← z]
        exact Or.inl hg
      · exact Or.inr z
theorem zfl_17 {f J1 J2 L L' : Int → Int} {a s k p q : Int} (h : zfl_le f J1 J2 L a s k p q) (a0 : 0 ≤ a) (hc : zc_r f a s.toNat = some []) (k1 : k < s) (hx : f (a + k) = 17) (hv : L' (J2 (q - 1)) = a + k) (hL : ∀ y, 0 ≤ y → ¬ (y = J2 (q - 1)) → L' y = L y) : zfl_le f J1 J2 L' a s (k + 1) p q := by
  obtain ⟨⟨k0, -⟩, l, hl, hS, hd⟩ := h
  obtain ⟨l', z1, z2⟩ := zfl_st hc k0 k1 hl
  rw [hx] at z1
  obtain ⟨t, e1, e2⟩ := zfl_k17 z1
  rw [e1] at hS hd
  rw [e2] at z2
  have n2 : ¬ ((2 : Nat) = 1) := by decide
  have n3 : ¬ ((3 : Nat) = 1) := by decide
  obtain ⟨h1, ⟨g1, g2, g3, g4, -⟩, h3⟩ := (zfl_s2 n2).mp hS
  obtain ⟨-, -, -, -, b5⟩ := zfl_b h3
  have k4 : ∀ i, 0 ≤ i → i < q - 1 → L' (J2 i) = L (J2 i) := fun i i0 i1 => hL _ (by have := (b5 i i0 i1).1; omega) (fun e => by have := g4 i i0 i1; omega)
  refine ⟨⟨by omega, by omega⟩, 3 :: t, z2, (zfl_s2 n3).mpr ⟨h1, ⟨g1, by omega, g3, g4, fun _ => ?_⟩, zfl_f h3 (by omega) (fun _ _ _ => rfl) (fun _ _ _ => rfl) k4⟩, fun y y0 y1 hy => ?_⟩
  · rw [hv]
    exact ⟨g2, by omega, hx⟩
  · by_cases c : y = a + k
    · exact Or.inr ((zfl_o2 n3).mpr (Or.inl ⟨rfl, by rw [hv, c]⟩))
    · have n : ¬ (y = J2 (q - 1)) := fun e => by
        rw [e, g3] at hy
        unfold zfl_t at hy
        omega
      rcases hd y y0 (by omega) hy with z | z
      · exact Or.inl (by rw [hL y (by omega) n]; exact z)
      · rcases (zfl_o2 n2).mp z with ⟨z, -⟩ | z
        · exact absurd z (by decide)
        · exact Or.inr ((zfl_o2 n3).mpr (Or.inr (zfl_fo h3 z (fun _ _ _ => rfl) (fun _ _ _ => rfl) k4)))
theorem zfl_18 {f J1 J2 L L' : Int → Int} {a s k p q : Int} (h : zfl_le f J1 J2 L a s k p q) (a0 : 0 ≤ a) (hc : zc_r f a s.toNat = some []) (k1 : k < s) (hx : f (a + k) = 18) (hg : zfl_g f a s (L (J2 (q - 1))) (L (L (J2 (q - 1))))) (hv : L' (a + k) = J2 (q - 1)) (hL : ∀ y, 0 ≤ y → ¬ (y = a + k) → L' y = L y) : zfl_le f J1 J2 L' a s (k + 1) p (q - 1) := by
  obtain ⟨⟨k0, -⟩, l, hl, hS, hd⟩ := h
  obtain ⟨l', z1, z2⟩ := zfl_st hc k0 k1 hl
  rw [hx] at z1
  obtain ⟨t, e1, e2⟩ := zfl_k18 z1
  rw [e1] at hS hd
  rw [e2] at z2
  have n3 : ¬ ((3 : Nat) = 1) := by decide
  obtain ⟨h1, ⟨g1, g2, g3, g4, -⟩, h3⟩ := (zfl_s2 n3).mp hS
  obtain ⟨-, -, -, -, b5⟩ := zfl_b h3
  have k4 : ∀ i, 0 ≤ i → i < q - 1 → L' (J2 i) = L (J2 i) := fun i i0 i1 => hL _ (by have := (b5 i i0 i1).1; omega) (fun e => by have := (b5 i i0 i1).2.1; omega)
  refine ⟨⟨by omega, by omega⟩, t, z2, zfl_f h3 (by omega) (fun _ _ _ => rfl) (fun _ _ _ => rfl) k4, fun y y0 y1 hy => ?_⟩
  by_cases c : y = a + k
  · rw [c, hv]
    exact Or.inl ⟨g1, by omega, Or.inl ⟨hx, g3⟩⟩
  · rw [hL y (by omega) c]
    rcases hd y y0 (by omega) hy with z | z
    · exact Or.inl z
    · rcases (zfl_o2 n3).mp z with ⟨-, z⟩ | z
      · rw [← z]
        exact Or.inl hg
      · exact Or.inr (zfl_fo h3 z (fun _ _ _ => rfl) (fun _ _ _ => rfl) k4)
theorem zfl_e {f J1 J2 L : Int → Int} {a s p q : Int} (h : zfl_le f J1 J2 L a s s p q) (hc : zc_r f a s.toNat = some []) (y : Int) (y0 : a ≤ y) (y1 : y < a + s) (hy : zfl_t (f y)) : zfl_g f a s y (L y) := by
  obtain ⟨-, l, hl, hS, hd⟩ := h
  rw [hc] at hl
  cases hl
  rcases hd y y0 y1 hy with z | z
  · exact z
  · exact absurd z (fun z => z)
theorem zfl_nx {f : Int → Int} {a s k y : Int} (hy : y < a + k + 1) (hF : 0 < s → f (a + s - 1) = 1) (k0 : 0 ≤ k) (k1 : k < s) (hx : f (a + k) = 14 ∨ f (a + k) = 15 ∨ f (a + k) = 18) : zfl_g f a s y (a + k + 1) := by
  have n : ¬ (k = s - 1) := fun e => by
    have h := hF (by omega)
    rw [show a + s - 1 = a + k by omega] at h
    omega
  refine ⟨by omega, by omega, Or.inr ⟨hy, by omega, ?_⟩⟩
  rw [show a + k + 1 - 1 = a + k by omega]
  exact hx
theorem zfl_185 {w : zz_W} {j u k p q : Int} (e : j = u + 4294967296 * k + 18446744073709551616 * p + 79228162514264337593543950336 * q) (u0 : 0 ≤ u) (u1 : u < 4294967296) (k0 : 0 ≤ k) (k1 : k < 4294967296) (p0 : 0 ≤ p) (p1 : p < 4294967296) (q0 : 0 ≤ q) (q1 : q < 4294967296) : zk_xe w 2000185 j = 1 ↔ zfl_le (zh_e w 208) (zh_e w 258) (zh_e w 259) (zh_e w 323) (8000 * u) (zh_e w 207 u) k p q := by
  obtain ⟨d0, d1, d2, d3⟩ := zg_d4 (j := j) (n := u) (k := k) (u := p) (l := q) (by omega) u0 u1 k0 k1 p0 p1 q0 q1
  rw [show (2000185 : Nat) = 2000000 + 185 from rfl, zk_xe_h]
  have h : zv_H 185 w j = zh_b (zfl_le (zh_e w 208) (zh_e w 258) (zh_e w 259) (zh_e w 323) (8000 * u) (zh_e w 207 u) k p q) := by
    show zh_b (zfl_le (zh_e w 208) (zh_e w 258) (zh_e w 259) (zh_e w 323) (8000 * zv_dg 0 j) (zh_e w 207 (zv_dg 0 j)) (zv_dg 1 j) (zv_dg 2 j) (zv_dg 3 j)) = _
    rw [d0, d1, d2, d3]
  rw [h]
  exact ⟨zh_b1', zh_b1⟩
theorem zfl_186 {w : zz_W} {j : Int} : zk_xe w 2000186 j = 1 ↔ ∀ u, 0 ≤ u → u < j → ∀ k, 0 ≤ k → k < zh_e w 207 u → k < 8000 → zfl_t (zh_e w 208 (8000 * u + k)) → zfl_g (zh_e w 208) (8000 * u) (zh_e w 207 u) (8000 * u + k) (zh_e w 323 (8000 * u + k)) := by
  rw [show (2000186 : Nat) = 2000000 + 186 from rfl, zk_xe_h]
  exact ⟨zh_b1', zh_b1⟩
def zx_D1205 : zx_L := zx_Lc [] 2 [(2000176, 1), (176, 0)] [] [((0, 1), [(2, 1, 0)])] [((0, 0), [(0, 1, 0)]), ((4294967276, 0), [(0, 0, 1)]), ((0, 0), [(1, 1, 0)]), ((4294967276, 0), [(1, 0, 1)]), ((0, 1), [(0, 0, 1), (1, 1, 0)]), ((0, 1), [(3, 1, 0)])] [([], [], [(2000185, ((0, 0), [(0, 1, 0)]), ((1, 0), []))], [])]
theorem zx_D1205_ok {PT : Nat → zz_W → Prop} : zx_Lok 64 zHT PT zx_D1205 := by
  refine zx_Lc_ok (fun w hI hK ins hl hr he hg => ?_)
  obtain ⟨a0, a1, rfl⟩ := zx_i2 hl
  have e0 : ((-1) : Int) + (1 * (zk_xe w 2000176 a1) + 0) = 0 := he _ List.mem_cons_self
  have g0 : 0 ≤ (0 : Int) + (1 * a0 + 0) := hg _ List.mem_cons_self
  have g1 : 0 ≤ (4294967276 : Int) + ((-1) * a0 + 0) := hg _ (List.mem_cons_of_mem _ List.mem_cons_self)
  have g2 : 0 ≤ (0 : Int) + (1 * a1 + 0) := hg _ (List.mem_cons_of_mem _ (List.mem_cons_of_mem _ List.mem_cons_self))
  have g3 : 0 ≤ (4294967276 : Int) + ((-1) * a1 + 0) := hg _ (List.mem_cons_of_mem _ (List.mem_cons_of_mem _ (List.mem_cons_of_mem _ List.mem_cons_self)))
  have g4 : 0 ≤ ((-1) : Int) + ((-1) * a0 + (1 * a1 + 0)) := hg _ (List.mem_cons_of_mem _ (List.mem_cons_of_mem _ (List.mem_cons_of_mem _ (List.mem_cons_of_mem _ List.mem_cons_self))))
  have g5 : 0 ≤ ((-1) : Int) + (1 * (zk_xe w 176 a0) + 0) := hg _ (List.mem_cons_of_mem _ (List.mem_cons_of_mem _ (List.mem_cons_of_mem _ (List.mem_cons_of_mem _ (List.mem_cons_of_mem _ List.mem_cons_self)))))
  have r0 : 0 ≤ a1 := hr _ List.mem_cons_self
  have r1 : 0 ≤ a0 := hr _ (List.mem_cons_of_mem _ List.mem_cons_self)
  have kO : zh_e w 176 (a0) = zk_xe w 176 a0 := by rw [zk_xe_r (i := 176) (by decide)]; show zk_el w 176 (a0) = zk_el w 176 a0; rw [show a0 = a0 by omega]
  have hsh := (zc_176 (w := w) (j := a1) (n := a1) (by omega) (by omega) (by omega) ).mp (by omega) a0 (by omega) (by omega) (by rw [kO]; omega)
  have h : zk_xe w 2000185 a0 = 1 := (zfl_185 (w := w) (j := a0) (u := a0) (k := 0) (p := 0) (q := 0) (by omega) (by omega) (by omega) (by omega) (by omega) (by omega) (by omega) (by omega) (by omega) ).mpr (zfl_i hsh.1.1)
  exact ⟨_, List.mem_cons_self, [], rfl, zx_bnil, zx_cs0, (zx_eF1 (by show 0 ≤ (0 : Int) + (1 * a0 + 0); omega) (by show zk_xe w 2000185 ((0 : Int) + (1 * a0 + 0)) = (1 : Int) + (0); rw [show (0 : Int) + (1 * a0 + 0) = a0 by omega]; exact h.trans (by omega)) zx_eF0), zx_k0⟩
def zx_D1206 : zx_L := zx_Lc [] 7 [(2000185, 0), (207, 1), (208, 5)] [] [((0, 0), [(0, 1, 0), (1, 0, 1), (2, 0, 4294967296), (3, 0, 18446744073709551616), (4, 0, 79228162514264337593543950336)]), ((0, 1), [(7, 1, 0)]), ((0, 0), [(1, 0, 8000), (2, 0, 1), (5, 1, 0)]), ((0, 4294967296), [(1, 0, 1), (2, 0, 4294967296), (3, 0, 18446744073709551616), (4, 0, 79228162514264337593543950336), (6, 1, 0)])] [((0, 0), [(1, 1, 0)]), ((4294967276, 0), [(1, 0, 1)]), ((0, 0), [(2, 1, 0)]), ((4294967276, 0), [(2, 0, 1)]), ((0, 0), [(3, 1, 0)]), ((4294967276, 0), [(3, 0, 1)]), ((0, 0), [(4, 1, 0)]), ((4294967276, 0), [(4, 0, 1)]), ((0, 1), [(2, 0, 1), (8, 1, 0)]), ((12, 0), [(9, 0, 1)])] [([], [], [(2000185, ((0, 0), [(6, 1, 0)]), ((1, 0), []))], [])]
theorem zx_D1206_ok {PT : Nat → zz_W → Prop} : zx_Lok 64 zHT PT zx_D1206 := by
  refine zx_Lc_ok (fun w hI hK ins hl hr he hg => ?_)
  obtain ⟨a0, a1, a2, a3, a4, a5, a6, rfl⟩ := zx_i7 hl
  have e0 : (0 : Int) + (1 * a0 + ((-1) * a1 + ((-4294967296) * a2 + ((-18446744073709551616) * a3 + ((-79228162514264337593543950336) * a4 + 0))))) = 0 := he _ List.mem_cons_self
  have e1 : ((-1) : Int) + (1 * (zk_xe w 2000185 a0) + 0) = 0 := he _ (List.mem_cons_of_mem _ List.mem_cons_self)
  have e2 : (0 : Int) + ((-8000) * a1 + ((-1) * a2 + (1 * a5 + 0))) = 0 := he _ (List.mem_cons_of_mem _ (List.mem_cons_of_mem _ List.mem_cons_self))
  have e3 : ((-4294967296) : Int) + ((-1) * a1 + ((-4294967296) * a2 + ((-18446744073709551616) * a3 + ((-79228162514264337593543950336) * a4 + (1 * a6 + 0))))) = 0 := he _ (List.mem_cons_of_mem _ (List.mem_cons_of_mem _ (List.mem_cons_of_mem _ List.mem_cons_self)))
  have g0 : 0 ≤ (0 : Int) + (1 * a1 + 0) := hg _ List.mem_cons_self
  have g1 : 0 ≤ (4294967276 : Int) + ((-1) * a1 + 0) := hg _ (List.mem_cons_of_mem _ List.mem_cons_self)
  have g2 : 0 ≤ (0 : Int) + (1 * a2 + 0) := hg _ (List.mem_cons_of_mem _ (List.mem_cons_of_mem _ List.mem_cons_self))
  have g3 : 0 ≤ (4294967276 : Int) + ((-1) * a2 + 0) := hg _ (List.mem_cons_of_mem _ (List.mem_cons_of_mem _ (List.mem_cons_of_mem _ List.mem_cons_self)))
  have g4 : 0 ≤ (0 : Int) + (1 * a3 + 0) := hg _ (List.mem_cons_of_mem _ (List.mem_cons_of_mem _ (List.mem_cons_of_mem _ (List.mem_cons_of_mem _ List.mem_cons_self))))
  have g5 : 0 ≤ (4294967276 : Int) + ((-1) * a3 + 0) := hg _ (List.mem_cons_of_mem _ (List.mem_cons_of_mem _ (List.mem_cons_of_mem _ (List.mem_cons_of_mem _ (List.mem_cons_of_mem _ List.mem_cons_self)))))
  have g6 : 0 ≤ (0 : Int) + (1 * a4 + 0) := hg _ (List.mem_cons_of_mem _ (List.mem_cons_of_mem _ (List.mem_cons_of_mem _ (List.mem_cons_of_mem _ (List.mem_cons_of_mem _ (List.mem_cons_of_mem _ List.mem_cons_self))))))
  have g7 : 0 ≤ (4294967276 : Int) + ((-1) * a4 + 0) := hg _ (List.mem_cons_of_mem _ (List.mem_cons_of_mem _ (List.mem_cons_of_mem _ (List.mem_cons_of_mem _ (List.mem_cons_of_mem _ (List.mem_cons_of_mem _ (List.mem_cons_of_mem _ List.mem_cons_self)))))))
  have g8 : 0 ≤ ((-1) : Int) + ((-1) * a2 + (1 * (zk_xe w 207 a1) + 0)) := hg _ (List.mem_cons_of_mem _ (List.mem_cons_of_mem _ (List.mem_cons_of_mem _ (List.mem_cons_of_mem _ (List.mem_cons_of_mem _ (List.mem_cons_of_mem _ (List.mem_cons_of_mem _ (List.mem_cons_of_mem _ List.mem_cons_self))))))))
  have g9 : 0 ≤ (12 : Int) + ((-1) * (zk_xe w 208 a5) + 0) := hg _ (List.mem_cons_of_mem _ (List.mem_cons_of_mem _ (List.mem_cons_of_mem _ (List.mem_cons_of_mem _ (List.mem_cons_of_mem _ (List.mem_cons_of_mem _ (List.mem_cons_of_mem _ (List.mem_cons_of_mem _ (List.mem_cons_of_mem _ List.mem_cons_self)))))))))
  have r0 : 0 ≤ a0 := hr _ List.mem_cons_self
  have r1 : 0 ≤ a1 := hr _ (List.mem_cons_of_mem _ List.mem_cons_self)
  have r2 : 0 ≤ a5 := hr _ (List.mem_cons_of_mem _ (List.mem_cons_of_mem _ List.mem_cons_self))
  have hp := (zfl_185 (w := w) (j := a0) (u := a1) (k := a2) (p := a3) (q := a4) (by omega) (by omega) (by omega) (by omega) (by omega) (by omega) (by omega) (by omega) (by omega) ).mp (by omega)
  have kS : zh_e w 207 (a1) = zk_xe w 207 a1 := by rw [zk_xe_r (i := 207) (by decide)]; show zk_el w 207 (a1) = zk_el w 207 a1; rw [show a1 = a1 by omega]
  have kW : zh_e w 208 (8000 * a1 + a2) = zk_xe w 208 a5 := by rw [zk_xe_r (i := 208) (by decide)]; show zk_el w 208 (8000 * a1 + a2) = zk_el w 208 a5; rw [show 8000 * a1 + a2 = a5 by omega]
  have h := zfl_n hp (by rw [kS]; omega) (by rw [kW]; omega)
  exact ⟨_, List.mem_cons_self, [], rfl, zx_bnil, zx_cs0, (zx_eF1 (by show 0 ≤ (0 : Int) + (1 * a6 + 0); omega) (by show zk_xe w 2000185 ((0 : Int) + (1 * a6 + 0)) = (1 : Int) + (0); rw [show (0 : Int) + (1 * a6 + 0) = a6 by omega]; exact ((zfl_185 (w := w) (j := a6) (u := a1) (k := (a2 + 1)) (p := a3) (q := a4) (by omega) (by omega) (by omega) (by omega) (by omega) (by omega) (by omega) (by omega) (by omega) ).mpr h).trans (by omega)) zx_eF0), zx_k0⟩
def zx_D1207 : zx_L := zx_Lc [] 7 [(2000185, 0), (207, 1), (208, 5)] [] [((0, 0), [(0, 1, 0), (1, 0, 1), (2, 0, 4294967296), (3, 0, 18446744073709551616), (4, 0, 79228162514264337593543950336)]), ((0, 1), [(7, 1, 0)]), ((0, 0), [(1, 0, 8000), (2, 0, 1), (5, 1, 0)]), ((0, 4294967296), [(1, 0, 1), (2, 0, 4294967296), (3, 0, 18446744073709551616), (4, 0, 79228162514264337593543950336), (6, 1, 0)])] [((0, 0), [(1, 1, 0)]), ((4294967276, 0), [(1, 0, 1)]), ((0, 0), [(2, 1, 0)]), ((4294967276, 0), [(2, 0, 1)]), ((0, 0), [(3, 1, 0)]), ((4294967276, 0), [(3, 0, 1)]), ((0, 0), [(4, 1, 0)]), ((4294967276, 0), [(4, 0, 1)]), ((0, 1), [(2, 0, 1), (8, 1, 0)]), ((0, 19), [(9, 1, 0)])] [([], [], [(2000185, ((0, 0), [(6, 1, 0)]), ((1, 0), []))], [])]
theorem zx_D1207_ok {PT : Nat → zz_W → Prop} : zx_Lok 64 zHT PT zx_D1207 := by
  refine zx_Lc_ok (fun w hI hK ins hl hr he hg => ?_)
  obtain ⟨a0, a1, a2, a3, a4, a5, a6, rfl⟩ := zx_i7 hl
  have e0 : (0 : Int) + (1 * a0 + ((-1) * a1 + ((-4294967296) * a2 + ((-18446744073709551616) * a3 + ((-79228162514264337593543950336) * a4 + 0))))) = 0 := he _ List.mem_cons_self
  have e1 : ((-1) : Int) + (1 * (zk_xe w 2000185 a0) + 0) = 0 := he _ (List.mem_cons_of_mem _ List.mem_cons_self)
  have e2 : (0 : Int) + ((-8000) * a1 + ((-1) * a2 + (1 * a5 + 0))) = 0 := he _ (List.mem_cons_of_mem _ (List.mem_cons_of_mem _ List.mem_cons_self))
  have e3 : ((-4294967296) : Int) + ((-1) * a1 + ((-4294967296) * a2 + ((-18446744073709551616) * a3 + ((-79228162514264337593543950336) * a4 + (1 * a6 + 0))))) = 0 := he _ (List.mem_cons_of_mem _ (List.mem_cons_of_mem _ (List.mem_cons_of_mem _ List.mem_cons_self)))
  have g0 : 0 ≤ (0 : Int) + (1 * a1 + 0) := hg _ List.mem_cons_self
  have g1 : 0 ≤ (4294967276 : Int) + ((-1) * a1 + 0) := hg _ (List.mem_cons_of_mem _ List.mem_cons_self)
  have g2 : 0 ≤ (0 : Int) + (1 * a2 + 0) := hg _ (List.mem_cons_of_mem _ (List.mem_cons_of_mem _ List.mem_cons_self))
  have g3 : 0 ≤ (4294967276 : Int) + ((-1) * a2 + 0) := hg _ (List.mem_cons_of_mem _ (List.mem_cons_of_mem _ (List.mem_cons_of_mem _ List.mem_cons_self)))
  have g4 : 0 ≤ (0 : Int) + (1 * a3 + 0) := hg _ (List.mem_cons_of_mem _ (List.mem_cons_of_mem _ (List.mem_cons_of_mem _ (List.mem_cons_of_mem _ List.mem_cons_self))))
  have g5 : 0 ≤ (4294967276 : Int) + ((-1) * a3 + 0) := hg _ (List.mem_cons_of_mem _ (List.mem_cons_of_mem _ (List.mem_cons_of_mem _ (List.mem_cons_of_mem _ (List.mem_cons_of_mem _ List.mem_cons_self)))))
  have g6 : 0 ≤ (0 : Int) + (1 * a4 + 0) := hg _ (List.mem_cons_of_mem _ (List.mem_cons_of_mem _ (List.mem_cons_of_mem _ (List.mem_cons_of_mem _ (List.mem_cons_of_mem _ (List.mem_cons_of_mem _ List.mem_cons_self))))))
  have g7 : 0 ≤ (4294967276 : Int) + ((-1) * a4 + 0) := hg _ (List.mem_cons_of_mem _ (List.mem_cons_of_mem _ (List.mem_cons_of_mem _ (List.mem_cons_of_mem _ (List.mem_cons_of_mem _ (List.mem_cons_of_mem _ (List.mem_cons_of_mem _ List.mem_cons_self)))))))
  have g8 : 0 ≤ ((-1) : Int) + ((-1) * a2 + (1 * (zk_xe w 207 a1) + 0)) := hg _ (List.mem_cons_of_mem _ (List.mem_cons_of_mem _ (List.mem_cons_of_mem _ (List.mem_cons_of_mem _ (List.mem_cons_of_mem _ (List.mem_cons_of_mem _ (List.mem_cons_of_mem _ (List.mem_cons_of_mem _ List.mem_cons_self))))))))
  have g9 : 0 ≤ ((-19) : Int) + (1 * (zk_xe w 208 a5) + 0) := hg _ (List.mem_cons_of_mem _ (List.mem_cons_of_mem _ (List.mem_cons_of_mem _ (List.mem_cons_of_mem _ (List.mem_cons_of_mem _ (List.mem_cons_of_mem _ (List.mem_cons_of_mem _ (List.mem_cons_of_mem _ (List.mem_cons_of_mem _ List.mem_cons_self)))))))))
  have r0 : 0 ≤ a0 := hr _ List.mem_cons_self
  have r1 : 0 ≤ a1 := hr _ (List.mem_cons_of_mem _ List.mem_cons_self)
  have r2 : 0 ≤ a5 := hr _ (List.mem_cons_of_mem _ (List.mem_cons_of_mem _ List.mem_cons_self))
  have hp := (zfl_185 (w := w) (j := a0) (u := a1) (k := a2) (p := a3) (q := a4) (by omega) (by omega) (by omega) (by omega) (by omega) (by omega) (by omega) (by omega) (by omega) ).mp (by omega)
  have kS : zh_e w 207 (a1) = zk_xe w 207 a1 := by rw [zk_xe_r (i := 207) (by decide)]; show zk_el w 207 (a1) = zk_el w 207 a1; rw [show a1 = a1 by omega]
  have kW : zh_e w 208 (8000 * a1 + a2) = zk_xe w 208 a5 := by rw [zk_xe_r (i := 208) (by decide)]; show zk_el w 208 (8000 * a1 + a2) = zk_el w 208 a5; rw [show 8000 * a1 + a2 = a5 by omega]
  have h := zfl_n hp (by rw [kS]; omega) (by rw [kW]; omega)
  exact ⟨_, List.mem_cons_self, [], rfl, zx_bnil, zx_cs0, (zx_eF1 (by show 0 ≤ (0 : Int) + (1 * a6 + 0); omega) (by show zk_xe w 2000185 ((0 : Int) + (1 * a6 + 0)) = (1 : Int) + (0); rw [show (0 : Int) + (1 * a6 + 0) = a6 by omega]; exact ((zfl_185 (w := w) (j := a6) (u := a1) (k := (a2 + 1)) (p := a3) (q := a4) (by omega) (by omega) (by omega) (by omega) (by omega) (by omega) (by omega) (by omega) (by omega) ).mpr h).trans (by omega)) zx_eF0), zx_k0⟩
def zx_D1208 : zx_L := zx_Lc [] 7 [(2000185, 0), (2000176, 5), (176, 1), (207, 1), (208, 6)] [] [((0, 0), [(0, 1, 0), (1, 0, 1), (2, 0, 4294967296), (3, 0, 18446744073709551616), (4, 0, 79228162514264337593543950336)]), ((0, 1), [(7, 1, 0)]), ((0, 1), [(8, 1, 0)]), ((0, 0), [(1, 0, 8000), (2, 0, 1), (6, 1, 0)])] [((0, 0), [(1, 1, 0)]), ((4294967276, 0), [(1, 0, 1)]), ((0, 0), [(2, 1, 0)]), ((4294967276, 0), [(2, 0, 1)]), ((0, 0), [(3, 1, 0)]), ((4294967276, 0), [(3, 0, 1)]), ((0, 0), [(4, 1, 0)]), ((4294967276, 0), [(4, 0, 1)]), ((0, 0), [(5, 1, 0)]), ((4294967276, 0), [(5, 0, 1)]), ((0, 1), [(1, 0, 1), (5, 1, 0)]), ((0, 1), [(9, 1, 0)]), ((0, 1), [(2, 0, 1), (10, 1, 0)])] [([], [((63, 0), [(3, 0, 1)]), ((63, 0), [(4, 0, 1)])], [], [])]
theorem zx_D1208_ok {PT : Nat → zz_W → Prop} : zx_Lok 64 zHT PT zx_D1208 := by
  refine zx_Lc_ok (fun w hI hK ins hl hr he hg => ?_)
  obtain ⟨a0, a1, a2, a3, a4, a5, a6, rfl⟩ := zx_i7 hl
  have e0 : (0 : Int) + (1 * a0 + ((-1) * a1 + ((-4294967296) * a2 + ((-18446744073709551616) * a3 + ((-79228162514264337593543950336) * a4 + 0))))) = 0 := he _ List.mem_cons_self
  have e1 : ((-1) : Int) + (1 * (zk_xe w 2000185 a0) + 0) = 0 := he _ (List.mem_cons_of_mem _ List.mem_cons_self)
  have e2 : ((-1) : Int) + (1 * (zk_xe w 2000176 a5) + 0) = 0 := he _ (List.mem_cons_of_mem _ (List.mem_cons_of_mem _ List.mem_cons_self))
  have e3 : (0 : Int) + ((-8000) * a1 + ((-1) * a2 + (1 * a6 + 0))) = 0 := he _ (List.mem_cons_of_mem _ (List.mem_cons_of_mem _ (List.mem_cons_of_mem _ List.mem_cons_self)))
  have g0 : 0 ≤ (0 : Int) + (1 * a1 + 0) := hg _ List.mem_cons_self
  have g1 : 0 ≤ (4294967276 : Int) + ((-1) * a1 + 0) := hg _ (List.mem_cons_of_mem _ List.mem_cons_self)
  have g2 : 0 ≤ (0 : Int) + (1 * a2 + 0) := hg _ (List.mem_cons_of_mem _ (List.mem_cons_of_mem _ List.mem_cons_self))
  have g3 : 0 ≤ (4294967276 : Int) + ((-1) * a2 + 0) := hg _ (List.mem_cons_of_mem _ (List.mem_cons_of_mem _ (List.mem_cons_of_mem _ List.mem_cons_self)))
  have g4 : 0 ≤ (0 : Int) + (1 * a3 + 0) := hg _ (List.mem_cons_of_mem _ (List.mem_cons_of_mem _ (List.mem_cons_of_mem _ (List.mem_cons_of_mem _ List.mem_cons_self))))
  have g5 : 0 ≤ (4294967276 : Int) + ((-1) * a3 + 0) := hg _ (List.mem_cons_of_mem _ (List.mem_cons_of_mem _ (List.mem_cons_of_mem _ (List.mem_cons_of_mem _ (List.mem_cons_of_mem _ List.mem_cons_self)))))
  have g6 : 0 ≤ (0 : Int) + (1 * a4 + 0) := hg _ (List.mem_cons_of_mem _ (List.mem_cons_of_mem _ (List.mem_cons_of_mem _ (List.mem_cons_of_mem _ (List.mem_cons_of_mem _ (List.mem_cons_of_mem _ List.mem_cons_self))))))
  have g7 : 0 ≤ (4294967276 : Int) + ((-1) * a4 + 0) := hg _ (List.mem_cons_of_mem _ (List.mem_cons_of_mem _ (List.mem_cons_of_mem _ (List.mem_cons_of_mem _ (List.mem_cons_of_mem _ (List.mem_cons_of_mem _ (List.mem_cons_of_mem _ List.mem_cons_self)))))))
  have g8 : 0 ≤ (0 : Int) + (1 * a5 + 0) := hg _ (List.mem_cons_of_mem _ (List.mem_cons_of_mem _ (List.mem_cons_of_mem _ (List.mem_cons_of_mem _ (List.mem_cons_of_mem _ (List.mem_cons_of_mem _ (List.mem_cons_of_mem _ (List.mem_cons_of_mem _ List.mem_cons_self))))))))
  have g9 : 0 ≤ (4294967276 : Int) + ((-1) * a5 + 0) := hg _ (List.mem_cons_of_mem _ (List.mem_cons_of_mem _ (List.mem_cons_of_mem _ (List.mem_cons_of_mem _ (List.mem_cons_of_mem _ (List.mem_cons_of_mem _ (List.mem_cons_of_mem _ (List.mem_cons_of_mem _ (List.mem_cons_of_mem _ List.mem_cons_self)))))))))
  have g10 : 0 ≤ ((-1) : Int) + ((-1) * a1 + (1 * a5 + 0)) := hg _ (List.mem_cons_of_mem _ (List.mem_cons_of_mem _ (List.mem_cons_of_mem _ (List.mem_cons_of_mem _ (List.mem_cons_of_mem _ (List.mem_cons_of_mem _ (List.mem_cons_of_mem _ (List.mem_cons_of_mem _ (List.mem_cons_of_mem _ (List.mem_cons_of_mem _ List.mem_cons_self))))))))))
  have g11 : 0 ≤ ((-1) : Int) + (1 * (zk_xe w 176 a1) + 0) := hg _ (List.mem_cons_of_mem _ (List.mem_cons_of_mem _ (List.mem_cons_of_mem _ (List.mem_cons_of_mem _ (List.mem_cons_of_mem _ (List.mem_cons_of_mem _ (List.mem_cons_of_mem _ (List.mem_cons_of_mem _ (List.mem_cons_of_mem _ (List.mem_cons_of_mem _ (List.mem_cons_of_mem _ List.mem_cons_self)))))))))))
  have g12 : 0 ≤ ((-1) : Int) + ((-1) * a2 + (1 * (zk_xe w 207 a1) + 0)) := hg _ (List.mem_cons_of_mem _ (List.mem_cons_of_mem _ (List.mem_cons_of_mem _ (List.mem_cons_of_mem _ (List.mem_cons_of_mem _ (List.mem_cons_of_mem _ (List.mem_cons_of_mem _ (List.mem_cons_of_mem _ (List.mem_cons_of_mem _ (List.mem_cons_of_mem _ (List.mem_cons_of_mem _ (List.mem_cons_of_mem _ List.mem_cons_self))))))))))))
  have r0 : 0 ≤ a0 := hr _ List.mem_cons_self
  have r1 : 0 ≤ a5 := hr _ (List.mem_cons_of_mem _ List.mem_cons_self)
  have r2 : 0 ≤ a1 := hr _ (List.mem_cons_of_mem _ (List.mem_cons_of_mem _ List.mem_cons_self))
  have r3 : 0 ≤ a1 := hr _ (List.mem_cons_of_mem _ (List.mem_cons_of_mem _ (List.mem_cons_of_mem _ List.mem_cons_self)))
  have r4 : 0 ≤ a6 := hr _ (List.mem_cons_of_mem _ (List.mem_cons_of_mem _ (List.mem_cons_of_mem _ (List.mem_cons_of_mem _ List.mem_cons_self))))
  have hp := (zfl_185 (w := w) (j := a0) (u := a1) (k := a2) (p := a3) (q := a4) (by omega) (by omega) (by omega) (by omega) (by omega) (by omega) (by omega) (by omega) (by omega) ).mp (by omega)
  have kO : zh_e w 176 (a1) = zk_xe w 176 a1 := by rw [zk_xe_r (i := 176) (by decide)]; show zk_el w 176 (a1) = zk_el w 176 a1; rw [show a1 = a1 by omega]
  have kS : zh_e w 207 (a1) = zk_xe w 207 a1 := by rw [zk_xe_r (i := 207) (by decide)]; show zk_el w 207 (a1) = zk_el w 207 a1; rw [show a1 = a1 by omega]
  have kW : zh_e w 208 (8000 * a1 + a2) = zk_xe w 208 a6 := by rw [zk_xe_r (i := 208) (by decide)]; show zk_el w 208 (8000 * a1 + a2) = zk_el w 208 a6; rw [show 8000 * a1 + a2 = a6 by omega]
  have hsh := (zc_176 (w := w) (j := a5) (n := a5) (by omega) (by omega) (by omega) ).mp (by omega) a1 (by omega) (by omega) (by rw [kO]; omega)
  obtain ⟨⟨s0, s1⟩, hF, hs, hB, -, -⟩ := hsh
  rw [kS] at s1
  have h := zfl_bd hp (by rw [kS]; omega) hB
  exact ⟨_, List.mem_cons_self, [], rfl, zx_bnil, (zx_cs1 (by show 0 ≤ (63 : Int) + ((-1) * a3 + 0); omega) (zx_cs1 (by show 0 ≤ (63 : Int) + ((-1) * a4 + 0); omega) zx_cs0)), zx_eF0, zx_k0⟩
def zx_D1209 : zx_L := zx_Lc [] 7 [(2000185, 0), (207, 1), (208, 5), (258, 3)] [] [((0, 0), [(0, 1, 0), (1, 0, 1), (2, 0, 4294967296), (3, 0, 18446744073709551616), (4, 0, 79228162514264337593543950336)]), ((0, 1), [(7, 1, 0)]), ((0, 0), [(1, 0, 8000), (2, 0, 1), (5, 1, 0)]), ((0, 18446744078004518912), [(1, 0, 1), (2, 0, 4294967296), (3, 0, 18446744073709551616), (4, 0, 79228162514264337593543950336), (6, 1, 0)]), ((0, 13), [(9, 1, 0)]), ((0, 0), [(5, 0, 1), (10, 1, 0)])] [((0, 0), [(1, 1, 0)]), ((4294967276, 0), [(1, 0, 1)]), ((0, 0), [(2, 1, 0)]), ((4294967276, 0), [(2, 0, 1)]), ((0, 0), [(3, 1, 0)]), ((4294967276, 0), [(3, 0, 1)]), ((0, 0), [(4, 1, 0)]), ((4294967276, 0), [(4, 0, 1)]), ((0, 1), [(2, 0, 1), (8, 1, 0)])] [([], [], [(2000185, ((0, 0), [(6, 1, 0)]), ((1, 0), []))], [])]
theorem zx_D1209_ok {PT : Nat → zz_W → Prop} : zx_Lok 64 zHT PT zx_D1209 := by
  refine zx_Lc_ok (fun w hI hK ins hl hr he hg => ?_)
  obtain ⟨a0, a1, a2, a3, a4, a5, a6, rfl⟩ := zx_i7 hl
  have e0 : (0 : Int) + (1 * a0 + ((-1) * a1 + ((-4294967296) * a2 + ((-18446744073709551616) * a3 + ((-79228162514264337593543950336) * a4 + 0))))) = 0 := he _ List.mem_cons_self
  have e1 : ((-1) : Int) + (1 * (zk_xe w 2000185 a0) + 0) = 0 := he _ (List.mem_cons_of_mem _ List.mem_cons_self)
  have e2 : (0 : Int) + ((-8000) * a1 + ((-1) * a2 + (1 * a5 + 0))) = 0 := he _ (List.mem_cons_of_mem _ (List.mem_cons_of_mem _ List.mem_cons_self))
  have e3 : ((-18446744078004518912) : Int) + ((-1) * a1 + ((-4294967296) * a2 + ((-18446744073709551616) * a3 + ((-79228162514264337593543950336) * a4 + (1 * a6 + 0))))) = 0 := he _ (List.mem_cons_of_mem _ (List.mem_cons_of_mem _ (List.mem_cons_of_mem _ List.mem_cons_self)))
  have e4 : ((-13) : Int) + (1 * (zk_xe w 208 a5) + 0) = 0 := he _ (List.mem_cons_of_mem _ (List.mem_cons_of_mem _ (List.mem_cons_of_mem _ (List.mem_cons_of_mem _ List.mem_cons_self))))
  have e5 : (0 : Int) + ((-1) * a5 + (1 * (zk_xe w 258 a3) + 0)) = 0 := he _ (List.mem_cons_of_mem _ (List.mem_cons_of_mem _ (List.mem_cons_of_mem _ (List.mem_cons_of_mem _ (List.mem_cons_of_mem _ List.mem_cons_self)))))
  have g0 : 0 ≤ (0 : Int) + (1 * a1 + 0) := hg _ List.mem_cons_self
  have g1 : 0 ≤ (4294967276 : Int) + ((-1) * a1 + 0) := hg _ (List.mem_cons_of_mem _ List.mem_cons_self)
  have g2 : 0 ≤ (0 : Int) + (1 * a2 + 0) := hg _ (List.mem_cons_of_mem _ (List.mem_cons_of_mem _ List.mem_cons_self))
  have g3 : 0 ≤ (4294967276 : Int) + ((-1) * a2 + 0) := hg _ (List.mem_cons_of_mem _ (List.mem_cons_of_mem _ (List.mem_cons_of_mem _ List.mem_cons_self)))
  have g4 : 0 ≤ (0 : Int) + (1 * a3 + 0) := hg _ (List.mem_cons_of_mem _ (List.mem_cons_of_mem _ (List.mem_cons_of_mem _ (List.mem_cons_of_mem _ List.mem_cons_self))))
  have g5 : 0 ≤ (4294967276 : Int) + ((-1) * a3 + 0) := hg _ (List.mem_cons_of_mem _ (List.mem_cons_of_mem _ (List.mem_cons_of_mem _ (List.mem_cons_of_mem _ (List.mem_cons_of_mem _ List.mem_cons_self)))))
  have g6 : 0 ≤ (0 : Int) + (1 * a4 + 0) := hg _ (List.mem_cons_of_mem _ (List.mem_cons_of_mem _ (List.mem_cons_of_mem _ (List.mem_cons_of_mem _ (List.mem_cons_of_mem _ (List.mem_cons_of_mem _ List.mem_cons_self))))))
  have g7 : 0 ≤ (4294967276 : Int) + ((-1) * a4 + 0) := hg _ (List.mem_cons_of_mem _ (List.mem_cons_of_mem _ (List.mem_cons_of_mem _ (List.mem_cons_of_mem _ (List.mem_cons_of_mem _ (List.mem_cons_of_mem _ (List.mem_cons_of_mem _ List.mem_cons_self)))))))
  have g8 : 0 ≤ ((-1) : Int) + ((-1) * a2 + (1 * (zk_xe w 207 a1) + 0)) := hg _ (List.mem_cons_of_mem _ (List.mem_cons_of_mem _ (List.mem_cons_of_mem _ (List.mem_cons_of_mem _ (List.mem_cons_of_mem _ (List.mem_cons_of_mem _ (List.mem_cons_of_mem _ (List.mem_cons_of_mem _ List.mem_cons_self))))))))
  have r0 : 0 ≤ a0 := hr _ List.mem_cons_self
  have r1 : 0 ≤ a1 := hr _ (List.mem_cons_of_mem _ List.mem_cons_self)
  have r2 : 0 ≤ a5 := hr _ (List.mem_cons_of_mem _ (List.mem_cons_of_mem _ List.mem_cons_self))
  have r3 : 0 ≤ a3 := hr _ (List.mem_cons_of_mem _ (List.mem_cons_of_mem _ (List.mem_cons_of_mem _ List.mem_cons_self)))
  have hp := (zfl_185 (w := w) (j := a0) (u := a1) (k := a2) (p := a3) (q := a4) (by omega) (by omega) (by omega) (by omega) (by omega) (by omega) (by omega) (by omega) (by omega) ).mp (by omega)
  have kS : zh_e w 207 (a1) = zk_xe w 207 a1 := by rw [zk_xe_r (i := 207) (by decide)]; show zk_el w 207 (a1) = zk_el w 207 a1; rw [show a1 = a1 by omega]
  have kW : zh_e w 208 (8000 * a1 + a2) = zk_xe w 208 a5 := by rw [zk_xe_r (i := 208) (by decide)]; show zk_el w 208 (8000 * a1 + a2) = zk_el w 208 a5; rw [show 8000 * a1 + a2 = a5 by omega]
  have kJ : zh_e w 258 (a3) = zk_xe w 258 a3 := by rw [zk_xe_r (i := 258) (by decide)]; show zk_el w 258 (a3) = zk_el w 258 a3; rw [show a3 = a3 by omega]
  have h := zfl_13 hp (by rw [kS]; omega) (by rw [kW]; omega) (by rw [kJ]; omega)
  exact ⟨_, List.mem_cons_self, [], rfl, zx_bnil, zx_cs0, (zx_eF1 (by show 0 ≤ (0 : Int) + (1 * a6 + 0); omega) (by show zk_xe w 2000185 ((0 : Int) + (1 * a6 + 0)) = (1 : Int) + (0); rw [show (0 : Int) + (1 * a6 + 0) = a6 by omega]; exact ((zfl_185 (w := w) (j := a6) (u := a1) (k := (a2 + 1)) (p := (a3 + 1)) (q := a4) (by omega) (by omega) (by omega) (by omega) (by omega) (by omega) (by omega) (by omega) (by omega) ).mpr h).trans (by omega)) zx_eF0), zx_k0⟩
def zx_D1212 : zx_L := zx_Lc [] 7 [(2000185, 0), (207, 1), (208, 5), (259, 4)] [] [((0, 0), [(0, 1, 0), (1, 0, 1), (2, 0, 4294967296), (3, 0, 18446744073709551616), (4, 0, 79228162514264337593543950336)]), ((0, 1), [(7, 1, 0)]), ((0, 0), [(1, 0, 8000), (2, 0, 1), (5, 1, 0)]), ((0, 79228162514264337597838917632), [(1, 0, 1), (2, 0, 4294967296), (3, 0, 18446744073709551616), (4, 0, 79228162514264337593543950336), (6, 1, 0)]), ((0, 16), [(9, 1, 0)]), ((0, 0), [(5, 0, 1), (10, 1, 0)])] [((0, 0), [(1, 1, 0)]), ((4294967276, 0), [(1, 0, 1)]), ((0, 0), [(2, 1, 0)]), ((4294967276, 0), [(2, 0, 1)]), ((0, 0), [(3, 1, 0)]), ((4294967276, 0), [(3, 0, 1)]), ((0, 0), [(4, 1, 0)]), ((4294967276, 0), [(4, 0, 1)]), ((0, 1), [(2, 0, 1), (8, 1, 0)])] [([], [], [(2000185, ((0, 0), [(6, 1, 0)]), ((1, 0), []))], [])]
theorem zx_D1212_ok {PT : Nat → zz_W → Prop} : zx_Lok 64 zHT PT zx_D1212 := by
  refine zx_Lc_ok (fun w hI hK ins hl hr he hg => ?_)
  obtain ⟨a0, a1, a2, a3, a4, a5, a6, rfl⟩ := zx_i7 hl
  have e0 : (0 : Int) + (1 * a0 + ((-1) * a1 + ((-4294967296) * a2 + ((-18446744073709551616) * a3 + ((-79228162514264337593543950336) * a4 + 0))))) = 0 := he _ List.mem_cons_self
  have e1 : ((-1) : Int) + (1 * (zk_xe w 2000185 a0) + 0) = 0 := he _ (List.mem_cons_of_mem _ List.mem_cons_self)
  have e2 : (0 : Int) + ((-8000) * a1 + ((-1) * a2 + (1 * a5 + 0))) = 0 := he _ (List.mem_cons_of_mem _ (List.mem_cons_of_mem _ List.mem_cons_self))
  have e3 : ((-79228162514264337597838917632) : Int) + ((-1) * a1 + ((-4294967296) * a2 + ((-18446744073709551616) * a3 + ((-79228162514264337593543950336) * a4 + (1 * a6 + 0))))) = 0 := he _ (List.mem_cons_of_mem _ (List.mem_cons_of_mem _ (List.mem_cons_of_mem _ List.mem_cons_self)))
  have e4 : ((-16) : Int) + (1 * (zk_xe w 208 a5) + 0) = 0 := he _ (List.mem_cons_of_mem _ (List.mem_cons_of_mem _ (List.mem_cons_of_mem _ (List.mem_cons_of_mem _ List.mem_cons_self))))
  have e5 : (0 : Int) + ((-1) * a5 + (1 * (zk_xe w 259 a4) + 0)) = 0 := he _ (List.mem_cons_of_mem _ (List.mem_cons_of_mem _ (List.mem_cons_of_mem _ (List.mem_cons_of_mem _ (List.mem_cons_of_mem _ List.mem_cons_self)))))
  have g0 : 0 ≤ (0 : Int) + (1 * a1 + 0) := hg _ List.mem_cons_self
  have g1 : 0 ≤ (4294967276 : Int) + ((-1) * a1 + 0) := hg _ (List.mem_cons_of_mem _ List.mem_cons_self)
  have g2 : 0 ≤ (0 : Int) + (1 * a2 + 0) := hg _ (List.mem_cons_of_mem _ (List.mem_cons_of_mem _ List.mem_cons_self))
  have g3 : 0 ≤ (4294967276 : Int) + ((-1) * a2 + 0) := hg _ (List.mem_cons_of_mem _ (List.mem_cons_of_mem _ (List.mem_cons_of_mem _ List.mem_cons_self)))
  have g4 : 0 ≤ (0 : Int) + (1 * a3 + 0) := hg _ (List.mem_cons_of_mem _ (List.mem_cons_of_mem _ (List.mem_cons_of_mem _ (List.mem_cons_of_mem _ List.mem_cons_self))))
  have g5 : 0 ≤ (4294967276 : Int) + ((-1) * a3 + 0) := hg _ (List.mem_cons_of_mem _ (List.mem_cons_of_mem _ (List.mem_cons_of_mem _ (List.mem_cons_of_mem _ (List.mem_cons_of_mem _ List.mem_cons_self)))))
  have g6 : 0 ≤ (0 : Int) + (1 * a4 + 0) := hg _ (List.mem_cons_of_mem _ (List.mem_cons_of_mem _ (List.mem_cons_of_mem _ (List.mem_cons_of_mem _ (List.mem_cons_of_mem _ (List.mem_cons_of_mem _ List.mem_cons_self))))))
  have g7 : 0 ≤ (4294967276 : Int) + ((-1) * a4 + 0) := hg _ (List.mem_cons_of_mem _ (List.mem_cons_of_mem _ (List.mem_cons_of_mem _ (List.mem_cons_of_mem _ (List.mem_cons_of_mem _ (List.mem_cons_of_mem _ (List.mem_cons_of_mem _ List.mem_cons_self)))))))
  have g8 : 0 ≤ ((-1) : Int) + ((-1) * a2 + (1 * (zk_xe w 207 a1) + 0)) := hg _ (List.mem_cons_of_mem _ (List.mem_cons_of_mem _ (List.mem_cons_of_mem _ (List.mem_cons_of_mem _ (List.mem_cons_of_mem _ (List.mem_cons_of_mem _ (List.mem_cons_of_mem _ (List.mem_cons_of_mem _ List.mem_cons_self))))))))
  have r0 : 0 ≤ a0 := hr _ List.mem_cons_self
  have r1 : 0 ≤ a1 := hr _ (List.mem_cons_of_mem _ List.mem_cons_self)
  have r2 : 0 ≤ a5 := hr _ (List.mem_cons_of_mem _ (List.mem_cons_of_mem _ List.mem_cons_self))
  have r3 : 0 ≤ a4 := hr _ (List.mem_cons_of_mem _ (List.mem_cons_of_mem _ (List.mem_cons_of_mem _ List.mem_cons_self)))
  have hp := (zfl_185 (w := w) (j := a0) (u := a1) (k := a2) (p := a3) (q := a4) (by omega) (by omega) (by omega) (by omega) (by omega) (by omega) (by omega) (by omega) (by omega) ).mp (by omega)
  have kS : zh_e w 207 (a1) = zk_xe w 207 a1 := by rw [zk_xe_r (i := 207) (by decide)]; show zk_el w 207 (a1) = zk_el w 207 a1; rw [show a1 = a1 by omega]
  have kW : zh_e w 208 (8000 * a1 + a2) = zk_xe w 208 a5 := by rw [zk_xe_r (i := 208) (by decide)]; show zk_el w 208 (8000 * a1 + a2) = zk_el w 208 a5; rw [show 8000 * a1 + a2 = a5 by omega]
  have kJ : zh_e w 259 (a4) = zk_xe w 259 a4 := by rw [zk_xe_r (i := 259) (by decide)]; show zk_el w 259 (a4) = zk_el w 259 a4; rw [show a4 = a4 by omega]
  have h := zfl_16 hp (by rw [kS]; omega) (by rw [kW]; omega) (by rw [kJ]; omega)
  exact ⟨_, List.mem_cons_self, [], rfl, zx_bnil, zx_cs0, (zx_eF1 (by show 0 ≤ (0 : Int) + (1 * a6 + 0); omega) (by show zk_xe w 2000185 ((0 : Int) + (1 * a6 + 0)) = (1 : Int) + (0); rw [show (0 : Int) + (1 * a6 + 0) = a6 by omega]; exact ((zfl_185 (w := w) (j := a6) (u := a1) (k := (a2 + 1)) (p := a3) (q := (a4 + 1)) (by omega) (by omega) (by omega) (by omega) (by omega) (by omega) (by omega) (by omega) (by omega) ).mpr h).trans (by omega)) zx_eF0), zx_k0⟩
def zx_D1210 : zx_L := zx_Lc [] 7 [(2000185, 0), (2000176, 5), (176, 1), (207, 1), (208, 6)] [] [((0, 0), [(0, 1, 0), (1, 0, 1), (2, 0, 4294967296), (3, 0, 18446744073709551616), (4, 0, 79228162514264337593543950336)]), ((0, 1), [(7, 1, 0)]), ((0, 1), [(8, 1, 0)]), ((0, 0), [(1, 0, 8000), (2, 0, 1), (6, 1, 0)])] [((0, 0), [(1, 1, 0)]), ((4294967276, 0), [(1, 0, 1)]), ((0, 0), [(2, 1, 0)]), ((4294967276, 0), [(2, 0, 1)]), ((0, 0), [(3, 1, 0)]), ((4294967276, 0), [(3, 0, 1)]), ((0, 0), [(4, 1, 0)]), ((4294967276, 0), [(4, 0, 1)]), ((0, 0), [(5, 1, 0)]), ((4294967276, 0), [(5, 0, 1)]), ((0, 1), [(1, 0, 1), (5, 1, 0)]), ((0, 1), [(9, 1, 0)]), ((0, 1), [(2, 0, 1), (10, 1, 0)]), ((0, 14), [(11, 1, 0)]), ((15, 0), [(11, 0, 1)])] [([], [((0, 1), [(3, 1, 0)])], [], [])]
theorem zx_D1210_ok {PT : Nat → zz_W → Prop} : zx_Lok 64 zHT PT zx_D1210 := by
  refine zx_Lc_ok (fun w hI hK ins hl hr he hg => ?_)
  obtain ⟨a0, a1, a2, a3, a4, a5, a6, rfl⟩ := zx_i7 hl
  have e0 : (0 : Int) + (1 * a0 + ((-1) * a1 + ((-4294967296) * a2 + ((-18446744073709551616) * a3 + ((-79228162514264337593543950336) * a4 + 0))))) = 0 := he _ List.mem_cons_self
  have e1 : ((-1) : Int) + (1 * (zk_xe w 2000185 a0) + 0) = 0 := he _ (List.mem_cons_of_mem _ List.mem_cons_self)
  have e2 : ((-1) : Int) + (1 * (zk_xe w 2000176 a5) + 0) = 0 := he _ (List.mem_cons_of_mem _ (List.mem_cons_of_mem _ List.mem_cons_self))
  have e3 : (0 : Int) + ((-8000) * a1 + ((-1) * a2 + (1 * a6 + 0))) = 0 := he _ (List.mem_cons_of_mem _ (List.mem_cons_of_mem _ (List.mem_cons_of_mem _ List.mem_cons_self)))
  have g0 : 0 ≤ (0 : Int) + (1 * a1 + 0) := hg _ List.mem_cons_self
  have g1 : 0 ≤ (4294967276 : Int) + ((-1) * a1 + 0) := hg _ (List.mem_cons_of_mem _ List.mem_cons_self)
  have g2 : 0 ≤ (0 : Int) + (1 * a2 + 0) := hg _ (List.mem_cons_of_mem _ (List.mem_cons_of_mem _ List.mem_cons_self))
  have g3 : 0 ≤ (4294967276 : Int) + ((-1) * a2 + 0) := hg _ (List.mem_cons_of_mem _ (List.mem_cons_of_mem _ (List.mem_cons_of_mem _ List.mem_cons_self)))
  have g4 : 0 ≤ (0 : Int) + (1 * a3 + 0) := hg _ (List.mem_cons_of_mem _ (List.mem_cons_of_mem _ (List.mem_cons_of_mem _ (List.mem_cons_of_mem _ List.mem_cons_self))))
  have g5 : 0 ≤ (4294967276 : Int) + ((-1) * a3 + 0) := hg _ (List.mem_cons_of_mem _ (List.mem_cons_of_mem _ (List.mem_cons_of_mem _ (List.mem_cons_of_mem _ (List.mem_cons_of_mem _ List.mem_cons_self)))))
  have g6 : 0 ≤ (0 : Int) + (1 * a4 + 0) := hg _ (List.mem_cons_of_mem _ (List.mem_cons_of_mem _ (List.mem_cons_of_mem _ (List.mem_cons_of_mem _ (List.mem_cons_of_mem _ (List.mem_cons_of_mem _ List.mem_cons_self))))))
  have g7 : 0 ≤ (4294967276 : Int) + ((-1) * a4 + 0) := hg _ (List.mem_cons_of_mem _ (List.mem_cons_of_mem _ (List.mem_cons_of_mem _ (List.mem_cons_of_mem _ (List.mem_cons_of_mem _ (List.mem_cons_of_mem _ (List.mem_cons_of_mem _ List.mem_cons_self)))))))
  have g8 : 0 ≤ (0 : Int) + (1 * a5 + 0) := hg _ (List.mem_cons_of_mem _ (List.mem_cons_of_mem _ (List.mem_cons_of_mem _ (List.mem_cons_of_mem _ (List.mem_cons_of_mem _ (List.mem_cons_of_mem _ (List.mem_cons_of_mem _ (List.mem_cons_of_mem _ List.mem_cons_self))))))))
  have g9 : 0 ≤ (4294967276 : Int) + ((-1) * a5 + 0) := hg _ (List.mem_cons_of_mem _ (List.mem_cons_of_mem _ (List.mem_cons_of_mem _ (List.mem_cons_of_mem _ (List.mem_cons_of_mem _ (List.mem_cons_of_mem _ (List.mem_cons_of_mem _ (List.mem_cons_of_mem _ (List.mem_cons_of_mem _ List.mem_cons_self)))))))))
  have g10 : 0 ≤ ((-1) : Int) + ((-1) * a1 + (1 * a5 + 0)) := hg _ (List.mem_cons_of_mem _ (List.mem_cons_of_mem _ (List.mem_cons_of_mem _ (List.mem_cons_of_mem _ (List.mem_cons_of_mem _ (List.mem_cons_of_mem _ (List.mem_cons_of_mem _ (List.mem_cons_of_mem _ (List.mem_cons_of_mem _ (List.mem_cons_of_mem _ List.mem_cons_self))))))))))
  have g11 : 0 ≤ ((-1) : Int) + (1 * (zk_xe w 176 a1) + 0) := hg _ (List.mem_cons_of_mem _ (List.mem_cons_of_mem _ (List.mem_cons_of_mem _ (List.mem_cons_of_mem _ (List.mem_cons_of_mem _ (List.mem_cons_of_mem _ (List.mem_cons_of_mem _ (List.mem_cons_of_mem _ (List.mem_cons_of_mem _ (List.mem_cons_of_mem _ (List.mem_cons_of_mem _ List.mem_cons_self)))))))))))
  have g12 : 0 ≤ ((-1) : Int) + ((-1) * a2 + (1 * (zk_xe w 207 a1) + 0)) := hg _ (List.mem_cons_of_mem _ (List.mem_cons_of_mem _ (List.mem_cons_of_mem _ (List.mem_cons_of_mem _ (List.mem_cons_of_mem _ (List.mem_cons_of_mem _ (List.mem_cons_of_mem _ (List.mem_cons_of_mem _ (List.mem_cons_of_mem _ (List.mem_cons_of_mem _ (List.mem_cons_of_mem _ (List.mem_cons_of_mem _ List.mem_cons_self))))))))))))
  have g13 : 0 ≤ ((-14) : Int) + (1 * (zk_xe w 208 a6) + 0) := hg _ (List.mem_cons_of_mem _ (List.mem_cons_of_mem _ (List.mem_cons_of_mem _ (List.mem_cons_of_mem _ (List.mem_cons_of_mem _ (List.mem_cons_of_mem _ (List.mem_cons_of_mem _ (List.mem_cons_of_mem _ (List.mem_cons_of_mem _ (List.mem_cons_of_mem _ (List.mem_cons_of_mem _ (List.mem_cons_of_mem _ (List.mem_cons_of_mem _ List.mem_cons_self)))))))))))))
  have g14 : 0 ≤ (15 : Int) + ((-1) * (zk_xe w 208 a6) + 0) := hg _ (List.mem_cons_of_mem _ (List.mem_cons_of_mem _ (List.mem_cons_of_mem _ (List.mem_cons_of_mem _ (List.mem_cons_of_mem _ (List.mem_cons_of_mem _ (List.mem_cons_of_mem _ (List.mem_cons_of_mem _ (List.mem_cons_of_mem _ (List.mem_cons_of_mem _ (List.mem_cons_of_mem _ (List.mem_cons_of_mem _ (List.mem_cons_of_mem _ (List.mem_cons_of_mem _ List.mem_cons_self))))))))))))))
  have r0 : 0 ≤ a0 := hr _ List.mem_cons_self
  have r1 : 0 ≤ a5 := hr _ (List.mem_cons_of_mem _ List.mem_cons_self)
  have r2 : 0 ≤ a1 := hr _ (List.mem_cons_of_mem _ (List.mem_cons_of_mem _ List.mem_cons_self))
  have r3 : 0 ≤ a1 := hr _ (List.mem_cons_of_mem _ (List.mem_cons_of_mem _ (List.mem_cons_of_mem _ List.mem_cons_self)))
  have r4 : 0 ≤ a6 := hr _ (List.mem_cons_of_mem _ (List.mem_cons_of_mem _ (List.mem_cons_of_mem _ (List.mem_cons_of_mem _ List.mem_cons_self))))
  have hp := (zfl_185 (w := w) (j := a0) (u := a1) (k := a2) (p := a3) (q := a4) (by omega) (by omega) (by omega) (by omega) (by omega) (by omega) (by omega) (by omega) (by omega) ).mp (by omega)
  have kO : zh_e w 176 (a1) = zk_xe w 176 a1 := by rw [zk_xe_r (i := 176) (by decide)]; show zk_el w 176 (a1) = zk_el w 176 a1; rw [show a1 = a1 by omega]
  have kS : zh_e w 207 (a1) = zk_xe w 207 a1 := by rw [zk_xe_r (i := 207) (by decide)]; show zk_el w 207 (a1) = zk_el w 207 a1; rw [show a1 = a1 by omega]
  have kW : zh_e w 208 (8000 * a1 + a2) = zk_xe w 208 a6 := by rw [zk_xe_r (i := 208) (by decide)]; show zk_el w 208 (8000 * a1 + a2) = zk_el w 208 a6; rw [show 8000 * a1 + a2 = a6 by omega]
  have hsh := (zc_176 (w := w) (j := a5) (n := a5) (by omega) (by omega) (by omega) ).mp (by omega) a1 (by omega) (by omega) (by rw [kO]; omega)
  obtain ⟨⟨s0, s1⟩, hF, hs, hB, -, -⟩ := hsh
  rw [kS] at s1
  have h := zfl_p1 hp hs (by rw [kS]; omega) (by rw [kW]; omega)
  exact ⟨_, List.mem_cons_self, [], rfl, zx_bnil, (zx_cs1 (by show 0 ≤ ((-1) : Int) + (1 * a3 + 0); omega) zx_cs0), zx_eF0, zx_k0⟩
def zx_D1213 : zx_L := zx_Lc [] 7 [(2000185, 0), (2000176, 5), (176, 1), (207, 1), (208, 6)] [] [((0, 0), [(0, 1, 0), (1, 0, 1), (2, 0, 4294967296), (3, 0, 18446744073709551616), (4, 0, 79228162514264337593543950336)]), ((0, 1), [(7, 1, 0)]), ((0, 1), [(8, 1, 0)]), ((0, 0), [(1, 0, 8000), (2, 0, 1), (6, 1, 0)])] [((0, 0), [(1, 1, 0)]), ((4294967276, 0), [(1, 0, 1)]), ((0, 0), [(2, 1, 0)]), ((4294967276, 0), [(2, 0, 1)]), ((0, 0), [(3, 1, 0)]), ((4294967276, 0), [(3, 0, 1)]), ((0, 0), [(4, 1, 0)]), ((4294967276, 0), [(4, 0, 1)]), ((0, 0), [(5, 1, 0)]), ((4294967276, 0), [(5, 0, 1)]), ((0, 1), [(1, 0, 1), (5, 1, 0)]), ((0, 1), [(9, 1, 0)]), ((0, 1), [(2, 0, 1), (10, 1, 0)]), ((0, 17), [(11, 1, 0)]), ((18, 0), [(11, 0, 1)])] [([], [((0, 1), [(4, 1, 0)])], [], [])]
theorem zx_D1213_ok {PT : Nat → zz_W → Prop} : zx_Lok 64 zHT PT zx_D1213 := by
  refine zx_Lc_ok (fun w hI hK ins hl hr he hg => ?_)
  obtain ⟨a0, a1, a2, a3, a4, a5, a6, rfl⟩ := zx_i7 hl
  have e0 : (0 : Int) + (1 * a0 + ((-1) * a1 + ((-4294967296) * a2 + ((-18446744073709551616) * a3 + ((-79228162514264337593543950336) * a4 + 0))))) = 0 := he _ List.mem_cons_self
  have e1 : ((-1) : Int) + (1 * (zk_xe w 2000185 a0) + 0) = 0 := he _ (List.mem_cons_of_mem _ List.mem_cons_self)
  have e2 : ((-1) : Int) + (1 * (zk_xe w 2000176 a5) + 0) = 0 := he _ (List.mem_cons_of_mem _ (List.mem_cons_of_mem _ List.mem_cons_self))
  have e3 : (0 : Int) + ((-8000) * a1 + ((-1) * a2 + (1 * a6 + 0))) = 0 := he _ (List.mem_cons_of_mem _ (List.mem_cons_of_mem _ (List.mem_cons_of_mem _ List.mem_cons_self)))
  have g0 : 0 ≤ (0 : Int) + (1 * a1 + 0) := hg _ List.mem_cons_self
  have g1 : 0 ≤ (4294967276 : Int) + ((-1) * a1 + 0) := hg _ (List.mem_cons_of_mem _ List.mem_cons_self)
  have g2 : 0 ≤ (0 : Int) + (1 * a2 + 0) := hg _ (List.mem_cons_of_mem _ (List.mem_cons_of_mem _ List.mem_cons_self))
  have g3 : 0 ≤ (4294967276 : Int) + ((-1) * a2 + 0) := hg _ (List.mem_cons_of_mem _ (List.mem_cons_of_mem _ (List.mem_cons_of_mem _ List.mem_cons_self)))
  have g4 : 0 ≤ (0 : Int) + (1 * a3 + 0) := hg _ (List.mem_cons_of_mem _ (List.mem_cons_of_mem _ (List.mem_cons_of_mem _ (List.mem_cons_of_mem _ List.mem_cons_self))))
  have g5 : 0 ≤ (4294967276 : Int) + ((-1) * a3 + 0) := hg _ (List.mem_cons_of_mem _ (List.mem_cons_of_mem _ (List.mem_cons_of_mem _ (List.mem_cons_of_mem _ (List.mem_cons_of_mem _ List.mem_cons_self)))))
  have g6 : 0 ≤ (0 : Int) + (1 * a4 + 0) := hg _ (List.mem_cons_of_mem _ (List.mem_cons_of_mem _ (List.mem_cons_of_mem _ (List.mem_cons_of_mem _ (List.mem_cons_of_mem _ (List.mem_cons_of_mem _ List.mem_cons_self))))))
  have g7 : 0 ≤ (4294967276 : Int) + ((-1) * a4 + 0) := hg _ (List.mem_cons_of_mem _ (List.mem_cons_of_mem _ (List.mem_cons_of_mem _ (List.mem_cons_of_mem _ (List.mem_cons_of_mem _ (List.mem_cons_of_mem _ (List.mem_cons_of_mem _ List.mem_cons_self)))))))
  have g8 : 0 ≤ (0 : Int) + (1 * a5 + 0) := hg _ (List.mem_cons_of_mem _ (List.mem_cons_of_mem _ (List.mem_cons_of_mem _ (List.mem_cons_of_mem _ (List.mem_cons_of_mem _ (List.mem_cons_of_mem _ (List.mem_cons_of_mem _ (List.mem_cons_of_mem _ List.mem_cons_self))))))))
  have g9 : 0 ≤ (4294967276 : Int) + ((-1) * a5 + 0) := hg _ (List.mem_cons_of_mem _ (List.mem_cons_of_mem _ (List.mem_cons_of_mem _ (List.mem_cons_of_mem _ (List.mem_cons_of_mem _ (List.mem_cons_of_mem _ (List.mem_cons_of_mem _ (List.mem_cons_of_mem _ (List.mem_cons_of_mem _ List.mem_cons_self)))))))))
  have g10 : 0 ≤ ((-1) : Int) + ((-1) * a1 + (1 * a5 + 0)) := hg _ (List.mem_cons_of_mem _ (List.mem_cons_of_mem _ (List.mem_cons_of_mem _ (List.mem_cons_of_mem _ (List.mem_cons_of_mem _ (List.mem_cons_of_mem _ (List.mem_cons_of_mem _ (List.mem_cons_of_mem _ (List.mem_cons_of_mem _ (List.mem_cons_of_mem _ List.mem_cons_self))))))))))
  have g11 : 0 ≤ ((-1) : Int) + (1 * (zk_xe w 176 a1) + 0) := hg _ (List.mem_cons_of_mem _ (List.mem_cons_of_mem _ (List.mem_cons_of_mem _ (List.mem_cons_of_mem _ (List.mem_cons_of_mem _ (List.mem_cons_of_mem _ (List.mem_cons_of_mem _ (List.mem_cons_of_mem _ (List.mem_cons_of_mem _ (List.mem_cons_of_mem _ (List.mem_cons_of_mem _ List.mem_cons_self)))))))))))
  have g12 : 0 ≤ ((-1) : Int) + ((-1) * a2 + (1 * (zk_xe w 207 a1) + 0)) := hg _ (List.mem_cons_of_mem _ (List.mem_cons_of_mem _ (List.mem_cons_of_mem _ (List.mem_cons_of_mem _ (List.mem_cons_of_mem _ (List.mem_cons_of_mem _ (List.mem_cons_of_mem _ (List.mem_cons_of_mem _ (List.mem_cons_of_mem _ (List.mem_cons_of_mem _ (List.mem_cons_of_mem _ (List.mem_cons_of_mem _ List.mem_cons_self))))))))))))
  have g13 : 0 ≤ ((-17) : Int) + (1 * (zk_xe w 208 a6) + 0) := hg _ (List.mem_cons_of_mem _ (List.mem_cons_of_mem _ (List.mem_cons_of_mem _ (List.mem_cons_of_mem _ (List.mem_cons_of_mem _ (List.mem_cons_of_mem _ (List.mem_cons_of_mem _ (List.mem_cons_of_mem _ (List.mem_cons_of_mem _ (List.mem_cons_of_mem _ (List.mem_cons_of_mem _ (List.mem_cons_of_mem _ (List.mem_cons_of_mem _ List.mem_cons_self)))))))))))))
  have g14 : 0 ≤ (18 : Int) + ((-1) * (zk_xe w 208 a6) + 0) := hg _ (List.mem_cons_of_mem _ (List.mem_cons_of_mem _ (List.mem_cons_of_mem _ (List.mem_cons_of_mem _ (List.mem_cons_of_mem _ (List.mem_cons_of_mem _ (List.mem_cons_of_mem _ (List.mem_cons_of_mem _ (List.mem_cons_of_mem _ (List.mem_cons_of_mem _ (List.mem_cons_of_mem _ (List.mem_cons_of_mem _ (List.mem_cons_of_mem _ (List.mem_cons_of_mem _ List.mem_cons_self))))))))))))))
  have r0 : 0 ≤ a0 := hr _ List.mem_cons_self
  have r1 : 0 ≤ a5 := hr _ (List.mem_cons_of_mem _ List.mem_cons_self)
  have r2 : 0 ≤ a1 := hr _ (List.mem_cons_of_mem _ (List.mem_cons_of_mem _ List.mem_cons_self))
  have r3 : 0 ≤ a1 := hr _ (List.mem_cons_of_mem _ (List.mem_cons_of_mem _ (List.mem_cons_of_mem _ List.mem_cons_self)))
  have r4 : 0 ≤ a6 := hr _ (List.mem_cons_of_mem _ (List.mem_cons_of_mem _ (List.mem_cons_of_mem _ (List.mem_cons_of_mem _ List.mem_cons_self))))
  have hp := (zfl_185 (w := w) (j := a0) (u := a1) (k := a2) (p := a3) (q := a4) (by omega) (by omega) (by omega) (by omega) (by omega) (by omega) (by omega) (by omega) (by omega) ).mp (by omega)
  have kO : zh_e w 176 (a1) = zk_xe w 176 a1 := by rw [zk_xe_r (i := 176) (by decide)]; show zk_el w 176 (a1) = zk_el w 176 a1; rw [show a1 = a1 by omega]
  have kS : zh_e w 207 (a1) = zk_xe w 207 a1 := by rw [zk_xe_r (i := 207) (by decide)]; show zk_el w 207 (a1) = zk_el w 207 a1; rw [show a1 = a1 by omega]
  have kW : zh_e w 208 (8000 * a1 + a2) = zk_xe w 208 a6 := by rw [zk_xe_r (i := 208) (by decide)]; show zk_el w 208 (8000 * a1 + a2) = zk_el w 208 a6; rw [show 8000 * a1 + a2 = a6 by omega]
  have hsh := (zc_176 (w := w) (j := a5) (n := a5) (by omega) (by omega) (by omega) ).mp (by omega) a1 (by omega) (by omega) (by rw [kO]; omega)
  obtain ⟨⟨s0, s1⟩, hF, hs, hB, -, -⟩ := hsh
  rw [kS] at s1
  have h := zfl_p2 hp hs (by rw [kS]; omega) (by rw [kW]; omega)
  exact ⟨_, List.mem_cons_self, [], rfl, zx_bnil, (zx_cs1 (by show 0 ≤ ((-1) : Int) + (1 * a4 + 0); omega) zx_cs0), zx_eF0, zx_k0⟩
def zx_D1211 : zx_L := zx_Lc [] 8 [(2000185, 0), (2000176, 5), (176, 1), (207, 1), (208, 6), (258, 7)] [] [((0, 0), [(0, 1, 0), (1, 0, 1), (2, 0, 4294967296), (3, 0, 18446744073709551616), (4, 0, 79228162514264337593543950336)]), ((0, 1), [(8, 1, 0)]), ((0, 1), [(9, 1, 0)]), ((0, 0), [(1, 0, 8000), (2, 0, 1), (6, 1, 0)]), ((1, 0), [(3, 0, 1), (7, 1, 0)])] [((0, 0), [(1, 1, 0)]), ((4294967276, 0), [(1, 0, 1)]), ((0, 0), [(2, 1, 0)]), ((4294967276, 0), [(2, 0, 1)]), ((0, 0), [(3, 1, 0)]), ((4294967276, 0), [(3, 0, 1)]), ((0, 0), [(4, 1, 0)]), ((4294967276, 0), [(4, 0, 1)]), ((0, 0), [(5, 1, 0)]), ((4294967276, 0), [(5, 0, 1)]), ((0, 1), [(1, 0, 1), (5, 1, 0)]), ((0, 1), [(10, 1, 0)]), ((0, 1), [(2, 0, 1), (11, 1, 0)]), ((0, 14), [(12, 1, 0)]), ((15, 0), [(12, 0, 1)]), ((0, 0), [(7, 1, 0)])] [([(13, 14)], [((0, 0), [(1, 0, 8000), (13, 1, 0)]), ((0, 1), [(1, 8000, 0), (2, 1, 0), (13, 0, 1)])], [(208, ((0, 0), [(13, 1, 0)]), ((0, 0), [(14, 1, 0)]))], [])]
theorem zx_D1211_ok {PT : Nat → zz_W → Prop} : zx_Lok 64 zHT PT zx_D1211 := by
  refine zx_Lc_ok (fun w hI hK ins hl hr he hg => ?_)
  obtain ⟨a0, a1, a2, a3, a4, a5, a6, a7, rfl⟩ := zx_i8 hl
  have e0 : (0 : Int) + (1 * a0 + ((-1) * a1 + ((-4294967296) * a2 + ((-18446744073709551616) * a3 + ((-79228162514264337593543950336) * a4 + 0))))) = 0 := he _ List.mem_cons_self
  have e1 : ((-1) : Int) + (1 * (zk_xe w 2000185 a0) + 0) = 0 := he _ (List.mem_cons_of_mem _ List.mem_cons_self)
  have e2 : ((-1) : Int) + (1 * (zk_xe w 2000176 a5) + 0) = 0 := he _ (List.mem_cons_of_mem _ (List.mem_cons_of_mem _ List.mem_cons_self))
  have e3 : (0 : Int) + ((-8000) * a1 + ((-1) * a2 + (1 * a6 + 0))) = 0 := he _ (List.mem_cons_of_mem _ (List.mem_cons_of_mem _ (List.mem_cons_of_mem _ List.mem_cons_self)))
  have e4 : (1 : Int) + ((-1) * a3 + (1 * a7 + 0)) = 0 := he _ (List.mem_cons_of_mem _ (List.mem_cons_of_mem _ (List.mem_cons_of_mem _ (List.mem_cons_of_mem _ List.mem_cons_self))))
  have g0 : 0 ≤ (0 : Int) + (1 * a1 + 0) := hg _ List.mem_cons_self
  have g1 : 0 ≤ (4294967276 : Int) + ((-1) * a1 + 0) := hg _ (List.mem_cons_of_mem _ List.mem_cons_self)
  have g2 : 0 ≤ (0 : Int) + (1 * a2 + 0) := hg _ (List.mem_cons_of_mem _ (List.mem_cons_of_mem _ List.mem_cons_self))
  have g3 : 0 ≤ (4294967276 : Int) + ((-1) * a2 + 0) := hg _ (List.mem_cons_of_mem _ (List.mem_cons_of_mem _ (List.mem_cons_of_mem _ List.mem_cons_self)))
  have g4 : 0 ≤ (0 : Int) + (1 * a3 + 0) := hg _ (List.mem_cons_of_mem _ (List.mem_cons_of_mem _ (List.mem_cons_of_mem _ (List.mem_cons_of_mem _ List.mem_cons_self))))
  have g5 : 0 ≤ (4294967276 : Int) + ((-1) * a3 + 0) := hg _ (List.mem_cons_of_mem _ (List.mem_cons_of_mem _ (List.mem_cons_of_mem _ (List.mem_cons_of_mem _ (List.mem_cons_of_mem _ List.mem_cons_self)))))
  have g6 : 0 ≤ (0 : Int) + (1 * a4 + 0) := hg _ (List.mem_cons_of_mem _ (List.mem_cons_of_mem _ (List.mem_cons_of_mem _ (List.mem_cons_of_mem _ (List.mem_cons_of_mem _ (List.mem_cons_of_mem _ List.mem_cons_self))))))
  have g7 : 0 ≤ (4294967276 : Int) + ((-1) * a4 + 0) := hg _ (List.mem_cons_of_mem _ (List.mem_cons_of_mem _ (List.mem_cons_of_mem _ (List.mem_cons_of_mem _ (List.mem_cons_of_mem _ (List.mem_cons_of_mem _ (List.mem_cons_of_mem _ List.mem_cons_self)))))))
  have g8 : 0 ≤ (0 : Int) + (1 * a5 + 0) := hg _ (List.mem_cons_of_mem _ (List.mem_cons_of_mem _ (List.mem_cons_of_mem _ (List.mem_cons_of_mem _ (List.mem_cons_of_mem _ (List.mem_cons_of_mem _ (List.mem_cons_of_mem _ (List.mem_cons_of_mem _ List.mem_cons_self))))))))
  have g9 : 0 ≤ (4294967276 : Int) + ((-1) * a5 + 0) := hg _ (List.mem_cons_of_mem _ (List.mem_cons_of_mem _ (List.mem_cons_of_mem _ (List.mem_cons_of_mem _ (List.mem_cons_of_mem _ (List.mem_cons_of_mem _ (List.mem_cons_of_mem _ (List.mem_cons_of_mem _ (List.mem_cons_of_mem _ List.mem_cons_self)))))))))
  have g10 : 0 ≤ ((-1) : Int) + ((-1) * a1 + (1 * a5 + 0)) := hg _ (List.mem_cons_of_mem _ (List.mem_cons_of_mem _ (List.mem_cons_of_mem _ (List.mem_cons_of_mem _ (List.mem_cons_of_mem _ (List.mem_cons_of_mem _ (List.mem_cons_of_mem _ (List.mem_cons_of_mem _ (List.mem_cons_of_mem _ (List.mem_cons_of_mem _ List.mem_cons_self))))))))))
  have g11 : 0 ≤ ((-1) : Int) + (1 * (zk_xe w 176 a1) + 0) := hg _ (List.mem_cons_of_mem _ (List.mem_cons_of_mem _ (List.mem_cons_of_mem _ (List.mem_cons_of_mem _ (List.mem_cons_of_mem _ (List.mem_cons_of_mem _ (List.mem_cons_of_mem _ (List.mem_cons_of_mem _ (List.mem_cons_of_mem _ (List.mem_cons_of_mem _ (List.mem_cons_of_mem _ List.mem_cons_self)))))))))))
  have g12 : 0 ≤ ((-1) : Int) + ((-1) * a2 + (1 * (zk_xe w 207 a1) + 0)) := hg _ (List.mem_cons_of_mem _ (List.mem_cons_of_mem _ (List.mem_cons_of_mem _ (List.mem_cons_of_mem _ (List.mem_cons_of_mem _ (List.mem_cons_of_mem _ (List.mem_cons_of_mem _ (List.mem_cons_of_mem _ (List.mem_cons_of_mem _ (List.mem_cons_of_mem _ (List.mem_cons_of_mem _ (List.mem_cons_of_mem _ List.mem_cons_self))))))))))))
  have g13 : 0 ≤ ((-14) : Int) + (1 * (zk_xe w 208 a6) + 0) := hg _ (List.mem_cons_of_mem _ (List.mem_cons_of_mem _ (List.mem_cons_of_mem _ (List.mem_cons_of_mem _ (List.mem_cons_of_mem _ (List.mem_cons_of_mem _ (List.mem_cons_of_mem _ (List.mem_cons_of_mem _ (List.mem_cons_of_mem _ (List.mem_cons_of_mem _ (List.mem_cons_of_mem _ (List.mem_cons_of_mem _ (List.mem_cons_of_mem _ List.mem_cons_self)))))))))))))
  have g14 : 0 ≤ (15 : Int) + ((-1) * (zk_xe w 208 a6) + 0) := hg _ (List.mem_cons_of_mem _ (List.mem_cons_of_mem _ (List.mem_cons_of_mem _ (List.mem_cons_of_mem _ (List.mem_cons_of_mem _ (List.mem_cons_of_mem _ (List.mem_cons_of_mem _ (List.mem_cons_of_mem _ (List.mem_cons_of_mem _ (List.mem_cons_of_mem _ (List.mem_cons_of_mem _ (List.mem_cons_of_mem _ (List.mem_cons_of_mem _ (List.mem_cons_of_mem _ List.mem_cons_self))))))))))))))
  have g15 : 0 ≤ (0 : Int) + (1 * a7 + 0) := hg _ (List.mem_cons_of_mem _ (List.mem_cons_of_mem _ (List.mem_cons_of_mem _ (List.mem_cons_of_mem _ (List.mem_cons_of_mem _ (List.mem_cons_of_mem _ (List.mem_cons_of_mem _ (List.mem_cons_of_mem _ (List.mem_cons_of_mem _ (List.mem_cons_of_mem _ (List.mem_cons_of_mem _ (List.mem_cons_of_mem _ (List.mem_cons_of_mem _ (List.mem_cons_of_mem _ (List.mem_cons_of_mem _ List.mem_cons_self)))))))))))))))
  have r0 : 0 ≤ a0 := hr _ List.mem_cons_self
  have r1 : 0 ≤ a5 := hr _ (List.mem_cons_of_mem _ List.mem_cons_self)
  have r2 : 0 ≤ a1 := hr _ (List.mem_cons_of_mem _ (List.mem_cons_of_mem _ List.mem_cons_self))
  have r3 : 0 ≤ a1 := hr _ (List.mem_cons_of_mem _ (List.mem_cons_of_mem _ (List.mem_cons_of_mem _ List.mem_cons_self)))
  have r4 : 0 ≤ a6 := hr _ (List.mem_cons_of_mem _ (List.mem_cons_of_mem _ (List.mem_cons_of_mem _ (List.mem_cons_of_mem _ List.mem_cons_self))))
  have r5 : 0 ≤ a7 := hr _ (List.mem_cons_of_mem _ (List.mem_cons_of_mem _ (List.mem_cons_of_mem _ (List.mem_cons_of_mem _ (List.mem_cons_of_mem _ List.mem_cons_self)))))
  have hp := (zfl_185 (w := w) (j := a0) (u := a1) (k := a2) (p := a3) (q := a4) (by omega) (by omega) (by omega) (by omega) (by omega) (by omega) (by omega) (by omega) (by omega) ).mp (by omega)
  have kO : zh_e w 176 (a1) = zk_xe w 176 a1 := by rw [zk_xe_r (i := 176) (by decide)]; show zk_el w 176 (a1) = zk_el w 176 a1; rw [show a1 = a1 by omega]
  have kS : zh_e w 207 (a1) = zk_xe w 207 a1 := by rw [zk_xe_r (i := 207) (by decide)]; show zk_el w 207 (a1) = zk_el w 207 a1; rw [show a1 = a1 by omega]
  have kW : zh_e w 208 (8000 * a1 + a2) = zk_xe w 208 a6 := by rw [zk_xe_r (i := 208) (by decide)]; show zk_el w 208 (8000 * a1 + a2) = zk_el w 208 a6; rw [show 8000 * a1 + a2 = a6 by omega]
  have hsh := (zc_176 (w := w) (j := a5) (n := a5) (by omega) (by omega) (by omega) ).mp (by omega) a1 (by omega) (by omega) (by rw [kO]; omega)
  obtain ⟨⟨s0, s1⟩, hF, hs, hB, -, -⟩ := hsh
  rw [kS] at s1
  have kJ : zh_e w 258 (a3 - 1) = zk_xe w 258 a7 := by rw [zk_xe_r (i := 258) (by decide)]; show zk_el w 258 (a3 - 1) = zk_el w 258 a7; rw [show a3 - 1 = a7 by omega]
  have h := (zfl_p1 hp hs (by rw [kS]; omega) (by rw [kW]; omega)).2
  rw [kJ] at h
  have kv : zh_e w 208 ((zk_xe w 258 a7)) = zk_xe w 208 (zk_xe w 258 a7) := by rw [zk_xe_r (i := 208) (by decide)]; show zk_el w 208 ((zk_xe w 258 a7)) = zk_el w 208 (zk_xe w 258 a7); rw [show (zk_xe w 258 a7) = (zk_xe w 258 a7) by omega]
  rw [kv] at h
  exact ⟨_, List.mem_cons_self, [zk_xe w 208 (zk_xe w 258 a7)], rfl, (zx_bcons (by show (13 : Int) ≤ zk_xe w 208 (zk_xe w 258 a7) ∧ zk_xe w 208 (zk_xe w 258 a7) ≤ (14 : Int); omega) zx_bnil), (zx_cs1 (by show 0 ≤ (0 : Int) + ((-8000) * a1 + (1 * (zk_xe w 258 a7) + 0)); omega) (zx_cs1 (by show 0 ≤ ((-1) : Int) + (8000 * a1 + (1 * a2 + ((-1) * (zk_xe w 258 a7) + 0))); omega) zx_cs0)), (zx_eF1 (by show 0 ≤ (0 : Int) + (1 * (zk_xe w 258 a7) + 0); omega) (by show zk_xe w 208 ((0 : Int) + (1 * (zk_xe w 258 a7) + 0)) = (0 : Int) + (1 * (zk_xe w 208 (zk_xe w 258 a7)) + 0); rw [show (0 : Int) + (1 * (zk_xe w 258 a7) + 0) = (zk_xe w 258 a7) by omega]; omega) zx_eF0), zx_k0⟩
def zx_D1214 : zx_L := zx_Lc [] 8 [(2000185, 0), (2000176, 5), (176, 1), (207, 1), (208, 6), (259, 7)] [] [((0, 0), [(0, 1, 0), (1, 0, 1), (2, 0, 4294967296), (3, 0, 18446744073709551616), (4, 0, 79228162514264337593543950336)]), ((0, 1), [(8, 1, 0)]), ((0, 1), [(9, 1, 0)]), ((0, 0), [(1, 0, 8000), (2, 0, 1), (6, 1, 0)]), ((1, 0), [(4, 0, 1), (7, 1, 0)])] [((0, 0), [(1, 1, 0)]), ((4294967276, 0), [(1, 0, 1)]), ((0, 0), [(2, 1, 0)]), ((4294967276, 0), [(2, 0, 1)]), ((0, 0), [(3, 1, 0)]), ((4294967276, 0), [(3, 0, 1)]), ((0, 0), [(4, 1, 0)]), ((4294967276, 0), [(4, 0, 1)]), ((0, 0), [(5, 1, 0)]), ((4294967276, 0), [(5, 0, 1)]), ((0, 1), [(1, 0, 1), (5, 1, 0)]), ((0, 1), [(10, 1, 0)]), ((0, 1), [(2, 0, 1), (11, 1, 0)]), ((0, 17), [(12, 1, 0)]), ((18, 0), [(12, 0, 1)]), ((0, 0), [(7, 1, 0)])] [([(16, 16)], [((0, 0), [(1, 0, 8000), (13, 1, 0)]), ((0, 1), [(1, 8000, 0), (2, 1, 0), (13, 0, 1)])], [(208, ((0, 0), [(13, 1, 0)]), ((0, 0), [(14, 1, 0)]))], [])]
theorem zx_D1214_ok {PT : Nat → zz_W → Prop} : zx_Lok 64 zHT PT zx_D1214 := by
  refine zx_Lc_ok (fun w hI hK ins hl hr he hg => ?_)
  obtain ⟨a0, a1, a2, a3, a4, a5, a6, a7, rfl⟩ := zx_i8 hl
  have e0 : (0 : Int) + (1 * a0 + ((-1) * a1 + ((-4294967296) * a2 + ((-18446744073709551616) * a3 + ((-79228162514264337593543950336) * a4 + 0))))) = 0 := he _ List.mem_cons_self
  have e1 : ((-1) : Int) + (1 * (zk_xe w 2000185 a0) + 0) = 0 := he _ (List.mem_cons_of_mem _ List.mem_cons_self)
  have e2 : ((-1) : Int) + (1 * (zk_xe w 2000176 a5) + 0) = 0 := he _ (List.mem_cons_of_mem _ (List.mem_cons_of_mem _ List.mem_cons_self))
  have e3 : (0 : Int) + ((-8000) * a1 + ((-1) * a2 + (1 * a6 + 0))) = 0 := he _ (List.mem_cons_of_mem _ (List.mem_cons_of_mem _ (List.mem_cons_of_mem _ List.mem_cons_self)))
  have e4 : (1 : Int) + ((-1) * a4 + (1 * a7 + 0)) = 0 := he _ (List.mem_cons_of_mem _ (List.mem_cons_of_mem _ (List.mem_cons_of_mem _ (List.mem_cons_of_mem _ List.mem_cons_self))))
  have g0 : 0 ≤ (0 : Int) + (1 * a1 + 0) := hg _ List.mem_cons_self
  have g1 : 0 ≤ (4294967276 : Int) + ((-1) * a1 + 0) := hg _ (List.mem_cons_of_mem _ List.mem_cons_self)
  have g2 : 0 ≤ (0 : Int) + (1 * a2 + 0) := hg _ (List.mem_cons_of_mem _ (List.mem_cons_of_mem _ List.mem_cons_self))
  have g3 : 0 ≤ (4294967276 : Int) + ((-1) * a2 + 0) := hg _ (List.mem_cons_of_mem _ (List.mem_cons_of_mem _ (List.mem_cons_of_mem _ List.mem_cons_self)))
  have g4 : 0 ≤ (0 : Int) + (1 * a3 + 0) := hg _ (List.mem_cons_of_mem _ (List.mem_cons_of_mem _ (List.mem_cons_of_mem _ (List.mem_cons_of_mem _ List.mem_cons_self))))
  have g5 : 0 ≤ (4294967276 : Int) + ((-1) * a3 + 0) := hg _ (List.mem_cons_of_mem _ (List.mem_cons_of_mem _ (List.mem_cons_of_mem _ (List.mem_cons_of_mem _ (List.mem_cons_of_mem _ List.mem_cons_self)))))
  have g6 : 0 ≤ (0 : Int) + (1 * a4 + 0) := hg _ (List.mem_cons_of_mem _ (List.mem_cons_of_mem _ (List.mem_cons_of_mem _ (List.mem_cons_of_mem _ (List.mem_cons_of_mem _ (List.mem_cons_of_mem _ List.mem_cons_self))))))
  have g7 : 0 ≤ (4294967276 : Int) + ((-1) * a4 + 0) := hg _ (List.mem_cons_of_mem _ (List.mem_cons_of_mem _ (List.mem_cons_of_mem _ (List.mem_cons_of_mem _ (List.mem_cons_of_mem _ (List.mem_cons_of_mem _ (List.mem_cons_of_mem _ List.mem_cons_self)))))))
  have g8 : 0 ≤ (0 : Int) + (1 * a5 + 0) := hg _ (List.mem_cons_of_mem _ (List.mem_cons_of_mem _ (List.mem_cons_of_mem _ (List.mem_cons_of_mem _ (List.mem_cons_of_mem _ (List.mem_cons_of_mem _ (List.mem_cons_of_mem _ (List.mem_cons_of_mem _ List.mem_cons_self))))))))
  have g9 : 0 ≤ (4294967276 : Int) + ((-1) * a5 + 0) := hg _ (List.mem_cons_of_mem _ (List.mem_cons_of_mem _ (List.mem_cons_of_mem _ (List.mem_cons_of_mem _ (List.mem_cons_of_mem _ (List.mem_cons_of_mem _ (List.mem_cons_of_mem _ (List.mem_cons_of_mem _ (List.mem_cons_of_mem _ List.mem_cons_self)))))))))
  have g10 : 0 ≤ ((-1) : Int) + ((-1) * a1 + (1 * a5 + 0)) := hg _ (List.mem_cons_of_mem _ (List.mem_cons_of_mem _ (List.mem_cons_of_mem _ (List.mem_cons_of_mem _ (List.mem_cons_of_mem _ (List.mem_cons_of_mem _ (List.mem_cons_of_mem _ (List.mem_cons_of_mem _ (List.mem_cons_of_mem _ (List.mem_cons_of_mem _ List.mem_cons_self))))))))))
  have g11 : 0 ≤ ((-1) : Int) + (1 * (zk_xe w 176 a1) + 0) := hg _ (List.mem_cons_of_mem _ (List.mem_cons_of_mem _ (List.mem_cons_of_mem _ (List.mem_cons_of_mem _ (List.mem_cons_of_mem _ (List.mem_cons_of_mem _ (List.mem_cons_of_mem _ (List.mem_cons_of_mem _ (List.mem_cons_of_mem _ (List.mem_cons_of_mem _ (List.mem_cons_of_mem _ List.mem_cons_self)))))))))))
  have g12 : 0 ≤ ((-1) : Int) + ((-1) * a2 + (1 * (zk_xe w 207 a1) + 0)) := hg _ (List.mem_cons_of_mem _ (List.mem_cons_of_mem _ (List.mem_cons_of_mem _ (List.mem_cons_of_mem _ (List.mem_cons_of_mem _ (List.mem_cons_of_mem _ (List.mem_cons_of_mem _ (List.mem_cons_of_mem _ (List.mem_cons_of_mem _ (List.mem_cons_of_mem _ (List.mem_cons_of_mem _ (List.mem_cons_of_mem _ List.mem_cons_self))))))))))))
  have g13 : 0 ≤ ((-17) : Int) + (1 * (zk_xe w 208 a6) + 0) := hg _ (List.mem_cons_of_mem _ (List.mem_cons_of_mem _ (List.mem_cons_of_mem _ (List.mem_cons_of_mem _ (List.mem_cons_of_mem _ (List.mem_cons_of_mem _ (List.mem_cons_of_mem _ (List.mem_cons_of_mem _ (List.mem_cons_of_mem _ (List.mem_cons_of_mem _ (List.mem_cons_of_mem _ (List.mem_cons_of_mem _ (List.mem_cons_of_mem _ List.mem_cons_self)))))))))))))
  have g14 : 0 ≤ (18 : Int) + ((-1) * (zk_xe w 208 a6) + 0) := hg _ (List.mem_cons_of_mem _ (List.mem_cons_of_mem _ (List.mem_cons_of_mem _ (List.mem_cons_of_mem _ (List.mem_cons_of_mem _ (List.mem_cons_of_mem _ (List.mem_cons_of_mem _ (List.mem_cons_of_mem _ (List.mem_cons_of_mem _ (List.mem_cons_of_mem _ (List.mem_cons_of_mem _ (List.mem_cons_of_mem _ (List.mem_cons_of_mem _ (List.mem_cons_of_mem _ List.mem_cons_self))))))))))))))
  have g15 : 0 ≤ (0 : Int) + (1 * a7 + 0) := hg _ (List.mem_cons_of_mem _ (List.mem_cons_of_mem _ (List.mem_cons_of_mem _ (List.mem_cons_of_mem _ (List.mem_cons_of_mem _ (List.mem_cons_of_mem _ (List.mem_cons_of_mem _ (List.mem_cons_of_mem _ (List.mem_cons_of_mem _ (List.mem_cons_of_mem _ (List.mem_cons_of_mem _ (List.mem_cons_of_mem _ (List.mem_cons_of_mem _ (List.mem_cons_of_mem _ (List.mem_cons_of_mem _ List.mem_cons_self)))))))))))))))
  have r0 : 0 ≤ a0 := hr _ List.mem_cons_self
  have r1 : 0 ≤ a5 := hr _ (List.mem_cons_of_mem _ List.mem_cons_self)
  have r2 : 0 ≤ a1 := hr _ (List.mem_cons_of_mem _ (List.mem_cons_of_mem _ List.mem_cons_self))
  have r3 : 0 ≤ a1 := hr _ (List.mem_cons_of_mem _ (List.mem_cons_of_mem _ (List.mem_cons_of_mem _ List.mem_cons_self)))
  have r4 : 0 ≤ a6 := hr _ (List.mem_cons_of_mem _ (List.mem_cons_of_mem _ (List.mem_cons_of_mem _ (List.mem_cons_of_mem _ List.mem_cons_self))))
  have r5 : 0 ≤ a7 := hr _ (List.mem_cons_of_mem _ (List.mem_cons_of_mem _ (List.mem_cons_of_mem _ (List.mem_cons_of_mem _ (List.mem_cons_of_mem _ List.mem_cons_self)))))
  have hp := (zfl_185 (w := w) (j := a0) (u := a1) (k := a2) (p := a3) (q := a4) (by omega) (by omega) (by omega) (by omega) (by omega) (by omega) (by omega) (by omega) (by omega) ).mp (by omega)
  have kO : zh_e w 176 (a1) = zk_xe w 176 a1 := by rw [zk_xe_r (i := 176) (by decide)]; show zk_el w 176 (a1) = zk_el w 176 a1; rw [show a1 = a1 by omega]
  have kS : zh_e w 207 (a1) = zk_xe w 207 a1 := by rw [zk_xe_r (i := 207) (by decide)]; show zk_el w 207 (a1) = zk_el w 207 a1; rw [show a1 = a1 by omega]
  have kW : zh_e w 208 (8000 * a1 + a2) = zk_xe w 208 a6 := by rw [zk_xe_r (i := 208) (by decide)]; show zk_el w 208 (8000 * a1 + a2) = zk_el w 208 a6; rw [show 8000 * a1 + a2 = a6 by omega]
  have hsh := (zc_176 (w := w) (j := a5) (n := a5) (by omega) (by omega) (by omega) ).mp (by omega) a1 (by omega) (by omega) (by rw [kO]; omega)
  obtain ⟨⟨s0, s1⟩, hF, hs, hB, -, -⟩ := hsh
  rw [kS] at s1
  have kJ : zh_e w 259 (a4 - 1) = zk_xe w 259 a7 := by rw [zk_xe_r (i := 259) (by decide)]; show zk_el w 259 (a4 - 1) = zk_el w 259 a7; rw [show a4 - 1 = a7 by omega]
  have h := (zfl_p2 hp hs (by rw [kS]; omega) (by rw [kW]; omega)).2
  rw [kJ] at h
  have kv : zh_e w 208 ((zk_xe w 259 a7)) = zk_xe w 208 (zk_xe w 259 a7) := by rw [zk_xe_r (i := 208) (by decide)]; show zk_el w 208 ((zk_xe w 259 a7)) = zk_el w 208 (zk_xe w 259 a7); rw [show (zk_xe w 259 a7) = (zk_xe w 259 a7) by omega]
  rw [kv] at h
  exact ⟨_, List.mem_cons_self, [zk_xe w 208 (zk_xe w 259 a7)], rfl, (zx_bcons (by show (16 : Int) ≤ zk_xe w 208 (zk_xe w 259 a7) ∧ zk_xe w 208 (zk_xe w 259 a7) ≤ (16 : Int); omega) zx_bnil), (zx_cs1 (by show 0 ≤ (0 : Int) + ((-8000) * a1 + (1 * (zk_xe w 259 a7) + 0)); omega) (zx_cs1 (by show 0 ≤ ((-1) : Int) + (8000 * a1 + (1 * a2 + ((-1) * (zk_xe w 259 a7) + 0))); omega) zx_cs0)), (zx_eF1 (by show 0 ≤ (0 : Int) + (1 * (zk_xe w 259 a7) + 0); omega) (by show zk_xe w 208 ((0 : Int) + (1 * (zk_xe w 259 a7) + 0)) = (0 : Int) + (1 * (zk_xe w 208 (zk_xe w 259 a7)) + 0); rw [show (0 : Int) + (1 * (zk_xe w 259 a7) + 0) = (zk_xe w 259 a7) by omega]; omega) zx_eF0), zx_k0⟩
def zx_D1215 : zx_L := zx_Lc [] 9 [(2000185, 0), (2000176, 5), (176, 1), (207, 1), (208, 6), (259, 7), (323, 8)] [] [((0, 0), [(0, 1, 0), (1, 0, 1), (2, 0, 4294967296), (3, 0, 18446744073709551616), (4, 0, 79228162514264337593543950336)]), ((0, 1), [(9, 1, 0)]), ((0, 1), [(10, 1, 0)]), ((0, 0), [(1, 0, 8000), (2, 0, 1), (6, 1, 0)]), ((1, 0), [(4, 0, 1), (7, 1, 0)]), ((0, 0), [(8, 1, 0), (14, 0, 1)]), ((0, 18), [(13, 1, 0)])] [((0, 0), [(1, 1, 0)]), ((4294967276, 0), [(1, 0, 1)]), ((0, 0), [(2, 1, 0)]), ((4294967276, 0), [(2, 0, 1)]), ((0, 0), [(3, 1, 0)]), ((4294967276, 0), [(3, 0, 1)]), ((0, 0), [(4, 1, 0)]), ((4294967276, 0), [(4, 0, 1)]), ((0, 0), [(5, 1, 0)]), ((4294967276, 0), [(5, 0, 1)]), ((0, 1), [(1, 0, 1), (5, 1, 0)]), ((0, 1), [(11, 1, 0)]), ((0, 1), [(2, 0, 1), (12, 1, 0)]), ((0, 0), [(7, 1, 0)]), ((0, 0), [(8, 1, 0)])] [([(17, 17)], [((0, 1), [(14, 0, 1), (15, 1, 0)]), ((0, 1), [(1, 8000, 0), (2, 1, 0), (15, 0, 1)])], [(208, ((0, 0), [(15, 1, 0)]), ((0, 0), [(16, 1, 0)]))], [])]
theorem zx_D1215_ok {PT : Nat → zz_W → Prop} : zx_Lok 64 zHT PT zx_D1215 := by
  refine zx_Lc_ok (fun w hI hK ins hl hr he hg => ?_)
  obtain ⟨a0, a1, a2, a3, a4, a5, a6, a7, a8, rfl⟩ := zx_i9 hl
  have e0 : (0 : Int) + (1 * a0 + ((-1) * a1 + ((-4294967296) * a2 + ((-18446744073709551616) * a3 + ((-79228162514264337593543950336) * a4 + 0))))) = 0 := he _ List.mem_cons_self
  have e1 : ((-1) : Int) + (1 * (zk_xe w 2000185 a0) + 0) = 0 := he _ (List.mem_cons_of_mem _ List.mem_cons_self)
  have e2 : ((-1) : Int) + (1 * (zk_xe w 2000176 a5) + 0) = 0 := he _ (List.mem_cons_of_mem _ (List.mem_cons_of_mem _ List.mem_cons_self))
  have e3 : (0 : Int) + ((-8000) * a1 + ((-1) * a2 + (1 * a6 + 0))) = 0 := he _ (List.mem_cons_of_mem _ (List.mem_cons_of_mem _ (List.mem_cons_of_mem _ List.mem_cons_self)))
  have e4 : (1 : Int) + ((-1) * a4 + (1 * a7 + 0)) = 0 := he _ (List.mem_cons_of_mem _ (List.mem_cons_of_mem _ (List.mem_cons_of_mem _ (List.mem_cons_of_mem _ List.mem_cons_self))))
  have e5 : (0 : Int) + (1 * a8 + ((-1) * (zk_xe w 259 a7) + 0)) = 0 := he _ (List.mem_cons_of_mem _ (List.mem_cons_of_mem _ (List.mem_cons_of_mem _ (List.mem_cons_of_mem _ (List.mem_cons_of_mem _ List.mem_cons_self)))))
  have e6 : ((-18) : Int) + (1 * (zk_xe w 208 a6) + 0) = 0 := he _ (List.mem_cons_of_mem _ (List.mem_cons_of_mem _ (List.mem_cons_of_mem _ (List.mem_cons_of_mem _ (List.mem_cons_of_mem _ (List.mem_cons_of_mem _ List.mem_cons_self))))))
  have g0 : 0 ≤ (0 : Int) + (1 * a1 + 0) := hg _ List.mem_cons_self
  have g1 : 0 ≤ (4294967276 : Int) + ((-1) * a1 + 0) := hg _ (List.mem_cons_of_mem _ List.mem_cons_self)
  have g2 : 0 ≤ (0 : Int) + (1 * a2 + 0) := hg _ (List.mem_cons_of_mem _ (List.mem_cons_of_mem _ List.mem_cons_self))
  have g3 : 0 ≤ (4294967276 : Int) + ((-1) * a2 + 0) := hg _ (List.mem_cons_of_mem _ (List.mem_cons_of_mem _ (List.mem_cons_of_mem _ List.mem_cons_self)))
  have g4 : 0 ≤ (0 : Int) + (1 * a3 + 0) := hg _ (List.mem_cons_of_mem _ (List.mem_cons_of_mem _ (List.mem_cons_of_mem _ (List.mem_cons_of_mem _ List.mem_cons_self))))
  have g5 : 0 ≤ (4294967276 : Int) + ((-1) * a3 + 0) := hg _ (List.mem_cons_of_mem _ (List.mem_cons_of_mem _ (List.mem_cons_of_mem _ (List.mem_cons_of_mem _ (List.mem_cons_of_mem _ List.mem_cons_self)))))
  have g6 : 0 ≤ (0 : Int) + (1 * a4 + 0) := hg _ (List.mem_cons_of_mem _ (List.mem_cons_of_mem _ (List.mem_cons_of_mem _ (List.mem_cons_of_mem _ (List.mem_cons_of_mem _ (List.mem_cons_of_mem _ List.mem_cons_self))))))
  have g7 : 0 ≤ (4294967276 : Int) + ((-1) * a4 + 0) := hg _ (List.mem_cons_of_mem _ (List.mem_cons_of_mem _ (List.mem_cons_of_mem _ (List.mem_cons_of_mem _ (List.mem_cons_of_mem _ (List.mem_cons_of_mem _ (List.mem_cons_of_mem _ List.mem_cons_self)))))))
  have g8 : 0 ≤ (0 : Int) + (1 * a5 + 0) := hg _ (List.mem_cons_of_mem _ (List.mem_cons_of_mem _ (List.mem_cons_of_mem _ (List.mem_cons_of_mem _ (List.mem_cons_of_mem _ (List.mem_cons_of_mem _ (List.mem_cons_of_mem _ (List.mem_cons_of_mem _ List.mem_cons_self))))))))
  have g9 : 0 ≤ (4294967276 : Int) + ((-1) * a5 + 0) := hg _ (List.mem_cons_of_mem _ (List.mem_cons_of_mem _ (List.mem_cons_of_mem _ (List.mem_cons_of_mem _ (List.mem_cons_of_mem _ (List.mem_cons_of_mem _ (List.mem_cons_of_mem _ (List.mem_cons_of_mem _ (List.mem_cons_of_mem _ List.mem_cons_self)))))))))
  have g10 : 0 ≤ ((-1) : Int) + ((-1) * a1 + (1 * a5 + 0)) := hg _ (List.mem_cons_of_mem _ (List.mem_cons_of_mem _ (List.mem_cons_of_mem _ (List.mem_cons_of_mem _ (List.mem_cons_of_mem _ (List.mem_cons_of_mem _ (List.mem_cons_of_mem _ (List.mem_cons_of_mem _ (List.mem_cons_of_mem _ (List.mem_cons_of_mem _ List.mem_cons_self))))))))))
  have g11 : 0 ≤ ((-1) : Int) + (1 * (zk_xe w 176 a1) + 0) := hg _ (List.mem_cons_of_mem _ (List.mem_cons_of_mem _ (List.mem_cons_of_mem _ (List.mem_cons_of_mem _ (List.mem_cons_of_mem _ (List.mem_cons_of_mem _ (List.mem_cons_of_mem _ (List.mem_cons_of_mem _ (List.mem_cons_of_mem _ (List.mem_cons_of_mem _ (List.mem_cons_of_mem _ List.mem_cons_self)))))))))))
  have g12 : 0 ≤ ((-1) : Int) + ((-1) * a2 + (1 * (zk_xe w 207 a1) + 0)) := hg _ (List.mem_cons_of_mem _ (List.mem_cons_of_mem _ (List.mem_cons_of_mem _ (List.mem_cons_of_mem _ (List.mem_cons_of_mem _ (List.mem_cons_of_mem _ (List.mem_cons_of_mem _ (List.mem_cons_of_mem _ (List.mem_cons_of_mem _ (List.mem_cons_of_mem _ (List.mem_cons_of_mem _ (List.mem_cons_of_mem _ List.mem_cons_self))))))))))))
  have g13 : 0 ≤ (0 : Int) + (1 * a7 + 0) := hg _ (List.mem_cons_of_mem _ (List.mem_cons_of_mem _ (List.mem_cons_of_mem _ (List.mem_cons_of_mem _ (List.mem_cons_of_mem _ (List.mem_cons_of_mem _ (List.mem_cons_of_mem _ (List.mem_cons_of_mem _ (List.mem_cons_of_mem _ (List.mem_cons_of_mem _ (List.mem_cons_of_mem _ (List.mem_cons_of_mem _ (List.mem_cons_of_mem _ List.mem_cons_self)))))))))))))
  have g14 : 0 ≤ (0 : Int) + (1 * a8 + 0) := hg _ (List.mem_cons_of_mem _ (List.mem_cons_of_mem _ (List.mem_cons_of_mem _ (List.mem_cons_of_mem _ (List.mem_cons_of_mem _ (List.mem_cons_of_mem _ (List.mem_cons_of_mem _ (List.mem_cons_of_mem _ (List.mem_cons_of_mem _ (List.mem_cons_of_mem _ (List.mem_cons_of_mem _ (List.mem_cons_of_mem _ (List.mem_cons_of_mem _ (List.mem_cons_of_mem _ List.mem_cons_self))))))))))))))
  have r0 : 0 ≤ a0 := hr _ List.mem_cons_self
  have r1 : 0 ≤ a5 := hr _ (List.mem_cons_of_mem _ List.mem_cons_self)
  have r2 : 0 ≤ a1 := hr _ (List.mem_cons_of_mem _ (List.mem_cons_of_mem _ List.mem_cons_self))
  have r3 : 0 ≤ a1 := hr _ (List.mem_cons_of_mem _ (List.mem_cons_of_mem _ (List.mem_cons_of_mem _ List.mem_cons_self)))
  have r4 : 0 ≤ a6 := hr _ (List.mem_cons_of_mem _ (List.mem_cons_of_mem _ (List.mem_cons_of_mem _ (List.mem_cons_of_mem _ List.mem_cons_self))))
  have r5 : 0 ≤ a7 := hr _ (List.mem_cons_of_mem _ (List.mem_cons_of_mem _ (List.mem_cons_of_mem _ (List.mem_cons_of_mem _ (List.mem_cons_of_mem _ List.mem_cons_self)))))
  have r6 : 0 ≤ a8 := hr _ (List.mem_cons_of_mem _ (List.mem_cons_of_mem _ (List.mem_cons_of_mem _ (List.mem_cons_of_mem _ (List.mem_cons_of_mem _ (List.mem_cons_of_mem _ List.mem_cons_self))))))
  have hp := (zfl_185 (w := w) (j := a0) (u := a1) (k := a2) (p := a3) (q := a4) (by omega) (by omega) (by omega) (by omega) (by omega) (by omega) (by omega) (by omega) (by omega) ).mp (by omega)
  have kO : zh_e w 176 (a1) = zk_xe w 176 a1 := by rw [zk_xe_r (i := 176) (by decide)]; show zk_el w 176 (a1) = zk_el w 176 a1; rw [show a1 = a1 by omega]
  have kS : zh_e w 207 (a1) = zk_xe w 207 a1 := by rw [zk_xe_r (i := 207) (by decide)]; show zk_el w 207 (a1) = zk_el w 207 a1; rw [show a1 = a1 by omega]
  have kW : zh_e w 208 (8000 * a1 + a2) = zk_xe w 208 a6 := by rw [zk_xe_r (i := 208) (by decide)]; show zk_el w 208 (8000 * a1 + a2) = zk_el w 208 a6; rw [show 8000 * a1 + a2 = a6 by omega]
  have hsh := (zc_176 (w := w) (j := a5) (n := a5) (by omega) (by omega) (by omega) ).mp (by omega) a1 (by omega) (by omega) (by rw [kO]; omega)
  obtain ⟨⟨s0, s1⟩, hF, hs, hB, -, -⟩ := hsh
  rw [kS] at s1
  have kJ : zh_e w 259 (a4 - 1) = zk_xe w 259 a7 := by rw [zk_xe_r (i := 259) (by decide)]; show zk_el w 259 (a4 - 1) = zk_el w 259 a7; rw [show a4 - 1 = a7 by omega]
  have kL : zh_e w 323 (zk_xe w 259 a7) = zk_xe w 323 a8 := by rw [zk_xe_r (i := 323) (by decide)]; show zk_el w 323 (zk_xe w 259 a7) = zk_el w 323 a8; rw [show zk_xe w 259 a7 = a8 by omega]
  have h := zfl_p3 hp hs (by rw [kS]; omega) (by rw [kW]; omega)
  rw [kJ, kL] at h
  have kv : zh_e w 208 ((zk_xe w 323 a8)) = zk_xe w 208 (zk_xe w 323 a8) := by rw [zk_xe_r (i := 208) (by decide)]; show zk_el w 208 ((zk_xe w 323 a8)) = zk_el w 208 (zk_xe w 323 a8); rw [show (zk_xe w 323 a8) = (zk_xe w 323 a8) by omega]
  rw [kv] at h
  exact ⟨_, List.mem_cons_self, [zk_xe w 208 (zk_xe w 323 a8)], rfl, (zx_bcons (by show (17 : Int) ≤ zk_xe w 208 (zk_xe w 323 a8) ∧ zk_xe w 208 (zk_xe w 323 a8) ≤ (17 : Int); omega) zx_bnil), (zx_cs1 (by show 0 ≤ ((-1) : Int) + ((-1) * (zk_xe w 259 a7) + (1 * (zk_xe w 323 a8) + 0)); omega) (zx_cs1 (by show 0 ≤ ((-1) : Int) + (8000 * a1 + (1 * a2 + ((-1) * (zk_xe w 323 a8) + 0))); omega) zx_cs0)), (zx_eF1 (by show 0 ≤ (0 : Int) + (1 * (zk_xe w 323 a8) + 0); omega) (by show zk_xe w 208 ((0 : Int) + (1 * (zk_xe w 323 a8) + 0)) = (0 : Int) + (1 * (zk_xe w 208 (zk_xe w 323 a8)) + 0); rw [show (0 : Int) + (1 * (zk_xe w 323 a8) + 0) = (zk_xe w 323 a8) by omega]; omega) zx_eF0), zx_k0⟩
def zx_D1216 : zx_L := zx_Lc [] 7 [(2000185, 0), (2000176, 5), (176, 1), (207, 1), (2000186, 1)] [] [((0, 0), [(0, 1, 0), (1, 0, 1), (2, 0, 4294967296), (3, 0, 18446744073709551616), (4, 0, 79228162514264337593543950336)]), ((0, 1), [(7, 1, 0)]), ((0, 1), [(8, 1, 0)]), ((0, 0), [(2, 0, 1), (10, 1, 0)]), ((0, 1), [(11, 1, 0)]), ((0, 1), [(1, 0, 1), (6, 1, 0)])] [((0, 0), [(1, 1, 0)]), ((4294967276, 0), [(1, 0, 1)]), ((0, 0), [(2, 1, 0)]), ((4294967276, 0), [(2, 0, 1)]), ((0, 0), [(3, 1, 0)]), ((4294967276, 0), [(3, 0, 1)]), ((0, 0), [(4, 1, 0)]), ((4294967276, 0), [(4, 0, 1)]), ((0, 0), [(5, 1, 0)]), ((4294967276, 0), [(5, 0, 1)]), ((0, 1), [(1, 0, 1), (5, 1, 0)]), ((0, 1), [(9, 1, 0)])] [([], [], [(2000186, ((0, 0), [(6, 1, 0)]), ((1, 0), []))], [])]
theorem zx_D1216_ok {PT : Nat → zz_W → Prop} : zx_Lok 64 zHT PT zx_D1216 := by
  refine zx_Lc_ok (fun w hI hK ins hl hr he hg => ?_)
  obtain ⟨a0, a1, a2, a3, a4, a5, a6, rfl⟩ := zx_i7 hl
  have e0 : (0 : Int) + (1 * a0 + ((-1) * a1 + ((-4294967296) * a2 + ((-18446744073709551616) * a3 + ((-79228162514264337593543950336) * a4 + 0))))) = 0 := he _ List.mem_cons_self
  have e1 : ((-1) : Int) + (1 * (zk_xe w 2000185 a0) + 0) = 0 := he _ (List.mem_cons_of_mem _ List.mem_cons_self)
  have e2 : ((-1) : Int) + (1 * (zk_xe w 2000176 a5) + 0) = 0 := he _ (List.mem_cons_of_mem _ (List.mem_cons_of_mem _ List.mem_cons_self))
  have e3 : (0 : Int) + ((-1) * a2 + (1 * (zk_xe w 207 a1) + 0)) = 0 := he _ (List.mem_cons_of_mem _ (List.mem_cons_of_mem _ (List.mem_cons_of_mem _ List.mem_cons_self)))
  have e4 : ((-1) : Int) + (1 * (zk_xe w 2000186 a1) + 0) = 0 := he _ (List.mem_cons_of_mem _ (List.mem_cons_of_mem _ (List.mem_cons_of_mem _ (List.mem_cons_of_mem _ List.mem_cons_self))))
  have e5 : ((-1) : Int) + ((-1) * a1 + (1 * a6 + 0)) = 0 := he _ (List.mem_cons_of_mem _ (List.mem_cons_of_mem _ (List.mem_cons_of_mem _ (List.mem_cons_of_mem _ (List.mem_cons_of_mem _ List.mem_cons_self)))))
  have g0 : 0 ≤ (0 : Int) + (1 * a1 + 0) := hg _ List.mem_cons_self
  have g1 : 0 ≤ (4294967276 : Int) + ((-1) * a1 + 0) := hg _ (List.mem_cons_of_mem _ List.mem_cons_self)
  have g2 : 0 ≤ (0 : Int) + (1 * a2 + 0) := hg _ (List.mem_cons_of_mem _ (List.mem_cons_of_mem _ List.mem_cons_self))
  have g3 : 0 ≤ (4294967276 : Int) + ((-1) * a2 + 0) := hg _ (List.mem_cons_of_mem _ (List.mem_cons_of_mem _ (List.mem_cons_of_mem _ List.mem_cons_self)))
  have g4 : 0 ≤ (0 : Int) + (1 * a3 + 0) := hg _ (List.mem_cons_of_mem _ (List.mem_cons_of_mem _ (List.mem_cons_of_mem _ (List.mem_cons_of_mem _ List.mem_cons_self))))
  have g5 : 0 ≤ (4294967276 : Int) + ((-1) * a3 + 0) := hg _ (List.mem_cons_of_mem _ (List.mem_cons_of_mem _ (List.mem_cons_of_mem _ (List.mem_cons_of_mem _ (List.mem_cons_of_mem _ List.mem_cons_self)))))
  have g6 : 0 ≤ (0 : Int) + (1 * a4 + 0) := hg _ (List.mem_cons_of_mem _ (List.mem_cons_of_mem _ (List.mem_cons_of_mem _ (List.mem_cons_of_mem _ (List.mem_cons_of_mem _ (List.mem_cons_of_mem _ List.mem_cons_self))))))
  have g7 : 0 ≤ (4294967276 : Int) + ((-1) * a4 + 0) := hg _ (List.mem_cons_of_mem _ (List.mem_cons_of_mem _ (List.mem_cons_of_mem _ (List.mem_cons_of_mem _ (List.mem_cons_of_mem _ (List.mem_cons_of_mem _ (List.mem_cons_of_mem _ List.mem_cons_self)))))))
  have g8 : 0 ≤ (0 : Int) + (1 * a5 + 0) := hg _ (List.mem_cons_of_mem _ (List.mem_cons_of_mem _ (List.mem_cons_of_mem _ (List.mem_cons_of_mem _ (List.mem_cons_of_mem _ (List.mem_cons_of_mem _ (List.mem_cons_of_mem _ (List.mem_cons_of_mem _ List.mem_cons_self))))))))
  have g9 : 0 ≤ (4294967276 : Int) + ((-1) * a5 + 0) := hg _ (List.mem_cons_of_mem _ (List.mem_cons_of_mem _ (List.mem_cons_of_mem _ (List.mem_cons_of_mem _ (List.mem_cons_of_mem _ (List.mem_cons_of_mem _ (List.mem_cons_of_mem _ (List.mem_cons_of_mem _ (List.mem_cons_of_mem _ List.mem_cons_self)))))))))
  have g10 : 0 ≤ ((-1) : Int) + ((-1) * a1 + (1 * a5 + 0)) := hg _ (List.mem_cons_of_mem _ (List.mem_cons_of_mem _ (List.mem_cons_of_mem _ (List.mem_cons_of_mem _ (List.mem_cons_of_mem _ (List.mem_cons_of_mem _ (List.mem_cons_of_mem _ (List.mem_cons_of_mem _ (List.mem_cons_of_mem _ (List.mem_cons_of_mem _ List.mem_cons_self))))))))))
  have g11 : 0 ≤ ((-1) : Int) + (1 * (zk_xe w 176 a1) + 0) := hg _ (List.mem_cons_of_mem _ (List.mem_cons_of_mem _ (List.mem_cons_of_mem _ (List.mem_cons_of_mem _ (List.mem_cons_of_mem _ (List.mem_cons_of_mem _ (List.mem_cons_of_mem _ (List.mem_cons_of_mem _ (List.mem_cons_of_mem _ (List.mem_cons_of_mem _ (List.mem_cons_of_mem _ List.mem_cons_self)))))))))))
  have r0 : 0 ≤ a0 := hr _ List.mem_cons_self
  have r1 : 0 ≤ a5 := hr _ (List.mem_cons_of_mem _ List.mem_cons_self)
  have r2 : 0 ≤ a1 := hr _ (List.mem_cons_of_mem _ (List.mem_cons_of_mem _ List.mem_cons_self))
  have r3 : 0 ≤ a1 := hr _ (List.mem_cons_of_mem _ (List.mem_cons_of_mem _ (List.mem_cons_of_mem _ List.mem_cons_self)))
  have r4 : 0 ≤ a1 := hr _ (List.mem_cons_of_mem _ (List.mem_cons_of_mem _ (List.mem_cons_of_mem _ (List.mem_cons_of_mem _ List.mem_cons_self))))
  have hp := (zfl_185 (w := w) (j := a0) (u := a1) (k := a2) (p := a3) (q := a4) (by omega) (by omega) (by omega) (by omega) (by omega) (by omega) (by omega) (by omega) (by omega) ).mp (by omega)
  have kO : zh_e w 176 (a1) = zk_xe w 176 a1 := by rw [zk_xe_r (i := 176) (by decide)]; show zk_el w 176 (a1) = zk_el w 176 a1; rw [show a1 = a1 by omega]
  have kS : zh_e w 207 (a1) = zk_xe w 207 a1 := by rw [zk_xe_r (i := 207) (by decide)]; show zk_el w 207 (a1) = zk_el w 207 a1; rw [show a1 = a1 by omega]
  have hsh := (zc_176 (w := w) (j := a5) (n := a5) (by omega) (by omega) (by omega) ).mp (by omega) a1 (by omega) (by omega) (by rw [kO]; omega)
  obtain ⟨⟨s0, s1⟩, hF, hs, hB, -, -⟩ := hsh
  rw [kS] at s1
  have hd := zfl_186.mp (show zk_xe w 2000186 a1 = 1 by omega)
  rw [show a2 = zh_e w 207 a1 by rw [kS]; omega] at hp
  have h : zk_xe w 2000186 a6 = 1 := by
    refine zfl_186.mpr (fun u u0 u1 k k0 k1 k2 hk => ?_)
    by_cases c : u = a1
    · rw [c] at k1 hk ⊢
      exact zfl_e hp hs _ (by omega) (by omega) hk
    · exact hd u u0 (by omega) k k0 k1 k2 hk
  exact ⟨_, List.mem_cons_self, [], rfl, zx_bnil, zx_cs0, (zx_eF1 (by show 0 ≤ (0 : Int) + (1 * a6 + 0); omega) (by show zk_xe w 2000186 ((0 : Int) + (1 * a6 + 0)) = (1 : Int) + (0); rw [show (0 : Int) + (1 * a6 + 0) = a6 by omega]; exact h.trans (by omega)) zx_eF0), zx_k0⟩
def zx_E770 : zx_V := zx_Vc 258 [] 5 [(2000185, 0)] [((0, 0), [(2, 1, 0), (3, 0, 1), (4, 0, 4294967296), (5, 0, 18446744073709551616), (6, 0, 79228162514264337593543950336)]), ((0, 1), [(7, 1, 0)])] [((0, 0), [(3, 1, 0)]), ((4294967276, 0), [(3, 0, 1)]), ((0, 0), [(4, 1, 0)]), ((4294967276, 0), [(4, 0, 1)]), ((0, 0), [(5, 1, 0)]), ((4294967276, 0), [(5, 0, 1)]), ((0, 0), [(6, 1, 0)]), ((4294967276, 0), [(6, 0, 1)]), ((0, 0), [(0, 1, 0), (5, 0, 1)])] [(2000185, ((0, 0), [(2, 1, 0)]), ((1, 0), []))]
theorem zx_E770_ok {PT : Nat → zz_W → Prop} : zx_Vok 64 zHT PT zx_E770 := by
  refine zx_Vc_ok (fun w w' j ins hI hI' h0 hw hK hl he hg => ?_)
  obtain ⟨a0, a1, a2, a3, a4, rfl⟩ := zx_i5 hl
  have e0 : (0 : Int) + (1 * a0 + ((-1) * a1 + ((-4294967296) * a2 + ((-18446744073709551616) * a3 + ((-79228162514264337593543950336) * a4 + 0))))) = 0 := he _ List.mem_cons_self
  have e1 : ((-1) : Int) + (1 * (zk_xe w 2000185 a0) + 0) = 0 := he _ (List.mem_cons_of_mem _ List.mem_cons_self)
  have g0 : 0 ≤ (0 : Int) + (1 * a1 + 0) := hg _ List.mem_cons_self
  have g1 : 0 ≤ (4294967276 : Int) + ((-1) * a1 + 0) := hg _ (List.mem_cons_of_mem _ List.mem_cons_self)
  have g2 : 0 ≤ (0 : Int) + (1 * a2 + 0) := hg _ (List.mem_cons_of_mem _ (List.mem_cons_of_mem _ List.mem_cons_self))
  have g3 : 0 ≤ (4294967276 : Int) + ((-1) * a2 + 0) := hg _ (List.mem_cons_of_mem _ (List.mem_cons_of_mem _ (List.mem_cons_of_mem _ List.mem_cons_self)))
  have g4 : 0 ≤ (0 : Int) + (1 * a3 + 0) := hg _ (List.mem_cons_of_mem _ (List.mem_cons_of_mem _ (List.mem_cons_of_mem _ (List.mem_cons_of_mem _ List.mem_cons_self))))
  have g5 : 0 ≤ (4294967276 : Int) + ((-1) * a3 + 0) := hg _ (List.mem_cons_of_mem _ (List.mem_cons_of_mem _ (List.mem_cons_of_mem _ (List.mem_cons_of_mem _ (List.mem_cons_of_mem _ List.mem_cons_self)))))
  have g6 : 0 ≤ (0 : Int) + (1 * a4 + 0) := hg _ (List.mem_cons_of_mem _ (List.mem_cons_of_mem _ (List.mem_cons_of_mem _ (List.mem_cons_of_mem _ (List.mem_cons_of_mem _ (List.mem_cons_of_mem _ List.mem_cons_self))))))
  have g7 : 0 ≤ (4294967276 : Int) + ((-1) * a4 + 0) := hg _ (List.mem_cons_of_mem _ (List.mem_cons_of_mem _ (List.mem_cons_of_mem _ (List.mem_cons_of_mem _ (List.mem_cons_of_mem _ (List.mem_cons_of_mem _ (List.mem_cons_of_mem _ List.mem_cons_self)))))))
  have g8 : 0 ≤ (0 : Int) + (1 * j + ((-1) * a3 + 0)) := hg _ (List.mem_cons_of_mem _ (List.mem_cons_of_mem _ (List.mem_cons_of_mem _ (List.mem_cons_of_mem _ (List.mem_cons_of_mem _ (List.mem_cons_of_mem _ (List.mem_cons_of_mem _ (List.mem_cons_of_mem _ List.mem_cons_self))))))))
  have hp := (zfl_185 (w := w) (j := a0) (u := a1) (k := a2) (p := a3) (q := a4) (by omega) (by omega) (by omega) (by omega) (by omega) (by omega) (by omega) (by omega) (by omega) ).mp (by omega)
  have o208 : zh_e w' 208 = zh_e w 208 := zh_e_g (hw.1 208 (by decide))
  have o259 : zh_e w' 259 = zh_e w 259 := zh_e_g (hw.1 259 (by decide))
  have o323 : zh_e w' 323 = zh_e w 323 := zh_e_g (hw.1 323 (by decide))
  have o207 : zh_e w' 207 = zh_e w 207 := zh_e_g (hw.1 207 (by decide))
  have h : zk_xe w' 2000185 a0 = 1 := by
    refine (zfl_185 (w := w') (j := a0) (u := a1) (k := a2) (p := a3) (q := a4) (by omega) (by omega) (by omega) (by omega) (by omega) (by omega) (by omega) (by omega) (by omega) ).mpr ?_
    rw [o208, o259, o323, o207]
    exact zfl_w hp (fun i i0 i1 => hw.2 i i0 (by omega)) (fun _ _ _ => rfl) (fun _ _ _ => rfl)
  exact (zx_eF1 (by show 0 ≤ (0 : Int) + (1 * a0 + 0); omega) (by show zk_xe w' 2000185 ((0 : Int) + (1 * a0 + 0)) = (1 : Int) + (0); rw [show (0 : Int) + (1 * a0 + 0) = a0 by omega]; exact h.trans (by omega)) zx_eF0)
def zx_E774 : zx_V := zx_Vc 259 [] 5 [(2000185, 0)] [((0, 0), [(2, 1, 0), (3, 0, 1), (4, 0, 4294967296), (5, 0, 18446744073709551616), (6, 0, 79228162514264337593543950336)]), ((0, 1), [(7, 1, 0)])] [((0, 0), [(3, 1, 0)]), ((4294967276, 0), [(3, 0, 1)]), ((0, 0), [(4, 1, 0)]), ((4294967276, 0), [(4, 0, 1)]), ((0, 0), [(5, 1, 0)]), ((4294967276, 0), [(5, 0, 1)]), ((0, 0), [(6, 1, 0)]), ((4294967276, 0), [(6, 0, 1)]), ((0, 0), [(0, 1, 0), (6, 0, 1)])] [(2000185, ((0, 0), [(2, 1, 0)]), ((1, 0), []))]
theorem zx_E774_ok {PT : Nat → zz_W → Prop} : zx_Vok 64 zHT PT zx_E774 := by
  refine zx_Vc_ok (fun w w' j ins hI hI' h0 hw hK hl he hg => ?_)
  obtain ⟨a0, a1, a2, a3, a4, rfl⟩ := zx_i5 hl
  have e0 : (0 : Int) + (1 * a0 + ((-1) * a1 + ((-4294967296) * a2 + ((-18446744073709551616) * a3 + ((-79228162514264337593543950336) * a4 + 0))))) = 0 := he _ List.mem_cons_self
  have e1 : ((-1) : Int) + (1 * (zk_xe w 2000185 a0) + 0) = 0 := he _ (List.mem_cons_of_mem _ List.mem_cons_self)
  have g0 : 0 ≤ (0 : Int) + (1 * a1 + 0) := hg _ List.mem_cons_self
  have g1 : 0 ≤ (4294967276 : Int) + ((-1) * a1 + 0) := hg _ (List.mem_cons_of_mem _ List.mem_cons_self)
  have g2 : 0 ≤ (0 : Int) + (1 * a2 + 0) := hg _ (List.mem_cons_of_mem _ (List.mem_cons_of_mem _ List.mem_cons_self))
  have g3 : 0 ≤ (4294967276 : Int) + ((-1) * a2 + 0) := hg _ (List.mem_cons_of_mem _ (List.mem_cons_of_mem _ (List.mem_cons_of_mem _ List.mem_cons_self)))
  have g4 : 0 ≤ (0 : Int) + (1 * a3 + 0) := hg _ (List.mem_cons_of_mem _ (List.mem_cons_of_mem _ (List.mem_cons_of_mem _ (List.mem_cons_of_mem _ List.mem_cons_self))))
  have g5 : 0 ≤ (4294967276 : Int) + ((-1) * a3 + 0) := hg _ (List.mem_cons_of_mem _ (List.mem_cons_of_mem _ (List.mem_cons_of_mem _ (List.mem_cons_of_mem _ (List.mem_cons_of_mem _ List.mem_cons_self)))))
  have g6 : 0 ≤ (0 : Int) + (1 * a4 + 0) := hg _ (List.mem_cons_of_mem _ (List.mem_cons_of_mem _ (List.mem_cons_of_mem _ (List.mem_cons_of_mem _ (List.mem_cons_of_mem _ (List.mem_cons_of_mem _ List.mem_cons_self))))))
  have g7 : 0 ≤ (4294967276 : Int) + ((-1) * a4 + 0) := hg _ (List.mem_cons_of_mem _ (List.mem_cons_of_mem _ (List.mem_cons_of_mem _ (List.mem_cons_of_mem _ (List.mem_cons_of_mem _ (List.mem_cons_of_mem _ (List.mem_cons_of_mem _ List.mem_cons_self)))))))
  have g8 : 0 ≤ (0 : Int) + (1 * j + ((-1) * a4 + 0)) := hg _ (List.mem_cons_of_mem _ (List.mem_cons_of_mem _ (List.mem_cons_of_mem _ (List.mem_cons_of_mem _ (List.mem_cons_of_mem _ (List.mem_cons_of_mem _ (List.mem_cons_of_mem _ (List.mem_cons_of_mem _ List.mem_cons_self))))))))
  have hp := (zfl_185 (w := w) (j := a0) (u := a1) (k := a2) (p := a3) (q := a4) (by omega) (by omega) (by omega) (by omega) (by omega) (by omega) (by omega) (by omega) (by omega) ).mp (by omega)
  have o208 : zh_e w' 208 = zh_e w 208 := zh_e_g (hw.1 208 (by decide))
  have o258 : zh_e w' 258 = zh_e w 258 := zh_e_g (hw.1 258 (by decide))
  have o323 : zh_e w' 323 = zh_e w 323 := zh_e_g (hw.1 323 (by decide))
  have o207 : zh_e w' 207 = zh_e w 207 := zh_e_g (hw.1 207 (by decide))
  have h : zk_xe w' 2000185 a0 = 1 := by
    refine (zfl_185 (w := w') (j := a0) (u := a1) (k := a2) (p := a3) (q := a4) (by omega) (by omega) (by omega) (by omega) (by omega) (by omega) (by omega) (by omega) (by omega) ).mpr ?_
    rw [o208, o258, o323, o207]
    exact zfl_w hp (fun _ _ _ => rfl) (fun i i0 i1 => hw.2 i i0 (by omega)) (fun _ _ _ => rfl)
  exact (zx_eF1 (by show 0 ≤ (0 : Int) + (1 * a0 + 0); omega) (by show zk_xe w' 2000185 ((0 : Int) + (1 * a0 + 0)) = (1 : Int) + (0); rw [show (0 : Int) + (1 * a0 + 0) = a0 by omega]; exact h.trans (by omega)) zx_eF0)
def zx_E771 : zx_V := zx_Vc 323 [] 8 [(2000185, 0), (2000176, 5), (176, 1), (207, 1), (208, 6), (208, 7)] [((0, 0), [(2, 1, 0), (3, 0, 1), (4, 0, 4294967296), (5, 0, 18446744073709551616), (6, 0, 79228162514264337593543950336)]), ((0, 1), [(10, 1, 0)]), ((0, 1), [(11, 1, 0)]), ((0, 0), [(3, 0, 8000), (4, 0, 1), (8, 1, 0)]), ((0, 0), [(0, 0, 1), (9, 1, 0)]), ((0, 1), [(1, 1, 0), (8, 0, 1)]), ((0, 14), [(14, 1, 0)])] [((0, 0), [(3, 1, 0)]), ((4294967276, 0), [(3, 0, 1)]), ((0, 0), [(4, 1, 0)]), ((4294967276, 0), [(4, 0, 1)]), ((0, 0), [(5, 1, 0)]), ((4294967276, 0), [(5, 0, 1)]), ((0, 0), [(6, 1, 0)]), ((4294967276, 0), [(6, 0, 1)]), ((0, 0), [(7, 1, 0)]), ((4294967276, 0), [(7, 0, 1)]), ((0, 1), [(3, 0, 1), (7, 1, 0)]), ((0, 1), [(12, 1, 0)]), ((0, 1), [(4, 0, 1), (13, 1, 0)]), ((0, 13), [(15, 1, 0)]), ((14, 0), [(15, 0, 1)]), ((0, 1), [(0, 0, 1), (8, 1, 0)])] [(2000185, ((0, 0), [(2, 1, 0)]), ((1, 0), []))]
theorem zx_E771_ok {PT : Nat → zz_W → Prop} : zx_Vok 64 zHT PT zx_E771 := by
  refine zx_Vc_ok (fun w w' j ins hI hI' h0 hw hK hl he hg => ?_)
  obtain ⟨a0, a1, a2, a3, a4, a5, a6, a7, rfl⟩ := zx_i8 hl
  have e0 : (0 : Int) + (1 * a0 + ((-1) * a1 + ((-4294967296) * a2 + ((-18446744073709551616) * a3 + ((-79228162514264337593543950336) * a4 + 0))))) = 0 := he _ List.mem_cons_self
  have e1 : ((-1) : Int) + (1 * (zk_xe w 2000185 a0) + 0) = 0 := he _ (List.mem_cons_of_mem _ List.mem_cons_self)
  have e2 : ((-1) : Int) + (1 * (zk_xe w 2000176 a5) + 0) = 0 := he _ (List.mem_cons_of_mem _ (List.mem_cons_of_mem _ List.mem_cons_self))
  have e3 : (0 : Int) + ((-8000) * a1 + ((-1) * a2 + (1 * a6 + 0))) = 0 := he _ (List.mem_cons_of_mem _ (List.mem_cons_of_mem _ (List.mem_cons_of_mem _ List.mem_cons_self)))
  have e4 : (0 : Int) + ((-1) * j + (1 * a7 + 0)) = 0 := he _ (List.mem_cons_of_mem _ (List.mem_cons_of_mem _ (List.mem_cons_of_mem _ (List.mem_cons_of_mem _ List.mem_cons_self))))
  have e5 : ((-1) : Int) + (1 * (zk_el w' 323 j) + ((-1) * a6 + 0)) = 0 := he _ (List.mem_cons_of_mem _ (List.mem_cons_of_mem _ (List.mem_cons_of_mem _ (List.mem_cons_of_mem _ (List.mem_cons_of_mem _ List.mem_cons_self)))))
  have e6 : ((-14) : Int) + (1 * (zk_xe w 208 a6) + 0) = 0 := he _ (List.mem_cons_of_mem _ (List.mem_cons_of_mem _ (List.mem_cons_of_mem _ (List.mem_cons_of_mem _ (List.mem_cons_of_mem _ (List.mem_cons_of_mem _ List.mem_cons_self))))))
  have g0 : 0 ≤ (0 : Int) + (1 * a1 + 0) := hg _ List.mem_cons_self
  have g1 : 0 ≤ (4294967276 : Int) + ((-1) * a1 + 0) := hg _ (List.mem_cons_of_mem _ List.mem_cons_self)
  have g2 : 0 ≤ (0 : Int) + (1 * a2 + 0) := hg _ (List.mem_cons_of_mem _ (List.mem_cons_of_mem _ List.mem_cons_self))
  have g3 : 0 ≤ (4294967276 : Int) + ((-1) * a2 + 0) := hg _ (List.mem_cons_of_mem _ (List.mem_cons_of_mem _ (List.mem_cons_of_mem _ List.mem_cons_self)))
  have g4 : 0 ≤ (0 : Int) + (1 * a3 + 0) := hg _ (List.mem_cons_of_mem _ (List.mem_cons_of_mem _ (List.mem_cons_of_mem _ (List.mem_cons_of_mem _ List.mem_cons_self))))
  have g5 : 0 ≤ (4294967276 : Int) + ((-1) * a3 + 0) := hg _ (List.mem_cons_of_mem _ (List.mem_cons_of_mem _ (List.mem_cons_of_mem _ (List.mem_cons_of_mem _ (List.mem_cons_of_mem _ List.mem_cons_self)))))
  have g6 : 0 ≤ (0 : Int) + (1 * a4 + 0) := hg _ (List.mem_cons_of_mem _ (List.mem_cons_of_mem _ (List.mem_cons_of_mem _ (List.mem_cons_of_mem _ (List.mem_cons_of_mem _ (List.mem_cons_of_mem _ List.mem_cons_self))))))
  have g7 : 0 ≤ (4294967276 : Int) + ((-1) * a4 + 0) := hg _ (List.mem_cons_of_mem _ (List.mem_cons_of_mem _ (List.mem_cons_of_mem _ (List.mem_cons_of_mem _ (List.mem_cons_of_mem _ (List.mem_cons_of_mem _ (List.mem_cons_of_mem _ List.mem_cons_self)))))))
  have g8 : 0 ≤ (0 : Int) + (1 * a5 + 0) := hg _ (List.mem_cons_of_mem _ (List.mem_cons_of_mem _ (List.mem_cons_of_mem _ (List.mem_cons_of_mem _ (List.mem_cons_of_mem _ (List.mem_cons_of_mem _ (List.mem_cons_of_mem _ (List.mem_cons_of_mem _ List.mem_cons_self))))))))
  have g9 : 0 ≤ (4294967276 : Int) + ((-1) * a5 + 0) := hg _ (List.mem_cons_of_mem _ (List.mem_cons_of_mem _ (List.mem_cons_of_mem _ (List.mem_cons_of_mem _ (List.mem_cons_of_mem _ (List.mem_cons_of_mem _ (List.mem_cons_of_mem _ (List.mem_cons_of_mem _ (List.mem_cons_of_mem _ List.mem_cons_self)))))))))
  have g10 : 0 ≤ ((-1) : Int) + ((-1) * a1 + (1 * a5 + 0)) := hg _ (List.mem_cons_of_mem _ (List.mem_cons_of_mem _ (List.mem_cons_of_mem _ (List.mem_cons_of_mem _ (List.mem_cons_of_mem _ (List.mem_cons_of_mem _ (List.mem_cons_of_mem _ (List.mem_cons_of_mem _ (List.mem_cons_of_mem _ (List.mem_cons_of_mem _ List.mem_cons_self))))))))))
  have g11 : 0 ≤ ((-1) : Int) + (1 * (zk_xe w 176 a1) + 0) := hg _ (List.mem_cons_of_mem _ (List.mem_cons_of_mem _ (List.mem_cons_of_mem _ (List.mem_cons_of_mem _ (List.mem_cons_of_mem _ (List.mem_cons_of_mem _ (List.mem_cons_of_mem _ (List.mem_cons_of_mem _ (List.mem_cons_of_mem _ (List.mem_cons_of_mem _ (List.mem_cons_of_mem _ List.mem_cons_self)))))))))))
  have g12 : 0 ≤ ((-1) : Int) + ((-1) * a2 + (1 * (zk_xe w 207 a1) + 0)) := hg _ (List.mem_cons_of_mem _ (List.mem_cons_of_mem _ (List.mem_cons_of_mem _ (List.mem_cons_of_mem _ (List.mem_cons_of_mem _ (List.mem_cons_of_mem _ (List.mem_cons_of_mem _ (List.mem_cons_of_mem _ (List.mem_cons_of_mem _ (List.mem_cons_of_mem _ (List.mem_cons_of_mem _ (List.mem_cons_of_mem _ List.mem_cons_self))))))))))))
  have g13 : 0 ≤ ((-13) : Int) + (1 * (zk_xe w 208 a7) + 0) := hg _ (List.mem_cons_of_mem _ (List.mem_cons_of_mem _ (List.mem_cons_of_mem _ (List.mem_cons_of_mem _ (List.mem_cons_of_mem _ (List.mem_cons_of_mem _ (List.mem_cons_of_mem _ (List.mem_cons_of_mem _ (List.mem_cons_of_mem _ (List.mem_cons_of_mem _ (List.mem_cons_of_mem _ (List.mem_cons_of_mem _ (List.mem_cons_of_mem _ List.mem_cons_self)))))))))))))
  have g14 : 0 ≤ (14 : Int) + ((-1) * (zk_xe w 208 a7) + 0) := hg _ (List.mem_cons_of_mem _ (List.mem_cons_of_mem _ (List.mem_cons_of_mem _ (List.mem_cons_of_mem _ (List.mem_cons_of_mem _ (List.mem_cons_of_mem _ (List.mem_cons_of_mem _ (List.mem_cons_of_mem _ (List.mem_cons_of_mem _ (List.mem_cons_of_mem _ (List.mem_cons_of_mem _ (List.mem_cons_of_mem _ (List.mem_cons_of_mem _ (List.mem_cons_of_mem _ List.mem_cons_self))))))))))))))
  have g15 : 0 ≤ ((-1) : Int) + ((-1) * j + (1 * a6 + 0)) := hg _ (List.mem_cons_of_mem _ (List.mem_cons_of_mem _ (List.mem_cons_of_mem _ (List.mem_cons_of_mem _ (List.mem_cons_of_mem _ (List.mem_cons_of_mem _ (List.mem_cons_of_mem _ (List.mem_cons_of_mem _ (List.mem_cons_of_mem _ (List.mem_cons_of_mem _ (List.mem_cons_of_mem _ (List.mem_cons_of_mem _ (List.mem_cons_of_mem _ (List.mem_cons_of_mem _ (List.mem_cons_of_mem _ List.mem_cons_self)))))))))))))))
  have hp := (zfl_185 (w := w) (j := a0) (u := a1) (k := a2) (p := a3) (q := a4) (by omega) (by omega) (by omega) (by omega) (by omega) (by omega) (by omega) (by omega) (by omega) ).mp (by omega)
  have kO : zh_e w 176 (a1) = zk_xe w 176 a1 := by rw [zk_xe_r (i := 176) (by decide)]; show zk_el w 176 (a1) = zk_el w 176 a1; rw [show a1 = a1 by omega]
  have kS : zh_e w 207 (a1) = zk_xe w 207 a1 := by rw [zk_xe_r (i := 207) (by decide)]; show zk_el w 207 (a1) = zk_el w 207 a1; rw [show a1 = a1 by omega]
  have kW : zh_e w 208 (8000 * a1 + a2) = zk_xe w 208 a6 := by rw [zk_xe_r (i := 208) (by decide)]; show zk_el w 208 (8000 * a1 + a2) = zk_el w 208 a6; rw [show 8000 * a1 + a2 = a6 by omega]
  have hsh := (zc_176 (w := w) (j := a5) (n := a5) (by omega) (by omega) (by omega) ).mp (by omega) a1 (by omega) (by omega) (by rw [kO]; omega)
  obtain ⟨⟨s0, s1⟩, hF, hs, hB, -, -⟩ := hsh
  rw [kS] at s1
  have kv : zh_e w 208 (j) = zk_xe w 208 a7 := by rw [zk_xe_r (i := 208) (by decide)]; show zk_el w 208 (j) = zk_el w 208 a7; rw [show j = a7 by omega]
  have hL : ∀ y, 0 ≤ y → ¬ (y = j) → zh_e w' 323 y = zh_e w 323 y := fun y y0 y1 => hw.2 y y0 y1
  have hj : zh_e w' 323 j = zk_el w' 323 j := rfl
  have hg : zfl_g (zh_e w 208) (8000 * a1) (zh_e w 207 a1) j (zh_e w' 323 j) := by
    rw [hj, show zk_el w' 323 j = 8000 * a1 + a2 + 1 by omega]
    exact zfl_nx (by omega) hF (by omega) (by rw [kS]; omega) (by rw [kW]; omega)
  have o208 : zh_e w' 208 = zh_e w 208 := zh_e_g (hw.1 208 (by decide))
  have o258 : zh_e w' 258 = zh_e w 258 := zh_e_g (hw.1 258 (by decide))
  have o259 : zh_e w' 259 = zh_e w 259 := zh_e_g (hw.1 259 (by decide))
  have o207 : zh_e w' 207 = zh_e w 207 := zh_e_g (hw.1 207 (by decide))
  have h : zk_xe w' 2000185 a0 = 1 := by
    refine (zfl_185 (w := w') (j := a0) (u := a1) (k := a2) (p := a3) (q := a4) (by omega) (by omega) (by omega) (by omega) (by omega) (by omega) (by omega) (by omega) (by omega) ).mpr ?_
    rw [o208, o258, o259, o207]
    exact zfl_wg hp (by omega) (by rw [kv]; omega) hL hg
  exact (zx_eF1 (by show 0 ≤ (0 : Int) + (1 * a0 + 0); omega) (by show zk_xe w' 2000185 ((0 : Int) + (1 * a0 + 0)) = (1 : Int) + (0); rw [show (0 : Int) + (1 * a0 + 0) = a0 by omega]; exact h.trans (by omega)) zx_eF0)
def zx_E777 : zx_V := zx_Vc 323 [] 8 [(2000185, 0), (2000176, 5), (176, 1), (207, 1), (208, 6), (208, 7)] [((0, 0), [(2, 1, 0), (3, 0, 1), (4, 0, 4294967296), (5, 0, 18446744073709551616), (6, 0, 79228162514264337593543950336)]), ((0, 1), [(10, 1, 0)]), ((0, 1), [(11, 1, 0)]), ((0, 0), [(3, 0, 8000), (4, 0, 1), (8, 1, 0)]), ((0, 0), [(0, 0, 1), (9, 1, 0)]), ((0, 1), [(1, 1, 0), (8, 0, 1)]), ((0, 18), [(14, 1, 0)])] [((0, 0), [(3, 1, 0)]), ((4294967276, 0), [(3, 0, 1)]), ((0, 0), [(4, 1, 0)]), ((4294967276, 0), [(4, 0, 1)]), ((0, 0), [(5, 1, 0)]), ((4294967276, 0), [(5, 0, 1)]), ((0, 0), [(6, 1, 0)]), ((4294967276, 0), [(6, 0, 1)]), ((0, 0), [(7, 1, 0)]), ((4294967276, 0), [(7, 0, 1)]), ((0, 1), [(3, 0, 1), (7, 1, 0)]), ((0, 1), [(12, 1, 0)]), ((0, 1), [(4, 0, 1), (13, 1, 0)]), ((0, 17), [(15, 1, 0)]), ((17, 0), [(15, 0, 1)]), ((0, 1), [(0, 0, 1), (8, 1, 0)])] [(2000185, ((0, 0), [(2, 1, 0)]), ((1, 0), []))]
theorem zx_E777_ok {PT : Nat → zz_W → Prop} : zx_Vok 64 zHT PT zx_E777 := by
  refine zx_Vc_ok (fun w w' j ins hI hI' h0 hw hK hl he hg => ?_)
  obtain ⟨a0, a1, a2, a3, a4, a5, a6, a7, rfl⟩ := zx_i8 hl
  have e0 : (0 : Int) + (1 * a0 + ((-1) * a1 + ((-4294967296) * a2 + ((-18446744073709551616) * a3 + ((-79228162514264337593543950336) * a4 + 0))))) = 0 := he _ List.mem_cons_self
  have e1 : ((-1) : Int) + (1 * (zk_xe w 2000185 a0) + 0) = 0 := he _ (List.mem_cons_of_mem _ List.mem_cons_self)
  have e2 : ((-1) : Int) + (1 * (zk_xe w 2000176 a5) + 0) = 0 := he _ (List.mem_cons_of_mem _ (List.mem_cons_of_mem _ List.mem_cons_self))
  have e3 : (0 : Int) + ((-8000) * a1 + ((-1) * a2 + (1 * a6 + 0))) = 0 := he _ (List.mem_cons_of_mem _ (List.mem_cons_of_mem _ (List.mem_cons_of_mem _ List.mem_cons_self)))
  have e4 : (0 : Int) + ((-1) * j + (1 * a7 + 0)) = 0 := he _ (List.mem_cons_of_mem _ (List.mem_cons_of_mem _ (List.mem_cons_of_mem _ (List.mem_cons_of_mem _ List.mem_cons_self))))
  have e5 : ((-1) : Int) + (1 * (zk_el w' 323 j) + ((-1) * a6 + 0)) = 0 := he _ (List.mem_cons_of_mem _ (List.mem_cons_of_mem _ (List.mem_cons_of_mem _ (List.mem_cons_of_mem _ (List.mem_cons_of_mem _ List.mem_cons_self)))))
  have e6 : ((-18) : Int) + (1 * (zk_xe w 208 a6) + 0) = 0 := he _ (List.mem_cons_of_mem _ (List.mem_cons_of_mem _ (List.mem_cons_of_mem _ (List.mem_cons_of_mem _ (List.mem_cons_of_mem _ (List.mem_cons_of_mem _ List.mem_cons_self))))))
  have g0 : 0 ≤ (0 : Int) + (1 * a1 + 0) := hg _ List.mem_cons_self
  have g1 : 0 ≤ (4294967276 : Int) + ((-1) * a1 + 0) := hg _ (List.mem_cons_of_mem _ List.mem_cons_self)
  have g2 : 0 ≤ (0 : Int) + (1 * a2 + 0) := hg _ (List.mem_cons_of_mem _ (List.mem_cons_of_mem _ List.mem_cons_self))
  have g3 : 0 ≤ (4294967276 : Int) + ((-1) * a2 + 0) := hg _ (List.mem_cons_of_mem _ (List.mem_cons_of_mem _ (List.mem_cons_of_mem _ List.mem_cons_self)))
  have g4 : 0 ≤ (0 : Int) + (1 * a3 + 0) := hg _ (List.mem_cons_of_mem _ (List.mem_cons_of_mem _ (List.mem_cons_of_mem _ (List.mem_cons_of_mem _ List.mem_cons_self))))
  have g5 : 0 ≤ (4294967276 : Int) + ((-1) * a3 + 0) := hg _ (List.mem_cons_of_mem _ (List.mem_cons_of_mem _ (List.mem_cons_of_mem _ (List.mem_cons_of_mem _ (List.mem_cons_of_mem _ List.mem_cons_self)))))
  have g6 : 0 ≤ (0 : Int) + (1 * a4 + 0) := hg _ (List.mem_cons_of_mem _ (List.mem_cons_of_mem _ (List.mem_cons_of_mem _ (List.mem_cons_of_mem _ (List.mem_cons_of_mem _ (List.mem_cons_of_mem _ List.mem_cons_self))))))
  have g7 : 0 ≤ (4294967276 : Int) + ((-1) * a4 + 0) := hg _ (List.mem_cons_of_mem _ (List.mem_cons_of_mem _ (List.mem_cons_of_mem _ (List.mem_cons_of_mem _ (List.mem_cons_of_mem _ (List.mem_cons_of_mem _ (List.mem_cons_of_mem _ List.mem_cons_self)))))))
  have g8 : 0 ≤ (0 : Int) + (1 * a5 + 0) := hg _ (List.mem_cons_of_mem _ (List.mem_cons_of_mem _ (List.mem_cons_of_mem _ (List.mem_cons_of_mem _ (List.mem_cons_of_mem _ (List.mem_cons_of_mem _ (List.mem_cons_of_mem _ (List.mem_cons_of_mem _ List.mem_cons_self))))))))
  have g9 : 0 ≤ (4294967276 : Int) + ((-1) * a5 + 0) := hg _ (List.mem_cons_of_mem _ (List.mem_cons_of_mem _ (List.mem_cons_of_mem _ (List.mem_cons_of_mem _ (List.mem_cons_of_mem _ (List.mem_cons_of_mem _ (List.mem_cons_of_mem _ (List.mem_cons_of_mem _ (List.mem_cons_of_mem _ List.mem_cons_self)))))))))
  have g10 : 0 ≤ ((-1) : Int) + ((-1) * a1 + (1 * a5 + 0)) := hg _ (List.mem_cons_of_mem _ (List.mem_cons_of_mem _ (List.mem_cons_of_mem _ (List.mem_cons_of_mem _ (List.mem_cons_of_mem _ (List.mem_cons_of_mem _ (List.mem_cons_of_mem _ (List.mem_cons_of_mem _ (List.mem_cons_of_mem _ (List.mem_cons_of_mem _ List.mem_cons_self))))))))))
  have g11 : 0 ≤ ((-1) : Int) + (1 * (zk_xe w 176 a1) + 0) := hg _ (List.mem_cons_of_mem _ (List.mem_cons_of_mem _ (List.mem_cons_of_mem _ (List.mem_cons_of_mem _ (List.mem_cons_of_mem _ (List.mem_cons_of_mem _ (List.mem_cons_of_mem _ (List.mem_cons_of_mem _ (List.mem_cons_of_mem _ (List.mem_cons_of_mem _ (List.mem_cons_of_mem _ List.mem_cons_self)))))))))))
  have g12 : 0 ≤ ((-1) : Int) + ((-1) * a2 + (1 * (zk_xe w 207 a1) + 0)) := hg _ (List.mem_cons_of_mem _ (List.mem_cons_of_mem _ (List.mem_cons_of_mem _ (List.mem_cons_of_mem _ (List.mem_cons_of_mem _ (List.mem_cons_of_mem _ (List.mem_cons_of_mem _ (List.mem_cons_of_mem _ (List.mem_cons_of_mem _ (List.mem_cons_of_mem _ (List.mem_cons_of_mem _ (List.mem_cons_of_mem _ List.mem_cons_self))))))))))))
  have g13 : 0 ≤ ((-17) : Int) + (1 * (zk_xe w 208 a7) + 0) := hg _ (List.mem_cons_of_mem _ (List.mem_cons_of_mem _ (List.mem_cons_of_mem _ (List.mem_cons_of_mem _ (List.mem_cons_of_mem _ (List.mem_cons_of_mem _ (List.mem_cons_of_mem _ (List.mem_cons_of_mem _ (List.mem_cons_of_mem _ (List.mem_cons_of_mem _ (List.mem_cons_of_mem _ (List.mem_cons_of_mem _ (List.mem_cons_of_mem _ List.mem_cons_self)))))))))))))
  have g14 : 0 ≤ (17 : Int) + ((-1) * (zk_xe w 208 a7) + 0) := hg _ (List.mem_cons_of_mem _ (List.mem_cons_of_mem _ (List.mem_cons_of_mem _ (List.mem_cons_of_mem _ (List.mem_cons_of_mem _ (List.mem_cons_of_mem _ (List.mem_cons_of_mem _ (List.mem_cons_of_mem _ (List.mem_cons_of_mem _ (List.mem_cons_of_mem _ (List.mem_cons_of_mem _ (List.mem_cons_of_mem _ (List.mem_cons_of_mem _ (List.mem_cons_of_mem _ List.mem_cons_self))))))))))))))
  have g15 : 0 ≤ ((-1) : Int) + ((-1) * j + (1 * a6 + 0)) := hg _ (List.mem_cons_of_mem _ (List.mem_cons_of_mem _ (List.mem_cons_of_mem _ (List.mem_cons_of_mem _ (List.mem_cons_of_mem _ (List.mem_cons_of_mem _ (List.mem_cons_of_mem _ (List.mem_cons_of_mem _ (List.mem_cons_of_mem _ (List.mem_cons_of_mem _ (List.mem_cons_of_mem _ (List.mem_cons_of_mem _ (List.mem_cons_of_mem _ (List.mem_cons_of_mem _ (List.mem_cons_of_mem _ List.mem_cons_self)))))))))))))))
  have hp := (zfl_185 (w := w) (j := a0) (u := a1) (k := a2) (p := a3) (q := a4) (by omega) (by omega) (by omega) (by omega) (by omega) (by omega) (by omega) (by omega) (by omega) ).mp (by omega)
  have kO : zh_e w 176 (a1) = zk_xe w 176 a1 := by rw [zk_xe_r (i := 176) (by decide)]; show zk_el w 176 (a1) = zk_el w 176 a1; rw [show a1 = a1 by omega]
  have kS : zh_e w 207 (a1) = zk_xe w 207 a1 := by rw [zk_xe_r (i := 207) (by decide)]; show zk_el w 207 (a1) = zk_el w 207 a1; rw [show a1 = a1 by omega]
  have kW : zh_e w 208 (8000 * a1 + a2) = zk_xe w 208 a6 := by rw [zk_xe_r (i := 208) (by decide)]; show zk_el w 208 (8000 * a1 + a2) = zk_el w 208 a6; rw [show 8000 * a1 + a2 = a6 by omega]
  have hsh := (zc_176 (w := w) (j := a5) (n := a5) (by omega) (by omega) (by omega) ).mp (by omega) a1 (by omega) (by omega) (by rw [kO]; omega)
  obtain ⟨⟨s0, s1⟩, hF, hs, hB, -, -⟩ := hsh
  rw [kS] at s1
  have kv : zh_e w 208 (j) = zk_xe w 208 a7 := by rw [zk_xe_r (i := 208) (by decide)]; show zk_el w 208 (j) = zk_el w 208 a7; rw [show j = a7 by omega]
  have hL : ∀ y, 0 ≤ y → ¬ (y = j) → zh_e w' 323 y = zh_e w 323 y := fun y y0 y1 => hw.2 y y0 y1
  have hj : zh_e w' 323 j = zk_el w' 323 j := rfl
  have hg : zfl_g (zh_e w 208) (8000 * a1) (zh_e w 207 a1) j (zh_e w' 323 j) := by
    rw [hj, show zk_el w' 323 j = 8000 * a1 + a2 + 1 by omega]
    exact zfl_nx (by omega) hF (by omega) (by rw [kS]; omega) (by rw [kW]; omega)
  have o208 : zh_e w' 208 = zh_e w 208 := zh_e_g (hw.1 208 (by decide))
  have o258 : zh_e w' 258 = zh_e w 258 := zh_e_g (hw.1 258 (by decide))
  have o259 : zh_e w' 259 = zh_e w 259 := zh_e_g (hw.1 259 (by decide))
  have o207 : zh_e w' 207 = zh_e w 207 := zh_e_g (hw.1 207 (by decide))
  have h : zk_xe w' 2000185 a0 = 1 := by
    refine (zfl_185 (w := w') (j := a0) (u := a1) (k := a2) (p := a3) (q := a4) (by omega) (by omega) (by omega) (by omega) (by omega) (by omega) (by omega) (by omega) (by omega) ).mpr ?_
    rw [o208, o258, o259, o207]
    exact zfl_wg hp (by omega) (by rw [kv]; omega) hL hg
  exact (zx_eF1 (by show 0 ≤ (0 : Int) + (1 * a0 + 0); omega) (by show zk_xe w' 2000185 ((0 : Int) + (1 * a0 + 0)) = (1 : Int) + (0); rw [show (0 : Int) + (1 * a0 + 0) = a0 by omega]; exact h.trans (by omega)) zx_eF0)
def zx_E772 : zx_V := zx_Vc 258 [] 10 [(2000185, 0), (2000176, 5), (176, 1), (207, 1), (208, 6), (258, 7), (323, 8)] [((0, 0), [(2, 1, 0), (3, 0, 1), (4, 0, 4294967296), (5, 0, 18446744073709551616), (6, 0, 79228162514264337593543950336)]), ((0, 1), [(12, 1, 0)]), ((0, 1), [(13, 1, 0)]), ((0, 0), [(3, 0, 8000), (4, 0, 1), (8, 1, 0)]), ((0, 0), [(0, 0, 1), (9, 1, 0)]), ((1, 0), [(5, 0, 1), (9, 1, 0)]), ((0, 0), [(1, 1, 0), (8, 0, 1)]), ((0, 14), [(16, 1, 0)]), ((0, 0), [(10, 1, 0), (17, 0, 1)]), ((0, 1), [(8, 0, 1), (18, 1, 0)]), ((0, 4294967296), [(3, 0, 1), (4, 0, 4294967296), (5, 0, 18446744073709551616), (6, 0, 79228162514264337593543950336), (11, 1, 0)])] [((0, 0), [(3, 1, 0)]), ((4294967276, 0), [(3, 0, 1)]), ((0, 0), [(4, 1, 0)]), ((4294967276, 0), [(4, 0, 1)]), ((0, 0), [(5, 1, 0)]), ((4294967276, 0), [(5, 0, 1)]), ((0, 0), [(6, 1, 0)]), ((4294967276, 0), [(6, 0, 1)]), ((0, 0), [(7, 1, 0)]), ((4294967276, 0), [(7, 0, 1)]), ((0, 1), [(3, 0, 1), (7, 1, 0)]), ((0, 1), [(14, 1, 0)]), ((0, 1), [(4, 0, 1), (15, 1, 0)]), ((0, 0), [(9, 1, 0)]), ((0, 0), [(10, 1, 0)]), ((0, 1), [(8, 1, 0), (10, 0, 1)])] [(2000185, ((0, 0), [(11, 1, 0)]), ((1, 0), []))]
theorem zx_E772_ok {PT : Nat → zz_W → Prop} : zx_Vok 64 zHT PT zx_E772 := by
  refine zx_Vc_ok (fun w w' j ins hI hI' h0 hw hK hl he hg => ?_)
  obtain ⟨a0, a1, a2, a3, a4, a5, a6, a7, a8, a9, rfl⟩ := zx_i10 hl
  have e0 : (0 : Int) + (1 * a0 + ((-1) * a1 + ((-4294967296) * a2 + ((-18446744073709551616) * a3 + ((-79228162514264337593543950336) * a4 + 0))))) = 0 := he _ List.mem_cons_self
  have e1 : ((-1) : Int) + (1 * (zk_xe w 2000185 a0) + 0) = 0 := he _ (List.mem_cons_of_mem _ List.mem_cons_self)
  have e2 : ((-1) : Int) + (1 * (zk_xe w 2000176 a5) + 0) = 0 := he _ (List.mem_cons_of_mem _ (List.mem_cons_of_mem _ List.mem_cons_self))
  have e3 : (0 : Int) + ((-8000) * a1 + ((-1) * a2 + (1 * a6 + 0))) = 0 := he _ (List.mem_cons_of_mem _ (List.mem_cons_of_mem _ (List.mem_cons_of_mem _ List.mem_cons_self)))
  have e4 : (0 : Int) + ((-1) * j + (1 * a7 + 0)) = 0 := he _ (List.mem_cons_of_mem _ (List.mem_cons_of_mem _ (List.mem_cons_of_mem _ (List.mem_cons_of_mem _ List.mem_cons_self))))
  have e5 : (1 : Int) + ((-1) * a3 + (1 * a7 + 0)) = 0 := he _ (List.mem_cons_of_mem _ (List.mem_cons_of_mem _ (List.mem_cons_of_mem _ (List.mem_cons_of_mem _ (List.mem_cons_of_mem _ List.mem_cons_self)))))
  have e6 : (0 : Int) + (1 * (zk_el w' 258 j) + ((-1) * a6 + 0)) = 0 := he _ (List.mem_cons_of_mem _ (List.mem_cons_of_mem _ (List.mem_cons_of_mem _ (List.mem_cons_of_mem _ (List.mem_cons_of_mem _ (List.mem_cons_of_mem _ List.mem_cons_self))))))
  have e7 : ((-14) : Int) + (1 * (zk_xe w 208 a6) + 0) = 0 := he _ (List.mem_cons_of_mem _ (List.mem_cons_of_mem _ (List.mem_cons_of_mem _ (List.mem_cons_of_mem _ (List.mem_cons_of_mem _ (List.mem_cons_of_mem _ (List.mem_cons_of_mem _ List.mem_cons_self)))))))
  have e8 : (0 : Int) + (1 * a8 + ((-1) * (zk_xe w 258 a7) + 0)) = 0 := he _ (List.mem_cons_of_mem _ (List.mem_cons_of_mem _ (List.mem_cons_of_mem _ (List.mem_cons_of_mem _ (List.mem_cons_of_mem _ (List.mem_cons_of_mem _ (List.mem_cons_of_mem _ (List.mem_cons_of_mem _ List.mem_cons_self))))))))
  have e9 : ((-1) : Int) + ((-1) * a6 + (1 * (zk_xe w 323 a8) + 0)) = 0 := he _ (List.mem_cons_of_mem _ (List.mem_cons_of_mem _ (List.mem_cons_of_mem _ (List.mem_cons_of_mem _ (List.mem_cons_of_mem _ (List.mem_cons_of_mem _ (List.mem_cons_of_mem _ (List.mem_cons_of_mem _ (List.mem_cons_of_mem _ List.mem_cons_self)))))))))
  have e10 : ((-4294967296) : Int) + ((-1) * a1 + ((-4294967296) * a2 + ((-18446744073709551616) * a3 + ((-79228162514264337593543950336) * a4 + (1 * a9 + 0))))) = 0 := he _ (List.mem_cons_of_mem _ (List.mem_cons_of_mem _ (List.mem_cons_of_mem _ (List.mem_cons_of_mem _ (List.mem_cons_of_mem _ (List.mem_cons_of_mem _ (List.mem_cons_of_mem _ (List.mem_cons_of_mem _ (List.mem_cons_of_mem _ (List.mem_cons_of_mem _ List.mem_cons_self))))))))))
  have g0 : 0 ≤ (0 : Int) + (1 * a1 + 0) := hg _ List.mem_cons_self
  have g1 : 0 ≤ (4294967276 : Int) + ((-1) * a1 + 0) := hg _ (List.mem_cons_of_mem _ List.mem_cons_self)
  have g2 : 0 ≤ (0 : Int) + (1 * a2 + 0) := hg _ (List.mem_cons_of_mem _ (List.mem_cons_of_mem _ List.mem_cons_self))
  have g3 : 0 ≤ (4294967276 : Int) + ((-1) * a2 + 0) := hg _ (List.mem_cons_of_mem _ (List.mem_cons_of_mem _ (List.mem_cons_of_mem _ List.mem_cons_self)))
  have g4 : 0 ≤ (0 : Int) + (1 * a3 + 0) := hg _ (List.mem_cons_of_mem _ (List.mem_cons_of_mem _ (List.mem_cons_of_mem _ (List.mem_cons_of_mem _ List.mem_cons_self))))
  have g5 : 0 ≤ (4294967276 : Int) + ((-1) * a3 + 0) := hg _ (List.mem_cons_of_mem _ (List.mem_cons_of_mem _ (List.mem_cons_of_mem _ (List.mem_cons_of_mem _ (List.mem_cons_of_mem _ List.mem_cons_self)))))
  have g6 : 0 ≤ (0 : Int) + (1 * a4 + 0) := hg _ (List.mem_cons_of_mem _ (List.mem_cons_of_mem _ (List.mem_cons_of_mem _ (List.mem_cons_of_mem _ (List.mem_cons_of_mem _ (List.mem_cons_of_mem _ List.mem_cons_self))))))
  have g7 : 0 ≤ (4294967276 : Int) + ((-1) * a4 + 0) := hg _ (List.mem_cons_of_mem _ (List.mem_cons_of_mem _ (List.mem_cons_of_mem _ (List.mem_cons_of_mem _ (List.mem_cons_of_mem _ (List.mem_cons_of_mem _ (List.mem_cons_of_mem _ List.mem_cons_self)))))))
  have g8 : 0 ≤ (0 : Int) + (1 * a5 + 0) := hg _ (List.mem_cons_of_mem _ (List.mem_cons_of_mem _ (List.mem_cons_of_mem _ (List.mem_cons_of_mem _ (List.mem_cons_of_mem _ (List.mem_cons_of_mem _ (List.mem_cons_of_mem _ (List.mem_cons_of_mem _ List.mem_cons_self))))))))
  have g9 : 0 ≤ (4294967276 : Int) + ((-1) * a5 + 0) := hg _ (List.mem_cons_of_mem _ (List.mem_cons_of_mem _ (List.mem_cons_of_mem _ (List.mem_cons_of_mem _ (List.mem_cons_of_mem _ (List.mem_cons_of_mem _ (List.mem_cons_of_mem _ (List.mem_cons_of_mem _ (List.mem_cons_of_mem _ List.mem_cons_self)))))))))
  have g10 : 0 ≤ ((-1) : Int) + ((-1) * a1 + (1 * a5 + 0)) := hg _ (List.mem_cons_of_mem _ (List.mem_cons_of_mem _ (List.mem_cons_of_mem _ (List.mem_cons_of_mem _ (List.mem_cons_of_mem _ (List.mem_cons_of_mem _ (List.mem_cons_of_mem _ (List.mem_cons_of_mem _ (List.mem_cons_of_mem _ (List.mem_cons_of_mem _ List.mem_cons_self))))))))))
  have g11 : 0 ≤ ((-1) : Int) + (1 * (zk_xe w 176 a1) + 0) := hg _ (List.mem_cons_of_mem _ (List.mem_cons_of_mem _ (List.mem_cons_of_mem _ (List.mem_cons_of_mem _ (List.mem_cons_of_mem _ (List.mem_cons_of_mem _ (List.mem_cons_of_mem _ (List.mem_cons_of_mem _ (List.mem_cons_of_mem _ (List.mem_cons_of_mem _ (List.mem_cons_of_mem _ List.mem_cons_self)))))))))))
  have g12 : 0 ≤ ((-1) : Int) + ((-1) * a2 + (1 * (zk_xe w 207 a1) + 0)) := hg _ (List.mem_cons_of_mem _ (List.mem_cons_of_mem _ (List.mem_cons_of_mem _ (List.mem_cons_of_mem _ (List.mem_cons_of_mem _ (List.mem_cons_of_mem _ (List.mem_cons_of_mem _ (List.mem_cons_of_mem _ (List.mem_cons_of_mem _ (List.mem_cons_of_mem _ (List.mem_cons_of_mem _ (List.mem_cons_of_mem _ List.mem_cons_self))))))))))))
  have g13 : 0 ≤ (0 : Int) + (1 * a7 + 0) := hg _ (List.mem_cons_of_mem _ (List.mem_cons_of_mem _ (List.mem_cons_of_mem _ (List.mem_cons_of_mem _ (List.mem_cons_of_mem _ (List.mem_cons_of_mem _ (List.mem_cons_of_mem _ (List.mem_cons_of_mem _ (List.mem_cons_of_mem _ (List.mem_cons_of_mem _ (List.mem_cons_of_mem _ (List.mem_cons_of_mem _ (List.mem_cons_of_mem _ List.mem_cons_self)))))))))))))
  have g14 : 0 ≤ (0 : Int) + (1 * a8 + 0) := hg _ (List.mem_cons_of_mem _ (List.mem_cons_of_mem _ (List.mem_cons_of_mem _ (List.mem_cons_of_mem _ (List.mem_cons_of_mem _ (List.mem_cons_of_mem _ (List.mem_cons_of_mem _ (List.mem_cons_of_mem _ (List.mem_cons_of_mem _ (List.mem_cons_of_mem _ (List.mem_cons_of_mem _ (List.mem_cons_of_mem _ (List.mem_cons_of_mem _ (List.mem_cons_of_mem _ List.mem_cons_self))))))))))))))
  have g15 : 0 ≤ ((-1) : Int) + (1 * a6 + ((-1) * a8 + 0)) := hg _ (List.mem_cons_of_mem _ (List.mem_cons_of_mem _ (List.mem_cons_of_mem _ (List.mem_cons_of_mem _ (List.mem_cons_of_mem _ (List.mem_cons_of_mem _ (List.mem_cons_of_mem _ (List.mem_cons_of_mem _ (List.mem_cons_of_mem _ (List.mem_cons_of_mem _ (List.mem_cons_of_mem _ (List.mem_cons_of_mem _ (List.mem_cons_of_mem _ (List.mem_cons_of_mem _ (List.mem_cons_of_mem _ List.mem_cons_self)))))))))))))))
  have hp := (zfl_185 (w := w) (j := a0) (u := a1) (k := a2) (p := a3) (q := a4) (by omega) (by omega) (by omega) (by omega) (by omega) (by omega) (by omega) (by omega) (by omega) ).mp (by omega)
  have kO : zh_e w 176 (a1) = zk_xe w 176 a1 := by rw [zk_xe_r (i := 176) (by decide)]; show zk_el w 176 (a1) = zk_el w 176 a1; rw [show a1 = a1 by omega]
  have kS : zh_e w 207 (a1) = zk_xe w 207 a1 := by rw [zk_xe_r (i := 207) (by decide)]; show zk_el w 207 (a1) = zk_el w 207 a1; rw [show a1 = a1 by omega]
  have kW : zh_e w 208 (8000 * a1 + a2) = zk_xe w 208 a6 := by rw [zk_xe_r (i := 208) (by decide)]; show zk_el w 208 (8000 * a1 + a2) = zk_el w 208 a6; rw [show 8000 * a1 + a2 = a6 by omega]
  have hsh := (zc_176 (w := w) (j := a5) (n := a5) (by omega) (by omega) (by omega) ).mp (by omega) a1 (by omega) (by omega) (by rw [kO]; omega)
  obtain ⟨⟨s0, s1⟩, hF, hs, hB, -, -⟩ := hsh
  rw [kS] at s1
  have kJ : zh_e w 258 (a3 - 1) = zk_xe w 258 a7 := by rw [zk_xe_r (i := 258) (by decide)]; show zk_el w 258 (a3 - 1) = zk_el w 258 a7; rw [show a3 - 1 = a7 by omega]
  have kL : zh_e w 323 (zk_xe w 258 a7) = zk_xe w 323 a8 := by rw [zk_xe_r (i := 323) (by decide)]; show zk_el w 323 (zk_xe w 258 a7) = zk_el w 323 a8; rw [show zk_xe w 258 a7 = a8 by omega]
  have hg : zfl_g (zh_e w 208) (8000 * a1) (zh_e w 207 a1) (zh_e w 258 (a3 - 1)) (zh_e w 323 (zh_e w 258 (a3 - 1))) := by
    rw [kJ, kL, show zk_xe w 323 a8 = 8000 * a1 + a2 + 1 by omega]
    exact zfl_nx (by omega) hF (by omega) (by rw [kS]; omega) (by rw [kW]; omega)
  have hj : zh_e w' 258 (a3 - 1) = 8000 * a1 + a2 := by
    show zk_el w' 258 (a3 - 1) = _
    have q : zk_el w' 258 (a3 - 1) = zk_el w' 258 j := by rw [show a3 - 1 = j by omega]
    omega
  have o208 : zh_e w' 208 = zh_e w 208 := zh_e_g (hw.1 208 (by decide))
  have o259 : zh_e w' 259 = zh_e w 259 := zh_e_g (hw.1 259 (by decide))
  have o323 : zh_e w' 323 = zh_e w 323 := zh_e_g (hw.1 323 (by decide))
  have o207 : zh_e w' 207 = zh_e w 207 := zh_e_g (hw.1 207 (by decide))
  have h : zk_xe w' 2000185 a9 = 1 := by
    refine (zfl_185 (w := w') (j := a9) (u := a1) (k := (a2 + 1)) (p := a3) (q := a4) (by omega) (by omega) (by omega) (by omega) (by omega) (by omega) (by omega) (by omega) (by omega) ).mpr ?_
    rw [o208, o259, o323, o207]
    exact zfl_14 hp hs (by rw [kS]; omega) (by rw [kW]; omega) hg hj (fun i i0 i1 => hw.2 i i0 (by omega))
  exact (zx_eF1 (by show 0 ≤ (0 : Int) + (1 * a9 + 0); omega) (by show zk_xe w' 2000185 ((0 : Int) + (1 * a9 + 0)) = (1 : Int) + (0); rw [show (0 : Int) + (1 * a9 + 0) = a9 by omega]; exact h.trans (by omega)) zx_eF0)
def zx_E773 : zx_V := zx_Vc 323 [] 10 [(2000185, 0), (2000176, 5), (176, 1), (207, 1), (208, 6), (258, 7), (208, 8)] [((0, 0), [(2, 1, 0), (3, 0, 1), (4, 0, 4294967296), (5, 0, 18446744073709551616), (6, 0, 79228162514264337593543950336)]), ((0, 1), [(12, 1, 0)]), ((0, 1), [(13, 1, 0)]), ((0, 0), [(3, 0, 8000), (4, 0, 1), (8, 1, 0)]), ((1, 0), [(5, 0, 1), (9, 1, 0)]), ((0, 0), [(10, 1, 0), (17, 0, 1)]), ((0, 0), [(0, 0, 1), (10, 1, 0)]), ((0, 1), [(1, 1, 0), (8, 0, 1)]), ((0, 15), [(16, 1, 0)]), ((0, 4294967296), [(3, 0, 1), (4, 0, 4294967296), (6, 0, 79228162514264337593543950336), (9, 0, 18446744073709551616), (11, 1, 0)])] [((0, 0), [(3, 1, 0)]), ((4294967276, 0), [(3, 0, 1)]), ((0, 0), [(4, 1, 0)]), ((4294967276, 0), [(4, 0, 1)]), ((0, 0), [(5, 1, 0)]), ((4294967276, 0), [(5, 0, 1)]), ((0, 0), [(6, 1, 0)]), ((4294967276, 0), [(6, 0, 1)]), ((0, 0), [(7, 1, 0)]), ((4294967276, 0), [(7, 0, 1)]), ((0, 1), [(3, 0, 1), (7, 1, 0)]), ((0, 1), [(14, 1, 0)]), ((0, 1), [(4, 0, 1), (15, 1, 0)]), ((0, 0), [(9, 1, 0)]), ((0, 0), [(10, 1, 0)]), ((14, 0), [(18, 0, 1)]), ((0, 1), [(0, 0, 1), (8, 1, 0)])] [(2000185, ((0, 0), [(11, 1, 0)]), ((1, 0), []))]
theorem zx_E773_ok {PT : Nat → zz_W → Prop} : zx_Vok 64 zHT PT zx_E773 := by
  refine zx_Vc_ok (fun w w' j ins hI hI' h0 hw hK hl he hg => ?_)
  obtain ⟨a0, a1, a2, a3, a4, a5, a6, a7, a8, a9, rfl⟩ := zx_i10 hl
  have e0 : (0 : Int) + (1 * a0 + ((-1) * a1 + ((-4294967296) * a2 + ((-18446744073709551616) * a3 + ((-79228162514264337593543950336) * a4 + 0))))) = 0 := he _ List.mem_cons_self
  have e1 : ((-1) : Int) + (1 * (zk_xe w 2000185 a0) + 0) = 0 := he _ (List.mem_cons_of_mem _ List.mem_cons_self)
  have e2 : ((-1) : Int) + (1 * (zk_xe w 2000176 a5) + 0) = 0 := he _ (List.mem_cons_of_mem _ (List.mem_cons_of_mem _ List.mem_cons_self))
  have e3 : (0 : Int) + ((-8000) * a1 + ((-1) * a2 + (1 * a6 + 0))) = 0 := he _ (List.mem_cons_of_mem _ (List.mem_cons_of_mem _ (List.mem_cons_of_mem _ List.mem_cons_self)))
  have e4 : (1 : Int) + ((-1) * a3 + (1 * a7 + 0)) = 0 := he _ (List.mem_cons_of_mem _ (List.mem_cons_of_mem _ (List.mem_cons_of_mem _ (List.mem_cons_of_mem _ List.mem_cons_self))))
  have e5 : (0 : Int) + (1 * a8 + ((-1) * (zk_xe w 258 a7) + 0)) = 0 := he _ (List.mem_cons_of_mem _ (List.mem_cons_of_mem _ (List.mem_cons_of_mem _ (List.mem_cons_of_mem _ (List.mem_cons_of_mem _ List.mem_cons_self)))))
  have e6 : (0 : Int) + ((-1) * j + (1 * a8 + 0)) = 0 := he _ (List.mem_cons_of_mem _ (List.mem_cons_of_mem _ (List.mem_cons_of_mem _ (List.mem_cons_of_mem _ (List.mem_cons_of_mem _ (List.mem_cons_of_mem _ List.mem_cons_self))))))
  have e7 : ((-1) : Int) + (1 * (zk_el w' 323 j) + ((-1) * a6 + 0)) = 0 := he _ (List.mem_cons_of_mem _ (List.mem_cons_of_mem _ (List.mem_cons_of_mem _ (List.mem_cons_of_mem _ (List.mem_cons_of_mem _ (List.mem_cons_of_mem _ (List.mem_cons_of_mem _ List.mem_cons_self)))))))
  have e8 : ((-15) : Int) + (1 * (zk_xe w 208 a6) + 0) = 0 := he _ (List.mem_cons_of_mem _ (List.mem_cons_of_mem _ (List.mem_cons_of_mem _ (List.mem_cons_of_mem _ (List.mem_cons_of_mem _ (List.mem_cons_of_mem _ (List.mem_cons_of_mem _ (List.mem_cons_of_mem _ List.mem_cons_self))))))))
  have e9 : ((-4294967296) : Int) + ((-1) * a1 + ((-4294967296) * a2 + ((-79228162514264337593543950336) * a4 + ((-18446744073709551616) * a7 + (1 * a9 + 0))))) = 0 := he _ (List.mem_cons_of_mem _ (List.mem_cons_of_mem _ (List.mem_cons_of_mem _ (List.mem_cons_of_mem _ (List.mem_cons_of_mem _ (List.mem_cons_of_mem _ (List.mem_cons_of_mem _ (List.mem_cons_of_mem _ (List.mem_cons_of_mem _ List.mem_cons_self)))))))))
  have g0 : 0 ≤ (0 : Int) + (1 * a1 + 0) := hg _ List.mem_cons_self
  have g1 : 0 ≤ (4294967276 : Int) + ((-1) * a1 + 0) := hg _ (List.mem_cons_of_mem _ List.mem_cons_self)
  have g2 : 0 ≤ (0 : Int) + (1 * a2 + 0) := hg _ (List.mem_cons_of_mem _ (List.mem_cons_of_mem _ List.mem_cons_self))
  have g3 : 0 ≤ (4294967276 : Int) + ((-1) * a2 + 0) := hg _ (List.mem_cons_of_mem _ (List.mem_cons_of_mem _ (List.mem_cons_of_mem _ List.mem_cons_self)))
  have g4 : 0 ≤ (0 : Int) + (1 * a3 + 0) := hg _ (List.mem_cons_of_mem _ (List.mem_cons_of_mem _ (List.mem_cons_of_mem _ (List.mem_cons_of_mem _ List.mem_cons_self))))
  have g5 : 0 ≤ (4294967276 : Int) + ((-1) * a3 + 0) := hg _ (List.mem_cons_of_mem _ (List.mem_cons_of_mem _ (List.mem_cons_of_mem _ (List.mem_cons_of_mem _ (List.mem_cons_of_mem _ List.mem_cons_self)))))
  have g6 : 0 ≤ (0 : Int) + (1 * a4 + 0) := hg _ (List.mem_cons_of_mem _ (List.mem_cons_of_mem _ (List.mem_cons_of_mem _ (List.mem_cons_of_mem _ (List.mem_cons_of_mem _ (List.mem_cons_of_mem _ List.mem_cons_self))))))
  have g7 : 0 ≤ (4294967276 : Int) + ((-1) * a4 + 0) := hg _ (List.mem_cons_of_mem _ (List.mem_cons_of_mem _ (List.mem_cons_of_mem _ (List.mem_cons_of_mem _ (List.mem_cons_of_mem _ (List.mem_cons_of_mem _ (List.mem_cons_of_mem _ List.mem_cons_self)))))))
  have g8 : 0 ≤ (0 : Int) + (1 * a5 + 0) := hg _ (List.mem_cons_of_mem _ (List.mem_cons_of_mem _ (List.mem_cons_of_mem _ (List.mem_cons_of_mem _ (List.mem_cons_of_mem _ (List.mem_cons_of_mem _ (List.mem_cons_of_mem _ (List.mem_cons_of_mem _ List.mem_cons_self))))))))
  have g9 : 0 ≤ (4294967276 : Int) + ((-1) * a5 + 0) := hg _ (List.mem_cons_of_mem _ (List.mem_cons_of_mem _ (List.mem_cons_of_mem _ (List.mem_cons_of_mem _ (List.mem_cons_of_mem _ (List.mem_cons_of_mem _ (List.mem_cons_of_mem _ (List.mem_cons_of_mem _ (List.mem_cons_of_mem _ List.mem_cons_self)))))))))
  have g10 : 0 ≤ ((-1) : Int) + ((-1) * a1 + (1 * a5 + 0)) := hg _ (List.mem_cons_of_mem _ (List.mem_cons_of_mem _ (List.mem_cons_of_mem _ (List.mem_cons_of_mem _ (List.mem_cons_of_mem _ (List.mem_cons_of_mem _ (List.mem_cons_of_mem _ (List.mem_cons_of_mem _ (List.mem_cons_of_mem _ (List.mem_cons_of_mem _ List.mem_cons_self))))))))))
  have g11 : 0 ≤ ((-1) : Int) + (1 * (zk_xe w 176 a1) + 0) := hg _ (List.mem_cons_of_mem _ (List.mem_cons_of_mem _ (List.mem_cons_of_mem _ (List.mem_cons_of_mem _ (List.mem_cons_of_mem _ (List.mem_cons_of_mem _ (List.mem_cons_of_mem _ (List.mem_cons_of_mem _ (List.mem_cons_of_mem _ (List.mem_cons_of_mem _ (List.mem_cons_of_mem _ List.mem_cons_self)))))))))))
  have g12 : 0 ≤ ((-1) : Int) + ((-1) * a2 + (1 * (zk_xe w 207 a1) + 0)) := hg _ (List.mem_cons_of_mem _ (List.mem_cons_of_mem _ (List.mem_cons_of_mem _ (List.mem_cons_of_mem _ (List.mem_cons_of_mem _ (List.mem_cons_of_mem _ (List.mem_cons_of_mem _ (List.mem_cons_of_mem _ (List.mem_cons_of_mem _ (List.mem_cons_of_mem _ (List.mem_cons_of_mem _ (List.mem_cons_of_mem _ List.mem_cons_self))))))))))))
  have g13 : 0 ≤ (0 : Int) + (1 * a7 + 0) := hg _ (List.mem_cons_of_mem _ (List.mem_cons_of_mem _ (List.mem_cons_of_mem _ (List.mem_cons_of_mem _ (List.mem_cons_of_mem _ (List.mem_cons_of_mem _ (List.mem_cons_of_mem _ (List.mem_cons_of_mem _ (List.mem_cons_of_mem _ (List.mem_cons_of_mem _ (List.mem_cons_of_mem _ (List.mem_cons_of_mem _ (List.mem_cons_of_mem _ List.mem_cons_self)))))))))))))
  have g14 : 0 ≤ (0 : Int) + (1 * a8 + 0) := hg _ (List.mem_cons_of_mem _ (List.mem_cons_of_mem _ (List.mem_cons_of_mem _ (List.mem_cons_of_mem _ (List.mem_cons_of_mem _ (List.mem_cons_of_mem _ (List.mem_cons_of_mem _ (List.mem_cons_of_mem _ (List.mem_cons_of_mem _ (List.mem_cons_of_mem _ (List.mem_cons_of_mem _ (List.mem_cons_of_mem _ (List.mem_cons_of_mem _ (List.mem_cons_of_mem _ List.mem_cons_self))))))))))))))
  have g15 : 0 ≤ (14 : Int) + ((-1) * (zk_xe w 208 a8) + 0) := hg _ (List.mem_cons_of_mem _ (List.mem_cons_of_mem _ (List.mem_cons_of_mem _ (List.mem_cons_of_mem _ (List.mem_cons_of_mem _ (List.mem_cons_of_mem _ (List.mem_cons_of_mem _ (List.mem_cons_of_mem _ (List.mem_cons_of_mem _ (List.mem_cons_of_mem _ (List.mem_cons_of_mem _ (List.mem_cons_of_mem _ (List.mem_cons_of_mem _ (List.mem_cons_of_mem _ (List.mem_cons_of_mem _ List.mem_cons_self)))))))))))))))
  have g16 : 0 ≤ ((-1) : Int) + ((-1) * j + (1 * a6 + 0)) := hg _ (List.mem_cons_of_mem _ (List.mem_cons_of_mem _ (List.mem_cons_of_mem _ (List.mem_cons_of_mem _ (List.mem_cons_of_mem _ (List.mem_cons_of_mem _ (List.mem_cons_of_mem _ (List.mem_cons_of_mem _ (List.mem_cons_of_mem _ (List.mem_cons_of_mem _ (List.mem_cons_of_mem _ (List.mem_cons_of_mem _ (List.mem_cons_of_mem _ (List.mem_cons_of_mem _ (List.mem_cons_of_mem _ (List.mem_cons_of_mem _ List.mem_cons_self))))))))))))))))
  have hp := (zfl_185 (w := w) (j := a0) (u := a1) (k := a2) (p := a3) (q := a4) (by omega) (by omega) (by omega) (by omega) (by omega) (by omega) (by omega) (by omega) (by omega) ).mp (by omega)
  have kO : zh_e w 176 (a1) = zk_xe w 176 a1 := by rw [zk_xe_r (i := 176) (by decide)]; show zk_el w 176 (a1) = zk_el w 176 a1; rw [show a1 = a1 by omega]
  have kS : zh_e w 207 (a1) = zk_xe w 207 a1 := by rw [zk_xe_r (i := 207) (by decide)]; show zk_el w 207 (a1) = zk_el w 207 a1; rw [show a1 = a1 by omega]
  have kW : zh_e w 208 (8000 * a1 + a2) = zk_xe w 208 a6 := by rw [zk_xe_r (i := 208) (by decide)]; show zk_el w 208 (8000 * a1 + a2) = zk_el w 208 a6; rw [show 8000 * a1 + a2 = a6 by omega]
  have hsh := (zc_176 (w := w) (j := a5) (n := a5) (by omega) (by omega) (by omega) ).mp (by omega) a1 (by omega) (by omega) (by rw [kO]; omega)
  obtain ⟨⟨s0, s1⟩, hF, hs, hB, -, -⟩ := hsh
  rw [kS] at s1
  have kJ : zh_e w 258 (a3 - 1) = zk_xe w 258 a7 := by rw [zk_xe_r (i := 258) (by decide)]; show zk_el w 258 (a3 - 1) = zk_el w 258 a7; rw [show a3 - 1 = a7 by omega]
  have kv : zh_e w 208 (j) = zk_xe w 208 a8 := by rw [zk_xe_r (i := 208) (by decide)]; show zk_el w 208 (j) = zk_el w 208 a8; rw [show j = a8 by omega]
  have hL : ∀ y, 0 ≤ y → ¬ (y = j) → zh_e w' 323 y = zh_e w 323 y := fun y y0 y1 => hw.2 y y0 y1
  have hj : zh_e w' 323 j = zk_el w' 323 j := rfl
  have hg : zfl_g (zh_e w 208) (8000 * a1) (zh_e w 207 a1) j (zh_e w' 323 j) := by
    rw [hj, show zk_el w' 323 j = 8000 * a1 + a2 + 1 by omega]
    exact zfl_nx (by omega) hF (by omega) (by rw [kS]; omega) (by rw [kW]; omega)
  have h1 := zfl_wg (L' := zh_e w' 323) (v := j) hp (by omega) (by rw [kv]; omega) hL hg
  have hg' : zfl_g (zh_e w 208) (8000 * a1) (zh_e w 207 a1) (zh_e w 258 (a3 - 1)) (zh_e w' 323 (zh_e w 258 (a3 - 1))) := by
    rw [kJ, show zk_xe w 258 a7 = j by omega]
    exact hg
  have h2 := zfl_15 h1 hs (by rw [kS]; omega) (by rw [kW]; omega) hg'
  have o208 : zh_e w' 208 = zh_e w 208 := zh_e_g (hw.1 208 (by decide))
  have o258 : zh_e w' 258 = zh_e w 258 := zh_e_g (hw.1 258 (by decide))
  have o259 : zh_e w' 259 = zh_e w 259 := zh_e_g (hw.1 259 (by decide))
  have o207 : zh_e w' 207 = zh_e w 207 := zh_e_g (hw.1 207 (by decide))
  have h : zk_xe w' 2000185 a9 = 1 := by
    refine (zfl_185 (w := w') (j := a9) (u := a1) (k := (a2 + 1)) (p := (a3 - 1)) (q := a4) (by omega) (by omega) (by omega) (by omega) (by omega) (by omega) (by omega) (by omega) (by omega) ).mpr ?_
    rw [o208, o258, o259, o207]
    exact h2
  exact (zx_eF1 (by show 0 ≤ (0 : Int) + (1 * a9 + 0); omega) (by show zk_xe w' 2000185 ((0 : Int) + (1 * a9 + 0)) = (1 : Int) + (0); rw [show (0 : Int) + (1 * a9 + 0) = a9 by omega]; exact h.trans (by omega)) zx_eF0)
def zx_E775 : zx_V := zx_Vc 323 [] 9 [(2000185, 0), (2000176, 5), (176, 1), (207, 1), (208, 6), (259, 7)] [((0, 0), [(2, 1, 0), (3, 0, 1), (4, 0, 4294967296), (5, 0, 18446744073709551616), (6, 0, 79228162514264337593543950336)]), ((0, 1), [(11, 1, 0)]), ((0, 1), [(12, 1, 0)]), ((0, 0), [(3, 0, 8000), (4, 0, 1), (8, 1, 0)]), ((1, 0), [(6, 0, 1), (9, 1, 0)]), ((0, 0), [(0, 0, 1), (16, 1, 0)]), ((0, 0), [(1, 1, 0), (8, 0, 1)]), ((0, 17), [(15, 1, 0)]), ((0, 4294967296), [(3, 0, 1), (4, 0, 4294967296), (5, 0, 18446744073709551616), (6, 0, 79228162514264337593543950336), (10, 1, 0)])] [((0, 0), [(3, 1, 0)]), ((4294967276, 0), [(3, 0, 1)]), ((0, 0), [(4, 1, 0)]), ((4294967276, 0), [(4, 0, 1)]), ((0, 0), [(5, 1, 0)]), ((4294967276, 0), [(5, 0, 1)]), ((0, 0), [(6, 1, 0)]), ((4294967276, 0), [(6, 0, 1)]), ((0, 0), [(7, 1, 0)]), ((4294967276, 0), [(7, 0, 1)]), ((0, 1), [(3, 0, 1), (7, 1, 0)]), ((0, 1), [(13, 1, 0)]), ((0, 1), [(4, 0, 1), (14, 1, 0)]), ((0, 0), [(9, 1, 0)])] [(2000185, ((0, 0), [(10, 1, 0)]), ((1, 0), []))]
theorem zx_E775_ok {PT : Nat → zz_W → Prop} : zx_Vok 64 zHT PT zx_E775 := by
  refine zx_Vc_ok (fun w w' j ins hI hI' h0 hw hK hl he hg => ?_)
  obtain ⟨a0, a1, a2, a3, a4, a5, a6, a7, a8, rfl⟩ := zx_i9 hl
  have e0 : (0 : Int) + (1 * a0 + ((-1) * a1 + ((-4294967296) * a2 + ((-18446744073709551616) * a3 + ((-79228162514264337593543950336) * a4 + 0))))) = 0 := he _ List.mem_cons_self
  have e1 : ((-1) : Int) + (1 * (zk_xe w 2000185 a0) + 0) = 0 := he _ (List.mem_cons_of_mem _ List.mem_cons_self)
  have e2 : ((-1) : Int) + (1 * (zk_xe w 2000176 a5) + 0) = 0 := he _ (List.mem_cons_of_mem _ (List.mem_cons_of_mem _ List.mem_cons_self))
  have e3 : (0 : Int) + ((-8000) * a1 + ((-1) * a2 + (1 * a6 + 0))) = 0 := he _ (List.mem_cons_of_mem _ (List.mem_cons_of_mem _ (List.mem_cons_of_mem _ List.mem_cons_self)))
  have e4 : (1 : Int) + ((-1) * a4 + (1 * a7 + 0)) = 0 := he _ (List.mem_cons_of_mem _ (List.mem_cons_of_mem _ (List.mem_cons_of_mem _ (List.mem_cons_of_mem _ List.mem_cons_self))))
  have e5 : (0 : Int) + ((-1) * j + (1 * (zk_xe w 259 a7) + 0)) = 0 := he _ (List.mem_cons_of_mem _ (List.mem_cons_of_mem _ (List.mem_cons_of_mem _ (List.mem_cons_of_mem _ (List.mem_cons_of_mem _ List.mem_cons_self)))))
  have e6 : (0 : Int) + (1 * (zk_el w' 323 j) + ((-1) * a6 + 0)) = 0 := he _ (List.mem_cons_of_mem _ (List.mem_cons_of_mem _ (List.mem_cons_of_mem _ (List.mem_cons_of_mem _ (List.mem_cons_of_mem _ (List.mem_cons_of_mem _ List.mem_cons_self))))))
  have e7 : ((-17) : Int) + (1 * (zk_xe w 208 a6) + 0) = 0 := he _ (List.mem_cons_of_mem _ (List.mem_cons_of_mem _ (List.mem_cons_of_mem _ (List.mem_cons_of_mem _ (List.mem_cons_of_mem _ (List.mem_cons_of_mem _ (List.mem_cons_of_mem _ List.mem_cons_self)))))))
  have e8 : ((-4294967296) : Int) + ((-1) * a1 + ((-4294967296) * a2 + ((-18446744073709551616) * a3 + ((-79228162514264337593543950336) * a4 + (1 * a8 + 0))))) = 0 := he _ (List.mem_cons_of_mem _ (List.mem_cons_of_mem _ (List.mem_cons_of_mem _ (List.mem_cons_of_mem _ (List.mem_cons_of_mem _ (List.mem_cons_of_mem _ (List.mem_cons_of_mem _ (List.mem_cons_of_mem _ List.mem_cons_self))))))))
  have g0 : 0 ≤ (0 : Int) + (1 * a1 + 0) := hg _ List.mem_cons_self
  have g1 : 0 ≤ (4294967276 : Int) + ((-1) * a1 + 0) := hg _ (List.mem_cons_of_mem _ List.mem_cons_self)
  have g2 : 0 ≤ (0 : Int) + (1 * a2 + 0) := hg _ (List.mem_cons_of_mem _ (List.mem_cons_of_mem _ List.mem_cons_self))
  have g3 : 0 ≤ (4294967276 : Int) + ((-1) * a2 + 0) := hg _ (List.mem_cons_of_mem _ (List.mem_cons_of_mem _ (List.mem_cons_of_mem _ List.mem_cons_self)))
  have g4 : 0 ≤ (0 : Int) + (1 * a3 + 0) := hg _ (List.mem_cons_of_mem _ (List.mem_cons_of_mem _ (List.mem_cons_of_mem _ (List.mem_cons_of_mem _ List.mem_cons_self))))
  have g5 : 0 ≤ (4294967276 : Int) + ((-1) * a3 + 0) := hg _ (List.mem_cons_of_mem _ (List.mem_cons_of_mem _ (List.mem_cons_of_mem _ (List.mem_cons_of_mem _ (List.mem_cons_of_mem _ List.mem_cons_self)))))
  have g6 : 0 ≤ (0 : Int) + (1 * a4 + 0) := hg _ (List.mem_cons_of_mem _ (List.mem_cons_of_mem _ (List.mem_cons_of_mem _ (List.mem_cons_of_mem _ (List.mem_cons_of_mem _ (List.mem_cons_of_mem _ List.mem_cons_self))))))
  have g7 : 0 ≤ (4294967276 : Int) + ((-1) * a4 + 0) := hg _ (List.mem_cons_of_mem _ (List.mem_cons_of_mem _ (List.mem_cons_of_mem _ (List.mem_cons_of_mem _ (List.mem_cons_of_mem _ (List.mem_cons_of_mem _ (List.mem_cons_of_mem _ List.mem_cons_self)))))))
  have g8 : 0 ≤ (0 : Int) + (1 * a5 + 0) := hg _ (List.mem_cons_of_mem _ (List.mem_cons_of_mem _ (List.mem_cons_of_mem _ (List.mem_cons_of_mem _ (List.mem_cons_of_mem _ (List.mem_cons_of_mem _ (List.mem_cons_of_mem _ (List.mem_cons_of_mem _ List.mem_cons_self))))))))
  have g9 : 0 ≤ (4294967276 : Int) + ((-1) * a5 + 0) := hg _ (List.mem_cons_of_mem _ (List.mem_cons_of_mem _ (List.mem_cons_of_mem _ (List.mem_cons_of_mem _ (List.mem_cons_of_mem _ (List.mem_cons_of_mem _ (List.mem_cons_of_mem _ (List.mem_cons_of_mem _ (List.mem_cons_of_mem _ List.mem_cons_self)))))))))
  have g10 : 0 ≤ ((-1) : Int) + ((-1) * a1 + (1 * a5 + 0)) := hg _ (List.mem_cons_of_mem _ (List.mem_cons_of_mem _ (List.mem_cons_of_mem _ (List.mem_cons_of_mem _ (List.mem_cons_of_mem _ (List.mem_cons_of_mem _ (List.mem_cons_of_mem _ (List.mem_cons_of_mem _ (List.mem_cons_of_mem _ (List.mem_cons_of_mem _ List.mem_cons_self))))))))))
  have g11 : 0 ≤ ((-1) : Int) + (1 * (zk_xe w 176 a1) + 0) := hg _ (List.mem_cons_of_mem _ (List.mem_cons_of_mem _ (List.mem_cons_of_mem _ (List.mem_cons_of_mem _ (List.mem_cons_of_mem _ (List.mem_cons_of_mem _ (List.mem_cons_of_mem _ (List.mem_cons_of_mem _ (List.mem_cons_of_mem _ (List.mem_cons_of_mem _ (List.mem_cons_of_mem _ List.mem_cons_self)))))))))))
  have g12 : 0 ≤ ((-1) : Int) + ((-1) * a2 + (1 * (zk_xe w 207 a1) + 0)) := hg _ (List.mem_cons_of_mem _ (List.mem_cons_of_mem _ (List.mem_cons_of_mem _ (List.mem_cons_of_mem _ (List.mem_cons_of_mem _ (List.mem_cons_of_mem _ (List.mem_cons_of_mem _ (List.mem_cons_of_mem _ (List.mem_cons_of_mem _ (List.mem_cons_of_mem _ (List.mem_cons_of_mem _ (List.mem_cons_of_mem _ List.mem_cons_self))))))))))))
  have g13 : 0 ≤ (0 : Int) + (1 * a7 + 0) := hg _ (List.mem_cons_of_mem _ (List.mem_cons_of_mem _ (List.mem_cons_of_mem _ (List.mem_cons_of_mem _ (List.mem_cons_of_mem _ (List.mem_cons_of_mem _ (List.mem_cons_of_mem _ (List.mem_cons_of_mem _ (List.mem_cons_of_mem _ (List.mem_cons_of_mem _ (List.mem_cons_of_mem _ (List.mem_cons_of_mem _ (List.mem_cons_of_mem _ List.mem_cons_self)))))))))))))
  have hp := (zfl_185 (w := w) (j := a0) (u := a1) (k := a2) (p := a3) (q := a4) (by omega) (by omega) (by omega) (by omega) (by omega) (by omega) (by omega) (by omega) (by omega) ).mp (by omega)
  have kO : zh_e w 176 (a1) = zk_xe w 176 a1 := by rw [zk_xe_r (i := 176) (by decide)]; show zk_el w 176 (a1) = zk_el w 176 a1; rw [show a1 = a1 by omega]
  have kS : zh_e w 207 (a1) = zk_xe w 207 a1 := by rw [zk_xe_r (i := 207) (by decide)]; show zk_el w 207 (a1) = zk_el w 207 a1; rw [show a1 = a1 by omega]
  have kW : zh_e w 208 (8000 * a1 + a2) = zk_xe w 208 a6 := by rw [zk_xe_r (i := 208) (by decide)]; show zk_el w 208 (8000 * a1 + a2) = zk_el w 208 a6; rw [show 8000 * a1 + a2 = a6 by omega]
  have hsh := (zc_176 (w := w) (j := a5) (n := a5) (by omega) (by omega) (by omega) ).mp (by omega) a1 (by omega) (by omega) (by rw [kO]; omega)
  obtain ⟨⟨s0, s1⟩, hF, hs, hB, -, -⟩ := hsh
  rw [kS] at s1
  have kJ : zh_e w 259 (a4 - 1) = zk_xe w 259 a7 := by rw [zk_xe_r (i := 259) (by decide)]; show zk_el w 259 (a4 - 1) = zk_el w 259 a7; rw [show a4 - 1 = a7 by omega]
  have hL : ∀ y, 0 ≤ y → ¬ (y = j) → zh_e w' 323 y = zh_e w 323 y := fun y y0 y1 => hw.2 y y0 y1
  have hj : zh_e w' 323 j = zk_el w' 323 j := rfl
  have hv : zh_e w' 323 (zh_e w 259 (a4 - 1)) = 8000 * a1 + a2 := by
    rw [kJ, show zk_xe w 259 a7 = j by omega, hj]
    omega
  have h2 := zfl_17 (L' := zh_e w' 323) hp (by omega) hs (by rw [kS]; omega) (by rw [kW]; omega) hv (fun y y0 y1 => hL y y0 (fun e => y1 (by rw [kJ]; omega)))
  have o208 : zh_e w' 208 = zh_e w 208 := zh_e_g (hw.1 208 (by decide))
  have o258 : zh_e w' 258 = zh_e w 258 := zh_e_g (hw.1 258 (by decide))
  have o259 : zh_e w' 259 = zh_e w 259 := zh_e_g (hw.1 259 (by decide))
  have o207 : zh_e w' 207 = zh_e w 207 := zh_e_g (hw.1 207 (by decide))
  have h : zk_xe w' 2000185 a8 = 1 := by
    refine (zfl_185 (w := w') (j := a8) (u := a1) (k := (a2 + 1)) (p := a3) (q := a4) (by omega) (by omega) (by omega) (by omega) (by omega) (by omega) (by omega) (by omega) (by omega) ).mpr ?_
    rw [o208, o258, o259, o207]
    exact h2
  exact (zx_eF1 (by show 0 ≤ (0 : Int) + (1 * a8 + 0); omega) (by show zk_xe w' 2000185 ((0 : Int) + (1 * a8 + 0)) = (1 : Int) + (0); rw [show (0 : Int) + (1 * a8 + 0) = a8 by omega]; exact h.trans (by omega)) zx_eF0)
def zx_E778 : zx_V := zx_Vc 323 [] 11 [(2000185, 0), (2000176, 5), (176, 1), (207, 1), (208, 6), (259, 7), (323, 8), (323, 9)] [((0, 0), [(2, 1, 0), (3, 0, 1), (4, 0, 4294967296), (5, 0, 18446744073709551616), (6, 0, 79228162514264337593543950336)]), ((0, 1), [(13, 1, 0)]), ((0, 1), [(14, 1, 0)]), ((0, 0), [(3, 0, 8000), (4, 0, 1), (8, 1, 0)]), ((1, 0), [(6, 0, 1), (9, 1, 0)]), ((0, 0), [(10, 1, 0), (18, 0, 1)]), ((0, 0), [(11, 1, 0), (19, 0, 1)]), ((0, 1), [(8, 0, 1), (20, 1, 0)]), ((0, 0), [(0, 1, 0), (8, 0, 1)]), ((0, 0), [(1, 1, 0), (18, 0, 1)]), ((0, 18), [(17, 1, 0)]), ((0, 4294967296), [(3, 0, 1), (4, 0, 4294967296), (5, 0, 18446744073709551616), (9, 0, 79228162514264337593543950336), (12, 1, 0)])] [((0, 0), [(3, 1, 0)]), ((4294967276, 0), [(3, 0, 1)]), ((0, 0), [(4, 1, 0)]), ((4294967276, 0), [(4, 0, 1)]), ((0, 0), [(5, 1, 0)]), ((4294967276, 0), [(5, 0, 1)]), ((0, 0), [(6, 1, 0)]), ((4294967276, 0), [(6, 0, 1)]), ((0, 0), [(7, 1, 0)]), ((4294967276, 0), [(7, 0, 1)]), ((0, 1), [(3, 0, 1), (7, 1, 0)]), ((0, 1), [(15, 1, 0)]), ((0, 1), [(4, 0, 1), (16, 1, 0)]), ((0, 0), [(9, 1, 0)]), ((0, 0), [(10, 1, 0)]), ((0, 0), [(11, 1, 0)]), ((0, 1), [(8, 1, 0), (11, 0, 1)])] [(2000185, ((0, 0), [(12, 1, 0)]), ((1, 0), []))]
theorem zx_E778_ok {PT : Nat → zz_W → Prop} : zx_Vok 64 zHT PT zx_E778 := by
  refine zx_Vc_ok (fun w w' j ins hI hI' h0 hw hK hl he hg => ?_)
  obtain ⟨a0, a1, a2, a3, a4, a5, a6, a7, a8, a9, a10, rfl⟩ := zx_i11 hl
  have e0 : (0 : Int) + (1 * a0 + ((-1) * a1 + ((-4294967296) * a2 + ((-18446744073709551616) * a3 + ((-79228162514264337593543950336) * a4 + 0))))) = 0 := he _ List.mem_cons_self
  have e1 : ((-1) : Int) + (1 * (zk_xe w 2000185 a0) + 0) = 0 := he _ (List.mem_cons_of_mem _ List.mem_cons_self)
  have e2 : ((-1) : Int) + (1 * (zk_xe w 2000176 a5) + 0) = 0 := he _ (List.mem_cons_of_mem _ (List.mem_cons_of_mem _ List.mem_cons_self))
  have e3 : (0 : Int) + ((-8000) * a1 + ((-1) * a2 + (1 * a6 + 0))) = 0 := he _ (List.mem_cons_of_mem _ (List.mem_cons_of_mem _ (List.mem_cons_of_mem _ List.mem_cons_self)))
  have e4 : (1 : Int) + ((-1) * a4 + (1 * a7 + 0)) = 0 := he _ (List.mem_cons_of_mem _ (List.mem_cons_of_mem _ (List.mem_cons_of_mem _ (List.mem_cons_of_mem _ List.mem_cons_self))))
  have e5 : (0 : Int) + (1 * a8 + ((-1) * (zk_xe w 259 a7) + 0)) = 0 := he _ (List.mem_cons_of_mem _ (List.mem_cons_of_mem _ (List.mem_cons_of_mem _ (List.mem_cons_of_mem _ (List.mem_cons_of_mem _ List.mem_cons_self)))))
  have e6 : (0 : Int) + (1 * a9 + ((-1) * (zk_xe w 323 a8) + 0)) = 0 := he _ (List.mem_cons_of_mem _ (List.mem_cons_of_mem _ (List.mem_cons_of_mem _ (List.mem_cons_of_mem _ (List.mem_cons_of_mem _ (List.mem_cons_of_mem _ List.mem_cons_self))))))
  have e7 : ((-1) : Int) + ((-1) * a6 + (1 * (zk_xe w 323 a9) + 0)) = 0 := he _ (List.mem_cons_of_mem _ (List.mem_cons_of_mem _ (List.mem_cons_of_mem _ (List.mem_cons_of_mem _ (List.mem_cons_of_mem _ (List.mem_cons_of_mem _ (List.mem_cons_of_mem _ List.mem_cons_self)))))))
  have e8 : (0 : Int) + (1 * j + ((-1) * a6 + 0)) = 0 := he _ (List.mem_cons_of_mem _ (List.mem_cons_of_mem _ (List.mem_cons_of_mem _ (List.mem_cons_of_mem _ (List.mem_cons_of_mem _ (List.mem_cons_of_mem _ (List.mem_cons_of_mem _ (List.mem_cons_of_mem _ List.mem_cons_self))))))))
  have e9 : (0 : Int) + (1 * (zk_el w' 323 j) + ((-1) * (zk_xe w 259 a7) + 0)) = 0 := he _ (List.mem_cons_of_mem _ (List.mem_cons_of_mem _ (List.mem_cons_of_mem _ (List.mem_cons_of_mem _ (List.mem_cons_of_mem _ (List.mem_cons_of_mem _ (List.mem_cons_of_mem _ (List.mem_cons_of_mem _ (List.mem_cons_of_mem _ List.mem_cons_self)))))))))
  have e10 : ((-18) : Int) + (1 * (zk_xe w 208 a6) + 0) = 0 := he _ (List.mem_cons_of_mem _ (List.mem_cons_of_mem _ (List.mem_cons_of_mem _ (List.mem_cons_of_mem _ (List.mem_cons_of_mem _ (List.mem_cons_of_mem _ (List.mem_cons_of_mem _ (List.mem_cons_of_mem _ (List.mem_cons_of_mem _ (List.mem_cons_of_mem _ List.mem_cons_self))))))))))
  have e11 : ((-4294967296) : Int) + ((-1) * a1 + ((-4294967296) * a2 + ((-18446744073709551616) * a3 + ((-79228162514264337593543950336) * a7 + (1 * a10 + 0))))) = 0 := he _ (List.mem_cons_of_mem _ (List.mem_cons_of_mem _ (List.mem_cons_of_mem _ (List.mem_cons_of_mem _ (List.mem_cons_of_mem _ (List.mem_cons_of_mem _ (List.mem_cons_of_mem _ (List.mem_cons_of_mem _ (List.mem_cons_of_mem _ (List.mem_cons_of_mem _ (List.mem_cons_of_mem _ List.mem_cons_self)))))))))))
  have g0 : 0 ≤ (0 : Int) + (1 * a1 + 0) := hg _ List.mem_cons_self
  have g1 : 0 ≤ (4294967276 : Int) + ((-1) * a1 + 0) := hg _ (List.mem_cons_of_mem _ List.mem_cons_self)
  have g2 : 0 ≤ (0 : Int) + (1 * a2 + 0) := hg _ (List.mem_cons_of_mem _ (List.mem_cons_of_mem _ List.mem_cons_self))
  have g3 : 0 ≤ (4294967276 : Int) + ((-1) * a2 + 0) := hg _ (List.mem_cons_of_mem _ (List.mem_cons_of_mem _ (List.mem_cons_of_mem _ List.mem_cons_self)))
  have g4 : 0 ≤ (0 : Int) + (1 * a3 + 0) := hg _ (List.mem_cons_of_mem _ (List.mem_cons_of_mem _ (List.mem_cons_of_mem _ (List.mem_cons_of_mem _ List.mem_cons_self))))
  have g5 : 0 ≤ (4294967276 : Int) + ((-1) * a3 + 0) := hg _ (List.mem_cons_of_mem _ (List.mem_cons_of_mem _ (List.mem_cons_of_mem _ (List.mem_cons_of_mem _ (List.mem_cons_of_mem _ List.mem_cons_self)))))
  have g6 : 0 ≤ (0 : Int) + (1 * a4 + 0) := hg _ (List.mem_cons_of_mem _ (List.mem_cons_of_mem _ (List.mem_cons_of_mem _ (List.mem_cons_of_mem _ (List.mem_cons_of_mem _ (List.mem_cons_of_mem _ List.mem_cons_self))))))
  have g7 : 0 ≤ (4294967276 : Int) + ((-1) * a4 + 0) := hg _ (List.mem_cons_of_mem _ (List.mem_cons_of_mem _ (List.mem_cons_of_mem _ (List.mem_cons_of_mem _ (List.mem_cons_of_mem _ (List.mem_cons_of_mem _ (List.mem_cons_of_mem _ List.mem_cons_self)))))))
  have g8 : 0 ≤ (0 : Int) + (1 * a5 + 0) := hg _ (List.mem_cons_of_mem _ (List.mem_cons_of_mem _ (List.mem_cons_of_mem _ (List.mem_cons_of_mem _ (List.mem_cons_of_mem _ (List.mem_cons_of_mem _ (List.mem_cons_of_mem _ (List.mem_cons_of_mem _ List.mem_cons_self))))))))
  have g9 : 0 ≤ (4294967276 : Int) + ((-1) * a5 + 0) := hg _ (List.mem_cons_of_mem _ (List.mem_cons_of_mem _ (List.mem_cons_of_mem _ (List.mem_cons_of_mem _ (List.mem_cons_of_mem _ (List.mem_cons_of_mem _ (List.mem_cons_of_mem _ (List.mem_cons_of_mem _ (List.mem_cons_of_mem _ List.mem_cons_self)))))))))
  have g10 : 0 ≤ ((-1) : Int) + ((-1) * a1 + (1 * a5 + 0)) := hg _ (List.mem_cons_of_mem _ (List.mem_cons_of_mem _ (List.mem_cons_of_mem _ (List.mem_cons_of_mem _ (List.mem_cons_of_mem _ (List.mem_cons_of_mem _ (List.mem_cons_of_mem _ (List.mem_cons_of_mem _ (List.mem_cons_of_mem _ (List.mem_cons_of_mem _ List.mem_cons_self))))))))))
  have g11 : 0 ≤ ((-1) : Int) + (1 * (zk_xe w 176 a1) + 0) := hg _ (List.mem_cons_of_mem _ (List.mem_cons_of_mem _ (List.mem_cons_of_mem _ (List.mem_cons_of_mem _ (List.mem_cons_of_mem _ (List.mem_cons_of_mem _ (List.mem_cons_of_mem _ (List.mem_cons_of_mem _ (List.mem_cons_of_mem _ (List.mem_cons_of_mem _ (List.mem_cons_of_mem _ List.mem_cons_self)))))))))))
  have g12 : 0 ≤ ((-1) : Int) + ((-1) * a2 + (1 * (zk_xe w 207 a1) + 0)) := hg _ (List.mem_cons_of_mem _ (List.mem_cons_of_mem _ (List.mem_cons_of_mem _ (List.mem_cons_of_mem _ (List.mem_cons_of_mem _ (List.mem_cons_of_mem _ (List.mem_cons_of_mem _ (List.mem_cons_of_mem _ (List.mem_cons_of_mem _ (List.mem_cons_of_mem _ (List.mem_cons_of_mem _ (List.mem_cons_of_mem _ List.mem_cons_self))))))))))))
  have g13 : 0 ≤ (0 : Int) + (1 * a7 + 0) := hg _ (List.mem_cons_of_mem _ (List.mem_cons_of_mem _ (List.mem_cons_of_mem _ (List.mem_cons_of_mem _ (List.mem_cons_of_mem _ (List.mem_cons_of_mem _ (List.mem_cons_of_mem _ (List.mem_cons_of_mem _ (List.mem_cons_of_mem _ (List.mem_cons_of_mem _ (List.mem_cons_of_mem _ (List.mem_cons_of_mem _ (List.mem_cons_of_mem _ List.mem_cons_self)))))))))))))
  have g14 : 0 ≤ (0 : Int) + (1 * a8 + 0) := hg _ (List.mem_cons_of_mem _ (List.mem_cons_of_mem _ (List.mem_cons_of_mem _ (List.mem_cons_of_mem _ (List.mem_cons_of_mem _ (List.mem_cons_of_mem _ (List.mem_cons_of_mem _ (List.mem_cons_of_mem _ (List.mem_cons_of_mem _ (List.mem_cons_of_mem _ (List.mem_cons_of_mem _ (List.mem_cons_of_mem _ (List.mem_cons_of_mem _ (List.mem_cons_of_mem _ List.mem_cons_self))))))))))))))
  have g15 : 0 ≤ (0 : Int) + (1 * a9 + 0) := hg _ (List.mem_cons_of_mem _ (List.mem_cons_of_mem _ (List.mem_cons_of_mem _ (List.mem_cons_of_mem _ (List.mem_cons_of_mem _ (List.mem_cons_of_mem _ (List.mem_cons_of_mem _ (List.mem_cons_of_mem _ (List.mem_cons_of_mem _ (List.mem_cons_of_mem _ (List.mem_cons_of_mem _ (List.mem_cons_of_mem _ (List.mem_cons_of_mem _ (List.mem_cons_of_mem _ (List.mem_cons_of_mem _ List.mem_cons_self)))))))))))))))
  have g16 : 0 ≤ ((-1) : Int) + (1 * a6 + ((-1) * a9 + 0)) := hg _ (List.mem_cons_of_mem _ (List.mem_cons_of_mem _ (List.mem_cons_of_mem _ (List.mem_cons_of_mem _ (List.mem_cons_of_mem _ (List.mem_cons_of_mem _ (List.mem_cons_of_mem _ (List.mem_cons_of_mem _ (List.mem_cons_of_mem _ (List.mem_cons_of_mem _ (List.mem_cons_of_mem _ (List.mem_cons_of_mem _ (List.mem_cons_of_mem _ (List.mem_cons_of_mem _ (List.mem_cons_of_mem _ (List.mem_cons_of_mem _ List.mem_cons_self))))))))))))))))
  have hp := (zfl_185 (w := w) (j := a0) (u := a1) (k := a2) (p := a3) (q := a4) (by omega) (by omega) (by omega) (by omega) (by omega) (by omega) (by omega) (by omega) (by omega) ).mp (by omega)
  have kO : zh_e w 176 (a1) = zk_xe w 176 a1 := by rw [zk_xe_r (i := 176) (by decide)]; show zk_el w 176 (a1) = zk_el w 176 a1; rw [show a1 = a1 by omega]
  have kS : zh_e w 207 (a1) = zk_xe w 207 a1 := by rw [zk_xe_r (i := 207) (by decide)]; show zk_el w 207 (a1) = zk_el w 207 a1; rw [show a1 = a1 by omega]
  have kW : zh_e w 208 (8000 * a1 + a2) = zk_xe w 208 a6 := by rw [zk_xe_r (i := 208) (by decide)]; show zk_el w 208 (8000 * a1 + a2) = zk_el w 208 a6; rw [show 8000 * a1 + a2 = a6 by omega]
  have hsh := (zc_176 (w := w) (j := a5) (n := a5) (by omega) (by omega) (by omega) ).mp (by omega) a1 (by omega) (by omega) (by rw [kO]; omega)
  obtain ⟨⟨s0, s1⟩, hF, hs, hB, -, -⟩ := hsh
  rw [kS] at s1
  have kJ : zh_e w 259 (a4 - 1) = zk_xe w 259 a7 := by rw [zk_xe_r (i := 259) (by decide)]; show zk_el w 259 (a4 - 1) = zk_el w 259 a7; rw [show a4 - 1 = a7 by omega]
  have kL : zh_e w 323 (zk_xe w 259 a7) = zk_xe w 323 a8 := by rw [zk_xe_r (i := 323) (by decide)]; show zk_el w 323 (zk_xe w 259 a7) = zk_el w 323 a8; rw [show zk_xe w 259 a7 = a8 by omega]
  have kT : zh_e w 323 (zk_xe w 323 a8) = zk_xe w 323 a9 := by rw [zk_xe_r (i := 323) (by decide)]; show zk_el w 323 (zk_xe w 323 a8) = zk_el w 323 a9; rw [show zk_xe w 323 a8 = a9 by omega]
  have hL : ∀ y, 0 ≤ y → ¬ (y = j) → zh_e w' 323 y = zh_e w 323 y := fun y y0 y1 => hw.2 y y0 y1
  have hj : zh_e w' 323 j = zk_el w' 323 j := rfl
  have hg : zfl_g (zh_e w 208) (8000 * a1) (zh_e w 207 a1) (zh_e w 323 (zh_e w 259 (a4 - 1))) (zh_e w 323 (zh_e w 323 (zh_e w 259 (a4 - 1)))) := by
    rw [kJ, kL, kT, show zk_xe w 323 a9 = 8000 * a1 + a2 + 1 by omega]
    exact zfl_nx (by omega) hF (by omega) (by rw [kS]; omega) (by rw [kW]; omega)
  have hv : zh_e w' 323 (8000 * a1 + a2) = zh_e w 259 (a4 - 1) := by
    rw [show 8000 * a1 + a2 = j by omega, hj, kJ]
    omega
  have h2 := zfl_18 (L' := zh_e w' 323) hp (by omega) hs (by rw [kS]; omega) (by rw [kW]; omega) hg hv (fun y y0 y1 => hL y y0 (fun e => y1 (by omega)))
  have o208 : zh_e w' 208 = zh_e w 208 := zh_e_g (hw.1 208 (by decide))
  have o258 : zh_e w' 258 = zh_e w 258 := zh_e_g (hw.1 258 (by decide))
  have o259 : zh_e w' 259 = zh_e w 259 := zh_e_g (hw.1 259 (by decide))
  have o207 : zh_e w' 207 = zh_e w 207 := zh_e_g (hw.1 207 (by decide))
  have h : zk_xe w' 2000185 a10 = 1 := by
    refine (zfl_185 (w := w') (j := a10) (u := a1) (k := (a2 + 1)) (p := a3) (q := (a4 - 1)) (by omega) (by omega) (by omega) (by omega) (by omega) (by omega) (by omega) (by omega) (by omega) ).mpr ?_
    rw [o208, o258, o259, o207]
    exact h2
  exact (zx_eF1 (by show 0 ≤ (0 : Int) + (1 * a10 + 0); omega) (by show zk_xe w' 2000185 ((0 : Int) + (1 * a10 + 0)) = (1 : Int) + (0); rw [show (0 : Int) + (1 * a10 + 0) = a10 by omega]; exact h.trans (by omega)) zx_eF0)
def zx_E779 : zx_V := zx_Vc 323 [] 1 [(2000186, 0)] [((0, 1), [(3, 1, 0)])] [((0, 0), [(2, 1, 0)]), ((4294967276, 0), [(2, 0, 1)]), ((0, 0), [(0, 1, 0), (2, 0, 8000)])] [(2000186, ((0, 0), [(2, 1, 0)]), ((1, 0), []))]
theorem zx_E779_ok {PT : Nat → zz_W → Prop} : zx_Vok 64 zHT PT zx_E779 := by
  refine zx_Vc_ok (fun w w' j ins hI hI' h0 hw hK hl he hg => ?_)
  obtain ⟨a0, rfl⟩ := zx_i1 hl
  have e0 : ((-1) : Int) + (1 * (zk_xe w 2000186 a0) + 0) = 0 := he _ List.mem_cons_self
  have g0 : 0 ≤ (0 : Int) + (1 * a0 + 0) := hg _ List.mem_cons_self
  have g1 : 0 ≤ (4294967276 : Int) + ((-1) * a0 + 0) := hg _ (List.mem_cons_of_mem _ List.mem_cons_self)
  have g2 : 0 ≤ (0 : Int) + (1 * j + ((-8000) * a0 + 0)) := hg _ (List.mem_cons_of_mem _ (List.mem_cons_of_mem _ List.mem_cons_self))
  have hd := zfl_186.mp (show zk_xe w 2000186 a0 = 1 by omega)
  have o207 : zh_e w' 207 = zh_e w 207 := zh_e_g (hw.1 207 (by decide))
  have o208 : zh_e w' 208 = zh_e w 208 := zh_e_g (hw.1 208 (by decide))
  have h : zk_xe w' 2000186 a0 = 1 := by
    refine zfl_186.mpr (fun u u0 u1 k k0 k1 k2 hk => ?_)
    rw [o207] at k1
    rw [o208] at hk
    have q : zh_e w' 323 (8000 * u + k) = zh_e w 323 (8000 * u + k) := hw.2 _ (by omega) (by omega)
    rw [o207, o208, q]
    exact hd u u0 u1 k k0 k1 k2 hk
  exact (zx_eF1 (by show 0 ≤ (0 : Int) + (1 * a0 + 0); omega) (by show zk_xe w' 2000186 ((0 : Int) + (1 * a0 + 0)) = (1 : Int) + (0); rw [show (0 : Int) + (1 * a0 + 0) = a0 by omega]; exact h.trans (by omega)) zx_eF0)
def zx_D1217 : zx_L := zx_Lc [] 1 [] [] [((0, 0), [(0, 1, 0)])] [] [([], [], [(2000186, ((0, 0), [(0, 1, 0)]), ((1, 0), []))], [])]
theorem zx_D1217_ok {PT : Nat → zz_W → Prop} : zx_Lok 64 zHT PT zx_D1217 := by
  refine zx_Lc_ok (fun w hI hK ins hl hr he hg => ?_)
  obtain ⟨a0, rfl⟩ := zx_i1 hl
  have e0 : (0 : Int) + (1 * a0 + 0) = 0 := he _ List.mem_cons_self
  have h : zk_xe w 2000186 a0 = 1 := zfl_186.mpr (fun u u0 u1 => by omega)
  exact ⟨_, List.mem_cons_self, [], rfl, zx_bnil, zx_cs0, (zx_eF1 (by show 0 ≤ (0 : Int) + (1 * a0 + 0); omega) (by show zk_xe w 2000186 ((0 : Int) + (1 * a0 + 0)) = (1 : Int) + (0); rw [show (0 : Int) + (1 * a0 + 0) = a0 by omega]; exact h.trans (by omega)) zx_eF0), zx_k0⟩
/-- the first declaration with a name (functions 187 to 192) -/
theorem zfo_f1 {D : Int → Int} {a x : Int} {n : Nat} (h : ¬ (0 ≤ zfo_f D a x n)) : zfo_f D a x (n + 1) = if D (a + (n : Int)) = x then a + (n : Int) else -1 := by
  show (if 0 ≤ zfo_f D a x n then zfo_f D a x n else if D (a + (n : Int)) = x then a + (n : Int) else -1) = _
  rw [if_neg h]
theorem zfo_f0 {D : Int → Int} {a x : Int} {n : Nat} (h : 0 ≤ zfo_f D a x n) : zfo_f D a x (n + 1) = zfo_f D a x n := by
  show (if 0 ≤ zfo_f D a x n then zfo_f D a x n else if D (a + (n : Int)) = x then a + (n : Int) else -1) = _
  rw [if_pos h]
theorem zfo_fm {D : Int → Int} {a x : Int} {n : Nat} (h : 0 ≤ zfo_f D a x n) : ∀ {m : Nat}, zfo_f D a x (n + m) = zfo_f D a x n
  | 0 => rfl
  | m + 1 => by
    have q := zfo_fm h (m := m)
    rw [show n + (m + 1) = n + m + 1 by omega, zfo_f0 (by rw [q]; exact h), q]
theorem zfo_fe {D : Int → Int} {a x i n : Int} (i0 : 0 ≤ i) (i1 : i < n) (a0 : 0 ≤ a) (h : ¬ (0 ≤ zfo_f D a x i.toNat)) (e : D (a + i) = x) : zfo_f D a x n.toNat = a + i := by
  have ei : (i.toNat : Int) = i := Int.toNat_of_nonneg i0
  have q := zfo_f1 h
  rw [ei, if_pos e] at q
  have z := zfo_fm (D := D) (a := a) (x := x) (n := i.toNat + 1) (by rw [q]; omega) (m := n.toNat - (i.toNat + 1))
  rw [show i.toNat + 1 + (n.toNat - (i.toNat + 1)) = n.toNat by omega, q] at z
  exact z
theorem zfo_fn {D : Int → Int} {a x i : Int} (i0 : 0 ≤ i) (h : ¬ (0 ≤ zfo_f D a x i.toNat)) (e : ¬ (D (a + i) = x)) : zfo_f D a x (i + 1).toNat = -1 := by
  have ei : (i.toNat : Int) = i := Int.toNat_of_nonneg i0
  have q := zfo_f1 h
  rw [ei, if_neg e] at q
  rw [show (i + 1).toNat = i.toNat + 1 by omega]
  exact q
theorem zfo_fr {D : Int → Int} {a x : Int} : ∀ {n : Nat}, 0 ≤ zfo_f D a x n → ∃ i, 0 ≤ i ∧ i < (n : Int) ∧ zfo_f D a x n = a + i ∧ D (a + i) = x
  | 0, h => absurd (show (0 : Int) ≤ -1 from h) (by decide)
  | n + 1, h => by
    by_cases c : 0 ≤ zfo_f D a x n
    · obtain ⟨i, i0, i1, i2, i3⟩ := zfo_fr c
      exact ⟨i, i0, by omega, by rw [zfo_f0 c]; exact i2, i3⟩
    · rw [zfo_f1 c] at h ⊢
      by_cases e : D (a + (n : Int)) = x
      · exact ⟨(n : Int), by omega, by omega, by rw [if_pos e], e⟩
      · rw [if_neg e] at h
        exact absurd h (by decide)
theorem zfo_ff {D : Int → Int} {a x i n : Int} (i0 : 0 ≤ i) (i1 : i < n) (a0 : 0 ≤ a) (e : D (a + i) = x) (h : ∀ m, 0 ≤ m → m < i → D (a + m) ≠ x) : zfo_f D a x n.toNat = a + i := by
  refine zfo_fe i0 i1 a0 (fun q => ?_) e
  obtain ⟨m, m0, m1, -, m3⟩ := zfo_fr q
  exact h m m0 (by omega) m3
theorem zfo_g1 {D c : Int → Int} {x : Int} {v : Nat} (h : ¬ (0 ≤ zfo_g D c x v)) : zfo_g D c x (v + 1) = zfo_f D (64 * (v : Int)) x (c (v : Int)).toNat := by
  show (if 0 ≤ zfo_g D c x v then zfo_g D c x v else zfo_f D (64 * (v : Int)) x (c (v : Int)).toNat) = _
  rw [if_neg h]
theorem zfo_g0 {D c : Int → Int} {x : Int} {v : Nat} (h : 0 ≤ zfo_g D c x v) : zfo_g D c x (v + 1) = zfo_g D c x v := by
  show (if 0 ≤ zfo_g D c x v then zfo_g D c x v else zfo_f D (64 * (v : Int)) x (c (v : Int)).toNat) = _
  rw [if_pos h]
theorem zfo_gm {D c : Int → Int} {x : Int} {n : Nat} (h : 0 ≤ zfo_g D c x n) : ∀ {m : Nat}, zfo_g D c x (n + m) = zfo_g D c x n
  | 0 => rfl
  | m + 1 => by
    have q := zfo_gm h (m := m)
    rw [show n + (m + 1) = n + m + 1 by omega, zfo_g0 (by rw [q]; exact h), q]
theorem zfo_ge {D c : Int → Int} {x v n : Int} (v0 : 0 ≤ v) (v1 : v < n) (h : ¬ (0 ≤ zfo_g D c x v.toNat)) (e : 0 ≤ zfo_f D (64 * v) x (c v).toNat) : zfo_g D c x n.toNat = zfo_f D (64 * v) x (c v).toNat := by
  have ev : (v.toNat : Int) = v := Int.toNat_of_nonneg v0
  have q := zfo_g1 h
  rw [ev] at q
  have z := zfo_gm (D := D) (c := c) (x := x) (n := v.toNat + 1) (by rw [q]; exact e) (m := n.toNat - (v.toNat + 1))
  rw [show v.toNat + 1 + (n.toNat - (v.toNat + 1)) = n.toNat by omega, q] at z
  exact z
theorem zfo_gn {D c : Int → Int} {x v : Int} (v0 : 0 ≤ v) (h : ¬ (0 ≤ zfo_g D c x v.toNat)) : zfo_g D c x (v + 1).toNat = zfo_f D (64 * v) x (c v).toNat := by
  have ev : (v.toNat : Int) = v := Int.toNat_of_nonneg v0
  have q := zfo_g1 h
  rw [ev] at q
  rw [show (v + 1).toNat = v.toNat + 1 by omega]
  exact q
theorem zfo_gr {D c : Int → Int} {x : Int} : ∀ {n : Nat}, 0 ≤ zfo_g D c x n → ∃ v i, 0 ≤ v ∧ v < (n : Int) ∧ 0 ≤ i ∧ i < c v ∧ zfo_g D c x n = 64 * v + i ∧ D (64 * v + i) = x
  | 0, h => absurd (show (0 : Int) ≤ -1 from h) (by decide)
  | n + 1, h => by
    by_cases q : 0 ≤ zfo_g D c x n
    · obtain ⟨v, i, h0, h1, h2, h3, h4, h5⟩ := zfo_gr q
      exact ⟨v, i, h0, by omega, h2, h3, by rw [zfo_g0 q]; exact h4, h5⟩
    · rw [zfo_g1 q] at h ⊢
      obtain ⟨i, i0, i1, i2, i3⟩ := zfo_fr h
      exact ⟨(n : Int), i, by omega, by omega, i0, by omega, i2, i3⟩
theorem zfo_dr {D c : Int → Int} {u x n : Int} (u0 : 0 ≤ u) (u1 : u < n) (h : 0 ≤ zfo_d D c u x n) : ∃ v i, 0 ≤ v ∧ v < n ∧ 0 ≤ i ∧ i < c v ∧ zfo_d D c u x n = 64 * v + i ∧ D (64 * v + i) = x := by
  by_cases q : 0 ≤ zfo_f D (64 * u) x (c u).toNat
  · have e : zfo_d D c u x n = zfo_f D (64 * u) x (c u).toNat := if_pos q
    obtain ⟨i, i0, i1, i2, i3⟩ := zfo_fr q
    exact ⟨u, i, u0, u1, i0, by omega, by rw [e]; exact i2, i3⟩
  · have e : zfo_d D c u x n = zfo_g D c x n.toNat := if_neg q
    rw [e] at h ⊢
    obtain ⟨v, i, h0, h1, h2, h3, h4, h5⟩ := zfo_gr h
    exact ⟨v, i, h0, by omega, h2, h3, h4, h5⟩
theorem zfo_187 {w : zz_W} {j u n x : Int} (e : j = u + 4294967296 * n + 18446744073709551616 * x) (u0 : 0 ≤ u) (u1 : u < 4294967296) (n0 : 0 ≤ n) (n1 : n < 4294967296) (x0 : 0 ≤ x) (x1 : x < 4294967296) : zk_xe w 2000187 j = zfo_f (zh_e w 214) (64 * u) x n.toNat := by
  obtain ⟨d0, d1, d2⟩ := zg_d3 (j := j) (n := u) (k := n) (u := x) (by omega) u0 u1 n0 n1 x0 x1
  rw [show (2000187 : Nat) = 2000000 + 187 from rfl, zk_xe_h]
  show zfo_f (zh_e w 214) (64 * zv_dg 0 j) (zv_dg 2 j) (zv_dg 1 j).toNat = _
  rw [d0, d1, d2]
theorem zfo_188 {w : zz_W} {j v x : Int} (e : j = v + 4294967296 * x) (v0 : 0 ≤ v) (v1 : v < 4294967296) (x0 : 0 ≤ x) (x1 : x < 4294967296) : zk_xe w 2000188 j = zfo_g (zh_e w 214) (zh_e w 213) x v.toNat := by
  obtain ⟨d0, d1, -⟩ := zg_d3 (j := j) (n := v) (k := x) (u := 0) (by omega) v0 v1 x0 x1 (by omega) (by omega)
  rw [show (2000188 : Nat) = 2000000 + 188 from rfl, zk_xe_h]
  show zfo_g (zh_e w 214) (zh_e w 213) (zv_dg 1 j) (zv_dg 0 j).toNat = _
  rw [d0, d1]
theorem zfo_189 {w : zz_W} {j u x n : Int} (e : j = u + 4294967296 * x + 18446744073709551616 * n) (u0 : 0 ≤ u) (u1 : u < 4294967296) (x0 : 0 ≤ x) (x1 : x < 4294967296) (n0 : 0 ≤ n) (n1 : n < 4294967296) : zk_xe w 2000189 j = zfo_d (zh_e w 214) (zh_e w 213) u x n := by
  obtain ⟨d0, d1, d2⟩ := zg_d3 (j := j) (n := u) (k := x) (u := n) (by omega) u0 u1 x0 x1 n0 n1
  rw [show (2000189 : Nat) = 2000000 + 189 from rfl, zk_xe_h]
  show zfo_d (zh_e w 214) (zh_e w 213) (zv_dg 0 j) (zv_dg 1 j) (zv_dg 2 j) = _
  rw [d0, d1, d2]
theorem zfo_190 {w : zz_W} {j : Int} : zk_xe w 2000190 j = zh_b (∀ u, 0 ≤ u → u < j → 1 ≤ zh_e w 176 u) := by
  rw [show (2000190 : Nat) = 2000000 + 190 from rfl, zk_xe_h]
  rfl
theorem zfo_191 {w : zz_W} {j u k n : Int} (e : j = u + 4294967296 * k + 18446744073709551616 * n) (u0 : 0 ≤ u) (u1 : u < 4294967296) (k0 : 0 ≤ k) (k1 : k < 4294967296) (n0 : 0 ≤ n) (n1 : n < 4294967296) : zk_xe w 2000191 j = zh_b (zfo_m (zh_e w 214) (zh_e w 213) (zh_e w 215) (zh_e w 204) (zh_e w 205) (zh_e w 203) u k n) := by
  obtain ⟨d0, d1, d2⟩ := zg_d3 (j := j) (n := u) (k := k) (u := n) (by omega) u0 u1 k0 k1 n0 n1
  rw [show (2000191 : Nat) = 2000000 + 191 from rfl, zk_xe_h]
  show zh_b (zfo_m (zh_e w 214) (zh_e w 213) (zh_e w 215) (zh_e w 204) (zh_e w 205) (zh_e w 203) (zv_dg 0 j) (zv_dg 1 j) (zv_dg 2 j)) = _
  rw [d0, d1, d2]
theorem zfo_192 {w : zz_W} {j : Int} : zk_xe w 2000192 j = 1 ↔ zfo_sm (zh_e w 208) (zh_e w 209) (zh_e w 210) (zh_e w 211) (zh_e w 212) (zh_e w 214) (zh_e w 213) (zh_e w 215) (zh_e w 207) j := by
  rw [show (2000192 : Nat) = 2000000 + 192 from rfl, zk_xe_h]
  exact ⟨zh_b1', zh_b1⟩
theorem zfo_b01 {P : Prop} : 0 ≤ zh_b P ∧ zh_b P ≤ 1 := by
  by_cases h : P
  · rw [zh_b1 h]
    omega
  · rw [zh_b0 h]
    omega
theorem zfo_bm {P Q : Prop} (h : P → Q) : zh_b P ≤ zh_b Q := by
  by_cases p : P
  · rw [zh_b1 p, zh_b1 (h p)]
    omega
  · rw [zh_b0 p]
    exact (zfo_b01 (P := Q)).1
theorem zfo_stm {T A B C E : Int → Int} {R R' : Int → Int → Prop} {k : Int} (hR : ∀ x y, R x y → R' x y) (h : zfo_st T A B C E R k) : zfo_st T A B C E R' k := by
  obtain ⟨q0, q1, q2, q3, q4, q5⟩ := h
  exact ⟨q0, fun q => (q1 q).imp (fun z => ⟨z.1, hR _ _ z.2⟩) id, fun q => (q2 q).imp (fun z => ⟨z.1, hR _ _ z.2⟩) id, q3, fun q => ⟨(q4 q).1, (q4 q).2.1, hR _ _ (q4 q).2.2⟩, q5⟩
/-- what is declared or wanted is meant -/
theorem zfo_rk {D c K V Q e : Int → Int} {u n N x k : Int} (u0 : 0 ≤ u) (u1 : u < n) (hm : zfo_m D c K V Q e n 0 n) (h : zj_res (fun m => D (64 * u + m)) (fun m => K (64 * u + m)) (fun i => V (600 * u + i)) (fun i => Q (600 * u + i)) (c u) (e u) N x k) : zfo_k D c K u n x k := by
  rcases h with ⟨m, m0, m1, m2, m3, m4, m5⟩ | ⟨-, -, -, i, i0, i1, i2, i3, i4⟩
  · have q := zfo_ff (D := D) (a := 64 * u) (x := x) (i := m) (n := c u) m0 m1 (by omega) m3 m5
    have e : zfo_d D c u x n = 64 * u + m := by
      have z : zfo_d D c u x n = zfo_f D (64 * u) x (c u).toNat := if_pos (by rw [q]; omega)
      rw [z, q]
    refine ⟨by rw [e]; omega, ?_⟩
    rw [e]
    exact m4
  · have z := hm u i u0 (by omega) i0 i1 i2 (fun q => by omega)
    have e1 : V (600 * u + i) = x := i3
    have e2 : Q (600 * u + i) = k := i4
    rw [e1, e2] at z
    exact z
def zx_D1220 : zx_L := zx_Lc [] 3 [] [] [((0, 0), [(0, 1, 0), (1, 0, 1), (2, 0, 18446744073709551616)])] [((0, 0), [(1, 1, 0)]), ((4294967276, 0), [(1, 0, 1)]), ((0, 0), [(2, 1, 0)]), ((4294967276, 0), [(2, 0, 1)])] [([], [], [(2000187, ((0, 0), [(0, 1, 0)]), ((0, 1), []))], [])]
theorem zx_D1220_ok {PT : Nat → zz_W → Prop} : zx_Lok 64 zHT PT zx_D1220 := by
  refine zx_Lc_ok (fun w hI hK ins hl hr he hg => ?_)
  obtain ⟨a0, a1, a2, rfl⟩ := zx_i3 hl
  have e0 : (0 : Int) + (1 * a0 + ((-1) * a1 + ((-18446744073709551616) * a2 + 0))) = 0 := he _ List.mem_cons_self
  have g0 : 0 ≤ (0 : Int) + (1 * a1 + 0) := hg _ List.mem_cons_self
  have g1 : 0 ≤ (4294967276 : Int) + ((-1) * a1 + 0) := hg _ (List.mem_cons_of_mem _ List.mem_cons_self)
  have g2 : 0 ≤ (0 : Int) + (1 * a2 + 0) := hg _ (List.mem_cons_of_mem _ (List.mem_cons_of_mem _ List.mem_cons_self))
  have g3 : 0 ≤ (4294967276 : Int) + ((-1) * a2 + 0) := hg _ (List.mem_cons_of_mem _ (List.mem_cons_of_mem _ (List.mem_cons_of_mem _ List.mem_cons_self)))
  have h : zk_xe w 2000187 a0 = -1 := (zfo_187 (w := w) (j := a0) (u := a1) (n := 0) (x := a2) (by omega) (by omega) (by omega) (by omega) (by omega) (by omega) (by omega) )
  exact ⟨_, List.mem_cons_self, [], rfl, zx_bnil, zx_cs0, (zx_eF1 (by show 0 ≤ (0 : Int) + (1 * a0 + 0); omega) (by show zk_xe w 2000187 ((0 : Int) + (1 * a0 + 0)) = ((-1) : Int) + (0); rw [show (0 : Int) + (1 * a0 + 0) = a0 by omega]; exact h.trans (by omega)) zx_eF0), zx_k0⟩
def zx_D1221 : zx_L := zx_Lc [] 6 [(2000187, 0), (214, 4)] [] [((0, 0), [(0, 1, 0), (1, 0, 1), (2, 0, 4294967296), (3, 0, 18446744073709551616)]), ((1, 0), [(6, 1, 0)]), ((0, 0), [(1, 0, 64), (2, 0, 1), (4, 1, 0)]), ((0, 4294967296), [(1, 0, 1), (2, 0, 4294967296), (3, 0, 18446744073709551616), (5, 1, 0)])] [((0, 0), [(1, 1, 0)]), ((4294967276, 0), [(1, 0, 1)]), ((0, 0), [(2, 1, 0)]), ((4294967276, 0), [(2, 0, 1)]), ((0, 0), [(3, 1, 0)]), ((4294967276, 0), [(3, 0, 1)]), ((0, 1), [(3, 1, 0), (7, 0, 1)])] [([], [], [(2000187, ((0, 0), [(5, 1, 0)]), ((0, 1), []))], [])]
theorem zx_D1221_ok {PT : Nat → zz_W → Prop} : zx_Lok 64 zHT PT zx_D1221 := by
  refine zx_Lc_ok (fun w hI hK ins hl hr he hg => ?_)
  obtain ⟨a0, a1, a2, a3, a4, a5, rfl⟩ := zx_i6 hl
  have e0 : (0 : Int) + (1 * a0 + ((-1) * a1 + ((-4294967296) * a2 + ((-18446744073709551616) * a3 + 0)))) = 0 := he _ List.mem_cons_self
  have e1 : (1 : Int) + (1 * (zk_xe w 2000187 a0) + 0) = 0 := he _ (List.mem_cons_of_mem _ List.mem_cons_self)
  have e2 : (0 : Int) + ((-64) * a1 + ((-1) * a2 + (1 * a4 + 0))) = 0 := he _ (List.mem_cons_of_mem _ (List.mem_cons_of_mem _ List.mem_cons_self))
  have e3 : ((-4294967296) : Int) + ((-1) * a1 + ((-4294967296) * a2 + ((-18446744073709551616) * a3 + (1 * a5 + 0)))) = 0 := he _ (List.mem_cons_of_mem _ (List.mem_cons_of_mem _ (List.mem_cons_of_mem _ List.mem_cons_self)))
  have g0 : 0 ≤ (0 : Int) + (1 * a1 + 0) := hg _ List.mem_cons_self
  have g1 : 0 ≤ (4294967276 : Int) + ((-1) * a1 + 0) := hg _ (List.mem_cons_of_mem _ List.mem_cons_self)
  have g2 : 0 ≤ (0 : Int) + (1 * a2 + 0) := hg _ (List.mem_cons_of_mem _ (List.mem_cons_of_mem _ List.mem_cons_self))
  have g3 : 0 ≤ (4294967276 : Int) + ((-1) * a2 + 0) := hg _ (List.mem_cons_of_mem _ (List.mem_cons_of_mem _ (List.mem_cons_of_mem _ List.mem_cons_self)))
  have g4 : 0 ≤ (0 : Int) + (1 * a3 + 0) := hg _ (List.mem_cons_of_mem _ (List.mem_cons_of_mem _ (List.mem_cons_of_mem _ (List.mem_cons_of_mem _ List.mem_cons_self))))
  have g5 : 0 ≤ (4294967276 : Int) + ((-1) * a3 + 0) := hg _ (List.mem_cons_of_mem _ (List.mem_cons_of_mem _ (List.mem_cons_of_mem _ (List.mem_cons_of_mem _ (List.mem_cons_of_mem _ List.mem_cons_self)))))
  have g6 : 0 ≤ ((-1) : Int) + (1 * a3 + ((-1) * (zk_xe w 214 a4) + 0)) := hg _ (List.mem_cons_of_mem _ (List.mem_cons_of_mem _ (List.mem_cons_of_mem _ (List.mem_cons_of_mem _ (List.mem_cons_of_mem _ (List.mem_cons_of_mem _ List.mem_cons_self))))))
  have r0 : 0 ≤ a0 := hr _ List.mem_cons_self
  have r1 : 0 ≤ a4 := hr _ (List.mem_cons_of_mem _ List.mem_cons_self)
  have h0 := (zfo_187 (w := w) (j := a0) (u := a1) (n := a2) (x := a3) (by omega) (by omega) (by omega) (by omega) (by omega) (by omega) (by omega) )
  have kD : zh_e w 214 (64 * a1 + a2) = zk_xe w 214 a4 := by rw [zk_xe_r (i := 214) (by decide)]; show zk_el w 214 (64 * a1 + a2) = zk_el w 214 a4; rw [show 64 * a1 + a2 = a4 by omega]
  have h : zk_xe w 2000187 a5 = -1 := (zfo_187 (w := w) (j := a5) (u := a1) (n := (a2 + 1)) (x := a3) (by omega) (by omega) (by omega) (by omega) (by omega) (by omega) (by omega) ).trans (zfo_fn (by omega) (by rw [← h0]; omega) (by rw [kD]; omega))
  exact ⟨_, List.mem_cons_self, [], rfl, zx_bnil, zx_cs0, (zx_eF1 (by show 0 ≤ (0 : Int) + (1 * a5 + 0); omega) (by show zk_xe w 2000187 ((0 : Int) + (1 * a5 + 0)) = ((-1) : Int) + (0); rw [show (0 : Int) + (1 * a5 + 0) = a5 by omega]; exact h.trans (by omega)) zx_eF0), zx_k0⟩
def zx_D1222 : zx_L := zx_Lc [] 6 [(2000187, 0), (214, 4)] [] [((0, 0), [(0, 1, 0), (1, 0, 1), (2, 0, 4294967296), (3, 0, 18446744073709551616)]), ((1, 0), [(6, 1, 0)]), ((0, 0), [(1, 0, 64), (2, 0, 1), (4, 1, 0)]), ((0, 4294967296), [(1, 0, 1), (2, 0, 4294967296), (3, 0, 18446744073709551616), (5, 1, 0)])] [((0, 0), [(1, 1, 0)]), ((4294967276, 0), [(1, 0, 1)]), ((0, 0), [(2, 1, 0)]), ((4294967276, 0), [(2, 0, 1)]), ((0, 0), [(3, 1, 0)]), ((4294967276, 0), [(3, 0, 1)]), ((0, 1), [(3, 0, 1), (7, 1, 0)])] [([], [], [(2000187, ((0, 0), [(5, 1, 0)]), ((0, 1), []))], [])]
theorem zx_D1222_ok {PT : Nat → zz_W → Prop} : zx_Lok 64 zHT PT zx_D1222 := by
  refine zx_Lc_ok (fun w hI hK ins hl hr he hg => ?_)
  obtain ⟨a0, a1, a2, a3, a4, a5, rfl⟩ := zx_i6 hl
  have e0 : (0 : Int) + (1 * a0 + ((-1) * a1 + ((-4294967296) * a2 + ((-18446744073709551616) * a3 + 0)))) = 0 := he _ List.mem_cons_self
  have e1 : (1 : Int) + (1 * (zk_xe w 2000187 a0) + 0) = 0 := he _ (List.mem_cons_of_mem _ List.mem_cons_self)
  have e2 : (0 : Int) + ((-64) * a1 + ((-1) * a2 + (1 * a4 + 0))) = 0 := he _ (List.mem_cons_of_mem _ (List.mem_cons_of_mem _ List.mem_cons_self))
  have e3 : ((-4294967296) : Int) + ((-1) * a1 + ((-4294967296) * a2 + ((-18446744073709551616) * a3 + (1 * a5 + 0)))) = 0 := he _ (List.mem_cons_of_mem _ (List.mem_cons_of_mem _ (List.mem_cons_of_mem _ List.mem_cons_self)))
  have g0 : 0 ≤ (0 : Int) + (1 * a1 + 0) := hg _ List.mem_cons_self
  have g1 : 0 ≤ (4294967276 : Int) + ((-1) * a1 + 0) := hg _ (List.mem_cons_of_mem _ List.mem_cons_self)
  have g2 : 0 ≤ (0 : Int) + (1 * a2 + 0) := hg _ (List.mem_cons_of_mem _ (List.mem_cons_of_mem _ List.mem_cons_self))
  have g3 : 0 ≤ (4294967276 : Int) + ((-1) * a2 + 0) := hg _ (List.mem_cons_of_mem _ (List.mem_cons_of_mem _ (List.mem_cons_of_mem _ List.mem_cons_self)))
  have g4 : 0 ≤ (0 : Int) + (1 * a3 + 0) := hg _ (List.mem_cons_of_mem _ (List.mem_cons_of_mem _ (List.mem_cons_of_mem _ (List.mem_cons_of_mem _ List.mem_cons_self))))
  have g5 : 0 ≤ (4294967276 : Int) + ((-1) * a3 + 0) := hg _ (List.mem_cons_of_mem _ (List.mem_cons_of_mem _ (List.mem_cons_of_mem _ (List.mem_cons_of_mem _ (List.mem_cons_of_mem _ List.mem_cons_self)))))
  have g6 : 0 ≤ ((-1) : Int) + ((-1) * a3 + (1 * (zk_xe w 214 a4) + 0)) := hg _ (List.mem_cons_of_mem _ (List.mem_cons_of_mem _ (List.mem_cons_of_mem _ (List.mem_cons_of_mem _ (List.mem_cons_of_mem _ (List.mem_cons_of_mem _ List.mem_cons_self))))))
  have r0 : 0 ≤ a0 := hr _ List.mem_cons_self
  have r1 : 0 ≤ a4 := hr _ (List.mem_cons_of_mem _ List.mem_cons_self)
  have h0 := (zfo_187 (w := w) (j := a0) (u := a1) (n := a2) (x := a3) (by omega) (by omega) (by omega) (by omega) (by omega) (by omega) (by omega) )
  have kD : zh_e w 214 (64 * a1 + a2) = zk_xe w 214 a4 := by rw [zk_xe_r (i := 214) (by decide)]; show zk_el w 214 (64 * a1 + a2) = zk_el w 214 a4; rw [show 64 * a1 + a2 = a4 by omega]
  have h : zk_xe w 2000187 a5 = -1 := (zfo_187 (w := w) (j := a5) (u := a1) (n := (a2 + 1)) (x := a3) (by omega) (by omega) (by omega) (by omega) (by omega) (by omega) (by omega) ).trans (zfo_fn (by omega) (by rw [← h0]; omega) (by rw [kD]; omega))
  exact ⟨_, List.mem_cons_self, [], rfl, zx_bnil, zx_cs0, (zx_eF1 (by show 0 ≤ (0 : Int) + (1 * a5 + 0); omega) (by show zk_xe w 2000187 ((0 : Int) + (1 * a5 + 0)) = ((-1) : Int) + (0); rw [show (0 : Int) + (1 * a5 + 0) = a5 by omega]; exact h.trans (by omega)) zx_eF0), zx_k0⟩
def zx_D1223 : zx_L := zx_Lc [] 2 [(2000187, 0)] [] [((0, 0), [(0, 1, 0), (1, 0, 1)]), ((1, 0), [(2, 1, 0)])] [((0, 0), [(0, 1, 0)])] [([], [], [(2000187, ((0, 0), [(1, 1, 0)]), ((0, 1), []))], [])]
theorem zx_D1223_ok {PT : Nat → zz_W → Prop} : zx_Lok 64 zHT PT zx_D1223 := by
  refine zx_Lc_ok (fun w hI hK ins hl hr he hg => ?_)
  obtain ⟨a0, a1, rfl⟩ := zx_i2 hl
  have e0 : (0 : Int) + (1 * a0 + ((-1) * a1 + 0)) = 0 := he _ List.mem_cons_self
  have e1 : (1 : Int) + (1 * (zk_xe w 2000187 a0) + 0) = 0 := he _ (List.mem_cons_of_mem _ List.mem_cons_self)
  have g0 : 0 ≤ (0 : Int) + (1 * a0 + 0) := hg _ List.mem_cons_self
  have r0 : 0 ≤ a0 := hr _ List.mem_cons_self
  have e : a1 = a0 := by omega
  exact ⟨_, List.mem_cons_self, [], rfl, zx_bnil, zx_cs0, (zx_eF1 (by show 0 ≤ (0 : Int) + (1 * a1 + 0); omega) (by show zk_xe w 2000187 ((0 : Int) + (1 * a1 + 0)) = ((-1) : Int) + (0); rw [show (0 : Int) + (1 * a1 + 0) = a1 by omega]; rw [e]; omega) zx_eF0), zx_k0⟩
def zx_D1224 : zx_L := zx_Lc [] 7 [(2000187, 0), (214, 5), (213, 1)] [] [((0, 0), [(0, 1, 0), (1, 0, 1), (2, 0, 4294967296), (3, 0, 18446744073709551616)]), ((1, 0), [(7, 1, 0)]), ((0, 0), [(1, 0, 64), (2, 0, 1), (5, 1, 0)]), ((0, 0), [(3, 0, 1), (8, 1, 0)]), ((0, 0), [(1, 0, 1), (3, 0, 4294967296), (4, 0, 18446744073709551616), (6, 1, 0)])] [((0, 0), [(1, 1, 0)]), ((4294967276, 0), [(1, 0, 1)]), ((0, 0), [(2, 1, 0)]), ((4294967276, 0), [(2, 0, 1)]), ((0, 0), [(3, 1, 0)]), ((4294967276, 0), [(3, 0, 1)]), ((0, 0), [(4, 1, 0)]), ((4294967276, 0), [(4, 0, 1)]), ((0, 1), [(2, 0, 1), (9, 1, 0)])] [([], [], [(2000189, ((0, 0), [(6, 1, 0)]), ((0, 0), [(5, 1, 0)]))], [])]
theorem zx_D1224_ok {PT : Nat → zz_W → Prop} : zx_Lok 64 zHT PT zx_D1224 := by
  refine zx_Lc_ok (fun w hI hK ins hl hr he hg => ?_)
  obtain ⟨a0, a1, a2, a3, a4, a5, a6, rfl⟩ := zx_i7 hl
  have e0 : (0 : Int) + (1 * a0 + ((-1) * a1 + ((-4294967296) * a2 + ((-18446744073709551616) * a3 + 0)))) = 0 := he _ List.mem_cons_self
  have e1 : (1 : Int) + (1 * (zk_xe w 2000187 a0) + 0) = 0 := he _ (List.mem_cons_of_mem _ List.mem_cons_self)
  have e2 : (0 : Int) + ((-64) * a1 + ((-1) * a2 + (1 * a5 + 0))) = 0 := he _ (List.mem_cons_of_mem _ (List.mem_cons_of_mem _ List.mem_cons_self))
  have e3 : (0 : Int) + ((-1) * a3 + (1 * (zk_xe w 214 a5) + 0)) = 0 := he _ (List.mem_cons_of_mem _ (List.mem_cons_of_mem _ (List.mem_cons_of_mem _ List.mem_cons_self)))
  have e4 : (0 : Int) + ((-1) * a1 + ((-4294967296) * a3 + ((-18446744073709551616) * a4 + (1 * a6 + 0)))) = 0 := he _ (List.mem_cons_of_mem _ (List.mem_cons_of_mem _ (List.mem_cons_of_mem _ (List.mem_cons_of_mem _ List.mem_cons_self))))
  have g0 : 0 ≤ (0 : Int) + (1 * a1 + 0) := hg _ List.mem_cons_self
  have g1 : 0 ≤ (4294967276 : Int) + ((-1) * a1 + 0) := hg _ (List.mem_cons_of_mem _ List.mem_cons_self)
  have g2 : 0 ≤ (0 : Int) + (1 * a2 + 0) := hg _ (List.mem_cons_of_mem _ (List.mem_cons_of_mem _ List.mem_cons_self))
  have g3 : 0 ≤ (4294967276 : Int) + ((-1) * a2 + 0) := hg _ (List.mem_cons_of_mem _ (List.mem_cons_of_mem _ (List.mem_cons_of_mem _ List.mem_cons_self)))
  have g4 : 0 ≤ (0 : Int) + (1 * a3 + 0) := hg _ (List.mem_cons_of_mem _ (List.mem_cons_of_mem _ (List.mem_cons_of_mem _ (List.mem_cons_of_mem _ List.mem_cons_self))))
  have g5 : 0 ≤ (4294967276 : Int) + ((-1) * a3 + 0) := hg _ (List.mem_cons_of_mem _ (List.mem_cons_of_mem _ (List.mem_cons_of_mem _ (List.mem_cons_of_mem _ (List.mem_cons_of_mem _ List.mem_cons_self)))))
  have g6 : 0 ≤ (0 : Int) + (1 * a4 + 0) := hg _ (List.mem_cons_of_mem _ (List.mem_cons_of_mem _ (List.mem_cons_of_mem _ (List.mem_cons_of_mem _ (List.mem_cons_of_mem _ (List.mem_cons_of_mem _ List.mem_cons_self))))))
  have g7 : 0 ≤ (4294967276 : Int) + ((-1) * a4 + 0) := hg _ (List.mem_cons_of_mem _ (List.mem_cons_of_mem _ (List.mem_cons_of_mem _ (List.mem_cons_of_mem _ (List.mem_cons_of_mem _ (List.mem_cons_of_mem _ (List.mem_cons_of_mem _ List.mem_cons_self)))))))
  have g8 : 0 ≤ ((-1) : Int) + ((-1) * a2 + (1 * (zk_xe w 213 a1) + 0)) := hg _ (List.mem_cons_of_mem _ (List.mem_cons_of_mem _ (List.mem_cons_of_mem _ (List.mem_cons_of_mem _ (List.mem_cons_of_mem _ (List.mem_cons_of_mem _ (List.mem_cons_of_mem _ (List.mem_cons_of_mem _ List.mem_cons_self))))))))
  have r0 : 0 ≤ a0 := hr _ List.mem_cons_self
  have r1 : 0 ≤ a5 := hr _ (List.mem_cons_of_mem _ List.mem_cons_self)
  have r2 : 0 ≤ a1 := hr _ (List.mem_cons_of_mem _ (List.mem_cons_of_mem _ List.mem_cons_self))
  have h0 := (zfo_187 (w := w) (j := a0) (u := a1) (n := a2) (x := a3) (by omega) (by omega) (by omega) (by omega) (by omega) (by omega) (by omega) )
  have kD : zh_e w 214 (64 * a1 + a2) = zk_xe w 214 a5 := by rw [zk_xe_r (i := 214) (by decide)]; show zk_el w 214 (64 * a1 + a2) = zk_el w 214 a5; rw [show 64 * a1 + a2 = a5 by omega]
  have kC : zh_e w 213 (a1) = zk_xe w 213 a1 := by rw [zk_xe_r (i := 213) (by decide)]; show zk_el w 213 (a1) = zk_el w 213 a1; rw [show a1 = a1 by omega]
  have q := zfo_fe (D := (zh_e w 214)) (a := 64 * a1) (x := a3) (i := a2) (n := zh_e w 213 a1) (by omega) (by rw [kC]; omega) (by omega) (by rw [← h0]; omega) (by rw [kD]; omega)
  have h : zk_xe w 2000189 a6 = a5 := by
    rw [(zfo_189 (w := w) (j := a6) (u := a1) (x := a3) (n := a4) (by omega) (by omega) (by omega) (by omega) (by omega) (by omega) (by omega) )]
    have z : zfo_d (zh_e w 214) (zh_e w 213) a1 a3 a4 = zfo_f (zh_e w 214) (64 * a1) a3 (zh_e w 213 a1).toNat := if_pos (by rw [q]; omega)
    rw [z, q]
    omega
  exact ⟨_, List.mem_cons_self, [], rfl, zx_bnil, zx_cs0, (zx_eF1 (by show 0 ≤ (0 : Int) + (1 * a6 + 0); omega) (by show zk_xe w 2000189 ((0 : Int) + (1 * a6 + 0)) = (0 : Int) + (1 * a5 + 0); rw [show (0 : Int) + (1 * a6 + 0) = a6 by omega]; exact h.trans (by omega)) zx_eF0), zx_k0⟩
def zx_D1225 : zx_L := zx_Lc [] 11 [(2000187, 0), (213, 1), (2000188, 6), (2000187, 8), (214, 10), (213, 7)] [] [((0, 0), [(0, 1, 0), (1, 0, 1), (2, 0, 4294967296), (3, 0, 18446744073709551616)]), ((1, 0), [(11, 1, 0)]), ((0, 0), [(2, 0, 1), (12, 1, 0)]), ((0, 0), [(1, 0, 1), (3, 0, 4294967296), (4, 0, 18446744073709551616), (5, 1, 0)]), ((0, 0), [(3, 0, 4294967296), (6, 1, 0), (7, 0, 1)]), ((1, 0), [(13, 1, 0)]), ((0, 0), [(3, 0, 18446744073709551616), (7, 0, 1), (8, 1, 0), (9, 0, 4294967296)]), ((1, 0), [(14, 1, 0)]), ((0, 0), [(7, 0, 64), (9, 0, 1), (10, 1, 0)]), ((0, 0), [(3, 0, 1), (15, 1, 0)])] [((0, 0), [(1, 1, 0)]), ((4294967276, 0), [(1, 0, 1)]), ((0, 0), [(2, 1, 0)]), ((4294967276, 0), [(2, 0, 1)]), ((0, 0), [(3, 1, 0)]), ((4294967276, 0), [(3, 0, 1)]), ((0, 0), [(4, 1, 0)]), ((4294967276, 0), [(4, 0, 1)]), ((0, 0), [(7, 1, 0)]), ((4294967276, 0), [(7, 0, 1)]), ((0, 0), [(9, 1, 0)]), ((4294967276, 0), [(9, 0, 1)]), ((0, 1), [(9, 0, 1), (16, 1, 0)]), ((0, 1), [(4, 1, 0), (7, 0, 1)])] [([], [], [(2000189, ((0, 0), [(5, 1, 0)]), ((0, 0), [(10, 1, 0)]))], [])]
theorem zx_D1225_ok {PT : Nat → zz_W → Prop} : zx_Lok 64 zHT PT zx_D1225 := by
  refine zx_Lc_ok (fun w hI hK ins hl hr he hg => ?_)
  obtain ⟨a0, a1, a2, a3, a4, a5, a6, a7, a8, a9, a10, rfl⟩ := zx_i11 hl
  have e0 : (0 : Int) + (1 * a0 + ((-1) * a1 + ((-4294967296) * a2 + ((-18446744073709551616) * a3 + 0)))) = 0 := he _ List.mem_cons_self
  have e1 : (1 : Int) + (1 * (zk_xe w 2000187 a0) + 0) = 0 := he _ (List.mem_cons_of_mem _ List.mem_cons_self)
  have e2 : (0 : Int) + ((-1) * a2 + (1 * (zk_xe w 213 a1) + 0)) = 0 := he _ (List.mem_cons_of_mem _ (List.mem_cons_of_mem _ List.mem_cons_self))
  have e3 : (0 : Int) + ((-1) * a1 + ((-4294967296) * a3 + ((-18446744073709551616) * a4 + (1 * a5 + 0)))) = 0 := he _ (List.mem_cons_of_mem _ (List.mem_cons_of_mem _ (List.mem_cons_of_mem _ List.mem_cons_self)))
  have e4 : (0 : Int) + ((-4294967296) * a3 + (1 * a6 + ((-1) * a7 + 0))) = 0 := he _ (List.mem_cons_of_mem _ (List.mem_cons_of_mem _ (List.mem_cons_of_mem _ (List.mem_cons_of_mem _ List.mem_cons_self))))
  have e5 : (1 : Int) + (1 * (zk_xe w 2000188 a6) + 0) = 0 := he _ (List.mem_cons_of_mem _ (List.mem_cons_of_mem _ (List.mem_cons_of_mem _ (List.mem_cons_of_mem _ (List.mem_cons_of_mem _ List.mem_cons_self)))))
  have e6 : (0 : Int) + ((-18446744073709551616) * a3 + ((-1) * a7 + (1 * a8 + ((-4294967296) * a9 + 0)))) = 0 := he _ (List.mem_cons_of_mem _ (List.mem_cons_of_mem _ (List.mem_cons_of_mem _ (List.mem_cons_of_mem _ (List.mem_cons_of_mem _ (List.mem_cons_of_mem _ List.mem_cons_self))))))
  have e7 : (1 : Int) + (1 * (zk_xe w 2000187 a8) + 0) = 0 := he _ (List.mem_cons_of_mem _ (List.mem_cons_of_mem _ (List.mem_cons_of_mem _ (List.mem_cons_of_mem _ (List.mem_cons_of_mem _ (List.mem_cons_of_mem _ (List.mem_cons_of_mem _ List.mem_cons_self)))))))
  have e8 : (0 : Int) + ((-64) * a7 + ((-1) * a9 + (1 * a10 + 0))) = 0 := he _ (List.mem_cons_of_mem _ (List.mem_cons_of_mem _ (List.mem_cons_of_mem _ (List.mem_cons_of_mem _ (List.mem_cons_of_mem _ (List.mem_cons_of_mem _ (List.mem_cons_of_mem _ (List.mem_cons_of_mem _ List.mem_cons_self))))))))
  have e9 : (0 : Int) + ((-1) * a3 + (1 * (zk_xe w 214 a10) + 0)) = 0 := he _ (List.mem_cons_of_mem _ (List.mem_cons_of_mem _ (List.mem_cons_of_mem _ (List.mem_cons_of_mem _ (List.mem_cons_of_mem _ (List.mem_cons_of_mem _ (List.mem_cons_of_mem _ (List.mem_cons_of_mem _ (List.mem_cons_of_mem _ List.mem_cons_self)))))))))
  have g0 : 0 ≤ (0 : Int) + (1 * a1 + 0) := hg _ List.mem_cons_self
  have g1 : 0 ≤ (4294967276 : Int) + ((-1) * a1 + 0) := hg _ (List.mem_cons_of_mem _ List.mem_cons_self)
  have g2 : 0 ≤ (0 : Int) + (1 * a2 + 0) := hg _ (List.mem_cons_of_mem _ (List.mem_cons_of_mem _ List.mem_cons_self))
  have g3 : 0 ≤ (4294967276 : Int) + ((-1) * a2 + 0) := hg _ (List.mem_cons_of_mem _ (List.mem_cons_of_mem _ (List.mem_cons_of_mem _ List.mem_cons_self)))
  have g4 : 0 ≤ (0 : Int) + (1 * a3 + 0) := hg _ (List.mem_cons_of_mem _ (List.mem_cons_of_mem _ (List.mem_cons_of_mem _ (List.mem_cons_of_mem _ List.mem_cons_self))))
  have g5 : 0 ≤ (4294967276 : Int) + ((-1) * a3 + 0) := hg _ (List.mem_cons_of_mem _ (List.mem_cons_of_mem _ (List.mem_cons_of_mem _ (List.mem_cons_of_mem _ (List.mem_cons_of_mem _ List.mem_cons_self)))))
  have g6 : 0 ≤ (0 : Int) + (1 * a4 + 0) := hg _ (List.mem_cons_of_mem _ (List.mem_cons_of_mem _ (List.mem_cons_of_mem _ (List.mem_cons_of_mem _ (List.mem_cons_of_mem _ (List.mem_cons_of_mem _ List.mem_cons_self))))))
  have g7 : 0 ≤ (4294967276 : Int) + ((-1) * a4 + 0) := hg _ (List.mem_cons_of_mem _ (List.mem_cons_of_mem _ (List.mem_cons_of_mem _ (List.mem_cons_of_mem _ (List.mem_cons_of_mem _ (List.mem_cons_of_mem _ (List.mem_cons_of_mem _ List.mem_cons_self)))))))
  have g8 : 0 ≤ (0 : Int) + (1 * a7 + 0) := hg _ (List.mem_cons_of_mem _ (List.mem_cons_of_mem _ (List.mem_cons_of_mem _ (List.mem_cons_of_mem _ (List.mem_cons_of_mem _ (List.mem_cons_of_mem _ (List.mem_cons_of_mem _ (List.mem_cons_of_mem _ List.mem_cons_self))))))))
  have g9 : 0 ≤ (4294967276 : Int) + ((-1) * a7 + 0) := hg _ (List.mem_cons_of_mem _ (List.mem_cons_of_mem _ (List.mem_cons_of_mem _ (List.mem_cons_of_mem _ (List.mem_cons_of_mem _ (List.mem_cons_of_mem _ (List.mem_cons_of_mem _ (List.mem_cons_of_mem _ (List.mem_cons_of_mem _ List.mem_cons_self)))))))))
  have g10 : 0 ≤ (0 : Int) + (1 * a9 + 0) := hg _ (List.mem_cons_of_mem _ (List.mem_cons_of_mem _ (List.mem_cons_of_mem _ (List.mem_cons_of_mem _ (List.mem_cons_of_mem _ (List.mem_cons_of_mem _ (List.mem_cons_of_mem _ (List.mem_cons_of_mem _ (List.mem_cons_of_mem _ (List.mem_cons_of_mem _ List.mem_cons_self))))))))))
  have g11 : 0 ≤ (4294967276 : Int) + ((-1) * a9 + 0) := hg _ (List.mem_cons_of_mem _ (List.mem_cons_of_mem _ (List.mem_cons_of_mem _ (List.mem_cons_of_mem _ (List.mem_cons_of_mem _ (List.mem_cons_of_mem _ (List.mem_cons_of_mem _ (List.mem_cons_of_mem _ (List.mem_cons_of_mem _ (List.mem_cons_of_mem _ (List.mem_cons_of_mem _ List.mem_cons_self)))))))))))
  have g12 : 0 ≤ ((-1) : Int) + ((-1) * a9 + (1 * (zk_xe w 213 a7) + 0)) := hg _ (List.mem_cons_of_mem _ (List.mem_cons_of_mem _ (List.mem_cons_of_mem _ (List.mem_cons_of_mem _ (List.mem_cons_of_mem _ (List.mem_cons_of_mem _ (List.mem_cons_of_mem _ (List.mem_cons_of_mem _ (List.mem_cons_of_mem _ (List.mem_cons_of_mem _ (List.mem_cons_of_mem _ (List.mem_cons_of_mem _ List.mem_cons_self))))))))))))
  have g13 : 0 ≤ ((-1) : Int) + (1 * a4 + ((-1) * a7 + 0)) := hg _ (List.mem_cons_of_mem _ (List.mem_cons_of_mem _ (List.mem_cons_of_mem _ (List.mem_cons_of_mem _ (List.mem_cons_of_mem _ (List.mem_cons_of_mem _ (List.mem_cons_of_mem _ (List.mem_cons_of_mem _ (List.mem_cons_of_mem _ (List.mem_cons_of_mem _ (List.mem_cons_of_mem _ (List.mem_cons_of_mem _ (List.mem_cons_of_mem _ List.mem_cons_self)))))))))))))
  have r0 : 0 ≤ a0 := hr _ List.mem_cons_self
  have r1 : 0 ≤ a1 := hr _ (List.mem_cons_of_mem _ List.mem_cons_self)
  have r2 : 0 ≤ a6 := hr _ (List.mem_cons_of_mem _ (List.mem_cons_of_mem _ List.mem_cons_self))
  have r3 : 0 ≤ a8 := hr _ (List.mem_cons_of_mem _ (List.mem_cons_of_mem _ (List.mem_cons_of_mem _ List.mem_cons_self)))
  have r4 : 0 ≤ a10 := hr _ (List.mem_cons_of_mem _ (List.mem_cons_of_mem _ (List.mem_cons_of_mem _ (List.mem_cons_of_mem _ List.mem_cons_self))))
  have r5 : 0 ≤ a7 := hr _ (List.mem_cons_of_mem _ (List.mem_cons_of_mem _ (List.mem_cons_of_mem _ (List.mem_cons_of_mem _ (List.mem_cons_of_mem _ List.mem_cons_self)))))
  have h0 := (zfo_187 (w := w) (j := a0) (u := a1) (n := a2) (x := a3) (by omega) (by omega) (by omega) (by omega) (by omega) (by omega) (by omega) )
  have h6 := (zfo_188 (w := w) (j := a6) (v := a7) (x := a3) (by omega) (by omega) (by omega) (by omega) (by omega) )
  have h8 := (zfo_187 (w := w) (j := a8) (u := a7) (n := a9) (x := a3) (by omega) (by omega) (by omega) (by omega) (by omega) (by omega) (by omega) )
  have kD : zh_e w 214 (64 * a7 + a9) = zk_xe w 214 a10 := by rw [zk_xe_r (i := 214) (by decide)]; show zk_el w 214 (64 * a7 + a9) = zk_el w 214 a10; rw [show 64 * a7 + a9 = a10 by omega]
  have kU : zh_e w 213 (a1) = zk_xe w 213 a1 := by rw [zk_xe_r (i := 213) (by decide)]; show zk_el w 213 (a1) = zk_el w 213 a1; rw [show a1 = a1 by omega]
  have kC : zh_e w 213 (a7) = zk_xe w 213 a7 := by rw [zk_xe_r (i := 213) (by decide)]; show zk_el w 213 (a7) = zk_el w 213 a7; rw [show a7 = a7 by omega]
  have q := zfo_fe (D := (zh_e w 214)) (a := 64 * a7) (x := a3) (i := a9) (n := zh_e w 213 a7) (by omega) (by rw [kC]; omega) (by omega) (by rw [← h8]; omega) (by rw [kD]; omega)
  have g := zfo_ge (D := (zh_e w 214)) (c := (zh_e w 213)) (x := a3) (v := a7) (n := a4) (by omega) (by omega) (by rw [← h6]; omega) (by rw [q]; omega)
  have h : zk_xe w 2000189 a5 = a10 := by
    rw [(zfo_189 (w := w) (j := a5) (u := a1) (x := a3) (n := a4) (by omega) (by omega) (by omega) (by omega) (by omega) (by omega) (by omega) )]
    have z : zfo_d (zh_e w 214) (zh_e w 213) a1 a3 a4 = zfo_g (zh_e w 214) (zh_e w 213) a3 a4.toNat := if_neg (by rw [kU, show zk_xe w 213 a1 = a2 by omega, ← h0]; omega)
    rw [z, g, q]
    omega
  exact ⟨_, List.mem_cons_self, [], rfl, zx_bnil, zx_cs0, (zx_eF1 (by show 0 ≤ (0 : Int) + (1 * a5 + 0); omega) (by show zk_xe w 2000189 ((0 : Int) + (1 * a5 + 0)) = (0 : Int) + (1 * a10 + 0); rw [show (0 : Int) + (1 * a5 + 0) = a5 by omega]; exact h.trans (by omega)) zx_eF0), zx_k0⟩
def zx_D1226 : zx_L := zx_Lc [] 6 [(2000188, 0), (2000187, 3), (213, 1)] [] [((0, 0), [(0, 1, 0), (1, 0, 1), (2, 0, 4294967296)]), ((1, 0), [(6, 1, 0)]), ((0, 0), [(1, 0, 1), (2, 0, 18446744073709551616), (3, 1, 0), (4, 0, 4294967296)]), ((1, 0), [(7, 1, 0)]), ((0, 0), [(4, 0, 1), (8, 1, 0)]), ((0, 1), [(1, 0, 1), (2, 0, 4294967296), (5, 1, 0)])] [((0, 0), [(1, 1, 0)]), ((4294967276, 0), [(1, 0, 1)]), ((0, 0), [(2, 1, 0)]), ((4294967276, 0), [(2, 0, 1)]), ((0, 0), [(4, 1, 0)]), ((4294967276, 0), [(4, 0, 1)])] [([], [], [(2000188, ((0, 0), [(5, 1, 0)]), ((0, 1), []))], [])]
theorem zx_D1226_ok {PT : Nat → zz_W → Prop} : zx_Lok 64 zHT PT zx_D1226 := by
  refine zx_Lc_ok (fun w hI hK ins hl hr he hg => ?_)
  obtain ⟨a0, a1, a2, a3, a4, a5, rfl⟩ := zx_i6 hl
  have e0 : (0 : Int) + (1 * a0 + ((-1) * a1 + ((-4294967296) * a2 + 0))) = 0 := he _ List.mem_cons_self
  have e1 : (1 : Int) + (1 * (zk_xe w 2000188 a0) + 0) = 0 := he _ (List.mem_cons_of_mem _ List.mem_cons_self)
  have e2 : (0 : Int) + ((-1) * a1 + ((-18446744073709551616) * a2 + (1 * a3 + ((-4294967296) * a4 + 0)))) = 0 := he _ (List.mem_cons_of_mem _ (List.mem_cons_of_mem _ List.mem_cons_self))
  have e3 : (1 : Int) + (1 * (zk_xe w 2000187 a3) + 0) = 0 := he _ (List.mem_cons_of_mem _ (List.mem_cons_of_mem _ (List.mem_cons_of_mem _ List.mem_cons_self)))
  have e4 : (0 : Int) + ((-1) * a4 + (1 * (zk_xe w 213 a1) + 0)) = 0 := he _ (List.mem_cons_of_mem _ (List.mem_cons_of_mem _ (List.mem_cons_of_mem _ (List.mem_cons_of_mem _ List.mem_cons_self))))
  have e5 : ((-1) : Int) + ((-1) * a1 + ((-4294967296) * a2 + (1 * a5 + 0))) = 0 := he _ (List.mem_cons_of_mem _ (List.mem_cons_of_mem _ (List.mem_cons_of_mem _ (List.mem_cons_of_mem _ (List.mem_cons_of_mem _ List.mem_cons_self)))))
  have g0 : 0 ≤ (0 : Int) + (1 * a1 + 0) := hg _ List.mem_cons_self
  have g1 : 0 ≤ (4294967276 : Int) + ((-1) * a1 + 0) := hg _ (List.mem_cons_of_mem _ List.mem_cons_self)
  have g2 : 0 ≤ (0 : Int) + (1 * a2 + 0) := hg _ (List.mem_cons_of_mem _ (List.mem_cons_of_mem _ List.mem_cons_self))
  have g3 : 0 ≤ (4294967276 : Int) + ((-1) * a2 + 0) := hg _ (List.mem_cons_of_mem _ (List.mem_cons_of_mem _ (List.mem_cons_of_mem _ List.mem_cons_self)))
  have g4 : 0 ≤ (0 : Int) + (1 * a4 + 0) := hg _ (List.mem_cons_of_mem _ (List.mem_cons_of_mem _ (List.mem_cons_of_mem _ (List.mem_cons_of_mem _ List.mem_cons_self))))
  have g5 : 0 ≤ (4294967276 : Int) + ((-1) * a4 + 0) := hg _ (List.mem_cons_of_mem _ (List.mem_cons_of_mem _ (List.mem_cons_of_mem _ (List.mem_cons_of_mem _ (List.mem_cons_of_mem _ List.mem_cons_self)))))
  have r0 : 0 ≤ a0 := hr _ List.mem_cons_self
  have r1 : 0 ≤ a3 := hr _ (List.mem_cons_of_mem _ List.mem_cons_self)
  have r2 : 0 ≤ a1 := hr _ (List.mem_cons_of_mem _ (List.mem_cons_of_mem _ List.mem_cons_self))
  have h0 := (zfo_188 (w := w) (j := a0) (v := a1) (x := a2) (by omega) (by omega) (by omega) (by omega) (by omega) )
  have h3 := (zfo_187 (w := w) (j := a3) (u := a1) (n := a4) (x := a2) (by omega) (by omega) (by omega) (by omega) (by omega) (by omega) (by omega) )
  have kC : zh_e w 213 (a1) = zk_xe w 213 a1 := by rw [zk_xe_r (i := 213) (by decide)]; show zk_el w 213 (a1) = zk_el w 213 a1; rw [show a1 = a1 by omega]
  have h : zk_xe w 2000188 a5 = -1 := by
    rw [(zfo_188 (w := w) (j := a5) (v := (a1 + 1)) (x := a2) (by omega) (by omega) (by omega) (by omega) (by omega) ), zfo_gn (by omega) (by rw [← h0]; omega), kC, show zk_xe w 213 a1 = a4 by omega, ← h3]
    omega
  exact ⟨_, List.mem_cons_self, [], rfl, zx_bnil, zx_cs0, (zx_eF1 (by show 0 ≤ (0 : Int) + (1 * a5 + 0); omega) (by show zk_xe w 2000188 ((0 : Int) + (1 * a5 + 0)) = ((-1) : Int) + (0); rw [show (0 : Int) + (1 * a5 + 0) = a5 by omega]; exact h.trans (by omega)) zx_eF0), zx_k0⟩
def zx_D1227 : zx_L := zx_Lc [] 2 [] [] [((0, 0), [(0, 1, 0), (1, 0, 4294967296)])] [((0, 0), [(1, 1, 0)]), ((4294967276, 0), [(1, 0, 1)])] [([], [], [(2000188, ((0, 0), [(0, 1, 0)]), ((0, 1), []))], [])]
theorem zx_D1227_ok {PT : Nat → zz_W → Prop} : zx_Lok 64 zHT PT zx_D1227 := by
  refine zx_Lc_ok (fun w hI hK ins hl hr he hg => ?_)
  obtain ⟨a0, a1, rfl⟩ := zx_i2 hl
  have e0 : (0 : Int) + (1 * a0 + ((-4294967296) * a1 + 0)) = 0 := he _ List.mem_cons_self
  have g0 : 0 ≤ (0 : Int) + (1 * a1 + 0) := hg _ List.mem_cons_self
  have g1 : 0 ≤ (4294967276 : Int) + ((-1) * a1 + 0) := hg _ (List.mem_cons_of_mem _ List.mem_cons_self)
  have h : zk_xe w 2000188 a0 = -1 := (zfo_188 (w := w) (j := a0) (v := 0) (x := a1) (by omega) (by omega) (by omega) (by omega) (by omega) )
  exact ⟨_, List.mem_cons_self, [], rfl, zx_bnil, zx_cs0, (zx_eF1 (by show 0 ≤ (0 : Int) + (1 * a0 + 0); omega) (by show zk_xe w 2000188 ((0 : Int) + (1 * a0 + 0)) = ((-1) : Int) + (0); rw [show (0 : Int) + (1 * a0 + 0) = a0 by omega]; exact h.trans (by omega)) zx_eF0), zx_k0⟩
def zx_D1228 : zx_L := zx_Lc [] 7 [(2000187, 0), (213, 1), (2000188, 6)] [] [((0, 0), [(0, 1, 0), (1, 0, 1), (2, 0, 4294967296), (3, 0, 18446744073709551616)]), ((1, 0), [(7, 1, 0)]), ((0, 0), [(2, 0, 1), (8, 1, 0)]), ((0, 0), [(1, 0, 1), (3, 0, 4294967296), (4, 0, 18446744073709551616), (5, 1, 0)]), ((0, 0), [(3, 0, 4294967296), (4, 0, 1), (6, 1, 0)]), ((1, 0), [(9, 1, 0)])] [((0, 0), [(1, 1, 0)]), ((4294967276, 0), [(1, 0, 1)]), ((0, 0), [(2, 1, 0)]), ((4294967276, 0), [(2, 0, 1)]), ((0, 0), [(3, 1, 0)]), ((4294967276, 0), [(3, 0, 1)]), ((0, 0), [(4, 1, 0)]), ((4294967276, 0), [(4, 0, 1)])] [([], [], [(2000189, ((0, 0), [(5, 1, 0)]), ((0, 1), []))], [])]
theorem zx_D1228_ok {PT : Nat → zz_W → Prop} : zx_Lok 64 zHT PT zx_D1228 := by
  refine zx_Lc_ok (fun w hI hK ins hl hr he hg => ?_)
  obtain ⟨a0, a1, a2, a3, a4, a5, a6, rfl⟩ := zx_i7 hl
  have e0 : (0 : Int) + (1 * a0 + ((-1) * a1 + ((-4294967296) * a2 + ((-18446744073709551616) * a3 + 0)))) = 0 := he _ List.mem_cons_self
  have e1 : (1 : Int) + (1 * (zk_xe w 2000187 a0) + 0) = 0 := he _ (List.mem_cons_of_mem _ List.mem_cons_self)
  have e2 : (0 : Int) + ((-1) * a2 + (1 * (zk_xe w 213 a1) + 0)) = 0 := he _ (List.mem_cons_of_mem _ (List.mem_cons_of_mem _ List.mem_cons_self))
  have e3 : (0 : Int) + ((-1) * a1 + ((-4294967296) * a3 + ((-18446744073709551616) * a4 + (1 * a5 + 0)))) = 0 := he _ (List.mem_cons_of_mem _ (List.mem_cons_of_mem _ (List.mem_cons_of_mem _ List.mem_cons_self)))
  have e4 : (0 : Int) + ((-4294967296) * a3 + ((-1) * a4 + (1 * a6 + 0))) = 0 := he _ (List.mem_cons_of_mem _ (List.mem_cons_of_mem _ (List.mem_cons_of_mem _ (List.mem_cons_of_mem _ List.mem_cons_self))))
  have e5 : (1 : Int) + (1 * (zk_xe w 2000188 a6) + 0) = 0 := he _ (List.mem_cons_of_mem _ (List.mem_cons_of_mem _ (List.mem_cons_of_mem _ (List.mem_cons_of_mem _ (List.mem_cons_of_mem _ List.mem_cons_self)))))
  have g0 : 0 ≤ (0 : Int) + (1 * a1 + 0) := hg _ List.mem_cons_self
  have g1 : 0 ≤ (4294967276 : Int) + ((-1) * a1 + 0) := hg _ (List.mem_cons_of_mem _ List.mem_cons_self)
  have g2 : 0 ≤ (0 : Int) + (1 * a2 + 0) := hg _ (List.mem_cons_of_mem _ (List.mem_cons_of_mem _ List.mem_cons_self))
  have g3 : 0 ≤ (4294967276 : Int) + ((-1) * a2 + 0) := hg _ (List.mem_cons_of_mem _ (List.mem_cons_of_mem _ (List.mem_cons_of_mem _ List.mem_cons_self)))
  have g4 : 0 ≤ (0 : Int) + (1 * a3 + 0) := hg _ (List.mem_cons_of_mem _ (List.mem_cons_of_mem _ (List.mem_cons_of_mem _ (List.mem_cons_of_mem _ List.mem_cons_self))))
  have g5 : 0 ≤ (4294967276 : Int) + ((-1) * a3 + 0) := hg _ (List.mem_cons_of_mem _ (List.mem_cons_of_mem _ (List.mem_cons_of_mem _ (List.mem_cons_of_mem _ (List.mem_cons_of_mem _ List.mem_cons_self)))))
  have g6 : 0 ≤ (0 : Int) + (1 * a4 + 0) := hg _ (List.mem_cons_of_mem _ (List.mem_cons_of_mem _ (List.mem_cons_of_mem _ (List.mem_cons_of_mem _ (List.mem_cons_of_mem _ (List.mem_cons_of_mem _ List.mem_cons_self))))))
  have g7 : 0 ≤ (4294967276 : Int) + ((-1) * a4 + 0) := hg _ (List.mem_cons_of_mem _ (List.mem_cons_of_mem _ (List.mem_cons_of_mem _ (List.mem_cons_of_mem _ (List.mem_cons_of_mem _ (List.mem_cons_of_mem _ (List.mem_cons_of_mem _ List.mem_cons_self)))))))
  have r0 : 0 ≤ a0 := hr _ List.mem_cons_self
  have r1 : 0 ≤ a1 := hr _ (List.mem_cons_of_mem _ List.mem_cons_self)
  have r2 : 0 ≤ a6 := hr _ (List.mem_cons_of_mem _ (List.mem_cons_of_mem _ List.mem_cons_self))
  have h0 := (zfo_187 (w := w) (j := a0) (u := a1) (n := a2) (x := a3) (by omega) (by omega) (by omega) (by omega) (by omega) (by omega) (by omega) )
  have h6 := (zfo_188 (w := w) (j := a6) (v := a4) (x := a3) (by omega) (by omega) (by omega) (by omega) (by omega) )
  have kU : zh_e w 213 (a1) = zk_xe w 213 a1 := by rw [zk_xe_r (i := 213) (by decide)]; show zk_el w 213 (a1) = zk_el w 213 a1; rw [show a1 = a1 by omega]
  have h : zk_xe w 2000189 a5 = -1 := by
    rw [(zfo_189 (w := w) (j := a5) (u := a1) (x := a3) (n := a4) (by omega) (by omega) (by omega) (by omega) (by omega) (by omega) (by omega) )]
    have z : zfo_d (zh_e w 214) (zh_e w 213) a1 a3 a4 = zfo_g (zh_e w 214) (zh_e w 213) a3 a4.toNat := if_neg (by rw [kU, show zk_xe w 213 a1 = a2 by omega, ← h0]; omega)
    rw [z, ← h6]
    omega
  exact ⟨_, List.mem_cons_self, [], rfl, zx_bnil, zx_cs0, (zx_eF1 (by show 0 ≤ (0 : Int) + (1 * a5 + 0); omega) (by show zk_xe w 2000189 ((0 : Int) + (1 * a5 + 0)) = ((-1) : Int) + (0); rw [show (0 : Int) + (1 * a5 + 0) = a5 by omega]; exact h.trans (by omega)) zx_eF0), zx_k0⟩
def zx_D1229 : zx_L := zx_Lc [] 2 [] [] [] [] [([], [((0, 0), [(0, 1, 0), (1, 0, 1)])], [], []), ([], [((0, 1), [(0, 0, 1), (1, 1, 0)])], [], [])]
theorem zx_D1229_ok {PT : Nat → zz_W → Prop} : zx_Lok 64 zHT PT zx_D1229 := by
  refine zx_Lc_ok (fun w hI hK ins hl hr he hg => ?_)
  obtain ⟨a0, a1, rfl⟩ := zx_i2 hl
  by_cases c : a1 ≤ a0
  ·
    exact ⟨_, List.mem_cons_self, [], rfl, zx_bnil, (zx_cs1 (by show 0 ≤ (0 : Int) + (1 * a0 + ((-1) * a1 + 0)); omega) zx_cs0), zx_eF0, zx_k0⟩
  ·
    exact ⟨_, (List.mem_cons_of_mem _ List.mem_cons_self), [], rfl, zx_bnil, (zx_cs1 (by show 0 ≤ ((-1) : Int) + ((-1) * a0 + (1 * a1 + 0)); omega) zx_cs0), zx_eF0, zx_k0⟩
def zx_D1230 : zx_L := zx_Lc [] 1 [] [] [((0, 0), [(0, 1, 0)])] [] [([], [], [(2000190, ((0, 0), [(0, 1, 0)]), ((1, 0), []))], [])]
theorem zx_D1230_ok {PT : Nat → zz_W → Prop} : zx_Lok 64 zHT PT zx_D1230 := by
  refine zx_Lc_ok (fun w hI hK ins hl hr he hg => ?_)
  obtain ⟨a0, rfl⟩ := zx_i1 hl
  have e0 : (0 : Int) + (1 * a0 + 0) = 0 := he _ List.mem_cons_self
  have h : zk_xe w 2000190 a0 = 1 := zfo_190.trans (zh_b1 (fun u u0 u1 => by omega))
  exact ⟨_, List.mem_cons_self, [], rfl, zx_bnil, zx_cs0, (zx_eF1 (by show 0 ≤ (0 : Int) + (1 * a0 + 0); omega) (by show zk_xe w 2000190 ((0 : Int) + (1 * a0 + 0)) = (1 : Int) + (0); rw [show (0 : Int) + (1 * a0 + 0) = a0 by omega]; exact h.trans (by omega)) zx_eF0), zx_k0⟩
def zx_D1231 : zx_L := zx_Lc [] 2 [(2000190, 0), (176, 0)] [] [((0, 1), [(0, 0, 1), (1, 1, 0)])] [((0, 0), [(0, 1, 0)]), ((0, 1), [(3, 1, 0)])] [([(0, 1)], [((0, 0), [(2, 0, 1), (4, 1, 0)])], [(2000190, ((0, 0), [(1, 1, 0)]), ((0, 0), [(4, 1, 0)]))], [])]
theorem zx_D1231_ok {PT : Nat → zz_W → Prop} : zx_Lok 64 zHT PT zx_D1231 := by
  refine zx_Lc_ok (fun w hI hK ins hl hr he hg => ?_)
  obtain ⟨a0, a1, rfl⟩ := zx_i2 hl
  have e0 : ((-1) : Int) + ((-1) * a0 + (1 * a1 + 0)) = 0 := he _ List.mem_cons_self
  have g0 : 0 ≤ (0 : Int) + (1 * a0 + 0) := hg _ List.mem_cons_self
  have g1 : 0 ≤ ((-1) : Int) + (1 * (zk_xe w 176 a0) + 0) := hg _ (List.mem_cons_of_mem _ List.mem_cons_self)
  have r0 : 0 ≤ a0 := hr _ List.mem_cons_self
  have r1 : 0 ≤ a0 := hr _ (List.mem_cons_of_mem _ List.mem_cons_self)
  have kO : zh_e w 176 (a0) = zk_xe w 176 a0 := by rw [zk_xe_r (i := 176) (by decide)]; show zk_el w 176 (a0) = zk_el w 176 a0; rw [show a0 = a0 by omega]
  have hb : 0 ≤ zk_xe w 2000190 a1 ∧ zk_xe w 2000190 a1 ≤ 1 := by
    rw [zfo_190]
    exact zfo_b01
  have h : zk_xe w 2000190 a0 ≤ zk_xe w 2000190 a1 := by
    rw [zfo_190, zfo_190]
    refine zfo_bm (fun q u u0 u1 => ?_)
    by_cases c : u = a0
    · rw [c, kO]
      omega
    · exact q u u0 (by omega)
  exact ⟨_, List.mem_cons_self, [zk_xe w 2000190 a1], rfl, (zx_bcons (by show (0 : Int) ≤ zk_xe w 2000190 a1 ∧ zk_xe w 2000190 a1 ≤ (1 : Int); omega) zx_bnil), (zx_cs1 (by show 0 ≤ (0 : Int) + ((-1) * (zk_xe w 2000190 a0) + (1 * (zk_xe w 2000190 a1) + 0)); omega) zx_cs0), (zx_eF1 (by show 0 ≤ (0 : Int) + (1 * a1 + 0); omega) (by show zk_xe w 2000190 ((0 : Int) + (1 * a1 + 0)) = (0 : Int) + (1 * (zk_xe w 2000190 a1) + 0); rw [show (0 : Int) + (1 * a1 + 0) = a1 by omega]; omega) zx_eF0), zx_k0⟩
def zx_D1232 : zx_L := zx_Lc [] 1 [] [] [] [((0, 0), [(0, 1, 0)])] [([(0, 1)], [], [(2000190, ((0, 0), [(0, 1, 0)]), ((0, 0), [(1, 1, 0)]))], [])]
theorem zx_D1232_ok {PT : Nat → zz_W → Prop} : zx_Lok 64 zHT PT zx_D1232 := by
  refine zx_Lc_ok (fun w hI hK ins hl hr he hg => ?_)
  obtain ⟨a0, rfl⟩ := zx_i1 hl
  have g0 : 0 ≤ (0 : Int) + (1 * a0 + 0) := hg _ List.mem_cons_self
  have hb : 0 ≤ zk_xe w 2000190 a0 ∧ zk_xe w 2000190 a0 ≤ 1 := by
    rw [zfo_190]
    exact zfo_b01
  exact ⟨_, List.mem_cons_self, [zk_xe w 2000190 a0], rfl, (zx_bcons (by show (0 : Int) ≤ zk_xe w 2000190 a0 ∧ zk_xe w 2000190 a0 ≤ (1 : Int); omega) zx_bnil), zx_cs0, (zx_eF1 (by show 0 ≤ (0 : Int) + (1 * a0 + 0); omega) (by show zk_xe w 2000190 ((0 : Int) + (1 * a0 + 0)) = (0 : Int) + (1 * (zk_xe w 2000190 a0) + 0); rw [show (0 : Int) + (1 * a0 + 0) = a0 by omega]; omega) zx_eF0), zx_k0⟩
def zx_D1237 : zx_L := zx_Lc [] 2 [(2000190, 0)] [] [((0, 0), [(0, 1, 0), (1, 0, 1)])] [((0, 0), [(0, 1, 0)])] [([], [], [(2000190, ((0, 0), [(1, 1, 0)]), ((0, 0), [(2, 1, 0)]))], [])]
theorem zx_D1237_ok {PT : Nat → zz_W → Prop} : zx_Lok 64 zHT PT zx_D1237 := by
  refine zx_Lc_ok (fun w hI hK ins hl hr he hg => ?_)
  obtain ⟨a0, a1, rfl⟩ := zx_i2 hl
  have e0 : (0 : Int) + (1 * a0 + ((-1) * a1 + 0)) = 0 := he _ List.mem_cons_self
  have g0 : 0 ≤ (0 : Int) + (1 * a0 + 0) := hg _ List.mem_cons_self
  have r0 : 0 ≤ a0 := hr _ List.mem_cons_self
  have e : a1 = a0 := by omega
  exact ⟨_, List.mem_cons_self, [], rfl, zx_bnil, zx_cs0, (zx_eF1 (by show 0 ≤ (0 : Int) + (1 * a1 + 0); omega) (by show zk_xe w 2000190 ((0 : Int) + (1 * a1 + 0)) = (0 : Int) + (1 * (zk_xe w 2000190 a0) + 0); rw [show (0 : Int) + (1 * a1 + 0) = a1 by omega]; rw [e]; omega) zx_eF0), zx_k0⟩
def zx_D1233 : zx_L := zx_Lc [] 2 [] [] [((0, 0), [(0, 1, 0), (1, 0, 18446744073709551616)])] [((0, 0), [(1, 1, 0)]), ((4294967276, 0), [(1, 0, 1)])] [([], [], [(2000191, ((0, 0), [(0, 1, 0)]), ((1, 0), []))], [])]
theorem zx_D1233_ok {PT : Nat → zz_W → Prop} : zx_Lok 64 zHT PT zx_D1233 := by
  refine zx_Lc_ok (fun w hI hK ins hl hr he hg => ?_)
  obtain ⟨a0, a1, rfl⟩ := zx_i2 hl
  have e0 : (0 : Int) + (1 * a0 + ((-18446744073709551616) * a1 + 0)) = 0 := he _ List.mem_cons_self
  have g0 : 0 ≤ (0 : Int) + (1 * a1 + 0) := hg _ List.mem_cons_self
  have g1 : 0 ≤ (4294967276 : Int) + ((-1) * a1 + 0) := hg _ (List.mem_cons_of_mem _ List.mem_cons_self)
  have h : zk_xe w 2000191 a0 = 1 := (zfo_191 (w := w) (j := a0) (u := 0) (k := 0) (n := a1) (by omega) (by omega) (by omega) (by omega) (by omega) (by omega) (by omega) ).trans (zh_b1 (fun v i v0 v1 i0 i1 i2 q => by have := q (by omega); omega))
  exact ⟨_, List.mem_cons_self, [], rfl, zx_bnil, zx_cs0, (zx_eF1 (by show 0 ≤ (0 : Int) + (1 * a0 + 0); omega) (by show zk_xe w 2000191 ((0 : Int) + (1 * a0 + 0)) = (1 : Int) + (0); rw [show (0 : Int) + (1 * a0 + 0) = a0 by omega]; exact h.trans (by omega)) zx_eF0), zx_k0⟩
def zx_D1234 : zx_L := zx_Lc [] 8 [(2000191, 0), (204, 4), (205, 4), (2000189, 5), (215, 6)] [] [((0, 0), [(0, 1, 0), (1, 0, 1), (2, 0, 4294967296), (3, 0, 18446744073709551616)]), ((0, 0), [(1, 0, 600), (2, 0, 1), (4, 1, 0)]), ((0, 0), [(1, 0, 1), (3, 0, 18446744073709551616), (5, 1, 0), (9, 0, 4294967296)]), ((0, 0), [(6, 0, 1), (11, 1, 0)]), ((0, 0), [(10, 0, 1), (12, 1, 0)]), ((0, 4294967296), [(1, 0, 1), (2, 0, 4294967296), (3, 0, 18446744073709551616), (7, 1, 0)])] [((0, 0), [(1, 1, 0)]), ((4294967276, 0), [(1, 0, 1)]), ((0, 0), [(2, 1, 0)]), ((4294967276, 0), [(2, 0, 1)]), ((0, 0), [(3, 1, 0)]), ((4294967276, 0), [(3, 0, 1)]), ((0, 0), [(9, 1, 0)]), ((4294967276, 0), [(9, 0, 1)]), ((0, 0), [(6, 1, 0)])] [([(0, 1)], [((0, 0), [(8, 0, 1), (13, 1, 0)])], [(2000191, ((0, 0), [(7, 1, 0)]), ((0, 0), [(13, 1, 0)]))], [])]
theorem zx_D1234_ok {PT : Nat → zz_W → Prop} : zx_Lok 64 zHT PT zx_D1234 := by
  refine zx_Lc_ok (fun w hI hK ins hl hr he hg => ?_)
  obtain ⟨a0, a1, a2, a3, a4, a5, a6, a7, rfl⟩ := zx_i8 hl
  have e0 : (0 : Int) + (1 * a0 + ((-1) * a1 + ((-4294967296) * a2 + ((-18446744073709551616) * a3 + 0)))) = 0 := he _ List.mem_cons_self
  have e1 : (0 : Int) + ((-600) * a1 + ((-1) * a2 + (1 * a4 + 0))) = 0 := he _ (List.mem_cons_of_mem _ List.mem_cons_self)
  have e2 : (0 : Int) + ((-1) * a1 + ((-18446744073709551616) * a3 + (1 * a5 + ((-4294967296) * (zk_xe w 204 a4) + 0)))) = 0 := he _ (List.mem_cons_of_mem _ (List.mem_cons_of_mem _ List.mem_cons_self))
  have e3 : (0 : Int) + ((-1) * a6 + (1 * (zk_xe w 2000189 a5) + 0)) = 0 := he _ (List.mem_cons_of_mem _ (List.mem_cons_of_mem _ (List.mem_cons_of_mem _ List.mem_cons_self)))
  have e4 : (0 : Int) + ((-1) * (zk_xe w 205 a4) + (1 * (zk_xe w 215 a6) + 0)) = 0 := he _ (List.mem_cons_of_mem _ (List.mem_cons_of_mem _ (List.mem_cons_of_mem _ (List.mem_cons_of_mem _ List.mem_cons_self))))
  have e5 : ((-4294967296) : Int) + ((-1) * a1 + ((-4294967296) * a2 + ((-18446744073709551616) * a3 + (1 * a7 + 0)))) = 0 := he _ (List.mem_cons_of_mem _ (List.mem_cons_of_mem _ (List.mem_cons_of_mem _ (List.mem_cons_of_mem _ (List.mem_cons_of_mem _ List.mem_cons_self)))))
  have g0 : 0 ≤ (0 : Int) + (1 * a1 + 0) := hg _ List.mem_cons_self
  have g1 : 0 ≤ (4294967276 : Int) + ((-1) * a1 + 0) := hg _ (List.mem_cons_of_mem _ List.mem_cons_self)
  have g2 : 0 ≤ (0 : Int) + (1 * a2 + 0) := hg _ (List.mem_cons_of_mem _ (List.mem_cons_of_mem _ List.mem_cons_self))
  have g3 : 0 ≤ (4294967276 : Int) + ((-1) * a2 + 0) := hg _ (List.mem_cons_of_mem _ (List.mem_cons_of_mem _ (List.mem_cons_of_mem _ List.mem_cons_self)))
  have g4 : 0 ≤ (0 : Int) + (1 * a3 + 0) := hg _ (List.mem_cons_of_mem _ (List.mem_cons_of_mem _ (List.mem_cons_of_mem _ (List.mem_cons_of_mem _ List.mem_cons_self))))
  have g5 : 0 ≤ (4294967276 : Int) + ((-1) * a3 + 0) := hg _ (List.mem_cons_of_mem _ (List.mem_cons_of_mem _ (List.mem_cons_of_mem _ (List.mem_cons_of_mem _ (List.mem_cons_of_mem _ List.mem_cons_self)))))
  have g6 : 0 ≤ (0 : Int) + (1 * (zk_xe w 204 a4) + 0) := hg _ (List.mem_cons_of_mem _ (List.mem_cons_of_mem _ (List.mem_cons_of_mem _ (List.mem_cons_of_mem _ (List.mem_cons_of_mem _ (List.mem_cons_of_mem _ List.mem_cons_self))))))
  have g7 : 0 ≤ (4294967276 : Int) + ((-1) * (zk_xe w 204 a4) + 0) := hg _ (List.mem_cons_of_mem _ (List.mem_cons_of_mem _ (List.mem_cons_of_mem _ (List.mem_cons_of_mem _ (List.mem_cons_of_mem _ (List.mem_cons_of_mem _ (List.mem_cons_of_mem _ List.mem_cons_self)))))))
  have g8 : 0 ≤ (0 : Int) + (1 * a6 + 0) := hg _ (List.mem_cons_of_mem _ (List.mem_cons_of_mem _ (List.mem_cons_of_mem _ (List.mem_cons_of_mem _ (List.mem_cons_of_mem _ (List.mem_cons_of_mem _ (List.mem_cons_of_mem _ (List.mem_cons_of_mem _ List.mem_cons_self))))))))
  have r0 : 0 ≤ a0 := hr _ List.mem_cons_self
  have r1 : 0 ≤ a4 := hr _ (List.mem_cons_of_mem _ List.mem_cons_self)
  have r2 : 0 ≤ a4 := hr _ (List.mem_cons_of_mem _ (List.mem_cons_of_mem _ List.mem_cons_self))
  have r3 : 0 ≤ a5 := hr _ (List.mem_cons_of_mem _ (List.mem_cons_of_mem _ (List.mem_cons_of_mem _ List.mem_cons_self)))
  have r4 : 0 ≤ a6 := hr _ (List.mem_cons_of_mem _ (List.mem_cons_of_mem _ (List.mem_cons_of_mem _ (List.mem_cons_of_mem _ List.mem_cons_self))))
  have hb : 0 ≤ zk_xe w 2000191 a7 ∧ zk_xe w 2000191 a7 ≤ 1 := by
    rw [(zfo_191 (w := w) (j := a7) (u := a1) (k := (a2 + 1)) (n := a3) (by omega) (by omega) (by omega) (by omega) (by omega) (by omega) (by omega) )]
    exact zfo_b01
  have kV : zh_e w 204 (600 * a1 + a2) = zk_xe w 204 a4 := by rw [zk_xe_r (i := 204) (by decide)]; show zk_el w 204 (600 * a1 + a2) = zk_el w 204 a4; rw [show 600 * a1 + a2 = a4 by omega]
  have kQ : zh_e w 205 (600 * a1 + a2) = zk_xe w 205 a4 := by rw [zk_xe_r (i := 205) (by decide)]; show zk_el w 205 (600 * a1 + a2) = zk_el w 205 a4; rw [show 600 * a1 + a2 = a4 by omega]
  have hD := (zfo_189 (w := w) (j := a5) (u := a1) (x := (zk_xe w 204 a4)) (n := a3) (by omega) (by omega) (by omega) (by omega) (by omega) (by omega) (by omega) )
  have kK : zh_e w 215 (a6) = zk_xe w 215 a6 := by rw [zk_xe_r (i := 215) (by decide)]; show zk_el w 215 (a6) = zk_el w 215 a6; rw [show a6 = a6 by omega]
  have h : zk_xe w 2000191 a0 ≤ zk_xe w 2000191 a7 := by
    rw [(zfo_191 (w := w) (j := a0) (u := a1) (k := a2) (n := a3) (by omega) (by omega) (by omega) (by omega) (by omega) (by omega) (by omega) ), (zfo_191 (w := w) (j := a7) (u := a1) (k := (a2 + 1)) (n := a3) (by omega) (by omega) (by omega) (by omega) (by omega) (by omega) (by omega) )]
    refine zfo_bm (fun q v i v0 v1 i0 i1 i2 i3 => ?_)
    by_cases c : v = a1 ∧ i = a2
    · rw [c.1, c.2, kV, kQ]
      refine ⟨by rw [← hD]; omega, ?_⟩
      rw [← hD, show zk_xe w 2000189 a5 = a6 by omega, kK]
      omega
    · exact q v i v0 v1 i0 i1 i2 (fun e => by have := i3 e; omega)
  exact ⟨_, List.mem_cons_self, [zk_xe w 2000191 a7], rfl, (zx_bcons (by show (0 : Int) ≤ zk_xe w 2000191 a7 ∧ zk_xe w 2000191 a7 ≤ (1 : Int); omega) zx_bnil), (zx_cs1 (by show 0 ≤ (0 : Int) + ((-1) * (zk_xe w 2000191 a0) + (1 * (zk_xe w 2000191 a7) + 0)); omega) zx_cs0), (zx_eF1 (by show 0 ≤ (0 : Int) + (1 * a7 + 0); omega) (by show zk_xe w 2000191 ((0 : Int) + (1 * a7 + 0)) = (0 : Int) + (1 * (zk_xe w 2000191 a7) + 0); rw [show (0 : Int) + (1 * a7 + 0) = a7 by omega]; omega) zx_eF0), zx_k0⟩
def zx_D1235 : zx_L := zx_Lc [] 4 [] [] [((0, 0), [(0, 1, 0), (1, 0, 1), (2, 0, 4294967296), (3, 0, 18446744073709551616)])] [((0, 0), [(1, 1, 0)]), ((4294967276, 0), [(1, 0, 1)]), ((0, 0), [(2, 1, 0)]), ((4294967276, 0), [(2, 0, 1)]), ((0, 0), [(3, 1, 0)]), ((4294967276, 0), [(3, 0, 1)])] [([(0, 1)], [], [(2000191, ((0, 0), [(0, 1, 0)]), ((0, 0), [(4, 1, 0)]))], [])]
theorem zx_D1235_ok {PT : Nat → zz_W → Prop} : zx_Lok 64 zHT PT zx_D1235 := by
  refine zx_Lc_ok (fun w hI hK ins hl hr he hg => ?_)
  obtain ⟨a0, a1, a2, a3, rfl⟩ := zx_i4 hl
  have e0 : (0 : Int) + (1 * a0 + ((-1) * a1 + ((-4294967296) * a2 + ((-18446744073709551616) * a3 + 0)))) = 0 := he _ List.mem_cons_self
  have g0 : 0 ≤ (0 : Int) + (1 * a1 + 0) := hg _ List.mem_cons_self
  have g1 : 0 ≤ (4294967276 : Int) + ((-1) * a1 + 0) := hg _ (List.mem_cons_of_mem _ List.mem_cons_self)
  have g2 : 0 ≤ (0 : Int) + (1 * a2 + 0) := hg _ (List.mem_cons_of_mem _ (List.mem_cons_of_mem _ List.mem_cons_self))
  have g3 : 0 ≤ (4294967276 : Int) + ((-1) * a2 + 0) := hg _ (List.mem_cons_of_mem _ (List.mem_cons_of_mem _ (List.mem_cons_of_mem _ List.mem_cons_self)))
  have g4 : 0 ≤ (0 : Int) + (1 * a3 + 0) := hg _ (List.mem_cons_of_mem _ (List.mem_cons_of_mem _ (List.mem_cons_of_mem _ (List.mem_cons_of_mem _ List.mem_cons_self))))
  have g5 : 0 ≤ (4294967276 : Int) + ((-1) * a3 + 0) := hg _ (List.mem_cons_of_mem _ (List.mem_cons_of_mem _ (List.mem_cons_of_mem _ (List.mem_cons_of_mem _ (List.mem_cons_of_mem _ List.mem_cons_self)))))
  have hb : 0 ≤ zk_xe w 2000191 a0 ∧ zk_xe w 2000191 a0 ≤ 1 := by
    rw [(zfo_191 (w := w) (j := a0) (u := a1) (k := a2) (n := a3) (by omega) (by omega) (by omega) (by omega) (by omega) (by omega) (by omega) )]
    exact zfo_b01
  exact ⟨_, List.mem_cons_self, [zk_xe w 2000191 a0], rfl, (zx_bcons (by show (0 : Int) ≤ zk_xe w 2000191 a0 ∧ zk_xe w 2000191 a0 ≤ (1 : Int); omega) zx_bnil), zx_cs0, (zx_eF1 (by show 0 ≤ (0 : Int) + (1 * a0 + 0); omega) (by show zk_xe w 2000191 ((0 : Int) + (1 * a0 + 0)) = (0 : Int) + (1 * (zk_xe w 2000191 a0) + 0); rw [show (0 : Int) + (1 * a0 + 0) = a0 by omega]; omega) zx_eF0), zx_k0⟩
def zx_D1236 : zx_L := zx_Lc [] 5 [(2000191, 0), (203, 1)] [] [((0, 0), [(0, 1, 0), (1, 0, 1), (2, 0, 4294967296), (3, 0, 18446744073709551616)]), ((0, 1), [(1, 0, 1), (3, 0, 18446744073709551616), (4, 1, 0)])] [((0, 0), [(1, 1, 0)]), ((4294967276, 0), [(1, 0, 1)]), ((0, 0), [(2, 1, 0)]), ((4294967276, 0), [(2, 0, 1)]), ((0, 0), [(3, 1, 0)]), ((4294967276, 0), [(3, 0, 1)]), ((0, 0), [(2, 1, 0), (6, 0, 1)])] [([(0, 1)], [((0, 0), [(5, 0, 1), (7, 1, 0)])], [(2000191, ((0, 0), [(4, 1, 0)]), ((0, 0), [(7, 1, 0)]))], [])]
theorem zx_D1236_ok {PT : Nat → zz_W → Prop} : zx_Lok 64 zHT PT zx_D1236 := by
  refine zx_Lc_ok (fun w hI hK ins hl hr he hg => ?_)
  obtain ⟨a0, a1, a2, a3, a4, rfl⟩ := zx_i5 hl
  have e0 : (0 : Int) + (1 * a0 + ((-1) * a1 + ((-4294967296) * a2 + ((-18446744073709551616) * a3 + 0)))) = 0 := he _ List.mem_cons_self
  have e1 : ((-1) : Int) + ((-1) * a1 + ((-18446744073709551616) * a3 + (1 * a4 + 0))) = 0 := he _ (List.mem_cons_of_mem _ List.mem_cons_self)
  have g0 : 0 ≤ (0 : Int) + (1 * a1 + 0) := hg _ List.mem_cons_self
  have g1 : 0 ≤ (4294967276 : Int) + ((-1) * a1 + 0) := hg _ (List.mem_cons_of_mem _ List.mem_cons_self)
  have g2 : 0 ≤ (0 : Int) + (1 * a2 + 0) := hg _ (List.mem_cons_of_mem _ (List.mem_cons_of_mem _ List.mem_cons_self))
  have g3 : 0 ≤ (4294967276 : Int) + ((-1) * a2 + 0) := hg _ (List.mem_cons_of_mem _ (List.mem_cons_of_mem _ (List.mem_cons_of_mem _ List.mem_cons_self)))
  have g4 : 0 ≤ (0 : Int) + (1 * a3 + 0) := hg _ (List.mem_cons_of_mem _ (List.mem_cons_of_mem _ (List.mem_cons_of_mem _ (List.mem_cons_of_mem _ List.mem_cons_self))))
  have g5 : 0 ≤ (4294967276 : Int) + ((-1) * a3 + 0) := hg _ (List.mem_cons_of_mem _ (List.mem_cons_of_mem _ (List.mem_cons_of_mem _ (List.mem_cons_of_mem _ (List.mem_cons_of_mem _ List.mem_cons_self)))))
  have g6 : 0 ≤ (0 : Int) + (1 * a2 + ((-1) * (zk_xe w 203 a1) + 0)) := hg _ (List.mem_cons_of_mem _ (List.mem_cons_of_mem _ (List.mem_cons_of_mem _ (List.mem_cons_of_mem _ (List.mem_cons_of_mem _ (List.mem_cons_of_mem _ List.mem_cons_self))))))
  have r0 : 0 ≤ a0 := hr _ List.mem_cons_self
  have r1 : 0 ≤ a1 := hr _ (List.mem_cons_of_mem _ List.mem_cons_self)
  have hb : 0 ≤ zk_xe w 2000191 a4 ∧ zk_xe w 2000191 a4 ≤ 1 := by
    rw [(zfo_191 (w := w) (j := a4) (u := (a1 + 1)) (k := 0) (n := a3) (by omega) (by omega) (by omega) (by omega) (by omega) (by omega) (by omega) )]
    exact zfo_b01
  have kE : zh_e w 203 (a1) = zk_xe w 203 a1 := by rw [zk_xe_r (i := 203) (by decide)]; show zk_el w 203 (a1) = zk_el w 203 a1; rw [show a1 = a1 by omega]
  have h : zk_xe w 2000191 a0 ≤ zk_xe w 2000191 a4 := by
    rw [(zfo_191 (w := w) (j := a0) (u := a1) (k := a2) (n := a3) (by omega) (by omega) (by omega) (by omega) (by omega) (by omega) (by omega) ), (zfo_191 (w := w) (j := a4) (u := (a1 + 1)) (k := 0) (n := a3) (by omega) (by omega) (by omega) (by omega) (by omega) (by omega) (by omega) )]
    refine zfo_bm (fun q v i v0 v1 i0 i1 i2 i3 => ?_)
    by_cases c : v = a1 + 1
    · have := i3 c
      omega
    · exact q v i v0 (by omega) i0 i1 i2 (fun e => by rw [e, kE] at i1; omega)
  exact ⟨_, List.mem_cons_self, [zk_xe w 2000191 a4], rfl, (zx_bcons (by show (0 : Int) ≤ zk_xe w 2000191 a4 ∧ zk_xe w 2000191 a4 ≤ (1 : Int); omega) zx_bnil), (zx_cs1 (by show 0 ≤ (0 : Int) + ((-1) * (zk_xe w 2000191 a0) + (1 * (zk_xe w 2000191 a4) + 0)); omega) zx_cs0), (zx_eF1 (by show 0 ≤ (0 : Int) + (1 * a4 + 0); omega) (by show zk_xe w 2000191 ((0 : Int) + (1 * a4 + 0)) = (0 : Int) + (1 * (zk_xe w 2000191 a4) + 0); rw [show (0 : Int) + (1 * a4 + 0) = a4 by omega]; omega) zx_eF0), zx_k0⟩
def zx_D1240 : zx_L := zx_Lc [] 4 [(2000172, 1), (2000190, 0), (2000191, 3)] [] [((0, 0), [(0, 0, 1), (1, 1, 0), (2, 0, 18446744073709551616)]), ((0, 1), [(4, 1, 0)]), ((0, 1), [(5, 1, 0)]), ((0, 0), [(0, 0, 18446744073709551617), (3, 1, 0)]), ((0, 1), [(6, 1, 0)])] [((0, 0), [(0, 1, 0)]), ((4294967276, 0), [(0, 0, 1)]), ((0, 0), [(2, 1, 0)]), ((4294967276, 0), [(2, 0, 1)])] [([], [], [(2000192, ((0, 0), [(0, 1, 0)]), ((1, 0), []))], [])]
theorem zx_D1240_ok {PT : Nat → zz_W → Prop} : zx_Lok 64 zHT PT zx_D1240 := by
  refine zx_Lc_ok (fun w hI hK ins hl hr he hg => ?_)
  obtain ⟨a0, a1, a2, a3, rfl⟩ := zx_i4 hl
  have e0 : (0 : Int) + ((-1) * a0 + (1 * a1 + ((-18446744073709551616) * a2 + 0))) = 0 := he _ List.mem_cons_self
  have e1 : ((-1) : Int) + (1 * (zk_xe w 2000172 a1) + 0) = 0 := he _ (List.mem_cons_of_mem _ List.mem_cons_self)
  have e2 : ((-1) : Int) + (1 * (zk_xe w 2000190 a0) + 0) = 0 := he _ (List.mem_cons_of_mem _ (List.mem_cons_of_mem _ List.mem_cons_self))
  have e3 : (0 : Int) + ((-18446744073709551617) * a0 + (1 * a3 + 0)) = 0 := he _ (List.mem_cons_of_mem _ (List.mem_cons_of_mem _ (List.mem_cons_of_mem _ List.mem_cons_self)))
  have e4 : ((-1) : Int) + (1 * (zk_xe w 2000191 a3) + 0) = 0 := he _ (List.mem_cons_of_mem _ (List.mem_cons_of_mem _ (List.mem_cons_of_mem _ (List.mem_cons_of_mem _ List.mem_cons_self))))
  have g0 : 0 ≤ (0 : Int) + (1 * a0 + 0) := hg _ List.mem_cons_self
  have g1 : 0 ≤ (4294967276 : Int) + ((-1) * a0 + 0) := hg _ (List.mem_cons_of_mem _ List.mem_cons_self)
  have g2 : 0 ≤ (0 : Int) + (1 * a2 + 0) := hg _ (List.mem_cons_of_mem _ (List.mem_cons_of_mem _ List.mem_cons_self))
  have g3 : 0 ≤ (4294967276 : Int) + ((-1) * a2 + 0) := hg _ (List.mem_cons_of_mem _ (List.mem_cons_of_mem _ (List.mem_cons_of_mem _ List.mem_cons_self)))
  have r0 : 0 ≤ a1 := hr _ List.mem_cons_self
  have r1 : 0 ≤ a0 := hr _ (List.mem_cons_of_mem _ List.mem_cons_self)
  have r2 : 0 ≤ a3 := hr _ (List.mem_cons_of_mem _ (List.mem_cons_of_mem _ List.mem_cons_self))
  have hp := (zj_n172 (w := w) (j := a1) (n := a0) (N := a2) (by omega) (by omega) (by omega) (by omega) (by omega) ).mp (by omega)
  have ha := zh_b1' (zfo_190.symm.trans (show zk_xe w 2000190 a0 = 1 by omega))
  have hm := zh_b1' ((zfo_191 (w := w) (j := a3) (u := a0) (k := 0) (n := a0) (by omega) (by omega) (by omega) (by omega) (by omega) (by omega) (by omega) ).symm.trans (show zk_xe w 2000191 a3 = 1 by omega))
  have h : zk_xe w 2000192 a0 = 1 := by
    refine zfo_192.mpr (fun u u0 u1 k k0 k1 k2 => ?_)
    have q := (hp u u0 u1 (ha u u0 u1)).1 k k0 k1 k2
    exact zfo_stm (fun x y z => zfo_rk u0 u1 hm z) q
  exact ⟨_, List.mem_cons_self, [], rfl, zx_bnil, zx_cs0, (zx_eF1 (by show 0 ≤ (0 : Int) + (1 * a0 + 0); omega) (by show zk_xe w 2000192 ((0 : Int) + (1 * a0 + 0)) = (1 : Int) + (0); rw [show (0 : Int) + (1 * a0 + 0) = a0 by omega]; exact h.trans (by omega)) zx_eF0), zx_k0⟩
end
