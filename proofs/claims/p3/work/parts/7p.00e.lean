/-! LAWS BY HAND, want lines that are read back -/
noncomputable section
/-- want lines that are read back (functions 156 to 160) -/
theorem zc_156 {w : zz_W} {j : Int} : zk_xe w 2000156 j = 1 ↔ zc_cw (zh_e w 263) j := by
  rw [show (2000156 : Nat) = 2000000 + 156 from rfl, zk_xe_h]
  exact ⟨zh_b1', zh_b1⟩
theorem zc_157 {w : zz_W} {j u l s : Int} (e : j = u + 4294967296 * l + 18446744073709551616 * s) (u0 : 0 ≤ u) (u1 : u < 4294967296) (l0 : 0 ≤ l) (l1 : l < 4294967296) (s0 : 0 ≤ s) (s1 : s < 4294967296) : zk_xe w 2000157 j = 1 ↔ zc_cl (zh_e w 263) (zh_e w 177) (zh_e w 261) (zh_e w 262) (40000 * u) l s := by
  obtain ⟨d0, d1, d2⟩ := zg_d3 (j := j) (n := u) (k := l) (u := s) (by omega) u0 u1 l0 l1 s0 s1
  rw [show (2000157 : Nat) = 2000000 + 157 from rfl, zk_xe_h]
  have h : zv_H 157 w j = zh_b (zc_cl (zh_e w 263) (zh_e w 177) (zh_e w 261) (zh_e w 262) (40000 * u) l s) := by
    show zh_b (zc_cl (zh_e w 263) (zh_e w 177) (zh_e w 261) (zh_e w 262) (40000 * zv_dg 0 j) (zv_dg 1 j) (zv_dg 2 j)) = _
    rw [d0, d1, d2]
  rw [h]
  exact ⟨zh_b1', zh_b1⟩
theorem zc_159 {w : zz_W} {j q s : Int} (e : j = q + 4294967296 * s) (q0 : 0 ≤ q) (q1 : q < 4294967296) (s0 : 0 ≤ s) (s1 : s < 4294967296) : zk_xe w 2000159 j = 1 ↔ s ≤ q ∨ ¬ zc_ws (zh_e w 263 q) := by
  obtain ⟨x0, y0, -⟩ := zm_z1 e q0 q1
  obtain ⟨x1, -, -⟩ := zm_z1 (j := s) (a := s) (b := 0) (by omega) s0 s1
  have h1 : zv_dg 1 j = s := (y0 0).trans x1
  rw [show (2000159 : Nat) = 2000000 + 159 from rfl, zk_xe_h]
  have h : zv_H 159 w j = zh_b (s ≤ q ∨ ¬ zc_ws (zh_e w 263 q)) := by
    show zh_b (zv_dg 1 j ≤ zv_dg 0 j ∨ ¬ zc_ws (zh_e w 263 (zv_dg 0 j))) = _
    rw [x0, h1]
  rw [h]
  exact ⟨zh_b1', zh_b1⟩
theorem zc_160x {w : zz_W} {j u x o n : Int} (e : j = u + 4294967296 * x + 18446744073709551616 * o + 79228162514264337593543950336 * n) (u0 : 0 ≤ u) (u1 : u < 4294967296) (x0 : 0 ≤ x) (x1 : x < 4294967296) (o0 : 0 ≤ o) (o1 : o < 4294967296) (n0 : 0 ≤ n) (n1 : n < 4294967296) : zk_xe w 2000160 j = zh_b (zc_rx (zh_e w 204) (zh_e w 205) (zh_e w 256) (zh_e w 257) u (zh_e w 203 u) x o n) := by
  obtain ⟨d0, d1, d2, d3⟩ := zg_d4 (j := j) (n := u) (k := x) (u := o) (l := n) (by omega) u0 u1 x0 x1 o0 o1 n0 n1
  rw [show (2000160 : Nat) = 2000000 + 160 from rfl, zk_xe_h]
  show zh_b (zc_rx (zh_e w 204) (zh_e w 205) (zh_e w 256) (zh_e w 257) (zv_dg 0 j) (zh_e w 203 (zv_dg 0 j)) (zv_dg 1 j) (zv_dg 2 j) (zv_dg 3 j)) = _
  rw [d0, d1, d2, d3]
theorem zc_160 {w : zz_W} {j u x o n : Int} (e : j = u + 4294967296 * x + 18446744073709551616 * o + 79228162514264337593543950336 * n) (u0 : 0 ≤ u) (u1 : u < 4294967296) (x0 : 0 ≤ x) (x1 : x < 4294967296) (o0 : 0 ≤ o) (o1 : o < 4294967296) (n0 : 0 ≤ n) (n1 : n < 4294967296) : zk_xe w 2000160 j = 1 ↔ zc_rx (zh_e w 204) (zh_e w 205) (zh_e w 256) (zh_e w 257) u (zh_e w 203 u) x o n := by
  rw [zc_160x e u0 u1 x0 x1 o0 o1 n0 n1]
  exact ⟨zh_b1', zh_b1⟩
theorem zc_160d {w : zz_W} {j : Int} : zk_xe w 2000160 j = 0 ∨ zk_xe w 2000160 j = 1 := by
  rw [show (2000160 : Nat) = 2000000 + 160 from rfl, zk_xe_h]
  show zh_b (zc_rx (zh_e w 204) (zh_e w 205) (zh_e w 256) (zh_e w 257) (zv_dg 0 j) (zh_e w 203 (zv_dg 0 j)) (zv_dg 1 j) (zv_dg 2 j) (zv_dg 3 j)) = 0 ∨ zh_b (zc_rx (zh_e w 204) (zh_e w 205) (zh_e w 256) (zh_e w 257) (zv_dg 0 j) (zh_e w 203 (zv_dg 0 j)) (zv_dg 1 j) (zv_dg 2 j) (zv_dg 3 j)) = 1
  by_cases h : zc_rx (zh_e w 204) (zh_e w 205) (zh_e w 256) (zh_e w 257) (zv_dg 0 j) (zh_e w 203 (zv_dg 0 j)) (zv_dg 1 j) (zv_dg 2 j) (zv_dg 3 j)
  · exact Or.inr (zh_b1 h)
  · exact Or.inl (zh_b0 h)
theorem zc_151 {w : zz_W} {j u q : Int} (e : j = u + 4294967296 * q) (u0 : 0 ≤ u) (u1 : u < 4294967296) (q0 : 0 ≤ q) (q1 : q < 4294967296) : zk_xe w 2000151 j = 1 ↔ zc_rd (zh_e w 204) (zh_e w 205) (zh_e w 256) (zh_e w 257) u (zh_e w 203 u) q := by
  obtain ⟨x0, y0, -⟩ := zm_z1 e u0 u1
  obtain ⟨x1, -, -⟩ := zm_z1 (j := q) (a := q) (b := 0) (by omega) q0 q1
  have h1 : zv_dg 1 j = q := (y0 0).trans x1
  rw [show (2000151 : Nat) = 2000000 + 151 from rfl, zk_xe_h]
  have h : zv_H 151 w j = zh_b (zc_rd (zh_e w 204) (zh_e w 205) (zh_e w 256) (zh_e w 257) u (zh_e w 203 u) q) := by
    show zh_b (zc_rd (zh_e w 204) (zh_e w 205) (zh_e w 256) (zh_e w 257) (zv_dg 0 j) (zh_e w 203 (zv_dg 0 j)) (zv_dg 1 j)) = _
    rw [x0, h1]
  rw [h]
  exact ⟨zh_b1', zh_b1⟩
/-- a want line, sign by sign -/
theorem zc_cwx {C : Int → Int} {a K m : Int} (m1 : 1 ≤ m) (m8 : m ≤ 8) (hk : zp_k m.toNat a) (q0 : 0 ≤ K) (q9 : K ≤ 9) (hx : ∀ i, 0 ≤ i → i < 8 + m → C i = zc_xs a K i m) : zc_cw C (8 + m) := by
  have s6 : ∀ i, 0 ≤ i → i < 6 → C i = (if i = 0 then 46 else if i = 1 then 119 else if i = 2 then 97 else if i = 3 then 110 else if i = 4 then 116 else 32) := fun i i0 i1 => by
    rw [hx i i0 (by omega)]
    unfold zc_xs
    rw [if_pos i1]
  refine ⟨by omega, by omega, ?_, ?_, ?_, ?_, ?_, ?_, fun i i0 i1 => ?_, ?_, ?_, ?_⟩
  · rw [s6 0 (by decide) (by decide)]
    decide
  · rw [s6 1 (by decide) (by decide)]
    decide
  · rw [s6 2 (by decide) (by decide)]
    decide
  · rw [s6 3 (by decide) (by decide)]
    decide
  · rw [s6 4 (by decide) (by decide)]
    decide
  · rw [s6 5 (by decide) (by decide)]
    decide
  · rw [hx (6 + i) (by omega) (by omega)]
    unfold zc_xs
    rw [if_neg (by omega), if_pos (by omega), show (6 + i - 6).toNat = i.toNat by omega]
    exact (zy_by hk i.toNat).1 (by omega)
  · rw [hx (8 + m - 2) (by omega) (by omega)]
    unfold zc_xs
    rw [if_neg (by omega), if_neg (by omega), if_pos (by omega)]
  · rw [hx (8 + m - 1) (by omega) (by omega)]
    unfold zc_xs
    rw [if_neg (by omega), if_neg (by omega), if_neg (by omega), if_pos (by omega)]
    omega
  · rw [hx (8 + m - 1) (by omega) (by omega)]
    unfold zc_xs
    rw [if_neg (by omega), if_neg (by omega), if_neg (by omega), if_pos (by omega)]
    omega
theorem zc_cwl {T A B O Q L E C : Int → Int} {b z n N o l s : Int} (z0 : 0 ≤ z) (o0 : 0 ≤ o) (n0 : 0 ≤ n) (hf : zc_fn T L E b z (z + 1) n) (hw : zc_wn T A B O Q z b N o) (hc : zc_cl C T L E b l s) (l0 : 0 ≤ l + o + 1 - n) (l1 : l ≤ n - 2) : zc_cw C s := by
  obtain ⟨-, hl⟩ := zc_fw z0 o0 n0 hf hw
  obtain ⟨-, m, ⟨-, ⟨m1, m8, -, hk⟩, q0, q9, ht⟩, he⟩ := hl (l + o + 1 - n) l0 (by omega)
  rw [show n - 1 - o + (l + o + 1 - n) = l by omega] at ht he
  obtain ⟨c1, c2⟩ := hc
  have es : s = 8 + m := by omega
  subst es
  exact zc_cwx m1 m8 hk q0 q9 (fun i i0 i1 => (c2 i i0 i1).trans (ht i i0 (by omega)))
theorem zc_pkx {C : Int → Int} {f : Int} : ∀ {m : Nat} {a : Int}, zp_k m a → (∀ i : Nat, i < m → C (f + (i : Int)) = a / 256 ^ i % 256) → zc_pk C f m = a
  | 0, a, h, _ => by
    have h : a = 0 := h
    rw [h]
    rfl
  | m + 1, a, h, hc => by
    obtain ⟨b, c, h1, h2, h3⟩ := h
    have hb1 := zp_kb h1
    have hP : ∀ k : Nat, (0 : Int) < 256 ^ k := fun k => Int.pow_pos (by decide)
    have q : zc_pk C f m = b := zc_pkx h1 (fun i hi => by
      rw [hc i (by omega)]
      have hk : (256 : Int) ^ m = 256 ^ i * (256 * 256 ^ (m - i - 1)) := by
        rw [← Int.mul_assoc, ← Int.pow_succ, ← Int.pow_add, show i + 1 + (m - i - 1) = m by omega]
      have e : a / 256 ^ i = b / 256 ^ i + 256 * (256 ^ (m - i - 1) * c) := by
        rw [h3, hk, show c * (256 ^ i * (256 * 256 ^ (m - i - 1))) = 256 ^ i * (256 * (256 ^ (m - i - 1) * c)) by
          rw [Int.mul_comm c, Int.mul_assoc, Int.mul_assoc], Int.add_mul_ediv_left _ _ (Int.ne_of_gt (hP i))]
      rw [e, Int.add_mul_emod_self_left])
    have r := hc m (by omega)
    rw [h3, Int.add_mul_ediv_right _ _ (Int.ne_of_gt (hP m)), Int.ediv_eq_zero_of_lt hb1.1 hb1.2, Int.zero_add] at r
    show zc_pk C f m + C (f + (m : Int)) * 256 ^ m = a
    unfold zp_ch at h2
    rw [q, r, h3, show c % 256 = c by omega]
theorem zc_rec {T A B O Q L E C M : Int → Int} {b z n N o l s v : Int} (z0 : 0 ≤ z) (o0 : 0 ≤ o) (n0 : 0 ≤ n) (hf : zc_fn T L E b z (z + 1) n) (hw : zc_wn T A B O Q z b N o) (hc : zc_cl C T L E b l s) (l0 : 0 ≤ l + o + 1 - n) (l1 : l ≤ n - 2) (hm : zs_nm A B M N) (v0 : 0 ≤ v) (v1 : v < N) (ha : A v = zc_pk C 6 (s - 8).toNat) (hb : B v = 0) : O (l + o + 1 - n) = v ∧ Q (l + o + 1 - n) = C (s - 1) - 48 := by
  obtain ⟨-, hl⟩ := zc_fw z0 o0 n0 hf hw
  obtain ⟨hN, m, ⟨hO, ⟨m1, m8, hB, hk⟩, q0, q9, ht⟩, he⟩ := hl (l + o + 1 - n) l0 (by omega)
  rw [show n - 1 - o + (l + o + 1 - n) = l by omega] at ht he
  obtain ⟨c1, c2⟩ := hc
  have es : s = 8 + m := by omega
  subst es
  have hx := fun i i0 i1 => (c2 i i0 i1).trans (ht i i0 (by omega))
  have hp : zc_pk C 6 m.toNat = A (O (l + o + 1 - n)) := zc_pkx hk (fun i hi => by
    rw [hx (6 + (i : Int)) (by omega) (by omega)]
    unfold zc_xs
    rw [if_neg (by omega), if_pos (by omega), show (6 + (i : Int) - 6).toNat = i by omega])
  rw [show 8 + m - 8 = m by omega, hp] at ha
  refine ⟨?_, ?_⟩
  · by_cases k1 : O (l + o + 1 - n) < v
    · exact (hm.2.1 _ _ hO k1 v1 ha.symm (hB.trans hb.symm)).elim
    · by_cases k2 : v < O (l + o + 1 - n)
      · exact (hm.2.1 _ _ v0 k2 hN ha (hb.trans hB.symm)).elim
      · omega
  · rw [hx (8 + m - 1) (by omega) (by omega)]
    unfold zc_xs
    rw [if_neg (by omega), if_neg (by omega), if_neg (by omega), if_pos (by omega)]
    omega
def zx_D1080 : zx_L := zx_Lc [] 6 [(2000148, 0), (261, 4), (262, 4)] [] [((0, 0), [(0, 1, 0), (1, 0, 1), (2, 0, 4294967296), (3, 0, 18446744073709551616)]), ((0, 1), [(6, 1, 0)]), ((0, 0), [(2, 0, 1), (7, 1, 0)]), ((0, 0), [(2, 0, 1), (3, 0, 1), (8, 1, 0)]), ((0, 0), [(1, 0, 1), (3, 0, 18446744073709551616), (4, 0, 4294967296), (5, 1, 0)])] [((0, 0), [(1, 1, 0)]), ((4294967276, 0), [(1, 0, 1)]), ((0, 0), [(2, 1, 0)]), ((4294967276, 0), [(2, 0, 1)]), ((0, 0), [(3, 1, 0)]), ((4294967276, 0), [(3, 0, 1)]), ((0, 0), [(4, 1, 0)]), ((4294967276, 0), [(4, 0, 1)])] [([], [], [(2000157, ((0, 0), [(5, 1, 0)]), ((1, 0), []))], [])]
theorem zx_D1080_ok {PT : Nat → zz_W → Prop} : zx_Lok 64 zHT PT zx_D1080 := by
  refine zx_Lc_ok (fun w hI hK ins hl hr he hg => ?_)
  obtain ⟨a0, a1, a2, a3, a4, a5, rfl⟩ := zx_i6 hl
  have e0 : (0 : Int) + (1 * a0 + ((-1) * a1 + ((-4294967296) * a2 + ((-18446744073709551616) * a3 + 0)))) = 0 := he _ List.mem_cons_self
  have e1 : ((-1) : Int) + (1 * (zk_xe w 2000148 a0) + 0) = 0 := he _ (List.mem_cons_of_mem _ List.mem_cons_self)
  have e2 : (0 : Int) + ((-1) * a2 + (1 * (zk_xe w 261 a4) + 0)) = 0 := he _ (List.mem_cons_of_mem _ (List.mem_cons_of_mem _ List.mem_cons_self))
  have e3 : (0 : Int) + ((-1) * a2 + ((-1) * a3 + (1 * (zk_xe w 262 a4) + 0))) = 0 := he _ (List.mem_cons_of_mem _ (List.mem_cons_of_mem _ (List.mem_cons_of_mem _ List.mem_cons_self)))
  have e4 : (0 : Int) + ((-1) * a1 + ((-18446744073709551616) * a3 + ((-4294967296) * a4 + (1 * a5 + 0)))) = 0 := he _ (List.mem_cons_of_mem _ (List.mem_cons_of_mem _ (List.mem_cons_of_mem _ (List.mem_cons_of_mem _ List.mem_cons_self))))
  have g0 : 0 ≤ (0 : Int) + (1 * a1 + 0) := hg _ List.mem_cons_self
  have g1 : 0 ≤ (4294967276 : Int) + ((-1) * a1 + 0) := hg _ (List.mem_cons_of_mem _ List.mem_cons_self)
  have g2 : 0 ≤ (0 : Int) + (1 * a2 + 0) := hg _ (List.mem_cons_of_mem _ (List.mem_cons_of_mem _ List.mem_cons_self))
  have g3 : 0 ≤ (4294967276 : Int) + ((-1) * a2 + 0) := hg _ (List.mem_cons_of_mem _ (List.mem_cons_of_mem _ (List.mem_cons_of_mem _ List.mem_cons_self)))
  have g4 : 0 ≤ (0 : Int) + (1 * a3 + 0) := hg _ (List.mem_cons_of_mem _ (List.mem_cons_of_mem _ (List.mem_cons_of_mem _ (List.mem_cons_of_mem _ List.mem_cons_self))))
  have g5 : 0 ≤ (4294967276 : Int) + ((-1) * a3 + 0) := hg _ (List.mem_cons_of_mem _ (List.mem_cons_of_mem _ (List.mem_cons_of_mem _ (List.mem_cons_of_mem _ (List.mem_cons_of_mem _ List.mem_cons_self)))))
  have g6 : 0 ≤ (0 : Int) + (1 * a4 + 0) := hg _ (List.mem_cons_of_mem _ (List.mem_cons_of_mem _ (List.mem_cons_of_mem _ (List.mem_cons_of_mem _ (List.mem_cons_of_mem _ (List.mem_cons_of_mem _ List.mem_cons_self))))))
  have g7 : 0 ≤ (4294967276 : Int) + ((-1) * a4 + 0) := hg _ (List.mem_cons_of_mem _ (List.mem_cons_of_mem _ (List.mem_cons_of_mem _ (List.mem_cons_of_mem _ (List.mem_cons_of_mem _ (List.mem_cons_of_mem _ (List.mem_cons_of_mem _ List.mem_cons_self)))))))
  have r0 : 0 ≤ a0 := hr _ List.mem_cons_self
  have r1 : 0 ≤ a4 := hr _ (List.mem_cons_of_mem _ List.mem_cons_self)
  have r2 : 0 ≤ a4 := hr _ (List.mem_cons_of_mem _ (List.mem_cons_of_mem _ List.mem_cons_self))
  have hp := (zc_148 (w := w) (j := a0) (u := a1) (f := a2) (n := a3) (by omega) (by omega) (by omega) (by omega) (by omega) (by omega) (by omega) ).mp (by omega)
  have k0 : zh_e w 261 (a4) = zk_xe w 261 a4 := by rw [zk_xe_r (i := 261) (by decide)]; show zk_el w 261 (a4) = zk_el w 261 a4; rw [show a4 = a4 by omega]
  have k1 : zh_e w 262 (a4) = zk_xe w 262 a4 := by rw [zk_xe_r (i := 262) (by decide)]; show zk_el w 262 (a4) = zk_el w 262 a4; rw [show a4 = a4 by omega]
  have h : zc_cl (zh_e w 263) (zh_e w 177) (zh_e w 261) (zh_e w 262) (40000 * a1) a4 a3 := ⟨by omega, fun i i0 i1 => by rw [k0, show zk_xe w 261 a4 = a2 by omega]; exact hp i i0 i1⟩
  exact ⟨_, List.mem_cons_self, [], rfl, zx_bnil, zx_cs0, (zx_eF1 (by show 0 ≤ (0 : Int) + (1 * a5 + 0); omega) (by show zk_xe w 2000157 ((0 : Int) + (1 * a5 + 0)) = (1 : Int) + (0); rw [show (0 : Int) + (1 * a5 + 0) = a5 by omega]; exact ((zc_157 (w := w) (j := a5) (u := a1) (l := a4) (s := a3) (by omega) (by omega) (by omega) (by omega) (by omega) (by omega) (by omega) ).mpr h).trans (by omega)) zx_eF0), zx_k0⟩
def zx_D1081 : zx_L := zx_Lc [] 10 [(2000157, 0), (2000146, 4), (2000153, 7), (178, 1)] [] [((0, 0), [(0, 1, 0), (1, 0, 1), (2, 0, 4294967296), (3, 0, 18446744073709551616)]), ((0, 1), [(10, 1, 0)]), ((0, 0), [(1, 0, 1), (4, 1, 0), (5, 0, 4294967296), (6, 0, 18446744073709551616)]), ((0, 1), [(11, 1, 0)]), ((0, 0), [(1, 0, 4294967296), (7, 1, 0), (8, 0, 1), (9, 0, 18446744073709551616)]), ((0, 1), [(12, 1, 0)]), ((0, 1), [(5, 1, 0), (13, 0, 1)])] [((0, 0), [(1, 1, 0)]), ((4294967276, 0), [(1, 0, 1)]), ((0, 0), [(2, 1, 0)]), ((4294967276, 0), [(2, 0, 1)]), ((0, 0), [(3, 1, 0)]), ((4294967276, 0), [(3, 0, 1)]), ((0, 0), [(5, 1, 0)]), ((4294967276, 0), [(5, 0, 1)]), ((0, 0), [(6, 1, 0)]), ((4294967276, 0), [(6, 0, 1)]), ((0, 0), [(8, 1, 0)]), ((4294967276, 0), [(8, 0, 1)]), ((0, 0), [(9, 1, 0)]), ((4294967276, 0), [(9, 0, 1)]), ((0, 0), [(13, 1, 0)]), ((1, 0), [(2, 1, 0), (6, 0, 1), (9, 1, 0)]), ((0, 2), [(2, 0, 1), (6, 1, 0)])] [([], [((0, 9), [(3, 1, 0)]), ((16, 0), [(3, 0, 1)])], [(2000156, ((0, 0), [(3, 1, 0)]), ((1, 0), []))], [])]
theorem zx_D1081_ok {PT : Nat → zz_W → Prop} : zx_Lok 64 zHT PT zx_D1081 := by
  refine zx_Lc_ok (fun w hI hK ins hl hr he hg => ?_)
  obtain ⟨a0, a1, a2, a3, a4, a5, a6, a7, a8, a9, rfl⟩ := zx_i10 hl
  have e0 : (0 : Int) + (1 * a0 + ((-1) * a1 + ((-4294967296) * a2 + ((-18446744073709551616) * a3 + 0)))) = 0 := he _ List.mem_cons_self
  have e1 : ((-1) : Int) + (1 * (zk_xe w 2000157 a0) + 0) = 0 := he _ (List.mem_cons_of_mem _ List.mem_cons_self)
  have e2 : (0 : Int) + ((-1) * a1 + (1 * a4 + ((-4294967296) * a5 + ((-18446744073709551616) * a6 + 0)))) = 0 := he _ (List.mem_cons_of_mem _ (List.mem_cons_of_mem _ List.mem_cons_self))
  have e3 : ((-1) : Int) + (1 * (zk_xe w 2000146 a4) + 0) = 0 := he _ (List.mem_cons_of_mem _ (List.mem_cons_of_mem _ (List.mem_cons_of_mem _ List.mem_cons_self)))
  have e4 : (0 : Int) + ((-4294967296) * a1 + (1 * a7 + ((-1) * a8 + ((-18446744073709551616) * a9 + 0)))) = 0 := he _ (List.mem_cons_of_mem _ (List.mem_cons_of_mem _ (List.mem_cons_of_mem _ (List.mem_cons_of_mem _ List.mem_cons_self))))
  have e5 : ((-1) : Int) + (1 * (zk_xe w 2000153 a7) + 0) = 0 := he _ (List.mem_cons_of_mem _ (List.mem_cons_of_mem _ (List.mem_cons_of_mem _ (List.mem_cons_of_mem _ (List.mem_cons_of_mem _ List.mem_cons_self)))))
  have e6 : ((-1) : Int) + (1 * a5 + ((-1) * (zk_xe w 178 a1) + 0)) = 0 := he _ (List.mem_cons_of_mem _ (List.mem_cons_of_mem _ (List.mem_cons_of_mem _ (List.mem_cons_of_mem _ (List.mem_cons_of_mem _ (List.mem_cons_of_mem _ List.mem_cons_self))))))
  have g0 : 0 ≤ (0 : Int) + (1 * a1 + 0) := hg _ List.mem_cons_self
  have g1 : 0 ≤ (4294967276 : Int) + ((-1) * a1 + 0) := hg _ (List.mem_cons_of_mem _ List.mem_cons_self)
  have g2 : 0 ≤ (0 : Int) + (1 * a2 + 0) := hg _ (List.mem_cons_of_mem _ (List.mem_cons_of_mem _ List.mem_cons_self))
  have g3 : 0 ≤ (4294967276 : Int) + ((-1) * a2 + 0) := hg _ (List.mem_cons_of_mem _ (List.mem_cons_of_mem _ (List.mem_cons_of_mem _ List.mem_cons_self)))
  have g4 : 0 ≤ (0 : Int) + (1 * a3 + 0) := hg _ (List.mem_cons_of_mem _ (List.mem_cons_of_mem _ (List.mem_cons_of_mem _ (List.mem_cons_of_mem _ List.mem_cons_self))))
  have g5 : 0 ≤ (4294967276 : Int) + ((-1) * a3 + 0) := hg _ (List.mem_cons_of_mem _ (List.mem_cons_of_mem _ (List.mem_cons_of_mem _ (List.mem_cons_of_mem _ (List.mem_cons_of_mem _ List.mem_cons_self)))))
  have g6 : 0 ≤ (0 : Int) + (1 * a5 + 0) := hg _ (List.mem_cons_of_mem _ (List.mem_cons_of_mem _ (List.mem_cons_of_mem _ (List.mem_cons_of_mem _ (List.mem_cons_of_mem _ (List.mem_cons_of_mem _ List.mem_cons_self))))))
  have g7 : 0 ≤ (4294967276 : Int) + ((-1) * a5 + 0) := hg _ (List.mem_cons_of_mem _ (List.mem_cons_of_mem _ (List.mem_cons_of_mem _ (List.mem_cons_of_mem _ (List.mem_cons_of_mem _ (List.mem_cons_of_mem _ (List.mem_cons_of_mem _ List.mem_cons_self)))))))
  have g8 : 0 ≤ (0 : Int) + (1 * a6 + 0) := hg _ (List.mem_cons_of_mem _ (List.mem_cons_of_mem _ (List.mem_cons_of_mem _ (List.mem_cons_of_mem _ (List.mem_cons_of_mem _ (List.mem_cons_of_mem _ (List.mem_cons_of_mem _ (List.mem_cons_of_mem _ List.mem_cons_self))))))))
  have g9 : 0 ≤ (4294967276 : Int) + ((-1) * a6 + 0) := hg _ (List.mem_cons_of_mem _ (List.mem_cons_of_mem _ (List.mem_cons_of_mem _ (List.mem_cons_of_mem _ (List.mem_cons_of_mem _ (List.mem_cons_of_mem _ (List.mem_cons_of_mem _ (List.mem_cons_of_mem _ (List.mem_cons_of_mem _ List.mem_cons_self)))))))))
  have g10 : 0 ≤ (0 : Int) + (1 * a8 + 0) := hg _ (List.mem_cons_of_mem _ (List.mem_cons_of_mem _ (List.mem_cons_of_mem _ (List.mem_cons_of_mem _ (List.mem_cons_of_mem _ (List.mem_cons_of_mem _ (List.mem_cons_of_mem _ (List.mem_cons_of_mem _ (List.mem_cons_of_mem _ (List.mem_cons_of_mem _ List.mem_cons_self))))))))))
  have g11 : 0 ≤ (4294967276 : Int) + ((-1) * a8 + 0) := hg _ (List.mem_cons_of_mem _ (List.mem_cons_of_mem _ (List.mem_cons_of_mem _ (List.mem_cons_of_mem _ (List.mem_cons_of_mem _ (List.mem_cons_of_mem _ (List.mem_cons_of_mem _ (List.mem_cons_of_mem _ (List.mem_cons_of_mem _ (List.mem_cons_of_mem _ (List.mem_cons_of_mem _ List.mem_cons_self)))))))))))
  have g12 : 0 ≤ (0 : Int) + (1 * a9 + 0) := hg _ (List.mem_cons_of_mem _ (List.mem_cons_of_mem _ (List.mem_cons_of_mem _ (List.mem_cons_of_mem _ (List.mem_cons_of_mem _ (List.mem_cons_of_mem _ (List.mem_cons_of_mem _ (List.mem_cons_of_mem _ (List.mem_cons_of_mem _ (List.mem_cons_of_mem _ (List.mem_cons_of_mem _ (List.mem_cons_of_mem _ List.mem_cons_self))))))))))))
  have g13 : 0 ≤ (4294967276 : Int) + ((-1) * a9 + 0) := hg _ (List.mem_cons_of_mem _ (List.mem_cons_of_mem _ (List.mem_cons_of_mem _ (List.mem_cons_of_mem _ (List.mem_cons_of_mem _ (List.mem_cons_of_mem _ (List.mem_cons_of_mem _ (List.mem_cons_of_mem _ (List.mem_cons_of_mem _ (List.mem_cons_of_mem _ (List.mem_cons_of_mem _ (List.mem_cons_of_mem _ (List.mem_cons_of_mem _ List.mem_cons_self)))))))))))))
  have g14 : 0 ≤ (0 : Int) + (1 * (zk_xe w 178 a1) + 0) := hg _ (List.mem_cons_of_mem _ (List.mem_cons_of_mem _ (List.mem_cons_of_mem _ (List.mem_cons_of_mem _ (List.mem_cons_of_mem _ (List.mem_cons_of_mem _ (List.mem_cons_of_mem _ (List.mem_cons_of_mem _ (List.mem_cons_of_mem _ (List.mem_cons_of_mem _ (List.mem_cons_of_mem _ (List.mem_cons_of_mem _ (List.mem_cons_of_mem _ (List.mem_cons_of_mem _ List.mem_cons_self))))))))))))))
  have g15 : 0 ≤ (1 : Int) + (1 * a2 + ((-1) * a6 + (1 * a9 + 0))) := hg _ (List.mem_cons_of_mem _ (List.mem_cons_of_mem _ (List.mem_cons_of_mem _ (List.mem_cons_of_mem _ (List.mem_cons_of_mem _ (List.mem_cons_of_mem _ (List.mem_cons_of_mem _ (List.mem_cons_of_mem _ (List.mem_cons_of_mem _ (List.mem_cons_of_mem _ (List.mem_cons_of_mem _ (List.mem_cons_of_mem _ (List.mem_cons_of_mem _ (List.mem_cons_of_mem _ (List.mem_cons_of_mem _ List.mem_cons_self)))))))))))))))
  have g16 : 0 ≤ ((-2) : Int) + ((-1) * a2 + (1 * a6 + 0)) := hg _ (List.mem_cons_of_mem _ (List.mem_cons_of_mem _ (List.mem_cons_of_mem _ (List.mem_cons_of_mem _ (List.mem_cons_of_mem _ (List.mem_cons_of_mem _ (List.mem_cons_of_mem _ (List.mem_cons_of_mem _ (List.mem_cons_of_mem _ (List.mem_cons_of_mem _ (List.mem_cons_of_mem _ (List.mem_cons_of_mem _ (List.mem_cons_of_mem _ (List.mem_cons_of_mem _ (List.mem_cons_of_mem _ (List.mem_cons_of_mem _ List.mem_cons_self))))))))))))))))
  have r0 : 0 ≤ a0 := hr _ List.mem_cons_self
  have r1 : 0 ≤ a4 := hr _ (List.mem_cons_of_mem _ List.mem_cons_self)
  have r2 : 0 ≤ a7 := hr _ (List.mem_cons_of_mem _ (List.mem_cons_of_mem _ List.mem_cons_self))
  have r3 : 0 ≤ a1 := hr _ (List.mem_cons_of_mem _ (List.mem_cons_of_mem _ (List.mem_cons_of_mem _ List.mem_cons_self)))
  have hp := (zc_157 (w := w) (j := a0) (u := a1) (l := a2) (s := a3) (by omega) (by omega) (by omega) (by omega) (by omega) (by omega) (by omega) ).mp (by omega)
  have hf := (zc_146 (w := w) (j := a4) (u := a1) (x := a5) (n := a6) (by omega) (by omega) (by omega) (by omega) (by omega) (by omega) (by omega) ).mp (by omega)
  have hw := (zc_153 (w := w) (j := a7) (N := a8) (u := a1) (o := a9) (by omega) (by omega) (by omega) (by omega) (by omega) (by omega) (by omega) ).mp (by omega)
  have kz : zh_e w 178 (a1) = zk_xe w 178 a1 := by rw [zk_xe_r (i := 178) (by decide)]; show zk_el w 178 (a1) = zk_el w 178 a1; rw [show a1 = a1 by omega]
  rw [kz] at hf hw
  rw [show a5 = zk_xe w 178 a1 + 1 by omega] at hf
  have h := zc_cwl (by omega) (by omega) (by omega) hf hw hp (by omega) (by omega)
  have h1 := h.1
  have h2 := h.2.1
  exact ⟨_, List.mem_cons_self, [], rfl, zx_bnil, (zx_cs1 (by show 0 ≤ ((-9) : Int) + (1 * a3 + 0); omega) (zx_cs1 (by show 0 ≤ (16 : Int) + ((-1) * a3 + 0); omega) zx_cs0)), (zx_eF1 (by show 0 ≤ (0 : Int) + (1 * a3 + 0); omega) (by show zk_xe w 2000156 ((0 : Int) + (1 * a3 + 0)) = (1 : Int) + (0); rw [show (0 : Int) + (1 * a3 + 0) = a3 by omega]; exact (zc_156.mpr h).trans (by omega)) zx_eF0), zx_k0⟩
def zx_D1082 : zx_L := zx_Lc [] 4 [(2000156, 0)] [] [((0, 1), [(4, 1, 0)]), ((0, 0), [(1, 1, 0)]), ((0, 5), [(2, 1, 0)]), ((0, 6), [(3, 1, 0)])] [((0, 0), [(0, 1, 0)]), ((4294967276, 0), [(0, 0, 1)])] [([(48, 57)], [], [(263, ((0, 0), [(1, 1, 0)]), ((46, 0), [])), (263, ((0, 0), [(2, 1, 0)]), ((32, 0), [])), (263, ((0, 0), [(3, 1, 0)]), ((0, 0), [(5, 1, 0)]))], []), ([(97, 122)], [], [(263, ((0, 0), [(1, 1, 0)]), ((46, 0), [])), (263, ((0, 0), [(2, 1, 0)]), ((32, 0), [])), (263, ((0, 0), [(3, 1, 0)]), ((0, 0), [(5, 1, 0)]))], [])]
theorem zx_D1082_ok {PT : Nat → zz_W → Prop} : zx_Lok 64 zHT PT zx_D1082 := by
  refine zx_Lc_ok (fun w hI hK ins hl hr he hg => ?_)
  obtain ⟨a0, a1, a2, a3, rfl⟩ := zx_i4 hl
  have e0 : ((-1) : Int) + (1 * (zk_xe w 2000156 a0) + 0) = 0 := he _ List.mem_cons_self
  have e1 : (0 : Int) + (1 * a1 + 0) = 0 := he _ (List.mem_cons_of_mem _ List.mem_cons_self)
  have e2 : ((-5) : Int) + (1 * a2 + 0) = 0 := he _ (List.mem_cons_of_mem _ (List.mem_cons_of_mem _ List.mem_cons_self))
  have e3 : ((-6) : Int) + (1 * a3 + 0) = 0 := he _ (List.mem_cons_of_mem _ (List.mem_cons_of_mem _ (List.mem_cons_of_mem _ List.mem_cons_self)))
  have g0 : 0 ≤ (0 : Int) + (1 * a0 + 0) := hg _ List.mem_cons_self
  have g1 : 0 ≤ (4294967276 : Int) + ((-1) * a0 + 0) := hg _ (List.mem_cons_of_mem _ List.mem_cons_self)
  have r0 : 0 ≤ a0 := hr _ List.mem_cons_self
  have hc := zc_156.mp (show zk_xe w 2000156 a0 = 1 by omega)
  obtain ⟨c0, c1, d0, d1, d2, d3, d4, d5, d6, d7, d8, d9⟩ := hc
  have k0 : zh_e w 263 (0) = zk_xe w 263 a1 := by rw [zk_xe_r (i := 263) (by decide)]; show zk_el w 263 (0) = zk_el w 263 a1; rw [show 0 = a1 by omega]
  have k1 : zh_e w 263 (5) = zk_xe w 263 a2 := by rw [zk_xe_r (i := 263) (by decide)]; show zk_el w 263 (5) = zk_el w 263 a2; rw [show 5 = a2 by omega]
  have h6 := d6 0 (by omega) (by omega)
  have k2 : zh_e w 263 (6 + 0) = zk_xe w 263 a3 := by rw [zk_xe_r (i := 263) (by decide)]; show zk_el w 263 (6 + 0) = zk_el w 263 a3; rw [show 6 + 0 = a3 by omega]
  rw [k2] at h6
  unfold zp_ch at h6
  rcases h6 with h6 | h6
  ·
    exact ⟨_, List.mem_cons_self, [zk_xe w 263 a3], rfl, (zx_bcons (by show (48 : Int) ≤ zk_xe w 263 a3 ∧ zk_xe w 263 a3 ≤ (57 : Int); omega) zx_bnil), zx_cs0, (zx_eF1 (by show 0 ≤ (0 : Int) + (1 * a1 + 0); omega) (by show zk_xe w 263 ((0 : Int) + (1 * a1 + 0)) = (46 : Int) + (0); rw [show (0 : Int) + (1 * a1 + 0) = a1 by omega]; omega) (zx_eF1 (by show 0 ≤ (0 : Int) + (1 * a2 + 0); omega) (by show zk_xe w 263 ((0 : Int) + (1 * a2 + 0)) = (32 : Int) + (0); rw [show (0 : Int) + (1 * a2 + 0) = a2 by omega]; omega) (zx_eF1 (by show 0 ≤ (0 : Int) + (1 * a3 + 0); omega) (by show zk_xe w 263 ((0 : Int) + (1 * a3 + 0)) = (0 : Int) + (1 * (zk_xe w 263 a3) + 0); rw [show (0 : Int) + (1 * a3 + 0) = a3 by omega]; omega) zx_eF0))), zx_k0⟩
  ·
    exact ⟨_, (List.mem_cons_of_mem _ List.mem_cons_self), [zk_xe w 263 a3], rfl, (zx_bcons (by show (97 : Int) ≤ zk_xe w 263 a3 ∧ zk_xe w 263 a3 ≤ (122 : Int); omega) zx_bnil), zx_cs0, (zx_eF1 (by show 0 ≤ (0 : Int) + (1 * a1 + 0); omega) (by show zk_xe w 263 ((0 : Int) + (1 * a1 + 0)) = (46 : Int) + (0); rw [show (0 : Int) + (1 * a1 + 0) = a1 by omega]; omega) (zx_eF1 (by show 0 ≤ (0 : Int) + (1 * a2 + 0); omega) (by show zk_xe w 263 ((0 : Int) + (1 * a2 + 0)) = (32 : Int) + (0); rw [show (0 : Int) + (1 * a2 + 0) = a2 by omega]; omega) (zx_eF1 (by show 0 ≤ (0 : Int) + (1 * a3 + 0); omega) (by show zk_xe w 263 ((0 : Int) + (1 * a3 + 0)) = (0 : Int) + (1 * (zk_xe w 263 a3) + 0); rw [show (0 : Int) + (1 * a3 + 0) = a3 by omega]; omega) zx_eF0))), zx_k0⟩
def zx_D1083 : zx_L := zx_Lc [] 4 [(2000156, 0)] [] [((0, 1), [(4, 1, 0)]), ((0, 6), [(1, 1, 0)]), ((2, 0), [(0, 0, 1), (2, 1, 0)]), ((1, 0), [(0, 0, 1), (3, 1, 0)])] [((0, 0), [(0, 1, 0)]), ((4294967276, 0), [(0, 0, 1)])] [([(48, 122), (48, 57)], [], [(263, ((0, 0), [(1, 1, 0)]), ((0, 0), [(5, 1, 0)])), (263, ((0, 0), [(2, 1, 0)]), ((44, 0), [])), (263, ((0, 0), [(3, 1, 0)]), ((0, 0), [(6, 1, 0)]))], [])]
theorem zx_D1083_ok {PT : Nat → zz_W → Prop} : zx_Lok 64 zHT PT zx_D1083 := by
  refine zx_Lc_ok (fun w hI hK ins hl hr he hg => ?_)
  obtain ⟨a0, a1, a2, a3, rfl⟩ := zx_i4 hl
  have e0 : ((-1) : Int) + (1 * (zk_xe w 2000156 a0) + 0) = 0 := he _ List.mem_cons_self
  have e1 : ((-6) : Int) + (1 * a1 + 0) = 0 := he _ (List.mem_cons_of_mem _ List.mem_cons_self)
  have e2 : (2 : Int) + ((-1) * a0 + (1 * a2 + 0)) = 0 := he _ (List.mem_cons_of_mem _ (List.mem_cons_of_mem _ List.mem_cons_self))
  have e3 : (1 : Int) + ((-1) * a0 + (1 * a3 + 0)) = 0 := he _ (List.mem_cons_of_mem _ (List.mem_cons_of_mem _ (List.mem_cons_of_mem _ List.mem_cons_self)))
  have g0 : 0 ≤ (0 : Int) + (1 * a0 + 0) := hg _ List.mem_cons_self
  have g1 : 0 ≤ (4294967276 : Int) + ((-1) * a0 + 0) := hg _ (List.mem_cons_of_mem _ List.mem_cons_self)
  have r0 : 0 ≤ a0 := hr _ List.mem_cons_self
  have hc := zc_156.mp (show zk_xe w 2000156 a0 = 1 by omega)
  obtain ⟨c0, c1, d0, d1, d2, d3, d4, d5, d6, d7, d8, d9⟩ := hc
  have k0 : zh_e w 263 (a0 - 2) = zk_xe w 263 a2 := by rw [zk_xe_r (i := 263) (by decide)]; show zk_el w 263 (a0 - 2) = zk_el w 263 a2; rw [show a0 - 2 = a2 by omega]
  have k1 : zh_e w 263 (a0 - 1) = zk_xe w 263 a3 := by rw [zk_xe_r (i := 263) (by decide)]; show zk_el w 263 (a0 - 1) = zk_el w 263 a3; rw [show a0 - 1 = a3 by omega]
  have h6 := d6 0 (by omega) (by omega)
  have k2 : zh_e w 263 (6 + 0) = zk_xe w 263 a1 := by rw [zk_xe_r (i := 263) (by decide)]; show zk_el w 263 (6 + 0) = zk_el w 263 a1; rw [show 6 + 0 = a1 by omega]
  rw [k2] at h6
  unfold zp_ch at h6
  exact ⟨_, List.mem_cons_self, [zk_xe w 263 a1, zk_xe w 263 a3], rfl, (zx_bcons (by show (48 : Int) ≤ zk_xe w 263 a1 ∧ zk_xe w 263 a1 ≤ (122 : Int); omega) (zx_bcons (by show (48 : Int) ≤ zk_xe w 263 a3 ∧ zk_xe w 263 a3 ≤ (57 : Int); omega) zx_bnil)), zx_cs0, (zx_eF1 (by show 0 ≤ (0 : Int) + (1 * a1 + 0); omega) (by show zk_xe w 263 ((0 : Int) + (1 * a1 + 0)) = (0 : Int) + (1 * (zk_xe w 263 a1) + 0); rw [show (0 : Int) + (1 * a1 + 0) = a1 by omega]; omega) (zx_eF1 (by show 0 ≤ (0 : Int) + (1 * a2 + 0); omega) (by show zk_xe w 263 ((0 : Int) + (1 * a2 + 0)) = (44 : Int) + (0); rw [show (0 : Int) + (1 * a2 + 0) = a2 by omega]; omega) (zx_eF1 (by show 0 ≤ (0 : Int) + (1 * a3 + 0); omega) (by show zk_xe w 263 ((0 : Int) + (1 * a3 + 0)) = (0 : Int) + (1 * (zk_xe w 263 a3) + 0); rw [show (0 : Int) + (1 * a3 + 0) = a3 by omega]; omega) zx_eF0))), zx_k0⟩
def zx_D1084 : zx_L := zx_Lc [] 4 [(2000149, 0), (2000156, 2), (2000159, 3)] [] [((0, 0), [(0, 1, 0), (1, 0, 4294967296)]), ((0, 1), [(4, 1, 0)]), ((0, 1), [(5, 1, 0)]), ((0, 0), [(1, 0, 1), (2, 0, 4294967296), (3, 1, 0)]), ((0, 1), [(6, 1, 0)])] [((0, 0), [(1, 1, 0)]), ((4294967276, 0), [(1, 0, 1)]), ((0, 0), [(2, 1, 0)]), ((4294967276, 0), [(2, 0, 1)]), ((0, 1), [(1, 1, 0)])] [([], [((0, 5), [(1, 1, 0)]), ((5, 0), [(1, 0, 1)])], [], [])]
theorem zx_D1084_ok {PT : Nat → zz_W → Prop} : zx_Lok 64 zHT PT zx_D1084 := by
  refine zx_Lc_ok (fun w hI hK ins hl hr he hg => ?_)
  obtain ⟨a0, a1, a2, a3, rfl⟩ := zx_i4 hl
  have e0 : (0 : Int) + (1 * a0 + ((-4294967296) * a1 + 0)) = 0 := he _ List.mem_cons_self
  have e1 : ((-1) : Int) + (1 * (zk_xe w 2000149 a0) + 0) = 0 := he _ (List.mem_cons_of_mem _ List.mem_cons_self)
  have e2 : ((-1) : Int) + (1 * (zk_xe w 2000156 a2) + 0) = 0 := he _ (List.mem_cons_of_mem _ (List.mem_cons_of_mem _ List.mem_cons_self))
  have e3 : (0 : Int) + ((-1) * a1 + ((-4294967296) * a2 + (1 * a3 + 0))) = 0 := he _ (List.mem_cons_of_mem _ (List.mem_cons_of_mem _ (List.mem_cons_of_mem _ List.mem_cons_self)))
  have e4 : ((-1) : Int) + (1 * (zk_xe w 2000159 a3) + 0) = 0 := he _ (List.mem_cons_of_mem _ (List.mem_cons_of_mem _ (List.mem_cons_of_mem _ (List.mem_cons_of_mem _ List.mem_cons_self))))
  have g0 : 0 ≤ (0 : Int) + (1 * a1 + 0) := hg _ List.mem_cons_self
  have g1 : 0 ≤ (4294967276 : Int) + ((-1) * a1 + 0) := hg _ (List.mem_cons_of_mem _ List.mem_cons_self)
  have g2 : 0 ≤ (0 : Int) + (1 * a2 + 0) := hg _ (List.mem_cons_of_mem _ (List.mem_cons_of_mem _ List.mem_cons_self))
  have g3 : 0 ≤ (4294967276 : Int) + ((-1) * a2 + 0) := hg _ (List.mem_cons_of_mem _ (List.mem_cons_of_mem _ (List.mem_cons_of_mem _ List.mem_cons_self)))
  have g4 : 0 ≤ ((-1) : Int) + (1 * a1 + 0) := hg _ (List.mem_cons_of_mem _ (List.mem_cons_of_mem _ (List.mem_cons_of_mem _ (List.mem_cons_of_mem _ List.mem_cons_self))))
  have r0 : 0 ≤ a0 := hr _ List.mem_cons_self
  have r1 : 0 ≤ a2 := hr _ (List.mem_cons_of_mem _ List.mem_cons_self)
  have r2 : 0 ≤ a3 := hr _ (List.mem_cons_of_mem _ (List.mem_cons_of_mem _ List.mem_cons_self))
  have hp := (zc_149 (w := w) (j := a0) (f := 0) (k := a1) (by omega) (by omega) (by omega) (by omega) (by omega) ).mp (by omega)
  have hc := zc_156.mp (show zk_xe w 2000156 a2 = 1 by omega)
  have he := (zc_159 (w := w) (j := a3) (q := a1) (s := a2) (by omega) (by omega) (by omega) (by omega) (by omega) ).mp (by omega)
  obtain ⟨c0, c1, d0, d1, d2, d3, d4, d5, d6, d7, d8, d9⟩ := hc
  have q5 : a1 = 5 := by
    by_cases c : 5 < a1
    · exfalso
      have r := hp 5 (by omega) c
      rw [show (0 : Int) + 5 = 5 by omega, d5] at r
      unfold zc_ws zp_ch at r
      omega
    · by_cases cc : a1 = 5
      · exact cc
      · exfalso
        rcases he with he | he
        · omega
        · apply he
          obtain c | c | c | c : a1 = 1 ∨ a1 = 2 ∨ a1 = 3 ∨ a1 = 4 := by omega
          · rw [c, d1]
            unfold zc_ws zp_ch
            omega
          · rw [c, d2]
            unfold zc_ws zp_ch
            omega
          · rw [c, d3]
            unfold zc_ws zp_ch
            omega
          · rw [c, d4]
            unfold zc_ws zp_ch
            omega
  exact ⟨_, List.mem_cons_self, [], rfl, zx_bnil, (zx_cs1 (by show 0 ≤ ((-5) : Int) + (1 * a1 + 0); omega) (zx_cs1 (by show 0 ≤ (5 : Int) + ((-1) * a1 + 0); omega) zx_cs0)), zx_eF0, zx_k0⟩
def zx_D1085 : zx_L := zx_Lc [] 4 [(2000150, 0), (2000156, 1), (2000082, 2), (2000083, 2), (2000084, 3)] [] [((0, 21474836480), [(0, 1, 0)]), ((0, 1), [(5, 1, 0)]), ((0, 0), [(4, 0, 1), (6, 1, 0)]), ((0, 0), [(7, 1, 0)]), ((0, 1), [(8, 1, 0)])] [((0, 0), [(1, 1, 0)]), ((4294967276, 0), [(1, 0, 1)]), ((0, 0), [(2, 1, 0)]), ((4294967276, 0), [(2, 0, 1)]), ((0, 0), [(3, 1, 0)]), ((4294967276, 0), [(3, 0, 1)]), ((0, 1), [(2, 0, 1), (3, 1, 0)]), ((0, 125), [(3, 1, 0)])] [([], [((0, 76), [(2, 1, 0)]), ((76, 0), [(2, 0, 1)])], [], [])]
theorem zx_D1085_ok {PT : Nat → zz_W → Prop} : zx_Lok 64 zHT PT zx_D1085 := by
  refine zx_Lc_ok (fun w hI hK ins hl hr he hg => ?_)
  obtain ⟨a0, a1, a2, a3, rfl⟩ := zx_i4 hl
  have e0 : ((-21474836480) : Int) + (1 * a0 + 0) = 0 := he _ List.mem_cons_self
  have e1 : ((-1) : Int) + (1 * (zk_xe w 2000156 a1) + 0) = 0 := he _ (List.mem_cons_of_mem _ List.mem_cons_self)
  have e2 : (0 : Int) + ((-1) * (zk_xe w 2000150 a0) + (1 * (zk_xe w 2000082 a2) + 0)) = 0 := he _ (List.mem_cons_of_mem _ (List.mem_cons_of_mem _ List.mem_cons_self))
  have e3 : (0 : Int) + (1 * (zk_xe w 2000083 a2) + 0) = 0 := he _ (List.mem_cons_of_mem _ (List.mem_cons_of_mem _ (List.mem_cons_of_mem _ List.mem_cons_self)))
  have e4 : ((-1) : Int) + (1 * (zk_xe w 2000084 a3) + 0) = 0 := he _ (List.mem_cons_of_mem _ (List.mem_cons_of_mem _ (List.mem_cons_of_mem _ (List.mem_cons_of_mem _ List.mem_cons_self))))
  have g0 : 0 ≤ (0 : Int) + (1 * a1 + 0) := hg _ List.mem_cons_self
  have g1 : 0 ≤ (4294967276 : Int) + ((-1) * a1 + 0) := hg _ (List.mem_cons_of_mem _ List.mem_cons_self)
  have g2 : 0 ≤ (0 : Int) + (1 * a2 + 0) := hg _ (List.mem_cons_of_mem _ (List.mem_cons_of_mem _ List.mem_cons_self))
  have g3 : 0 ≤ (4294967276 : Int) + ((-1) * a2 + 0) := hg _ (List.mem_cons_of_mem _ (List.mem_cons_of_mem _ (List.mem_cons_of_mem _ List.mem_cons_self)))
  have g4 : 0 ≤ (0 : Int) + (1 * a3 + 0) := hg _ (List.mem_cons_of_mem _ (List.mem_cons_of_mem _ (List.mem_cons_of_mem _ (List.mem_cons_of_mem _ List.mem_cons_self))))
  have g5 : 0 ≤ (4294967276 : Int) + ((-1) * a3 + 0) := hg _ (List.mem_cons_of_mem _ (List.mem_cons_of_mem _ (List.mem_cons_of_mem _ (List.mem_cons_of_mem _ (List.mem_cons_of_mem _ List.mem_cons_self)))))
  have g6 : 0 ≤ ((-1) : Int) + ((-1) * a2 + (1 * a3 + 0)) := hg _ (List.mem_cons_of_mem _ (List.mem_cons_of_mem _ (List.mem_cons_of_mem _ (List.mem_cons_of_mem _ (List.mem_cons_of_mem _ (List.mem_cons_of_mem _ List.mem_cons_self))))))
  have g7 : 0 ≤ ((-125) : Int) + (1 * a3 + 0) := hg _ (List.mem_cons_of_mem _ (List.mem_cons_of_mem _ (List.mem_cons_of_mem _ (List.mem_cons_of_mem _ (List.mem_cons_of_mem _ (List.mem_cons_of_mem _ (List.mem_cons_of_mem _ List.mem_cons_self)))))))
  have r0 : 0 ≤ a0 := hr _ List.mem_cons_self
  have r1 : 0 ≤ a1 := hr _ (List.mem_cons_of_mem _ List.mem_cons_self)
  have r2 : 0 ≤ a2 := hr _ (List.mem_cons_of_mem _ (List.mem_cons_of_mem _ List.mem_cons_self))
  have r3 : 0 ≤ a2 := hr _ (List.mem_cons_of_mem _ (List.mem_cons_of_mem _ (List.mem_cons_of_mem _ List.mem_cons_self)))
  have r4 : 0 ≤ a3 := hr _ (List.mem_cons_of_mem _ (List.mem_cons_of_mem _ (List.mem_cons_of_mem _ (List.mem_cons_of_mem _ List.mem_cons_self))))
  have hc := zc_156.mp (show zk_xe w 2000156 a1 = 1 by omega)
  obtain ⟨c0, c1, d0, d1, d2, d3, d4, d5, d6, d7, d8, d9⟩ := hc
  have hk := zc_150 (w := w) (j := a0) (f := 0) (k := 5) (by omega) (by omega) (by omega) (by omega) (by omega) 
  have v : zc_pk (zh_e w 263) 0 (5 : Int).toNat = 500068087598 := by
    show (0 : Int) + zh_e w 263 (0 + ((0 : Nat) : Int)) * 256 ^ 0 + zh_e w 263 (0 + ((1 : Nat) : Int)) * 256 ^ 1 + zh_e w 263 (0 + ((2 : Nat) : Int)) * 256 ^ 2 + zh_e w 263 (0 + ((3 : Nat) : Int)) * 256 ^ 3 + zh_e w 263 (0 + ((4 : Nat) : Int)) * 256 ^ 4 = _
    rw [show (0 : Int) + ((0 : Nat) : Int) = 0 by omega, show (0 : Int) + ((1 : Nat) : Int) = 1 by omega, show (0 : Int) + ((2 : Nat) : Int) = 2 by omega, show (0 : Int) + ((3 : Nat) : Int) = 3 by omega, show (0 : Int) + ((4 : Nat) : Int) = 4 by omega, d0, d1, d2, d3, d4]
    decide
  have hm := (zn_84' (w := w) (j := a3) (by omega) (by omega)).mp (by omega)
  have x1 := zn_82 (w := w) (i := a2) (j := a2) rfl
  have x2 := zn_83 (w := w) (i := a2) (j := a2) rfl
  have y1 := hm.2.2 76 (by omega) (by omega) (by omega)
  rw [show zn_KA.getD (76 : Int).toNat 0 = 500068087598 by decide, show zn_KB.getD (76 : Int).toNat 0 = 0 by decide] at y1
  have za : zn_l w 173 a2 = 500068087598 := by omega
  have zb : zn_l w 174 a2 = 0 := by omega
  have q : a2 = 76 := by
    by_cases k1 : a2 < 76
    · exact (hm.2.1 a2 76 (by omega) k1 (by omega) (za.trans y1.1.symm) (zb.trans y1.2.symm)).elim
    · by_cases k2 : 76 < a2
      · exact (hm.2.1 76 a2 (by omega) k2 (by omega) (y1.1.trans za.symm) (y1.2.trans zb.symm)).elim
      · omega
  clear hk
  exact ⟨_, List.mem_cons_self, [], rfl, zx_bnil, (zx_cs1 (by show 0 ≤ ((-76) : Int) + (1 * a2 + 0); omega) (zx_cs1 (by show 0 ≤ (76 : Int) + ((-1) * a2 + 0); omega) zx_cs0)), zx_eF0, zx_k0⟩
def zx_D1086 : zx_L := zx_Lc [] 4 [(2000149, 0), (2000156, 2), (2000159, 3)] [] [((0, 6), [(0, 1, 0), (1, 0, 4294967296)]), ((0, 1), [(4, 1, 0)]), ((0, 1), [(5, 1, 0)]), ((0, 6), [(1, 0, 1), (2, 0, 4294967296), (3, 1, 0)]), ((0, 1), [(6, 1, 0)])] [((0, 0), [(1, 1, 0)]), ((4294967276, 0), [(1, 0, 1)]), ((0, 0), [(2, 1, 0)]), ((4294967276, 0), [(2, 0, 1)]), ((0, 1), [(1, 1, 0)])] [([], [((8, 0), [(1, 1, 0), (2, 0, 1)]), ((0, 8), [(1, 0, 1), (2, 1, 0)])], [], [])]
theorem zx_D1086_ok {PT : Nat → zz_W → Prop} : zx_Lok 64 zHT PT zx_D1086 := by
  refine zx_Lc_ok (fun w hI hK ins hl hr he hg => ?_)
  obtain ⟨a0, a1, a2, a3, rfl⟩ := zx_i4 hl
  have e0 : ((-6) : Int) + (1 * a0 + ((-4294967296) * a1 + 0)) = 0 := he _ List.mem_cons_self
  have e1 : ((-1) : Int) + (1 * (zk_xe w 2000149 a0) + 0) = 0 := he _ (List.mem_cons_of_mem _ List.mem_cons_self)
  have e2 : ((-1) : Int) + (1 * (zk_xe w 2000156 a2) + 0) = 0 := he _ (List.mem_cons_of_mem _ (List.mem_cons_of_mem _ List.mem_cons_self))
  have e3 : ((-6) : Int) + ((-1) * a1 + ((-4294967296) * a2 + (1 * a3 + 0))) = 0 := he _ (List.mem_cons_of_mem _ (List.mem_cons_of_mem _ (List.mem_cons_of_mem _ List.mem_cons_self)))
  have e4 : ((-1) : Int) + (1 * (zk_xe w 2000159 a3) + 0) = 0 := he _ (List.mem_cons_of_mem _ (List.mem_cons_of_mem _ (List.mem_cons_of_mem _ (List.mem_cons_of_mem _ List.mem_cons_self))))
  have g0 : 0 ≤ (0 : Int) + (1 * a1 + 0) := hg _ List.mem_cons_self
  have g1 : 0 ≤ (4294967276 : Int) + ((-1) * a1 + 0) := hg _ (List.mem_cons_of_mem _ List.mem_cons_self)
  have g2 : 0 ≤ (0 : Int) + (1 * a2 + 0) := hg _ (List.mem_cons_of_mem _ (List.mem_cons_of_mem _ List.mem_cons_self))
  have g3 : 0 ≤ (4294967276 : Int) + ((-1) * a2 + 0) := hg _ (List.mem_cons_of_mem _ (List.mem_cons_of_mem _ (List.mem_cons_of_mem _ List.mem_cons_self)))
  have g4 : 0 ≤ ((-1) : Int) + (1 * a1 + 0) := hg _ (List.mem_cons_of_mem _ (List.mem_cons_of_mem _ (List.mem_cons_of_mem _ (List.mem_cons_of_mem _ List.mem_cons_self))))
  have r0 : 0 ≤ a0 := hr _ List.mem_cons_self
  have r1 : 0 ≤ a2 := hr _ (List.mem_cons_of_mem _ List.mem_cons_self)
  have r2 : 0 ≤ a3 := hr _ (List.mem_cons_of_mem _ (List.mem_cons_of_mem _ List.mem_cons_self))
  have hp := (zc_149 (w := w) (j := a0) (f := 6) (k := a1) (by omega) (by omega) (by omega) (by omega) (by omega) ).mp (by omega)
  have hc := zc_156.mp (show zk_xe w 2000156 a2 = 1 by omega)
  have he := (zc_159 (w := w) (j := a3) (q := (6 + a1)) (s := a2) (by omega) (by omega) (by omega) (by omega) (by omega) ).mp (by omega)
  obtain ⟨c0, c1, d0, d1, d2, d3, d4, d5, d6, d7, d8, d9⟩ := hc
  have q5 : a1 = a2 - 8 := by
    by_cases c : a2 - 8 < a1
    · exfalso
      have r := hp (a2 - 8) (by omega) c
      rw [show (6 : Int) + (a2 - 8) = a2 - 2 by omega, d7] at r
      unfold zc_ws zp_ch at r
      omega
    · by_cases cc : a1 = a2 - 8
      · exact cc
      · exfalso
        rcases he with he | he
        · omega
        · exact he (Or.inr (Or.inr (d6 a1 (by omega) (by omega))))
  exact ⟨_, List.mem_cons_self, [], rfl, zx_bnil, (zx_cs1 (by show 0 ≤ (8 : Int) + (1 * a1 + ((-1) * a2 + 0)); omega) (zx_cs1 (by show 0 ≤ ((-8) : Int) + ((-1) * a1 + (1 * a2 + 0)); omega) zx_cs0)), zx_eF0, zx_k0⟩
def zx_D1087 : zx_L := zx_Lc [] 14 [(2000157, 0), (2000146, 4), (2000153, 7), (178, 1), (2000150, 10), (2000082, 11), (2000083, 11), (2000084, 8), (263, 13)] [] [((0, 0), [(0, 1, 0), (1, 0, 1), (2, 0, 4294967296), (3, 0, 18446744073709551616)]), ((0, 1), [(14, 1, 0)]), ((0, 0), [(1, 0, 1), (4, 1, 0), (5, 0, 4294967296), (6, 0, 18446744073709551616)]), ((0, 1), [(15, 1, 0)]), ((0, 0), [(1, 0, 4294967296), (7, 1, 0), (8, 0, 1), (9, 0, 18446744073709551616)]), ((0, 1), [(16, 1, 0)]), ((0, 1), [(5, 1, 0), (17, 0, 1)]), ((34359738362, 0), [(3, 0, 4294967296), (10, 1, 0)]), ((0, 1), [(2, 0, 1), (6, 1, 0), (9, 0, 1), (12, 1, 0)]), ((1, 0), [(3, 0, 1), (13, 1, 0)]), ((0, 0), [(18, 0, 1), (19, 1, 0)]), ((0, 0), [(20, 1, 0)]), ((0, 1), [(21, 1, 0)])] [((0, 0), [(1, 1, 0)]), ((4294967276, 0), [(1, 0, 1)]), ((0, 0), [(2, 1, 0)]), ((4294967276, 0), [(2, 0, 1)]), ((0, 0), [(3, 1, 0)]), ((4294967276, 0), [(3, 0, 1)]), ((0, 0), [(5, 1, 0)]), ((4294967276, 0), [(5, 0, 1)]), ((0, 0), [(6, 1, 0)]), ((4294967276, 0), [(6, 0, 1)]), ((0, 0), [(8, 1, 0)]), ((4294967276, 0), [(8, 0, 1)]), ((0, 0), [(9, 1, 0)]), ((4294967276, 0), [(9, 0, 1)]), ((0, 0), [(17, 1, 0)]), ((1, 0), [(2, 1, 0), (6, 0, 1), (9, 1, 0)]), ((0, 2), [(2, 0, 1), (6, 1, 0)]), ((0, 0), [(11, 1, 0)]), ((0, 1), [(8, 1, 0), (11, 0, 1)]), ((0, 9), [(3, 1, 0)])] [([], [], [(256, ((0, 0), [(12, 1, 0)]), ((0, 0), [(11, 1, 0)])), (257, ((0, 0), [(12, 1, 0)]), ((0, 48), [(22, 1, 0)]))], [])]
theorem zx_D1087_ok {PT : Nat → zz_W → Prop} : zx_Lok 64 zHT PT zx_D1087 := by
  refine zx_Lc_ok (fun w hI hK ins hl hr he hg => ?_)
  obtain ⟨a0, a1, a2, a3, a4, a5, a6, a7, a8, a9, a10, a11, a12, a13, rfl⟩ := zx_i14 hl
  have e0 : (0 : Int) + (1 * a0 + ((-1) * a1 + ((-4294967296) * a2 + ((-18446744073709551616) * a3 + 0)))) = 0 := he _ List.mem_cons_self
  have e1 : ((-1) : Int) + (1 * (zk_xe w 2000157 a0) + 0) = 0 := he _ (List.mem_cons_of_mem _ List.mem_cons_self)
  have e2 : (0 : Int) + ((-1) * a1 + (1 * a4 + ((-4294967296) * a5 + ((-18446744073709551616) * a6 + 0)))) = 0 := he _ (List.mem_cons_of_mem _ (List.mem_cons_of_mem _ List.mem_cons_self))
  have e3 : ((-1) : Int) + (1 * (zk_xe w 2000146 a4) + 0) = 0 := he _ (List.mem_cons_of_mem _ (List.mem_cons_of_mem _ (List.mem_cons_of_mem _ List.mem_cons_self)))
  have e4 : (0 : Int) + ((-4294967296) * a1 + (1 * a7 + ((-1) * a8 + ((-18446744073709551616) * a9 + 0)))) = 0 := he _ (List.mem_cons_of_mem _ (List.mem_cons_of_mem _ (List.mem_cons_of_mem _ (List.mem_cons_of_mem _ List.mem_cons_self))))
  have e5 : ((-1) : Int) + (1 * (zk_xe w 2000153 a7) + 0) = 0 := he _ (List.mem_cons_of_mem _ (List.mem_cons_of_mem _ (List.mem_cons_of_mem _ (List.mem_cons_of_mem _ (List.mem_cons_of_mem _ List.mem_cons_self)))))
  have e6 : ((-1) : Int) + (1 * a5 + ((-1) * (zk_xe w 178 a1) + 0)) = 0 := he _ (List.mem_cons_of_mem _ (List.mem_cons_of_mem _ (List.mem_cons_of_mem _ (List.mem_cons_of_mem _ (List.mem_cons_of_mem _ (List.mem_cons_of_mem _ List.mem_cons_self))))))
  have e7 : (34359738362 : Int) + ((-4294967296) * a3 + (1 * a10 + 0)) = 0 := he _ (List.mem_cons_of_mem _ (List.mem_cons_of_mem _ (List.mem_cons_of_mem _ (List.mem_cons_of_mem _ (List.mem_cons_of_mem _ (List.mem_cons_of_mem _ (List.mem_cons_of_mem _ List.mem_cons_self)))))))
  have e8 : ((-1) : Int) + ((-1) * a2 + (1 * a6 + ((-1) * a9 + (1 * a12 + 0)))) = 0 := he _ (List.mem_cons_of_mem _ (List.mem_cons_of_mem _ (List.mem_cons_of_mem _ (List.mem_cons_of_mem _ (List.mem_cons_of_mem _ (List.mem_cons_of_mem _ (List.mem_cons_of_mem _ (List.mem_cons_of_mem _ List.mem_cons_self))))))))
  have e9 : (1 : Int) + ((-1) * a3 + (1 * a13 + 0)) = 0 := he _ (List.mem_cons_of_mem _ (List.mem_cons_of_mem _ (List.mem_cons_of_mem _ (List.mem_cons_of_mem _ (List.mem_cons_of_mem _ (List.mem_cons_of_mem _ (List.mem_cons_of_mem _ (List.mem_cons_of_mem _ (List.mem_cons_of_mem _ List.mem_cons_self)))))))))
  have e10 : (0 : Int) + ((-1) * (zk_xe w 2000150 a10) + (1 * (zk_xe w 2000082 a11) + 0)) = 0 := he _ (List.mem_cons_of_mem _ (List.mem_cons_of_mem _ (List.mem_cons_of_mem _ (List.mem_cons_of_mem _ (List.mem_cons_of_mem _ (List.mem_cons_of_mem _ (List.mem_cons_of_mem _ (List.mem_cons_of_mem _ (List.mem_cons_of_mem _ (List.mem_cons_of_mem _ List.mem_cons_self))))))))))
  have e11 : (0 : Int) + (1 * (zk_xe w 2000083 a11) + 0) = 0 := he _ (List.mem_cons_of_mem _ (List.mem_cons_of_mem _ (List.mem_cons_of_mem _ (List.mem_cons_of_mem _ (List.mem_cons_of_mem _ (List.mem_cons_of_mem _ (List.mem_cons_of_mem _ (List.mem_cons_of_mem _ (List.mem_cons_of_mem _ (List.mem_cons_of_mem _ (List.mem_cons_of_mem _ List.mem_cons_self)))))))))))
  have e12 : ((-1) : Int) + (1 * (zk_xe w 2000084 a8) + 0) = 0 := he _ (List.mem_cons_of_mem _ (List.mem_cons_of_mem _ (List.mem_cons_of_mem _ (List.mem_cons_of_mem _ (List.mem_cons_of_mem _ (List.mem_cons_of_mem _ (List.mem_cons_of_mem _ (List.mem_cons_of_mem _ (List.mem_cons_of_mem _ (List.mem_cons_of_mem _ (List.mem_cons_of_mem _ (List.mem_cons_of_mem _ List.mem_cons_self))))))))))))
  have g0 : 0 ≤ (0 : Int) + (1 * a1 + 0) := hg _ List.mem_cons_self
  have g1 : 0 ≤ (4294967276 : Int) + ((-1) * a1 + 0) := hg _ (List.mem_cons_of_mem _ List.mem_cons_self)
  have g2 : 0 ≤ (0 : Int) + (1 * a2 + 0) := hg _ (List.mem_cons_of_mem _ (List.mem_cons_of_mem _ List.mem_cons_self))
  have g3 : 0 ≤ (4294967276 : Int) + ((-1) * a2 + 0) := hg _ (List.mem_cons_of_mem _ (List.mem_cons_of_mem _ (List.mem_cons_of_mem _ List.mem_cons_self)))
  have g4 : 0 ≤ (0 : Int) + (1 * a3 + 0) := hg _ (List.mem_cons_of_mem _ (List.mem_cons_of_mem _ (List.mem_cons_of_mem _ (List.mem_cons_of_mem _ List.mem_cons_self))))
  have g5 : 0 ≤ (4294967276 : Int) + ((-1) * a3 + 0) := hg _ (List.mem_cons_of_mem _ (List.mem_cons_of_mem _ (List.mem_cons_of_mem _ (List.mem_cons_of_mem _ (List.mem_cons_of_mem _ List.mem_cons_self)))))
  have g6 : 0 ≤ (0 : Int) + (1 * a5 + 0) := hg _ (List.mem_cons_of_mem _ (List.mem_cons_of_mem _ (List.mem_cons_of_mem _ (List.mem_cons_of_mem _ (List.mem_cons_of_mem _ (List.mem_cons_of_mem _ List.mem_cons_self))))))
  have g7 : 0 ≤ (4294967276 : Int) + ((-1) * a5 + 0) := hg _ (List.mem_cons_of_mem _ (List.mem_cons_of_mem _ (List.mem_cons_of_mem _ (List.mem_cons_of_mem _ (List.mem_cons_of_mem _ (List.mem_cons_of_mem _ (List.mem_cons_of_mem _ List.mem_cons_self)))))))
  have g8 : 0 ≤ (0 : Int) + (1 * a6 + 0) := hg _ (List.mem_cons_of_mem _ (List.mem_cons_of_mem _ (List.mem_cons_of_mem _ (List.mem_cons_of_mem _ (List.mem_cons_of_mem _ (List.mem_cons_of_mem _ (List.mem_cons_of_mem _ (List.mem_cons_of_mem _ List.mem_cons_self))))))))
  have g9 : 0 ≤ (4294967276 : Int) + ((-1) * a6 + 0) := hg _ (List.mem_cons_of_mem _ (List.mem_cons_of_mem _ (List.mem_cons_of_mem _ (List.mem_cons_of_mem _ (List.mem_cons_of_mem _ (List.mem_cons_of_mem _ (List.mem_cons_of_mem _ (List.mem_cons_of_mem _ (List.mem_cons_of_mem _ List.mem_cons_self)))))))))
  have g10 : 0 ≤ (0 : Int) + (1 * a8 + 0) := hg _ (List.mem_cons_of_mem _ (List.mem_cons_of_mem _ (List.mem_cons_of_mem _ (List.mem_cons_of_mem _ (List.mem_cons_of_mem _ (List.mem_cons_of_mem _ (List.mem_cons_of_mem _ (List.mem_cons_of_mem _ (List.mem_cons_of_mem _ (List.mem_cons_of_mem _ List.mem_cons_self))))))))))
  have g11 : 0 ≤ (4294967276 : Int) + ((-1) * a8 + 0) := hg _ (List.mem_cons_of_mem _ (List.mem_cons_of_mem _ (List.mem_cons_of_mem _ (List.mem_cons_of_mem _ (List.mem_cons_of_mem _ (List.mem_cons_of_mem _ (List.mem_cons_of_mem _ (List.mem_cons_of_mem _ (List.mem_cons_of_mem _ (List.mem_cons_of_mem _ (List.mem_cons_of_mem _ List.mem_cons_self)))))))))))
  have g12 : 0 ≤ (0 : Int) + (1 * a9 + 0) := hg _ (List.mem_cons_of_mem _ (List.mem_cons_of_mem _ (List.mem_cons_of_mem _ (List.mem_cons_of_mem _ (List.mem_cons_of_mem _ (List.mem_cons_of_mem _ (List.mem_cons_of_mem _ (List.mem_cons_of_mem _ (List.mem_cons_of_mem _ (List.mem_cons_of_mem _ (List.mem_cons_of_mem _ (List.mem_cons_of_mem _ List.mem_cons_self))))))))))))
  have g13 : 0 ≤ (4294967276 : Int) + ((-1) * a9 + 0) := hg _ (List.mem_cons_of_mem _ (List.mem_cons_of_mem _ (List.mem_cons_of_mem _ (List.mem_cons_of_mem _ (List.mem_cons_of_mem _ (List.mem_cons_of_mem _ (List.mem_cons_of_mem _ (List.mem_cons_of_mem _ (List.mem_cons_of_mem _ (List.mem_cons_of_mem _ (List.mem_cons_of_mem _ (List.mem_cons_of_mem _ (List.mem_cons_of_mem _ List.mem_cons_self)))))))))))))
  have g14 : 0 ≤ (0 : Int) + (1 * (zk_xe w 178 a1) + 0) := hg _ (List.mem_cons_of_mem _ (List.mem_cons_of_mem _ (List.mem_cons_of_mem _ (List.mem_cons_of_mem _ (List.mem_cons_of_mem _ (List.mem_cons_of_mem _ (List.mem_cons_of_mem _ (List.mem_cons_of_mem _ (List.mem_cons_of_mem _ (List.mem_cons_of_mem _ (List.mem_cons_of_mem _ (List.mem_cons_of_mem _ (List.mem_cons_of_mem _ (List.mem_cons_of_mem _ List.mem_cons_self))))))))))))))
  have g15 : 0 ≤ (1 : Int) + (1 * a2 + ((-1) * a6 + (1 * a9 + 0))) := hg _ (List.mem_cons_of_mem _ (List.mem_cons_of_mem _ (List.mem_cons_of_mem _ (List.mem_cons_of_mem _ (List.mem_cons_of_mem _ (List.mem_cons_of_mem _ (List.mem_cons_of_mem _ (List.mem_cons_of_mem _ (List.mem_cons_of_mem _ (List.mem_cons_of_mem _ (List.mem_cons_of_mem _ (List.mem_cons_of_mem _ (List.mem_cons_of_mem _ (List.mem_cons_of_mem _ (List.mem_cons_of_mem _ List.mem_cons_self)))))))))))))))
  have g16 : 0 ≤ ((-2) : Int) + ((-1) * a2 + (1 * a6 + 0)) := hg _ (List.mem_cons_of_mem _ (List.mem_cons_of_mem _ (List.mem_cons_of_mem _ (List.mem_cons_of_mem _ (List.mem_cons_of_mem _ (List.mem_cons_of_mem _ (List.mem_cons_of_mem _ (List.mem_cons_of_mem _ (List.mem_cons_of_mem _ (List.mem_cons_of_mem _ (List.mem_cons_of_mem _ (List.mem_cons_of_mem _ (List.mem_cons_of_mem _ (List.mem_cons_of_mem _ (List.mem_cons_of_mem _ (List.mem_cons_of_mem _ List.mem_cons_self))))))))))))))))
  have g17 : 0 ≤ (0 : Int) + (1 * a11 + 0) := hg _ (List.mem_cons_of_mem _ (List.mem_cons_of_mem _ (List.mem_cons_of_mem _ (List.mem_cons_of_mem _ (List.mem_cons_of_mem _ (List.mem_cons_of_mem _ (List.mem_cons_of_mem _ (List.mem_cons_of_mem _ (List.mem_cons_of_mem _ (List.mem_cons_of_mem _ (List.mem_cons_of_mem _ (List.mem_cons_of_mem _ (List.mem_cons_of_mem _ (List.mem_cons_of_mem _ (List.mem_cons_of_mem _ (List.mem_cons_of_mem _ (List.mem_cons_of_mem _ List.mem_cons_self)))))))))))))))))
  have g18 : 0 ≤ ((-1) : Int) + (1 * a8 + ((-1) * a11 + 0)) := hg _ (List.mem_cons_of_mem _ (List.mem_cons_of_mem _ (List.mem_cons_of_mem _ (List.mem_cons_of_mem _ (List.mem_cons_of_mem _ (List.mem_cons_of_mem _ (List.mem_cons_of_mem _ (List.mem_cons_of_mem _ (List.mem_cons_of_mem _ (List.mem_cons_of_mem _ (List.mem_cons_of_mem _ (List.mem_cons_of_mem _ (List.mem_cons_of_mem _ (List.mem_cons_of_mem _ (List.mem_cons_of_mem _ (List.mem_cons_of_mem _ (List.mem_cons_of_mem _ (List.mem_cons_of_mem _ List.mem_cons_self))))))))))))))))))
  have g19 : 0 ≤ ((-9) : Int) + (1 * a3 + 0) := hg _ (List.mem_cons_of_mem _ (List.mem_cons_of_mem _ (List.mem_cons_of_mem _ (List.mem_cons_of_mem _ (List.mem_cons_of_mem _ (List.mem_cons_of_mem _ (List.mem_cons_of_mem _ (List.mem_cons_of_mem _ (List.mem_cons_of_mem _ (List.mem_cons_of_mem _ (List.mem_cons_of_mem _ (List.mem_cons_of_mem _ (List.mem_cons_of_mem _ (List.mem_cons_of_mem _ (List.mem_cons_of_mem _ (List.mem_cons_of_mem _ (List.mem_cons_of_mem _ (List.mem_cons_of_mem _ (List.mem_cons_of_mem _ List.mem_cons_self)))))))))))))))))))
  have r0 : 0 ≤ a0 := hr _ List.mem_cons_self
  have r1 : 0 ≤ a4 := hr _ (List.mem_cons_of_mem _ List.mem_cons_self)
  have r2 : 0 ≤ a7 := hr _ (List.mem_cons_of_mem _ (List.mem_cons_of_mem _ List.mem_cons_self))
  have r3 : 0 ≤ a1 := hr _ (List.mem_cons_of_mem _ (List.mem_cons_of_mem _ (List.mem_cons_of_mem _ List.mem_cons_self)))
  have r4 : 0 ≤ a10 := hr _ (List.mem_cons_of_mem _ (List.mem_cons_of_mem _ (List.mem_cons_of_mem _ (List.mem_cons_of_mem _ List.mem_cons_self))))
  have r5 : 0 ≤ a11 := hr _ (List.mem_cons_of_mem _ (List.mem_cons_of_mem _ (List.mem_cons_of_mem _ (List.mem_cons_of_mem _ (List.mem_cons_of_mem _ List.mem_cons_self)))))
  have r6 : 0 ≤ a11 := hr _ (List.mem_cons_of_mem _ (List.mem_cons_of_mem _ (List.mem_cons_of_mem _ (List.mem_cons_of_mem _ (List.mem_cons_of_mem _ (List.mem_cons_of_mem _ List.mem_cons_self))))))
  have r7 : 0 ≤ a8 := hr _ (List.mem_cons_of_mem _ (List.mem_cons_of_mem _ (List.mem_cons_of_mem _ (List.mem_cons_of_mem _ (List.mem_cons_of_mem _ (List.mem_cons_of_mem _ (List.mem_cons_of_mem _ List.mem_cons_self)))))))
  have r8 : 0 ≤ a13 := hr _ (List.mem_cons_of_mem _ (List.mem_cons_of_mem _ (List.mem_cons_of_mem _ (List.mem_cons_of_mem _ (List.mem_cons_of_mem _ (List.mem_cons_of_mem _ (List.mem_cons_of_mem _ (List.mem_cons_of_mem _ List.mem_cons_self))))))))
  have hp := (zc_157 (w := w) (j := a0) (u := a1) (l := a2) (s := a3) (by omega) (by omega) (by omega) (by omega) (by omega) (by omega) (by omega) ).mp (by omega)
  have hf := (zc_146 (w := w) (j := a4) (u := a1) (x := a5) (n := a6) (by omega) (by omega) (by omega) (by omega) (by omega) (by omega) (by omega) ).mp (by omega)
  have hw := (zc_153 (w := w) (j := a7) (N := a8) (u := a1) (o := a9) (by omega) (by omega) (by omega) (by omega) (by omega) (by omega) (by omega) ).mp (by omega)
  have kz : zh_e w 178 (a1) = zk_xe w 178 a1 := by rw [zk_xe_r (i := 178) (by decide)]; show zk_el w 178 (a1) = zk_el w 178 a1; rw [show a1 = a1 by omega]
  rw [kz] at hf hw
  rw [show a5 = zk_xe w 178 a1 + 1 by omega] at hf
  have hm := (zn_84' (w := w) (j := a8) (by omega) (by omega)).mp (by omega)
  have x1 := zn_82 (w := w) (i := a11) (j := a11) rfl
  have x2 := zn_83 (w := w) (i := a11) (j := a11) rfl
  have hk := zc_150 (w := w) (j := a10) (f := 6) (k := (a3 - 8)) (by omega) (by omega) (by omega) (by omega) (by omega) 
  have k0 : zh_e w 263 (a3 - 1) = zk_xe w 263 a13 := by rw [zk_xe_r (i := 263) (by decide)]; show zk_el w 263 (a3 - 1) = zk_el w 263 a13; rw [show a3 - 1 = a13 by omega]
  have k1 : zh_e w 256 (a2 + a9 + 1 - a6) = zk_xe w 256 a12 := by rw [zk_xe_r (i := 256) (by decide)]; show zk_el w 256 (a2 + a9 + 1 - a6) = zk_el w 256 a12; rw [show a2 + a9 + 1 - a6 = a12 by omega]
  have k2 : zh_e w 257 (a2 + a9 + 1 - a6) = zk_xe w 257 a12 := by rw [zk_xe_r (i := 257) (by decide)]; show zk_el w 257 (a2 + a9 + 1 - a6) = zk_el w 257 a12; rw [show a2 + a9 + 1 - a6 = a12 by omega]
  have h := zc_rec (v := a11) (by omega) (by omega) (by omega) hf hw hp (by omega) (by omega) hm (by omega) (by omega) (by rw [← hk]; omega) (by omega)
  rw [k0, k1, k2] at h
  have h1 := h.1
  have h2 := h.2
  exact ⟨_, List.mem_cons_self, [], rfl, zx_bnil, zx_cs0, (zx_eF1 (by show 0 ≤ (0 : Int) + (1 * a12 + 0); omega) (by show zk_xe w 256 ((0 : Int) + (1 * a12 + 0)) = (0 : Int) + (1 * a11 + 0); rw [show (0 : Int) + (1 * a12 + 0) = a12 by omega]; omega) (zx_eF1 (by show 0 ≤ (0 : Int) + (1 * a12 + 0); omega) (by show zk_xe w 257 ((0 : Int) + (1 * a12 + 0)) = ((-48) : Int) + (1 * (zk_xe w 263 a13) + 0); rw [show (0 : Int) + (1 * a12 + 0) = a12 by omega]; omega) zx_eF0)), zx_k0⟩
def zx_D1088 : zx_L := zx_Lc [] 7 [(2000146, 0), (2000153, 4), (178, 1)] [] [((0, 0), [(0, 1, 0), (1, 0, 1), (2, 0, 4294967296), (3, 0, 18446744073709551616)]), ((0, 1), [(7, 1, 0)]), ((0, 0), [(1, 0, 4294967296), (4, 1, 0), (5, 0, 1), (6, 0, 18446744073709551616)]), ((0, 1), [(8, 1, 0)]), ((0, 1), [(2, 1, 0), (9, 0, 1)])] [((0, 0), [(1, 1, 0)]), ((4294967276, 0), [(1, 0, 1)]), ((0, 0), [(2, 1, 0)]), ((4294967276, 0), [(2, 0, 1)]), ((0, 0), [(3, 1, 0)]), ((4294967276, 0), [(3, 0, 1)]), ((0, 0), [(5, 1, 0)]), ((4294967276, 0), [(5, 0, 1)]), ((0, 0), [(6, 1, 0)]), ((4294967276, 0), [(6, 0, 1)]), ((0, 0), [(9, 1, 0)])] [([], [((0, 1), [(3, 1, 0), (6, 0, 1)])], [], [])]
theorem zx_D1088_ok {PT : Nat → zz_W → Prop} : zx_Lok 64 zHT PT zx_D1088 := by
  refine zx_Lc_ok (fun w hI hK ins hl hr he hg => ?_)
  obtain ⟨a0, a1, a2, a3, a4, a5, a6, rfl⟩ := zx_i7 hl
  have e0 : (0 : Int) + (1 * a0 + ((-1) * a1 + ((-4294967296) * a2 + ((-18446744073709551616) * a3 + 0)))) = 0 := he _ List.mem_cons_self
  have e1 : ((-1) : Int) + (1 * (zk_xe w 2000146 a0) + 0) = 0 := he _ (List.mem_cons_of_mem _ List.mem_cons_self)
  have e2 : (0 : Int) + ((-4294967296) * a1 + (1 * a4 + ((-1) * a5 + ((-18446744073709551616) * a6 + 0)))) = 0 := he _ (List.mem_cons_of_mem _ (List.mem_cons_of_mem _ List.mem_cons_self))
  have e3 : ((-1) : Int) + (1 * (zk_xe w 2000153 a4) + 0) = 0 := he _ (List.mem_cons_of_mem _ (List.mem_cons_of_mem _ (List.mem_cons_of_mem _ List.mem_cons_self)))
  have e4 : ((-1) : Int) + (1 * a2 + ((-1) * (zk_xe w 178 a1) + 0)) = 0 := he _ (List.mem_cons_of_mem _ (List.mem_cons_of_mem _ (List.mem_cons_of_mem _ (List.mem_cons_of_mem _ List.mem_cons_self))))
  have g0 : 0 ≤ (0 : Int) + (1 * a1 + 0) := hg _ List.mem_cons_self
  have g1 : 0 ≤ (4294967276 : Int) + ((-1) * a1 + 0) := hg _ (List.mem_cons_of_mem _ List.mem_cons_self)
  have g2 : 0 ≤ (0 : Int) + (1 * a2 + 0) := hg _ (List.mem_cons_of_mem _ (List.mem_cons_of_mem _ List.mem_cons_self))
  have g3 : 0 ≤ (4294967276 : Int) + ((-1) * a2 + 0) := hg _ (List.mem_cons_of_mem _ (List.mem_cons_of_mem _ (List.mem_cons_of_mem _ List.mem_cons_self)))
  have g4 : 0 ≤ (0 : Int) + (1 * a3 + 0) := hg _ (List.mem_cons_of_mem _ (List.mem_cons_of_mem _ (List.mem_cons_of_mem _ (List.mem_cons_of_mem _ List.mem_cons_self))))
  have g5 : 0 ≤ (4294967276 : Int) + ((-1) * a3 + 0) := hg _ (List.mem_cons_of_mem _ (List.mem_cons_of_mem _ (List.mem_cons_of_mem _ (List.mem_cons_of_mem _ (List.mem_cons_of_mem _ List.mem_cons_self)))))
  have g6 : 0 ≤ (0 : Int) + (1 * a5 + 0) := hg _ (List.mem_cons_of_mem _ (List.mem_cons_of_mem _ (List.mem_cons_of_mem _ (List.mem_cons_of_mem _ (List.mem_cons_of_mem _ (List.mem_cons_of_mem _ List.mem_cons_self))))))
  have g7 : 0 ≤ (4294967276 : Int) + ((-1) * a5 + 0) := hg _ (List.mem_cons_of_mem _ (List.mem_cons_of_mem _ (List.mem_cons_of_mem _ (List.mem_cons_of_mem _ (List.mem_cons_of_mem _ (List.mem_cons_of_mem _ (List.mem_cons_of_mem _ List.mem_cons_self)))))))
  have g8 : 0 ≤ (0 : Int) + (1 * a6 + 0) := hg _ (List.mem_cons_of_mem _ (List.mem_cons_of_mem _ (List.mem_cons_of_mem _ (List.mem_cons_of_mem _ (List.mem_cons_of_mem _ (List.mem_cons_of_mem _ (List.mem_cons_of_mem _ (List.mem_cons_of_mem _ List.mem_cons_self))))))))
  have g9 : 0 ≤ (4294967276 : Int) + ((-1) * a6 + 0) := hg _ (List.mem_cons_of_mem _ (List.mem_cons_of_mem _ (List.mem_cons_of_mem _ (List.mem_cons_of_mem _ (List.mem_cons_of_mem _ (List.mem_cons_of_mem _ (List.mem_cons_of_mem _ (List.mem_cons_of_mem _ (List.mem_cons_of_mem _ List.mem_cons_self)))))))))
  have g10 : 0 ≤ (0 : Int) + (1 * (zk_xe w 178 a1) + 0) := hg _ (List.mem_cons_of_mem _ (List.mem_cons_of_mem _ (List.mem_cons_of_mem _ (List.mem_cons_of_mem _ (List.mem_cons_of_mem _ (List.mem_cons_of_mem _ (List.mem_cons_of_mem _ (List.mem_cons_of_mem _ (List.mem_cons_of_mem _ (List.mem_cons_of_mem _ List.mem_cons_self))))))))))
  have r0 : 0 ≤ a0 := hr _ List.mem_cons_self
  have r1 : 0 ≤ a4 := hr _ (List.mem_cons_of_mem _ List.mem_cons_self)
  have r2 : 0 ≤ a1 := hr _ (List.mem_cons_of_mem _ (List.mem_cons_of_mem _ List.mem_cons_self))
  have hf := (zc_146 (w := w) (j := a0) (u := a1) (x := a2) (n := a3) (by omega) (by omega) (by omega) (by omega) (by omega) (by omega) (by omega) ).mp (by omega)
  have hw := (zc_153 (w := w) (j := a4) (N := a5) (u := a1) (o := a6) (by omega) (by omega) (by omega) (by omega) (by omega) (by omega) (by omega) ).mp (by omega)
  have kz : zh_e w 178 (a1) = zk_xe w 178 a1 := by rw [zk_xe_r (i := 178) (by decide)]; show zk_el w 178 (a1) = zk_el w 178 a1; rw [show a1 = a1 by omega]
  rw [kz] at hf hw
  rw [show a2 = zk_xe w 178 a1 + 1 by omega] at hf
  have h := (zc_fw (by omega) (by omega) (by omega) hf hw).1
  exact ⟨_, List.mem_cons_self, [], rfl, zx_bnil, (zx_cs1 (by show 0 ≤ ((-1) : Int) + (1 * a3 + ((-1) * a6 + 0)); omega) zx_cs0), zx_eF0, zx_k0⟩
def zx_D1089 : zx_L := zx_Lc [] 8 [(2000146, 0), (2000153, 4), (178, 1), (261, 7), (262, 7)] [] [((0, 0), [(0, 1, 0), (1, 0, 1), (2, 0, 4294967296), (3, 0, 18446744073709551616)]), ((0, 1), [(8, 1, 0)]), ((0, 0), [(1, 0, 4294967296), (4, 1, 0), (5, 0, 1), (6, 0, 18446744073709551616)]), ((0, 1), [(9, 1, 0)]), ((0, 1), [(2, 1, 0), (10, 0, 1)]), ((1, 0), [(3, 0, 1), (7, 1, 0)])] [((0, 0), [(1, 1, 0)]), ((4294967276, 0), [(1, 0, 1)]), ((0, 0), [(2, 1, 0)]), ((4294967276, 0), [(2, 0, 1)]), ((0, 0), [(3, 1, 0)]), ((4294967276, 0), [(3, 0, 1)]), ((0, 0), [(5, 1, 0)]), ((4294967276, 0), [(5, 0, 1)]), ((0, 0), [(6, 1, 0)]), ((4294967276, 0), [(6, 0, 1)]), ((0, 0), [(10, 1, 0)])] [([], [((0, 0), [(11, 1, 0), (12, 0, 1)])], [], [])]
theorem zx_D1089_ok {PT : Nat → zz_W → Prop} : zx_Lok 64 zHT PT zx_D1089 := by
  refine zx_Lc_ok (fun w hI hK ins hl hr he hg => ?_)
  obtain ⟨a0, a1, a2, a3, a4, a5, a6, a7, rfl⟩ := zx_i8 hl
  have e0 : (0 : Int) + (1 * a0 + ((-1) * a1 + ((-4294967296) * a2 + ((-18446744073709551616) * a3 + 0)))) = 0 := he _ List.mem_cons_self
  have e1 : ((-1) : Int) + (1 * (zk_xe w 2000146 a0) + 0) = 0 := he _ (List.mem_cons_of_mem _ List.mem_cons_self)
  have e2 : (0 : Int) + ((-4294967296) * a1 + (1 * a4 + ((-1) * a5 + ((-18446744073709551616) * a6 + 0)))) = 0 := he _ (List.mem_cons_of_mem _ (List.mem_cons_of_mem _ List.mem_cons_self))
  have e3 : ((-1) : Int) + (1 * (zk_xe w 2000153 a4) + 0) = 0 := he _ (List.mem_cons_of_mem _ (List.mem_cons_of_mem _ (List.mem_cons_of_mem _ List.mem_cons_self)))
  have e4 : ((-1) : Int) + (1 * a2 + ((-1) * (zk_xe w 178 a1) + 0)) = 0 := he _ (List.mem_cons_of_mem _ (List.mem_cons_of_mem _ (List.mem_cons_of_mem _ (List.mem_cons_of_mem _ List.mem_cons_self))))
  have e5 : (1 : Int) + ((-1) * a3 + (1 * a7 + 0)) = 0 := he _ (List.mem_cons_of_mem _ (List.mem_cons_of_mem _ (List.mem_cons_of_mem _ (List.mem_cons_of_mem _ (List.mem_cons_of_mem _ List.mem_cons_self)))))
  have g0 : 0 ≤ (0 : Int) + (1 * a1 + 0) := hg _ List.mem_cons_self
  have g1 : 0 ≤ (4294967276 : Int) + ((-1) * a1 + 0) := hg _ (List.mem_cons_of_mem _ List.mem_cons_self)
  have g2 : 0 ≤ (0 : Int) + (1 * a2 + 0) := hg _ (List.mem_cons_of_mem _ (List.mem_cons_of_mem _ List.mem_cons_self))
  have g3 : 0 ≤ (4294967276 : Int) + ((-1) * a2 + 0) := hg _ (List.mem_cons_of_mem _ (List.mem_cons_of_mem _ (List.mem_cons_of_mem _ List.mem_cons_self)))
  have g4 : 0 ≤ (0 : Int) + (1 * a3 + 0) := hg _ (List.mem_cons_of_mem _ (List.mem_cons_of_mem _ (List.mem_cons_of_mem _ (List.mem_cons_of_mem _ List.mem_cons_self))))
  have g5 : 0 ≤ (4294967276 : Int) + ((-1) * a3 + 0) := hg _ (List.mem_cons_of_mem _ (List.mem_cons_of_mem _ (List.mem_cons_of_mem _ (List.mem_cons_of_mem _ (List.mem_cons_of_mem _ List.mem_cons_self)))))
  have g6 : 0 ≤ (0 : Int) + (1 * a5 + 0) := hg _ (List.mem_cons_of_mem _ (List.mem_cons_of_mem _ (List.mem_cons_of_mem _ (List.mem_cons_of_mem _ (List.mem_cons_of_mem _ (List.mem_cons_of_mem _ List.mem_cons_self))))))
  have g7 : 0 ≤ (4294967276 : Int) + ((-1) * a5 + 0) := hg _ (List.mem_cons_of_mem _ (List.mem_cons_of_mem _ (List.mem_cons_of_mem _ (List.mem_cons_of_mem _ (List.mem_cons_of_mem _ (List.mem_cons_of_mem _ (List.mem_cons_of_mem _ List.mem_cons_self)))))))
  have g8 : 0 ≤ (0 : Int) + (1 * a6 + 0) := hg _ (List.mem_cons_of_mem _ (List.mem_cons_of_mem _ (List.mem_cons_of_mem _ (List.mem_cons_of_mem _ (List.mem_cons_of_mem _ (List.mem_cons_of_mem _ (List.mem_cons_of_mem _ (List.mem_cons_of_mem _ List.mem_cons_self))))))))
  have g9 : 0 ≤ (4294967276 : Int) + ((-1) * a6 + 0) := hg _ (List.mem_cons_of_mem _ (List.mem_cons_of_mem _ (List.mem_cons_of_mem _ (List.mem_cons_of_mem _ (List.mem_cons_of_mem _ (List.mem_cons_of_mem _ (List.mem_cons_of_mem _ (List.mem_cons_of_mem _ (List.mem_cons_of_mem _ List.mem_cons_self)))))))))
  have g10 : 0 ≤ (0 : Int) + (1 * (zk_xe w 178 a1) + 0) := hg _ (List.mem_cons_of_mem _ (List.mem_cons_of_mem _ (List.mem_cons_of_mem _ (List.mem_cons_of_mem _ (List.mem_cons_of_mem _ (List.mem_cons_of_mem _ (List.mem_cons_of_mem _ (List.mem_cons_of_mem _ (List.mem_cons_of_mem _ (List.mem_cons_of_mem _ List.mem_cons_self))))))))))
  have r0 : 0 ≤ a0 := hr _ List.mem_cons_self
  have r1 : 0 ≤ a4 := hr _ (List.mem_cons_of_mem _ List.mem_cons_self)
  have r2 : 0 ≤ a1 := hr _ (List.mem_cons_of_mem _ (List.mem_cons_of_mem _ List.mem_cons_self))
  have r3 : 0 ≤ a7 := hr _ (List.mem_cons_of_mem _ (List.mem_cons_of_mem _ (List.mem_cons_of_mem _ List.mem_cons_self)))
  have r4 : 0 ≤ a7 := hr _ (List.mem_cons_of_mem _ (List.mem_cons_of_mem _ (List.mem_cons_of_mem _ (List.mem_cons_of_mem _ List.mem_cons_self))))
  have hf := (zc_146 (w := w) (j := a0) (u := a1) (x := a2) (n := a3) (by omega) (by omega) (by omega) (by omega) (by omega) (by omega) (by omega) ).mp (by omega)
  have hw := (zc_153 (w := w) (j := a4) (N := a5) (u := a1) (o := a6) (by omega) (by omega) (by omega) (by omega) (by omega) (by omega) (by omega) ).mp (by omega)
  have kz : zh_e w 178 (a1) = zk_xe w 178 a1 := by rw [zk_xe_r (i := 178) (by decide)]; show zk_el w 178 (a1) = zk_el w 178 a1; rw [show a1 = a1 by omega]
  rw [kz] at hf hw
  rw [show a2 = zk_xe w 178 a1 + 1 by omega] at hf
  obtain ⟨⟨F, f0, f1, f2, f3, -⟩, -⟩ := hw
  have np : 0 < a3 := by omega
  have hd := (zc_down (by omega) np f0 f1 f2 (by omega) (by omega) hf 0 (by omega)).2
  rw [show a3 - 1 - ((0 : Nat) : Int) = a7 by omega, show a6 - ((0 : Nat) : Int) = a6 by omega] at hd
  have q := hf.2.2 a7 (by omega) (by omega)
  rw [if_pos (by omega)] at q
  have q5 := q.2.2.2.2.2.1
  have k0 : zh_e w 261 (a7) = zk_xe w 261 a7 := by rw [zk_xe_r (i := 261) (by decide)]; show zk_el w 261 (a7) = zk_el w 261 a7; rw [show a7 = a7 by omega]
  have k1 : zh_e w 262 (a7) = zk_xe w 262 a7 := by rw [zk_xe_r (i := 262) (by decide)]; show zk_el w 262 (a7) = zk_el w 262 a7; rw [show a7 = a7 by omega]
  rw [k0] at hd
  rw [k1] at q5
  exact ⟨_, List.mem_cons_self, [], rfl, zx_bnil, (zx_cs1 (by show 0 ≤ (0 : Int) + (1 * (zk_xe w 261 a7) + ((-1) * (zk_xe w 262 a7) + 0)); omega) zx_cs0), zx_eF0, zx_k0⟩
def zx_D1090 : zx_L := zx_Lc [] 2 [] [] [((0, 2147483648), [(0, 0, 1), (1, 1, 0)])] [((0, 97), [(0, 1, 0)]), ((122, 0), [(0, 0, 1)])] [([], [], [(2000158, ((0, 0), [(1, 1, 0)]), ((1, 0), []))], [])]
theorem zx_D1090_ok {PT : Nat → zz_W → Prop} : zx_Lok 64 zHT PT zx_D1090 := by
  refine zx_Lc_ok (fun w hI hK ins hl hr he hg => ?_)
  obtain ⟨a0, a1, rfl⟩ := zx_i2 hl
  have e0 : ((-2147483648) : Int) + ((-1) * a0 + (1 * a1 + 0)) = 0 := he _ List.mem_cons_self
  have g0 : 0 ≤ ((-97) : Int) + (1 * a0 + 0) := hg _ List.mem_cons_self
  have g1 : 0 ≤ (122 : Int) + ((-1) * a0 + 0) := hg _ (List.mem_cons_of_mem _ List.mem_cons_self)
  have h := zc_158 (w := w) (j := a1) (c := a0) (by omega)
  have h : zk_xe w 2000158 a1 = 1 := h.mpr (by unfold zc_ws zp_ch; omega)
  exact ⟨_, List.mem_cons_self, [], rfl, zx_bnil, zx_cs0, (zx_eF1 (by show 0 ≤ (0 : Int) + (1 * a1 + 0); omega) (by show zk_xe w 2000158 ((0 : Int) + (1 * a1 + 0)) = (1 : Int) + (0); rw [show (0 : Int) + (1 * a1 + 0) = a1 by omega]; omega) zx_eF0), zx_k0⟩
def zx_D1091 : zx_L := zx_Lc [] 2 [] [] [((0, 2147483648), [(0, 0, 1), (1, 1, 0)])] [((0, 95), [(0, 1, 0)]), ((95, 0), [(0, 0, 1)])] [([], [], [(2000158, ((0, 0), [(1, 1, 0)]), ((1, 0), []))], [])]
theorem zx_D1091_ok {PT : Nat → zz_W → Prop} : zx_Lok 64 zHT PT zx_D1091 := by
  refine zx_Lc_ok (fun w hI hK ins hl hr he hg => ?_)
  obtain ⟨a0, a1, rfl⟩ := zx_i2 hl
  have e0 : ((-2147483648) : Int) + ((-1) * a0 + (1 * a1 + 0)) = 0 := he _ List.mem_cons_self
  have g0 : 0 ≤ ((-95) : Int) + (1 * a0 + 0) := hg _ List.mem_cons_self
  have g1 : 0 ≤ (95 : Int) + ((-1) * a0 + 0) := hg _ (List.mem_cons_of_mem _ List.mem_cons_self)
  have h := zc_158 (w := w) (j := a1) (c := a0) (by omega)
  have h : zk_xe w 2000158 a1 = 1 := h.mpr (by unfold zc_ws zp_ch; omega)
  exact ⟨_, List.mem_cons_self, [], rfl, zx_bnil, zx_cs0, (zx_eF1 (by show 0 ≤ (0 : Int) + (1 * a1 + 0); omega) (by show zk_xe w 2000158 ((0 : Int) + (1 * a1 + 0)) = (1 : Int) + (0); rw [show (0 : Int) + (1 * a1 + 0) = a1 by omega]; omega) zx_eF0), zx_k0⟩
def zx_D1092 : zx_L := zx_Lc [] 2 [] [] [((0, 2147483648), [(0, 0, 1), (1, 1, 0)])] [((0, 46), [(0, 1, 0)]), ((46, 0), [(0, 0, 1)])] [([], [], [(2000158, ((0, 0), [(1, 1, 0)]), ((1, 0), []))], [])]
theorem zx_D1092_ok {PT : Nat → zz_W → Prop} : zx_Lok 64 zHT PT zx_D1092 := by
  refine zx_Lc_ok (fun w hI hK ins hl hr he hg => ?_)
  obtain ⟨a0, a1, rfl⟩ := zx_i2 hl
  have e0 : ((-2147483648) : Int) + ((-1) * a0 + (1 * a1 + 0)) = 0 := he _ List.mem_cons_self
  have g0 : 0 ≤ ((-46) : Int) + (1 * a0 + 0) := hg _ List.mem_cons_self
  have g1 : 0 ≤ (46 : Int) + ((-1) * a0 + 0) := hg _ (List.mem_cons_of_mem _ List.mem_cons_self)
  have h := zc_158 (w := w) (j := a1) (c := a0) (by omega)
  have h : zk_xe w 2000158 a1 = 1 := h.mpr (by unfold zc_ws zp_ch; omega)
  exact ⟨_, List.mem_cons_self, [], rfl, zx_bnil, zx_cs0, (zx_eF1 (by show 0 ≤ (0 : Int) + (1 * a1 + 0); omega) (by show zk_xe w 2000158 ((0 : Int) + (1 * a1 + 0)) = (1 : Int) + (0); rw [show (0 : Int) + (1 * a1 + 0) = a1 by omega]; omega) zx_eF0), zx_k0⟩
def zx_D1093 : zx_L := zx_Lc [] 2 [] [] [((0, 2147483648), [(0, 0, 1), (1, 1, 0)])] [((0, 48), [(0, 1, 0)]), ((57, 0), [(0, 0, 1)])] [([], [], [(2000158, ((0, 0), [(1, 1, 0)]), ((1, 0), []))], [])]
theorem zx_D1093_ok {PT : Nat → zz_W → Prop} : zx_Lok 64 zHT PT zx_D1093 := by
  refine zx_Lc_ok (fun w hI hK ins hl hr he hg => ?_)
  obtain ⟨a0, a1, rfl⟩ := zx_i2 hl
  have e0 : ((-2147483648) : Int) + ((-1) * a0 + (1 * a1 + 0)) = 0 := he _ List.mem_cons_self
  have g0 : 0 ≤ ((-48) : Int) + (1 * a0 + 0) := hg _ List.mem_cons_self
  have g1 : 0 ≤ (57 : Int) + ((-1) * a0 + 0) := hg _ (List.mem_cons_of_mem _ List.mem_cons_self)
  have h := zc_158 (w := w) (j := a1) (c := a0) (by omega)
  have h : zk_xe w 2000158 a1 = 1 := h.mpr (by unfold zc_ws zp_ch; omega)
  exact ⟨_, List.mem_cons_self, [], rfl, zx_bnil, zx_cs0, (zx_eF1 (by show 0 ≤ (0 : Int) + (1 * a1 + 0); omega) (by show zk_xe w 2000158 ((0 : Int) + (1 * a1 + 0)) = (1 : Int) + (0); rw [show (0 : Int) + (1 * a1 + 0) = a1 by omega]; omega) zx_eF0), zx_k0⟩
def zx_D1094 : zx_L := zx_Lc [] 2 [] [] [((0, 2147483648), [(0, 0, 1), (1, 1, 0)])] [((2147483648, 0), [(0, 1, 0)]), ((45, 0), [(0, 0, 1)])] [([], [], [(2000158, ((0, 0), [(1, 1, 0)]), ((0, 0), []))], [])]
theorem zx_D1094_ok {PT : Nat → zz_W → Prop} : zx_Lok 64 zHT PT zx_D1094 := by
  refine zx_Lc_ok (fun w hI hK ins hl hr he hg => ?_)
  obtain ⟨a0, a1, rfl⟩ := zx_i2 hl
  have e0 : ((-2147483648) : Int) + ((-1) * a0 + (1 * a1 + 0)) = 0 := he _ List.mem_cons_self
  have g0 : 0 ≤ (2147483648 : Int) + (1 * a0 + 0) := hg _ List.mem_cons_self
  have g1 : 0 ≤ (45 : Int) + ((-1) * a0 + 0) := hg _ (List.mem_cons_of_mem _ List.mem_cons_self)
  have h := zc_158 (w := w) (j := a1) (c := a0) (by omega)
  have n : ¬ zc_ws a0 := by
    unfold zc_ws zp_ch
    omega
  have h : zk_xe w 2000158 a1 = 0 := by
    have hb : zk_xe w 2000158 a1 = 0 ∨ zk_xe w 2000158 a1 = 1 := by
      rw [show (2000158 : Nat) = 2000000 + 158 from rfl, zk_xe_h]
      show zh_b (zc_ws (a1 - 2147483648)) = 0 ∨ zh_b (zc_ws (a1 - 2147483648)) = 1
      by_cases q : zc_ws (a1 - 2147483648)
      · exact Or.inr (zh_b1 q)
      · exact Or.inl (zh_b0 q)
    rcases hb with hb | hb
    · exact hb
    · exact absurd (h.mp hb) n
  exact ⟨_, List.mem_cons_self, [], rfl, zx_bnil, zx_cs0, (zx_eF1 (by show 0 ≤ (0 : Int) + (1 * a1 + 0); omega) (by show zk_xe w 2000158 ((0 : Int) + (1 * a1 + 0)) = (0 : Int) + (0); rw [show (0 : Int) + (1 * a1 + 0) = a1 by omega]; omega) zx_eF0), zx_k0⟩
def zx_D1095 : zx_L := zx_Lc [] 2 [] [] [((0, 2147483648), [(0, 0, 1), (1, 1, 0)])] [((0, 47), [(0, 1, 0)]), ((47, 0), [(0, 0, 1)])] [([], [], [(2000158, ((0, 0), [(1, 1, 0)]), ((0, 0), []))], [])]
theorem zx_D1095_ok {PT : Nat → zz_W → Prop} : zx_Lok 64 zHT PT zx_D1095 := by
  refine zx_Lc_ok (fun w hI hK ins hl hr he hg => ?_)
  obtain ⟨a0, a1, rfl⟩ := zx_i2 hl
  have e0 : ((-2147483648) : Int) + ((-1) * a0 + (1 * a1 + 0)) = 0 := he _ List.mem_cons_self
  have g0 : 0 ≤ ((-47) : Int) + (1 * a0 + 0) := hg _ List.mem_cons_self
  have g1 : 0 ≤ (47 : Int) + ((-1) * a0 + 0) := hg _ (List.mem_cons_of_mem _ List.mem_cons_self)
  have h := zc_158 (w := w) (j := a1) (c := a0) (by omega)
  have n : ¬ zc_ws a0 := by
    unfold zc_ws zp_ch
    omega
  have h : zk_xe w 2000158 a1 = 0 := by
    have hb : zk_xe w 2000158 a1 = 0 ∨ zk_xe w 2000158 a1 = 1 := by
      rw [show (2000158 : Nat) = 2000000 + 158 from rfl, zk_xe_h]
      show zh_b (zc_ws (a1 - 2147483648)) = 0 ∨ zh_b (zc_ws (a1 - 2147483648)) = 1
      by_cases q : zc_ws (a1 - 2147483648)
      · exact Or.inr (zh_b1 q)
      · exact Or.inl (zh_b0 q)
    rcases hb with hb | hb
    · exact hb
    · exact absurd (h.mp hb) n
  exact ⟨_, List.mem_cons_self, [], rfl, zx_bnil, zx_cs0, (zx_eF1 (by show 0 ≤ (0 : Int) + (1 * a1 + 0); omega) (by show zk_xe w 2000158 ((0 : Int) + (1 * a1 + 0)) = (0 : Int) + (0); rw [show (0 : Int) + (1 * a1 + 0) = a1 by omega]; omega) zx_eF0), zx_k0⟩
def zx_D1096 : zx_L := zx_Lc [] 2 [] [] [((0, 2147483648), [(0, 0, 1), (1, 1, 0)])] [((0, 58), [(0, 1, 0)]), ((94, 0), [(0, 0, 1)])] [([], [], [(2000158, ((0, 0), [(1, 1, 0)]), ((0, 0), []))], [])]
theorem zx_D1096_ok {PT : Nat → zz_W → Prop} : zx_Lok 64 zHT PT zx_D1096 := by
  refine zx_Lc_ok (fun w hI hK ins hl hr he hg => ?_)
  obtain ⟨a0, a1, rfl⟩ := zx_i2 hl
  have e0 : ((-2147483648) : Int) + ((-1) * a0 + (1 * a1 + 0)) = 0 := he _ List.mem_cons_self
  have g0 : 0 ≤ ((-58) : Int) + (1 * a0 + 0) := hg _ List.mem_cons_self
  have g1 : 0 ≤ (94 : Int) + ((-1) * a0 + 0) := hg _ (List.mem_cons_of_mem _ List.mem_cons_self)
  have h := zc_158 (w := w) (j := a1) (c := a0) (by omega)
  have n : ¬ zc_ws a0 := by
    unfold zc_ws zp_ch
    omega
  have h : zk_xe w 2000158 a1 = 0 := by
    have hb : zk_xe w 2000158 a1 = 0 ∨ zk_xe w 2000158 a1 = 1 := by
      rw [show (2000158 : Nat) = 2000000 + 158 from rfl, zk_xe_h]
      show zh_b (zc_ws (a1 - 2147483648)) = 0 ∨ zh_b (zc_ws (a1 - 2147483648)) = 1
      by_cases q : zc_ws (a1 - 2147483648)
      · exact Or.inr (zh_b1 q)
      · exact Or.inl (zh_b0 q)
    rcases hb with hb | hb
    · exact hb
    · exact absurd (h.mp hb) n
  exact ⟨_, List.mem_cons_self, [], rfl, zx_bnil, zx_cs0, (zx_eF1 (by show 0 ≤ (0 : Int) + (1 * a1 + 0); omega) (by show zk_xe w 2000158 ((0 : Int) + (1 * a1 + 0)) = (0 : Int) + (0); rw [show (0 : Int) + (1 * a1 + 0) = a1 by omega]; omega) zx_eF0), zx_k0⟩
def zx_D1097 : zx_L := zx_Lc [] 2 [] [] [((0, 2147483648), [(0, 0, 1), (1, 1, 0)])] [((0, 96), [(0, 1, 0)]), ((96, 0), [(0, 0, 1)])] [([], [], [(2000158, ((0, 0), [(1, 1, 0)]), ((0, 0), []))], [])]
theorem zx_D1097_ok {PT : Nat → zz_W → Prop} : zx_Lok 64 zHT PT zx_D1097 := by
  refine zx_Lc_ok (fun w hI hK ins hl hr he hg => ?_)
  obtain ⟨a0, a1, rfl⟩ := zx_i2 hl
  have e0 : ((-2147483648) : Int) + ((-1) * a0 + (1 * a1 + 0)) = 0 := he _ List.mem_cons_self
  have g0 : 0 ≤ ((-96) : Int) + (1 * a0 + 0) := hg _ List.mem_cons_self
  have g1 : 0 ≤ (96 : Int) + ((-1) * a0 + 0) := hg _ (List.mem_cons_of_mem _ List.mem_cons_self)
  have h := zc_158 (w := w) (j := a1) (c := a0) (by omega)
  have n : ¬ zc_ws a0 := by
    unfold zc_ws zp_ch
    omega
  have h : zk_xe w 2000158 a1 = 0 := by
    have hb : zk_xe w 2000158 a1 = 0 ∨ zk_xe w 2000158 a1 = 1 := by
      rw [show (2000158 : Nat) = 2000000 + 158 from rfl, zk_xe_h]
      show zh_b (zc_ws (a1 - 2147483648)) = 0 ∨ zh_b (zc_ws (a1 - 2147483648)) = 1
      by_cases q : zc_ws (a1 - 2147483648)
      · exact Or.inr (zh_b1 q)
      · exact Or.inl (zh_b0 q)
    rcases hb with hb | hb
    · exact hb
    · exact absurd (h.mp hb) n
  exact ⟨_, List.mem_cons_self, [], rfl, zx_bnil, zx_cs0, (zx_eF1 (by show 0 ≤ (0 : Int) + (1 * a1 + 0); omega) (by show zk_xe w 2000158 ((0 : Int) + (1 * a1 + 0)) = (0 : Int) + (0); rw [show (0 : Int) + (1 * a1 + 0) = a1 by omega]; omega) zx_eF0), zx_k0⟩
def zx_D1098 : zx_L := zx_Lc [] 2 [] [] [((0, 2147483648), [(0, 0, 1), (1, 1, 0)])] [((0, 123), [(0, 1, 0)])] [([], [], [(2000158, ((0, 0), [(1, 1, 0)]), ((0, 0), []))], [])]
theorem zx_D1098_ok {PT : Nat → zz_W → Prop} : zx_Lok 64 zHT PT zx_D1098 := by
  refine zx_Lc_ok (fun w hI hK ins hl hr he hg => ?_)
  obtain ⟨a0, a1, rfl⟩ := zx_i2 hl
  have e0 : ((-2147483648) : Int) + ((-1) * a0 + (1 * a1 + 0)) = 0 := he _ List.mem_cons_self
  have g0 : 0 ≤ ((-123) : Int) + (1 * a0 + 0) := hg _ List.mem_cons_self
  have h := zc_158 (w := w) (j := a1) (c := a0) (by omega)
  have n : ¬ zc_ws a0 := by
    unfold zc_ws zp_ch
    omega
  have h : zk_xe w 2000158 a1 = 0 := by
    have hb : zk_xe w 2000158 a1 = 0 ∨ zk_xe w 2000158 a1 = 1 := by
      rw [show (2000158 : Nat) = 2000000 + 158 from rfl, zk_xe_h]
      show zh_b (zc_ws (a1 - 2147483648)) = 0 ∨ zh_b (zc_ws (a1 - 2147483648)) = 1
      by_cases q : zc_ws (a1 - 2147483648)
      · exact Or.inr (zh_b1 q)
      · exact Or.inl (zh_b0 q)
    rcases hb with hb | hb
    · exact hb
    · exact absurd (h.mp hb) n
  exact ⟨_, List.mem_cons_self, [], rfl, zx_bnil, zx_cs0, (zx_eF1 (by show 0 ≤ (0 : Int) + (1 * a1 + 0); omega) (by show zk_xe w 2000158 ((0 : Int) + (1 * a1 + 0)) = (0 : Int) + (0); rw [show (0 : Int) + (1 * a1 + 0) = a1 by omega]; omega) zx_eF0), zx_k0⟩
def zx_D1100 : zx_L := zx_Lc [] 3 [] [] [((0, 0), [(0, 0, 1), (1, 0, 4294967296), (2, 1, 0)])] [((0, 0), [(0, 1, 0)]), ((4294967276, 0), [(0, 0, 1)]), ((0, 0), [(1, 1, 0)]), ((4294967276, 0), [(1, 0, 1)]), ((0, 0), [(0, 1, 0), (1, 0, 1)])] [([], [], [(2000159, ((0, 0), [(2, 1, 0)]), ((1, 0), []))], [])]
theorem zx_D1100_ok {PT : Nat → zz_W → Prop} : zx_Lok 64 zHT PT zx_D1100 := by
  refine zx_Lc_ok (fun w hI hK ins hl hr he hg => ?_)
  obtain ⟨a0, a1, a2, rfl⟩ := zx_i3 hl
  have e0 : (0 : Int) + ((-1) * a0 + ((-4294967296) * a1 + (1 * a2 + 0))) = 0 := he _ List.mem_cons_self
  have g0 : 0 ≤ (0 : Int) + (1 * a0 + 0) := hg _ List.mem_cons_self
  have g1 : 0 ≤ (4294967276 : Int) + ((-1) * a0 + 0) := hg _ (List.mem_cons_of_mem _ List.mem_cons_self)
  have g2 : 0 ≤ (0 : Int) + (1 * a1 + 0) := hg _ (List.mem_cons_of_mem _ (List.mem_cons_of_mem _ List.mem_cons_self))
  have g3 : 0 ≤ (4294967276 : Int) + ((-1) * a1 + 0) := hg _ (List.mem_cons_of_mem _ (List.mem_cons_of_mem _ (List.mem_cons_of_mem _ List.mem_cons_self)))
  have g4 : 0 ≤ (0 : Int) + (1 * a0 + ((-1) * a1 + 0)) := hg _ (List.mem_cons_of_mem _ (List.mem_cons_of_mem _ (List.mem_cons_of_mem _ (List.mem_cons_of_mem _ List.mem_cons_self))))
  have h := (zc_159 (w := w) (j := a2) (q := a0) (s := a1) (by omega) (by omega) (by omega) (by omega) (by omega) ).mpr (Or.inl (by omega))
  exact ⟨_, List.mem_cons_self, [], rfl, zx_bnil, zx_cs0, (zx_eF1 (by show 0 ≤ (0 : Int) + (1 * a2 + 0); omega) (by show zk_xe w 2000159 ((0 : Int) + (1 * a2 + 0)) = (1 : Int) + (0); rw [show (0 : Int) + (1 * a2 + 0) = a2 by omega]; omega) zx_eF0), zx_k0⟩
def zx_D1101 : zx_L := zx_Lc [] 4 [(263, 0), (2000158, 3)] [] [((0, 0), [(0, 0, 1), (1, 0, 4294967296), (2, 1, 0)]), ((0, 2147483648), [(3, 1, 0), (4, 0, 1)]), ((0, 0), [(5, 1, 0)])] [((0, 0), [(0, 1, 0)]), ((4294967276, 0), [(0, 0, 1)]), ((0, 0), [(1, 1, 0)]), ((4294967276, 0), [(1, 0, 1)])] [([], [], [(2000159, ((0, 0), [(2, 1, 0)]), ((1, 0), []))], [])]
theorem zx_D1101_ok {PT : Nat → zz_W → Prop} : zx_Lok 64 zHT PT zx_D1101 := by
  refine zx_Lc_ok (fun w hI hK ins hl hr he hg => ?_)
  obtain ⟨a0, a1, a2, a3, rfl⟩ := zx_i4 hl
  have e0 : (0 : Int) + ((-1) * a0 + ((-4294967296) * a1 + (1 * a2 + 0))) = 0 := he _ List.mem_cons_self
  have e1 : ((-2147483648) : Int) + (1 * a3 + ((-1) * (zk_xe w 263 a0) + 0)) = 0 := he _ (List.mem_cons_of_mem _ List.mem_cons_self)
  have e2 : (0 : Int) + (1 * (zk_xe w 2000158 a3) + 0) = 0 := he _ (List.mem_cons_of_mem _ (List.mem_cons_of_mem _ List.mem_cons_self))
  have g0 : 0 ≤ (0 : Int) + (1 * a0 + 0) := hg _ List.mem_cons_self
  have g1 : 0 ≤ (4294967276 : Int) + ((-1) * a0 + 0) := hg _ (List.mem_cons_of_mem _ List.mem_cons_self)
  have g2 : 0 ≤ (0 : Int) + (1 * a1 + 0) := hg _ (List.mem_cons_of_mem _ (List.mem_cons_of_mem _ List.mem_cons_self))
  have g3 : 0 ≤ (4294967276 : Int) + ((-1) * a1 + 0) := hg _ (List.mem_cons_of_mem _ (List.mem_cons_of_mem _ (List.mem_cons_of_mem _ List.mem_cons_self)))
  have r0 : 0 ≤ a0 := hr _ List.mem_cons_self
  have r1 : 0 ≤ a3 := hr _ (List.mem_cons_of_mem _ List.mem_cons_self)
  have k0 : zh_e w 263 (a0) = zk_xe w 263 a0 := by rw [zk_xe_r (i := 263) (by decide)]; show zk_el w 263 (a0) = zk_el w 263 a0; rw [show a0 = a0 by omega]
  have h := (zc_159 (w := w) (j := a2) (q := a0) (s := a1) (by omega) (by omega) (by omega) (by omega) (by omega) ).mpr (Or.inr (fun q => by
    rw [k0] at q
    have r := (zc_158 (w := w) (j := a3) (c := zk_xe w 263 a0) (by omega)).mpr q
    omega))
  exact ⟨_, List.mem_cons_self, [], rfl, zx_bnil, zx_cs0, (zx_eF1 (by show 0 ≤ (0 : Int) + (1 * a2 + 0); omega) (by show zk_xe w 2000159 ((0 : Int) + (1 * a2 + 0)) = (1 : Int) + (0); rw [show (0 : Int) + (1 * a2 + 0) = a2 by omega]; omega) zx_eF0), zx_k0⟩
def zx_D1102 : zx_L := zx_Lc [] 5 [] [] [((0, 0), [(0, 1, 0), (1, 0, 1), (2, 0, 4294967296), (3, 0, 18446744073709551616), (4, 0, 79228162514264337593543950336)])] [((0, 0), [(1, 1, 0)]), ((4294967276, 0), [(1, 0, 1)]), ((0, 0), [(2, 1, 0)]), ((4294967276, 0), [(2, 0, 1)]), ((0, 0), [(3, 1, 0)]), ((4294967276, 0), [(3, 0, 1)]), ((0, 0), [(4, 1, 0)]), ((4294967276, 0), [(4, 0, 1)]), ((0, 1), [(2, 0, 1), (3, 0, 1), (4, 1, 0)])] [([], [], [(2000160, ((0, 0), [(0, 1, 0)]), ((1, 0), []))], [])]
theorem zx_D1102_ok {PT : Nat → zz_W → Prop} : zx_Lok 64 zHT PT zx_D1102 := by
  refine zx_Lc_ok (fun w hI hK ins hl hr he hg => ?_)
  obtain ⟨a0, a1, a2, a3, a4, rfl⟩ := zx_i5 hl
  have e0 : (0 : Int) + (1 * a0 + ((-1) * a1 + ((-4294967296) * a2 + ((-18446744073709551616) * a3 + ((-79228162514264337593543950336) * a4 + 0))))) = 0 := he _ List.mem_cons_self
  have g0 : 0 ≤ (0 : Int) + (1 * a1 + 0) := hg _ List.mem_cons_self
  have g1 : 0 ≤ (4294967276 : Int) + ((-1) * a1 + 0) := hg _ (List.mem_cons_of_mem _ List.mem_cons_self)
  have g2 : 0 ≤ (0 : Int) + (1 * a2 + 0) := hg _ (List.mem_cons_of_mem _ (List.mem_cons_of_mem _ List.mem_cons_self))
  have g3 : 0 ≤ (4294967276 : Int) + ((-1) * a2 + 0) := hg _ (List.mem_cons_of_mem _ (List.mem_cons_of_mem _ (List.mem_cons_of_mem _ List.mem_cons_self)))
  have g4 : 0 ≤ (0 : Int) + (1 * a3 + 0) := hg _ (List.mem_cons_of_mem _ (List.mem_cons_of_mem _ (List.mem_cons_of_mem _ (List.mem_cons_of_mem _ List.mem_cons_self))))
  have g5 : 0 ≤ (4294967276 : Int) + ((-1) * a3 + 0) := hg _ (List.mem_cons_of_mem _ (List.mem_cons_of_mem _ (List.mem_cons_of_mem _ (List.mem_cons_of_mem _ (List.mem_cons_of_mem _ List.mem_cons_self)))))
  have g6 : 0 ≤ (0 : Int) + (1 * a4 + 0) := hg _ (List.mem_cons_of_mem _ (List.mem_cons_of_mem _ (List.mem_cons_of_mem _ (List.mem_cons_of_mem _ (List.mem_cons_of_mem _ (List.mem_cons_of_mem _ List.mem_cons_self))))))
  have g7 : 0 ≤ (4294967276 : Int) + ((-1) * a4 + 0) := hg _ (List.mem_cons_of_mem _ (List.mem_cons_of_mem _ (List.mem_cons_of_mem _ (List.mem_cons_of_mem _ (List.mem_cons_of_mem _ (List.mem_cons_of_mem _ (List.mem_cons_of_mem _ List.mem_cons_self)))))))
  have g8 : 0 ≤ ((-1) : Int) + ((-1) * a2 + ((-1) * a3 + (1 * a4 + 0))) := hg _ (List.mem_cons_of_mem _ (List.mem_cons_of_mem _ (List.mem_cons_of_mem _ (List.mem_cons_of_mem _ (List.mem_cons_of_mem _ (List.mem_cons_of_mem _ (List.mem_cons_of_mem _ (List.mem_cons_of_mem _ List.mem_cons_self))))))))
  have h : zc_rx (zh_e w 204) (zh_e w 205) (zh_e w 256) (zh_e w 257) a1 (zh_e w 203 a1) a2 a3 a4 := fun j j0 j1 j2 => by omega
  exact ⟨_, List.mem_cons_self, [], rfl, zx_bnil, zx_cs0, (zx_eF1 (by show 0 ≤ (0 : Int) + (1 * a0 + 0); omega) (by show zk_xe w 2000160 ((0 : Int) + (1 * a0 + 0)) = (1 : Int) + (0); rw [show (0 : Int) + (1 * a0 + 0) = a0 by omega]; exact ((zc_160 (w := w) (j := a0) (u := a1) (x := a2) (o := a3) (n := a4) (by omega) (by omega) (by omega) (by omega) (by omega) (by omega) (by omega) (by omega) (by omega) ).mpr h).trans (by omega)) zx_eF0), zx_k0⟩
def zx_D1103 : zx_L := zx_Lc [] 6 [(2000160, 0)] [] [((0, 0), [(0, 1, 0), (1, 0, 1), (2, 0, 4294967296), (3, 0, 18446744073709551616), (4, 0, 79228162514264337593543950336)]), ((0, 1), [(6, 1, 0)]), ((0, 4294967296), [(1, 0, 1), (2, 0, 4294967296), (3, 0, 18446744073709551616), (4, 0, 79228162514264337593543950336), (5, 1, 0)])] [((0, 0), [(1, 1, 0)]), ((4294967276, 0), [(1, 0, 1)]), ((0, 0), [(2, 1, 0)]), ((4294967276, 0), [(2, 0, 1)]), ((0, 0), [(3, 1, 0)]), ((4294967276, 0), [(3, 0, 1)]), ((0, 0), [(4, 1, 0)]), ((4294967276, 0), [(4, 0, 1)]), ((1, 0), [(2, 1, 0), (4, 0, 1)])] [([], [], [(2000160, ((0, 0), [(5, 1, 0)]), ((1, 0), []))], [])]
theorem zx_D1103_ok {PT : Nat → zz_W → Prop} : zx_Lok 64 zHT PT zx_D1103 := by
  refine zx_Lc_ok (fun w hI hK ins hl hr he hg => ?_)
  obtain ⟨a0, a1, a2, a3, a4, a5, rfl⟩ := zx_i6 hl
  have e0 : (0 : Int) + (1 * a0 + ((-1) * a1 + ((-4294967296) * a2 + ((-18446744073709551616) * a3 + ((-79228162514264337593543950336) * a4 + 0))))) = 0 := he _ List.mem_cons_self
  have e1 : ((-1) : Int) + (1 * (zk_xe w 2000160 a0) + 0) = 0 := he _ (List.mem_cons_of_mem _ List.mem_cons_self)
  have e2 : ((-4294967296) : Int) + ((-1) * a1 + ((-4294967296) * a2 + ((-18446744073709551616) * a3 + ((-79228162514264337593543950336) * a4 + (1 * a5 + 0))))) = 0 := he _ (List.mem_cons_of_mem _ (List.mem_cons_of_mem _ List.mem_cons_self))
  have g0 : 0 ≤ (0 : Int) + (1 * a1 + 0) := hg _ List.mem_cons_self
  have g1 : 0 ≤ (4294967276 : Int) + ((-1) * a1 + 0) := hg _ (List.mem_cons_of_mem _ List.mem_cons_self)
  have g2 : 0 ≤ (0 : Int) + (1 * a2 + 0) := hg _ (List.mem_cons_of_mem _ (List.mem_cons_of_mem _ List.mem_cons_self))
  have g3 : 0 ≤ (4294967276 : Int) + ((-1) * a2 + 0) := hg _ (List.mem_cons_of_mem _ (List.mem_cons_of_mem _ (List.mem_cons_of_mem _ List.mem_cons_self)))
  have g4 : 0 ≤ (0 : Int) + (1 * a3 + 0) := hg _ (List.mem_cons_of_mem _ (List.mem_cons_of_mem _ (List.mem_cons_of_mem _ (List.mem_cons_of_mem _ List.mem_cons_self))))
  have g5 : 0 ≤ (4294967276 : Int) + ((-1) * a3 + 0) := hg _ (List.mem_cons_of_mem _ (List.mem_cons_of_mem _ (List.mem_cons_of_mem _ (List.mem_cons_of_mem _ (List.mem_cons_of_mem _ List.mem_cons_self)))))
  have g6 : 0 ≤ (0 : Int) + (1 * a4 + 0) := hg _ (List.mem_cons_of_mem _ (List.mem_cons_of_mem _ (List.mem_cons_of_mem _ (List.mem_cons_of_mem _ (List.mem_cons_of_mem _ (List.mem_cons_of_mem _ List.mem_cons_self))))))
  have g7 : 0 ≤ (4294967276 : Int) + ((-1) * a4 + 0) := hg _ (List.mem_cons_of_mem _ (List.mem_cons_of_mem _ (List.mem_cons_of_mem _ (List.mem_cons_of_mem _ (List.mem_cons_of_mem _ (List.mem_cons_of_mem _ (List.mem_cons_of_mem _ List.mem_cons_self)))))))
  have g8 : 0 ≤ (1 : Int) + (1 * a2 + ((-1) * a4 + 0)) := hg _ (List.mem_cons_of_mem _ (List.mem_cons_of_mem _ (List.mem_cons_of_mem _ (List.mem_cons_of_mem _ (List.mem_cons_of_mem _ (List.mem_cons_of_mem _ (List.mem_cons_of_mem _ (List.mem_cons_of_mem _ List.mem_cons_self))))))))
  have r0 : 0 ≤ a0 := hr _ List.mem_cons_self
  have hp := (zc_160 (w := w) (j := a0) (u := a1) (x := a2) (o := a3) (n := a4) (by omega) (by omega) (by omega) (by omega) (by omega) (by omega) (by omega) (by omega) (by omega) ).mp (by omega)
  have h : zc_rx (zh_e w 204) (zh_e w 205) (zh_e w 256) (zh_e w 257) a1 (zh_e w 203 a1) (a2 + 1) a3 a4 := fun j j0 j1 j2 => hp j j0 j1 (by omega)
  exact ⟨_, List.mem_cons_self, [], rfl, zx_bnil, zx_cs0, (zx_eF1 (by show 0 ≤ (0 : Int) + (1 * a5 + 0); omega) (by show zk_xe w 2000160 ((0 : Int) + (1 * a5 + 0)) = (1 : Int) + (0); rw [show (0 : Int) + (1 * a5 + 0) = a5 by omega]; exact ((zc_160 (w := w) (j := a5) (u := a1) (x := (a2 + 1)) (o := a3) (n := a4) (by omega) (by omega) (by omega) (by omega) (by omega) (by omega) (by omega) (by omega) (by omega) ).mpr h).trans (by omega)) zx_eF0), zx_k0⟩
def zx_D1104 : zx_L := zx_Lc [] 1 [] [] [] [((0, 0), [(0, 1, 0)])] [([(0, 1)], [], [(2000160, ((0, 0), [(0, 1, 0)]), ((0, 0), [(1, 1, 0)]))], [])]
theorem zx_D1104_ok {PT : Nat → zz_W → Prop} : zx_Lok 64 zHT PT zx_D1104 := by
  refine zx_Lc_ok (fun w hI hK ins hl hr he hg => ?_)
  obtain ⟨a0, rfl⟩ := zx_i1 hl
  have g0 : 0 ≤ (0 : Int) + (1 * a0 + 0) := hg _ List.mem_cons_self
  have hb := zc_160d (w := w) (j := a0)
  exact ⟨_, List.mem_cons_self, [zk_xe w 2000160 a0], rfl, (zx_bcons (by show (0 : Int) ≤ zk_xe w 2000160 a0 ∧ zk_xe w 2000160 a0 ≤ (1 : Int); omega) zx_bnil), zx_cs0, (zx_eF1 (by show 0 ≤ (0 : Int) + (1 * a0 + 0); omega) (by show zk_xe w 2000160 ((0 : Int) + (1 * a0 + 0)) = (0 : Int) + (1 * (zk_xe w 2000160 a0) + 0); rw [show (0 : Int) + (1 * a0 + 0) = a0 by omega]; omega) zx_eF0), zx_k0⟩
def zx_D1105 : zx_L := zx_Lc [] 5 [(2000160, 0)] [] [((0, 0), [(0, 1, 0), (1, 0, 1), (2, 0, 18446744073709551616), (3, 0, 79228162514264337597838917632)]), ((0, 1), [(5, 1, 0)]), ((0, 0), [(1, 0, 1), (2, 0, 4294967296), (4, 1, 0)])] [((0, 0), [(1, 1, 0)]), ((4294967276, 0), [(1, 0, 1)]), ((0, 0), [(2, 1, 0)]), ((4294967276, 0), [(2, 0, 1)]), ((0, 0), [(3, 1, 0)]), ((4294967276, 0), [(3, 0, 1)])] [([], [], [(2000151, ((0, 0), [(4, 1, 0)]), ((1, 0), []))], [])]
theorem zx_D1105_ok {PT : Nat → zz_W → Prop} : zx_Lok 64 zHT PT zx_D1105 := by
  refine zx_Lc_ok (fun w hI hK ins hl hr he hg => ?_)
  obtain ⟨a0, a1, a2, a3, a4, rfl⟩ := zx_i5 hl
  have e0 : (0 : Int) + (1 * a0 + ((-1) * a1 + ((-18446744073709551616) * a2 + ((-79228162514264337597838917632) * a3 + 0)))) = 0 := he _ List.mem_cons_self
  have e1 : ((-1) : Int) + (1 * (zk_xe w 2000160 a0) + 0) = 0 := he _ (List.mem_cons_of_mem _ List.mem_cons_self)
  have e2 : (0 : Int) + ((-1) * a1 + ((-4294967296) * a2 + (1 * a4 + 0))) = 0 := he _ (List.mem_cons_of_mem _ (List.mem_cons_of_mem _ List.mem_cons_self))
  have g0 : 0 ≤ (0 : Int) + (1 * a1 + 0) := hg _ List.mem_cons_self
  have g1 : 0 ≤ (4294967276 : Int) + ((-1) * a1 + 0) := hg _ (List.mem_cons_of_mem _ List.mem_cons_self)
  have g2 : 0 ≤ (0 : Int) + (1 * a2 + 0) := hg _ (List.mem_cons_of_mem _ (List.mem_cons_of_mem _ List.mem_cons_self))
  have g3 : 0 ≤ (4294967276 : Int) + ((-1) * a2 + 0) := hg _ (List.mem_cons_of_mem _ (List.mem_cons_of_mem _ (List.mem_cons_of_mem _ List.mem_cons_self)))
  have g4 : 0 ≤ (0 : Int) + (1 * a3 + 0) := hg _ (List.mem_cons_of_mem _ (List.mem_cons_of_mem _ (List.mem_cons_of_mem _ (List.mem_cons_of_mem _ List.mem_cons_self))))
  have g5 : 0 ≤ (4294967276 : Int) + ((-1) * a3 + 0) := hg _ (List.mem_cons_of_mem _ (List.mem_cons_of_mem _ (List.mem_cons_of_mem _ (List.mem_cons_of_mem _ (List.mem_cons_of_mem _ List.mem_cons_self)))))
  have r0 : 0 ≤ a0 := hr _ List.mem_cons_self
  have hp := (zc_160 (w := w) (j := a0) (u := a1) (x := a3) (o := a2) (n := a3) (by omega) (by omega) (by omega) (by omega) (by omega) (by omega) (by omega) (by omega) (by omega) ).mp (by omega)
  have h : zc_rd (zh_e w 204) (zh_e w 205) (zh_e w 256) (zh_e w 257) a1 (zh_e w 203 a1) a2 := fun j j0 j1 => hp j j0 j1 (by omega)
  exact ⟨_, List.mem_cons_self, [], rfl, zx_bnil, zx_cs0, (zx_eF1 (by show 0 ≤ (0 : Int) + (1 * a4 + 0); omega) (by show zk_xe w 2000151 ((0 : Int) + (1 * a4 + 0)) = (1 : Int) + (0); rw [show (0 : Int) + (1 * a4 + 0) = a4 by omega]; exact ((zc_151 (w := w) (j := a4) (u := a1) (q := a2) (by omega) (by omega) (by omega) (by omega) (by omega) ).mpr h).trans (by omega)) zx_eF0), zx_k0⟩
def zx_D1106 : zx_L := zx_Lc [] 2 [(2000160, 0)] [] [((0, 0), [(0, 1, 0), (1, 0, 1)])] [((0, 0), [(0, 1, 0)])] [([], [], [(2000160, ((0, 0), [(1, 1, 0)]), ((0, 0), [(2, 1, 0)]))], [])]
theorem zx_D1106_ok {PT : Nat → zz_W → Prop} : zx_Lok 64 zHT PT zx_D1106 := by
  refine zx_Lc_ok (fun w hI hK ins hl hr he hg => ?_)
  obtain ⟨a0, a1, rfl⟩ := zx_i2 hl
  have e0 : (0 : Int) + (1 * a0 + ((-1) * a1 + 0)) = 0 := he _ List.mem_cons_self
  have g0 : 0 ≤ (0 : Int) + (1 * a0 + 0) := hg _ List.mem_cons_self
  have r0 : 0 ≤ a0 := hr _ List.mem_cons_self
  have e : a1 = a0 := by omega
  exact ⟨_, List.mem_cons_self, [], rfl, zx_bnil, zx_cs0, (zx_eF1 (by show 0 ≤ (0 : Int) + (1 * a1 + 0); omega) (by show zk_xe w 2000160 ((0 : Int) + (1 * a1 + 0)) = (0 : Int) + (1 * (zk_xe w 2000160 a0) + 0); rw [show (0 : Int) + (1 * a1 + 0) = a1 by omega]; rw [e]; omega) zx_eF0), zx_k0⟩
def zx_D1107 : zx_L := zx_Lc [] 2 [(263, 0)] [] [((0, 0), [(0, 1, 0), (1, 0, 1)])] [((0, 0), [(0, 1, 0)])] [([], [], [(263, ((0, 0), [(1, 1, 0)]), ((0, 0), [(2, 1, 0)]))], [])]
theorem zx_D1107_ok {PT : Nat → zz_W → Prop} : zx_Lok 64 zHT PT zx_D1107 := by
  refine zx_Lc_ok (fun w hI hK ins hl hr he hg => ?_)
  obtain ⟨a0, a1, rfl⟩ := zx_i2 hl
  have e0 : (0 : Int) + (1 * a0 + ((-1) * a1 + 0)) = 0 := he _ List.mem_cons_self
  have g0 : 0 ≤ (0 : Int) + (1 * a0 + 0) := hg _ List.mem_cons_self
  have r0 : 0 ≤ a0 := hr _ List.mem_cons_self
  have e : a1 = a0 := by omega
  exact ⟨_, List.mem_cons_self, [], rfl, zx_bnil, zx_cs0, (zx_eF1 (by show 0 ≤ (0 : Int) + (1 * a1 + 0); omega) (by show zk_xe w 263 ((0 : Int) + (1 * a1 + 0)) = (0 : Int) + (1 * (zk_xe w 263 a0) + 0); rw [show (0 : Int) + (1 * a1 + 0) = a1 by omega]; rw [e]; omega) zx_eF0), zx_k0⟩
def zx_D1108 : zx_L := zx_Lc [] 2 [(307, 0)] [] [((0, 0), [(0, 1, 0), (1, 0, 1)])] [((0, 0), [(0, 1, 0)])] [([], [], [(307, ((0, 0), [(1, 1, 0)]), ((0, 0), [(2, 1, 0)]))], [])]
theorem zx_D1108_ok {PT : Nat → zz_W → Prop} : zx_Lok 64 zHT PT zx_D1108 := by
  refine zx_Lc_ok (fun w hI hK ins hl hr he hg => ?_)
  obtain ⟨a0, a1, rfl⟩ := zx_i2 hl
  have e0 : (0 : Int) + (1 * a0 + ((-1) * a1 + 0)) = 0 := he _ List.mem_cons_self
  have g0 : 0 ≤ (0 : Int) + (1 * a0 + 0) := hg _ List.mem_cons_self
  have r0 : 0 ≤ a0 := hr _ List.mem_cons_self
  have e : a1 = a0 := by omega
  exact ⟨_, List.mem_cons_self, [], rfl, zx_bnil, zx_cs0, (zx_eF1 (by show 0 ≤ (0 : Int) + (1 * a1 + 0); omega) (by show zk_xe w 307 ((0 : Int) + (1 * a1 + 0)) = (0 : Int) + (1 * (zk_xe w 307 a0) + 0); rw [show (0 : Int) + (1 * a1 + 0) = a1 by omega]; rw [e]; omega) zx_eF0), zx_k0⟩
def zx_D1109 : zx_L := zx_Lc [] 2 [(2000096, 0)] [] [((0, 0), [(0, 1, 0), (1, 0, 1)])] [((0, 0), [(0, 1, 0)])] [([], [], [(2000096, ((0, 0), [(1, 1, 0)]), ((0, 0), [(2, 1, 0)]))], [])]
theorem zx_D1109_ok {PT : Nat → zz_W → Prop} : zx_Lok 64 zHT PT zx_D1109 := by
  refine zx_Lc_ok (fun w hI hK ins hl hr he hg => ?_)
  obtain ⟨a0, a1, rfl⟩ := zx_i2 hl
  have e0 : (0 : Int) + (1 * a0 + ((-1) * a1 + 0)) = 0 := he _ List.mem_cons_self
  have g0 : 0 ≤ (0 : Int) + (1 * a0 + 0) := hg _ List.mem_cons_self
  have r0 : 0 ≤ a0 := hr _ List.mem_cons_self
  have e : a1 = a0 := by omega
  exact ⟨_, List.mem_cons_self, [], rfl, zx_bnil, zx_cs0, (zx_eF1 (by show 0 ≤ (0 : Int) + (1 * a1 + 0); omega) (by show zk_xe w 2000096 ((0 : Int) + (1 * a1 + 0)) = (0 : Int) + (1 * (zk_xe w 2000096 a0) + 0); rw [show (0 : Int) + (1 * a1 + 0) = a1 by omega]; rw [e]; omega) zx_eF0), zx_k0⟩
def zx_D1110 : zx_L := zx_Lc [] 8 [(2000146, 0), (2000153, 4), (178, 1), (261, 7), (262, 7)] [] [((0, 0), [(0, 1, 0), (1, 0, 1), (2, 0, 4294967296), (3, 0, 18446744073709551616)]), ((0, 1), [(8, 1, 0)]), ((0, 0), [(1, 0, 4294967296), (4, 1, 0), (5, 0, 1), (6, 0, 18446744073709551616)]), ((0, 1), [(9, 1, 0)]), ((0, 1), [(2, 1, 0), (10, 0, 1)])] [((0, 0), [(1, 1, 0)]), ((4294967276, 0), [(1, 0, 1)]), ((0, 0), [(2, 1, 0)]), ((4294967276, 0), [(2, 0, 1)]), ((0, 0), [(3, 1, 0)]), ((4294967276, 0), [(3, 0, 1)]), ((0, 0), [(5, 1, 0)]), ((4294967276, 0), [(5, 0, 1)]), ((0, 0), [(6, 1, 0)]), ((4294967276, 0), [(6, 0, 1)]), ((0, 0), [(7, 1, 0)]), ((4294967276, 0), [(7, 0, 1)]), ((0, 0), [(10, 1, 0)]), ((1, 0), [(3, 0, 1), (6, 1, 0), (7, 1, 0)]), ((0, 2), [(3, 1, 0), (7, 0, 1)])] [([], [((16, 0), [(11, 1, 0), (12, 0, 1)])], [], [])]
theorem zx_D1110_ok {PT : Nat → zz_W → Prop} : zx_Lok 64 zHT PT zx_D1110 := by
  refine zx_Lc_ok (fun w hI hK ins hl hr he hg => ?_)
  obtain ⟨a0, a1, a2, a3, a4, a5, a6, a7, rfl⟩ := zx_i8 hl
  have e0 : (0 : Int) + (1 * a0 + ((-1) * a1 + ((-4294967296) * a2 + ((-18446744073709551616) * a3 + 0)))) = 0 := he _ List.mem_cons_self
  have e1 : ((-1) : Int) + (1 * (zk_xe w 2000146 a0) + 0) = 0 := he _ (List.mem_cons_of_mem _ List.mem_cons_self)
  have e2 : (0 : Int) + ((-4294967296) * a1 + (1 * a4 + ((-1) * a5 + ((-18446744073709551616) * a6 + 0)))) = 0 := he _ (List.mem_cons_of_mem _ (List.mem_cons_of_mem _ List.mem_cons_self))
  have e3 : ((-1) : Int) + (1 * (zk_xe w 2000153 a4) + 0) = 0 := he _ (List.mem_cons_of_mem _ (List.mem_cons_of_mem _ (List.mem_cons_of_mem _ List.mem_cons_self)))
  have e4 : ((-1) : Int) + (1 * a2 + ((-1) * (zk_xe w 178 a1) + 0)) = 0 := he _ (List.mem_cons_of_mem _ (List.mem_cons_of_mem _ (List.mem_cons_of_mem _ (List.mem_cons_of_mem _ List.mem_cons_self))))
  have g0 : 0 ≤ (0 : Int) + (1 * a1 + 0) := hg _ List.mem_cons_self
  have g1 : 0 ≤ (4294967276 : Int) + ((-1) * a1 + 0) := hg _ (List.mem_cons_of_mem _ List.mem_cons_self)
  have g2 : 0 ≤ (0 : Int) + (1 * a2 + 0) := hg _ (List.mem_cons_of_mem _ (List.mem_cons_of_mem _ List.mem_cons_self))
  have g3 : 0 ≤ (4294967276 : Int) + ((-1) * a2 + 0) := hg _ (List.mem_cons_of_mem _ (List.mem_cons_of_mem _ (List.mem_cons_of_mem _ List.mem_cons_self)))
  have g4 : 0 ≤ (0 : Int) + (1 * a3 + 0) := hg _ (List.mem_cons_of_mem _ (List.mem_cons_of_mem _ (List.mem_cons_of_mem _ (List.mem_cons_of_mem _ List.mem_cons_self))))
  have g5 : 0 ≤ (4294967276 : Int) + ((-1) * a3 + 0) := hg _ (List.mem_cons_of_mem _ (List.mem_cons_of_mem _ (List.mem_cons_of_mem _ (List.mem_cons_of_mem _ (List.mem_cons_of_mem _ List.mem_cons_self)))))
  have g6 : 0 ≤ (0 : Int) + (1 * a5 + 0) := hg _ (List.mem_cons_of_mem _ (List.mem_cons_of_mem _ (List.mem_cons_of_mem _ (List.mem_cons_of_mem _ (List.mem_cons_of_mem _ (List.mem_cons_of_mem _ List.mem_cons_self))))))
  have g7 : 0 ≤ (4294967276 : Int) + ((-1) * a5 + 0) := hg _ (List.mem_cons_of_mem _ (List.mem_cons_of_mem _ (List.mem_cons_of_mem _ (List.mem_cons_of_mem _ (List.mem_cons_of_mem _ (List.mem_cons_of_mem _ (List.mem_cons_of_mem _ List.mem_cons_self)))))))
  have g8 : 0 ≤ (0 : Int) + (1 * a6 + 0) := hg _ (List.mem_cons_of_mem _ (List.mem_cons_of_mem _ (List.mem_cons_of_mem _ (List.mem_cons_of_mem _ (List.mem_cons_of_mem _ (List.mem_cons_of_mem _ (List.mem_cons_of_mem _ (List.mem_cons_of_mem _ List.mem_cons_self))))))))
  have g9 : 0 ≤ (4294967276 : Int) + ((-1) * a6 + 0) := hg _ (List.mem_cons_of_mem _ (List.mem_cons_of_mem _ (List.mem_cons_of_mem _ (List.mem_cons_of_mem _ (List.mem_cons_of_mem _ (List.mem_cons_of_mem _ (List.mem_cons_of_mem _ (List.mem_cons_of_mem _ (List.mem_cons_of_mem _ List.mem_cons_self)))))))))
  have g10 : 0 ≤ (0 : Int) + (1 * a7 + 0) := hg _ (List.mem_cons_of_mem _ (List.mem_cons_of_mem _ (List.mem_cons_of_mem _ (List.mem_cons_of_mem _ (List.mem_cons_of_mem _ (List.mem_cons_of_mem _ (List.mem_cons_of_mem _ (List.mem_cons_of_mem _ (List.mem_cons_of_mem _ (List.mem_cons_of_mem _ List.mem_cons_self))))))))))
  have g11 : 0 ≤ (4294967276 : Int) + ((-1) * a7 + 0) := hg _ (List.mem_cons_of_mem _ (List.mem_cons_of_mem _ (List.mem_cons_of_mem _ (List.mem_cons_of_mem _ (List.mem_cons_of_mem _ (List.mem_cons_of_mem _ (List.mem_cons_of_mem _ (List.mem_cons_of_mem _ (List.mem_cons_of_mem _ (List.mem_cons_of_mem _ (List.mem_cons_of_mem _ List.mem_cons_self)))))))))))
  have g12 : 0 ≤ (0 : Int) + (1 * (zk_xe w 178 a1) + 0) := hg _ (List.mem_cons_of_mem _ (List.mem_cons_of_mem _ (List.mem_cons_of_mem _ (List.mem_cons_of_mem _ (List.mem_cons_of_mem _ (List.mem_cons_of_mem _ (List.mem_cons_of_mem _ (List.mem_cons_of_mem _ (List.mem_cons_of_mem _ (List.mem_cons_of_mem _ (List.mem_cons_of_mem _ (List.mem_cons_of_mem _ List.mem_cons_self))))))))))))
  have g13 : 0 ≤ (1 : Int) + ((-1) * a3 + (1 * a6 + (1 * a7 + 0))) := hg _ (List.mem_cons_of_mem _ (List.mem_cons_of_mem _ (List.mem_cons_of_mem _ (List.mem_cons_of_mem _ (List.mem_cons_of_mem _ (List.mem_cons_of_mem _ (List.mem_cons_of_mem _ (List.mem_cons_of_mem _ (List.mem_cons_of_mem _ (List.mem_cons_of_mem _ (List.mem_cons_of_mem _ (List.mem_cons_of_mem _ (List.mem_cons_of_mem _ List.mem_cons_self)))))))))))))
  have g14 : 0 ≤ ((-2) : Int) + (1 * a3 + ((-1) * a7 + 0)) := hg _ (List.mem_cons_of_mem _ (List.mem_cons_of_mem _ (List.mem_cons_of_mem _ (List.mem_cons_of_mem _ (List.mem_cons_of_mem _ (List.mem_cons_of_mem _ (List.mem_cons_of_mem _ (List.mem_cons_of_mem _ (List.mem_cons_of_mem _ (List.mem_cons_of_mem _ (List.mem_cons_of_mem _ (List.mem_cons_of_mem _ (List.mem_cons_of_mem _ (List.mem_cons_of_mem _ List.mem_cons_self))))))))))))))
  have r0 : 0 ≤ a0 := hr _ List.mem_cons_self
  have r1 : 0 ≤ a4 := hr _ (List.mem_cons_of_mem _ List.mem_cons_self)
  have r2 : 0 ≤ a1 := hr _ (List.mem_cons_of_mem _ (List.mem_cons_of_mem _ List.mem_cons_self))
  have r3 : 0 ≤ a7 := hr _ (List.mem_cons_of_mem _ (List.mem_cons_of_mem _ (List.mem_cons_of_mem _ List.mem_cons_self)))
  have r4 : 0 ≤ a7 := hr _ (List.mem_cons_of_mem _ (List.mem_cons_of_mem _ (List.mem_cons_of_mem _ (List.mem_cons_of_mem _ List.mem_cons_self))))
  have hf := (zc_146 (w := w) (j := a0) (u := a1) (x := a2) (n := a3) (by omega) (by omega) (by omega) (by omega) (by omega) (by omega) (by omega) ).mp (by omega)
  have hw := (zc_153 (w := w) (j := a4) (N := a5) (u := a1) (o := a6) (by omega) (by omega) (by omega) (by omega) (by omega) (by omega) (by omega) ).mp (by omega)
  have kz : zh_e w 178 (a1) = zk_xe w 178 a1 := by rw [zk_xe_r (i := 178) (by decide)]; show zk_el w 178 (a1) = zk_el w 178 a1; rw [show a1 = a1 by omega]
  rw [kz] at hf hw
  rw [show a2 = zk_xe w 178 a1 + 1 by omega] at hf
  obtain ⟨-, hl⟩ := zc_fw (by omega) (by omega) (by omega) hf hw
  obtain ⟨-, m, ⟨-, ⟨m1, m8, -, -⟩, -⟩, he⟩ := hl (a7 + a6 + 1 - a3) (by omega) (by omega)
  rw [show a3 - 1 - a6 + (a7 + a6 + 1 - a3) = a7 by omega] at he
  have k0 : zh_e w 261 (a7) = zk_xe w 261 a7 := by rw [zk_xe_r (i := 261) (by decide)]; show zk_el w 261 (a7) = zk_el w 261 a7; rw [show a7 = a7 by omega]
  have k1 : zh_e w 262 (a7) = zk_xe w 262 a7 := by rw [zk_xe_r (i := 262) (by decide)]; show zk_el w 262 (a7) = zk_el w 262 a7; rw [show a7 = a7 by omega]
  rw [k0, k1] at he
  exact ⟨_, List.mem_cons_self, [], rfl, zx_bnil, (zx_cs1 (by show 0 ≤ (16 : Int) + (1 * (zk_xe w 261 a7) + ((-1) * (zk_xe w 262 a7) + 0)); omega) zx_cs0), zx_eF0, zx_k0⟩
def zx_E680 : zx_V := zx_Vc 204 [] 5 [(2000160, 0), (203, 1)] [((0, 0), [(2, 1, 0), (3, 0, 1), (4, 0, 4294967296), (5, 0, 18446744073709551616), (6, 0, 79228162514264337593543950336)]), ((0, 1), [(7, 1, 0)])] [((0, 0), [(3, 1, 0)]), ((4294967276, 0), [(3, 0, 1)]), ((0, 0), [(4, 1, 0)]), ((4294967276, 0), [(4, 0, 1)]), ((0, 0), [(5, 1, 0)]), ((4294967276, 0), [(5, 0, 1)]), ((0, 0), [(6, 1, 0)]), ((4294967276, 0), [(6, 0, 1)]), ((0, 0), [(0, 1, 0), (3, 0, 600), (8, 0, 1)])] [(2000160, ((0, 0), [(2, 1, 0)]), ((1, 0), []))]
theorem zx_E680_ok {PT : Nat → zz_W → Prop} : zx_Vok 64 zHT PT zx_E680 := by
  refine zx_Vc_ok (fun w w' j ins hI hI' h0 hw hK hl he hg => ?_)
  obtain ⟨a0, a1, a2, a3, a4, rfl⟩ := zx_i5 hl
  have e0 : (0 : Int) + (1 * a0 + ((-1) * a1 + ((-4294967296) * a2 + ((-18446744073709551616) * a3 + ((-79228162514264337593543950336) * a4 + 0))))) = 0 := he _ List.mem_cons_self
  have e1 : ((-1) : Int) + (1 * (zk_xe w 2000160 a0) + 0) = 0 := he _ (List.mem_cons_of_mem _ List.mem_cons_self)
  have g0 : 0 ≤ (0 : Int) + (1 * a1 + 0) := hg _ List.mem_cons_self
  have g1 : 0 ≤ (4294967276 : Int) + ((-1) * a1 + 0) := hg _ (List.mem_cons_of_mem _ List.mem_cons_self)
  have g2 : 0 ≤ (0 : Int) + (1 * a2 + 0) := hg _ (List.mem_cons_of_mem _ (List.mem_cons_of_mem _ List.mem_cons_self))
  have g3 : 0 ≤ (4294967276 : Int) + ((-1) * a2 + 0) := hg _ (List.mem_cons_of_mem _ (List.mem_cons_of_mem _ (List.mem_cons_of_mem _ List.mem_cons_self)))
  have g4 : 0 ≤ (0 : Int) + (1 * a3 + 0) := hg _ (List.mem_cons_of_mem _ (List.mem_cons_of_mem _ (List.mem_cons_of_mem _ (List.mem_cons_of_mem _ List.mem_cons_self))))
  have g5 : 0 ≤ (4294967276 : Int) + ((-1) * a3 + 0) := hg _ (List.mem_cons_of_mem _ (List.mem_cons_of_mem _ (List.mem_cons_of_mem _ (List.mem_cons_of_mem _ (List.mem_cons_of_mem _ List.mem_cons_self)))))
  have g6 : 0 ≤ (0 : Int) + (1 * a4 + 0) := hg _ (List.mem_cons_of_mem _ (List.mem_cons_of_mem _ (List.mem_cons_of_mem _ (List.mem_cons_of_mem _ (List.mem_cons_of_mem _ (List.mem_cons_of_mem _ List.mem_cons_self))))))
  have g7 : 0 ≤ (4294967276 : Int) + ((-1) * a4 + 0) := hg _ (List.mem_cons_of_mem _ (List.mem_cons_of_mem _ (List.mem_cons_of_mem _ (List.mem_cons_of_mem _ (List.mem_cons_of_mem _ (List.mem_cons_of_mem _ (List.mem_cons_of_mem _ List.mem_cons_self)))))))
  have g8 : 0 ≤ (0 : Int) + (1 * j + ((-600) * a1 + ((-1) * (zk_xe w 203 a1) + 0))) := hg _ (List.mem_cons_of_mem _ (List.mem_cons_of_mem _ (List.mem_cons_of_mem _ (List.mem_cons_of_mem _ (List.mem_cons_of_mem _ (List.mem_cons_of_mem _ (List.mem_cons_of_mem _ (List.mem_cons_of_mem _ List.mem_cons_self))))))))
  have hp := (zc_160 (w := w) (j := a0) (u := a1) (x := a2) (o := a3) (n := a4) (by omega) (by omega) (by omega) (by omega) (by omega) (by omega) (by omega) (by omega) (by omega) ).mp (by omega)
  have k0 : zh_e w 203 (a1) = zk_xe w 203 a1 := by rw [zk_xe_r (i := 203) (by decide)]; show zk_el w 203 (a1) = zk_el w 203 a1; rw [show a1 = a1 by omega]
  have h : zc_rx (zh_e w' 204) (zh_e w' 205) (zh_e w' 256) (zh_e w' 257) a1 (zh_e w' 203 a1) a2 a3 a4 := by
    intro i i0 i1 i2
    obtain ⟨t, t0, t1, t2, t3⟩ := hp i i0 i1 i2
    rw [zh_e_g (hw.1 205 (by decide)), zh_e_g (hw.1 256 (by decide)), zh_e_g (hw.1 257 (by decide)), zh_e_g (hw.1 203 (by decide))]
    have e : zh_e w' 204 (600 * a1 + t) = zh_e w 204 (600 * a1 + t) := hw.2 _ (by omega) (by omega)
    exact ⟨t, t0, t1, e.trans t2, t3⟩
  exact (zx_eF1 (by show 0 ≤ (0 : Int) + (1 * a0 + 0); omega) (by show zk_xe w' 2000160 ((0 : Int) + (1 * a0 + 0)) = (1 : Int) + (0); rw [show (0 : Int) + (1 * a0 + 0) = a0 by omega]; exact ((zc_160 (w := w') (j := a0) (u := a1) (x := a2) (o := a3) (n := a4) (by omega) (by omega) (by omega) (by omega) (by omega) (by omega) (by omega) (by omega) (by omega) ).mpr h).trans (by omega)) zx_eF0)
def zx_E681 : zx_V := zx_Vc 205 [] 5 [(2000160, 0), (203, 1)] [((0, 0), [(2, 1, 0), (3, 0, 1), (4, 0, 4294967296), (5, 0, 18446744073709551616), (6, 0, 79228162514264337593543950336)]), ((0, 1), [(7, 1, 0)])] [((0, 0), [(3, 1, 0)]), ((4294967276, 0), [(3, 0, 1)]), ((0, 0), [(4, 1, 0)]), ((4294967276, 0), [(4, 0, 1)]), ((0, 0), [(5, 1, 0)]), ((4294967276, 0), [(5, 0, 1)]), ((0, 0), [(6, 1, 0)]), ((4294967276, 0), [(6, 0, 1)]), ((0, 0), [(0, 1, 0), (3, 0, 600), (8, 0, 1)])] [(2000160, ((0, 0), [(2, 1, 0)]), ((1, 0), []))]
theorem zx_E681_ok {PT : Nat → zz_W → Prop} : zx_Vok 64 zHT PT zx_E681 := by
  refine zx_Vc_ok (fun w w' j ins hI hI' h0 hw hK hl he hg => ?_)
  obtain ⟨a0, a1, a2, a3, a4, rfl⟩ := zx_i5 hl
  have e0 : (0 : Int) + (1 * a0 + ((-1) * a1 + ((-4294967296) * a2 + ((-18446744073709551616) * a3 + ((-79228162514264337593543950336) * a4 + 0))))) = 0 := he _ List.mem_cons_self
  have e1 : ((-1) : Int) + (1 * (zk_xe w 2000160 a0) + 0) = 0 := he _ (List.mem_cons_of_mem _ List.mem_cons_self)
  have g0 : 0 ≤ (0 : Int) + (1 * a1 + 0) := hg _ List.mem_cons_self
  have g1 : 0 ≤ (4294967276 : Int) + ((-1) * a1 + 0) := hg _ (List.mem_cons_of_mem _ List.mem_cons_self)
  have g2 : 0 ≤ (0 : Int) + (1 * a2 + 0) := hg _ (List.mem_cons_of_mem _ (List.mem_cons_of_mem _ List.mem_cons_self))
  have g3 : 0 ≤ (4294967276 : Int) + ((-1) * a2 + 0) := hg _ (List.mem_cons_of_mem _ (List.mem_cons_of_mem _ (List.mem_cons_of_mem _ List.mem_cons_self)))
  have g4 : 0 ≤ (0 : Int) + (1 * a3 + 0) := hg _ (List.mem_cons_of_mem _ (List.mem_cons_of_mem _ (List.mem_cons_of_mem _ (List.mem_cons_of_mem _ List.mem_cons_self))))
  have g5 : 0 ≤ (4294967276 : Int) + ((-1) * a3 + 0) := hg _ (List.mem_cons_of_mem _ (List.mem_cons_of_mem _ (List.mem_cons_of_mem _ (List.mem_cons_of_mem _ (List.mem_cons_of_mem _ List.mem_cons_self)))))
  have g6 : 0 ≤ (0 : Int) + (1 * a4 + 0) := hg _ (List.mem_cons_of_mem _ (List.mem_cons_of_mem _ (List.mem_cons_of_mem _ (List.mem_cons_of_mem _ (List.mem_cons_of_mem _ (List.mem_cons_of_mem _ List.mem_cons_self))))))
  have g7 : 0 ≤ (4294967276 : Int) + ((-1) * a4 + 0) := hg _ (List.mem_cons_of_mem _ (List.mem_cons_of_mem _ (List.mem_cons_of_mem _ (List.mem_cons_of_mem _ (List.mem_cons_of_mem _ (List.mem_cons_of_mem _ (List.mem_cons_of_mem _ List.mem_cons_self)))))))
  have g8 : 0 ≤ (0 : Int) + (1 * j + ((-600) * a1 + ((-1) * (zk_xe w 203 a1) + 0))) := hg _ (List.mem_cons_of_mem _ (List.mem_cons_of_mem _ (List.mem_cons_of_mem _ (List.mem_cons_of_mem _ (List.mem_cons_of_mem _ (List.mem_cons_of_mem _ (List.mem_cons_of_mem _ (List.mem_cons_of_mem _ List.mem_cons_self))))))))
  have hp := (zc_160 (w := w) (j := a0) (u := a1) (x := a2) (o := a3) (n := a4) (by omega) (by omega) (by omega) (by omega) (by omega) (by omega) (by omega) (by omega) (by omega) ).mp (by omega)
  have k0 : zh_e w 203 (a1) = zk_xe w 203 a1 := by rw [zk_xe_r (i := 203) (by decide)]; show zk_el w 203 (a1) = zk_el w 203 a1; rw [show a1 = a1 by omega]
  have h : zc_rx (zh_e w' 204) (zh_e w' 205) (zh_e w' 256) (zh_e w' 257) a1 (zh_e w' 203 a1) a2 a3 a4 := by
    intro i i0 i1 i2
    obtain ⟨t, t0, t1, t2, t3⟩ := hp i i0 i1 i2
    rw [zh_e_g (hw.1 204 (by decide)), zh_e_g (hw.1 256 (by decide)), zh_e_g (hw.1 257 (by decide)), zh_e_g (hw.1 203 (by decide))]
    have e : zh_e w' 205 (600 * a1 + t) = zh_e w 205 (600 * a1 + t) := hw.2 _ (by omega) (by omega)
    exact ⟨t, t0, t1, t2, e.trans t3⟩
  exact (zx_eF1 (by show 0 ≤ (0 : Int) + (1 * a0 + 0); omega) (by show zk_xe w' 2000160 ((0 : Int) + (1 * a0 + 0)) = (1 : Int) + (0); rw [show (0 : Int) + (1 * a0 + 0) = a0 by omega]; exact ((zc_160 (w := w') (j := a0) (u := a1) (x := a2) (o := a3) (n := a4) (by omega) (by omega) (by omega) (by omega) (by omega) (by omega) (by omega) (by omega) (by omega) ).mpr h).trans (by omega)) zx_eF0)
def zx_E682 : zx_V := zx_Vc 203 [] 8 [(2000160, 0), (203, 1), (204, 5), (205, 5), (256, 6), (257, 6)] [((0, 0), [(0, 1, 0), (3, 0, 1)]), ((0, 1), [(1, 1, 0), (11, 0, 1)]), ((0, 0), [(2, 1, 0), (3, 0, 1), (4, 0, 4294967296), (5, 0, 18446744073709551616), (6, 0, 79228162514264337593543950336)]), ((0, 1), [(10, 1, 0)]), ((0, 0), [(3, 0, 600), (7, 1, 0), (11, 0, 1)]), ((0, 1), [(4, 0, 1), (5, 0, 1), (6, 1, 0), (8, 1, 0)]), ((0, 4294967296), [(3, 0, 1), (4, 0, 4294967296), (5, 0, 18446744073709551616), (6, 0, 79228162514264337593543950336), (9, 1, 0)]), ((0, 0), [(12, 1, 0), (14, 0, 1)]), ((0, 0), [(13, 1, 0), (15, 0, 1)])] [((0, 0), [(3, 1, 0)]), ((4294967276, 0), [(3, 0, 1)]), ((0, 0), [(4, 1, 0)]), ((4294967276, 0), [(4, 0, 1)]), ((0, 0), [(5, 1, 0)]), ((4294967276, 0), [(5, 0, 1)]), ((0, 0), [(6, 1, 0)]), ((4294967276, 0), [(6, 0, 1)]), ((0, 0), [(11, 1, 0)])] [(2000160, ((0, 0), [(9, 1, 0)]), ((1, 0), []))]
theorem zx_E682_ok {PT : Nat → zz_W → Prop} : zx_Vok 64 zHT PT zx_E682 := by
  refine zx_Vc_ok (fun w w' j ins hI hI' h0 hw hK hl he hg => ?_)
  obtain ⟨a0, a1, a2, a3, a4, a5, a6, a7, rfl⟩ := zx_i8 hl
  have e0 : (0 : Int) + (1 * j + ((-1) * a1 + 0)) = 0 := he _ List.mem_cons_self
  have e1 : ((-1) : Int) + (1 * (zk_el w' 203 j) + ((-1) * (zk_xe w 203 a1) + 0)) = 0 := he _ (List.mem_cons_of_mem _ List.mem_cons_self)
  have e2 : (0 : Int) + (1 * a0 + ((-1) * a1 + ((-4294967296) * a2 + ((-18446744073709551616) * a3 + ((-79228162514264337593543950336) * a4 + 0))))) = 0 := he _ (List.mem_cons_of_mem _ (List.mem_cons_of_mem _ List.mem_cons_self))
  have e3 : ((-1) : Int) + (1 * (zk_xe w 2000160 a0) + 0) = 0 := he _ (List.mem_cons_of_mem _ (List.mem_cons_of_mem _ (List.mem_cons_of_mem _ List.mem_cons_self)))
  have e4 : (0 : Int) + ((-600) * a1 + (1 * a5 + ((-1) * (zk_xe w 203 a1) + 0))) = 0 := he _ (List.mem_cons_of_mem _ (List.mem_cons_of_mem _ (List.mem_cons_of_mem _ (List.mem_cons_of_mem _ List.mem_cons_self))))
  have e5 : ((-1) : Int) + ((-1) * a2 + ((-1) * a3 + (1 * a4 + (1 * a6 + 0)))) = 0 := he _ (List.mem_cons_of_mem _ (List.mem_cons_of_mem _ (List.mem_cons_of_mem _ (List.mem_cons_of_mem _ (List.mem_cons_of_mem _ List.mem_cons_self)))))
  have e6 : ((-4294967296) : Int) + ((-1) * a1 + ((-4294967296) * a2 + ((-18446744073709551616) * a3 + ((-79228162514264337593543950336) * a4 + (1 * a7 + 0))))) = 0 := he _ (List.mem_cons_of_mem _ (List.mem_cons_of_mem _ (List.mem_cons_of_mem _ (List.mem_cons_of_mem _ (List.mem_cons_of_mem _ (List.mem_cons_of_mem _ List.mem_cons_self))))))
  have e7 : (0 : Int) + (1 * (zk_xe w 204 a5) + ((-1) * (zk_xe w 256 a6) + 0)) = 0 := he _ (List.mem_cons_of_mem _ (List.mem_cons_of_mem _ (List.mem_cons_of_mem _ (List.mem_cons_of_mem _ (List.mem_cons_of_mem _ (List.mem_cons_of_mem _ (List.mem_cons_of_mem _ List.mem_cons_self)))))))
  have e8 : (0 : Int) + (1 * (zk_xe w 205 a5) + ((-1) * (zk_xe w 257 a6) + 0)) = 0 := he _ (List.mem_cons_of_mem _ (List.mem_cons_of_mem _ (List.mem_cons_of_mem _ (List.mem_cons_of_mem _ (List.mem_cons_of_mem _ (List.mem_cons_of_mem _ (List.mem_cons_of_mem _ (List.mem_cons_of_mem _ List.mem_cons_self))))))))
  have g0 : 0 ≤ (0 : Int) + (1 * a1 + 0) := hg _ List.mem_cons_self
  have g1 : 0 ≤ (4294967276 : Int) + ((-1) * a1 + 0) := hg _ (List.mem_cons_of_mem _ List.mem_cons_self)
  have g2 : 0 ≤ (0 : Int) + (1 * a2 + 0) := hg _ (List.mem_cons_of_mem _ (List.mem_cons_of_mem _ List.mem_cons_self))
  have g3 : 0 ≤ (4294967276 : Int) + ((-1) * a2 + 0) := hg _ (List.mem_cons_of_mem _ (List.mem_cons_of_mem _ (List.mem_cons_of_mem _ List.mem_cons_self)))
  have g4 : 0 ≤ (0 : Int) + (1 * a3 + 0) := hg _ (List.mem_cons_of_mem _ (List.mem_cons_of_mem _ (List.mem_cons_of_mem _ (List.mem_cons_of_mem _ List.mem_cons_self))))
  have g5 : 0 ≤ (4294967276 : Int) + ((-1) * a3 + 0) := hg _ (List.mem_cons_of_mem _ (List.mem_cons_of_mem _ (List.mem_cons_of_mem _ (List.mem_cons_of_mem _ (List.mem_cons_of_mem _ List.mem_cons_self)))))
  have g6 : 0 ≤ (0 : Int) + (1 * a4 + 0) := hg _ (List.mem_cons_of_mem _ (List.mem_cons_of_mem _ (List.mem_cons_of_mem _ (List.mem_cons_of_mem _ (List.mem_cons_of_mem _ (List.mem_cons_of_mem _ List.mem_cons_self))))))
  have g7 : 0 ≤ (4294967276 : Int) + ((-1) * a4 + 0) := hg _ (List.mem_cons_of_mem _ (List.mem_cons_of_mem _ (List.mem_cons_of_mem _ (List.mem_cons_of_mem _ (List.mem_cons_of_mem _ (List.mem_cons_of_mem _ (List.mem_cons_of_mem _ List.mem_cons_self)))))))
  have g8 : 0 ≤ (0 : Int) + (1 * (zk_xe w 203 a1) + 0) := hg _ (List.mem_cons_of_mem _ (List.mem_cons_of_mem _ (List.mem_cons_of_mem _ (List.mem_cons_of_mem _ (List.mem_cons_of_mem _ (List.mem_cons_of_mem _ (List.mem_cons_of_mem _ (List.mem_cons_of_mem _ List.mem_cons_self))))))))
  have hp := (zc_160 (w := w) (j := a0) (u := a1) (x := a2) (o := a3) (n := a4) (by omega) (by omega) (by omega) (by omega) (by omega) (by omega) (by omega) (by omega) (by omega) ).mp (by omega)
  have k0 : zh_e w 203 (a1) = zk_xe w 203 a1 := by rw [zk_xe_r (i := 203) (by decide)]; show zk_el w 203 (a1) = zk_el w 203 a1; rw [show a1 = a1 by omega]
  have k2 : zh_e w 204 (600 * a1 + zk_xe w 203 a1) = zk_xe w 204 a5 := by rw [zk_xe_r (i := 204) (by decide)]; show zk_el w 204 (600 * a1 + zk_xe w 203 a1) = zk_el w 204 a5; rw [show 600 * a1 + zk_xe w 203 a1 = a5 by omega]
  have k3 : zh_e w 205 (600 * a1 + zk_xe w 203 a1) = zk_xe w 205 a5 := by rw [zk_xe_r (i := 205) (by decide)]; show zk_el w 205 (600 * a1 + zk_xe w 203 a1) = zk_el w 205 a5; rw [show 600 * a1 + zk_xe w 203 a1 = a5 by omega]
  have k4 : zh_e w 256 (a2 + a3 + 1 - a4) = zk_xe w 256 a6 := by rw [zk_xe_r (i := 256) (by decide)]; show zk_el w 256 (a2 + a3 + 1 - a4) = zk_el w 256 a6; rw [show a2 + a3 + 1 - a4 = a6 by omega]
  have k5 : zh_e w 257 (a2 + a3 + 1 - a4) = zk_xe w 257 a6 := by rw [zk_xe_r (i := 257) (by decide)]; show zk_el w 257 (a2 + a3 + 1 - a4) = zk_el w 257 a6; rw [show a2 + a3 + 1 - a4 = a6 by omega]
  have kS : zh_e w' 203 a1 = zk_xe w 203 a1 + 1 := by
    show zk_el w' 203 a1 = _
    have q : zk_el w' 203 a1 = zk_el w' 203 j := by rw [show a1 = j by omega]
    omega
  have h : zc_rx (zh_e w' 204) (zh_e w' 205) (zh_e w' 256) (zh_e w' 257) a1 (zh_e w' 203 a1) (a2 + 1) a3 a4 := by
    rw [kS, zh_e_g (hw.1 204 (by decide)), zh_e_g (hw.1 205 (by decide)), zh_e_g (hw.1 256 (by decide)), zh_e_g (hw.1 257 (by decide))]
    intro i i0 i1 i2
    by_cases c : i = a2 + a3 + 1 - a4
    · rw [c]
      exact ⟨zk_xe w 203 a1, by omega, by omega, by rw [k2, k4]; omega, by rw [k3, k5]; omega⟩
    · obtain ⟨t, t0, t1, t2, t3⟩ := hp i i0 i1 (by omega)
      exact ⟨t, t0, by omega, t2, t3⟩
  exact (zx_eF1 (by show 0 ≤ (0 : Int) + (1 * a7 + 0); omega) (by show zk_xe w' 2000160 ((0 : Int) + (1 * a7 + 0)) = (1 : Int) + (0); rw [show (0 : Int) + (1 * a7 + 0) = a7 by omega]; exact ((zc_160 (w := w') (j := a7) (u := a1) (x := (a2 + 1)) (o := a3) (n := a4) (by omega) (by omega) (by omega) (by omega) (by omega) (by omega) (by omega) (by omega) (by omega) ).mpr h).trans (by omega)) zx_eF0)
/-- names unlike, numbers in their order, how many (functions 161 to 168) -/
theorem zj_161 {w : zz_W} {j N d h : Int} (e : j = N + 4294967296 * d + 18446744073709551616 * h) (N0 : 0 ≤ N) (N1 : N < 4294967296) (d0 : 0 ≤ d) (d1 : d < 4294967296) (h0 : 0 ≤ h) (h1 : h < 4294967296) : zk_xe w 2000161 j = 1 ↔ zj_dn (zn_l w 173) (zn_l w 174) N (N + 1 + d) h := by
  obtain ⟨x0, x1, x2⟩ := zg_d3 (j := j) (n := N) (k := d) (u := h) (by omega) N0 N1 d0 d1 h0 h1
  rw [show (2000161 : Nat) = 2000000 + 161 from rfl, zk_xe_h]
  have q : zv_H 161 w j = zh_b (zj_dn (zn_l w 173) (zn_l w 174) N (N + 1 + d) h) := by
    show zh_b (zj_dn (zn_l w 173) (zn_l w 174) (zv_dg 0 j) (zv_dg 0 j + 1 + zv_dg 1 j) (zv_dg 2 j)) = _
    rw [x0, x1, x2]
  rw [q]
  exact ⟨zh_b1', zh_b1⟩
theorem zj_162 {w : zz_W} {j N d h : Int} (e : j = N + 4294967296 * d + 18446744073709551616 * h) (N0 : 0 ≤ N) (N1 : N < 4294967296) (d0 : 0 ≤ d) (d1 : d < 4294967296) (h0 : 0 ≤ h) (h1 : h < 4294967296) : zk_xe w 2000162 j = 1 ↔ zj_dn (zn_l w 173) (zn_l w 174) N (N + d) h := by
  obtain ⟨x0, x1, x2⟩ := zg_d3 (j := j) (n := N) (k := d) (u := h) (by omega) N0 N1 d0 d1 h0 h1
  rw [show (2000162 : Nat) = 2000000 + 162 from rfl, zk_xe_h]
  have q : zv_H 162 w j = zh_b (zj_dn (zn_l w 173) (zn_l w 174) N (N + d) h) := by
    show zh_b (zj_dn (zn_l w 173) (zn_l w 174) (zv_dg 0 j) (zv_dg 0 j + zv_dg 1 j) (zv_dg 2 j)) = _
    rw [x0, x1, x2]
  rw [q]
  exact ⟨zh_b1', zh_b1⟩
theorem zj_163 {w : zz_W} {j l h a b : Int} (e : j = l + 4294967296 * h + 18446744073709551616 * (a + 9223372036854775808) + 340282366920938463463374607431768211456 * (b + 9223372036854775808)) (l0 : 0 ≤ l) (l1 : l < 4294967296) (h0 : 0 ≤ h) (h1 : h < 4294967296) (a0 : -9223372036854775808 ≤ a) (a1 : a < 9223372036854775808) (b0 : -9223372036854775808 ≤ b) : zk_xe w 2000163 j = 1 ↔ zj_u (zn_l w 173) (zn_l w 174) l h a b := by
  rw [show (2000163 : Nat) = 2000000 + 163 from rfl, zk_xe_h]
  have q1 : j % 4294967296 = l := by omega
  have q2 : j / 4294967296 % 4294967296 = h := by omega
  have q4 : j / 18446744073709551616 % 18446744073709551616 - 9223372036854775808 = a := by omega
  have q5 : j / 18446744073709551616 / 18446744073709551616 - 9223372036854775808 = b := by omega
  have q : zv_H 163 w j = zh_b (zj_u (zn_l w 173) (zn_l w 174) l h a b) := by
    show zh_b (zj_u (zn_l w 173) (zn_l w 174) (j % 4294967296) (j / 4294967296 % 4294967296) (j / 18446744073709551616 % 18446744073709551616 - 9223372036854775808) (j / 18446744073709551616 / 18446744073709551616 - 9223372036854775808)) = _
    rw [q1, q2, q4, q5]
  rw [q]
  exact ⟨zh_b1', zh_b1⟩
theorem zj_164 {w : zz_W} {j n a b : Int} (e : j = n + 4294967296 * (a + 9223372036854775808) + 79228162514264337593543950336 * (b + 9223372036854775808)) (n0 : 0 ≤ n) (n1 : n < 4294967296) (a0 : -9223372036854775808 ≤ a) (a1 : a < 9223372036854775808) (b0 : -9223372036854775808 ≤ b) : zk_xe w 2000164 j = 1 ↔ zj_u (zn_l w 173) (zn_l w 174) 0 n a b := by
  rw [show (2000164 : Nat) = 2000000 + 164 from rfl, zk_xe_h]
  have q1 : j % 4294967296 = n := by omega
  have q4 : j / 4294967296 % 18446744073709551616 - 9223372036854775808 = a := by omega
  have q5 : j / 4294967296 / 18446744073709551616 - 9223372036854775808 = b := by omega
  have q : zv_H 164 w j = zh_b (zj_u (zn_l w 173) (zn_l w 174) 0 n a b) := by
    show zh_b (zj_u (zn_l w 173) (zn_l w 174) 0 (j % 4294967296) (j / 4294967296 % 18446744073709551616 - 9223372036854775808) (j / 4294967296 / 18446744073709551616 - 9223372036854775808)) = _
    rw [q1, q4, q5]
  rw [q]
  exact ⟨zh_b1', zh_b1⟩
theorem zj_165 {w : zz_W} {j i N : Int} (e : j = i + 4294967296 * N) (i0 : 0 ≤ i) (i1 : i < 4294967296) (N0 : 0 ≤ N) (N1 : N < 4294967296) : zk_xe w 2000165 j = 1 ↔ zj_ij (zh_e w 220) i N := by
  obtain ⟨q0, y0, -⟩ := zm_z1 e i0 i1
  obtain ⟨q1, -, -⟩ := zm_z1 (j := N) (a := N) (b := 0) (by omega) N0 N1
  have h1 : zv_dg 1 j = N := (y0 0).trans q1
  rw [show (2000165 : Nat) = 2000000 + 165 from rfl, zk_xe_h]
  have h : zv_H 165 w j = zh_b (zj_ij (zh_e w 220) i N) := by
    show zh_b (zj_ij (zh_e w 220) (zv_dg 0 j) (zv_dg 1 j)) = _
    rw [q0, h1]
  rw [h]
  exact ⟨zh_b1', zh_b1⟩
theorem zj_166 {w : zz_W} {j h b : Int} (e : j = h + 4294967296 * b) (h0 : 0 ≤ h) (h1 : h < 4294967296) (b0 : 0 ≤ b) (b1 : b < 4294967296) : zk_xe w 2000166 j = 1 ↔ zj_c (zh_e w 220) 0 h.toNat ≤ b := by
  obtain ⟨q0, y0, -⟩ := zm_z1 e h0 h1
  obtain ⟨q1, -, -⟩ := zm_z1 (j := b) (a := b) (b := 0) (by omega) b0 b1
  have x1 : zv_dg 1 j = b := (y0 0).trans q1
  rw [show (2000166 : Nat) = 2000000 + 166 from rfl, zk_xe_h]
  have q : zv_H 166 w j = zh_b (zj_c (zh_e w 220) 0 h.toNat ≤ b) := by
    show zh_b (zj_c (zh_e w 220) 0 (zv_dg 0 j).toNat ≤ zv_dg 1 j) = _
    rw [q0, x1]
  rw [q]
  exact ⟨zh_b1', zh_b1⟩
theorem zj_167 {w : zz_W} {j i N h b : Int} (e : j = i + 4294967296 * N + 18446744073709551616 * h + 79228162514264337593543950336 * b) (i0 : 0 ≤ i) (i1 : i < 4294967296) (N0 : 0 ≤ N) (N1 : N < 4294967296) (h0 : 0 ≤ h) (h1 : h < 4294967296) (b0 : 0 ≤ b) (b1 : b < 4294967296) : zk_xe w 2000167 j = 1 ↔ N + zj_c (zh_e w 220) i (h - i).toNat ≤ b := by
  obtain ⟨d0, d1, d2, d3⟩ := zg_d4 (j := j) (n := i) (k := N) (u := h) (l := b) (by omega) i0 i1 N0 N1 h0 h1 b0 b1
  rw [show (2000167 : Nat) = 2000000 + 167 from rfl, zk_xe_h]
  have q : zv_H 167 w j = zh_b (N + zj_c (zh_e w 220) i (h - i).toNat ≤ b) := by
    show zh_b (zv_dg 1 j + zj_c (zh_e w 220) (zv_dg 0 j) (zv_dg 2 j - zv_dg 0 j).toNat ≤ zv_dg 3 j) = _
    rw [d0, d1, d2, d3]
  rw [q]
  exact ⟨zh_b1', zh_b1⟩
theorem zj_168 {w : zz_W} {j u k : Int} (e : j = u + 4294967296 * k) (u0 : 0 ≤ u) (u1 : u < 4294967296) (k0 : 0 ≤ k) (k1 : k < 4294967296) : zk_xe w 2000168 j = zj_s (zh_e w 208) (8000 * u) k.toNat := by
  obtain ⟨q0, y0, -⟩ := zm_z1 e u0 u1
  obtain ⟨q1, -, -⟩ := zm_z1 (j := k) (a := k) (b := 0) (by omega) k0 k1
  have h1 : zv_dg 1 j = k := (y0 0).trans q1
  rw [show (2000168 : Nat) = 2000000 + 168 from rfl, zk_xe_h]
  show zj_s (zh_e w 208) (8000 * zv_dg 0 j) (zv_dg 1 j).toNat = _
  rw [q0, h1]
theorem zj_c0 {K : Int → Int} : ∀ {n : Nat} {l : Int}, 0 ≤ zj_c K l n
  | 0, _ => Int.le_refl 0
  | n + 1, l => by
    have h := zj_c0 (K := K) (n := n) (l := l + 1)
    show 0 ≤ (if K l = 1 then 1 else 0) + zj_c K (l + 1) n
    split <;> omega
theorem zj_cs {K : Int → Int} : ∀ {n : Nat} {l : Int}, zj_c K l (n + 1) = zj_c K l n + (if K (l + (n : Int)) = 1 then 1 else 0)
  | 0, l => by
    show (if K l = 1 then (1 : Int) else 0) + 0 = 0 + (if K (l + ((0 : Nat) : Int)) = 1 then 1 else 0)
    rw [show l + ((0 : Nat) : Int) = l by omega]
    omega
  | n + 1, l => by
    have h := zj_cs (K := K) (n := n) (l := l + 1)
    show (if K l = 1 then (1 : Int) else 0) + zj_c K (l + 1) (n + 1) = ((if K l = 1 then 1 else 0) + zj_c K (l + 1) n) + (if K (l + ((n + 1 : Nat) : Int)) = 1 then 1 else 0)
    rw [h, show l + 1 + (n : Int) = l + ((n + 1 : Nat) : Int) by omega]
    omega
/-- elsewhere alike -/
theorem zj_ce {K K' : Int → Int} : ∀ {n : Nat} {l : Int}, (∀ i, l ≤ i → i < l + (n : Int) → K' i = K i) → zj_c K' l n = zj_c K l n
  | 0, _, _ => rfl
  | n + 1, l, h => by
    have q := zj_ce (K := K) (K' := K') (n := n) (l := l + 1) (fun i i0 i1 => h i (by omega) (by omega))
    show (if K' l = 1 then (1 : Int) else 0) + zj_c K' (l + 1) n = (if K l = 1 then 1 else 0) + zj_c K (l + 1) n
    rw [q, h l (by omega) (by omega)]
/-- one place is set -/
theorem zj_cw {K K' : Int → Int} {j : Int} : ∀ {n : Nat} {l : Int}, (∀ i, l ≤ i → i ≠ j → K' i = K i) → zj_c K' l n ≤ zj_c K l n + 1
  | 0, _, _ => by
    show (0 : Int) ≤ 0 + 1
    decide
  | n + 1, l, h => by
    show (if K' l = 1 then (1 : Int) else 0) + zj_c K' (l + 1) n ≤ (if K l = 1 then 1 else 0) + zj_c K (l + 1) n + 1
    by_cases c : l = j
    · have q := zj_ce (K := K) (K' := K') (n := n) (l := l + 1) (fun i i0 i1 => h i (by omega) (by omega))
      rw [q]
      split <;> split <;> omega
    · have q := zj_cw (K := K) (K' := K') (j := j) (n := n) (l := l + 1) (fun i i0 i1 => h i (by omega) i1)
      rw [h l (Int.le_refl l) c]
      split <;> omega
theorem zj_s0 {Q : Int → Int} {b : Int} : ∀ {n m : Nat}, zj_s Q b n ≤ zj_s Q b (n + m)
  | _, 0 => Int.le_refl _
  | n, m + 1 => by
    have h := zj_s0 (Q := Q) (b := b) (n := n) (m := m)
    show zj_s Q b n ≤ zj_s Q b (n + m) + zh_b (zj_nm (Q (b + ((n + m : Nat) : Int))))
    by_cases c : zj_nm (Q (b + ((n + m : Nat) : Int)))
    · rw [zh_b1 c]
      omega
    · rw [zh_b0 c]
      omega
theorem zj_sn {Q : Int → Int} {b k : Int} (k0 : 0 ≤ k) : zj_s Q b (k + 1).toNat = zj_s Q b k.toNat + zh_b (zj_nm (Q (b + k))) := by
  rw [show (k + 1).toNat = k.toNat + 1 by omega]
  show zj_s Q b k.toNat + zh_b (zj_nm (Q (b + ((k.toNat : Nat) : Int)))) = _
  rw [show ((k.toNat : Nat) : Int) = k by omega]
def zx_D1120 : zx_L := zx_Lc [] 5 [(2000164, 0), (2000082, 4), (2000083, 4)] [] [((0, 730750818665451459141456497615273678624738246656), [(0, 1, 0), (1, 0, 1), (2, 0, 4294967296), (3, 0, 79228162514264337593543950336)]), ((0, 1), [(5, 1, 0)]), ((0, 0), [(2, 0, 1), (6, 1, 0)]), ((0, 0), [(3, 0, 1), (7, 1, 0)])] [((0, 0), [(1, 1, 0)]), ((4294967276, 0), [(1, 0, 1)]), ((9223372036854775808, 0), [(2, 1, 0)]), ((9223372036854775807, 0), [(2, 0, 1)]), ((9223372036854775808, 0), [(3, 1, 0)]), ((9223372036854775807, 0), [(3, 0, 1)]), ((0, 0), [(4, 1, 0)]), ((0, 1), [(1, 1, 0), (4, 0, 1)])] [([], [((0, 1), [])], [], [])]
theorem zx_D1120_ok {PT : Nat → zz_W → Prop} : zx_Lok 64 zHT PT zx_D1120 := by
  refine zx_Lc_ok (fun w hI hK ins hl hr he hg => ?_)
  obtain ⟨a0, a1, a2, a3, a4, rfl⟩ := zx_i5 hl
  have e0 : ((-730750818665451459141456497615273678624738246656) : Int) + (1 * a0 + ((-1) * a1 + ((-4294967296) * a2 + ((-79228162514264337593543950336) * a3 + 0)))) = 0 := he _ List.mem_cons_self
  have e1 : ((-1) : Int) + (1 * (zk_xe w 2000164 a0) + 0) = 0 := he _ (List.mem_cons_of_mem _ List.mem_cons_self)
  have e2 : (0 : Int) + ((-1) * a2 + (1 * (zk_xe w 2000082 a4) + 0)) = 0 := he _ (List.mem_cons_of_mem _ (List.mem_cons_of_mem _ List.mem_cons_self))
  have e3 : (0 : Int) + ((-1) * a3 + (1 * (zk_xe w 2000083 a4) + 0)) = 0 := he _ (List.mem_cons_of_mem _ (List.mem_cons_of_mem _ (List.mem_cons_of_mem _ List.mem_cons_self)))
  have g0 : 0 ≤ (0 : Int) + (1 * a1 + 0) := hg _ List.mem_cons_self
  have g1 : 0 ≤ (4294967276 : Int) + ((-1) * a1 + 0) := hg _ (List.mem_cons_of_mem _ List.mem_cons_self)
  have g2 : 0 ≤ (9223372036854775808 : Int) + (1 * a2 + 0) := hg _ (List.mem_cons_of_mem _ (List.mem_cons_of_mem _ List.mem_cons_self))
  have g3 : 0 ≤ (9223372036854775807 : Int) + ((-1) * a2 + 0) := hg _ (List.mem_cons_of_mem _ (List.mem_cons_of_mem _ (List.mem_cons_of_mem _ List.mem_cons_self)))
  have g4 : 0 ≤ (9223372036854775808 : Int) + (1 * a3 + 0) := hg _ (List.mem_cons_of_mem _ (List.mem_cons_of_mem _ (List.mem_cons_of_mem _ (List.mem_cons_of_mem _ List.mem_cons_self))))
  have g5 : 0 ≤ (9223372036854775807 : Int) + ((-1) * a3 + 0) := hg _ (List.mem_cons_of_mem _ (List.mem_cons_of_mem _ (List.mem_cons_of_mem _ (List.mem_cons_of_mem _ (List.mem_cons_of_mem _ List.mem_cons_self)))))
  have g6 : 0 ≤ (0 : Int) + (1 * a4 + 0) := hg _ (List.mem_cons_of_mem _ (List.mem_cons_of_mem _ (List.mem_cons_of_mem _ (List.mem_cons_of_mem _ (List.mem_cons_of_mem _ (List.mem_cons_of_mem _ List.mem_cons_self))))))
  have g7 : 0 ≤ ((-1) : Int) + (1 * a1 + ((-1) * a4 + 0)) := hg _ (List.mem_cons_of_mem _ (List.mem_cons_of_mem _ (List.mem_cons_of_mem _ (List.mem_cons_of_mem _ (List.mem_cons_of_mem _ (List.mem_cons_of_mem _ (List.mem_cons_of_mem _ List.mem_cons_self)))))))
  have r0 : 0 ≤ a0 := hr _ List.mem_cons_self
  have r1 : 0 ≤ a4 := hr _ (List.mem_cons_of_mem _ List.mem_cons_self)
  have r2 : 0 ≤ a4 := hr _ (List.mem_cons_of_mem _ (List.mem_cons_of_mem _ List.mem_cons_self))
  have hp := (zj_164 (w := w) (j := a0) (n := a1) (a := a2) (b := a3) (by omega) (by omega) (by omega) (by omega) (by omega) (by omega) ).mp (by omega)
  have x1 := zn_82 (w := w) (i := a4) (j := a4) rfl
  have y1 := zn_83 (w := w) (i := a4) (j := a4) rfl
  exact (hp a4 (by omega) (by omega) (by omega) (by omega) (by omega)).elim
def zx_D1121 : zx_L := zx_Lc [] 8 [(2000162, 0), (2000082, 4), (2000083, 4)] [] [((0, 0), [(0, 1, 0), (1, 0, 1), (2, 0, 4294967296), (3, 0, 18446744073709551616)]), ((0, 1), [(8, 1, 0)]), ((0, 0), [(1, 0, 1), (2, 0, 1), (4, 1, 0)]), ((0, 0), [(1, 0, 1), (2, 0, 4294967296), (3, 0, 18446744073709551616), (5, 1, 0)]), ((0, 730750818665451459141456497615273678624738246656), [(1, 0, 1), (6, 1, 0), (9, 0, 4294967296), (10, 0, 79228162514264337593543950336)]), ((0, 3138550867693340382088035895064302439782865025947901362177), [(3, 0, 4294967296), (4, 0, 1), (7, 1, 0), (9, 0, 18446744073709551616), (10, 0, 340282366920938463463374607431768211456)])] [((0, 0), [(1, 1, 0)]), ((4294967276, 0), [(1, 0, 1)]), ((0, 0), [(2, 1, 0)]), ((4294967276, 0), [(2, 0, 1)]), ((0, 0), [(3, 1, 0)]), ((4294967276, 0), [(3, 0, 1)]), ((0, 0), [(4, 1, 0)]), ((4294967276, 0), [(4, 0, 1)]), ((9223372036854775808, 0), [(9, 1, 0)]), ((9223372036854775807, 0), [(9, 0, 1)]), ((9223372036854775808, 0), [(10, 1, 0)]), ((9223372036854775807, 0), [(10, 0, 1)]), ((0, 1), [(3, 1, 0), (4, 0, 1)])] [([], [], [(2000161, ((0, 0), [(5, 1, 0)]), ((1, 0), [])), (2000164, ((0, 0), [(6, 1, 0)]), ((1, 0), [])), (2000163, ((0, 0), [(7, 1, 0)]), ((1, 0), []))], [])]
theorem zx_D1121_ok {PT : Nat → zz_W → Prop} : zx_Lok 64 zHT PT zx_D1121 := by
  refine zx_Lc_ok (fun w hI hK ins hl hr he hg => ?_)
  obtain ⟨a0, a1, a2, a3, a4, a5, a6, a7, rfl⟩ := zx_i8 hl
  have e0 : (0 : Int) + (1 * a0 + ((-1) * a1 + ((-4294967296) * a2 + ((-18446744073709551616) * a3 + 0)))) = 0 := he _ List.mem_cons_self
  have e1 : ((-1) : Int) + (1 * (zk_xe w 2000162 a0) + 0) = 0 := he _ (List.mem_cons_of_mem _ List.mem_cons_self)
  have e2 : (0 : Int) + ((-1) * a1 + ((-1) * a2 + (1 * a4 + 0))) = 0 := he _ (List.mem_cons_of_mem _ (List.mem_cons_of_mem _ List.mem_cons_self))
  have e3 : (0 : Int) + ((-1) * a1 + ((-4294967296) * a2 + ((-18446744073709551616) * a3 + (1 * a5 + 0)))) = 0 := he _ (List.mem_cons_of_mem _ (List.mem_cons_of_mem _ (List.mem_cons_of_mem _ List.mem_cons_self)))
  have e4 : ((-730750818665451459141456497615273678624738246656) : Int) + ((-1) * a1 + (1 * a6 + ((-4294967296) * (zk_xe w 2000082 a4) + ((-79228162514264337593543950336) * (zk_xe w 2000083 a4) + 0)))) = 0 := he _ (List.mem_cons_of_mem _ (List.mem_cons_of_mem _ (List.mem_cons_of_mem _ (List.mem_cons_of_mem _ List.mem_cons_self))))
  have e5 : ((-3138550867693340382088035895064302439782865025947901362177) : Int) + ((-4294967296) * a3 + ((-1) * a4 + (1 * a7 + ((-18446744073709551616) * (zk_xe w 2000082 a4) + ((-340282366920938463463374607431768211456) * (zk_xe w 2000083 a4) + 0))))) = 0 := he _ (List.mem_cons_of_mem _ (List.mem_cons_of_mem _ (List.mem_cons_of_mem _ (List.mem_cons_of_mem _ (List.mem_cons_of_mem _ List.mem_cons_self)))))
  have g0 : 0 ≤ (0 : Int) + (1 * a1 + 0) := hg _ List.mem_cons_self
  have g1 : 0 ≤ (4294967276 : Int) + ((-1) * a1 + 0) := hg _ (List.mem_cons_of_mem _ List.mem_cons_self)
  have g2 : 0 ≤ (0 : Int) + (1 * a2 + 0) := hg _ (List.mem_cons_of_mem _ (List.mem_cons_of_mem _ List.mem_cons_self))
  have g3 : 0 ≤ (4294967276 : Int) + ((-1) * a2 + 0) := hg _ (List.mem_cons_of_mem _ (List.mem_cons_of_mem _ (List.mem_cons_of_mem _ List.mem_cons_self)))
  have g4 : 0 ≤ (0 : Int) + (1 * a3 + 0) := hg _ (List.mem_cons_of_mem _ (List.mem_cons_of_mem _ (List.mem_cons_of_mem _ (List.mem_cons_of_mem _ List.mem_cons_self))))
  have g5 : 0 ≤ (4294967276 : Int) + ((-1) * a3 + 0) := hg _ (List.mem_cons_of_mem _ (List.mem_cons_of_mem _ (List.mem_cons_of_mem _ (List.mem_cons_of_mem _ (List.mem_cons_of_mem _ List.mem_cons_self)))))
  have g6 : 0 ≤ (0 : Int) + (1 * a4 + 0) := hg _ (List.mem_cons_of_mem _ (List.mem_cons_of_mem _ (List.mem_cons_of_mem _ (List.mem_cons_of_mem _ (List.mem_cons_of_mem _ (List.mem_cons_of_mem _ List.mem_cons_self))))))
  have g7 : 0 ≤ (4294967276 : Int) + ((-1) * a4 + 0) := hg _ (List.mem_cons_of_mem _ (List.mem_cons_of_mem _ (List.mem_cons_of_mem _ (List.mem_cons_of_mem _ (List.mem_cons_of_mem _ (List.mem_cons_of_mem _ (List.mem_cons_of_mem _ List.mem_cons_self)))))))
  have g8 : 0 ≤ (9223372036854775808 : Int) + (1 * (zk_xe w 2000082 a4) + 0) := hg _ (List.mem_cons_of_mem _ (List.mem_cons_of_mem _ (List.mem_cons_of_mem _ (List.mem_cons_of_mem _ (List.mem_cons_of_mem _ (List.mem_cons_of_mem _ (List.mem_cons_of_mem _ (List.mem_cons_of_mem _ List.mem_cons_self))))))))
  have g9 : 0 ≤ (9223372036854775807 : Int) + ((-1) * (zk_xe w 2000082 a4) + 0) := hg _ (List.mem_cons_of_mem _ (List.mem_cons_of_mem _ (List.mem_cons_of_mem _ (List.mem_cons_of_mem _ (List.mem_cons_of_mem _ (List.mem_cons_of_mem _ (List.mem_cons_of_mem _ (List.mem_cons_of_mem _ (List.mem_cons_of_mem _ List.mem_cons_self)))))))))
  have g10 : 0 ≤ (9223372036854775808 : Int) + (1 * (zk_xe w 2000083 a4) + 0) := hg _ (List.mem_cons_of_mem _ (List.mem_cons_of_mem _ (List.mem_cons_of_mem _ (List.mem_cons_of_mem _ (List.mem_cons_of_mem _ (List.mem_cons_of_mem _ (List.mem_cons_of_mem _ (List.mem_cons_of_mem _ (List.mem_cons_of_mem _ (List.mem_cons_of_mem _ List.mem_cons_self))))))))))
  have g11 : 0 ≤ (9223372036854775807 : Int) + ((-1) * (zk_xe w 2000083 a4) + 0) := hg _ (List.mem_cons_of_mem _ (List.mem_cons_of_mem _ (List.mem_cons_of_mem _ (List.mem_cons_of_mem _ (List.mem_cons_of_mem _ (List.mem_cons_of_mem _ (List.mem_cons_of_mem _ (List.mem_cons_of_mem _ (List.mem_cons_of_mem _ (List.mem_cons_of_mem _ (List.mem_cons_of_mem _ List.mem_cons_self)))))))))))
  have g12 : 0 ≤ ((-1) : Int) + (1 * a3 + ((-1) * a4 + 0)) := hg _ (List.mem_cons_of_mem _ (List.mem_cons_of_mem _ (List.mem_cons_of_mem _ (List.mem_cons_of_mem _ (List.mem_cons_of_mem _ (List.mem_cons_of_mem _ (List.mem_cons_of_mem _ (List.mem_cons_of_mem _ (List.mem_cons_of_mem _ (List.mem_cons_of_mem _ (List.mem_cons_of_mem _ (List.mem_cons_of_mem _ List.mem_cons_self))))))))))))
  have r0 : 0 ≤ a0 := hr _ List.mem_cons_self
  have r1 : 0 ≤ a4 := hr _ (List.mem_cons_of_mem _ List.mem_cons_self)
  have r2 : 0 ≤ a4 := hr _ (List.mem_cons_of_mem _ (List.mem_cons_of_mem _ List.mem_cons_self))
  have hp := (zj_162 (w := w) (j := a0) (N := a1) (d := a2) (h := a3) (by omega) (by omega) (by omega) (by omega) (by omega) (by omega) (by omega) ).mp (by omega)
  have x1 := zn_82 (w := w) (i := a4) (j := a4) rfl
  have y1 := zn_83 (w := w) (i := a4) (j := a4) rfl
  have h1 : zj_dn (zn_l w 173) (zn_l w 174) a1 (a1 + 1 + a2) a3 := ⟨fun j n j0 j1 n0 n1 => hp.1 j n j0 j1 (by omega) n1, fun n m z0 n0 n1 m1 => hp.2 n m z0 (by omega) n1 m1⟩
  have h2 : zj_u (zn_l w 173) (zn_l w 174) 0 a1 (zk_xe w 2000082 a4) (zk_xe w 2000083 a4) := fun n z0 n0 n1 qa qb => hp.1 n a4 z0 n1 (by omega) (by omega) (qa.trans x1) (qb.trans y1)
  have h3 : zj_u (zn_l w 173) (zn_l w 174) (a4 + 1) a3 (zk_xe w 2000082 a4) (zk_xe w 2000083 a4) := fun n z0 n0 n1 qa qb => hp.2 a4 n (by omega) (by omega) (by omega) n1 (x1.symm.trans qa.symm) (y1.symm.trans qb.symm)
  exact ⟨_, List.mem_cons_self, [], rfl, zx_bnil, zx_cs0, (zx_eF1 (by show 0 ≤ (0 : Int) + (1 * a5 + 0); omega) (by show zk_xe w 2000161 ((0 : Int) + (1 * a5 + 0)) = (1 : Int) + (0); rw [show (0 : Int) + (1 * a5 + 0) = a5 by omega]; exact ((zj_161 (w := w) (j := a5) (N := a1) (d := a2) (h := a3) (by omega) (by omega) (by omega) (by omega) (by omega) (by omega) (by omega) ).mpr h1).trans (by omega)) (zx_eF1 (by show 0 ≤ (0 : Int) + (1 * a6 + 0); omega) (by show zk_xe w 2000164 ((0 : Int) + (1 * a6 + 0)) = (1 : Int) + (0); rw [show (0 : Int) + (1 * a6 + 0) = a6 by omega]; exact ((zj_164 (w := w) (j := a6) (n := a1) (a := (zk_xe w 2000082 a4)) (b := (zk_xe w 2000083 a4)) (by omega) (by omega) (by omega) (by omega) (by omega) (by omega) ).mpr h2).trans (by omega)) (zx_eF1 (by show 0 ≤ (0 : Int) + (1 * a7 + 0); omega) (by show zk_xe w 2000163 ((0 : Int) + (1 * a7 + 0)) = (1 : Int) + (0); rw [show (0 : Int) + (1 * a7 + 0) = a7 by omega]; exact ((zj_163 (w := w) (j := a7) (l := (a4 + 1)) (h := a3) (a := (zk_xe w 2000082 a4)) (b := (zk_xe w 2000083 a4)) (by omega) (by omega) (by omega) (by omega) (by omega) (by omega) (by omega) (by omega) ).mpr h3).trans (by omega)) zx_eF0))), zx_k0⟩
def zx_D1122 : zx_L := zx_Lc [] 8 [(2000161, 0), (2000163, 4), (2000082, 1), (2000083, 1)] [] [((0, 0), [(0, 1, 0), (1, 0, 1), (2, 0, 4294967296), (3, 0, 18446744073709551616)]), ((0, 1), [(8, 1, 0)]), ((0, 3138550867693340382088035895064302439782865025947901362177), [(1, 0, 1), (2, 0, 1), (3, 0, 4294967296), (4, 1, 0), (5, 0, 18446744073709551616), (6, 0, 340282366920938463463374607431768211456)]), ((0, 1), [(9, 1, 0)]), ((0, 0), [(5, 0, 1), (10, 1, 0)]), ((0, 0), [(6, 0, 1), (11, 1, 0)]), ((0, 1), [(1, 0, 1), (2, 0, 4294967296), (3, 0, 18446744073709551616), (7, 1, 0)])] [((0, 0), [(1, 1, 0)]), ((4294967276, 0), [(1, 0, 1)]), ((0, 0), [(2, 1, 0)]), ((4294967276, 0), [(2, 0, 1)]), ((0, 0), [(3, 1, 0)]), ((4294967276, 0), [(3, 0, 1)]), ((9223372036854775808, 0), [(5, 1, 0)]), ((9223372036854775807, 0), [(5, 0, 1)]), ((9223372036854775808, 0), [(6, 1, 0)]), ((9223372036854775807, 0), [(6, 0, 1)]), ((4294967275, 0), [(1, 0, 1), (2, 0, 1)])] [([], [], [(2000162, ((0, 0), [(7, 1, 0)]), ((1, 0), []))], [])]
theorem zx_D1122_ok {PT : Nat → zz_W → Prop} : zx_Lok 64 zHT PT zx_D1122 := by
  refine zx_Lc_ok (fun w hI hK ins hl hr he hg => ?_)
  obtain ⟨a0, a1, a2, a3, a4, a5, a6, a7, rfl⟩ := zx_i8 hl
  have e0 : (0 : Int) + (1 * a0 + ((-1) * a1 + ((-4294967296) * a2 + ((-18446744073709551616) * a3 + 0)))) = 0 := he _ List.mem_cons_self
  have e1 : ((-1) : Int) + (1 * (zk_xe w 2000161 a0) + 0) = 0 := he _ (List.mem_cons_of_mem _ List.mem_cons_self)
  have e2 : ((-3138550867693340382088035895064302439782865025947901362177) : Int) + ((-1) * a1 + ((-1) * a2 + ((-4294967296) * a3 + (1 * a4 + ((-18446744073709551616) * a5 + ((-340282366920938463463374607431768211456) * a6 + 0)))))) = 0 := he _ (List.mem_cons_of_mem _ (List.mem_cons_of_mem _ List.mem_cons_self))
  have e3 : ((-1) : Int) + (1 * (zk_xe w 2000163 a4) + 0) = 0 := he _ (List.mem_cons_of_mem _ (List.mem_cons_of_mem _ (List.mem_cons_of_mem _ List.mem_cons_self)))
  have e4 : (0 : Int) + ((-1) * a5 + (1 * (zk_xe w 2000082 a1) + 0)) = 0 := he _ (List.mem_cons_of_mem _ (List.mem_cons_of_mem _ (List.mem_cons_of_mem _ (List.mem_cons_of_mem _ List.mem_cons_self))))
  have e5 : (0 : Int) + ((-1) * a6 + (1 * (zk_xe w 2000083 a1) + 0)) = 0 := he _ (List.mem_cons_of_mem _ (List.mem_cons_of_mem _ (List.mem_cons_of_mem _ (List.mem_cons_of_mem _ (List.mem_cons_of_mem _ List.mem_cons_self)))))
  have e6 : ((-1) : Int) + ((-1) * a1 + ((-4294967296) * a2 + ((-18446744073709551616) * a3 + (1 * a7 + 0)))) = 0 := he _ (List.mem_cons_of_mem _ (List.mem_cons_of_mem _ (List.mem_cons_of_mem _ (List.mem_cons_of_mem _ (List.mem_cons_of_mem _ (List.mem_cons_of_mem _ List.mem_cons_self))))))
  have g0 : 0 ≤ (0 : Int) + (1 * a1 + 0) := hg _ List.mem_cons_self
  have g1 : 0 ≤ (4294967276 : Int) + ((-1) * a1 + 0) := hg _ (List.mem_cons_of_mem _ List.mem_cons_self)
  have g2 : 0 ≤ (0 : Int) + (1 * a2 + 0) := hg _ (List.mem_cons_of_mem _ (List.mem_cons_of_mem _ List.mem_cons_self))
  have g3 : 0 ≤ (4294967276 : Int) + ((-1) * a2 + 0) := hg _ (List.mem_cons_of_mem _ (List.mem_cons_of_mem _ (List.mem_cons_of_mem _ List.mem_cons_self)))
  have g4 : 0 ≤ (0 : Int) + (1 * a3 + 0) := hg _ (List.mem_cons_of_mem _ (List.mem_cons_of_mem _ (List.mem_cons_of_mem _ (List.mem_cons_of_mem _ List.mem_cons_self))))
  have g5 : 0 ≤ (4294967276 : Int) + ((-1) * a3 + 0) := hg _ (List.mem_cons_of_mem _ (List.mem_cons_of_mem _ (List.mem_cons_of_mem _ (List.mem_cons_of_mem _ (List.mem_cons_of_mem _ List.mem_cons_self)))))
  have g6 : 0 ≤ (9223372036854775808 : Int) + (1 * a5 + 0) := hg _ (List.mem_cons_of_mem _ (List.mem_cons_of_mem _ (List.mem_cons_of_mem _ (List.mem_cons_of_mem _ (List.mem_cons_of_mem _ (List.mem_cons_of_mem _ List.mem_cons_self))))))
  have g7 : 0 ≤ (9223372036854775807 : Int) + ((-1) * a5 + 0) := hg _ (List.mem_cons_of_mem _ (List.mem_cons_of_mem _ (List.mem_cons_of_mem _ (List.mem_cons_of_mem _ (List.mem_cons_of_mem _ (List.mem_cons_of_mem _ (List.mem_cons_of_mem _ List.mem_cons_self)))))))
  have g8 : 0 ≤ (9223372036854775808 : Int) + (1 * a6 + 0) := hg _ (List.mem_cons_of_mem _ (List.mem_cons_of_mem _ (List.mem_cons_of_mem _ (List.mem_cons_of_mem _ (List.mem_cons_of_mem _ (List.mem_cons_of_mem _ (List.mem_cons_of_mem _ (List.mem_cons_of_mem _ List.mem_cons_self))))))))
  have g9 : 0 ≤ (9223372036854775807 : Int) + ((-1) * a6 + 0) := hg _ (List.mem_cons_of_mem _ (List.mem_cons_of_mem _ (List.mem_cons_of_mem _ (List.mem_cons_of_mem _ (List.mem_cons_of_mem _ (List.mem_cons_of_mem _ (List.mem_cons_of_mem _ (List.mem_cons_of_mem _ (List.mem_cons_of_mem _ List.mem_cons_self)))))))))
  have g10 : 0 ≤ (4294967275 : Int) + ((-1) * a1 + ((-1) * a2 + 0)) := hg _ (List.mem_cons_of_mem _ (List.mem_cons_of_mem _ (List.mem_cons_of_mem _ (List.mem_cons_of_mem _ (List.mem_cons_of_mem _ (List.mem_cons_of_mem _ (List.mem_cons_of_mem _ (List.mem_cons_of_mem _ (List.mem_cons_of_mem _ (List.mem_cons_of_mem _ List.mem_cons_self))))))))))
  have r0 : 0 ≤ a0 := hr _ List.mem_cons_self
  have r1 : 0 ≤ a4 := hr _ (List.mem_cons_of_mem _ List.mem_cons_self)
  have r2 : 0 ≤ a1 := hr _ (List.mem_cons_of_mem _ (List.mem_cons_of_mem _ List.mem_cons_self))
  have r3 : 0 ≤ a1 := hr _ (List.mem_cons_of_mem _ (List.mem_cons_of_mem _ (List.mem_cons_of_mem _ List.mem_cons_self)))
  have hp := (zj_161 (w := w) (j := a0) (N := a1) (d := a2) (h := a3) (by omega) (by omega) (by omega) (by omega) (by omega) (by omega) (by omega) ).mp (by omega)
  have hu := (zj_163 (w := w) (j := a4) (l := (a1 + 1 + a2)) (h := a3) (a := a5) (b := a6) (by omega) (by omega) (by omega) (by omega) (by omega) (by omega) (by omega) (by omega) ).mp (by omega)
  have x1 := zn_82 (w := w) (i := a1) (j := a1) rfl
  have y1 := zn_83 (w := w) (i := a1) (j := a1) rfl
  have h : zj_dn (zn_l w 173) (zn_l w 174) (a1 + 1) (a1 + 1 + a2) a3 := by
    refine ⟨fun j n j0 j1 n0 n1 qa qb => ?_, hp.2⟩
    by_cases c : j = a1
    · rw [c, ← x1] at qa
      rw [c, ← y1] at qb
      exact hu n (by omega) n0 n1 (by omega) (by omega)
    · exact hp.1 j n j0 (by omega) n0 n1 qa qb
  exact ⟨_, List.mem_cons_self, [], rfl, zx_bnil, zx_cs0, (zx_eF1 (by show 0 ≤ (0 : Int) + (1 * a7 + 0); omega) (by show zk_xe w 2000162 ((0 : Int) + (1 * a7 + 0)) = (1 : Int) + (0); rw [show (0 : Int) + (1 * a7 + 0) = a7 by omega]; exact ((zj_162 (w := w) (j := a7) (N := (a1 + 1)) (d := a2) (h := a3) (by omega) (by omega) (by omega) (by omega) (by omega) (by omega) (by omega) ).mpr h).trans (by omega)) zx_eF0), zx_k0⟩
def zx_D1123 : zx_L := zx_Lc [] 5 [(2000162, 0)] [] [((0, 0), [(0, 1, 0), (1, 0, 1), (2, 0, 4294967296), (3, 0, 18446744073709551616)]), ((0, 1), [(5, 1, 0)]), ((0, 4294967296), [(1, 0, 1), (2, 0, 4294967296), (3, 0, 18446744073709551616), (4, 1, 0)])] [((0, 0), [(1, 1, 0)]), ((4294967276, 0), [(1, 0, 1)]), ((0, 0), [(2, 1, 0)]), ((4294967276, 0), [(2, 0, 1)]), ((0, 0), [(3, 1, 0)]), ((4294967276, 0), [(3, 0, 1)])] [([], [], [(2000162, ((0, 0), [(4, 1, 0)]), ((1, 0), []))], [])]
theorem zx_D1123_ok {PT : Nat → zz_W → Prop} : zx_Lok 64 zHT PT zx_D1123 := by
  refine zx_Lc_ok (fun w hI hK ins hl hr he hg => ?_)
  obtain ⟨a0, a1, a2, a3, a4, rfl⟩ := zx_i5 hl
  have e0 : (0 : Int) + (1 * a0 + ((-1) * a1 + ((-4294967296) * a2 + ((-18446744073709551616) * a3 + 0)))) = 0 := he _ List.mem_cons_self
  have e1 : ((-1) : Int) + (1 * (zk_xe w 2000162 a0) + 0) = 0 := he _ (List.mem_cons_of_mem _ List.mem_cons_self)
  have e2 : ((-4294967296) : Int) + ((-1) * a1 + ((-4294967296) * a2 + ((-18446744073709551616) * a3 + (1 * a4 + 0)))) = 0 := he _ (List.mem_cons_of_mem _ (List.mem_cons_of_mem _ List.mem_cons_self))
  have g0 : 0 ≤ (0 : Int) + (1 * a1 + 0) := hg _ List.mem_cons_self
  have g1 : 0 ≤ (4294967276 : Int) + ((-1) * a1 + 0) := hg _ (List.mem_cons_of_mem _ List.mem_cons_self)
  have g2 : 0 ≤ (0 : Int) + (1 * a2 + 0) := hg _ (List.mem_cons_of_mem _ (List.mem_cons_of_mem _ List.mem_cons_self))
  have g3 : 0 ≤ (4294967276 : Int) + ((-1) * a2 + 0) := hg _ (List.mem_cons_of_mem _ (List.mem_cons_of_mem _ (List.mem_cons_of_mem _ List.mem_cons_self)))
  have g4 : 0 ≤ (0 : Int) + (1 * a3 + 0) := hg _ (List.mem_cons_of_mem _ (List.mem_cons_of_mem _ (List.mem_cons_of_mem _ (List.mem_cons_of_mem _ List.mem_cons_self))))
  have g5 : 0 ≤ (4294967276 : Int) + ((-1) * a3 + 0) := hg _ (List.mem_cons_of_mem _ (List.mem_cons_of_mem _ (List.mem_cons_of_mem _ (List.mem_cons_of_mem _ (List.mem_cons_of_mem _ List.mem_cons_self)))))
  have r0 : 0 ≤ a0 := hr _ List.mem_cons_self
  have hp := (zj_162 (w := w) (j := a0) (N := a1) (d := a2) (h := a3) (by omega) (by omega) (by omega) (by omega) (by omega) (by omega) (by omega) ).mp (by omega)
  have h : zj_dn (zn_l w 173) (zn_l w 174) a1 (a1 + (a2 + 1)) a3 := ⟨fun j n j0 j1 n0 n1 => hp.1 j n j0 j1 (by omega) n1, fun n m z0 n0 n1 m1 => hp.2 n m z0 (by omega) n1 m1⟩
  exact ⟨_, List.mem_cons_self, [], rfl, zx_bnil, zx_cs0, (zx_eF1 (by show 0 ≤ (0 : Int) + (1 * a4 + 0); omega) (by show zk_xe w 2000162 ((0 : Int) + (1 * a4 + 0)) = (1 : Int) + (0); rw [show (0 : Int) + (1 * a4 + 0) = a4 by omega]; exact ((zj_162 (w := w) (j := a4) (N := a1) (d := (a2 + 1)) (h := a3) (by omega) (by omega) (by omega) (by omega) (by omega) (by omega) (by omega) ).mpr h).trans (by omega)) zx_eF0), zx_k0⟩
def zx_D1124 : zx_L := zx_Lc [] 3 [(2000084, 0)] [] [((0, 1), [(3, 1, 0)]), ((0, 0), [(0, 0, 1), (1, 1, 0)]), ((0, 0), [(1, 0, 18446744073709551616), (2, 1, 0)])] [((0, 0), [(0, 1, 0)]), ((4294967276, 0), [(0, 0, 1)]), ((0, 0), [(1, 1, 0)]), ((4294967276, 0), [(1, 0, 1)])] [([], [], [(2000162, ((0, 0), [(2, 1, 0)]), ((1, 0), []))], [])]
theorem zx_D1124_ok {PT : Nat → zz_W → Prop} : zx_Lok 64 zHT PT zx_D1124 := by
  refine zx_Lc_ok (fun w hI hK ins hl hr he hg => ?_)
  obtain ⟨a0, a1, a2, rfl⟩ := zx_i3 hl
  have e0 : ((-1) : Int) + (1 * (zk_xe w 2000084 a0) + 0) = 0 := he _ List.mem_cons_self
  have e1 : (0 : Int) + ((-1) * a0 + (1 * a1 + 0)) = 0 := he _ (List.mem_cons_of_mem _ List.mem_cons_self)
  have e2 : (0 : Int) + ((-18446744073709551616) * a1 + (1 * a2 + 0)) = 0 := he _ (List.mem_cons_of_mem _ (List.mem_cons_of_mem _ List.mem_cons_self))
  have g0 : 0 ≤ (0 : Int) + (1 * a0 + 0) := hg _ List.mem_cons_self
  have g1 : 0 ≤ (4294967276 : Int) + ((-1) * a0 + 0) := hg _ (List.mem_cons_of_mem _ List.mem_cons_self)
  have g2 : 0 ≤ (0 : Int) + (1 * a1 + 0) := hg _ (List.mem_cons_of_mem _ (List.mem_cons_of_mem _ List.mem_cons_self))
  have g3 : 0 ≤ (4294967276 : Int) + ((-1) * a1 + 0) := hg _ (List.mem_cons_of_mem _ (List.mem_cons_of_mem _ (List.mem_cons_of_mem _ List.mem_cons_self)))
  have r0 : 0 ≤ a0 := hr _ List.mem_cons_self
  have hp := (zn_84' (w := w) (j := a0) (by omega) (by omega)).mp (by omega)
  have h : zj_dn (zn_l w 173) (zn_l w 174) 0 (0 + 0) a1 := ⟨fun j n j0 j1 => by omega, fun n m z0 n0 n1 m1 qa qb => hp.2.1 n m z0 n1 (by omega) qa qb⟩
  exact ⟨_, List.mem_cons_self, [], rfl, zx_bnil, zx_cs0, (zx_eF1 (by show 0 ≤ (0 : Int) + (1 * a2 + 0); omega) (by show zk_xe w 2000162 ((0 : Int) + (1 * a2 + 0)) = (1 : Int) + (0); rw [show (0 : Int) + (1 * a2 + 0) = a2 by omega]; exact ((zj_162 (w := w) (j := a2) (N := 0) (d := 0) (h := a1) (by omega) (by omega) (by omega) (by omega) (by omega) (by omega) (by omega) ).mpr h).trans (by omega)) zx_eF0), zx_k0⟩
def zx_D1125 : zx_L := zx_Lc [] 1 [] [] [((0, 0), [(0, 1, 0)])] [] [([], [], [(2000165, ((0, 0), [(0, 1, 0)]), ((1, 0), []))], [])]
theorem zx_D1125_ok {PT : Nat → zz_W → Prop} : zx_Lok 64 zHT PT zx_D1125 := by
  refine zx_Lc_ok (fun w hI hK ins hl hr he hg => ?_)
  obtain ⟨a0, rfl⟩ := zx_i1 hl
  have e0 : (0 : Int) + (1 * a0 + 0) = 0 := he _ List.mem_cons_self
  have h : zj_ij (zh_e w 220) 0 0 := fun m m0 m1 => by omega
  exact ⟨_, List.mem_cons_self, [], rfl, zx_bnil, zx_cs0, (zx_eF1 (by show 0 ≤ (0 : Int) + (1 * a0 + 0); omega) (by show zk_xe w 2000165 ((0 : Int) + (1 * a0 + 0)) = (1 : Int) + (0); rw [show (0 : Int) + (1 * a0 + 0) = a0 by omega]; exact ((zj_165 (w := w) (j := a0) (i := 0) (N := 0) (by omega) (by omega) (by omega) (by omega) (by omega) ).mpr h).trans (by omega)) zx_eF0), zx_k0⟩
def zx_D1126 : zx_L := zx_Lc [] 1 [] [] [((0, 0), [(0, 1, 0)])] [] [([], [], [(2000166, ((0, 0), [(0, 1, 0)]), ((1, 0), []))], [])]
theorem zx_D1126_ok {PT : Nat → zz_W → Prop} : zx_Lok 64 zHT PT zx_D1126 := by
  refine zx_Lc_ok (fun w hI hK ins hl hr he hg => ?_)
  obtain ⟨a0, rfl⟩ := zx_i1 hl
  have e0 : (0 : Int) + (1 * a0 + 0) = 0 := he _ List.mem_cons_self
  have h : zj_c (zh_e w 220) 0 (0 : Int).toNat ≤ 0 := Int.le_refl 0
  exact ⟨_, List.mem_cons_self, [], rfl, zx_bnil, zx_cs0, (zx_eF1 (by show 0 ≤ (0 : Int) + (1 * a0 + 0); omega) (by show zk_xe w 2000166 ((0 : Int) + (1 * a0 + 0)) = (1 : Int) + (0); rw [show (0 : Int) + (1 * a0 + 0) = a0 by omega]; exact ((zj_166 (w := w) (j := a0) (h := 0) (b := 0) (by omega) (by omega) (by omega) (by omega) (by omega) ).mpr h).trans (by omega)) zx_eF0), zx_k0⟩
def zx_D1127 : zx_L := zx_Lc [] 4 [(2000166, 0)] [] [((0, 0), [(0, 1, 0), (1, 0, 1), (2, 0, 4294967296)]), ((0, 1), [(4, 1, 0)]), ((0, 0), [(1, 0, 18446744073709551616), (2, 0, 79228162514264337593543950336), (3, 1, 0)])] [((0, 0), [(1, 1, 0)]), ((4294967276, 0), [(1, 0, 1)]), ((0, 0), [(2, 1, 0)]), ((4294967276, 0), [(2, 0, 1)])] [([], [], [(2000167, ((0, 0), [(3, 1, 0)]), ((1, 0), []))], [])]
theorem zx_D1127_ok {PT : Nat → zz_W → Prop} : zx_Lok 64 zHT PT zx_D1127 := by
  refine zx_Lc_ok (fun w hI hK ins hl hr he hg => ?_)
  obtain ⟨a0, a1, a2, a3, rfl⟩ := zx_i4 hl
  have e0 : (0 : Int) + (1 * a0 + ((-1) * a1 + ((-4294967296) * a2 + 0))) = 0 := he _ List.mem_cons_self
  have e1 : ((-1) : Int) + (1 * (zk_xe w 2000166 a0) + 0) = 0 := he _ (List.mem_cons_of_mem _ List.mem_cons_self)
  have e2 : (0 : Int) + ((-18446744073709551616) * a1 + ((-79228162514264337593543950336) * a2 + (1 * a3 + 0))) = 0 := he _ (List.mem_cons_of_mem _ (List.mem_cons_of_mem _ List.mem_cons_self))
  have g0 : 0 ≤ (0 : Int) + (1 * a1 + 0) := hg _ List.mem_cons_self
  have g1 : 0 ≤ (4294967276 : Int) + ((-1) * a1 + 0) := hg _ (List.mem_cons_of_mem _ List.mem_cons_self)
  have g2 : 0 ≤ (0 : Int) + (1 * a2 + 0) := hg _ (List.mem_cons_of_mem _ (List.mem_cons_of_mem _ List.mem_cons_self))
  have g3 : 0 ≤ (4294967276 : Int) + ((-1) * a2 + 0) := hg _ (List.mem_cons_of_mem _ (List.mem_cons_of_mem _ (List.mem_cons_of_mem _ List.mem_cons_self)))
  have r0 : 0 ≤ a0 := hr _ List.mem_cons_self
  have hp := (zj_166 (w := w) (j := a0) (h := a1) (b := a2) (by omega) (by omega) (by omega) (by omega) (by omega) ).mp (by omega)
  have h : 0 + zj_c (zh_e w 220) 0 (a1 - 0).toNat ≤ a2 := by
    rw [show a1 - 0 = a1 by omega]
    omega
  exact ⟨_, List.mem_cons_self, [], rfl, zx_bnil, zx_cs0, (zx_eF1 (by show 0 ≤ (0 : Int) + (1 * a3 + 0); omega) (by show zk_xe w 2000167 ((0 : Int) + (1 * a3 + 0)) = (1 : Int) + (0); rw [show (0 : Int) + (1 * a3 + 0) = a3 by omega]; exact ((zj_167 (w := w) (j := a3) (i := 0) (N := 0) (h := a1) (b := a2) (by omega) (by omega) (by omega) (by omega) (by omega) (by omega) (by omega) (by omega) (by omega) ).mpr h).trans (by omega)) zx_eF0), zx_k0⟩
def zx_D1128 : zx_L := zx_Lc [] 5 [(2000167, 0)] [] [((0, 0), [(0, 1, 0), (1, 0, 1), (2, 0, 4294967296), (3, 0, 18446744073709551616), (4, 0, 79228162514264337593543950336)]), ((0, 1), [(5, 1, 0)])] [((0, 0), [(1, 1, 0)]), ((4294967276, 0), [(1, 0, 1)]), ((0, 0), [(2, 1, 0)]), ((4294967276, 0), [(2, 0, 1)]), ((0, 0), [(3, 1, 0)]), ((4294967276, 0), [(3, 0, 1)]), ((0, 0), [(4, 1, 0)]), ((4294967276, 0), [(4, 0, 1)])] [([], [((0, 0), [(2, 0, 1), (4, 1, 0)])], [], [])]
theorem zx_D1128_ok {PT : Nat → zz_W → Prop} : zx_Lok 64 zHT PT zx_D1128 := by
  refine zx_Lc_ok (fun w hI hK ins hl hr he hg => ?_)
  obtain ⟨a0, a1, a2, a3, a4, rfl⟩ := zx_i5 hl
  have e0 : (0 : Int) + (1 * a0 + ((-1) * a1 + ((-4294967296) * a2 + ((-18446744073709551616) * a3 + ((-79228162514264337593543950336) * a4 + 0))))) = 0 := he _ List.mem_cons_self
  have e1 : ((-1) : Int) + (1 * (zk_xe w 2000167 a0) + 0) = 0 := he _ (List.mem_cons_of_mem _ List.mem_cons_self)
  have g0 : 0 ≤ (0 : Int) + (1 * a1 + 0) := hg _ List.mem_cons_self
  have g1 : 0 ≤ (4294967276 : Int) + ((-1) * a1 + 0) := hg _ (List.mem_cons_of_mem _ List.mem_cons_self)
  have g2 : 0 ≤ (0 : Int) + (1 * a2 + 0) := hg _ (List.mem_cons_of_mem _ (List.mem_cons_of_mem _ List.mem_cons_self))
  have g3 : 0 ≤ (4294967276 : Int) + ((-1) * a2 + 0) := hg _ (List.mem_cons_of_mem _ (List.mem_cons_of_mem _ (List.mem_cons_of_mem _ List.mem_cons_self)))
  have g4 : 0 ≤ (0 : Int) + (1 * a3 + 0) := hg _ (List.mem_cons_of_mem _ (List.mem_cons_of_mem _ (List.mem_cons_of_mem _ (List.mem_cons_of_mem _ List.mem_cons_self))))
  have g5 : 0 ≤ (4294967276 : Int) + ((-1) * a3 + 0) := hg _ (List.mem_cons_of_mem _ (List.mem_cons_of_mem _ (List.mem_cons_of_mem _ (List.mem_cons_of_mem _ (List.mem_cons_of_mem _ List.mem_cons_self)))))
  have g6 : 0 ≤ (0 : Int) + (1 * a4 + 0) := hg _ (List.mem_cons_of_mem _ (List.mem_cons_of_mem _ (List.mem_cons_of_mem _ (List.mem_cons_of_mem _ (List.mem_cons_of_mem _ (List.mem_cons_of_mem _ List.mem_cons_self))))))
  have g7 : 0 ≤ (4294967276 : Int) + ((-1) * a4 + 0) := hg _ (List.mem_cons_of_mem _ (List.mem_cons_of_mem _ (List.mem_cons_of_mem _ (List.mem_cons_of_mem _ (List.mem_cons_of_mem _ (List.mem_cons_of_mem _ (List.mem_cons_of_mem _ List.mem_cons_self)))))))
  have r0 : 0 ≤ a0 := hr _ List.mem_cons_self
  have hp := (zj_167 (w := w) (j := a0) (i := a1) (N := a2) (h := a3) (b := a4) (by omega) (by omega) (by omega) (by omega) (by omega) (by omega) (by omega) (by omega) (by omega) ).mp (by omega)
  have h := zj_c0 (K := zh_e w 220) (l := a1) (n := (a3 - a1).toNat)
  exact ⟨_, List.mem_cons_self, [], rfl, zx_bnil, (zx_cs1 (by show 0 ≤ (0 : Int) + ((-1) * a2 + (1 * a4 + 0)); omega) zx_cs0), zx_eF0, zx_k0⟩
def zx_D1129 : zx_L := zx_Lc [] 1 [] [] [] [((0, 0), [(0, 1, 0)]), ((4294967276, 0), [(0, 0, 1)])] [([], [], [(2000168, ((0, 0), [(0, 1, 0)]), ((0, 0), []))], [])]
theorem zx_D1129_ok {PT : Nat → zz_W → Prop} : zx_Lok 64 zHT PT zx_D1129 := by
  refine zx_Lc_ok (fun w hI hK ins hl hr he hg => ?_)
  obtain ⟨a0, rfl⟩ := zx_i1 hl
  have g0 : 0 ≤ (0 : Int) + (1 * a0 + 0) := hg _ List.mem_cons_self
  have g1 : 0 ≤ (4294967276 : Int) + ((-1) * a0 + 0) := hg _ (List.mem_cons_of_mem _ List.mem_cons_self)
  have h := zj_168 (w := w) (j := a0) (u := a0) (k := 0) (by omega) (by omega) (by omega) (by omega) (by omega) 
  have h : zk_xe w 2000168 a0 = 0 := h.trans rfl
  exact ⟨_, List.mem_cons_self, [], rfl, zx_bnil, zx_cs0, (zx_eF1 (by show 0 ≤ (0 : Int) + (1 * a0 + 0); omega) (by show zk_xe w 2000168 ((0 : Int) + (1 * a0 + 0)) = (0 : Int) + (0); rw [show (0 : Int) + (1 * a0 + 0) = a0 by omega]; omega) zx_eF0), zx_k0⟩
def zx_D1130 : zx_L := zx_Lc [] 5 [(2000168, 0), (208, 3)] [] [((0, 0), [(0, 1, 0), (1, 0, 1), (2, 0, 4294967296)]), ((0, 0), [(1, 0, 8000), (2, 0, 1), (3, 1, 0)]), ((0, 4294967296), [(1, 0, 1), (2, 0, 4294967296), (4, 1, 0)])] [((0, 0), [(1, 1, 0)]), ((4294967276, 0), [(1, 0, 1)]), ((0, 0), [(2, 1, 0)]), ((4294967276, 0), [(2, 0, 1)]), ((0, 5), [(6, 1, 0)]), ((8, 0), [(6, 0, 1)])] [([], [], [(2000168, ((0, 0), [(4, 1, 0)]), ((1, 0), [(5, 1, 0)]))], [])]
theorem zx_D1130_ok {PT : Nat → zz_W → Prop} : zx_Lok 64 zHT PT zx_D1130 := by
  refine zx_Lc_ok (fun w hI hK ins hl hr he hg => ?_)
  obtain ⟨a0, a1, a2, a3, a4, rfl⟩ := zx_i5 hl
  have e0 : (0 : Int) + (1 * a0 + ((-1) * a1 + ((-4294967296) * a2 + 0))) = 0 := he _ List.mem_cons_self
  have e1 : (0 : Int) + ((-8000) * a1 + ((-1) * a2 + (1 * a3 + 0))) = 0 := he _ (List.mem_cons_of_mem _ List.mem_cons_self)
  have e2 : ((-4294967296) : Int) + ((-1) * a1 + ((-4294967296) * a2 + (1 * a4 + 0))) = 0 := he _ (List.mem_cons_of_mem _ (List.mem_cons_of_mem _ List.mem_cons_self))
  have g0 : 0 ≤ (0 : Int) + (1 * a1 + 0) := hg _ List.mem_cons_self
  have g1 : 0 ≤ (4294967276 : Int) + ((-1) * a1 + 0) := hg _ (List.mem_cons_of_mem _ List.mem_cons_self)
  have g2 : 0 ≤ (0 : Int) + (1 * a2 + 0) := hg _ (List.mem_cons_of_mem _ (List.mem_cons_of_mem _ List.mem_cons_self))
  have g3 : 0 ≤ (4294967276 : Int) + ((-1) * a2 + 0) := hg _ (List.mem_cons_of_mem _ (List.mem_cons_of_mem _ (List.mem_cons_of_mem _ List.mem_cons_self)))
  have g4 : 0 ≤ ((-5) : Int) + (1 * (zk_xe w 208 a3) + 0) := hg _ (List.mem_cons_of_mem _ (List.mem_cons_of_mem _ (List.mem_cons_of_mem _ (List.mem_cons_of_mem _ List.mem_cons_self))))
  have g5 : 0 ≤ (8 : Int) + ((-1) * (zk_xe w 208 a3) + 0) := hg _ (List.mem_cons_of_mem _ (List.mem_cons_of_mem _ (List.mem_cons_of_mem _ (List.mem_cons_of_mem _ (List.mem_cons_of_mem _ List.mem_cons_self)))))
  have r0 : 0 ≤ a0 := hr _ List.mem_cons_self
  have r1 : 0 ≤ a3 := hr _ (List.mem_cons_of_mem _ List.mem_cons_self)
  have h1 := zj_168 (w := w) (j := a0) (u := a1) (k := a2) (by omega) (by omega) (by omega) (by omega) (by omega) 
  have h2 := zj_168 (w := w) (j := a4) (u := a1) (k := (a2 + 1)) (by omega) (by omega) (by omega) (by omega) (by omega) 
  have k0 : zh_e w 208 (8000 * a1 + a2) = zk_xe w 208 a3 := by rw [zk_xe_r (i := 208) (by decide)]; show zk_el w 208 (8000 * a1 + a2) = zk_el w 208 a3; rw [show 8000 * a1 + a2 = a3 by omega]
  rw [zj_sn (by omega), k0, zh_b1 (by unfold zj_nm; omega), ← h1] at h2
  exact ⟨_, List.mem_cons_self, [], rfl, zx_bnil, zx_cs0, (zx_eF1 (by show 0 ≤ (0 : Int) + (1 * a4 + 0); omega) (by show zk_xe w 2000168 ((0 : Int) + (1 * a4 + 0)) = (1 : Int) + (1 * (zk_xe w 2000168 a0) + 0); rw [show (0 : Int) + (1 * a4 + 0) = a4 by omega]; omega) zx_eF0), zx_k0⟩
def zx_D1131 : zx_L := zx_Lc [] 5 [(2000168, 0), (208, 3)] [] [((0, 0), [(0, 1, 0), (1, 0, 1), (2, 0, 4294967296)]), ((0, 0), [(1, 0, 8000), (2, 0, 1), (3, 1, 0)]), ((0, 4294967296), [(1, 0, 1), (2, 0, 4294967296), (4, 1, 0)])] [((0, 0), [(1, 1, 0)]), ((4294967276, 0), [(1, 0, 1)]), ((0, 0), [(2, 1, 0)]), ((4294967276, 0), [(2, 0, 1)]), ((0, 11), [(6, 1, 0)]), ((12, 0), [(6, 0, 1)])] [([], [], [(2000168, ((0, 0), [(4, 1, 0)]), ((1, 0), [(5, 1, 0)]))], [])]
theorem zx_D1131_ok {PT : Nat → zz_W → Prop} : zx_Lok 64 zHT PT zx_D1131 := by
  refine zx_Lc_ok (fun w hI hK ins hl hr he hg => ?_)
  obtain ⟨a0, a1, a2, a3, a4, rfl⟩ := zx_i5 hl
  have e0 : (0 : Int) + (1 * a0 + ((-1) * a1 + ((-4294967296) * a2 + 0))) = 0 := he _ List.mem_cons_self
  have e1 : (0 : Int) + ((-8000) * a1 + ((-1) * a2 + (1 * a3 + 0))) = 0 := he _ (List.mem_cons_of_mem _ List.mem_cons_self)
  have e2 : ((-4294967296) : Int) + ((-1) * a1 + ((-4294967296) * a2 + (1 * a4 + 0))) = 0 := he _ (List.mem_cons_of_mem _ (List.mem_cons_of_mem _ List.mem_cons_self))
  have g0 : 0 ≤ (0 : Int) + (1 * a1 + 0) := hg _ List.mem_cons_self
  have g1 : 0 ≤ (4294967276 : Int) + ((-1) * a1 + 0) := hg _ (List.mem_cons_of_mem _ List.mem_cons_self)
  have g2 : 0 ≤ (0 : Int) + (1 * a2 + 0) := hg _ (List.mem_cons_of_mem _ (List.mem_cons_of_mem _ List.mem_cons_self))
  have g3 : 0 ≤ (4294967276 : Int) + ((-1) * a2 + 0) := hg _ (List.mem_cons_of_mem _ (List.mem_cons_of_mem _ (List.mem_cons_of_mem _ List.mem_cons_self)))
  have g4 : 0 ≤ ((-11) : Int) + (1 * (zk_xe w 208 a3) + 0) := hg _ (List.mem_cons_of_mem _ (List.mem_cons_of_mem _ (List.mem_cons_of_mem _ (List.mem_cons_of_mem _ List.mem_cons_self))))
  have g5 : 0 ≤ (12 : Int) + ((-1) * (zk_xe w 208 a3) + 0) := hg _ (List.mem_cons_of_mem _ (List.mem_cons_of_mem _ (List.mem_cons_of_mem _ (List.mem_cons_of_mem _ (List.mem_cons_of_mem _ List.mem_cons_self)))))
  have r0 : 0 ≤ a0 := hr _ List.mem_cons_self
  have r1 : 0 ≤ a3 := hr _ (List.mem_cons_of_mem _ List.mem_cons_self)
  have h1 := zj_168 (w := w) (j := a0) (u := a1) (k := a2) (by omega) (by omega) (by omega) (by omega) (by omega) 
  have h2 := zj_168 (w := w) (j := a4) (u := a1) (k := (a2 + 1)) (by omega) (by omega) (by omega) (by omega) (by omega) 
  have k0 : zh_e w 208 (8000 * a1 + a2) = zk_xe w 208 a3 := by rw [zk_xe_r (i := 208) (by decide)]; show zk_el w 208 (8000 * a1 + a2) = zk_el w 208 a3; rw [show 8000 * a1 + a2 = a3 by omega]
  rw [zj_sn (by omega), k0, zh_b1 (by unfold zj_nm; omega), ← h1] at h2
  exact ⟨_, List.mem_cons_self, [], rfl, zx_bnil, zx_cs0, (zx_eF1 (by show 0 ≤ (0 : Int) + (1 * a4 + 0); omega) (by show zk_xe w 2000168 ((0 : Int) + (1 * a4 + 0)) = (1 : Int) + (1 * (zk_xe w 2000168 a0) + 0); rw [show (0 : Int) + (1 * a4 + 0) = a4 by omega]; omega) zx_eF0), zx_k0⟩
def zx_D1132 : zx_L := zx_Lc [] 5 [(2000168, 0), (208, 3)] [] [((0, 0), [(0, 1, 0), (1, 0, 1), (2, 0, 4294967296)]), ((0, 0), [(1, 0, 8000), (2, 0, 1), (3, 1, 0)]), ((0, 4294967296), [(1, 0, 1), (2, 0, 4294967296), (4, 1, 0)])] [((0, 0), [(1, 1, 0)]), ((4294967276, 0), [(1, 0, 1)]), ((0, 0), [(2, 1, 0)]), ((4294967276, 0), [(2, 0, 1)]), ((4, 0), [(6, 0, 1)])] [([], [], [(2000168, ((0, 0), [(4, 1, 0)]), ((0, 0), [(5, 1, 0)]))], [])]
theorem zx_D1132_ok {PT : Nat → zz_W → Prop} : zx_Lok 64 zHT PT zx_D1132 := by
  refine zx_Lc_ok (fun w hI hK ins hl hr he hg => ?_)
  obtain ⟨a0, a1, a2, a3, a4, rfl⟩ := zx_i5 hl
  have e0 : (0 : Int) + (1 * a0 + ((-1) * a1 + ((-4294967296) * a2 + 0))) = 0 := he _ List.mem_cons_self
  have e1 : (0 : Int) + ((-8000) * a1 + ((-1) * a2 + (1 * a3 + 0))) = 0 := he _ (List.mem_cons_of_mem _ List.mem_cons_self)
  have e2 : ((-4294967296) : Int) + ((-1) * a1 + ((-4294967296) * a2 + (1 * a4 + 0))) = 0 := he _ (List.mem_cons_of_mem _ (List.mem_cons_of_mem _ List.mem_cons_self))
  have g0 : 0 ≤ (0 : Int) + (1 * a1 + 0) := hg _ List.mem_cons_self
  have g1 : 0 ≤ (4294967276 : Int) + ((-1) * a1 + 0) := hg _ (List.mem_cons_of_mem _ List.mem_cons_self)
  have g2 : 0 ≤ (0 : Int) + (1 * a2 + 0) := hg _ (List.mem_cons_of_mem _ (List.mem_cons_of_mem _ List.mem_cons_self))
  have g3 : 0 ≤ (4294967276 : Int) + ((-1) * a2 + 0) := hg _ (List.mem_cons_of_mem _ (List.mem_cons_of_mem _ (List.mem_cons_of_mem _ List.mem_cons_self)))
  have g4 : 0 ≤ (4 : Int) + ((-1) * (zk_xe w 208 a3) + 0) := hg _ (List.mem_cons_of_mem _ (List.mem_cons_of_mem _ (List.mem_cons_of_mem _ (List.mem_cons_of_mem _ List.mem_cons_self))))
  have r0 : 0 ≤ a0 := hr _ List.mem_cons_self
  have r1 : 0 ≤ a3 := hr _ (List.mem_cons_of_mem _ List.mem_cons_self)
  have h1 := zj_168 (w := w) (j := a0) (u := a1) (k := a2) (by omega) (by omega) (by omega) (by omega) (by omega) 
  have h2 := zj_168 (w := w) (j := a4) (u := a1) (k := (a2 + 1)) (by omega) (by omega) (by omega) (by omega) (by omega) 
  have k0 : zh_e w 208 (8000 * a1 + a2) = zk_xe w 208 a3 := by rw [zk_xe_r (i := 208) (by decide)]; show zk_el w 208 (8000 * a1 + a2) = zk_el w 208 a3; rw [show 8000 * a1 + a2 = a3 by omega]
  rw [zj_sn (by omega), k0, zh_b0 (by unfold zj_nm; omega), ← h1] at h2
  exact ⟨_, List.mem_cons_self, [], rfl, zx_bnil, zx_cs0, (zx_eF1 (by show 0 ≤ (0 : Int) + (1 * a4 + 0); omega) (by show zk_xe w 2000168 ((0 : Int) + (1 * a4 + 0)) = (0 : Int) + (1 * (zk_xe w 2000168 a0) + 0); rw [show (0 : Int) + (1 * a4 + 0) = a4 by omega]; omega) zx_eF0), zx_k0⟩
def zx_D1133 : zx_L := zx_Lc [] 5 [(2000168, 0), (208, 3)] [] [((0, 0), [(0, 1, 0), (1, 0, 1), (2, 0, 4294967296)]), ((0, 0), [(1, 0, 8000), (2, 0, 1), (3, 1, 0)]), ((0, 4294967296), [(1, 0, 1), (2, 0, 4294967296), (4, 1, 0)])] [((0, 0), [(1, 1, 0)]), ((4294967276, 0), [(1, 0, 1)]), ((0, 0), [(2, 1, 0)]), ((4294967276, 0), [(2, 0, 1)]), ((0, 9), [(6, 1, 0)]), ((10, 0), [(6, 0, 1)])] [([], [], [(2000168, ((0, 0), [(4, 1, 0)]), ((0, 0), [(5, 1, 0)]))], [])]
theorem zx_D1133_ok {PT : Nat → zz_W → Prop} : zx_Lok 64 zHT PT zx_D1133 := by
  refine zx_Lc_ok (fun w hI hK ins hl hr he hg => ?_)
  obtain ⟨a0, a1, a2, a3, a4, rfl⟩ := zx_i5 hl
  have e0 : (0 : Int) + (1 * a0 + ((-1) * a1 + ((-4294967296) * a2 + 0))) = 0 := he _ List.mem_cons_self
  have e1 : (0 : Int) + ((-8000) * a1 + ((-1) * a2 + (1 * a3 + 0))) = 0 := he _ (List.mem_cons_of_mem _ List.mem_cons_self)
  have e2 : ((-4294967296) : Int) + ((-1) * a1 + ((-4294967296) * a2 + (1 * a4 + 0))) = 0 := he _ (List.mem_cons_of_mem _ (List.mem_cons_of_mem _ List.mem_cons_self))
  have g0 : 0 ≤ (0 : Int) + (1 * a1 + 0) := hg _ List.mem_cons_self
  have g1 : 0 ≤ (4294967276 : Int) + ((-1) * a1 + 0) := hg _ (List.mem_cons_of_mem _ List.mem_cons_self)
  have g2 : 0 ≤ (0 : Int) + (1 * a2 + 0) := hg _ (List.mem_cons_of_mem _ (List.mem_cons_of_mem _ List.mem_cons_self))
  have g3 : 0 ≤ (4294967276 : Int) + ((-1) * a2 + 0) := hg _ (List.mem_cons_of_mem _ (List.mem_cons_of_mem _ (List.mem_cons_of_mem _ List.mem_cons_self)))
  have g4 : 0 ≤ ((-9) : Int) + (1 * (zk_xe w 208 a3) + 0) := hg _ (List.mem_cons_of_mem _ (List.mem_cons_of_mem _ (List.mem_cons_of_mem _ (List.mem_cons_of_mem _ List.mem_cons_self))))
  have g5 : 0 ≤ (10 : Int) + ((-1) * (zk_xe w 208 a3) + 0) := hg _ (List.mem_cons_of_mem _ (List.mem_cons_of_mem _ (List.mem_cons_of_mem _ (List.mem_cons_of_mem _ (List.mem_cons_of_mem _ List.mem_cons_self)))))
  have r0 : 0 ≤ a0 := hr _ List.mem_cons_self
  have r1 : 0 ≤ a3 := hr _ (List.mem_cons_of_mem _ List.mem_cons_self)
  have h1 := zj_168 (w := w) (j := a0) (u := a1) (k := a2) (by omega) (by omega) (by omega) (by omega) (by omega) 
  have h2 := zj_168 (w := w) (j := a4) (u := a1) (k := (a2 + 1)) (by omega) (by omega) (by omega) (by omega) (by omega) 
  have k0 : zh_e w 208 (8000 * a1 + a2) = zk_xe w 208 a3 := by rw [zk_xe_r (i := 208) (by decide)]; show zk_el w 208 (8000 * a1 + a2) = zk_el w 208 a3; rw [show 8000 * a1 + a2 = a3 by omega]
  rw [zj_sn (by omega), k0, zh_b0 (by unfold zj_nm; omega), ← h1] at h2
  exact ⟨_, List.mem_cons_self, [], rfl, zx_bnil, zx_cs0, (zx_eF1 (by show 0 ≤ (0 : Int) + (1 * a4 + 0); omega) (by show zk_xe w 2000168 ((0 : Int) + (1 * a4 + 0)) = (0 : Int) + (1 * (zk_xe w 2000168 a0) + 0); rw [show (0 : Int) + (1 * a4 + 0) = a4 by omega]; omega) zx_eF0), zx_k0⟩
def zx_D1134 : zx_L := zx_Lc [] 5 [(2000168, 0), (208, 3)] [] [((0, 0), [(0, 1, 0), (1, 0, 1), (2, 0, 4294967296)]), ((0, 0), [(1, 0, 8000), (2, 0, 1), (3, 1, 0)]), ((0, 4294967296), [(1, 0, 1), (2, 0, 4294967296), (4, 1, 0)])] [((0, 0), [(1, 1, 0)]), ((4294967276, 0), [(1, 0, 1)]), ((0, 0), [(2, 1, 0)]), ((4294967276, 0), [(2, 0, 1)]), ((0, 13), [(6, 1, 0)])] [([], [], [(2000168, ((0, 0), [(4, 1, 0)]), ((0, 0), [(5, 1, 0)]))], [])]
theorem zx_D1134_ok {PT : Nat → zz_W → Prop} : zx_Lok 64 zHT PT zx_D1134 := by
  refine zx_Lc_ok (fun w hI hK ins hl hr he hg => ?_)
  obtain ⟨a0, a1, a2, a3, a4, rfl⟩ := zx_i5 hl
  have e0 : (0 : Int) + (1 * a0 + ((-1) * a1 + ((-4294967296) * a2 + 0))) = 0 := he _ List.mem_cons_self
  have e1 : (0 : Int) + ((-8000) * a1 + ((-1) * a2 + (1 * a3 + 0))) = 0 := he _ (List.mem_cons_of_mem _ List.mem_cons_self)
  have e2 : ((-4294967296) : Int) + ((-1) * a1 + ((-4294967296) * a2 + (1 * a4 + 0))) = 0 := he _ (List.mem_cons_of_mem _ (List.mem_cons_of_mem _ List.mem_cons_self))
  have g0 : 0 ≤ (0 : Int) + (1 * a1 + 0) := hg _ List.mem_cons_self
  have g1 : 0 ≤ (4294967276 : Int) + ((-1) * a1 + 0) := hg _ (List.mem_cons_of_mem _ List.mem_cons_self)
  have g2 : 0 ≤ (0 : Int) + (1 * a2 + 0) := hg _ (List.mem_cons_of_mem _ (List.mem_cons_of_mem _ List.mem_cons_self))
  have g3 : 0 ≤ (4294967276 : Int) + ((-1) * a2 + 0) := hg _ (List.mem_cons_of_mem _ (List.mem_cons_of_mem _ (List.mem_cons_of_mem _ List.mem_cons_self)))
  have g4 : 0 ≤ ((-13) : Int) + (1 * (zk_xe w 208 a3) + 0) := hg _ (List.mem_cons_of_mem _ (List.mem_cons_of_mem _ (List.mem_cons_of_mem _ (List.mem_cons_of_mem _ List.mem_cons_self))))
  have r0 : 0 ≤ a0 := hr _ List.mem_cons_self
  have r1 : 0 ≤ a3 := hr _ (List.mem_cons_of_mem _ List.mem_cons_self)
  have h1 := zj_168 (w := w) (j := a0) (u := a1) (k := a2) (by omega) (by omega) (by omega) (by omega) (by omega) 
  have h2 := zj_168 (w := w) (j := a4) (u := a1) (k := (a2 + 1)) (by omega) (by omega) (by omega) (by omega) (by omega) 
  have k0 : zh_e w 208 (8000 * a1 + a2) = zk_xe w 208 a3 := by rw [zk_xe_r (i := 208) (by decide)]; show zk_el w 208 (8000 * a1 + a2) = zk_el w 208 a3; rw [show 8000 * a1 + a2 = a3 by omega]
  rw [zj_sn (by omega), k0, zh_b0 (by unfold zj_nm; omega), ← h1] at h2
  exact ⟨_, List.mem_cons_self, [], rfl, zx_bnil, zx_cs0, (zx_eF1 (by show 0 ≤ (0 : Int) + (1 * a4 + 0); omega) (by show zk_xe w 2000168 ((0 : Int) + (1 * a4 + 0)) = (0 : Int) + (1 * (zk_xe w 2000168 a0) + 0); rw [show (0 : Int) + (1 * a4 + 0) = a4 by omega]; omega) zx_eF0), zx_k0⟩
def zx_D1135 : zx_L := zx_Lc [] 5 [(2000168, 0), (2000168, 3)] [] [((0, 0), [(0, 1, 0), (1, 0, 1), (2, 0, 4294967296)]), ((0, 0), [(1, 0, 1), (3, 1, 0), (4, 0, 4294967296)])] [((0, 0), [(1, 1, 0)]), ((4294967276, 0), [(1, 0, 1)]), ((0, 0), [(2, 1, 0)]), ((4294967276, 0), [(2, 0, 1)]), ((0, 0), [(4, 1, 0)]), ((4294967276, 0), [(4, 0, 1)]), ((0, 0), [(2, 0, 1), (4, 1, 0)])] [([], [((0, 0), [(5, 0, 1), (6, 1, 0)])], [], [])]
theorem zx_D1135_ok {PT : Nat → zz_W → Prop} : zx_Lok 64 zHT PT zx_D1135 := by
  refine zx_Lc_ok (fun w hI hK ins hl hr he hg => ?_)
  obtain ⟨a0, a1, a2, a3, a4, rfl⟩ := zx_i5 hl
  have e0 : (0 : Int) + (1 * a0 + ((-1) * a1 + ((-4294967296) * a2 + 0))) = 0 := he _ List.mem_cons_self
  have e1 : (0 : Int) + ((-1) * a1 + (1 * a3 + ((-4294967296) * a4 + 0))) = 0 := he _ (List.mem_cons_of_mem _ List.mem_cons_self)
  have g0 : 0 ≤ (0 : Int) + (1 * a1 + 0) := hg _ List.mem_cons_self
  have g1 : 0 ≤ (4294967276 : Int) + ((-1) * a1 + 0) := hg _ (List.mem_cons_of_mem _ List.mem_cons_self)
  have g2 : 0 ≤ (0 : Int) + (1 * a2 + 0) := hg _ (List.mem_cons_of_mem _ (List.mem_cons_of_mem _ List.mem_cons_self))
  have g3 : 0 ≤ (4294967276 : Int) + ((-1) * a2 + 0) := hg _ (List.mem_cons_of_mem _ (List.mem_cons_of_mem _ (List.mem_cons_of_mem _ List.mem_cons_self)))
  have g4 : 0 ≤ (0 : Int) + (1 * a4 + 0) := hg _ (List.mem_cons_of_mem _ (List.mem_cons_of_mem _ (List.mem_cons_of_mem _ (List.mem_cons_of_mem _ List.mem_cons_self))))
  have g5 : 0 ≤ (4294967276 : Int) + ((-1) * a4 + 0) := hg _ (List.mem_cons_of_mem _ (List.mem_cons_of_mem _ (List.mem_cons_of_mem _ (List.mem_cons_of_mem _ (List.mem_cons_of_mem _ List.mem_cons_self)))))
  have g6 : 0 ≤ (0 : Int) + ((-1) * a2 + (1 * a4 + 0)) := hg _ (List.mem_cons_of_mem _ (List.mem_cons_of_mem _ (List.mem_cons_of_mem _ (List.mem_cons_of_mem _ (List.mem_cons_of_mem _ (List.mem_cons_of_mem _ List.mem_cons_self))))))
  have r0 : 0 ≤ a0 := hr _ List.mem_cons_self
  have r1 : 0 ≤ a3 := hr _ (List.mem_cons_of_mem _ List.mem_cons_self)
  have h1 := zj_168 (w := w) (j := a0) (u := a1) (k := a2) (by omega) (by omega) (by omega) (by omega) (by omega) 
  have h2 := zj_168 (w := w) (j := a3) (u := a1) (k := a4) (by omega) (by omega) (by omega) (by omega) (by omega) 
  have q := zj_s0 (Q := zh_e w 208) (b := 8000 * a1) (n := a2.toNat) (m := (a4 - a2).toNat)
  rw [show a2.toNat + (a4 - a2).toNat = a4.toNat by omega, ← h1, ← h2] at q
  exact ⟨_, List.mem_cons_self, [], rfl, zx_bnil, (zx_cs1 (by show 0 ≤ (0 : Int) + ((-1) * (zk_xe w 2000168 a0) + (1 * (zk_xe w 2000168 a3) + 0)); omega) zx_cs0), zx_eF0, zx_k0⟩
def zx_D1137 : zx_L := zx_Lc [] 2 [(2000166, 0)] [] [((0, 0), [(0, 1, 0), (1, 0, 1)])] [((0, 0), [(0, 1, 0)])] [([], [], [(2000166, ((0, 0), [(1, 1, 0)]), ((0, 0), [(2, 1, 0)]))], [])]
theorem zx_D1137_ok {PT : Nat → zz_W → Prop} : zx_Lok 64 zHT PT zx_D1137 := by
  refine zx_Lc_ok (fun w hI hK ins hl hr he hg => ?_)
  obtain ⟨a0, a1, rfl⟩ := zx_i2 hl
  have e0 : (0 : Int) + (1 * a0 + ((-1) * a1 + 0)) = 0 := he _ List.mem_cons_self
  have g0 : 0 ≤ (0 : Int) + (1 * a0 + 0) := hg _ List.mem_cons_self
  have r0 : 0 ≤ a0 := hr _ List.mem_cons_self
  have e : a1 = a0 := by omega
  exact ⟨_, List.mem_cons_self, [], rfl, zx_bnil, zx_cs0, (zx_eF1 (by show 0 ≤ (0 : Int) + (1 * a1 + 0); omega) (by show zk_xe w 2000166 ((0 : Int) + (1 * a1 + 0)) = (0 : Int) + (1 * (zk_xe w 2000166 a0) + 0); rw [show (0 : Int) + (1 * a1 + 0) = a1 by omega]; rw [e]; omega) zx_eF0), zx_k0⟩
def zx_D1138 : zx_L := zx_Lc [] 2 [(2000165, 0)] [] [((0, 0), [(0, 1, 0), (1, 0, 1)])] [((0, 0), [(0, 1, 0)])] [([], [], [(2000165, ((0, 0), [(1, 1, 0)]), ((0, 0), [(2, 1, 0)]))], [])]
theorem zx_D1138_ok {PT : Nat → zz_W → Prop} : zx_Lok 64 zHT PT zx_D1138 := by
  refine zx_Lc_ok (fun w hI hK ins hl hr he hg => ?_)
  obtain ⟨a0, a1, rfl⟩ := zx_i2 hl
  have e0 : (0 : Int) + (1 * a0 + ((-1) * a1 + 0)) = 0 := he _ List.mem_cons_self
  have g0 : 0 ≤ (0 : Int) + (1 * a0 + 0) := hg _ List.mem_cons_self
  have r0 : 0 ≤ a0 := hr _ List.mem_cons_self
  have e : a1 = a0 := by omega
  exact ⟨_, List.mem_cons_self, [], rfl, zx_bnil, zx_cs0, (zx_eF1 (by show 0 ≤ (0 : Int) + (1 * a1 + 0); omega) (by show zk_xe w 2000165 ((0 : Int) + (1 * a1 + 0)) = (0 : Int) + (1 * (zk_xe w 2000165 a0) + 0); rw [show (0 : Int) + (1 * a1 + 0) = a1 by omega]; rw [e]; omega) zx_eF0), zx_k0⟩
def zx_E690 : zx_V := zx_Vc 220 [] 4 [(2000165, 0)] [((0, 0), [(2, 1, 0), (3, 0, 1), (4, 0, 4294967296)]), ((0, 1), [(6, 1, 0)]), ((0, 0), [(0, 1, 0), (3, 0, 1)]), ((0, 4294967297), [(3, 0, 1), (4, 0, 4294967296), (5, 1, 0)]), ((0, 0), [(1, 1, 0), (4, 0, 1)])] [((0, 0), [(3, 1, 0)]), ((4294967276, 0), [(3, 0, 1)]), ((0, 0), [(4, 1, 0)]), ((4294967276, 0), [(4, 0, 1)])] [(2000165, ((0, 0), [(5, 1, 0)]), ((1, 0), []))]
theorem zx_E690_ok {PT : Nat → zz_W → Prop} : zx_Vok 64 zHT PT zx_E690 := by
  refine zx_Vc_ok (fun w w' j ins hI hI' h0 hw hK hl he hg => ?_)
  obtain ⟨a0, a1, a2, a3, rfl⟩ := zx_i4 hl
  have e0 : (0 : Int) + (1 * a0 + ((-1) * a1 + ((-4294967296) * a2 + 0))) = 0 := he _ List.mem_cons_self
  have e1 : ((-1) : Int) + (1 * (zk_xe w 2000165 a0) + 0) = 0 := he _ (List.mem_cons_of_mem _ List.mem_cons_self)
  have e2 : (0 : Int) + (1 * j + ((-1) * a1 + 0)) = 0 := he _ (List.mem_cons_of_mem _ (List.mem_cons_of_mem _ List.mem_cons_self))
  have e3 : ((-4294967297) : Int) + ((-1) * a1 + ((-4294967296) * a2 + (1 * a3 + 0))) = 0 := he _ (List.mem_cons_of_mem _ (List.mem_cons_of_mem _ (List.mem_cons_of_mem _ List.mem_cons_self)))
  have e4 : (0 : Int) + (1 * (zk_el w' 220 j) + ((-1) * a2 + 0)) = 0 := he _ (List.mem_cons_of_mem _ (List.mem_cons_of_mem _ (List.mem_cons_of_mem _ (List.mem_cons_of_mem _ List.mem_cons_self))))
  have g0 : 0 ≤ (0 : Int) + (1 * a1 + 0) := hg _ List.mem_cons_self
  have g1 : 0 ≤ (4294967276 : Int) + ((-1) * a1 + 0) := hg _ (List.mem_cons_of_mem _ List.mem_cons_self)
  have g2 : 0 ≤ (0 : Int) + (1 * a2 + 0) := hg _ (List.mem_cons_of_mem _ (List.mem_cons_of_mem _ List.mem_cons_self))
  have g3 : 0 ≤ (4294967276 : Int) + ((-1) * a2 + 0) := hg _ (List.mem_cons_of_mem _ (List.mem_cons_of_mem _ (List.mem_cons_of_mem _ List.mem_cons_self)))
  have hp := (zj_165 (w := w) (j := a0) (i := a1) (N := a2) (by omega) (by omega) (by omega) (by omega) (by omega) ).mp (by omega)
  have kj : zh_e w' 220 a1 = zk_el w' 220 j := by rw [show a1 = j by omega]; rfl
  have ke : ∀ i, 0 ≤ i → i ≠ a1 → zh_e w' 220 i = zh_e w 220 i := fun i i0 i1 => hw.2 i i0 (by omega)
  have h : zj_ij (zh_e w' 220) (a1 + 1) (a2 + 1) := by
    intro m m0 m1
    by_cases c : m = a1
    · rw [c, kj]
      exact ⟨by omega, fun n n0 n1 => by omega⟩
    · obtain ⟨q1, q2⟩ := hp m m0 (by omega)
      rw [ke m m0 c]
      refine ⟨by omega, fun n n0 n1 x0 x1 => ?_⟩
      by_cases d : n = a1
      · rw [d, kj] at x1 ⊢
        omega
      · rw [ke n (by omega) d] at x1 ⊢
        exact q2 n n0 (by omega) x0 x1
  exact (zx_eF1 (by show 0 ≤ (0 : Int) + (1 * a3 + 0); omega) (by show zk_xe w' 2000165 ((0 : Int) + (1 * a3 + 0)) = (1 : Int) + (0); rw [show (0 : Int) + (1 * a3 + 0) = a3 by omega]; exact ((zj_165 (w := w') (j := a3) (i := (a1 + 1)) (N := (a2 + 1)) (by omega) (by omega) (by omega) (by omega) (by omega) ).mpr h).trans (by omega)) zx_eF0)
def zx_E691 : zx_V := zx_Vc 220 [] 4 [(2000165, 0)] [((0, 0), [(2, 1, 0), (3, 0, 1), (4, 0, 4294967296)]), ((0, 1), [(6, 1, 0)]), ((0, 0), [(0, 1, 0), (3, 0, 1)]), ((0, 1), [(3, 0, 1), (4, 0, 4294967296), (5, 1, 0)])] [((0, 0), [(3, 1, 0)]), ((4294967276, 0), [(3, 0, 1)]), ((0, 0), [(4, 1, 0)]), ((4294967276, 0), [(4, 0, 1)]), ((0, 1), [(1, 0, 1)])] [(2000165, ((0, 0), [(5, 1, 0)]), ((1, 0), []))]
theorem zx_E691_ok {PT : Nat → zz_W → Prop} : zx_Vok 64 zHT PT zx_E691 := by
  refine zx_Vc_ok (fun w w' j ins hI hI' h0 hw hK hl he hg => ?_)
  obtain ⟨a0, a1, a2, a3, rfl⟩ := zx_i4 hl
  have e0 : (0 : Int) + (1 * a0 + ((-1) * a1 + ((-4294967296) * a2 + 0))) = 0 := he _ List.mem_cons_self
  have e1 : ((-1) : Int) + (1 * (zk_xe w 2000165 a0) + 0) = 0 := he _ (List.mem_cons_of_mem _ List.mem_cons_self)
  have e2 : (0 : Int) + (1 * j + ((-1) * a1 + 0)) = 0 := he _ (List.mem_cons_of_mem _ (List.mem_cons_of_mem _ List.mem_cons_self))
  have e3 : ((-1) : Int) + ((-1) * a1 + ((-4294967296) * a2 + (1 * a3 + 0))) = 0 := he _ (List.mem_cons_of_mem _ (List.mem_cons_of_mem _ (List.mem_cons_of_mem _ List.mem_cons_self)))
  have g0 : 0 ≤ (0 : Int) + (1 * a1 + 0) := hg _ List.mem_cons_self
  have g1 : 0 ≤ (4294967276 : Int) + ((-1) * a1 + 0) := hg _ (List.mem_cons_of_mem _ List.mem_cons_self)
  have g2 : 0 ≤ (0 : Int) + (1 * a2 + 0) := hg _ (List.mem_cons_of_mem _ (List.mem_cons_of_mem _ List.mem_cons_self))
  have g3 : 0 ≤ (4294967276 : Int) + ((-1) * a2 + 0) := hg _ (List.mem_cons_of_mem _ (List.mem_cons_of_mem _ (List.mem_cons_of_mem _ List.mem_cons_self)))
  have g4 : 0 ≤ ((-1) : Int) + ((-1) * (zk_el w' 220 j) + 0) := hg _ (List.mem_cons_of_mem _ (List.mem_cons_of_mem _ (List.mem_cons_of_mem _ (List.mem_cons_of_mem _ List.mem_cons_self))))
  have hp := (zj_165 (w := w) (j := a0) (i := a1) (N := a2) (by omega) (by omega) (by omega) (by omega) (by omega) ).mp (by omega)
  have kj : zh_e w' 220 a1 = zk_el w' 220 j := by rw [show a1 = j by omega]; rfl
  have ke : ∀ i, 0 ≤ i → i ≠ a1 → zh_e w' 220 i = zh_e w 220 i := fun i i0 i1 => hw.2 i i0 (by omega)
  have h : zj_ij (zh_e w' 220) (a1 + 1) (a2 + 0) := by
    intro m m0 m1
    by_cases c : m = a1
    · rw [c, kj]
      exact ⟨by omega, fun n n0 n1 => by omega⟩
    · obtain ⟨q1, q2⟩ := hp m m0 (by omega)
      rw [ke m m0 c]
      refine ⟨by omega, fun n n0 n1 x0 x1 => ?_⟩
      by_cases d : n = a1
      · rw [d, kj] at x1 ⊢
        omega
      · rw [ke n (by omega) d] at x1 ⊢
        exact q2 n n0 (by omega) x0 x1
  exact (zx_eF1 (by show 0 ≤ (0 : Int) + (1 * a3 + 0); omega) (by show zk_xe w' 2000165 ((0 : Int) + (1 * a3 + 0)) = (1 : Int) + (0); rw [show (0 : Int) + (1 * a3 + 0) = a3 by omega]; exact ((zj_165 (w := w') (j := a3) (i := (a1 + 1)) (N := (a2 + 0)) (by omega) (by omega) (by omega) (by omega) (by omega) ).mpr h).trans (by omega)) zx_eF0)
def zx_E692 : zx_V := zx_Vc 220 [] 4 [(2000166, 0)] [((0, 0), [(2, 1, 0), (3, 0, 1), (4, 0, 4294967296)]), ((0, 1), [(6, 1, 0)]), ((0, 0), [(0, 1, 0), (3, 0, 1)]), ((0, 1), [(1, 0, 4294967296), (3, 0, 1), (4, 0, 4294967296), (5, 1, 0)])] [((0, 0), [(3, 1, 0)]), ((4294967276, 0), [(3, 0, 1)]), ((0, 0), [(4, 1, 0)]), ((4294967276, 0), [(4, 0, 1)]), ((0, 0), [(1, 1, 0)]), ((1, 0), [(1, 0, 1)])] [(2000166, ((0, 0), [(5, 1, 0)]), ((1, 0), []))]
theorem zx_E692_ok {PT : Nat → zz_W → Prop} : zx_Vok 64 zHT PT zx_E692 := by
  refine zx_Vc_ok (fun w w' j ins hI hI' h0 hw hK hl he hg => ?_)
  obtain ⟨a0, a1, a2, a3, rfl⟩ := zx_i4 hl
  have e0 : (0 : Int) + (1 * a0 + ((-1) * a1 + ((-4294967296) * a2 + 0))) = 0 := he _ List.mem_cons_self
  have e1 : ((-1) : Int) + (1 * (zk_xe w 2000166 a0) + 0) = 0 := he _ (List.mem_cons_of_mem _ List.mem_cons_self)
  have e2 : (0 : Int) + (1 * j + ((-1) * a1 + 0)) = 0 := he _ (List.mem_cons_of_mem _ (List.mem_cons_of_mem _ List.mem_cons_self))
  have e3 : ((-1) : Int) + ((-4294967296) * (zk_el w' 220 j) + ((-1) * a1 + ((-4294967296) * a2 + (1 * a3 + 0)))) = 0 := he _ (List.mem_cons_of_mem _ (List.mem_cons_of_mem _ (List.mem_cons_of_mem _ List.mem_cons_self)))
  have g0 : 0 ≤ (0 : Int) + (1 * a1 + 0) := hg _ List.mem_cons_self
  have g1 : 0 ≤ (4294967276 : Int) + ((-1) * a1 + 0) := hg _ (List.mem_cons_of_mem _ List.mem_cons_self)
  have g2 : 0 ≤ (0 : Int) + (1 * a2 + 0) := hg _ (List.mem_cons_of_mem _ (List.mem_cons_of_mem _ List.mem_cons_self))
  have g3 : 0 ≤ (4294967276 : Int) + ((-1) * a2 + 0) := hg _ (List.mem_cons_of_mem _ (List.mem_cons_of_mem _ (List.mem_cons_of_mem _ List.mem_cons_self)))
  have g4 : 0 ≤ (0 : Int) + (1 * (zk_el w' 220 j) + 0) := hg _ (List.mem_cons_of_mem _ (List.mem_cons_of_mem _ (List.mem_cons_of_mem _ (List.mem_cons_of_mem _ List.mem_cons_self))))
  have g5 : 0 ≤ (1 : Int) + ((-1) * (zk_el w' 220 j) + 0) := hg _ (List.mem_cons_of_mem _ (List.mem_cons_of_mem _ (List.mem_cons_of_mem _ (List.mem_cons_of_mem _ (List.mem_cons_of_mem _ List.mem_cons_self)))))
  have hp := (zj_166 (w := w) (j := a0) (h := a1) (b := a2) (by omega) (by omega) (by omega) (by omega) (by omega) ).mp (by omega)
  have kj : zh_e w' 220 a1 = zk_el w' 220 j := by rw [show a1 = j by omega]; rfl
  have ke : ∀ i, 0 ≤ i → i < 0 + ((a1.toNat : Nat) : Int) → zh_e w' 220 i = zh_e w 220 i := fun i i0 i1 => hw.2 i i0 (by omega)
  have h : zj_c (zh_e w' 220) 0 (a1 + 1).toNat ≤ a2 + zk_el w' 220 j := by
    rw [show (a1 + 1).toNat = a1.toNat + 1 by omega, zj_cs, zj_ce ke, show (0 : Int) + ((a1.toNat : Nat) : Int) = a1 by omega, kj]
    split <;> omega
  exact (zx_eF1 (by show 0 ≤ (0 : Int) + (1 * a3 + 0); omega) (by show zk_xe w' 2000166 ((0 : Int) + (1 * a3 + 0)) = (1 : Int) + (0); rw [show (0 : Int) + (1 * a3 + 0) = a3 by omega]; exact ((zj_166 (w := w') (j := a3) (h := (a1 + 1)) (b := (a2 + zk_el w' 220 j)) (by omega) (by omega) (by omega) (by omega) (by omega) ).mpr h).trans (by omega)) zx_eF0)
def zx_E693 : zx_V := zx_Vc 220 [] 4 [(2000166, 0)] [((0, 0), [(2, 1, 0), (3, 0, 1), (4, 0, 4294967296)]), ((0, 1), [(6, 1, 0)]), ((0, 4294967296), [(3, 0, 1), (4, 0, 4294967296), (5, 1, 0)])] [((0, 0), [(3, 1, 0)]), ((4294967276, 0), [(3, 0, 1)]), ((0, 0), [(4, 1, 0)]), ((4294967276, 0), [(4, 0, 1)])] [(2000166, ((0, 0), [(5, 1, 0)]), ((1, 0), []))]
theorem zx_E693_ok {PT : Nat → zz_W → Prop} : zx_Vok 64 zHT PT zx_E693 := by
  refine zx_Vc_ok (fun w w' j ins hI hI' h0 hw hK hl he hg => ?_)
  obtain ⟨a0, a1, a2, a3, rfl⟩ := zx_i4 hl
  have e0 : (0 : Int) + (1 * a0 + ((-1) * a1 + ((-4294967296) * a2 + 0))) = 0 := he _ List.mem_cons_self
  have e1 : ((-1) : Int) + (1 * (zk_xe w 2000166 a0) + 0) = 0 := he _ (List.mem_cons_of_mem _ List.mem_cons_self)
  have e2 : ((-4294967296) : Int) + ((-1) * a1 + ((-4294967296) * a2 + (1 * a3 + 0))) = 0 := he _ (List.mem_cons_of_mem _ (List.mem_cons_of_mem _ List.mem_cons_self))
  have g0 : 0 ≤ (0 : Int) + (1 * a1 + 0) := hg _ List.mem_cons_self
  have g1 : 0 ≤ (4294967276 : Int) + ((-1) * a1 + 0) := hg _ (List.mem_cons_of_mem _ List.mem_cons_self)
  have g2 : 0 ≤ (0 : Int) + (1 * a2 + 0) := hg _ (List.mem_cons_of_mem _ (List.mem_cons_of_mem _ List.mem_cons_self))
  have g3 : 0 ≤ (4294967276 : Int) + ((-1) * a2 + 0) := hg _ (List.mem_cons_of_mem _ (List.mem_cons_of_mem _ (List.mem_cons_of_mem _ List.mem_cons_self)))
  have hp := (zj_166 (w := w) (j := a0) (h := a1) (b := a2) (by omega) (by omega) (by omega) (by omega) (by omega) ).mp (by omega)
  have ke : ∀ i, 0 ≤ i → i ≠ j → zh_e w' 220 i = zh_e w 220 i := fun i i0 i1 => hw.2 i i0 i1
  have q := zj_cw (K := zh_e w 220) (K' := zh_e w' 220) (j := j) (n := a1.toNat) (l := 0) ke
  have h : zj_c (zh_e w' 220) 0 a1.toNat ≤ a2 + 1 := by omega
  exact (zx_eF1 (by show 0 ≤ (0 : Int) + (1 * a3 + 0); omega) (by show zk_xe w' 2000166 ((0 : Int) + (1 * a3 + 0)) = (1 : Int) + (0); rw [show (0 : Int) + (1 * a3 + 0) = a3 by omega]; exact ((zj_166 (w := w') (j := a3) (h := a1) (b := (a2 + 1)) (by omega) (by omega) (by omega) (by omega) (by omega) ).mpr h).trans (by omega)) zx_eF0)
def zx_E694 : zx_V := zx_Vc 220 [] 7 [(2000167, 0), (220, 6)] [((0, 0), [(2, 1, 0), (3, 0, 1), (4, 0, 4294967296), (5, 0, 18446744073709551616), (6, 0, 79228162514264337593543950336)]), ((0, 1), [(9, 1, 0)]), ((0, 0), [(0, 1, 0), (3, 0, 1)]), ((0, 0), [(3, 0, 1), (8, 1, 0)]), ((0, 4294967297), [(3, 0, 1), (4, 0, 4294967296), (5, 0, 18446744073709551616), (6, 0, 79228162514264337593543950336), (7, 1, 0)])] [((0, 0), [(3, 1, 0)]), ((4294967276, 0), [(3, 0, 1)]), ((0, 0), [(4, 1, 0)]), ((4294967276, 0), [(4, 0, 1)]), ((0, 0), [(5, 1, 0)]), ((4294967276, 0), [(5, 0, 1)]), ((0, 0), [(6, 1, 0)]), ((4294967276, 0), [(6, 0, 1)]), ((0, 1), [(3, 0, 1), (5, 1, 0)]), ((0, 1), [(10, 1, 0)]), ((1, 0), [(10, 0, 1)])] [(2000167, ((0, 0), [(7, 1, 0)]), ((1, 0), []))]
theorem zx_E694_ok {PT : Nat → zz_W → Prop} : zx_Vok 64 zHT PT zx_E694 := by
  refine zx_Vc_ok (fun w w' j ins hI hI' h0 hw hK hl he hg => ?_)
  obtain ⟨a0, a1, a2, a3, a4, a5, a6, rfl⟩ := zx_i7 hl
  have e0 : (0 : Int) + (1 * a0 + ((-1) * a1 + ((-4294967296) * a2 + ((-18446744073709551616) * a3 + ((-79228162514264337593543950336) * a4 + 0))))) = 0 := he _ List.mem_cons_self
  have e1 : ((-1) : Int) + (1 * (zk_xe w 2000167 a0) + 0) = 0 := he _ (List.mem_cons_of_mem _ List.mem_cons_self)
  have e2 : (0 : Int) + (1 * j + ((-1) * a1 + 0)) = 0 := he _ (List.mem_cons_of_mem _ (List.mem_cons_of_mem _ List.mem_cons_self))
  have e3 : (0 : Int) + ((-1) * a1 + (1 * a6 + 0)) = 0 := he _ (List.mem_cons_of_mem _ (List.mem_cons_of_mem _ (List.mem_cons_of_mem _ List.mem_cons_self)))
  have e4 : ((-4294967297) : Int) + ((-1) * a1 + ((-4294967296) * a2 + ((-18446744073709551616) * a3 + ((-79228162514264337593543950336) * a4 + (1 * a5 + 0))))) = 0 := he _ (List.mem_cons_of_mem _ (List.mem_cons_of_mem _ (List.mem_cons_of_mem _ (List.mem_cons_of_mem _ List.mem_cons_self))))
  have g0 : 0 ≤ (0 : Int) + (1 * a1 + 0) := hg _ List.mem_cons_self
  have g1 : 0 ≤ (4294967276 : Int) + ((-1) * a1 + 0) := hg _ (List.mem_cons_of_mem _ List.mem_cons_self)
  have g2 : 0 ≤ (0 : Int) + (1 * a2 + 0) := hg _ (List.mem_cons_of_mem _ (List.mem_cons_of_mem _ List.mem_cons_self))
  have g3 : 0 ≤ (4294967276 : Int) + ((-1) * a2 + 0) := hg _ (List.mem_cons_of_mem _ (List.mem_cons_of_mem _ (List.mem_cons_of_mem _ List.mem_cons_self)))
  have g4 : 0 ≤ (0 : Int) + (1 * a3 + 0) := hg _ (List.mem_cons_of_mem _ (List.mem_cons_of_mem _ (List.mem_cons_of_mem _ (List.mem_cons_of_mem _ List.mem_cons_self))))
  have g5 : 0 ≤ (4294967276 : Int) + ((-1) * a3 + 0) := hg _ (List.mem_cons_of_mem _ (List.mem_cons_of_mem _ (List.mem_cons_of_mem _ (List.mem_cons_of_mem _ (List.mem_cons_of_mem _ List.mem_cons_self)))))
  have g6 : 0 ≤ (0 : Int) + (1 * a4 + 0) := hg _ (List.mem_cons_of_mem _ (List.mem_cons_of_mem _ (List.mem_cons_of_mem _ (List.mem_cons_of_mem _ (List.mem_cons_of_mem _ (List.mem_cons_of_mem _ List.mem_cons_self))))))
  have g7 : 0 ≤ (4294967276 : Int) + ((-1) * a4 + 0) := hg _ (List.mem_cons_of_mem _ (List.mem_cons_of_mem _ (List.mem_cons_of_mem _ (List.mem_cons_of_mem _ (List.mem_cons_of_mem _ (List.mem_cons_of_mem _ (List.mem_cons_of_mem _ List.mem_cons_self)))))))
  have g8 : 0 ≤ ((-1) : Int) + ((-1) * a1 + (1 * a3 + 0)) := hg _ (List.mem_cons_of_mem _ (List.mem_cons_of_mem _ (List.mem_cons_of_mem _ (List.mem_cons_of_mem _ (List.mem_cons_of_mem _ (List.mem_cons_of_mem _ (List.mem_cons_of_mem _ (List.mem_cons_of_mem _ List.mem_cons_self))))))))
  have g9 : 0 ≤ ((-1) : Int) + (1 * (zk_xe w 220 a6) + 0) := hg _ (List.mem_cons_of_mem _ (List.mem_cons_of_mem _ (List.mem_cons_of_mem _ (List.mem_cons_of_mem _ (List.mem_cons_of_mem _ (List.mem_cons_of_mem _ (List.mem_cons_of_mem _ (List.mem_cons_of_mem _ (List.mem_cons_of_mem _ List.mem_cons_self)))))))))
  have g10 : 0 ≤ (1 : Int) + ((-1) * (zk_xe w 220 a6) + 0) := hg _ (List.mem_cons_of_mem _ (List.mem_cons_of_mem _ (List.mem_cons_of_mem _ (List.mem_cons_of_mem _ (List.mem_cons_of_mem _ (List.mem_cons_of_mem _ (List.mem_cons_of_mem _ (List.mem_cons_of_mem _ (List.mem_cons_of_mem _ (List.mem_cons_of_mem _ List.mem_cons_self))))))))))
  have hp := (zj_167 (w := w) (j := a0) (i := a1) (N := a2) (h := a3) (b := a4) (by omega) (by omega) (by omega) (by omega) (by omega) (by omega) (by omega) (by omega) (by omega) ).mp (by omega)
  have k0 : zh_e w 220 (a1) = zk_xe w 220 a6 := by rw [zk_xe_r (i := 220) (by decide)]; show zk_el w 220 (a1) = zk_el w 220 a6; rw [show a1 = a6 by omega]
  have ke : ∀ i, a1 + 1 ≤ i → i < a1 + 1 + (((a3 - (a1 + 1)).toNat : Nat) : Int) → zh_e w' 220 i = zh_e w 220 i := fun i i0 i1 => hw.2 i (by omega) (by omega)
  rw [show (a3 - a1).toNat = (a3 - (a1 + 1)).toNat + 1 by omega] at hp
  have hq : a2 + ((if zh_e w 220 a1 = 1 then 1 else 0) + zj_c (zh_e w 220) (a1 + 1) (a3 - (a1 + 1)).toNat) ≤ a4 := hp
  rw [k0, if_pos (by omega)] at hq
  have h : a2 + 1 + zj_c (zh_e w' 220) (a1 + 1) (a3 - (a1 + 1)).toNat ≤ a4 := by
    rw [zj_ce ke]
    omega
  exact (zx_eF1 (by show 0 ≤ (0 : Int) + (1 * a5 + 0); omega) (by show zk_xe w' 2000167 ((0 : Int) + (1 * a5 + 0)) = (1 : Int) + (0); rw [show (0 : Int) + (1 * a5 + 0) = a5 by omega]; exact ((zj_167 (w := w') (j := a5) (i := (a1 + 1)) (N := (a2 + 1)) (h := a3) (b := a4) (by omega) (by omega) (by omega) (by omega) (by omega) (by omega) (by omega) (by omega) (by omega) ).mpr h).trans (by omega)) zx_eF0)
def zx_E695 : zx_V := zx_Vc 220 [] 7 [(2000167, 0), (220, 6)] [((0, 0), [(2, 1, 0), (3, 0, 1), (4, 0, 4294967296), (5, 0, 18446744073709551616), (6, 0, 79228162514264337593543950336)]), ((0, 1), [(9, 1, 0)]), ((0, 0), [(0, 1, 0), (3, 0, 1)]), ((0, 0), [(3, 0, 1), (8, 1, 0)]), ((0, 1), [(3, 0, 1), (4, 0, 4294967296), (5, 0, 18446744073709551616), (6, 0, 79228162514264337593543950336), (7, 1, 0)])] [((0, 0), [(3, 1, 0)]), ((4294967276, 0), [(3, 0, 1)]), ((0, 0), [(4, 1, 0)]), ((4294967276, 0), [(4, 0, 1)]), ((0, 0), [(5, 1, 0)]), ((4294967276, 0), [(5, 0, 1)]), ((0, 0), [(6, 1, 0)]), ((4294967276, 0), [(6, 0, 1)]), ((0, 1), [(3, 0, 1), (5, 1, 0)]), ((0, 0), [(10, 0, 1)])] [(2000167, ((0, 0), [(7, 1, 0)]), ((1, 0), []))]
theorem zx_E695_ok {PT : Nat → zz_W → Prop} : zx_Vok 64 zHT PT zx_E695 := by
  refine zx_Vc_ok (fun w w' j ins hI hI' h0 hw hK hl he hg => ?_)
  obtain ⟨a0, a1, a2, a3, a4, a5, a6, rfl⟩ := zx_i7 hl
  have e0 : (0 : Int) + (1 * a0 + ((-1) * a1 + ((-4294967296) * a2 + ((-18446744073709551616) * a3 + ((-79228162514264337593543950336) * a4 + 0))))) = 0 := he _ List.mem_cons_self
  have e1 : ((-1) : Int) + (1 * (zk_xe w 2000167 a0) + 0) = 0 := he _ (List.mem_cons_of_mem _ List.mem_cons_self)
  have e2 : (0 : Int) + (1 * j + ((-1) * a1 + 0)) = 0 := he _ (List.mem_cons_of_mem _ (List.mem_cons_of_mem _ List.mem_cons_self))
  have e3 : (0 : Int) + ((-1) * a1 + (1 * a6 + 0)) = 0 := he _ (List.mem_cons_of_mem _ (List.mem_cons_of_mem _ (List.mem_cons_of_mem _ List.mem_cons_self)))
  have e4 : ((-1) : Int) + ((-1) * a1 + ((-4294967296) * a2 + ((-18446744073709551616) * a3 + ((-79228162514264337593543950336) * a4 + (1 * a5 + 0))))) = 0 := he _ (List.mem_cons_of_mem _ (List.mem_cons_of_mem _ (List.mem_cons_of_mem _ (List.mem_cons_of_mem _ List.mem_cons_self))))
  have g0 : 0 ≤ (0 : Int) + (1 * a1 + 0) := hg _ List.mem_cons_self
  have g1 : 0 ≤ (4294967276 : Int) + ((-1) * a1 + 0) := hg _ (List.mem_cons_of_mem _ List.mem_cons_self)
  have g2 : 0 ≤ (0 : Int) + (1 * a2 + 0) := hg _ (List.mem_cons_of_mem _ (List.mem_cons_of_mem _ List.mem_cons_self))
  have g3 : 0 ≤ (4294967276 : Int) + ((-1) * a2 + 0) := hg _ (List.mem_cons_of_mem _ (List.mem_cons_of_mem _ (List.mem_cons_of_mem _ List.mem_cons_self)))
  have g4 : 0 ≤ (0 : Int) + (1 * a3 + 0) := hg _ (List.mem_cons_of_mem _ (List.mem_cons_of_mem _ (List.mem_cons_of_mem _ (List.mem_cons_of_mem _ List.mem_cons_self))))
  have g5 : 0 ≤ (4294967276 : Int) + ((-1) * a3 + 0) := hg _ (List.mem_cons_of_mem _ (List.mem_cons_of_mem _ (List.mem_cons_of_mem _ (List.mem_cons_of_mem _ (List.mem_cons_of_mem _ List.mem_cons_self)))))
  have g6 : 0 ≤ (0 : Int) + (1 * a4 + 0) := hg _ (List.mem_cons_of_mem _ (List.mem_cons_of_mem _ (List.mem_cons_of_mem _ (List.mem_cons_of_mem _ (List.mem_cons_of_mem _ (List.mem_cons_of_mem _ List.mem_cons_self))))))
  have g7 : 0 ≤ (4294967276 : Int) + ((-1) * a4 + 0) := hg _ (List.mem_cons_of_mem _ (List.mem_cons_of_mem _ (List.mem_cons_of_mem _ (List.mem_cons_of_mem _ (List.mem_cons_of_mem _ (List.mem_cons_of_mem _ (List.mem_cons_of_mem _ List.mem_cons_self)))))))
  have g8 : 0 ≤ ((-1) : Int) + ((-1) * a1 + (1 * a3 + 0)) := hg _ (List.mem_cons_of_mem _ (List.mem_cons_of_mem _ (List.mem_cons_of_mem _ (List.mem_cons_of_mem _ (List.mem_cons_of_mem _ (List.mem_cons_of_mem _ (List.mem_cons_of_mem _ (List.mem_cons_of_mem _ List.mem_cons_self))))))))
  have g9 : 0 ≤ (0 : Int) + ((-1) * (zk_xe w 220 a6) + 0) := hg _ (List.mem_cons_of_mem _ (List.mem_cons_of_mem _ (List.mem_cons_of_mem _ (List.mem_cons_of_mem _ (List.mem_cons_of_mem _ (List.mem_cons_of_mem _ (List.mem_cons_of_mem _ (List.mem_cons_of_mem _ (List.mem_cons_of_mem _ List.mem_cons_self)))))))))
  have hp := (zj_167 (w := w) (j := a0) (i := a1) (N := a2) (h := a3) (b := a4) (by omega) (by omega) (by omega) (by omega) (by omega) (by omega) (by omega) (by omega) (by omega) ).mp (by omega)
  have k0 : zh_e w 220 (a1) = zk_xe w 220 a6 := by rw [zk_xe_r (i := 220) (by decide)]; show zk_el w 220 (a1) = zk_el w 220 a6; rw [show a1 = a6 by omega]
  have ke : ∀ i, a1 + 1 ≤ i → i < a1 + 1 + (((a3 - (a1 + 1)).toNat : Nat) : Int) → zh_e w' 220 i = zh_e w 220 i := fun i i0 i1 => hw.2 i (by omega) (by omega)
  rw [show (a3 - a1).toNat = (a3 - (a1 + 1)).toNat + 1 by omega] at hp
  have hq : a2 + ((if zh_e w 220 a1 = 1 then 1 else 0) + zj_c (zh_e w 220) (a1 + 1) (a3 - (a1 + 1)).toNat) ≤ a4 := hp
  rw [k0, if_neg (by omega)] at hq
  have h : a2 + 0 + zj_c (zh_e w' 220) (a1 + 1) (a3 - (a1 + 1)).toNat ≤ a4 := by
    rw [zj_ce ke]
    omega
  exact (zx_eF1 (by show 0 ≤ (0 : Int) + (1 * a5 + 0); omega) (by show zk_xe w' 2000167 ((0 : Int) + (1 * a5 + 0)) = (1 : Int) + (0); rw [show (0 : Int) + (1 * a5 + 0) = a5 by omega]; exact ((zj_167 (w := w') (j := a5) (i := (a1 + 1)) (N := (a2 + 0)) (h := a3) (b := a4) (by omega) (by omega) (by omega) (by omega) (by omega) (by omega) (by omega) (by omega) (by omega) ).mpr h).trans (by omega)) zx_eF0)
def zx_E696 : zx_V := zx_Vc 220 [] 7 [(2000167, 0), (220, 6)] [((0, 0), [(2, 1, 0), (3, 0, 1), (4, 0, 4294967296), (5, 0, 18446744073709551616), (6, 0, 79228162514264337593543950336)]), ((0, 1), [(9, 1, 0)]), ((0, 0), [(0, 1, 0), (3, 0, 1)]), ((0, 0), [(3, 0, 1), (8, 1, 0)]), ((0, 1), [(3, 0, 1), (4, 0, 4294967296), (5, 0, 18446744073709551616), (6, 0, 79228162514264337593543950336), (7, 1, 0)])] [((0, 0), [(3, 1, 0)]), ((4294967276, 0), [(3, 0, 1)]), ((0, 0), [(4, 1, 0)]), ((4294967276, 0), [(4, 0, 1)]), ((0, 0), [(5, 1, 0)]), ((4294967276, 0), [(5, 0, 1)]), ((0, 0), [(6, 1, 0)]), ((4294967276, 0), [(6, 0, 1)]), ((0, 1), [(3, 0, 1), (5, 1, 0)]), ((0, 2), [(10, 1, 0)])] [(2000167, ((0, 0), [(7, 1, 0)]), ((1, 0), []))]
theorem zx_E696_ok {PT : Nat → zz_W → Prop} : zx_Vok 64 zHT PT zx_E696 := by
  refine zx_Vc_ok (fun w w' j ins hI hI' h0 hw hK hl he hg => ?_)
  obtain ⟨a0, a1, a2, a3, a4, a5, a6, rfl⟩ := zx_i7 hl
  have e0 : (0 : Int) + (1 * a0 + ((-1) * a1 + ((-4294967296) * a2 + ((-18446744073709551616) * a3 + ((-79228162514264337593543950336) * a4 + 0))))) = 0 := he _ List.mem_cons_self
  have e1 : ((-1) : Int) + (1 * (zk_xe w 2000167 a0) + 0) = 0 := he _ (List.mem_cons_of_mem _ List.mem_cons_self)
  have e2 : (0 : Int) + (1 * j + ((-1) * a1 + 0)) = 0 := he _ (List.mem_cons_of_mem _ (List.mem_cons_of_mem _ List.mem_cons_self))
  have e3 : (0 : Int) + ((-1) * a1 + (1 * a6 + 0)) = 0 := he _ (List.mem_cons_of_mem _ (List.mem_cons_of_mem _ (List.mem_cons_of_mem _ List.mem_cons_self)))
  have e4 : ((-1) : Int) + ((-1) * a1 + ((-4294967296) * a2 + ((-18446744073709551616) * a3 + ((-79228162514264337593543950336) * a4 + (1 * a5 + 0))))) = 0 := he _ (List.mem_cons_of_mem _ (List.mem_cons_of_mem _ (List.mem_cons_of_mem _ (List.mem_cons_of_mem _ List.mem_cons_self))))
  have g0 : 0 ≤ (0 : Int) + (1 * a1 + 0) := hg _ List.mem_cons_self
  have g1 : 0 ≤ (4294967276 : Int) + ((-1) * a1 + 0) := hg _ (List.mem_cons_of_mem _ List.mem_cons_self)
  have g2 : 0 ≤ (0 : Int) + (1 * a2 + 0) := hg _ (List.mem_cons_of_mem _ (List.mem_cons_of_mem _ List.mem_cons_self))
  have g3 : 0 ≤ (4294967276 : Int) + ((-1) * a2 + 0) := hg _ (List.mem_cons_of_mem _ (List.mem_cons_of_mem _ (List.mem_cons_of_mem _ List.mem_cons_self)))
  have g4 : 0 ≤ (0 : Int) + (1 * a3 + 0) := hg _ (List.mem_cons_of_mem _ (List.mem_cons_of_mem _ (List.mem_cons_of_mem _ (List.mem_cons_of_mem _ List.mem_cons_self))))
  have g5 : 0 ≤ (4294967276 : Int) + ((-1) * a3 + 0) := hg _ (List.mem_cons_of_mem _ (List.mem_cons_of_mem _ (List.mem_cons_of_mem _ (List.mem_cons_of_mem _ (List.mem_cons_of_mem _ List.mem_cons_self)))))
  have g6 : 0 ≤ (0 : Int) + (1 * a4 + 0) := hg _ (List.mem_cons_of_mem _ (List.mem_cons_of_mem _ (List.mem_cons_of_mem _ (List.mem_cons_of_mem _ (List.mem_cons_of_mem _ (List.mem_cons_of_mem _ List.mem_cons_self))))))
  have g7 : 0 ≤ (4294967276 : Int) + ((-1) * a4 + 0) := hg _ (List.mem_cons_of_mem _ (List.mem_cons_of_mem _ (List.mem_cons_of_mem _ (List.mem_cons_of_mem _ (List.mem_cons_of_mem _ (List.mem_cons_of_mem _ (List.mem_cons_of_mem _ List.mem_cons_self)))))))
  have g8 : 0 ≤ ((-1) : Int) + ((-1) * a1 + (1 * a3 + 0)) := hg _ (List.mem_cons_of_mem _ (List.mem_cons_of_mem _ (List.mem_cons_of_mem _ (List.mem_cons_of_mem _ (List.mem_cons_of_mem _ (List.mem_cons_of_mem _ (List.mem_cons_of_mem _ (List.mem_cons_of_mem _ List.mem_cons_self))))))))
  have g9 : 0 ≤ ((-2) : Int) + (1 * (zk_xe w 220 a6) + 0) := hg _ (List.mem_cons_of_mem _ (List.mem_cons_of_mem _ (List.mem_cons_of_mem _ (List.mem_cons_of_mem _ (List.mem_cons_of_mem _ (List.mem_cons_of_mem _ (List.mem_cons_of_mem _ (List.mem_cons_of_mem _ (List.mem_cons_of_mem _ List.mem_cons_self)))))))))
  have hp := (zj_167 (w := w) (j := a0) (i := a1) (N := a2) (h := a3) (b := a4) (by omega) (by omega) (by omega) (by omega) (by omega) (by omega) (by omega) (by omega) (by omega) ).mp (by omega)
  have k0 : zh_e w 220 (a1) = zk_xe w 220 a6 := by rw [zk_xe_r (i := 220) (by decide)]; show zk_el w 220 (a1) = zk_el w 220 a6; rw [show a1 = a6 by omega]
  have ke : ∀ i, a1 + 1 ≤ i → i < a1 + 1 + (((a3 - (a1 + 1)).toNat : Nat) : Int) → zh_e w' 220 i = zh_e w 220 i := fun i i0 i1 => hw.2 i (by omega) (by omega)
  rw [show (a3 - a1).toNat = (a3 - (a1 + 1)).toNat + 1 by omega] at hp
  have hq : a2 + ((if zh_e w 220 a1 = 1 then 1 else 0) + zj_c (zh_e w 220) (a1 + 1) (a3 - (a1 + 1)).toNat) ≤ a4 := hp
  rw [k0, if_neg (by omega)] at hq
  have h : a2 + 0 + zj_c (zh_e w' 220) (a1 + 1) (a3 - (a1 + 1)).toNat ≤ a4 := by
    rw [zj_ce ke]
    omega
  exact (zx_eF1 (by show 0 ≤ (0 : Int) + (1 * a5 + 0); omega) (by show zk_xe w' 2000167 ((0 : Int) + (1 * a5 + 0)) = (1 : Int) + (0); rw [show (0 : Int) + (1 * a5 + 0) = a5 by omega]; exact ((zj_167 (w := w') (j := a5) (i := (a1 + 1)) (N := (a2 + 0)) (h := a3) (b := a4) (by omega) (by omega) (by omega) (by omega) (by omega) (by omega) (by omega) (by omega) (by omega) ).mpr h).trans (by omega)) zx_eF0)
theorem zj_169 {w : zz_W} {j : Int} (h0 : 0 ≤ j) (h1 : j < 4294967296) : zk_xe w 2000169 j = 1 ↔ ∀ u, 0 ≤ u → u < j → 1 ≤ zh_e w 176 u → zh_e w 207 u ≤ 8000 → zj_s (zh_e w 208) (8000 * u) (zh_e w 207 u).toNat ≤ 2045 := by
  have d0 : zv_dg 0 j = j := by
    show j % 4294967296 = j
    omega
  have d1 : zv_dg 1 j = 0 := by
    show j / 4294967296 % 4294967296 = 0
    omega
  rw [show (2000169 : Nat) = 2000000 + 169 from rfl, zk_xe_h]
  have h : zv_H 169 w j = zh_b (∀ u, 0 ≤ u → u < j → 1 ≤ zh_e w 176 u → zh_e w 207 u ≤ 8000 → zj_s (zh_e w 208) (8000 * u) (zh_e w 207 u).toNat ≤ 2045) := by
    show zh_b (zv_dg 1 j = 0 → ∀ u, 0 ≤ u → u < zv_dg 0 j → 1 ≤ zh_e w 176 u → zh_e w 207 u ≤ 8000 → zj_s (zh_e w 208) (8000 * u) (zh_e w 207 u).toNat ≤ 2045) = _
    rw [d0, d1]
    exact congrArg zh_b (propext ⟨fun q => q rfl, fun q _ => q⟩)
  rw [h]
  exact ⟨zh_b1', zh_b1⟩
def zx_D1136 : zx_L := zx_Lc [] 4 [(2000169, 0), (176, 1), (207, 1), (2000168, 2)] [] [((0, 1), [(4, 1, 0)]), ((0, 1), [(5, 1, 0)]), ((0, 0), [(1, 0, 1), (2, 1, 0), (3, 0, 4294967296)])] [((0, 0), [(1, 1, 0)]), ((4294967276, 0), [(1, 0, 1)]), ((0, 0), [(3, 1, 0)]), ((4294967276, 0), [(3, 0, 1)]), ((0, 0), [(0, 1, 0)]), ((4294967276, 0), [(0, 0, 1)]), ((0, 1), [(0, 1, 0), (1, 0, 1)]), ((0, 0), [(3, 0, 1), (6, 1, 0)]), ((8000, 0), [(6, 0, 1)])] [([], [((2045, 0), [(7, 0, 1)])], [], [])]
theorem zx_D1136_ok {PT : Nat → zz_W → Prop} : zx_Lok 64 zHT PT zx_D1136 := by
  refine zx_Lc_ok (fun w hI hK ins hl hr he hg => ?_)
  obtain ⟨a0, a1, a2, a3, rfl⟩ := zx_i4 hl
  have e0 : ((-1) : Int) + (1 * (zk_xe w 2000169 a0) + 0) = 0 := he _ List.mem_cons_self
  have e1 : ((-1) : Int) + (1 * (zk_xe w 176 a1) + 0) = 0 := he _ (List.mem_cons_of_mem _ List.mem_cons_self)
  have e2 : (0 : Int) + ((-1) * a1 + (1 * a2 + ((-4294967296) * a3 + 0))) = 0 := he _ (List.mem_cons_of_mem _ (List.mem_cons_of_mem _ List.mem_cons_self))
  have g0 : 0 ≤ (0 : Int) + (1 * a1 + 0) := hg _ List.mem_cons_self
  have g1 : 0 ≤ (4294967276 : Int) + ((-1) * a1 + 0) := hg _ (List.mem_cons_of_mem _ List.mem_cons_self)
  have g2 : 0 ≤ (0 : Int) + (1 * a3 + 0) := hg _ (List.mem_cons_of_mem _ (List.mem_cons_of_mem _ List.mem_cons_self))
  have g3 : 0 ≤ (4294967276 : Int) + ((-1) * a3 + 0) := hg _ (List.mem_cons_of_mem _ (List.mem_cons_of_mem _ (List.mem_cons_of_mem _ List.mem_cons_self)))
  have g4 : 0 ≤ (0 : Int) + (1 * a0 + 0) := hg _ (List.mem_cons_of_mem _ (List.mem_cons_of_mem _ (List.mem_cons_of_mem _ (List.mem_cons_of_mem _ List.mem_cons_self))))
  have g5 : 0 ≤ (4294967276 : Int) + ((-1) * a0 + 0) := hg _ (List.mem_cons_of_mem _ (List.mem_cons_of_mem _ (List.mem_cons_of_mem _ (List.mem_cons_of_mem _ (List.mem_cons_of_mem _ List.mem_cons_self)))))
  have g6 : 0 ≤ ((-1) : Int) + (1 * a0 + ((-1) * a1 + 0)) := hg _ (List.mem_cons_of_mem _ (List.mem_cons_of_mem _ (List.mem_cons_of_mem _ (List.mem_cons_of_mem _ (List.mem_cons_of_mem _ (List.mem_cons_of_mem _ List.mem_cons_self))))))
  have g7 : 0 ≤ (0 : Int) + ((-1) * a3 + (1 * (zk_xe w 207 a1) + 0)) := hg _ (List.mem_cons_of_mem _ (List.mem_cons_of_mem _ (List.mem_cons_of_mem _ (List.mem_cons_of_mem _ (List.mem_cons_of_mem _ (List.mem_cons_of_mem _ (List.mem_cons_of_mem _ List.mem_cons_self)))))))
  have g8 : 0 ≤ (8000 : Int) + ((-1) * (zk_xe w 207 a1) + 0) := hg _ (List.mem_cons_of_mem _ (List.mem_cons_of_mem _ (List.mem_cons_of_mem _ (List.mem_cons_of_mem _ (List.mem_cons_of_mem _ (List.mem_cons_of_mem _ (List.mem_cons_of_mem _ (List.mem_cons_of_mem _ List.mem_cons_self))))))))
  have r0 : 0 ≤ a0 := hr _ List.mem_cons_self
  have r1 : 0 ≤ a1 := hr _ (List.mem_cons_of_mem _ List.mem_cons_self)
  have r2 : 0 ≤ a1 := hr _ (List.mem_cons_of_mem _ (List.mem_cons_of_mem _ List.mem_cons_self))
  have r3 : 0 ≤ a2 := hr _ (List.mem_cons_of_mem _ (List.mem_cons_of_mem _ (List.mem_cons_of_mem _ List.mem_cons_self)))
  have hp := (zj_169 (w := w) (j := a0) (by omega) (by omega)).mp (by omega) a1 (by omega) (by omega)
  have k0 : zh_e w 176 (a1) = zk_xe w 176 a1 := by rw [zk_xe_r (i := 176) (by decide)]; show zk_el w 176 (a1) = zk_el w 176 a1; rw [show a1 = a1 by omega]
  have k1 : zh_e w 207 (a1) = zk_xe w 207 a1 := by rw [zk_xe_r (i := 207) (by decide)]; show zk_el w 207 (a1) = zk_el w 207 a1; rw [show a1 = a1 by omega]
  rw [k0, k1] at hp
  have h := hp (by omega) (by omega)
  have h1 := zj_168 (w := w) (j := a2) (u := a1) (k := a3) (by omega) (by omega) (by omega) (by omega) (by omega) 
  have q := zj_s0 (Q := zh_e w 208) (b := 8000 * a1) (n := a3.toNat) (m := (zk_xe w 207 a1 - a3).toNat)
  rw [show a3.toNat + (zk_xe w 207 a1 - a3).toNat = (zk_xe w 207 a1).toNat by omega, ← h1] at q
  exact ⟨_, List.mem_cons_self, [], rfl, zx_bnil, (zx_cs1 (by show 0 ≤ (2045 : Int) + ((-1) * (zk_xe w 2000168 a2) + 0); omega) zx_cs0), zx_eF0, zx_k0⟩
theorem zj_170 {w : zz_W} {j l h : Int} (e : j = l + 4294967296 * h) (l0 : 0 ≤ l) (l1 : l < 4294967296) (h0 : 0 ≤ h) (h1 : h < 4294967296) : zk_xe w 2000170 j = 1 ↔ ∀ m, l ≤ m → m < h → m < 125 → zh_e w 220 m = 1 := by
  obtain ⟨q0, y0, -⟩ := zm_z1 e l0 l1
  obtain ⟨q1, -, -⟩ := zm_z1 (j := h) (a := h) (b := 0) (by omega) h0 h1
  have x1 : zv_dg 1 j = h := (y0 0).trans q1
  rw [show (2000170 : Nat) = 2000000 + 170 from rfl, zk_xe_h]
  have q : zv_H 170 w j = zh_b (∀ m, l ≤ m → m < h → m < 125 → zh_e w 220 m = 1) := by
    show zh_b (∀ m, zv_dg 0 j ≤ m → m < zv_dg 1 j → m < 125 → zh_e w 220 m = 1) = _
    rw [q0, x1]
  rw [q]
  exact ⟨zh_b1', zh_b1⟩
def zx_D1139 : zx_L := zx_Lc [] 1 [] [] [((0, 0), [(0, 1, 0)])] [] [([], [], [(2000170, ((0, 0), [(0, 1, 0)]), ((1, 0), []))], [])]
theorem zx_D1139_ok {PT : Nat → zz_W → Prop} : zx_Lok 64 zHT PT zx_D1139 := by
  refine zx_Lc_ok (fun w hI hK ins hl hr he hg => ?_)
  obtain ⟨a0, rfl⟩ := zx_i1 hl
  have e0 : (0 : Int) + (1 * a0 + 0) = 0 := he _ List.mem_cons_self
  have h : ∀ m, (0 : Int) ≤ m → m < 0 → m < 125 → zh_e w 220 m = 1 := fun m m0 m1 => by omega
  exact ⟨_, List.mem_cons_self, [], rfl, zx_bnil, zx_cs0, (zx_eF1 (by show 0 ≤ (0 : Int) + (1 * a0 + 0); omega) (by show zk_xe w 2000170 ((0 : Int) + (1 * a0 + 0)) = (1 : Int) + (0); rw [show (0 : Int) + (1 * a0 + 0) = a0 by omega]; exact ((zj_170 (w := w) (j := a0) (l := 0) (h := 0) (by omega) (by omega) (by omega) (by omega) (by omega) ).mpr h).trans (by omega)) zx_eF0), zx_k0⟩
def zx_D1140 : zx_L := zx_Lc [] 3 [(2000170, 0), (220, 1)] [] [((0, 0), [(0, 1, 0), (1, 0, 1), (2, 0, 4294967296)]), ((0, 1), [(3, 1, 0)])] [((0, 0), [(1, 1, 0)]), ((4294967276, 0), [(1, 0, 1)]), ((0, 0), [(2, 1, 0)]), ((4294967276, 0), [(2, 0, 1)]), ((0, 1), [(1, 0, 1), (2, 1, 0)]), ((124, 0), [(1, 0, 1)])] [([], [((0, 1), [(4, 1, 0)]), ((1, 0), [(4, 0, 1)])], [], [])]
theorem zx_D1140_ok {PT : Nat → zz_W → Prop} : zx_Lok 64 zHT PT zx_D1140 := by
  refine zx_Lc_ok (fun w hI hK ins hl hr he hg => ?_)
  obtain ⟨a0, a1, a2, rfl⟩ := zx_i3 hl
  have e0 : (0 : Int) + (1 * a0 + ((-1) * a1 + ((-4294967296) * a2 + 0))) = 0 := he _ List.mem_cons_self
  have e1 : ((-1) : Int) + (1 * (zk_xe w 2000170 a0) + 0) = 0 := he _ (List.mem_cons_of_mem _ List.mem_cons_self)
  have g0 : 0 ≤ (0 : Int) + (1 * a1 + 0) := hg _ List.mem_cons_self
  have g1 : 0 ≤ (4294967276 : Int) + ((-1) * a1 + 0) := hg _ (List.mem_cons_of_mem _ List.mem_cons_self)
  have g2 : 0 ≤ (0 : Int) + (1 * a2 + 0) := hg _ (List.mem_cons_of_mem _ (List.mem_cons_of_mem _ List.mem_cons_self))
  have g3 : 0 ≤ (4294967276 : Int) + ((-1) * a2 + 0) := hg _ (List.mem_cons_of_mem _ (List.mem_cons_of_mem _ (List.mem_cons_of_mem _ List.mem_cons_self)))
  have g4 : 0 ≤ ((-1) : Int) + ((-1) * a1 + (1 * a2 + 0)) := hg _ (List.mem_cons_of_mem _ (List.mem_cons_of_mem _ (List.mem_cons_of_mem _ (List.mem_cons_of_mem _ List.mem_cons_self))))
  have g5 : 0 ≤ (124 : Int) + ((-1) * a1 + 0) := hg _ (List.mem_cons_of_mem _ (List.mem_cons_of_mem _ (List.mem_cons_of_mem _ (List.mem_cons_of_mem _ (List.mem_cons_of_mem _ List.mem_cons_self)))))
  have r0 : 0 ≤ a0 := hr _ List.mem_cons_self
  have r1 : 0 ≤ a1 := hr _ (List.mem_cons_of_mem _ List.mem_cons_self)
  have hp := (zj_170 (w := w) (j := a0) (l := a1) (h := a2) (by omega) (by omega) (by omega) (by omega) (by omega) ).mp (by omega) a1 (by omega) (by omega) (by omega)
  have k0 : zh_e w 220 (a1) = zk_xe w 220 a1 := by rw [zk_xe_r (i := 220) (by decide)]; show zk_el w 220 (a1) = zk_el w 220 a1; rw [show a1 = a1 by omega]
  exact ⟨_, List.mem_cons_self, [], rfl, zx_bnil, (zx_cs1 (by show 0 ≤ ((-1) : Int) + (1 * (zk_xe w 220 a1) + 0); omega) (zx_cs1 (by show 0 ≤ (1 : Int) + ((-1) * (zk_xe w 220 a1) + 0); omega) zx_cs0)), zx_eF0, zx_k0⟩
def zx_D1141 : zx_L := zx_Lc [] 2 [(2000170, 0)] [] [((0, 0), [(0, 1, 0), (1, 0, 1)])] [((0, 0), [(0, 1, 0)])] [([], [], [(2000170, ((0, 0), [(1, 1, 0)]), ((0, 0), [(2, 1, 0)]))], [])]
theorem zx_D1141_ok {PT : Nat → zz_W → Prop} : zx_Lok 64 zHT PT zx_D1141 := by
  refine zx_Lc_ok (fun w hI hK ins hl hr he hg => ?_)
  obtain ⟨a0, a1, rfl⟩ := zx_i2 hl
  have e0 : (0 : Int) + (1 * a0 + ((-1) * a1 + 0)) = 0 := he _ List.mem_cons_self
  have g0 : 0 ≤ (0 : Int) + (1 * a0 + 0) := hg _ List.mem_cons_self
  have r0 : 0 ≤ a0 := hr _ List.mem_cons_self
  have e : a1 = a0 := by omega
  exact ⟨_, List.mem_cons_self, [], rfl, zx_bnil, zx_cs0, (zx_eF1 (by show 0 ≤ (0 : Int) + (1 * a1 + 0); omega) (by show zk_xe w 2000170 ((0 : Int) + (1 * a1 + 0)) = (0 : Int) + (1 * (zk_xe w 2000170 a0) + 0); rw [show (0 : Int) + (1 * a1 + 0) = a1 by omega]; rw [e]; omega) zx_eF0), zx_k0⟩
def zx_E697 : zx_V := zx_Vc 220 [] 3 [(2000170, 0)] [((0, 0), [(2, 1, 0), (3, 0, 4294967296)]), ((0, 1), [(5, 1, 0)]), ((0, 0), [(0, 1, 0), (3, 0, 1)]), ((0, 4294967296), [(3, 0, 4294967296), (4, 1, 0)])] [((0, 0), [(3, 1, 0)]), ((4294967276, 0), [(3, 0, 1)]), ((0, 1), [(1, 1, 0)]), ((1, 0), [(1, 0, 1)])] [(2000170, ((0, 0), [(4, 1, 0)]), ((1, 0), []))]
theorem zx_E697_ok {PT : Nat → zz_W → Prop} : zx_Vok 64 zHT PT zx_E697 := by
  refine zx_Vc_ok (fun w w' j ins hI hI' h0 hw hK hl he hg => ?_)
  obtain ⟨a0, a1, a2, rfl⟩ := zx_i3 hl
  have e0 : (0 : Int) + (1 * a0 + ((-4294967296) * a1 + 0)) = 0 := he _ List.mem_cons_self
  have e1 : ((-1) : Int) + (1 * (zk_xe w 2000170 a0) + 0) = 0 := he _ (List.mem_cons_of_mem _ List.mem_cons_self)
  have e2 : (0 : Int) + (1 * j + ((-1) * a1 + 0)) = 0 := he _ (List.mem_cons_of_mem _ (List.mem_cons_of_mem _ List.mem_cons_self))
  have e3 : ((-4294967296) : Int) + ((-4294967296) * a1 + (1 * a2 + 0)) = 0 := he _ (List.mem_cons_of_mem _ (List.mem_cons_of_mem _ (List.mem_cons_of_mem _ List.mem_cons_self)))
  have g0 : 0 ≤ (0 : Int) + (1 * a1 + 0) := hg _ List.mem_cons_self
  have g1 : 0 ≤ (4294967276 : Int) + ((-1) * a1 + 0) := hg _ (List.mem_cons_of_mem _ List.mem_cons_self)
  have g2 : 0 ≤ ((-1) : Int) + (1 * (zk_el w' 220 j) + 0) := hg _ (List.mem_cons_of_mem _ (List.mem_cons_of_mem _ List.mem_cons_self))
  have g3 : 0 ≤ (1 : Int) + ((-1) * (zk_el w' 220 j) + 0) := hg _ (List.mem_cons_of_mem _ (List.mem_cons_of_mem _ (List.mem_cons_of_mem _ List.mem_cons_self)))
  have hp := (zj_170 (w := w) (j := a0) (l := 0) (h := a1) (by omega) (by omega) (by omega) (by omega) (by omega) ).mp (by omega)
  have kj : zh_e w' 220 a1 = zk_el w' 220 j := by rw [show a1 = j by omega]; rfl
  have h : ∀ m, (0 : Int) ≤ m → m < a1 + 1 → m < 125 → zh_e w' 220 m = 1 := by
    intro m m0 m1 m2
    by_cases c : m = a1
    · rw [c, kj]
      omega
    · have e : zh_e w' 220 m = zh_e w 220 m := hw.2 m m0 (by omega)
      rw [e]
      exact hp m m0 (by omega) m2
  exact (zx_eF1 (by show 0 ≤ (0 : Int) + (1 * a2 + 0); omega) (by show zk_xe w' 2000170 ((0 : Int) + (1 * a2 + 0)) = (1 : Int) + (0); rw [show (0 : Int) + (1 * a2 + 0) = a2 by omega]; exact ((zj_170 (w := w') (j := a2) (l := 0) (h := (a1 + 1)) (by omega) (by omega) (by omega) (by omega) (by omega) ).mpr h).trans (by omega)) zx_eF0)
def zx_E698 : zx_V := zx_Vc 220 [] 3 [(2000170, 0)] [((0, 0), [(2, 1, 0), (3, 0, 4294967296)]), ((0, 1), [(5, 1, 0)]), ((0, 0), [(0, 1, 0), (3, 0, 1)]), ((0, 4294967296), [(3, 0, 4294967296), (4, 1, 0)])] [((0, 0), [(3, 1, 0)]), ((4294967276, 0), [(3, 0, 1)]), ((0, 125), [(3, 1, 0)])] [(2000170, ((0, 0), [(4, 1, 0)]), ((1, 0), []))]
theorem zx_E698_ok {PT : Nat → zz_W → Prop} : zx_Vok 64 zHT PT zx_E698 := by
  refine zx_Vc_ok (fun w w' j ins hI hI' h0 hw hK hl he hg => ?_)
  obtain ⟨a0, a1, a2, rfl⟩ := zx_i3 hl
  have e0 : (0 : Int) + (1 * a0 + ((-4294967296) * a1 + 0)) = 0 := he _ List.mem_cons_self
  have e1 : ((-1) : Int) + (1 * (zk_xe w 2000170 a0) + 0) = 0 := he _ (List.mem_cons_of_mem _ List.mem_cons_self)
  have e2 : (0 : Int) + (1 * j + ((-1) * a1 + 0)) = 0 := he _ (List.mem_cons_of_mem _ (List.mem_cons_of_mem _ List.mem_cons_self))
  have e3 : ((-4294967296) : Int) + ((-4294967296) * a1 + (1 * a2 + 0)) = 0 := he _ (List.mem_cons_of_mem _ (List.mem_cons_of_mem _ (List.mem_cons_of_mem _ List.mem_cons_self)))
  have g0 : 0 ≤ (0 : Int) + (1 * a1 + 0) := hg _ List.mem_cons_self
  have g1 : 0 ≤ (4294967276 : Int) + ((-1) * a1 + 0) := hg _ (List.mem_cons_of_mem _ List.mem_cons_self)
  have g2 : 0 ≤ ((-125) : Int) + (1 * a1 + 0) := hg _ (List.mem_cons_of_mem _ (List.mem_cons_of_mem _ List.mem_cons_self))
  have hp := (zj_170 (w := w) (j := a0) (l := 0) (h := a1) (by omega) (by omega) (by omega) (by omega) (by omega) ).mp (by omega)
  have kj : zh_e w' 220 a1 = zk_el w' 220 j := by rw [show a1 = j by omega]; rfl
  have h : ∀ m, (0 : Int) ≤ m → m < a1 + 1 → m < 125 → zh_e w' 220 m = 1 := by
    intro m m0 m1 m2
    by_cases c : m = a1
    · rw [c, kj]
      omega
    · have e : zh_e w' 220 m = zh_e w 220 m := hw.2 m m0 (by omega)
      rw [e]
      exact hp m m0 (by omega) m2
  exact (zx_eF1 (by show 0 ≤ (0 : Int) + (1 * a2 + 0); omega) (by show zk_xe w' 2000170 ((0 : Int) + (1 * a2 + 0)) = (1 : Int) + (0); rw [show (0 : Int) + (1 * a2 + 0) = a2 by omega]; exact ((zj_170 (w := w') (j := a2) (l := 0) (h := (a1 + 1)) (by omega) (by omega) (by omega) (by omega) (by omega) ).mpr h).trans (by omega)) zx_eF0)
def zx_E699 : zx_V := zx_Vc 220 [] 3 [(2000170, 0)] [((0, 0), [(2, 1, 0), (3, 0, 1), (4, 0, 4294967296)]), ((0, 1), [(5, 1, 0)]), ((0, 1), [(1, 1, 0)])] [((0, 0), [(3, 1, 0)]), ((4294967276, 0), [(3, 0, 1)]), ((0, 0), [(4, 1, 0)]), ((4294967276, 0), [(4, 0, 1)])] [(2000170, ((0, 0), [(2, 1, 0)]), ((1, 0), []))]
theorem zx_E699_ok {PT : Nat → zz_W → Prop} : zx_Vok 64 zHT PT zx_E699 := by
  refine zx_Vc_ok (fun w w' j ins hI hI' h0 hw hK hl he hg => ?_)
  obtain ⟨a0, a1, a2, rfl⟩ := zx_i3 hl
  have e0 : (0 : Int) + (1 * a0 + ((-1) * a1 + ((-4294967296) * a2 + 0))) = 0 := he _ List.mem_cons_self
  have e1 : ((-1) : Int) + (1 * (zk_xe w 2000170 a0) + 0) = 0 := he _ (List.mem_cons_of_mem _ List.mem_cons_self)
  have e2 : ((-1) : Int) + (1 * (zk_el w' 220 j) + 0) = 0 := he _ (List.mem_cons_of_mem _ (List.mem_cons_of_mem _ List.mem_cons_self))
  have g0 : 0 ≤ (0 : Int) + (1 * a1 + 0) := hg _ List.mem_cons_self
  have g1 : 0 ≤ (4294967276 : Int) + ((-1) * a1 + 0) := hg _ (List.mem_cons_of_mem _ List.mem_cons_self)
  have g2 : 0 ≤ (0 : Int) + (1 * a2 + 0) := hg _ (List.mem_cons_of_mem _ (List.mem_cons_of_mem _ List.mem_cons_self))
  have g3 : 0 ≤ (4294967276 : Int) + ((-1) * a2 + 0) := hg _ (List.mem_cons_of_mem _ (List.mem_cons_of_mem _ (List.mem_cons_of_mem _ List.mem_cons_self)))
  have hp := (zj_170 (w := w) (j := a0) (l := a1) (h := a2) (by omega) (by omega) (by omega) (by omega) (by omega) ).mp (by omega)
  have h : ∀ m, a1 ≤ m → m < a2 → m < 125 → zh_e w' 220 m = 1 := by
    intro m m0 m1 m2
    by_cases c : m = j
    · rw [c]
      show zk_el w' 220 j = 1
      omega
    · have e : zh_e w' 220 m = zh_e w 220 m := hw.2 m (by omega) c
      rw [e]
      exact hp m m0 m1 m2
  exact (zx_eF1 (by show 0 ≤ (0 : Int) + (1 * a0 + 0); omega) (by show zk_xe w' 2000170 ((0 : Int) + (1 * a0 + 0)) = (1 : Int) + (0); rw [show (0 : Int) + (1 * a0 + 0) = a0 by omega]; exact ((zj_170 (w := w') (j := a0) (l := a1) (h := a2) (by omega) (by omega) (by omega) (by omega) (by omega) ).mpr h).trans (by omega)) zx_eF0)
def zx_E700 : zx_V := zx_Vc 220 [] 4 [(2000170, 0)] [((0, 0), [(2, 1, 0), (3, 0, 1), (4, 0, 4294967296)]), ((0, 1), [(6, 1, 0)]), ((0, 0), [(0, 1, 0), (3, 0, 1)]), ((0, 1), [(3, 0, 1), (4, 0, 4294967296), (5, 1, 0)])] [((0, 0), [(3, 1, 0)]), ((4294967276, 0), [(3, 0, 1)]), ((0, 0), [(4, 1, 0)]), ((4294967276, 0), [(4, 0, 1)])] [(2000170, ((0, 0), [(5, 1, 0)]), ((1, 0), []))]
theorem zx_E700_ok {PT : Nat → zz_W → Prop} : zx_Vok 64 zHT PT zx_E700 := by
  refine zx_Vc_ok (fun w w' j ins hI hI' h0 hw hK hl he hg => ?_)
  obtain ⟨a0, a1, a2, a3, rfl⟩ := zx_i4 hl
  have e0 : (0 : Int) + (1 * a0 + ((-1) * a1 + ((-4294967296) * a2 + 0))) = 0 := he _ List.mem_cons_self
  have e1 : ((-1) : Int) + (1 * (zk_xe w 2000170 a0) + 0) = 0 := he _ (List.mem_cons_of_mem _ List.mem_cons_self)
  have e2 : (0 : Int) + (1 * j + ((-1) * a1 + 0)) = 0 := he _ (List.mem_cons_of_mem _ (List.mem_cons_of_mem _ List.mem_cons_self))
  have e3 : ((-1) : Int) + ((-1) * a1 + ((-4294967296) * a2 + (1 * a3 + 0))) = 0 := he _ (List.mem_cons_of_mem _ (List.mem_cons_of_mem _ (List.mem_cons_of_mem _ List.mem_cons_self)))
  have g0 : 0 ≤ (0 : Int) + (1 * a1 + 0) := hg _ List.mem_cons_self
  have g1 : 0 ≤ (4294967276 : Int) + ((-1) * a1 + 0) := hg _ (List.mem_cons_of_mem _ List.mem_cons_self)
  have g2 : 0 ≤ (0 : Int) + (1 * a2 + 0) := hg _ (List.mem_cons_of_mem _ (List.mem_cons_of_mem _ List.mem_cons_self))
  have g3 : 0 ≤ (4294967276 : Int) + ((-1) * a2 + 0) := hg _ (List.mem_cons_of_mem _ (List.mem_cons_of_mem _ (List.mem_cons_of_mem _ List.mem_cons_self)))
  have hp := (zj_170 (w := w) (j := a0) (l := a1) (h := a2) (by omega) (by omega) (by omega) (by omega) (by omega) ).mp (by omega)
  have h : ∀ m, a1 + 1 ≤ m → m < a2 → m < 125 → zh_e w' 220 m = 1 := by
    intro m m0 m1 m2
    have e : zh_e w' 220 m = zh_e w 220 m := hw.2 m (by omega) (by omega)
    rw [e]
    exact hp m (by omega) m1 m2
  exact (zx_eF1 (by show 0 ≤ (0 : Int) + (1 * a3 + 0); omega) (by show zk_xe w' 2000170 ((0 : Int) + (1 * a3 + 0)) = (1 : Int) + (0); rw [show (0 : Int) + (1 * a3 + 0) = a3 by omega]; exact ((zj_170 (w := w') (j := a3) (l := (a1 + 1)) (h := a2) (by omega) (by omega) (by omega) (by omega) (by omega) ).mpr h).trans (by omega)) zx_eF0)
def zx_E708 : zx_V := zx_Vc 176 [] 1 [(2000169, 0)] [((0, 1), [(3, 1, 0)])] [((0, 0), [(2, 1, 0)]), ((4294967276, 0), [(2, 0, 1)]), ((0, 0), [(0, 1, 0), (2, 0, 1)])] [(2000169, ((0, 0), [(2, 1, 0)]), ((1, 0), []))]
theorem zx_E708_ok {PT : Nat → zz_W → Prop} : zx_Vok 64 zHT PT zx_E708 := by
  refine zx_Vc_ok (fun w w' j ins hI hI' h0 hw hK hl he hg => ?_)
  obtain ⟨a0, rfl⟩ := zx_i1 hl
  have e0 : ((-1) : Int) + (1 * (zk_xe w 2000169 a0) + 0) = 0 := he _ List.mem_cons_self
  have g0 : 0 ≤ (0 : Int) + (1 * a0 + 0) := hg _ List.mem_cons_self
  have g1 : 0 ≤ (4294967276 : Int) + ((-1) * a0 + 0) := hg _ (List.mem_cons_of_mem _ List.mem_cons_self)
  have g2 : 0 ≤ (0 : Int) + (1 * j + ((-1) * a0 + 0)) := hg _ (List.mem_cons_of_mem _ (List.mem_cons_of_mem _ List.mem_cons_self))
  have hp := (zj_169 (w := w) (j := a0) (by omega) (by omega)).mp (by omega)
  have h : ∀ u, 0 ≤ u → u < a0 → 1 ≤ zh_e w' 176 u → zh_e w' 207 u ≤ 8000 → zj_s (zh_e w' 208) (8000 * u) (zh_e w' 207 u).toNat ≤ 2045 := by
    rw [zh_e_g (hw.1 207 (by decide)), zh_e_g (hw.1 208 (by decide))]
    intro u u0 u1 u2
    have e : zh_e w' 176 u = zh_e w 176 u := hw.2 u u0 (by omega)
    rw [e] at u2
    exact hp u u0 u1 u2
  exact (zx_eF1 (by show 0 ≤ (0 : Int) + (1 * a0 + 0); omega) (by show zk_xe w' 2000169 ((0 : Int) + (1 * a0 + 0)) = (1 : Int) + (0); rw [show (0 : Int) + (1 * a0 + 0) = a0 by omega]; exact ((zj_169 (w := w') (j := a0) (by omega) (by omega)).mpr h).trans (by omega)) zx_eF0)
def zx_D1142 : zx_L := zx_Lc [] 3 [(2000169, 0), (176, 1)] [] [((0, 1), [(3, 1, 0)]), ((0, 0), [(0, 0, 1), (1, 1, 0)]), ((0, 1), [(0, 0, 1), (2, 1, 0)]), ((0, 0), [(4, 1, 0)])] [((0, 0), [(0, 1, 0)]), ((4294967276, 0), [(0, 0, 1)])] [([], [], [(2000169, ((0, 0), [(2, 1, 0)]), ((1, 0), []))], [])]
theorem zx_D1142_ok {PT : Nat → zz_W → Prop} : zx_Lok 64 zHT PT zx_D1142 := by
  refine zx_Lc_ok (fun w hI hK ins hl hr he hg => ?_)
  obtain ⟨a0, a1, a2, rfl⟩ := zx_i3 hl
  have e0 : ((-1) : Int) + (1 * (zk_xe w 2000169 a0) + 0) = 0 := he _ List.mem_cons_self
  have e1 : (0 : Int) + ((-1) * a0 + (1 * a1 + 0)) = 0 := he _ (List.mem_cons_of_mem _ List.mem_cons_self)
  have e2 : ((-1) : Int) + ((-1) * a0 + (1 * a2 + 0)) = 0 := he _ (List.mem_cons_of_mem _ (List.mem_cons_of_mem _ List.mem_cons_self))
  have e3 : (0 : Int) + (1 * (zk_xe w 176 a1) + 0) = 0 := he _ (List.mem_cons_of_mem _ (List.mem_cons_of_mem _ (List.mem_cons_of_mem _ List.mem_cons_self)))
  have g0 : 0 ≤ (0 : Int) + (1 * a0 + 0) := hg _ List.mem_cons_self
  have g1 : 0 ≤ (4294967276 : Int) + ((-1) * a0 + 0) := hg _ (List.mem_cons_of_mem _ List.mem_cons_self)
  have r0 : 0 ≤ a0 := hr _ List.mem_cons_self
  have r1 : 0 ≤ a1 := hr _ (List.mem_cons_of_mem _ List.mem_cons_self)
  have hp := (zj_169 (w := w) (j := a0) (by omega) (by omega)).mp (by omega)
  have k0 : zh_e w 176 (a0) = zk_xe w 176 a1 := by rw [zk_xe_r (i := 176) (by decide)]; show zk_el w 176 (a0) = zk_el w 176 a1; rw [show a0 = a1 by omega]
  have h : ∀ u, 0 ≤ u → u < a0 + 1 → 1 ≤ zh_e w 176 u → zh_e w 207 u ≤ 8000 → zj_s (zh_e w 208) (8000 * u) (zh_e w 207 u).toNat ≤ 2045 := by
    intro u u0 u1 u2 u3
    by_cases c : u = a0
    · rw [c, k0] at u2
      omega
    · exact hp u u0 (by omega) u2 u3
  exact ⟨_, List.mem_cons_self, [], rfl, zx_bnil, zx_cs0, (zx_eF1 (by show 0 ≤ (0 : Int) + (1 * a2 + 0); omega) (by show zk_xe w 2000169 ((0 : Int) + (1 * a2 + 0)) = (1 : Int) + (0); rw [show (0 : Int) + (1 * a2 + 0) = a2 by omega]; rw [show a2 = a0 + 1 by omega]; exact ((zj_169 (w := w) (j := (a0 + 1)) (by omega) (by omega)).mpr h).trans (by omega)) zx_eF0), zx_k0⟩
def zx_D1143 : zx_L := zx_Lc [] 3 [(2000169, 0), (176, 1), (2000171, 1)] [] [((0, 1), [(3, 1, 0)]), ((0, 0), [(0, 0, 1), (1, 1, 0)]), ((0, 1), [(0, 0, 1), (2, 1, 0)])] [((0, 0), [(0, 1, 0)]), ((4294967276, 0), [(0, 0, 1)]), ((2045, 0), [(5, 0, 1)])] [([], [], [(2000169, ((0, 0), [(2, 1, 0)]), ((1, 0), []))], [])]
theorem zx_D1143_ok {PT : Nat → zz_W → Prop} : zx_Lok 64 zHT PT zx_D1143 := by
  refine zx_Lc_ok (fun w hI hK ins hl hr he hg => ?_)
  obtain ⟨a0, a1, a2, rfl⟩ := zx_i3 hl
  have e0 : ((-1) : Int) + (1 * (zk_xe w 2000169 a0) + 0) = 0 := he _ List.mem_cons_self
  have e1 : (0 : Int) + ((-1) * a0 + (1 * a1 + 0)) = 0 := he _ (List.mem_cons_of_mem _ List.mem_cons_self)
  have e2 : ((-1) : Int) + ((-1) * a0 + (1 * a2 + 0)) = 0 := he _ (List.mem_cons_of_mem _ (List.mem_cons_of_mem _ List.mem_cons_self))
  have g0 : 0 ≤ (0 : Int) + (1 * a0 + 0) := hg _ List.mem_cons_self
  have g1 : 0 ≤ (4294967276 : Int) + ((-1) * a0 + 0) := hg _ (List.mem_cons_of_mem _ List.mem_cons_self)
  have g2 : 0 ≤ (2045 : Int) + ((-1) * (zk_xe w 2000171 a1) + 0) := hg _ (List.mem_cons_of_mem _ (List.mem_cons_of_mem _ List.mem_cons_self))
  have r0 : 0 ≤ a0 := hr _ List.mem_cons_self
  have r1 : 0 ≤ a1 := hr _ (List.mem_cons_of_mem _ List.mem_cons_self)
  have r2 : 0 ≤ a1 := hr _ (List.mem_cons_of_mem _ (List.mem_cons_of_mem _ List.mem_cons_self))
  have hp := (zj_169 (w := w) (j := a0) (by omega) (by omega)).mp (by omega)
  have hc : zk_xe w 2000171 a1 = zj_s (zh_e w 208) (8000 * a0) (zh_e w 207 a0).toNat := by
    rw [show (2000171 : Nat) = 2000000 + 171 from rfl, zk_xe_h, show a1 = a0 by omega]
    rfl
  have h : ∀ u, 0 ≤ u → u < a0 + 1 → 1 ≤ zh_e w 176 u → zh_e w 207 u ≤ 8000 → zj_s (zh_e w 208) (8000 * u) (zh_e w 207 u).toNat ≤ 2045 := by
    intro u u0 u1 u2 u3
    by_cases c : u = a0
    · rw [c, ← hc]
      omega
    · exact hp u u0 (by omega) u2 u3
  exact ⟨_, List.mem_cons_self, [], rfl, zx_bnil, zx_cs0, (zx_eF1 (by show 0 ≤ (0 : Int) + (1 * a2 + 0); omega) (by show zk_xe w 2000169 ((0 : Int) + (1 * a2 + 0)) = (1 : Int) + (0); rw [show (0 : Int) + (1 * a2 + 0) = a2 by omega]; rw [show a2 = a0 + 1 by omega]; exact ((zj_169 (w := w) (j := (a0 + 1)) (by omega) (by omega)).mpr h).trans (by omega)) zx_eF0), zx_k0⟩
/-- named steps of a unit (function 171) -/
theorem zj_171 {w : zz_W} {j : Int} : zk_xe w 2000171 j = zj_s (zh_e w 208) (8000 * j) (zh_e w 207 j).toNat := by
  rw [show (2000171 : Nat) = 2000000 + 171 from rfl, zk_xe_h]
  rfl
def zx_E701 : zx_V := zx_Vc 208 [] 1 [(2000171, 0), (207, 0)] [] [((0, 0), [(2, 1, 0)]), ((4294967276, 0), [(2, 0, 1)]), ((0, 0), [(4, 1, 0)]), ((0, 0), [(0, 1, 0), (2, 0, 8000), (4, 0, 1)])] [(2000171, ((0, 0), [(2, 1, 0)]), ((0, 0), [(3, 1, 0)]))]
theorem zx_E701_ok {PT : Nat → zz_W → Prop} : zx_Vok 64 zHT PT zx_E701 := by
  refine zx_Vc_ok (fun w w' j ins hI hI' h0 hw hK hl he hg => ?_)
  obtain ⟨a0, rfl⟩ := zx_i1 hl
  have g0 : 0 ≤ (0 : Int) + (1 * a0 + 0) := hg _ List.mem_cons_self
  have g1 : 0 ≤ (4294967276 : Int) + ((-1) * a0 + 0) := hg _ (List.mem_cons_of_mem _ List.mem_cons_self)
  have g2 : 0 ≤ (0 : Int) + (1 * (zk_xe w 207 a0) + 0) := hg _ (List.mem_cons_of_mem _ (List.mem_cons_of_mem _ List.mem_cons_self))
  have g3 : 0 ≤ (0 : Int) + (1 * j + ((-8000) * a0 + ((-1) * (zk_xe w 207 a0) + 0))) := hg _ (List.mem_cons_of_mem _ (List.mem_cons_of_mem _ (List.mem_cons_of_mem _ List.mem_cons_self)))
  have k0 : zh_e w 207 (a0) = zk_xe w 207 a0 := by rw [zk_xe_r (i := 207) (by decide)]; show zk_el w 207 (a0) = zk_el w 207 a0; rw [show a0 = a0 by omega]
  have h : zk_xe w' 2000171 a0 = zk_xe w 2000171 a0 := by
    rw [zj_171, zj_171, zh_e_g (hw.1 207 (by decide)), k0]
    exact zj_se (fun i i0 i1 => hw.2 _ (by omega) (by omega))
  exact (zx_eF1 (by show 0 ≤ (0 : Int) + (1 * a0 + 0); omega) (by show zk_xe w' 2000171 ((0 : Int) + (1 * a0 + 0)) = (0 : Int) + (1 * (zk_xe w 2000171 a0) + 0); rw [show (0 : Int) + (1 * a0 + 0) = a0 by omega]; exact h.trans (by omega)) zx_eF0)
def zx_E702 : zx_V := zx_Vc 207 [] 2 [(2000171, 0), (207, 0), (208, 1)] [((0, 0), [(0, 1, 0), (2, 0, 1)]), ((0, 1), [(1, 1, 0), (5, 0, 1)]), ((0, 0), [(2, 0, 8000), (3, 1, 0), (5, 0, 1)])] [((0, 0), [(2, 1, 0)]), ((4294967276, 0), [(2, 0, 1)]), ((0, 0), [(5, 1, 0)]), ((0, 5), [(6, 1, 0)]), ((8, 0), [(6, 0, 1)])] [(2000171, ((0, 0), [(2, 1, 0)]), ((1, 0), [(4, 1, 0)]))]
theorem zx_E702_ok {PT : Nat → zz_W → Prop} : zx_Vok 64 zHT PT zx_E702 := by
  refine zx_Vc_ok (fun w w' j ins hI hI' h0 hw hK hl he hg => ?_)
  obtain ⟨a0, a1, rfl⟩ := zx_i2 hl
  have e0 : (0 : Int) + (1 * j + ((-1) * a0 + 0)) = 0 := he _ List.mem_cons_self
  have e1 : ((-1) : Int) + (1 * (zk_el w' 207 j) + ((-1) * (zk_xe w 207 a0) + 0)) = 0 := he _ (List.mem_cons_of_mem _ List.mem_cons_self)
  have e2 : (0 : Int) + ((-8000) * a0 + (1 * a1 + ((-1) * (zk_xe w 207 a0) + 0))) = 0 := he _ (List.mem_cons_of_mem _ (List.mem_cons_of_mem _ List.mem_cons_self))
  have g0 : 0 ≤ (0 : Int) + (1 * a0 + 0) := hg _ List.mem_cons_self
  have g1 : 0 ≤ (4294967276 : Int) + ((-1) * a0 + 0) := hg _ (List.mem_cons_of_mem _ List.mem_cons_self)
  have g2 : 0 ≤ (0 : Int) + (1 * (zk_xe w 207 a0) + 0) := hg _ (List.mem_cons_of_mem _ (List.mem_cons_of_mem _ List.mem_cons_self))
  have g3 : 0 ≤ ((-5) : Int) + (1 * (zk_xe w 208 a1) + 0) := hg _ (List.mem_cons_of_mem _ (List.mem_cons_of_mem _ (List.mem_cons_of_mem _ List.mem_cons_self)))
  have g4 : 0 ≤ (8 : Int) + ((-1) * (zk_xe w 208 a1) + 0) := hg _ (List.mem_cons_of_mem _ (List.mem_cons_of_mem _ (List.mem_cons_of_mem _ (List.mem_cons_of_mem _ List.mem_cons_self))))
  have k0 : zh_e w 207 (a0) = zk_xe w 207 a0 := by rw [zk_xe_r (i := 207) (by decide)]; show zk_el w 207 (a0) = zk_el w 207 a0; rw [show a0 = a0 by omega]
  have k1 : zh_e w 208 (8000 * a0 + zk_xe w 207 a0) = zk_xe w 208 a1 := by rw [zk_xe_r (i := 208) (by decide)]; show zk_el w 208 (8000 * a0 + zk_xe w 207 a0) = zk_el w 208 a1; rw [show 8000 * a0 + zk_xe w 207 a0 = a1 by omega]
  have kS : zh_e w' 207 a0 = zk_xe w 207 a0 + 1 := by
    show zk_el w' 207 a0 = _
    have q : zk_el w' 207 a0 = zk_el w' 207 j := by rw [show a0 = j by omega]
    omega
  have h : zk_xe w' 2000171 a0 = zk_xe w 2000171 a0 + 1 := by
    rw [zj_171, zj_171, kS, zh_e_g (hw.1 208 (by decide)), k0, zj_sn (by omega), k1, zh_b1 (by unfold zj_nm; omega)]
  exact (zx_eF1 (by show 0 ≤ (0 : Int) + (1 * a0 + 0); omega) (by show zk_xe w' 2000171 ((0 : Int) + (1 * a0 + 0)) = (1 : Int) + (1 * (zk_xe w 2000171 a0) + 0); rw [show (0 : Int) + (1 * a0 + 0) = a0 by omega]; exact h.trans (by omega)) zx_eF0)
def zx_E703 : zx_V := zx_Vc 207 [] 2 [(2000171, 0), (207, 0), (208, 1)] [((0, 0), [(0, 1, 0), (2, 0, 1)]), ((0, 1), [(1, 1, 0), (5, 0, 1)]), ((0, 0), [(2, 0, 8000), (3, 1, 0), (5, 0, 1)])] [((0, 0), [(2, 1, 0)]), ((4294967276, 0), [(2, 0, 1)]), ((0, 0), [(5, 1, 0)]), ((0, 11), [(6, 1, 0)]), ((12, 0), [(6, 0, 1)])] [(2000171, ((0, 0), [(2, 1, 0)]), ((1, 0), [(4, 1, 0)]))]
theorem zx_E703_ok {PT : Nat → zz_W → Prop} : zx_Vok 64 zHT PT zx_E703 := by
  refine zx_Vc_ok (fun w w' j ins hI hI' h0 hw hK hl he hg => ?_)
  obtain ⟨a0, a1, rfl⟩ := zx_i2 hl
  have e0 : (0 : Int) + (1 * j + ((-1) * a0 + 0)) = 0 := he _ List.mem_cons_self
  have e1 : ((-1) : Int) + (1 * (zk_el w' 207 j) + ((-1) * (zk_xe w 207 a0) + 0)) = 0 := he _ (List.mem_cons_of_mem _ List.mem_cons_self)
  have e2 : (0 : Int) + ((-8000) * a0 + (1 * a1 + ((-1) * (zk_xe w 207 a0) + 0))) = 0 := he _ (List.mem_cons_of_mem _ (List.mem_cons_of_mem _ List.mem_cons_self))
  have g0 : 0 ≤ (0 : Int) + (1 * a0 + 0) := hg _ List.mem_cons_self
  have g1 : 0 ≤ (4294967276 : Int) + ((-1) * a0 + 0) := hg _ (List.mem_cons_of_mem _ List.mem_cons_self)
  have g2 : 0 ≤ (0 : Int) + (1 * (zk_xe w 207 a0) + 0) := hg _ (List.mem_cons_of_mem _ (List.mem_cons_of_mem _ List.mem_cons_self))
  have g3 : 0 ≤ ((-11) : Int) + (1 * (zk_xe w 208 a1) + 0) := hg _ (List.mem_cons_of_mem _ (List.mem_cons_of_mem _ (List.mem_cons_of_mem _ List.mem_cons_self)))
  have g4 : 0 ≤ (12 : Int) + ((-1) * (zk_xe w 208 a1) + 0) := hg _ (List.mem_cons_of_mem _ (List.mem_cons_of_mem _ (List.mem_cons_of_mem _ (List.mem_cons_of_mem _ List.mem_cons_self))))
  have k0 : zh_e w 207 (a0) = zk_xe w 207 a0 := by rw [zk_xe_r (i := 207) (by decide)]; show zk_el w 207 (a0) = zk_el w 207 a0; rw [show a0 = a0 by omega]
  have k1 : zh_e w 208 (8000 * a0 + zk_xe w 207 a0) = zk_xe w 208 a1 := by rw [zk_xe_r (i := 208) (by decide)]; show zk_el w 208 (8000 * a0 + zk_xe w 207 a0) = zk_el w 208 a1; rw [show 8000 * a0 + zk_xe w 207 a0 = a1 by omega]
  have kS : zh_e w' 207 a0 = zk_xe w 207 a0 + 1 := by
    show zk_el w' 207 a0 = _
    have q : zk_el w' 207 a0 = zk_el w' 207 j := by rw [show a0 = j by omega]
    omega
  have h : zk_xe w' 2000171 a0 = zk_xe w 2000171 a0 + 1 := by
    rw [zj_171, zj_171, kS, zh_e_g (hw.1 208 (by decide)), k0, zj_sn (by omega), k1, zh_b1 (by unfold zj_nm; omega)]
  exact (zx_eF1 (by show 0 ≤ (0 : Int) + (1 * a0 + 0); omega) (by show zk_xe w' 2000171 ((0 : Int) + (1 * a0 + 0)) = (1 : Int) + (1 * (zk_xe w 2000171 a0) + 0); rw [show (0 : Int) + (1 * a0 + 0) = a0 by omega]; exact h.trans (by omega)) zx_eF0)
def zx_E704 : zx_V := zx_Vc 207 [] 2 [(2000171, 0), (207, 0), (208, 1)] [((0, 0), [(0, 1, 0), (2, 0, 1)]), ((0, 1), [(1, 1, 0), (5, 0, 1)]), ((0, 0), [(2, 0, 8000), (3, 1, 0), (5, 0, 1)])] [((0, 0), [(2, 1, 0)]), ((4294967276, 0), [(2, 0, 1)]), ((0, 0), [(5, 1, 0)]), ((4, 0), [(6, 0, 1)])] [(2000171, ((0, 0), [(2, 1, 0)]), ((0, 0), [(4, 1, 0)]))]
theorem zx_E704_ok {PT : Nat → zz_W → Prop} : zx_Vok 64 zHT PT zx_E704 := by
  refine zx_Vc_ok (fun w w' j ins hI hI' h0 hw hK hl he hg => ?_)
  obtain ⟨a0, a1, rfl⟩ := zx_i2 hl
  have e0 : (0 : Int) + (1 * j + ((-1) * a0 + 0)) = 0 := he _ List.mem_cons_self
  have e1 : ((-1) : Int) + (1 * (zk_el w' 207 j) + ((-1) * (zk_xe w 207 a0) + 0)) = 0 := he _ (List.mem_cons_of_mem _ List.mem_cons_self)
  have e2 : (0 : Int) + ((-8000) * a0 + (1 * a1 + ((-1) * (zk_xe w 207 a0) + 0))) = 0 := he _ (List.mem_cons_of_mem _ (List.mem_cons_of_mem _ List.mem_cons_self))
  have g0 : 0 ≤ (0 : Int) + (1 * a0 + 0) := hg _ List.mem_cons_self
  have g1 : 0 ≤ (4294967276 : Int) + ((-1) * a0 + 0) := hg _ (List.mem_cons_of_mem _ List.mem_cons_self)
  have g2 : 0 ≤ (0 : Int) + (1 * (zk_xe w 207 a0) + 0) := hg _ (List.mem_cons_of_mem _ (List.mem_cons_of_mem _ List.mem_cons_self))
  have g3 : 0 ≤ (4 : Int) + ((-1) * (zk_xe w 208 a1) + 0) := hg _ (List.mem_cons_of_mem _ (List.mem_cons_of_mem _ (List.mem_cons_of_mem _ List.mem_cons_self)))
  have k0 : zh_e w 207 (a0) = zk_xe w 207 a0 := by rw [zk_xe_r (i := 207) (by decide)]; show zk_el w 207 (a0) = zk_el w 207 a0; rw [show a0 = a0 by omega]
  have k1 : zh_e w 208 (8000 * a0 + zk_xe w 207 a0) = zk_xe w 208 a1 := by rw [zk_xe_r (i := 208) (by decide)]; show zk_el w 208 (8000 * a0 + zk_xe w 207 a0) = zk_el w 208 a1; rw [show 8000 * a0 + zk_xe w 207 a0 = a1 by omega]
  have kS : zh_e w' 207 a0 = zk_xe w 207 a0 + 1 := by
    show zk_el w' 207 a0 = _
    have q : zk_el w' 207 a0 = zk_el w' 207 j := by rw [show a0 = j by omega]
    omega
  have h : zk_xe w' 2000171 a0 = zk_xe w 2000171 a0 + 0 := by
    rw [zj_171, zj_171, kS, zh_e_g (hw.1 208 (by decide)), k0, zj_sn (by omega), k1, zh_b0 (by unfold zj_nm; omega)]
  exact (zx_eF1 (by show 0 ≤ (0 : Int) + (1 * a0 + 0); omega) (by show zk_xe w' 2000171 ((0 : Int) + (1 * a0 + 0)) = (0 : Int) + (1 * (zk_xe w 2000171 a0) + 0); rw [show (0 : Int) + (1 * a0 + 0) = a0 by omega]; exact h.trans (by omega)) zx_eF0)
def zx_E705 : zx_V := zx_Vc 207 [] 2 [(2000171, 0), (207, 0), (208, 1)] [((0, 0), [(0, 1, 0), (2, 0, 1)]), ((0, 1), [(1, 1, 0), (5, 0, 1)]), ((0, 0), [(2, 0, 8000), (3, 1, 0), (5, 0, 1)])] [((0, 0), [(2, 1, 0)]), ((4294967276, 0), [(2, 0, 1)]), ((0, 0), [(5, 1, 0)]), ((0, 9), [(6, 1, 0)]), ((10, 0), [(6, 0, 1)])] [(2000171, ((0, 0), [(2, 1, 0)]), ((0, 0), [(4, 1, 0)]))]
theorem zx_E705_ok {PT : Nat → zz_W → Prop} : zx_Vok 64 zHT PT zx_E705 := by
  refine zx_Vc_ok (fun w w' j ins hI hI' h0 hw hK hl he hg => ?_)
  obtain ⟨a0, a1, rfl⟩ := zx_i2 hl
  have e0 : (0 : Int) + (1 * j + ((-1) * a0 + 0)) = 0 := he _ List.mem_cons_self
  have e1 : ((-1) : Int) + (1 * (zk_el w' 207 j) + ((-1) * (zk_xe w 207 a0) + 0)) = 0 := he _ (List.mem_cons_of_mem _ List.mem_cons_self)
  have e2 : (0 : Int) + ((-8000) * a0 + (1 * a1 + ((-1) * (zk_xe w 207 a0) + 0))) = 0 := he _ (List.mem_cons_of_mem _ (List.mem_cons_of_mem _ List.mem_cons_self))
  have g0 : 0 ≤ (0 : Int) + (1 * a0 + 0) := hg _ List.mem_cons_self
  have g1 : 0 ≤ (4294967276 : Int) + ((-1) * a0 + 0) := hg _ (List.mem_cons_of_mem _ List.mem_cons_self)
  have g2 : 0 ≤ (0 : Int) + (1 * (zk_xe w 207 a0) + 0) := hg _ (List.mem_cons_of_mem _ (List.mem_cons_of_mem _ List.mem_cons_self))
  have g3 : 0 ≤ ((-9) : Int) + (1 * (zk_xe w 208 a1) + 0) := hg _ (List.mem_cons_of_mem _ (List.mem_cons_of_mem _ (List.mem_cons_of_mem _ List.mem_cons_self)))
  have g4 : 0 ≤ (10 : Int) + ((-1) * (zk_xe w 208 a1) + 0) := hg _ (List.mem_cons_of_mem _ (List.mem_cons_of_mem _ (List.mem_cons_of_mem _ (List.mem_cons_of_mem _ List.mem_cons_self))))
  have k0 : zh_e w 207 (a0) = zk_xe w 207 a0 := by rw [zk_xe_r (i := 207) (by decide)]; show zk_el w 207 (a0) = zk_el w 207 a0; rw [show a0 = a0 by omega]
  have k1 : zh_e w 208 (8000 * a0 + zk_xe w 207 a0) = zk_xe w 208 a1 := by rw [zk_xe_r (i := 208) (by decide)]; show zk_el w 208 (8000 * a0 + zk_xe w 207 a0) = zk_el w 208 a1; rw [show 8000 * a0 + zk_xe w 207 a0 = a1 by omega]
  have kS : zh_e w' 207 a0 = zk_xe w 207 a0 + 1 := by
    show zk_el w' 207 a0 = _
    have q : zk_el w' 207 a0 = zk_el w' 207 j := by rw [show a0 = j by omega]
    omega
  have h : zk_xe w' 2000171 a0 = zk_xe w 2000171 a0 + 0 := by
    rw [zj_171, zj_171, kS, zh_e_g (hw.1 208 (by decide)), k0, zj_sn (by omega), k1, zh_b0 (by unfold zj_nm; omega)]
  exact (zx_eF1 (by show 0 ≤ (0 : Int) + (1 * a0 + 0); omega) (by show zk_xe w' 2000171 ((0 : Int) + (1 * a0 + 0)) = (0 : Int) + (1 * (zk_xe w 2000171 a0) + 0); rw [show (0 : Int) + (1 * a0 + 0) = a0 by omega]; exact h.trans (by omega)) zx_eF0)
def zx_E706 : zx_V := zx_Vc 207 [] 2 [(2000171, 0), (207, 0), (208, 1)] [((0, 0), [(0, 1, 0), (2, 0, 1)]), ((0, 1), [(1, 1, 0), (5, 0, 1)]), ((0, 0), [(2, 0, 8000), (3, 1, 0), (5, 0, 1)])] [((0, 0), [(2, 1, 0)]), ((4294967276, 0), [(2, 0, 1)]), ((0, 0), [(5, 1, 0)]), ((0, 13), [(6, 1, 0)])] [(2000171, ((0, 0), [(2, 1, 0)]), ((0, 0), [(4, 1, 0)]))]
theorem zx_E706_ok {PT : Nat → zz_W → Prop} : zx_Vok 64 zHT PT zx_E706 := by
  refine zx_Vc_ok (fun w w' j ins hI hI' h0 hw hK hl he hg => ?_)
  obtain ⟨a0, a1, rfl⟩ := zx_i2 hl
  have e0 : (0 : Int) + (1 * j + ((-1) * a0 + 0)) = 0 := he _ List.mem_cons_self
  have e1 : ((-1) : Int) + (1 * (zk_el w' 207 j) + ((-1) * (zk_xe w 207 a0) + 0)) = 0 := he _ (List.mem_cons_of_mem _ List.mem_cons_self)
  have e2 : (0 : Int) + ((-8000) * a0 + (1 * a1 + ((-1) * (zk_xe w 207 a0) + 0))) = 0 := he _ (List.mem_cons_of_mem _ (List.mem_cons_of_mem _ List.mem_cons_self))
  have g0 : 0 ≤ (0 : Int) + (1 * a0 + 0) := hg _ List.mem_cons_self
  have g1 : 0 ≤ (4294967276 : Int) + ((-1) * a0 + 0) := hg _ (List.mem_cons_of_mem _ List.mem_cons_self)
  have g2 : 0 ≤ (0 : Int) + (1 * (zk_xe w 207 a0) + 0) := hg _ (List.mem_cons_of_mem _ (List.mem_cons_of_mem _ List.mem_cons_self))
  have g3 : 0 ≤ ((-13) : Int) + (1 * (zk_xe w 208 a1) + 0) := hg _ (List.mem_cons_of_mem _ (List.mem_cons_of_mem _ (List.mem_cons_of_mem _ List.mem_cons_self)))
  have k0 : zh_e w 207 (a0) = zk_xe w 207 a0 := by rw [zk_xe_r (i := 207) (by decide)]; show zk_el w 207 (a0) = zk_el w 207 a0; rw [show a0 = a0 by omega]
  have k1 : zh_e w 208 (8000 * a0 + zk_xe w 207 a0) = zk_xe w 208 a1 := by rw [zk_xe_r (i := 208) (by decide)]; show zk_el w 208 (8000 * a0 + zk_xe w 207 a0) = zk_el w 208 a1; rw [show 8000 * a0 + zk_xe w 207 a0 = a1 by omega]
  have kS : zh_e w' 207 a0 = zk_xe w 207 a0 + 1 := by
    show zk_el w' 207 a0 = _
    have q : zk_el w' 207 a0 = zk_el w' 207 j := by rw [show a0 = j by omega]
    omega
  have h : zk_xe w' 2000171 a0 = zk_xe w 2000171 a0 + 0 := by
    rw [zj_171, zj_171, kS, zh_e_g (hw.1 208 (by decide)), k0, zj_sn (by omega), k1, zh_b0 (by unfold zj_nm; omega)]
  exact (zx_eF1 (by show 0 ≤ (0 : Int) + (1 * a0 + 0); omega) (by show zk_xe w' 2000171 ((0 : Int) + (1 * a0 + 0)) = (0 : Int) + (1 * (zk_xe w 2000171 a0) + 0); rw [show (0 : Int) + (1 * a0 + 0) = a0 by omega]; exact h.trans (by omega)) zx_eF0)
def zx_E707 : zx_V := zx_Vc 207 [] 1 [] [((0, 0), [(0, 1, 0), (2, 0, 1)]), ((0, 0), [(1, 1, 0)])] [((0, 0), [(2, 1, 0)]), ((4294967276, 0), [(2, 0, 1)])] [(2000171, ((0, 0), [(2, 1, 0)]), ((0, 0), []))]
theorem zx_E707_ok {PT : Nat → zz_W → Prop} : zx_Vok 64 zHT PT zx_E707 := by
  refine zx_Vc_ok (fun w w' j ins hI hI' h0 hw hK hl he hg => ?_)
  obtain ⟨a0, rfl⟩ := zx_i1 hl
  have e0 : (0 : Int) + (1 * j + ((-1) * a0 + 0)) = 0 := he _ List.mem_cons_self
  have e1 : (0 : Int) + (1 * (zk_el w' 207 j) + 0) = 0 := he _ (List.mem_cons_of_mem _ List.mem_cons_self)
  have g0 : 0 ≤ (0 : Int) + (1 * a0 + 0) := hg _ List.mem_cons_self
  have g1 : 0 ≤ (4294967276 : Int) + ((-1) * a0 + 0) := hg _ (List.mem_cons_of_mem _ List.mem_cons_self)
  have kS : zh_e w' 207 a0 = 0 := by
    show zk_el w' 207 a0 = _
    have q : zk_el w' 207 a0 = zk_el w' 207 j := by rw [show a0 = j by omega]
    omega
  have h : zk_xe w' 2000171 a0 = 0 := by
    rw [zj_171, kS]
    rfl
  exact (zx_eF1 (by show 0 ≤ (0 : Int) + (1 * a0 + 0); omega) (by show zk_xe w' 2000171 ((0 : Int) + (1 * a0 + 0)) = (0 : Int) + (0); rw [show (0 : Int) + (1 * a0 + 0) = a0 by omega]; exact h.trans (by omega)) zx_eF0)
theorem zj_n172 {w : zz_W} {j n N : Int} (e : j = n + 18446744073709551616 * N) (n0 : 0 ≤ n) (n1 : n < 4294967296) (N0 : 0 ≤ N) (N1 : N < 4294967296) : zk_xe w 2000172 j = 1 ↔ ∀ u, 0 ≤ u → u < n → 1 ≤ zh_e w 176 u → zj_nu (fun k => zh_e w 208 (8000 * u + k)) (fun k => zh_e w 209 (8000 * u + k)) (fun k => zh_e w 210 (8000 * u + k)) (fun k => zh_e w 211 (8000 * u + k)) (fun k => zh_e w 212 (8000 * u + k)) (fun k => zh_e w 214 (64 * u + k)) (fun k => zh_e w 215 (64 * u + k)) (fun k => zh_e w 204 (600 * u + k)) (fun k => zh_e w 205 (600 * u + k)) (zh_e w 207 u) (zh_e w 213 u) (zh_e w 203 u) N := by
  obtain ⟨d0, d1, d2⟩ := zg_d3 (j := j) (n := n) (k := 0) (u := N) (by omega) n0 n1 (by omega) (by omega) N0 N1
  rw [show (2000172 : Nat) = 2000000 + 172 from rfl, zk_xe_h]
  have h : zv_H 172 w j = zh_b (∀ u, 0 ≤ u → u < n → 1 ≤ zh_e w 176 u → zj_nu (fun k => zh_e w 208 (8000 * u + k)) (fun k => zh_e w 209 (8000 * u + k)) (fun k => zh_e w 210 (8000 * u + k)) (fun k => zh_e w 211 (8000 * u + k)) (fun k => zh_e w 212 (8000 * u + k)) (fun k => zh_e w 214 (64 * u + k)) (fun k => zh_e w 215 (64 * u + k)) (fun k => zh_e w 204 (600 * u + k)) (fun k => zh_e w 205 (600 * u + k)) (zh_e w 207 u) (zh_e w 213 u) (zh_e w 203 u) N) := by
    show zh_b (zv_dg 1 j = 0 → ∀ u, 0 ≤ u → u < zv_dg 0 j → 1 ≤ zh_e w 176 u → zj_nu (fun k => zh_e w 208 (8000 * u + k)) (fun k => zh_e w 209 (8000 * u + k)) (fun k => zh_e w 210 (8000 * u + k)) (fun k => zh_e w 211 (8000 * u + k)) (fun k => zh_e w 212 (8000 * u + k)) (fun k => zh_e w 214 (64 * u + k)) (fun k => zh_e w 215 (64 * u + k)) (fun k => zh_e w 204 (600 * u + k)) (fun k => zh_e w 205 (600 * u + k)) (zh_e w 207 u) (zh_e w 213 u) (zh_e w 203 u) (zv_dg 2 j)) = _
    rw [d0, d1, d2]
    exact congrArg zh_b (propext ⟨fun q => q rfl, fun q _ => q⟩)
  rw [h]
  exact ⟨zh_b1', zh_b1⟩
theorem zj_num {T A B C E D K V Q : Int → Int} {s d e N N' : Int} (hN : N ≤ N') (h : zj_nu T A B C E D K V Q s d e N) : zj_nu T A B C E D K V Q s d e N' := zj_nuc hN (fun _ _ _ => rfl) (fun _ _ _ => rfl) (fun _ _ _ => rfl) (fun _ _ _ => rfl) (fun _ _ _ => rfl) (fun _ _ _ => rfl) (fun _ _ _ => rfl) (fun _ _ _ => rfl) (fun _ _ _ => rfl) h
def zx_D1150 : zx_L := zx_Lc [] 5 [(2000172, 0)] [] [((0, 0), [(0, 1, 0), (1, 0, 1), (2, 0, 18446744073709551616)]), ((0, 1), [(5, 1, 0)]), ((0, 0), [(1, 0, 1), (3, 1, 0), (4, 0, 18446744073709551616)])] [((0, 0), [(1, 1, 0)]), ((4294967276, 0), [(1, 0, 1)]), ((0, 0), [(2, 1, 0)]), ((4294967276, 0), [(2, 0, 1)]), ((0, 0), [(4, 1, 0)]), ((4294967276, 0), [(4, 0, 1)]), ((0, 0), [(2, 0, 1), (4, 1, 0)])] [([], [], [(2000172, ((0, 0), [(3, 1, 0)]), ((1, 0), []))], [])]
theorem zx_D1150_ok {PT : Nat → zz_W → Prop} : zx_Lok 64 zHT PT zx_D1150 := by
  refine zx_Lc_ok (fun w hI hK ins hl hr he hg => ?_)
  obtain ⟨a0, a1, a2, a3, a4, rfl⟩ := zx_i5 hl
  have e0 : (0 : Int) + (1 * a0 + ((-1) * a1 + ((-18446744073709551616) * a2 + 0))) = 0 := he _ List.mem_cons_self
  have e1 : ((-1) : Int) + (1 * (zk_xe w 2000172 a0) + 0) = 0 := he _ (List.mem_cons_of_mem _ List.mem_cons_self)
  have e2 : (0 : Int) + ((-1) * a1 + (1 * a3 + ((-18446744073709551616) * a4 + 0))) = 0 := he _ (List.mem_cons_of_mem _ (List.mem_cons_of_mem _ List.mem_cons_self))
  have g0 : 0 ≤ (0 : Int) + (1 * a1 + 0) := hg _ List.mem_cons_self
  have g1 : 0 ≤ (4294967276 : Int) + ((-1) * a1 + 0) := hg _ (List.mem_cons_of_mem _ List.mem_cons_self)
  have g2 : 0 ≤ (0 : Int) + (1 * a2 + 0) := hg _ (List.mem_cons_of_mem _ (List.mem_cons_of_mem _ List.mem_cons_self))
  have g3 : 0 ≤ (4294967276 : Int) + ((-1) * a2 + 0) := hg _ (List.mem_cons_of_mem _ (List.mem_cons_of_mem _ (List.mem_cons_of_mem _ List.mem_cons_self)))
  have g4 : 0 ≤ (0 : Int) + (1 * a4 + 0) := hg _ (List.mem_cons_of_mem _ (List.mem_cons_of_mem _ (List.mem_cons_of_mem _ (List.mem_cons_of_mem _ List.mem_cons_self))))
  have g5 : 0 ≤ (4294967276 : Int) + ((-1) * a4 + 0) := hg _ (List.mem_cons_of_mem _ (List.mem_cons_of_mem _ (List.mem_cons_of_mem _ (List.mem_cons_of_mem _ (List.mem_cons_of_mem _ List.mem_cons_self)))))
  have g6 : 0 ≤ (0 : Int) + ((-1) * a2 + (1 * a4 + 0)) := hg _ (List.mem_cons_of_mem _ (List.mem_cons_of_mem _ (List.mem_cons_of_mem _ (List.mem_cons_of_mem _ (List.mem_cons_of_mem _ (List.mem_cons_of_mem _ List.mem_cons_self))))))
  have r0 : 0 ≤ a0 := hr _ List.mem_cons_self
  have hp := (zj_n172 (w := w) (j := a0) (n := a1) (N := a2) (by omega) (by omega) (by omega) (by omega) (by omega) ).mp (by omega)
  have h : ∀ u, 0 ≤ u → u < a1 → 1 ≤ zh_e w 176 u → zj_nu (fun k => zh_e w 208 (8000 * u + k)) (fun k => zh_e w 209 (8000 * u + k)) (fun k => zh_e w 210 (8000 * u + k)) (fun k => zh_e w 211 (8000 * u + k)) (fun k => zh_e w 212 (8000 * u + k)) (fun k => zh_e w 214 (64 * u + k)) (fun k => zh_e w 215 (64 * u + k)) (fun k => zh_e w 204 (600 * u + k)) (fun k => zh_e w 205 (600 * u + k)) (zh_e w 207 u) (zh_e w 213 u) (zh_e w 203 u) a4 := fun u u0 u1 u2 => zj_num (by omega) (hp u u0 u1 u2)
  exact ⟨_, List.mem_cons_self, [], rfl, zx_bnil, zx_cs0, (zx_eF1 (by show 0 ≤ (0 : Int) + (1 * a3 + 0); omega) (by show zk_xe w 2000172 ((0 : Int) + (1 * a3 + 0)) = (1 : Int) + (0); rw [show (0 : Int) + (1 * a3 + 0) = a3 by omega]; exact ((zj_n172 (w := w) (j := a3) (n := a1) (N := a4) (by omega) (by omega) (by omega) (by omega) (by omega) ).mpr h).trans (by omega)) zx_eF0), zx_k0⟩
def zx_E710 : zx_V := zx_Vc 176 [] 3 [(2000172, 0)] [((0, 0), [(2, 1, 0), (3, 0, 1), (4, 0, 18446744073709551616)]), ((0, 1), [(5, 1, 0)])] [((0, 0), [(3, 1, 0)]), ((4294967276, 0), [(3, 0, 1)]), ((0, 0), [(4, 1, 0)]), ((4294967276, 0), [(4, 0, 1)]), ((0, 0), [(0, 1, 0), (3, 0, 1)])] [(2000172, ((0, 0), [(2, 1, 0)]), ((1, 0), []))]
theorem zx_E710_ok {PT : Nat → zz_W → Prop} : zx_Vok 64 zHT PT zx_E710 := by
  refine zx_Vc_ok (fun w w' j ins hI hI' h0 hw hK hl he hg => ?_)
  obtain ⟨a0, a1, a2, rfl⟩ := zx_i3 hl
  have e0 : (0 : Int) + (1 * a0 + ((-1) * a1 + ((-18446744073709551616) * a2 + 0))) = 0 := he _ List.mem_cons_self
  have e1 : ((-1) : Int) + (1 * (zk_xe w 2000172 a0) + 0) = 0 := he _ (List.mem_cons_of_mem _ List.mem_cons_self)
  have g0 : 0 ≤ (0 : Int) + (1 * a1 + 0) := hg _ List.mem_cons_self
  have g1 : 0 ≤ (4294967276 : Int) + ((-1) * a1 + 0) := hg _ (List.mem_cons_of_mem _ List.mem_cons_self)
  have g2 : 0 ≤ (0 : Int) + (1 * a2 + 0) := hg _ (List.mem_cons_of_mem _ (List.mem_cons_of_mem _ List.mem_cons_self))
  have g3 : 0 ≤ (4294967276 : Int) + ((-1) * a2 + 0) := hg _ (List.mem_cons_of_mem _ (List.mem_cons_of_mem _ (List.mem_cons_of_mem _ List.mem_cons_self)))
  have g4 : 0 ≤ (0 : Int) + (1 * j + ((-1) * a1 + 0)) := hg _ (List.mem_cons_of_mem _ (List.mem_cons_of_mem _ (List.mem_cons_of_mem _ (List.mem_cons_of_mem _ List.mem_cons_self))))
  have hp := (zj_n172 (w := w) (j := a0) (n := a1) (N := a2) (by omega) (by omega) (by omega) (by omega) (by omega) ).mp (by omega)
  have h : ∀ u, 0 ≤ u → u < a1 → 1 ≤ zh_e w' 176 u → zj_nu (fun k => zh_e w' 208 (8000 * u + k)) (fun k => zh_e w' 209 (8000 * u + k)) (fun k => zh_e w' 210 (8000 * u + k)) (fun k => zh_e w' 211 (8000 * u + k)) (fun k => zh_e w' 212 (8000 * u + k)) (fun k => zh_e w' 214 (64 * u + k)) (fun k => zh_e w' 215 (64 * u + k)) (fun k => zh_e w' 204 (600 * u + k)) (fun k => zh_e w' 205 (600 * u + k)) (zh_e w' 207 u) (zh_e w' 213 u) (zh_e w' 203 u) a2 := by
    intro u u0 u1 u2
    have e : zh_e w' 176 u = zh_e w 176 u := hw.2 u u0 (by omega)
    rw [e] at u2
    rw [zh_e_g (hw.1 207 (by decide)), zh_e_g (hw.1 208 (by decide)), zh_e_g (hw.1 209 (by decide)), zh_e_g (hw.1 210 (by decide)), zh_e_g (hw.1 211 (by decide)), zh_e_g (hw.1 212 (by decide)), zh_e_g (hw.1 213 (by decide)), zh_e_g (hw.1 214 (by decide)), zh_e_g (hw.1 215 (by decide)), zh_e_g (hw.1 203 (by decide)), zh_e_g (hw.1 204 (by decide)), zh_e_g (hw.1 205 (by decide))]
    exact hp u u0 u1 u2
  exact (zx_eF1 (by show 0 ≤ (0 : Int) + (1 * a0 + 0); omega) (by show zk_xe w' 2000172 ((0 : Int) + (1 * a0 + 0)) = (1 : Int) + (0); rw [show (0 : Int) + (1 * a0 + 0) = a0 by omega]; exact ((zj_n172 (w := w') (j := a0) (n := a1) (N := a2) (by omega) (by omega) (by omega) (by omega) (by omega) ).mpr h).trans (by omega)) zx_eF0)
def zx_D1151 : zx_L := zx_Lc [] 5 [(2000172, 0), (176, 3)] [] [((0, 0), [(0, 1, 0), (1, 0, 1), (2, 0, 18446744073709551616)]), ((0, 1), [(5, 1, 0)]), ((0, 0), [(1, 0, 1), (3, 1, 0)]), ((0, 0), [(6, 1, 0)]), ((0, 1), [(1, 0, 1), (2, 0, 18446744073709551616), (4, 1, 0)])] [((0, 0), [(1, 1, 0)]), ((4294967276, 0), [(1, 0, 1)]), ((0, 0), [(2, 1, 0)]), ((4294967276, 0), [(2, 0, 1)])] [([], [], [(2000172, ((0, 0), [(4, 1, 0)]), ((1, 0), []))], [])]
theorem zx_D1151_ok {PT : Nat → zz_W → Prop} : zx_Lok 64 zHT PT zx_D1151 := by
  refine zx_Lc_ok (fun w hI hK ins hl hr he hg => ?_)
  obtain ⟨a0, a1, a2, a3, a4, rfl⟩ := zx_i5 hl
  have e0 : (0 : Int) + (1 * a0 + ((-1) * a1 + ((-18446744073709551616) * a2 + 0))) = 0 := he _ List.mem_cons_self
  have e1 : ((-1) : Int) + (1 * (zk_xe w 2000172 a0) + 0) = 0 := he _ (List.mem_cons_of_mem _ List.mem_cons_self)
  have e2 : (0 : Int) + ((-1) * a1 + (1 * a3 + 0)) = 0 := he _ (List.mem_cons_of_mem _ (List.mem_cons_of_mem _ List.mem_cons_self))
  have e3 : (0 : Int) + (1 * (zk_xe w 176 a3) + 0) = 0 := he _ (List.mem_cons_of_mem _ (List.mem_cons_of_mem _ (List.mem_cons_of_mem _ List.mem_cons_self)))
  have e4 : ((-1) : Int) + ((-1) * a1 + ((-18446744073709551616) * a2 + (1 * a4 + 0))) = 0 := he _ (List.mem_cons_of_mem _ (List.mem_cons_of_mem _ (List.mem_cons_of_mem _ (List.mem_cons_of_mem _ List.mem_cons_self))))
  have g0 : 0 ≤ (0 : Int) + (1 * a1 + 0) := hg _ List.mem_cons_self
  have g1 : 0 ≤ (4294967276 : Int) + ((-1) * a1 + 0) := hg _ (List.mem_cons_of_mem _ List.mem_cons_self)
  have g2 : 0 ≤ (0 : Int) + (1 * a2 + 0) := hg _ (List.mem_cons_of_mem _ (List.mem_cons_of_mem _ List.mem_cons_self))
  have g3 : 0 ≤ (4294967276 : Int) + ((-1) * a2 + 0) := hg _ (List.mem_cons_of_mem _ (List.mem_cons_of_mem _ (List.mem_cons_of_mem _ List.mem_cons_self)))
  have r0 : 0 ≤ a0 := hr _ List.mem_cons_self
  have r1 : 0 ≤ a3 := hr _ (List.mem_cons_of_mem _ List.mem_cons_self)
  have hp := (zj_n172 (w := w) (j := a0) (n := a1) (N := a2) (by omega) (by omega) (by omega) (by omega) (by omega) ).mp (by omega)
  have k0 : zh_e w 176 (a1) = zk_xe w 176 a3 := by rw [zk_xe_r (i := 176) (by decide)]; show zk_el w 176 (a1) = zk_el w 176 a3; rw [show a1 = a3 by omega]
  have h : ∀ u, 0 ≤ u → u < a1 + 1 → 1 ≤ zh_e w 176 u → zj_nu (fun k => zh_e w 208 (8000 * u + k)) (fun k => zh_e w 209 (8000 * u + k)) (fun k => zh_e w 210 (8000 * u + k)) (fun k => zh_e w 211 (8000 * u + k)) (fun k => zh_e w 212 (8000 * u + k)) (fun k => zh_e w 214 (64 * u + k)) (fun k => zh_e w 215 (64 * u + k)) (fun k => zh_e w 204 (600 * u + k)) (fun k => zh_e w 205 (600 * u + k)) (zh_e w 207 u) (zh_e w 213 u) (zh_e w 203 u) a2 := by
    intro u u0 u1 u2
    by_cases c : u = a1
    · rw [c, k0] at u2
      omega
    · exact hp u u0 (by omega) u2
  exact ⟨_, List.mem_cons_self, [], rfl, zx_bnil, zx_cs0, (zx_eF1 (by show 0 ≤ (0 : Int) + (1 * a4 + 0); omega) (by show zk_xe w 2000172 ((0 : Int) + (1 * a4 + 0)) = (1 : Int) + (0); rw [show (0 : Int) + (1 * a4 + 0) = a4 by omega]; exact ((zj_n172 (w := w) (j := a4) (n := (a1 + 1)) (N := a2) (by omega) (by omega) (by omega) (by omega) (by omega) ).mpr h).trans (by omega)) zx_eF0), zx_k0⟩
end
