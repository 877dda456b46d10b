/-! LAWS BY HAND, names -/
noncomputable section
/-- names (functions 81 to 85) -/
theorem zn_op_r {o : Nat} {x y : Int} : -9223372036854775808 ≤ zn_op o x y ∧ zn_op o x y < 9223372036854775808 := by
  have hL : ∀ z : Int64, -9223372036854775808 ≤ z.toInt ∧ z.toInt < 9223372036854775808 := fun z => by
    have h1 := Int64.le_toInt z
    have h2 := Int64.toInt_lt z
    omega
  have hI : ∀ z : Int32, -9223372036854775808 ≤ z.toInt ∧ z.toInt < 9223372036854775808 := fun z => by
    have h1 := Int32.le_toInt z
    have h2 := Int32.toInt_lt z
    omega
  unfold zn_op
  split
  · exact hL _
  · exact hL _
  · exact hL _
  · exact hL _
  · exact hL _
  · exact hL _
  · exact hL _
  · exact hI _
  · exact hI _
theorem zn_op8 (x y : Int) : zn_op 8 x y = (Int32.ofInt x &&& Int32.ofInt y).toInt := rfl
theorem zn_op7 {x : Int} (h0 : -2147483648 ≤ x) (h1 : x < 2147483648) : zn_op 7 x 0 = x := by
  show ((Int64.ofInt x).toInt32).toInt = x
  rw [Int64.toInt32_ofInt]
  exact Int32.toInt_ofInt_of_le (by omega) (by omega)
theorem zn_h_r {a b : Int} : 0 ≤ zn_h a b ∧ zn_h a b ≤ 131071 := by
  have e : (Int32.ofInt 131071).toInt = 131071 := Int32.toInt_ofInt_of_le (by decide) (by decide)
  have h : ∀ x : Int, 0 ≤ zn_op 8 x 131071 ∧ zn_op 8 x 131071 ≤ 131071 := fun x => by
    rw [zn_op8]
    have h := zk_and_bd (x := Int32.ofInt x) (y := Int32.ofInt 131071) (by rw [e]; decide)
    rw [e] at h
    exact h
  exact h _
theorem zn_85 {w : zz_W} {j n k m a b : Int} (e : j = n + 4294967296 * k + 4503599627370496 * m + 4722366482869645213696 * (a + 9223372036854775808) + 87112285931760246646623899502532662132736 * (b + 9223372036854775808)) (n0 : 0 ≤ n) (n1 : n < 4294967296) (k0 : 0 ≤ k) (k1 : k < 1048576) (m0 : 0 ≤ m) (m1 : m < 1048576) (a0 : -9223372036854775808 ≤ a) (a1 : a < 9223372036854775808) (b0 : -9223372036854775808 ≤ b) : zk_xe w 2000085 j = 1 ↔ zs_wk (zn_l w 173) (zn_l w 174) (zh_e w 175) n k m a b := by
  rw [show (2000085 : Nat) = 2000000 + 85 from rfl, zk_xe_h]
  have q1 : j % 4294967296 = n := by omega
  have q2 : j / 4294967296 % 1048576 = k := by omega
  have q3 : j / 4503599627370496 % 1048576 = m := by omega
  have q4 : j / 4722366482869645213696 % 18446744073709551616 - 9223372036854775808 = a := by omega
  have q5 : j / 4722366482869645213696 / 18446744073709551616 - 9223372036854775808 = b := by omega
  have h : zv_H 85 w j = zh_b (zs_wk (zn_l w 173) (zn_l w 174) (zh_e w 175) n k m a b) := by
    show zh_b (zs_wk (zn_l w 173) (zn_l w 174) (zh_e w 175) (j % 4294967296) (j / 4294967296 % 1048576) (j / 4503599627370496 % 1048576) (j / 4722366482869645213696 % 18446744073709551616 - 9223372036854775808) (j / 4722366482869645213696 / 18446744073709551616 - 9223372036854775808)) = _
    rw [q1, q2, q3, q4, q5]
  rw [h]
  exact ⟨zh_b1', zh_b1⟩
theorem zn_84' {w : zz_W} {j : Int} (h0 : 0 ≤ j) (h1 : j < 4294967296) : zk_xe w 2000084 j = 1 ↔ zs_nm (zn_l w 173) (zn_l w 174) (zh_e w 175) j := by
  rw [show (2000084 : Nat) = 2000000 + 84 from rfl, zk_xe_h]
  have h : zv_H 84 w j = zh_b (zs_nm (zn_l w 173) (zn_l w 174) (zh_e w 175) j) := by
    show zh_b (zs_nm (zn_l w 173) (zn_l w 174) (zh_e w 175) (j % 4294967296)) = _
    rw [show j % 4294967296 = j by omega]
  rw [h]
  exact ⟨zh_b1', zh_b1⟩
theorem zn_82 {w : zz_W} {i j : Int} (h : i = j) : zk_xe w 2000082 j = zn_l w 173 i := by
  subst h
  rw [show (2000082 : Nat) = 2000000 + 82 from rfl, zk_xe_h]
  rfl
theorem zn_83 {w : zz_W} {i j : Int} (h : i = j) : zk_xe w 2000083 j = zn_l w 174 i := by
  subst h
  rw [show (2000083 : Nat) = 2000000 + 83 from rfl, zk_xe_h]
  rfl
theorem zn_nt {w : zz_W} {i j : Int} (h : i = j) : zk_xe w 175 j = zh_e w 175 i := by
  subst h
  rw [zk_xe_r (i := 175) (by decide)]
  rfl
theorem zn_86 {w : zz_W} {j n a b : Int} (e : j = n + 4294967296 * (a + 9223372036854775808) + 79228162514264337593543950336 * (b + 9223372036854775808)) (n0 : 0 ≤ n) (n1 : n < 4294967296) (a0 : -9223372036854775808 ≤ a) (a1 : a < 9223372036854775808) (b0 : -9223372036854775808 ≤ b) : zk_xe w 2000086 j = 1 ↔ zn_kc n a b := by
  rw [show (2000086 : Nat) = 2000000 + 86 from rfl, zk_xe_h]
  have q1 : j % 4294967296 = n := by omega
  have q4 : j / 4294967296 % 18446744073709551616 - 9223372036854775808 = a := by omega
  have q5 : j / 4294967296 / 18446744073709551616 - 9223372036854775808 = b := by omega
  have h : zv_H 86 w j = zh_b (zn_kc n a b) := by
    show zh_b (zn_kc (j % 4294967296) (j / 4294967296 % 18446744073709551616 - 9223372036854775808) (j / 4294967296 / 18446744073709551616 - 9223372036854775808)) = _
    rw [q1, q4, q5]
  rw [h]
  exact ⟨zh_b1', zh_b1⟩
theorem zn_87 {w : zz_W} {j : Int} (h0 : 0 ≤ j) (h1 : j < 4294967296) : zk_xe w 2000087 j = 1 ↔ zn_k5 (zn_l w 173) (zn_l w 174) j := by
  rw [show (2000087 : Nat) = 2000000 + 87 from rfl, zk_xe_h]
  have h : zv_H 87 w j = zh_b (zn_k5 (zn_l w 173) (zn_l w 174) j) := by
    show zh_b (zn_k5 (zn_l w 173) (zn_l w 174) (j % 4294967296)) = _
    rw [show j % 4294967296 = j by omega]
  rw [h]
  exact ⟨zh_b1', zh_b1⟩
/-- the known names are unlike -/
def zn_nd : List (Int × Int) → Bool
  | [] => true
  | x :: l => !(l.contains x) && zn_nd l
theorem zn_nd_ok : ∀ {l : List (Int × Int)}, zn_nd l = true → ∀ (i j : Nat) (x : Int × Int), i < j → l[i]? = some x → l[j]? = some x → False
  | [], _, i, j, x, _, h, _ => by cases h
  | y :: l, h, i, j, x, hij, hi, hj => by
    obtain ⟨h1, h2⟩ := zz_and h
    match i, j, hij, hi, hj with
    | 0, j + 1, _, hi, hj =>
      have hi : some y = some x := hi
      cases hi
      have hj : l[j]? = some y := hj
      have hm := List.mem_of_getElem? hj
      rw [List.contains_iff_mem.mpr hm] at h1
      cases h1
    | i + 1, j + 1, hij, hi, hj => exact zn_nd_ok h2 i j x (by omega) hi hj
theorem zn_ku {i j : Int} (i0 : 0 ≤ i) (ij : i < j) (j1 : j < 125) (h1 : zn_KA.getD i.toNat 0 = zn_KA.getD j.toNat 0) (h2 : zn_KB.getD i.toNat 0 = zn_KB.getD j.toNat 0) : False := by
  have hA : zn_KA.length = 125 := by decide +kernel
  have hB : zn_KB.length = 125 := by decide +kernel
  have hn : zn_nd (zn_KA.zip zn_KB) = true := by decide +kernel
  have hg : ∀ k : Nat, k < 125 → (zn_KA.zip zn_KB)[k]? = some (zn_KA.getD k 0, zn_KB.getD k 0) := fun k hk => by
    have a : zn_KA[k]? = some (zn_KA.getD k 0) := by rw [List.getD_eq_getElem?_getD, List.getElem?_eq_getElem (by omega)]; rfl
    have b : zn_KB[k]? = some (zn_KB.getD k 0) := by rw [List.getD_eq_getElem?_getD, List.getElem?_eq_getElem (by omega)]; rfl
    rw [List.getElem?_zip_eq_some]
    exact ⟨a, b⟩
  refine zn_nd_ok hn i.toNat j.toNat (zn_KA.getD i.toNat 0, zn_KB.getD i.toNat 0) (by omega) (hg _ (by omega)) ?_
  rw [h1, h2]
  exact hg _ (by omega)
/-- one slot on -/
theorem zs_wk1 {A B T : Int → Int} {n k m a b k' : Int} (h : zs_wk A B T n k m a b) (hk : k' = (k + 1) % 131072) (h1 : 1 ≤ T k) (h2 : A (T k - 1) ≠ a ∨ B (T k - 1) ≠ b) : zs_wk A B T n k' (m + 1) a b := by
  obtain ⟨q1, q2, q3⟩ := h
  refine ⟨?_, by omega, fun e e0 e1 => ?_⟩
  · rw [hk, q1]
    generalize zn_h a b = x
    omega
  · by_cases he : e = m
    · rw [he, ← q1]
      refine ⟨h1, fun _ x y => ?_⟩
      rcases h2 with h2 | h2
      · exact h2 x
      · exact h2 y
    · exact q3 e e0 (by omega)
/-- a name more -/
theorem zs_nm1 {A B T T' : Int → Int} {n k m a b : Int} (h : zs_nm A B T n) (hw : zs_wk A B T n k m a b) (hA : A n = a) (hB : B n = b) (h0 : T k = 0) (h1 : T' k = n + 1) (hT : ∀ i, 0 ≤ i → i ≠ k → T' i = T i) (n0 : 0 ≤ n) (h5 : 125 ≤ n ∨ (a = zn_KA.getD n.toNat 0 ∧ b = zn_KB.getD n.toNat 0)) : zs_nm A B T' (n + 1) := by
  obtain ⟨q1, q2, q3⟩ := h
  obtain ⟨w1, w2, w3⟩ := hw
  have hp : ∀ x : Int, 0 ≤ x % 131072 := fun x => Int.emod_nonneg x (by decide)
  have up : ∀ x : Int, 1 ≤ T (x % 131072) → 1 ≤ T' (x % 131072) := fun x hx => by
    by_cases c : x % 131072 = k
    · rw [c, h1]
      omega
    · rw [hT _ (hp x) c]
      exact hx
  refine ⟨fun i i0 i1 => ?_, fun i j i0 ij jn e1 e2 => ?_, fun i i0 i1 i2 => ?_⟩
  · by_cases hi : i = n
    · rw [hi, hA, hB]
      refine ⟨m, w2, ?_, fun e e0 e1 => up _ (w3 e e0 e1).1⟩
      rw [← w1, h1]
    · obtain ⟨d, d0, d1, d2⟩ := q1 i i0 (by omega)
      refine ⟨d, d0, ?_, fun e e0 e1 => up _ (d2 e e0 e1)⟩
      by_cases c : (zn_h (A i) (B i) + d) % 131072 = k
      · rw [c, h0] at d1
        omega
      · rw [hT _ (hp _) c]
        exact d1
  · by_cases hj : j = n
    · rw [hj, hA] at e1
      rw [hj, hB] at e2
      obtain ⟨d, d0, d1, d2⟩ := q1 i i0 (by omega)
      rw [e1, e2] at d1 d2
      by_cases c : d < m
      · have := (w3 d d0 c).2 (by omega)
        rw [d1, show i + 1 - 1 = i by omega] at this
        exact this e1 e2
      · by_cases c2 : d = m
        · rw [c2, ← w1, h0] at d1
          omega
        · have := d2 m w2 (by omega)
          rw [← w1, h0] at this
          omega
    · exact q2 i j i0 ij (by omega) e1 e2
  · by_cases hi : i = n
    · rcases h5 with h5 | h5
      · omega
      · rw [hi, hA, hB]
        exact h5
    · exact q3 i i0 (by omega) i2
def zx_D780 : zx_L := zx_Lc [] 13 [(2000081, 4), (2000081, 5), (2000081, 6), (2000081, 7), (2000081, 8), (2000081, 9), (2000081, 10), (2000081, 11), (2000081, 12)] [] [((0, 803469022129495137814537189136461424584413446642662748717056), [(0, 1, 0), (1, 0, 1), (2, 0, 4722366482869645213696), (3, 0, 87112285931760246646623899502532662132736), (21, 0, 4294967296)]), ((0, 2722258935367507717004155872603759706112), [(2, 0, 16), (4, 1, 0)]), ((0, 2722258935367802856645193880407736582144), [(3, 0, 16), (5, 1, 0)]), ((0, 2722258935367507707854570812043822104577), [(6, 1, 0), (13, 0, 16), (14, 0, 295147905179352825856)]), ((0, 2722258935367507712872085200092820144134), [(7, 1, 0), (15, 0, 16)]), ((0, 2722258935367507707854570812043822104578), [(8, 1, 0), (15, 0, 16), (16, 0, 295147905179352825856)]), ((0, 2722258935367507719660487019217935138822), [(9, 1, 0), (15, 0, 16)]), ((0, 2722258935367507707854570812043822104578), [(10, 1, 0), (17, 0, 16), (18, 0, 295147905179352825856)]), ((0, 2722258935367507707854570812043822104583), [(11, 1, 0), (19, 0, 16)]), ((0, 2722258935367546393185650574998059876360), [(12, 1, 0), (20, 0, 16)])] [((0, 0), [(1, 1, 0)]), ((4294967294, 0), [(1, 0, 1)]), ((9223372036854775808, 0), [(2, 1, 0)]), ((9223372036854775807, 0), [(2, 0, 1)]), ((9223372036854775808, 0), [(3, 1, 0)]), ((9223372036854775807, 0), [(3, 0, 1)])] [([], [((0, 0), [(21, 1, 0)]), ((131071, 0), [(21, 0, 1)])], [(2000085, ((0, 0), [(0, 1, 0)]), ((1, 0), []))], [])]
theorem zx_D780_ok {PT : Nat → zz_W → Prop} : zx_Lok 64 zHT PT zx_D780 := by
  refine zx_Lc_ok (fun w hI hK ins hl hr he hg => ?_)
  obtain ⟨a0, a1, a2, a3, a4, a5, a6, a7, a8, a9, a10, a11, a12, rfl⟩ := zx_i13 hl
  have e0 : ((-803469022129495137814537189136461424584413446642662748717056) : Int) + (1 * a0 + ((-1) * a1 + ((-4722366482869645213696) * a2 + ((-87112285931760246646623899502532662132736) * a3 + ((-4294967296) * (zk_xe w 2000081 a12) + 0))))) = 0 := he _ List.mem_cons_self
  have e1 : ((-2722258935367507717004155872603759706112) : Int) + ((-16) * a2 + (1 * a4 + 0)) = 0 := he _ (List.mem_cons_of_mem _ List.mem_cons_self)
  have e2 : ((-2722258935367802856645193880407736582144) : Int) + ((-16) * a3 + (1 * a5 + 0)) = 0 := he _ (List.mem_cons_of_mem _ (List.mem_cons_of_mem _ List.mem_cons_self))
  have e3 : ((-2722258935367507707854570812043822104577) : Int) + (1 * a6 + ((-16) * (zk_xe w 2000081 a4) + ((-295147905179352825856) * (zk_xe w 2000081 a5) + 0))) = 0 := he _ (List.mem_cons_of_mem _ (List.mem_cons_of_mem _ (List.mem_cons_of_mem _ List.mem_cons_self)))
  have e4 : ((-2722258935367507712872085200092820144134) : Int) + (1 * a7 + ((-16) * (zk_xe w 2000081 a6) + 0)) = 0 := he _ (List.mem_cons_of_mem _ (List.mem_cons_of_mem _ (List.mem_cons_of_mem _ (List.mem_cons_of_mem _ List.mem_cons_self))))
  have e5 : ((-2722258935367507707854570812043822104578) : Int) + (1 * a8 + ((-16) * (zk_xe w 2000081 a6) + ((-295147905179352825856) * (zk_xe w 2000081 a7) + 0))) = 0 := he _ (List.mem_cons_of_mem _ (List.mem_cons_of_mem _ (List.mem_cons_of_mem _ (List.mem_cons_of_mem _ (List.mem_cons_of_mem _ List.mem_cons_self)))))
  have e6 : ((-2722258935367507719660487019217935138822) : Int) + (1 * a9 + ((-16) * (zk_xe w 2000081 a6) + 0)) = 0 := he _ (List.mem_cons_of_mem _ (List.mem_cons_of_mem _ (List.mem_cons_of_mem _ (List.mem_cons_of_mem _ (List.mem_cons_of_mem _ (List.mem_cons_of_mem _ List.mem_cons_self))))))
  have e7 : ((-2722258935367507707854570812043822104578) : Int) + (1 * a10 + ((-16) * (zk_xe w 2000081 a8) + ((-295147905179352825856) * (zk_xe w 2000081 a9) + 0))) = 0 := he _ (List.mem_cons_of_mem _ (List.mem_cons_of_mem _ (List.mem_cons_of_mem _ (List.mem_cons_of_mem _ (List.mem_cons_of_mem _ (List.mem_cons_of_mem _ (List.mem_cons_of_mem _ List.mem_cons_self)))))))
  have e8 : ((-2722258935367507707854570812043822104583) : Int) + (1 * a11 + ((-16) * (zk_xe w 2000081 a10) + 0)) = 0 := he _ (List.mem_cons_of_mem _ (List.mem_cons_of_mem _ (List.mem_cons_of_mem _ (List.mem_cons_of_mem _ (List.mem_cons_of_mem _ (List.mem_cons_of_mem _ (List.mem_cons_of_mem _ (List.mem_cons_of_mem _ List.mem_cons_self))))))))
  have e9 : ((-2722258935367546393185650574998059876360) : Int) + (1 * a12 + ((-16) * (zk_xe w 2000081 a11) + 0)) = 0 := he _ (List.mem_cons_of_mem _ (List.mem_cons_of_mem _ (List.mem_cons_of_mem _ (List.mem_cons_of_mem _ (List.mem_cons_of_mem _ (List.mem_cons_of_mem _ (List.mem_cons_of_mem _ (List.mem_cons_of_mem _ (List.mem_cons_of_mem _ List.mem_cons_self)))))))))
  have g0 : 0 ≤ (0 : Int) + (1 * a1 + 0) := hg _ List.mem_cons_self
  have g1 : 0 ≤ (4294967294 : Int) + ((-1) * a1 + 0) := hg _ (List.mem_cons_of_mem _ List.mem_cons_self)
  have g2 : 0 ≤ (9223372036854775808 : Int) + (1 * a2 + 0) := hg _ (List.mem_cons_of_mem _ (List.mem_cons_of_mem _ List.mem_cons_self))
  have g3 : 0 ≤ (9223372036854775807 : Int) + ((-1) * a2 + 0) := hg _ (List.mem_cons_of_mem _ (List.mem_cons_of_mem _ (List.mem_cons_of_mem _ List.mem_cons_self)))
  have g4 : 0 ≤ (9223372036854775808 : Int) + (1 * a3 + 0) := hg _ (List.mem_cons_of_mem _ (List.mem_cons_of_mem _ (List.mem_cons_of_mem _ (List.mem_cons_of_mem _ List.mem_cons_self))))
  have g5 : 0 ≤ (9223372036854775807 : Int) + ((-1) * a3 + 0) := hg _ (List.mem_cons_of_mem _ (List.mem_cons_of_mem _ (List.mem_cons_of_mem _ (List.mem_cons_of_mem _ (List.mem_cons_of_mem _ List.mem_cons_self)))))
  have r0 : 0 ≤ a4 := hr _ List.mem_cons_self
  have r1 : 0 ≤ a5 := hr _ (List.mem_cons_of_mem _ List.mem_cons_self)
  have r2 : 0 ≤ a6 := hr _ (List.mem_cons_of_mem _ (List.mem_cons_of_mem _ List.mem_cons_self))
  have r3 : 0 ≤ a7 := hr _ (List.mem_cons_of_mem _ (List.mem_cons_of_mem _ (List.mem_cons_of_mem _ List.mem_cons_self)))
  have r4 : 0 ≤ a8 := hr _ (List.mem_cons_of_mem _ (List.mem_cons_of_mem _ (List.mem_cons_of_mem _ (List.mem_cons_of_mem _ List.mem_cons_self))))
  have r5 : 0 ≤ a9 := hr _ (List.mem_cons_of_mem _ (List.mem_cons_of_mem _ (List.mem_cons_of_mem _ (List.mem_cons_of_mem _ (List.mem_cons_of_mem _ List.mem_cons_self)))))
  have r6 : 0 ≤ a10 := hr _ (List.mem_cons_of_mem _ (List.mem_cons_of_mem _ (List.mem_cons_of_mem _ (List.mem_cons_of_mem _ (List.mem_cons_of_mem _ (List.mem_cons_of_mem _ List.mem_cons_self))))))
  have r7 : 0 ≤ a11 := hr _ (List.mem_cons_of_mem _ (List.mem_cons_of_mem _ (List.mem_cons_of_mem _ (List.mem_cons_of_mem _ (List.mem_cons_of_mem _ (List.mem_cons_of_mem _ (List.mem_cons_of_mem _ List.mem_cons_self)))))))
  have r8 : 0 ≤ a12 := hr _ (List.mem_cons_of_mem _ (List.mem_cons_of_mem _ (List.mem_cons_of_mem _ (List.mem_cons_of_mem _ (List.mem_cons_of_mem _ (List.mem_cons_of_mem _ (List.mem_cons_of_mem _ (List.mem_cons_of_mem _ List.mem_cons_self))))))))
  obtain ⟨v0, hv0⟩ : ∃ v, zk_xe w 2000081 a4 = v := ⟨_, rfl⟩
  obtain ⟨v1, hv1⟩ : ∃ v, zk_xe w 2000081 a5 = v := ⟨_, rfl⟩
  obtain ⟨v2, hv2⟩ : ∃ v, zk_xe w 2000081 a6 = v := ⟨_, rfl⟩
  obtain ⟨v3, hv3⟩ : ∃ v, zk_xe w 2000081 a7 = v := ⟨_, rfl⟩
  obtain ⟨v4, hv4⟩ : ∃ v, zk_xe w 2000081 a8 = v := ⟨_, rfl⟩
  obtain ⟨v5, hv5⟩ : ∃ v, zk_xe w 2000081 a9 = v := ⟨_, rfl⟩
  obtain ⟨v6, hv6⟩ : ∃ v, zk_xe w 2000081 a10 = v := ⟨_, rfl⟩
  obtain ⟨v7, hv7⟩ : ∃ v, zk_xe w 2000081 a11 = v := ⟨_, rfl⟩
  obtain ⟨v8, hv8⟩ : ∃ v, zk_xe w 2000081 a12 = v := ⟨_, rfl⟩
  rw [hv8] at e0
  rw [hv0] at e3
  rw [hv1] at e3
  rw [hv2] at e4
  rw [hv2] at e5
  rw [hv3] at e5
  rw [hv2] at e6
  rw [hv4] at e7
  rw [hv5] at e7
  rw [hv6] at e8
  rw [hv7] at e9
  have w0 : v0 = zn_op 0 a2 31 := hv0.symm.trans (zn_oc_at (x := a2) (y := 31) (by decide) (by omega) (by omega) (by omega) (by omega))
  have q0 := zn_op_r (o := 0) (x := a2) (y := 31)
  rw [← w0] at q0
  have w1 : v1 = zn_op 0 a3 1000003 := hv1.symm.trans (zn_oc_at (x := a3) (y := 1000003) (by decide) (by omega) (by omega) (by omega) (by omega))
  have q1 := zn_op_r (o := 0) (x := a3) (y := 1000003)
  rw [← w1] at q1
  have w2 : v2 = zn_op 1 v0 v1 := hv2.symm.trans (zn_oc_at (x := v0) (y := v1) (by decide) (by omega) (by omega) (by omega) (by omega))
  have q2 := zn_op_r (o := 1) (x := v0) (y := v1)
  rw [← w2] at q2
  have w3 : v3 = zn_op 6 v2 17 := hv3.symm.trans (zn_oc_at (x := v2) (y := 17) (by decide) (by omega) (by omega) (by omega) (by omega))
  have q3 := zn_op_r (o := 6) (x := v2) (y := 17)
  rw [← w3] at q3
  have w4 : v4 = zn_op 2 v2 v3 := hv4.symm.trans (zn_oc_at (x := v2) (y := v3) (by decide) (by omega) (by omega) (by omega) (by omega))
  have q4 := zn_op_r (o := 2) (x := v2) (y := v3)
  rw [← w4] at q4
  have w5 : v5 = zn_op 6 v2 40 := hv5.symm.trans (zn_oc_at (x := v2) (y := 40) (by decide) (by omega) (by omega) (by omega) (by omega))
  have q5 := zn_op_r (o := 6) (x := v2) (y := 40)
  rw [← w5] at q5
  have w6 : v6 = zn_op 2 v4 v5 := hv6.symm.trans (zn_oc_at (x := v4) (y := v5) (by decide) (by omega) (by omega) (by omega) (by omega))
  have q6 := zn_op_r (o := 2) (x := v4) (y := v5)
  rw [← w6] at q6
  have w7 : v7 = zn_op 7 v6 0 := hv7.symm.trans (zn_oc_at (x := v6) (y := 0) (by decide) (by omega) (by omega) (by omega) (by omega))
  have q7 := zn_op_r (o := 7) (x := v6) (y := 0)
  rw [← w7] at q7
  have w8 : v8 = zn_op 8 v7 131071 := hv8.symm.trans (zn_oc_at (x := v7) (y := 131071) (by decide) (by omega) (by omega) (by omega) (by omega))
  have q8 := zn_op_r (o := 8) (x := v7) (y := 131071)
  rw [← w8] at q8
  have hk : v8 = zn_h a2 a3 := by
    unfold zn_h zn_mx
    rw [← w0, ← w1, ← w2, ← w3, ← w5, ← w4, ← w6, ← w7, ← w8]
  have hr := zn_h_r (a := a2) (b := a3)
  rw [← hk] at hr
  have hm : v8 = (zn_h a2 a3 + 0) % 131072 := by
    rw [← hk]
    omega
  have h : zs_wk (zn_l w 173) (zn_l w 174) (zh_e w 175) a1 v8 0 a2 a3 := ⟨hm, Int.le_refl 0, fun e e0 e1 => absurd (Int.lt_of_le_of_lt e0 e1) (by decide)⟩
  clear w0 w1 w2 w3 w4 w5 w6 w7 w8 hv0 hv1 hv2 hv3 hv4 hv5 hv6 hv7 hk hm
  exact ⟨_, List.mem_cons_self, [], rfl, zx_bnil, (zx_cs1 (by show 0 ≤ (0 : Int) + (1 * (zk_xe w 2000081 a12) + 0); rw [hv8]; omega) (zx_cs1 (by show 0 ≤ (131071 : Int) + ((-1) * (zk_xe w 2000081 a12) + 0); rw [hv8]; omega) zx_cs0)), (zx_eF1 (by show 0 ≤ (0 : Int) + (1 * a0 + 0); omega) (by show zk_xe w 2000085 ((0 : Int) + (1 * a0 + 0)) = (1 : Int) + (0); rw [show (0 : Int) + (1 * a0 + 0) = a0 by omega]; exact ((zn_85 (w := w) (j := a0) (n := a1) (k := v8) (m := 0) (a := a2) (b := a3) (by omega) (by omega) (by omega) (by omega) (by omega) (by omega) (by omega) (by omega) (by omega) (by omega) ).mpr h).trans (by omega)) zx_eF0), zx_k0⟩
def zx_D781 : zx_L := zx_Lc [] 9 [(2000085, 0), (175, 7), (2000082, 8)] [] [((0, 803469022129495137814537189136461424584413446642662748717056), [(0, 1, 0), (1, 0, 1), (2, 0, 4294967296), (3, 0, 4503599627370496), (4, 0, 4722366482869645213696), (5, 0, 87112285931760246646623899502532662132736)]), ((0, 803469022129495137814537189136461424584413451146266671054848), [(1, 0, 1), (2, 0, 4294967296), (3, 0, 4503599627370496), (4, 0, 4722366482869645213696), (5, 0, 87112285931760246646623899502532662132736), (6, 1, 0)]), ((0, 1), [(9, 1, 0)]), ((0, 0), [(2, 0, 1), (7, 1, 0)]), ((1, 0), [(8, 1, 0), (10, 0, 1)])] [((0, 0), [(1, 1, 0)]), ((4294967294, 0), [(1, 0, 1)]), ((0, 0), [(2, 1, 0)]), ((1048575, 0), [(2, 0, 1)]), ((0, 0), [(3, 1, 0)]), ((1048574, 0), [(3, 0, 1)]), ((9223372036854775808, 0), [(4, 1, 0)]), ((9223372036854775807, 0), [(4, 0, 1)]), ((9223372036854775808, 0), [(5, 1, 0)]), ((9223372036854775807, 0), [(5, 0, 1)]), ((0, 1), [(10, 1, 0)]), ((0, 1), [(4, 1, 0), (11, 0, 1)]), ((131070, 0), [(2, 0, 1)])] [([], [], [(2000085, ((0, 0), [(6, 1, 0)]), ((1, 0), []))], [])]
theorem zx_D781_ok {PT : Nat → zz_W → Prop} : zx_Lok 64 zHT PT zx_D781 := by
  refine zx_Lc_ok (fun w hI hK ins hl hr he hg => ?_)
  obtain ⟨a0, a1, a2, a3, a4, a5, a6, a7, a8, rfl⟩ := zx_i9 hl
  have e0 : ((-803469022129495137814537189136461424584413446642662748717056) : Int) + (1 * a0 + ((-1) * a1 + ((-4294967296) * a2 + ((-4503599627370496) * a3 + ((-4722366482869645213696) * a4 + ((-87112285931760246646623899502532662132736) * a5 + 0)))))) = 0 := he _ List.mem_cons_self
  have e1 : ((-803469022129495137814537189136461424584413451146266671054848) : Int) + ((-1) * a1 + ((-4294967296) * a2 + ((-4503599627370496) * a3 + ((-4722366482869645213696) * a4 + ((-87112285931760246646623899502532662132736) * a5 + (1 * a6 + 0)))))) = 0 := he _ (List.mem_cons_of_mem _ List.mem_cons_self)
  have e2 : ((-1) : Int) + (1 * (zk_xe w 2000085 a0) + 0) = 0 := he _ (List.mem_cons_of_mem _ (List.mem_cons_of_mem _ List.mem_cons_self))
  have e3 : (0 : Int) + ((-1) * a2 + (1 * a7 + 0)) = 0 := he _ (List.mem_cons_of_mem _ (List.mem_cons_of_mem _ (List.mem_cons_of_mem _ List.mem_cons_self)))
  have e4 : (1 : Int) + (1 * a8 + ((-1) * (zk_xe w 175 a7) + 0)) = 0 := he _ (List.mem_cons_of_mem _ (List.mem_cons_of_mem _ (List.mem_cons_of_mem _ (List.mem_cons_of_mem _ List.mem_cons_self))))
  have g0 : 0 ≤ (0 : Int) + (1 * a1 + 0) := hg _ List.mem_cons_self
  have g1 : 0 ≤ (4294967294 : Int) + ((-1) * a1 + 0) := hg _ (List.mem_cons_of_mem _ List.mem_cons_self)
  have g2 : 0 ≤ (0 : Int) + (1 * a2 + 0) := hg _ (List.mem_cons_of_mem _ (List.mem_cons_of_mem _ List.mem_cons_self))
  have g3 : 0 ≤ (1048575 : Int) + ((-1) * a2 + 0) := hg _ (List.mem_cons_of_mem _ (List.mem_cons_of_mem _ (List.mem_cons_of_mem _ List.mem_cons_self)))
  have g4 : 0 ≤ (0 : Int) + (1 * a3 + 0) := hg _ (List.mem_cons_of_mem _ (List.mem_cons_of_mem _ (List.mem_cons_of_mem _ (List.mem_cons_of_mem _ List.mem_cons_self))))
  have g5 : 0 ≤ (1048574 : Int) + ((-1) * a3 + 0) := hg _ (List.mem_cons_of_mem _ (List.mem_cons_of_mem _ (List.mem_cons_of_mem _ (List.mem_cons_of_mem _ (List.mem_cons_of_mem _ List.mem_cons_self)))))
  have g6 : 0 ≤ (9223372036854775808 : Int) + (1 * a4 + 0) := hg _ (List.mem_cons_of_mem _ (List.mem_cons_of_mem _ (List.mem_cons_of_mem _ (List.mem_cons_of_mem _ (List.mem_cons_of_mem _ (List.mem_cons_of_mem _ List.mem_cons_self))))))
  have g7 : 0 ≤ (9223372036854775807 : Int) + ((-1) * a4 + 0) := hg _ (List.mem_cons_of_mem _ (List.mem_cons_of_mem _ (List.mem_cons_of_mem _ (List.mem_cons_of_mem _ (List.mem_cons_of_mem _ (List.mem_cons_of_mem _ (List.mem_cons_of_mem _ List.mem_cons_self)))))))
  have g8 : 0 ≤ (9223372036854775808 : Int) + (1 * a5 + 0) := hg _ (List.mem_cons_of_mem _ (List.mem_cons_of_mem _ (List.mem_cons_of_mem _ (List.mem_cons_of_mem _ (List.mem_cons_of_mem _ (List.mem_cons_of_mem _ (List.mem_cons_of_mem _ (List.mem_cons_of_mem _ List.mem_cons_self))))))))
  have g9 : 0 ≤ (9223372036854775807 : Int) + ((-1) * a5 + 0) := hg _ (List.mem_cons_of_mem _ (List.mem_cons_of_mem _ (List.mem_cons_of_mem _ (List.mem_cons_of_mem _ (List.mem_cons_of_mem _ (List.mem_cons_of_mem _ (List.mem_cons_of_mem _ (List.mem_cons_of_mem _ (List.mem_cons_of_mem _ List.mem_cons_self)))))))))
  have g10 : 0 ≤ ((-1) : Int) + (1 * (zk_xe w 175 a7) + 0) := hg _ (List.mem_cons_of_mem _ (List.mem_cons_of_mem _ (List.mem_cons_of_mem _ (List.mem_cons_of_mem _ (List.mem_cons_of_mem _ (List.mem_cons_of_mem _ (List.mem_cons_of_mem _ (List.mem_cons_of_mem _ (List.mem_cons_of_mem _ (List.mem_cons_of_mem _ List.mem_cons_self))))))))))
  have g11 : 0 ≤ ((-1) : Int) + (1 * a4 + ((-1) * (zk_xe w 2000082 a8) + 0)) := hg _ (List.mem_cons_of_mem _ (List.mem_cons_of_mem _ (List.mem_cons_of_mem _ (List.mem_cons_of_mem _ (List.mem_cons_of_mem _ (List.mem_cons_of_mem _ (List.mem_cons_of_mem _ (List.mem_cons_of_mem _ (List.mem_cons_of_mem _ (List.mem_cons_of_mem _ (List.mem_cons_of_mem _ List.mem_cons_self)))))))))))
  have g12 : 0 ≤ (131070 : Int) + ((-1) * a2 + 0) := hg _ (List.mem_cons_of_mem _ (List.mem_cons_of_mem _ (List.mem_cons_of_mem _ (List.mem_cons_of_mem _ (List.mem_cons_of_mem _ (List.mem_cons_of_mem _ (List.mem_cons_of_mem _ (List.mem_cons_of_mem _ (List.mem_cons_of_mem _ (List.mem_cons_of_mem _ (List.mem_cons_of_mem _ (List.mem_cons_of_mem _ List.mem_cons_self))))))))))))
  have r0 : 0 ≤ a0 := hr _ List.mem_cons_self
  have r1 : 0 ≤ a7 := hr _ (List.mem_cons_of_mem _ List.mem_cons_self)
  have r2 : 0 ≤ a8 := hr _ (List.mem_cons_of_mem _ (List.mem_cons_of_mem _ List.mem_cons_self))
  have hp := (zn_85 (w := w) (j := a0) (n := a1) (k := a2) (m := a3) (a := a4) (b := a5) (by omega) (by omega) (by omega) (by omega) (by omega) (by omega) (by omega) (by omega) (by omega) (by omega) ).mp (by omega)
  have ht := zn_nt (w := w) (i := a2) (j := a7) (by omega)
  have hx := zn_82 (w := w) (i := zh_e w 175 a2 - 1) (j := a8) (by omega)
  have h : zs_wk (zn_l w 173) (zn_l w 174) (zh_e w 175) a1 (a2 + 1) (a3 + 1) a4 a5 := zs_wk1 hp (by omega) (by omega) (Or.inl (fun h => by omega))
  exact ⟨_, List.mem_cons_self, [], rfl, zx_bnil, zx_cs0, (zx_eF1 (by show 0 ≤ (0 : Int) + (1 * a6 + 0); omega) (by show zk_xe w 2000085 ((0 : Int) + (1 * a6 + 0)) = (1 : Int) + (0); rw [show (0 : Int) + (1 * a6 + 0) = a6 by omega]; exact ((zn_85 (w := w) (j := a6) (n := a1) (k := (a2 + 1)) (m := (a3 + 1)) (a := a4) (b := a5) (by omega) (by omega) (by omega) (by omega) (by omega) (by omega) (by omega) (by omega) (by omega) (by omega) ).mpr (h)).trans (by omega)) zx_eF0), zx_k0⟩
def zx_D782 : zx_L := zx_Lc [] 9 [(2000085, 0), (175, 7), (2000082, 8)] [] [((0, 803469022129495137814537189136461424584413446642662748717056), [(0, 1, 0), (1, 0, 1), (2, 0, 4294967296), (3, 0, 4503599627370496), (4, 0, 4722366482869645213696), (5, 0, 87112285931760246646623899502532662132736)]), ((0, 803469022129495137814537189136461424584413451146266671054848), [(1, 0, 1), (2, 0, 4294967296), (3, 0, 4503599627370496), (4, 0, 4722366482869645213696), (5, 0, 87112285931760246646623899502532662132736), (6, 1, 0)]), ((0, 1), [(9, 1, 0)]), ((0, 0), [(2, 0, 1), (7, 1, 0)]), ((1, 0), [(8, 1, 0), (10, 0, 1)])] [((0, 0), [(1, 1, 0)]), ((4294967294, 0), [(1, 0, 1)]), ((0, 0), [(2, 1, 0)]), ((1048575, 0), [(2, 0, 1)]), ((0, 0), [(3, 1, 0)]), ((1048574, 0), [(3, 0, 1)]), ((9223372036854775808, 0), [(4, 1, 0)]), ((9223372036854775807, 0), [(4, 0, 1)]), ((9223372036854775808, 0), [(5, 1, 0)]), ((9223372036854775807, 0), [(5, 0, 1)]), ((0, 1), [(10, 1, 0)]), ((0, 1), [(4, 0, 1), (11, 1, 0)]), ((131070, 0), [(2, 0, 1)])] [([], [], [(2000085, ((0, 0), [(6, 1, 0)]), ((1, 0), []))], [])]
theorem zx_D782_ok {PT : Nat → zz_W → Prop} : zx_Lok 64 zHT PT zx_D782 := by
  refine zx_Lc_ok (fun w hI hK ins hl hr he hg => ?_)
  obtain ⟨a0, a1, a2, a3, a4, a5, a6, a7, a8, rfl⟩ := zx_i9 hl
  have e0 : ((-803469022129495137814537189136461424584413446642662748717056) : Int) + (1 * a0 + ((-1) * a1 + ((-4294967296) * a2 + ((-4503599627370496) * a3 + ((-4722366482869645213696) * a4 + ((-87112285931760246646623899502532662132736) * a5 + 0)))))) = 0 := he _ List.mem_cons_self
  have e1 : ((-803469022129495137814537189136461424584413451146266671054848) : Int) + ((-1) * a1 + ((-4294967296) * a2 + ((-4503599627370496) * a3 + ((-4722366482869645213696) * a4 + ((-87112285931760246646623899502532662132736) * a5 + (1 * a6 + 0)))))) = 0 := he _ (List.mem_cons_of_mem _ List.mem_cons_self)
  have e2 : ((-1) : Int) + (1 * (zk_xe w 2000085 a0) + 0) = 0 := he _ (List.mem_cons_of_mem _ (List.mem_cons_of_mem _ List.mem_cons_self))
  have e3 : (0 : Int) + ((-1) * a2 + (1 * a7 + 0)) = 0 := he _ (List.mem_cons_of_mem _ (List.mem_cons_of_mem _ (List.mem_cons_of_mem _ List.mem_cons_self)))
  have e4 : (1 : Int) + (1 * a8 + ((-1) * (zk_xe w 175 a7) + 0)) = 0 := he _ (List.mem_cons_of_mem _ (List.mem_cons_of_mem _ (List.mem_cons_of_mem _ (List.mem_cons_of_mem _ List.mem_cons_self))))
  have g0 : 0 ≤ (0 : Int) + (1 * a1 + 0) := hg _ List.mem_cons_self
  have g1 : 0 ≤ (4294967294 : Int) + ((-1) * a1 + 0) := hg _ (List.mem_cons_of_mem _ List.mem_cons_self)
  have g2 : 0 ≤ (0 : Int) + (1 * a2 + 0) := hg _ (List.mem_cons_of_mem _ (List.mem_cons_of_mem _ List.mem_cons_self))
  have g3 : 0 ≤ (1048575 : Int) + ((-1) * a2 + 0) := hg _ (List.mem_cons_of_mem _ (List.mem_cons_of_mem _ (List.mem_cons_of_mem _ List.mem_cons_self)))
  have g4 : 0 ≤ (0 : Int) + (1 * a3 + 0) := hg _ (List.mem_cons_of_mem _ (List.mem_cons_of_mem _ (List.mem_cons_of_mem _ (List.mem_cons_of_mem _ List.mem_cons_self))))
  have g5 : 0 ≤ (1048574 : Int) + ((-1) * a3 + 0) := hg _ (List.mem_cons_of_mem _ (List.mem_cons_of_mem _ (List.mem_cons_of_mem _ (List.mem_cons_of_mem _ (List.mem_cons_of_mem _ List.mem_cons_self)))))
  have g6 : 0 ≤ (9223372036854775808 : Int) + (1 * a4 + 0) := hg _ (List.mem_cons_of_mem _ (List.mem_cons_of_mem _ (List.mem_cons_of_mem _ (List.mem_cons_of_mem _ (List.mem_cons_of_mem _ (List.mem_cons_of_mem _ List.mem_cons_self))))))
  have g7 : 0 ≤ (9223372036854775807 : Int) + ((-1) * a4 + 0) := hg _ (List.mem_cons_of_mem _ (List.mem_cons_of_mem _ (List.mem_cons_of_mem _ (List.mem_cons_of_mem _ (List.mem_cons_of_mem _ (List.mem_cons_of_mem _ (List.mem_cons_of_mem _ List.mem_cons_self)))))))
  have g8 : 0 ≤ (9223372036854775808 : Int) + (1 * a5 + 0) := hg _ (List.mem_cons_of_mem _ (List.mem_cons_of_mem _ (List.mem_cons_of_mem _ (List.mem_cons_of_mem _ (List.mem_cons_of_mem _ (List.mem_cons_of_mem _ (List.mem_cons_of_mem _ (List.mem_cons_of_mem _ List.mem_cons_self))))))))
  have g9 : 0 ≤ (9223372036854775807 : Int) + ((-1) * a5 + 0) := hg _ (List.mem_cons_of_mem _ (List.mem_cons_of_mem _ (List.mem_cons_of_mem _ (List.mem_cons_of_mem _ (List.mem_cons_of_mem _ (List.mem_cons_of_mem _ (List.mem_cons_of_mem _ (List.mem_cons_of_mem _ (List.mem_cons_of_mem _ List.mem_cons_self)))))))))
  have g10 : 0 ≤ ((-1) : Int) + (1 * (zk_xe w 175 a7) + 0) := hg _ (List.mem_cons_of_mem _ (List.mem_cons_of_mem _ (List.mem_cons_of_mem _ (List.mem_cons_of_mem _ (List.mem_cons_of_mem _ (List.mem_cons_of_mem _ (List.mem_cons_of_mem _ (List.mem_cons_of_mem _ (List.mem_cons_of_mem _ (List.mem_cons_of_mem _ List.mem_cons_self))))))))))
  have g11 : 0 ≤ ((-1) : Int) + ((-1) * a4 + (1 * (zk_xe w 2000082 a8) + 0)) := hg _ (List.mem_cons_of_mem _ (List.mem_cons_of_mem _ (List.mem_cons_of_mem _ (List.mem_cons_of_mem _ (List.mem_cons_of_mem _ (List.mem_cons_of_mem _ (List.mem_cons_of_mem _ (List.mem_cons_of_mem _ (List.mem_cons_of_mem _ (List.mem_cons_of_mem _ (List.mem_cons_of_mem _ List.mem_cons_self)))))))))))
  have g12 : 0 ≤ (131070 : Int) + ((-1) * a2 + 0) := hg _ (List.mem_cons_of_mem _ (List.mem_cons_of_mem _ (List.mem_cons_of_mem _ (List.mem_cons_of_mem _ (List.mem_cons_of_mem _ (List.mem_cons_of_mem _ (List.mem_cons_of_mem _ (List.mem_cons_of_mem _ (List.mem_cons_of_mem _ (List.mem_cons_of_mem _ (List.mem_cons_of_mem _ (List.mem_cons_of_mem _ List.mem_cons_self))))))))))))
  have r0 : 0 ≤ a0 := hr _ List.mem_cons_self
  have r1 : 0 ≤ a7 := hr _ (List.mem_cons_of_mem _ List.mem_cons_self)
  have r2 : 0 ≤ a8 := hr _ (List.mem_cons_of_mem _ (List.mem_cons_of_mem _ List.mem_cons_self))
  have hp := (zn_85 (w := w) (j := a0) (n := a1) (k := a2) (m := a3) (a := a4) (b := a5) (by omega) (by omega) (by omega) (by omega) (by omega) (by omega) (by omega) (by omega) (by omega) (by omega) ).mp (by omega)
  have ht := zn_nt (w := w) (i := a2) (j := a7) (by omega)
  have hx := zn_82 (w := w) (i := zh_e w 175 a2 - 1) (j := a8) (by omega)
  have h : zs_wk (zn_l w 173) (zn_l w 174) (zh_e w 175) a1 (a2 + 1) (a3 + 1) a4 a5 := zs_wk1 hp (by omega) (by omega) (Or.inl (fun h => by omega))
  exact ⟨_, List.mem_cons_self, [], rfl, zx_bnil, zx_cs0, (zx_eF1 (by show 0 ≤ (0 : Int) + (1 * a6 + 0); omega) (by show zk_xe w 2000085 ((0 : Int) + (1 * a6 + 0)) = (1 : Int) + (0); rw [show (0 : Int) + (1 * a6 + 0) = a6 by omega]; exact ((zn_85 (w := w) (j := a6) (n := a1) (k := (a2 + 1)) (m := (a3 + 1)) (a := a4) (b := a5) (by omega) (by omega) (by omega) (by omega) (by omega) (by omega) (by omega) (by omega) (by omega) (by omega) ).mpr (h)).trans (by omega)) zx_eF0), zx_k0⟩
def zx_D783 : zx_L := zx_Lc [] 9 [(2000085, 0), (175, 7), (2000083, 8)] [] [((0, 803469022129495137814537189136461424584413446642662748717056), [(0, 1, 0), (1, 0, 1), (2, 0, 4294967296), (3, 0, 4503599627370496), (4, 0, 4722366482869645213696), (5, 0, 87112285931760246646623899502532662132736)]), ((0, 803469022129495137814537189136461424584413451146266671054848), [(1, 0, 1), (2, 0, 4294967296), (3, 0, 4503599627370496), (4, 0, 4722366482869645213696), (5, 0, 87112285931760246646623899502532662132736), (6, 1, 0)]), ((0, 1), [(9, 1, 0)]), ((0, 0), [(2, 0, 1), (7, 1, 0)]), ((1, 0), [(8, 1, 0), (10, 0, 1)])] [((0, 0), [(1, 1, 0)]), ((4294967294, 0), [(1, 0, 1)]), ((0, 0), [(2, 1, 0)]), ((1048575, 0), [(2, 0, 1)]), ((0, 0), [(3, 1, 0)]), ((1048574, 0), [(3, 0, 1)]), ((9223372036854775808, 0), [(4, 1, 0)]), ((9223372036854775807, 0), [(4, 0, 1)]), ((9223372036854775808, 0), [(5, 1, 0)]), ((9223372036854775807, 0), [(5, 0, 1)]), ((0, 1), [(10, 1, 0)]), ((0, 1), [(5, 1, 0), (11, 0, 1)]), ((131070, 0), [(2, 0, 1)])] [([], [], [(2000085, ((0, 0), [(6, 1, 0)]), ((1, 0), []))], [])]
theorem zx_D783_ok {PT : Nat → zz_W → Prop} : zx_Lok 64 zHT PT zx_D783 := by
  refine zx_Lc_ok (fun w hI hK ins hl hr he hg => ?_)
  obtain ⟨a0, a1, a2, a3, a4, a5, a6, a7, a8, rfl⟩ := zx_i9 hl
  have e0 : ((-803469022129495137814537189136461424584413446642662748717056) : Int) + (1 * a0 + ((-1) * a1 + ((-4294967296) * a2 + ((-4503599627370496) * a3 + ((-4722366482869645213696) * a4 + ((-87112285931760246646623899502532662132736) * a5 + 0)))))) = 0 := he _ List.mem_cons_self
  have e1 : ((-803469022129495137814537189136461424584413451146266671054848) : Int) + ((-1) * a1 + ((-4294967296) * a2 + ((-4503599627370496) * a3 + ((-4722366482869645213696) * a4 + ((-87112285931760246646623899502532662132736) * a5 + (1 * a6 + 0)))))) = 0 := he _ (List.mem_cons_of_mem _ List.mem_cons_self)
  have e2 : ((-1) : Int) + (1 * (zk_xe w 2000085 a0) + 0) = 0 := he _ (List.mem_cons_of_mem _ (List.mem_cons_of_mem _ List.mem_cons_self))
  have e3 : (0 : Int) + ((-1) * a2 + (1 * a7 + 0)) = 0 := he _ (List.mem_cons_of_mem _ (List.mem_cons_of_mem _ (List.mem_cons_of_mem _ List.mem_cons_self)))
  have e4 : (1 : Int) + (1 * a8 + ((-1) * (zk_xe w 175 a7) + 0)) = 0 := he _ (List.mem_cons_of_mem _ (List.mem_cons_of_mem _ (List.mem_cons_of_mem _ (List.mem_cons_of_mem _ List.mem_cons_self))))
  have g0 : 0 ≤ (0 : Int) + (1 * a1 + 0) := hg _ List.mem_cons_self
  have g1 : 0 ≤ (4294967294 : Int) + ((-1) * a1 + 0) := hg _ (List.mem_cons_of_mem _ List.mem_cons_self)
  have g2 : 0 ≤ (0 : Int) + (1 * a2 + 0) := hg _ (List.mem_cons_of_mem _ (List.mem_cons_of_mem _ List.mem_cons_self))
  have g3 : 0 ≤ (1048575 : Int) + ((-1) * a2 + 0) := hg _ (List.mem_cons_of_mem _ (List.mem_cons_of_mem _ (List.mem_cons_of_mem _ List.mem_cons_self)))
  have g4 : 0 ≤ (0 : Int) + (1 * a3 + 0) := hg _ (List.mem_cons_of_mem _ (List.mem_cons_of_mem _ (List.mem_cons_of_mem _ (List.mem_cons_of_mem _ List.mem_cons_self))))
  have g5 : 0 ≤ (1048574 : Int) + ((-1) * a3 + 0) := hg _ (List.mem_cons_of_mem _ (List.mem_cons_of_mem _ (List.mem_cons_of_mem _ (List.mem_cons_of_mem _ (List.mem_cons_of_mem _ List.mem_cons_self)))))
  have g6 : 0 ≤ (9223372036854775808 : Int) + (1 * a4 + 0) := hg _ (List.mem_cons_of_mem _ (List.mem_cons_of_mem _ (List.mem_cons_of_mem _ (List.mem_cons_of_mem _ (List.mem_cons_of_mem _ (List.mem_cons_of_mem _ List.mem_cons_self))))))
  have g7 : 0 ≤ (9223372036854775807 : Int) + ((-1) * a4 + 0) := hg _ (List.mem_cons_of_mem _ (List.mem_cons_of_mem _ (List.mem_cons_of_mem _ (List.mem_cons_of_mem _ (List.mem_cons_of_mem _ (List.mem_cons_of_mem _ (List.mem_cons_of_mem _ List.mem_cons_self)))))))
  have g8 : 0 ≤ (9223372036854775808 : Int) + (1 * a5 + 0) := hg _ (List.mem_cons_of_mem _ (List.mem_cons_of_mem _ (List.mem_cons_of_mem _ (List.mem_cons_of_mem _ (List.mem_cons_of_mem _ (List.mem_cons_of_mem _ (List.mem_cons_of_mem _ (List.mem_cons_of_mem _ List.mem_cons_self))))))))
  have g9 : 0 ≤ (9223372036854775807 : Int) + ((-1) * a5 + 0) := hg _ (List.mem_cons_of_mem _ (List.mem_cons_of_mem _ (List.mem_cons_of_mem _ (List.mem_cons_of_mem _ (List.mem_cons_of_mem _ (List.mem_cons_of_mem _ (List.mem_cons_of_mem _ (List.mem_cons_of_mem _ (List.mem_cons_of_mem _ List.mem_cons_self)))))))))
  have g10 : 0 ≤ ((-1) : Int) + (1 * (zk_xe w 175 a7) + 0) := hg _ (List.mem_cons_of_mem _ (List.mem_cons_of_mem _ (List.mem_cons_of_mem _ (List.mem_cons_of_mem _ (List.mem_cons_of_mem _ (List.mem_cons_of_mem _ (List.mem_cons_of_mem _ (List.mem_cons_of_mem _ (List.mem_cons_of_mem _ (List.mem_cons_of_mem _ List.mem_cons_self))))))))))
  have g11 : 0 ≤ ((-1) : Int) + (1 * a5 + ((-1) * (zk_xe w 2000083 a8) + 0)) := hg _ (List.mem_cons_of_mem _ (List.mem_cons_of_mem _ (List.mem_cons_of_mem _ (List.mem_cons_of_mem _ (List.mem_cons_of_mem _ (List.mem_cons_of_mem _ (List.mem_cons_of_mem _ (List.mem_cons_of_mem _ (List.mem_cons_of_mem _ (List.mem_cons_of_mem _ (List.mem_cons_of_mem _ List.mem_cons_self)))))))))))
  have g12 : 0 ≤ (131070 : Int) + ((-1) * a2 + 0) := hg _ (List.mem_cons_of_mem _ (List.mem_cons_of_mem _ (List.mem_cons_of_mem _ (List.mem_cons_of_mem _ (List.mem_cons_of_mem _ (List.mem_cons_of_mem _ (List.mem_cons_of_mem _ (List.mem_cons_of_mem _ (List.mem_cons_of_mem _ (List.mem_cons_of_mem _ (List.mem_cons_of_mem _ (List.mem_cons_of_mem _ List.mem_cons_self))))))))))))
  have r0 : 0 ≤ a0 := hr _ List.mem_cons_self
  have r1 : 0 ≤ a7 := hr _ (List.mem_cons_of_mem _ List.mem_cons_self)
  have r2 : 0 ≤ a8 := hr _ (List.mem_cons_of_mem _ (List.mem_cons_of_mem _ List.mem_cons_self))
  have hp := (zn_85 (w := w) (j := a0) (n := a1) (k := a2) (m := a3) (a := a4) (b := a5) (by omega) (by omega) (by omega) (by omega) (by omega) (by omega) (by omega) (by omega) (by omega) (by omega) ).mp (by omega)
  have ht := zn_nt (w := w) (i := a2) (j := a7) (by omega)
  have hx := zn_83 (w := w) (i := zh_e w 175 a2 - 1) (j := a8) (by omega)
  have h : zs_wk (zn_l w 173) (zn_l w 174) (zh_e w 175) a1 (a2 + 1) (a3 + 1) a4 a5 := zs_wk1 hp (by omega) (by omega) (Or.inr (fun h => by omega))
  exact ⟨_, List.mem_cons_self, [], rfl, zx_bnil, zx_cs0, (zx_eF1 (by show 0 ≤ (0 : Int) + (1 * a6 + 0); omega) (by show zk_xe w 2000085 ((0 : Int) + (1 * a6 + 0)) = (1 : Int) + (0); rw [show (0 : Int) + (1 * a6 + 0) = a6 by omega]; exact ((zn_85 (w := w) (j := a6) (n := a1) (k := (a2 + 1)) (m := (a3 + 1)) (a := a4) (b := a5) (by omega) (by omega) (by omega) (by omega) (by omega) (by omega) (by omega) (by omega) (by omega) (by omega) ).mpr (h)).trans (by omega)) zx_eF0), zx_k0⟩
def zx_D784 : zx_L := zx_Lc [] 9 [(2000085, 0), (175, 7), (2000083, 8)] [] [((0, 803469022129495137814537189136461424584413446642662748717056), [(0, 1, 0), (1, 0, 1), (2, 0, 4294967296), (3, 0, 4503599627370496), (4, 0, 4722366482869645213696), (5, 0, 87112285931760246646623899502532662132736)]), ((0, 803469022129495137814537189136461424584413451146266671054848), [(1, 0, 1), (2, 0, 4294967296), (3, 0, 4503599627370496), (4, 0, 4722366482869645213696), (5, 0, 87112285931760246646623899502532662132736), (6, 1, 0)]), ((0, 1), [(9, 1, 0)]), ((0, 0), [(2, 0, 1), (7, 1, 0)]), ((1, 0), [(8, 1, 0), (10, 0, 1)])] [((0, 0), [(1, 1, 0)]), ((4294967294, 0), [(1, 0, 1)]), ((0, 0), [(2, 1, 0)]), ((1048575, 0), [(2, 0, 1)]), ((0, 0), [(3, 1, 0)]), ((1048574, 0), [(3, 0, 1)]), ((9223372036854775808, 0), [(4, 1, 0)]), ((9223372036854775807, 0), [(4, 0, 1)]), ((9223372036854775808, 0), [(5, 1, 0)]), ((9223372036854775807, 0), [(5, 0, 1)]), ((0, 1), [(10, 1, 0)]), ((0, 1), [(5, 0, 1), (11, 1, 0)]), ((131070, 0), [(2, 0, 1)])] [([], [], [(2000085, ((0, 0), [(6, 1, 0)]), ((1, 0), []))], [])]
theorem zx_D784_ok {PT : Nat → zz_W → Prop} : zx_Lok 64 zHT PT zx_D784 := by
  refine zx_Lc_ok (fun w hI hK ins hl hr he hg => ?_)
  obtain ⟨a0, a1, a2, a3, a4, a5, a6, a7, a8, rfl⟩ := zx_i9 hl
  have e0 : ((-803469022129495137814537189136461424584413446642662748717056) : Int) + (1 * a0 + ((-1) * a1 + ((-4294967296) * a2 + ((-4503599627370496) * a3 + ((-4722366482869645213696) * a4 + ((-87112285931760246646623899502532662132736) * a5 + 0)))))) = 0 := he _ List.mem_cons_self
  have e1 : ((-803469022129495137814537189136461424584413451146266671054848) : Int) + ((-1) * a1 + ((-4294967296) * a2 + ((-4503599627370496) * a3 + ((-4722366482869645213696) * a4 + ((-87112285931760246646623899502532662132736) * a5 + (1 * a6 + 0)))))) = 0 := he _ (List.mem_cons_of_mem _ List.mem_cons_self)
  have e2 : ((-1) : Int) + (1 * (zk_xe w 2000085 a0) + 0) = 0 := he _ (List.mem_cons_of_mem _ (List.mem_cons_of_mem _ List.mem_cons_self))
  have e3 : (0 : Int) + ((-1) * a2 + (1 * a7 + 0)) = 0 := he _ (List.mem_cons_of_mem _ (List.mem_cons_of_mem _ (List.mem_cons_of_mem _ List.mem_cons_self)))
  have e4 : (1 : Int) + (1 * a8 + ((-1) * (zk_xe w 175 a7) + 0)) = 0 := he _ (List.mem_cons_of_mem _ (List.mem_cons_of_mem _ (List.mem_cons_of_mem _ (List.mem_cons_of_mem _ List.mem_cons_self))))
  have g0 : 0 ≤ (0 : Int) + (1 * a1 + 0) := hg _ List.mem_cons_self
  have g1 : 0 ≤ (4294967294 : Int) + ((-1) * a1 + 0) := hg _ (List.mem_cons_of_mem _ List.mem_cons_self)
  have g2 : 0 ≤ (0 : Int) + (1 * a2 + 0) := hg _ (List.mem_cons_of_mem _ (List.mem_cons_of_mem _ List.mem_cons_self))
  have g3 : 0 ≤ (1048575 : Int) + ((-1) * a2 + 0) := hg _ (List.mem_cons_of_mem _ (List.mem_cons_of_mem _ (List.mem_cons_of_mem _ List.mem_cons_self)))
  have g4 : 0 ≤ (0 : Int) + (1 * a3 + 0) := hg _ (List.mem_cons_of_mem _ (List.mem_cons_of_mem _ (List.mem_cons_of_mem _ (List.mem_cons_of_mem _ List.mem_cons_self))))
  have g5 : 0 ≤ (1048574 : Int) + ((-1) * a3 + 0) := hg _ (List.mem_cons_of_mem _ (List.mem_cons_of_mem _ (List.mem_cons_of_mem _ (List.mem_cons_of_mem _ (List.mem_cons_of_mem _ List.mem_cons_self)))))
  have g6 : 0 ≤ (9223372036854775808 : Int) + (1 * a4 + 0) := hg _ (List.mem_cons_of_mem _ (List.mem_cons_of_mem _ (List.mem_cons_of_mem _ (List.mem_cons_of_mem _ (List.mem_cons_of_mem _ (List.mem_cons_of_mem _ List.mem_cons_self))))))
  have g7 : 0 ≤ (9223372036854775807 : Int) + ((-1) * a4 + 0) := hg _ (List.mem_cons_of_mem _ (List.mem_cons_of_mem _ (List.mem_cons_of_mem _ (List.mem_cons_of_mem _ (List.mem_cons_of_mem _ (List.mem_cons_of_mem _ (List.mem_cons_of_mem _ List.mem_cons_self)))))))
  have g8 : 0 ≤ (9223372036854775808 : Int) + (1 * a5 + 0) := hg _ (List.mem_cons_of_mem _ (List.mem_cons_of_mem _ (List.mem_cons_of_mem _ (List.mem_cons_of_mem _ (List.mem_cons_of_mem _ (List.mem_cons_of_mem _ (List.mem_cons_of_mem _ (List.mem_cons_of_mem _ List.mem_cons_self))))))))
  have g9 : 0 ≤ (9223372036854775807 : Int) + ((-1) * a5 + 0) := hg _ (List.mem_cons_of_mem _ (List.mem_cons_of_mem _ (List.mem_cons_of_mem _ (List.mem_cons_of_mem _ (List.mem_cons_of_mem _ (List.mem_cons_of_mem _ (List.mem_cons_of_mem _ (List.mem_cons_of_mem _ (List.mem_cons_of_mem _ List.mem_cons_self)))))))))
  have g10 : 0 ≤ ((-1) : Int) + (1 * (zk_xe w 175 a7) + 0) := hg _ (List.mem_cons_of_mem _ (List.mem_cons_of_mem _ (List.mem_cons_of_mem _ (List.mem_cons_of_mem _ (List.mem_cons_of_mem _ (List.mem_cons_of_mem _ (List.mem_cons_of_mem _ (List.mem_cons_of_mem _ (List.mem_cons_of_mem _ (List.mem_cons_of_mem _ List.mem_cons_self))))))))))
  have g11 : 0 ≤ ((-1) : Int) + ((-1) * a5 + (1 * (zk_xe w 2000083 a8) + 0)) := hg _ (List.mem_cons_of_mem _ (List.mem_cons_of_mem _ (List.mem_cons_of_mem _ (List.mem_cons_of_mem _ (List.mem_cons_of_mem _ (List.mem_cons_of_mem _ (List.mem_cons_of_mem _ (List.mem_cons_of_mem _ (List.mem_cons_of_mem _ (List.mem_cons_of_mem _ (List.mem_cons_of_mem _ List.mem_cons_self)))))))))))
  have g12 : 0 ≤ (131070 : Int) + ((-1) * a2 + 0) := hg _ (List.mem_cons_of_mem _ (List.mem_cons_of_mem _ (List.mem_cons_of_mem _ (List.mem_cons_of_mem _ (List.mem_cons_of_mem _ (List.mem_cons_of_mem _ (List.mem_cons_of_mem _ (List.mem_cons_of_mem _ (List.mem_cons_of_mem _ (List.mem_cons_of_mem _ (List.mem_cons_of_mem _ (List.mem_cons_of_mem _ List.mem_cons_self))))))))))))
  have r0 : 0 ≤ a0 := hr _ List.mem_cons_self
  have r1 : 0 ≤ a7 := hr _ (List.mem_cons_of_mem _ List.mem_cons_self)
  have r2 : 0 ≤ a8 := hr _ (List.mem_cons_of_mem _ (List.mem_cons_of_mem _ List.mem_cons_self))
  have hp := (zn_85 (w := w) (j := a0) (n := a1) (k := a2) (m := a3) (a := a4) (b := a5) (by omega) (by omega) (by omega) (by omega) (by omega) (by omega) (by omega) (by omega) (by omega) (by omega) ).mp (by omega)
  have ht := zn_nt (w := w) (i := a2) (j := a7) (by omega)
  have hx := zn_83 (w := w) (i := zh_e w 175 a2 - 1) (j := a8) (by omega)
  have h : zs_wk (zn_l w 173) (zn_l w 174) (zh_e w 175) a1 (a2 + 1) (a3 + 1) a4 a5 := zs_wk1 hp (by omega) (by omega) (Or.inr (fun h => by omega))
  exact ⟨_, List.mem_cons_self, [], rfl, zx_bnil, zx_cs0, (zx_eF1 (by show 0 ≤ (0 : Int) + (1 * a6 + 0); omega) (by show zk_xe w 2000085 ((0 : Int) + (1 * a6 + 0)) = (1 : Int) + (0); rw [show (0 : Int) + (1 * a6 + 0) = a6 by omega]; exact ((zn_85 (w := w) (j := a6) (n := a1) (k := (a2 + 1)) (m := (a3 + 1)) (a := a4) (b := a5) (by omega) (by omega) (by omega) (by omega) (by omega) (by omega) (by omega) (by omega) (by omega) (by omega) ).mpr (h)).trans (by omega)) zx_eF0), zx_k0⟩
def zx_D785 : zx_L := zx_Lc [] 9 [(2000085, 0), (175, 7), (2000082, 8)] [] [((0, 803469022129495137814537189136461424584413446642662748717056), [(0, 1, 0), (1, 0, 1), (2, 0, 4294967296), (3, 0, 4503599627370496), (4, 0, 4722366482869645213696), (5, 0, 87112285931760246646623899502532662132736)]), ((0, 803469022129495137814537189136461424584413451146262376087552), [(1, 0, 1), (3, 0, 4503599627370496), (4, 0, 4722366482869645213696), (5, 0, 87112285931760246646623899502532662132736), (6, 1, 0)]), ((0, 1), [(9, 1, 0)]), ((0, 0), [(2, 0, 1), (7, 1, 0)]), ((1, 0), [(8, 1, 0), (10, 0, 1)]), ((0, 131071), [(2, 1, 0)])] [((0, 0), [(1, 1, 0)]), ((4294967294, 0), [(1, 0, 1)]), ((0, 0), [(2, 1, 0)]), ((1048575, 0), [(2, 0, 1)]), ((0, 0), [(3, 1, 0)]), ((1048574, 0), [(3, 0, 1)]), ((9223372036854775808, 0), [(4, 1, 0)]), ((9223372036854775807, 0), [(4, 0, 1)]), ((9223372036854775808, 0), [(5, 1, 0)]), ((9223372036854775807, 0), [(5, 0, 1)]), ((0, 1), [(10, 1, 0)]), ((0, 1), [(4, 1, 0), (11, 0, 1)])] [([], [], [(2000085, ((0, 0), [(6, 1, 0)]), ((1, 0), []))], [])]
theorem zx_D785_ok {PT : Nat → zz_W → Prop} : zx_Lok 64 zHT PT zx_D785 := by
  refine zx_Lc_ok (fun w hI hK ins hl hr he hg => ?_)
  obtain ⟨a0, a1, a2, a3, a4, a5, a6, a7, a8, rfl⟩ := zx_i9 hl
  have e0 : ((-803469022129495137814537189136461424584413446642662748717056) : Int) + (1 * a0 + ((-1) * a1 + ((-4294967296) * a2 + ((-4503599627370496) * a3 + ((-4722366482869645213696) * a4 + ((-87112285931760246646623899502532662132736) * a5 + 0)))))) = 0 := he _ List.mem_cons_self
  have e1 : ((-803469022129495137814537189136461424584413451146262376087552) : Int) + ((-1) * a1 + ((-4503599627370496) * a3 + ((-4722366482869645213696) * a4 + ((-87112285931760246646623899502532662132736) * a5 + (1 * a6 + 0))))) = 0 := he _ (List.mem_cons_of_mem _ List.mem_cons_self)
  have e2 : ((-1) : Int) + (1 * (zk_xe w 2000085 a0) + 0) = 0 := he _ (List.mem_cons_of_mem _ (List.mem_cons_of_mem _ List.mem_cons_self))
  have e3 : (0 : Int) + ((-1) * a2 + (1 * a7 + 0)) = 0 := he _ (List.mem_cons_of_mem _ (List.mem_cons_of_mem _ (List.mem_cons_of_mem _ List.mem_cons_self)))
  have e4 : (1 : Int) + (1 * a8 + ((-1) * (zk_xe w 175 a7) + 0)) = 0 := he _ (List.mem_cons_of_mem _ (List.mem_cons_of_mem _ (List.mem_cons_of_mem _ (List.mem_cons_of_mem _ List.mem_cons_self))))
  have e5 : ((-131071) : Int) + (1 * a2 + 0) = 0 := he _ (List.mem_cons_of_mem _ (List.mem_cons_of_mem _ (List.mem_cons_of_mem _ (List.mem_cons_of_mem _ (List.mem_cons_of_mem _ List.mem_cons_self)))))
  have g0 : 0 ≤ (0 : Int) + (1 * a1 + 0) := hg _ List.mem_cons_self
  have g1 : 0 ≤ (4294967294 : Int) + ((-1) * a1 + 0) := hg _ (List.mem_cons_of_mem _ List.mem_cons_self)
  have g2 : 0 ≤ (0 : Int) + (1 * a2 + 0) := hg _ (List.mem_cons_of_mem _ (List.mem_cons_of_mem _ List.mem_cons_self))
  have g3 : 0 ≤ (1048575 : Int) + ((-1) * a2 + 0) := hg _ (List.mem_cons_of_mem _ (List.mem_cons_of_mem _ (List.mem_cons_of_mem _ List.mem_cons_self)))
  have g4 : 0 ≤ (0 : Int) + (1 * a3 + 0) := hg _ (List.mem_cons_of_mem _ (List.mem_cons_of_mem _ (List.mem_cons_of_mem _ (List.mem_cons_of_mem _ List.mem_cons_self))))
  have g5 : 0 ≤ (1048574 : Int) + ((-1) * a3 + 0) := hg _ (List.mem_cons_of_mem _ (List.mem_cons_of_mem _ (List.mem_cons_of_mem _ (List.mem_cons_of_mem _ (List.mem_cons_of_mem _ List.mem_cons_self)))))
  have g6 : 0 ≤ (9223372036854775808 : Int) + (1 * a4 + 0) := hg _ (List.mem_cons_of_mem _ (List.mem_cons_of_mem _ (List.mem_cons_of_mem _ (List.mem_cons_of_mem _ (List.mem_cons_of_mem _ (List.mem_cons_of_mem _ List.mem_cons_self))))))
  have g7 : 0 ≤ (9223372036854775807 : Int) + ((-1) * a4 + 0) := hg _ (List.mem_cons_of_mem _ (List.mem_cons_of_mem _ (List.mem_cons_of_mem _ (List.mem_cons_of_mem _ (List.mem_cons_of_mem _ (List.mem_cons_of_mem _ (List.mem_cons_of_mem _ List.mem_cons_self)))))))
  have g8 : 0 ≤ (9223372036854775808 : Int) + (1 * a5 + 0) := hg _ (List.mem_cons_of_mem _ (List.mem_cons_of_mem _ (List.mem_cons_of_mem _ (List.mem_cons_of_mem _ (List.mem_cons_of_mem _ (List.mem_cons_of_mem _ (List.mem_cons_of_mem _ (List.mem_cons_of_mem _ List.mem_cons_self))))))))
  have g9 : 0 ≤ (9223372036854775807 : Int) + ((-1) * a5 + 0) := hg _ (List.mem_cons_of_mem _ (List.mem_cons_of_mem _ (List.mem_cons_of_mem _ (List.mem_cons_of_mem _ (List.mem_cons_of_mem _ (List.mem_cons_of_mem _ (List.mem_cons_of_mem _ (List.mem_cons_of_mem _ (List.mem_cons_of_mem _ List.mem_cons_self)))))))))
  have g10 : 0 ≤ ((-1) : Int) + (1 * (zk_xe w 175 a7) + 0) := hg _ (List.mem_cons_of_mem _ (List.mem_cons_of_mem _ (List.mem_cons_of_mem _ (List.mem_cons_of_mem _ (List.mem_cons_of_mem _ (List.mem_cons_of_mem _ (List.mem_cons_of_mem _ (List.mem_cons_of_mem _ (List.mem_cons_of_mem _ (List.mem_cons_of_mem _ List.mem_cons_self))))))))))
  have g11 : 0 ≤ ((-1) : Int) + (1 * a4 + ((-1) * (zk_xe w 2000082 a8) + 0)) := hg _ (List.mem_cons_of_mem _ (List.mem_cons_of_mem _ (List.mem_cons_of_mem _ (List.mem_cons_of_mem _ (List.mem_cons_of_mem _ (List.mem_cons_of_mem _ (List.mem_cons_of_mem _ (List.mem_cons_of_mem _ (List.mem_cons_of_mem _ (List.mem_cons_of_mem _ (List.mem_cons_of_mem _ List.mem_cons_self)))))))))))
  have r0 : 0 ≤ a0 := hr _ List.mem_cons_self
  have r1 : 0 ≤ a7 := hr _ (List.mem_cons_of_mem _ List.mem_cons_self)
  have r2 : 0 ≤ a8 := hr _ (List.mem_cons_of_mem _ (List.mem_cons_of_mem _ List.mem_cons_self))
  have hp := (zn_85 (w := w) (j := a0) (n := a1) (k := a2) (m := a3) (a := a4) (b := a5) (by omega) (by omega) (by omega) (by omega) (by omega) (by omega) (by omega) (by omega) (by omega) (by omega) ).mp (by omega)
  have ht := zn_nt (w := w) (i := a2) (j := a7) (by omega)
  have hx := zn_82 (w := w) (i := zh_e w 175 a2 - 1) (j := a8) (by omega)
  have h : zs_wk (zn_l w 173) (zn_l w 174) (zh_e w 175) a1 0 (a3 + 1) a4 a5 := zs_wk1 hp (by omega) (by omega) (Or.inl (fun h => by omega))
  exact ⟨_, List.mem_cons_self, [], rfl, zx_bnil, zx_cs0, (zx_eF1 (by show 0 ≤ (0 : Int) + (1 * a6 + 0); omega) (by show zk_xe w 2000085 ((0 : Int) + (1 * a6 + 0)) = (1 : Int) + (0); rw [show (0 : Int) + (1 * a6 + 0) = a6 by omega]; exact ((zn_85 (w := w) (j := a6) (n := a1) (k := 0) (m := (a3 + 1)) (a := a4) (b := a5) (by omega) (by omega) (by omega) (by omega) (by omega) (by omega) (by omega) (by omega) (by omega) (by omega) ).mpr (h)).trans (by omega)) zx_eF0), zx_k0⟩
def zx_D786 : zx_L := zx_Lc [] 9 [(2000085, 0), (175, 7), (2000082, 8)] [] [((0, 803469022129495137814537189136461424584413446642662748717056), [(0, 1, 0), (1, 0, 1), (2, 0, 4294967296), (3, 0, 4503599627370496), (4, 0, 4722366482869645213696), (5, 0, 87112285931760246646623899502532662132736)]), ((0, 803469022129495137814537189136461424584413451146262376087552), [(1, 0, 1), (3, 0, 4503599627370496), (4, 0, 4722366482869645213696), (5, 0, 87112285931760246646623899502532662132736), (6, 1, 0)]), ((0, 1), [(9, 1, 0)]), ((0, 0), [(2, 0, 1), (7, 1, 0)]), ((1, 0), [(8, 1, 0), (10, 0, 1)]), ((0, 131071), [(2, 1, 0)])] [((0, 0), [(1, 1, 0)]), ((4294967294, 0), [(1, 0, 1)]), ((0, 0), [(2, 1, 0)]), ((1048575, 0), [(2, 0, 1)]), ((0, 0), [(3, 1, 0)]), ((1048574, 0), [(3, 0, 1)]), ((9223372036854775808, 0), [(4, 1, 0)]), ((9223372036854775807, 0), [(4, 0, 1)]), ((9223372036854775808, 0), [(5, 1, 0)]), ((9223372036854775807, 0), [(5, 0, 1)]), ((0, 1), [(10, 1, 0)]), ((0, 1), [(4, 0, 1), (11, 1, 0)])] [([], [], [(2000085, ((0, 0), [(6, 1, 0)]), ((1, 0), []))], [])]
theorem zx_D786_ok {PT : Nat → zz_W → Prop} : zx_Lok 64 zHT PT zx_D786 := by
  refine zx_Lc_ok (fun w hI hK ins hl hr he hg => ?_)
  obtain ⟨a0, a1, a2, a3, a4, a5, a6, a7, a8, rfl⟩ := zx_i9 hl
  have e0 : ((-803469022129495137814537189136461424584413446642662748717056) : Int) + (1 * a0 + ((-1) * a1 + ((-4294967296) * a2 + ((-4503599627370496) * a3 + ((-4722366482869645213696) * a4 + ((-87112285931760246646623899502532662132736) * a5 + 0)))))) = 0 := he _ List.mem_cons_self
  have e1 : ((-803469022129495137814537189136461424584413451146262376087552) : Int) + ((-1) * a1 + ((-4503599627370496) * a3 + ((-4722366482869645213696) * a4 + ((-87112285931760246646623899502532662132736) * a5 + (1 * a6 + 0))))) = 0 := he _ (List.mem_cons_of_mem _ List.mem_cons_self)
  have e2 : ((-1) : Int) + (1 * (zk_xe w 2000085 a0) + 0) = 0 := he _ (List.mem_cons_of_mem _ (List.mem_cons_of_mem _ List.mem_cons_self))
  have e3 : (0 : Int) + ((-1) * a2 + (1 * a7 + 0)) = 0 := he _ (List.mem_cons_of_mem _ (List.mem_cons_of_mem _ (List.mem_cons_of_mem _ List.mem_cons_self)))
  have e4 : (1 : Int) + (1 * a8 + ((-1) * (zk_xe w 175 a7) + 0)) = 0 := he _ (List.mem_cons_of_mem _ (List.mem_cons_of_mem _ (List.mem_cons_of_mem _ (List.mem_cons_of_mem _ List.mem_cons_self))))
  have e5 : ((-131071) : Int) + (1 * a2 + 0) = 0 := he _ (List.mem_cons_of_mem _ (List.mem_cons_of_mem _ (List.mem_cons_of_mem _ (List.mem_cons_of_mem _ (List.mem_cons_of_mem _ List.mem_cons_self)))))
  have g0 : 0 ≤ (0 : Int) + (1 * a1 + 0) := hg _ List.mem_cons_self
  have g1 : 0 ≤ (4294967294 : Int) + ((-1) * a1 + 0) := hg _ (List.mem_cons_of_mem _ List.mem_cons_self)
  have g2 : 0 ≤ (0 : Int) + (1 * a2 + 0) := hg _ (List.mem_cons_of_mem _ (List.mem_cons_of_mem _ List.mem_cons_self))
  have g3 : 0 ≤ (1048575 : Int) + ((-1) * a2 + 0) := hg _ (List.mem_cons_of_mem _ (List.mem_cons_of_mem _ (List.mem_cons_of_mem _ List.mem_cons_self)))
  have g4 : 0 ≤ (0 : Int) + (1 * a3 + 0) := hg _ (List.mem_cons_of_mem _ (List.mem_cons_of_mem _ (List.mem_cons_of_mem _ (List.mem_cons_of_mem _ List.mem_cons_self))))
  have g5 : 0 ≤ (1048574 : Int) + ((-1) * a3 + 0) := hg _ (List.mem_cons_of_mem _ (List.mem_cons_of_mem _ (List.mem_cons_of_mem _ (List.mem_cons_of_mem _ (List.mem_cons_of_mem _ List.mem_cons_self)))))
  have g6 : 0 ≤ (9223372036854775808 : Int) + (1 * a4 + 0) := hg _ (List.mem_cons_of_mem _ (List.mem_cons_of_mem _ (List.mem_cons_of_mem _ (List.mem_cons_of_mem _ (List.mem_cons_of_mem _ (List.mem_cons_of_mem _ List.mem_cons_self))))))
  have g7 : 0 ≤ (9223372036854775807 : Int) + ((-1) * a4 + 0) := hg _ (List.mem_cons_of_mem _ (List.mem_cons_of_mem _ (List.mem_cons_of_mem _ (List.mem_cons_of_mem _ (List.mem_cons_of_mem _ (List.mem_cons_of_mem _ (List.mem_cons_of_mem _ List.mem_cons_self)))))))
  have g8 : 0 ≤ (9223372036854775808 : Int) + (1 * a5 + 0) := hg _ (List.mem_cons_of_mem _ (List.mem_cons_of_mem _ (List.mem_cons_of_mem _ (List.mem_cons_of_mem _ (List.mem_cons_of_mem _ (List.mem_cons_of_mem _ (List.mem_cons_of_mem _ (List.mem_cons_of_mem _ List.mem_cons_self))))))))
  have g9 : 0 ≤ (9223372036854775807 : Int) + ((-1) * a5 + 0) := hg _ (List.mem_cons_of_mem _ (List.mem_cons_of_mem _ (List.mem_cons_of_mem _ (List.mem_cons_of_mem _ (List.mem_cons_of_mem _ (List.mem_cons_of_mem _ (List.mem_cons_of_mem _ (List.mem_cons_of_mem _ (List.mem_cons_of_mem _ List.mem_cons_self)))))))))
  have g10 : 0 ≤ ((-1) : Int) + (1 * (zk_xe w 175 a7) + 0) := hg _ (List.mem_cons_of_mem _ (List.mem_cons_of_mem _ (List.mem_cons_of_mem _ (List.mem_cons_of_mem _ (List.mem_cons_of_mem _ (List.mem_cons_of_mem _ (List.mem_cons_of_mem _ (List.mem_cons_of_mem _ (List.mem_cons_of_mem _ (List.mem_cons_of_mem _ List.mem_cons_self))))))))))
  have g11 : 0 ≤ ((-1) : Int) + ((-1) * a4 + (1 * (zk_xe w 2000082 a8) + 0)) := hg _ (List.mem_cons_of_mem _ (List.mem_cons_of_mem _ (List.mem_cons_of_mem _ (List.mem_cons_of_mem _ (List.mem_cons_of_mem _ (List.mem_cons_of_mem _ (List.mem_cons_of_mem _ (List.mem_cons_of_mem _ (List.mem_cons_of_mem _ (List.mem_cons_of_mem _ (List.mem_cons_of_mem _ List.mem_cons_self)))))))))))
  have r0 : 0 ≤ a0 := hr _ List.mem_cons_self
  have r1 : 0 ≤ a7 := hr _ (List.mem_cons_of_mem _ List.mem_cons_self)
  have r2 : 0 ≤ a8 := hr _ (List.mem_cons_of_mem _ (List.mem_cons_of_mem _ List.mem_cons_self))
  have hp := (zn_85 (w := w) (j := a0) (n := a1) (k := a2) (m := a3) (a := a4) (b := a5) (by omega) (by omega) (by omega) (by omega) (by omega) (by omega) (by omega) (by omega) (by omega) (by omega) ).mp (by omega)
  have ht := zn_nt (w := w) (i := a2) (j := a7) (by omega)
  have hx := zn_82 (w := w) (i := zh_e w 175 a2 - 1) (j := a8) (by omega)
  have h : zs_wk (zn_l w 173) (zn_l w 174) (zh_e w 175) a1 0 (a3 + 1) a4 a5 := zs_wk1 hp (by omega) (by omega) (Or.inl (fun h => by omega))
  exact ⟨_, List.mem_cons_self, [], rfl, zx_bnil, zx_cs0, (zx_eF1 (by show 0 ≤ (0 : Int) + (1 * a6 + 0); omega) (by show zk_xe w 2000085 ((0 : Int) + (1 * a6 + 0)) = (1 : Int) + (0); rw [show (0 : Int) + (1 * a6 + 0) = a6 by omega]; exact ((zn_85 (w := w) (j := a6) (n := a1) (k := 0) (m := (a3 + 1)) (a := a4) (b := a5) (by omega) (by omega) (by omega) (by omega) (by omega) (by omega) (by omega) (by omega) (by omega) (by omega) ).mpr (h)).trans (by omega)) zx_eF0), zx_k0⟩
def zx_D787 : zx_L := zx_Lc [] 9 [(2000085, 0), (175, 7), (2000083, 8)] [] [((0, 803469022129495137814537189136461424584413446642662748717056), [(0, 1, 0), (1, 0, 1), (2, 0, 4294967296), (3, 0, 4503599627370496), (4, 0, 4722366482869645213696), (5, 0, 87112285931760246646623899502532662132736)]), ((0, 803469022129495137814537189136461424584413451146262376087552), [(1, 0, 1), (3, 0, 4503599627370496), (4, 0, 4722366482869645213696), (5, 0, 87112285931760246646623899502532662132736), (6, 1, 0)]), ((0, 1), [(9, 1, 0)]), ((0, 0), [(2, 0, 1), (7, 1, 0)]), ((1, 0), [(8, 1, 0), (10, 0, 1)]), ((0, 131071), [(2, 1, 0)])] [((0, 0), [(1, 1, 0)]), ((4294967294, 0), [(1, 0, 1)]), ((0, 0), [(2, 1, 0)]), ((1048575, 0), [(2, 0, 1)]), ((0, 0), [(3, 1, 0)]), ((1048574, 0), [(3, 0, 1)]), ((9223372036854775808, 0), [(4, 1, 0)]), ((9223372036854775807, 0), [(4, 0, 1)]), ((9223372036854775808, 0), [(5, 1, 0)]), ((9223372036854775807, 0), [(5, 0, 1)]), ((0, 1), [(10, 1, 0)]), ((0, 1), [(5, 1, 0), (11, 0, 1)])] [([], [], [(2000085, ((0, 0), [(6, 1, 0)]), ((1, 0), []))], [])]
theorem zx_D787_ok {PT : Nat → zz_W → Prop} : zx_Lok 64 zHT PT zx_D787 := by
  refine zx_Lc_ok (fun w hI hK ins hl hr he hg => ?_)
  obtain ⟨a0, a1, a2, a3, a4, a5, a6, a7, a8, rfl⟩ := zx_i9 hl
  have e0 : ((-803469022129495137814537189136461424584413446642662748717056) : Int) + (1 * a0 + ((-1) * a1 + ((-4294967296) * a2 + ((-4503599627370496) * a3 + ((-4722366482869645213696) * a4 + ((-87112285931760246646623899502532662132736) * a5 + 0)))))) = 0 := he _ List.mem_cons_self
  have e1 : ((-803469022129495137814537189136461424584413451146262376087552) : Int) + ((-1) * a1 + ((-4503599627370496) * a3 + ((-4722366482869645213696) * a4 + ((-87112285931760246646623899502532662132736) * a5 + (1 * a6 + 0))))) = 0 := he _ (List.mem_cons_of_mem _ List.mem_cons_self)
  have e2 : ((-1) : Int) + (1 * (zk_xe w 2000085 a0) + 0) = 0 := he _ (List.mem_cons_of_mem _ (List.mem_cons_of_mem _ List.mem_cons_self))
  have e3 : (0 : Int) + ((-1) * a2 + (1 * a7 + 0)) = 0 := he _ (List.mem_cons_of_mem _ (List.mem_cons_of_mem _ (List.mem_cons_of_mem _ List.mem_cons_self)))
  have e4 : (1 : Int) + (1 * a8 + ((-1) * (zk_xe w 175 a7) + 0)) = 0 := he _ (List.mem_cons_of_mem _ (List.mem_cons_of_mem _ (List.mem_cons_of_mem _ (List.mem_cons_of_mem _ List.mem_cons_self))))
  have e5 : ((-131071) : Int) + (1 * a2 + 0) = 0 := he _ (List.mem_cons_of_mem _ (List.mem_cons_of_mem _ (List.mem_cons_of_mem _ (List.mem_cons_of_mem _ (List.mem_cons_of_mem _ List.mem_cons_self)))))
  have g0 : 0 ≤ (0 : Int) + (1 * a1 + 0) := hg _ List.mem_cons_self
  have g1 : 0 ≤ (4294967294 : Int) + ((-1) * a1 + 0) := hg _ (List.mem_cons_of_mem _ List.mem_cons_self)
  have g2 : 0 ≤ (0 : Int) + (1 * a2 + 0) := hg _ (List.mem_cons_of_mem _ (List.mem_cons_of_mem _ List.mem_cons_self))
  have g3 : 0 ≤ (1048575 : Int) + ((-1) * a2 + 0) := hg _ (List.mem_cons_of_mem _ (List.mem_cons_of_mem _ (List.mem_cons_of_mem _ List.mem_cons_self)))
  have g4 : 0 ≤ (0 : Int) + (1 * a3 + 0) := hg _ (List.mem_cons_of_mem _ (List.mem_cons_of_mem _ (List.mem_cons_of_mem _ (List.mem_cons_of_mem _ List.mem_cons_self))))
  have g5 : 0 ≤ (1048574 : Int) + ((-1) * a3 + 0) := hg _ (List.mem_cons_of_mem _ (List.mem_cons_of_mem _ (List.mem_cons_of_mem _ (List.mem_cons_of_mem _ (List.mem_cons_of_mem _ List.mem_cons_self)))))
  have g6 : 0 ≤ (9223372036854775808 : Int) + (1 * a4 + 0) := hg _ (List.mem_cons_of_mem _ (List.mem_cons_of_mem _ (List.mem_cons_of_mem _ (List.mem_cons_of_mem _ (List.mem_cons_of_mem _ (List.mem_cons_of_mem _ List.mem_cons_self))))))
  have g7 : 0 ≤ (9223372036854775807 : Int) + ((-1) * a4 + 0) := hg _ (List.mem_cons_of_mem _ (List.mem_cons_of_mem _ (List.mem_cons_of_mem _ (List.mem_cons_of_mem _ (List.mem_cons_of_mem _ (List.mem_cons_of_mem _ (List.mem_cons_of_mem _ List.mem_cons_self)))))))
  have g8 : 0 ≤ (9223372036854775808 : Int) + (1 * a5 + 0) := hg _ (List.mem_cons_of_mem _ (List.mem_cons_of_mem _ (List.mem_cons_of_mem _ (List.mem_cons_of_mem _ (List.mem_cons_of_mem _ (List.mem_cons_of_mem _ (List.mem_cons_of_mem _ (List.mem_cons_of_mem _ List.mem_cons_self))))))))
  have g9 : 0 ≤ (9223372036854775807 : Int) + ((-1) * a5 + 0) := hg _ (List.mem_cons_of_mem _ (List.mem_cons_of_mem _ (List.mem_cons_of_mem _ (List.mem_cons_of_mem _ (List.mem_cons_of_mem _ (List.mem_cons_of_mem _ (List.mem_cons_of_mem _ (List.mem_cons_of_mem _ (List.mem_cons_of_mem _ List.mem_cons_self)))))))))
  have g10 : 0 ≤ ((-1) : Int) + (1 * (zk_xe w 175 a7) + 0) := hg _ (List.mem_cons_of_mem _ (List.mem_cons_of_mem _ (List.mem_cons_of_mem _ (List.mem_cons_of_mem _ (List.mem_cons_of_mem _ (List.mem_cons_of_mem _ (List.mem_cons_of_mem _ (List.mem_cons_of_mem _ (List.mem_cons_of_mem _ (List.mem_cons_of_mem _ List.mem_cons_self))))))))))
  have g11 : 0 ≤ ((-1) : Int) + (1 * a5 + ((-1) * (zk_xe w 2000083 a8) + 0)) := hg _ (List.mem_cons_of_mem _ (List.mem_cons_of_mem _ (List.mem_cons_of_mem _ (List.mem_cons_of_mem _ (List.mem_cons_of_mem _ (List.mem_cons_of_mem _ (List.mem_cons_of_mem _ (List.mem_cons_of_mem _ (List.mem_cons_of_mem _ (List.mem_cons_of_mem _ (List.mem_cons_of_mem _ List.mem_cons_self)))))))))))
  have r0 : 0 ≤ a0 := hr _ List.mem_cons_self
  have r1 : 0 ≤ a7 := hr _ (List.mem_cons_of_mem _ List.mem_cons_self)
  have r2 : 0 ≤ a8 := hr _ (List.mem_cons_of_mem _ (List.mem_cons_of_mem _ List.mem_cons_self))
  have hp := (zn_85 (w := w) (j := a0) (n := a1) (k := a2) (m := a3) (a := a4) (b := a5) (by omega) (by omega) (by omega) (by omega) (by omega) (by omega) (by omega) (by omega) (by omega) (by omega) ).mp (by omega)
  have ht := zn_nt (w := w) (i := a2) (j := a7) (by omega)
  have hx := zn_83 (w := w) (i := zh_e w 175 a2 - 1) (j := a8) (by omega)
  have h : zs_wk (zn_l w 173) (zn_l w 174) (zh_e w 175) a1 0 (a3 + 1) a4 a5 := zs_wk1 hp (by omega) (by omega) (Or.inr (fun h => by omega))
  exact ⟨_, List.mem_cons_self, [], rfl, zx_bnil, zx_cs0, (zx_eF1 (by show 0 ≤ (0 : Int) + (1 * a6 + 0); omega) (by show zk_xe w 2000085 ((0 : Int) + (1 * a6 + 0)) = (1 : Int) + (0); rw [show (0 : Int) + (1 * a6 + 0) = a6 by omega]; exact ((zn_85 (w := w) (j := a6) (n := a1) (k := 0) (m := (a3 + 1)) (a := a4) (b := a5) (by omega) (by omega) (by omega) (by omega) (by omega) (by omega) (by omega) (by omega) (by omega) (by omega) ).mpr (h)).trans (by omega)) zx_eF0), zx_k0⟩
def zx_D788 : zx_L := zx_Lc [] 9 [(2000085, 0), (175, 7), (2000083, 8)] [] [((0, 803469022129495137814537189136461424584413446642662748717056), [(0, 1, 0), (1, 0, 1), (2, 0, 4294967296), (3, 0, 4503599627370496), (4, 0, 4722366482869645213696), (5, 0, 87112285931760246646623899502532662132736)]), ((0, 803469022129495137814537189136461424584413451146262376087552), [(1, 0, 1), (3, 0, 4503599627370496), (4, 0, 4722366482869645213696), (5, 0, 87112285931760246646623899502532662132736), (6, 1, 0)]), ((0, 1), [(9, 1, 0)]), ((0, 0), [(2, 0, 1), (7, 1, 0)]), ((1, 0), [(8, 1, 0), (10, 0, 1)]), ((0, 131071), [(2, 1, 0)])] [((0, 0), [(1, 1, 0)]), ((4294967294, 0), [(1, 0, 1)]), ((0, 0), [(2, 1, 0)]), ((1048575, 0), [(2, 0, 1)]), ((0, 0), [(3, 1, 0)]), ((1048574, 0), [(3, 0, 1)]), ((9223372036854775808, 0), [(4, 1, 0)]), ((9223372036854775807, 0), [(4, 0, 1)]), ((9223372036854775808, 0), [(5, 1, 0)]), ((9223372036854775807, 0), [(5, 0, 1)]), ((0, 1), [(10, 1, 0)]), ((0, 1), [(5, 0, 1), (11, 1, 0)])] [([], [], [(2000085, ((0, 0), [(6, 1, 0)]), ((1, 0), []))], [])]
theorem zx_D788_ok {PT : Nat → zz_W → Prop} : zx_Lok 64 zHT PT zx_D788 := by
  refine zx_Lc_ok (fun w hI hK ins hl hr he hg => ?_)
  obtain ⟨a0, a1, a2, a3, a4, a5, a6, a7, a8, rfl⟩ := zx_i9 hl
  have e0 : ((-803469022129495137814537189136461424584413446642662748717056) : Int) + (1 * a0 + ((-1) * a1 + ((-4294967296) * a2 + ((-4503599627370496) * a3 + ((-4722366482869645213696) * a4 + ((-87112285931760246646623899502532662132736) * a5 + 0)))))) = 0 := he _ List.mem_cons_self
  have e1 : ((-803469022129495137814537189136461424584413451146262376087552) : Int) + ((-1) * a1 + ((-4503599627370496) * a3 + ((-4722366482869645213696) * a4 + ((-87112285931760246646623899502532662132736) * a5 + (1 * a6 + 0))))) = 0 := he _ (List.mem_cons_of_mem _ List.mem_cons_self)
  have e2 : ((-1) : Int) + (1 * (zk_xe w 2000085 a0) + 0) = 0 := he _ (List.mem_cons_of_mem _ (List.mem_cons_of_mem _ List.mem_cons_self))
  have e3 : (0 : Int) + ((-1) * a2 + (1 * a7 + 0)) = 0 := he _ (List.mem_cons_of_mem _ (List.mem_cons_of_mem _ (List.mem_cons_of_mem _ List.mem_cons_self)))
  have e4 : (1 : Int) + (1 * a8 + ((-1) * (zk_xe w 175 a7) + 0)) = 0 := he _ (List.mem_cons_of_mem _ (List.mem_cons_of_mem _ (List.mem_cons_of_mem _ (List.mem_cons_of_mem _ List.mem_cons_self))))
  have e5 : ((-131071) : Int) + (1 * a2 + 0) = 0 := he _ (List.mem_cons_of_mem _ (List.mem_cons_of_mem _ (List.mem_cons_of_mem _ (List.mem_cons_of_mem _ (List.mem_cons_of_mem _ List.mem_cons_self)))))
  have g0 : 0 ≤ (0 : Int) + (1 * a1 + 0) := hg _ List.mem_cons_self
  have g1 : 0 ≤ (4294967294 : Int) + ((-1) * a1 + 0) := hg _ (List.mem_cons_of_mem _ List.mem_cons_self)
  have g2 : 0 ≤ (0 : Int) + (1 * a2 + 0) := hg _ (List.mem_cons_of_mem _ (List.mem_cons_of_mem _ List.mem_cons_self))
  have g3 : 0 ≤ (1048575 : Int) + ((-1) * a2 + 0) := hg _ (List.mem_cons_of_mem _ (List.mem_cons_of_mem _ (List.mem_cons_of_mem _ List.mem_cons_self)))
  have g4 : 0 ≤ (0 : Int) + (1 * a3 + 0) := hg _ (List.mem_cons_of_mem _ (List.mem_cons_of_mem _ (List.mem_cons_of_mem _ (List.mem_cons_of_mem _ List.mem_cons_self))))
  have g5 : 0 ≤ (1048574 : Int) + ((-1) * a3 + 0) := hg _ (List.mem_cons_of_mem _ (List.mem_cons_of_mem _ (List.mem_cons_of_mem _ (List.mem_cons_of_mem _ (List.mem_cons_of_mem _ List.mem_cons_self)))))
  have g6 : 0 ≤ (9223372036854775808 : Int) + (1 * a4 + 0) := hg _ (List.mem_cons_of_mem _ (List.mem_cons_of_mem _ (List.mem_cons_of_mem _ (List.mem_cons_of_mem _ (List.mem_cons_of_mem _ (List.mem_cons_of_mem _ List.mem_cons_self))))))
  have g7 : 0 ≤ (9223372036854775807 : Int) + ((-1) * a4 + 0) := hg _ (List.mem_cons_of_mem _ (List.mem_cons_of_mem _ (List.mem_cons_of_mem _ (List.mem_cons_of_mem _ (List.mem_cons_of_mem _ (List.mem_cons_of_mem _ (List.mem_cons_of_mem _ List.mem_cons_self)))))))
  have g8 : 0 ≤ (9223372036854775808 : Int) + (1 * a5 + 0) := hg _ (List.mem_cons_of_mem _ (List.mem_cons_of_mem _ (List.mem_cons_of_mem _ (List.mem_cons_of_mem _ (List.mem_cons_of_mem _ (List.mem_cons_of_mem _ (List.mem_cons_of_mem _ (List.mem_cons_of_mem _ List.mem_cons_self))))))))
  have g9 : 0 ≤ (9223372036854775807 : Int) + ((-1) * a5 + 0) := hg _ (List.mem_cons_of_mem _ (List.mem_cons_of_mem _ (List.mem_cons_of_mem _ (List.mem_cons_of_mem _ (List.mem_cons_of_mem _ (List.mem_cons_of_mem _ (List.mem_cons_of_mem _ (List.mem_cons_of_mem _ (List.mem_cons_of_mem _ List.mem_cons_self)))))))))
  have g10 : 0 ≤ ((-1) : Int) + (1 * (zk_xe w 175 a7) + 0) := hg _ (List.mem_cons_of_mem _ (List.mem_cons_of_mem _ (List.mem_cons_of_mem _ (List.mem_cons_of_mem _ (List.mem_cons_of_mem _ (List.mem_cons_of_mem _ (List.mem_cons_of_mem _ (List.mem_cons_of_mem _ (List.mem_cons_of_mem _ (List.mem_cons_of_mem _ List.mem_cons_self))))))))))
  have g11 : 0 ≤ ((-1) : Int) + ((-1) * a5 + (1 * (zk_xe w 2000083 a8) + 0)) := hg _ (List.mem_cons_of_mem _ (List.mem_cons_of_mem _ (List.mem_cons_of_mem _ (List.mem_cons_of_mem _ (List.mem_cons_of_mem _ (List.mem_cons_of_mem _ (List.mem_cons_of_mem _ (List.mem_cons_of_mem _ (List.mem_cons_of_mem _ (List.mem_cons_of_mem _ (List.mem_cons_of_mem _ List.mem_cons_self)))))))))))
  have r0 : 0 ≤ a0 := hr _ List.mem_cons_self
  have r1 : 0 ≤ a7 := hr _ (List.mem_cons_of_mem _ List.mem_cons_self)
  have r2 : 0 ≤ a8 := hr _ (List.mem_cons_of_mem _ (List.mem_cons_of_mem _ List.mem_cons_self))
  have hp := (zn_85 (w := w) (j := a0) (n := a1) (k := a2) (m := a3) (a := a4) (b := a5) (by omega) (by omega) (by omega) (by omega) (by omega) (by omega) (by omega) (by omega) (by omega) (by omega) ).mp (by omega)
  have ht := zn_nt (w := w) (i := a2) (j := a7) (by omega)
  have hx := zn_83 (w := w) (i := zh_e w 175 a2 - 1) (j := a8) (by omega)
  have h : zs_wk (zn_l w 173) (zn_l w 174) (zh_e w 175) a1 0 (a3 + 1) a4 a5 := zs_wk1 hp (by omega) (by omega) (Or.inr (fun h => by omega))
  exact ⟨_, List.mem_cons_self, [], rfl, zx_bnil, zx_cs0, (zx_eF1 (by show 0 ≤ (0 : Int) + (1 * a6 + 0); omega) (by show zk_xe w 2000085 ((0 : Int) + (1 * a6 + 0)) = (1 : Int) + (0); rw [show (0 : Int) + (1 * a6 + 0) = a6 by omega]; exact ((zn_85 (w := w) (j := a6) (n := a1) (k := 0) (m := (a3 + 1)) (a := a4) (b := a5) (by omega) (by omega) (by omega) (by omega) (by omega) (by omega) (by omega) (by omega) (by omega) (by omega) ).mpr (h)).trans (by omega)) zx_eF0), zx_k0⟩
def zx_D790 : zx_L := zx_Lc [] 5 [(2000084, 0), (2000082, 1), (2000082, 2), (2000083, 3), (2000083, 4)] [] [((0, 1), [(5, 1, 0)]), ((0, 0), [(6, 1, 0), (7, 0, 1)]), ((0, 0), [(8, 1, 0), (9, 0, 1)]), ((0, 0), [(1, 0, 1), (3, 1, 0)]), ((0, 0), [(2, 0, 1), (4, 1, 0)])] [((0, 0), [(0, 1, 0)]), ((4294967294, 0), [(0, 0, 1)]), ((0, 0), [(1, 1, 0)]), ((0, 0), [(2, 1, 0)]), ((0, 1), [(0, 1, 0), (1, 0, 1)]), ((0, 1), [(0, 1, 0), (2, 0, 1)])] [([], [((0, 0), [(1, 1, 0), (2, 0, 1)]), ((0, 0), [(1, 0, 1), (2, 1, 0)])], [], [])]
theorem zx_D790_ok {PT : Nat → zz_W → Prop} : zx_Lok 64 zHT PT zx_D790 := by
  refine zx_Lc_ok (fun w hI hK ins hl hr he hg => ?_)
  obtain ⟨a0, a1, a2, a3, a4, rfl⟩ := zx_i5 hl
  have e0 : ((-1) : Int) + (1 * (zk_xe w 2000084 a0) + 0) = 0 := he _ List.mem_cons_self
  have e1 : (0 : Int) + (1 * (zk_xe w 2000082 a1) + ((-1) * (zk_xe w 2000082 a2) + 0)) = 0 := he _ (List.mem_cons_of_mem _ List.mem_cons_self)
  have e2 : (0 : Int) + (1 * (zk_xe w 2000083 a3) + ((-1) * (zk_xe w 2000083 a4) + 0)) = 0 := he _ (List.mem_cons_of_mem _ (List.mem_cons_of_mem _ List.mem_cons_self))
  have e3 : (0 : Int) + ((-1) * a1 + (1 * a3 + 0)) = 0 := he _ (List.mem_cons_of_mem _ (List.mem_cons_of_mem _ (List.mem_cons_of_mem _ List.mem_cons_self)))
  have e4 : (0 : Int) + ((-1) * a2 + (1 * a4 + 0)) = 0 := he _ (List.mem_cons_of_mem _ (List.mem_cons_of_mem _ (List.mem_cons_of_mem _ (List.mem_cons_of_mem _ List.mem_cons_self))))
  have g0 : 0 ≤ (0 : Int) + (1 * a0 + 0) := hg _ List.mem_cons_self
  have g1 : 0 ≤ (4294967294 : Int) + ((-1) * a0 + 0) := hg _ (List.mem_cons_of_mem _ List.mem_cons_self)
  have g2 : 0 ≤ (0 : Int) + (1 * a1 + 0) := hg _ (List.mem_cons_of_mem _ (List.mem_cons_of_mem _ List.mem_cons_self))
  have g3 : 0 ≤ (0 : Int) + (1 * a2 + 0) := hg _ (List.mem_cons_of_mem _ (List.mem_cons_of_mem _ (List.mem_cons_of_mem _ List.mem_cons_self)))
  have g4 : 0 ≤ ((-1) : Int) + (1 * a0 + ((-1) * a1 + 0)) := hg _ (List.mem_cons_of_mem _ (List.mem_cons_of_mem _ (List.mem_cons_of_mem _ (List.mem_cons_of_mem _ List.mem_cons_self))))
  have g5 : 0 ≤ ((-1) : Int) + (1 * a0 + ((-1) * a2 + 0)) := hg _ (List.mem_cons_of_mem _ (List.mem_cons_of_mem _ (List.mem_cons_of_mem _ (List.mem_cons_of_mem _ (List.mem_cons_of_mem _ List.mem_cons_self)))))
  have r0 : 0 ≤ a0 := hr _ List.mem_cons_self
  have r1 : 0 ≤ a1 := hr _ (List.mem_cons_of_mem _ List.mem_cons_self)
  have r2 : 0 ≤ a2 := hr _ (List.mem_cons_of_mem _ (List.mem_cons_of_mem _ List.mem_cons_self))
  have r3 : 0 ≤ a3 := hr _ (List.mem_cons_of_mem _ (List.mem_cons_of_mem _ (List.mem_cons_of_mem _ List.mem_cons_self)))
  have r4 : 0 ≤ a4 := hr _ (List.mem_cons_of_mem _ (List.mem_cons_of_mem _ (List.mem_cons_of_mem _ (List.mem_cons_of_mem _ List.mem_cons_self))))
  have hp := (zn_84' (w := w) (j := a0) (by omega) (by omega)).mp (by omega)
  have x1 := zn_82 (w := w) (i := a1) (j := a1) rfl
  have x2 := zn_82 (w := w) (i := a2) (j := a2) rfl
  have y1 := zn_83 (w := w) (i := a1) (j := a3) (by omega)
  have y2 := zn_83 (w := w) (i := a2) (j := a4) (by omega)
  have h : a1 = a2 := by
    by_cases c : a1 < a2
    · exact (hp.2.1 a1 a2 (by omega) c (by omega) (by omega) (by omega)).elim
    · by_cases c2 : a2 < a1
      · exact (hp.2.1 a2 a1 (by omega) c2 (by omega) (by omega) (by omega)).elim
      · omega
  exact ⟨_, List.mem_cons_self, [], rfl, zx_bnil, (zx_cs1 (by show 0 ≤ (0 : Int) + (1 * a1 + ((-1) * a2 + 0)); omega) (zx_cs1 (by show 0 ≤ (0 : Int) + ((-1) * a1 + (1 * a2 + 0)); omega) zx_cs0)), zx_eF0, zx_k0⟩
def zx_D795 : zx_L := zx_Lc [] 2 [(2000081, 0)] [] [((0, 2722258935367507707854570812043822104583), [(0, 1, 0), (1, 0, 16)])] [((2147483648, 0), [(1, 1, 0)]), ((2147483647, 0), [(1, 0, 1)])] [([], [((0, 0), [(1, 0, 1), (2, 1, 0)]), ((0, 0), [(1, 1, 0), (2, 0, 1)])], [], [])]
theorem zx_D795_ok {PT : Nat → zz_W → Prop} : zx_Lok 64 zHT PT zx_D795 := by
  refine zx_Lc_ok (fun w hI hK ins hl hr he hg => ?_)
  obtain ⟨a0, a1, rfl⟩ := zx_i2 hl
  have e0 : ((-2722258935367507707854570812043822104583) : Int) + (1 * a0 + ((-16) * a1 + 0)) = 0 := he _ List.mem_cons_self
  have g0 : 0 ≤ (2147483648 : Int) + (1 * a1 + 0) := hg _ List.mem_cons_self
  have g1 : 0 ≤ (2147483647 : Int) + ((-1) * a1 + 0) := hg _ (List.mem_cons_of_mem _ List.mem_cons_self)
  have r0 : 0 ≤ a0 := hr _ List.mem_cons_self
  obtain ⟨v, hv⟩ : ∃ v, zk_xe w 2000081 a0 = v := ⟨_, rfl⟩
  have w0 : v = zn_op 7 a1 0 := hv.symm.trans (zn_oc_at (x := a1) (y := 0) (by decide) (by omega) (by omega) (by omega) (by omega))
  rw [zn_op7 (by omega) (by omega)] at w0
  exact ⟨_, List.mem_cons_self, [], rfl, zx_bnil, (zx_cs1 (by show 0 ≤ (0 : Int) + ((-1) * a1 + (1 * (zk_xe w 2000081 a0) + 0)); rw [hv]; omega) (zx_cs1 (by show 0 ≤ (0 : Int) + (1 * a1 + ((-1) * (zk_xe w 2000081 a0) + 0)); rw [hv]; omega) zx_cs0)), zx_eF0, zx_k0⟩
def zx_D791 : zx_L := zx_Lc [] 6 [(2000084, 0), (2000082, 1), (2000083, 2), (2000086, 3)] [] [((0, 1), [(6, 1, 0)]), ((0, 1), [(9, 1, 0)]), ((0, 0), [(4, 0, 1), (7, 1, 0)]), ((0, 0), [(5, 0, 1), (8, 1, 0)]), ((0, 0), [(1, 0, 1), (2, 1, 0)]), ((0, 730750818665451459141456497615273678624738246656), [(0, 0, 1), (3, 1, 0), (4, 0, 4294967296), (5, 0, 79228162514264337593543950336)])] [((0, 0), [(0, 1, 0)]), ((124, 0), [(0, 0, 1)]), ((0, 0), [(1, 1, 0)]), ((0, 1), [(0, 1, 0), (1, 0, 1)]), ((9223372036854775808, 0), [(4, 1, 0)]), ((9223372036854775807, 0), [(4, 0, 1)]), ((9223372036854775808, 0), [(5, 1, 0)]), ((9223372036854775807, 0), [(5, 0, 1)])] [([], [((0, 1), [])], [], [])]
theorem zx_D791_ok {PT : Nat → zz_W → Prop} : zx_Lok 64 zHT PT zx_D791 := by
  refine zx_Lc_ok (fun w hI hK ins hl hr he hg => ?_)
  obtain ⟨a0, a1, a2, a3, a4, a5, rfl⟩ := zx_i6 hl
  have e0 : ((-1) : Int) + (1 * (zk_xe w 2000084 a0) + 0) = 0 := he _ List.mem_cons_self
  have e1 : ((-1) : Int) + (1 * (zk_xe w 2000086 a3) + 0) = 0 := he _ (List.mem_cons_of_mem _ List.mem_cons_self)
  have e2 : (0 : Int) + ((-1) * a4 + (1 * (zk_xe w 2000082 a1) + 0)) = 0 := he _ (List.mem_cons_of_mem _ (List.mem_cons_of_mem _ List.mem_cons_self))
  have e3 : (0 : Int) + ((-1) * a5 + (1 * (zk_xe w 2000083 a2) + 0)) = 0 := he _ (List.mem_cons_of_mem _ (List.mem_cons_of_mem _ (List.mem_cons_of_mem _ List.mem_cons_self)))
  have e4 : (0 : Int) + ((-1) * a1 + (1 * a2 + 0)) = 0 := he _ (List.mem_cons_of_mem _ (List.mem_cons_of_mem _ (List.mem_cons_of_mem _ (List.mem_cons_of_mem _ List.mem_cons_self))))
  have e5 : ((-730750818665451459141456497615273678624738246656) : Int) + ((-1) * a0 + (1 * a3 + ((-4294967296) * a4 + ((-79228162514264337593543950336) * a5 + 0)))) = 0 := he _ (List.mem_cons_of_mem _ (List.mem_cons_of_mem _ (List.mem_cons_of_mem _ (List.mem_cons_of_mem _ (List.mem_cons_of_mem _ List.mem_cons_self)))))
  have g0 : 0 ≤ (0 : Int) + (1 * a0 + 0) := hg _ List.mem_cons_self
  have g1 : 0 ≤ (124 : Int) + ((-1) * a0 + 0) := hg _ (List.mem_cons_of_mem _ List.mem_cons_self)
  have g2 : 0 ≤ (0 : Int) + (1 * a1 + 0) := hg _ (List.mem_cons_of_mem _ (List.mem_cons_of_mem _ List.mem_cons_self))
  have g3 : 0 ≤ ((-1) : Int) + (1 * a0 + ((-1) * a1 + 0)) := hg _ (List.mem_cons_of_mem _ (List.mem_cons_of_mem _ (List.mem_cons_of_mem _ List.mem_cons_self)))
  have g4 : 0 ≤ (9223372036854775808 : Int) + (1 * a4 + 0) := hg _ (List.mem_cons_of_mem _ (List.mem_cons_of_mem _ (List.mem_cons_of_mem _ (List.mem_cons_of_mem _ List.mem_cons_self))))
  have g5 : 0 ≤ (9223372036854775807 : Int) + ((-1) * a4 + 0) := hg _ (List.mem_cons_of_mem _ (List.mem_cons_of_mem _ (List.mem_cons_of_mem _ (List.mem_cons_of_mem _ (List.mem_cons_of_mem _ List.mem_cons_self)))))
  have g6 : 0 ≤ (9223372036854775808 : Int) + (1 * a5 + 0) := hg _ (List.mem_cons_of_mem _ (List.mem_cons_of_mem _ (List.mem_cons_of_mem _ (List.mem_cons_of_mem _ (List.mem_cons_of_mem _ (List.mem_cons_of_mem _ List.mem_cons_self))))))
  have g7 : 0 ≤ (9223372036854775807 : Int) + ((-1) * a5 + 0) := hg _ (List.mem_cons_of_mem _ (List.mem_cons_of_mem _ (List.mem_cons_of_mem _ (List.mem_cons_of_mem _ (List.mem_cons_of_mem _ (List.mem_cons_of_mem _ (List.mem_cons_of_mem _ List.mem_cons_self)))))))
  have r0 : 0 ≤ a0 := hr _ List.mem_cons_self
  have r1 : 0 ≤ a1 := hr _ (List.mem_cons_of_mem _ List.mem_cons_self)
  have r2 : 0 ≤ a2 := hr _ (List.mem_cons_of_mem _ (List.mem_cons_of_mem _ List.mem_cons_self))
  have r3 : 0 ≤ a3 := hr _ (List.mem_cons_of_mem _ (List.mem_cons_of_mem _ (List.mem_cons_of_mem _ List.mem_cons_self)))
  have hp := (zn_84' (w := w) (j := a0) (by omega) (by omega)).mp (by omega)
  have hc := (zn_86 (w := w) (j := a3) (n := a0) (a := a4) (b := a5) (by omega) (by omega) (by omega) (by omega) (by omega) (by omega) ).mp (by omega)
  have x1 := zn_82 (w := w) (i := a1) (j := a1) rfl
  have y1 := zn_83 (w := w) (i := a1) (j := a2) (by omega)
  have h3 := hp.2.2 a1 (by omega) (by omega) (by omega)
  exact (zn_ku (i := a1) (j := a0) (by omega) (by omega) (by omega) (by rw [← h3.1, ← hc.1]; omega) (by rw [← h3.2, ← hc.2]; omega)).elim
def zx_D792 : zx_L := zx_Lc [] 4 [(2000087, 0), (2000082, 1), (2000083, 2)] [] [((0, 1), [(4, 1, 0)]), ((0, 0), [(0, 0, 1), (1, 1, 0)]), ((0, 0), [(0, 0, 1), (2, 1, 0)]), ((0, 730750818665451459141456497615273678624738246656), [(0, 0, 1), (3, 1, 0), (5, 0, 4294967296), (6, 0, 79228162514264337593543950336)])] [((0, 0), [(0, 1, 0)]), ((124, 0), [(0, 0, 1)]), ((9223372036854775808, 0), [(5, 1, 0)]), ((9223372036854775807, 0), [(5, 0, 1)]), ((9223372036854775808, 0), [(6, 1, 0)]), ((9223372036854775807, 0), [(6, 0, 1)])] [([], [], [(2000086, ((0, 0), [(3, 1, 0)]), ((1, 0), [])), (2000087, ((1, 0), [(0, 1, 0)]), ((1, 0), []))], [])]
theorem zx_D792_ok {PT : Nat → zz_W → Prop} : zx_Lok 64 zHT PT zx_D792 := by
  refine zx_Lc_ok (fun w hI hK ins hl hr he hg => ?_)
  obtain ⟨a0, a1, a2, a3, rfl⟩ := zx_i4 hl
  have e0 : ((-1) : Int) + (1 * (zk_xe w 2000087 a0) + 0) = 0 := he _ List.mem_cons_self
  have e1 : (0 : Int) + ((-1) * a0 + (1 * a1 + 0)) = 0 := he _ (List.mem_cons_of_mem _ List.mem_cons_self)
  have e2 : (0 : Int) + ((-1) * a0 + (1 * a2 + 0)) = 0 := he _ (List.mem_cons_of_mem _ (List.mem_cons_of_mem _ List.mem_cons_self))
  have e3 : ((-730750818665451459141456497615273678624738246656) : Int) + ((-1) * a0 + (1 * a3 + ((-4294967296) * (zk_xe w 2000082 a1) + ((-79228162514264337593543950336) * (zk_xe w 2000083 a2) + 0)))) = 0 := he _ (List.mem_cons_of_mem _ (List.mem_cons_of_mem _ (List.mem_cons_of_mem _ List.mem_cons_self)))
  have g0 : 0 ≤ (0 : Int) + (1 * a0 + 0) := hg _ List.mem_cons_self
  have g1 : 0 ≤ (124 : Int) + ((-1) * a0 + 0) := hg _ (List.mem_cons_of_mem _ List.mem_cons_self)
  have g2 : 0 ≤ (9223372036854775808 : Int) + (1 * (zk_xe w 2000082 a1) + 0) := hg _ (List.mem_cons_of_mem _ (List.mem_cons_of_mem _ List.mem_cons_self))
  have g3 : 0 ≤ (9223372036854775807 : Int) + ((-1) * (zk_xe w 2000082 a1) + 0) := hg _ (List.mem_cons_of_mem _ (List.mem_cons_of_mem _ (List.mem_cons_of_mem _ List.mem_cons_self)))
  have g4 : 0 ≤ (9223372036854775808 : Int) + (1 * (zk_xe w 2000083 a2) + 0) := hg _ (List.mem_cons_of_mem _ (List.mem_cons_of_mem _ (List.mem_cons_of_mem _ (List.mem_cons_of_mem _ List.mem_cons_self))))
  have g5 : 0 ≤ (9223372036854775807 : Int) + ((-1) * (zk_xe w 2000083 a2) + 0) := hg _ (List.mem_cons_of_mem _ (List.mem_cons_of_mem _ (List.mem_cons_of_mem _ (List.mem_cons_of_mem _ (List.mem_cons_of_mem _ List.mem_cons_self)))))
  have r0 : 0 ≤ a0 := hr _ List.mem_cons_self
  have r1 : 0 ≤ a1 := hr _ (List.mem_cons_of_mem _ List.mem_cons_self)
  have r2 : 0 ≤ a2 := hr _ (List.mem_cons_of_mem _ (List.mem_cons_of_mem _ List.mem_cons_self))
  have hp := (zn_87 (w := w) (j := a0) (by omega) (by omega)).mp (by omega)
  have x1 := zn_82 (w := w) (i := a0) (j := a1) (by omega)
  have y1 := zn_83 (w := w) (i := a0) (j := a2) (by omega)
  have hc := hp a0 (Int.le_refl _) (by omega) (by omega)
  rw [← x1, ← y1] at hc
  have h2 : zn_k5 (zn_l w 173) (zn_l w 174) (a0 + 1) := fun i i0 i1 i2 => hp i (by omega) i1 i2
  exact ⟨_, List.mem_cons_self, [], rfl, zx_bnil, zx_cs0, (zx_eF1 (by show 0 ≤ (0 : Int) + (1 * a3 + 0); omega) (by show zk_xe w 2000086 ((0 : Int) + (1 * a3 + 0)) = (1 : Int) + (0); rw [show (0 : Int) + (1 * a3 + 0) = a3 by omega]; exact ((zn_86 (w := w) (j := a3) (n := a0) (a := zk_xe w 2000082 a1) (b := zk_xe w 2000083 a2) (by omega) (by omega) (by omega) (by omega) (by omega) (by omega) ).mpr hc).trans (by omega)) (zx_eF1 (by show 0 ≤ (1 : Int) + (1 * a0 + 0); omega) (by show zk_xe w 2000087 ((1 : Int) + (1 * a0 + 0)) = (1 : Int) + (0); rw [show (1 : Int) + (1 * a0 + 0) = (a0 + 1) by omega]; exact ((zn_87 (w := w) (j := a0 + 1) (by omega) (by omega)).mpr h2).trans (by omega)) zx_eF0)), zx_k0⟩
def zx_D793 : zx_L := zx_Lc [] 2 [(2000084, 0)] [] [((0, 1), [(2, 1, 0)]), ((0, 0), [(1, 1, 0)])] [((0, 125), [(0, 1, 0)]), ((4294967294, 0), [(0, 0, 1)])] [([], [], [(2000087, ((0, 0), [(1, 1, 0)]), ((1, 0), []))], [])]
theorem zx_D793_ok {PT : Nat → zz_W → Prop} : zx_Lok 64 zHT PT zx_D793 := by
  refine zx_Lc_ok (fun w hI hK ins hl hr he hg => ?_)
  obtain ⟨a0, a1, rfl⟩ := zx_i2 hl
  have e0 : ((-1) : Int) + (1 * (zk_xe w 2000084 a0) + 0) = 0 := he _ List.mem_cons_self
  have e1 : (0 : Int) + (1 * a1 + 0) = 0 := he _ (List.mem_cons_of_mem _ List.mem_cons_self)
  have g0 : 0 ≤ ((-125) : Int) + (1 * a0 + 0) := hg _ List.mem_cons_self
  have g1 : 0 ≤ (4294967294 : Int) + ((-1) * a0 + 0) := hg _ (List.mem_cons_of_mem _ List.mem_cons_self)
  have r0 : 0 ≤ a0 := hr _ List.mem_cons_self
  have hp := (zn_84' (w := w) (j := a0) (by omega) (by omega)).mp (by omega)
  have h : zn_k5 (zn_l w 173) (zn_l w 174) a1 := fun i i0 i1 i2 => hp.2.2 i i1 (by omega) i2
  exact ⟨_, List.mem_cons_self, [], rfl, zx_bnil, zx_cs0, (zx_eF1 (by show 0 ≤ (0 : Int) + (1 * a1 + 0); omega) (by show zk_xe w 2000087 ((0 : Int) + (1 * a1 + 0)) = (1 : Int) + (0); rw [show (0 : Int) + (1 * a1 + 0) = a1 by omega]; exact ((zn_87 (w := w) (j := a1) (by omega) (by omega)).mpr h).trans (by omega)) zx_eF0), zx_k0⟩
def zx_E580 : zx_V := zx_Vc 175 [] 10 [(2000085, 0), (2000084, 6), (2000082, 7), (2000083, 8), (175, 9)] [((0, 803469022129495137814537189136461424584413446642662748717056), [(2, 1, 0), (3, 0, 1), (4, 0, 4294967296), (5, 0, 4503599627370496), (6, 0, 4722366482869645213696), (7, 0, 87112285931760246646623899502532662132736)]), ((0, 0), [(3, 0, 1), (8, 1, 0)]), ((0, 0), [(3, 0, 1), (9, 1, 0)]), ((0, 0), [(3, 0, 1), (10, 1, 0)]), ((0, 0), [(4, 0, 1), (11, 1, 0)]), ((0, 0), [(0, 1, 0), (4, 0, 1)]), ((0, 1), [(1, 1, 0), (3, 0, 1)]), ((0, 1), [(12, 1, 0)]), ((0, 1), [(13, 1, 0)]), ((0, 0), [(6, 0, 1), (14, 1, 0)]), ((0, 0), [(7, 0, 1), (15, 1, 0)]), ((0, 0), [(16, 1, 0)])] [((0, 0), [(3, 1, 0)]), ((4294967293, 0), [(3, 0, 1)]), ((0, 0), [(4, 1, 0)]), ((1048575, 0), [(4, 0, 1)]), ((0, 0), [(5, 1, 0)]), ((1048575, 0), [(5, 0, 1)]), ((9223372036854775808, 0), [(6, 1, 0)]), ((9223372036854775807, 0), [(6, 0, 1)]), ((9223372036854775808, 0), [(7, 1, 0)]), ((9223372036854775807, 0), [(7, 0, 1)]), ((0, 125), [(3, 1, 0)])] [(2000084, ((1, 0), [(3, 1, 0)]), ((1, 0), []))]
theorem zx_E580_ok {PT : Nat → zz_W → Prop} : zx_Vok 64 zHT PT zx_E580 := by
  refine zx_Vc_ok (fun w w' j ins hI hI' h0 hw hK hl he hg => ?_)
  obtain ⟨a0, a1, a2, a3, a4, a5, a6, a7, a8, a9, rfl⟩ := zx_i10 hl
  have e0 : ((-803469022129495137814537189136461424584413446642662748717056) : Int) + (1 * a0 + ((-1) * a1 + ((-4294967296) * a2 + ((-4503599627370496) * a3 + ((-4722366482869645213696) * a4 + ((-87112285931760246646623899502532662132736) * a5 + 0)))))) = 0 := he _ List.mem_cons_self
  have e1 : (0 : Int) + ((-1) * a1 + (1 * a6 + 0)) = 0 := he _ (List.mem_cons_of_mem _ List.mem_cons_self)
  have e2 : (0 : Int) + ((-1) * a1 + (1 * a7 + 0)) = 0 := he _ (List.mem_cons_of_mem _ (List.mem_cons_of_mem _ List.mem_cons_self))
  have e3 : (0 : Int) + ((-1) * a1 + (1 * a8 + 0)) = 0 := he _ (List.mem_cons_of_mem _ (List.mem_cons_of_mem _ (List.mem_cons_of_mem _ List.mem_cons_self)))
  have e4 : (0 : Int) + ((-1) * a2 + (1 * a9 + 0)) = 0 := he _ (List.mem_cons_of_mem _ (List.mem_cons_of_mem _ (List.mem_cons_of_mem _ (List.mem_cons_of_mem _ List.mem_cons_self))))
  have e5 : (0 : Int) + (1 * j + ((-1) * a2 + 0)) = 0 := he _ (List.mem_cons_of_mem _ (List.mem_cons_of_mem _ (List.mem_cons_of_mem _ (List.mem_cons_of_mem _ (List.mem_cons_of_mem _ List.mem_cons_self)))))
  have e6 : ((-1) : Int) + (1 * (zk_el w' 175 j) + ((-1) * a1 + 0)) = 0 := he _ (List.mem_cons_of_mem _ (List.mem_cons_of_mem _ (List.mem_cons_of_mem _ (List.mem_cons_of_mem _ (List.mem_cons_of_mem _ (List.mem_cons_of_mem _ List.mem_cons_self))))))
  have e7 : ((-1) : Int) + (1 * (zk_xe w 2000085 a0) + 0) = 0 := he _ (List.mem_cons_of_mem _ (List.mem_cons_of_mem _ (List.mem_cons_of_mem _ (List.mem_cons_of_mem _ (List.mem_cons_of_mem _ (List.mem_cons_of_mem _ (List.mem_cons_of_mem _ List.mem_cons_self)))))))
  have e8 : ((-1) : Int) + (1 * (zk_xe w 2000084 a6) + 0) = 0 := he _ (List.mem_cons_of_mem _ (List.mem_cons_of_mem _ (List.mem_cons_of_mem _ (List.mem_cons_of_mem _ (List.mem_cons_of_mem _ (List.mem_cons_of_mem _ (List.mem_cons_of_mem _ (List.mem_cons_of_mem _ List.mem_cons_self))))))))
  have e9 : (0 : Int) + ((-1) * a4 + (1 * (zk_xe w 2000082 a7) + 0)) = 0 := he _ (List.mem_cons_of_mem _ (List.mem_cons_of_mem _ (List.mem_cons_of_mem _ (List.mem_cons_of_mem _ (List.mem_cons_of_mem _ (List.mem_cons_of_mem _ (List.mem_cons_of_mem _ (List.mem_cons_of_mem _ (List.mem_cons_of_mem _ List.mem_cons_self)))))))))
  have e10 : (0 : Int) + ((-1) * a5 + (1 * (zk_xe w 2000083 a8) + 0)) = 0 := he _ (List.mem_cons_of_mem _ (List.mem_cons_of_mem _ (List.mem_cons_of_mem _ (List.mem_cons_of_mem _ (List.mem_cons_of_mem _ (List.mem_cons_of_mem _ (List.mem_cons_of_mem _ (List.mem_cons_of_mem _ (List.mem_cons_of_mem _ (List.mem_cons_of_mem _ List.mem_cons_self))))))))))
  have e11 : (0 : Int) + (1 * (zk_xe w 175 a9) + 0) = 0 := he _ (List.mem_cons_of_mem _ (List.mem_cons_of_mem _ (List.mem_cons_of_mem _ (List.mem_cons_of_mem _ (List.mem_cons_of_mem _ (List.mem_cons_of_mem _ (List.mem_cons_of_mem _ (List.mem_cons_of_mem _ (List.mem_cons_of_mem _ (List.mem_cons_of_mem _ (List.mem_cons_of_mem _ List.mem_cons_self)))))))))))
  have g0 : 0 ≤ (0 : Int) + (1 * a1 + 0) := hg _ List.mem_cons_self
  have g1 : 0 ≤ (4294967293 : Int) + ((-1) * a1 + 0) := hg _ (List.mem_cons_of_mem _ List.mem_cons_self)
  have g2 : 0 ≤ (0 : Int) + (1 * a2 + 0) := hg _ (List.mem_cons_of_mem _ (List.mem_cons_of_mem _ List.mem_cons_self))
  have g3 : 0 ≤ (1048575 : Int) + ((-1) * a2 + 0) := hg _ (List.mem_cons_of_mem _ (List.mem_cons_of_mem _ (List.mem_cons_of_mem _ List.mem_cons_self)))
  have g4 : 0 ≤ (0 : Int) + (1 * a3 + 0) := hg _ (List.mem_cons_of_mem _ (List.mem_cons_of_mem _ (List.mem_cons_of_mem _ (List.mem_cons_of_mem _ List.mem_cons_self))))
  have g5 : 0 ≤ (1048575 : Int) + ((-1) * a3 + 0) := hg _ (List.mem_cons_of_mem _ (List.mem_cons_of_mem _ (List.mem_cons_of_mem _ (List.mem_cons_of_mem _ (List.mem_cons_of_mem _ List.mem_cons_self)))))
  have g6 : 0 ≤ (9223372036854775808 : Int) + (1 * a4 + 0) := hg _ (List.mem_cons_of_mem _ (List.mem_cons_of_mem _ (List.mem_cons_of_mem _ (List.mem_cons_of_mem _ (List.mem_cons_of_mem _ (List.mem_cons_of_mem _ List.mem_cons_self))))))
  have g7 : 0 ≤ (9223372036854775807 : Int) + ((-1) * a4 + 0) := hg _ (List.mem_cons_of_mem _ (List.mem_cons_of_mem _ (List.mem_cons_of_mem _ (List.mem_cons_of_mem _ (List.mem_cons_of_mem _ (List.mem_cons_of_mem _ (List.mem_cons_of_mem _ List.mem_cons_self)))))))
  have g8 : 0 ≤ (9223372036854775808 : Int) + (1 * a5 + 0) := hg _ (List.mem_cons_of_mem _ (List.mem_cons_of_mem _ (List.mem_cons_of_mem _ (List.mem_cons_of_mem _ (List.mem_cons_of_mem _ (List.mem_cons_of_mem _ (List.mem_cons_of_mem _ (List.mem_cons_of_mem _ List.mem_cons_self))))))))
  have g9 : 0 ≤ (9223372036854775807 : Int) + ((-1) * a5 + 0) := hg _ (List.mem_cons_of_mem _ (List.mem_cons_of_mem _ (List.mem_cons_of_mem _ (List.mem_cons_of_mem _ (List.mem_cons_of_mem _ (List.mem_cons_of_mem _ (List.mem_cons_of_mem _ (List.mem_cons_of_mem _ (List.mem_cons_of_mem _ List.mem_cons_self)))))))))
  have g10 : 0 ≤ ((-125) : Int) + (1 * a1 + 0) := hg _ (List.mem_cons_of_mem _ (List.mem_cons_of_mem _ (List.mem_cons_of_mem _ (List.mem_cons_of_mem _ (List.mem_cons_of_mem _ (List.mem_cons_of_mem _ (List.mem_cons_of_mem _ (List.mem_cons_of_mem _ (List.mem_cons_of_mem _ (List.mem_cons_of_mem _ List.mem_cons_self))))))))))
  have hp := (zn_85 (w := w) (j := a0) (n := a1) (k := a2) (m := a3) (a := a4) (b := a5) (by omega) (by omega) (by omega) (by omega) (by omega) (by omega) (by omega) (by omega) (by omega) (by omega) ).mp (by omega)
  have hn := (zn_84' (w := w) (j := a6) (by omega) (by omega)).mp (by omega)
  have xa := zn_82 (w := w) (i := a1) (j := a7) (by omega)
  have xb := zn_83 (w := w) (i := a1) (j := a8) (by omega)
  have xt := zn_nt (w := w) (i := a2) (j := a9) (by omega)
  rw [show a6 = a1 by omega] at hn
  have h : zs_nm (zn_l w' 173) (zn_l w' 174) (zh_e w' 175) (a1 + 1) := by
    rw [zn_l_g (hw.1 173 (by decide)), zn_l_g (hw.1 174 (by decide))]
    refine zs_nm1 (T := zh_e w 175) (k := a2) (m := a3) (a := a4) (b := a5) hn hp (by omega) (by omega) (by omega) ?_ (fun i i0 i1 => hw.2 i i0 (by omega)) (by omega) (Or.inl (by omega))
    rw [show a2 = j by omega]
    show zk_el w' 175 j = a1 + 1
    omega
  exact (zx_eF1 (by show 0 ≤ (1 : Int) + (1 * a1 + 0); omega) (by show zk_xe w' 2000084 ((1 : Int) + (1 * a1 + 0)) = (1 : Int) + (0); rw [show (1 : Int) + (1 * a1 + 0) = (a1 + 1) by omega]; exact ((zn_84' (w := w') (j := a1 + 1) (by omega) (by omega)).mpr h).trans (by omega)) zx_eF0)
def zx_E581 : zx_V := zx_Vc 175 [] 11 [(2000085, 0), (2000084, 6), (2000082, 7), (2000083, 8), (175, 9), (2000086, 10)] [((0, 803469022129495137814537189136461424584413446642662748717056), [(2, 1, 0), (3, 0, 1), (4, 0, 4294967296), (5, 0, 4503599627370496), (6, 0, 4722366482869645213696), (7, 0, 87112285931760246646623899502532662132736)]), ((0, 0), [(3, 0, 1), (8, 1, 0)]), ((0, 0), [(3, 0, 1), (9, 1, 0)]), ((0, 0), [(3, 0, 1), (10, 1, 0)]), ((0, 0), [(4, 0, 1), (11, 1, 0)]), ((0, 0), [(0, 1, 0), (4, 0, 1)]), ((0, 1), [(1, 1, 0), (3, 0, 1)]), ((0, 1), [(13, 1, 0)]), ((0, 1), [(14, 1, 0)]), ((0, 0), [(6, 0, 1), (15, 1, 0)]), ((0, 0), [(7, 0, 1), (16, 1, 0)]), ((0, 0), [(17, 1, 0)]), ((0, 1), [(18, 1, 0)]), ((0, 730750818665451459141456497615273678624738246656), [(3, 0, 1), (6, 0, 4294967296), (7, 0, 79228162514264337593543950336), (12, 1, 0)])] [((0, 0), [(3, 1, 0)]), ((4294967293, 0), [(3, 0, 1)]), ((0, 0), [(4, 1, 0)]), ((1048575, 0), [(4, 0, 1)]), ((0, 0), [(5, 1, 0)]), ((1048575, 0), [(5, 0, 1)]), ((9223372036854775808, 0), [(6, 1, 0)]), ((9223372036854775807, 0), [(6, 0, 1)]), ((9223372036854775808, 0), [(7, 1, 0)]), ((9223372036854775807, 0), [(7, 0, 1)])] [(2000084, ((1, 0), [(3, 1, 0)]), ((1, 0), []))]
theorem zx_E581_ok {PT : Nat → zz_W → Prop} : zx_Vok 64 zHT PT zx_E581 := by
  refine zx_Vc_ok (fun w w' j ins hI hI' h0 hw hK hl he hg => ?_)
  obtain ⟨a0, a1, a2, a3, a4, a5, a6, a7, a8, a9, a10, rfl⟩ := zx_i11 hl
  have e0 : ((-803469022129495137814537189136461424584413446642662748717056) : Int) + (1 * a0 + ((-1) * a1 + ((-4294967296) * a2 + ((-4503599627370496) * a3 + ((-4722366482869645213696) * a4 + ((-87112285931760246646623899502532662132736) * a5 + 0)))))) = 0 := he _ List.mem_cons_self
  have e1 : (0 : Int) + ((-1) * a1 + (1 * a6 + 0)) = 0 := he _ (List.mem_cons_of_mem _ List.mem_cons_self)
  have e2 : (0 : Int) + ((-1) * a1 + (1 * a7 + 0)) = 0 := he _ (List.mem_cons_of_mem _ (List.mem_cons_of_mem _ List.mem_cons_self))
  have e3 : (0 : Int) + ((-1) * a1 + (1 * a8 + 0)) = 0 := he _ (List.mem_cons_of_mem _ (List.mem_cons_of_mem _ (List.mem_cons_of_mem _ List.mem_cons_self)))
  have e4 : (0 : Int) + ((-1) * a2 + (1 * a9 + 0)) = 0 := he _ (List.mem_cons_of_mem _ (List.mem_cons_of_mem _ (List.mem_cons_of_mem _ (List.mem_cons_of_mem _ List.mem_cons_self))))
  have e5 : (0 : Int) + (1 * j + ((-1) * a2 + 0)) = 0 := he _ (List.mem_cons_of_mem _ (List.mem_cons_of_mem _ (List.mem_cons_of_mem _ (List.mem_cons_of_mem _ (List.mem_cons_of_mem _ List.mem_cons_self)))))
  have e6 : ((-1) : Int) + (1 * (zk_el w' 175 j) + ((-1) * a1 + 0)) = 0 := he _ (List.mem_cons_of_mem _ (List.mem_cons_of_mem _ (List.mem_cons_of_mem _ (List.mem_cons_of_mem _ (List.mem_cons_of_mem _ (List.mem_cons_of_mem _ List.mem_cons_self))))))
  have e7 : ((-1) : Int) + (1 * (zk_xe w 2000085 a0) + 0) = 0 := he _ (List.mem_cons_of_mem _ (List.mem_cons_of_mem _ (List.mem_cons_of_mem _ (List.mem_cons_of_mem _ (List.mem_cons_of_mem _ (List.mem_cons_of_mem _ (List.mem_cons_of_mem _ List.mem_cons_self)))))))
  have e8 : ((-1) : Int) + (1 * (zk_xe w 2000084 a6) + 0) = 0 := he _ (List.mem_cons_of_mem _ (List.mem_cons_of_mem _ (List.mem_cons_of_mem _ (List.mem_cons_of_mem _ (List.mem_cons_of_mem _ (List.mem_cons_of_mem _ (List.mem_cons_of_mem _ (List.mem_cons_of_mem _ List.mem_cons_self))))))))
  have e9 : (0 : Int) + ((-1) * a4 + (1 * (zk_xe w 2000082 a7) + 0)) = 0 := he _ (List.mem_cons_of_mem _ (List.mem_cons_of_mem _ (List.mem_cons_of_mem _ (List.mem_cons_of_mem _ (List.mem_cons_of_mem _ (List.mem_cons_of_mem _ (List.mem_cons_of_mem _ (List.mem_cons_of_mem _ (List.mem_cons_of_mem _ List.mem_cons_self)))))))))
  have e10 : (0 : Int) + ((-1) * a5 + (1 * (zk_xe w 2000083 a8) + 0)) = 0 := he _ (List.mem_cons_of_mem _ (List.mem_cons_of_mem _ (List.mem_cons_of_mem _ (List.mem_cons_of_mem _ (List.mem_cons_of_mem _ (List.mem_cons_of_mem _ (List.mem_cons_of_mem _ (List.mem_cons_of_mem _ (List.mem_cons_of_mem _ (List.mem_cons_of_mem _ List.mem_cons_self))))))))))
  have e11 : (0 : Int) + (1 * (zk_xe w 175 a9) + 0) = 0 := he _ (List.mem_cons_of_mem _ (List.mem_cons_of_mem _ (List.mem_cons_of_mem _ (List.mem_cons_of_mem _ (List.mem_cons_of_mem _ (List.mem_cons_of_mem _ (List.mem_cons_of_mem _ (List.mem_cons_of_mem _ (List.mem_cons_of_mem _ (List.mem_cons_of_mem _ (List.mem_cons_of_mem _ List.mem_cons_self)))))))))))
  have e12 : ((-1) : Int) + (1 * (zk_xe w 2000086 a10) + 0) = 0 := he _ (List.mem_cons_of_mem _ (List.mem_cons_of_mem _ (List.mem_cons_of_mem _ (List.mem_cons_of_mem _ (List.mem_cons_of_mem _ (List.mem_cons_of_mem _ (List.mem_cons_of_mem _ (List.mem_cons_of_mem _ (List.mem_cons_of_mem _ (List.mem_cons_of_mem _ (List.mem_cons_of_mem _ (List.mem_cons_of_mem _ List.mem_cons_self))))))))))))
  have e13 : ((-730750818665451459141456497615273678624738246656) : Int) + ((-1) * a1 + ((-4294967296) * a4 + ((-79228162514264337593543950336) * a5 + (1 * a10 + 0)))) = 0 := he _ (List.mem_cons_of_mem _ (List.mem_cons_of_mem _ (List.mem_cons_of_mem _ (List.mem_cons_of_mem _ (List.mem_cons_of_mem _ (List.mem_cons_of_mem _ (List.mem_cons_of_mem _ (List.mem_cons_of_mem _ (List.mem_cons_of_mem _ (List.mem_cons_of_mem _ (List.mem_cons_of_mem _ (List.mem_cons_of_mem _ (List.mem_cons_of_mem _ List.mem_cons_self)))))))))))))
  have g0 : 0 ≤ (0 : Int) + (1 * a1 + 0) := hg _ List.mem_cons_self
  have g1 : 0 ≤ (4294967293 : Int) + ((-1) * a1 + 0) := hg _ (List.mem_cons_of_mem _ List.mem_cons_self)
  have g2 : 0 ≤ (0 : Int) + (1 * a2 + 0) := hg _ (List.mem_cons_of_mem _ (List.mem_cons_of_mem _ List.mem_cons_self))
  have g3 : 0 ≤ (1048575 : Int) + ((-1) * a2 + 0) := hg _ (List.mem_cons_of_mem _ (List.mem_cons_of_mem _ (List.mem_cons_of_mem _ List.mem_cons_self)))
  have g4 : 0 ≤ (0 : Int) + (1 * a3 + 0) := hg _ (List.mem_cons_of_mem _ (List.mem_cons_of_mem _ (List.mem_cons_of_mem _ (List.mem_cons_of_mem _ List.mem_cons_self))))
  have g5 : 0 ≤ (1048575 : Int) + ((-1) * a3 + 0) := hg _ (List.mem_cons_of_mem _ (List.mem_cons_of_mem _ (List.mem_cons_of_mem _ (List.mem_cons_of_mem _ (List.mem_cons_of_mem _ List.mem_cons_self)))))
  have g6 : 0 ≤ (9223372036854775808 : Int) + (1 * a4 + 0) := hg _ (List.mem_cons_of_mem _ (List.mem_cons_of_mem _ (List.mem_cons_of_mem _ (List.mem_cons_of_mem _ (List.mem_cons_of_mem _ (List.mem_cons_of_mem _ List.mem_cons_self))))))
  have g7 : 0 ≤ (9223372036854775807 : Int) + ((-1) * a4 + 0) := hg _ (List.mem_cons_of_mem _ (List.mem_cons_of_mem _ (List.mem_cons_of_mem _ (List.mem_cons_of_mem _ (List.mem_cons_of_mem _ (List.mem_cons_of_mem _ (List.mem_cons_of_mem _ List.mem_cons_self)))))))
  have g8 : 0 ≤ (9223372036854775808 : Int) + (1 * a5 + 0) := hg _ (List.mem_cons_of_mem _ (List.mem_cons_of_mem _ (List.mem_cons_of_mem _ (List.mem_cons_of_mem _ (List.mem_cons_of_mem _ (List.mem_cons_of_mem _ (List.mem_cons_of_mem _ (List.mem_cons_of_mem _ List.mem_cons_self))))))))
  have g9 : 0 ≤ (9223372036854775807 : Int) + ((-1) * a5 + 0) := hg _ (List.mem_cons_of_mem _ (List.mem_cons_of_mem _ (List.mem_cons_of_mem _ (List.mem_cons_of_mem _ (List.mem_cons_of_mem _ (List.mem_cons_of_mem _ (List.mem_cons_of_mem _ (List.mem_cons_of_mem _ (List.mem_cons_of_mem _ List.mem_cons_self)))))))))
  have hp := (zn_85 (w := w) (j := a0) (n := a1) (k := a2) (m := a3) (a := a4) (b := a5) (by omega) (by omega) (by omega) (by omega) (by omega) (by omega) (by omega) (by omega) (by omega) (by omega) ).mp (by omega)
  have hn := (zn_84' (w := w) (j := a6) (by omega) (by omega)).mp (by omega)
  have xa := zn_82 (w := w) (i := a1) (j := a7) (by omega)
  have xb := zn_83 (w := w) (i := a1) (j := a8) (by omega)
  have xt := zn_nt (w := w) (i := a2) (j := a9) (by omega)
  rw [show a6 = a1 by omega] at hn
  have h : zs_nm (zn_l w' 173) (zn_l w' 174) (zh_e w' 175) (a1 + 1) := by
    rw [zn_l_g (hw.1 173 (by decide)), zn_l_g (hw.1 174 (by decide))]
    refine zs_nm1 (T := zh_e w 175) (k := a2) (m := a3) (a := a4) (b := a5) hn hp (by omega) (by omega) (by omega) ?_ (fun i i0 i1 => hw.2 i i0 (by omega)) (by omega) (Or.inr ((zn_86 (w := w) (j := a10) (n := a1) (a := a4) (b := a5) (by omega) (by omega) (by omega) (by omega) (by omega) (by omega) ).mp (by omega)))
    rw [show a2 = j by omega]
    show zk_el w' 175 j = a1 + 1
    omega
  exact (zx_eF1 (by show 0 ≤ (1 : Int) + (1 * a1 + 0); omega) (by show zk_xe w' 2000084 ((1 : Int) + (1 * a1 + 0)) = (1 : Int) + (0); rw [show (1 : Int) + (1 * a1 + 0) = (a1 + 1) by omega]; exact ((zn_84' (w := w') (j := a1 + 1) (by omega) (by omega)).mpr h).trans (by omega)) zx_eF0)
/-- plain names (functions 88 to 91) -/
theorem zp_kb : ∀ {n : Nat} {a : Int}, zp_k n a → 0 ≤ a ∧ a < 256 ^ n
  | 0, a, h => by
    have h : a = 0 := h
    rw [h]
    decide
  | n + 1, a, h => by
    obtain ⟨b, c, h1, h2, h3⟩ := h
    obtain ⟨q1, q2⟩ := zp_kb h1
    have hP : (0 : Int) ≤ 256 ^ n := Int.pow_nonneg (by decide)
    have hS : (256 : Int) ^ (n + 1) = 256 ^ n * 256 := Int.pow_succ 256 n
    rw [hS]
    generalize (256 : Int) ^ n = P at q2 hP h3
    unfold zp_ch at h2
    have e1 : 0 ≤ c * P := Int.mul_nonneg (by omega) hP
    have e2 : c * P ≤ 122 * P := Int.mul_le_mul_of_nonneg_right (by omega) hP
    omega
theorem zp_256 (n : Nat) : ((2 ^ (8 * n) : Nat) : Int) = 256 ^ n := by
  rw [Nat.pow_mul, Int.natCast_pow]
  rfl
theorem zp_256le {n : Nat} (h : n ≤ 7) : (256 : Int) ^ n ≤ 72057594037927936 := by
  have h1 : (256 : Nat) ^ n ≤ 256 ^ 7 := Nat.pow_le_pow_right (by decide) h
  have h2 : ((256 ^ n : Nat) : Int) = (256 : Int) ^ n := Int.natCast_pow 256 n
  rw [← h2]
  have h3 : (256 : Nat) ^ 7 = 72057594037927936 := by decide
  omega
theorem zn_shl {c : Int} {n : Nat} (h0 : 0 ≤ c) (h1 : c ≤ 127) (hn : n ≤ 7) : zn_op 5 c (8 * (n : Int)) = c * 256 ^ n := by
  show (Int64.ofInt c <<< ((Int32.ofInt (8 * (n : Int))).toInt64 &&& 63)).toInt = _
  have e1 : Int32.ofInt (8 * (n : Int)) = Int32.ofNat (8 * n) := by
    rw [← Int32.ofInt_eq_ofNat]
    congr 1
  have e2 : (Int64.ofInt c).toInt = c := Int64.toInt_ofInt_of_le (by omega) (by omega)
  have hP := zp_256le hn
  have h0P : (0 : Int) ≤ 256 ^ n := Int.pow_nonneg (by decide)
  have e3 : (256 : Int) ^ n * c ≤ 72057594037927936 * 127 := Int.mul_le_mul hP h1 h0 (by decide)
  rw [e1, zk_lshl (k := 8 * n) (m := 2 ^ (8 * n)) (by omega) rfl (by rw [e2]; exact h0) (by rw [e2, zp_256]; omega), e2, zp_256, Int.mul_comm]
theorem zn_lor {a s c : Int} {n : Nat} (hs : s = c * 256 ^ n) (h0 : 0 ≤ c) (h1 : c ≤ 127) (hn : n ≤ 7) (a0 : 0 ≤ a) (a1 : a < 256 ^ n) : zn_op 3 a s = a + s := by
  show (Int64.ofInt a ||| Int64.ofInt s).toInt = a + s
  have hP := zp_256le hn
  have h0P : (0 : Int) ≤ 256 ^ n := Int.pow_nonneg (by decide)
  have hsb : s ≤ 127 * 72057594037927936 := by
    rw [hs]
    exact Int.mul_le_mul h1 hP h0P (by decide)
  have hs0 : 0 ≤ s := by
    rw [hs]
    exact Int.mul_nonneg h0 h0P
  have ea : (Int64.ofInt a).toInt = a := Int64.toInt_ofInt_of_le (by omega) (by omega)
  have es : (Int64.ofInt s).toInt = s := Int64.toInt_ofInt_of_le (by omega) (by omega)
  have hc : Int64.ofInt a ||| Int64.ofInt s = Int64.ofInt s ||| Int64.ofInt a := by
    apply Int64.toBitVec_inj.mp
    show (Int64.ofInt a).toBitVec ||| (Int64.ofInt s).toBitVec = (Int64.ofInt s).toBitVec ||| (Int64.ofInt a).toBitVec
    exact BitVec.or_comm _ _
  have hd : zz_nL (Int64.ofInt s) % 2 ^ (8 * n) = 0 := by
    have h2 := zk_nL0 (x := Int64.ofInt s) (by rw [es]; exact hs0)
    rw [es] at h2
    have h2 := h2.trans hs
    rw [← zp_256] at h2
    have h3 : zz_nL (Int64.ofInt s) = c.toNat * 2 ^ (8 * n) := by
      have h4 : ((c.toNat : Nat) : Int) = c := by omega
      rw [← h4] at h2
      exact_mod_cast h2
    rw [h3, Nat.mul_mod_left]
  rw [hc, zk_lor_x (k := 8 * n) rfl (by rw [es]; exact hs0) hd (by rw [ea]; exact a0) (by rw [ea, zp_256]; exact a1) (by rw [ea, es]; omega), ea, es]
  omega
theorem zn_88 {w : zz_W} {j a n : Int} (e : j = a + 9223372036854775808 + 18446744073709551616 * n) (a0 : -9223372036854775808 ≤ a) (a1 : a < 9223372036854775808) (n0 : 0 ≤ n) : zk_xe w 2000088 j = 1 ↔ zp_k n.toNat a := by
  rw [show (2000088 : Nat) = 2000000 + 88 from rfl, zk_xe_h]
  have q1 : j / 18446744073709551616 = n := by omega
  have q2 : j % 18446744073709551616 - 9223372036854775808 = a := by omega
  have h : zv_H 88 w j = zh_b (zp_k n.toNat a) := by
    show zh_b (zp_k (j / 18446744073709551616).toNat (j % 18446744073709551616 - 9223372036854775808)) = _
    rw [q1, q2]
  rw [h]
  exact ⟨zh_b1', zh_b1⟩
theorem zn_89 {w : zz_W} {j n : Int} (e : j = n + 4294967297) (n0 : 0 ≤ n) (n1 : n < 4294967295) : zk_xe w 2000089 j = 1 ↔ zp_n (zn_l w 173 n) (zn_l w 174 n) := by
  rw [show (2000089 : Nat) = 2000000 + 89 from rfl, zk_xe_h]
  have q1 : j - 4294967297 = n := by omega
  have h : zv_H 89 w j = zh_b ((4294967297 ≤ j ∧ j < 8589934592) ∧ zp_n (zn_l w 173 n) (zn_l w 174 n)) := by
    show zh_b ((4294967297 ≤ j ∧ j < 8589934592) ∧ zp_n (zn_l w 173 (j - 4294967297)) (zn_l w 174 (j - 4294967297))) = _
    rw [q1]
  rw [h]
  exact ⟨fun h => (zh_b1' h).2, fun h => zh_b1 ⟨by omega, h⟩⟩
theorem zn_89b {w : zz_W} {j : Int} : zk_xe w 2000089 j = 0 ∨ zk_xe w 2000089 j = 1 := by
  rw [show (2000089 : Nat) = 2000000 + 89 from rfl, zk_xe_h]
  show zh_b ((4294967297 ≤ j ∧ j < 8589934592) ∧ zp_n (zn_l w 173 (j - 4294967297)) (zn_l w 174 (j - 4294967297))) = 0 ∨ zh_b ((4294967297 ≤ j ∧ j < 8589934592) ∧ zp_n (zn_l w 173 (j - 4294967297)) (zn_l w 174 (j - 4294967297))) = 1
  by_cases h : (4294967297 ≤ j ∧ j < 8589934592) ∧ zp_n (zn_l w 173 (j - 4294967297)) (zn_l w 174 (j - 4294967297))
  · exact Or.inr (zh_b1 h)
  · exact Or.inl (zh_b0 h)
theorem zn_90 {w : zz_W} {j n t : Int} (e : j = n + 4294967296 * t) (n0 : 0 ≤ n) (n1 : n < 4294967296) : zk_xe w 2000090 j = 1 ↔ zp_tn (zn_l w 173) (zn_l w 174) (zh_e w 221) (zh_e w 223) n t := by
  rw [show (2000090 : Nat) = 2000000 + 90 from rfl, zk_xe_h]
  have q1 : j % 4294967296 = n := by omega
  have q2 : j / 4294967296 = t := by omega
  have h : zv_H 90 w j = zh_b (zp_tn (zn_l w 173) (zn_l w 174) (zh_e w 221) (zh_e w 223) n t) := by
    show zh_b (zp_tn (zn_l w 173) (zn_l w 174) (zh_e w 221) (zh_e w 223) (j % 4294967296) (j / 4294967296)) = _
    rw [q1, q2]
  rw [h]
  exact ⟨zh_b1', zh_b1⟩
theorem zn_91 {w : zz_W} {j n c f : Int} (e : j = n + 4294967296 * c + 18446744073709551616 * f) (n0 : 0 ≤ n) (n1 : n < 4294967296) (c0 : 0 ≤ c) (c1 : c < 4294967296) (f0 : 0 ≤ f) (f1 : f < 4294967296) : zk_xe w 2000091 j = 1 ↔ zp_pp (zn_l w 173) (zn_l w 174) (zh_e w 229) (zh_e w 239) (zh_e w 247) (zh_e w 233) n c f := by
  obtain ⟨d0, d1, d2⟩ := zg_d3 (j := j) (n := n) (k := c) (u := f) (by omega) n0 n1 c0 c1 f0 f1
  rw [show (2000091 : Nat) = 2000000 + 91 from rfl, zk_xe_h]
  have h : zv_H 91 w j = zh_b (zp_pp (zn_l w 173) (zn_l w 174) (zh_e w 229) (zh_e w 239) (zh_e w 247) (zh_e w 233) n c f) := by
    show zh_b (zp_pp (zn_l w 173) (zn_l w 174) (zh_e w 229) (zh_e w 239) (zh_e w 247) (zh_e w 233) (zv_dg 0 j) (zv_dg 1 j) (zv_dg 2 j)) = _
    rw [d0, d1, d2]
  rw [h]
  exact ⟨zh_b1', zh_b1⟩
def zx_D800 : zx_L := zx_Lc [] 1 [] [] [((0, 9223372036854775808), [(0, 1, 0)])] [] [([], [], [(2000088, ((0, 0), [(0, 1, 0)]), ((1, 0), []))], [])]
theorem zx_D800_ok {PT : Nat → zz_W → Prop} : zx_Lok 64 zHT PT zx_D800 := by
  refine zx_Lc_ok (fun w hI hK ins hl hr he hg => ?_)
  obtain ⟨a0, rfl⟩ := zx_i1 hl
  have e0 : ((-9223372036854775808) : Int) + (1 * a0 + 0) = 0 := he _ List.mem_cons_self
  have h : zp_k 0 0 := rfl
  exact ⟨_, List.mem_cons_self, [], rfl, zx_bnil, zx_cs0, (zx_eF1 (by show 0 ≤ (0 : Int) + (1 * a0 + 0); omega) (by show zk_xe w 2000088 ((0 : Int) + (1 * a0 + 0)) = (1 : Int) + (0); rw [show (0 : Int) + (1 * a0 + 0) = a0 by omega]; exact ((zn_88 (w := w) (j := a0) (a := 0) (n := 0) (by omega) (by omega) (by omega) (by omega) ).mpr (h)).trans (by omega)) zx_eF0), zx_k0⟩
def zx_D801 : zx_L := zx_Lc [] 7 [(2000088, 0), (2000081, 3), (2000081, 4)] [] [((0, 9223372036854775808), [(0, 1, 0), (1, 0, 1), (2, 0, 18446744073709551616)]), ((0, 1), [(7, 1, 0)]), ((0, 2722258935367507707854570812043822104581), [(2, 0, 2361183241434822606848), (3, 1, 0), (5, 0, 16)]), ((0, 2722258935367507707854570812043822104579), [(1, 0, 16), (4, 1, 0), (8, 0, 295147905179352825856)]), ((0, 27670116110564327424), [(2, 0, 18446744073709551616), (6, 1, 0), (9, 0, 1)])] [((9223372036854775808, 0), [(1, 1, 0)]), ((9223372036854775807, 0), [(1, 0, 1)]), ((0, 0), [(2, 1, 0)]), ((7, 0), [(2, 0, 1)]), ((0, 48), [(5, 1, 0)]), ((57, 0), [(5, 0, 1)])] [([], [], [(2000088, ((0, 0), [(6, 1, 0)]), ((1, 0), []))], [])]
theorem zx_D801_ok {PT : Nat → zz_W → Prop} : zx_Lok 64 zHT PT zx_D801 := by
  refine zx_Lc_ok (fun w hI hK ins hl hr he hg => ?_)
  obtain ⟨a0, a1, a2, a3, a4, a5, a6, rfl⟩ := zx_i7 hl
  have e0 : ((-9223372036854775808) : Int) + (1 * a0 + ((-1) * a1 + ((-18446744073709551616) * a2 + 0))) = 0 := he _ List.mem_cons_self
  have e1 : ((-1) : Int) + (1 * (zk_xe w 2000088 a0) + 0) = 0 := he _ (List.mem_cons_of_mem _ List.mem_cons_self)
  have e2 : ((-2722258935367507707854570812043822104581) : Int) + ((-2361183241434822606848) * a2 + (1 * a3 + ((-16) * a5 + 0))) = 0 := he _ (List.mem_cons_of_mem _ (List.mem_cons_of_mem _ List.mem_cons_self))
  have e3 : ((-2722258935367507707854570812043822104579) : Int) + ((-16) * a1 + (1 * a4 + ((-295147905179352825856) * (zk_xe w 2000081 a3) + 0))) = 0 := he _ (List.mem_cons_of_mem _ (List.mem_cons_of_mem _ (List.mem_cons_of_mem _ List.mem_cons_self)))
  have e4 : ((-27670116110564327424) : Int) + ((-18446744073709551616) * a2 + (1 * a6 + ((-1) * (zk_xe w 2000081 a4) + 0))) = 0 := he _ (List.mem_cons_of_mem _ (List.mem_cons_of_mem _ (List.mem_cons_of_mem _ (List.mem_cons_of_mem _ List.mem_cons_self))))
  have g0 : 0 ≤ (9223372036854775808 : Int) + (1 * a1 + 0) := hg _ List.mem_cons_self
  have g1 : 0 ≤ (9223372036854775807 : Int) + ((-1) * a1 + 0) := hg _ (List.mem_cons_of_mem _ List.mem_cons_self)
  have g2 : 0 ≤ (0 : Int) + (1 * a2 + 0) := hg _ (List.mem_cons_of_mem _ (List.mem_cons_of_mem _ List.mem_cons_self))
  have g3 : 0 ≤ (7 : Int) + ((-1) * a2 + 0) := hg _ (List.mem_cons_of_mem _ (List.mem_cons_of_mem _ (List.mem_cons_of_mem _ List.mem_cons_self)))
  have g4 : 0 ≤ ((-48) : Int) + (1 * a5 + 0) := hg _ (List.mem_cons_of_mem _ (List.mem_cons_of_mem _ (List.mem_cons_of_mem _ (List.mem_cons_of_mem _ List.mem_cons_self))))
  have g5 : 0 ≤ (57 : Int) + ((-1) * a5 + 0) := hg _ (List.mem_cons_of_mem _ (List.mem_cons_of_mem _ (List.mem_cons_of_mem _ (List.mem_cons_of_mem _ (List.mem_cons_of_mem _ List.mem_cons_self)))))
  have r0 : 0 ≤ a0 := hr _ List.mem_cons_self
  have r1 : 0 ≤ a3 := hr _ (List.mem_cons_of_mem _ List.mem_cons_self)
  have r2 : 0 ≤ a4 := hr _ (List.mem_cons_of_mem _ (List.mem_cons_of_mem _ List.mem_cons_self))
  have hp := (zn_88 (w := w) (j := a0) (a := a1) (n := a2) (by omega) (by omega) (by omega) (by omega) ).mp (by omega)
  obtain ⟨k, rfl⟩ : ∃ k : Nat, a2 = (k : Int) := ⟨a2.toNat, by omega⟩
  rw [Int.toNat_natCast] at hp
  have hb := zp_kb hp
  obtain ⟨v, hv⟩ : ∃ v, zk_xe w 2000081 a3 = v := ⟨_, rfl⟩
  obtain ⟨r, hr⟩ : ∃ r, zk_xe w 2000081 a4 = r := ⟨_, rfl⟩
  rw [hv] at e3
  rw [hr] at e4
  have v1 : v = zn_op 5 a5 (8 * (k : Int)) := hv.symm.trans (zn_oc_at (x := a5) (y := 8 * (k : Int)) (by decide) (by omega) (by omega) (by omega) (by omega))
  rw [zn_shl (by omega) (by omega) (by omega)] at v1
  have q1 := zn_op_r (o := 3) (x := a1) (y := v)
  have hP := zp_256le (n := k) (by omega)
  have h0P : (0 : Int) ≤ 256 ^ k := Int.pow_nonneg (by decide)
  have hsb : a5 * 256 ^ k ≤ 127 * 72057594037927936 := Int.mul_le_mul (by omega) hP h0P (by decide)
  have hs0 : 0 ≤ a5 * 256 ^ k := Int.mul_nonneg (by omega) h0P
  rw [← v1] at hsb hs0
  have v2 : r = zn_op 3 a1 v := hr.symm.trans (zn_oc_at (x := a1) (y := v) (by decide) (by omega) (by omega) (by omega) (by omega))
  rw [← v2] at q1
  rw [zn_lor v1 (by omega) (by omega) (by omega) hb.1 hb.2, v1] at v2
  have h : zp_k ((k : Int) + 1).toNat r := by
    rw [show ((k : Int) + 1).toNat = k + 1 by omega]
    exact ⟨a1, a5, hp, by unfold zp_ch; omega, v2⟩
  clear v1 v2 hv hr hsb hs0 hP h0P hb
  exact ⟨_, List.mem_cons_self, [], rfl, zx_bnil, zx_cs0, (zx_eF1 (by show 0 ≤ (0 : Int) + (1 * a6 + 0); omega) (by show zk_xe w 2000088 ((0 : Int) + (1 * a6 + 0)) = (1 : Int) + (0); rw [show (0 : Int) + (1 * a6 + 0) = a6 by omega]; exact ((zn_88 (w := w) (j := a6) (a := r) (n := ((k : Int) + 1)) (by omega) (by omega) (by omega) (by omega) ).mpr (h)).trans (by omega)) zx_eF0), zx_k0⟩
def zx_D802 : zx_L := zx_Lc [] 7 [(2000088, 0), (2000081, 3), (2000081, 4)] [] [((0, 9223372036854775808), [(0, 1, 0), (1, 0, 1), (2, 0, 18446744073709551616)]), ((0, 1), [(7, 1, 0)]), ((0, 2722258935367507707854570812043822104581), [(2, 0, 2361183241434822606848), (3, 1, 0), (5, 0, 16)]), ((0, 2722258935367507707854570812043822104579), [(1, 0, 16), (4, 1, 0), (8, 0, 295147905179352825856)]), ((0, 27670116110564327424), [(2, 0, 18446744073709551616), (6, 1, 0), (9, 0, 1)])] [((9223372036854775808, 0), [(1, 1, 0)]), ((9223372036854775807, 0), [(1, 0, 1)]), ((0, 0), [(2, 1, 0)]), ((7, 0), [(2, 0, 1)]), ((0, 97), [(5, 1, 0)]), ((122, 0), [(5, 0, 1)])] [([], [], [(2000088, ((0, 0), [(6, 1, 0)]), ((1, 0), []))], [])]
theorem zx_D802_ok {PT : Nat → zz_W → Prop} : zx_Lok 64 zHT PT zx_D802 := by
  refine zx_Lc_ok (fun w hI hK ins hl hr he hg => ?_)
  obtain ⟨a0, a1, a2, a3, a4, a5, a6, rfl⟩ := zx_i7 hl
  have e0 : ((-9223372036854775808) : Int) + (1 * a0 + ((-1) * a1 + ((-18446744073709551616) * a2 + 0))) = 0 := he _ List.mem_cons_self
  have e1 : ((-1) : Int) + (1 * (zk_xe w 2000088 a0) + 0) = 0 := he _ (List.mem_cons_of_mem _ List.mem_cons_self)
  have e2 : ((-2722258935367507707854570812043822104581) : Int) + ((-2361183241434822606848) * a2 + (1 * a3 + ((-16) * a5 + 0))) = 0 := he _ (List.mem_cons_of_mem _ (List.mem_cons_of_mem _ List.mem_cons_self))
  have e3 : ((-2722258935367507707854570812043822104579) : Int) + ((-16) * a1 + (1 * a4 + ((-295147905179352825856) * (zk_xe w 2000081 a3) + 0))) = 0 := he _ (List.mem_cons_of_mem _ (List.mem_cons_of_mem _ (List.mem_cons_of_mem _ List.mem_cons_self)))
  have e4 : ((-27670116110564327424) : Int) + ((-18446744073709551616) * a2 + (1 * a6 + ((-1) * (zk_xe w 2000081 a4) + 0))) = 0 := he _ (List.mem_cons_of_mem _ (List.mem_cons_of_mem _ (List.mem_cons_of_mem _ (List.mem_cons_of_mem _ List.mem_cons_self))))
  have g0 : 0 ≤ (9223372036854775808 : Int) + (1 * a1 + 0) := hg _ List.mem_cons_self
  have g1 : 0 ≤ (9223372036854775807 : Int) + ((-1) * a1 + 0) := hg _ (List.mem_cons_of_mem _ List.mem_cons_self)
  have g2 : 0 ≤ (0 : Int) + (1 * a2 + 0) := hg _ (List.mem_cons_of_mem _ (List.mem_cons_of_mem _ List.mem_cons_self))
  have g3 : 0 ≤ (7 : Int) + ((-1) * a2 + 0) := hg _ (List.mem_cons_of_mem _ (List.mem_cons_of_mem _ (List.mem_cons_of_mem _ List.mem_cons_self)))
  have g4 : 0 ≤ ((-97) : Int) + (1 * a5 + 0) := hg _ (List.mem_cons_of_mem _ (List.mem_cons_of_mem _ (List.mem_cons_of_mem _ (List.mem_cons_of_mem _ List.mem_cons_self))))
  have g5 : 0 ≤ (122 : Int) + ((-1) * a5 + 0) := hg _ (List.mem_cons_of_mem _ (List.mem_cons_of_mem _ (List.mem_cons_of_mem _ (List.mem_cons_of_mem _ (List.mem_cons_of_mem _ List.mem_cons_self)))))
  have r0 : 0 ≤ a0 := hr _ List.mem_cons_self
  have r1 : 0 ≤ a3 := hr _ (List.mem_cons_of_mem _ List.mem_cons_self)
  have r2 : 0 ≤ a4 := hr _ (List.mem_cons_of_mem _ (List.mem_cons_of_mem _ List.mem_cons_self))
  have hp := (zn_88 (w := w) (j := a0) (a := a1) (n := a2) (by omega) (by omega) (by omega) (by omega) ).mp (by omega)
  obtain ⟨k, rfl⟩ : ∃ k : Nat, a2 = (k : Int) := ⟨a2.toNat, by omega⟩
  rw [Int.toNat_natCast] at hp
  have hb := zp_kb hp
  obtain ⟨v, hv⟩ : ∃ v, zk_xe w 2000081 a3 = v := ⟨_, rfl⟩
  obtain ⟨r, hr⟩ : ∃ r, zk_xe w 2000081 a4 = r := ⟨_, rfl⟩
  rw [hv] at e3
  rw [hr] at e4
  have v1 : v = zn_op 5 a5 (8 * (k : Int)) := hv.symm.trans (zn_oc_at (x := a5) (y := 8 * (k : Int)) (by decide) (by omega) (by omega) (by omega) (by omega))
  rw [zn_shl (by omega) (by omega) (by omega)] at v1
  have q1 := zn_op_r (o := 3) (x := a1) (y := v)
  have hP := zp_256le (n := k) (by omega)
  have h0P : (0 : Int) ≤ 256 ^ k := Int.pow_nonneg (by decide)
  have hsb : a5 * 256 ^ k ≤ 127 * 72057594037927936 := Int.mul_le_mul (by omega) hP h0P (by decide)
  have hs0 : 0 ≤ a5 * 256 ^ k := Int.mul_nonneg (by omega) h0P
  rw [← v1] at hsb hs0
  have v2 : r = zn_op 3 a1 v := hr.symm.trans (zn_oc_at (x := a1) (y := v) (by decide) (by omega) (by omega) (by omega) (by omega))
  rw [← v2] at q1
  rw [zn_lor v1 (by omega) (by omega) (by omega) hb.1 hb.2, v1] at v2
  have h : zp_k ((k : Int) + 1).toNat r := by
    rw [show ((k : Int) + 1).toNat = k + 1 by omega]
    exact ⟨a1, a5, hp, by unfold zp_ch; omega, v2⟩
  clear v1 v2 hv hr hsb hs0 hP h0P hb
  exact ⟨_, List.mem_cons_self, [], rfl, zx_bnil, zx_cs0, (zx_eF1 (by show 0 ≤ (0 : Int) + (1 * a6 + 0); omega) (by show zk_xe w 2000088 ((0 : Int) + (1 * a6 + 0)) = (1 : Int) + (0); rw [show (0 : Int) + (1 * a6 + 0) = a6 by omega]; exact ((zn_88 (w := w) (j := a6) (a := r) (n := ((k : Int) + 1)) (by omega) (by omega) (by omega) (by omega) ).mpr (h)).trans (by omega)) zx_eF0), zx_k0⟩
def zx_D803 : zx_L := zx_Lc [] 6 [(2000088, 0), (2000082, 4), (2000083, 5)] [] [((0, 9223372036854775808), [(0, 1, 0), (1, 0, 1), (2, 0, 18446744073709551616)]), ((0, 1), [(6, 1, 0)]), ((0, 4294967297), [(3, 1, 0), (4, 0, 1)]), ((0, 0), [(4, 0, 1), (5, 1, 0)]), ((0, 0), [(1, 0, 1), (7, 1, 0)]), ((0, 0), [(8, 1, 0)])] [((9223372036854775808, 0), [(1, 1, 0)]), ((9223372036854775807, 0), [(1, 0, 1)]), ((0, 1), [(2, 1, 0)]), ((8, 0), [(2, 0, 1)]), ((0, 0), [(4, 1, 0)]), ((4294967293, 0), [(4, 0, 1)])] [([], [], [(2000089, ((0, 0), [(3, 1, 0)]), ((1, 0), []))], [])]
theorem zx_D803_ok {PT : Nat → zz_W → Prop} : zx_Lok 64 zHT PT zx_D803 := by
  refine zx_Lc_ok (fun w hI hK ins hl hr he hg => ?_)
  obtain ⟨a0, a1, a2, a3, a4, a5, rfl⟩ := zx_i6 hl
  have e0 : ((-9223372036854775808) : Int) + (1 * a0 + ((-1) * a1 + ((-18446744073709551616) * a2 + 0))) = 0 := he _ List.mem_cons_self
  have e1 : ((-1) : Int) + (1 * (zk_xe w 2000088 a0) + 0) = 0 := he _ (List.mem_cons_of_mem _ List.mem_cons_self)
  have e2 : ((-4294967297) : Int) + (1 * a3 + ((-1) * a4 + 0)) = 0 := he _ (List.mem_cons_of_mem _ (List.mem_cons_of_mem _ List.mem_cons_self))
  have e3 : (0 : Int) + ((-1) * a4 + (1 * a5 + 0)) = 0 := he _ (List.mem_cons_of_mem _ (List.mem_cons_of_mem _ (List.mem_cons_of_mem _ List.mem_cons_self)))
  have e4 : (0 : Int) + ((-1) * a1 + (1 * (zk_xe w 2000082 a4) + 0)) = 0 := he _ (List.mem_cons_of_mem _ (List.mem_cons_of_mem _ (List.mem_cons_of_mem _ (List.mem_cons_of_mem _ List.mem_cons_self))))
  have e5 : (0 : Int) + (1 * (zk_xe w 2000083 a5) + 0) = 0 := he _ (List.mem_cons_of_mem _ (List.mem_cons_of_mem _ (List.mem_cons_of_mem _ (List.mem_cons_of_mem _ (List.mem_cons_of_mem _ List.mem_cons_self)))))
  have g0 : 0 ≤ (9223372036854775808 : Int) + (1 * a1 + 0) := hg _ List.mem_cons_self
  have g1 : 0 ≤ (9223372036854775807 : Int) + ((-1) * a1 + 0) := hg _ (List.mem_cons_of_mem _ List.mem_cons_self)
  have g2 : 0 ≤ ((-1) : Int) + (1 * a2 + 0) := hg _ (List.mem_cons_of_mem _ (List.mem_cons_of_mem _ List.mem_cons_self))
  have g3 : 0 ≤ (8 : Int) + ((-1) * a2 + 0) := hg _ (List.mem_cons_of_mem _ (List.mem_cons_of_mem _ (List.mem_cons_of_mem _ List.mem_cons_self)))
  have g4 : 0 ≤ (0 : Int) + (1 * a4 + 0) := hg _ (List.mem_cons_of_mem _ (List.mem_cons_of_mem _ (List.mem_cons_of_mem _ (List.mem_cons_of_mem _ List.mem_cons_self))))
  have g5 : 0 ≤ (4294967293 : Int) + ((-1) * a4 + 0) := hg _ (List.mem_cons_of_mem _ (List.mem_cons_of_mem _ (List.mem_cons_of_mem _ (List.mem_cons_of_mem _ (List.mem_cons_of_mem _ List.mem_cons_self)))))
  have r0 : 0 ≤ a0 := hr _ List.mem_cons_self
  have r1 : 0 ≤ a4 := hr _ (List.mem_cons_of_mem _ List.mem_cons_self)
  have r2 : 0 ≤ a5 := hr _ (List.mem_cons_of_mem _ (List.mem_cons_of_mem _ List.mem_cons_self))
  have hp := (zn_88 (w := w) (j := a0) (a := a1) (n := a2) (by omega) (by omega) (by omega) (by omega) ).mp (by omega)
  have x1 := zn_82 (w := w) (i := a4) (j := a4) rfl
  have y1 := zn_83 (w := w) (i := a4) (j := a5) (by omega)
  have h : zp_n (zn_l w 173 a4) (zn_l w 174 a4) := by
    rw [← x1, ← y1]
    refine ⟨by omega, a2.toNat, by omega, by omega, ?_⟩
    rw [show zk_xe w 2000082 a4 = a1 by omega]
    exact hp
  exact ⟨_, List.mem_cons_self, [], rfl, zx_bnil, zx_cs0, (zx_eF1 (by show 0 ≤ (0 : Int) + (1 * a3 + 0); omega) (by show zk_xe w 2000089 ((0 : Int) + (1 * a3 + 0)) = (1 : Int) + (0); rw [show (0 : Int) + (1 * a3 + 0) = a3 by omega]; exact ((zn_89 (w := w) (j := a3) (n := a4) (by omega) (by omega) (by omega) ).mpr (h)).trans (by omega)) zx_eF0), zx_k0⟩
def zx_D810 : zx_L := zx_Lc [] 2 [] [] [((0, 0), [(0, 1, 0), (1, 0, 1)])] [((0, 0), [(1, 1, 0)]), ((4294967293, 0), [(1, 0, 1)])] [([], [], [(2000090, ((0, 0), [(0, 1, 0)]), ((1, 0), []))], [])]
theorem zx_D810_ok {PT : Nat → zz_W → Prop} : zx_Lok 64 zHT PT zx_D810 := by
  refine zx_Lc_ok (fun w hI hK ins hl hr he hg => ?_)
  obtain ⟨a0, a1, rfl⟩ := zx_i2 hl
  have e0 : (0 : Int) + (1 * a0 + ((-1) * a1 + 0)) = 0 := he _ List.mem_cons_self
  have g0 : 0 ≤ (0 : Int) + (1 * a1 + 0) := hg _ List.mem_cons_self
  have g1 : 0 ≤ (4294967293 : Int) + ((-1) * a1 + 0) := hg _ (List.mem_cons_of_mem _ List.mem_cons_self)
  have h : zp_tn (zn_l w 173) (zn_l w 174) (zh_e w 221) (zh_e w 223) a1 0 := fun i i0 i1 => by omega
  exact ⟨_, List.mem_cons_self, [], rfl, zx_bnil, zx_cs0, (zx_eF1 (by show 0 ≤ (0 : Int) + (1 * a0 + 0); omega) (by show zk_xe w 2000090 ((0 : Int) + (1 * a0 + 0)) = (1 : Int) + (0); rw [show (0 : Int) + (1 * a0 + 0) = a0 by omega]; exact ((zn_90 (w := w) (j := a0) (n := a1) (t := 0) (by omega) (by omega) (by omega) ).mpr (h)).trans (by omega)) zx_eF0), zx_k0⟩
def zx_D811 : zx_L := zx_Lc [] 6 [(2000090, 0), (221, 4), (223, 5)] [] [((0, 0), [(0, 1, 0), (1, 0, 1), (2, 0, 4294967296)]), ((0, 4294967296), [(1, 0, 1), (2, 0, 4294967296), (3, 1, 0)]), ((0, 1), [(6, 1, 0)]), ((0, 0), [(2, 0, 1), (4, 1, 0)]), ((0, 0), [(2, 0, 1), (5, 1, 0)])] [((0, 0), [(1, 1, 0)]), ((4294967293, 0), [(1, 0, 1)]), ((0, 0), [(2, 1, 0)]), ((4294967293, 0), [(2, 0, 1)]), ((0, 2), [(7, 1, 0)])] [([], [], [(2000090, ((0, 0), [(3, 1, 0)]), ((1, 0), []))], [])]
theorem zx_D811_ok {PT : Nat → zz_W → Prop} : zx_Lok 64 zHT PT zx_D811 := by
  refine zx_Lc_ok (fun w hI hK ins hl hr he hg => ?_)
  obtain ⟨a0, a1, a2, a3, a4, a5, rfl⟩ := zx_i6 hl
  have e0 : (0 : Int) + (1 * a0 + ((-1) * a1 + ((-4294967296) * a2 + 0))) = 0 := he _ List.mem_cons_self
  have e1 : ((-4294967296) : Int) + ((-1) * a1 + ((-4294967296) * a2 + (1 * a3 + 0))) = 0 := he _ (List.mem_cons_of_mem _ List.mem_cons_self)
  have e2 : ((-1) : Int) + (1 * (zk_xe w 2000090 a0) + 0) = 0 := he _ (List.mem_cons_of_mem _ (List.mem_cons_of_mem _ List.mem_cons_self))
  have e3 : (0 : Int) + ((-1) * a2 + (1 * a4 + 0)) = 0 := he _ (List.mem_cons_of_mem _ (List.mem_cons_of_mem _ (List.mem_cons_of_mem _ List.mem_cons_self)))
  have e4 : (0 : Int) + ((-1) * a2 + (1 * a5 + 0)) = 0 := he _ (List.mem_cons_of_mem _ (List.mem_cons_of_mem _ (List.mem_cons_of_mem _ (List.mem_cons_of_mem _ List.mem_cons_self))))
  have g0 : 0 ≤ (0 : Int) + (1 * a1 + 0) := hg _ List.mem_cons_self
  have g1 : 0 ≤ (4294967293 : Int) + ((-1) * a1 + 0) := hg _ (List.mem_cons_of_mem _ List.mem_cons_self)
  have g2 : 0 ≤ (0 : Int) + (1 * a2 + 0) := hg _ (List.mem_cons_of_mem _ (List.mem_cons_of_mem _ List.mem_cons_self))
  have g3 : 0 ≤ (4294967293 : Int) + ((-1) * a2 + 0) := hg _ (List.mem_cons_of_mem _ (List.mem_cons_of_mem _ (List.mem_cons_of_mem _ List.mem_cons_self)))
  have g4 : 0 ≤ ((-2) : Int) + (1 * (zk_xe w 221 a4) + 0) := hg _ (List.mem_cons_of_mem _ (List.mem_cons_of_mem _ (List.mem_cons_of_mem _ (List.mem_cons_of_mem _ List.mem_cons_self))))
  have r0 : 0 ≤ a0 := hr _ List.mem_cons_self
  have r1 : 0 ≤ a4 := hr _ (List.mem_cons_of_mem _ List.mem_cons_self)
  have r2 : 0 ≤ a5 := hr _ (List.mem_cons_of_mem _ (List.mem_cons_of_mem _ List.mem_cons_self))
  have hp := (zn_90 (w := w) (j := a0) (n := a1) (t := a2) (by omega) (by omega) (by omega) ).mp (by omega)
  have k0 : zh_e w 221 (a2) = zk_xe w 221 a4 := by rw [zk_xe_r (i := 221) (by decide)]; show zk_el w 221 (a2) = zk_el w 221 a4; rw [show a2 = a4 by omega]
  have k1 : zh_e w 223 (a2) = zk_xe w 223 a5 := by rw [zk_xe_r (i := 223) (by decide)]; show zk_el w 223 (a2) = zk_el w 223 a5; rw [show a2 = a5 by omega]
  have h : zp_tn (zn_l w 173) (zn_l w 174) (zh_e w 221) (zh_e w 223) a1 (a2 + 1) := by
    intro i i0 i1 ik
    by_cases c : i = a2
    · rw [c] at ik
      omega
    · exact hp i i0 (by omega) ik
  exact ⟨_, List.mem_cons_self, [], rfl, zx_bnil, zx_cs0, (zx_eF1 (by show 0 ≤ (0 : Int) + (1 * a3 + 0); omega) (by show zk_xe w 2000090 ((0 : Int) + (1 * a3 + 0)) = (1 : Int) + (0); rw [show (0 : Int) + (1 * a3 + 0) = a3 by omega]; exact ((zn_90 (w := w) (j := a3) (n := a1) (t := (a2 + 1)) (by omega) (by omega) (by omega) ).mpr (h)).trans (by omega)) zx_eF0), zx_k0⟩
def zx_D812 : zx_L := zx_Lc [] 6 [(2000090, 0), (221, 4), (223, 5)] [] [((0, 0), [(0, 1, 0), (1, 0, 1), (2, 0, 4294967296)]), ((0, 4294967296), [(1, 0, 1), (2, 0, 4294967296), (3, 1, 0)]), ((0, 1), [(6, 1, 0)]), ((0, 0), [(2, 0, 1), (4, 1, 0)]), ((0, 0), [(2, 0, 1), (5, 1, 0)])] [((0, 0), [(1, 1, 0)]), ((4294967293, 0), [(1, 0, 1)]), ((0, 0), [(2, 1, 0)]), ((4294967293, 0), [(2, 0, 1)]), ((0, 0), [(7, 0, 1)])] [([], [], [(2000090, ((0, 0), [(3, 1, 0)]), ((1, 0), []))], [])]
theorem zx_D812_ok {PT : Nat → zz_W → Prop} : zx_Lok 64 zHT PT zx_D812 := by
  refine zx_Lc_ok (fun w hI hK ins hl hr he hg => ?_)
  obtain ⟨a0, a1, a2, a3, a4, a5, rfl⟩ := zx_i6 hl
  have e0 : (0 : Int) + (1 * a0 + ((-1) * a1 + ((-4294967296) * a2 + 0))) = 0 := he _ List.mem_cons_self
  have e1 : ((-4294967296) : Int) + ((-1) * a1 + ((-4294967296) * a2 + (1 * a3 + 0))) = 0 := he _ (List.mem_cons_of_mem _ List.mem_cons_self)
  have e2 : ((-1) : Int) + (1 * (zk_xe w 2000090 a0) + 0) = 0 := he _ (List.mem_cons_of_mem _ (List.mem_cons_of_mem _ List.mem_cons_self))
  have e3 : (0 : Int) + ((-1) * a2 + (1 * a4 + 0)) = 0 := he _ (List.mem_cons_of_mem _ (List.mem_cons_of_mem _ (List.mem_cons_of_mem _ List.mem_cons_self)))
  have e4 : (0 : Int) + ((-1) * a2 + (1 * a5 + 0)) = 0 := he _ (List.mem_cons_of_mem _ (List.mem_cons_of_mem _ (List.mem_cons_of_mem _ (List.mem_cons_of_mem _ List.mem_cons_self))))
  have g0 : 0 ≤ (0 : Int) + (1 * a1 + 0) := hg _ List.mem_cons_self
  have g1 : 0 ≤ (4294967293 : Int) + ((-1) * a1 + 0) := hg _ (List.mem_cons_of_mem _ List.mem_cons_self)
  have g2 : 0 ≤ (0 : Int) + (1 * a2 + 0) := hg _ (List.mem_cons_of_mem _ (List.mem_cons_of_mem _ List.mem_cons_self))
  have g3 : 0 ≤ (4294967293 : Int) + ((-1) * a2 + 0) := hg _ (List.mem_cons_of_mem _ (List.mem_cons_of_mem _ (List.mem_cons_of_mem _ List.mem_cons_self)))
  have g4 : 0 ≤ (0 : Int) + ((-1) * (zk_xe w 221 a4) + 0) := hg _ (List.mem_cons_of_mem _ (List.mem_cons_of_mem _ (List.mem_cons_of_mem _ (List.mem_cons_of_mem _ List.mem_cons_self))))
  have r0 : 0 ≤ a0 := hr _ List.mem_cons_self
  have r1 : 0 ≤ a4 := hr _ (List.mem_cons_of_mem _ List.mem_cons_self)
  have r2 : 0 ≤ a5 := hr _ (List.mem_cons_of_mem _ (List.mem_cons_of_mem _ List.mem_cons_self))
  have hp := (zn_90 (w := w) (j := a0) (n := a1) (t := a2) (by omega) (by omega) (by omega) ).mp (by omega)
  have k0 : zh_e w 221 (a2) = zk_xe w 221 a4 := by rw [zk_xe_r (i := 221) (by decide)]; show zk_el w 221 (a2) = zk_el w 221 a4; rw [show a2 = a4 by omega]
  have k1 : zh_e w 223 (a2) = zk_xe w 223 a5 := by rw [zk_xe_r (i := 223) (by decide)]; show zk_el w 223 (a2) = zk_el w 223 a5; rw [show a2 = a5 by omega]
  have h : zp_tn (zn_l w 173) (zn_l w 174) (zh_e w 221) (zh_e w 223) a1 (a2 + 1) := by
    intro i i0 i1 ik
    by_cases c : i = a2
    · rw [c] at ik
      omega
    · exact hp i i0 (by omega) ik
  exact ⟨_, List.mem_cons_self, [], rfl, zx_bnil, zx_cs0, (zx_eF1 (by show 0 ≤ (0 : Int) + (1 * a3 + 0); omega) (by show zk_xe w 2000090 ((0 : Int) + (1 * a3 + 0)) = (1 : Int) + (0); rw [show (0 : Int) + (1 * a3 + 0) = a3 by omega]; exact ((zn_90 (w := w) (j := a3) (n := a1) (t := (a2 + 1)) (by omega) (by omega) (by omega) ).mpr (h)).trans (by omega)) zx_eF0), zx_k0⟩
def zx_D813 : zx_L := zx_Lc [] 7 [(2000090, 0), (221, 4), (223, 5), (2000089, 6)] [] [((0, 0), [(0, 1, 0), (1, 0, 1), (2, 0, 4294967296)]), ((0, 4294967296), [(1, 0, 1), (2, 0, 4294967296), (3, 1, 0)]), ((0, 1), [(7, 1, 0)]), ((0, 0), [(2, 0, 1), (4, 1, 0)]), ((0, 0), [(2, 0, 1), (5, 1, 0)]), ((0, 1), [(10, 1, 0)]), ((0, 4294967297), [(6, 1, 0), (9, 0, 1)])] [((0, 0), [(1, 1, 0)]), ((4294967293, 0), [(1, 0, 1)]), ((0, 0), [(2, 1, 0)]), ((4294967293, 0), [(2, 0, 1)]), ((0, 0), [(9, 1, 0)]), ((0, 1), [(1, 1, 0), (9, 0, 1)])] [([], [], [(2000090, ((0, 0), [(3, 1, 0)]), ((1, 0), []))], [])]
theorem zx_D813_ok {PT : Nat → zz_W → Prop} : zx_Lok 64 zHT PT zx_D813 := by
  refine zx_Lc_ok (fun w hI hK ins hl hr he hg => ?_)
  obtain ⟨a0, a1, a2, a3, a4, a5, a6, rfl⟩ := zx_i7 hl
  have e0 : (0 : Int) + (1 * a0 + ((-1) * a1 + ((-4294967296) * a2 + 0))) = 0 := he _ List.mem_cons_self
  have e1 : ((-4294967296) : Int) + ((-1) * a1 + ((-4294967296) * a2 + (1 * a3 + 0))) = 0 := he _ (List.mem_cons_of_mem _ List.mem_cons_self)
  have e2 : ((-1) : Int) + (1 * (zk_xe w 2000090 a0) + 0) = 0 := he _ (List.mem_cons_of_mem _ (List.mem_cons_of_mem _ List.mem_cons_self))
  have e3 : (0 : Int) + ((-1) * a2 + (1 * a4 + 0)) = 0 := he _ (List.mem_cons_of_mem _ (List.mem_cons_of_mem _ (List.mem_cons_of_mem _ List.mem_cons_self)))
  have e4 : (0 : Int) + ((-1) * a2 + (1 * a5 + 0)) = 0 := he _ (List.mem_cons_of_mem _ (List.mem_cons_of_mem _ (List.mem_cons_of_mem _ (List.mem_cons_of_mem _ List.mem_cons_self))))
  have e5 : ((-1) : Int) + (1 * (zk_xe w 2000089 a6) + 0) = 0 := he _ (List.mem_cons_of_mem _ (List.mem_cons_of_mem _ (List.mem_cons_of_mem _ (List.mem_cons_of_mem _ (List.mem_cons_of_mem _ List.mem_cons_self)))))
  have e6 : ((-4294967297) : Int) + (1 * a6 + ((-1) * (zk_xe w 223 a5) + 0)) = 0 := he _ (List.mem_cons_of_mem _ (List.mem_cons_of_mem _ (List.mem_cons_of_mem _ (List.mem_cons_of_mem _ (List.mem_cons_of_mem _ (List.mem_cons_of_mem _ List.mem_cons_self))))))
  have g0 : 0 ≤ (0 : Int) + (1 * a1 + 0) := hg _ List.mem_cons_self
  have g1 : 0 ≤ (4294967293 : Int) + ((-1) * a1 + 0) := hg _ (List.mem_cons_of_mem _ List.mem_cons_self)
  have g2 : 0 ≤ (0 : Int) + (1 * a2 + 0) := hg _ (List.mem_cons_of_mem _ (List.mem_cons_of_mem _ List.mem_cons_self))
  have g3 : 0 ≤ (4294967293 : Int) + ((-1) * a2 + 0) := hg _ (List.mem_cons_of_mem _ (List.mem_cons_of_mem _ (List.mem_cons_of_mem _ List.mem_cons_self)))
  have g4 : 0 ≤ (0 : Int) + (1 * (zk_xe w 223 a5) + 0) := hg _ (List.mem_cons_of_mem _ (List.mem_cons_of_mem _ (List.mem_cons_of_mem _ (List.mem_cons_of_mem _ List.mem_cons_self))))
  have g5 : 0 ≤ ((-1) : Int) + (1 * a1 + ((-1) * (zk_xe w 223 a5) + 0)) := hg _ (List.mem_cons_of_mem _ (List.mem_cons_of_mem _ (List.mem_cons_of_mem _ (List.mem_cons_of_mem _ (List.mem_cons_of_mem _ List.mem_cons_self)))))
  have r0 : 0 ≤ a0 := hr _ List.mem_cons_self
  have r1 : 0 ≤ a4 := hr _ (List.mem_cons_of_mem _ List.mem_cons_self)
  have r2 : 0 ≤ a5 := hr _ (List.mem_cons_of_mem _ (List.mem_cons_of_mem _ List.mem_cons_self))
  have r3 : 0 ≤ a6 := hr _ (List.mem_cons_of_mem _ (List.mem_cons_of_mem _ (List.mem_cons_of_mem _ List.mem_cons_self)))
  have hp := (zn_90 (w := w) (j := a0) (n := a1) (t := a2) (by omega) (by omega) (by omega) ).mp (by omega)
  have k0 : zh_e w 221 (a2) = zk_xe w 221 a4 := by rw [zk_xe_r (i := 221) (by decide)]; show zk_el w 221 (a2) = zk_el w 221 a4; rw [show a2 = a4 by omega]
  have k1 : zh_e w 223 (a2) = zk_xe w 223 a5 := by rw [zk_xe_r (i := 223) (by decide)]; show zk_el w 223 (a2) = zk_el w 223 a5; rw [show a2 = a5 by omega]
  have h : zp_tn (zn_l w 173) (zn_l w 174) (zh_e w 221) (zh_e w 223) a1 (a2 + 1) := by
    intro i i0 i1 ik
    by_cases c : i = a2
    · rw [c] at ik ⊢
      rw [k1]
      exact ⟨by omega, by omega, (zn_89 (w := w) (j := a6) (n := (zk_xe w 223 a5)) (by omega) (by omega) (by omega) ).mp (by omega)⟩
    · exact hp i i0 (by omega) ik
  exact ⟨_, List.mem_cons_self, [], rfl, zx_bnil, zx_cs0, (zx_eF1 (by show 0 ≤ (0 : Int) + (1 * a3 + 0); omega) (by show zk_xe w 2000090 ((0 : Int) + (1 * a3 + 0)) = (1 : Int) + (0); rw [show (0 : Int) + (1 * a3 + 0) = a3 by omega]; exact ((zn_90 (w := w) (j := a3) (n := a1) (t := (a2 + 1)) (by omega) (by omega) (by omega) ).mpr (h)).trans (by omega)) zx_eF0), zx_k0⟩
def zx_D814 : zx_L := zx_Lc [] 5 [(2000090, 0)] [] [((0, 0), [(0, 1, 0), (1, 0, 1), (2, 0, 4294967296)]), ((0, 1), [(5, 1, 0)]), ((0, 0), [(2, 0, 4294967296), (3, 1, 0), (4, 0, 1)])] [((0, 0), [(1, 1, 0)]), ((4294967293, 0), [(1, 0, 1)]), ((0, 0), [(2, 1, 0)]), ((4294967293, 0), [(2, 0, 1)]), ((0, 0), [(4, 1, 0)]), ((4294967293, 0), [(4, 0, 1)]), ((0, 0), [(1, 0, 1), (4, 1, 0)])] [([], [], [(2000090, ((0, 0), [(3, 1, 0)]), ((1, 0), []))], [])]
theorem zx_D814_ok {PT : Nat → zz_W → Prop} : zx_Lok 64 zHT PT zx_D814 := by
  refine zx_Lc_ok (fun w hI hK ins hl hr he hg => ?_)
  obtain ⟨a0, a1, a2, a3, a4, rfl⟩ := zx_i5 hl
  have e0 : (0 : Int) + (1 * a0 + ((-1) * a1 + ((-4294967296) * a2 + 0))) = 0 := he _ List.mem_cons_self
  have e1 : ((-1) : Int) + (1 * (zk_xe w 2000090 a0) + 0) = 0 := he _ (List.mem_cons_of_mem _ List.mem_cons_self)
  have e2 : (0 : Int) + ((-4294967296) * a2 + (1 * a3 + ((-1) * a4 + 0))) = 0 := he _ (List.mem_cons_of_mem _ (List.mem_cons_of_mem _ List.mem_cons_self))
  have g0 : 0 ≤ (0 : Int) + (1 * a1 + 0) := hg _ List.mem_cons_self
  have g1 : 0 ≤ (4294967293 : Int) + ((-1) * a1 + 0) := hg _ (List.mem_cons_of_mem _ List.mem_cons_self)
  have g2 : 0 ≤ (0 : Int) + (1 * a2 + 0) := hg _ (List.mem_cons_of_mem _ (List.mem_cons_of_mem _ List.mem_cons_self))
  have g3 : 0 ≤ (4294967293 : Int) + ((-1) * a2 + 0) := hg _ (List.mem_cons_of_mem _ (List.mem_cons_of_mem _ (List.mem_cons_of_mem _ List.mem_cons_self)))
  have g4 : 0 ≤ (0 : Int) + (1 * a4 + 0) := hg _ (List.mem_cons_of_mem _ (List.mem_cons_of_mem _ (List.mem_cons_of_mem _ (List.mem_cons_of_mem _ List.mem_cons_self))))
  have g5 : 0 ≤ (4294967293 : Int) + ((-1) * a4 + 0) := hg _ (List.mem_cons_of_mem _ (List.mem_cons_of_mem _ (List.mem_cons_of_mem _ (List.mem_cons_of_mem _ (List.mem_cons_of_mem _ List.mem_cons_self)))))
  have g6 : 0 ≤ (0 : Int) + ((-1) * a1 + (1 * a4 + 0)) := hg _ (List.mem_cons_of_mem _ (List.mem_cons_of_mem _ (List.mem_cons_of_mem _ (List.mem_cons_of_mem _ (List.mem_cons_of_mem _ (List.mem_cons_of_mem _ List.mem_cons_self))))))
  have r0 : 0 ≤ a0 := hr _ List.mem_cons_self
  have hp := (zn_90 (w := w) (j := a0) (n := a1) (t := a2) (by omega) (by omega) (by omega) ).mp (by omega)
  have h : zp_tn (zn_l w 173) (zn_l w 174) (zh_e w 221) (zh_e w 223) a4 a2 := fun i i0 i1 ik => by
    obtain ⟨q1, q2, q3⟩ := hp i i0 i1 ik
    exact ⟨q1, by omega, q3⟩
  exact ⟨_, List.mem_cons_self, [], rfl, zx_bnil, zx_cs0, (zx_eF1 (by show 0 ≤ (0 : Int) + (1 * a3 + 0); omega) (by show zk_xe w 2000090 ((0 : Int) + (1 * a3 + 0)) = (1 : Int) + (0); rw [show (0 : Int) + (1 * a3 + 0) = a3 by omega]; exact ((zn_90 (w := w) (j := a3) (n := a4) (t := a2) (by omega) (by omega) (by omega) ).mpr (h)).trans (by omega)) zx_eF0), zx_k0⟩
def zx_D815 : zx_L := zx_Lc [] 6 [(2000090, 0), (221, 3), (223, 4)] [] [((0, 0), [(0, 1, 0), (1, 0, 1), (2, 0, 4294967296)]), ((0, 1), [(6, 1, 0)]), ((0, 0), [(3, 0, 1), (4, 1, 0)]), ((0, 1), [(7, 1, 0)]), ((0, 4294967297), [(5, 1, 0), (8, 0, 1)])] [((0, 0), [(1, 1, 0)]), ((4294967293, 0), [(1, 0, 1)]), ((0, 0), [(2, 1, 0)]), ((4294967293, 0), [(2, 0, 1)]), ((0, 0), [(3, 1, 0)]), ((0, 1), [(2, 1, 0), (3, 0, 1)])] [([], [((0, 0), [(8, 1, 0)]), ((0, 1), [(1, 1, 0), (8, 0, 1)])], [(2000089, ((0, 0), [(5, 1, 0)]), ((1, 0), []))], [])]
theorem zx_D815_ok {PT : Nat → zz_W → Prop} : zx_Lok 64 zHT PT zx_D815 := by
  refine zx_Lc_ok (fun w hI hK ins hl hr he hg => ?_)
  obtain ⟨a0, a1, a2, a3, a4, a5, rfl⟩ := zx_i6 hl
  have e0 : (0 : Int) + (1 * a0 + ((-1) * a1 + ((-4294967296) * a2 + 0))) = 0 := he _ List.mem_cons_self
  have e1 : ((-1) : Int) + (1 * (zk_xe w 2000090 a0) + 0) = 0 := he _ (List.mem_cons_of_mem _ List.mem_cons_self)
  have e2 : (0 : Int) + ((-1) * a3 + (1 * a4 + 0)) = 0 := he _ (List.mem_cons_of_mem _ (List.mem_cons_of_mem _ List.mem_cons_self))
  have e3 : ((-1) : Int) + (1 * (zk_xe w 221 a3) + 0) = 0 := he _ (List.mem_cons_of_mem _ (List.mem_cons_of_mem _ (List.mem_cons_of_mem _ List.mem_cons_self)))
  have e4 : ((-4294967297) : Int) + (1 * a5 + ((-1) * (zk_xe w 223 a4) + 0)) = 0 := he _ (List.mem_cons_of_mem _ (List.mem_cons_of_mem _ (List.mem_cons_of_mem _ (List.mem_cons_of_mem _ List.mem_cons_self))))
  have g0 : 0 ≤ (0 : Int) + (1 * a1 + 0) := hg _ List.mem_cons_self
  have g1 : 0 ≤ (4294967293 : Int) + ((-1) * a1 + 0) := hg _ (List.mem_cons_of_mem _ List.mem_cons_self)
  have g2 : 0 ≤ (0 : Int) + (1 * a2 + 0) := hg _ (List.mem_cons_of_mem _ (List.mem_cons_of_mem _ List.mem_cons_self))
  have g3 : 0 ≤ (4294967293 : Int) + ((-1) * a2 + 0) := hg _ (List.mem_cons_of_mem _ (List.mem_cons_of_mem _ (List.mem_cons_of_mem _ List.mem_cons_self)))
  have g4 : 0 ≤ (0 : Int) + (1 * a3 + 0) := hg _ (List.mem_cons_of_mem _ (List.mem_cons_of_mem _ (List.mem_cons_of_mem _ (List.mem_cons_of_mem _ List.mem_cons_self))))
  have g5 : 0 ≤ ((-1) : Int) + (1 * a2 + ((-1) * a3 + 0)) := hg _ (List.mem_cons_of_mem _ (List.mem_cons_of_mem _ (List.mem_cons_of_mem _ (List.mem_cons_of_mem _ (List.mem_cons_of_mem _ List.mem_cons_self)))))
  have r0 : 0 ≤ a0 := hr _ List.mem_cons_self
  have r1 : 0 ≤ a3 := hr _ (List.mem_cons_of_mem _ List.mem_cons_self)
  have r2 : 0 ≤ a4 := hr _ (List.mem_cons_of_mem _ (List.mem_cons_of_mem _ List.mem_cons_self))
  have hp := (zn_90 (w := w) (j := a0) (n := a1) (t := a2) (by omega) (by omega) (by omega) ).mp (by omega)
  have k0 : zh_e w 221 (a3) = zk_xe w 221 a3 := by rw [zk_xe_r (i := 221) (by decide)]; show zk_el w 221 (a3) = zk_el w 221 a3; rw [show a3 = a3 by omega]
  have k1 : zh_e w 223 (a3) = zk_xe w 223 a4 := by rw [zk_xe_r (i := 223) (by decide)]; show zk_el w 223 (a3) = zk_el w 223 a4; rw [show a3 = a4 by omega]
  obtain ⟨q1, q2, q3⟩ := hp a3 (by omega) (by omega) (by rw [k0]; omega)
  rw [k1] at q1 q2 q3
  exact ⟨_, List.mem_cons_self, [], rfl, zx_bnil, (zx_cs1 (by show 0 ≤ (0 : Int) + (1 * (zk_xe w 223 a4) + 0); omega) (zx_cs1 (by show 0 ≤ ((-1) : Int) + (1 * a1 + ((-1) * (zk_xe w 223 a4) + 0)); omega) zx_cs0)), (zx_eF1 (by show 0 ≤ (0 : Int) + (1 * a5 + 0); omega) (by show zk_xe w 2000089 ((0 : Int) + (1 * a5 + 0)) = (1 : Int) + (0); rw [show (0 : Int) + (1 * a5 + 0) = a5 by omega]; exact ((zn_89 (w := w) (j := a5) (n := (zk_xe w 223 a4)) (by omega) (by omega) (by omega) ).mpr q3).trans (by omega)) zx_eF0), zx_k0⟩
def zx_E585 : zx_V := zx_Vc 221 [] 3 [(2000090, 0)] [((0, 0), [(2, 1, 0), (3, 0, 1), (4, 0, 4294967296)]), ((0, 1), [(5, 1, 0)])] [((0, 0), [(3, 1, 0)]), ((4294967293, 0), [(3, 0, 1)]), ((0, 0), [(4, 1, 0)]), ((4294967293, 0), [(4, 0, 1)]), ((0, 0), [(0, 1, 0), (4, 0, 1)])] [(2000090, ((0, 0), [(2, 1, 0)]), ((1, 0), []))]
theorem zx_E585_ok {PT : Nat → zz_W → Prop} : zx_Vok 64 zHT PT zx_E585 := by
  refine zx_Vc_ok (fun w w' j ins hI hI' h0 hw hK hl he hg => ?_)
  obtain ⟨a0, a1, a2, rfl⟩ := zx_i3 hl
  have e0 : (0 : Int) + (1 * a0 + ((-1) * a1 + ((-4294967296) * a2 + 0))) = 0 := he _ List.mem_cons_self
  have e1 : ((-1) : Int) + (1 * (zk_xe w 2000090 a0) + 0) = 0 := he _ (List.mem_cons_of_mem _ List.mem_cons_self)
  have g0 : 0 ≤ (0 : Int) + (1 * a1 + 0) := hg _ List.mem_cons_self
  have g1 : 0 ≤ (4294967293 : Int) + ((-1) * a1 + 0) := hg _ (List.mem_cons_of_mem _ List.mem_cons_self)
  have g2 : 0 ≤ (0 : Int) + (1 * a2 + 0) := hg _ (List.mem_cons_of_mem _ (List.mem_cons_of_mem _ List.mem_cons_self))
  have g3 : 0 ≤ (4294967293 : Int) + ((-1) * a2 + 0) := hg _ (List.mem_cons_of_mem _ (List.mem_cons_of_mem _ (List.mem_cons_of_mem _ List.mem_cons_self)))
  have g4 : 0 ≤ (0 : Int) + (1 * j + ((-1) * a2 + 0)) := hg _ (List.mem_cons_of_mem _ (List.mem_cons_of_mem _ (List.mem_cons_of_mem _ (List.mem_cons_of_mem _ List.mem_cons_self))))
  have hp := (zn_90 (w := w) (j := a0) (n := a1) (t := a2) (by omega) (by omega) (by omega) ).mp (by omega)
  have h : zp_tn (zn_l w' 173) (zn_l w' 174) (zh_e w' 221) (zh_e w' 223) a1 a2 := by
    rw [zn_l_g (hw.1 173 (by decide)), zn_l_g (hw.1 174 (by decide)), zh_e_g (hw.1 223 (by decide))]
    intro i i0 i1 ik
    have e : zh_e w' 221 i = zh_e w 221 i := hw.2 i i0 (by omega)
    rw [e] at ik
    exact hp i i0 i1 ik
  exact (zx_eF1 (by show 0 ≤ (0 : Int) + (1 * a0 + 0); omega) (by show zk_xe w' 2000090 ((0 : Int) + (1 * a0 + 0)) = (1 : Int) + (0); rw [show (0 : Int) + (1 * a0 + 0) = a0 by omega]; exact ((zn_90 (w := w') (j := a0) (n := a1) (t := a2) (by omega) (by omega) (by omega) ).mpr h).trans (by omega)) zx_eF0)
def zx_E586 : zx_V := zx_Vc 223 [] 3 [(2000090, 0)] [((0, 0), [(2, 1, 0), (3, 0, 1), (4, 0, 4294967296)]), ((0, 1), [(5, 1, 0)])] [((0, 0), [(3, 1, 0)]), ((4294967293, 0), [(3, 0, 1)]), ((0, 0), [(4, 1, 0)]), ((4294967293, 0), [(4, 0, 1)]), ((0, 0), [(0, 1, 0), (4, 0, 1)])] [(2000090, ((0, 0), [(2, 1, 0)]), ((1, 0), []))]
theorem zx_E586_ok {PT : Nat → zz_W → Prop} : zx_Vok 64 zHT PT zx_E586 := by
  refine zx_Vc_ok (fun w w' j ins hI hI' h0 hw hK hl he hg => ?_)
  obtain ⟨a0, a1, a2, rfl⟩ := zx_i3 hl
  have e0 : (0 : Int) + (1 * a0 + ((-1) * a1 + ((-4294967296) * a2 + 0))) = 0 := he _ List.mem_cons_self
  have e1 : ((-1) : Int) + (1 * (zk_xe w 2000090 a0) + 0) = 0 := he _ (List.mem_cons_of_mem _ List.mem_cons_self)
  have g0 : 0 ≤ (0 : Int) + (1 * a1 + 0) := hg _ List.mem_cons_self
  have g1 : 0 ≤ (4294967293 : Int) + ((-1) * a1 + 0) := hg _ (List.mem_cons_of_mem _ List.mem_cons_self)
  have g2 : 0 ≤ (0 : Int) + (1 * a2 + 0) := hg _ (List.mem_cons_of_mem _ (List.mem_cons_of_mem _ List.mem_cons_self))
  have g3 : 0 ≤ (4294967293 : Int) + ((-1) * a2 + 0) := hg _ (List.mem_cons_of_mem _ (List.mem_cons_of_mem _ (List.mem_cons_of_mem _ List.mem_cons_self)))
  have g4 : 0 ≤ (0 : Int) + (1 * j + ((-1) * a2 + 0)) := hg _ (List.mem_cons_of_mem _ (List.mem_cons_of_mem _ (List.mem_cons_of_mem _ (List.mem_cons_of_mem _ List.mem_cons_self))))
  have hp := (zn_90 (w := w) (j := a0) (n := a1) (t := a2) (by omega) (by omega) (by omega) ).mp (by omega)
  have h : zp_tn (zn_l w' 173) (zn_l w' 174) (zh_e w' 221) (zh_e w' 223) a1 a2 := by
    rw [zn_l_g (hw.1 173 (by decide)), zn_l_g (hw.1 174 (by decide)), zh_e_g (hw.1 221 (by decide))]
    intro i i0 i1 ik
    have e : zh_e w' 223 i = zh_e w 223 i := hw.2 i i0 (by omega)
    rw [e]
    exact hp i i0 i1 ik
  exact (zx_eF1 (by show 0 ≤ (0 : Int) + (1 * a0 + 0); omega) (by show zk_xe w' 2000090 ((0 : Int) + (1 * a0 + 0)) = (1 : Int) + (0); rw [show (0 : Int) + (1 * a0 + 0) = a0 by omega]; exact ((zn_90 (w := w') (j := a0) (n := a1) (t := a2) (by omega) (by omega) (by omega) ).mpr h).trans (by omega)) zx_eF0)
def zx_D820 : zx_L := zx_Lc [] 1 [] [] [((0, 0), [(0, 1, 0)])] [] [([], [], [(2000091, ((0, 0), [(0, 1, 0)]), ((1, 0), []))], [])]
theorem zx_D820_ok {PT : Nat → zz_W → Prop} : zx_Lok 64 zHT PT zx_D820 := by
  refine zx_Lc_ok (fun w hI hK ins hl hr he hg => ?_)
  obtain ⟨a0, rfl⟩ := zx_i1 hl
  have e0 : (0 : Int) + (1 * a0 + 0) = 0 := he _ List.mem_cons_self
  have h : zp_pp (zn_l w 173) (zn_l w 174) (zh_e w 229) (zh_e w 239) (zh_e w 247) (zh_e w 233) 0 0 0 := ⟨fun i i0 i1 => by omega, fun i i0 i1 => by omega, fun i i0 i1 => by omega⟩
  exact ⟨_, List.mem_cons_self, [], rfl, zx_bnil, zx_cs0, (zx_eF1 (by show 0 ≤ (0 : Int) + (1 * a0 + 0); omega) (by show zk_xe w 2000091 ((0 : Int) + (1 * a0 + 0)) = (1 : Int) + (0); rw [show (0 : Int) + (1 * a0 + 0) = a0 by omega]; exact ((zn_91 (w := w) (j := a0) (n := 0) (c := 0) (f := 0) (by omega) (by omega) (by omega) (by omega) (by omega) (by omega) (by omega) ).mpr (h)).trans (by omega)) zx_eF0), zx_k0⟩
def zx_D821 : zx_L := zx_Lc [] 7 [(2000091, 0), (229, 5), (2000089, 6)] [] [((0, 0), [(0, 1, 0), (1, 0, 1), (2, 0, 4294967296), (3, 0, 18446744073709551616)]), ((0, 1), [(1, 0, 1), (2, 0, 4294967296), (3, 0, 18446744073709551616), (4, 1, 0)]), ((0, 1), [(7, 1, 0)]), ((0, 0), [(1, 0, 1), (5, 1, 0)]), ((0, 1), [(9, 1, 0)]), ((0, 4294967297), [(6, 1, 0), (8, 0, 1)])] [((0, 0), [(1, 1, 0)]), ((4294967293, 0), [(1, 0, 1)]), ((0, 0), [(2, 1, 0)]), ((4294967293, 0), [(2, 0, 1)]), ((0, 0), [(3, 1, 0)]), ((4294967293, 0), [(3, 0, 1)]), ((0, 0), [(8, 1, 0)]), ((4294967293, 0), [(8, 0, 1)])] [([], [], [(2000091, ((0, 0), [(4, 1, 0)]), ((1, 0), []))], [])]
theorem zx_D821_ok {PT : Nat → zz_W → Prop} : zx_Lok 64 zHT PT zx_D821 := by
  refine zx_Lc_ok (fun w hI hK ins hl hr he hg => ?_)
  obtain ⟨a0, a1, a2, a3, a4, a5, a6, rfl⟩ := zx_i7 hl
  have e0 : (0 : Int) + (1 * a0 + ((-1) * a1 + ((-4294967296) * a2 + ((-18446744073709551616) * a3 + 0)))) = 0 := he _ List.mem_cons_self
  have e1 : ((-1) : Int) + ((-1) * a1 + ((-4294967296) * a2 + ((-18446744073709551616) * a3 + (1 * a4 + 0)))) = 0 := he _ (List.mem_cons_of_mem _ List.mem_cons_self)
  have e2 : ((-1) : Int) + (1 * (zk_xe w 2000091 a0) + 0) = 0 := he _ (List.mem_cons_of_mem _ (List.mem_cons_of_mem _ List.mem_cons_self))
  have e3 : (0 : Int) + ((-1) * a1 + (1 * a5 + 0)) = 0 := he _ (List.mem_cons_of_mem _ (List.mem_cons_of_mem _ (List.mem_cons_of_mem _ List.mem_cons_self)))
  have e4 : ((-1) : Int) + (1 * (zk_xe w 2000089 a6) + 0) = 0 := he _ (List.mem_cons_of_mem _ (List.mem_cons_of_mem _ (List.mem_cons_of_mem _ (List.mem_cons_of_mem _ List.mem_cons_self))))
  have e5 : ((-4294967297) : Int) + (1 * a6 + ((-1) * (zk_xe w 229 a5) + 0)) = 0 := he _ (List.mem_cons_of_mem _ (List.mem_cons_of_mem _ (List.mem_cons_of_mem _ (List.mem_cons_of_mem _ (List.mem_cons_of_mem _ List.mem_cons_self)))))
  have g0 : 0 ≤ (0 : Int) + (1 * a1 + 0) := hg _ List.mem_cons_self
  have g1 : 0 ≤ (4294967293 : Int) + ((-1) * a1 + 0) := hg _ (List.mem_cons_of_mem _ List.mem_cons_self)
  have g2 : 0 ≤ (0 : Int) + (1 * a2 + 0) := hg _ (List.mem_cons_of_mem _ (List.mem_cons_of_mem _ List.mem_cons_self))
  have g3 : 0 ≤ (4294967293 : Int) + ((-1) * a2 + 0) := hg _ (List.mem_cons_of_mem _ (List.mem_cons_of_mem _ (List.mem_cons_of_mem _ List.mem_cons_self)))
  have g4 : 0 ≤ (0 : Int) + (1 * a3 + 0) := hg _ (List.mem_cons_of_mem _ (List.mem_cons_of_mem _ (List.mem_cons_of_mem _ (List.mem_cons_of_mem _ List.mem_cons_self))))
  have g5 : 0 ≤ (4294967293 : Int) + ((-1) * a3 + 0) := hg _ (List.mem_cons_of_mem _ (List.mem_cons_of_mem _ (List.mem_cons_of_mem _ (List.mem_cons_of_mem _ (List.mem_cons_of_mem _ List.mem_cons_self)))))
  have g6 : 0 ≤ (0 : Int) + (1 * (zk_xe w 229 a5) + 0) := hg _ (List.mem_cons_of_mem _ (List.mem_cons_of_mem _ (List.mem_cons_of_mem _ (List.mem_cons_of_mem _ (List.mem_cons_of_mem _ (List.mem_cons_of_mem _ List.mem_cons_self))))))
  have g7 : 0 ≤ (4294967293 : Int) + ((-1) * (zk_xe w 229 a5) + 0) := hg _ (List.mem_cons_of_mem _ (List.mem_cons_of_mem _ (List.mem_cons_of_mem _ (List.mem_cons_of_mem _ (List.mem_cons_of_mem _ (List.mem_cons_of_mem _ (List.mem_cons_of_mem _ List.mem_cons_self)))))))
  have r0 : 0 ≤ a0 := hr _ List.mem_cons_self
  have r1 : 0 ≤ a5 := hr _ (List.mem_cons_of_mem _ List.mem_cons_self)
  have r2 : 0 ≤ a6 := hr _ (List.mem_cons_of_mem _ (List.mem_cons_of_mem _ List.mem_cons_self))
  have hp := (zn_91 (w := w) (j := a0) (n := a1) (c := a2) (f := a3) (by omega) (by omega) (by omega) (by omega) (by omega) (by omega) (by omega) ).mp (by omega)
  have k0 : zh_e w 229 (a1) = zk_xe w 229 a5 := by rw [zk_xe_r (i := 229) (by decide)]; show zk_el w 229 (a1) = zk_el w 229 a5; rw [show a1 = a5 by omega]
  have h : zp_pp (zn_l w 173) (zn_l w 174) (zh_e w 229) (zh_e w 239) (zh_e w 247) (zh_e w 233) (a1 + 1) a2 a3 := by
    refine ⟨fun i i0 i1 => ?_, hp.2.1, hp.2.2⟩
    · by_cases c : i = a1
      · rw [c, k0]
        exact ⟨by omega, (zn_89 (w := w) (j := a6) (n := (zk_xe w 229 a5)) (by omega) (by omega) (by omega) ).mp (by omega)⟩
      · exact hp.1 i i0 (by omega)
  exact ⟨_, List.mem_cons_self, [], rfl, zx_bnil, zx_cs0, (zx_eF1 (by show 0 ≤ (0 : Int) + (1 * a4 + 0); omega) (by show zk_xe w 2000091 ((0 : Int) + (1 * a4 + 0)) = (1 : Int) + (0); rw [show (0 : Int) + (1 * a4 + 0) = a4 by omega]; exact ((zn_91 (w := w) (j := a4) (n := (a1 + 1)) (c := a2) (f := a3) (by omega) (by omega) (by omega) (by omega) (by omega) (by omega) (by omega) ).mpr (h)).trans (by omega)) zx_eF0), zx_k0⟩
def zx_D822 : zx_L := zx_Lc [] 7 [(2000091, 0), (233, 5), (2000089, 6)] [] [((0, 0), [(0, 1, 0), (1, 0, 1), (2, 0, 4294967296), (3, 0, 18446744073709551616)]), ((0, 18446744073709551616), [(1, 0, 1), (2, 0, 4294967296), (3, 0, 18446744073709551616), (4, 1, 0)]), ((0, 1), [(7, 1, 0)]), ((0, 0), [(3, 0, 1), (5, 1, 0)]), ((0, 1), [(9, 1, 0)]), ((0, 4294967297), [(6, 1, 0), (8, 0, 1)])] [((0, 0), [(1, 1, 0)]), ((4294967293, 0), [(1, 0, 1)]), ((0, 0), [(2, 1, 0)]), ((4294967293, 0), [(2, 0, 1)]), ((0, 0), [(3, 1, 0)]), ((4294967293, 0), [(3, 0, 1)]), ((0, 0), [(8, 1, 0)]), ((4294967293, 0), [(8, 0, 1)])] [([], [], [(2000091, ((0, 0), [(4, 1, 0)]), ((1, 0), []))], [])]
theorem zx_D822_ok {PT : Nat → zz_W → Prop} : zx_Lok 64 zHT PT zx_D822 := by
  refine zx_Lc_ok (fun w hI hK ins hl hr he hg => ?_)
  obtain ⟨a0, a1, a2, a3, a4, a5, a6, rfl⟩ := zx_i7 hl
  have e0 : (0 : Int) + (1 * a0 + ((-1) * a1 + ((-4294967296) * a2 + ((-18446744073709551616) * a3 + 0)))) = 0 := he _ List.mem_cons_self
  have e1 : ((-18446744073709551616) : Int) + ((-1) * a1 + ((-4294967296) * a2 + ((-18446744073709551616) * a3 + (1 * a4 + 0)))) = 0 := he _ (List.mem_cons_of_mem _ List.mem_cons_self)
  have e2 : ((-1) : Int) + (1 * (zk_xe w 2000091 a0) + 0) = 0 := he _ (List.mem_cons_of_mem _ (List.mem_cons_of_mem _ List.mem_cons_self))
  have e3 : (0 : Int) + ((-1) * a3 + (1 * a5 + 0)) = 0 := he _ (List.mem_cons_of_mem _ (List.mem_cons_of_mem _ (List.mem_cons_of_mem _ List.mem_cons_self)))
  have e4 : ((-1) : Int) + (1 * (zk_xe w 2000089 a6) + 0) = 0 := he _ (List.mem_cons_of_mem _ (List.mem_cons_of_mem _ (List.mem_cons_of_mem _ (List.mem_cons_of_mem _ List.mem_cons_self))))
  have e5 : ((-4294967297) : Int) + (1 * a6 + ((-1) * (zk_xe w 233 a5) + 0)) = 0 := he _ (List.mem_cons_of_mem _ (List.mem_cons_of_mem _ (List.mem_cons_of_mem _ (List.mem_cons_of_mem _ (List.mem_cons_of_mem _ List.mem_cons_self)))))
  have g0 : 0 ≤ (0 : Int) + (1 * a1 + 0) := hg _ List.mem_cons_self
  have g1 : 0 ≤ (4294967293 : Int) + ((-1) * a1 + 0) := hg _ (List.mem_cons_of_mem _ List.mem_cons_self)
  have g2 : 0 ≤ (0 : Int) + (1 * a2 + 0) := hg _ (List.mem_cons_of_mem _ (List.mem_cons_of_mem _ List.mem_cons_self))
  have g3 : 0 ≤ (4294967293 : Int) + ((-1) * a2 + 0) := hg _ (List.mem_cons_of_mem _ (List.mem_cons_of_mem _ (List.mem_cons_of_mem _ List.mem_cons_self)))
  have g4 : 0 ≤ (0 : Int) + (1 * a3 + 0) := hg _ (List.mem_cons_of_mem _ (List.mem_cons_of_mem _ (List.mem_cons_of_mem _ (List.mem_cons_of_mem _ List.mem_cons_self))))
  have g5 : 0 ≤ (4294967293 : Int) + ((-1) * a3 + 0) := hg _ (List.mem_cons_of_mem _ (List.mem_cons_of_mem _ (List.mem_cons_of_mem _ (List.mem_cons_of_mem _ (List.mem_cons_of_mem _ List.mem_cons_self)))))
  have g6 : 0 ≤ (0 : Int) + (1 * (zk_xe w 233 a5) + 0) := hg _ (List.mem_cons_of_mem _ (List.mem_cons_of_mem _ (List.mem_cons_of_mem _ (List.mem_cons_of_mem _ (List.mem_cons_of_mem _ (List.mem_cons_of_mem _ List.mem_cons_self))))))
  have g7 : 0 ≤ (4294967293 : Int) + ((-1) * (zk_xe w 233 a5) + 0) := hg _ (List.mem_cons_of_mem _ (List.mem_cons_of_mem _ (List.mem_cons_of_mem _ (List.mem_cons_of_mem _ (List.mem_cons_of_mem _ (List.mem_cons_of_mem _ (List.mem_cons_of_mem _ List.mem_cons_self)))))))
  have r0 : 0 ≤ a0 := hr _ List.mem_cons_self
  have r1 : 0 ≤ a5 := hr _ (List.mem_cons_of_mem _ List.mem_cons_self)
  have r2 : 0 ≤ a6 := hr _ (List.mem_cons_of_mem _ (List.mem_cons_of_mem _ List.mem_cons_self))
  have hp := (zn_91 (w := w) (j := a0) (n := a1) (c := a2) (f := a3) (by omega) (by omega) (by omega) (by omega) (by omega) (by omega) (by omega) ).mp (by omega)
  have k0 : zh_e w 233 (a3) = zk_xe w 233 a5 := by rw [zk_xe_r (i := 233) (by decide)]; show zk_el w 233 (a3) = zk_el w 233 a5; rw [show a3 = a5 by omega]
  have h : zp_pp (zn_l w 173) (zn_l w 174) (zh_e w 229) (zh_e w 239) (zh_e w 247) (zh_e w 233) a1 a2 (a3 + 1) := by
    refine ⟨hp.1, hp.2.1, fun i i0 i1 => ?_⟩
    · by_cases c : i = a3
      · rw [c, k0]
        exact ⟨by omega, (zn_89 (w := w) (j := a6) (n := (zk_xe w 233 a5)) (by omega) (by omega) (by omega) ).mp (by omega)⟩
      · exact hp.2.2 i i0 (by omega)
  exact ⟨_, List.mem_cons_self, [], rfl, zx_bnil, zx_cs0, (zx_eF1 (by show 0 ≤ (0 : Int) + (1 * a4 + 0); omega) (by show zk_xe w 2000091 ((0 : Int) + (1 * a4 + 0)) = (1 : Int) + (0); rw [show (0 : Int) + (1 * a4 + 0) = a4 by omega]; exact ((zn_91 (w := w) (j := a4) (n := a1) (c := a2) (f := (a3 + 1)) (by omega) (by omega) (by omega) (by omega) (by omega) (by omega) (by omega) ).mpr (h)).trans (by omega)) zx_eF0), zx_k0⟩
def zx_D823 : zx_L := zx_Lc [] 8 [(2000091, 0), (239, 5), (247, 6), (2000089, 7)] [] [((0, 0), [(0, 1, 0), (1, 0, 1), (2, 0, 4294967296), (3, 0, 18446744073709551616)]), ((0, 4294967296), [(1, 0, 1), (2, 0, 4294967296), (3, 0, 18446744073709551616), (4, 1, 0)]), ((0, 1), [(8, 1, 0)]), ((0, 0), [(2, 0, 1), (5, 1, 0)]), ((0, 0), [(2, 0, 1), (6, 1, 0)]), ((0, 1), [(11, 1, 0)]), ((0, 4294967297), [(7, 1, 0), (10, 0, 1)])] [((0, 0), [(1, 1, 0)]), ((4294967293, 0), [(1, 0, 1)]), ((0, 0), [(2, 1, 0)]), ((4294967293, 0), [(2, 0, 1)]), ((0, 0), [(3, 1, 0)]), ((4294967293, 0), [(3, 0, 1)]), ((0, 0), [(10, 1, 0)]), ((4294967293, 0), [(10, 0, 1)])] [([], [], [(2000091, ((0, 0), [(4, 1, 0)]), ((1, 0), []))], [])]
theorem zx_D823_ok {PT : Nat → zz_W → Prop} : zx_Lok 64 zHT PT zx_D823 := by
  refine zx_Lc_ok (fun w hI hK ins hl hr he hg => ?_)
  obtain ⟨a0, a1, a2, a3, a4, a5, a6, a7, rfl⟩ := zx_i8 hl
  have e0 : (0 : Int) + (1 * a0 + ((-1) * a1 + ((-4294967296) * a2 + ((-18446744073709551616) * a3 + 0)))) = 0 := he _ List.mem_cons_self
  have e1 : ((-4294967296) : Int) + ((-1) * a1 + ((-4294967296) * a2 + ((-18446744073709551616) * a3 + (1 * a4 + 0)))) = 0 := he _ (List.mem_cons_of_mem _ List.mem_cons_self)
  have e2 : ((-1) : Int) + (1 * (zk_xe w 2000091 a0) + 0) = 0 := he _ (List.mem_cons_of_mem _ (List.mem_cons_of_mem _ List.mem_cons_self))
  have e3 : (0 : Int) + ((-1) * a2 + (1 * a5 + 0)) = 0 := he _ (List.mem_cons_of_mem _ (List.mem_cons_of_mem _ (List.mem_cons_of_mem _ List.mem_cons_self)))
  have e4 : (0 : Int) + ((-1) * a2 + (1 * a6 + 0)) = 0 := he _ (List.mem_cons_of_mem _ (List.mem_cons_of_mem _ (List.mem_cons_of_mem _ (List.mem_cons_of_mem _ List.mem_cons_self))))
  have e5 : ((-1) : Int) + (1 * (zk_xe w 2000089 a7) + 0) = 0 := he _ (List.mem_cons_of_mem _ (List.mem_cons_of_mem _ (List.mem_cons_of_mem _ (List.mem_cons_of_mem _ (List.mem_cons_of_mem _ List.mem_cons_self)))))
  have e6 : ((-4294967297) : Int) + (1 * a7 + ((-1) * (zk_xe w 247 a6) + 0)) = 0 := he _ (List.mem_cons_of_mem _ (List.mem_cons_of_mem _ (List.mem_cons_of_mem _ (List.mem_cons_of_mem _ (List.mem_cons_of_mem _ (List.mem_cons_of_mem _ List.mem_cons_self))))))
  have g0 : 0 ≤ (0 : Int) + (1 * a1 + 0) := hg _ List.mem_cons_self
  have g1 : 0 ≤ (4294967293 : Int) + ((-1) * a1 + 0) := hg _ (List.mem_cons_of_mem _ List.mem_cons_self)
  have g2 : 0 ≤ (0 : Int) + (1 * a2 + 0) := hg _ (List.mem_cons_of_mem _ (List.mem_cons_of_mem _ List.mem_cons_self))
  have g3 : 0 ≤ (4294967293 : Int) + ((-1) * a2 + 0) := hg _ (List.mem_cons_of_mem _ (List.mem_cons_of_mem _ (List.mem_cons_of_mem _ List.mem_cons_self)))
  have g4 : 0 ≤ (0 : Int) + (1 * a3 + 0) := hg _ (List.mem_cons_of_mem _ (List.mem_cons_of_mem _ (List.mem_cons_of_mem _ (List.mem_cons_of_mem _ List.mem_cons_self))))
  have g5 : 0 ≤ (4294967293 : Int) + ((-1) * a3 + 0) := hg _ (List.mem_cons_of_mem _ (List.mem_cons_of_mem _ (List.mem_cons_of_mem _ (List.mem_cons_of_mem _ (List.mem_cons_of_mem _ List.mem_cons_self)))))
  have g6 : 0 ≤ (0 : Int) + (1 * (zk_xe w 247 a6) + 0) := hg _ (List.mem_cons_of_mem _ (List.mem_cons_of_mem _ (List.mem_cons_of_mem _ (List.mem_cons_of_mem _ (List.mem_cons_of_mem _ (List.mem_cons_of_mem _ List.mem_cons_self))))))
  have g7 : 0 ≤ (4294967293 : Int) + ((-1) * (zk_xe w 247 a6) + 0) := hg _ (List.mem_cons_of_mem _ (List.mem_cons_of_mem _ (List.mem_cons_of_mem _ (List.mem_cons_of_mem _ (List.mem_cons_of_mem _ (List.mem_cons_of_mem _ (List.mem_cons_of_mem _ List.mem_cons_self)))))))
  have r0 : 0 ≤ a0 := hr _ List.mem_cons_self
  have r1 : 0 ≤ a5 := hr _ (List.mem_cons_of_mem _ List.mem_cons_self)
  have r2 : 0 ≤ a6 := hr _ (List.mem_cons_of_mem _ (List.mem_cons_of_mem _ List.mem_cons_self))
  have r3 : 0 ≤ a7 := hr _ (List.mem_cons_of_mem _ (List.mem_cons_of_mem _ (List.mem_cons_of_mem _ List.mem_cons_self)))
  have hp := (zn_91 (w := w) (j := a0) (n := a1) (c := a2) (f := a3) (by omega) (by omega) (by omega) (by omega) (by omega) (by omega) (by omega) ).mp (by omega)
  have k0 : zh_e w 239 (a2) = zk_xe w 239 a5 := by rw [zk_xe_r (i := 239) (by decide)]; show zk_el w 239 (a2) = zk_el w 239 a5; rw [show a2 = a5 by omega]
  have k1 : zh_e w 247 (a2) = zk_xe w 247 a6 := by rw [zk_xe_r (i := 247) (by decide)]; show zk_el w 247 (a2) = zk_el w 247 a6; rw [show a2 = a6 by omega]
  have h : zp_pp (zn_l w 173) (zn_l w 174) (zh_e w 229) (zh_e w 239) (zh_e w 247) (zh_e w 233) a1 (a2 + 1) a3 := by
    refine ⟨hp.1, fun i i0 i1 ik => ?_, hp.2.2⟩
    by_cases c : i = a2
    · rw [c, k1]
      exact ⟨by omega, (zn_89 (w := w) (j := a7) (n := (zk_xe w 247 a6)) (by omega) (by omega) (by omega) ).mp (by omega)⟩
    · exact hp.2.1 i i0 (by omega) ik
  exact ⟨_, List.mem_cons_self, [], rfl, zx_bnil, zx_cs0, (zx_eF1 (by show 0 ≤ (0 : Int) + (1 * a4 + 0); omega) (by show zk_xe w 2000091 ((0 : Int) + (1 * a4 + 0)) = (1 : Int) + (0); rw [show (0 : Int) + (1 * a4 + 0) = a4 by omega]; exact ((zn_91 (w := w) (j := a4) (n := a1) (c := (a2 + 1)) (f := a3) (by omega) (by omega) (by omega) (by omega) (by omega) (by omega) (by omega) ).mpr (h)).trans (by omega)) zx_eF0), zx_k0⟩
def zx_D824 : zx_L := zx_Lc [] 6 [(2000091, 0), (239, 5)] [] [((0, 0), [(0, 1, 0), (1, 0, 1), (2, 0, 4294967296), (3, 0, 18446744073709551616)]), ((0, 4294967296), [(1, 0, 1), (2, 0, 4294967296), (3, 0, 18446744073709551616), (4, 1, 0)]), ((0, 1), [(6, 1, 0)]), ((0, 0), [(2, 0, 1), (5, 1, 0)])] [((0, 0), [(1, 1, 0)]), ((4294967293, 0), [(1, 0, 1)]), ((0, 0), [(2, 1, 0)]), ((4294967293, 0), [(2, 0, 1)]), ((0, 0), [(3, 1, 0)]), ((4294967293, 0), [(3, 0, 1)]), ((1, 0), [(7, 0, 1)])] [([], [], [(2000091, ((0, 0), [(4, 1, 0)]), ((1, 0), []))], [])]
theorem zx_D824_ok {PT : Nat → zz_W → Prop} : zx_Lok 64 zHT PT zx_D824 := by
  refine zx_Lc_ok (fun w hI hK ins hl hr he hg => ?_)
  obtain ⟨a0, a1, a2, a3, a4, a5, rfl⟩ := zx_i6 hl
  have e0 : (0 : Int) + (1 * a0 + ((-1) * a1 + ((-4294967296) * a2 + ((-18446744073709551616) * a3 + 0)))) = 0 := he _ List.mem_cons_self
  have e1 : ((-4294967296) : Int) + ((-1) * a1 + ((-4294967296) * a2 + ((-18446744073709551616) * a3 + (1 * a4 + 0)))) = 0 := he _ (List.mem_cons_of_mem _ List.mem_cons_self)
  have e2 : ((-1) : Int) + (1 * (zk_xe w 2000091 a0) + 0) = 0 := he _ (List.mem_cons_of_mem _ (List.mem_cons_of_mem _ List.mem_cons_self))
  have e3 : (0 : Int) + ((-1) * a2 + (1 * a5 + 0)) = 0 := he _ (List.mem_cons_of_mem _ (List.mem_cons_of_mem _ (List.mem_cons_of_mem _ List.mem_cons_self)))
  have g0 : 0 ≤ (0 : Int) + (1 * a1 + 0) := hg _ List.mem_cons_self
  have g1 : 0 ≤ (4294967293 : Int) + ((-1) * a1 + 0) := hg _ (List.mem_cons_of_mem _ List.mem_cons_self)
  have g2 : 0 ≤ (0 : Int) + (1 * a2 + 0) := hg _ (List.mem_cons_of_mem _ (List.mem_cons_of_mem _ List.mem_cons_self))
  have g3 : 0 ≤ (4294967293 : Int) + ((-1) * a2 + 0) := hg _ (List.mem_cons_of_mem _ (List.mem_cons_of_mem _ (List.mem_cons_of_mem _ List.mem_cons_self)))
  have g4 : 0 ≤ (0 : Int) + (1 * a3 + 0) := hg _ (List.mem_cons_of_mem _ (List.mem_cons_of_mem _ (List.mem_cons_of_mem _ (List.mem_cons_of_mem _ List.mem_cons_self))))
  have g5 : 0 ≤ (4294967293 : Int) + ((-1) * a3 + 0) := hg _ (List.mem_cons_of_mem _ (List.mem_cons_of_mem _ (List.mem_cons_of_mem _ (List.mem_cons_of_mem _ (List.mem_cons_of_mem _ List.mem_cons_self)))))
  have g6 : 0 ≤ (1 : Int) + ((-1) * (zk_xe w 239 a5) + 0) := hg _ (List.mem_cons_of_mem _ (List.mem_cons_of_mem _ (List.mem_cons_of_mem _ (List.mem_cons_of_mem _ (List.mem_cons_of_mem _ (List.mem_cons_of_mem _ List.mem_cons_self))))))
  have r0 : 0 ≤ a0 := hr _ List.mem_cons_self
  have r1 : 0 ≤ a5 := hr _ (List.mem_cons_of_mem _ List.mem_cons_self)
  have hp := (zn_91 (w := w) (j := a0) (n := a1) (c := a2) (f := a3) (by omega) (by omega) (by omega) (by omega) (by omega) (by omega) (by omega) ).mp (by omega)
  have k0 : zh_e w 239 (a2) = zk_xe w 239 a5 := by rw [zk_xe_r (i := 239) (by decide)]; show zk_el w 239 (a2) = zk_el w 239 a5; rw [show a2 = a5 by omega]
  have h : zp_pp (zn_l w 173) (zn_l w 174) (zh_e w 229) (zh_e w 239) (zh_e w 247) (zh_e w 233) a1 (a2 + 1) a3 := by
    refine ⟨hp.1, fun i i0 i1 ik => ?_, hp.2.2⟩
    by_cases c : i = a2
    · rw [c, k0] at ik
      omega
    · exact hp.2.1 i i0 (by omega) ik
  exact ⟨_, List.mem_cons_self, [], rfl, zx_bnil, zx_cs0, (zx_eF1 (by show 0 ≤ (0 : Int) + (1 * a4 + 0); omega) (by show zk_xe w 2000091 ((0 : Int) + (1 * a4 + 0)) = (1 : Int) + (0); rw [show (0 : Int) + (1 * a4 + 0) = a4 by omega]; exact ((zn_91 (w := w) (j := a4) (n := a1) (c := (a2 + 1)) (f := a3) (by omega) (by omega) (by omega) (by omega) (by omega) (by omega) (by omega) ).mpr (h)).trans (by omega)) zx_eF0), zx_k0⟩
def zx_D825 : zx_L := zx_Lc [] 6 [(2000091, 0)] [] [((0, 0), [(0, 1, 0), (1, 0, 1), (2, 0, 4294967296), (3, 0, 18446744073709551616)]), ((0, 1), [(6, 1, 0)]), ((0, 0), [(1, 0, 1), (3, 0, 18446744073709551616), (4, 1, 0), (5, 0, 4294967296)])] [((0, 0), [(1, 1, 0)]), ((4294967293, 0), [(1, 0, 1)]), ((0, 0), [(2, 1, 0)]), ((4294967293, 0), [(2, 0, 1)]), ((0, 0), [(3, 1, 0)]), ((4294967293, 0), [(3, 0, 1)]), ((0, 0), [(5, 1, 0)]), ((0, 0), [(2, 1, 0), (5, 0, 1)])] [([], [], [(2000091, ((0, 0), [(4, 1, 0)]), ((1, 0), []))], [])]
theorem zx_D825_ok {PT : Nat → zz_W → Prop} : zx_Lok 64 zHT PT zx_D825 := by
  refine zx_Lc_ok (fun w hI hK ins hl hr he hg => ?_)
  obtain ⟨a0, a1, a2, a3, a4, a5, rfl⟩ := zx_i6 hl
  have e0 : (0 : Int) + (1 * a0 + ((-1) * a1 + ((-4294967296) * a2 + ((-18446744073709551616) * a3 + 0)))) = 0 := he _ List.mem_cons_self
  have e1 : ((-1) : Int) + (1 * (zk_xe w 2000091 a0) + 0) = 0 := he _ (List.mem_cons_of_mem _ List.mem_cons_self)
  have e2 : (0 : Int) + ((-1) * a1 + ((-18446744073709551616) * a3 + (1 * a4 + ((-4294967296) * a5 + 0)))) = 0 := he _ (List.mem_cons_of_mem _ (List.mem_cons_of_mem _ List.mem_cons_self))
  have g0 : 0 ≤ (0 : Int) + (1 * a1 + 0) := hg _ List.mem_cons_self
  have g1 : 0 ≤ (4294967293 : Int) + ((-1) * a1 + 0) := hg _ (List.mem_cons_of_mem _ List.mem_cons_self)
  have g2 : 0 ≤ (0 : Int) + (1 * a2 + 0) := hg _ (List.mem_cons_of_mem _ (List.mem_cons_of_mem _ List.mem_cons_self))
  have g3 : 0 ≤ (4294967293 : Int) + ((-1) * a2 + 0) := hg _ (List.mem_cons_of_mem _ (List.mem_cons_of_mem _ (List.mem_cons_of_mem _ List.mem_cons_self)))
  have g4 : 0 ≤ (0 : Int) + (1 * a3 + 0) := hg _ (List.mem_cons_of_mem _ (List.mem_cons_of_mem _ (List.mem_cons_of_mem _ (List.mem_cons_of_mem _ List.mem_cons_self))))
  have g5 : 0 ≤ (4294967293 : Int) + ((-1) * a3 + 0) := hg _ (List.mem_cons_of_mem _ (List.mem_cons_of_mem _ (List.mem_cons_of_mem _ (List.mem_cons_of_mem _ (List.mem_cons_of_mem _ List.mem_cons_self)))))
  have g6 : 0 ≤ (0 : Int) + (1 * a5 + 0) := hg _ (List.mem_cons_of_mem _ (List.mem_cons_of_mem _ (List.mem_cons_of_mem _ (List.mem_cons_of_mem _ (List.mem_cons_of_mem _ (List.mem_cons_of_mem _ List.mem_cons_self))))))
  have g7 : 0 ≤ (0 : Int) + (1 * a2 + ((-1) * a5 + 0)) := hg _ (List.mem_cons_of_mem _ (List.mem_cons_of_mem _ (List.mem_cons_of_mem _ (List.mem_cons_of_mem _ (List.mem_cons_of_mem _ (List.mem_cons_of_mem _ (List.mem_cons_of_mem _ List.mem_cons_self)))))))
  have r0 : 0 ≤ a0 := hr _ List.mem_cons_self
  have hp := (zn_91 (w := w) (j := a0) (n := a1) (c := a2) (f := a3) (by omega) (by omega) (by omega) (by omega) (by omega) (by omega) (by omega) ).mp (by omega)
  have h : zp_pp (zn_l w 173) (zn_l w 174) (zh_e w 229) (zh_e w 239) (zh_e w 247) (zh_e w 233) a1 a5 a3 := ⟨hp.1, fun i i0 i1 ik => hp.2.1 i i0 (by omega) ik, hp.2.2⟩
  exact ⟨_, List.mem_cons_self, [], rfl, zx_bnil, zx_cs0, (zx_eF1 (by show 0 ≤ (0 : Int) + (1 * a4 + 0); omega) (by show zk_xe w 2000091 ((0 : Int) + (1 * a4 + 0)) = (1 : Int) + (0); rw [show (0 : Int) + (1 * a4 + 0) = a4 by omega]; exact ((zn_91 (w := w) (j := a4) (n := a1) (c := a5) (f := a3) (by omega) (by omega) (by omega) (by omega) (by omega) (by omega) (by omega) ).mpr (h)).trans (by omega)) zx_eF0), zx_k0⟩
def zx_D826 : zx_L := zx_Lc [] 7 [(2000091, 0), (239, 4), (247, 5)] [] [((0, 0), [(0, 1, 0), (1, 0, 1), (2, 0, 4294967296), (3, 0, 18446744073709551616)]), ((0, 1), [(7, 1, 0)]), ((0, 0), [(4, 0, 1), (5, 1, 0)]), ((0, 4294967297), [(6, 1, 0), (9, 0, 1)])] [((0, 0), [(1, 1, 0)]), ((4294967293, 0), [(1, 0, 1)]), ((0, 0), [(2, 1, 0)]), ((4294967293, 0), [(2, 0, 1)]), ((0, 0), [(3, 1, 0)]), ((4294967293, 0), [(3, 0, 1)]), ((0, 0), [(4, 1, 0)]), ((0, 1), [(2, 1, 0), (4, 0, 1)]), ((0, 2), [(8, 1, 0)]), ((4294967293, 0), [(9, 0, 1)])] [([], [((0, 0), [(9, 1, 0)])], [(2000089, ((0, 0), [(6, 1, 0)]), ((1, 0), []))], [])]
theorem zx_D826_ok {PT : Nat → zz_W → Prop} : zx_Lok 64 zHT PT zx_D826 := by
  refine zx_Lc_ok (fun w hI hK ins hl hr he hg => ?_)
  obtain ⟨a0, a1, a2, a3, a4, a5, a6, rfl⟩ := zx_i7 hl
  have e0 : (0 : Int) + (1 * a0 + ((-1) * a1 + ((-4294967296) * a2 + ((-18446744073709551616) * a3 + 0)))) = 0 := he _ List.mem_cons_self
  have e1 : ((-1) : Int) + (1 * (zk_xe w 2000091 a0) + 0) = 0 := he _ (List.mem_cons_of_mem _ List.mem_cons_self)
  have e2 : (0 : Int) + ((-1) * a4 + (1 * a5 + 0)) = 0 := he _ (List.mem_cons_of_mem _ (List.mem_cons_of_mem _ List.mem_cons_self))
  have e3 : ((-4294967297) : Int) + (1 * a6 + ((-1) * (zk_xe w 247 a5) + 0)) = 0 := he _ (List.mem_cons_of_mem _ (List.mem_cons_of_mem _ (List.mem_cons_of_mem _ List.mem_cons_self)))
  have g0 : 0 ≤ (0 : Int) + (1 * a1 + 0) := hg _ List.mem_cons_self
  have g1 : 0 ≤ (4294967293 : Int) + ((-1) * a1 + 0) := hg _ (List.mem_cons_of_mem _ List.mem_cons_self)
  have g2 : 0 ≤ (0 : Int) + (1 * a2 + 0) := hg _ (List.mem_cons_of_mem _ (List.mem_cons_of_mem _ List.mem_cons_self))
  have g3 : 0 ≤ (4294967293 : Int) + ((-1) * a2 + 0) := hg _ (List.mem_cons_of_mem _ (List.mem_cons_of_mem _ (List.mem_cons_of_mem _ List.mem_cons_self)))
  have g4 : 0 ≤ (0 : Int) + (1 * a3 + 0) := hg _ (List.mem_cons_of_mem _ (List.mem_cons_of_mem _ (List.mem_cons_of_mem _ (List.mem_cons_of_mem _ List.mem_cons_self))))
  have g5 : 0 ≤ (4294967293 : Int) + ((-1) * a3 + 0) := hg _ (List.mem_cons_of_mem _ (List.mem_cons_of_mem _ (List.mem_cons_of_mem _ (List.mem_cons_of_mem _ (List.mem_cons_of_mem _ List.mem_cons_self)))))
  have g6 : 0 ≤ (0 : Int) + (1 * a4 + 0) := hg _ (List.mem_cons_of_mem _ (List.mem_cons_of_mem _ (List.mem_cons_of_mem _ (List.mem_cons_of_mem _ (List.mem_cons_of_mem _ (List.mem_cons_of_mem _ List.mem_cons_self))))))
  have g7 : 0 ≤ ((-1) : Int) + (1 * a2 + ((-1) * a4 + 0)) := hg _ (List.mem_cons_of_mem _ (List.mem_cons_of_mem _ (List.mem_cons_of_mem _ (List.mem_cons_of_mem _ (List.mem_cons_of_mem _ (List.mem_cons_of_mem _ (List.mem_cons_of_mem _ List.mem_cons_self)))))))
  have g8 : 0 ≤ ((-2) : Int) + (1 * (zk_xe w 239 a4) + 0) := hg _ (List.mem_cons_of_mem _ (List.mem_cons_of_mem _ (List.mem_cons_of_mem _ (List.mem_cons_of_mem _ (List.mem_cons_of_mem _ (List.mem_cons_of_mem _ (List.mem_cons_of_mem _ (List.mem_cons_of_mem _ List.mem_cons_self))))))))
  have g9 : 0 ≤ (4294967293 : Int) + ((-1) * (zk_xe w 247 a5) + 0) := hg _ (List.mem_cons_of_mem _ (List.mem_cons_of_mem _ (List.mem_cons_of_mem _ (List.mem_cons_of_mem _ (List.mem_cons_of_mem _ (List.mem_cons_of_mem _ (List.mem_cons_of_mem _ (List.mem_cons_of_mem _ (List.mem_cons_of_mem _ List.mem_cons_self)))))))))
  have r0 : 0 ≤ a0 := hr _ List.mem_cons_self
  have r1 : 0 ≤ a4 := hr _ (List.mem_cons_of_mem _ List.mem_cons_self)
  have r2 : 0 ≤ a5 := hr _ (List.mem_cons_of_mem _ (List.mem_cons_of_mem _ List.mem_cons_self))
  have hp := (zn_91 (w := w) (j := a0) (n := a1) (c := a2) (f := a3) (by omega) (by omega) (by omega) (by omega) (by omega) (by omega) (by omega) ).mp (by omega)
  have k0 : zh_e w 239 (a4) = zk_xe w 239 a4 := by rw [zk_xe_r (i := 239) (by decide)]; show zk_el w 239 (a4) = zk_el w 239 a4; rw [show a4 = a4 by omega]
  have k1 : zh_e w 247 (a4) = zk_xe w 247 a5 := by rw [zk_xe_r (i := 247) (by decide)]; show zk_el w 247 (a4) = zk_el w 247 a5; rw [show a4 = a5 by omega]
  have h := hp.2.1 a4 (by omega) (by omega) (by rw [k0]; omega)
  rw [k1] at h
  have h0 := h.1
  exact ⟨_, List.mem_cons_self, [], rfl, zx_bnil, (zx_cs1 (by show 0 ≤ (0 : Int) + (1 * (zk_xe w 247 a5) + 0); omega) zx_cs0), (zx_eF1 (by show 0 ≤ (0 : Int) + (1 * a6 + 0); omega) (by show zk_xe w 2000089 ((0 : Int) + (1 * a6 + 0)) = (1 : Int) + (0); rw [show (0 : Int) + (1 * a6 + 0) = a6 by omega]; exact ((zn_89 (w := w) (j := a6) (n := (zk_xe w 247 a5)) (by omega) (by omega) (by omega) ).mpr h.2).trans (by omega)) zx_eF0), zx_k0⟩
def zx_D827 : zx_L := zx_Lc [] 6 [(2000091, 0), (233, 4)] [] [((0, 0), [(0, 1, 0), (1, 0, 1), (2, 0, 4294967296), (3, 0, 18446744073709551616)]), ((0, 1), [(6, 1, 0)]), ((0, 4294967297), [(5, 1, 0), (7, 0, 1)])] [((0, 0), [(1, 1, 0)]), ((4294967293, 0), [(1, 0, 1)]), ((0, 0), [(2, 1, 0)]), ((4294967293, 0), [(2, 0, 1)]), ((0, 0), [(3, 1, 0)]), ((4294967293, 0), [(3, 0, 1)]), ((0, 0), [(4, 1, 0)]), ((0, 1), [(3, 1, 0), (4, 0, 1)]), ((4294967293, 0), [(7, 0, 1)])] [([], [((0, 0), [(7, 1, 0)])], [(2000089, ((0, 0), [(5, 1, 0)]), ((1, 0), []))], [])]
theorem zx_D827_ok {PT : Nat → zz_W → Prop} : zx_Lok 64 zHT PT zx_D827 := by
  refine zx_Lc_ok (fun w hI hK ins hl hr he hg => ?_)
  obtain ⟨a0, a1, a2, a3, a4, a5, rfl⟩ := zx_i6 hl
  have e0 : (0 : Int) + (1 * a0 + ((-1) * a1 + ((-4294967296) * a2 + ((-18446744073709551616) * a3 + 0)))) = 0 := he _ List.mem_cons_self
  have e1 : ((-1) : Int) + (1 * (zk_xe w 2000091 a0) + 0) = 0 := he _ (List.mem_cons_of_mem _ List.mem_cons_self)
  have e2 : ((-4294967297) : Int) + (1 * a5 + ((-1) * (zk_xe w 233 a4) + 0)) = 0 := he _ (List.mem_cons_of_mem _ (List.mem_cons_of_mem _ List.mem_cons_self))
  have g0 : 0 ≤ (0 : Int) + (1 * a1 + 0) := hg _ List.mem_cons_self
  have g1 : 0 ≤ (4294967293 : Int) + ((-1) * a1 + 0) := hg _ (List.mem_cons_of_mem _ List.mem_cons_self)
  have g2 : 0 ≤ (0 : Int) + (1 * a2 + 0) := hg _ (List.mem_cons_of_mem _ (List.mem_cons_of_mem _ List.mem_cons_self))
  have g3 : 0 ≤ (4294967293 : Int) + ((-1) * a2 + 0) := hg _ (List.mem_cons_of_mem _ (List.mem_cons_of_mem _ (List.mem_cons_of_mem _ List.mem_cons_self)))
  have g4 : 0 ≤ (0 : Int) + (1 * a3 + 0) := hg _ (List.mem_cons_of_mem _ (List.mem_cons_of_mem _ (List.mem_cons_of_mem _ (List.mem_cons_of_mem _ List.mem_cons_self))))
  have g5 : 0 ≤ (4294967293 : Int) + ((-1) * a3 + 0) := hg _ (List.mem_cons_of_mem _ (List.mem_cons_of_mem _ (List.mem_cons_of_mem _ (List.mem_cons_of_mem _ (List.mem_cons_of_mem _ List.mem_cons_self)))))
  have g6 : 0 ≤ (0 : Int) + (1 * a4 + 0) := hg _ (List.mem_cons_of_mem _ (List.mem_cons_of_mem _ (List.mem_cons_of_mem _ (List.mem_cons_of_mem _ (List.mem_cons_of_mem _ (List.mem_cons_of_mem _ List.mem_cons_self))))))
  have g7 : 0 ≤ ((-1) : Int) + (1 * a3 + ((-1) * a4 + 0)) := hg _ (List.mem_cons_of_mem _ (List.mem_cons_of_mem _ (List.mem_cons_of_mem _ (List.mem_cons_of_mem _ (List.mem_cons_of_mem _ (List.mem_cons_of_mem _ (List.mem_cons_of_mem _ List.mem_cons_self)))))))
  have g8 : 0 ≤ (4294967293 : Int) + ((-1) * (zk_xe w 233 a4) + 0) := hg _ (List.mem_cons_of_mem _ (List.mem_cons_of_mem _ (List.mem_cons_of_mem _ (List.mem_cons_of_mem _ (List.mem_cons_of_mem _ (List.mem_cons_of_mem _ (List.mem_cons_of_mem _ (List.mem_cons_of_mem _ List.mem_cons_self))))))))
  have r0 : 0 ≤ a0 := hr _ List.mem_cons_self
  have r1 : 0 ≤ a4 := hr _ (List.mem_cons_of_mem _ List.mem_cons_self)
  have hp := (zn_91 (w := w) (j := a0) (n := a1) (c := a2) (f := a3) (by omega) (by omega) (by omega) (by omega) (by omega) (by omega) (by omega) ).mp (by omega)
  have k1 : zh_e w 233 (a4) = zk_xe w 233 a4 := by rw [zk_xe_r (i := 233) (by decide)]; show zk_el w 233 (a4) = zk_el w 233 a4; rw [show a4 = a4 by omega]
  have h := hp.2.2 a4 (by omega) (by omega)
  rw [k1] at h
  have h0 := h.1
  exact ⟨_, List.mem_cons_self, [], rfl, zx_bnil, (zx_cs1 (by show 0 ≤ (0 : Int) + (1 * (zk_xe w 233 a4) + 0); omega) zx_cs0), (zx_eF1 (by show 0 ≤ (0 : Int) + (1 * a5 + 0); omega) (by show zk_xe w 2000089 ((0 : Int) + (1 * a5 + 0)) = (1 : Int) + (0); rw [show (0 : Int) + (1 * a5 + 0) = a5 by omega]; exact ((zn_89 (w := w) (j := a5) (n := (zk_xe w 233 a4)) (by omega) (by omega) (by omega) ).mpr h.2).trans (by omega)) zx_eF0), zx_k0⟩
def zx_D828 : zx_L := zx_Lc [] 6 [(2000091, 0), (229, 4)] [] [((0, 0), [(0, 1, 0), (1, 0, 1), (2, 0, 4294967296), (3, 0, 18446744073709551616)]), ((0, 1), [(6, 1, 0)]), ((0, 4294967297), [(5, 1, 0), (7, 0, 1)])] [((0, 0), [(1, 1, 0)]), ((4294967293, 0), [(1, 0, 1)]), ((0, 0), [(2, 1, 0)]), ((4294967293, 0), [(2, 0, 1)]), ((0, 0), [(3, 1, 0)]), ((4294967293, 0), [(3, 0, 1)]), ((0, 0), [(4, 1, 0)]), ((0, 1), [(1, 1, 0), (4, 0, 1)]), ((4294967293, 0), [(7, 0, 1)])] [([], [((0, 0), [(7, 1, 0)])], [(2000089, ((0, 0), [(5, 1, 0)]), ((1, 0), []))], [])]
theorem zx_D828_ok {PT : Nat → zz_W → Prop} : zx_Lok 64 zHT PT zx_D828 := by
  refine zx_Lc_ok (fun w hI hK ins hl hr he hg => ?_)
  obtain ⟨a0, a1, a2, a3, a4, a5, rfl⟩ := zx_i6 hl
  have e0 : (0 : Int) + (1 * a0 + ((-1) * a1 + ((-4294967296) * a2 + ((-18446744073709551616) * a3 + 0)))) = 0 := he _ List.mem_cons_self
  have e1 : ((-1) : Int) + (1 * (zk_xe w 2000091 a0) + 0) = 0 := he _ (List.mem_cons_of_mem _ List.mem_cons_self)
  have e2 : ((-4294967297) : Int) + (1 * a5 + ((-1) * (zk_xe w 229 a4) + 0)) = 0 := he _ (List.mem_cons_of_mem _ (List.mem_cons_of_mem _ List.mem_cons_self))
  have g0 : 0 ≤ (0 : Int) + (1 * a1 + 0) := hg _ List.mem_cons_self
  have g1 : 0 ≤ (4294967293 : Int) + ((-1) * a1 + 0) := hg _ (List.mem_cons_of_mem _ List.mem_cons_self)
  have g2 : 0 ≤ (0 : Int) + (1 * a2 + 0) := hg _ (List.mem_cons_of_mem _ (List.mem_cons_of_mem _ List.mem_cons_self))
  have g3 : 0 ≤ (4294967293 : Int) + ((-1) * a2 + 0) := hg _ (List.mem_cons_of_mem _ (List.mem_cons_of_mem _ (List.mem_cons_of_mem _ List.mem_cons_self)))
  have g4 : 0 ≤ (0 : Int) + (1 * a3 + 0) := hg _ (List.mem_cons_of_mem _ (List.mem_cons_of_mem _ (List.mem_cons_of_mem _ (List.mem_cons_of_mem _ List.mem_cons_self))))
  have g5 : 0 ≤ (4294967293 : Int) + ((-1) * a3 + 0) := hg _ (List.mem_cons_of_mem _ (List.mem_cons_of_mem _ (List.mem_cons_of_mem _ (List.mem_cons_of_mem _ (List.mem_cons_of_mem _ List.mem_cons_self)))))
  have g6 : 0 ≤ (0 : Int) + (1 * a4 + 0) := hg _ (List.mem_cons_of_mem _ (List.mem_cons_of_mem _ (List.mem_cons_of_mem _ (List.mem_cons_of_mem _ (List.mem_cons_of_mem _ (List.mem_cons_of_mem _ List.mem_cons_self))))))
  have g7 : 0 ≤ ((-1) : Int) + (1 * a1 + ((-1) * a4 + 0)) := hg _ (List.mem_cons_of_mem _ (List.mem_cons_of_mem _ (List.mem_cons_of_mem _ (List.mem_cons_of_mem _ (List.mem_cons_of_mem _ (List.mem_cons_of_mem _ (List.mem_cons_of_mem _ List.mem_cons_self)))))))
  have g8 : 0 ≤ (4294967293 : Int) + ((-1) * (zk_xe w 229 a4) + 0) := hg _ (List.mem_cons_of_mem _ (List.mem_cons_of_mem _ (List.mem_cons_of_mem _ (List.mem_cons_of_mem _ (List.mem_cons_of_mem _ (List.mem_cons_of_mem _ (List.mem_cons_of_mem _ (List.mem_cons_of_mem _ List.mem_cons_self))))))))
  have r0 : 0 ≤ a0 := hr _ List.mem_cons_self
  have r1 : 0 ≤ a4 := hr _ (List.mem_cons_of_mem _ List.mem_cons_self)
  have hp := (zn_91 (w := w) (j := a0) (n := a1) (c := a2) (f := a3) (by omega) (by omega) (by omega) (by omega) (by omega) (by omega) (by omega) ).mp (by omega)
  have k1 : zh_e w 229 (a4) = zk_xe w 229 a4 := by rw [zk_xe_r (i := 229) (by decide)]; show zk_el w 229 (a4) = zk_el w 229 a4; rw [show a4 = a4 by omega]
  have h := hp.1 a4 (by omega) (by omega)
  rw [k1] at h
  have h0 := h.1
  exact ⟨_, List.mem_cons_self, [], rfl, zx_bnil, (zx_cs1 (by show 0 ≤ (0 : Int) + (1 * (zk_xe w 229 a4) + 0); omega) zx_cs0), (zx_eF1 (by show 0 ≤ (0 : Int) + (1 * a5 + 0); omega) (by show zk_xe w 2000089 ((0 : Int) + (1 * a5 + 0)) = (1 : Int) + (0); rw [show (0 : Int) + (1 * a5 + 0) = a5 by omega]; exact ((zn_89 (w := w) (j := a5) (n := (zk_xe w 229 a4)) (by omega) (by omega) (by omega) ).mpr h.2).trans (by omega)) zx_eF0), zx_k0⟩
def zx_D829 : zx_L := zx_Lc [] 1 [] [] [] [((0, 0), [(0, 1, 0)])] [([(0, 1)], [], [(2000089, ((0, 0), [(0, 1, 0)]), ((0, 0), [(1, 1, 0)]))], [])]
theorem zx_D829_ok {PT : Nat → zz_W → Prop} : zx_Lok 64 zHT PT zx_D829 := by
  refine zx_Lc_ok (fun w hI hK ins hl hr he hg => ?_)
  obtain ⟨a0, rfl⟩ := zx_i1 hl
  have g0 : 0 ≤ (0 : Int) + (1 * a0 + 0) := hg _ List.mem_cons_self
  have hb := zn_89b (w := w) (j := a0)
  exact ⟨_, List.mem_cons_self, [zk_xe w 2000089 a0], rfl, (zx_bcons (by show (0 : Int) ≤ zk_xe w 2000089 a0 ∧ zk_xe w 2000089 a0 ≤ (1 : Int); omega) zx_bnil), zx_cs0, (zx_eF1 (by show 0 ≤ (0 : Int) + (1 * a0 + 0); omega) (by show zk_xe w 2000089 ((0 : Int) + (1 * a0 + 0)) = (0 : Int) + (1 * (zk_xe w 2000089 a0) + 0); rw [show (0 : Int) + (1 * a0 + 0) = a0 by omega]; omega) zx_eF0), zx_k0⟩
def zx_E590 : zx_V := zx_Vc 229 [] 4 [(2000091, 0)] [((0, 0), [(2, 1, 0), (3, 0, 1), (4, 0, 4294967296), (5, 0, 18446744073709551616)]), ((0, 1), [(6, 1, 0)])] [((0, 0), [(3, 1, 0)]), ((4294967293, 0), [(3, 0, 1)]), ((0, 0), [(4, 1, 0)]), ((4294967293, 0), [(4, 0, 1)]), ((0, 0), [(5, 1, 0)]), ((4294967293, 0), [(5, 0, 1)]), ((0, 0), [(0, 1, 0), (3, 0, 1)])] [(2000091, ((0, 0), [(2, 1, 0)]), ((1, 0), []))]
theorem zx_E590_ok {PT : Nat → zz_W → Prop} : zx_Vok 64 zHT PT zx_E590 := by
  refine zx_Vc_ok (fun w w' j ins hI hI' h0 hw hK hl he hg => ?_)
  obtain ⟨a0, a1, a2, a3, rfl⟩ := zx_i4 hl
  have e0 : (0 : Int) + (1 * a0 + ((-1) * a1 + ((-4294967296) * a2 + ((-18446744073709551616) * a3 + 0)))) = 0 := he _ List.mem_cons_self
  have e1 : ((-1) : Int) + (1 * (zk_xe w 2000091 a0) + 0) = 0 := he _ (List.mem_cons_of_mem _ List.mem_cons_self)
  have g0 : 0 ≤ (0 : Int) + (1 * a1 + 0) := hg _ List.mem_cons_self
  have g1 : 0 ≤ (4294967293 : Int) + ((-1) * a1 + 0) := hg _ (List.mem_cons_of_mem _ List.mem_cons_self)
  have g2 : 0 ≤ (0 : Int) + (1 * a2 + 0) := hg _ (List.mem_cons_of_mem _ (List.mem_cons_of_mem _ List.mem_cons_self))
  have g3 : 0 ≤ (4294967293 : Int) + ((-1) * a2 + 0) := hg _ (List.mem_cons_of_mem _ (List.mem_cons_of_mem _ (List.mem_cons_of_mem _ List.mem_cons_self)))
  have g4 : 0 ≤ (0 : Int) + (1 * a3 + 0) := hg _ (List.mem_cons_of_mem _ (List.mem_cons_of_mem _ (List.mem_cons_of_mem _ (List.mem_cons_of_mem _ List.mem_cons_self))))
  have g5 : 0 ≤ (4294967293 : Int) + ((-1) * a3 + 0) := hg _ (List.mem_cons_of_mem _ (List.mem_cons_of_mem _ (List.mem_cons_of_mem _ (List.mem_cons_of_mem _ (List.mem_cons_of_mem _ List.mem_cons_self)))))
  have g6 : 0 ≤ (0 : Int) + (1 * j + ((-1) * a1 + 0)) := hg _ (List.mem_cons_of_mem _ (List.mem_cons_of_mem _ (List.mem_cons_of_mem _ (List.mem_cons_of_mem _ (List.mem_cons_of_mem _ (List.mem_cons_of_mem _ List.mem_cons_self))))))
  have hp := (zn_91 (w := w) (j := a0) (n := a1) (c := a2) (f := a3) (by omega) (by omega) (by omega) (by omega) (by omega) (by omega) (by omega) ).mp (by omega)
  have h : zp_pp (zn_l w' 173) (zn_l w' 174) (zh_e w' 229) (zh_e w' 239) (zh_e w' 247) (zh_e w' 233) a1 a2 a3 := by
    rw [zn_l_g (hw.1 173 (by decide)), zn_l_g (hw.1 174 (by decide)), zh_e_g (hw.1 239 (by decide)), zh_e_g (hw.1 247 (by decide)), zh_e_g (hw.1 233 (by decide))]
    have e : ∀ i, 0 ≤ i → i ≠ j → zh_e w' 229 i = zh_e w 229 i := fun i i0 i1 => hw.2 i i0 i1
    refine ⟨fun i i0 i1 => ?_, hp.2.1, hp.2.2⟩
    rw [e i i0 (by omega)]
    exact hp.1 i i0 i1
  exact (zx_eF1 (by show 0 ≤ (0 : Int) + (1 * a0 + 0); omega) (by show zk_xe w' 2000091 ((0 : Int) + (1 * a0 + 0)) = (1 : Int) + (0); rw [show (0 : Int) + (1 * a0 + 0) = a0 by omega]; exact ((zn_91 (w := w') (j := a0) (n := a1) (c := a2) (f := a3) (by omega) (by omega) (by omega) (by omega) (by omega) (by omega) (by omega) ).mpr h).trans (by omega)) zx_eF0)
def zx_E591 : zx_V := zx_Vc 239 [] 4 [(2000091, 0)] [((0, 0), [(2, 1, 0), (3, 0, 1), (4, 0, 4294967296), (5, 0, 18446744073709551616)]), ((0, 1), [(6, 1, 0)])] [((0, 0), [(3, 1, 0)]), ((4294967293, 0), [(3, 0, 1)]), ((0, 0), [(4, 1, 0)]), ((4294967293, 0), [(4, 0, 1)]), ((0, 0), [(5, 1, 0)]), ((4294967293, 0), [(5, 0, 1)]), ((0, 0), [(0, 1, 0), (4, 0, 1)])] [(2000091, ((0, 0), [(2, 1, 0)]), ((1, 0), []))]
theorem zx_E591_ok {PT : Nat → zz_W → Prop} : zx_Vok 64 zHT PT zx_E591 := by
  refine zx_Vc_ok (fun w w' j ins hI hI' h0 hw hK hl he hg => ?_)
  obtain ⟨a0, a1, a2, a3, rfl⟩ := zx_i4 hl
  have e0 : (0 : Int) + (1 * a0 + ((-1) * a1 + ((-4294967296) * a2 + ((-18446744073709551616) * a3 + 0)))) = 0 := he _ List.mem_cons_self
  have e1 : ((-1) : Int) + (1 * (zk_xe w 2000091 a0) + 0) = 0 := he _ (List.mem_cons_of_mem _ List.mem_cons_self)
  have g0 : 0 ≤ (0 : Int) + (1 * a1 + 0) := hg _ List.mem_cons_self
  have g1 : 0 ≤ (4294967293 : Int) + ((-1) * a1 + 0) := hg _ (List.mem_cons_of_mem _ List.mem_cons_self)
  have g2 : 0 ≤ (0 : Int) + (1 * a2 + 0) := hg _ (List.mem_cons_of_mem _ (List.mem_cons_of_mem _ List.mem_cons_self))
  have g3 : 0 ≤ (4294967293 : Int) + ((-1) * a2 + 0) := hg _ (List.mem_cons_of_mem _ (List.mem_cons_of_mem _ (List.mem_cons_of_mem _ List.mem_cons_self)))
  have g4 : 0 ≤ (0 : Int) + (1 * a3 + 0) := hg _ (List.mem_cons_of_mem _ (List.mem_cons_of_mem _ (List.mem_cons_of_mem _ (List.mem_cons_of_mem _ List.mem_cons_self))))
  have g5 : 0 ≤ (4294967293 : Int) + ((-1) * a3 + 0) := hg _ (List.mem_cons_of_mem _ (List.mem_cons_of_mem _ (List.mem_cons_of_mem _ (List.mem_cons_of_mem _ (List.mem_cons_of_mem _ List.mem_cons_self)))))
  have g6 : 0 ≤ (0 : Int) + (1 * j + ((-1) * a2 + 0)) := hg _ (List.mem_cons_of_mem _ (List.mem_cons_of_mem _ (List.mem_cons_of_mem _ (List.mem_cons_of_mem _ (List.mem_cons_of_mem _ (List.mem_cons_of_mem _ List.mem_cons_self))))))
  have hp := (zn_91 (w := w) (j := a0) (n := a1) (c := a2) (f := a3) (by omega) (by omega) (by omega) (by omega) (by omega) (by omega) (by omega) ).mp (by omega)
  have h : zp_pp (zn_l w' 173) (zn_l w' 174) (zh_e w' 229) (zh_e w' 239) (zh_e w' 247) (zh_e w' 233) a1 a2 a3 := by
    rw [zn_l_g (hw.1 173 (by decide)), zn_l_g (hw.1 174 (by decide)), zh_e_g (hw.1 229 (by decide)), zh_e_g (hw.1 247 (by decide)), zh_e_g (hw.1 233 (by decide))]
    have e : ∀ i, 0 ≤ i → i ≠ j → zh_e w' 239 i = zh_e w 239 i := fun i i0 i1 => hw.2 i i0 i1
    refine ⟨hp.1, fun i i0 i1 ik => ?_, hp.2.2⟩
    rw [e i i0 (by omega)] at ik
    exact hp.2.1 i i0 i1 ik
  exact (zx_eF1 (by show 0 ≤ (0 : Int) + (1 * a0 + 0); omega) (by show zk_xe w' 2000091 ((0 : Int) + (1 * a0 + 0)) = (1 : Int) + (0); rw [show (0 : Int) + (1 * a0 + 0) = a0 by omega]; exact ((zn_91 (w := w') (j := a0) (n := a1) (c := a2) (f := a3) (by omega) (by omega) (by omega) (by omega) (by omega) (by omega) (by omega) ).mpr h).trans (by omega)) zx_eF0)
def zx_E592 : zx_V := zx_Vc 247 [] 4 [(2000091, 0)] [((0, 0), [(2, 1, 0), (3, 0, 1), (4, 0, 4294967296), (5, 0, 18446744073709551616)]), ((0, 1), [(6, 1, 0)])] [((0, 0), [(3, 1, 0)]), ((4294967293, 0), [(3, 0, 1)]), ((0, 0), [(4, 1, 0)]), ((4294967293, 0), [(4, 0, 1)]), ((0, 0), [(5, 1, 0)]), ((4294967293, 0), [(5, 0, 1)]), ((0, 0), [(0, 1, 0), (4, 0, 1)])] [(2000091, ((0, 0), [(2, 1, 0)]), ((1, 0), []))]
theorem zx_E592_ok {PT : Nat → zz_W → Prop} : zx_Vok 64 zHT PT zx_E592 := by
  refine zx_Vc_ok (fun w w' j ins hI hI' h0 hw hK hl he hg => ?_)
  obtain ⟨a0, a1, a2, a3, rfl⟩ := zx_i4 hl
  have e0 : (0 : Int) + (1 * a0 + ((-1) * a1 + ((-4294967296) * a2 + ((-18446744073709551616) * a3 + 0)))) = 0 := he _ List.mem_cons_self
  have e1 : ((-1) : Int) + (1 * (zk_xe w 2000091 a0) + 0) = 0 := he _ (List.mem_cons_of_mem _ List.mem_cons_self)
  have g0 : 0 ≤ (0 : Int) + (1 * a1 + 0) := hg _ List.mem_cons_self
  have g1 : 0 ≤ (4294967293 : Int) + ((-1) * a1 + 0) := hg _ (List.mem_cons_of_mem _ List.mem_cons_self)
  have g2 : 0 ≤ (0 : Int) + (1 * a2 + 0) := hg _ (List.mem_cons_of_mem _ (List.mem_cons_of_mem _ List.mem_cons_self))
  have g3 : 0 ≤ (4294967293 : Int) + ((-1) * a2 + 0) := hg _ (List.mem_cons_of_mem _ (List.mem_cons_of_mem _ (List.mem_cons_of_mem _ List.mem_cons_self)))
  have g4 : 0 ≤ (0 : Int) + (1 * a3 + 0) := hg _ (List.mem_cons_of_mem _ (List.mem_cons_of_mem _ (List.mem_cons_of_mem _ (List.mem_cons_of_mem _ List.mem_cons_self))))
  have g5 : 0 ≤ (4294967293 : Int) + ((-1) * a3 + 0) := hg _ (List.mem_cons_of_mem _ (List.mem_cons_of_mem _ (List.mem_cons_of_mem _ (List.mem_cons_of_mem _ (List.mem_cons_of_mem _ List.mem_cons_self)))))
  have g6 : 0 ≤ (0 : Int) + (1 * j + ((-1) * a2 + 0)) := hg _ (List.mem_cons_of_mem _ (List.mem_cons_of_mem _ (List.mem_cons_of_mem _ (List.mem_cons_of_mem _ (List.mem_cons_of_mem _ (List.mem_cons_of_mem _ List.mem_cons_self))))))
  have hp := (zn_91 (w := w) (j := a0) (n := a1) (c := a2) (f := a3) (by omega) (by omega) (by omega) (by omega) (by omega) (by omega) (by omega) ).mp (by omega)
  have h : zp_pp (zn_l w' 173) (zn_l w' 174) (zh_e w' 229) (zh_e w' 239) (zh_e w' 247) (zh_e w' 233) a1 a2 a3 := by
    rw [zn_l_g (hw.1 173 (by decide)), zn_l_g (hw.1 174 (by decide)), zh_e_g (hw.1 229 (by decide)), zh_e_g (hw.1 239 (by decide)), zh_e_g (hw.1 233 (by decide))]
    have e : ∀ i, 0 ≤ i → i ≠ j → zh_e w' 247 i = zh_e w 247 i := fun i i0 i1 => hw.2 i i0 i1
    refine ⟨hp.1, fun i i0 i1 ik => ?_, hp.2.2⟩
    rw [e i i0 (by omega)]
    exact hp.2.1 i i0 i1 ik
  exact (zx_eF1 (by show 0 ≤ (0 : Int) + (1 * a0 + 0); omega) (by show zk_xe w' 2000091 ((0 : Int) + (1 * a0 + 0)) = (1 : Int) + (0); rw [show (0 : Int) + (1 * a0 + 0) = a0 by omega]; exact ((zn_91 (w := w') (j := a0) (n := a1) (c := a2) (f := a3) (by omega) (by omega) (by omega) (by omega) (by omega) (by omega) (by omega) ).mpr h).trans (by omega)) zx_eF0)
def zx_E593 : zx_V := zx_Vc 233 [] 4 [(2000091, 0)] [((0, 0), [(2, 1, 0), (3, 0, 1), (4, 0, 4294967296), (5, 0, 18446744073709551616)]), ((0, 1), [(6, 1, 0)])] [((0, 0), [(3, 1, 0)]), ((4294967293, 0), [(3, 0, 1)]), ((0, 0), [(4, 1, 0)]), ((4294967293, 0), [(4, 0, 1)]), ((0, 0), [(5, 1, 0)]), ((4294967293, 0), [(5, 0, 1)]), ((0, 0), [(0, 1, 0), (5, 0, 1)])] [(2000091, ((0, 0), [(2, 1, 0)]), ((1, 0), []))]
theorem zx_E593_ok {PT : Nat → zz_W → Prop} : zx_Vok 64 zHT PT zx_E593 := by
  refine zx_Vc_ok (fun w w' j ins hI hI' h0 hw hK hl he hg => ?_)
  obtain ⟨a0, a1, a2, a3, rfl⟩ := zx_i4 hl
  have e0 : (0 : Int) + (1 * a0 + ((-1) * a1 + ((-4294967296) * a2 + ((-18446744073709551616) * a3 + 0)))) = 0 := he _ List.mem_cons_self
  have e1 : ((-1) : Int) + (1 * (zk_xe w 2000091 a0) + 0) = 0 := he _ (List.mem_cons_of_mem _ List.mem_cons_self)
  have g0 : 0 ≤ (0 : Int) + (1 * a1 + 0) := hg _ List.mem_cons_self
  have g1 : 0 ≤ (4294967293 : Int) + ((-1) * a1 + 0) := hg _ (List.mem_cons_of_mem _ List.mem_cons_self)
  have g2 : 0 ≤ (0 : Int) + (1 * a2 + 0) := hg _ (List.mem_cons_of_mem _ (List.mem_cons_of_mem _ List.mem_cons_self))
  have g3 : 0 ≤ (4294967293 : Int) + ((-1) * a2 + 0) := hg _ (List.mem_cons_of_mem _ (List.mem_cons_of_mem _ (List.mem_cons_of_mem _ List.mem_cons_self)))
  have g4 : 0 ≤ (0 : Int) + (1 * a3 + 0) := hg _ (List.mem_cons_of_mem _ (List.mem_cons_of_mem _ (List.mem_cons_of_mem _ (List.mem_cons_of_mem _ List.mem_cons_self))))
  have g5 : 0 ≤ (4294967293 : Int) + ((-1) * a3 + 0) := hg _ (List.mem_cons_of_mem _ (List.mem_cons_of_mem _ (List.mem_cons_of_mem _ (List.mem_cons_of_mem _ (List.mem_cons_of_mem _ List.mem_cons_self)))))
  have g6 : 0 ≤ (0 : Int) + (1 * j + ((-1) * a3 + 0)) := hg _ (List.mem_cons_of_mem _ (List.mem_cons_of_mem _ (List.mem_cons_of_mem _ (List.mem_cons_of_mem _ (List.mem_cons_of_mem _ (List.mem_cons_of_mem _ List.mem_cons_self))))))
  have hp := (zn_91 (w := w) (j := a0) (n := a1) (c := a2) (f := a3) (by omega) (by omega) (by omega) (by omega) (by omega) (by omega) (by omega) ).mp (by omega)
  have h : zp_pp (zn_l w' 173) (zn_l w' 174) (zh_e w' 229) (zh_e w' 239) (zh_e w' 247) (zh_e w' 233) a1 a2 a3 := by
    rw [zn_l_g (hw.1 173 (by decide)), zn_l_g (hw.1 174 (by decide)), zh_e_g (hw.1 229 (by decide)), zh_e_g (hw.1 239 (by decide)), zh_e_g (hw.1 247 (by decide))]
    have e : ∀ i, 0 ≤ i → i ≠ j → zh_e w' 233 i = zh_e w 233 i := fun i i0 i1 => hw.2 i i0 i1
    refine ⟨hp.1, hp.2.1, fun i i0 i1 => ?_⟩
    rw [e i i0 (by omega)]
    exact hp.2.2 i i0 i1
  exact (zx_eF1 (by show 0 ≤ (0 : Int) + (1 * a0 + 0); omega) (by show zk_xe w' 2000091 ((0 : Int) + (1 * a0 + 0)) = (1 : Int) + (0); rw [show (0 : Int) + (1 * a0 + 0) = a0 by omega]; exact ((zn_91 (w := w') (j := a0) (n := a1) (c := a2) (f := a3) (by omega) (by omega) (by omega) (by omega) (by omega) (by omega) (by omega) ).mpr h).trans (by omega)) zx_eF0)
/-- uses that are resolved (functions 92 to 94) -/
theorem zy_r92 {w : zz_W} {j n l o f : Int} (e : j = n + 4294967296 * (l + 1) + 18446744073709551616 * o + 79228162514264337593543950336 * f) (n0 : 0 ≤ n) (n1 : n < 4294967296) (l0 : 0 ≤ l + 1) (l1 : l + 1 < 4294967296) (o0 : 0 ≤ o) (o1 : o < 4294967296) (f0 : 0 ≤ f) (f1 : f < 4294967296) : zk_xe w 2000092 j = 1 ↔ zr_rv (zh_e w 229) (zh_e w 230) (zh_e w 231) (zh_e w 233) (zh_e w 234) (zh_e w 256) (zh_e w 257) (zh_e w 224) n l o f := by
  obtain ⟨d0, d1, d2, d3, -, -⟩ := zm_e4 (j := j) (c0 := n) (c1 := l + 1) (c2 := o) (c3 := f) (R := 0) (by omega) n0 n1 l0 l1 o0 o1 f0 f1
  rw [show (2000092 : Nat) = 2000000 + 92 from rfl, zk_xe_h]
  have h : zv_H 92 w j = zh_b (zr_rv (zh_e w 229) (zh_e w 230) (zh_e w 231) (zh_e w 233) (zh_e w 234) (zh_e w 256) (zh_e w 257) (zh_e w 224) n l o f) := by
    show zh_b (zr_rv (zh_e w 229) (zh_e w 230) (zh_e w 231) (zh_e w 233) (zh_e w 234) (zh_e w 256) (zh_e w 257) (zh_e w 224) (zv_dg 0 j) (zv_dg 1 j - 1) (zv_dg 2 j) (zv_dg 3 j)) = _
    rw [d0, d1, d2, d3, show l + 1 - 1 = l by omega]
  rw [h]
  exact ⟨zh_b1', zh_b1⟩
theorem zy_r93 {w : zz_W} {j : Int} (h0 : 0 ≤ j) (h1 : j < 4294967296) : zk_xe w 2000093 j = 1 ↔ zr_op (zn_l w 173) (zn_l w 174) (zh_e w 256) (zh_e w 257) j := by
  rw [show (2000093 : Nat) = 2000000 + 93 from rfl, zk_xe_h]
  have h : zv_H 93 w j = zh_b (zr_op (zn_l w 173) (zn_l w 174) (zh_e w 256) (zh_e w 257) j) := by
    show zh_b (zr_op (zn_l w 173) (zn_l w 174) (zh_e w 256) (zh_e w 257) (j % 4294967296)) = _
    rw [show j % 4294967296 = j by omega]
  rw [h]
  exact ⟨zh_b1', zh_b1⟩
theorem zy_r94 {w : zz_W} {j l h x : Int} (e : j = l + 4294967296 * h + 18446744073709551616 * x) (l0 : 0 ≤ l) (l1 : l < 4294967296) (h0 : 0 ≤ h) (h1 : h < 4294967296) (x0 : 0 ≤ x) (x1 : x < 4294967296) : zk_xe w 2000094 j = 1 ↔ zr_nf (zh_e w 233) l h x := by
  obtain ⟨d0, d1, d2⟩ := zg_d3 (j := j) (n := l) (k := h) (u := x) (by omega) l0 l1 h0 h1 x0 x1
  rw [show (2000094 : Nat) = 2000000 + 94 from rfl, zk_xe_h]
  have hh : zv_H 94 w j = zh_b (zr_nf (zh_e w 233) l h x) := by
    show zh_b (zr_nf (zh_e w 233) (zv_dg 0 j) (zv_dg 1 j) (zv_dg 2 j)) = _
    rw [d0, d1, d2]
  rw [hh]
  exact ⟨zh_b1', zh_b1⟩
theorem zr_mo {U Z F K O Q : Int → Int} {f o o' i : Int} (ho : o ≤ o') (h : zr_rs U Z F K O Q f o i) : zr_rs U Z F K O Q f o' i := by
  rcases h with h | ⟨h1, q, q0, q1, q2⟩
  · exact Or.inl h
  · exact Or.inr ⟨h1, q, q0, by omega, q2⟩
theorem zr_cb {up : Int → Int} {l : Int} : ∀ {m : Nat}, zs_cn up l m ≤ (m : Int)
  | 0 => Int.le_refl 0
  | m + 1 => by
    have ih := zr_cb (up := up) (l := l) (m := m)
    show zs_cn up l m + (if 0 ≤ up (m : Int) ∧ up (m : Int) ≤ l then 1 else 0) ≤ ((m + 1 : Nat) : Int)
    split <;> omega
theorem zr_cf {up : Int → Int} {l : Int} : ∀ {m : Nat}, (m : Int) ≤ zs_cn up l m → ∀ i, 0 ≤ i → i < (m : Int) → up i ≤ l
  | 0, _, i, i0, i1 => by omega
  | m + 1, h, i, i0, i1 => by
    have hb := zr_cb (up := up) (l := l) (m := m)
    have h : ((m + 1 : Nat) : Int) ≤ zs_cn up l m + (if 0 ≤ up (m : Int) ∧ up (m : Int) ≤ l then 1 else 0) := h
    by_cases c : 0 ≤ up (m : Int) ∧ up (m : Int) ≤ l
    · rw [if_pos c] at h
      by_cases e : i = (m : Int)
      · rw [e]
        exact c.2
      · exact zr_cf (m := m) (by omega) i i0 (by omega)
    · rw [if_neg c] at h
      omega
theorem zr_st {U Z P F K O Q W : Int → Int} {n l o f l' o' z : Int} (h : zr_rv U Z P F K O Q W n l o f) (ho : o ≤ o') (hN : zs_nx P n l z) (z1 : 1 ≤ z) (hl : l' = P (z - 1)) (hU : ∀ i j, 0 ≤ i → i < j → j < n → P i ≠ P j) (hr : zr_rs U Z F K O Q f o' (z - 1)) : zr_rv U Z P F K O Q W n l' o' f := by
  rcases h with h | h
  · exact Or.inl h
  · refine Or.inr (fun i i0 i1 ip => ?_)
    rcases hN with ⟨e, -⟩ | ⟨-, k1, k2, k3⟩
    · omega
    by_cases c : i = z - 1
    · rw [c]
      exact hr
    by_cases c2 : P i ≤ l
    · exact zr_mo ho (h i i0 i1 c2)
    · have k4 := k3 i i0 i1 (by omega)
      have e : P i = P (z - 1) := by omega
      by_cases c3 : i < z - 1
      · exact absurd e (hU i (z - 1) i0 c3 k1)
      · exact absurd e.symm (hU (z - 1) i (by omega) (by omega) i1)
def zx_D830 : zx_L := zx_Lc [] 6 [(2000076, 3)] [] [((0, 0), [(0, 1, 0), (1, 0, 1), (2, 0, 79228162514264337593543950336)]), ((0, 0), [(1, 0, 1), (3, 1, 0), (4, 0, 4294967296), (5, 0, 18446744073709551616)]), ((0, 1), [(6, 1, 0)])] [((0, 0), [(1, 1, 0)]), ((4294967293, 0), [(1, 0, 1)]), ((0, 0), [(2, 1, 0)]), ((4294967293, 0), [(2, 0, 1)]), ((0, 0), [(4, 1, 0)]), ((4294967293, 0), [(4, 0, 1)]), ((0, 0), [(5, 1, 0)]), ((4294967293, 0), [(5, 0, 1)])] [([], [], [(2000092, ((0, 0), [(0, 1, 0)]), ((1, 0), []))], [])]
theorem zx_D830_ok {PT : Nat → zz_W → Prop} : zx_Lok 64 zHT PT zx_D830 := by
  refine zx_Lc_ok (fun w hI hK ins hl hr he hg => ?_)
  obtain ⟨a0, a1, a2, a3, a4, a5, rfl⟩ := zx_i6 hl
  have e0 : (0 : Int) + (1 * a0 + ((-1) * a1 + ((-79228162514264337593543950336) * a2 + 0))) = 0 := he _ List.mem_cons_self
  have e1 : (0 : Int) + ((-1) * a1 + (1 * a3 + ((-4294967296) * a4 + ((-18446744073709551616) * a5 + 0)))) = 0 := he _ (List.mem_cons_of_mem _ List.mem_cons_self)
  have e2 : ((-1) : Int) + (1 * (zk_xe w 2000076 a3) + 0) = 0 := he _ (List.mem_cons_of_mem _ (List.mem_cons_of_mem _ List.mem_cons_self))
  have g0 : 0 ≤ (0 : Int) + (1 * a1 + 0) := hg _ List.mem_cons_self
  have g1 : 0 ≤ (4294967293 : Int) + ((-1) * a1 + 0) := hg _ (List.mem_cons_of_mem _ List.mem_cons_self)
  have g2 : 0 ≤ (0 : Int) + (1 * a2 + 0) := hg _ (List.mem_cons_of_mem _ (List.mem_cons_of_mem _ List.mem_cons_self))
  have g3 : 0 ≤ (4294967293 : Int) + ((-1) * a2 + 0) := hg _ (List.mem_cons_of_mem _ (List.mem_cons_of_mem _ (List.mem_cons_of_mem _ List.mem_cons_self)))
  have g4 : 0 ≤ (0 : Int) + (1 * a4 + 0) := hg _ (List.mem_cons_of_mem _ (List.mem_cons_of_mem _ (List.mem_cons_of_mem _ (List.mem_cons_of_mem _ List.mem_cons_self))))
  have g5 : 0 ≤ (4294967293 : Int) + ((-1) * a4 + 0) := hg _ (List.mem_cons_of_mem _ (List.mem_cons_of_mem _ (List.mem_cons_of_mem _ (List.mem_cons_of_mem _ (List.mem_cons_of_mem _ List.mem_cons_self)))))
  have g6 : 0 ≤ (0 : Int) + (1 * a5 + 0) := hg _ (List.mem_cons_of_mem _ (List.mem_cons_of_mem _ (List.mem_cons_of_mem _ (List.mem_cons_of_mem _ (List.mem_cons_of_mem _ (List.mem_cons_of_mem _ List.mem_cons_self))))))
  have g7 : 0 ≤ (4294967293 : Int) + ((-1) * a5 + 0) := hg _ (List.mem_cons_of_mem _ (List.mem_cons_of_mem _ (List.mem_cons_of_mem _ (List.mem_cons_of_mem _ (List.mem_cons_of_mem _ (List.mem_cons_of_mem _ (List.mem_cons_of_mem _ List.mem_cons_self)))))))
  have r0 : 0 ≤ a3 := hr _ List.mem_cons_self
  have hu := (zs_76 (w := w) (j := a3) (n := a1) (c := a4) (t := a5) (by omega) (by omega) (by omega) (by omega) (by omega) (by omega) (by omega) ).mp (by omega)
  have h : zr_rv (zh_e w 229) (zh_e w 230) (zh_e w 231) (zh_e w 233) (zh_e w 234) (zh_e w 256) (zh_e w 257) (zh_e w 224) a1 (-1) 0 a2 := Or.inr (fun i i0 i1 ip => by have := (hu.2.1 i i0 i1).1; omega)
  exact ⟨_, List.mem_cons_self, [], rfl, zx_bnil, zx_cs0, (zx_eF1 (by show 0 ≤ (0 : Int) + (1 * a0 + 0); omega) (by show zk_xe w 2000092 ((0 : Int) + (1 * a0 + 0)) = (1 : Int) + (0); rw [show (0 : Int) + (1 * a0 + 0) = a0 by omega]; exact ((zy_r92 (w := w) (j := a0) (n := a1) (l := (-1)) (o := 0) (f := a2) (by omega) (by omega) (by omega) (by omega) (by omega) (by omega) (by omega) (by omega) (by omega) ).mpr (h)).trans (by omega)) zx_eF0), zx_k0⟩
def zx_D831 : zx_L := zx_Lc [] 14 [(2000092, 0), (2000079, 6), (2000076, 8), (231, 11), (229, 11), (230, 11), (233, 12), (234, 12), (2000094, 13)] [] [((0, 4294967296), [(0, 1, 0), (1, 0, 1), (2, 0, 4294967296), (3, 0, 18446744073709551616), (4, 0, 79228162514264337593543950336)]), ((0, 4294967296), [(1, 0, 1), (2, 0, 4294967296), (6, 1, 0), (7, 0, 18446744073709551616)]), ((0, 0), [(1, 0, 1), (8, 1, 0), (9, 0, 4294967296), (10, 0, 18446744073709551616)]), ((1, 0), [(7, 0, 1), (11, 1, 0)]), ((0, 1), [(14, 1, 0)]), ((0, 1), [(15, 1, 0)]), ((0, 1), [(16, 1, 0)]), ((0, 1), [(22, 1, 0)]), ((0, 0), [(18, 0, 1), (20, 1, 0)]), ((0, 0), [(19, 0, 1), (21, 1, 0)]), ((0, 4294967296), [(1, 0, 1), (3, 0, 18446744073709551616), (4, 0, 79228162514264337593543950336), (5, 1, 0), (17, 0, 4294967296)]), ((0, 18446744073709551616), [(12, 0, 4294967296), (13, 1, 0), (18, 0, 18446744073709551616)])] [((0, 0), [(1, 1, 0)]), ((4294967293, 0), [(1, 0, 1)]), ((1, 0), [(2, 1, 0)]), ((4294967292, 0), [(2, 0, 1)]), ((0, 0), [(3, 1, 0)]), ((4294967293, 0), [(3, 0, 1)]), ((0, 0), [(4, 1, 0)]), ((4294967293, 0), [(4, 0, 1)]), ((0, 0), [(7, 1, 0)]), ((4294967293, 0), [(7, 0, 1)]), ((0, 0), [(9, 1, 0)]), ((4294967293, 0), [(9, 0, 1)]), ((0, 0), [(10, 1, 0)]), ((4294967293, 0), [(10, 0, 1)]), ((0, 1), [(7, 1, 0)]), ((0, 0), [(17, 1, 0)]), ((100000, 0), [(17, 0, 1)]), ((0, 0), [(18, 1, 0)]), ((4294967293, 0), [(18, 0, 1)]), ((0, 0), [(12, 1, 0)]), ((0, 1), [(4, 1, 0), (12, 0, 1)])] [([], [], [(2000092, ((0, 0), [(5, 1, 0)]), ((1, 0), []))], [])]
theorem zx_D831_ok {PT : Nat → zz_W → Prop} : zx_Lok 64 zHT PT zx_D831 := by
  refine zx_Lc_ok (fun w hI hK ins hl hr he hg => ?_)
  obtain ⟨a0, a1, a2, a3, a4, a5, a6, a7, a8, a9, a10, a11, a12, a13, rfl⟩ := zx_i14 hl
  have e0 : ((-4294967296) : Int) + (1 * a0 + ((-1) * a1 + ((-4294967296) * a2 + ((-18446744073709551616) * a3 + ((-79228162514264337593543950336) * a4 + 0))))) = 0 := he _ List.mem_cons_self
  have e1 : ((-4294967296) : Int) + ((-1) * a1 + ((-4294967296) * a2 + (1 * a6 + ((-18446744073709551616) * a7 + 0)))) = 0 := he _ (List.mem_cons_of_mem _ List.mem_cons_self)
  have e2 : (0 : Int) + ((-1) * a1 + (1 * a8 + ((-4294967296) * a9 + ((-18446744073709551616) * a10 + 0)))) = 0 := he _ (List.mem_cons_of_mem _ (List.mem_cons_of_mem _ List.mem_cons_self))
  have e3 : (1 : Int) + ((-1) * a7 + (1 * a11 + 0)) = 0 := he _ (List.mem_cons_of_mem _ (List.mem_cons_of_mem _ (List.mem_cons_of_mem _ List.mem_cons_self)))
  have e4 : ((-1) : Int) + (1 * (zk_xe w 2000092 a0) + 0) = 0 := he _ (List.mem_cons_of_mem _ (List.mem_cons_of_mem _ (List.mem_cons_of_mem _ (List.mem_cons_of_mem _ List.mem_cons_self))))
  have e5 : ((-1) : Int) + (1 * (zk_xe w 2000079 a6) + 0) = 0 := he _ (List.mem_cons_of_mem _ (List.mem_cons_of_mem _ (List.mem_cons_of_mem _ (List.mem_cons_of_mem _ (List.mem_cons_of_mem _ List.mem_cons_self)))))
  have e6 : ((-1) : Int) + (1 * (zk_xe w 2000076 a8) + 0) = 0 := he _ (List.mem_cons_of_mem _ (List.mem_cons_of_mem _ (List.mem_cons_of_mem _ (List.mem_cons_of_mem _ (List.mem_cons_of_mem _ (List.mem_cons_of_mem _ List.mem_cons_self))))))
  have e7 : ((-1) : Int) + (1 * (zk_xe w 2000094 a13) + 0) = 0 := he _ (List.mem_cons_of_mem _ (List.mem_cons_of_mem _ (List.mem_cons_of_mem _ (List.mem_cons_of_mem _ (List.mem_cons_of_mem _ (List.mem_cons_of_mem _ (List.mem_cons_of_mem _ List.mem_cons_self)))))))
  have e8 : (0 : Int) + ((-1) * (zk_xe w 229 a11) + (1 * (zk_xe w 233 a12) + 0)) = 0 := he _ (List.mem_cons_of_mem _ (List.mem_cons_of_mem _ (List.mem_cons_of_mem _ (List.mem_cons_of_mem _ (List.mem_cons_of_mem _ (List.mem_cons_of_mem _ (List.mem_cons_of_mem _ (List.mem_cons_of_mem _ List.mem_cons_self))))))))
  have e9 : (0 : Int) + ((-1) * (zk_xe w 230 a11) + (1 * (zk_xe w 234 a12) + 0)) = 0 := he _ (List.mem_cons_of_mem _ (List.mem_cons_of_mem _ (List.mem_cons_of_mem _ (List.mem_cons_of_mem _ (List.mem_cons_of_mem _ (List.mem_cons_of_mem _ (List.mem_cons_of_mem _ (List.mem_cons_of_mem _ (List.mem_cons_of_mem _ List.mem_cons_self)))))))))
  have e10 : ((-4294967296) : Int) + ((-1) * a1 + ((-18446744073709551616) * a3 + ((-79228162514264337593543950336) * a4 + (1 * a5 + ((-4294967296) * (zk_xe w 231 a11) + 0))))) = 0 := he _ (List.mem_cons_of_mem _ (List.mem_cons_of_mem _ (List.mem_cons_of_mem _ (List.mem_cons_of_mem _ (List.mem_cons_of_mem _ (List.mem_cons_of_mem _ (List.mem_cons_of_mem _ (List.mem_cons_of_mem _ (List.mem_cons_of_mem _ (List.mem_cons_of_mem _ List.mem_cons_self))))))))))
  have e11 : ((-18446744073709551616) : Int) + ((-4294967296) * a12 + (1 * a13 + ((-18446744073709551616) * (zk_xe w 229 a11) + 0))) = 0 := he _ (List.mem_cons_of_mem _ (List.mem_cons_of_mem _ (List.mem_cons_of_mem _ (List.mem_cons_of_mem _ (List.mem_cons_of_mem _ (List.mem_cons_of_mem _ (List.mem_cons_of_mem _ (List.mem_cons_of_mem _ (List.mem_cons_of_mem _ (List.mem_cons_of_mem _ (List.mem_cons_of_mem _ List.mem_cons_self)))))))))))
  have g0 : 0 ≤ (0 : Int) + (1 * a1 + 0) := hg _ List.mem_cons_self
  have g1 : 0 ≤ (4294967293 : Int) + ((-1) * a1 + 0) := hg _ (List.mem_cons_of_mem _ List.mem_cons_self)
  have g2 : 0 ≤ (1 : Int) + (1 * a2 + 0) := hg _ (List.mem_cons_of_mem _ (List.mem_cons_of_mem _ List.mem_cons_self))
  have g3 : 0 ≤ (4294967292 : Int) + ((-1) * a2 + 0) := hg _ (List.mem_cons_of_mem _ (List.mem_cons_of_mem _ (List.mem_cons_of_mem _ List.mem_cons_self)))
  have g4 : 0 ≤ (0 : Int) + (1 * a3 + 0) := hg _ (List.mem_cons_of_mem _ (List.mem_cons_of_mem _ (List.mem_cons_of_mem _ (List.mem_cons_of_mem _ List.mem_cons_self))))
  have g5 : 0 ≤ (4294967293 : Int) + ((-1) * a3 + 0) := hg _ (List.mem_cons_of_mem _ (List.mem_cons_of_mem _ (List.mem_cons_of_mem _ (List.mem_cons_of_mem _ (List.mem_cons_of_mem _ List.mem_cons_self)))))
  have g6 : 0 ≤ (0 : Int) + (1 * a4 + 0) := hg _ (List.mem_cons_of_mem _ (List.mem_cons_of_mem _ (List.mem_cons_of_mem _ (List.mem_cons_of_mem _ (List.mem_cons_of_mem _ (List.mem_cons_of_mem _ List.mem_cons_self))))))
  have g7 : 0 ≤ (4294967293 : Int) + ((-1) * a4 + 0) := hg _ (List.mem_cons_of_mem _ (List.mem_cons_of_mem _ (List.mem_cons_of_mem _ (List.mem_cons_of_mem _ (List.mem_cons_of_mem _ (List.mem_cons_of_mem _ (List.mem_cons_of_mem _ List.mem_cons_self)))))))
  have g8 : 0 ≤ (0 : Int) + (1 * a7 + 0) := hg _ (List.mem_cons_of_mem _ (List.mem_cons_of_mem _ (List.mem_cons_of_mem _ (List.mem_cons_of_mem _ (List.mem_cons_of_mem _ (List.mem_cons_of_mem _ (List.mem_cons_of_mem _ (List.mem_cons_of_mem _ List.mem_cons_self))))))))
  have g9 : 0 ≤ (4294967293 : Int) + ((-1) * a7 + 0) := hg _ (List.mem_cons_of_mem _ (List.mem_cons_of_mem _ (List.mem_cons_of_mem _ (List.mem_cons_of_mem _ (List.mem_cons_of_mem _ (List.mem_cons_of_mem _ (List.mem_cons_of_mem _ (List.mem_cons_of_mem _ (List.mem_cons_of_mem _ List.mem_cons_self)))))))))
  have g10 : 0 ≤ (0 : Int) + (1 * a9 + 0) := hg _ (List.mem_cons_of_mem _ (List.mem_cons_of_mem _ (List.mem_cons_of_mem _ (List.mem_cons_of_mem _ (List.mem_cons_of_mem _ (List.mem_cons_of_mem _ (List.mem_cons_of_mem _ (List.mem_cons_of_mem _ (List.mem_cons_of_mem _ (List.mem_cons_of_mem _ List.mem_cons_self))))))))))
  have g11 : 0 ≤ (4294967293 : Int) + ((-1) * a9 + 0) := hg _ (List.mem_cons_of_mem _ (List.mem_cons_of_mem _ (List.mem_cons_of_mem _ (List.mem_cons_of_mem _ (List.mem_cons_of_mem _ (List.mem_cons_of_mem _ (List.mem_cons_of_mem _ (List.mem_cons_of_mem _ (List.mem_cons_of_mem _ (List.mem_cons_of_mem _ (List.mem_cons_of_mem _ List.mem_cons_self)))))))))))
  have g12 : 0 ≤ (0 : Int) + (1 * a10 + 0) := hg _ (List.mem_cons_of_mem _ (List.mem_cons_of_mem _ (List.mem_cons_of_mem _ (List.mem_cons_of_mem _ (List.mem_cons_of_mem _ (List.mem_cons_of_mem _ (List.mem_cons_of_mem _ (List.mem_cons_of_mem _ (List.mem_cons_of_mem _ (List.mem_cons_of_mem _ (List.mem_cons_of_mem _ (List.mem_cons_of_mem _ List.mem_cons_self))))))))))))
  have g13 : 0 ≤ (4294967293 : Int) + ((-1) * a10 + 0) := hg _ (List.mem_cons_of_mem _ (List.mem_cons_of_mem _ (List.mem_cons_of_mem _ (List.mem_cons_of_mem _ (List.mem_cons_of_mem _ (List.mem_cons_of_mem _ (List.mem_cons_of_mem _ (List.mem_cons_of_mem _ (List.mem_cons_of_mem _ (List.mem_cons_of_mem _ (List.mem_cons_of_mem _ (List.mem_cons_of_mem _ (List.mem_cons_of_mem _ List.mem_cons_self)))))))))))))
  have g14 : 0 ≤ ((-1) : Int) + (1 * a7 + 0) := hg _ (List.mem_cons_of_mem _ (List.mem_cons_of_mem _ (List.mem_cons_of_mem _ (List.mem_cons_of_mem _ (List.mem_cons_of_mem _ (List.mem_cons_of_mem _ (List.mem_cons_of_mem _ (List.mem_cons_of_mem _ (List.mem_cons_of_mem _ (List.mem_cons_of_mem _ (List.mem_cons_of_mem _ (List.mem_cons_of_mem _ (List.mem_cons_of_mem _ (List.mem_cons_of_mem _ List.mem_cons_self))))))))))))))
  have g15 : 0 ≤ (0 : Int) + (1 * (zk_xe w 231 a11) + 0) := hg _ (List.mem_cons_of_mem _ (List.mem_cons_of_mem _ (List.mem_cons_of_mem _ (List.mem_cons_of_mem _ (List.mem_cons_of_mem _ (List.mem_cons_of_mem _ (List.mem_cons_of_mem _ (List.mem_cons_of_mem _ (List.mem_cons_of_mem _ (List.mem_cons_of_mem _ (List.mem_cons_of_mem _ (List.mem_cons_of_mem _ (List.mem_cons_of_mem _ (List.mem_cons_of_mem _ (List.mem_cons_of_mem _ List.mem_cons_self)))))))))))))))
  have g16 : 0 ≤ (100000 : Int) + ((-1) * (zk_xe w 231 a11) + 0) := hg _ (List.mem_cons_of_mem _ (List.mem_cons_of_mem _ (List.mem_cons_of_mem _ (List.mem_cons_of_mem _ (List.mem_cons_of_mem _ (List.mem_cons_of_mem _ (List.mem_cons_of_mem _ (List.mem_cons_of_mem _ (List.mem_cons_of_mem _ (List.mem_cons_of_mem _ (List.mem_cons_of_mem _ (List.mem_cons_of_mem _ (List.mem_cons_of_mem _ (List.mem_cons_of_mem _ (List.mem_cons_of_mem _ (List.mem_cons_of_mem _ List.mem_cons_self))))))))))))))))
  have g17 : 0 ≤ (0 : Int) + (1 * (zk_xe w 229 a11) + 0) := hg _ (List.mem_cons_of_mem _ (List.mem_cons_of_mem _ (List.mem_cons_of_mem _ (List.mem_cons_of_mem _ (List.mem_cons_of_mem _ (List.mem_cons_of_mem _ (List.mem_cons_of_mem _ (List.mem_cons_of_mem _ (List.mem_cons_of_mem _ (List.mem_cons_of_mem _ (List.mem_cons_of_mem _ (List.mem_cons_of_mem _ (List.mem_cons_of_mem _ (List.mem_cons_of_mem _ (List.mem_cons_of_mem _ (List.mem_cons_of_mem _ (List.mem_cons_of_mem _ List.mem_cons_self)))))))))))))))))
  have g18 : 0 ≤ (4294967293 : Int) + ((-1) * (zk_xe w 229 a11) + 0) := hg _ (List.mem_cons_of_mem _ (List.mem_cons_of_mem _ (List.mem_cons_of_mem _ (List.mem_cons_of_mem _ (List.mem_cons_of_mem _ (List.mem_cons_of_mem _ (List.mem_cons_of_mem _ (List.mem_cons_of_mem _ (List.mem_cons_of_mem _ (List.mem_cons_of_mem _ (List.mem_cons_of_mem _ (List.mem_cons_of_mem _ (List.mem_cons_of_mem _ (List.mem_cons_of_mem _ (List.mem_cons_of_mem _ (List.mem_cons_of_mem _ (List.mem_cons_of_mem _ (List.mem_cons_of_mem _ List.mem_cons_self))))))))))))))))))
  have g19 : 0 ≤ (0 : Int) + (1 * a12 + 0) := hg _ (List.mem_cons_of_mem _ (List.mem_cons_of_mem _ (List.mem_cons_of_mem _ (List.mem_cons_of_mem _ (List.mem_cons_of_mem _ (List.mem_cons_of_mem _ (List.mem_cons_of_mem _ (List.mem_cons_of_mem _ (List.mem_cons_of_mem _ (List.mem_cons_of_mem _ (List.mem_cons_of_mem _ (List.mem_cons_of_mem _ (List.mem_cons_of_mem _ (List.mem_cons_of_mem _ (List.mem_cons_of_mem _ (List.mem_cons_of_mem _ (List.mem_cons_of_mem _ (List.mem_cons_of_mem _ (List.mem_cons_of_mem _ List.mem_cons_self)))))))))))))))))))
  have g20 : 0 ≤ ((-1) : Int) + (1 * a4 + ((-1) * a12 + 0)) := hg _ (List.mem_cons_of_mem _ (List.mem_cons_of_mem _ (List.mem_cons_of_mem _ (List.mem_cons_of_mem _ (List.mem_cons_of_mem _ (List.mem_cons_of_mem _ (List.mem_cons_of_mem _ (List.mem_cons_of_mem _ (List.mem_cons_of_mem _ (List.mem_cons_of_mem _ (List.mem_cons_of_mem _ (List.mem_cons_of_mem _ (List.mem_cons_of_mem _ (List.mem_cons_of_mem _ (List.mem_cons_of_mem _ (List.mem_cons_of_mem _ (List.mem_cons_of_mem _ (List.mem_cons_of_mem _ (List.mem_cons_of_mem _ (List.mem_cons_of_mem _ List.mem_cons_self))))))))))))))))))))
  have r0 : 0 ≤ a0 := hr _ List.mem_cons_self
  have r1 : 0 ≤ a6 := hr _ (List.mem_cons_of_mem _ List.mem_cons_self)
  have r2 : 0 ≤ a8 := hr _ (List.mem_cons_of_mem _ (List.mem_cons_of_mem _ List.mem_cons_self))
  have r3 : 0 ≤ a11 := hr _ (List.mem_cons_of_mem _ (List.mem_cons_of_mem _ (List.mem_cons_of_mem _ List.mem_cons_self)))
  have r4 : 0 ≤ a11 := hr _ (List.mem_cons_of_mem _ (List.mem_cons_of_mem _ (List.mem_cons_of_mem _ (List.mem_cons_of_mem _ List.mem_cons_self))))
  have r5 : 0 ≤ a11 := hr _ (List.mem_cons_of_mem _ (List.mem_cons_of_mem _ (List.mem_cons_of_mem _ (List.mem_cons_of_mem _ (List.mem_cons_of_mem _ List.mem_cons_self)))))
  have r6 : 0 ≤ a12 := hr _ (List.mem_cons_of_mem _ (List.mem_cons_of_mem _ (List.mem_cons_of_mem _ (List.mem_cons_of_mem _ (List.mem_cons_of_mem _ (List.mem_cons_of_mem _ List.mem_cons_self))))))
  have r7 : 0 ≤ a12 := hr _ (List.mem_cons_of_mem _ (List.mem_cons_of_mem _ (List.mem_cons_of_mem _ (List.mem_cons_of_mem _ (List.mem_cons_of_mem _ (List.mem_cons_of_mem _ (List.mem_cons_of_mem _ List.mem_cons_self)))))))
  have r8 : 0 ≤ a13 := hr _ (List.mem_cons_of_mem _ (List.mem_cons_of_mem _ (List.mem_cons_of_mem _ (List.mem_cons_of_mem _ (List.mem_cons_of_mem _ (List.mem_cons_of_mem _ (List.mem_cons_of_mem _ (List.mem_cons_of_mem _ List.mem_cons_self))))))))
  have hp := (zy_r92 (w := w) (j := a0) (n := a1) (l := a2) (o := a3) (f := a4) (by omega) (by omega) (by omega) (by omega) (by omega) (by omega) (by omega) (by omega) (by omega) ).mp (by omega)
  have hn := (zs_79 (w := w) (j := a6) (k := a1) (l := a2) (z := a7) (by omega) (by omega) (by omega) (by omega) (by omega) (by omega) (by omega) ).mp (by omega)
  have hu := (zs_76 (w := w) (j := a8) (n := a1) (c := a9) (t := a10) (by omega) (by omega) (by omega) (by omega) (by omega) (by omega) (by omega) ).mp (by omega)
  have k1 : zh_e w 231 (a7 - 1) = zk_xe w 231 a11 := by rw [zk_xe_r (i := 231) (by decide)]; show zk_el w 231 (a7 - 1) = zk_el w 231 a11; rw [show a7 - 1 = a11 by omega]
  have k2 : zh_e w 229 (a7 - 1) = zk_xe w 229 a11 := by rw [zk_xe_r (i := 229) (by decide)]; show zk_el w 229 (a7 - 1) = zk_el w 229 a11; rw [show a7 - 1 = a11 by omega]
  have k3 : zh_e w 230 (a7 - 1) = zk_xe w 230 a11 := by rw [zk_xe_r (i := 230) (by decide)]; show zk_el w 230 (a7 - 1) = zk_el w 230 a11; rw [show a7 - 1 = a11 by omega]
  have hf := (zy_r94 (w := w) (j := a13) (l := 0) (h := a12) (x := ((zk_xe w 229 a11) + 1)) (by omega) (by omega) (by omega) (by omega) (by omega) (by omega) (by omega) ).mp (by omega)
  have k4 : zh_e w 233 (a12) = zk_xe w 233 a12 := by rw [zk_xe_r (i := 233) (by decide)]; show zk_el w 233 (a12) = zk_el w 233 a12; rw [show a12 = a12 by omega]
  have k5 : zh_e w 234 (a12) = zk_xe w 234 a12 := by rw [zk_xe_r (i := 234) (by decide)]; show zk_el w 234 (a12) = zk_el w 234 a12; rw [show a12 = a12 by omega]
  have hs : zr_rs (zh_e w 229) (zh_e w 230) (zh_e w 233) (zh_e w 234) (zh_e w 256) (zh_e w 257) a4 a3 (a7 - 1) := by
    refine Or.inl ⟨a12, by omega, by omega, by omega, by omega, fun m m0 m1 => ?_⟩
    have := hf m m0 m0 m1
    omega
  have h : zr_rv (zh_e w 229) (zh_e w 230) (zh_e w 231) (zh_e w 233) (zh_e w 234) (zh_e w 256) (zh_e w 257) (zh_e w 224) a1 (zk_xe w 231 a11) a3 a4 := zr_st hp (by omega) hn (by omega) k1.symm hu.1 hs
  exact ⟨_, List.mem_cons_self, [], rfl, zx_bnil, zx_cs0, (zx_eF1 (by show 0 ≤ (0 : Int) + (1 * a5 + 0); omega) (by show zk_xe w 2000092 ((0 : Int) + (1 * a5 + 0)) = (1 : Int) + (0); rw [show (0 : Int) + (1 * a5 + 0) = a5 by omega]; exact ((zy_r92 (w := w) (j := a5) (n := a1) (l := (zk_xe w 231 a11)) (o := a3) (f := a4) (by omega) (by omega) (by omega) (by omega) (by omega) (by omega) (by omega) (by omega) (by omega) ).mpr (h)).trans (by omega)) zx_eF0), zx_k0⟩
def zx_D832 : zx_L := zx_Lc [] 14 [(2000092, 0), (2000079, 6), (2000076, 8), (231, 11), (229, 11), (230, 11), (256, 12), (257, 12), (2000094, 13)] [] [((0, 4294967296), [(0, 1, 0), (1, 0, 1), (2, 0, 4294967296), (3, 0, 18446744073709551616), (4, 0, 79228162514264337593543950336)]), ((0, 4294967296), [(1, 0, 1), (2, 0, 4294967296), (6, 1, 0), (7, 0, 18446744073709551616)]), ((0, 0), [(1, 0, 1), (8, 1, 0), (9, 0, 4294967296), (10, 0, 18446744073709551616)]), ((1, 0), [(7, 0, 1), (11, 1, 0)]), ((0, 1), [(14, 1, 0)]), ((0, 1), [(15, 1, 0)]), ((0, 1), [(16, 1, 0)]), ((0, 1), [(22, 1, 0)]), ((0, 0), [(18, 0, 1), (20, 1, 0)]), ((0, 0), [(19, 0, 1), (21, 1, 0)]), ((0, 4294967296), [(1, 0, 1), (3, 0, 18446744073709551616), (4, 0, 79228162514264337593543950336), (5, 1, 0), (17, 0, 4294967296)]), ((0, 18446744073709551616), [(4, 0, 4294967296), (13, 1, 0), (18, 0, 18446744073709551616)])] [((0, 0), [(1, 1, 0)]), ((4294967293, 0), [(1, 0, 1)]), ((1, 0), [(2, 1, 0)]), ((4294967292, 0), [(2, 0, 1)]), ((0, 0), [(3, 1, 0)]), ((4294967293, 0), [(3, 0, 1)]), ((0, 0), [(4, 1, 0)]), ((4294967293, 0), [(4, 0, 1)]), ((0, 0), [(7, 1, 0)]), ((4294967293, 0), [(7, 0, 1)]), ((0, 0), [(9, 1, 0)]), ((4294967293, 0), [(9, 0, 1)]), ((0, 0), [(10, 1, 0)]), ((4294967293, 0), [(10, 0, 1)]), ((0, 1), [(7, 1, 0)]), ((0, 0), [(17, 1, 0)]), ((100000, 0), [(17, 0, 1)]), ((0, 0), [(18, 1, 0)]), ((4294967293, 0), [(18, 0, 1)]), ((0, 0), [(12, 1, 0)]), ((0, 1), [(3, 1, 0), (12, 0, 1)])] [([], [], [(2000092, ((0, 0), [(5, 1, 0)]), ((1, 0), []))], [])]
theorem zx_D832_ok {PT : Nat → zz_W → Prop} : zx_Lok 64 zHT PT zx_D832 := by
  refine zx_Lc_ok (fun w hI hK ins hl hr he hg => ?_)
  obtain ⟨a0, a1, a2, a3, a4, a5, a6, a7, a8, a9, a10, a11, a12, a13, rfl⟩ := zx_i14 hl
  have e0 : ((-4294967296) : Int) + (1 * a0 + ((-1) * a1 + ((-4294967296) * a2 + ((-18446744073709551616) * a3 + ((-79228162514264337593543950336) * a4 + 0))))) = 0 := he _ List.mem_cons_self
  have e1 : ((-4294967296) : Int) + ((-1) * a1 + ((-4294967296) * a2 + (1 * a6 + ((-18446744073709551616) * a7 + 0)))) = 0 := he _ (List.mem_cons_of_mem _ List.mem_cons_self)
  have e2 : (0 : Int) + ((-1) * a1 + (1 * a8 + ((-4294967296) * a9 + ((-18446744073709551616) * a10 + 0)))) = 0 := he _ (List.mem_cons_of_mem _ (List.mem_cons_of_mem _ List.mem_cons_self))
  have e3 : (1 : Int) + ((-1) * a7 + (1 * a11 + 0)) = 0 := he _ (List.mem_cons_of_mem _ (List.mem_cons_of_mem _ (List.mem_cons_of_mem _ List.mem_cons_self)))
  have e4 : ((-1) : Int) + (1 * (zk_xe w 2000092 a0) + 0) = 0 := he _ (List.mem_cons_of_mem _ (List.mem_cons_of_mem _ (List.mem_cons_of_mem _ (List.mem_cons_of_mem _ List.mem_cons_self))))
  have e5 : ((-1) : Int) + (1 * (zk_xe w 2000079 a6) + 0) = 0 := he _ (List.mem_cons_of_mem _ (List.mem_cons_of_mem _ (List.mem_cons_of_mem _ (List.mem_cons_of_mem _ (List.mem_cons_of_mem _ List.mem_cons_self)))))
  have e6 : ((-1) : Int) + (1 * (zk_xe w 2000076 a8) + 0) = 0 := he _ (List.mem_cons_of_mem _ (List.mem_cons_of_mem _ (List.mem_cons_of_mem _ (List.mem_cons_of_mem _ (List.mem_cons_of_mem _ (List.mem_cons_of_mem _ List.mem_cons_self))))))
  have e7 : ((-1) : Int) + (1 * (zk_xe w 2000094 a13) + 0) = 0 := he _ (List.mem_cons_of_mem _ (List.mem_cons_of_mem _ (List.mem_cons_of_mem _ (List.mem_cons_of_mem _ (List.mem_cons_of_mem _ (List.mem_cons_of_mem _ (List.mem_cons_of_mem _ List.mem_cons_self)))))))
  have e8 : (0 : Int) + ((-1) * (zk_xe w 229 a11) + (1 * (zk_xe w 256 a12) + 0)) = 0 := he _ (List.mem_cons_of_mem _ (List.mem_cons_of_mem _ (List.mem_cons_of_mem _ (List.mem_cons_of_mem _ (List.mem_cons_of_mem _ (List.mem_cons_of_mem _ (List.mem_cons_of_mem _ (List.mem_cons_of_mem _ List.mem_cons_self))))))))
  have e9 : (0 : Int) + ((-1) * (zk_xe w 230 a11) + (1 * (zk_xe w 257 a12) + 0)) = 0 := he _ (List.mem_cons_of_mem _ (List.mem_cons_of_mem _ (List.mem_cons_of_mem _ (List.mem_cons_of_mem _ (List.mem_cons_of_mem _ (List.mem_cons_of_mem _ (List.mem_cons_of_mem _ (List.mem_cons_of_mem _ (List.mem_cons_of_mem _ List.mem_cons_self)))))))))
  have e10 : ((-4294967296) : Int) + ((-1) * a1 + ((-18446744073709551616) * a3 + ((-79228162514264337593543950336) * a4 + (1 * a5 + ((-4294967296) * (zk_xe w 231 a11) + 0))))) = 0 := he _ (List.mem_cons_of_mem _ (List.mem_cons_of_mem _ (List.mem_cons_of_mem _ (List.mem_cons_of_mem _ (List.mem_cons_of_mem _ (List.mem_cons_of_mem _ (List.mem_cons_of_mem _ (List.mem_cons_of_mem _ (List.mem_cons_of_mem _ (List.mem_cons_of_mem _ List.mem_cons_self))))))))))
  have e11 : ((-18446744073709551616) : Int) + ((-4294967296) * a4 + (1 * a13 + ((-18446744073709551616) * (zk_xe w 229 a11) + 0))) = 0 := he _ (List.mem_cons_of_mem _ (List.mem_cons_of_mem _ (List.mem_cons_of_mem _ (List.mem_cons_of_mem _ (List.mem_cons_of_mem _ (List.mem_cons_of_mem _ (List.mem_cons_of_mem _ (List.mem_cons_of_mem _ (List.mem_cons_of_mem _ (List.mem_cons_of_mem _ (List.mem_cons_of_mem _ List.mem_cons_self)))))))))))
  have g0 : 0 ≤ (0 : Int) + (1 * a1 + 0) := hg _ List.mem_cons_self
  have g1 : 0 ≤ (4294967293 : Int) + ((-1) * a1 + 0) := hg _ (List.mem_cons_of_mem _ List.mem_cons_self)
  have g2 : 0 ≤ (1 : Int) + (1 * a2 + 0) := hg _ (List.mem_cons_of_mem _ (List.mem_cons_of_mem _ List.mem_cons_self))
  have g3 : 0 ≤ (4294967292 : Int) + ((-1) * a2 + 0) := hg _ (List.mem_cons_of_mem _ (List.mem_cons_of_mem _ (List.mem_cons_of_mem _ List.mem_cons_self)))
  have g4 : 0 ≤ (0 : Int) + (1 * a3 + 0) := hg _ (List.mem_cons_of_mem _ (List.mem_cons_of_mem _ (List.mem_cons_of_mem _ (List.mem_cons_of_mem _ List.mem_cons_self))))
  have g5 : 0 ≤ (4294967293 : Int) + ((-1) * a3 + 0) := hg _ (List.mem_cons_of_mem _ (List.mem_cons_of_mem _ (List.mem_cons_of_mem _ (List.mem_cons_of_mem _ (List.mem_cons_of_mem _ List.mem_cons_self)))))
  have g6 : 0 ≤ (0 : Int) + (1 * a4 + 0) := hg _ (List.mem_cons_of_mem _ (List.mem_cons_of_mem _ (List.mem_cons_of_mem _ (List.mem_cons_of_mem _ (List.mem_cons_of_mem _ (List.mem_cons_of_mem _ List.mem_cons_self))))))
  have g7 : 0 ≤ (4294967293 : Int) + ((-1) * a4 + 0) := hg _ (List.mem_cons_of_mem _ (List.mem_cons_of_mem _ (List.mem_cons_of_mem _ (List.mem_cons_of_mem _ (List.mem_cons_of_mem _ (List.mem_cons_of_mem _ (List.mem_cons_of_mem _ List.mem_cons_self)))))))
  have g8 : 0 ≤ (0 : Int) + (1 * a7 + 0) := hg _ (List.mem_cons_of_mem _ (List.mem_cons_of_mem _ (List.mem_cons_of_mem _ (List.mem_cons_of_mem _ (List.mem_cons_of_mem _ (List.mem_cons_of_mem _ (List.mem_cons_of_mem _ (List.mem_cons_of_mem _ List.mem_cons_self))))))))
  have g9 : 0 ≤ (4294967293 : Int) + ((-1) * a7 + 0) := hg _ (List.mem_cons_of_mem _ (List.mem_cons_of_mem _ (List.mem_cons_of_mem _ (List.mem_cons_of_mem _ (List.mem_cons_of_mem _ (List.mem_cons_of_mem _ (List.mem_cons_of_mem _ (List.mem_cons_of_mem _ (List.mem_cons_of_mem _ List.mem_cons_self)))))))))
  have g10 : 0 ≤ (0 : Int) + (1 * a9 + 0) := hg _ (List.mem_cons_of_mem _ (List.mem_cons_of_mem _ (List.mem_cons_of_mem _ (List.mem_cons_of_mem _ (List.mem_cons_of_mem _ (List.mem_cons_of_mem _ (List.mem_cons_of_mem _ (List.mem_cons_of_mem _ (List.mem_cons_of_mem _ (List.mem_cons_of_mem _ List.mem_cons_self))))))))))
  have g11 : 0 ≤ (4294967293 : Int) + ((-1) * a9 + 0) := hg _ (List.mem_cons_of_mem _ (List.mem_cons_of_mem _ (List.mem_cons_of_mem _ (List.mem_cons_of_mem _ (List.mem_cons_of_mem _ (List.mem_cons_of_mem _ (List.mem_cons_of_mem _ (List.mem_cons_of_mem _ (List.mem_cons_of_mem _ (List.mem_cons_of_mem _ (List.mem_cons_of_mem _ List.mem_cons_self)))))))))))
  have g12 : 0 ≤ (0 : Int) + (1 * a10 + 0) := hg _ (List.mem_cons_of_mem _ (List.mem_cons_of_mem _ (List.mem_cons_of_mem _ (List.mem_cons_of_mem _ (List.mem_cons_of_mem _ (List.mem_cons_of_mem _ (List.mem_cons_of_mem _ (List.mem_cons_of_mem _ (List.mem_cons_of_mem _ (List.mem_cons_of_mem _ (List.mem_cons_of_mem _ (List.mem_cons_of_mem _ List.mem_cons_self))))))))))))
  have g13 : 0 ≤ (4294967293 : Int) + ((-1) * a10 + 0) := hg _ (List.mem_cons_of_mem _ (List.mem_cons_of_mem _ (List.mem_cons_of_mem _ (List.mem_cons_of_mem _ (List.mem_cons_of_mem _ (List.mem_cons_of_mem _ (List.mem_cons_of_mem _ (List.mem_cons_of_mem _ (List.mem_cons_of_mem _ (List.mem_cons_of_mem _ (List.mem_cons_of_mem _ (List.mem_cons_of_mem _ (List.mem_cons_of_mem _ List.mem_cons_self)))))))))))))
  have g14 : 0 ≤ ((-1) : Int) + (1 * a7 + 0) := hg _ (List.mem_cons_of_mem _ (List.mem_cons_of_mem _ (List.mem_cons_of_mem _ (List.mem_cons_of_mem _ (List.mem_cons_of_mem _ (List.mem_cons_of_mem _ (List.mem_cons_of_mem _ (List.mem_cons_of_mem _ (List.mem_cons_of_mem _ (List.mem_cons_of_mem _ (List.mem_cons_of_mem _ (List.mem_cons_of_mem _ (List.mem_cons_of_mem _ (List.mem_cons_of_mem _ List.mem_cons_self))))))))))))))
  have g15 : 0 ≤ (0 : Int) + (1 * (zk_xe w 231 a11) + 0) := hg _ (List.mem_cons_of_mem _ (List.mem_cons_of_mem _ (List.mem_cons_of_mem _ (List.mem_cons_of_mem _ (List.mem_cons_of_mem _ (List.mem_cons_of_mem _ (List.mem_cons_of_mem _ (List.mem_cons_of_mem _ (List.mem_cons_of_mem _ (List.mem_cons_of_mem _ (List.mem_cons_of_mem _ (List.mem_cons_of_mem _ (List.mem_cons_of_mem _ (List.mem_cons_of_mem _ (List.mem_cons_of_mem _ List.mem_cons_self)))))))))))))))
  have g16 : 0 ≤ (100000 : Int) + ((-1) * (zk_xe w 231 a11) + 0) := hg _ (List.mem_cons_of_mem _ (List.mem_cons_of_mem _ (List.mem_cons_of_mem _ (List.mem_cons_of_mem _ (List.mem_cons_of_mem _ (List.mem_cons_of_mem _ (List.mem_cons_of_mem _ (List.mem_cons_of_mem _ (List.mem_cons_of_mem _ (List.mem_cons_of_mem _ (List.mem_cons_of_mem _ (List.mem_cons_of_mem _ (List.mem_cons_of_mem _ (List.mem_cons_of_mem _ (List.mem_cons_of_mem _ (List.mem_cons_of_mem _ List.mem_cons_self))))))))))))))))
  have g17 : 0 ≤ (0 : Int) + (1 * (zk_xe w 229 a11) + 0) := hg _ (List.mem_cons_of_mem _ (List.mem_cons_of_mem _ (List.mem_cons_of_mem _ (List.mem_cons_of_mem _ (List.mem_cons_of_mem _ (List.mem_cons_of_mem _ (List.mem_cons_of_mem _ (List.mem_cons_of_mem _ (List.mem_cons_of_mem _ (List.mem_cons_of_mem _ (List.mem_cons_of_mem _ (List.mem_cons_of_mem _ (List.mem_cons_of_mem _ (List.mem_cons_of_mem _ (List.mem_cons_of_mem _ (List.mem_cons_of_mem _ (List.mem_cons_of_mem _ List.mem_cons_self)))))))))))))))))
  have g18 : 0 ≤ (4294967293 : Int) + ((-1) * (zk_xe w 229 a11) + 0) := hg _ (List.mem_cons_of_mem _ (List.mem_cons_of_mem _ (List.mem_cons_of_mem _ (List.mem_cons_of_mem _ (List.mem_cons_of_mem _ (List.mem_cons_of_mem _ (List.mem_cons_of_mem _ (List.mem_cons_of_mem _ (List.mem_cons_of_mem _ (List.mem_cons_of_mem _ (List.mem_cons_of_mem _ (List.mem_cons_of_mem _ (List.mem_cons_of_mem _ (List.mem_cons_of_mem _ (List.mem_cons_of_mem _ (List.mem_cons_of_mem _ (List.mem_cons_of_mem _ (List.mem_cons_of_mem _ List.mem_cons_self))))))))))))))))))
  have g19 : 0 ≤ (0 : Int) + (1 * a12 + 0) := hg _ (List.mem_cons_of_mem _ (List.mem_cons_of_mem _ (List.mem_cons_of_mem _ (List.mem_cons_of_mem _ (List.mem_cons_of_mem _ (List.mem_cons_of_mem _ (List.mem_cons_of_mem _ (List.mem_cons_of_mem _ (List.mem_cons_of_mem _ (List.mem_cons_of_mem _ (List.mem_cons_of_mem _ (List.mem_cons_of_mem _ (List.mem_cons_of_mem _ (List.mem_cons_of_mem _ (List.mem_cons_of_mem _ (List.mem_cons_of_mem _ (List.mem_cons_of_mem _ (List.mem_cons_of_mem _ (List.mem_cons_of_mem _ List.mem_cons_self)))))))))))))))))))
  have g20 : 0 ≤ ((-1) : Int) + (1 * a3 + ((-1) * a12 + 0)) := hg _ (List.mem_cons_of_mem _ (List.mem_cons_of_mem _ (List.mem_cons_of_mem _ (List.mem_cons_of_mem _ (List.mem_cons_of_mem _ (List.mem_cons_of_mem _ (List.mem_cons_of_mem _ (List.mem_cons_of_mem _ (List.mem_cons_of_mem _ (List.mem_cons_of_mem _ (List.mem_cons_of_mem _ (List.mem_cons_of_mem _ (List.mem_cons_of_mem _ (List.mem_cons_of_mem _ (List.mem_cons_of_mem _ (List.mem_cons_of_mem _ (List.mem_cons_of_mem _ (List.mem_cons_of_mem _ (List.mem_cons_of_mem _ (List.mem_cons_of_mem _ List.mem_cons_self))))))))))))))))))))
  have r0 : 0 ≤ a0 := hr _ List.mem_cons_self
  have r1 : 0 ≤ a6 := hr _ (List.mem_cons_of_mem _ List.mem_cons_self)
  have r2 : 0 ≤ a8 := hr _ (List.mem_cons_of_mem _ (List.mem_cons_of_mem _ List.mem_cons_self))
  have r3 : 0 ≤ a11 := hr _ (List.mem_cons_of_mem _ (List.mem_cons_of_mem _ (List.mem_cons_of_mem _ List.mem_cons_self)))
  have r4 : 0 ≤ a11 := hr _ (List.mem_cons_of_mem _ (List.mem_cons_of_mem _ (List.mem_cons_of_mem _ (List.mem_cons_of_mem _ List.mem_cons_self))))
  have r5 : 0 ≤ a11 := hr _ (List.mem_cons_of_mem _ (List.mem_cons_of_mem _ (List.mem_cons_of_mem _ (List.mem_cons_of_mem _ (List.mem_cons_of_mem _ List.mem_cons_self)))))
  have r6 : 0 ≤ a12 := hr _ (List.mem_cons_of_mem _ (List.mem_cons_of_mem _ (List.mem_cons_of_mem _ (List.mem_cons_of_mem _ (List.mem_cons_of_mem _ (List.mem_cons_of_mem _ List.mem_cons_self))))))
  have r7 : 0 ≤ a12 := hr _ (List.mem_cons_of_mem _ (List.mem_cons_of_mem _ (List.mem_cons_of_mem _ (List.mem_cons_of_mem _ (List.mem_cons_of_mem _ (List.mem_cons_of_mem _ (List.mem_cons_of_mem _ List.mem_cons_self)))))))
  have r8 : 0 ≤ a13 := hr _ (List.mem_cons_of_mem _ (List.mem_cons_of_mem _ (List.mem_cons_of_mem _ (List.mem_cons_of_mem _ (List.mem_cons_of_mem _ (List.mem_cons_of_mem _ (List.mem_cons_of_mem _ (List.mem_cons_of_mem _ List.mem_cons_self))))))))
  have hp := (zy_r92 (w := w) (j := a0) (n := a1) (l := a2) (o := a3) (f := a4) (by omega) (by omega) (by omega) (by omega) (by omega) (by omega) (by omega) (by omega) (by omega) ).mp (by omega)
  have hn := (zs_79 (w := w) (j := a6) (k := a1) (l := a2) (z := a7) (by omega) (by omega) (by omega) (by omega) (by omega) (by omega) (by omega) ).mp (by omega)
  have hu := (zs_76 (w := w) (j := a8) (n := a1) (c := a9) (t := a10) (by omega) (by omega) (by omega) (by omega) (by omega) (by omega) (by omega) ).mp (by omega)
  have k1 : zh_e w 231 (a7 - 1) = zk_xe w 231 a11 := by rw [zk_xe_r (i := 231) (by decide)]; show zk_el w 231 (a7 - 1) = zk_el w 231 a11; rw [show a7 - 1 = a11 by omega]
  have k2 : zh_e w 229 (a7 - 1) = zk_xe w 229 a11 := by rw [zk_xe_r (i := 229) (by decide)]; show zk_el w 229 (a7 - 1) = zk_el w 229 a11; rw [show a7 - 1 = a11 by omega]
  have k3 : zh_e w 230 (a7 - 1) = zk_xe w 230 a11 := by rw [zk_xe_r (i := 230) (by decide)]; show zk_el w 230 (a7 - 1) = zk_el w 230 a11; rw [show a7 - 1 = a11 by omega]
  have hf := (zy_r94 (w := w) (j := a13) (l := 0) (h := a4) (x := ((zk_xe w 229 a11) + 1)) (by omega) (by omega) (by omega) (by omega) (by omega) (by omega) (by omega) ).mp (by omega)
  have k4 : zh_e w 256 (a12) = zk_xe w 256 a12 := by rw [zk_xe_r (i := 256) (by decide)]; show zk_el w 256 (a12) = zk_el w 256 a12; rw [show a12 = a12 by omega]
  have k5 : zh_e w 257 (a12) = zk_xe w 257 a12 := by rw [zk_xe_r (i := 257) (by decide)]; show zk_el w 257 (a12) = zk_el w 257 a12; rw [show a12 = a12 by omega]
  have hs : zr_rs (zh_e w 229) (zh_e w 230) (zh_e w 233) (zh_e w 234) (zh_e w 256) (zh_e w 257) a4 a3 (a7 - 1) := by
    refine Or.inr ⟨fun m m0 m1 => ?_, a12, by omega, by omega, by omega, by omega⟩
    have := hf m m0 m0 m1
    omega
  have h : zr_rv (zh_e w 229) (zh_e w 230) (zh_e w 231) (zh_e w 233) (zh_e w 234) (zh_e w 256) (zh_e w 257) (zh_e w 224) a1 (zk_xe w 231 a11) a3 a4 := zr_st hp (by omega) hn (by omega) k1.symm hu.1 hs
  exact ⟨_, List.mem_cons_self, [], rfl, zx_bnil, zx_cs0, (zx_eF1 (by show 0 ≤ (0 : Int) + (1 * a5 + 0); omega) (by show zk_xe w 2000092 ((0 : Int) + (1 * a5 + 0)) = (1 : Int) + (0); rw [show (0 : Int) + (1 * a5 + 0) = a5 by omega]; exact ((zy_r92 (w := w) (j := a5) (n := a1) (l := (zk_xe w 231 a11)) (o := a3) (f := a4) (by omega) (by omega) (by omega) (by omega) (by omega) (by omega) (by omega) (by omega) (by omega) ).mpr (h)).trans (by omega)) zx_eF0), zx_k0⟩
def zx_D833 : zx_L := zx_Lc [] 14 [(2000092, 0), (2000079, 6), (2000076, 8), (231, 11), (229, 11), (230, 11), (256, 12), (257, 12), (2000094, 13)] [] [((0, 4294967296), [(0, 1, 0), (1, 0, 1), (2, 0, 4294967296), (3, 0, 18446744073709551616), (4, 0, 79228162514264337593543950336)]), ((0, 4294967296), [(1, 0, 1), (2, 0, 4294967296), (6, 1, 0), (7, 0, 18446744073709551616)]), ((0, 0), [(1, 0, 1), (8, 1, 0), (9, 0, 4294967296), (10, 0, 18446744073709551616)]), ((1, 0), [(7, 0, 1), (11, 1, 0)]), ((0, 1), [(14, 1, 0)]), ((0, 1), [(15, 1, 0)]), ((0, 1), [(16, 1, 0)]), ((0, 1), [(22, 1, 0)]), ((0, 0), [(18, 0, 1), (20, 1, 0)]), ((0, 0), [(19, 0, 1), (21, 1, 0)]), ((0, 18446744078004518912), [(1, 0, 1), (3, 0, 18446744073709551616), (4, 0, 79228162514264337593543950336), (5, 1, 0), (17, 0, 4294967296)]), ((0, 18446744073709551616), [(4, 0, 4294967296), (13, 1, 0), (18, 0, 18446744073709551616)]), ((0, 0), [(3, 0, 1), (12, 1, 0)])] [((0, 0), [(1, 1, 0)]), ((4294967293, 0), [(1, 0, 1)]), ((1, 0), [(2, 1, 0)]), ((4294967292, 0), [(2, 0, 1)]), ((0, 0), [(3, 1, 0)]), ((4294967293, 0), [(3, 0, 1)]), ((0, 0), [(4, 1, 0)]), ((4294967293, 0), [(4, 0, 1)]), ((0, 0), [(7, 1, 0)]), ((4294967293, 0), [(7, 0, 1)]), ((0, 0), [(9, 1, 0)]), ((4294967293, 0), [(9, 0, 1)]), ((0, 0), [(10, 1, 0)]), ((4294967293, 0), [(10, 0, 1)]), ((0, 1), [(7, 1, 0)]), ((0, 0), [(17, 1, 0)]), ((100000, 0), [(17, 0, 1)]), ((0, 0), [(18, 1, 0)]), ((4294967293, 0), [(18, 0, 1)]), ((0, 0), [(12, 1, 0)]), ((4294967292, 0), [(3, 0, 1)])] [([], [], [(2000092, ((0, 0), [(5, 1, 0)]), ((1, 0), []))], [])]
theorem zx_D833_ok {PT : Nat → zz_W → Prop} : zx_Lok 64 zHT PT zx_D833 := by
  refine zx_Lc_ok (fun w hI hK ins hl hr he hg => ?_)
  obtain ⟨a0, a1, a2, a3, a4, a5, a6, a7, a8, a9, a10, a11, a12, a13, rfl⟩ := zx_i14 hl
  have e0 : ((-4294967296) : Int) + (1 * a0 + ((-1) * a1 + ((-4294967296) * a2 + ((-18446744073709551616) * a3 + ((-79228162514264337593543950336) * a4 + 0))))) = 0 := he _ List.mem_cons_self
  have e1 : ((-4294967296) : Int) + ((-1) * a1 + ((-4294967296) * a2 + (1 * a6 + ((-18446744073709551616) * a7 + 0)))) = 0 := he _ (List.mem_cons_of_mem _ List.mem_cons_self)
  have e2 : (0 : Int) + ((-1) * a1 + (1 * a8 + ((-4294967296) * a9 + ((-18446744073709551616) * a10 + 0)))) = 0 := he _ (List.mem_cons_of_mem _ (List.mem_cons_of_mem _ List.mem_cons_self))
  have e3 : (1 : Int) + ((-1) * a7 + (1 * a11 + 0)) = 0 := he _ (List.mem_cons_of_mem _ (List.mem_cons_of_mem _ (List.mem_cons_of_mem _ List.mem_cons_self)))
  have e4 : ((-1) : Int) + (1 * (zk_xe w 2000092 a0) + 0) = 0 := he _ (List.mem_cons_of_mem _ (List.mem_cons_of_mem _ (List.mem_cons_of_mem _ (List.mem_cons_of_mem _ List.mem_cons_self))))
  have e5 : ((-1) : Int) + (1 * (zk_xe w 2000079 a6) + 0) = 0 := he _ (List.mem_cons_of_mem _ (List.mem_cons_of_mem _ (List.mem_cons_of_mem _ (List.mem_cons_of_mem _ (List.mem_cons_of_mem _ List.mem_cons_self)))))
  have e6 : ((-1) : Int) + (1 * (zk_xe w 2000076 a8) + 0) = 0 := he _ (List.mem_cons_of_mem _ (List.mem_cons_of_mem _ (List.mem_cons_of_mem _ (List.mem_cons_of_mem _ (List.mem_cons_of_mem _ (List.mem_cons_of_mem _ List.mem_cons_self))))))
  have e7 : ((-1) : Int) + (1 * (zk_xe w 2000094 a13) + 0) = 0 := he _ (List.mem_cons_of_mem _ (List.mem_cons_of_mem _ (List.mem_cons_of_mem _ (List.mem_cons_of_mem _ (List.mem_cons_of_mem _ (List.mem_cons_of_mem _ (List.mem_cons_of_mem _ List.mem_cons_self)))))))
  have e8 : (0 : Int) + ((-1) * (zk_xe w 229 a11) + (1 * (zk_xe w 256 a12) + 0)) = 0 := he _ (List.mem_cons_of_mem _ (List.mem_cons_of_mem _ (List.mem_cons_of_mem _ (List.mem_cons_of_mem _ (List.mem_cons_of_mem _ (List.mem_cons_of_mem _ (List.mem_cons_of_mem _ (List.mem_cons_of_mem _ List.mem_cons_self))))))))
  have e9 : (0 : Int) + ((-1) * (zk_xe w 230 a11) + (1 * (zk_xe w 257 a12) + 0)) = 0 := he _ (List.mem_cons_of_mem _ (List.mem_cons_of_mem _ (List.mem_cons_of_mem _ (List.mem_cons_of_mem _ (List.mem_cons_of_mem _ (List.mem_cons_of_mem _ (List.mem_cons_of_mem _ (List.mem_cons_of_mem _ (List.mem_cons_of_mem _ List.mem_cons_self)))))))))
  have e10 : ((-18446744078004518912) : Int) + ((-1) * a1 + ((-18446744073709551616) * a3 + ((-79228162514264337593543950336) * a4 + (1 * a5 + ((-4294967296) * (zk_xe w 231 a11) + 0))))) = 0 := he _ (List.mem_cons_of_mem _ (List.mem_cons_of_mem _ (List.mem_cons_of_mem _ (List.mem_cons_of_mem _ (List.mem_cons_of_mem _ (List.mem_cons_of_mem _ (List.mem_cons_of_mem _ (List.mem_cons_of_mem _ (List.mem_cons_of_mem _ (List.mem_cons_of_mem _ List.mem_cons_self))))))))))
  have e11 : ((-18446744073709551616) : Int) + ((-4294967296) * a4 + (1 * a13 + ((-18446744073709551616) * (zk_xe w 229 a11) + 0))) = 0 := he _ (List.mem_cons_of_mem _ (List.mem_cons_of_mem _ (List.mem_cons_of_mem _ (List.mem_cons_of_mem _ (List.mem_cons_of_mem _ (List.mem_cons_of_mem _ (List.mem_cons_of_mem _ (List.mem_cons_of_mem _ (List.mem_cons_of_mem _ (List.mem_cons_of_mem _ (List.mem_cons_of_mem _ List.mem_cons_self)))))))))))
  have e12 : (0 : Int) + ((-1) * a3 + (1 * a12 + 0)) = 0 := he _ (List.mem_cons_of_mem _ (List.mem_cons_of_mem _ (List.mem_cons_of_mem _ (List.mem_cons_of_mem _ (List.mem_cons_of_mem _ (List.mem_cons_of_mem _ (List.mem_cons_of_mem _ (List.mem_cons_of_mem _ (List.mem_cons_of_mem _ (List.mem_cons_of_mem _ (List.mem_cons_of_mem _ (List.mem_cons_of_mem _ List.mem_cons_self))))))))))))
  have g0 : 0 ≤ (0 : Int) + (1 * a1 + 0) := hg _ List.mem_cons_self
  have g1 : 0 ≤ (4294967293 : Int) + ((-1) * a1 + 0) := hg _ (List.mem_cons_of_mem _ List.mem_cons_self)
  have g2 : 0 ≤ (1 : Int) + (1 * a2 + 0) := hg _ (List.mem_cons_of_mem _ (List.mem_cons_of_mem _ List.mem_cons_self))
  have g3 : 0 ≤ (4294967292 : Int) + ((-1) * a2 + 0) := hg _ (List.mem_cons_of_mem _ (List.mem_cons_of_mem _ (List.mem_cons_of_mem _ List.mem_cons_self)))
  have g4 : 0 ≤ (0 : Int) + (1 * a3 + 0) := hg _ (List.mem_cons_of_mem _ (List.mem_cons_of_mem _ (List.mem_cons_of_mem _ (List.mem_cons_of_mem _ List.mem_cons_self))))
  have g5 : 0 ≤ (4294967293 : Int) + ((-1) * a3 + 0) := hg _ (List.mem_cons_of_mem _ (List.mem_cons_of_mem _ (List.mem_cons_of_mem _ (List.mem_cons_of_mem _ (List.mem_cons_of_mem _ List.mem_cons_self)))))
  have g6 : 0 ≤ (0 : Int) + (1 * a4 + 0) := hg _ (List.mem_cons_of_mem _ (List.mem_cons_of_mem _ (List.mem_cons_of_mem _ (List.mem_cons_of_mem _ (List.mem_cons_of_mem _ (List.mem_cons_of_mem _ List.mem_cons_self))))))
  have g7 : 0 ≤ (4294967293 : Int) + ((-1) * a4 + 0) := hg _ (List.mem_cons_of_mem _ (List.mem_cons_of_mem _ (List.mem_cons_of_mem _ (List.mem_cons_of_mem _ (List.mem_cons_of_mem _ (List.mem_cons_of_mem _ (List.mem_cons_of_mem _ List.mem_cons_self)))))))
  have g8 : 0 ≤ (0 : Int) + (1 * a7 + 0) := hg _ (List.mem_cons_of_mem _ (List.mem_cons_of_mem _ (List.mem_cons_of_mem _ (List.mem_cons_of_mem _ (List.mem_cons_of_mem _ (List.mem_cons_of_mem _ (List.mem_cons_of_mem _ (List.mem_cons_of_mem _ List.mem_cons_self))))))))
  have g9 : 0 ≤ (4294967293 : Int) + ((-1) * a7 + 0) := hg _ (List.mem_cons_of_mem _ (List.mem_cons_of_mem _ (List.mem_cons_of_mem _ (List.mem_cons_of_mem _ (List.mem_cons_of_mem _ (List.mem_cons_of_mem _ (List.mem_cons_of_mem _ (List.mem_cons_of_mem _ (List.mem_cons_of_mem _ List.mem_cons_self)))))))))
  have g10 : 0 ≤ (0 : Int) + (1 * a9 + 0) := hg _ (List.mem_cons_of_mem _ (List.mem_cons_of_mem _ (List.mem_cons_of_mem _ (List.mem_cons_of_mem _ (List.mem_cons_of_mem _ (List.mem_cons_of_mem _ (List.mem_cons_of_mem _ (List.mem_cons_of_mem _ (List.mem_cons_of_mem _ (List.mem_cons_of_mem _ List.mem_cons_self))))))))))
  have g11 : 0 ≤ (4294967293 : Int) + ((-1) * a9 + 0) := hg _ (List.mem_cons_of_mem _ (List.mem_cons_of_mem _ (List.mem_cons_of_mem _ (List.mem_cons_of_mem _ (List.mem_cons_of_mem _ (List.mem_cons_of_mem _ (List.mem_cons_of_mem _ (List.mem_cons_of_mem _ (List.mem_cons_of_mem _ (List.mem_cons_of_mem _ (List.mem_cons_of_mem _ List.mem_cons_self)))))))))))
  have g12 : 0 ≤ (0 : Int) + (1 * a10 + 0) := hg _ (List.mem_cons_of_mem _ (List.mem_cons_of_mem _ (List.mem_cons_of_mem _ (List.mem_cons_of_mem _ (List.mem_cons_of_mem _ (List.mem_cons_of_mem _ (List.mem_cons_of_mem _ (List.mem_cons_of_mem _ (List.mem_cons_of_mem _ (List.mem_cons_of_mem _ (List.mem_cons_of_mem _ (List.mem_cons_of_mem _ List.mem_cons_self))))))))))))
  have g13 : 0 ≤ (4294967293 : Int) + ((-1) * a10 + 0) := hg _ (List.mem_cons_of_mem _ (List.mem_cons_of_mem _ (List.mem_cons_of_mem _ (List.mem_cons_of_mem _ (List.mem_cons_of_mem _ (List.mem_cons_of_mem _ (List.mem_cons_of_mem _ (List.mem_cons_of_mem _ (List.mem_cons_of_mem _ (List.mem_cons_of_mem _ (List.mem_cons_of_mem _ (List.mem_cons_of_mem _ (List.mem_cons_of_mem _ List.mem_cons_self)))))))))))))
  have g14 : 0 ≤ ((-1) : Int) + (1 * a7 + 0) := hg _ (List.mem_cons_of_mem _ (List.mem_cons_of_mem _ (List.mem_cons_of_mem _ (List.mem_cons_of_mem _ (List.mem_cons_of_mem _ (List.mem_cons_of_mem _ (List.mem_cons_of_mem _ (List.mem_cons_of_mem _ (List.mem_cons_of_mem _ (List.mem_cons_of_mem _ (List.mem_cons_of_mem _ (List.mem_cons_of_mem _ (List.mem_cons_of_mem _ (List.mem_cons_of_mem _ List.mem_cons_self))))))))))))))
  have g15 : 0 ≤ (0 : Int) + (1 * (zk_xe w 231 a11) + 0) := hg _ (List.mem_cons_of_mem _ (List.mem_cons_of_mem _ (List.mem_cons_of_mem _ (List.mem_cons_of_mem _ (List.mem_cons_of_mem _ (List.mem_cons_of_mem _ (List.mem_cons_of_mem _ (List.mem_cons_of_mem _ (List.mem_cons_of_mem _ (List.mem_cons_of_mem _ (List.mem_cons_of_mem _ (List.mem_cons_of_mem _ (List.mem_cons_of_mem _ (List.mem_cons_of_mem _ (List.mem_cons_of_mem _ List.mem_cons_self)))))))))))))))
  have g16 : 0 ≤ (100000 : Int) + ((-1) * (zk_xe w 231 a11) + 0) := hg _ (List.mem_cons_of_mem _ (List.mem_cons_of_mem _ (List.mem_cons_of_mem _ (List.mem_cons_of_mem _ (List.mem_cons_of_mem _ (List.mem_cons_of_mem _ (List.mem_cons_of_mem _ (List.mem_cons_of_mem _ (List.mem_cons_of_mem _ (List.mem_cons_of_mem _ (List.mem_cons_of_mem _ (List.mem_cons_of_mem _ (List.mem_cons_of_mem _ (List.mem_cons_of_mem _ (List.mem_cons_of_mem _ (List.mem_cons_of_mem _ List.mem_cons_self))))))))))))))))
  have g17 : 0 ≤ (0 : Int) + (1 * (zk_xe w 229 a11) + 0) := hg _ (List.mem_cons_of_mem _ (List.mem_cons_of_mem _ (List.mem_cons_of_mem _ (List.mem_cons_of_mem _ (List.mem_cons_of_mem _ (List.mem_cons_of_mem _ (List.mem_cons_of_mem _ (List.mem_cons_of_mem _ (List.mem_cons_of_mem _ (List.mem_cons_of_mem _ (List.mem_cons_of_mem _ (List.mem_cons_of_mem _ (List.mem_cons_of_mem _ (List.mem_cons_of_mem _ (List.mem_cons_of_mem _ (List.mem_cons_of_mem _ (List.mem_cons_of_mem _ List.mem_cons_self)))))))))))))))))
  have g18 : 0 ≤ (4294967293 : Int) + ((-1) * (zk_xe w 229 a11) + 0) := hg _ (List.mem_cons_of_mem _ (List.mem_cons_of_mem _ (List.mem_cons_of_mem _ (List.mem_cons_of_mem _ (List.mem_cons_of_mem _ (List.mem_cons_of_mem _ (List.mem_cons_of_mem _ (List.mem_cons_of_mem _ (List.mem_cons_of_mem _ (List.mem_cons_of_mem _ (List.mem_cons_of_mem _ (List.mem_cons_of_mem _ (List.mem_cons_of_mem _ (List.mem_cons_of_mem _ (List.mem_cons_of_mem _ (List.mem_cons_of_mem _ (List.mem_cons_of_mem _ (List.mem_cons_of_mem _ List.mem_cons_self))))))))))))))))))
  have g19 : 0 ≤ (0 : Int) + (1 * a12 + 0) := hg _ (List.mem_cons_of_mem _ (List.mem_cons_of_mem _ (List.mem_cons_of_mem _ (List.mem_cons_of_mem _ (List.mem_cons_of_mem _ (List.mem_cons_of_mem _ (List.mem_cons_of_mem _ (List.mem_cons_of_mem _ (List.mem_cons_of_mem _ (List.mem_cons_of_mem _ (List.mem_cons_of_mem _ (List.mem_cons_of_mem _ (List.mem_cons_of_mem _ (List.mem_cons_of_mem _ (List.mem_cons_of_mem _ (List.mem_cons_of_mem _ (List.mem_cons_of_mem _ (List.mem_cons_of_mem _ (List.mem_cons_of_mem _ List.mem_cons_self)))))))))))))))))))
  have g20 : 0 ≤ (4294967292 : Int) + ((-1) * a3 + 0) := hg _ (List.mem_cons_of_mem _ (List.mem_cons_of_mem _ (List.mem_cons_of_mem _ (List.mem_cons_of_mem _ (List.mem_cons_of_mem _ (List.mem_cons_of_mem _ (List.mem_cons_of_mem _ (List.mem_cons_of_mem _ (List.mem_cons_of_mem _ (List.mem_cons_of_mem _ (List.mem_cons_of_mem _ (List.mem_cons_of_mem _ (List.mem_cons_of_mem _ (List.mem_cons_of_mem _ (List.mem_cons_of_mem _ (List.mem_cons_of_mem _ (List.mem_cons_of_mem _ (List.mem_cons_of_mem _ (List.mem_cons_of_mem _ (List.mem_cons_of_mem _ List.mem_cons_self))))))))))))))))))))
  have r0 : 0 ≤ a0 := hr _ List.mem_cons_self
  have r1 : 0 ≤ a6 := hr _ (List.mem_cons_of_mem _ List.mem_cons_self)
  have r2 : 0 ≤ a8 := hr _ (List.mem_cons_of_mem _ (List.mem_cons_of_mem _ List.mem_cons_self))
  have r3 : 0 ≤ a11 := hr _ (List.mem_cons_of_mem _ (List.mem_cons_of_mem _ (List.mem_cons_of_mem _ List.mem_cons_self)))
  have r4 : 0 ≤ a11 := hr _ (List.mem_cons_of_mem _ (List.mem_cons_of_mem _ (List.mem_cons_of_mem _ (List.mem_cons_of_mem _ List.mem_cons_self))))
  have r5 : 0 ≤ a11 := hr _ (List.mem_cons_of_mem _ (List.mem_cons_of_mem _ (List.mem_cons_of_mem _ (List.mem_cons_of_mem _ (List.mem_cons_of_mem _ List.mem_cons_self)))))
  have r6 : 0 ≤ a12 := hr _ (List.mem_cons_of_mem _ (List.mem_cons_of_mem _ (List.mem_cons_of_mem _ (List.mem_cons_of_mem _ (List.mem_cons_of_mem _ (List.mem_cons_of_mem _ List.mem_cons_self))))))
  have r7 : 0 ≤ a12 := hr _ (List.mem_cons_of_mem _ (List.mem_cons_of_mem _ (List.mem_cons_of_mem _ (List.mem_cons_of_mem _ (List.mem_cons_of_mem _ (List.mem_cons_of_mem _ (List.mem_cons_of_mem _ List.mem_cons_self)))))))
  have r8 : 0 ≤ a13 := hr _ (List.mem_cons_of_mem _ (List.mem_cons_of_mem _ (List.mem_cons_of_mem _ (List.mem_cons_of_mem _ (List.mem_cons_of_mem _ (List.mem_cons_of_mem _ (List.mem_cons_of_mem _ (List.mem_cons_of_mem _ List.mem_cons_self))))))))
  have hp := (zy_r92 (w := w) (j := a0) (n := a1) (l := a2) (o := a3) (f := a4) (by omega) (by omega) (by omega) (by omega) (by omega) (by omega) (by omega) (by omega) (by omega) ).mp (by omega)
  have hn := (zs_79 (w := w) (j := a6) (k := a1) (l := a2) (z := a7) (by omega) (by omega) (by omega) (by omega) (by omega) (by omega) (by omega) ).mp (by omega)
  have hu := (zs_76 (w := w) (j := a8) (n := a1) (c := a9) (t := a10) (by omega) (by omega) (by omega) (by omega) (by omega) (by omega) (by omega) ).mp (by omega)
  have k1 : zh_e w 231 (a7 - 1) = zk_xe w 231 a11 := by rw [zk_xe_r (i := 231) (by decide)]; show zk_el w 231 (a7 - 1) = zk_el w 231 a11; rw [show a7 - 1 = a11 by omega]
  have k2 : zh_e w 229 (a7 - 1) = zk_xe w 229 a11 := by rw [zk_xe_r (i := 229) (by decide)]; show zk_el w 229 (a7 - 1) = zk_el w 229 a11; rw [show a7 - 1 = a11 by omega]
  have k3 : zh_e w 230 (a7 - 1) = zk_xe w 230 a11 := by rw [zk_xe_r (i := 230) (by decide)]; show zk_el w 230 (a7 - 1) = zk_el w 230 a11; rw [show a7 - 1 = a11 by omega]
  have hf := (zy_r94 (w := w) (j := a13) (l := 0) (h := a4) (x := ((zk_xe w 229 a11) + 1)) (by omega) (by omega) (by omega) (by omega) (by omega) (by omega) (by omega) ).mp (by omega)
  have k4 : zh_e w 256 (a12) = zk_xe w 256 a12 := by rw [zk_xe_r (i := 256) (by decide)]; show zk_el w 256 (a12) = zk_el w 256 a12; rw [show a12 = a12 by omega]
  have k5 : zh_e w 257 (a12) = zk_xe w 257 a12 := by rw [zk_xe_r (i := 257) (by decide)]; show zk_el w 257 (a12) = zk_el w 257 a12; rw [show a12 = a12 by omega]
  have hs : zr_rs (zh_e w 229) (zh_e w 230) (zh_e w 233) (zh_e w 234) (zh_e w 256) (zh_e w 257) a4 (a3 + 1) (a7 - 1) := by
    refine Or.inr ⟨fun m m0 m1 => ?_, a12, by omega, by omega, by omega, by omega⟩
    have := hf m m0 m0 m1
    omega
  have h : zr_rv (zh_e w 229) (zh_e w 230) (zh_e w 231) (zh_e w 233) (zh_e w 234) (zh_e w 256) (zh_e w 257) (zh_e w 224) a1 (zk_xe w 231 a11) (a3 + 1) a4 := zr_st hp (by omega) hn (by omega) k1.symm hu.1 hs
  exact ⟨_, List.mem_cons_self, [], rfl, zx_bnil, zx_cs0, (zx_eF1 (by show 0 ≤ (0 : Int) + (1 * a5 + 0); omega) (by show zk_xe w 2000092 ((0 : Int) + (1 * a5 + 0)) = (1 : Int) + (0); rw [show (0 : Int) + (1 * a5 + 0) = a5 by omega]; exact ((zy_r92 (w := w) (j := a5) (n := a1) (l := (zk_xe w 231 a11)) (o := (a3 + 1)) (f := a4) (by omega) (by omega) (by omega) (by omega) (by omega) (by omega) (by omega) (by omega) (by omega) ).mpr (h)).trans (by omega)) zx_eF0), zx_k0⟩
def zx_D834 : zx_L := zx_Lc [] 6 [(2000071, 0)] [] [((0, 0), [(0, 1, 0)]), ((0, 1), [(6, 1, 0)]), ((0, 4294967296), [(1, 1, 0), (2, 0, 1), (3, 0, 4294967296), (4, 0, 18446744073709551616), (5, 0, 79228162514264337593543950336)])] [((0, 0), [(2, 1, 0)]), ((4294967293, 0), [(2, 0, 1)]), ((1, 0), [(3, 1, 0)]), ((4294967292, 0), [(3, 0, 1)]), ((0, 0), [(4, 1, 0)]), ((4294967293, 0), [(4, 0, 1)]), ((0, 0), [(5, 1, 0)]), ((4294967293, 0), [(5, 0, 1)])] [([], [], [(2000092, ((0, 0), [(1, 1, 0)]), ((1, 0), []))], [])]
theorem zx_D834_ok {PT : Nat → zz_W → Prop} : zx_Lok 64 zHT PT zx_D834 := by
  refine zx_Lc_ok (fun w hI hK ins hl hr he hg => ?_)
  obtain ⟨a0, a1, a2, a3, a4, a5, rfl⟩ := zx_i6 hl
  have e0 : (0 : Int) + (1 * a0 + 0) = 0 := he _ List.mem_cons_self
  have e1 : ((-1) : Int) + (1 * (zk_xe w 2000071 a0) + 0) = 0 := he _ (List.mem_cons_of_mem _ List.mem_cons_self)
  have e2 : ((-4294967296) : Int) + (1 * a1 + ((-1) * a2 + ((-4294967296) * a3 + ((-18446744073709551616) * a4 + ((-79228162514264337593543950336) * a5 + 0))))) = 0 := he _ (List.mem_cons_of_mem _ (List.mem_cons_of_mem _ List.mem_cons_self))
  have g0 : 0 ≤ (0 : Int) + (1 * a2 + 0) := hg _ List.mem_cons_self
  have g1 : 0 ≤ (4294967293 : Int) + ((-1) * a2 + 0) := hg _ (List.mem_cons_of_mem _ List.mem_cons_self)
  have g2 : 0 ≤ (1 : Int) + (1 * a3 + 0) := hg _ (List.mem_cons_of_mem _ (List.mem_cons_of_mem _ List.mem_cons_self))
  have g3 : 0 ≤ (4294967292 : Int) + ((-1) * a3 + 0) := hg _ (List.mem_cons_of_mem _ (List.mem_cons_of_mem _ (List.mem_cons_of_mem _ List.mem_cons_self)))
  have g4 : 0 ≤ (0 : Int) + (1 * a4 + 0) := hg _ (List.mem_cons_of_mem _ (List.mem_cons_of_mem _ (List.mem_cons_of_mem _ (List.mem_cons_of_mem _ List.mem_cons_self))))
  have g5 : 0 ≤ (4294967293 : Int) + ((-1) * a4 + 0) := hg _ (List.mem_cons_of_mem _ (List.mem_cons_of_mem _ (List.mem_cons_of_mem _ (List.mem_cons_of_mem _ (List.mem_cons_of_mem _ List.mem_cons_self)))))
  have g6 : 0 ≤ (0 : Int) + (1 * a5 + 0) := hg _ (List.mem_cons_of_mem _ (List.mem_cons_of_mem _ (List.mem_cons_of_mem _ (List.mem_cons_of_mem _ (List.mem_cons_of_mem _ (List.mem_cons_of_mem _ List.mem_cons_self))))))
  have g7 : 0 ≤ (4294967293 : Int) + ((-1) * a5 + 0) := hg _ (List.mem_cons_of_mem _ (List.mem_cons_of_mem _ (List.mem_cons_of_mem _ (List.mem_cons_of_mem _ (List.mem_cons_of_mem _ (List.mem_cons_of_mem _ (List.mem_cons_of_mem _ List.mem_cons_self)))))))
  have r0 : 0 ≤ a0 := hr _ List.mem_cons_self
  have hx : zs_x (zh_e w 224) := by
    rcases zs_71c (w := w) (j := a0) with h | h
    · exact h.2
    · omega
  have h : zr_rv (zh_e w 229) (zh_e w 230) (zh_e w 231) (zh_e w 233) (zh_e w 234) (zh_e w 256) (zh_e w 257) (zh_e w 224) a2 a3 a4 a5 := Or.inl hx
  exact ⟨_, List.mem_cons_self, [], rfl, zx_bnil, zx_cs0, (zx_eF1 (by show 0 ≤ (0 : Int) + (1 * a1 + 0); omega) (by show zk_xe w 2000092 ((0 : Int) + (1 * a1 + 0)) = (1 : Int) + (0); rw [show (0 : Int) + (1 * a1 + 0) = a1 by omega]; exact ((zy_r92 (w := w) (j := a1) (n := a2) (l := a3) (o := a4) (f := a5) (by omega) (by omega) (by omega) (by omega) (by omega) (by omega) (by omega) (by omega) (by omega) ).mpr (h)).trans (by omega)) zx_eF0), zx_k0⟩
def zx_D837 : zx_L := zx_Lc [] 7 [(2000092, 0), (2000080, 5)] [] [((0, 4294967296), [(0, 1, 0), (1, 0, 1), (2, 0, 4294967296), (3, 0, 18446744073709551616), (4, 0, 79228162514264337593543950336)]), ((0, 1), [(7, 1, 0)]), ((0, 1), [(1, 0, 4294967296), (2, 0, 1), (5, 1, 0)]), ((0, 12889196855296), [(1, 0, 1), (3, 0, 18446744073709551616), (4, 0, 79228162514264337593543950336), (6, 1, 0)])] [((0, 0), [(1, 1, 0)]), ((4294967293, 0), [(1, 0, 1)]), ((1, 0), [(2, 1, 0)]), ((4294967292, 0), [(2, 0, 1)]), ((0, 0), [(3, 1, 0)]), ((4294967293, 0), [(3, 0, 1)]), ((0, 0), [(4, 1, 0)]), ((4294967293, 0), [(4, 0, 1)]), ((0, 0), [(1, 0, 1), (8, 1, 0)])] [([], [], [(2000092, ((0, 0), [(6, 1, 0)]), ((1, 0), []))], [])]
theorem zx_D837_ok {PT : Nat → zz_W → Prop} : zx_Lok 64 zHT PT zx_D837 := by
  refine zx_Lc_ok (fun w hI hK ins hl hr he hg => ?_)
  obtain ⟨a0, a1, a2, a3, a4, a5, a6, rfl⟩ := zx_i7 hl
  have e0 : ((-4294967296) : Int) + (1 * a0 + ((-1) * a1 + ((-4294967296) * a2 + ((-18446744073709551616) * a3 + ((-79228162514264337593543950336) * a4 + 0))))) = 0 := he _ List.mem_cons_self
  have e1 : ((-1) : Int) + (1 * (zk_xe w 2000092 a0) + 0) = 0 := he _ (List.mem_cons_of_mem _ List.mem_cons_self)
  have e2 : ((-1) : Int) + ((-4294967296) * a1 + ((-1) * a2 + (1 * a5 + 0))) = 0 := he _ (List.mem_cons_of_mem _ (List.mem_cons_of_mem _ List.mem_cons_self))
  have e3 : ((-12889196855296) : Int) + ((-1) * a1 + ((-18446744073709551616) * a3 + ((-79228162514264337593543950336) * a4 + (1 * a6 + 0)))) = 0 := he _ (List.mem_cons_of_mem _ (List.mem_cons_of_mem _ (List.mem_cons_of_mem _ List.mem_cons_self)))
  have g0 : 0 ≤ (0 : Int) + (1 * a1 + 0) := hg _ List.mem_cons_self
  have g1 : 0 ≤ (4294967293 : Int) + ((-1) * a1 + 0) := hg _ (List.mem_cons_of_mem _ List.mem_cons_self)
  have g2 : 0 ≤ (1 : Int) + (1 * a2 + 0) := hg _ (List.mem_cons_of_mem _ (List.mem_cons_of_mem _ List.mem_cons_self))
  have g3 : 0 ≤ (4294967292 : Int) + ((-1) * a2 + 0) := hg _ (List.mem_cons_of_mem _ (List.mem_cons_of_mem _ (List.mem_cons_of_mem _ List.mem_cons_self)))
  have g4 : 0 ≤ (0 : Int) + (1 * a3 + 0) := hg _ (List.mem_cons_of_mem _ (List.mem_cons_of_mem _ (List.mem_cons_of_mem _ (List.mem_cons_of_mem _ List.mem_cons_self))))
  have g5 : 0 ≤ (4294967293 : Int) + ((-1) * a3 + 0) := hg _ (List.mem_cons_of_mem _ (List.mem_cons_of_mem _ (List.mem_cons_of_mem _ (List.mem_cons_of_mem _ (List.mem_cons_of_mem _ List.mem_cons_self)))))
  have g6 : 0 ≤ (0 : Int) + (1 * a4 + 0) := hg _ (List.mem_cons_of_mem _ (List.mem_cons_of_mem _ (List.mem_cons_of_mem _ (List.mem_cons_of_mem _ (List.mem_cons_of_mem _ (List.mem_cons_of_mem _ List.mem_cons_self))))))
  have g7 : 0 ≤ (4294967293 : Int) + ((-1) * a4 + 0) := hg _ (List.mem_cons_of_mem _ (List.mem_cons_of_mem _ (List.mem_cons_of_mem _ (List.mem_cons_of_mem _ (List.mem_cons_of_mem _ (List.mem_cons_of_mem _ (List.mem_cons_of_mem _ List.mem_cons_self)))))))
  have g8 : 0 ≤ (0 : Int) + ((-1) * a1 + (1 * (zk_xe w 2000080 a5) + 0)) := hg _ (List.mem_cons_of_mem _ (List.mem_cons_of_mem _ (List.mem_cons_of_mem _ (List.mem_cons_of_mem _ (List.mem_cons_of_mem _ (List.mem_cons_of_mem _ (List.mem_cons_of_mem _ (List.mem_cons_of_mem _ List.mem_cons_self))))))))
  have r0 : 0 ≤ a0 := hr _ List.mem_cons_self
  have r1 : 0 ≤ a5 := hr _ (List.mem_cons_of_mem _ List.mem_cons_self)
  have hp := (zy_r92 (w := w) (j := a0) (n := a1) (l := a2) (o := a3) (f := a4) (by omega) (by omega) (by omega) (by omega) (by omega) (by omega) (by omega) (by omega) (by omega) ).mp (by omega)
  have hc := zs_80 (w := w) (j := a5) (l := a2) (m := a1) (by omega) (by omega) (by omega) (by omega) (by omega) 
  have hf := zr_cf (up := zh_e w 231) (l := a2) (m := a1.toNat) (by rw [← hc]; omega)
  have h : zr_rv (zh_e w 229) (zh_e w 230) (zh_e w 231) (zh_e w 233) (zh_e w 234) (zh_e w 256) (zh_e w 257) (zh_e w 224) a1 3000 a3 a4 := by
    rcases hp with h | h
    · exact Or.inl h
    · exact Or.inr (fun i i0 i1 _ => h i i0 i1 (hf i i0 (by omega)))
  exact ⟨_, List.mem_cons_self, [], rfl, zx_bnil, zx_cs0, (zx_eF1 (by show 0 ≤ (0 : Int) + (1 * a6 + 0); omega) (by show zk_xe w 2000092 ((0 : Int) + (1 * a6 + 0)) = (1 : Int) + (0); rw [show (0 : Int) + (1 * a6 + 0) = a6 by omega]; exact ((zy_r92 (w := w) (j := a6) (n := a1) (l := 3000) (o := a3) (f := a4) (by omega) (by omega) (by omega) (by omega) (by omega) (by omega) (by omega) (by omega) (by omega) ).mpr (h)).trans (by omega)) zx_eF0), zx_k0⟩
def zx_D838 : zx_L := zx_Lc [] 4 [(2000079, 0)] [] [((0, 0), [(0, 1, 0), (1, 0, 1), (2, 0, 4294967296), (3, 0, 18446744073709551616)]), ((0, 1), [(4, 1, 0)])] [((0, 0), [(1, 1, 0)]), ((4294967293, 0), [(1, 0, 1)]), ((0, 0), [(2, 1, 0)]), ((4294967293, 0), [(2, 0, 1)]), ((0, 0), [(3, 1, 0)]), ((4294967293, 0), [(3, 0, 1)]), ((0, 1), [(3, 1, 0)])] [([], [((0, 0), [(1, 1, 0), (3, 0, 1)])], [], [])]
theorem zx_D838_ok {PT : Nat → zz_W → Prop} : zx_Lok 64 zHT PT zx_D838 := by
  refine zx_Lc_ok (fun w hI hK ins hl hr he hg => ?_)
  obtain ⟨a0, a1, a2, a3, rfl⟩ := zx_i4 hl
  have e0 : (0 : Int) + (1 * a0 + ((-1) * a1 + ((-4294967296) * a2 + ((-18446744073709551616) * a3 + 0)))) = 0 := he _ List.mem_cons_self
  have e1 : ((-1) : Int) + (1 * (zk_xe w 2000079 a0) + 0) = 0 := he _ (List.mem_cons_of_mem _ List.mem_cons_self)
  have g0 : 0 ≤ (0 : Int) + (1 * a1 + 0) := hg _ List.mem_cons_self
  have g1 : 0 ≤ (4294967293 : Int) + ((-1) * a1 + 0) := hg _ (List.mem_cons_of_mem _ List.mem_cons_self)
  have g2 : 0 ≤ (0 : Int) + (1 * a2 + 0) := hg _ (List.mem_cons_of_mem _ (List.mem_cons_of_mem _ List.mem_cons_self))
  have g3 : 0 ≤ (4294967293 : Int) + ((-1) * a2 + 0) := hg _ (List.mem_cons_of_mem _ (List.mem_cons_of_mem _ (List.mem_cons_of_mem _ List.mem_cons_self)))
  have g4 : 0 ≤ (0 : Int) + (1 * a3 + 0) := hg _ (List.mem_cons_of_mem _ (List.mem_cons_of_mem _ (List.mem_cons_of_mem _ (List.mem_cons_of_mem _ List.mem_cons_self))))
  have g5 : 0 ≤ (4294967293 : Int) + ((-1) * a3 + 0) := hg _ (List.mem_cons_of_mem _ (List.mem_cons_of_mem _ (List.mem_cons_of_mem _ (List.mem_cons_of_mem _ (List.mem_cons_of_mem _ List.mem_cons_self)))))
  have g6 : 0 ≤ ((-1) : Int) + (1 * a3 + 0) := hg _ (List.mem_cons_of_mem _ (List.mem_cons_of_mem _ (List.mem_cons_of_mem _ (List.mem_cons_of_mem _ (List.mem_cons_of_mem _ (List.mem_cons_of_mem _ List.mem_cons_self))))))
  have r0 : 0 ≤ a0 := hr _ List.mem_cons_self
  have hn := (zs_79 (w := w) (j := a0) (k := a1) (l := (a2 - 1)) (z := a3) (by omega) (by omega) (by omega) (by omega) (by omega) (by omega) (by omega) ).mp (by omega)
  have h : a3 ≤ a1 := by
    rcases hn with h | h
    · omega
    · have := h.2.1
      omega
  exact ⟨_, List.mem_cons_self, [], rfl, zx_bnil, (zx_cs1 (by show 0 ≤ (0 : Int) + (1 * a1 + ((-1) * a3 + 0)); omega) zx_cs0), zx_eF0, zx_k0⟩
def zx_D835 : zx_L := zx_Lc [] 1 [] [] [((0, 0), [(0, 1, 0)])] [] [([], [], [(2000093, ((0, 0), [(0, 1, 0)]), ((1, 0), []))], [])]
theorem zx_D835_ok {PT : Nat → zz_W → Prop} : zx_Lok 64 zHT PT zx_D835 := by
  refine zx_Lc_ok (fun w hI hK ins hl hr he hg => ?_)
  obtain ⟨a0, rfl⟩ := zx_i1 hl
  have e0 : (0 : Int) + (1 * a0 + 0) = 0 := he _ List.mem_cons_self
  have h : zr_op (zn_l w 173) (zn_l w 174) (zh_e w 256) (zh_e w 257) a0 := fun q q0 q1 => by omega
  exact ⟨_, List.mem_cons_self, [], rfl, zx_bnil, zx_cs0, (zx_eF1 (by show 0 ≤ (0 : Int) + (1 * a0 + 0); omega) (by show zk_xe w 2000093 ((0 : Int) + (1 * a0 + 0)) = (1 : Int) + (0); rw [show (0 : Int) + (1 * a0 + 0) = a0 by omega]; exact ((zy_r93 (w := w) (j := a0) (by omega) (by omega) ).mpr (h)).trans (by omega)) zx_eF0), zx_k0⟩
def zx_D836 : zx_L := zx_Lc [] 3 [(2000093, 0), (256, 1), (257, 1), (2000089, 2)] [] [((0, 1), [(3, 1, 0)]), ((0, 0), [(0, 0, 1), (1, 1, 0)]), ((0, 1), [(6, 1, 0)]), ((0, 4294967297), [(2, 1, 0), (4, 0, 1)])] [((0, 0), [(0, 1, 0)]), ((4294967292, 0), [(0, 0, 1)]), ((0, 0), [(4, 1, 0)]), ((4294967292, 0), [(4, 0, 1)]), ((0, 0), [(5, 1, 0)]), ((7, 0), [(5, 0, 1)])] [([], [], [(2000093, ((1, 0), [(0, 1, 0)]), ((1, 0), []))], [])]
theorem zx_D836_ok {PT : Nat → zz_W → Prop} : zx_Lok 64 zHT PT zx_D836 := by
  refine zx_Lc_ok (fun w hI hK ins hl hr he hg => ?_)
  obtain ⟨a0, a1, a2, rfl⟩ := zx_i3 hl
  have e0 : ((-1) : Int) + (1 * (zk_xe w 2000093 a0) + 0) = 0 := he _ List.mem_cons_self
  have e1 : (0 : Int) + ((-1) * a0 + (1 * a1 + 0)) = 0 := he _ (List.mem_cons_of_mem _ List.mem_cons_self)
  have e2 : ((-1) : Int) + (1 * (zk_xe w 2000089 a2) + 0) = 0 := he _ (List.mem_cons_of_mem _ (List.mem_cons_of_mem _ List.mem_cons_self))
  have e3 : ((-4294967297) : Int) + (1 * a2 + ((-1) * (zk_xe w 256 a1) + 0)) = 0 := he _ (List.mem_cons_of_mem _ (List.mem_cons_of_mem _ (List.mem_cons_of_mem _ List.mem_cons_self)))
  have g0 : 0 ≤ (0 : Int) + (1 * a0 + 0) := hg _ List.mem_cons_self
  have g1 : 0 ≤ (4294967292 : Int) + ((-1) * a0 + 0) := hg _ (List.mem_cons_of_mem _ List.mem_cons_self)
  have g2 : 0 ≤ (0 : Int) + (1 * (zk_xe w 256 a1) + 0) := hg _ (List.mem_cons_of_mem _ (List.mem_cons_of_mem _ List.mem_cons_self))
  have g3 : 0 ≤ (4294967292 : Int) + ((-1) * (zk_xe w 256 a1) + 0) := hg _ (List.mem_cons_of_mem _ (List.mem_cons_of_mem _ (List.mem_cons_of_mem _ List.mem_cons_self)))
  have g4 : 0 ≤ (0 : Int) + (1 * (zk_xe w 257 a1) + 0) := hg _ (List.mem_cons_of_mem _ (List.mem_cons_of_mem _ (List.mem_cons_of_mem _ (List.mem_cons_of_mem _ List.mem_cons_self))))
  have g5 : 0 ≤ (7 : Int) + ((-1) * (zk_xe w 257 a1) + 0) := hg _ (List.mem_cons_of_mem _ (List.mem_cons_of_mem _ (List.mem_cons_of_mem _ (List.mem_cons_of_mem _ (List.mem_cons_of_mem _ List.mem_cons_self)))))
  have r0 : 0 ≤ a0 := hr _ List.mem_cons_self
  have r1 : 0 ≤ a1 := hr _ (List.mem_cons_of_mem _ List.mem_cons_self)
  have r2 : 0 ≤ a1 := hr _ (List.mem_cons_of_mem _ (List.mem_cons_of_mem _ List.mem_cons_self))
  have r3 : 0 ≤ a2 := hr _ (List.mem_cons_of_mem _ (List.mem_cons_of_mem _ (List.mem_cons_of_mem _ List.mem_cons_self)))
  have hp := (zy_r93 (w := w) (j := a0) (by omega) (by omega) ).mp (by omega)
  have k0 : zh_e w 256 (a0) = zk_xe w 256 a1 := by rw [zk_xe_r (i := 256) (by decide)]; show zk_el w 256 (a0) = zk_el w 256 a1; rw [show a0 = a1 by omega]
  have k1 : zh_e w 257 (a0) = zk_xe w 257 a1 := by rw [zk_xe_r (i := 257) (by decide)]; show zk_el w 257 (a0) = zk_el w 257 a1; rw [show a0 = a1 by omega]
  have hl := (zn_89 (w := w) (j := a2) (n := zk_xe w 256 a1) (by omega) (by omega) (by omega)).mp (by omega)
  have h : zr_op (zn_l w 173) (zn_l w 174) (zh_e w 256) (zh_e w 257) (a0 + 1) := by
    intro q q0 q1
    by_cases c : q = a0
    · rw [c, k0, k1]
      exact ⟨by omega, hl, by omega, by omega⟩
    · exact hp q q0 (by omega)
  exact ⟨_, List.mem_cons_self, [], rfl, zx_bnil, zx_cs0, (zx_eF1 (by show 0 ≤ (1 : Int) + (1 * a0 + 0); omega) (by show zk_xe w 2000093 ((1 : Int) + (1 * a0 + 0)) = (1 : Int) + (0); rw [show (1 : Int) + (1 * a0 + 0) = (a0 + 1) by omega]; exact ((zy_r93 (w := w) (j := (a0 + 1)) (by omega) (by omega) ).mpr h).trans (by omega)) zx_eF0), zx_k0⟩
def zx_D840 : zx_L := zx_Lc [] 4 [] [] [((0, 0), [(0, 1, 0), (1, 0, 1), (2, 0, 4294967296), (3, 0, 18446744073709551616)])] [((0, 0), [(1, 1, 0)]), ((4294967293, 0), [(1, 0, 1)]), ((0, 0), [(2, 1, 0)]), ((4294967293, 0), [(2, 0, 1)]), ((0, 0), [(3, 1, 0)]), ((4294967293, 0), [(3, 0, 1)]), ((0, 0), [(1, 1, 0), (2, 0, 1)])] [([], [], [(2000094, ((0, 0), [(0, 1, 0)]), ((1, 0), []))], [])]
theorem zx_D840_ok {PT : Nat → zz_W → Prop} : zx_Lok 64 zHT PT zx_D840 := by
  refine zx_Lc_ok (fun w hI hK ins hl hr he hg => ?_)
  obtain ⟨a0, a1, a2, a3, rfl⟩ := zx_i4 hl
  have e0 : (0 : Int) + (1 * a0 + ((-1) * a1 + ((-4294967296) * a2 + ((-18446744073709551616) * a3 + 0)))) = 0 := he _ List.mem_cons_self
  have g0 : 0 ≤ (0 : Int) + (1 * a1 + 0) := hg _ List.mem_cons_self
  have g1 : 0 ≤ (4294967293 : Int) + ((-1) * a1 + 0) := hg _ (List.mem_cons_of_mem _ List.mem_cons_self)
  have g2 : 0 ≤ (0 : Int) + (1 * a2 + 0) := hg _ (List.mem_cons_of_mem _ (List.mem_cons_of_mem _ List.mem_cons_self))
  have g3 : 0 ≤ (4294967293 : Int) + ((-1) * a2 + 0) := hg _ (List.mem_cons_of_mem _ (List.mem_cons_of_mem _ (List.mem_cons_of_mem _ List.mem_cons_self)))
  have g4 : 0 ≤ (0 : Int) + (1 * a3 + 0) := hg _ (List.mem_cons_of_mem _ (List.mem_cons_of_mem _ (List.mem_cons_of_mem _ (List.mem_cons_of_mem _ List.mem_cons_self))))
  have g5 : 0 ≤ (4294967293 : Int) + ((-1) * a3 + 0) := hg _ (List.mem_cons_of_mem _ (List.mem_cons_of_mem _ (List.mem_cons_of_mem _ (List.mem_cons_of_mem _ (List.mem_cons_of_mem _ List.mem_cons_self)))))
  have g6 : 0 ≤ (0 : Int) + (1 * a1 + ((-1) * a2 + 0)) := hg _ (List.mem_cons_of_mem _ (List.mem_cons_of_mem _ (List.mem_cons_of_mem _ (List.mem_cons_of_mem _ (List.mem_cons_of_mem _ (List.mem_cons_of_mem _ List.mem_cons_self))))))
  have h : zr_nf (zh_e w 233) a1 a2 a3 := fun i i0 i1 i2 => by omega
  exact ⟨_, List.mem_cons_self, [], rfl, zx_bnil, zx_cs0, (zx_eF1 (by show 0 ≤ (0 : Int) + (1 * a0 + 0); omega) (by show zk_xe w 2000094 ((0 : Int) + (1 * a0 + 0)) = (1 : Int) + (0); rw [show (0 : Int) + (1 * a0 + 0) = a0 by omega]; exact ((zy_r94 (w := w) (j := a0) (l := a1) (h := a2) (x := a3) (by omega) (by omega) (by omega) (by omega) (by omega) (by omega) (by omega) ).mpr (h)).trans (by omega)) zx_eF0), zx_k0⟩
def zx_D841 : zx_L := zx_Lc [] 6 [(2000094, 0), (233, 5)] [] [((0, 0), [(0, 1, 0), (1, 0, 1), (2, 0, 4294967296), (3, 0, 18446744073709551616)]), ((0, 1), [(6, 1, 0)]), ((1, 0), [(1, 0, 1), (2, 0, 4294967296), (3, 0, 18446744073709551616), (4, 1, 0)]), ((1, 0), [(1, 0, 1), (5, 1, 0)])] [((0, 0), [(1, 1, 0)]), ((4294967293, 0), [(1, 0, 1)]), ((0, 0), [(2, 1, 0)]), ((4294967293, 0), [(2, 0, 1)]), ((0, 0), [(3, 1, 0)]), ((4294967293, 0), [(3, 0, 1)]), ((0, 1), [(1, 1, 0)]), ((0, 0), [(3, 0, 1), (7, 1, 0)])] [([], [], [(2000094, ((0, 0), [(4, 1, 0)]), ((1, 0), []))], [])]
theorem zx_D841_ok {PT : Nat → zz_W → Prop} : zx_Lok 64 zHT PT zx_D841 := by
  refine zx_Lc_ok (fun w hI hK ins hl hr he hg => ?_)
  obtain ⟨a0, a1, a2, a3, a4, a5, rfl⟩ := zx_i6 hl
  have e0 : (0 : Int) + (1 * a0 + ((-1) * a1 + ((-4294967296) * a2 + ((-18446744073709551616) * a3 + 0)))) = 0 := he _ List.mem_cons_self
  have e1 : ((-1) : Int) + (1 * (zk_xe w 2000094 a0) + 0) = 0 := he _ (List.mem_cons_of_mem _ List.mem_cons_self)
  have e2 : (1 : Int) + ((-1) * a1 + ((-4294967296) * a2 + ((-18446744073709551616) * a3 + (1 * a4 + 0)))) = 0 := he _ (List.mem_cons_of_mem _ (List.mem_cons_of_mem _ List.mem_cons_self))
  have e3 : (1 : Int) + ((-1) * a1 + (1 * a5 + 0)) = 0 := he _ (List.mem_cons_of_mem _ (List.mem_cons_of_mem _ (List.mem_cons_of_mem _ List.mem_cons_self)))
  have g0 : 0 ≤ (0 : Int) + (1 * a1 + 0) := hg _ List.mem_cons_self
  have g1 : 0 ≤ (4294967293 : Int) + ((-1) * a1 + 0) := hg _ (List.mem_cons_of_mem _ List.mem_cons_self)
  have g2 : 0 ≤ (0 : Int) + (1 * a2 + 0) := hg _ (List.mem_cons_of_mem _ (List.mem_cons_of_mem _ List.mem_cons_self))
  have g3 : 0 ≤ (4294967293 : Int) + ((-1) * a2 + 0) := hg _ (List.mem_cons_of_mem _ (List.mem_cons_of_mem _ (List.mem_cons_of_mem _ List.mem_cons_self)))
  have g4 : 0 ≤ (0 : Int) + (1 * a3 + 0) := hg _ (List.mem_cons_of_mem _ (List.mem_cons_of_mem _ (List.mem_cons_of_mem _ (List.mem_cons_of_mem _ List.mem_cons_self))))
  have g5 : 0 ≤ (4294967293 : Int) + ((-1) * a3 + 0) := hg _ (List.mem_cons_of_mem _ (List.mem_cons_of_mem _ (List.mem_cons_of_mem _ (List.mem_cons_of_mem _ (List.mem_cons_of_mem _ List.mem_cons_self)))))
  have g6 : 0 ≤ ((-1) : Int) + (1 * a1 + 0) := hg _ (List.mem_cons_of_mem _ (List.mem_cons_of_mem _ (List.mem_cons_of_mem _ (List.mem_cons_of_mem _ (List.mem_cons_of_mem _ (List.mem_cons_of_mem _ List.mem_cons_self))))))
  have g7 : 0 ≤ (0 : Int) + ((-1) * a3 + (1 * (zk_xe w 233 a5) + 0)) := hg _ (List.mem_cons_of_mem _ (List.mem_cons_of_mem _ (List.mem_cons_of_mem _ (List.mem_cons_of_mem _ (List.mem_cons_of_mem _ (List.mem_cons_of_mem _ (List.mem_cons_of_mem _ List.mem_cons_self)))))))
  have r0 : 0 ≤ a0 := hr _ List.mem_cons_self
  have r1 : 0 ≤ a5 := hr _ (List.mem_cons_of_mem _ List.mem_cons_self)
  have hp := (zy_r94 (w := w) (j := a0) (l := a1) (h := a2) (x := a3) (by omega) (by omega) (by omega) (by omega) (by omega) (by omega) (by omega) ).mp (by omega)
  have k0 : zh_e w 233 (a1 - 1) = zk_xe w 233 a5 := by rw [zk_xe_r (i := 233) (by decide)]; show zk_el w 233 (a1 - 1) = zk_el w 233 a5; rw [show a1 - 1 = a5 by omega]
  have h : zr_nf (zh_e w 233) (a1 - 1) a2 a3 := by
    intro i i0 i1 i2
    by_cases c : i = a1 - 1
    · rw [c, k0]
      omega
    · exact hp i i0 (by omega) i2
  exact ⟨_, List.mem_cons_self, [], rfl, zx_bnil, zx_cs0, (zx_eF1 (by show 0 ≤ (0 : Int) + (1 * a4 + 0); omega) (by show zk_xe w 2000094 ((0 : Int) + (1 * a4 + 0)) = (1 : Int) + (0); rw [show (0 : Int) + (1 * a4 + 0) = a4 by omega]; exact ((zy_r94 (w := w) (j := a4) (l := (a1 - 1)) (h := a2) (x := a3) (by omega) (by omega) (by omega) (by omega) (by omega) (by omega) (by omega) ).mpr (h)).trans (by omega)) zx_eF0), zx_k0⟩
def zx_D842 : zx_L := zx_Lc [] 6 [(2000094, 0), (233, 5)] [] [((0, 0), [(0, 1, 0), (1, 0, 1), (2, 0, 4294967296), (3, 0, 18446744073709551616)]), ((0, 1), [(6, 1, 0)]), ((1, 0), [(1, 0, 1), (2, 0, 4294967296), (3, 0, 18446744073709551616), (4, 1, 0)]), ((1, 0), [(1, 0, 1), (5, 1, 0)])] [((0, 0), [(1, 1, 0)]), ((4294967293, 0), [(1, 0, 1)]), ((0, 0), [(2, 1, 0)]), ((4294967293, 0), [(2, 0, 1)]), ((0, 0), [(3, 1, 0)]), ((4294967293, 0), [(3, 0, 1)]), ((0, 1), [(1, 1, 0)]), ((0, 2), [(3, 1, 0), (7, 0, 1)])] [([], [], [(2000094, ((0, 0), [(4, 1, 0)]), ((1, 0), []))], [])]
theorem zx_D842_ok {PT : Nat → zz_W → Prop} : zx_Lok 64 zHT PT zx_D842 := by
  refine zx_Lc_ok (fun w hI hK ins hl hr he hg => ?_)
  obtain ⟨a0, a1, a2, a3, a4, a5, rfl⟩ := zx_i6 hl
  have e0 : (0 : Int) + (1 * a0 + ((-1) * a1 + ((-4294967296) * a2 + ((-18446744073709551616) * a3 + 0)))) = 0 := he _ List.mem_cons_self
  have e1 : ((-1) : Int) + (1 * (zk_xe w 2000094 a0) + 0) = 0 := he _ (List.mem_cons_of_mem _ List.mem_cons_self)
  have e2 : (1 : Int) + ((-1) * a1 + ((-4294967296) * a2 + ((-18446744073709551616) * a3 + (1 * a4 + 0)))) = 0 := he _ (List.mem_cons_of_mem _ (List.mem_cons_of_mem _ List.mem_cons_self))
  have e3 : (1 : Int) + ((-1) * a1 + (1 * a5 + 0)) = 0 := he _ (List.mem_cons_of_mem _ (List.mem_cons_of_mem _ (List.mem_cons_of_mem _ List.mem_cons_self)))
  have g0 : 0 ≤ (0 : Int) + (1 * a1 + 0) := hg _ List.mem_cons_self
  have g1 : 0 ≤ (4294967293 : Int) + ((-1) * a1 + 0) := hg _ (List.mem_cons_of_mem _ List.mem_cons_self)
  have g2 : 0 ≤ (0 : Int) + (1 * a2 + 0) := hg _ (List.mem_cons_of_mem _ (List.mem_cons_of_mem _ List.mem_cons_self))
  have g3 : 0 ≤ (4294967293 : Int) + ((-1) * a2 + 0) := hg _ (List.mem_cons_of_mem _ (List.mem_cons_of_mem _ (List.mem_cons_of_mem _ List.mem_cons_self)))
  have g4 : 0 ≤ (0 : Int) + (1 * a3 + 0) := hg _ (List.mem_cons_of_mem _ (List.mem_cons_of_mem _ (List.mem_cons_of_mem _ (List.mem_cons_of_mem _ List.mem_cons_self))))
  have g5 : 0 ≤ (4294967293 : Int) + ((-1) * a3 + 0) := hg _ (List.mem_cons_of_mem _ (List.mem_cons_of_mem _ (List.mem_cons_of_mem _ (List.mem_cons_of_mem _ (List.mem_cons_of_mem _ List.mem_cons_self)))))
  have g6 : 0 ≤ ((-1) : Int) + (1 * a1 + 0) := hg _ (List.mem_cons_of_mem _ (List.mem_cons_of_mem _ (List.mem_cons_of_mem _ (List.mem_cons_of_mem _ (List.mem_cons_of_mem _ (List.mem_cons_of_mem _ List.mem_cons_self))))))
  have g7 : 0 ≤ ((-2) : Int) + (1 * a3 + ((-1) * (zk_xe w 233 a5) + 0)) := hg _ (List.mem_cons_of_mem _ (List.mem_cons_of_mem _ (List.mem_cons_of_mem _ (List.mem_cons_of_mem _ (List.mem_cons_of_mem _ (List.mem_cons_of_mem _ (List.mem_cons_of_mem _ List.mem_cons_self)))))))
  have r0 : 0 ≤ a0 := hr _ List.mem_cons_self
  have r1 : 0 ≤ a5 := hr _ (List.mem_cons_of_mem _ List.mem_cons_self)
  have hp := (zy_r94 (w := w) (j := a0) (l := a1) (h := a2) (x := a3) (by omega) (by omega) (by omega) (by omega) (by omega) (by omega) (by omega) ).mp (by omega)
  have k0 : zh_e w 233 (a1 - 1) = zk_xe w 233 a5 := by rw [zk_xe_r (i := 233) (by decide)]; show zk_el w 233 (a1 - 1) = zk_el w 233 a5; rw [show a1 - 1 = a5 by omega]
  have h : zr_nf (zh_e w 233) (a1 - 1) a2 a3 := by
    intro i i0 i1 i2
    by_cases c : i = a1 - 1
    · rw [c, k0]
      omega
    · exact hp i i0 (by omega) i2
  exact ⟨_, List.mem_cons_self, [], rfl, zx_bnil, zx_cs0, (zx_eF1 (by show 0 ≤ (0 : Int) + (1 * a4 + 0); omega) (by show zk_xe w 2000094 ((0 : Int) + (1 * a4 + 0)) = (1 : Int) + (0); rw [show (0 : Int) + (1 * a4 + 0) = a4 by omega]; exact ((zy_r94 (w := w) (j := a4) (l := (a1 - 1)) (h := a2) (x := a3) (by omega) (by omega) (by omega) (by omega) (by omega) (by omega) (by omega) ).mpr (h)).trans (by omega)) zx_eF0), zx_k0⟩
def zx_D843 : zx_L := zx_Lc [] 6 [(2000094, 0)] [] [((0, 0), [(0, 1, 0), (1, 0, 1), (2, 0, 4294967296), (3, 0, 18446744073709551616)]), ((0, 1), [(6, 1, 0)]), ((0, 0), [(2, 0, 4294967296), (3, 0, 18446744073709551616), (4, 1, 0), (5, 0, 1)])] [((0, 0), [(1, 1, 0)]), ((4294967293, 0), [(1, 0, 1)]), ((0, 0), [(2, 1, 0)]), ((4294967293, 0), [(2, 0, 1)]), ((0, 0), [(3, 1, 0)]), ((4294967293, 0), [(3, 0, 1)]), ((0, 0), [(5, 1, 0)]), ((4294967293, 0), [(5, 0, 1)]), ((0, 0), [(1, 0, 1), (5, 1, 0)])] [([], [], [(2000094, ((0, 0), [(4, 1, 0)]), ((1, 0), []))], [])]
theorem zx_D843_ok {PT : Nat → zz_W → Prop} : zx_Lok 64 zHT PT zx_D843 := by
  refine zx_Lc_ok (fun w hI hK ins hl hr he hg => ?_)
  obtain ⟨a0, a1, a2, a3, a4, a5, rfl⟩ := zx_i6 hl
  have e0 : (0 : Int) + (1 * a0 + ((-1) * a1 + ((-4294967296) * a2 + ((-18446744073709551616) * a3 + 0)))) = 0 := he _ List.mem_cons_self
  have e1 : ((-1) : Int) + (1 * (zk_xe w 2000094 a0) + 0) = 0 := he _ (List.mem_cons_of_mem _ List.mem_cons_self)
  have e2 : (0 : Int) + ((-4294967296) * a2 + ((-18446744073709551616) * a3 + (1 * a4 + ((-1) * a5 + 0)))) = 0 := he _ (List.mem_cons_of_mem _ (List.mem_cons_of_mem _ List.mem_cons_self))
  have g0 : 0 ≤ (0 : Int) + (1 * a1 + 0) := hg _ List.mem_cons_self
  have g1 : 0 ≤ (4294967293 : Int) + ((-1) * a1 + 0) := hg _ (List.mem_cons_of_mem _ List.mem_cons_self)
  have g2 : 0 ≤ (0 : Int) + (1 * a2 + 0) := hg _ (List.mem_cons_of_mem _ (List.mem_cons_of_mem _ List.mem_cons_self))
  have g3 : 0 ≤ (4294967293 : Int) + ((-1) * a2 + 0) := hg _ (List.mem_cons_of_mem _ (List.mem_cons_of_mem _ (List.mem_cons_of_mem _ List.mem_cons_self)))
  have g4 : 0 ≤ (0 : Int) + (1 * a3 + 0) := hg _ (List.mem_cons_of_mem _ (List.mem_cons_of_mem _ (List.mem_cons_of_mem _ (List.mem_cons_of_mem _ List.mem_cons_self))))
  have g5 : 0 ≤ (4294967293 : Int) + ((-1) * a3 + 0) := hg _ (List.mem_cons_of_mem _ (List.mem_cons_of_mem _ (List.mem_cons_of_mem _ (List.mem_cons_of_mem _ (List.mem_cons_of_mem _ List.mem_cons_self)))))
  have g6 : 0 ≤ (0 : Int) + (1 * a5 + 0) := hg _ (List.mem_cons_of_mem _ (List.mem_cons_of_mem _ (List.mem_cons_of_mem _ (List.mem_cons_of_mem _ (List.mem_cons_of_mem _ (List.mem_cons_of_mem _ List.mem_cons_self))))))
  have g7 : 0 ≤ (4294967293 : Int) + ((-1) * a5 + 0) := hg _ (List.mem_cons_of_mem _ (List.mem_cons_of_mem _ (List.mem_cons_of_mem _ (List.mem_cons_of_mem _ (List.mem_cons_of_mem _ (List.mem_cons_of_mem _ (List.mem_cons_of_mem _ List.mem_cons_self)))))))
  have g8 : 0 ≤ (0 : Int) + ((-1) * a1 + (1 * a5 + 0)) := hg _ (List.mem_cons_of_mem _ (List.mem_cons_of_mem _ (List.mem_cons_of_mem _ (List.mem_cons_of_mem _ (List.mem_cons_of_mem _ (List.mem_cons_of_mem _ (List.mem_cons_of_mem _ (List.mem_cons_of_mem _ List.mem_cons_self))))))))
  have r0 : 0 ≤ a0 := hr _ List.mem_cons_self
  have hp := (zy_r94 (w := w) (j := a0) (l := a1) (h := a2) (x := a3) (by omega) (by omega) (by omega) (by omega) (by omega) (by omega) (by omega) ).mp (by omega)
  have h : zr_nf (zh_e w 233) a5 a2 a3 := fun i i0 i1 i2 => hp i i0 (by omega) i2
  exact ⟨_, List.mem_cons_self, [], rfl, zx_bnil, zx_cs0, (zx_eF1 (by show 0 ≤ (0 : Int) + (1 * a4 + 0); omega) (by show zk_xe w 2000094 ((0 : Int) + (1 * a4 + 0)) = (1 : Int) + (0); rw [show (0 : Int) + (1 * a4 + 0) = a4 by omega]; exact ((zy_r94 (w := w) (j := a4) (l := a5) (h := a2) (x := a3) (by omega) (by omega) (by omega) (by omega) (by omega) (by omega) (by omega) ).mpr (h)).trans (by omega)) zx_eF0), zx_k0⟩
def zx_E610 : zx_V := zx_Vc 256 [] 5 [(2000092, 0)] [((0, 4294967296), [(2, 1, 0), (3, 0, 1), (4, 0, 4294967296), (5, 0, 18446744073709551616), (6, 0, 79228162514264337593543950336)]), ((0, 1), [(7, 1, 0)])] [((0, 0), [(3, 1, 0)]), ((4294967293, 0), [(3, 0, 1)]), ((1, 0), [(4, 1, 0)]), ((4294967292, 0), [(4, 0, 1)]), ((0, 0), [(5, 1, 0)]), ((4294967293, 0), [(5, 0, 1)]), ((0, 0), [(6, 1, 0)]), ((4294967293, 0), [(6, 0, 1)]), ((0, 0), [(0, 1, 0), (5, 0, 1)])] [(2000092, ((0, 0), [(2, 1, 0)]), ((1, 0), []))]
theorem zx_E610_ok {PT : Nat → zz_W → Prop} : zx_Vok 64 zHT PT zx_E610 := by
  refine zx_Vc_ok (fun w w' j ins hI hI' h0 hw hK hl he hg => ?_)
  obtain ⟨a0, a1, a2, a3, a4, rfl⟩ := zx_i5 hl
  have e0 : ((-4294967296) : Int) + (1 * a0 + ((-1) * a1 + ((-4294967296) * a2 + ((-18446744073709551616) * a3 + ((-79228162514264337593543950336) * a4 + 0))))) = 0 := he _ List.mem_cons_self
  have e1 : ((-1) : Int) + (1 * (zk_xe w 2000092 a0) + 0) = 0 := he _ (List.mem_cons_of_mem _ List.mem_cons_self)
  have g0 : 0 ≤ (0 : Int) + (1 * a1 + 0) := hg _ List.mem_cons_self
  have g1 : 0 ≤ (4294967293 : Int) + ((-1) * a1 + 0) := hg _ (List.mem_cons_of_mem _ List.mem_cons_self)
  have g2 : 0 ≤ (1 : Int) + (1 * a2 + 0) := hg _ (List.mem_cons_of_mem _ (List.mem_cons_of_mem _ List.mem_cons_self))
  have g3 : 0 ≤ (4294967292 : Int) + ((-1) * a2 + 0) := hg _ (List.mem_cons_of_mem _ (List.mem_cons_of_mem _ (List.mem_cons_of_mem _ List.mem_cons_self)))
  have g4 : 0 ≤ (0 : Int) + (1 * a3 + 0) := hg _ (List.mem_cons_of_mem _ (List.mem_cons_of_mem _ (List.mem_cons_of_mem _ (List.mem_cons_of_mem _ List.mem_cons_self))))
  have g5 : 0 ≤ (4294967293 : Int) + ((-1) * a3 + 0) := hg _ (List.mem_cons_of_mem _ (List.mem_cons_of_mem _ (List.mem_cons_of_mem _ (List.mem_cons_of_mem _ (List.mem_cons_of_mem _ List.mem_cons_self)))))
  have g6 : 0 ≤ (0 : Int) + (1 * a4 + 0) := hg _ (List.mem_cons_of_mem _ (List.mem_cons_of_mem _ (List.mem_cons_of_mem _ (List.mem_cons_of_mem _ (List.mem_cons_of_mem _ (List.mem_cons_of_mem _ List.mem_cons_self))))))
  have g7 : 0 ≤ (4294967293 : Int) + ((-1) * a4 + 0) := hg _ (List.mem_cons_of_mem _ (List.mem_cons_of_mem _ (List.mem_cons_of_mem _ (List.mem_cons_of_mem _ (List.mem_cons_of_mem _ (List.mem_cons_of_mem _ (List.mem_cons_of_mem _ List.mem_cons_self)))))))
  have g8 : 0 ≤ (0 : Int) + (1 * j + ((-1) * a3 + 0)) := hg _ (List.mem_cons_of_mem _ (List.mem_cons_of_mem _ (List.mem_cons_of_mem _ (List.mem_cons_of_mem _ (List.mem_cons_of_mem _ (List.mem_cons_of_mem _ (List.mem_cons_of_mem _ (List.mem_cons_of_mem _ List.mem_cons_self))))))))
  have hp := (zy_r92 (w := w) (j := a0) (n := a1) (l := a2) (o := a3) (f := a4) (by omega) (by omega) (by omega) (by omega) (by omega) (by omega) (by omega) (by omega) (by omega) ).mp (by omega)
  have h : zr_rv (zh_e w' 229) (zh_e w' 230) (zh_e w' 231) (zh_e w' 233) (zh_e w' 234) (zh_e w' 256) (zh_e w' 257) (zh_e w' 224) a1 a2 a3 a4 := by
    rw [zh_e_g (hw.1 229 (by decide)), zh_e_g (hw.1 230 (by decide)), zh_e_g (hw.1 231 (by decide)), zh_e_g (hw.1 233 (by decide)), zh_e_g (hw.1 234 (by decide)), zh_e_g (hw.1 257 (by decide)), zh_e_g (hw.1 224 (by decide))]
    rcases hp with hp | hp
    · exact Or.inl hp
    · refine Or.inr (fun i i0 i1 ip => ?_)
      rcases hp i i0 i1 ip with q | ⟨q1, q, q2, q3, q4, q5⟩
      · exact Or.inl q
      · have e : zh_e w' 256 q = zh_e w 256 q := hw.2 q q2 (by omega)
        exact Or.inr ⟨q1, q, q2, q3, e.trans q4, q5⟩
  exact (zx_eF1 (by show 0 ≤ (0 : Int) + (1 * a0 + 0); omega) (by show zk_xe w' 2000092 ((0 : Int) + (1 * a0 + 0)) = (1 : Int) + (0); rw [show (0 : Int) + (1 * a0 + 0) = a0 by omega]; exact ((zy_r92 (w := w') (j := a0) (n := a1) (l := a2) (o := a3) (f := a4) (by omega) (by omega) (by omega) (by omega) (by omega) (by omega) (by omega) (by omega) (by omega) ).mpr h).trans (by omega)) zx_eF0)
def zx_E611 : zx_V := zx_Vc 257 [] 5 [(2000092, 0)] [((0, 4294967296), [(2, 1, 0), (3, 0, 1), (4, 0, 4294967296), (5, 0, 18446744073709551616), (6, 0, 79228162514264337593543950336)]), ((0, 1), [(7, 1, 0)])] [((0, 0), [(3, 1, 0)]), ((4294967293, 0), [(3, 0, 1)]), ((1, 0), [(4, 1, 0)]), ((4294967292, 0), [(4, 0, 1)]), ((0, 0), [(5, 1, 0)]), ((4294967293, 0), [(5, 0, 1)]), ((0, 0), [(6, 1, 0)]), ((4294967293, 0), [(6, 0, 1)]), ((0, 0), [(0, 1, 0), (5, 0, 1)])] [(2000092, ((0, 0), [(2, 1, 0)]), ((1, 0), []))]
theorem zx_E611_ok {PT : Nat → zz_W → Prop} : zx_Vok 64 zHT PT zx_E611 := by
  refine zx_Vc_ok (fun w w' j ins hI hI' h0 hw hK hl he hg => ?_)
  obtain ⟨a0, a1, a2, a3, a4, rfl⟩ := zx_i5 hl
  have e0 : ((-4294967296) : Int) + (1 * a0 + ((-1) * a1 + ((-4294967296) * a2 + ((-18446744073709551616) * a3 + ((-79228162514264337593543950336) * a4 + 0))))) = 0 := he _ List.mem_cons_self
  have e1 : ((-1) : Int) + (1 * (zk_xe w 2000092 a0) + 0) = 0 := he _ (List.mem_cons_of_mem _ List.mem_cons_self)
  have g0 : 0 ≤ (0 : Int) + (1 * a1 + 0) := hg _ List.mem_cons_self
  have g1 : 0 ≤ (4294967293 : Int) + ((-1) * a1 + 0) := hg _ (List.mem_cons_of_mem _ List.mem_cons_self)
  have g2 : 0 ≤ (1 : Int) + (1 * a2 + 0) := hg _ (List.mem_cons_of_mem _ (List.mem_cons_of_mem _ List.mem_cons_self))
  have g3 : 0 ≤ (4294967292 : Int) + ((-1) * a2 + 0) := hg _ (List.mem_cons_of_mem _ (List.mem_cons_of_mem _ (List.mem_cons_of_mem _ List.mem_cons_self)))
  have g4 : 0 ≤ (0 : Int) + (1 * a3 + 0) := hg _ (List.mem_cons_of_mem _ (List.mem_cons_of_mem _ (List.mem_cons_of_mem _ (List.mem_cons_of_mem _ List.mem_cons_self))))
  have g5 : 0 ≤ (4294967293 : Int) + ((-1) * a3 + 0) := hg _ (List.mem_cons_of_mem _ (List.mem_cons_of_mem _ (List.mem_cons_of_mem _ (List.mem_cons_of_mem _ (List.mem_cons_of_mem _ List.mem_cons_self)))))
  have g6 : 0 ≤ (0 : Int) + (1 * a4 + 0) := hg _ (List.mem_cons_of_mem _ (List.mem_cons_of_mem _ (List.mem_cons_of_mem _ (List.mem_cons_of_mem _ (List.mem_cons_of_mem _ (List.mem_cons_of_mem _ List.mem_cons_self))))))
  have g7 : 0 ≤ (4294967293 : Int) + ((-1) * a4 + 0) := hg _ (List.mem_cons_of_mem _ (List.mem_cons_of_mem _ (List.mem_cons_of_mem _ (List.mem_cons_of_mem _ (List.mem_cons_of_mem _ (List.mem_cons_of_mem _ (List.mem_cons_of_mem _ List.mem_cons_self)))))))
  have g8 : 0 ≤ (0 : Int) + (1 * j + ((-1) * a3 + 0)) := hg _ (List.mem_cons_of_mem _ (List.mem_cons_of_mem _ (List.mem_cons_of_mem _ (List.mem_cons_of_mem _ (List.mem_cons_of_mem _ (List.mem_cons_of_mem _ (List.mem_cons_of_mem _ (List.mem_cons_of_mem _ List.mem_cons_self))))))))
  have hp := (zy_r92 (w := w) (j := a0) (n := a1) (l := a2) (o := a3) (f := a4) (by omega) (by omega) (by omega) (by omega) (by omega) (by omega) (by omega) (by omega) (by omega) ).mp (by omega)
  have h : zr_rv (zh_e w' 229) (zh_e w' 230) (zh_e w' 231) (zh_e w' 233) (zh_e w' 234) (zh_e w' 256) (zh_e w' 257) (zh_e w' 224) a1 a2 a3 a4 := by
    rw [zh_e_g (hw.1 229 (by decide)), zh_e_g (hw.1 230 (by decide)), zh_e_g (hw.1 231 (by decide)), zh_e_g (hw.1 233 (by decide)), zh_e_g (hw.1 234 (by decide)), zh_e_g (hw.1 256 (by decide)), zh_e_g (hw.1 224 (by decide))]
    rcases hp with hp | hp
    · exact Or.inl hp
    · refine Or.inr (fun i i0 i1 ip => ?_)
      rcases hp i i0 i1 ip with q | ⟨q1, q, q2, q3, q4, q5⟩
      · exact Or.inl q
      · have e : zh_e w' 257 q = zh_e w 257 q := hw.2 q q2 (by omega)
        exact Or.inr ⟨q1, q, q2, q3, q4, e.trans q5⟩
  exact (zx_eF1 (by show 0 ≤ (0 : Int) + (1 * a0 + 0); omega) (by show zk_xe w' 2000092 ((0 : Int) + (1 * a0 + 0)) = (1 : Int) + (0); rw [show (0 : Int) + (1 * a0 + 0) = a0 by omega]; exact ((zy_r92 (w := w') (j := a0) (n := a1) (l := a2) (o := a3) (f := a4) (by omega) (by omega) (by omega) (by omega) (by omega) (by omega) (by omega) (by omega) (by omega) ).mpr h).trans (by omega)) zx_eF0)
def zx_E613 : zx_V := zx_Vc 256 [] 1 [(2000093, 0)] [((0, 1), [(3, 1, 0)])] [((0, 0), [(2, 1, 0)]), ((4294967293, 0), [(2, 0, 1)]), ((0, 0), [(0, 1, 0), (2, 0, 1)])] [(2000093, ((0, 0), [(2, 1, 0)]), ((1, 0), []))]
theorem zx_E613_ok {PT : Nat → zz_W → Prop} : zx_Vok 64 zHT PT zx_E613 := by
  refine zx_Vc_ok (fun w w' j ins hI hI' h0 hw hK hl he hg => ?_)
  obtain ⟨a0, rfl⟩ := zx_i1 hl
  have e0 : ((-1) : Int) + (1 * (zk_xe w 2000093 a0) + 0) = 0 := he _ List.mem_cons_self
  have g0 : 0 ≤ (0 : Int) + (1 * a0 + 0) := hg _ List.mem_cons_self
  have g1 : 0 ≤ (4294967293 : Int) + ((-1) * a0 + 0) := hg _ (List.mem_cons_of_mem _ List.mem_cons_self)
  have g2 : 0 ≤ (0 : Int) + (1 * j + ((-1) * a0 + 0)) := hg _ (List.mem_cons_of_mem _ (List.mem_cons_of_mem _ List.mem_cons_self))
  have hp := (zy_r93 (w := w) (j := a0) (by omega) (by omega) ).mp (by omega)
  have h : zr_op (zn_l w' 173) (zn_l w' 174) (zh_e w' 256) (zh_e w' 257) a0 := by
    rw [zn_l_g (hw.1 173 (by decide)), zn_l_g (hw.1 174 (by decide)), zh_e_g (hw.1 257 (by decide))]
    intro q q0 q1
    have e : zh_e w' 256 q = zh_e w 256 q := hw.2 q q0 (by omega)
    rw [e]
    exact hp q q0 q1
  exact (zx_eF1 (by show 0 ≤ (0 : Int) + (1 * a0 + 0); omega) (by show zk_xe w' 2000093 ((0 : Int) + (1 * a0 + 0)) = (1 : Int) + (0); rw [show (0 : Int) + (1 * a0 + 0) = a0 by omega]; exact ((zy_r93 (w := w') (j := a0) (by omega) (by omega) ).mpr h).trans (by omega)) zx_eF0)
def zx_E614 : zx_V := zx_Vc 257 [] 1 [(2000093, 0)] [((0, 1), [(3, 1, 0)])] [((0, 0), [(2, 1, 0)]), ((4294967293, 0), [(2, 0, 1)]), ((0, 0), [(0, 1, 0), (2, 0, 1)])] [(2000093, ((0, 0), [(2, 1, 0)]), ((1, 0), []))]
theorem zx_E614_ok {PT : Nat → zz_W → Prop} : zx_Vok 64 zHT PT zx_E614 := by
  refine zx_Vc_ok (fun w w' j ins hI hI' h0 hw hK hl he hg => ?_)
  obtain ⟨a0, rfl⟩ := zx_i1 hl
  have e0 : ((-1) : Int) + (1 * (zk_xe w 2000093 a0) + 0) = 0 := he _ List.mem_cons_self
  have g0 : 0 ≤ (0 : Int) + (1 * a0 + 0) := hg _ List.mem_cons_self
  have g1 : 0 ≤ (4294967293 : Int) + ((-1) * a0 + 0) := hg _ (List.mem_cons_of_mem _ List.mem_cons_self)
  have g2 : 0 ≤ (0 : Int) + (1 * j + ((-1) * a0 + 0)) := hg _ (List.mem_cons_of_mem _ (List.mem_cons_of_mem _ List.mem_cons_self))
  have hp := (zy_r93 (w := w) (j := a0) (by omega) (by omega) ).mp (by omega)
  have h : zr_op (zn_l w' 173) (zn_l w' 174) (zh_e w' 256) (zh_e w' 257) a0 := by
    rw [zn_l_g (hw.1 173 (by decide)), zn_l_g (hw.1 174 (by decide)), zh_e_g (hw.1 256 (by decide))]
    intro q q0 q1
    have e : zh_e w' 257 q = zh_e w 257 q := hw.2 q q0 (by omega)
    rw [e]
    exact hp q q0 q1
  exact (zx_eF1 (by show 0 ≤ (0 : Int) + (1 * a0 + 0); omega) (by show zk_xe w' 2000093 ((0 : Int) + (1 * a0 + 0)) = (1 : Int) + (0); rw [show (0 : Int) + (1 * a0 + 0) = a0 by omega]; exact ((zy_r93 (w := w') (j := a0) (by omega) (by omega) ).mpr h).trans (by omega)) zx_eF0)
def zx_E612 : zx_V := zx_Vc 224 [] 5 [(2000092, 0)] [((0, 4294967296), [(2, 1, 0), (3, 0, 1), (4, 0, 4294967296), (5, 0, 18446744073709551616), (6, 0, 79228162514264337593543950336)]), ((0, 1), [(7, 1, 0)])] [((0, 0), [(3, 1, 0)]), ((4294967293, 0), [(3, 0, 1)]), ((1, 0), [(4, 1, 0)]), ((4294967292, 0), [(4, 0, 1)]), ((0, 0), [(5, 1, 0)]), ((4294967293, 0), [(5, 0, 1)]), ((0, 0), [(6, 1, 0)]), ((4294967293, 0), [(6, 0, 1)]), ((0, 0), [(1, 1, 0)])] [(2000092, ((0, 0), [(2, 1, 0)]), ((1, 0), []))]
theorem zx_E612_ok {PT : Nat → zz_W → Prop} : zx_Vok 64 zHT PT zx_E612 := by
  refine zx_Vc_ok (fun w w' j ins hI hI' h0 hw hK hl he hg => ?_)
  obtain ⟨a0, a1, a2, a3, a4, rfl⟩ := zx_i5 hl
  have e0 : ((-4294967296) : Int) + (1 * a0 + ((-1) * a1 + ((-4294967296) * a2 + ((-18446744073709551616) * a3 + ((-79228162514264337593543950336) * a4 + 0))))) = 0 := he _ List.mem_cons_self
  have e1 : ((-1) : Int) + (1 * (zk_xe w 2000092 a0) + 0) = 0 := he _ (List.mem_cons_of_mem _ List.mem_cons_self)
  have g0 : 0 ≤ (0 : Int) + (1 * a1 + 0) := hg _ List.mem_cons_self
  have g1 : 0 ≤ (4294967293 : Int) + ((-1) * a1 + 0) := hg _ (List.mem_cons_of_mem _ List.mem_cons_self)
  have g2 : 0 ≤ (1 : Int) + (1 * a2 + 0) := hg _ (List.mem_cons_of_mem _ (List.mem_cons_of_mem _ List.mem_cons_self))
  have g3 : 0 ≤ (4294967292 : Int) + ((-1) * a2 + 0) := hg _ (List.mem_cons_of_mem _ (List.mem_cons_of_mem _ (List.mem_cons_of_mem _ List.mem_cons_self)))
  have g4 : 0 ≤ (0 : Int) + (1 * a3 + 0) := hg _ (List.mem_cons_of_mem _ (List.mem_cons_of_mem _ (List.mem_cons_of_mem _ (List.mem_cons_of_mem _ List.mem_cons_self))))
  have g5 : 0 ≤ (4294967293 : Int) + ((-1) * a3 + 0) := hg _ (List.mem_cons_of_mem _ (List.mem_cons_of_mem _ (List.mem_cons_of_mem _ (List.mem_cons_of_mem _ (List.mem_cons_of_mem _ List.mem_cons_self)))))
  have g6 : 0 ≤ (0 : Int) + (1 * a4 + 0) := hg _ (List.mem_cons_of_mem _ (List.mem_cons_of_mem _ (List.mem_cons_of_mem _ (List.mem_cons_of_mem _ (List.mem_cons_of_mem _ (List.mem_cons_of_mem _ List.mem_cons_self))))))
  have g7 : 0 ≤ (4294967293 : Int) + ((-1) * a4 + 0) := hg _ (List.mem_cons_of_mem _ (List.mem_cons_of_mem _ (List.mem_cons_of_mem _ (List.mem_cons_of_mem _ (List.mem_cons_of_mem _ (List.mem_cons_of_mem _ (List.mem_cons_of_mem _ List.mem_cons_self)))))))
  have g8 : 0 ≤ (0 : Int) + (1 * (zk_el w' 224 j) + 0) := hg _ (List.mem_cons_of_mem _ (List.mem_cons_of_mem _ (List.mem_cons_of_mem _ (List.mem_cons_of_mem _ (List.mem_cons_of_mem _ (List.mem_cons_of_mem _ (List.mem_cons_of_mem _ (List.mem_cons_of_mem _ List.mem_cons_self))))))))
  have hp := (zy_r92 (w := w) (j := a0) (n := a1) (l := a2) (o := a3) (f := a4) (by omega) (by omega) (by omega) (by omega) (by omega) (by omega) (by omega) (by omega) (by omega) ).mp (by omega)
  have h : zr_rv (zh_e w' 229) (zh_e w' 230) (zh_e w' 231) (zh_e w' 233) (zh_e w' 234) (zh_e w' 256) (zh_e w' 257) (zh_e w' 224) a1 a2 a3 a4 := by
    rw [zh_e_g (hw.1 229 (by decide)), zh_e_g (hw.1 230 (by decide)), zh_e_g (hw.1 231 (by decide)), zh_e_g (hw.1 233 (by decide)), zh_e_g (hw.1 234 (by decide)), zh_e_g (hw.1 256 (by decide)), zh_e_g (hw.1 257 (by decide))]
    rcases hp with hp | hp
    · refine Or.inl ?_
      have hx : ∀ i : Int, 0 ≤ i → 0 ≤ zh_e w 224 i → 0 ≤ zh_e w' 224 i := by
        intro i i0 hi
        by_cases c : i = j
        · rw [c]
          show 0 ≤ zk_el w' 224 j
          omega
        · rw [show zh_e w' 224 i = zh_e w 224 i from hw.2 i i0 c]
          exact hi
      rcases hp with h | h | h
      · exact Or.inl (hx 1 (by omega) h)
      · exact Or.inr (Or.inl (hx 3 (by omega) h))
      · exact Or.inr (Or.inr (hx 4 (by omega) h))
    · exact Or.inr hp
  exact (zx_eF1 (by show 0 ≤ (0 : Int) + (1 * a0 + 0); omega) (by show zk_xe w' 2000092 ((0 : Int) + (1 * a0 + 0)) = (1 : Int) + (0); rw [show (0 : Int) + (1 * a0 + 0) = a0 by omega]; exact ((zy_r92 (w := w') (j := a0) (n := a1) (l := a2) (o := a3) (f := a4) (by omega) (by omega) (by omega) (by omega) (by omega) (by omega) (by omega) (by omega) (by omega) ).mpr h).trans (by omega)) zx_eF0)
def zx_E615 : zx_V := zx_Vc 224 [] 1 [] [((0, 0), [(2, 1, 0)]), ((0, 3), [(0, 1, 0)])] [((0, 0), [(1, 1, 0)])] [(2000071, ((0, 0), [(2, 1, 0)]), ((1, 0), []))]
theorem zx_E615_ok {PT : Nat → zz_W → Prop} : zx_Vok 64 zHT PT zx_E615 := by
  refine zx_Vc_ok (fun w w' j ins hI hI' h0 hw hK hl he hg => ?_)
  obtain ⟨a0, rfl⟩ := zx_i1 hl
  have e0 : (0 : Int) + (1 * a0 + 0) = 0 := he _ List.mem_cons_self
  have e1 : ((-3) : Int) + (1 * j + 0) = 0 := he _ (List.mem_cons_of_mem _ List.mem_cons_self)
  have g0 : 0 ≤ (0 : Int) + (1 * (zk_el w' 224 j) + 0) := hg _ List.mem_cons_self
  have hx : zs_x (zh_e w' 224) := by
    have hj : zh_e w' 224 3 = zk_el w' 224 j := by
      show zk_el w' 224 3 = zk_el w' 224 j
      rw [show j = 3 by omega]
    refine Or.inr (Or.inl ?_)
    rw [hj]
    omega
  exact (zx_eF1 (by show 0 ≤ (0 : Int) + (1 * a0 + 0); omega) (by show zk_xe w' 2000071 ((0 : Int) + (1 * a0 + 0)) = (1 : Int) + (0); rw [show (0 : Int) + (1 * a0 + 0) = a0 by omega]; exact (by rcases zs_71c (w := w') (j := a0) with h | h; exact h.1.trans (by omega); exact absurd hx h.2)) zx_eF0)
def zx_E616 : zx_V := zx_Vc 224 [] 1 [] [((0, 0), [(2, 1, 0)]), ((0, 4), [(0, 1, 0)])] [((0, 0), [(1, 1, 0)])] [(2000071, ((0, 0), [(2, 1, 0)]), ((1, 0), []))]
theorem zx_E616_ok {PT : Nat → zz_W → Prop} : zx_Vok 64 zHT PT zx_E616 := by
  refine zx_Vc_ok (fun w w' j ins hI hI' h0 hw hK hl he hg => ?_)
  obtain ⟨a0, rfl⟩ := zx_i1 hl
  have e0 : (0 : Int) + (1 * a0 + 0) = 0 := he _ List.mem_cons_self
  have e1 : ((-4) : Int) + (1 * j + 0) = 0 := he _ (List.mem_cons_of_mem _ List.mem_cons_self)
  have g0 : 0 ≤ (0 : Int) + (1 * (zk_el w' 224 j) + 0) := hg _ List.mem_cons_self
  have hx : zs_x (zh_e w' 224) := by
    have hj : zh_e w' 224 4 = zk_el w' 224 j := by
      show zk_el w' 224 4 = zk_el w' 224 j
      rw [show j = 4 by omega]
    refine Or.inr (Or.inr ?_)
    rw [hj]
    omega
  exact (zx_eF1 (by show 0 ≤ (0 : Int) + (1 * a0 + 0); omega) (by show zk_xe w' 2000071 ((0 : Int) + (1 * a0 + 0)) = (1 : Int) + (0); rw [show (0 : Int) + (1 * a0 + 0) = a0 by omega]; exact (by rcases zs_71c (w := w') (j := a0) with h | h; exact h.1.trans (by omega); exact absurd hx h.2)) zx_eF0)
/-- the typed text (functions 95 to 97) -/
theorem zyq95 {w : zz_W} {j : Int} : zk_xe w 2000095 j = zy_c (zh_e w 177) (40000 * j) (zh_e w 178 j).toNat := by
  rw [show (2000095 : Nat) = 2000000 + 95 from rfl, zk_xe_h]
  rfl
theorem zyq96x {w : zz_W} {j u x : Int} (e : j = u + 4294967296 * x) (u0 : 0 ≤ u) (u1 : u < 4294967296) (x0 : 0 ≤ x) (x1 : x < 4294967296) : zk_xe w 2000096 j = zh_b (zy_d (zh_e w 177) (40000 * u) (zh_e w 178 u) x) := by
  obtain ⟨q0, y0, -⟩ := zm_z1 e u0 u1
  obtain ⟨q1, -, -⟩ := zm_z1 (j := x) (a := x) (b := 0) (by omega) x0 x1
  have h1 : zv_dg 1 j = x := (y0 0).trans q1
  rw [show (2000096 : Nat) = 2000000 + 96 from rfl, zk_xe_h]
  show zh_b (zy_d (zh_e w 177) (40000 * zv_dg 0 j) (zh_e w 178 (zv_dg 0 j)) (zv_dg 1 j)) = _
  rw [q0, h1]
theorem zyq96 {w : zz_W} {j u x : Int} (e : j = u + 4294967296 * x) (u0 : 0 ≤ u) (u1 : u < 4294967296) (x0 : 0 ≤ x) (x1 : x < 4294967296) : zk_xe w 2000096 j = 1 ↔ zy_d (zh_e w 177) (40000 * u) (zh_e w 178 u) x := by
  rw [zyq96x e u0 u1 x0 x1]
  exact ⟨zh_b1', zh_b1⟩
theorem zyq96b {w : zz_W} {j u x : Int} (e : j = u + 4294967296 * x) (u0 : 0 ≤ u) (u1 : u < 4294967296) (x0 : 0 ≤ x) (x1 : x < 4294967296) : zk_xe w 2000096 j = 0 ∨ zk_xe w 2000096 j = 1 := by
  rw [zyq96x e u0 u1 x0 x1]
  by_cases h : zy_d (zh_e w 177) (40000 * u) (zh_e w 178 u) x
  · exact Or.inr (zh_b1 h)
  · exact Or.inl (zh_b0 h)
theorem zyq97 {w : zz_W} {j v s : Int} (e : j = v + 18446744073709551616 * s) (v0 : 0 ≤ v) (v1 : v < 18446744073709551616) : zk_xe w 2000097 j = 1 ↔ zy_wb 9 s v = true := by
  rw [show (2000097 : Nat) = 2000000 + 97 from rfl, zk_xe_h]
  have q1 : j % 18446744073709551616 = v := by omega
  have q2 : j / 18446744073709551616 = s := by omega
  have h : zv_H 97 w j = zh_b (zy_wb 9 s v = true) := by
    show zh_b (zy_wb 9 (j / 18446744073709551616) (j % 18446744073709551616) = true) = _
    rw [q1, q2]
  rw [h]
  exact ⟨zh_b1', zh_b1⟩
theorem zyq144 {w : zz_W} {j : Int} : zk_xe w 2000144 j = zh_b (zh_e w 178 j = 0 ∨ zh_e w 177 (40000 * j + zh_e w 178 j - 1) = 10) := by
  rw [show (2000144 : Nat) = 2000000 + 144 from rfl, zk_xe_h]
  rfl
theorem zy_nm {w : zz_W} {n u p : Int} (h : zs_S w n u) (p0 : 8000 * u ≤ p) (p1 : p < 8000 * u + zh_e w 207 u) (hs : (5 ≤ zh_e w 208 p ∧ zh_e w 208 p ≤ 8) ∨ (11 ≤ zh_e w 208 p ∧ zh_e w 208 p ≤ 12)) : (zh_e w 208 p ≠ 8 ∧ 0 ≤ zh_e w 210 p) ∨ ((zh_e w 208 p = 8 ∨ zh_e w 210 p = -1) ∧ ∃ k, zs_u (zh_e w 229) (zh_e w 230) 0 n (zh_e w 209 p) k) := by
  have q := h p p0 p1
  unfold zs_st at q
  obtain ⟨-, q2, -, q4, q5, q6, -⟩ := q
  have c6 : ∀ j, 8000 * u ≤ j → j < 8000 * u + zh_e w 207 u → zh_e w 208 j = 6 → 0 ≤ zh_e w 210 j ∨ (zh_e w 210 j = -1 ∧ ∃ k, zs_u (zh_e w 229) (zh_e w 230) 0 n (zh_e w 209 j) k) := fun j j0 j1 js => by
    have r := h j j0 j1
    unfold zs_st at r
    obtain ⟨-, -, r3, -⟩ := r
    rcases r3 js with ⟨y, x⟩ | ⟨x, -⟩
    · exact Or.inr ⟨y, 2, x⟩
    · exact Or.inl x
  by_cases s5 : zh_e w 208 p = 5
  · rcases q2 (Or.inl s5) with ⟨y, x⟩ | ⟨x, -⟩
    · exact Or.inr ⟨Or.inr y, 1, x⟩
    · exact Or.inl ⟨by omega, x⟩
  by_cases s6 : zh_e w 208 p = 6
  · rcases c6 p p0 p1 s6 with x | ⟨y, x⟩
    · exact Or.inl ⟨by omega, x⟩
    · exact Or.inr ⟨Or.inr y, x⟩
  by_cases s7 : zh_e w 208 p = 7
  · obtain ⟨b, f1, f2, f3, -⟩ := q4 s7
    rcases c6 (p - 1) (by omega) (by omega) f1 with x | ⟨y, x⟩
    · rw [f3] at x
      exact Or.inl ⟨by omega, x⟩
    · rw [f2] at x
      rw [f3] at y
      exact Or.inr ⟨Or.inr y, x⟩
  by_cases s8 : zh_e w 208 p = 8
  · obtain ⟨-, -, x⟩ := q5 s8
    exact Or.inr ⟨Or.inl s8, _, x⟩
  by_cases s11 : zh_e w 208 p = 11
  · rcases q2 (Or.inr s11) with ⟨y, x⟩ | ⟨x, -⟩
    · exact Or.inr ⟨Or.inr y, 1, x⟩
    · exact Or.inl ⟨by omega, x⟩
  have s12 : zh_e w 208 p = 12 := by
    clear q2 q4 q5 q6 c6
    omega
  obtain ⟨j, j0, j1, f1, f2, f3, -⟩ := q6 s12
  rcases c6 j j0 (by omega) f1 with x | ⟨y, x⟩
  · rw [f3] at x
    exact Or.inl ⟨by omega, x⟩
  · rw [f2] at x
    rw [f3] at y
    exact Or.inr ⟨Or.inr y, x⟩
theorem zyq98 {w : zz_W} {j : Int} : zk_xe w 2000098 j = if j % 256 = 46 then 1 else 0 := by
  rw [show (2000098 : Nat) = 2000000 + 98 from rfl, zk_xe_h]
  rfl
theorem zy_okb_ok {c : Int} (h : zy_okb c = true) : zy_ok c := by
  unfold zy_okb at h
  unfold zy_ok
  simp only [Bool.or_eq_true, decide_eq_true_eq] at h
  exact h
theorem zy_wb1 {n : Nat} {s v : Int} (h : zy_wb (n + 1) s v = true) (hv : 0 < v) : 32 ≤ v % 256 ∧ v % 256 < 127 ∧ (s = 1 → zy_ok (v % 256)) ∧ zy_wb n (if v % 256 = 46 then 1 else 0) (v / 256) = true := by
  have h : ((decide (v = 0) && decide (s = 0)) || (decide (0 < v) && (decide (32 ≤ v % 256) && (decide (v % 256 < 127) && ((decide (s ≠ 1) || zy_okb (v % 256)) && zy_wb n (if v % 256 = 46 then 1 else 0) (v / 256)))))) = true := h
  rw [show decide (v = 0) = false from decide_eq_false (by omega)] at h
  have h : (decide (0 < v) && (decide (32 ≤ v % 256) && (decide (v % 256 < 127) && ((decide (s ≠ 1) || zy_okb (v % 256)) && zy_wb n (if v % 256 = 46 then 1 else 0) (v / 256))))) = true := h
  obtain ⟨-, h⟩ := zz_and h
  obtain ⟨h1, h⟩ := zz_and h
  obtain ⟨h2, h⟩ := zz_and h
  obtain ⟨h3, h4⟩ := zz_and h
  refine ⟨of_decide_eq_true h1, of_decide_eq_true h2, fun hs => ?_, h4⟩
  rw [show decide (s ≠ 1) = false from decide_eq_false (fun h => h hs)] at h3
  exact zy_okb_ok h3
theorem zy_wbu : ∀ {n : Nat} {s v : Int}, zy_wb n s v = true → zy_wb (n + 1) s v = true
  | 0, s, v, h => by cases h
  | n + 1, s, v, h => by
    have h : ((decide (v = 0) && decide (s = 0)) || (decide (0 < v) && (decide (32 ≤ v % 256) && (decide (v % 256 < 127) && ((decide (s ≠ 1) || zy_okb (v % 256)) && zy_wb n (if v % 256 = 46 then 1 else 0) (v / 256)))))) = true := h
    show ((decide (v = 0) && decide (s = 0)) || (decide (0 < v) && (decide (32 ≤ v % 256) && (decide (v % 256 < 127) && ((decide (s ≠ 1) || zy_okb (v % 256)) && zy_wb (n + 1) (if v % 256 = 46 then 1 else 0) (v / 256)))))) = true
    cases ha : (decide (v = 0) && decide (s = 0)) with
    | true => rfl
    | false =>
      rw [ha] at h
      have h : (decide (0 < v) && (decide (32 ≤ v % 256) && (decide (v % 256 < 127) && ((decide (s ≠ 1) || zy_okb (v % 256)) && zy_wb n (if v % 256 = 46 then 1 else 0) (v / 256))))) = true := h
      obtain ⟨h0, h⟩ := zz_and h
      obtain ⟨h1, h⟩ := zz_and h
      obtain ⟨h2, h⟩ := zz_and h
      obtain ⟨h3, h4⟩ := zz_and h
      rw [h0, h1, h2, h3, zy_wbu h4]
      rfl
theorem zyq99 {w : zz_W} {j n k : Int} (e : j = n + 4294967296 * k) (n0 : 0 ≤ n) (n1 : n < 4294967296) (k0 : 0 ≤ k) (k1 : k < 4294967296) : zk_xe w 2000099 j = zn_op 7 (zn_op 4 (zn_op 6 (if k < 8 then zn_l w 173 n else zn_l w 174 n) (8 * (k % 8))) 127) 0 := by
  obtain ⟨q0, y0, -⟩ := zm_z1 e n0 n1
  obtain ⟨q1, -, -⟩ := zm_z1 (j := k) (a := k) (b := 0) (by omega) k0 k1
  have h1 : zv_dg 1 j = k := (y0 0).trans q1
  rw [show (2000099 : Nat) = 2000000 + 99 from rfl, zk_xe_h]
  show zn_op 7 (zn_op 4 (zn_op 6 (if zv_dg 1 j < 8 then zn_l w 173 (zv_dg 0 j) else zn_l w 174 (zv_dg 0 j)) (8 * (zv_dg 1 j % 8))) 127) 0 = _
  rw [q0, h1]
/-- the signs of a plain name -/
theorem zy_by : ∀ {n : Nat} {a : Int}, zp_k n a → ∀ r : Nat, (r < n → zp_ch (a / 256 ^ r % 256)) ∧ (n ≤ r → a / 256 ^ r = 0)
  | 0, a, h, r => by
    have h : a = 0 := h
    rw [h, Int.zero_ediv]
    exact ⟨fun q => by omega, fun _ => rfl⟩
  | n + 1, a, h, r => by
    have hb := zp_kb h
    obtain ⟨b, c, h1, h2, h3⟩ := h
    have hb1 := zp_kb h1
    have hP : ∀ k : Nat, (0 : Int) < 256 ^ k := fun k => Int.pow_pos (by decide)
    refine ⟨fun hr => ?_, fun hr => ?_⟩
    · by_cases c1 : r = n
      · subst c1
        rw [h3, Int.add_mul_ediv_right _ _ (Int.ne_of_gt (hP r)), Int.ediv_eq_zero_of_lt hb1.1 hb1.2, Int.zero_add]
        unfold zp_ch at h2 ⊢
        omega
      · have hk : (256 : Int) ^ n = 256 ^ r * (256 * 256 ^ (n - r - 1)) := by
          rw [← Int.mul_assoc, ← Int.pow_succ, ← Int.pow_add, show r + 1 + (n - r - 1) = n by omega]
        have e : a / 256 ^ r = b / 256 ^ r + 256 * (256 ^ (n - r - 1) * c) := by
          rw [h3, hk, show c * (256 ^ r * (256 * 256 ^ (n - r - 1))) = 256 ^ r * (256 * (256 ^ (n - r - 1) * c)) by
            rw [Int.mul_comm c, Int.mul_assoc, Int.mul_assoc], Int.add_mul_ediv_left _ _ (Int.ne_of_gt (hP r))]
        rw [e, Int.add_mul_emod_self_left]
        exact (zy_by h1 r).1 (by omega)
    · have hle : (256 : Int) ^ (n + 1) ≤ 256 ^ r := by
        have := Nat.pow_le_pow_right (n := 256) (by decide) hr
        have e1 := Int.natCast_pow 256 (n + 1)
        have e2 := Int.natCast_pow 256 r
        have e1 : ((256 ^ (n + 1) : Nat) : Int) = (256 : Int) ^ (n + 1) := e1
        have e2 : ((256 ^ r : Nat) : Int) = (256 : Int) ^ r := e2
        rw [← e1, ← e2]
        exact Int.ofNat_le.mpr this
      exact Int.ediv_eq_zero_of_lt hb.1 (Int.lt_of_lt_of_le hb.2 hle)
theorem zy_shr {a : Int} {r : Nat} (h0 : 0 ≤ a) (h1 : a < 9223372036854775808) (hr : r ≤ 7) : zn_op 6 a (8 * (r : Int)) = a / 256 ^ r := by
  show (Int64.ofInt a >>> ((Int32.ofInt (8 * (r : Int))).toInt64 &&& 63)).toInt = _
  have e1 : Int32.ofInt (8 * (r : Int)) = Int32.ofNat (8 * r) := by
    rw [← Int32.ofInt_eq_ofNat]
    congr 1
  have e2 : (Int64.ofInt a).toInt = a := Int64.toInt_ofInt_of_le (by omega) (by omega)
  rw [e1, zk_lshr (k := 8 * r) (by omega), e2, zp_256]
theorem zy_and {x : Int} (h0 : 0 ≤ x) (h1 : x < 9223372036854775808) : zn_op 4 x 127 = x % 128 := by
  show (Int64.ofInt x &&& Int64.ofInt 127).toInt = _
  have e2 : (Int64.ofInt x).toInt = x := Int64.toInt_ofInt_of_le (by omega) (by omega)
  have e3 : (Int64.ofInt 127).toInt = 127 := Int64.toInt_ofInt_of_le (by decide) (by decide)
  have h := zk_land_k (x := Int64.ofInt x) (y := Int64.ofInt 127) (k := 7) (m := 128) (by decide) (by decide) (by decide) (by rw [e2]; exact h0) (by rw [e3]; decide)
  rw [h, e2]
  rfl
theorem zy_cc {T T' : Int → Int} {b : Int} : ∀ {n : Nat}, (∀ i, 0 ≤ i → i < (n : Int) → T' (b + i) = T (b + i)) → zy_c T' b n = zy_c T b n
  | 0, _ => rfl
  | n + 1, h => by
    show zy_c T' b n + (if T' (b + (n : Int)) = 10 then 1 else 0) = zy_c T b n + (if T (b + (n : Int)) = 10 then 1 else 0)
    rw [zy_cc (n := n) (fun i i0 i1 => h i i0 (by omega)), h (n : Int) (by omega) (by omega)]
def zx_D850 : zx_L := zx_Lc [] 1 [(178, 0)] [] [((0, 0), [(1, 1, 0)])] [((0, 0), [(0, 1, 0)]), ((4294967293, 0), [(0, 0, 1)])] [([], [], [(2000095, ((0, 0), [(0, 1, 0)]), ((0, 0), [])), (2000096, ((0, 0), [(0, 1, 0)]), ((1, 0), []))], [])]
theorem zx_D850_ok {PT : Nat → zz_W → Prop} : zx_Lok 64 zHT PT zx_D850 := by
  refine zx_Lc_ok (fun w hI hK ins hl hr he hg => ?_)
  obtain ⟨a0, rfl⟩ := zx_i1 hl
  have e0 : (0 : Int) + (1 * (zk_xe w 178 a0) + 0) = 0 := he _ List.mem_cons_self
  have g0 : 0 ≤ (0 : Int) + (1 * a0 + 0) := hg _ List.mem_cons_self
  have g1 : 0 ≤ (4294967293 : Int) + ((-1) * a0 + 0) := hg _ (List.mem_cons_of_mem _ List.mem_cons_self)
  have r0 : 0 ≤ a0 := hr _ List.mem_cons_self
  have k0 : zh_e w 178 (a0) = zk_xe w 178 a0 := by rw [zk_xe_r (i := 178) (by decide)]; show zk_el w 178 (a0) = zk_el w 178 a0; rw [show a0 = a0 by omega]
  have h1 : zk_xe w 2000095 a0 = 0 := by
    rw [zyq95, k0, show zk_xe w 178 a0 = 0 by omega]
    rfl
  have h2 : zy_d (zh_e w 177) (40000 * a0) (zh_e w 178 a0) 0 := fun i i0 i1 => by rw [k0] at i1; omega
  exact ⟨_, List.mem_cons_self, [], rfl, zx_bnil, zx_cs0, (zx_eF1 (by show 0 ≤ (0 : Int) + (1 * a0 + 0); omega) (by show zk_xe w 2000095 ((0 : Int) + (1 * a0 + 0)) = (0 : Int) + (0); rw [show (0 : Int) + (1 * a0 + 0) = a0 by omega]; omega) (zx_eF1 (by show 0 ≤ (0 : Int) + (1 * a0 + 0); omega) (by show zk_xe w 2000096 ((0 : Int) + (1 * a0 + 0)) = (1 : Int) + (0); rw [show (0 : Int) + (1 * a0 + 0) = a0 by omega]; exact ((zyq96 (w := w) (j := a0) (u := a0) (x := 0) (by omega) (by omega) (by omega) (by omega) (by omega) ).mpr h2).trans (by omega)) zx_eF0)), zx_k0⟩
def zx_D851 : zx_L := zx_Lc [] 3 [] [] [((0, 0), [(0, 1, 0), (1, 0, 1), (2, 0, 4294967296)])] [((0, 0), [(1, 1, 0)]), ((4294967293, 0), [(1, 0, 1)]), ((0, 0), [(2, 1, 0)]), ((4294967293, 0), [(2, 0, 1)])] [([(0, 1)], [], [(2000096, ((0, 0), [(0, 1, 0)]), ((0, 0), [(3, 1, 0)]))], [])]
theorem zx_D851_ok {PT : Nat → zz_W → Prop} : zx_Lok 64 zHT PT zx_D851 := by
  refine zx_Lc_ok (fun w hI hK ins hl hr he hg => ?_)
  obtain ⟨a0, a1, a2, rfl⟩ := zx_i3 hl
  have e0 : (0 : Int) + (1 * a0 + ((-1) * a1 + ((-4294967296) * a2 + 0))) = 0 := he _ List.mem_cons_self
  have g0 : 0 ≤ (0 : Int) + (1 * a1 + 0) := hg _ List.mem_cons_self
  have g1 : 0 ≤ (4294967293 : Int) + ((-1) * a1 + 0) := hg _ (List.mem_cons_of_mem _ List.mem_cons_self)
  have g2 : 0 ≤ (0 : Int) + (1 * a2 + 0) := hg _ (List.mem_cons_of_mem _ (List.mem_cons_of_mem _ List.mem_cons_self))
  have g3 : 0 ≤ (4294967293 : Int) + ((-1) * a2 + 0) := hg _ (List.mem_cons_of_mem _ (List.mem_cons_of_mem _ (List.mem_cons_of_mem _ List.mem_cons_self)))
  have hb := zyq96b (w := w) (j := a0) (u := a1) (x := a2) (by omega) (by omega) (by omega) (by omega) (by omega) 
  exact ⟨_, List.mem_cons_self, [zk_xe w 2000096 a0], rfl, (zx_bcons (by show (0 : Int) ≤ zk_xe w 2000096 a0 ∧ zk_xe w 2000096 a0 ≤ (1 : Int); omega) zx_bnil), zx_cs0, (zx_eF1 (by show 0 ≤ (0 : Int) + (1 * a0 + 0); omega) (by show zk_xe w 2000096 ((0 : Int) + (1 * a0 + 0)) = (0 : Int) + (1 * (zk_xe w 2000096 a0) + 0); rw [show (0 : Int) + (1 * a0 + 0) = a0 by omega]; omega) zx_eF0), zx_k0⟩
def zx_D855 : zx_L := zx_Lc [] 4 [(2000097, 0)] [] [((0, 0), [(0, 1, 0), (1, 0, 1)]), ((0, 1), [(4, 1, 0)]), ((0, 0), [(1, 1, 0), (2, 0, 1), (3, 0, 128)])] [((0, 1), [(1, 1, 0)]), ((9223372036854775807, 0), [(1, 0, 1)]), ((0, 0), [(2, 1, 0)]), ((127, 0), [(2, 0, 1)])] [([], [((0, 46), [(2, 1, 0)]), ((46, 0), [(2, 0, 1)])], [(2000098, ((0, 0), [(1, 1, 0)]), ((1, 0), []))], []), ([], [((0, 32), [(2, 1, 0)]), ((45, 0), [(2, 0, 1)])], [(2000098, ((0, 0), [(1, 1, 0)]), ((0, 0), []))], []), ([], [((0, 47), [(2, 1, 0)]), ((126, 0), [(2, 0, 1)])], [(2000098, ((0, 0), [(1, 1, 0)]), ((0, 0), []))], [])]
theorem zx_D855_ok {PT : Nat → zz_W → Prop} : zx_Lok 64 zHT PT zx_D855 := by
  refine zx_Lc_ok (fun w hI hK ins hl hr he hg => ?_)
  obtain ⟨a0, a1, a2, a3, rfl⟩ := zx_i4 hl
  have e0 : (0 : Int) + (1 * a0 + ((-1) * a1 + 0)) = 0 := he _ List.mem_cons_self
  have e1 : ((-1) : Int) + (1 * (zk_xe w 2000097 a0) + 0) = 0 := he _ (List.mem_cons_of_mem _ List.mem_cons_self)
  have e2 : (0 : Int) + (1 * a1 + ((-1) * a2 + ((-128) * a3 + 0))) = 0 := he _ (List.mem_cons_of_mem _ (List.mem_cons_of_mem _ List.mem_cons_self))
  have g0 : 0 ≤ ((-1) : Int) + (1 * a1 + 0) := hg _ List.mem_cons_self
  have g1 : 0 ≤ (9223372036854775807 : Int) + ((-1) * a1 + 0) := hg _ (List.mem_cons_of_mem _ List.mem_cons_self)
  have g2 : 0 ≤ (0 : Int) + (1 * a2 + 0) := hg _ (List.mem_cons_of_mem _ (List.mem_cons_of_mem _ List.mem_cons_self))
  have g3 : 0 ≤ (127 : Int) + ((-1) * a2 + 0) := hg _ (List.mem_cons_of_mem _ (List.mem_cons_of_mem _ (List.mem_cons_of_mem _ List.mem_cons_self)))
  have r0 : 0 ≤ a0 := hr _ List.mem_cons_self
  have hp := (zyq97 (w := w) (j := a0) (v := a1) (s := 0) (by omega) (by omega) (by omega) ).mp (by omega)
  have h1 := zy_wb1 hp (by omega)
  have hm : a1 % 256 = a2 := by
    have := h1.1
    have := h1.2.1
    omega
  rw [hm] at h1
  have hn := zyq98 (w := w) (j := a1)
  rw [hm] at hn
  obtain ⟨b1, b2, -, -⟩ := h1
  by_cases c : a2 = 46
  · rw [if_pos c] at hn
    exact ⟨_, List.mem_cons_self, [], rfl, zx_bnil, (zx_cs1 (by show 0 ≤ ((-46) : Int) + (1 * a2 + 0); omega) (zx_cs1 (by show 0 ≤ (46 : Int) + ((-1) * a2 + 0); omega) zx_cs0)), (zx_eF1 (by show 0 ≤ (0 : Int) + (1 * a1 + 0); omega) (by show zk_xe w 2000098 ((0 : Int) + (1 * a1 + 0)) = (1 : Int) + (0); rw [show (0 : Int) + (1 * a1 + 0) = a1 by omega]; omega) zx_eF0), zx_k0⟩
  · rw [if_neg c] at hn
    by_cases c2 : a2 < 46
    · skip
      exact ⟨_, (List.mem_cons_of_mem _ List.mem_cons_self), [], rfl, zx_bnil, (zx_cs1 (by show 0 ≤ ((-32) : Int) + (1 * a2 + 0); omega) (zx_cs1 (by show 0 ≤ (45 : Int) + ((-1) * a2 + 0); omega) zx_cs0)), (zx_eF1 (by show 0 ≤ (0 : Int) + (1 * a1 + 0); omega) (by show zk_xe w 2000098 ((0 : Int) + (1 * a1 + 0)) = (0 : Int) + (0); rw [show (0 : Int) + (1 * a1 + 0) = a1 by omega]; omega) zx_eF0), zx_k0⟩
    · skip
      exact ⟨_, (List.mem_cons_of_mem _ (List.mem_cons_of_mem _ List.mem_cons_self)), [], rfl, zx_bnil, (zx_cs1 (by show 0 ≤ ((-47) : Int) + (1 * a2 + 0); omega) (zx_cs1 (by show 0 ≤ (126 : Int) + ((-1) * a2 + 0); omega) zx_cs0)), (zx_eF1 (by show 0 ≤ (0 : Int) + (1 * a1 + 0); omega) (by show zk_xe w 2000098 ((0 : Int) + (1 * a1 + 0)) = (0 : Int) + (0); rw [show (0 : Int) + (1 * a1 + 0) = a1 by omega]; omega) zx_eF0), zx_k0⟩
def zx_D856 : zx_L := zx_Lc [] 4 [(2000097, 0)] [] [((0, 18446744073709551616), [(0, 1, 0), (1, 0, 1)]), ((0, 1), [(4, 1, 0)]), ((0, 0), [(1, 1, 0), (2, 0, 1), (3, 0, 128)])] [((0, 1), [(1, 1, 0)]), ((9223372036854775807, 0), [(1, 0, 1)]), ((0, 0), [(2, 1, 0)]), ((127, 0), [(2, 0, 1)])] [([], [((0, 100), [(2, 1, 0)]), ((100, 0), [(2, 0, 1)])], [(2000098, ((0, 0), [(1, 1, 0)]), ((0, 0), []))], []), ([], [((0, 103), [(2, 1, 0)]), ((103, 0), [(2, 0, 1)])], [(2000098, ((0, 0), [(1, 1, 0)]), ((0, 0), []))], []), ([], [((0, 107), [(2, 1, 0)]), ((107, 0), [(2, 0, 1)])], [(2000098, ((0, 0), [(1, 1, 0)]), ((0, 0), []))], []), ([], [((0, 115), [(2, 1, 0)]), ((116, 0), [(2, 0, 1)])], [(2000098, ((0, 0), [(1, 1, 0)]), ((0, 0), []))], []), ([], [((0, 119), [(2, 1, 0)]), ((119, 0), [(2, 0, 1)])], [(2000098, ((0, 0), [(1, 1, 0)]), ((0, 0), []))], [])]
theorem zx_D856_ok {PT : Nat → zz_W → Prop} : zx_Lok 64 zHT PT zx_D856 := by
  refine zx_Lc_ok (fun w hI hK ins hl hr he hg => ?_)
  obtain ⟨a0, a1, a2, a3, rfl⟩ := zx_i4 hl
  have e0 : ((-18446744073709551616) : Int) + (1 * a0 + ((-1) * a1 + 0)) = 0 := he _ List.mem_cons_self
  have e1 : ((-1) : Int) + (1 * (zk_xe w 2000097 a0) + 0) = 0 := he _ (List.mem_cons_of_mem _ List.mem_cons_self)
  have e2 : (0 : Int) + (1 * a1 + ((-1) * a2 + ((-128) * a3 + 0))) = 0 := he _ (List.mem_cons_of_mem _ (List.mem_cons_of_mem _ List.mem_cons_self))
  have g0 : 0 ≤ ((-1) : Int) + (1 * a1 + 0) := hg _ List.mem_cons_self
  have g1 : 0 ≤ (9223372036854775807 : Int) + ((-1) * a1 + 0) := hg _ (List.mem_cons_of_mem _ List.mem_cons_self)
  have g2 : 0 ≤ (0 : Int) + (1 * a2 + 0) := hg _ (List.mem_cons_of_mem _ (List.mem_cons_of_mem _ List.mem_cons_self))
  have g3 : 0 ≤ (127 : Int) + ((-1) * a2 + 0) := hg _ (List.mem_cons_of_mem _ (List.mem_cons_of_mem _ (List.mem_cons_of_mem _ List.mem_cons_self)))
  have r0 : 0 ≤ a0 := hr _ List.mem_cons_self
  have hp := (zyq97 (w := w) (j := a0) (v := a1) (s := 1) (by omega) (by omega) (by omega) ).mp (by omega)
  have h1 := zy_wb1 hp (by omega)
  have hm : a1 % 256 = a2 := by
    have := h1.1
    have := h1.2.1
    omega
  rw [hm] at h1
  have hn := zyq98 (w := w) (j := a1)
  rw [hm] at hn
  obtain ⟨b1, b2, b3, -⟩ := h1
  have b3 := b3 rfl
  unfold zy_ok at b3
  rw [if_neg (by omega)] at hn
  by_cases c0 : 100 ≤ a2 ∧ a2 ≤ 100
  · skip
    exact ⟨_, List.mem_cons_self, [], rfl, zx_bnil, (zx_cs1 (by show 0 ≤ ((-100) : Int) + (1 * a2 + 0); omega) (zx_cs1 (by show 0 ≤ (100 : Int) + ((-1) * a2 + 0); omega) zx_cs0)), (zx_eF1 (by show 0 ≤ (0 : Int) + (1 * a1 + 0); omega) (by show zk_xe w 2000098 ((0 : Int) + (1 * a1 + 0)) = (0 : Int) + (0); rw [show (0 : Int) + (1 * a1 + 0) = a1 by omega]; omega) zx_eF0), zx_k0⟩
  · skip
    by_cases c1 : 103 ≤ a2 ∧ a2 ≤ 103
    · skip
      exact ⟨_, (List.mem_cons_of_mem _ List.mem_cons_self), [], rfl, zx_bnil, (zx_cs1 (by show 0 ≤ ((-103) : Int) + (1 * a2 + 0); omega) (zx_cs1 (by show 0 ≤ (103 : Int) + ((-1) * a2 + 0); omega) zx_cs0)), (zx_eF1 (by show 0 ≤ (0 : Int) + (1 * a1 + 0); omega) (by show zk_xe w 2000098 ((0 : Int) + (1 * a1 + 0)) = (0 : Int) + (0); rw [show (0 : Int) + (1 * a1 + 0) = a1 by omega]; omega) zx_eF0), zx_k0⟩
    · skip
      by_cases c2 : 107 ≤ a2 ∧ a2 ≤ 107
      · skip
        exact ⟨_, (List.mem_cons_of_mem _ (List.mem_cons_of_mem _ List.mem_cons_self)), [], rfl, zx_bnil, (zx_cs1 (by show 0 ≤ ((-107) : Int) + (1 * a2 + 0); omega) (zx_cs1 (by show 0 ≤ (107 : Int) + ((-1) * a2 + 0); omega) zx_cs0)), (zx_eF1 (by show 0 ≤ (0 : Int) + (1 * a1 + 0); omega) (by show zk_xe w 2000098 ((0 : Int) + (1 * a1 + 0)) = (0 : Int) + (0); rw [show (0 : Int) + (1 * a1 + 0) = a1 by omega]; omega) zx_eF0), zx_k0⟩
      · skip
        by_cases c3 : 115 ≤ a2 ∧ a2 ≤ 116
        · skip
          exact ⟨_, (List.mem_cons_of_mem _ (List.mem_cons_of_mem _ (List.mem_cons_of_mem _ List.mem_cons_self))), [], rfl, zx_bnil, (zx_cs1 (by show 0 ≤ ((-115) : Int) + (1 * a2 + 0); omega) (zx_cs1 (by show 0 ≤ (116 : Int) + ((-1) * a2 + 0); omega) zx_cs0)), (zx_eF1 (by show 0 ≤ (0 : Int) + (1 * a1 + 0); omega) (by show zk_xe w 2000098 ((0 : Int) + (1 * a1 + 0)) = (0 : Int) + (0); rw [show (0 : Int) + (1 * a1 + 0) = a1 by omega]; omega) zx_eF0), zx_k0⟩
        · skip
          exact ⟨_, (List.mem_cons_of_mem _ (List.mem_cons_of_mem _ (List.mem_cons_of_mem _ (List.mem_cons_of_mem _ List.mem_cons_self)))), [], rfl, zx_bnil, (zx_cs1 (by show 0 ≤ ((-119) : Int) + (1 * a2 + 0); omega) (zx_cs1 (by show 0 ≤ (119 : Int) + ((-1) * a2 + 0); omega) zx_cs0)), (zx_eF1 (by show 0 ≤ (0 : Int) + (1 * a1 + 0); omega) (by show zk_xe w 2000098 ((0 : Int) + (1 * a1 + 0)) = (0 : Int) + (0); rw [show (0 : Int) + (1 * a1 + 0) = a1 by omega]; omega) zx_eF0), zx_k0⟩
def zx_D857 : zx_L := zx_Lc [] 2 [(2000097, 0)] [] [((0, 18446744073709551616), [(0, 1, 0), (1, 0, 1)]), ((0, 1), [(2, 1, 0)]), ((0, 0), [(1, 1, 0)])] [] [([], [((0, 1), [])], [], [])]
theorem zx_D857_ok {PT : Nat → zz_W → Prop} : zx_Lok 64 zHT PT zx_D857 := by
  refine zx_Lc_ok (fun w hI hK ins hl hr he hg => ?_)
  obtain ⟨a0, a1, rfl⟩ := zx_i2 hl
  have e0 : ((-18446744073709551616) : Int) + (1 * a0 + ((-1) * a1 + 0)) = 0 := he _ List.mem_cons_self
  have e1 : ((-1) : Int) + (1 * (zk_xe w 2000097 a0) + 0) = 0 := he _ (List.mem_cons_of_mem _ List.mem_cons_self)
  have e2 : (0 : Int) + (1 * a1 + 0) = 0 := he _ (List.mem_cons_of_mem _ (List.mem_cons_of_mem _ List.mem_cons_self))
  have r0 : 0 ≤ a0 := hr _ List.mem_cons_self
  have hp := (zyq97 (w := w) (j := a0) (v := 0) (s := 1) (by omega) (by omega) (by omega) ).mp (by omega)
  exact absurd hp (by decide)
def zx_D858 : zx_L := zx_Lc [] 4 [(2000097, 0), (2000098, 1)] [] [((0, 0), [(0, 1, 0), (1, 0, 1)]), ((0, 1), [(4, 1, 0)]), ((0, 0), [(5, 1, 0)]), ((0, 0), [(2, 0, 1), (3, 1, 0)])] [((0, 1), [(1, 1, 0)]), ((9223372036854775807, 0), [(1, 0, 1)]), ((0, 0), [(1, 1, 0), (2, 0, 256)]), ((255, 0), [(1, 0, 1), (2, 256, 0)]), ((0, 0), [(2, 1, 0)])] [([], [], [(2000097, ((0, 0), [(3, 1, 0)]), ((1, 0), []))], [])]
theorem zx_D858_ok {PT : Nat → zz_W → Prop} : zx_Lok 64 zHT PT zx_D858 := by
  refine zx_Lc_ok (fun w hI hK ins hl hr he hg => ?_)
  obtain ⟨a0, a1, a2, a3, rfl⟩ := zx_i4 hl
  have e0 : (0 : Int) + (1 * a0 + ((-1) * a1 + 0)) = 0 := he _ List.mem_cons_self
  have e1 : ((-1) : Int) + (1 * (zk_xe w 2000097 a0) + 0) = 0 := he _ (List.mem_cons_of_mem _ List.mem_cons_self)
  have e2 : (0 : Int) + (1 * (zk_xe w 2000098 a1) + 0) = 0 := he _ (List.mem_cons_of_mem _ (List.mem_cons_of_mem _ List.mem_cons_self))
  have e3 : (0 : Int) + ((-1) * a2 + (1 * a3 + 0)) = 0 := he _ (List.mem_cons_of_mem _ (List.mem_cons_of_mem _ (List.mem_cons_of_mem _ List.mem_cons_self)))
  have g0 : 0 ≤ ((-1) : Int) + (1 * a1 + 0) := hg _ List.mem_cons_self
  have g1 : 0 ≤ (9223372036854775807 : Int) + ((-1) * a1 + 0) := hg _ (List.mem_cons_of_mem _ List.mem_cons_self)
  have g2 : 0 ≤ (0 : Int) + (1 * a1 + ((-256) * a2 + 0)) := hg _ (List.mem_cons_of_mem _ (List.mem_cons_of_mem _ List.mem_cons_self))
  have g3 : 0 ≤ (255 : Int) + ((-1) * a1 + (256 * a2 + 0)) := hg _ (List.mem_cons_of_mem _ (List.mem_cons_of_mem _ (List.mem_cons_of_mem _ List.mem_cons_self)))
  have g4 : 0 ≤ (0 : Int) + (1 * a2 + 0) := hg _ (List.mem_cons_of_mem _ (List.mem_cons_of_mem _ (List.mem_cons_of_mem _ (List.mem_cons_of_mem _ List.mem_cons_self))))
  have r0 : 0 ≤ a0 := hr _ List.mem_cons_self
  have r1 : 0 ≤ a1 := hr _ (List.mem_cons_of_mem _ List.mem_cons_self)
  have hp := (zyq97 (w := w) (j := a0) (v := a1) (s := 0) (by omega) (by omega) (by omega) ).mp (by omega)
  have hn := zyq98 (w := w) (j := a1)
  have h1 := (zy_wb1 hp (by omega)).2.2.2
  have hq : a1 / 256 = a2 := by omega
  rw [hq] at h1
  have hs : (if a1 % 256 = 46 then 1 else 0 : Int) = 0 := by
    rw [← hn]
    omega
  rw [hs] at h1
  have b5 := zy_wbu h1
  exact ⟨_, List.mem_cons_self, [], rfl, zx_bnil, zx_cs0, (zx_eF1 (by show 0 ≤ (0 : Int) + (1 * a3 + 0); omega) (by show zk_xe w 2000097 ((0 : Int) + (1 * a3 + 0)) = (1 : Int) + (0); rw [show (0 : Int) + (1 * a3 + 0) = a3 by omega]; exact ((zyq97 (w := w) (j := a3) (v := a2) (s := 0) (by omega) (by omega) (by omega) ).mpr b5).trans (by omega)) zx_eF0), zx_k0⟩
def zx_D868 : zx_L := zx_Lc [] 4 [(2000097, 0), (2000098, 1)] [] [((0, 18446744073709551616), [(0, 1, 0), (1, 0, 1)]), ((0, 1), [(4, 1, 0)]), ((0, 0), [(5, 1, 0)]), ((0, 0), [(2, 0, 1), (3, 1, 0)])] [((0, 1), [(1, 1, 0)]), ((9223372036854775807, 0), [(1, 0, 1)]), ((0, 0), [(1, 1, 0), (2, 0, 256)]), ((255, 0), [(1, 0, 1), (2, 256, 0)]), ((0, 0), [(2, 1, 0)])] [([], [], [(2000097, ((0, 0), [(3, 1, 0)]), ((1, 0), []))], [])]
theorem zx_D868_ok {PT : Nat → zz_W → Prop} : zx_Lok 64 zHT PT zx_D868 := by
  refine zx_Lc_ok (fun w hI hK ins hl hr he hg => ?_)
  obtain ⟨a0, a1, a2, a3, rfl⟩ := zx_i4 hl
  have e0 : ((-18446744073709551616) : Int) + (1 * a0 + ((-1) * a1 + 0)) = 0 := he _ List.mem_cons_self
  have e1 : ((-1) : Int) + (1 * (zk_xe w 2000097 a0) + 0) = 0 := he _ (List.mem_cons_of_mem _ List.mem_cons_self)
  have e2 : (0 : Int) + (1 * (zk_xe w 2000098 a1) + 0) = 0 := he _ (List.mem_cons_of_mem _ (List.mem_cons_of_mem _ List.mem_cons_self))
  have e3 : (0 : Int) + ((-1) * a2 + (1 * a3 + 0)) = 0 := he _ (List.mem_cons_of_mem _ (List.mem_cons_of_mem _ (List.mem_cons_of_mem _ List.mem_cons_self)))
  have g0 : 0 ≤ ((-1) : Int) + (1 * a1 + 0) := hg _ List.mem_cons_self
  have g1 : 0 ≤ (9223372036854775807 : Int) + ((-1) * a1 + 0) := hg _ (List.mem_cons_of_mem _ List.mem_cons_self)
  have g2 : 0 ≤ (0 : Int) + (1 * a1 + ((-256) * a2 + 0)) := hg _ (List.mem_cons_of_mem _ (List.mem_cons_of_mem _ List.mem_cons_self))
  have g3 : 0 ≤ (255 : Int) + ((-1) * a1 + (256 * a2 + 0)) := hg _ (List.mem_cons_of_mem _ (List.mem_cons_of_mem _ (List.mem_cons_of_mem _ List.mem_cons_self)))
  have g4 : 0 ≤ (0 : Int) + (1 * a2 + 0) := hg _ (List.mem_cons_of_mem _ (List.mem_cons_of_mem _ (List.mem_cons_of_mem _ (List.mem_cons_of_mem _ List.mem_cons_self))))
  have r0 : 0 ≤ a0 := hr _ List.mem_cons_self
  have r1 : 0 ≤ a1 := hr _ (List.mem_cons_of_mem _ List.mem_cons_self)
  have hp := (zyq97 (w := w) (j := a0) (v := a1) (s := 1) (by omega) (by omega) (by omega) ).mp (by omega)
  have hn := zyq98 (w := w) (j := a1)
  have h1 := (zy_wb1 hp (by omega)).2.2.2
  have hq : a1 / 256 = a2 := by omega
  rw [hq] at h1
  have hs : (if a1 % 256 = 46 then 1 else 0 : Int) = 0 := by
    rw [← hn]
    omega
  rw [hs] at h1
  have b5 := zy_wbu h1
  exact ⟨_, List.mem_cons_self, [], rfl, zx_bnil, zx_cs0, (zx_eF1 (by show 0 ≤ (0 : Int) + (1 * a3 + 0); omega) (by show zk_xe w 2000097 ((0 : Int) + (1 * a3 + 0)) = (1 : Int) + (0); rw [show (0 : Int) + (1 * a3 + 0) = a3 by omega]; exact ((zyq97 (w := w) (j := a3) (v := a2) (s := 0) (by omega) (by omega) (by omega) ).mpr b5).trans (by omega)) zx_eF0), zx_k0⟩
def zx_D859 : zx_L := zx_Lc [] 4 [(2000097, 0), (2000098, 1)] [] [((0, 0), [(0, 1, 0), (1, 0, 1)]), ((0, 1), [(4, 1, 0)]), ((0, 1), [(5, 1, 0)]), ((0, 18446744073709551616), [(2, 0, 1), (3, 1, 0)])] [((0, 1), [(1, 1, 0)]), ((9223372036854775807, 0), [(1, 0, 1)]), ((0, 0), [(1, 1, 0), (2, 0, 256)]), ((255, 0), [(1, 0, 1), (2, 256, 0)]), ((0, 0), [(2, 1, 0)])] [([], [], [(2000097, ((0, 0), [(3, 1, 0)]), ((1, 0), []))], [])]
theorem zx_D859_ok {PT : Nat → zz_W → Prop} : zx_Lok 64 zHT PT zx_D859 := by
  refine zx_Lc_ok (fun w hI hK ins hl hr he hg => ?_)
  obtain ⟨a0, a1, a2, a3, rfl⟩ := zx_i4 hl
  have e0 : (0 : Int) + (1 * a0 + ((-1) * a1 + 0)) = 0 := he _ List.mem_cons_self
  have e1 : ((-1) : Int) + (1 * (zk_xe w 2000097 a0) + 0) = 0 := he _ (List.mem_cons_of_mem _ List.mem_cons_self)
  have e2 : ((-1) : Int) + (1 * (zk_xe w 2000098 a1) + 0) = 0 := he _ (List.mem_cons_of_mem _ (List.mem_cons_of_mem _ List.mem_cons_self))
  have e3 : ((-18446744073709551616) : Int) + ((-1) * a2 + (1 * a3 + 0)) = 0 := he _ (List.mem_cons_of_mem _ (List.mem_cons_of_mem _ (List.mem_cons_of_mem _ List.mem_cons_self)))
  have g0 : 0 ≤ ((-1) : Int) + (1 * a1 + 0) := hg _ List.mem_cons_self
  have g1 : 0 ≤ (9223372036854775807 : Int) + ((-1) * a1 + 0) := hg _ (List.mem_cons_of_mem _ List.mem_cons_self)
  have g2 : 0 ≤ (0 : Int) + (1 * a1 + ((-256) * a2 + 0)) := hg _ (List.mem_cons_of_mem _ (List.mem_cons_of_mem _ List.mem_cons_self))
  have g3 : 0 ≤ (255 : Int) + ((-1) * a1 + (256 * a2 + 0)) := hg _ (List.mem_cons_of_mem _ (List.mem_cons_of_mem _ (List.mem_cons_of_mem _ List.mem_cons_self)))
  have g4 : 0 ≤ (0 : Int) + (1 * a2 + 0) := hg _ (List.mem_cons_of_mem _ (List.mem_cons_of_mem _ (List.mem_cons_of_mem _ (List.mem_cons_of_mem _ List.mem_cons_self))))
  have r0 : 0 ≤ a0 := hr _ List.mem_cons_self
  have r1 : 0 ≤ a1 := hr _ (List.mem_cons_of_mem _ List.mem_cons_self)
  have hp := (zyq97 (w := w) (j := a0) (v := a1) (s := 0) (by omega) (by omega) (by omega) ).mp (by omega)
  have hn := zyq98 (w := w) (j := a1)
  have h1 := (zy_wb1 hp (by omega)).2.2.2
  have hq : a1 / 256 = a2 := by omega
  rw [hq] at h1
  have hs : (if a1 % 256 = 46 then 1 else 0 : Int) = 1 := by
    rw [← hn]
    omega
  rw [hs] at h1
  have b5 := zy_wbu h1
  exact ⟨_, List.mem_cons_self, [], rfl, zx_bnil, zx_cs0, (zx_eF1 (by show 0 ≤ (0 : Int) + (1 * a3 + 0); omega) (by show zk_xe w 2000097 ((0 : Int) + (1 * a3 + 0)) = (1 : Int) + (0); rw [show (0 : Int) + (1 * a3 + 0) = a3 by omega]; exact ((zyq97 (w := w) (j := a3) (v := a2) (s := 1) (by omega) (by omega) (by omega) ).mpr b5).trans (by omega)) zx_eF0), zx_k0⟩
def zx_D869 : zx_L := zx_Lc [] 4 [(2000097, 0), (2000098, 1)] [] [((0, 18446744073709551616), [(0, 1, 0), (1, 0, 1)]), ((0, 1), [(4, 1, 0)]), ((0, 1), [(5, 1, 0)]), ((0, 18446744073709551616), [(2, 0, 1), (3, 1, 0)])] [((0, 1), [(1, 1, 0)]), ((9223372036854775807, 0), [(1, 0, 1)]), ((0, 0), [(1, 1, 0), (2, 0, 256)]), ((255, 0), [(1, 0, 1), (2, 256, 0)]), ((0, 0), [(2, 1, 0)])] [([], [], [(2000097, ((0, 0), [(3, 1, 0)]), ((1, 0), []))], [])]
theorem zx_D869_ok {PT : Nat → zz_W → Prop} : zx_Lok 64 zHT PT zx_D869 := by
  refine zx_Lc_ok (fun w hI hK ins hl hr he hg => ?_)
  obtain ⟨a0, a1, a2, a3, rfl⟩ := zx_i4 hl
  have e0 : ((-18446744073709551616) : Int) + (1 * a0 + ((-1) * a1 + 0)) = 0 := he _ List.mem_cons_self
  have e1 : ((-1) : Int) + (1 * (zk_xe w 2000097 a0) + 0) = 0 := he _ (List.mem_cons_of_mem _ List.mem_cons_self)
  have e2 : ((-1) : Int) + (1 * (zk_xe w 2000098 a1) + 0) = 0 := he _ (List.mem_cons_of_mem _ (List.mem_cons_of_mem _ List.mem_cons_self))
  have e3 : ((-18446744073709551616) : Int) + ((-1) * a2 + (1 * a3 + 0)) = 0 := he _ (List.mem_cons_of_mem _ (List.mem_cons_of_mem _ (List.mem_cons_of_mem _ List.mem_cons_self)))
  have g0 : 0 ≤ ((-1) : Int) + (1 * a1 + 0) := hg _ List.mem_cons_self
  have g1 : 0 ≤ (9223372036854775807 : Int) + ((-1) * a1 + 0) := hg _ (List.mem_cons_of_mem _ List.mem_cons_self)
  have g2 : 0 ≤ (0 : Int) + (1 * a1 + ((-256) * a2 + 0)) := hg _ (List.mem_cons_of_mem _ (List.mem_cons_of_mem _ List.mem_cons_self))
  have g3 : 0 ≤ (255 : Int) + ((-1) * a1 + (256 * a2 + 0)) := hg _ (List.mem_cons_of_mem _ (List.mem_cons_of_mem _ (List.mem_cons_of_mem _ List.mem_cons_self)))
  have g4 : 0 ≤ (0 : Int) + (1 * a2 + 0) := hg _ (List.mem_cons_of_mem _ (List.mem_cons_of_mem _ (List.mem_cons_of_mem _ (List.mem_cons_of_mem _ List.mem_cons_self))))
  have r0 : 0 ≤ a0 := hr _ List.mem_cons_self
  have r1 : 0 ≤ a1 := hr _ (List.mem_cons_of_mem _ List.mem_cons_self)
  have hp := (zyq97 (w := w) (j := a0) (v := a1) (s := 1) (by omega) (by omega) (by omega) ).mp (by omega)
  have hn := zyq98 (w := w) (j := a1)
  have h1 := (zy_wb1 hp (by omega)).2.2.2
  have hq : a1 / 256 = a2 := by omega
  rw [hq] at h1
  have hs : (if a1 % 256 = 46 then 1 else 0 : Int) = 1 := by
    rw [← hn]
    omega
  rw [hs] at h1
  have b5 := zy_wbu h1
  exact ⟨_, List.mem_cons_self, [], rfl, zx_bnil, zx_cs0, (zx_eF1 (by show 0 ≤ (0 : Int) + (1 * a3 + 0); omega) (by show zk_xe w 2000097 ((0 : Int) + (1 * a3 + 0)) = (1 : Int) + (0); rw [show (0 : Int) + (1 * a3 + 0) = a3 by omega]; exact ((zyq97 (w := w) (j := a3) (v := a2) (s := 1) (by omega) (by omega) (by omega) ).mpr b5).trans (by omega)) zx_eF0), zx_k0⟩
def zx_D860 : zx_L := zx_Lc [] 9 [(2000089, 0), (2000082, 1), (2000081, 2), (2000081, 3), (2000081, 4)] [] [((0, 4294967297), [(0, 1, 0), (1, 0, 1)]), ((0, 1), [(9, 1, 0)]), ((0, 0), [(5, 1, 0), (6, 0, 8)]), ((0, 2722258935367507707854570812043822104582), [(2, 1, 0), (5, 0, 295147905179352825856), (10, 0, 16)]), ((0, 2722258935367507745338354769821630988292), [(3, 1, 0), (11, 0, 16)]), ((0, 2722258935367507707854570812043822104583), [(4, 1, 0), (12, 0, 16)]), ((0, 0), [(6, 0, 1), (7, 1, 0), (8, 0, 8)])] [((0, 0), [(1, 1, 0)]), ((4294967293, 0), [(1, 0, 1)]), ((0, 0), [(6, 1, 0)]), ((7, 0), [(6, 0, 1)]), ((0, 0), [(7, 1, 0)]), ((7, 0), [(7, 0, 1)])] [([], [((0, 0), [(13, 1, 0)]), ((0, 0), [(13, 0, 1)])], [(2000099, ((0, 0), [(1, 1, 0), (7, 4294967296, 0)]), ((0, 0), [(13, 1, 0)]))], []), ([], [((0, 48), [(13, 1, 0)]), ((57, 0), [(13, 0, 1)])], [(2000099, ((0, 0), [(1, 1, 0), (7, 4294967296, 0)]), ((0, 0), [(13, 1, 0)]))], []), ([], [((0, 97), [(13, 1, 0)]), ((122, 0), [(13, 0, 1)])], [(2000099, ((0, 0), [(1, 1, 0), (7, 4294967296, 0)]), ((0, 0), [(13, 1, 0)]))], [])]
theorem zx_D860_ok {PT : Nat → zz_W → Prop} : zx_Lok 64 zHT PT zx_D860 := by
  refine zx_Lc_ok (fun w hI hK ins hl hr he hg => ?_)
  obtain ⟨a0, a1, a2, a3, a4, a5, a6, a7, a8, rfl⟩ := zx_i9 hl
  have e0 : ((-4294967297) : Int) + (1 * a0 + ((-1) * a1 + 0)) = 0 := he _ List.mem_cons_self
  have e1 : ((-1) : Int) + (1 * (zk_xe w 2000089 a0) + 0) = 0 := he _ (List.mem_cons_of_mem _ List.mem_cons_self)
  have e2 : (0 : Int) + (1 * a5 + ((-8) * a6 + 0)) = 0 := he _ (List.mem_cons_of_mem _ (List.mem_cons_of_mem _ List.mem_cons_self))
  have e3 : ((-2722258935367507707854570812043822104582) : Int) + (1 * a2 + ((-295147905179352825856) * a5 + ((-16) * (zk_xe w 2000082 a1) + 0))) = 0 := he _ (List.mem_cons_of_mem _ (List.mem_cons_of_mem _ (List.mem_cons_of_mem _ List.mem_cons_self)))
  have e4 : ((-2722258935367507745338354769821630988292) : Int) + (1 * a3 + ((-16) * (zk_xe w 2000081 a2) + 0)) = 0 := he _ (List.mem_cons_of_mem _ (List.mem_cons_of_mem _ (List.mem_cons_of_mem _ (List.mem_cons_of_mem _ List.mem_cons_self))))
  have e5 : ((-2722258935367507707854570812043822104583) : Int) + (1 * a4 + ((-16) * (zk_xe w 2000081 a3) + 0)) = 0 := he _ (List.mem_cons_of_mem _ (List.mem_cons_of_mem _ (List.mem_cons_of_mem _ (List.mem_cons_of_mem _ (List.mem_cons_of_mem _ List.mem_cons_self)))))
  have e6 : (0 : Int) + ((-1) * a6 + (1 * a7 + ((-8) * a8 + 0))) = 0 := he _ (List.mem_cons_of_mem _ (List.mem_cons_of_mem _ (List.mem_cons_of_mem _ (List.mem_cons_of_mem _ (List.mem_cons_of_mem _ (List.mem_cons_of_mem _ List.mem_cons_self))))))
  have g0 : 0 ≤ (0 : Int) + (1 * a1 + 0) := hg _ List.mem_cons_self
  have g1 : 0 ≤ (4294967293 : Int) + ((-1) * a1 + 0) := hg _ (List.mem_cons_of_mem _ List.mem_cons_self)
  have g2 : 0 ≤ (0 : Int) + (1 * a6 + 0) := hg _ (List.mem_cons_of_mem _ (List.mem_cons_of_mem _ List.mem_cons_self))
  have g3 : 0 ≤ (7 : Int) + ((-1) * a6 + 0) := hg _ (List.mem_cons_of_mem _ (List.mem_cons_of_mem _ (List.mem_cons_of_mem _ List.mem_cons_self)))
  have g4 : 0 ≤ (0 : Int) + (1 * a7 + 0) := hg _ (List.mem_cons_of_mem _ (List.mem_cons_of_mem _ (List.mem_cons_of_mem _ (List.mem_cons_of_mem _ List.mem_cons_self))))
  have g5 : 0 ≤ (7 : Int) + ((-1) * a7 + 0) := hg _ (List.mem_cons_of_mem _ (List.mem_cons_of_mem _ (List.mem_cons_of_mem _ (List.mem_cons_of_mem _ (List.mem_cons_of_mem _ List.mem_cons_self)))))
  have r0 : 0 ≤ a0 := hr _ List.mem_cons_self
  have r1 : 0 ≤ a1 := hr _ (List.mem_cons_of_mem _ List.mem_cons_self)
  have r2 : 0 ≤ a2 := hr _ (List.mem_cons_of_mem _ (List.mem_cons_of_mem _ List.mem_cons_self))
  have r3 : 0 ≤ a3 := hr _ (List.mem_cons_of_mem _ (List.mem_cons_of_mem _ (List.mem_cons_of_mem _ List.mem_cons_self)))
  have r4 : 0 ≤ a4 := hr _ (List.mem_cons_of_mem _ (List.mem_cons_of_mem _ (List.mem_cons_of_mem _ (List.mem_cons_of_mem _ List.mem_cons_self))))
  have hp := (zn_89 (w := w) (j := a0) (n := a1) (by omega) (by omega) (by omega)).mp (by omega)
  have xa := zn_82 (w := w) (i := a1) (j := a1) rfl
  obtain ⟨a, ha⟩ : ∃ a, zk_xe w 2000082 a1 = a := ⟨_, rfl⟩
  obtain ⟨x, hx⟩ : ∃ x, zk_xe w 2000081 a2 = x := ⟨_, rfl⟩
  obtain ⟨y, hy⟩ : ∃ y, zk_xe w 2000081 a3 = y := ⟨_, rfl⟩
  obtain ⟨z, hz⟩ : ∃ z, zk_xe w 2000081 a4 = z := ⟨_, rfl⟩
  rw [ha] at e3 xa
  rw [hx] at e4
  rw [hy] at e5
  obtain ⟨r, hr⟩ : ∃ r : Nat, a6 = (r : Int) := ⟨a6.toNat, by omega⟩
  obtain ⟨pb, m, m1, m2, hk⟩ := hp
  have hb := zp_kb hk
  rw [← xa] at hk hb
  have hl : (256 : Int) ^ m ≤ 256 ^ 8 := by
    have q := Nat.pow_le_pow_right (n := 256) (by decide) m2
    have e1 : ((256 ^ m : Nat) : Int) = (256 : Int) ^ m := Int.natCast_pow 256 m
    have e2 : ((256 ^ 8 : Nat) : Int) = (256 : Int) ^ 8 := Int.natCast_pow 256 8
    rw [← e1, ← e2]
    exact Int.ofNat_le.mpr q
  have ht := (zy_by hk 7).1
  have hu := (zy_by hk 7).2
  have h63 : a < 9223372036854775808 := by
    have q : a / 256 ^ 7 < 128 := by
      by_cases c : 7 < m
      · have := ht c
        unfold zp_ch at this
        have q8 : a / 256 ^ 7 < 256 := by
          have : (256 : Int) ^ 8 = 256 ^ 7 * 256 := Int.pow_succ 256 7
          exact Int.ediv_lt_of_lt_mul (by decide) (by omega)
        have q0 : 0 ≤ a / 256 ^ 7 := Int.ediv_nonneg hb.1 (by decide)
        omega
      · rw [hu (by omega)]
        decide
    have e7 : (256 : Int) ^ 7 = 72057594037927936 := by decide
    rw [e7] at q
    omega
  have o1 : x = zn_op 6 a (8 * (r : Int)) := hx.symm.trans (zn_oc_at (x := a) (y := 8 * (r : Int)) (by decide) (by omega) h63 (by omega) (by omega))
  have w1 : x = a / 256 ^ r := o1.trans (zy_shr hb.1 h63 (by omega))
  have x0 : 0 ≤ x := by
    rw [w1]
    exact Int.ediv_nonneg hb.1 (Int.le_of_lt (Int.pow_pos (by decide)))
  have x1 : x < 9223372036854775808 := by
    rw [w1]
    exact Int.lt_of_le_of_lt (Int.ediv_le_self _ hb.1) h63
  have w2 : y = x % 128 := hy.symm.trans ((zn_oc_at (x := x) (y := 127) (by decide) (by omega) x1 (by omega) (by omega)).trans (zy_and x0 x1))
  have w3 : z = y := hz.symm.trans ((zn_oc_at (x := y) (y := 0) (by decide) (by omega) (by omega) (by omega) (by omega)).trans (zn_op7 (by omega) (by omega)))
  have o2 : y = zn_op 4 x 127 := hy.symm.trans (zn_oc_at (x := x) (y := 127) (by decide) (by omega) x1 (by omega) (by omega))
  have o3 : z = zn_op 7 y 0 := hz.symm.trans (zn_oc_at (x := y) (y := 0) (by decide) (by omega) (by omega) (by omega) (by omega))
  have hg : zk_xe w 2000099 (a1 + 4294967296 * a7) = zk_xe w 2000081 a4 := by
    rw [hz, zyq99 (n := a1) (k := a7) rfl (by omega) (by omega) (by omega) (by omega), if_pos (show a7 < 8 by omega), ← xa, show a7 % 8 = (r : Int) by omega, ← o1, ← o2, ← o3]
  by_cases c : r < m
  · have q := (zy_by hk r).1 c
    rw [← w1] at q
    unfold zp_ch at q
    by_cases c2 : z ≤ 57
    · skip
      exact ⟨_, (List.mem_cons_of_mem _ List.mem_cons_self), [], rfl, zx_bnil, (zx_cs1 (by show 0 ≤ ((-48) : Int) + (1 * (zk_xe w 2000081 a4) + 0); rw [hz]; omega) (zx_cs1 (by show 0 ≤ (57 : Int) + ((-1) * (zk_xe w 2000081 a4) + 0); rw [hz]; omega) zx_cs0)), (zx_eF1 (by show 0 ≤ (0 : Int) + (1 * a1 + (4294967296 * a7 + 0)); omega) (by show zk_xe w 2000099 ((0 : Int) + (1 * a1 + (4294967296 * a7 + 0))) = (0 : Int) + (1 * (zk_xe w 2000081 a4) + 0); rw [show (0 : Int) + (1 * a1 + (4294967296 * a7 + 0)) = a1 + 4294967296 * a7 by omega]; exact hg.trans (by rw [hz]; omega)) zx_eF0), zx_k0⟩
    · skip
      exact ⟨_, (List.mem_cons_of_mem _ (List.mem_cons_of_mem _ List.mem_cons_self)), [], rfl, zx_bnil, (zx_cs1 (by show 0 ≤ ((-97) : Int) + (1 * (zk_xe w 2000081 a4) + 0); rw [hz]; omega) (zx_cs1 (by show 0 ≤ (122 : Int) + ((-1) * (zk_xe w 2000081 a4) + 0); rw [hz]; omega) zx_cs0)), (zx_eF1 (by show 0 ≤ (0 : Int) + (1 * a1 + (4294967296 * a7 + 0)); omega) (by show zk_xe w 2000099 ((0 : Int) + (1 * a1 + (4294967296 * a7 + 0))) = (0 : Int) + (1 * (zk_xe w 2000081 a4) + 0); rw [show (0 : Int) + (1 * a1 + (4294967296 * a7 + 0)) = a1 + 4294967296 * a7 by omega]; exact hg.trans (by rw [hz]; omega)) zx_eF0), zx_k0⟩
  · have q := (zy_by hk r).2 (by omega)
    rw [← w1] at q
    exact ⟨_, List.mem_cons_self, [], rfl, zx_bnil, (zx_cs1 (by show 0 ≤ (0 : Int) + (1 * (zk_xe w 2000081 a4) + 0); rw [hz]; omega) (zx_cs1 (by show 0 ≤ (0 : Int) + ((-1) * (zk_xe w 2000081 a4) + 0); rw [hz]; omega) zx_cs0)), (zx_eF1 (by show 0 ≤ (0 : Int) + (1 * a1 + (4294967296 * a7 + 0)); omega) (by show zk_xe w 2000099 ((0 : Int) + (1 * a1 + (4294967296 * a7 + 0))) = (0 : Int) + (1 * (zk_xe w 2000081 a4) + 0); rw [show (0 : Int) + (1 * a1 + (4294967296 * a7 + 0)) = a1 + 4294967296 * a7 by omega]; exact hg.trans (by rw [hz]; omega)) zx_eF0), zx_k0⟩
def zx_D861 : zx_L := zx_Lc [] 9 [(2000089, 0), (2000083, 1), (2000081, 2), (2000081, 3), (2000081, 4)] [] [((0, 4294967297), [(0, 1, 0), (1, 0, 1)]), ((0, 1), [(9, 1, 0)]), ((0, 0), [(5, 1, 0), (6, 0, 8)]), ((0, 2722258935367507707854570812043822104582), [(2, 1, 0), (5, 0, 295147905179352825856), (10, 0, 16)]), ((0, 2722258935367507745338354769821630988292), [(3, 1, 0), (11, 0, 16)]), ((0, 2722258935367507707854570812043822104583), [(4, 1, 0), (12, 0, 16)]), ((0, 0), [(6, 0, 1), (7, 1, 0), (8, 0, 8)])] [((0, 0), [(1, 1, 0)]), ((4294967293, 0), [(1, 0, 1)]), ((0, 0), [(6, 1, 0)]), ((7, 0), [(6, 0, 1)]), ((0, 8), [(7, 1, 0)]), ((15, 0), [(7, 0, 1)])] [([], [((0, 0), [(13, 1, 0)]), ((0, 0), [(13, 0, 1)])], [(2000099, ((0, 0), [(1, 1, 0), (7, 4294967296, 0)]), ((0, 0), [(13, 1, 0)]))], [])]
theorem zx_D861_ok {PT : Nat → zz_W → Prop} : zx_Lok 64 zHT PT zx_D861 := by
  refine zx_Lc_ok (fun w hI hK ins hl hr he hg => ?_)
  obtain ⟨a0, a1, a2, a3, a4, a5, a6, a7, a8, rfl⟩ := zx_i9 hl
  have e0 : ((-4294967297) : Int) + (1 * a0 + ((-1) * a1 + 0)) = 0 := he _ List.mem_cons_self
  have e1 : ((-1) : Int) + (1 * (zk_xe w 2000089 a0) + 0) = 0 := he _ (List.mem_cons_of_mem _ List.mem_cons_self)
  have e2 : (0 : Int) + (1 * a5 + ((-8) * a6 + 0)) = 0 := he _ (List.mem_cons_of_mem _ (List.mem_cons_of_mem _ List.mem_cons_self))
  have e3 : ((-2722258935367507707854570812043822104582) : Int) + (1 * a2 + ((-295147905179352825856) * a5 + ((-16) * (zk_xe w 2000083 a1) + 0))) = 0 := he _ (List.mem_cons_of_mem _ (List.mem_cons_of_mem _ (List.mem_cons_of_mem _ List.mem_cons_self)))
  have e4 : ((-2722258935367507745338354769821630988292) : Int) + (1 * a3 + ((-16) * (zk_xe w 2000081 a2) + 0)) = 0 := he _ (List.mem_cons_of_mem _ (List.mem_cons_of_mem _ (List.mem_cons_of_mem _ (List.mem_cons_of_mem _ List.mem_cons_self))))
  have e5 : ((-2722258935367507707854570812043822104583) : Int) + (1 * a4 + ((-16) * (zk_xe w 2000081 a3) + 0)) = 0 := he _ (List.mem_cons_of_mem _ (List.mem_cons_of_mem _ (List.mem_cons_of_mem _ (List.mem_cons_of_mem _ (List.mem_cons_of_mem _ List.mem_cons_self)))))
  have e6 : (0 : Int) + ((-1) * a6 + (1 * a7 + ((-8) * a8 + 0))) = 0 := he _ (List.mem_cons_of_mem _ (List.mem_cons_of_mem _ (List.mem_cons_of_mem _ (List.mem_cons_of_mem _ (List.mem_cons_of_mem _ (List.mem_cons_of_mem _ List.mem_cons_self))))))
  have g0 : 0 ≤ (0 : Int) + (1 * a1 + 0) := hg _ List.mem_cons_self
  have g1 : 0 ≤ (4294967293 : Int) + ((-1) * a1 + 0) := hg _ (List.mem_cons_of_mem _ List.mem_cons_self)
  have g2 : 0 ≤ (0 : Int) + (1 * a6 + 0) := hg _ (List.mem_cons_of_mem _ (List.mem_cons_of_mem _ List.mem_cons_self))
  have g3 : 0 ≤ (7 : Int) + ((-1) * a6 + 0) := hg _ (List.mem_cons_of_mem _ (List.mem_cons_of_mem _ (List.mem_cons_of_mem _ List.mem_cons_self)))
  have g4 : 0 ≤ ((-8) : Int) + (1 * a7 + 0) := hg _ (List.mem_cons_of_mem _ (List.mem_cons_of_mem _ (List.mem_cons_of_mem _ (List.mem_cons_of_mem _ List.mem_cons_self))))
  have g5 : 0 ≤ (15 : Int) + ((-1) * a7 + 0) := hg _ (List.mem_cons_of_mem _ (List.mem_cons_of_mem _ (List.mem_cons_of_mem _ (List.mem_cons_of_mem _ (List.mem_cons_of_mem _ List.mem_cons_self)))))
  have r0 : 0 ≤ a0 := hr _ List.mem_cons_self
  have r1 : 0 ≤ a1 := hr _ (List.mem_cons_of_mem _ List.mem_cons_self)
  have r2 : 0 ≤ a2 := hr _ (List.mem_cons_of_mem _ (List.mem_cons_of_mem _ List.mem_cons_self))
  have r3 : 0 ≤ a3 := hr _ (List.mem_cons_of_mem _ (List.mem_cons_of_mem _ (List.mem_cons_of_mem _ List.mem_cons_self)))
  have r4 : 0 ≤ a4 := hr _ (List.mem_cons_of_mem _ (List.mem_cons_of_mem _ (List.mem_cons_of_mem _ (List.mem_cons_of_mem _ List.mem_cons_self))))
  have hp := (zn_89 (w := w) (j := a0) (n := a1) (by omega) (by omega) (by omega)).mp (by omega)
  have xa := zn_83 (w := w) (i := a1) (j := a1) rfl
  obtain ⟨a, ha⟩ : ∃ a, zk_xe w 2000083 a1 = a := ⟨_, rfl⟩
  obtain ⟨x, hx⟩ : ∃ x, zk_xe w 2000081 a2 = x := ⟨_, rfl⟩
  obtain ⟨y, hy⟩ : ∃ y, zk_xe w 2000081 a3 = y := ⟨_, rfl⟩
  obtain ⟨z, hz⟩ : ∃ z, zk_xe w 2000081 a4 = z := ⟨_, rfl⟩
  rw [ha] at e3 xa
  rw [hx] at e4
  rw [hy] at e5
  obtain ⟨r, hr⟩ : ∃ r : Nat, a6 = (r : Int) := ⟨a6.toNat, by omega⟩
  obtain ⟨pb, m, m1, m2, hk⟩ := hp
  have hb := zp_kb hk
  rw [← xa] at pb
  have hb : 0 ≤ a := by omega
  have h63 : a < 9223372036854775808 := by omega
  have o1 : x = zn_op 6 a (8 * (r : Int)) := hx.symm.trans (zn_oc_at (x := a) (y := 8 * (r : Int)) (by decide) (by omega) h63 (by omega) (by omega))
  have w1 : x = a / 256 ^ r := o1.trans (zy_shr hb h63 (by omega))
  have x0 : 0 ≤ x := by
    rw [w1]
    exact Int.ediv_nonneg hb (Int.le_of_lt (Int.pow_pos (by decide)))
  have x1 : x < 9223372036854775808 := by
    rw [w1]
    exact Int.lt_of_le_of_lt (Int.ediv_le_self _ hb) h63
  have w2 : y = x % 128 := hy.symm.trans ((zn_oc_at (x := x) (y := 127) (by decide) (by omega) x1 (by omega) (by omega)).trans (zy_and x0 x1))
  have w3 : z = y := hz.symm.trans ((zn_oc_at (x := y) (y := 0) (by decide) (by omega) (by omega) (by omega) (by omega)).trans (zn_op7 (by omega) (by omega)))
  have o2 : y = zn_op 4 x 127 := hy.symm.trans (zn_oc_at (x := x) (y := 127) (by decide) (by omega) x1 (by omega) (by omega))
  have o3 : z = zn_op 7 y 0 := hz.symm.trans (zn_oc_at (x := y) (y := 0) (by decide) (by omega) (by omega) (by omega) (by omega))
  have hg : zk_xe w 2000099 (a1 + 4294967296 * a7) = zk_xe w 2000081 a4 := by
    rw [hz, zyq99 (n := a1) (k := a7) rfl (by omega) (by omega) (by omega) (by omega), if_neg (show ¬ a7 < 8 by omega), ← xa, show a7 % 8 = (r : Int) by omega, ← o1, ← o2, ← o3]
  have q : x = 0 := by
    rw [w1, show a = 0 by omega, Int.zero_ediv]
  exact ⟨_, List.mem_cons_self, [], rfl, zx_bnil, (zx_cs1 (by show 0 ≤ (0 : Int) + (1 * (zk_xe w 2000081 a4) + 0); rw [hz]; omega) (zx_cs1 (by show 0 ≤ (0 : Int) + ((-1) * (zk_xe w 2000081 a4) + 0); rw [hz]; omega) zx_cs0)), (zx_eF1 (by show 0 ≤ (0 : Int) + (1 * a1 + (4294967296 * a7 + 0)); omega) (by show zk_xe w 2000099 ((0 : Int) + (1 * a1 + (4294967296 * a7 + 0))) = (0 : Int) + (1 * (zk_xe w 2000081 a4) + 0); rw [show (0 : Int) + (1 * a1 + (4294967296 * a7 + 0)) = a1 + 4294967296 * a7 by omega]; exact hg.trans (by rw [hz]; omega)) zx_eF0), zx_k0⟩
def zx_D863 : zx_L := zx_Lc [] 9 [(2000089, 0), (2000082, 1), (2000081, 2), (2000081, 3), (2000081, 4)] [] [((0, 4294967297), [(0, 1, 0), (1, 0, 1)]), ((0, 1), [(9, 1, 0)]), ((0, 0), [(5, 1, 0), (6, 0, 8)]), ((0, 2722258935367507707854570812043822104582), [(2, 1, 0), (5, 0, 295147905179352825856), (10, 0, 16)]), ((0, 2722258935367507745338354769821630988292), [(3, 1, 0), (11, 0, 16)]), ((0, 2722258935367507707854570812043822104583), [(4, 1, 0), (12, 0, 16)]), ((0, 0), [(6, 0, 1), (7, 1, 0), (8, 0, 8)]), ((0, 0), [(7, 1, 0)])] [((0, 0), [(1, 1, 0)]), ((4294967293, 0), [(1, 0, 1)]), ((0, 0), [(6, 1, 0)]), ((7, 0), [(6, 0, 1)]), ((0, 0), [(7, 1, 0)]), ((7, 0), [(7, 0, 1)])] [([], [((0, 48), [(13, 1, 0)]), ((57, 0), [(13, 0, 1)])], [(2000099, ((0, 0), [(1, 1, 0), (7, 4294967296, 0)]), ((0, 0), [(13, 1, 0)]))], []), ([], [((0, 97), [(13, 1, 0)]), ((122, 0), [(13, 0, 1)])], [(2000099, ((0, 0), [(1, 1, 0), (7, 4294967296, 0)]), ((0, 0), [(13, 1, 0)]))], [])]
theorem zx_D863_ok {PT : Nat → zz_W → Prop} : zx_Lok 64 zHT PT zx_D863 := by
  refine zx_Lc_ok (fun w hI hK ins hl hr he hg => ?_)
  obtain ⟨a0, a1, a2, a3, a4, a5, a6, a7, a8, rfl⟩ := zx_i9 hl
  have e0 : ((-4294967297) : Int) + (1 * a0 + ((-1) * a1 + 0)) = 0 := he _ List.mem_cons_self
  have e1 : ((-1) : Int) + (1 * (zk_xe w 2000089 a0) + 0) = 0 := he _ (List.mem_cons_of_mem _ List.mem_cons_self)
  have e2 : (0 : Int) + (1 * a5 + ((-8) * a6 + 0)) = 0 := he _ (List.mem_cons_of_mem _ (List.mem_cons_of_mem _ List.mem_cons_self))
  have e3 : ((-2722258935367507707854570812043822104582) : Int) + (1 * a2 + ((-295147905179352825856) * a5 + ((-16) * (zk_xe w 2000082 a1) + 0))) = 0 := he _ (List.mem_cons_of_mem _ (List.mem_cons_of_mem _ (List.mem_cons_of_mem _ List.mem_cons_self)))
  have e4 : ((-2722258935367507745338354769821630988292) : Int) + (1 * a3 + ((-16) * (zk_xe w 2000081 a2) + 0)) = 0 := he _ (List.mem_cons_of_mem _ (List.mem_cons_of_mem _ (List.mem_cons_of_mem _ (List.mem_cons_of_mem _ List.mem_cons_self))))
  have e5 : ((-2722258935367507707854570812043822104583) : Int) + (1 * a4 + ((-16) * (zk_xe w 2000081 a3) + 0)) = 0 := he _ (List.mem_cons_of_mem _ (List.mem_cons_of_mem _ (List.mem_cons_of_mem _ (List.mem_cons_of_mem _ (List.mem_cons_of_mem _ List.mem_cons_self)))))
  have e6 : (0 : Int) + ((-1) * a6 + (1 * a7 + ((-8) * a8 + 0))) = 0 := he _ (List.mem_cons_of_mem _ (List.mem_cons_of_mem _ (List.mem_cons_of_mem _ (List.mem_cons_of_mem _ (List.mem_cons_of_mem _ (List.mem_cons_of_mem _ List.mem_cons_self))))))
  have e7 : (0 : Int) + (1 * a7 + 0) = 0 := he _ (List.mem_cons_of_mem _ (List.mem_cons_of_mem _ (List.mem_cons_of_mem _ (List.mem_cons_of_mem _ (List.mem_cons_of_mem _ (List.mem_cons_of_mem _ (List.mem_cons_of_mem _ List.mem_cons_self)))))))
  have g0 : 0 ≤ (0 : Int) + (1 * a1 + 0) := hg _ List.mem_cons_self
  have g1 : 0 ≤ (4294967293 : Int) + ((-1) * a1 + 0) := hg _ (List.mem_cons_of_mem _ List.mem_cons_self)
  have g2 : 0 ≤ (0 : Int) + (1 * a6 + 0) := hg _ (List.mem_cons_of_mem _ (List.mem_cons_of_mem _ List.mem_cons_self))
  have g3 : 0 ≤ (7 : Int) + ((-1) * a6 + 0) := hg _ (List.mem_cons_of_mem _ (List.mem_cons_of_mem _ (List.mem_cons_of_mem _ List.mem_cons_self)))
  have g4 : 0 ≤ (0 : Int) + (1 * a7 + 0) := hg _ (List.mem_cons_of_mem _ (List.mem_cons_of_mem _ (List.mem_cons_of_mem _ (List.mem_cons_of_mem _ List.mem_cons_self))))
  have g5 : 0 ≤ (7 : Int) + ((-1) * a7 + 0) := hg _ (List.mem_cons_of_mem _ (List.mem_cons_of_mem _ (List.mem_cons_of_mem _ (List.mem_cons_of_mem _ (List.mem_cons_of_mem _ List.mem_cons_self)))))
  have r0 : 0 ≤ a0 := hr _ List.mem_cons_self
  have r1 : 0 ≤ a1 := hr _ (List.mem_cons_of_mem _ List.mem_cons_self)
  have r2 : 0 ≤ a2 := hr _ (List.mem_cons_of_mem _ (List.mem_cons_of_mem _ List.mem_cons_self))
  have r3 : 0 ≤ a3 := hr _ (List.mem_cons_of_mem _ (List.mem_cons_of_mem _ (List.mem_cons_of_mem _ List.mem_cons_self)))
  have r4 : 0 ≤ a4 := hr _ (List.mem_cons_of_mem _ (List.mem_cons_of_mem _ (List.mem_cons_of_mem _ (List.mem_cons_of_mem _ List.mem_cons_self))))
  have hp := (zn_89 (w := w) (j := a0) (n := a1) (by omega) (by omega) (by omega)).mp (by omega)
  have xa := zn_82 (w := w) (i := a1) (j := a1) rfl
  obtain ⟨a, ha⟩ : ∃ a, zk_xe w 2000082 a1 = a := ⟨_, rfl⟩
  obtain ⟨x, hx⟩ : ∃ x, zk_xe w 2000081 a2 = x := ⟨_, rfl⟩
  obtain ⟨y, hy⟩ : ∃ y, zk_xe w 2000081 a3 = y := ⟨_, rfl⟩
  obtain ⟨z, hz⟩ : ∃ z, zk_xe w 2000081 a4 = z := ⟨_, rfl⟩
  rw [ha] at e3 xa
  rw [hx] at e4
  rw [hy] at e5
  obtain ⟨r, hr⟩ : ∃ r : Nat, a6 = (r : Int) := ⟨a6.toNat, by omega⟩
  obtain ⟨pb, m, m1, m2, hk⟩ := hp
  have hb := zp_kb hk
  rw [← xa] at hk hb
  have hl : (256 : Int) ^ m ≤ 256 ^ 8 := by
    have q := Nat.pow_le_pow_right (n := 256) (by decide) m2
    have e1 : ((256 ^ m : Nat) : Int) = (256 : Int) ^ m := Int.natCast_pow 256 m
    have e2 : ((256 ^ 8 : Nat) : Int) = (256 : Int) ^ 8 := Int.natCast_pow 256 8
    rw [← e1, ← e2]
    exact Int.ofNat_le.mpr q
  have ht := (zy_by hk 7).1
  have hu := (zy_by hk 7).2
  have h63 : a < 9223372036854775808 := by
    have q : a / 256 ^ 7 < 128 := by
      by_cases c : 7 < m
      · have := ht c
        unfold zp_ch at this
        have q8 : a / 256 ^ 7 < 256 := by
          have : (256 : Int) ^ 8 = 256 ^ 7 * 256 := Int.pow_succ 256 7
          exact Int.ediv_lt_of_lt_mul (by decide) (by omega)
        have q0 : 0 ≤ a / 256 ^ 7 := Int.ediv_nonneg hb.1 (by decide)
        omega
      · rw [hu (by omega)]
        decide
    have e7 : (256 : Int) ^ 7 = 72057594037927936 := by decide
    rw [e7] at q
    omega
  have o1 : x = zn_op 6 a (8 * (r : Int)) := hx.symm.trans (zn_oc_at (x := a) (y := 8 * (r : Int)) (by decide) (by omega) h63 (by omega) (by omega))
  have w1 : x = a / 256 ^ r := o1.trans (zy_shr hb.1 h63 (by omega))
  have x0 : 0 ≤ x := by
    rw [w1]
    exact Int.ediv_nonneg hb.1 (Int.le_of_lt (Int.pow_pos (by decide)))
  have x1 : x < 9223372036854775808 := by
    rw [w1]
    exact Int.lt_of_le_of_lt (Int.ediv_le_self _ hb.1) h63
  have w2 : y = x % 128 := hy.symm.trans ((zn_oc_at (x := x) (y := 127) (by decide) (by omega) x1 (by omega) (by omega)).trans (zy_and x0 x1))
  have w3 : z = y := hz.symm.trans ((zn_oc_at (x := y) (y := 0) (by decide) (by omega) (by omega) (by omega) (by omega)).trans (zn_op7 (by omega) (by omega)))
  have o2 : y = zn_op 4 x 127 := hy.symm.trans (zn_oc_at (x := x) (y := 127) (by decide) (by omega) x1 (by omega) (by omega))
  have o3 : z = zn_op 7 y 0 := hz.symm.trans (zn_oc_at (x := y) (y := 0) (by decide) (by omega) (by omega) (by omega) (by omega))
  have hg : zk_xe w 2000099 (a1 + 4294967296 * a7) = zk_xe w 2000081 a4 := by
    rw [hz, zyq99 (n := a1) (k := a7) rfl (by omega) (by omega) (by omega) (by omega), if_pos (show a7 < 8 by omega), ← xa, show a7 % 8 = (r : Int) by omega, ← o1, ← o2, ← o3]
  have q := (zy_by hk r).1 (by omega)
  rw [← w1] at q
  unfold zp_ch at q
  by_cases c2 : z ≤ 57
  · skip
    exact ⟨_, List.mem_cons_self, [], rfl, zx_bnil, (zx_cs1 (by show 0 ≤ ((-48) : Int) + (1 * (zk_xe w 2000081 a4) + 0); rw [hz]; omega) (zx_cs1 (by show 0 ≤ (57 : Int) + ((-1) * (zk_xe w 2000081 a4) + 0); rw [hz]; omega) zx_cs0)), (zx_eF1 (by show 0 ≤ (0 : Int) + (1 * a1 + (4294967296 * a7 + 0)); omega) (by show zk_xe w 2000099 ((0 : Int) + (1 * a1 + (4294967296 * a7 + 0))) = (0 : Int) + (1 * (zk_xe w 2000081 a4) + 0); rw [show (0 : Int) + (1 * a1 + (4294967296 * a7 + 0)) = a1 + 4294967296 * a7 by omega]; exact hg.trans (by rw [hz]; omega)) zx_eF0), zx_k0⟩
  · skip
    exact ⟨_, (List.mem_cons_of_mem _ List.mem_cons_self), [], rfl, zx_bnil, (zx_cs1 (by show 0 ≤ ((-97) : Int) + (1 * (zk_xe w 2000081 a4) + 0); rw [hz]; omega) (zx_cs1 (by show 0 ≤ (122 : Int) + ((-1) * (zk_xe w 2000081 a4) + 0); rw [hz]; omega) zx_cs0)), (zx_eF1 (by show 0 ≤ (0 : Int) + (1 * a1 + (4294967296 * a7 + 0)); omega) (by show zk_xe w 2000099 ((0 : Int) + (1 * a1 + (4294967296 * a7 + 0))) = (0 : Int) + (1 * (zk_xe w 2000081 a4) + 0); rw [show (0 : Int) + (1 * a1 + (4294967296 * a7 + 0)) = a1 + 4294967296 * a7 by omega]; exact hg.trans (by rw [hz]; omega)) zx_eF0), zx_k0⟩
def zx_D862 : zx_L := zx_Lc [] 1 [] [] [] [((0, 0), [(0, 1, 0)]), ((15, 0), [(0, 0, 1)])] [([(0, 1)], [((0, 0), [(0, 1, 0), (1, 0, 8)]), ((7, 0), [(0, 0, 1), (1, 8, 0)])], [], [])]
theorem zx_D862_ok {PT : Nat → zz_W → Prop} : zx_Lok 64 zHT PT zx_D862 := by
  refine zx_Lc_ok (fun w hI hK ins hl hr he hg => ?_)
  obtain ⟨a0, rfl⟩ := zx_i1 hl
  have g0 : 0 ≤ (0 : Int) + (1 * a0 + 0) := hg _ List.mem_cons_self
  have g1 : 0 ≤ (15 : Int) + ((-1) * a0 + 0) := hg _ (List.mem_cons_of_mem _ List.mem_cons_self)
  exact ⟨_, List.mem_cons_self, [a0 / 8], rfl, (zx_bcons (by show (0 : Int) ≤ a0 / 8 ∧ a0 / 8 ≤ (1 : Int); omega) zx_bnil), (zx_cs1 (by show 0 ≤ (0 : Int) + (1 * a0 + ((-8) * (a0 / 8) + 0)); omega) (zx_cs1 (by show 0 ≤ (7 : Int) + ((-1) * a0 + (8 * (a0 / 8) + 0)); omega) zx_cs0)), zx_eF0, zx_k0⟩
def zx_D870 : zx_L := zx_Lc [] 8 [(2000072, 0), (2000091, 1)] [] [((0, 1), [(0, 1, 0), (2, 0, 18446744073709551616), (5, 0, 1), (6, 0, 4294967296)]), ((0, 0), [(1, 1, 0), (2, 0, 1), (3, 0, 4294967296), (4, 0, 18446744073709551616)]), ((0, 1), [(8, 1, 0)]), ((0, 1), [(9, 1, 0)]), ((0, 4294967297), [(5, 0, 1), (7, 1, 0)])] [((0, 0), [(2, 1, 0)]), ((4294967293, 0), [(2, 0, 1)]), ((0, 0), [(3, 1, 0)]), ((4294967293, 0), [(3, 0, 1)]), ((0, 0), [(4, 1, 0)]), ((4294967293, 0), [(4, 0, 1)]), ((0, 0), [(6, 1, 0)]), ((4294967293, 0), [(6, 0, 1)]), ((1, 0), [(5, 1, 0)]), ((4294967292, 0), [(5, 0, 1)])] [([], [((0, 0), [(5, 1, 0)])], [(2000089, ((0, 0), [(7, 1, 0)]), ((1, 0), []))], [])]
theorem zx_D870_ok {PT : Nat → zz_W → Prop} : zx_Lok 64 zHT PT zx_D870 := by
  refine zx_Lc_ok (fun w hI hK ins hl hr he hg => ?_)
  obtain ⟨a0, a1, a2, a3, a4, a5, a6, a7, rfl⟩ := zx_i8 hl
  have e0 : ((-1) : Int) + (1 * a0 + ((-18446744073709551616) * a2 + ((-1) * a5 + ((-4294967296) * a6 + 0)))) = 0 := he _ List.mem_cons_self
  have e1 : (0 : Int) + (1 * a1 + ((-1) * a2 + ((-4294967296) * a3 + ((-18446744073709551616) * a4 + 0)))) = 0 := he _ (List.mem_cons_of_mem _ List.mem_cons_self)
  have e2 : ((-1) : Int) + (1 * (zk_xe w 2000072 a0) + 0) = 0 := he _ (List.mem_cons_of_mem _ (List.mem_cons_of_mem _ List.mem_cons_self))
  have e3 : ((-1) : Int) + (1 * (zk_xe w 2000091 a1) + 0) = 0 := he _ (List.mem_cons_of_mem _ (List.mem_cons_of_mem _ (List.mem_cons_of_mem _ List.mem_cons_self)))
  have e4 : ((-4294967297) : Int) + ((-1) * a5 + (1 * a7 + 0)) = 0 := he _ (List.mem_cons_of_mem _ (List.mem_cons_of_mem _ (List.mem_cons_of_mem _ (List.mem_cons_of_mem _ List.mem_cons_self))))
  have g0 : 0 ≤ (0 : Int) + (1 * a2 + 0) := hg _ List.mem_cons_self
  have g1 : 0 ≤ (4294967293 : Int) + ((-1) * a2 + 0) := hg _ (List.mem_cons_of_mem _ List.mem_cons_self)
  have g2 : 0 ≤ (0 : Int) + (1 * a3 + 0) := hg _ (List.mem_cons_of_mem _ (List.mem_cons_of_mem _ List.mem_cons_self))
  have g3 : 0 ≤ (4294967293 : Int) + ((-1) * a3 + 0) := hg _ (List.mem_cons_of_mem _ (List.mem_cons_of_mem _ (List.mem_cons_of_mem _ List.mem_cons_self)))
  have g4 : 0 ≤ (0 : Int) + (1 * a4 + 0) := hg _ (List.mem_cons_of_mem _ (List.mem_cons_of_mem _ (List.mem_cons_of_mem _ (List.mem_cons_of_mem _ List.mem_cons_self))))
  have g5 : 0 ≤ (4294967293 : Int) + ((-1) * a4 + 0) := hg _ (List.mem_cons_of_mem _ (List.mem_cons_of_mem _ (List.mem_cons_of_mem _ (List.mem_cons_of_mem _ (List.mem_cons_of_mem _ List.mem_cons_self)))))
  have g6 : 0 ≤ (0 : Int) + (1 * a6 + 0) := hg _ (List.mem_cons_of_mem _ (List.mem_cons_of_mem _ (List.mem_cons_of_mem _ (List.mem_cons_of_mem _ (List.mem_cons_of_mem _ (List.mem_cons_of_mem _ List.mem_cons_self))))))
  have g7 : 0 ≤ (4294967293 : Int) + ((-1) * a6 + 0) := hg _ (List.mem_cons_of_mem _ (List.mem_cons_of_mem _ (List.mem_cons_of_mem _ (List.mem_cons_of_mem _ (List.mem_cons_of_mem _ (List.mem_cons_of_mem _ (List.mem_cons_of_mem _ List.mem_cons_self)))))))
  have g8 : 0 ≤ (1 : Int) + (1 * a5 + 0) := hg _ (List.mem_cons_of_mem _ (List.mem_cons_of_mem _ (List.mem_cons_of_mem _ (List.mem_cons_of_mem _ (List.mem_cons_of_mem _ (List.mem_cons_of_mem _ (List.mem_cons_of_mem _ (List.mem_cons_of_mem _ List.mem_cons_self))))))))
  have g9 : 0 ≤ (4294967292 : Int) + ((-1) * a5 + 0) := hg _ (List.mem_cons_of_mem _ (List.mem_cons_of_mem _ (List.mem_cons_of_mem _ (List.mem_cons_of_mem _ (List.mem_cons_of_mem _ (List.mem_cons_of_mem _ (List.mem_cons_of_mem _ (List.mem_cons_of_mem _ (List.mem_cons_of_mem _ List.mem_cons_self)))))))))
  have r0 : 0 ≤ a0 := hr _ List.mem_cons_self
  have r1 : 0 ≤ a1 := hr _ (List.mem_cons_of_mem _ List.mem_cons_self)
  have hu := (zs_72 (w := w) (j := a0) (a := a5 + 1) (k := a6) (n := a2) (by omega) (by omega) (by omega) (by omega) (by omega) (by omega) (by omega) ).mp (by omega)
  have hp := (zn_91 (w := w) (j := a1) (n := a2) (c := a3) (f := a4) (by omega) (by omega) (by omega) (by omega) (by omega) (by omega) (by omega) ).mp (by omega)
  obtain ⟨i, i0, -, i1, i2, -⟩ := hu
  have h := hp.1 i i0 i1
  rw [i2, show a5 + 1 - 1 = a5 by omega] at h
  have h0 := h.1
  exact ⟨_, List.mem_cons_self, [], rfl, zx_bnil, (zx_cs1 (by show 0 ≤ (0 : Int) + (1 * a5 + 0); omega) zx_cs0), (zx_eF1 (by show 0 ≤ (0 : Int) + (1 * a7 + 0); omega) (by show zk_xe w 2000089 ((0 : Int) + (1 * a7 + 0)) = (1 : Int) + (0); rw [show (0 : Int) + (1 * a7 + 0) = a7 by omega]; exact ((zn_89 (w := w) (j := a7) (n := a5) (by omega) (by omega) (by omega)).mpr h.2).trans (by omega)) zx_eF0), zx_k0⟩
def zx_D900 : zx_L := zx_Lc [] 1 [] [] [((0, 10281), [(0, 1, 0)])] [] [([], [], [(2000097, ((0, 0), [(0, 1, 0)]), ((1, 0), []))], [])]
theorem zx_D900_ok {PT : Nat → zz_W → Prop} : zx_Lok 64 zHT PT zx_D900 := by
  refine zx_Lc_ok (fun w hI hK ins hl hr he hg => ?_)
  obtain ⟨a0, rfl⟩ := zx_i1 hl
  have e0 : ((-10281) : Int) + (1 * a0 + 0) = 0 := he _ List.mem_cons_self
  have h : zy_wb 9 0 10281 = true := by decide +kernel
  exact ⟨_, List.mem_cons_self, [], rfl, zx_bnil, zx_cs0, (zx_eF1 (by show 0 ≤ (0 : Int) + (1 * a0 + 0); omega) (by show zk_xe w 2000097 ((0 : Int) + (1 * a0 + 0)) = (1 : Int) + (0); rw [show (0 : Int) + (1 * a0 + 0) = a0 by omega]; exact ((zyq97 (w := w) (j := a0) (v := 10281) (s := 0) (by omega) (by omega) (by omega) ).mpr h).trans (by omega)) zx_eF0), zx_k0⟩
def zx_D901 : zx_L := zx_Lc [] 1 [] [] [((0, 12385), [(0, 1, 0)])] [] [([], [], [(2000097, ((0, 0), [(0, 1, 0)]), ((1, 0), []))], [])]
theorem zx_D901_ok {PT : Nat → zz_W → Prop} : zx_Lok 64 zHT PT zx_D901 := by
  refine zx_Lc_ok (fun w hI hK ins hl hr he hg => ?_)
  obtain ⟨a0, rfl⟩ := zx_i1 hl
  have e0 : ((-12385) : Int) + (1 * a0 + 0) = 0 := he _ List.mem_cons_self
  have h : zy_wb 9 0 12385 = true := by decide +kernel
  exact ⟨_, List.mem_cons_self, [], rfl, zx_bnil, zx_cs0, (zx_eF1 (by show 0 ≤ (0 : Int) + (1 * a0 + 0); omega) (by show zk_xe w 2000097 ((0 : Int) + (1 * a0 + 0)) = (1 : Int) + (0); rw [show (0 : Int) + (1 * a0 + 0) = a0 by omega]; exact ((zyq97 (w := w) (j := a0) (v := 12385) (s := 0) (by omega) (by omega) (by omega) ).mpr h).trans (by omega)) zx_eF0), zx_k0⟩
def zx_D902 : zx_L := zx_Lc [] 1 [] [] [((0, 12406), [(0, 1, 0)])] [] [([], [], [(2000097, ((0, 0), [(0, 1, 0)]), ((1, 0), []))], [])]
theorem zx_D902_ok {PT : Nat → zz_W → Prop} : zx_Lok 64 zHT PT zx_D902 := by
  refine zx_Lc_ok (fun w hI hK ins hl hr he hg => ?_)
  obtain ⟨a0, rfl⟩ := zx_i1 hl
  have e0 : ((-12406) : Int) + (1 * a0 + 0) = 0 := he _ List.mem_cons_self
  have h : zy_wb 9 0 12406 = true := by decide +kernel
  exact ⟨_, List.mem_cons_self, [], rfl, zx_bnil, zx_cs0, (zx_eF1 (by show 0 ≤ (0 : Int) + (1 * a0 + 0); omega) (by show zk_xe w 2000097 ((0 : Int) + (1 * a0 + 0)) = (1 : Int) + (0); rw [show (0 : Int) + (1 * a0 + 0) = a0 by omega]; exact ((zyq97 (w := w) (j := a0) (v := 12406) (s := 0) (by omega) (by omega) (by omega) ).mpr h).trans (by omega)) zx_eF0), zx_k0⟩
def zx_D903 : zx_L := zx_Lc [] 1 [] [] [((0, 12588), [(0, 1, 0)])] [] [([], [], [(2000097, ((0, 0), [(0, 1, 0)]), ((1, 0), []))], [])]
theorem zx_D903_ok {PT : Nat → zz_W → Prop} : zx_Lok 64 zHT PT zx_D903 := by
  refine zx_Lc_ok (fun w hI hK ins hl hr he hg => ?_)
  obtain ⟨a0, rfl⟩ := zx_i1 hl
  have e0 : ((-12588) : Int) + (1 * a0 + 0) = 0 := he _ List.mem_cons_self
  have h : zy_wb 9 0 12588 = true := by decide +kernel
  exact ⟨_, List.mem_cons_self, [], rfl, zx_bnil, zx_cs0, (zx_eF1 (by show 0 ≤ (0 : Int) + (1 * a0 + 0); omega) (by show zk_xe w 2000097 ((0 : Int) + (1 * a0 + 0)) = (1 : Int) + (0); rw [show (0 : Int) + (1 * a0 + 0) = a0 by omega]; exact ((zyq97 (w := w) (j := a0) (v := 12588) (s := 0) (by omega) (by omega) (by omega) ).mpr h).trans (by omega)) zx_eF0), zx_k0⟩
def zx_D904 : zx_L := zx_Lc [] 1 [] [] [((0, 12662), [(0, 1, 0)])] [] [([], [], [(2000097, ((0, 0), [(0, 1, 0)]), ((1, 0), []))], [])]
theorem zx_D904_ok {PT : Nat → zz_W → Prop} : zx_Lok 64 zHT PT zx_D904 := by
  refine zx_Lc_ok (fun w hI hK ins hl hr he hg => ?_)
  obtain ⟨a0, rfl⟩ := zx_i1 hl
  have e0 : ((-12662) : Int) + (1 * a0 + 0) = 0 := he _ List.mem_cons_self
  have h : zy_wb 9 0 12662 = true := by decide +kernel
  exact ⟨_, List.mem_cons_self, [], rfl, zx_bnil, zx_cs0, (zx_eF1 (by show 0 ≤ (0 : Int) + (1 * a0 + 0); omega) (by show zk_xe w 2000097 ((0 : Int) + (1 * a0 + 0)) = (1 : Int) + (0); rw [show (0 : Int) + (1 * a0 + 0) = a0 by omega]; exact ((zyq97 (w := w) (j := a0) (v := 12662) (s := 0) (by omega) (by omega) (by omega) ).mpr h).trans (by omega)) zx_eF0), zx_k0⟩
def zx_D905 : zx_L := zx_Lc [] 1 [] [] [((0, 12844), [(0, 1, 0)])] [] [([], [], [(2000097, ((0, 0), [(0, 1, 0)]), ((1, 0), []))], [])]
theorem zx_D905_ok {PT : Nat → zz_W → Prop} : zx_Lok 64 zHT PT zx_D905 := by
  refine zx_Lc_ok (fun w hI hK ins hl hr he hg => ?_)
  obtain ⟨a0, rfl⟩ := zx_i1 hl
  have e0 : ((-12844) : Int) + (1 * a0 + 0) = 0 := he _ List.mem_cons_self
  have h : zy_wb 9 0 12844 = true := by decide +kernel
  exact ⟨_, List.mem_cons_self, [], rfl, zx_bnil, zx_cs0, (zx_eF1 (by show 0 ≤ (0 : Int) + (1 * a0 + 0); omega) (by show zk_xe w 2000097 ((0 : Int) + (1 * a0 + 0)) = (1 : Int) + (0); rw [show (0 : Int) + (1 * a0 + 0) = a0 by omega]; exact ((zyq97 (w := w) (j := a0) (v := 12844) (s := 0) (by omega) (by omega) (by omega) ).mpr h).trans (by omega)) zx_eF0), zx_k0⟩
def zx_D906 : zx_L := zx_Lc [] 1 [] [] [((0, 13356), [(0, 1, 0)])] [] [([], [], [(2000097, ((0, 0), [(0, 1, 0)]), ((1, 0), []))], [])]
theorem zx_D906_ok {PT : Nat → zz_W → Prop} : zx_Lok 64 zHT PT zx_D906 := by
  refine zx_Lc_ok (fun w hI hK ins hl hr he hg => ?_)
  obtain ⟨a0, rfl⟩ := zx_i1 hl
  have e0 : ((-13356) : Int) + (1 * a0 + 0) = 0 := he _ List.mem_cons_self
  have h : zy_wb 9 0 13356 = true := by decide +kernel
  exact ⟨_, List.mem_cons_self, [], rfl, zx_bnil, zx_cs0, (zx_eF1 (by show 0 ≤ (0 : Int) + (1 * a0 + 0); omega) (by show zk_xe w 2000097 ((0 : Int) + (1 * a0 + 0)) = (1 : Int) + (0); rw [show (0 : Int) + (1 * a0 + 0) = a0 by omega]; exact ((zyq97 (w := w) (j := a0) (v := 13356) (s := 0) (by omega) (by omega) (by omega) ).mpr h).trans (by omega)) zx_eF0), zx_k0⟩
def zx_D907 : zx_L := zx_Lc [] 1 [] [] [((0, 13357), [(0, 1, 0)])] [] [([], [], [(2000097, ((0, 0), [(0, 1, 0)]), ((1, 0), []))], [])]
theorem zx_D907_ok {PT : Nat → zz_W → Prop} : zx_Lok 64 zHT PT zx_D907 := by
  refine zx_Lc_ok (fun w hI hK ins hl hr he hg => ?_)
  obtain ⟨a0, rfl⟩ := zx_i1 hl
  have e0 : ((-13357) : Int) + (1 * a0 + 0) = 0 := he _ List.mem_cons_self
  have h : zy_wb 9 0 13357 = true := by decide +kernel
  exact ⟨_, List.mem_cons_self, [], rfl, zx_bnil, zx_cs0, (zx_eF1 (by show 0 ≤ (0 : Int) + (1 * a0 + 0); omega) (by show zk_xe w 2000097 ((0 : Int) + (1 * a0 + 0)) = (1 : Int) + (0); rw [show (0 : Int) + (1 * a0 + 0) = a0 by omega]; exact ((zyq97 (w := w) (j := a0) (v := 13357) (s := 0) (by omega) (by omega) (by omega) ).mpr h).trans (by omega)) zx_eF0), zx_k0⟩
def zx_D908 : zx_L := zx_Lc [] 1 [] [] [((0, 13612), [(0, 1, 0)])] [] [([], [], [(2000097, ((0, 0), [(0, 1, 0)]), ((1, 0), []))], [])]
theorem zx_D908_ok {PT : Nat → zz_W → Prop} : zx_Lok 64 zHT PT zx_D908 := by
  refine zx_Lc_ok (fun w hI hK ins hl hr he hg => ?_)
  obtain ⟨a0, rfl⟩ := zx_i1 hl
  have e0 : ((-13612) : Int) + (1 * a0 + 0) = 0 := he _ List.mem_cons_self
  have h : zy_wb 9 0 13612 = true := by decide +kernel
  exact ⟨_, List.mem_cons_self, [], rfl, zx_bnil, zx_cs0, (zx_eF1 (by show 0 ≤ (0 : Int) + (1 * a0 + 0); omega) (by show zk_xe w 2000097 ((0 : Int) + (1 * a0 + 0)) = (1 : Int) + (0); rw [show (0 : Int) + (1 * a0 + 0) = a0 by omega]; exact ((zyq97 (w := w) (j := a0) (v := 13612) (s := 0) (by omega) (by omega) (by omega) ).mpr h).trans (by omega)) zx_eF0), zx_k0⟩
def zx_D909 : zx_L := zx_Lc [] 1 [] [] [((0, 24946), [(0, 1, 0)])] [] [([], [], [(2000097, ((0, 0), [(0, 1, 0)]), ((1, 0), []))], [])]
theorem zx_D909_ok {PT : Nat → zz_W → Prop} : zx_Lok 64 zHT PT zx_D909 := by
  refine zx_Lc_ok (fun w hI hK ins hl hr he hg => ?_)
  obtain ⟨a0, rfl⟩ := zx_i1 hl
  have e0 : ((-24946) : Int) + (1 * a0 + 0) = 0 := he _ List.mem_cons_self
  have h : zy_wb 9 0 24946 = true := by decide +kernel
  exact ⟨_, List.mem_cons_self, [], rfl, zx_bnil, zx_cs0, (zx_eF1 (by show 0 ≤ (0 : Int) + (1 * a0 + 0); omega) (by show zk_xe w 2000097 ((0 : Int) + (1 * a0 + 0)) = (1 : Int) + (0); rw [show (0 : Int) + (1 * a0 + 0) = a0 by omega]; exact ((zyq97 (w := w) (j := a0) (v := 24946) (s := 0) (by omega) (by omega) (by omega) ).mpr h).trans (by omega)) zx_eF0), zx_k0⟩
def zx_D910 : zx_L := zx_Lc [] 1 [] [] [((0, 26988), [(0, 1, 0)])] [] [([], [], [(2000097, ((0, 0), [(0, 1, 0)]), ((1, 0), []))], [])]
theorem zx_D910_ok {PT : Nat → zz_W → Prop} : zx_Lok 64 zHT PT zx_D910 := by
  refine zx_Lc_ok (fun w hI hK ins hl hr he hg => ?_)
  obtain ⟨a0, rfl⟩ := zx_i1 hl
  have e0 : ((-26988) : Int) + (1 * a0 + 0) = 0 := he _ List.mem_cons_self
  have h : zy_wb 9 0 26988 = true := by decide +kernel
  exact ⟨_, List.mem_cons_self, [], rfl, zx_bnil, zx_cs0, (zx_eF1 (by show 0 ≤ (0 : Int) + (1 * a0 + 0); omega) (by show zk_xe w 2000097 ((0 : Int) + (1 * a0 + 0)) = (1 : Int) + (0); rw [show (0 : Int) + (1 * a0 + 0) = a0 by omega]; exact ((zyq97 (w := w) (j := a0) (v := 26988) (s := 0) (by omega) (by omega) (by omega) ).mpr h).trans (by omega)) zx_eF0), zx_k0⟩
def zx_D911 : zx_L := zx_Lc [] 1 [] [] [((0, 28775), [(0, 1, 0)])] [] [([], [], [(2000097, ((0, 0), [(0, 1, 0)]), ((1, 0), []))], [])]
theorem zx_D911_ok {PT : Nat → zz_W → Prop} : zx_Lok 64 zHT PT zx_D911 := by
  refine zx_Lc_ok (fun w hI hK ins hl hr he hg => ?_)
  obtain ⟨a0, rfl⟩ := zx_i1 hl
  have e0 : ((-28775) : Int) + (1 * a0 + 0) = 0 := he _ List.mem_cons_self
  have h : zy_wb 9 0 28775 = true := by decide +kernel
  exact ⟨_, List.mem_cons_self, [], rfl, zx_bnil, zx_cs0, (zx_eF1 (by show 0 ≤ (0 : Int) + (1 * a0 + 0); omega) (by show zk_xe w 2000097 ((0 : Int) + (1 * a0 + 0)) = (1 : Int) + (0); rw [show (0 : Int) + (1 * a0 + 0) = a0 by omega]; exact ((zyq97 (w := w) (j := a0) (v := 28775) (s := 0) (by omega) (by omega) (by omega) ).mpr h).trans (by omega)) zx_eF0), zx_k0⟩
def zx_D912 : zx_L := zx_Lc [] 1 [] [] [((0, 28787), [(0, 1, 0)])] [] [([], [], [(2000097, ((0, 0), [(0, 1, 0)]), ((1, 0), []))], [])]
theorem zx_D912_ok {PT : Nat → zz_W → Prop} : zx_Lok 64 zHT PT zx_D912 := by
  refine zx_Lc_ok (fun w hI hK ins hl hr he hg => ?_)
  obtain ⟨a0, rfl⟩ := zx_i1 hl
  have e0 : ((-28787) : Int) + (1 * a0 + 0) = 0 := he _ List.mem_cons_self
  have h : zy_wb 9 0 28787 = true := by decide +kernel
  exact ⟨_, List.mem_cons_self, [], rfl, zx_bnil, zx_cs0, (zx_eF1 (by show 0 ≤ (0 : Int) + (1 * a0 + 0); omega) (by show zk_xe w 2000097 ((0 : Int) + (1 * a0 + 0)) = (1 : Int) + (0); rw [show (0 : Int) + (1 * a0 + 0) = a0 by omega]; exact ((zyq97 (w := w) (j := a0) (v := 28787) (s := 0) (by omega) (by omega) (by omega) ).mpr h).trans (by omega)) zx_eF0), zx_k0⟩
def zx_D913 : zx_L := zx_Lc [] 1 [] [] [((0, 29290), [(0, 1, 0)])] [] [([], [], [(2000097, ((0, 0), [(0, 1, 0)]), ((1, 0), []))], [])]
theorem zx_D913_ok {PT : Nat → zz_W → Prop} : zx_Lok 64 zHT PT zx_D913 := by
  refine zx_Lc_ok (fun w hI hK ins hl hr he hg => ?_)
  obtain ⟨a0, rfl⟩ := zx_i1 hl
  have e0 : ((-29290) : Int) + (1 * a0 + 0) = 0 := he _ List.mem_cons_self
  have h : zy_wb 9 0 29290 = true := by decide +kernel
  exact ⟨_, List.mem_cons_self, [], rfl, zx_bnil, zx_cs0, (zx_eF1 (by show 0 ≤ (0 : Int) + (1 * a0 + 0); omega) (by show zk_xe w 2000097 ((0 : Int) + (1 * a0 + 0)) = (1 : Int) + (0); rw [show (0 : Int) + (1 * a0 + 0) = a0 by omega]; exact ((zyq97 (w := w) (j := a0) (v := 29290) (s := 0) (by omega) (by omega) (by omega) ).mpr h).trans (by omega)) zx_eF0), zx_k0⟩
def zx_D914 : zx_L := zx_Lc [] 1 [] [] [((0, 29295), [(0, 1, 0)])] [] [([], [], [(2000097, ((0, 0), [(0, 1, 0)]), ((1, 0), []))], [])]
theorem zx_D914_ok {PT : Nat → zz_W → Prop} : zx_Lok 64 zHT PT zx_D914 := by
  refine zx_Lc_ok (fun w hI hK ins hl hr he hg => ?_)
  obtain ⟨a0, rfl⟩ := zx_i1 hl
  have e0 : ((-29295) : Int) + (1 * a0 + 0) = 0 := he _ List.mem_cons_self
  have h : zy_wb 9 0 29295 = true := by decide +kernel
  exact ⟨_, List.mem_cons_self, [], rfl, zx_bnil, zx_cs0, (zx_eF1 (by show 0 ≤ (0 : Int) + (1 * a0 + 0); omega) (by show zk_xe w 2000097 ((0 : Int) + (1 * a0 + 0)) = (1 : Int) + (0); rw [show (0 : Int) + (1 * a0 + 0) = a0 by omega]; exact ((zyq97 (w := w) (j := a0) (v := 29295) (s := 0) (by omega) (by omega) (by omega) ).mpr h).trans (by omega)) zx_eF0), zx_k0⟩
def zx_D915 : zx_L := zx_Lc [] 1 [] [] [((0, 29793), [(0, 1, 0)])] [] [([], [], [(2000097, ((0, 0), [(0, 1, 0)]), ((1, 0), []))], [])]
theorem zx_D915_ok {PT : Nat → zz_W → Prop} : zx_Lok 64 zHT PT zx_D915 := by
  refine zx_Lc_ok (fun w hI hK ins hl hr he hg => ?_)
  obtain ⟨a0, rfl⟩ := zx_i1 hl
  have e0 : ((-29793) : Int) + (1 * a0 + 0) = 0 := he _ List.mem_cons_self
  have h : zy_wb 9 0 29793 = true := by decide +kernel
  exact ⟨_, List.mem_cons_self, [], rfl, zx_bnil, zx_cs0, (zx_eF1 (by show 0 ≤ (0 : Int) + (1 * a0 + 0); omega) (by show zk_xe w 2000097 ((0 : Int) + (1 * a0 + 0)) = (1 : Int) + (0); rw [show (0 : Int) + (1 * a0 + 0) = a0 by omega]; exact ((zyq97 (w := w) (j := a0) (v := 29793) (s := 0) (by omega) (by omega) (by omega) ).mpr h).trans (by omega)) zx_eF0), zx_k0⟩
def zx_D916 : zx_L := zx_Lc [] 1 [] [] [((0, 30572), [(0, 1, 0)])] [] [([], [], [(2000097, ((0, 0), [(0, 1, 0)]), ((1, 0), []))], [])]
theorem zx_D916_ok {PT : Nat → zz_W → Prop} : zx_Lok 64 zHT PT zx_D916 := by
  refine zx_Lc_ok (fun w hI hK ins hl hr he hg => ?_)
  obtain ⟨a0, rfl⟩ := zx_i1 hl
  have e0 : ((-30572) : Int) + (1 * a0 + 0) = 0 := he _ List.mem_cons_self
  have h : zy_wb 9 0 30572 = true := by decide +kernel
  exact ⟨_, List.mem_cons_self, [], rfl, zx_bnil, zx_cs0, (zx_eF1 (by show 0 ≤ (0 : Int) + (1 * a0 + 0); omega) (by show zk_xe w 2000097 ((0 : Int) + (1 * a0 + 0)) = (1 : Int) + (0); rw [show (0 : Int) + (1 * a0 + 0) = a0 by omega]; exact ((zyq97 (w := w) (j := a0) (v := 30572) (s := 0) (by omega) (by omega) (by omega) ).mpr h).trans (by omega)) zx_eF0), zx_k0⟩
def zx_D917 : zx_L := zx_Lc [] 1 [] [] [((0, 30579), [(0, 1, 0)])] [] [([], [], [(2000097, ((0, 0), [(0, 1, 0)]), ((1, 0), []))], [])]
theorem zx_D917_ok {PT : Nat → zz_W → Prop} : zx_Lok 64 zHT PT zx_D917 := by
  refine zx_Lc_ok (fun w hI hK ins hl hr he hg => ?_)
  obtain ⟨a0, rfl⟩ := zx_i1 hl
  have e0 : ((-30579) : Int) + (1 * a0 + 0) = 0 := he _ List.mem_cons_self
  have h : zy_wb 9 0 30579 = true := by decide +kernel
  exact ⟨_, List.mem_cons_self, [], rfl, zx_bnil, zx_cs0, (zx_eF1 (by show 0 ≤ (0 : Int) + (1 * a0 + 0); omega) (by show zk_xe w 2000097 ((0 : Int) + (1 * a0 + 0)) = (1 : Int) + (0); rw [show (0 : Int) + (1 * a0 + 0) = a0 by omega]; exact ((zyq97 (w := w) (j := a0) (v := 30579) (s := 0) (by omega) (by omega) (by omega) ).mpr h).trans (by omega)) zx_eF0), zx_k0⟩
def zx_D918 : zx_L := zx_Lc [] 1 [] [] [((0, 2633772), [(0, 1, 0)])] [] [([], [], [(2000097, ((0, 0), [(0, 1, 0)]), ((1, 0), []))], [])]
theorem zx_D918_ok {PT : Nat → zz_W → Prop} : zx_Lok 64 zHT PT zx_D918 := by
  refine zx_Lc_ok (fun w hI hK ins hl hr he hg => ?_)
  obtain ⟨a0, rfl⟩ := zx_i1 hl
  have e0 : ((-2633772) : Int) + (1 * a0 + 0) = 0 := he _ List.mem_cons_self
  have h : zy_wb 9 0 2633772 = true := by decide +kernel
  exact ⟨_, List.mem_cons_self, [], rfl, zx_bnil, zx_cs0, (zx_eF1 (by show 0 ≤ (0 : Int) + (1 * a0 + 0); omega) (by show zk_xe w 2000097 ((0 : Int) + (1 * a0 + 0)) = (1 : Int) + (0); rw [show (0 : Int) + (1 * a0 + 0) = a0 by omega]; exact ((zyq97 (w := w) (j := a0) (v := 2633772) (s := 0) (by omega) (by omega) (by omega) ).mpr h).trans (by omega)) zx_eF0), zx_k0⟩
def zx_D919 : zx_L := zx_Lc [] 1 [] [] [((0, 6581857), [(0, 1, 0)])] [] [([], [], [(2000097, ((0, 0), [(0, 1, 0)]), ((1, 0), []))], [])]
theorem zx_D919_ok {PT : Nat → zz_W → Prop} : zx_Lok 64 zHT PT zx_D919 := by
  refine zx_Lc_ok (fun w hI hK ins hl hr he hg => ?_)
  obtain ⟨a0, rfl⟩ := zx_i1 hl
  have e0 : ((-6581857) : Int) + (1 * a0 + 0) = 0 := he _ List.mem_cons_self
  have h : zy_wb 9 0 6581857 = true := by decide +kernel
  exact ⟨_, List.mem_cons_self, [], rfl, zx_bnil, zx_cs0, (zx_eF1 (by show 0 ≤ (0 : Int) + (1 * a0 + 0); omega) (by show zk_xe w 2000097 ((0 : Int) + (1 * a0 + 0)) = (1 : Int) + (0); rw [show (0 : Int) + (1 * a0 + 0) = a0 by omega]; exact ((zyq97 (w := w) (j := a0) (v := 6581857) (s := 0) (by omega) (by omega) (by omega) ).mpr h).trans (by omega)) zx_eF0), zx_k0⟩
def zx_D920 : zx_L := zx_Lc [] 1 [] [] [((0, 6647394), [(0, 1, 0)])] [] [([], [], [(2000097, ((0, 0), [(0, 1, 0)]), ((1, 0), []))], [])]
theorem zx_D920_ok {PT : Nat → zz_W → Prop} : zx_Lok 64 zHT PT zx_D920 := by
  refine zx_Lc_ok (fun w hI hK ins hl hr he hg => ?_)
  obtain ⟨a0, rfl⟩ := zx_i1 hl
  have e0 : ((-6647394) : Int) + (1 * a0 + 0) = 0 := he _ List.mem_cons_self
  have h : zy_wb 9 0 6647394 = true := by decide +kernel
  exact ⟨_, List.mem_cons_self, [], rfl, zx_bnil, zx_cs0, (zx_eF1 (by show 0 ≤ (0 : Int) + (1 * a0 + 0); omega) (by show zk_xe w 2000097 ((0 : Int) + (1 * a0 + 0)) = (1 : Int) + (0); rw [show (0 : Int) + (1 * a0 + 0) = a0 by omega]; exact ((zyq97 (w := w) (j := a0) (v := 6647394) (s := 0) (by omega) (by omega) (by omega) ).mpr h).trans (by omega)) zx_eF0), zx_k0⟩
def zx_D921 : zx_L := zx_Lc [] 1 [] [] [((0, 6911340), [(0, 1, 0)])] [] [([], [], [(2000097, ((0, 0), [(0, 1, 0)]), ((1, 0), []))], [])]
theorem zx_D921_ok {PT : Nat → zz_W → Prop} : zx_Lok 64 zHT PT zx_D921 := by
  refine zx_Lc_ok (fun w hI hK ins hl hr he hg => ?_)
  obtain ⟨a0, rfl⟩ := zx_i1 hl
  have e0 : ((-6911340) : Int) + (1 * a0 + 0) = 0 := he _ List.mem_cons_self
  have h : zy_wb 9 0 6911340 = true := by decide +kernel
  exact ⟨_, List.mem_cons_self, [], rfl, zx_bnil, zx_cs0, (zx_eF1 (by show 0 ≤ (0 : Int) + (1 * a0 + 0); omega) (by show zk_xe w 2000097 ((0 : Int) + (1 * a0 + 0)) = (1 : Int) + (0); rw [show (0 : Int) + (1 * a0 + 0) = a0 by omega]; exact ((zyq97 (w := w) (j := a0) (v := 6911340) (s := 0) (by omega) (by omega) (by omega) ).mpr h).trans (by omega)) zx_eF0), zx_k0⟩
def zx_D922 : zx_L := zx_Lc [] 1 [] [] [((0, 7102826), [(0, 1, 0)])] [] [([], [], [(2000097, ((0, 0), [(0, 1, 0)]), ((1, 0), []))], [])]
theorem zx_D922_ok {PT : Nat → zz_W → Prop} : zx_Lok 64 zHT PT zx_D922 := by
  refine zx_Lc_ok (fun w hI hK ins hl hr he hg => ?_)
  obtain ⟨a0, rfl⟩ := zx_i1 hl
  have e0 : ((-7102826) : Int) + (1 * a0 + 0) = 0 := he _ List.mem_cons_self
  have h : zy_wb 9 0 7102826 = true := by decide +kernel
  exact ⟨_, List.mem_cons_self, [], rfl, zx_bnil, zx_cs0, (zx_eF1 (by show 0 ≤ (0 : Int) + (1 * a0 + 0); omega) (by show zk_xe w 2000097 ((0 : Int) + (1 * a0 + 0)) = (1 : Int) + (0); rw [show (0 : Int) + (1 * a0 + 0) = a0 by omega]; exact ((zyq97 (w := w) (j := a0) (v := 7102826) (s := 0) (by omega) (by omega) (by omega) ).mpr h).trans (by omega)) zx_eF0), zx_k0⟩
def zx_D923 : zx_L := zx_Lc [] 1 [] [] [((0, 7105651), [(0, 1, 0)])] [] [([], [], [(2000097, ((0, 0), [(0, 1, 0)]), ((1, 0), []))], [])]
theorem zx_D923_ok {PT : Nat → zz_W → Prop} : zx_Lok 64 zHT PT zx_D923 := by
  refine zx_Lc_ok (fun w hI hK ins hl hr he hg => ?_)
  obtain ⟨a0, rfl⟩ := zx_i1 hl
  have e0 : ((-7105651) : Int) + (1 * a0 + 0) = 0 := he _ List.mem_cons_self
  have h : zy_wb 9 0 7105651 = true := by decide +kernel
  exact ⟨_, List.mem_cons_self, [], rfl, zx_bnil, zx_cs0, (zx_eF1 (by show 0 ≤ (0 : Int) + (1 * a0 + 0); omega) (by show zk_xe w 2000097 ((0 : Int) + (1 * a0 + 0)) = (1 : Int) + (0); rw [show (0 : Int) + (1 * a0 + 0) = a0 by omega]; exact ((zyq97 (w := w) (j := a0) (v := 7105651) (s := 0) (by omega) (by omega) (by omega) ).mpr h).trans (by omega)) zx_eF0), zx_k0⟩
def zx_D924 : zx_L := zx_Lc [] 1 [] [] [((0, 7499630), [(0, 1, 0)])] [] [([], [], [(2000097, ((0, 0), [(0, 1, 0)]), ((1, 0), []))], [])]
theorem zx_D924_ok {PT : Nat → zz_W → Prop} : zx_Lok 64 zHT PT zx_D924 := by
  refine zx_Lc_ok (fun w hI hK ins hl hr he hg => ?_)
  obtain ⟨a0, rfl⟩ := zx_i1 hl
  have e0 : ((-7499630) : Int) + (1 * a0 + 0) = 0 := he _ List.mem_cons_self
  have h : zy_wb 9 0 7499630 = true := by decide +kernel
  exact ⟨_, List.mem_cons_self, [], rfl, zx_bnil, zx_cs0, (zx_eF1 (by show 0 ≤ (0 : Int) + (1 * a0 + 0); omega) (by show zk_xe w 2000097 ((0 : Int) + (1 * a0 + 0)) = (1 : Int) + (0); rw [show (0 : Int) + (1 * a0 + 0) = a0 by omega]; exact ((zyq97 (w := w) (j := a0) (v := 7499630) (s := 0) (by omega) (by omega) (by omega) ).mpr h).trans (by omega)) zx_eF0), zx_k0⟩
def zx_D925 : zx_L := zx_Lc [] 1 [] [] [((0, 7499640), [(0, 1, 0)])] [] [([], [], [(2000097, ((0, 0), [(0, 1, 0)]), ((1, 0), []))], [])]
theorem zx_D925_ok {PT : Nat → zz_W → Prop} : zx_Lok 64 zHT PT zx_D925 := by
  refine zx_Lc_ok (fun w hI hK ins hl hr he hg => ?_)
  obtain ⟨a0, rfl⟩ := zx_i1 hl
  have e0 : ((-7499640) : Int) + (1 * a0 + 0) = 0 := he _ List.mem_cons_self
  have h : zy_wb 9 0 7499640 = true := by decide +kernel
  exact ⟨_, List.mem_cons_self, [], rfl, zx_bnil, zx_cs0, (zx_eF1 (by show 0 ≤ (0 : Int) + (1 * a0 + 0); omega) (by show zk_xe w 2000097 ((0 : Int) + (1 * a0 + 0)) = (1 : Int) + (0); rw [show (0 : Int) + (1 * a0 + 0) = a0 by omega]; exact ((zyq97 (w := w) (j := a0) (v := 7499640) (s := 0) (by omega) (by omega) (by omega) ).mpr h).trans (by omega)) zx_eF0), zx_k0⟩
def zx_D926 : zx_L := zx_Lc [] 1 [] [] [((0, 7629939), [(0, 1, 0)])] [] [([], [], [(2000097, ((0, 0), [(0, 1, 0)]), ((1, 0), []))], [])]
theorem zx_D926_ok {PT : Nat → zz_W → Prop} : zx_Lok 64 zHT PT zx_D926 := by
  refine zx_Lc_ok (fun w hI hK ins hl hr he hg => ?_)
  obtain ⟨a0, rfl⟩ := zx_i1 hl
  have e0 : ((-7629939) : Int) + (1 * a0 + 0) = 0 := he _ List.mem_cons_self
  have h : zy_wb 9 0 7629939 = true := by decide +kernel
  exact ⟨_, List.mem_cons_self, [], rfl, zx_bnil, zx_cs0, (zx_eF1 (by show 0 ≤ (0 : Int) + (1 * a0 + 0); omega) (by show zk_xe w 2000097 ((0 : Int) + (1 * a0 + 0)) = (1 : Int) + (0); rw [show (0 : Int) + (1 * a0 + 0) = a0 by omega]; exact ((zyq97 (w := w) (j := a0) (v := 7629939) (s := 0) (by omega) (by omega) (by omega) ).mpr h).trans (by omega)) zx_eF0), zx_k0⟩
def zx_D927 : zx_L := zx_Lc [] 1 [] [] [((0, 7760228), [(0, 1, 0)])] [] [([], [], [(2000097, ((0, 0), [(0, 1, 0)]), ((1, 0), []))], [])]
theorem zx_D927_ok {PT : Nat → zz_W → Prop} : zx_Lok 64 zHT PT zx_D927 := by
  refine zx_Lc_ok (fun w hI hK ins hl hr he hg => ?_)
  obtain ⟨a0, rfl⟩ := zx_i1 hl
  have e0 : ((-7760228) : Int) + (1 * a0 + 0) = 0 := he _ List.mem_cons_self
  have h : zy_wb 9 0 7760228 = true := by decide +kernel
  exact ⟨_, List.mem_cons_self, [], rfl, zx_bnil, zx_cs0, (zx_eF1 (by show 0 ≤ (0 : Int) + (1 * a0 + 0); omega) (by show zk_xe w 2000097 ((0 : Int) + (1 * a0 + 0)) = (1 : Int) + (0); rw [show (0 : Int) + (1 * a0 + 0) = a0 by omega]; exact ((zyq97 (w := w) (j := a0) (v := 7760228) (s := 0) (by omega) (by omega) (by omega) ).mpr h).trans (by omega)) zx_eF0), zx_k0⟩
def zx_D928 : zx_L := zx_Lc [] 1 [] [] [((0, 812917804), [(0, 1, 0)])] [] [([], [], [(2000097, ((0, 0), [(0, 1, 0)]), ((1, 0), []))], [])]
theorem zx_D928_ok {PT : Nat → zz_W → Prop} : zx_Lok 64 zHT PT zx_D928 := by
  refine zx_Lc_ok (fun w hI hK ins hl hr he hg => ?_)
  obtain ⟨a0, rfl⟩ := zx_i1 hl
  have e0 : ((-812917804) : Int) + (1 * a0 + 0) = 0 := he _ List.mem_cons_self
  have h : zy_wb 9 0 812917804 = true := by decide +kernel
  exact ⟨_, List.mem_cons_self, [], rfl, zx_bnil, zx_cs0, (zx_eF1 (by show 0 ≤ (0 : Int) + (1 * a0 + 0); omega) (by show zk_xe w 2000097 ((0 : Int) + (1 * a0 + 0)) = (1 : Int) + (0); rw [show (0 : Int) + (1 * a0 + 0) = a0 by omega]; exact ((zyq97 (w := w) (j := a0) (v := 812917804) (s := 0) (by omega) (by omega) (by omega) ).mpr h).trans (by omega)) zx_eF0), zx_k0⟩
def zx_D929 : zx_L := zx_Lc [] 1 [] [] [((0, 1702260589), [(0, 1, 0)])] [] [([], [], [(2000097, ((0, 0), [(0, 1, 0)]), ((1, 0), []))], [])]
theorem zx_D929_ok {PT : Nat → zz_W → Prop} : zx_Lok 64 zHT PT zx_D929 := by
  refine zx_Lc_ok (fun w hI hK ins hl hr he hg => ?_)
  obtain ⟨a0, rfl⟩ := zx_i1 hl
  have e0 : ((-1702260589) : Int) + (1 * a0 + 0) = 0 := he _ List.mem_cons_self
  have h : zy_wb 9 0 1702260589 = true := by decide +kernel
  exact ⟨_, List.mem_cons_self, [], rfl, zx_bnil, zx_cs0, (zx_eF1 (by show 0 ≤ (0 : Int) + (1 * a0 + 0); omega) (by show zk_xe w 2000097 ((0 : Int) + (1 * a0 + 0)) = (1 : Int) + (0); rw [show (0 : Int) + (1 * a0 + 0) = a0 by omega]; exact ((zyq97 (w := w) (j := a0) (v := 1702260589) (s := 0) (by omega) (by omega) (by omega) ).mpr h).trans (by omega)) zx_eF0), zx_k0⟩
def zx_D930 : zx_L := zx_Lc [] 1 [] [] [((0, 1768449645), [(0, 1, 0)])] [] [([], [], [(2000097, ((0, 0), [(0, 1, 0)]), ((1, 0), []))], [])]
theorem zx_D930_ok {PT : Nat → zz_W → Prop} : zx_Lok 64 zHT PT zx_D930 := by
  refine zx_Lc_ok (fun w hI hK ins hl hr he hg => ?_)
  obtain ⟨a0, rfl⟩ := zx_i1 hl
  have e0 : ((-1768449645) : Int) + (1 * a0 + 0) = 0 := he _ List.mem_cons_self
  have h : zy_wb 9 0 1768449645 = true := by decide +kernel
  exact ⟨_, List.mem_cons_self, [], rfl, zx_bnil, zx_cs0, (zx_eF1 (by show 0 ≤ (0 : Int) + (1 * a0 + 0); omega) (by show zk_xe w 2000097 ((0 : Int) + (1 * a0 + 0)) = (1 : Int) + (0); rw [show (0 : Int) + (1 * a0 + 0) = a0 by omega]; exact ((zyq97 (w := w) (j := a0) (v := 1768449645) (s := 0) (by omega) (by omega) (by omega) ).mpr h).trans (by omega)) zx_eF0), zx_k0⟩
def zx_D931 : zx_L := zx_Lc [] 1 [] [] [((0, 1769107320), [(0, 1, 0)])] [] [([], [], [(2000097, ((0, 0), [(0, 1, 0)]), ((1, 0), []))], [])]
theorem zx_D931_ok {PT : Nat → zz_W → Prop} : zx_Lok 64 zHT PT zx_D931 := by
  refine zx_Lc_ok (fun w hI hK ins hl hr he hg => ?_)
  obtain ⟨a0, rfl⟩ := zx_i1 hl
  have e0 : ((-1769107320) : Int) + (1 * a0 + 0) = 0 := he _ List.mem_cons_self
  have h : zy_wb 9 0 1769107320 = true := by decide +kernel
  exact ⟨_, List.mem_cons_self, [], rfl, zx_bnil, zx_cs0, (zx_eF1 (by show 0 ≤ (0 : Int) + (1 * a0 + 0); omega) (by show zk_xe w 2000097 ((0 : Int) + (1 * a0 + 0)) = (1 : Int) + (0); rw [show (0 : Int) + (1 * a0 + 0) = a0 by omega]; exact ((zyq97 (w := w) (j := a0) (v := 1769107320) (s := 0) (by omega) (by omega) (by omega) ).mpr h).trans (by omega)) zx_eF0), zx_k0⟩
def zx_D932 : zx_L := zx_Lc [] 1 [] [] [((0, 1869375085), [(0, 1, 0)])] [] [([], [], [(2000097, ((0, 0), [(0, 1, 0)]), ((1, 0), []))], [])]
theorem zx_D932_ok {PT : Nat → zz_W → Prop} : zx_Lok 64 zHT PT zx_D932 := by
  refine zx_Lc_ok (fun w hI hK ins hl hr he hg => ?_)
  obtain ⟨a0, rfl⟩ := zx_i1 hl
  have e0 : ((-1869375085) : Int) + (1 * a0 + 0) = 0 := he _ List.mem_cons_self
  have h : zy_wb 9 0 1869375085 = true := by decide +kernel
  exact ⟨_, List.mem_cons_self, [], rfl, zx_bnil, zx_cs0, (zx_eF1 (by show 0 ≤ (0 : Int) + (1 * a0 + 0); omega) (by show zk_xe w 2000097 ((0 : Int) + (1 * a0 + 0)) = (1 : Int) + (0); rw [show (0 : Int) + (1 * a0 + 0) = a0 by omega]; exact ((zyq97 (w := w) (j := a0) (v := 1869375085) (s := 0) (by omega) (by omega) (by omega) ).mpr h).trans (by omega)) zx_eF0), zx_k0⟩
def zx_D933 : zx_L := zx_Lc [] 1 [] [] [((0, 1869768058), [(0, 1, 0)])] [] [([], [], [(2000097, ((0, 0), [(0, 1, 0)]), ((1, 0), []))], [])]
theorem zx_D933_ok {PT : Nat → zz_W → Prop} : zx_Lok 64 zHT PT zx_D933 := by
  refine zx_Lc_ok (fun w hI hK ins hl hr he hg => ?_)
  obtain ⟨a0, rfl⟩ := zx_i1 hl
  have e0 : ((-1869768058) : Int) + (1 * a0 + 0) = 0 := he _ List.mem_cons_self
  have h : zy_wb 9 0 1869768058 = true := by decide +kernel
  exact ⟨_, List.mem_cons_self, [], rfl, zx_bnil, zx_cs0, (zx_eF1 (by show 0 ≤ (0 : Int) + (1 * a0 + 0); omega) (by show zk_xe w 2000097 ((0 : Int) + (1 * a0 + 0)) = (1 : Int) + (0); rw [show (0 : Int) + (1 * a0 + 0) = a0 by omega]; exact ((zyq97 (w := w) (j := a0) (v := 1869768058) (s := 0) (by omega) (by omega) (by omega) ).mpr h).trans (by omega)) zx_eF0), zx_k0⟩
def zx_D934 : zx_L := zx_Lc [] 1 [] [] [((0, 1953265005), [(0, 1, 0)])] [] [([], [], [(2000097, ((0, 0), [(0, 1, 0)]), ((1, 0), []))], [])]
theorem zx_D934_ok {PT : Nat → zz_W → Prop} : zx_Lok 64 zHT PT zx_D934 := by
  refine zx_Lc_ok (fun w hI hK ins hl hr he hg => ?_)
  obtain ⟨a0, rfl⟩ := zx_i1 hl
  have e0 : ((-1953265005) : Int) + (1 * a0 + 0) = 0 := he _ List.mem_cons_self
  have h : zy_wb 9 0 1953265005 = true := by decide +kernel
  exact ⟨_, List.mem_cons_self, [], rfl, zx_bnil, zx_cs0, (zx_eF1 (by show 0 ≤ (0 : Int) + (1 * a0 + 0); omega) (by show zk_xe w 2000097 ((0 : Int) + (1 * a0 + 0)) = (1 : Int) + (0); rw [show (0 : Int) + (1 * a0 + 0) = a0 by omega]; exact ((zyq97 (w := w) (j := a0) (v := 1953265005) (s := 0) (by omega) (by omega) (by omega) ).mpr h).trans (by omega)) zx_eF0), zx_k0⟩
def zx_D935 : zx_L := zx_Lc [] 1 [] [] [((0, 1969386867), [(0, 1, 0)])] [] [([], [], [(2000097, ((0, 0), [(0, 1, 0)]), ((1, 0), []))], [])]
theorem zx_D935_ok {PT : Nat → zz_W → Prop} : zx_Lok 64 zHT PT zx_D935 := by
  refine zx_Lc_ok (fun w hI hK ins hl hr he hg => ?_)
  obtain ⟨a0, rfl⟩ := zx_i1 hl
  have e0 : ((-1969386867) : Int) + (1 * a0 + 0) = 0 := he _ List.mem_cons_self
  have h : zy_wb 9 0 1969386867 = true := by decide +kernel
  exact ⟨_, List.mem_cons_self, [], rfl, zx_bnil, zx_cs0, (zx_eF1 (by show 0 ≤ (0 : Int) + (1 * a0 + 0); omega) (by show zk_xe w 2000097 ((0 : Int) + (1 * a0 + 0)) = (1 : Int) + (0); rw [show (0 : Int) + (1 * a0 + 0) = a0 by omega]; exact ((zyq97 (w := w) (j := a0) (v := 1969386867) (s := 0) (by omega) (by omega) (by omega) ).mpr h).trans (by omega)) zx_eF0), zx_k0⟩
def zx_D936 : zx_L := zx_Lc [] 1 [] [] [((0, 1969513569), [(0, 1, 0)])] [] [([], [], [(2000097, ((0, 0), [(0, 1, 0)]), ((1, 0), []))], [])]
theorem zx_D936_ok {PT : Nat → zz_W → Prop} : zx_Lok 64 zHT PT zx_D936 := by
  refine zx_Lc_ok (fun w hI hK ins hl hr he hg => ?_)
  obtain ⟨a0, rfl⟩ := zx_i1 hl
  have e0 : ((-1969513569) : Int) + (1 * a0 + 0) = 0 := he _ List.mem_cons_self
  have h : zy_wb 9 0 1969513569 = true := by decide +kernel
  exact ⟨_, List.mem_cons_self, [], rfl, zx_bnil, zx_cs0, (zx_eF1 (by show 0 ≤ (0 : Int) + (1 * a0 + 0); omega) (by show zk_xe w 2000097 ((0 : Int) + (1 * a0 + 0)) = (1 : Int) + (0); rw [show (0 : Int) + (1 * a0 + 0) = a0 by omega]; exact ((zyq97 (w := w) (j := a0) (v := 1969513569) (s := 0) (by omega) (by omega) (by omega) ).mpr h).trans (by omega)) zx_eF0), zx_k0⟩
def zx_D937 : zx_L := zx_Lc [] 1 [] [] [((0, 1970564211), [(0, 1, 0)])] [] [([], [], [(2000097, ((0, 0), [(0, 1, 0)]), ((1, 0), []))], [])]
theorem zx_D937_ok {PT : Nat → zz_W → Prop} : zx_Lok 64 zHT PT zx_D937 := by
  refine zx_Lc_ok (fun w hI hK ins hl hr he hg => ?_)
  obtain ⟨a0, rfl⟩ := zx_i1 hl
  have e0 : ((-1970564211) : Int) + (1 * a0 + 0) = 0 := he _ List.mem_cons_self
  have h : zy_wb 9 0 1970564211 = true := by decide +kernel
  exact ⟨_, List.mem_cons_self, [], rfl, zx_bnil, zx_cs0, (zx_eF1 (by show 0 ≤ (0 : Int) + (1 * a0 + 0); omega) (by show zk_xe w 2000097 ((0 : Int) + (1 * a0 + 0)) = (1 : Int) + (0); rw [show (0 : Int) + (1 * a0 + 0) = a0 by omega]; exact ((zyq97 (w := w) (j := a0) (v := 1970564211) (s := 0) (by omega) (by omega) (by omega) ).mpr h).trans (by omega)) zx_eF0), zx_k0⟩
def zx_D938 : zx_L := zx_Lc [] 1 [] [] [((0, 1986097779), [(0, 1, 0)])] [] [([], [], [(2000097, ((0, 0), [(0, 1, 0)]), ((1, 0), []))], [])]
theorem zx_D938_ok {PT : Nat → zz_W → Prop} : zx_Lok 64 zHT PT zx_D938 := by
  refine zx_Lc_ok (fun w hI hK ins hl hr he hg => ?_)
  obtain ⟨a0, rfl⟩ := zx_i1 hl
  have e0 : ((-1986097779) : Int) + (1 * a0 + 0) = 0 := he _ List.mem_cons_self
  have h : zy_wb 9 0 1986097779 = true := by decide +kernel
  exact ⟨_, List.mem_cons_self, [], rfl, zx_bnil, zx_cs0, (zx_eF1 (by show 0 ≤ (0 : Int) + (1 * a0 + 0); omega) (by show zk_xe w 2000097 ((0 : Int) + (1 * a0 + 0)) = (1 : Int) + (0); rw [show (0 : Int) + (1 * a0 + 0) = a0 by omega]; exact ((zyq97 (w := w) (j := a0) (v := 1986097779) (s := 0) (by omega) (by omega) (by omega) ).mpr h).trans (by omega)) zx_eF0), zx_k0⟩
def zx_D939 : zx_L := zx_Lc [] 1 [] [] [((0, 1986618463), [(0, 1, 0)])] [] [([], [], [(2000097, ((0, 0), [(0, 1, 0)]), ((1, 0), []))], [])]
theorem zx_D939_ok {PT : Nat → zz_W → Prop} : zx_Lok 64 zHT PT zx_D939 := by
  refine zx_Lc_ok (fun w hI hK ins hl hr he hg => ?_)
  obtain ⟨a0, rfl⟩ := zx_i1 hl
  have e0 : ((-1986618463) : Int) + (1 * a0 + 0) = 0 := he _ List.mem_cons_self
  have h : zy_wb 9 0 1986618463 = true := by decide +kernel
  exact ⟨_, List.mem_cons_self, [], rfl, zx_bnil, zx_cs0, (zx_eF1 (by show 0 ≤ (0 : Int) + (1 * a0 + 0); omega) (by show zk_xe w 2000097 ((0 : Int) + (1 * a0 + 0)) = (1 : Int) + (0); rw [show (0 : Int) + (1 * a0 + 0) = a0 by omega]; exact ((zyq97 (w := w) (j := a0) (v := 1986618463) (s := 0) (by omega) (by omega) (by omega) ).mpr h).trans (by omega)) zx_eF0), zx_k0⟩
def zx_D940 : zx_L := zx_Lc [] 1 [] [] [((0, 1986817139), [(0, 1, 0)])] [] [([], [], [(2000097, ((0, 0), [(0, 1, 0)]), ((1, 0), []))], [])]
theorem zx_D940_ok {PT : Nat → zz_W → Prop} : zx_Lok 64 zHT PT zx_D940 := by
  refine zx_Lc_ok (fun w hI hK ins hl hr he hg => ?_)
  obtain ⟨a0, rfl⟩ := zx_i1 hl
  have e0 : ((-1986817139) : Int) + (1 * a0 + 0) = 0 := he _ List.mem_cons_self
  have h : zy_wb 9 0 1986817139 = true := by decide +kernel
  exact ⟨_, List.mem_cons_self, [], rfl, zx_bnil, zx_cs0, (zx_eF1 (by show 0 ≤ (0 : Int) + (1 * a0 + 0); omega) (by show zk_xe w 2000097 ((0 : Int) + (1 * a0 + 0)) = (1 : Int) + (0); rw [show (0 : Int) + (1 * a0 + 0) = a0 by omega]; exact ((zyq97 (w := w) (j := a0) (v := 1986817139) (s := 0) (by omega) (by omega) (by omega) ).mpr h).trans (by omega)) zx_eF0), zx_k0⟩
def zx_D941 : zx_L := zx_Lc [] 1 [] [] [((0, 2053467746), [(0, 1, 0)])] [] [([], [], [(2000097, ((0, 0), [(0, 1, 0)]), ((1, 0), []))], [])]
theorem zx_D941_ok {PT : Nat → zz_W → Prop} : zx_Lok 64 zHT PT zx_D941 := by
  refine zx_Lc_ok (fun w hI hK ins hl hr he hg => ?_)
  obtain ⟨a0, rfl⟩ := zx_i1 hl
  have e0 : ((-2053467746) : Int) + (1 * a0 + 0) = 0 := he _ List.mem_cons_self
  have h : zy_wb 9 0 2053467746 = true := by decide +kernel
  exact ⟨_, List.mem_cons_self, [], rfl, zx_bnil, zx_cs0, (zx_eF1 (by show 0 ≤ (0 : Int) + (1 * a0 + 0); omega) (by show zk_xe w 2000097 ((0 : Int) + (1 * a0 + 0)) = (1 : Int) + (0); rw [show (0 : Int) + (1 * a0 + 0) = a0 by omega]; exact ((zyq97 (w := w) (j := a0) (v := 2053467746) (s := 0) (by omega) (by omega) (by omega) ).mpr h).trans (by omega)) zx_eF0), zx_k0⟩
def zx_D942 : zx_L := zx_Lc [] 1 [] [] [((0, 2054251874), [(0, 1, 0)])] [] [([], [], [(2000097, ((0, 0), [(0, 1, 0)]), ((1, 0), []))], [])]
theorem zx_D942_ok {PT : Nat → zz_W → Prop} : zx_Lok 64 zHT PT zx_D942 := by
  refine zx_Lc_ok (fun w hI hK ins hl hr he hg => ?_)
  obtain ⟨a0, rfl⟩ := zx_i1 hl
  have e0 : ((-2054251874) : Int) + (1 * a0 + 0) = 0 := he _ List.mem_cons_self
  have h : zy_wb 9 0 2054251874 = true := by decide +kernel
  exact ⟨_, List.mem_cons_self, [], rfl, zx_bnil, zx_cs0, (zx_eF1 (by show 0 ≤ (0 : Int) + (1 * a0 + 0); omega) (by show zk_xe w 2000097 ((0 : Int) + (1 * a0 + 0)) = (1 : Int) + (0); rw [show (0 : Int) + (1 * a0 + 0) = a0 by omega]; exact ((zyq97 (w := w) (j := a0) (v := 2054251874) (s := 0) (by omega) (by omega) (by omega) ).mpr h).trans (by omega)) zx_eF0), zx_k0⟩
def zx_D943 : zx_L := zx_Lc [] 1 [] [] [((0, 173567124780), [(0, 1, 0)])] [] [([], [], [(2000097, ((0, 0), [(0, 1, 0)]), ((1, 0), []))], [])]
theorem zx_D943_ok {PT : Nat → zz_W → Prop} : zx_Lok 64 zHT PT zx_D943 := by
  refine zx_Lc_ok (fun w hI hK ins hl hr he hg => ?_)
  obtain ⟨a0, rfl⟩ := zx_i1 hl
  have e0 : ((-173567124780) : Int) + (1 * a0 + 0) = 0 := he _ List.mem_cons_self
  have h : zy_wb 9 0 173567124780 = true := by decide +kernel
  exact ⟨_, List.mem_cons_self, [], rfl, zx_bnil, zx_cs0, (zx_eF1 (by show 0 ≤ (0 : Int) + (1 * a0 + 0); omega) (by show zk_xe w 2000097 ((0 : Int) + (1 * a0 + 0)) = (1 : Int) + (0); rw [show (0 : Int) + (1 * a0 + 0) = a0 by omega]; exact ((zyq97 (w := w) (j := a0) (v := 173567124780) (s := 0) (by omega) (by omega) (by omega) ).mpr h).trans (by omega)) zx_eF0), zx_k0⟩
def zx_D944 : zx_L := zx_Lc [] 1 [] [] [((0, 173668050220), [(0, 1, 0)])] [] [([], [], [(2000097, ((0, 0), [(0, 1, 0)]), ((1, 0), []))], [])]
theorem zx_D944_ok {PT : Nat → zz_W → Prop} : zx_Lok 64 zHT PT zx_D944 := by
  refine zx_Lc_ok (fun w hI hK ins hl hr he hg => ?_)
  obtain ⟨a0, rfl⟩ := zx_i1 hl
  have e0 : ((-173668050220) : Int) + (1 * a0 + 0) = 0 := he _ List.mem_cons_self
  have h : zy_wb 9 0 173668050220 = true := by decide +kernel
  exact ⟨_, List.mem_cons_self, [], rfl, zx_bnil, zx_cs0, (zx_eF1 (by show 0 ≤ (0 : Int) + (1 * a0 + 0); omega) (by show zk_xe w 2000097 ((0 : Int) + (1 * a0 + 0)) = (1 : Int) + (0); rw [show (0 : Int) + (1 * a0 + 0) = a0 by omega]; exact ((zyq97 (w := w) (j := a0) (v := 173668050220) (s := 0) (by omega) (by omega) (by omega) ).mpr h).trans (by omega)) zx_eF0), zx_k0⟩
def zx_D945 : zx_L := zx_Lc [] 1 [] [] [((0, 418564367406), [(0, 1, 0)])] [] [([], [], [(2000097, ((0, 0), [(0, 1, 0)]), ((1, 0), []))], [])]
theorem zx_D945_ok {PT : Nat → zz_W → Prop} : zx_Lok 64 zHT PT zx_D945 := by
  refine zx_Lc_ok (fun w hI hK ins hl hr he hg => ?_)
  obtain ⟨a0, rfl⟩ := zx_i1 hl
  have e0 : ((-418564367406) : Int) + (1 * a0 + 0) = 0 := he _ List.mem_cons_self
  have h : zy_wb 9 0 418564367406 = true := by decide +kernel
  exact ⟨_, List.mem_cons_self, [], rfl, zx_bnil, zx_cs0, (zx_eF1 (by show 0 ≤ (0 : Int) + (1 * a0 + 0); omega) (by show zk_xe w 2000097 ((0 : Int) + (1 * a0 + 0)) = (1 : Int) + (0); rw [show (0 : Int) + (1 * a0 + 0) = a0 by omega]; exact ((zyq97 (w := w) (j := a0) (v := 418564367406) (s := 0) (by omega) (by omega) (by omega) ).mpr h).trans (by omega)) zx_eF0), zx_k0⟩
def zx_D946 : zx_L := zx_Lc [] 1 [] [] [((0, 431349132078), [(0, 1, 0)])] [] [([], [], [(2000097, ((0, 0), [(0, 1, 0)]), ((1, 0), []))], [])]
theorem zx_D946_ok {PT : Nat → zz_W → Prop} : zx_Lok 64 zHT PT zx_D946 := by
  refine zx_Lc_ok (fun w hI hK ins hl hr he hg => ?_)
  obtain ⟨a0, rfl⟩ := zx_i1 hl
  have e0 : ((-431349132078) : Int) + (1 * a0 + 0) = 0 := he _ List.mem_cons_self
  have h : zy_wb 9 0 431349132078 = true := by decide +kernel
  exact ⟨_, List.mem_cons_self, [], rfl, zx_bnil, zx_cs0, (zx_eF1 (by show 0 ≤ (0 : Int) + (1 * a0 + 0); omega) (by show zk_xe w 2000097 ((0 : Int) + (1 * a0 + 0)) = (1 : Int) + (0); rw [show (0 : Int) + (1 * a0 + 0) = a0 by omega]; exact ((zyq97 (w := w) (j := a0) (v := 431349132078) (s := 0) (by omega) (by omega) (by omega) ).mpr h).trans (by omega)) zx_eF0), zx_k0⟩
def zx_D947 : zx_L := zx_Lc [] 1 [] [] [((0, 431416637230), [(0, 1, 0)])] [] [([], [], [(2000097, ((0, 0), [(0, 1, 0)]), ((1, 0), []))], [])]
theorem zx_D947_ok {PT : Nat → zz_W → Prop} : zx_Lok 64 zHT PT zx_D947 := by
  refine zx_Lc_ok (fun w hI hK ins hl hr he hg => ?_)
  obtain ⟨a0, rfl⟩ := zx_i1 hl
  have e0 : ((-431416637230) : Int) + (1 * a0 + 0) = 0 := he _ List.mem_cons_self
  have h : zy_wb 9 0 431416637230 = true := by decide +kernel
  exact ⟨_, List.mem_cons_self, [], rfl, zx_bnil, zx_cs0, (zx_eF1 (by show 0 ≤ (0 : Int) + (1 * a0 + 0); omega) (by show zk_xe w 2000097 ((0 : Int) + (1 * a0 + 0)) = (1 : Int) + (0); rw [show (0 : Int) + (1 * a0 + 0) = a0 by omega]; exact ((zyq97 (w := w) (j := a0) (v := 431416637230) (s := 0) (by omega) (by omega) (by omega) ).mpr h).trans (by omega)) zx_eF0), zx_k0⟩
def zx_D948 : zx_L := zx_Lc [] 1 [] [] [((0, 470021010015), [(0, 1, 0)])] [] [([], [], [(2000097, ((0, 0), [(0, 1, 0)]), ((1, 0), []))], [])]
theorem zx_D948_ok {PT : Nat → zz_W → Prop} : zx_Lok 64 zHT PT zx_D948 := by
  refine zx_Lc_ok (fun w hI hK ins hl hr he hg => ?_)
  obtain ⟨a0, rfl⟩ := zx_i1 hl
  have e0 : ((-470021010015) : Int) + (1 * a0 + 0) = 0 := he _ List.mem_cons_self
  have h : zy_wb 9 0 470021010015 = true := by decide +kernel
  exact ⟨_, List.mem_cons_self, [], rfl, zx_bnil, zx_cs0, (zx_eF1 (by show 0 ≤ (0 : Int) + (1 * a0 + 0); omega) (by show zk_xe w 2000097 ((0 : Int) + (1 * a0 + 0)) = (1 : Int) + (0); rw [show (0 : Int) + (1 * a0 + 0) = a0 by omega]; exact ((zyq97 (w := w) (j := a0) (v := 470021010015) (s := 0) (by omega) (by omega) (by omega) ).mpr h).trans (by omega)) zx_eF0), zx_k0⟩
def zx_D949 : zx_L := zx_Lc [] 1 [] [] [((0, 500068087598), [(0, 1, 0)])] [] [([], [], [(2000097, ((0, 0), [(0, 1, 0)]), ((1, 0), []))], [])]
theorem zx_D949_ok {PT : Nat → zz_W → Prop} : zx_Lok 64 zHT PT zx_D949 := by
  refine zx_Lc_ok (fun w hI hK ins hl hr he hg => ?_)
  obtain ⟨a0, rfl⟩ := zx_i1 hl
  have e0 : ((-500068087598) : Int) + (1 * a0 + 0) = 0 := he _ List.mem_cons_self
  have h : zy_wb 9 0 500068087598 = true := by decide +kernel
  exact ⟨_, List.mem_cons_self, [], rfl, zx_bnil, zx_cs0, (zx_eF1 (by show 0 ≤ (0 : Int) + (1 * a0 + 0); omega) (by show zk_xe w 2000097 ((0 : Int) + (1 * a0 + 0)) = (1 : Int) + (0); rw [show (0 : Int) + (1 * a0 + 0) = a0 by omega]; exact ((zyq97 (w := w) (j := a0) (v := 500068087598) (s := 0) (by omega) (by omega) (by omega) ).mpr h).trans (by omega)) zx_eF0), zx_k0⟩
def zx_D950 : zx_L := zx_Lc [] 1 [] [] [((0, 500236121134), [(0, 1, 0)])] [] [([], [], [(2000097, ((0, 0), [(0, 1, 0)]), ((1, 0), []))], [])]
theorem zx_D950_ok {PT : Nat → zz_W → Prop} : zx_Lok 64 zHT PT zx_D950 := by
  refine zx_Lc_ok (fun w hI hK ins hl hr he hg => ?_)
  obtain ⟨a0, rfl⟩ := zx_i1 hl
  have e0 : ((-500236121134) : Int) + (1 * a0 + 0) = 0 := he _ List.mem_cons_self
  have h : zy_wb 9 0 500236121134 = true := by decide +kernel
  exact ⟨_, List.mem_cons_self, [], rfl, zx_bnil, zx_cs0, (zx_eF1 (by show 0 ≤ (0 : Int) + (1 * a0 + 0); omega) (by show zk_xe w 2000097 ((0 : Int) + (1 * a0 + 0)) = (1 : Int) + (0); rw [show (0 : Int) + (1 * a0 + 0) = a0 by omega]; exact ((zyq97 (w := w) (j := a0) (v := 500236121134) (s := 0) (by omega) (by omega) (by omega) ).mpr h).trans (by omega)) zx_eF0), zx_k0⟩
def zx_D951 : zx_L := zx_Lc [] 1 [] [] [((0, 504279360609), [(0, 1, 0)])] [] [([], [], [(2000097, ((0, 0), [(0, 1, 0)]), ((1, 0), []))], [])]
theorem zx_D951_ok {PT : Nat → zz_W → Prop} : zx_Lok 64 zHT PT zx_D951 := by
  refine zx_Lc_ok (fun w hI hK ins hl hr he hg => ?_)
  obtain ⟨a0, rfl⟩ := zx_i1 hl
  have e0 : ((-504279360609) : Int) + (1 * a0 + 0) = 0 := he _ List.mem_cons_self
  have h : zy_wb 9 0 504279360609 = true := by decide +kernel
  exact ⟨_, List.mem_cons_self, [], rfl, zx_bnil, zx_cs0, (zx_eF1 (by show 0 ≤ (0 : Int) + (1 * a0 + 0); omega) (by show zk_xe w 2000097 ((0 : Int) + (1 * a0 + 0)) = (1 : Int) + (0); rw [show (0 : Int) + (1 * a0 + 0) = a0 by omega]; exact ((zyq97 (w := w) (j := a0) (v := 504279360609) (s := 0) (by omega) (by omega) (by omega) ).mpr h).trans (by omega)) zx_eF0), zx_k0⟩
def zx_D952 : zx_L := zx_Lc [] 1 [] [] [((0, 504280411251), [(0, 1, 0)])] [] [([], [], [(2000097, ((0, 0), [(0, 1, 0)]), ((1, 0), []))], [])]
theorem zx_D952_ok {PT : Nat → zz_W → Prop} : zx_Lok 64 zHT PT zx_D952 := by
  refine zx_Lc_ok (fun w hI hK ins hl hr he hg => ?_)
  obtain ⟨a0, rfl⟩ := zx_i1 hl
  have e0 : ((-504280411251) : Int) + (1 * a0 + 0) = 0 := he _ List.mem_cons_self
  have h : zy_wb 9 0 504280411251 = true := by decide +kernel
  exact ⟨_, List.mem_cons_self, [], rfl, zx_bnil, zx_cs0, (zx_eF1 (by show 0 ≤ (0 : Int) + (1 * a0 + 0); omega) (by show zk_xe w 2000097 ((0 : Int) + (1 * a0 + 0)) = (1 : Int) + (0); rw [show (0 : Int) + (1 * a0 + 0) = a0 by omega]; exact ((zyq97 (w := w) (j := a0) (v := 504280411251) (s := 0) (by omega) (by omega) (by omega) ).mpr h).trans (by omega)) zx_eF0), zx_k0⟩
def zx_D953 : zx_L := zx_Lc [] 1 [] [] [((0, 111477510927150), [(0, 1, 0)])] [] [([], [], [(2000097, ((0, 0), [(0, 1, 0)]), ((1, 0), []))], [])]
theorem zx_D953_ok {PT : Nat → zz_W → Prop} : zx_Lok 64 zHT PT zx_D953 := by
  refine zx_Lc_ok (fun w hI hK ins hl hr he hg => ?_)
  obtain ⟨a0, rfl⟩ := zx_i1 hl
  have e0 : ((-111477510927150) : Int) + (1 * a0 + 0) = 0 := he _ List.mem_cons_self
  have h : zy_wb 9 0 111477510927150 = true := by decide +kernel
  exact ⟨_, List.mem_cons_self, [], rfl, zx_bnil, zx_cs0, (zx_eF1 (by show 0 ≤ (0 : Int) + (1 * a0 + 0); omega) (by show zk_xe w 2000097 ((0 : Int) + (1 * a0 + 0)) = (1 : Int) + (0); rw [show (0 : Int) + (1 * a0 + 0) = a0 by omega]; exact ((zyq97 (w := w) (j := a0) (v := 111477510927150) (s := 0) (by omega) (by omega) (by omega) ).mpr h).trans (by omega)) zx_eF0), zx_k0⟩
def zx_D954 : zx_L := zx_Lc [] 1 [] [] [((0, 119170031970094), [(0, 1, 0)])] [] [([], [], [(2000097, ((0, 0), [(0, 1, 0)]), ((1, 0), []))], [])]
theorem zx_D954_ok {PT : Nat → zz_W → Prop} : zx_Lok 64 zHT PT zx_D954 := by
  refine zx_Lc_ok (fun w hI hK ins hl hr he hg => ?_)
  obtain ⟨a0, rfl⟩ := zx_i1 hl
  have e0 : ((-119170031970094) : Int) + (1 * a0 + 0) = 0 := he _ List.mem_cons_self
  have h : zy_wb 9 0 119170031970094 = true := by decide +kernel
  exact ⟨_, List.mem_cons_self, [], rfl, zx_bnil, zx_cs0, (zx_eF1 (by show 0 ≤ (0 : Int) + (1 * a0 + 0); omega) (by show zk_xe w 2000097 ((0 : Int) + (1 * a0 + 0)) = (1 : Int) + (0); rw [show (0 : Int) + (1 * a0 + 0) = a0 by omega]; exact ((zyq97 (w := w) (j := a0) (v := 119170031970094) (s := 0) (by omega) (by omega) (by omega) ).mpr h).trans (by omega)) zx_eF0), zx_k0⟩
def zx_D955 : zx_L := zx_Lc [] 1 [] [] [((0, 132376871987551), [(0, 1, 0)])] [] [([], [], [(2000097, ((0, 0), [(0, 1, 0)]), ((1, 0), []))], [])]
theorem zx_D955_ok {PT : Nat → zz_W → Prop} : zx_Lok 64 zHT PT zx_D955 := by
  refine zx_Lc_ok (fun w hI hK ins hl hr he hg => ?_)
  obtain ⟨a0, rfl⟩ := zx_i1 hl
  have e0 : ((-132376871987551) : Int) + (1 * a0 + 0) = 0 := he _ List.mem_cons_self
  have h : zy_wb 9 0 132376871987551 = true := by decide +kernel
  exact ⟨_, List.mem_cons_self, [], rfl, zx_bnil, zx_cs0, (zx_eF1 (by show 0 ≤ (0 : Int) + (1 * a0 + 0); omega) (by show zk_xe w 2000097 ((0 : Int) + (1 * a0 + 0)) = (1 : Int) + (0); rw [show (0 : Int) + (1 * a0 + 0) = a0 by omega]; exact ((zyq97 (w := w) (j := a0) (v := 132376871987551) (s := 0) (by omega) (by omega) (by omega) ).mpr h).trans (by omega)) zx_eF0), zx_k0⟩
def zx_D956 : zx_L := zx_Lc [] 1 [] [] [((0, 30518463020890483), [(0, 1, 0)])] [] [([], [], [(2000097, ((0, 0), [(0, 1, 0)]), ((1, 0), []))], [])]
theorem zx_D956_ok {PT : Nat → zz_W → Prop} : zx_Lok 64 zHT PT zx_D956 := by
  refine zx_Lc_ok (fun w hI hK ins hl hr he hg => ?_)
  obtain ⟨a0, rfl⟩ := zx_i1 hl
  have e0 : ((-30518463020890483) : Int) + (1 * a0 + 0) = 0 := he _ List.mem_cons_self
  have h : zy_wb 9 0 30518463020890483 = true := by decide +kernel
  exact ⟨_, List.mem_cons_self, [], rfl, zx_bnil, zx_cs0, (zx_eF1 (by show 0 ≤ (0 : Int) + (1 * a0 + 0); omega) (by show zk_xe w 2000097 ((0 : Int) + (1 * a0 + 0)) = (1 : Int) + (0); rw [show (0 : Int) + (1 * a0 + 0) = a0 by omega]; exact ((zyq97 (w := w) (j := a0) (v := 30518463020890483) (s := 0) (by omega) (by omega) (by omega) ).mpr h).trans (by omega)) zx_eF0), zx_k0⟩
def zx_D957 : zx_L := zx_Lc [] 1 [] [] [((0, 98), [(0, 1, 0)])] [] [([], [], [(2000097, ((0, 0), [(0, 1, 0)]), ((1, 0), []))], [])]
theorem zx_D957_ok {PT : Nat → zz_W → Prop} : zx_Lok 64 zHT PT zx_D957 := by
  refine zx_Lc_ok (fun w hI hK ins hl hr he hg => ?_)
  obtain ⟨a0, rfl⟩ := zx_i1 hl
  have e0 : ((-98) : Int) + (1 * a0 + 0) = 0 := he _ List.mem_cons_self
  have h : zy_wb 9 0 98 = true := by decide +kernel
  exact ⟨_, List.mem_cons_self, [], rfl, zx_bnil, zx_cs0, (zx_eF1 (by show 0 ≤ (0 : Int) + (1 * a0 + 0); omega) (by show zk_xe w 2000097 ((0 : Int) + (1 * a0 + 0)) = (1 : Int) + (0); rw [show (0 : Int) + (1 * a0 + 0) = a0 by omega]; exact ((zyq97 (w := w) (j := a0) (v := 98) (s := 0) (by omega) (by omega) (by omega) ).mpr h).trans (by omega)) zx_eF0), zx_k0⟩
def zx_E620 : zx_V := zx_Vc 177 [] 1 [(2000095, 0), (178, 0)] [] [((0, 0), [(2, 1, 0)]), ((4294967293, 0), [(2, 0, 1)]), ((0, 0), [(0, 1, 0), (2, 0, 40000), (4, 0, 1)]), ((0, 0), [(4, 1, 0)])] [(2000095, ((0, 0), [(2, 1, 0)]), ((0, 0), [(3, 1, 0)]))]
theorem zx_E620_ok {PT : Nat → zz_W → Prop} : zx_Vok 64 zHT PT zx_E620 := by
  refine zx_Vc_ok (fun w w' j ins hI hI' h0 hw hK hl he hg => ?_)
  obtain ⟨a0, rfl⟩ := zx_i1 hl
  have g0 : 0 ≤ (0 : Int) + (1 * a0 + 0) := hg _ List.mem_cons_self
  have g1 : 0 ≤ (4294967293 : Int) + ((-1) * a0 + 0) := hg _ (List.mem_cons_of_mem _ List.mem_cons_self)
  have g2 : 0 ≤ (0 : Int) + (1 * j + ((-40000) * a0 + ((-1) * (zk_xe w 178 a0) + 0))) := hg _ (List.mem_cons_of_mem _ (List.mem_cons_of_mem _ List.mem_cons_self))
  have g3 : 0 ≤ (0 : Int) + (1 * (zk_xe w 178 a0) + 0) := hg _ (List.mem_cons_of_mem _ (List.mem_cons_of_mem _ (List.mem_cons_of_mem _ List.mem_cons_self)))
  have k0 : zh_e w 178 (a0) = zk_xe w 178 a0 := by rw [zk_xe_r (i := 178) (by decide)]; show zk_el w 178 (a0) = zk_el w 178 a0; rw [show a0 = a0 by omega]
  have kT : zh_e w' 178 = zh_e w 178 := zh_e_g (hw.1 178 (by decide))
  have h : zk_xe w' 2000095 a0 = zk_xe w 2000095 a0 := by
    rw [zyq95, zyq95, kT, k0]
    exact zy_cc (fun i i0 i1 => hw.2 (40000 * a0 + i) (by omega) (by omega))
  exact (zx_eF1 (by show 0 ≤ (0 : Int) + (1 * a0 + 0); omega) (by show zk_xe w' 2000095 ((0 : Int) + (1 * a0 + 0)) = (0 : Int) + (1 * (zk_xe w 2000095 a0) + 0); rw [show (0 : Int) + (1 * a0 + 0) = a0 by omega]; omega) zx_eF0)
def zx_E621 : zx_V := zx_Vc 177 [] 3 [(2000096, 0), (178, 1)] [((0, 0), [(2, 1, 0), (3, 0, 1), (4, 0, 4294967296)]), ((0, 1), [(5, 1, 0)])] [((0, 0), [(3, 1, 0)]), ((4294967293, 0), [(3, 0, 1)]), ((0, 0), [(4, 1, 0)]), ((4294967293, 0), [(4, 0, 1)]), ((0, 0), [(0, 1, 0), (3, 0, 40000), (6, 0, 1)]), ((0, 0), [(6, 1, 0)])] [(2000096, ((0, 0), [(2, 1, 0)]), ((1, 0), []))]
theorem zx_E621_ok {PT : Nat → zz_W → Prop} : zx_Vok 64 zHT PT zx_E621 := by
  refine zx_Vc_ok (fun w w' j ins hI hI' h0 hw hK hl he hg => ?_)
  obtain ⟨a0, a1, a2, rfl⟩ := zx_i3 hl
  have e0 : (0 : Int) + (1 * a0 + ((-1) * a1 + ((-4294967296) * a2 + 0))) = 0 := he _ List.mem_cons_self
  have e1 : ((-1) : Int) + (1 * (zk_xe w 2000096 a0) + 0) = 0 := he _ (List.mem_cons_of_mem _ List.mem_cons_self)
  have g0 : 0 ≤ (0 : Int) + (1 * a1 + 0) := hg _ List.mem_cons_self
  have g1 : 0 ≤ (4294967293 : Int) + ((-1) * a1 + 0) := hg _ (List.mem_cons_of_mem _ List.mem_cons_self)
  have g2 : 0 ≤ (0 : Int) + (1 * a2 + 0) := hg _ (List.mem_cons_of_mem _ (List.mem_cons_of_mem _ List.mem_cons_self))
  have g3 : 0 ≤ (4294967293 : Int) + ((-1) * a2 + 0) := hg _ (List.mem_cons_of_mem _ (List.mem_cons_of_mem _ (List.mem_cons_of_mem _ List.mem_cons_self)))
  have g4 : 0 ≤ (0 : Int) + (1 * j + ((-40000) * a1 + ((-1) * (zk_xe w 178 a1) + 0))) := hg _ (List.mem_cons_of_mem _ (List.mem_cons_of_mem _ (List.mem_cons_of_mem _ (List.mem_cons_of_mem _ List.mem_cons_self))))
  have g5 : 0 ≤ (0 : Int) + (1 * (zk_xe w 178 a1) + 0) := hg _ (List.mem_cons_of_mem _ (List.mem_cons_of_mem _ (List.mem_cons_of_mem _ (List.mem_cons_of_mem _ (List.mem_cons_of_mem _ List.mem_cons_self)))))
  have hp := (zyq96 (w := w) (j := a0) (u := a1) (x := a2) (by omega) (by omega) (by omega) (by omega) (by omega) ).mp (by omega)
  have k0 : zh_e w 178 (a1) = zk_xe w 178 a1 := by rw [zk_xe_r (i := 178) (by decide)]; show zk_el w 178 (a1) = zk_el w 178 a1; rw [show a1 = a1 by omega]
  have h : zy_d (zh_e w' 177) (40000 * a1) (zh_e w' 178 a1) a2 := by
    rw [zh_e_g (hw.1 178 (by decide)), k0]
    rw [k0] at hp
    have e : ∀ i, 0 ≤ i → i < zk_xe w 178 a1 → zh_e w' 177 (40000 * a1 + i) = zh_e w 177 (40000 * a1 + i) := fun i i0 i1 => hw.2 (40000 * a1 + i) (by omega) (by omega)
    intro i i0 i1 ik
    rw [e i i0 i1] at ik
    rcases hp i i0 i1 ik with ⟨q1, q2⟩ | q
    · refine Or.inl ⟨q1, ?_⟩
      have e2 := e (i + 1) (by omega) q1
      rw [show 40000 * a1 + (i + 1) = 40000 * a1 + i + 1 by omega] at e2
      rw [e2]
      exact q2
    · exact Or.inr q
  exact (zx_eF1 (by show 0 ≤ (0 : Int) + (1 * a0 + 0); omega) (by show zk_xe w' 2000096 ((0 : Int) + (1 * a0 + 0)) = (1 : Int) + (0); rw [show (0 : Int) + (1 * a0 + 0) = a0 by omega]; exact ((zyq96 (w := w') (j := a0) (u := a1) (x := a2) (by omega) (by omega) (by omega) (by omega) (by omega) ).mpr h).trans (by omega)) zx_eF0)
def zx_E622 : zx_V := zx_Vc 178 [] 2 [(2000095, 0), (178, 0), (177, 1)] [((0, 0), [(0, 1, 0), (2, 0, 1)]), ((0, 1), [(1, 1, 0), (5, 0, 1)]), ((0, 0), [(2, 0, 40000), (3, 1, 0), (5, 0, 1)])] [((0, 0), [(2, 1, 0)]), ((4294967293, 0), [(2, 0, 1)]), ((0, 0), [(5, 1, 0)]), ((9, 0), [(6, 0, 1)])] [(2000095, ((0, 0), [(2, 1, 0)]), ((0, 0), [(4, 1, 0)]))]
theorem zx_E622_ok {PT : Nat → zz_W → Prop} : zx_Vok 64 zHT PT zx_E622 := by
  refine zx_Vc_ok (fun w w' j ins hI hI' h0 hw hK hl he hg => ?_)
  obtain ⟨a0, a1, rfl⟩ := zx_i2 hl
  have e0 : (0 : Int) + (1 * j + ((-1) * a0 + 0)) = 0 := he _ List.mem_cons_self
  have e1 : ((-1) : Int) + (1 * (zk_el w' 178 j) + ((-1) * (zk_xe w 178 a0) + 0)) = 0 := he _ (List.mem_cons_of_mem _ List.mem_cons_self)
  have e2 : (0 : Int) + ((-40000) * a0 + (1 * a1 + ((-1) * (zk_xe w 178 a0) + 0))) = 0 := he _ (List.mem_cons_of_mem _ (List.mem_cons_of_mem _ List.mem_cons_self))
  have g0 : 0 ≤ (0 : Int) + (1 * a0 + 0) := hg _ List.mem_cons_self
  have g1 : 0 ≤ (4294967293 : Int) + ((-1) * a0 + 0) := hg _ (List.mem_cons_of_mem _ List.mem_cons_self)
  have g2 : 0 ≤ (0 : Int) + (1 * (zk_xe w 178 a0) + 0) := hg _ (List.mem_cons_of_mem _ (List.mem_cons_of_mem _ List.mem_cons_self))
  have g3 : 0 ≤ (9 : Int) + ((-1) * (zk_xe w 177 a1) + 0) := hg _ (List.mem_cons_of_mem _ (List.mem_cons_of_mem _ (List.mem_cons_of_mem _ List.mem_cons_self)))
  have k0 : zh_e w 178 (a0) = zk_xe w 178 a0 := by rw [zk_xe_r (i := 178) (by decide)]; show zk_el w 178 (a0) = zk_el w 178 a0; rw [show a0 = a0 by omega]
  have k1 : zh_e w 177 (40000 * a0 + zk_xe w 178 a0) = zk_xe w 177 a1 := by rw [zk_xe_r (i := 177) (by decide)]; show zk_el w 177 (40000 * a0 + zk_xe w 178 a0) = zk_el w 177 a1; rw [show 40000 * a0 + zk_xe w 178 a0 = a1 by omega]
  have kY : zh_e w' 177 = zh_e w 177 := zh_e_g (hw.1 177 (by decide))
  have kS : zh_e w' 178 a0 = zk_xe w 178 a0 + 1 := by
    show zk_el w' 178 a0 = _
    have q : zk_el w' 178 a0 = zk_el w' 178 j := by rw [show a0 = j by omega]
    omega
  have h : zk_xe w' 2000095 a0 = zk_xe w 2000095 a0 + 0 := by
    rw [zyq95, zyq95, kY, kS, k0, show (zk_xe w 178 a0 + 1).toNat = (zk_xe w 178 a0).toNat + 1 by omega]
    show zy_c (zh_e w 177) (40000 * a0) (zk_xe w 178 a0).toNat + (if zh_e w 177 (40000 * a0 + (((zk_xe w 178 a0).toNat : Nat) : Int)) = 10 then 1 else 0) = _
    rw [show (((zk_xe w 178 a0).toNat : Nat) : Int) = zk_xe w 178 a0 by omega, k1, if_neg (by omega)]
  exact (zx_eF1 (by show 0 ≤ (0 : Int) + (1 * a0 + 0); omega) (by show zk_xe w' 2000095 ((0 : Int) + (1 * a0 + 0)) = (0 : Int) + (1 * (zk_xe w 2000095 a0) + 0); rw [show (0 : Int) + (1 * a0 + 0) = a0 by omega]; omega) zx_eF0)
def zx_E623 : zx_V := zx_Vc 178 [] 2 [(2000095, 0), (178, 0), (177, 1)] [((0, 0), [(0, 1, 0), (2, 0, 1)]), ((0, 1), [(1, 1, 0), (5, 0, 1)]), ((0, 0), [(2, 0, 40000), (3, 1, 0), (5, 0, 1)])] [((0, 0), [(2, 1, 0)]), ((4294967293, 0), [(2, 0, 1)]), ((0, 0), [(5, 1, 0)]), ((0, 11), [(6, 1, 0)])] [(2000095, ((0, 0), [(2, 1, 0)]), ((0, 0), [(4, 1, 0)]))]
theorem zx_E623_ok {PT : Nat → zz_W → Prop} : zx_Vok 64 zHT PT zx_E623 := by
  refine zx_Vc_ok (fun w w' j ins hI hI' h0 hw hK hl he hg => ?_)
  obtain ⟨a0, a1, rfl⟩ := zx_i2 hl
  have e0 : (0 : Int) + (1 * j + ((-1) * a0 + 0)) = 0 := he _ List.mem_cons_self
  have e1 : ((-1) : Int) + (1 * (zk_el w' 178 j) + ((-1) * (zk_xe w 178 a0) + 0)) = 0 := he _ (List.mem_cons_of_mem _ List.mem_cons_self)
  have e2 : (0 : Int) + ((-40000) * a0 + (1 * a1 + ((-1) * (zk_xe w 178 a0) + 0))) = 0 := he _ (List.mem_cons_of_mem _ (List.mem_cons_of_mem _ List.mem_cons_self))
  have g0 : 0 ≤ (0 : Int) + (1 * a0 + 0) := hg _ List.mem_cons_self
  have g1 : 0 ≤ (4294967293 : Int) + ((-1) * a0 + 0) := hg _ (List.mem_cons_of_mem _ List.mem_cons_self)
  have g2 : 0 ≤ (0 : Int) + (1 * (zk_xe w 178 a0) + 0) := hg _ (List.mem_cons_of_mem _ (List.mem_cons_of_mem _ List.mem_cons_self))
  have g3 : 0 ≤ ((-11) : Int) + (1 * (zk_xe w 177 a1) + 0) := hg _ (List.mem_cons_of_mem _ (List.mem_cons_of_mem _ (List.mem_cons_of_mem _ List.mem_cons_self)))
  have k0 : zh_e w 178 (a0) = zk_xe w 178 a0 := by rw [zk_xe_r (i := 178) (by decide)]; show zk_el w 178 (a0) = zk_el w 178 a0; rw [show a0 = a0 by omega]
  have k1 : zh_e w 177 (40000 * a0 + zk_xe w 178 a0) = zk_xe w 177 a1 := by rw [zk_xe_r (i := 177) (by decide)]; show zk_el w 177 (40000 * a0 + zk_xe w 178 a0) = zk_el w 177 a1; rw [show 40000 * a0 + zk_xe w 178 a0 = a1 by omega]
  have kY : zh_e w' 177 = zh_e w 177 := zh_e_g (hw.1 177 (by decide))
  have kS : zh_e w' 178 a0 = zk_xe w 178 a0 + 1 := by
    show zk_el w' 178 a0 = _
    have q : zk_el w' 178 a0 = zk_el w' 178 j := by rw [show a0 = j by omega]
    omega
  have h : zk_xe w' 2000095 a0 = zk_xe w 2000095 a0 + 0 := by
    rw [zyq95, zyq95, kY, kS, k0, show (zk_xe w 178 a0 + 1).toNat = (zk_xe w 178 a0).toNat + 1 by omega]
    show zy_c (zh_e w 177) (40000 * a0) (zk_xe w 178 a0).toNat + (if zh_e w 177 (40000 * a0 + (((zk_xe w 178 a0).toNat : Nat) : Int)) = 10 then 1 else 0) = _
    rw [show (((zk_xe w 178 a0).toNat : Nat) : Int) = zk_xe w 178 a0 by omega, k1, if_neg (by omega)]
  exact (zx_eF1 (by show 0 ≤ (0 : Int) + (1 * a0 + 0); omega) (by show zk_xe w' 2000095 ((0 : Int) + (1 * a0 + 0)) = (0 : Int) + (1 * (zk_xe w 2000095 a0) + 0); rw [show (0 : Int) + (1 * a0 + 0) = a0 by omega]; omega) zx_eF0)
def zx_E624 : zx_V := zx_Vc 178 [] 2 [(2000095, 0), (178, 0), (177, 1)] [((0, 0), [(0, 1, 0), (2, 0, 1)]), ((0, 1), [(1, 1, 0), (5, 0, 1)]), ((0, 0), [(2, 0, 40000), (3, 1, 0), (5, 0, 1)])] [((0, 0), [(2, 1, 0)]), ((4294967293, 0), [(2, 0, 1)]), ((0, 0), [(5, 1, 0)]), ((0, 10), [(6, 1, 0)]), ((10, 0), [(6, 0, 1)])] [(2000095, ((0, 0), [(2, 1, 0)]), ((1, 0), [(4, 1, 0)]))]
theorem zx_E624_ok {PT : Nat → zz_W → Prop} : zx_Vok 64 zHT PT zx_E624 := by
  refine zx_Vc_ok (fun w w' j ins hI hI' h0 hw hK hl he hg => ?_)
  obtain ⟨a0, a1, rfl⟩ := zx_i2 hl
  have e0 : (0 : Int) + (1 * j + ((-1) * a0 + 0)) = 0 := he _ List.mem_cons_self
  have e1 : ((-1) : Int) + (1 * (zk_el w' 178 j) + ((-1) * (zk_xe w 178 a0) + 0)) = 0 := he _ (List.mem_cons_of_mem _ List.mem_cons_self)
  have e2 : (0 : Int) + ((-40000) * a0 + (1 * a1 + ((-1) * (zk_xe w 178 a0) + 0))) = 0 := he _ (List.mem_cons_of_mem _ (List.mem_cons_of_mem _ List.mem_cons_self))
  have g0 : 0 ≤ (0 : Int) + (1 * a0 + 0) := hg _ List.mem_cons_self
  have g1 : 0 ≤ (4294967293 : Int) + ((-1) * a0 + 0) := hg _ (List.mem_cons_of_mem _ List.mem_cons_self)
  have g2 : 0 ≤ (0 : Int) + (1 * (zk_xe w 178 a0) + 0) := hg _ (List.mem_cons_of_mem _ (List.mem_cons_of_mem _ List.mem_cons_self))
  have g3 : 0 ≤ ((-10) : Int) + (1 * (zk_xe w 177 a1) + 0) := hg _ (List.mem_cons_of_mem _ (List.mem_cons_of_mem _ (List.mem_cons_of_mem _ List.mem_cons_self)))
  have g4 : 0 ≤ (10 : Int) + ((-1) * (zk_xe w 177 a1) + 0) := hg _ (List.mem_cons_of_mem _ (List.mem_cons_of_mem _ (List.mem_cons_of_mem _ (List.mem_cons_of_mem _ List.mem_cons_self))))
  have k0 : zh_e w 178 (a0) = zk_xe w 178 a0 := by rw [zk_xe_r (i := 178) (by decide)]; show zk_el w 178 (a0) = zk_el w 178 a0; rw [show a0 = a0 by omega]
  have k1 : zh_e w 177 (40000 * a0 + zk_xe w 178 a0) = zk_xe w 177 a1 := by rw [zk_xe_r (i := 177) (by decide)]; show zk_el w 177 (40000 * a0 + zk_xe w 178 a0) = zk_el w 177 a1; rw [show 40000 * a0 + zk_xe w 178 a0 = a1 by omega]
  have kY : zh_e w' 177 = zh_e w 177 := zh_e_g (hw.1 177 (by decide))
  have kS : zh_e w' 178 a0 = zk_xe w 178 a0 + 1 := by
    show zk_el w' 178 a0 = _
    have q : zk_el w' 178 a0 = zk_el w' 178 j := by rw [show a0 = j by omega]
    omega
  have h : zk_xe w' 2000095 a0 = zk_xe w 2000095 a0 + 1 := by
    rw [zyq95, zyq95, kY, kS, k0, show (zk_xe w 178 a0 + 1).toNat = (zk_xe w 178 a0).toNat + 1 by omega]
    show zy_c (zh_e w 177) (40000 * a0) (zk_xe w 178 a0).toNat + (if zh_e w 177 (40000 * a0 + (((zk_xe w 178 a0).toNat : Nat) : Int)) = 10 then 1 else 0) = _
    rw [show (((zk_xe w 178 a0).toNat : Nat) : Int) = zk_xe w 178 a0 by omega, k1, if_pos (by omega)]
  exact (zx_eF1 (by show 0 ≤ (0 : Int) + (1 * a0 + 0); omega) (by show zk_xe w' 2000095 ((0 : Int) + (1 * a0 + 0)) = (1 : Int) + (1 * (zk_xe w 2000095 a0) + 0); rw [show (0 : Int) + (1 * a0 + 0) = a0 by omega]; omega) zx_eF0)
def zx_E625 : zx_V := zx_Vc 178 [] 4 [(2000096, 0), (178, 1), (177, 2)] [((0, 0), [(0, 1, 0), (3, 0, 1)]), ((0, 1), [(1, 1, 0), (7, 0, 1)]), ((0, 0), [(3, 0, 40000), (4, 1, 0), (7, 0, 1)]), ((0, 0), [(2, 1, 0), (3, 0, 1)]), ((0, 0), [(3, 0, 1), (5, 1, 0)]), ((0, 1), [(6, 1, 0)])] [((0, 0), [(3, 1, 0)]), ((4294967293, 0), [(3, 0, 1)]), ((0, 0), [(7, 1, 0)]), ((45, 0), [(8, 0, 1)])] [(2000096, ((0, 0), [(5, 1, 0)]), ((1, 0), []))]
theorem zx_E625_ok {PT : Nat → zz_W → Prop} : zx_Vok 64 zHT PT zx_E625 := by
  refine zx_Vc_ok (fun w w' j ins hI hI' h0 hw hK hl he hg => ?_)
  obtain ⟨a0, a1, a2, a3, rfl⟩ := zx_i4 hl
  have e0 : (0 : Int) + (1 * j + ((-1) * a1 + 0)) = 0 := he _ List.mem_cons_self
  have e1 : ((-1) : Int) + (1 * (zk_el w' 178 j) + ((-1) * (zk_xe w 178 a1) + 0)) = 0 := he _ (List.mem_cons_of_mem _ List.mem_cons_self)
  have e2 : (0 : Int) + ((-40000) * a1 + (1 * a2 + ((-1) * (zk_xe w 178 a1) + 0))) = 0 := he _ (List.mem_cons_of_mem _ (List.mem_cons_of_mem _ List.mem_cons_self))
  have e3 : (0 : Int) + (1 * a0 + ((-1) * a1 + 0)) = 0 := he _ (List.mem_cons_of_mem _ (List.mem_cons_of_mem _ (List.mem_cons_of_mem _ List.mem_cons_self)))
  have e4 : (0 : Int) + ((-1) * a1 + (1 * a3 + 0)) = 0 := he _ (List.mem_cons_of_mem _ (List.mem_cons_of_mem _ (List.mem_cons_of_mem _ (List.mem_cons_of_mem _ List.mem_cons_self))))
  have e5 : ((-1) : Int) + (1 * (zk_xe w 2000096 a0) + 0) = 0 := he _ (List.mem_cons_of_mem _ (List.mem_cons_of_mem _ (List.mem_cons_of_mem _ (List.mem_cons_of_mem _ (List.mem_cons_of_mem _ List.mem_cons_self)))))
  have g0 : 0 ≤ (0 : Int) + (1 * a1 + 0) := hg _ List.mem_cons_self
  have g1 : 0 ≤ (4294967293 : Int) + ((-1) * a1 + 0) := hg _ (List.mem_cons_of_mem _ List.mem_cons_self)
  have g2 : 0 ≤ (0 : Int) + (1 * (zk_xe w 178 a1) + 0) := hg _ (List.mem_cons_of_mem _ (List.mem_cons_of_mem _ List.mem_cons_self))
  have g3 : 0 ≤ (45 : Int) + ((-1) * (zk_xe w 177 a2) + 0) := hg _ (List.mem_cons_of_mem _ (List.mem_cons_of_mem _ (List.mem_cons_of_mem _ List.mem_cons_self)))
  have hp := (zyq96 (w := w) (j := a0) (u := a1) (x := 0) (by omega) (by omega) (by omega) (by omega) (by omega) ).mp (by omega)
  have k0 : zh_e w 178 (a1) = zk_xe w 178 a1 := by rw [zk_xe_r (i := 178) (by decide)]; show zk_el w 178 (a1) = zk_el w 178 a1; rw [show a1 = a1 by omega]
  have k1 : zh_e w 177 (40000 * a1 + zk_xe w 178 a1) = zk_xe w 177 a2 := by rw [zk_xe_r (i := 177) (by decide)]; show zk_el w 177 (40000 * a1 + zk_xe w 178 a1) = zk_el w 177 a2; rw [show 40000 * a1 + zk_xe w 178 a1 = a2 by omega]
  have kS : zh_e w' 178 a1 = zk_xe w 178 a1 + 1 := by
    show zk_el w' 178 a1 = _
    have q : zk_el w' 178 a1 = zk_el w' 178 j := by rw [show a1 = j by omega]
    omega
  have h : zy_d (zh_e w' 177) (40000 * a1) (zh_e w' 178 a1) 0 := by
    rw [zh_e_g (hw.1 177 (by decide)), kS]
    rw [k0] at hp
    intro i i0 i1 ik
    by_cases c : i = zk_xe w 178 a1
    · rw [c, k1] at ik
      omega
    · rcases hp i i0 (by omega) ik with ⟨q1, q2⟩ | ⟨q1, q2⟩
      · exact Or.inl ⟨by omega, q2⟩
      · exact absurd q2 (by decide)
  exact (zx_eF1 (by show 0 ≤ (0 : Int) + (1 * a3 + 0); omega) (by show zk_xe w' 2000096 ((0 : Int) + (1 * a3 + 0)) = (1 : Int) + (0); rw [show (0 : Int) + (1 * a3 + 0) = a3 by omega]; exact ((zyq96 (w := w') (j := a3) (u := a1) (x := 0) (by omega) (by omega) (by omega) (by omega) (by omega) ).mpr h).trans (by omega)) zx_eF0)
def zx_E626 : zx_V := zx_Vc 178 [] 4 [(2000096, 0), (178, 1), (177, 2)] [((0, 0), [(0, 1, 0), (3, 0, 1)]), ((0, 1), [(1, 1, 0), (7, 0, 1)]), ((0, 0), [(3, 0, 40000), (4, 1, 0), (7, 0, 1)]), ((0, 0), [(2, 1, 0), (3, 0, 1)]), ((0, 0), [(3, 0, 1), (5, 1, 0)]), ((0, 1), [(6, 1, 0)])] [((0, 0), [(3, 1, 0)]), ((4294967293, 0), [(3, 0, 1)]), ((0, 0), [(7, 1, 0)]), ((0, 47), [(8, 1, 0)])] [(2000096, ((0, 0), [(5, 1, 0)]), ((1, 0), []))]
theorem zx_E626_ok {PT : Nat → zz_W → Prop} : zx_Vok 64 zHT PT zx_E626 := by
  refine zx_Vc_ok (fun w w' j ins hI hI' h0 hw hK hl he hg => ?_)
  obtain ⟨a0, a1, a2, a3, rfl⟩ := zx_i4 hl
  have e0 : (0 : Int) + (1 * j + ((-1) * a1 + 0)) = 0 := he _ List.mem_cons_self
  have e1 : ((-1) : Int) + (1 * (zk_el w' 178 j) + ((-1) * (zk_xe w 178 a1) + 0)) = 0 := he _ (List.mem_cons_of_mem _ List.mem_cons_self)
  have e2 : (0 : Int) + ((-40000) * a1 + (1 * a2 + ((-1) * (zk_xe w 178 a1) + 0))) = 0 := he _ (List.mem_cons_of_mem _ (List.mem_cons_of_mem _ List.mem_cons_self))
  have e3 : (0 : Int) + (1 * a0 + ((-1) * a1 + 0)) = 0 := he _ (List.mem_cons_of_mem _ (List.mem_cons_of_mem _ (List.mem_cons_of_mem _ List.mem_cons_self)))
  have e4 : (0 : Int) + ((-1) * a1 + (1 * a3 + 0)) = 0 := he _ (List.mem_cons_of_mem _ (List.mem_cons_of_mem _ (List.mem_cons_of_mem _ (List.mem_cons_of_mem _ List.mem_cons_self))))
  have e5 : ((-1) : Int) + (1 * (zk_xe w 2000096 a0) + 0) = 0 := he _ (List.mem_cons_of_mem _ (List.mem_cons_of_mem _ (List.mem_cons_of_mem _ (List.mem_cons_of_mem _ (List.mem_cons_of_mem _ List.mem_cons_self)))))
  have g0 : 0 ≤ (0 : Int) + (1 * a1 + 0) := hg _ List.mem_cons_self
  have g1 : 0 ≤ (4294967293 : Int) + ((-1) * a1 + 0) := hg _ (List.mem_cons_of_mem _ List.mem_cons_self)
  have g2 : 0 ≤ (0 : Int) + (1 * (zk_xe w 178 a1) + 0) := hg _ (List.mem_cons_of_mem _ (List.mem_cons_of_mem _ List.mem_cons_self))
  have g3 : 0 ≤ ((-47) : Int) + (1 * (zk_xe w 177 a2) + 0) := hg _ (List.mem_cons_of_mem _ (List.mem_cons_of_mem _ (List.mem_cons_of_mem _ List.mem_cons_self)))
  have hp := (zyq96 (w := w) (j := a0) (u := a1) (x := 0) (by omega) (by omega) (by omega) (by omega) (by omega) ).mp (by omega)
  have k0 : zh_e w 178 (a1) = zk_xe w 178 a1 := by rw [zk_xe_r (i := 178) (by decide)]; show zk_el w 178 (a1) = zk_el w 178 a1; rw [show a1 = a1 by omega]
  have k1 : zh_e w 177 (40000 * a1 + zk_xe w 178 a1) = zk_xe w 177 a2 := by rw [zk_xe_r (i := 177) (by decide)]; show zk_el w 177 (40000 * a1 + zk_xe w 178 a1) = zk_el w 177 a2; rw [show 40000 * a1 + zk_xe w 178 a1 = a2 by omega]
  have kS : zh_e w' 178 a1 = zk_xe w 178 a1 + 1 := by
    show zk_el w' 178 a1 = _
    have q : zk_el w' 178 a1 = zk_el w' 178 j := by rw [show a1 = j by omega]
    omega
  have h : zy_d (zh_e w' 177) (40000 * a1) (zh_e w' 178 a1) 0 := by
    rw [zh_e_g (hw.1 177 (by decide)), kS]
    rw [k0] at hp
    intro i i0 i1 ik
    by_cases c : i = zk_xe w 178 a1
    · rw [c, k1] at ik
      omega
    · rcases hp i i0 (by omega) ik with ⟨q1, q2⟩ | ⟨q1, q2⟩
      · exact Or.inl ⟨by omega, q2⟩
      · exact absurd q2 (by decide)
  exact (zx_eF1 (by show 0 ≤ (0 : Int) + (1 * a3 + 0); omega) (by show zk_xe w' 2000096 ((0 : Int) + (1 * a3 + 0)) = (1 : Int) + (0); rw [show (0 : Int) + (1 * a3 + 0) = a3 by omega]; exact ((zyq96 (w := w') (j := a3) (u := a1) (x := 0) (by omega) (by omega) (by omega) (by omega) (by omega) ).mpr h).trans (by omega)) zx_eF0)
def zx_E627 : zx_V := zx_Vc 178 [] 4 [(2000096, 0), (178, 1), (177, 2)] [((0, 0), [(0, 1, 0), (3, 0, 1)]), ((0, 1), [(1, 1, 0), (7, 0, 1)]), ((0, 0), [(3, 0, 40000), (4, 1, 0), (7, 0, 1)]), ((0, 0), [(2, 1, 0), (3, 0, 1)]), ((0, 4294967296), [(3, 0, 1), (5, 1, 0)]), ((0, 1), [(6, 1, 0)])] [((0, 0), [(3, 1, 0)]), ((4294967293, 0), [(3, 0, 1)]), ((0, 0), [(7, 1, 0)]), ((0, 46), [(8, 1, 0)]), ((46, 0), [(8, 0, 1)])] [(2000096, ((0, 0), [(5, 1, 0)]), ((1, 0), []))]
theorem zx_E627_ok {PT : Nat → zz_W → Prop} : zx_Vok 64 zHT PT zx_E627 := by
  refine zx_Vc_ok (fun w w' j ins hI hI' h0 hw hK hl he hg => ?_)
  obtain ⟨a0, a1, a2, a3, rfl⟩ := zx_i4 hl
  have e0 : (0 : Int) + (1 * j + ((-1) * a1 + 0)) = 0 := he _ List.mem_cons_self
  have e1 : ((-1) : Int) + (1 * (zk_el w' 178 j) + ((-1) * (zk_xe w 178 a1) + 0)) = 0 := he _ (List.mem_cons_of_mem _ List.mem_cons_self)
  have e2 : (0 : Int) + ((-40000) * a1 + (1 * a2 + ((-1) * (zk_xe w 178 a1) + 0))) = 0 := he _ (List.mem_cons_of_mem _ (List.mem_cons_of_mem _ List.mem_cons_self))
  have e3 : (0 : Int) + (1 * a0 + ((-1) * a1 + 0)) = 0 := he _ (List.mem_cons_of_mem _ (List.mem_cons_of_mem _ (List.mem_cons_of_mem _ List.mem_cons_self)))
  have e4 : ((-4294967296) : Int) + ((-1) * a1 + (1 * a3 + 0)) = 0 := he _ (List.mem_cons_of_mem _ (List.mem_cons_of_mem _ (List.mem_cons_of_mem _ (List.mem_cons_of_mem _ List.mem_cons_self))))
  have e5 : ((-1) : Int) + (1 * (zk_xe w 2000096 a0) + 0) = 0 := he _ (List.mem_cons_of_mem _ (List.mem_cons_of_mem _ (List.mem_cons_of_mem _ (List.mem_cons_of_mem _ (List.mem_cons_of_mem _ List.mem_cons_self)))))
  have g0 : 0 ≤ (0 : Int) + (1 * a1 + 0) := hg _ List.mem_cons_self
  have g1 : 0 ≤ (4294967293 : Int) + ((-1) * a1 + 0) := hg _ (List.mem_cons_of_mem _ List.mem_cons_self)
  have g2 : 0 ≤ (0 : Int) + (1 * (zk_xe w 178 a1) + 0) := hg _ (List.mem_cons_of_mem _ (List.mem_cons_of_mem _ List.mem_cons_self))
  have g3 : 0 ≤ ((-46) : Int) + (1 * (zk_xe w 177 a2) + 0) := hg _ (List.mem_cons_of_mem _ (List.mem_cons_of_mem _ (List.mem_cons_of_mem _ List.mem_cons_self)))
  have g4 : 0 ≤ (46 : Int) + ((-1) * (zk_xe w 177 a2) + 0) := hg _ (List.mem_cons_of_mem _ (List.mem_cons_of_mem _ (List.mem_cons_of_mem _ (List.mem_cons_of_mem _ List.mem_cons_self))))
  have hp := (zyq96 (w := w) (j := a0) (u := a1) (x := 0) (by omega) (by omega) (by omega) (by omega) (by omega) ).mp (by omega)
  have k0 : zh_e w 178 (a1) = zk_xe w 178 a1 := by rw [zk_xe_r (i := 178) (by decide)]; show zk_el w 178 (a1) = zk_el w 178 a1; rw [show a1 = a1 by omega]
  have k1 : zh_e w 177 (40000 * a1 + zk_xe w 178 a1) = zk_xe w 177 a2 := by rw [zk_xe_r (i := 177) (by decide)]; show zk_el w 177 (40000 * a1 + zk_xe w 178 a1) = zk_el w 177 a2; rw [show 40000 * a1 + zk_xe w 178 a1 = a2 by omega]
  have kS : zh_e w' 178 a1 = zk_xe w 178 a1 + 1 := by
    show zk_el w' 178 a1 = _
    have q : zk_el w' 178 a1 = zk_el w' 178 j := by rw [show a1 = j by omega]
    omega
  have h : zy_d (zh_e w' 177) (40000 * a1) (zh_e w' 178 a1) 1 := by
    rw [zh_e_g (hw.1 177 (by decide)), kS]
    rw [k0] at hp
    intro i i0 i1 ik
    by_cases c : i = zk_xe w 178 a1
    · rw [c, k1] at ik
      exact Or.inr ⟨by omega, rfl⟩
    · rcases hp i i0 (by omega) ik with ⟨q1, q2⟩ | ⟨q1, q2⟩
      · exact Or.inl ⟨by omega, q2⟩
      · exact absurd q2 (by decide)
  exact (zx_eF1 (by show 0 ≤ (0 : Int) + (1 * a3 + 0); omega) (by show zk_xe w' 2000096 ((0 : Int) + (1 * a3 + 0)) = (1 : Int) + (0); rw [show (0 : Int) + (1 * a3 + 0) = a3 by omega]; exact ((zyq96 (w := w') (j := a3) (u := a1) (x := 1) (by omega) (by omega) (by omega) (by omega) (by omega) ).mpr h).trans (by omega)) zx_eF0)
def zx_E628 : zx_V := zx_Vc 178 [] 4 [(2000096, 0), (178, 1), (177, 2)] [((0, 0), [(0, 1, 0), (3, 0, 1)]), ((0, 1), [(1, 1, 0), (7, 0, 1)]), ((0, 0), [(3, 0, 40000), (4, 1, 0), (7, 0, 1)]), ((0, 4294967296), [(2, 1, 0), (3, 0, 1)]), ((0, 0), [(3, 0, 1), (5, 1, 0)]), ((0, 1), [(6, 1, 0)])] [((0, 0), [(3, 1, 0)]), ((4294967293, 0), [(3, 0, 1)]), ((0, 0), [(7, 1, 0)]), ((0, 100), [(8, 1, 0)]), ((100, 0), [(8, 0, 1)])] [(2000096, ((0, 0), [(5, 1, 0)]), ((1, 0), []))]
theorem zx_E628_ok {PT : Nat → zz_W → Prop} : zx_Vok 64 zHT PT zx_E628 := by
  refine zx_Vc_ok (fun w w' j ins hI hI' h0 hw hK hl he hg => ?_)
  obtain ⟨a0, a1, a2, a3, rfl⟩ := zx_i4 hl
  have e0 : (0 : Int) + (1 * j + ((-1) * a1 + 0)) = 0 := he _ List.mem_cons_self
  have e1 : ((-1) : Int) + (1 * (zk_el w' 178 j) + ((-1) * (zk_xe w 178 a1) + 0)) = 0 := he _ (List.mem_cons_of_mem _ List.mem_cons_self)
  have e2 : (0 : Int) + ((-40000) * a1 + (1 * a2 + ((-1) * (zk_xe w 178 a1) + 0))) = 0 := he _ (List.mem_cons_of_mem _ (List.mem_cons_of_mem _ List.mem_cons_self))
  have e3 : ((-4294967296) : Int) + (1 * a0 + ((-1) * a1 + 0)) = 0 := he _ (List.mem_cons_of_mem _ (List.mem_cons_of_mem _ (List.mem_cons_of_mem _ List.mem_cons_self)))
  have e4 : (0 : Int) + ((-1) * a1 + (1 * a3 + 0)) = 0 := he _ (List.mem_cons_of_mem _ (List.mem_cons_of_mem _ (List.mem_cons_of_mem _ (List.mem_cons_of_mem _ List.mem_cons_self))))
  have e5 : ((-1) : Int) + (1 * (zk_xe w 2000096 a0) + 0) = 0 := he _ (List.mem_cons_of_mem _ (List.mem_cons_of_mem _ (List.mem_cons_of_mem _ (List.mem_cons_of_mem _ (List.mem_cons_of_mem _ List.mem_cons_self)))))
  have g0 : 0 ≤ (0 : Int) + (1 * a1 + 0) := hg _ List.mem_cons_self
  have g1 : 0 ≤ (4294967293 : Int) + ((-1) * a1 + 0) := hg _ (List.mem_cons_of_mem _ List.mem_cons_self)
  have g2 : 0 ≤ (0 : Int) + (1 * (zk_xe w 178 a1) + 0) := hg _ (List.mem_cons_of_mem _ (List.mem_cons_of_mem _ List.mem_cons_self))
  have g3 : 0 ≤ ((-100) : Int) + (1 * (zk_xe w 177 a2) + 0) := hg _ (List.mem_cons_of_mem _ (List.mem_cons_of_mem _ (List.mem_cons_of_mem _ List.mem_cons_self)))
  have g4 : 0 ≤ (100 : Int) + ((-1) * (zk_xe w 177 a2) + 0) := hg _ (List.mem_cons_of_mem _ (List.mem_cons_of_mem _ (List.mem_cons_of_mem _ (List.mem_cons_of_mem _ List.mem_cons_self))))
  have hp := (zyq96 (w := w) (j := a0) (u := a1) (x := 1) (by omega) (by omega) (by omega) (by omega) (by omega) ).mp (by omega)
  have k0 : zh_e w 178 (a1) = zk_xe w 178 a1 := by rw [zk_xe_r (i := 178) (by decide)]; show zk_el w 178 (a1) = zk_el w 178 a1; rw [show a1 = a1 by omega]
  have k1 : zh_e w 177 (40000 * a1 + zk_xe w 178 a1) = zk_xe w 177 a2 := by rw [zk_xe_r (i := 177) (by decide)]; show zk_el w 177 (40000 * a1 + zk_xe w 178 a1) = zk_el w 177 a2; rw [show 40000 * a1 + zk_xe w 178 a1 = a2 by omega]
  have kS : zh_e w' 178 a1 = zk_xe w 178 a1 + 1 := by
    show zk_el w' 178 a1 = _
    have q : zk_el w' 178 a1 = zk_el w' 178 j := by rw [show a1 = j by omega]
    omega
  have h : zy_d (zh_e w' 177) (40000 * a1) (zh_e w' 178 a1) 0 := by
    rw [zh_e_g (hw.1 177 (by decide)), kS]
    rw [k0] at hp
    intro i i0 i1 ik
    by_cases c : i = zk_xe w 178 a1
    · rw [c, k1] at ik
      omega
    · rcases hp i i0 (by omega) ik with ⟨q1, q2⟩ | ⟨q1, q2⟩
      · exact Or.inl ⟨by omega, q2⟩
      · refine Or.inl ⟨by omega, ?_⟩
        rw [show 40000 * a1 + i + 1 = 40000 * a1 + zk_xe w 178 a1 by omega, k1]
        unfold zy_ok
        omega
  exact (zx_eF1 (by show 0 ≤ (0 : Int) + (1 * a3 + 0); omega) (by show zk_xe w' 2000096 ((0 : Int) + (1 * a3 + 0)) = (1 : Int) + (0); rw [show (0 : Int) + (1 * a3 + 0) = a3 by omega]; exact ((zyq96 (w := w') (j := a3) (u := a1) (x := 0) (by omega) (by omega) (by omega) (by omega) (by omega) ).mpr h).trans (by omega)) zx_eF0)
def zx_E629 : zx_V := zx_Vc 178 [] 4 [(2000096, 0), (178, 1), (177, 2)] [((0, 0), [(0, 1, 0), (3, 0, 1)]), ((0, 1), [(1, 1, 0), (7, 0, 1)]), ((0, 0), [(3, 0, 40000), (4, 1, 0), (7, 0, 1)]), ((0, 4294967296), [(2, 1, 0), (3, 0, 1)]), ((0, 0), [(3, 0, 1), (5, 1, 0)]), ((0, 1), [(6, 1, 0)])] [((0, 0), [(3, 1, 0)]), ((4294967293, 0), [(3, 0, 1)]), ((0, 0), [(7, 1, 0)]), ((0, 103), [(8, 1, 0)]), ((103, 0), [(8, 0, 1)])] [(2000096, ((0, 0), [(5, 1, 0)]), ((1, 0), []))]
theorem zx_E629_ok {PT : Nat → zz_W → Prop} : zx_Vok 64 zHT PT zx_E629 := by
  refine zx_Vc_ok (fun w w' j ins hI hI' h0 hw hK hl he hg => ?_)
  obtain ⟨a0, a1, a2, a3, rfl⟩ := zx_i4 hl
  have e0 : (0 : Int) + (1 * j + ((-1) * a1 + 0)) = 0 := he _ List.mem_cons_self
  have e1 : ((-1) : Int) + (1 * (zk_el w' 178 j) + ((-1) * (zk_xe w 178 a1) + 0)) = 0 := he _ (List.mem_cons_of_mem _ List.mem_cons_self)
  have e2 : (0 : Int) + ((-40000) * a1 + (1 * a2 + ((-1) * (zk_xe w 178 a1) + 0))) = 0 := he _ (List.mem_cons_of_mem _ (List.mem_cons_of_mem _ List.mem_cons_self))
  have e3 : ((-4294967296) : Int) + (1 * a0 + ((-1) * a1 + 0)) = 0 := he _ (List.mem_cons_of_mem _ (List.mem_cons_of_mem _ (List.mem_cons_of_mem _ List.mem_cons_self)))
  have e4 : (0 : Int) + ((-1) * a1 + (1 * a3 + 0)) = 0 := he _ (List.mem_cons_of_mem _ (List.mem_cons_of_mem _ (List.mem_cons_of_mem _ (List.mem_cons_of_mem _ List.mem_cons_self))))
  have e5 : ((-1) : Int) + (1 * (zk_xe w 2000096 a0) + 0) = 0 := he _ (List.mem_cons_of_mem _ (List.mem_cons_of_mem _ (List.mem_cons_of_mem _ (List.mem_cons_of_mem _ (List.mem_cons_of_mem _ List.mem_cons_self)))))
  have g0 : 0 ≤ (0 : Int) + (1 * a1 + 0) := hg _ List.mem_cons_self
  have g1 : 0 ≤ (4294967293 : Int) + ((-1) * a1 + 0) := hg _ (List.mem_cons_of_mem _ List.mem_cons_self)
  have g2 : 0 ≤ (0 : Int) + (1 * (zk_xe w 178 a1) + 0) := hg _ (List.mem_cons_of_mem _ (List.mem_cons_of_mem _ List.mem_cons_self))
  have g3 : 0 ≤ ((-103) : Int) + (1 * (zk_xe w 177 a2) + 0) := hg _ (List.mem_cons_of_mem _ (List.mem_cons_of_mem _ (List.mem_cons_of_mem _ List.mem_cons_self)))
  have g4 : 0 ≤ (103 : Int) + ((-1) * (zk_xe w 177 a2) + 0) := hg _ (List.mem_cons_of_mem _ (List.mem_cons_of_mem _ (List.mem_cons_of_mem _ (List.mem_cons_of_mem _ List.mem_cons_self))))
  have hp := (zyq96 (w := w) (j := a0) (u := a1) (x := 1) (by omega) (by omega) (by omega) (by omega) (by omega) ).mp (by omega)
  have k0 : zh_e w 178 (a1) = zk_xe w 178 a1 := by rw [zk_xe_r (i := 178) (by decide)]; show zk_el w 178 (a1) = zk_el w 178 a1; rw [show a1 = a1 by omega]
  have k1 : zh_e w 177 (40000 * a1 + zk_xe w 178 a1) = zk_xe w 177 a2 := by rw [zk_xe_r (i := 177) (by decide)]; show zk_el w 177 (40000 * a1 + zk_xe w 178 a1) = zk_el w 177 a2; rw [show 40000 * a1 + zk_xe w 178 a1 = a2 by omega]
  have kS : zh_e w' 178 a1 = zk_xe w 178 a1 + 1 := by
    show zk_el w' 178 a1 = _
    have q : zk_el w' 178 a1 = zk_el w' 178 j := by rw [show a1 = j by omega]
    omega
  have h : zy_d (zh_e w' 177) (40000 * a1) (zh_e w' 178 a1) 0 := by
    rw [zh_e_g (hw.1 177 (by decide)), kS]
    rw [k0] at hp
    intro i i0 i1 ik
    by_cases c : i = zk_xe w 178 a1
    · rw [c, k1] at ik
      omega
    · rcases hp i i0 (by omega) ik with ⟨q1, q2⟩ | ⟨q1, q2⟩
      · exact Or.inl ⟨by omega, q2⟩
      · refine Or.inl ⟨by omega, ?_⟩
        rw [show 40000 * a1 + i + 1 = 40000 * a1 + zk_xe w 178 a1 by omega, k1]
        unfold zy_ok
        omega
  exact (zx_eF1 (by show 0 ≤ (0 : Int) + (1 * a3 + 0); omega) (by show zk_xe w' 2000096 ((0 : Int) + (1 * a3 + 0)) = (1 : Int) + (0); rw [show (0 : Int) + (1 * a3 + 0) = a3 by omega]; exact ((zyq96 (w := w') (j := a3) (u := a1) (x := 0) (by omega) (by omega) (by omega) (by omega) (by omega) ).mpr h).trans (by omega)) zx_eF0)
def zx_E630 : zx_V := zx_Vc 178 [] 4 [(2000096, 0), (178, 1), (177, 2)] [((0, 0), [(0, 1, 0), (3, 0, 1)]), ((0, 1), [(1, 1, 0), (7, 0, 1)]), ((0, 0), [(3, 0, 40000), (4, 1, 0), (7, 0, 1)]), ((0, 4294967296), [(2, 1, 0), (3, 0, 1)]), ((0, 0), [(3, 0, 1), (5, 1, 0)]), ((0, 1), [(6, 1, 0)])] [((0, 0), [(3, 1, 0)]), ((4294967293, 0), [(3, 0, 1)]), ((0, 0), [(7, 1, 0)]), ((0, 107), [(8, 1, 0)]), ((107, 0), [(8, 0, 1)])] [(2000096, ((0, 0), [(5, 1, 0)]), ((1, 0), []))]
theorem zx_E630_ok {PT : Nat → zz_W → Prop} : zx_Vok 64 zHT PT zx_E630 := by
  refine zx_Vc_ok (fun w w' j ins hI hI' h0 hw hK hl he hg => ?_)
  obtain ⟨a0, a1, a2, a3, rfl⟩ := zx_i4 hl
  have e0 : (0 : Int) + (1 * j + ((-1) * a1 + 0)) = 0 := he _ List.mem_cons_self
  have e1 : ((-1) : Int) + (1 * (zk_el w' 178 j) + ((-1) * (zk_xe w 178 a1) + 0)) = 0 := he _ (List.mem_cons_of_mem _ List.mem_cons_self)
  have e2 : (0 : Int) + ((-40000) * a1 + (1 * a2 + ((-1) * (zk_xe w 178 a1) + 0))) = 0 := he _ (List.mem_cons_of_mem _ (List.mem_cons_of_mem _ List.mem_cons_self))
  have e3 : ((-4294967296) : Int) + (1 * a0 + ((-1) * a1 + 0)) = 0 := he _ (List.mem_cons_of_mem _ (List.mem_cons_of_mem _ (List.mem_cons_of_mem _ List.mem_cons_self)))
  have e4 : (0 : Int) + ((-1) * a1 + (1 * a3 + 0)) = 0 := he _ (List.mem_cons_of_mem _ (List.mem_cons_of_mem _ (List.mem_cons_of_mem _ (List.mem_cons_of_mem _ List.mem_cons_self))))
  have e5 : ((-1) : Int) + (1 * (zk_xe w 2000096 a0) + 0) = 0 := he _ (List.mem_cons_of_mem _ (List.mem_cons_of_mem _ (List.mem_cons_of_mem _ (List.mem_cons_of_mem _ (List.mem_cons_of_mem _ List.mem_cons_self)))))
  have g0 : 0 ≤ (0 : Int) + (1 * a1 + 0) := hg _ List.mem_cons_self
  have g1 : 0 ≤ (4294967293 : Int) + ((-1) * a1 + 0) := hg _ (List.mem_cons_of_mem _ List.mem_cons_self)
  have g2 : 0 ≤ (0 : Int) + (1 * (zk_xe w 178 a1) + 0) := hg _ (List.mem_cons_of_mem _ (List.mem_cons_of_mem _ List.mem_cons_self))
  have g3 : 0 ≤ ((-107) : Int) + (1 * (zk_xe w 177 a2) + 0) := hg _ (List.mem_cons_of_mem _ (List.mem_cons_of_mem _ (List.mem_cons_of_mem _ List.mem_cons_self)))
  have g4 : 0 ≤ (107 : Int) + ((-1) * (zk_xe w 177 a2) + 0) := hg _ (List.mem_cons_of_mem _ (List.mem_cons_of_mem _ (List.mem_cons_of_mem _ (List.mem_cons_of_mem _ List.mem_cons_self))))
  have hp := (zyq96 (w := w) (j := a0) (u := a1) (x := 1) (by omega) (by omega) (by omega) (by omega) (by omega) ).mp (by omega)
  have k0 : zh_e w 178 (a1) = zk_xe w 178 a1 := by rw [zk_xe_r (i := 178) (by decide)]; show zk_el w 178 (a1) = zk_el w 178 a1; rw [show a1 = a1 by omega]
  have k1 : zh_e w 177 (40000 * a1 + zk_xe w 178 a1) = zk_xe w 177 a2 := by rw [zk_xe_r (i := 177) (by decide)]; show zk_el w 177 (40000 * a1 + zk_xe w 178 a1) = zk_el w 177 a2; rw [show 40000 * a1 + zk_xe w 178 a1 = a2 by omega]
  have kS : zh_e w' 178 a1 = zk_xe w 178 a1 + 1 := by
    show zk_el w' 178 a1 = _
    have q : zk_el w' 178 a1 = zk_el w' 178 j := by rw [show a1 = j by omega]
    omega
  have h : zy_d (zh_e w' 177) (40000 * a1) (zh_e w' 178 a1) 0 := by
    rw [zh_e_g (hw.1 177 (by decide)), kS]
    rw [k0] at hp
    intro i i0 i1 ik
    by_cases c : i = zk_xe w 178 a1
    · rw [c, k1] at ik
      omega
    · rcases hp i i0 (by omega) ik with ⟨q1, q2⟩ | ⟨q1, q2⟩
      · exact Or.inl ⟨by omega, q2⟩
      · refine Or.inl ⟨by omega, ?_⟩
        rw [show 40000 * a1 + i + 1 = 40000 * a1 + zk_xe w 178 a1 by omega, k1]
        unfold zy_ok
        omega
  exact (zx_eF1 (by show 0 ≤ (0 : Int) + (1 * a3 + 0); omega) (by show zk_xe w' 2000096 ((0 : Int) + (1 * a3 + 0)) = (1 : Int) + (0); rw [show (0 : Int) + (1 * a3 + 0) = a3 by omega]; exact ((zyq96 (w := w') (j := a3) (u := a1) (x := 0) (by omega) (by omega) (by omega) (by omega) (by omega) ).mpr h).trans (by omega)) zx_eF0)
def zx_E631 : zx_V := zx_Vc 178 [] 4 [(2000096, 0), (178, 1), (177, 2)] [((0, 0), [(0, 1, 0), (3, 0, 1)]), ((0, 1), [(1, 1, 0), (7, 0, 1)]), ((0, 0), [(3, 0, 40000), (4, 1, 0), (7, 0, 1)]), ((0, 4294967296), [(2, 1, 0), (3, 0, 1)]), ((0, 0), [(3, 0, 1), (5, 1, 0)]), ((0, 1), [(6, 1, 0)])] [((0, 0), [(3, 1, 0)]), ((4294967293, 0), [(3, 0, 1)]), ((0, 0), [(7, 1, 0)]), ((0, 115), [(8, 1, 0)]), ((116, 0), [(8, 0, 1)])] [(2000096, ((0, 0), [(5, 1, 0)]), ((1, 0), []))]
theorem zx_E631_ok {PT : Nat → zz_W → Prop} : zx_Vok 64 zHT PT zx_E631 := by
  refine zx_Vc_ok (fun w w' j ins hI hI' h0 hw hK hl he hg => ?_)
  obtain ⟨a0, a1, a2, a3, rfl⟩ := zx_i4 hl
  have e0 : (0 : Int) + (1 * j + ((-1) * a1 + 0)) = 0 := he _ List.mem_cons_self
  have e1 : ((-1) : Int) + (1 * (zk_el w' 178 j) + ((-1) * (zk_xe w 178 a1) + 0)) = 0 := he _ (List.mem_cons_of_mem _ List.mem_cons_self)
  have e2 : (0 : Int) + ((-40000) * a1 + (1 * a2 + ((-1) * (zk_xe w 178 a1) + 0))) = 0 := he _ (List.mem_cons_of_mem _ (List.mem_cons_of_mem _ List.mem_cons_self))
  have e3 : ((-4294967296) : Int) + (1 * a0 + ((-1) * a1 + 0)) = 0 := he _ (List.mem_cons_of_mem _ (List.mem_cons_of_mem _ (List.mem_cons_of_mem _ List.mem_cons_self)))
  have e4 : (0 : Int) + ((-1) * a1 + (1 * a3 + 0)) = 0 := he _ (List.mem_cons_of_mem _ (List.mem_cons_of_mem _ (List.mem_cons_of_mem _ (List.mem_cons_of_mem _ List.mem_cons_self))))
  have e5 : ((-1) : Int) + (1 * (zk_xe w 2000096 a0) + 0) = 0 := he _ (List.mem_cons_of_mem _ (List.mem_cons_of_mem _ (List.mem_cons_of_mem _ (List.mem_cons_of_mem _ (List.mem_cons_of_mem _ List.mem_cons_self)))))
  have g0 : 0 ≤ (0 : Int) + (1 * a1 + 0) := hg _ List.mem_cons_self
  have g1 : 0 ≤ (4294967293 : Int) + ((-1) * a1 + 0) := hg _ (List.mem_cons_of_mem _ List.mem_cons_self)
  have g2 : 0 ≤ (0 : Int) + (1 * (zk_xe w 178 a1) + 0) := hg _ (List.mem_cons_of_mem _ (List.mem_cons_of_mem _ List.mem_cons_self))
  have g3 : 0 ≤ ((-115) : Int) + (1 * (zk_xe w 177 a2) + 0) := hg _ (List.mem_cons_of_mem _ (List.mem_cons_of_mem _ (List.mem_cons_of_mem _ List.mem_cons_self)))
  have g4 : 0 ≤ (116 : Int) + ((-1) * (zk_xe w 177 a2) + 0) := hg _ (List.mem_cons_of_mem _ (List.mem_cons_of_mem _ (List.mem_cons_of_mem _ (List.mem_cons_of_mem _ List.mem_cons_self))))
  have hp := (zyq96 (w := w) (j := a0) (u := a1) (x := 1) (by omega) (by omega) (by omega) (by omega) (by omega) ).mp (by omega)
  have k0 : zh_e w 178 (a1) = zk_xe w 178 a1 := by rw [zk_xe_r (i := 178) (by decide)]; show zk_el w 178 (a1) = zk_el w 178 a1; rw [show a1 = a1 by omega]
  have k1 : zh_e w 177 (40000 * a1 + zk_xe w 178 a1) = zk_xe w 177 a2 := by rw [zk_xe_r (i := 177) (by decide)]; show zk_el w 177 (40000 * a1 + zk_xe w 178 a1) = zk_el w 177 a2; rw [show 40000 * a1 + zk_xe w 178 a1 = a2 by omega]
  have kS : zh_e w' 178 a1 = zk_xe w 178 a1 + 1 := by
    show zk_el w' 178 a1 = _
    have q : zk_el w' 178 a1 = zk_el w' 178 j := by rw [show a1 = j by omega]
    omega
  have h : zy_d (zh_e w' 177) (40000 * a1) (zh_e w' 178 a1) 0 := by
    rw [zh_e_g (hw.1 177 (by decide)), kS]
    rw [k0] at hp
    intro i i0 i1 ik
    by_cases c : i = zk_xe w 178 a1
    · rw [c, k1] at ik
      omega
    · rcases hp i i0 (by omega) ik with ⟨q1, q2⟩ | ⟨q1, q2⟩
      · exact Or.inl ⟨by omega, q2⟩
      · refine Or.inl ⟨by omega, ?_⟩
        rw [show 40000 * a1 + i + 1 = 40000 * a1 + zk_xe w 178 a1 by omega, k1]
        unfold zy_ok
        omega
  exact (zx_eF1 (by show 0 ≤ (0 : Int) + (1 * a3 + 0); omega) (by show zk_xe w' 2000096 ((0 : Int) + (1 * a3 + 0)) = (1 : Int) + (0); rw [show (0 : Int) + (1 * a3 + 0) = a3 by omega]; exact ((zyq96 (w := w') (j := a3) (u := a1) (x := 0) (by omega) (by omega) (by omega) (by omega) (by omega) ).mpr h).trans (by omega)) zx_eF0)
def zx_E632 : zx_V := zx_Vc 178 [] 4 [(2000096, 0), (178, 1), (177, 2)] [((0, 0), [(0, 1, 0), (3, 0, 1)]), ((0, 1), [(1, 1, 0), (7, 0, 1)]), ((0, 0), [(3, 0, 40000), (4, 1, 0), (7, 0, 1)]), ((0, 4294967296), [(2, 1, 0), (3, 0, 1)]), ((0, 0), [(3, 0, 1), (5, 1, 0)]), ((0, 1), [(6, 1, 0)])] [((0, 0), [(3, 1, 0)]), ((4294967293, 0), [(3, 0, 1)]), ((0, 0), [(7, 1, 0)]), ((0, 119), [(8, 1, 0)]), ((119, 0), [(8, 0, 1)])] [(2000096, ((0, 0), [(5, 1, 0)]), ((1, 0), []))]
theorem zx_E632_ok {PT : Nat → zz_W → Prop} : zx_Vok 64 zHT PT zx_E632 := by
  refine zx_Vc_ok (fun w w' j ins hI hI' h0 hw hK hl he hg => ?_)
  obtain ⟨a0, a1, a2, a3, rfl⟩ := zx_i4 hl
  have e0 : (0 : Int) + (1 * j + ((-1) * a1 + 0)) = 0 := he _ List.mem_cons_self
  have e1 : ((-1) : Int) + (1 * (zk_el w' 178 j) + ((-1) * (zk_xe w 178 a1) + 0)) = 0 := he _ (List.mem_cons_of_mem _ List.mem_cons_self)
  have e2 : (0 : Int) + ((-40000) * a1 + (1 * a2 + ((-1) * (zk_xe w 178 a1) + 0))) = 0 := he _ (List.mem_cons_of_mem _ (List.mem_cons_of_mem _ List.mem_cons_self))
  have e3 : ((-4294967296) : Int) + (1 * a0 + ((-1) * a1 + 0)) = 0 := he _ (List.mem_cons_of_mem _ (List.mem_cons_of_mem _ (List.mem_cons_of_mem _ List.mem_cons_self)))
  have e4 : (0 : Int) + ((-1) * a1 + (1 * a3 + 0)) = 0 := he _ (List.mem_cons_of_mem _ (List.mem_cons_of_mem _ (List.mem_cons_of_mem _ (List.mem_cons_of_mem _ List.mem_cons_self))))
  have e5 : ((-1) : Int) + (1 * (zk_xe w 2000096 a0) + 0) = 0 := he _ (List.mem_cons_of_mem _ (List.mem_cons_of_mem _ (List.mem_cons_of_mem _ (List.mem_cons_of_mem _ (List.mem_cons_of_mem _ List.mem_cons_self)))))
  have g0 : 0 ≤ (0 : Int) + (1 * a1 + 0) := hg _ List.mem_cons_self
  have g1 : 0 ≤ (4294967293 : Int) + ((-1) * a1 + 0) := hg _ (List.mem_cons_of_mem _ List.mem_cons_self)
  have g2 : 0 ≤ (0 : Int) + (1 * (zk_xe w 178 a1) + 0) := hg _ (List.mem_cons_of_mem _ (List.mem_cons_of_mem _ List.mem_cons_self))
  have g3 : 0 ≤ ((-119) : Int) + (1 * (zk_xe w 177 a2) + 0) := hg _ (List.mem_cons_of_mem _ (List.mem_cons_of_mem _ (List.mem_cons_of_mem _ List.mem_cons_self)))
  have g4 : 0 ≤ (119 : Int) + ((-1) * (zk_xe w 177 a2) + 0) := hg _ (List.mem_cons_of_mem _ (List.mem_cons_of_mem _ (List.mem_cons_of_mem _ (List.mem_cons_of_mem _ List.mem_cons_self))))
  have hp := (zyq96 (w := w) (j := a0) (u := a1) (x := 1) (by omega) (by omega) (by omega) (by omega) (by omega) ).mp (by omega)
  have k0 : zh_e w 178 (a1) = zk_xe w 178 a1 := by rw [zk_xe_r (i := 178) (by decide)]; show zk_el w 178 (a1) = zk_el w 178 a1; rw [show a1 = a1 by omega]
  have k1 : zh_e w 177 (40000 * a1 + zk_xe w 178 a1) = zk_xe w 177 a2 := by rw [zk_xe_r (i := 177) (by decide)]; show zk_el w 177 (40000 * a1 + zk_xe w 178 a1) = zk_el w 177 a2; rw [show 40000 * a1 + zk_xe w 178 a1 = a2 by omega]
  have kS : zh_e w' 178 a1 = zk_xe w 178 a1 + 1 := by
    show zk_el w' 178 a1 = _
    have q : zk_el w' 178 a1 = zk_el w' 178 j := by rw [show a1 = j by omega]
    omega
  have h : zy_d (zh_e w' 177) (40000 * a1) (zh_e w' 178 a1) 0 := by
    rw [zh_e_g (hw.1 177 (by decide)), kS]
    rw [k0] at hp
    intro i i0 i1 ik
    by_cases c : i = zk_xe w 178 a1
    · rw [c, k1] at ik
      omega
    · rcases hp i i0 (by omega) ik with ⟨q1, q2⟩ | ⟨q1, q2⟩
      · exact Or.inl ⟨by omega, q2⟩
      · refine Or.inl ⟨by omega, ?_⟩
        rw [show 40000 * a1 + i + 1 = 40000 * a1 + zk_xe w 178 a1 by omega, k1]
        unfold zy_ok
        omega
  exact (zx_eF1 (by show 0 ≤ (0 : Int) + (1 * a3 + 0); omega) (by show zk_xe w' 2000096 ((0 : Int) + (1 * a3 + 0)) = (1 : Int) + (0); rw [show (0 : Int) + (1 * a3 + 0) = a3 by omega]; exact ((zyq96 (w := w') (j := a3) (u := a1) (x := 0) (by omega) (by omega) (by omega) (by omega) (by omega) ).mpr h).trans (by omega)) zx_eF0)
def zx_E650 : zx_V := zx_Vc 177 [] 1 [(2000144, 0), (178, 0)] [] [((0, 0), [(2, 1, 0)]), ((4294967293, 0), [(2, 0, 1)]), ((0, 0), [(0, 1, 0), (2, 0, 40000), (4, 0, 1)]), ((0, 0), [(4, 1, 0)])] [(2000144, ((0, 0), [(2, 1, 0)]), ((0, 0), [(3, 1, 0)]))]
theorem zx_E650_ok {PT : Nat → zz_W → Prop} : zx_Vok 64 zHT PT zx_E650 := by
  refine zx_Vc_ok (fun w w' j ins hI hI' h0 hw hK hl he hg => ?_)
  obtain ⟨a0, rfl⟩ := zx_i1 hl
  have g0 : 0 ≤ (0 : Int) + (1 * a0 + 0) := hg _ List.mem_cons_self
  have g1 : 0 ≤ (4294967293 : Int) + ((-1) * a0 + 0) := hg _ (List.mem_cons_of_mem _ List.mem_cons_self)
  have g2 : 0 ≤ (0 : Int) + (1 * j + ((-40000) * a0 + ((-1) * (zk_xe w 178 a0) + 0))) := hg _ (List.mem_cons_of_mem _ (List.mem_cons_of_mem _ List.mem_cons_self))
  have g3 : 0 ≤ (0 : Int) + (1 * (zk_xe w 178 a0) + 0) := hg _ (List.mem_cons_of_mem _ (List.mem_cons_of_mem _ (List.mem_cons_of_mem _ List.mem_cons_self)))
  have k0 : zh_e w 178 (a0) = zk_xe w 178 a0 := by rw [zk_xe_r (i := 178) (by decide)]; show zk_el w 178 (a0) = zk_el w 178 a0; rw [show a0 = a0 by omega]
  have kT : zh_e w' 178 = zh_e w 178 := zh_e_g (hw.1 178 (by decide))
  have h : zk_xe w' 2000144 a0 = zk_xe w 2000144 a0 := by
    rw [zyq144, zyq144, kT]
    by_cases c : zh_e w 178 a0 = 0
    · rw [zh_b1 (Or.inl c), zh_b1 (Or.inl c)]
    · have q : zh_e w' 177 (40000 * a0 + zh_e w 178 a0 - 1) = zh_e w 177 (40000 * a0 + zh_e w 178 a0 - 1) := hw.2 (40000 * a0 + zh_e w 178 a0 - 1) (by omega) (by omega)
      rw [q]
  exact (zx_eF1 (by show 0 ≤ (0 : Int) + (1 * a0 + 0); omega) (by show zk_xe w' 2000144 ((0 : Int) + (1 * a0 + 0)) = (0 : Int) + (1 * (zk_xe w 2000144 a0) + 0); rw [show (0 : Int) + (1 * a0 + 0) = a0 by omega]; omega) zx_eF0)
def zx_E651 : zx_V := zx_Vc 178 [] 2 [(178, 0), (177, 1)] [((0, 0), [(0, 1, 0), (2, 0, 1)]), ((0, 1), [(1, 1, 0), (4, 0, 1)]), ((0, 0), [(2, 0, 40000), (3, 1, 0), (4, 0, 1)]), ((0, 10), [(5, 1, 0)])] [((0, 0), [(2, 1, 0)]), ((4294967293, 0), [(2, 0, 1)]), ((0, 0), [(4, 1, 0)])] [(2000144, ((0, 0), [(2, 1, 0)]), ((1, 0), []))]
theorem zx_E651_ok {PT : Nat → zz_W → Prop} : zx_Vok 64 zHT PT zx_E651 := by
  refine zx_Vc_ok (fun w w' j ins hI hI' h0 hw hK hl he hg => ?_)
  obtain ⟨a0, a1, rfl⟩ := zx_i2 hl
  have e0 : (0 : Int) + (1 * j + ((-1) * a0 + 0)) = 0 := he _ List.mem_cons_self
  have e1 : ((-1) : Int) + (1 * (zk_el w' 178 j) + ((-1) * (zk_xe w 178 a0) + 0)) = 0 := he _ (List.mem_cons_of_mem _ List.mem_cons_self)
  have e2 : (0 : Int) + ((-40000) * a0 + (1 * a1 + ((-1) * (zk_xe w 178 a0) + 0))) = 0 := he _ (List.mem_cons_of_mem _ (List.mem_cons_of_mem _ List.mem_cons_self))
  have e3 : ((-10) : Int) + (1 * (zk_xe w 177 a1) + 0) = 0 := he _ (List.mem_cons_of_mem _ (List.mem_cons_of_mem _ (List.mem_cons_of_mem _ List.mem_cons_self)))
  have g0 : 0 ≤ (0 : Int) + (1 * a0 + 0) := hg _ List.mem_cons_self
  have g1 : 0 ≤ (4294967293 : Int) + ((-1) * a0 + 0) := hg _ (List.mem_cons_of_mem _ List.mem_cons_self)
  have g2 : 0 ≤ (0 : Int) + (1 * (zk_xe w 178 a0) + 0) := hg _ (List.mem_cons_of_mem _ (List.mem_cons_of_mem _ List.mem_cons_self))
  have k1 : zh_e w 177 (40000 * a0 + zk_xe w 178 a0) = zk_xe w 177 a1 := by rw [zk_xe_r (i := 177) (by decide)]; show zk_el w 177 (40000 * a0 + zk_xe w 178 a0) = zk_el w 177 a1; rw [show 40000 * a0 + zk_xe w 178 a0 = a1 by omega]
  have kY : zh_e w' 177 = zh_e w 177 := zh_e_g (hw.1 177 (by decide))
  have kS : zh_e w' 178 a0 = zk_xe w 178 a0 + 1 := by
    show zk_el w' 178 a0 = _
    have q : zk_el w' 178 a0 = zk_el w' 178 j := by rw [show a0 = j by omega]
    omega
  have h : zk_xe w' 2000144 a0 = 1 := by
    rw [zyq144, kS, kY]
    refine zh_b1 (Or.inr ?_)
    rw [show 40000 * a0 + (zk_xe w 178 a0 + 1) - 1 = 40000 * a0 + zk_xe w 178 a0 by omega, k1]
    omega
  exact (zx_eF1 (by show 0 ≤ (0 : Int) + (1 * a0 + 0); omega) (by show zk_xe w' 2000144 ((0 : Int) + (1 * a0 + 0)) = (1 : Int) + (0); rw [show (0 : Int) + (1 * a0 + 0) = a0 by omega]; omega) zx_eF0)
def zx_D873 : zx_L := zx_Lc [] 1 [] [] [] [((0, 0), [(0, 1, 0)]), ((4294967293, 0), [(0, 0, 1)])] [([(0, 1)], [], [(2000144, ((0, 0), [(0, 1, 0)]), ((0, 0), [(1, 1, 0)]))], [])]
theorem zx_D873_ok {PT : Nat → zz_W → Prop} : zx_Lok 64 zHT PT zx_D873 := by
  refine zx_Lc_ok (fun w hI hK ins hl hr he hg => ?_)
  obtain ⟨a0, rfl⟩ := zx_i1 hl
  have g0 : 0 ≤ (0 : Int) + (1 * a0 + 0) := hg _ List.mem_cons_self
  have g1 : 0 ≤ (4294967293 : Int) + ((-1) * a0 + 0) := hg _ (List.mem_cons_of_mem _ List.mem_cons_self)
  have hb : zk_xe w 2000144 a0 = 0 ∨ zk_xe w 2000144 a0 = 1 := by
    rw [zyq144]
    by_cases h : zh_e w 178 a0 = 0 ∨ zh_e w 177 (40000 * a0 + zh_e w 178 a0 - 1) = 10
    · exact Or.inr (zh_b1 h)
    · exact Or.inl (zh_b0 h)
  exact ⟨_, List.mem_cons_self, [zk_xe w 2000144 a0], rfl, (zx_bcons (by show (0 : Int) ≤ zk_xe w 2000144 a0 ∧ zk_xe w 2000144 a0 ≤ (1 : Int); omega) zx_bnil), zx_cs0, (zx_eF1 (by show 0 ≤ (0 : Int) + (1 * a0 + 0); omega) (by show zk_xe w 2000144 ((0 : Int) + (1 * a0 + 0)) = (0 : Int) + (1 * (zk_xe w 2000144 a0) + 0); rw [show (0 : Int) + (1 * a0 + 0) = a0 by omega]; omega) zx_eF0), zx_k0⟩
def zx_D874 : zx_L := zx_Lc [] 1 [(178, 0)] [] [((0, 0), [(1, 1, 0)])] [((0, 0), [(0, 1, 0)]), ((4294967293, 0), [(0, 0, 1)])] [([], [], [(2000144, ((0, 0), [(0, 1, 0)]), ((1, 0), []))], [])]
theorem zx_D874_ok {PT : Nat → zz_W → Prop} : zx_Lok 64 zHT PT zx_D874 := by
  refine zx_Lc_ok (fun w hI hK ins hl hr he hg => ?_)
  obtain ⟨a0, rfl⟩ := zx_i1 hl
  have e0 : (0 : Int) + (1 * (zk_xe w 178 a0) + 0) = 0 := he _ List.mem_cons_self
  have g0 : 0 ≤ (0 : Int) + (1 * a0 + 0) := hg _ List.mem_cons_self
  have g1 : 0 ≤ (4294967293 : Int) + ((-1) * a0 + 0) := hg _ (List.mem_cons_of_mem _ List.mem_cons_self)
  have r0 : 0 ≤ a0 := hr _ List.mem_cons_self
  have k0 : zh_e w 178 (a0) = zk_xe w 178 a0 := by rw [zk_xe_r (i := 178) (by decide)]; show zk_el w 178 (a0) = zk_el w 178 a0; rw [show a0 = a0 by omega]
  have h : zk_xe w 2000144 a0 = 1 := by
    rw [zyq144]
    exact zh_b1 (Or.inl (by rw [k0]; omega))
  exact ⟨_, List.mem_cons_self, [], rfl, zx_bnil, zx_cs0, (zx_eF1 (by show 0 ≤ (0 : Int) + (1 * a0 + 0); omega) (by show zk_xe w 2000144 ((0 : Int) + (1 * a0 + 0)) = (1 : Int) + (0); rw [show (0 : Int) + (1 * a0 + 0) = a0 by omega]; omega) zx_eF0), zx_k0⟩
def zx_D875 : zx_L := zx_Lc [] 3 [(2000093, 0), (256, 1), (257, 1)] [] [((0, 1), [(3, 1, 0)]), ((0, 4294967297), [(2, 1, 0), (4, 0, 1)])] [((0, 0), [(0, 1, 0)]), ((4294967292, 0), [(0, 0, 1)]), ((0, 0), [(1, 1, 0)]), ((0, 1), [(0, 1, 0), (1, 0, 1)]), ((1, 0), [(4, 1, 0)]), ((65535, 0), [(4, 0, 1)])] [([], [((0, 0), [(4, 1, 0)]), ((0, 0), [(5, 1, 0)]), ((7, 0), [(5, 0, 1)])], [(2000089, ((0, 0), [(2, 1, 0)]), ((1, 0), []))], [])]
theorem zx_D875_ok {PT : Nat → zz_W → Prop} : zx_Lok 64 zHT PT zx_D875 := by
  refine zx_Lc_ok (fun w hI hK ins hl hr he hg => ?_)
  obtain ⟨a0, a1, a2, rfl⟩ := zx_i3 hl
  have e0 : ((-1) : Int) + (1 * (zk_xe w 2000093 a0) + 0) = 0 := he _ List.mem_cons_self
  have e1 : ((-4294967297) : Int) + (1 * a2 + ((-1) * (zk_xe w 256 a1) + 0)) = 0 := he _ (List.mem_cons_of_mem _ List.mem_cons_self)
  have g0 : 0 ≤ (0 : Int) + (1 * a0 + 0) := hg _ List.mem_cons_self
  have g1 : 0 ≤ (4294967292 : Int) + ((-1) * a0 + 0) := hg _ (List.mem_cons_of_mem _ List.mem_cons_self)
  have g2 : 0 ≤ (0 : Int) + (1 * a1 + 0) := hg _ (List.mem_cons_of_mem _ (List.mem_cons_of_mem _ List.mem_cons_self))
  have g3 : 0 ≤ ((-1) : Int) + (1 * a0 + ((-1) * a1 + 0)) := hg _ (List.mem_cons_of_mem _ (List.mem_cons_of_mem _ (List.mem_cons_of_mem _ List.mem_cons_self)))
  have g4 : 0 ≤ (1 : Int) + (1 * (zk_xe w 256 a1) + 0) := hg _ (List.mem_cons_of_mem _ (List.mem_cons_of_mem _ (List.mem_cons_of_mem _ (List.mem_cons_of_mem _ List.mem_cons_self))))
  have g5 : 0 ≤ (65535 : Int) + ((-1) * (zk_xe w 256 a1) + 0) := hg _ (List.mem_cons_of_mem _ (List.mem_cons_of_mem _ (List.mem_cons_of_mem _ (List.mem_cons_of_mem _ (List.mem_cons_of_mem _ List.mem_cons_self)))))
  have r0 : 0 ≤ a0 := hr _ List.mem_cons_self
  have r1 : 0 ≤ a1 := hr _ (List.mem_cons_of_mem _ List.mem_cons_self)
  have r2 : 0 ≤ a1 := hr _ (List.mem_cons_of_mem _ (List.mem_cons_of_mem _ List.mem_cons_self))
  have hp := (zy_r93 (w := w) (j := a0) (by omega) (by omega)).mp (by omega)
  have k0 : zh_e w 256 (a1) = zk_xe w 256 a1 := by rw [zk_xe_r (i := 256) (by decide)]; show zk_el w 256 (a1) = zk_el w 256 a1; rw [show a1 = a1 by omega]
  have k1 : zh_e w 257 (a1) = zk_xe w 257 a1 := by rw [zk_xe_r (i := 257) (by decide)]; show zk_el w 257 (a1) = zk_el w 257 a1; rw [show a1 = a1 by omega]
  have h := hp a1 (by omega) (by omega)
  rw [k0, k1] at h
  obtain ⟨h0, h1, h2, h3⟩ := h
  have h4 := (zn_89 (w := w) (j := a2) (n := zk_xe w 256 a1) (by omega) (by omega) (by omega)).mpr h1
  exact ⟨_, List.mem_cons_self, [], rfl, zx_bnil, (zx_cs1 (by show 0 ≤ (0 : Int) + (1 * (zk_xe w 256 a1) + 0); omega) (zx_cs1 (by show 0 ≤ (0 : Int) + (1 * (zk_xe w 257 a1) + 0); omega) (zx_cs1 (by show 0 ≤ (7 : Int) + ((-1) * (zk_xe w 257 a1) + 0); omega) zx_cs0))), (zx_eF1 (by show 0 ≤ (0 : Int) + (1 * a2 + 0); omega) (by show zk_xe w 2000089 ((0 : Int) + (1 * a2 + 0)) = (1 : Int) + (0); rw [show (0 : Int) + (1 * a2 + 0) = a2 by omega]; omega) zx_eF0), zx_k0⟩
def zx_D872 : zx_L := zx_Lc [] 9 [(2000074, 0), (208, 3), (209, 3), (210, 3), (207, 2), (2000071, 4), (2000091, 5)] [] [((0, 0), [(0, 1, 0), (1, 0, 1), (2, 0, 4294967296)]), ((0, 1), [(9, 1, 0)]), ((0, 0), [(4, 1, 0)]), ((0, 0), [(1, 0, 1), (5, 1, 0), (6, 0, 4294967296), (7, 0, 18446744073709551616)]), ((0, 1), [(15, 1, 0)]), ((0, 4294967297), [(8, 1, 0), (11, 0, 1)])] [((0, 0), [(1, 1, 0)]), ((4294967293, 0), [(1, 0, 1)]), ((0, 0), [(2, 1, 0)]), ((4294967293, 0), [(2, 0, 1)]), ((0, 0), [(6, 1, 0)]), ((4294967293, 0), [(6, 0, 1)]), ((0, 0), [(7, 1, 0)]), ((4294967293, 0), [(7, 0, 1)]), ((0, 0), [(2, 0, 8000), (3, 1, 0)]), ((0, 1), [(2, 8000, 0), (3, 0, 1), (13, 1, 0)]), ((1, 0), [(11, 1, 0)]), ((65535, 0), [(11, 0, 1)])] [([], [((0, 1), [(14, 1, 0)])], [], []), ([], [((4, 0), [(10, 0, 1)])], [], []), ([], [((0, 9), [(10, 1, 0)]), ((10, 0), [(10, 0, 1)])], [], []), ([], [((0, 13), [(10, 1, 0)])], [], []), ([(0, 1)], [((0, 5), [(10, 1, 0)]), ((7, 0), [(10, 0, 1)]), ((0, 0), [(12, 1, 0)])], [(2000089, ((0, 0), [(8, 1, 0)]), ((0, 0), [(16, 1, 0)]))], []), ([], [((0, 5), [(10, 1, 0)]), ((7, 0), [(10, 0, 1)]), ((0, 0), [(11, 1, 0)]), ((1, 0), [(12, 1, 0)])], [(2000089, ((0, 0), [(8, 1, 0)]), ((1, 0), []))], []), ([(0, 1)], [((0, 11), [(10, 1, 0)]), ((12, 0), [(10, 0, 1)]), ((0, 0), [(12, 1, 0)])], [(2000089, ((0, 0), [(8, 1, 0)]), ((0, 0), [(16, 1, 0)]))], []), ([], [((0, 11), [(10, 1, 0)]), ((12, 0), [(10, 0, 1)]), ((0, 0), [(11, 1, 0)]), ((1, 0), [(12, 1, 0)])], [(2000089, ((0, 0), [(8, 1, 0)]), ((1, 0), []))], []), ([], [((0, 8), [(10, 1, 0)]), ((8, 0), [(10, 0, 1)]), ((0, 0), [(11, 1, 0)])], [(2000089, ((0, 0), [(8, 1, 0)]), ((1, 0), []))], [])]
theorem zx_D872_ok {PT : Nat → zz_W → Prop} : zx_Lok 64 zHT PT zx_D872 := by
  refine zx_Lc_ok (fun w hI hK ins hl hr he hg => ?_)
  obtain ⟨a0, a1, a2, a3, a4, a5, a6, a7, a8, rfl⟩ := zx_i9 hl
  have e0 : (0 : Int) + (1 * a0 + ((-1) * a1 + ((-4294967296) * a2 + 0))) = 0 := he _ List.mem_cons_self
  have e1 : ((-1) : Int) + (1 * (zk_xe w 2000074 a0) + 0) = 0 := he _ (List.mem_cons_of_mem _ List.mem_cons_self)
  have e2 : (0 : Int) + (1 * a4 + 0) = 0 := he _ (List.mem_cons_of_mem _ (List.mem_cons_of_mem _ List.mem_cons_self))
  have e3 : (0 : Int) + ((-1) * a1 + (1 * a5 + ((-4294967296) * a6 + ((-18446744073709551616) * a7 + 0)))) = 0 := he _ (List.mem_cons_of_mem _ (List.mem_cons_of_mem _ (List.mem_cons_of_mem _ List.mem_cons_self)))
  have e4 : ((-1) : Int) + (1 * (zk_xe w 2000091 a5) + 0) = 0 := he _ (List.mem_cons_of_mem _ (List.mem_cons_of_mem _ (List.mem_cons_of_mem _ (List.mem_cons_of_mem _ List.mem_cons_self))))
  have e5 : ((-4294967297) : Int) + (1 * a8 + ((-1) * (zk_xe w 209 a3) + 0)) = 0 := he _ (List.mem_cons_of_mem _ (List.mem_cons_of_mem _ (List.mem_cons_of_mem _ (List.mem_cons_of_mem _ (List.mem_cons_of_mem _ List.mem_cons_self)))))
  have g0 : 0 ≤ (0 : Int) + (1 * a1 + 0) := hg _ List.mem_cons_self
  have g1 : 0 ≤ (4294967293 : Int) + ((-1) * a1 + 0) := hg _ (List.mem_cons_of_mem _ List.mem_cons_self)
  have g2 : 0 ≤ (0 : Int) + (1 * a2 + 0) := hg _ (List.mem_cons_of_mem _ (List.mem_cons_of_mem _ List.mem_cons_self))
  have g3 : 0 ≤ (4294967293 : Int) + ((-1) * a2 + 0) := hg _ (List.mem_cons_of_mem _ (List.mem_cons_of_mem _ (List.mem_cons_of_mem _ List.mem_cons_self)))
  have g4 : 0 ≤ (0 : Int) + (1 * a6 + 0) := hg _ (List.mem_cons_of_mem _ (List.mem_cons_of_mem _ (List.mem_cons_of_mem _ (List.mem_cons_of_mem _ List.mem_cons_self))))
  have g5 : 0 ≤ (4294967293 : Int) + ((-1) * a6 + 0) := hg _ (List.mem_cons_of_mem _ (List.mem_cons_of_mem _ (List.mem_cons_of_mem _ (List.mem_cons_of_mem _ (List.mem_cons_of_mem _ List.mem_cons_self)))))
  have g6 : 0 ≤ (0 : Int) + (1 * a7 + 0) := hg _ (List.mem_cons_of_mem _ (List.mem_cons_of_mem _ (List.mem_cons_of_mem _ (List.mem_cons_of_mem _ (List.mem_cons_of_mem _ (List.mem_cons_of_mem _ List.mem_cons_self))))))
  have g7 : 0 ≤ (4294967293 : Int) + ((-1) * a7 + 0) := hg _ (List.mem_cons_of_mem _ (List.mem_cons_of_mem _ (List.mem_cons_of_mem _ (List.mem_cons_of_mem _ (List.mem_cons_of_mem _ (List.mem_cons_of_mem _ (List.mem_cons_of_mem _ List.mem_cons_self)))))))
  have g8 : 0 ≤ (0 : Int) + ((-8000) * a2 + (1 * a3 + 0)) := hg _ (List.mem_cons_of_mem _ (List.mem_cons_of_mem _ (List.mem_cons_of_mem _ (List.mem_cons_of_mem _ (List.mem_cons_of_mem _ (List.mem_cons_of_mem _ (List.mem_cons_of_mem _ (List.mem_cons_of_mem _ List.mem_cons_self))))))))
  have g9 : 0 ≤ ((-1) : Int) + (8000 * a2 + ((-1) * a3 + (1 * (zk_xe w 207 a2) + 0))) := hg _ (List.mem_cons_of_mem _ (List.mem_cons_of_mem _ (List.mem_cons_of_mem _ (List.mem_cons_of_mem _ (List.mem_cons_of_mem _ (List.mem_cons_of_mem _ (List.mem_cons_of_mem _ (List.mem_cons_of_mem _ (List.mem_cons_of_mem _ List.mem_cons_self)))))))))
  have g10 : 0 ≤ (1 : Int) + (1 * (zk_xe w 209 a3) + 0) := hg _ (List.mem_cons_of_mem _ (List.mem_cons_of_mem _ (List.mem_cons_of_mem _ (List.mem_cons_of_mem _ (List.mem_cons_of_mem _ (List.mem_cons_of_mem _ (List.mem_cons_of_mem _ (List.mem_cons_of_mem _ (List.mem_cons_of_mem _ (List.mem_cons_of_mem _ List.mem_cons_self))))))))))
  have g11 : 0 ≤ (65535 : Int) + ((-1) * (zk_xe w 209 a3) + 0) := hg _ (List.mem_cons_of_mem _ (List.mem_cons_of_mem _ (List.mem_cons_of_mem _ (List.mem_cons_of_mem _ (List.mem_cons_of_mem _ (List.mem_cons_of_mem _ (List.mem_cons_of_mem _ (List.mem_cons_of_mem _ (List.mem_cons_of_mem _ (List.mem_cons_of_mem _ (List.mem_cons_of_mem _ List.mem_cons_self)))))))))))
  have r0 : 0 ≤ a0 := hr _ List.mem_cons_self
  have r1 : 0 ≤ a3 := hr _ (List.mem_cons_of_mem _ List.mem_cons_self)
  have r2 : 0 ≤ a3 := hr _ (List.mem_cons_of_mem _ (List.mem_cons_of_mem _ List.mem_cons_self))
  have r3 : 0 ≤ a3 := hr _ (List.mem_cons_of_mem _ (List.mem_cons_of_mem _ (List.mem_cons_of_mem _ List.mem_cons_self)))
  have r4 : 0 ≤ a2 := hr _ (List.mem_cons_of_mem _ (List.mem_cons_of_mem _ (List.mem_cons_of_mem _ (List.mem_cons_of_mem _ List.mem_cons_self))))
  have r5 : 0 ≤ a4 := hr _ (List.mem_cons_of_mem _ (List.mem_cons_of_mem _ (List.mem_cons_of_mem _ (List.mem_cons_of_mem _ (List.mem_cons_of_mem _ List.mem_cons_self)))))
  have r6 : 0 ≤ a5 := hr _ (List.mem_cons_of_mem _ (List.mem_cons_of_mem _ (List.mem_cons_of_mem _ (List.mem_cons_of_mem _ (List.mem_cons_of_mem _ (List.mem_cons_of_mem _ List.mem_cons_self))))))
  have hp := (zs_74 (w := w) (j := a0) (n := a1) (u := a2) (by omega) (by omega) (by omega) (by omega) (by omega) ).mp (by omega)
  have hpp := (zn_91 (w := w) (j := a5) (n := a1) (c := a6) (f := a7) (by omega) (by omega) (by omega) (by omega) (by omega) (by omega) (by omega) ).mp (by omega)
  have hb := zn_89b (w := w) (j := a8)
  have e4z : a4 = 0 := by omega
  have k0 : zh_e w 208 (a3) = zk_xe w 208 a3 := by rw [zk_xe_r (i := 208) (by decide)]; show zk_el w 208 (a3) = zk_el w 208 a3; rw [show a3 = a3 by omega]
  have k1 : zh_e w 209 (a3) = zk_xe w 209 a3 := by rw [zk_xe_r (i := 209) (by decide)]; show zk_el w 209 (a3) = zk_el w 209 a3; rw [show a3 = a3 by omega]
  have k2 : zh_e w 210 (a3) = zk_xe w 210 a3 := by rw [zk_xe_r (i := 210) (by decide)]; show zk_el w 210 (a3) = zk_el w 210 a3; rw [show a3 = a3 by omega]
  have k3 : zh_e w 207 (a2) = zk_xe w 207 a2 := by rw [zk_xe_r (i := 207) (by decide)]; show zk_el w 207 (a2) = zk_el w 207 a2; rw [show a2 = a2 by omega]
  have hx := zs_71c (w := w) (j := a4)
  rcases hx with ⟨hx, -⟩ | ⟨hx, hy⟩
  ·
    exact ⟨_, List.mem_cons_self, [], rfl, zx_bnil, (zx_cs1 (by show 0 ≤ ((-1) : Int) + (1 * (zk_xe w 2000071 a4) + 0); omega) zx_cs0), zx_eF0, zx_k0⟩
  ·
    rcases hp with h | h
    · exact absurd h hy
    ·
      by_cases c1 : zk_xe w 208 a3 ≤ 4
      ·
        exact ⟨_, (List.mem_cons_of_mem _ List.mem_cons_self), [], rfl, zx_bnil, (zx_cs1 (by show 0 ≤ (4 : Int) + ((-1) * (zk_xe w 208 a3) + 0); omega) zx_cs0), zx_eF0, zx_k0⟩
      ·
        by_cases c2 : 9 ≤ zk_xe w 208 a3 ∧ zk_xe w 208 a3 ≤ 10
        ·
          exact ⟨_, (List.mem_cons_of_mem _ (List.mem_cons_of_mem _ List.mem_cons_self)), [], rfl, zx_bnil, (zx_cs1 (by show 0 ≤ ((-9) : Int) + (1 * (zk_xe w 208 a3) + 0); omega) (zx_cs1 (by show 0 ≤ (10 : Int) + ((-1) * (zk_xe w 208 a3) + 0); omega) zx_cs0)), zx_eF0, zx_k0⟩
        ·
          by_cases c3 : 13 ≤ zk_xe w 208 a3
          ·
            exact ⟨_, (List.mem_cons_of_mem _ (List.mem_cons_of_mem _ (List.mem_cons_of_mem _ List.mem_cons_self))), [], rfl, zx_bnil, (zx_cs1 (by show 0 ≤ ((-13) : Int) + (1 * (zk_xe w 208 a3) + 0); omega) zx_cs0), zx_eF0, zx_k0⟩
          ·
            have hz : (zh_e w 208 a3 ≠ 8 ∧ 0 ≤ zh_e w 210 a3) ∨ ((zh_e w 208 a3 = 8 ∨ zh_e w 210 a3 = -1) ∧ ∃ k, zs_u (zh_e w 229) (zh_e w 230) 0 a1 (zh_e w 209 a3) k) := zy_nm h (by omega) (by rw [k3]; omega) (by rw [k0]; omega)
            rcases hz with ⟨z1, z2⟩ | ⟨zb, k, i, i0, -, i1, i2, -⟩
            · rw [k0] at z1
              rw [k2] at z2
              by_cases c4 : zk_xe w 208 a3 ≤ 7
              ·
                exact ⟨_, (List.mem_cons_of_mem _ (List.mem_cons_of_mem _ (List.mem_cons_of_mem _ (List.mem_cons_of_mem _ List.mem_cons_self)))), [zk_xe w 2000089 a8], rfl, (zx_bcons (by show (0 : Int) ≤ zk_xe w 2000089 a8 ∧ zk_xe w 2000089 a8 ≤ (1 : Int); omega) zx_bnil), (zx_cs1 (by show 0 ≤ ((-5) : Int) + (1 * (zk_xe w 208 a3) + 0); omega) (zx_cs1 (by show 0 ≤ (7 : Int) + ((-1) * (zk_xe w 208 a3) + 0); omega) (zx_cs1 (by show 0 ≤ (0 : Int) + (1 * (zk_xe w 210 a3) + 0); omega) zx_cs0))), (zx_eF1 (by show 0 ≤ (0 : Int) + (1 * a8 + 0); omega) (by show zk_xe w 2000089 ((0 : Int) + (1 * a8 + 0)) = (0 : Int) + (1 * (zk_xe w 2000089 a8) + 0); rw [show (0 : Int) + (1 * a8 + 0) = a8 by omega]; omega) zx_eF0), zx_k0⟩
              ·
                exact ⟨_, (List.mem_cons_of_mem _ (List.mem_cons_of_mem _ (List.mem_cons_of_mem _ (List.mem_cons_of_mem _ (List.mem_cons_of_mem _ (List.mem_cons_of_mem _ List.mem_cons_self)))))), [zk_xe w 2000089 a8], rfl, (zx_bcons (by show (0 : Int) ≤ zk_xe w 2000089 a8 ∧ zk_xe w 2000089 a8 ≤ (1 : Int); omega) zx_bnil), (zx_cs1 (by show 0 ≤ ((-11) : Int) + (1 * (zk_xe w 208 a3) + 0); omega) (zx_cs1 (by show 0 ≤ (12 : Int) + ((-1) * (zk_xe w 208 a3) + 0); omega) (zx_cs1 (by show 0 ≤ (0 : Int) + (1 * (zk_xe w 210 a3) + 0); omega) zx_cs0))), (zx_eF1 (by show 0 ≤ (0 : Int) + (1 * a8 + 0); omega) (by show zk_xe w 2000089 ((0 : Int) + (1 * a8 + 0)) = (0 : Int) + (1 * (zk_xe w 2000089 a8) + 0); rw [show (0 : Int) + (1 * a8 + 0) = a8 by omega]; omega) zx_eF0), zx_k0⟩
            · have h := hpp.1 i i0 i1
              rw [i2, k1] at h
              rw [k0, k2] at zb
              obtain ⟨h0, h1⟩ := h
              have h2 := (zn_89 (w := w) (j := a8) (n := zk_xe w 209 a3) (by omega) (by omega) (by omega)).mpr h1
              by_cases c4 : zk_xe w 208 a3 ≤ 7
              ·
                exact ⟨_, (List.mem_cons_of_mem _ (List.mem_cons_of_mem _ (List.mem_cons_of_mem _ (List.mem_cons_of_mem _ (List.mem_cons_of_mem _ List.mem_cons_self))))), [], rfl, zx_bnil, (zx_cs1 (by show 0 ≤ ((-5) : Int) + (1 * (zk_xe w 208 a3) + 0); omega) (zx_cs1 (by show 0 ≤ (7 : Int) + ((-1) * (zk_xe w 208 a3) + 0); omega) (zx_cs1 (by show 0 ≤ (0 : Int) + (1 * (zk_xe w 209 a3) + 0); omega) (zx_cs1 (by show 0 ≤ (1 : Int) + (1 * (zk_xe w 210 a3) + 0); omega) zx_cs0)))), (zx_eF1 (by show 0 ≤ (0 : Int) + (1 * a8 + 0); omega) (by show zk_xe w 2000089 ((0 : Int) + (1 * a8 + 0)) = (1 : Int) + (0); rw [show (0 : Int) + (1 * a8 + 0) = a8 by omega]; omega) zx_eF0), zx_k0⟩
              ·
                by_cases c5 : zk_xe w 208 a3 = 8
                ·
                  exact ⟨_, (List.mem_cons_of_mem _ (List.mem_cons_of_mem _ (List.mem_cons_of_mem _ (List.mem_cons_of_mem _ (List.mem_cons_of_mem _ (List.mem_cons_of_mem _ (List.mem_cons_of_mem _ (List.mem_cons_of_mem _ List.mem_cons_self)))))))), [], rfl, zx_bnil, (zx_cs1 (by show 0 ≤ ((-8) : Int) + (1 * (zk_xe w 208 a3) + 0); omega) (zx_cs1 (by show 0 ≤ (8 : Int) + ((-1) * (zk_xe w 208 a3) + 0); omega) (zx_cs1 (by show 0 ≤ (0 : Int) + (1 * (zk_xe w 209 a3) + 0); omega) zx_cs0))), (zx_eF1 (by show 0 ≤ (0 : Int) + (1 * a8 + 0); omega) (by show zk_xe w 2000089 ((0 : Int) + (1 * a8 + 0)) = (1 : Int) + (0); rw [show (0 : Int) + (1 * a8 + 0) = a8 by omega]; omega) zx_eF0), zx_k0⟩
                ·
                  exact ⟨_, (List.mem_cons_of_mem _ (List.mem_cons_of_mem _ (List.mem_cons_of_mem _ (List.mem_cons_of_mem _ (List.mem_cons_of_mem _ (List.mem_cons_of_mem _ (List.mem_cons_of_mem _ List.mem_cons_self))))))), [], rfl, zx_bnil, (zx_cs1 (by show 0 ≤ ((-11) : Int) + (1 * (zk_xe w 208 a3) + 0); omega) (zx_cs1 (by show 0 ≤ (12 : Int) + ((-1) * (zk_xe w 208 a3) + 0); omega) (zx_cs1 (by show 0 ≤ (0 : Int) + (1 * (zk_xe w 209 a3) + 0); omega) (zx_cs1 (by show 0 ≤ (1 : Int) + (1 * (zk_xe w 210 a3) + 0); omega) zx_cs0)))), (zx_eF1 (by show 0 ≤ (0 : Int) + (1 * a8 + 0); omega) (by show zk_xe w 2000089 ((0 : Int) + (1 * a8 + 0)) = (1 : Int) + (0); rw [show (0 : Int) + (1 * a8 + 0) = a8 by omega]; omega) zx_eF0), zx_k0⟩
end
