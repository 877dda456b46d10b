/-! LAWS BY HAND, on -/
noncomputable section
def zx_D671 : zx_L := zx_Lc [] 16 [(2000052, 0), (2000051, 7), (2000053, 7), (2000057, 9)] [] [((0, 0), [(0, 1, 0), (1, 0, 1), (2, 0, 4294967296), (3, 0, 18446744073709551616), (4, 0, 79228162514264337593543950336), (5, 0, 340282366920938463463374607431768211456)]), ((0, 0), [(2, 0, 1), (3, 0, 4294967296), (7, 1, 0)]), ((0, 0), [(2, 0, 1), (3, 0, 4294967296), (5, 0, 18446744073709551616), (9, 1, 0)]), ((0, 0), [(1, 0, 1), (2, 0, 4294967296), (4, 0, 79228162514264337593543950336), (5, 0, 340282366920938463463374607431768211456), (6, 1, 0), (18, 0, 18446744073709551616)]), ((0, 0), [(5, 1, 0), (10, 0, 1), (11, 0, 4294967296), (12, 0, 18446744073709551616), (13, 0, 79228162514264337593543950336), (14, 0, 340282366920938463463374607431768211456), (15, 0, 1461501637330902918203684832716283019655932542976)]), ((0, 1), [(16, 1, 0)]), ((0, 1), [(19, 1, 0)])] [((0, 0), [(1, 1, 0)]), ((4294967294, 0), [(1, 0, 1)]), ((0, 0), [(2, 1, 0)]), ((4294967294, 0), [(2, 0, 1)]), ((0, 0), [(3, 1, 0)]), ((4294967294, 0), [(3, 0, 1)]), ((0, 0), [(4, 1, 0)]), ((4294967294, 0), [(4, 0, 1)]), ((0, 0), [(5, 1, 0)]), ((0, 1), [(1, 1, 0)]), ((0, 31), [(8, 0, 64), (17, 1, 0)]), ((32, 0), [(8, 64, 0), (17, 0, 1)]), ((0, 0), [(8, 1, 0)]), ((4294967294, 0), [(18, 0, 1)]), ((5, 0), [(2, 0, 1)]), ((0, 0), [(10, 1, 0)]), ((3200, 0), [(10, 0, 1)]), ((0, 0), [(11, 1, 0)]), ((3200, 0), [(11, 0, 1)]), ((0, 0), [(12, 1, 0)]), ((3200, 0), [(12, 0, 1)]), ((0, 0), [(13, 1, 0)]), ((3200, 0), [(13, 0, 1)]), ((0, 0), [(14, 1, 0)]), ((3200, 0), [(14, 0, 1)]), ((0, 0), [(15, 1, 0)]), ((3200, 0), [(15, 0, 1)])] [([], [((0, 0), [(18, 1, 0)]), ((3199, 0), [(18, 0, 1)])], [(2000052, ((0, 0), [(6, 1, 0)]), ((1, 0), []))], [])]
theorem zx_D671_ok {PT : Nat → zz_W → Prop} : zx_Lok 64 zHT PT zx_D671 := by
  refine zx_Lc_ok (fun w hI hK ins hl hr he hg => ?_)
  obtain ⟨a0, a1, a2, a3, a4, a5, a6, a7, a8, a9, a10, a11, a12, a13, a14, a15, rfl⟩ := zx_i16 hl
  have e0 : (0 : Int) + (1 * a0 + ((-1) * a1 + ((-4294967296) * a2 + ((-18446744073709551616) * a3 + ((-79228162514264337593543950336) * a4 + ((-340282366920938463463374607431768211456) * a5 + 0)))))) = 0 := he _ List.mem_cons_self
  have e1 : (0 : Int) + ((-1) * a2 + ((-4294967296) * a3 + (1 * a7 + 0))) = 0 := he _ (List.mem_cons_of_mem _ List.mem_cons_self)
  have e2 : (0 : Int) + ((-1) * a2 + ((-4294967296) * a3 + ((-18446744073709551616) * a5 + (1 * a9 + 0)))) = 0 := he _ (List.mem_cons_of_mem _ (List.mem_cons_of_mem _ List.mem_cons_self))
  have e3 : (0 : Int) + ((-1) * a1 + ((-4294967296) * a2 + ((-79228162514264337593543950336) * a4 + ((-340282366920938463463374607431768211456) * a5 + (1 * a6 + ((-18446744073709551616) * (zk_xe w 2000053 a7) + 0)))))) = 0 := he _ (List.mem_cons_of_mem _ (List.mem_cons_of_mem _ (List.mem_cons_of_mem _ List.mem_cons_self)))
  have e4 : (0 : Int) + (1 * a5 + ((-1) * a10 + ((-4294967296) * a11 + ((-18446744073709551616) * a12 + ((-79228162514264337593543950336) * a13 + ((-340282366920938463463374607431768211456) * a14 + ((-1461501637330902918203684832716283019655932542976) * a15 + 0))))))) = 0 := he _ (List.mem_cons_of_mem _ (List.mem_cons_of_mem _ (List.mem_cons_of_mem _ (List.mem_cons_of_mem _ List.mem_cons_self))))
  have e5 : ((-1) : Int) + (1 * (zk_xe w 2000052 a0) + 0) = 0 := he _ (List.mem_cons_of_mem _ (List.mem_cons_of_mem _ (List.mem_cons_of_mem _ (List.mem_cons_of_mem _ (List.mem_cons_of_mem _ List.mem_cons_self)))))
  have e6 : ((-1) : Int) + (1 * (zk_xe w 2000057 a9) + 0) = 0 := he _ (List.mem_cons_of_mem _ (List.mem_cons_of_mem _ (List.mem_cons_of_mem _ (List.mem_cons_of_mem _ (List.mem_cons_of_mem _ (List.mem_cons_of_mem _ List.mem_cons_self))))))
  have g0 : 0 ≤ (0 : Int) + (1 * a1 + 0) := hg _ List.mem_cons_self
  have g1 : 0 ≤ (4294967294 : Int) + ((-1) * a1 + 0) := hg _ (List.mem_cons_of_mem _ List.mem_cons_self)
  have g2 : 0 ≤ (0 : Int) + (1 * a2 + 0) := hg _ (List.mem_cons_of_mem _ (List.mem_cons_of_mem _ List.mem_cons_self))
  have g3 : 0 ≤ (4294967294 : Int) + ((-1) * a2 + 0) := hg _ (List.mem_cons_of_mem _ (List.mem_cons_of_mem _ (List.mem_cons_of_mem _ List.mem_cons_self)))
  have g4 : 0 ≤ (0 : Int) + (1 * a3 + 0) := hg _ (List.mem_cons_of_mem _ (List.mem_cons_of_mem _ (List.mem_cons_of_mem _ (List.mem_cons_of_mem _ List.mem_cons_self))))
  have g5 : 0 ≤ (4294967294 : Int) + ((-1) * a3 + 0) := hg _ (List.mem_cons_of_mem _ (List.mem_cons_of_mem _ (List.mem_cons_of_mem _ (List.mem_cons_of_mem _ (List.mem_cons_of_mem _ List.mem_cons_self)))))
  have g6 : 0 ≤ (0 : Int) + (1 * a4 + 0) := hg _ (List.mem_cons_of_mem _ (List.mem_cons_of_mem _ (List.mem_cons_of_mem _ (List.mem_cons_of_mem _ (List.mem_cons_of_mem _ (List.mem_cons_of_mem _ List.mem_cons_self))))))
  have g7 : 0 ≤ (4294967294 : Int) + ((-1) * a4 + 0) := hg _ (List.mem_cons_of_mem _ (List.mem_cons_of_mem _ (List.mem_cons_of_mem _ (List.mem_cons_of_mem _ (List.mem_cons_of_mem _ (List.mem_cons_of_mem _ (List.mem_cons_of_mem _ List.mem_cons_self)))))))
  have g8 : 0 ≤ (0 : Int) + (1 * a5 + 0) := hg _ (List.mem_cons_of_mem _ (List.mem_cons_of_mem _ (List.mem_cons_of_mem _ (List.mem_cons_of_mem _ (List.mem_cons_of_mem _ (List.mem_cons_of_mem _ (List.mem_cons_of_mem _ (List.mem_cons_of_mem _ List.mem_cons_self))))))))
  have g9 : 0 ≤ ((-1) : Int) + (1 * a1 + 0) := hg _ (List.mem_cons_of_mem _ (List.mem_cons_of_mem _ (List.mem_cons_of_mem _ (List.mem_cons_of_mem _ (List.mem_cons_of_mem _ (List.mem_cons_of_mem _ (List.mem_cons_of_mem _ (List.mem_cons_of_mem _ (List.mem_cons_of_mem _ List.mem_cons_self)))))))))
  have g10 : 0 ≤ ((-31) : Int) + ((-64) * a8 + (1 * (zk_xe w 2000051 a7) + 0)) := hg _ (List.mem_cons_of_mem _ (List.mem_cons_of_mem _ (List.mem_cons_of_mem _ (List.mem_cons_of_mem _ (List.mem_cons_of_mem _ (List.mem_cons_of_mem _ (List.mem_cons_of_mem _ (List.mem_cons_of_mem _ (List.mem_cons_of_mem _ (List.mem_cons_of_mem _ List.mem_cons_self))))))))))
  have g11 : 0 ≤ (32 : Int) + (64 * a8 + ((-1) * (zk_xe w 2000051 a7) + 0)) := hg _ (List.mem_cons_of_mem _ (List.mem_cons_of_mem _ (List.mem_cons_of_mem _ (List.mem_cons_of_mem _ (List.mem_cons_of_mem _ (List.mem_cons_of_mem _ (List.mem_cons_of_mem _ (List.mem_cons_of_mem _ (List.mem_cons_of_mem _ (List.mem_cons_of_mem _ (List.mem_cons_of_mem _ List.mem_cons_self)))))))))))
  have g12 : 0 ≤ (0 : Int) + (1 * a8 + 0) := hg _ (List.mem_cons_of_mem _ (List.mem_cons_of_mem _ (List.mem_cons_of_mem _ (List.mem_cons_of_mem _ (List.mem_cons_of_mem _ (List.mem_cons_of_mem _ (List.mem_cons_of_mem _ (List.mem_cons_of_mem _ (List.mem_cons_of_mem _ (List.mem_cons_of_mem _ (List.mem_cons_of_mem _ (List.mem_cons_of_mem _ List.mem_cons_self))))))))))))
  have g13 : 0 ≤ (4294967294 : Int) + ((-1) * (zk_xe w 2000053 a7) + 0) := hg _ (List.mem_cons_of_mem _ (List.mem_cons_of_mem _ (List.mem_cons_of_mem _ (List.mem_cons_of_mem _ (List.mem_cons_of_mem _ (List.mem_cons_of_mem _ (List.mem_cons_of_mem _ (List.mem_cons_of_mem _ (List.mem_cons_of_mem _ (List.mem_cons_of_mem _ (List.mem_cons_of_mem _ (List.mem_cons_of_mem _ (List.mem_cons_of_mem _ List.mem_cons_self)))))))))))))
  have g14 : 0 ≤ (5 : Int) + ((-1) * a2 + 0) := hg _ (List.mem_cons_of_mem _ (List.mem_cons_of_mem _ (List.mem_cons_of_mem _ (List.mem_cons_of_mem _ (List.mem_cons_of_mem _ (List.mem_cons_of_mem _ (List.mem_cons_of_mem _ (List.mem_cons_of_mem _ (List.mem_cons_of_mem _ (List.mem_cons_of_mem _ (List.mem_cons_of_mem _ (List.mem_cons_of_mem _ (List.mem_cons_of_mem _ (List.mem_cons_of_mem _ List.mem_cons_self))))))))))))))
  have g15 : 0 ≤ (0 : Int) + (1 * a10 + 0) := hg _ (List.mem_cons_of_mem _ (List.mem_cons_of_mem _ (List.mem_cons_of_mem _ (List.mem_cons_of_mem _ (List.mem_cons_of_mem _ (List.mem_cons_of_mem _ (List.mem_cons_of_mem _ (List.mem_cons_of_mem _ (List.mem_cons_of_mem _ (List.mem_cons_of_mem _ (List.mem_cons_of_mem _ (List.mem_cons_of_mem _ (List.mem_cons_of_mem _ (List.mem_cons_of_mem _ (List.mem_cons_of_mem _ List.mem_cons_self)))))))))))))))
  have g16 : 0 ≤ (3200 : Int) + ((-1) * a10 + 0) := hg _ (List.mem_cons_of_mem _ (List.mem_cons_of_mem _ (List.mem_cons_of_mem _ (List.mem_cons_of_mem _ (List.mem_cons_of_mem _ (List.mem_cons_of_mem _ (List.mem_cons_of_mem _ (List.mem_cons_of_mem _ (List.mem_cons_of_mem _ (List.mem_cons_of_mem _ (List.mem_cons_of_mem _ (List.mem_cons_of_mem _ (List.mem_cons_of_mem _ (List.mem_cons_of_mem _ (List.mem_cons_of_mem _ (List.mem_cons_of_mem _ List.mem_cons_self))))))))))))))))
  have g17 : 0 ≤ (0 : Int) + (1 * a11 + 0) := hg _ (List.mem_cons_of_mem _ (List.mem_cons_of_mem _ (List.mem_cons_of_mem _ (List.mem_cons_of_mem _ (List.mem_cons_of_mem _ (List.mem_cons_of_mem _ (List.mem_cons_of_mem _ (List.mem_cons_of_mem _ (List.mem_cons_of_mem _ (List.mem_cons_of_mem _ (List.mem_cons_of_mem _ (List.mem_cons_of_mem _ (List.mem_cons_of_mem _ (List.mem_cons_of_mem _ (List.mem_cons_of_mem _ (List.mem_cons_of_mem _ (List.mem_cons_of_mem _ List.mem_cons_self)))))))))))))))))
  have g18 : 0 ≤ (3200 : Int) + ((-1) * a11 + 0) := hg _ (List.mem_cons_of_mem _ (List.mem_cons_of_mem _ (List.mem_cons_of_mem _ (List.mem_cons_of_mem _ (List.mem_cons_of_mem _ (List.mem_cons_of_mem _ (List.mem_cons_of_mem _ (List.mem_cons_of_mem _ (List.mem_cons_of_mem _ (List.mem_cons_of_mem _ (List.mem_cons_of_mem _ (List.mem_cons_of_mem _ (List.mem_cons_of_mem _ (List.mem_cons_of_mem _ (List.mem_cons_of_mem _ (List.mem_cons_of_mem _ (List.mem_cons_of_mem _ (List.mem_cons_of_mem _ List.mem_cons_self))))))))))))))))))
  have g19 : 0 ≤ (0 : Int) + (1 * a12 + 0) := hg _ (List.mem_cons_of_mem _ (List.mem_cons_of_mem _ (List.mem_cons_of_mem _ (List.mem_cons_of_mem _ (List.mem_cons_of_mem _ (List.mem_cons_of_mem _ (List.mem_cons_of_mem _ (List.mem_cons_of_mem _ (List.mem_cons_of_mem _ (List.mem_cons_of_mem _ (List.mem_cons_of_mem _ (List.mem_cons_of_mem _ (List.mem_cons_of_mem _ (List.mem_cons_of_mem _ (List.mem_cons_of_mem _ (List.mem_cons_of_mem _ (List.mem_cons_of_mem _ (List.mem_cons_of_mem _ (List.mem_cons_of_mem _ List.mem_cons_self)))))))))))))))))))
  have g20 : 0 ≤ (3200 : Int) + ((-1) * a12 + 0) := hg _ (List.mem_cons_of_mem _ (List.mem_cons_of_mem _ (List.mem_cons_of_mem _ (List.mem_cons_of_mem _ (List.mem_cons_of_mem _ (List.mem_cons_of_mem _ (List.mem_cons_of_mem _ (List.mem_cons_of_mem _ (List.mem_cons_of_mem _ (List.mem_cons_of_mem _ (List.mem_cons_of_mem _ (List.mem_cons_of_mem _ (List.mem_cons_of_mem _ (List.mem_cons_of_mem _ (List.mem_cons_of_mem _ (List.mem_cons_of_mem _ (List.mem_cons_of_mem _ (List.mem_cons_of_mem _ (List.mem_cons_of_mem _ (List.mem_cons_of_mem _ List.mem_cons_self))))))))))))))))))))
  have g21 : 0 ≤ (0 : Int) + (1 * a13 + 0) := hg _ (List.mem_cons_of_mem _ (List.mem_cons_of_mem _ (List.mem_cons_of_mem _ (List.mem_cons_of_mem _ (List.mem_cons_of_mem _ (List.mem_cons_of_mem _ (List.mem_cons_of_mem _ (List.mem_cons_of_mem _ (List.mem_cons_of_mem _ (List.mem_cons_of_mem _ (List.mem_cons_of_mem _ (List.mem_cons_of_mem _ (List.mem_cons_of_mem _ (List.mem_cons_of_mem _ (List.mem_cons_of_mem _ (List.mem_cons_of_mem _ (List.mem_cons_of_mem _ (List.mem_cons_of_mem _ (List.mem_cons_of_mem _ (List.mem_cons_of_mem _ (List.mem_cons_of_mem _ List.mem_cons_self)))))))))))))))))))))
  have g22 : 0 ≤ (3200 : Int) + ((-1) * a13 + 0) := hg _ (List.mem_cons_of_mem _ (List.mem_cons_of_mem _ (List.mem_cons_of_mem _ (List.mem_cons_of_mem _ (List.mem_cons_of_mem _ (List.mem_cons_of_mem _ (List.mem_cons_of_mem _ (List.mem_cons_of_mem _ (List.mem_cons_of_mem _ (List.mem_cons_of_mem _ (List.mem_cons_of_mem _ (List.mem_cons_of_mem _ (List.mem_cons_of_mem _ (List.mem_cons_of_mem _ (List.mem_cons_of_mem _ (List.mem_cons_of_mem _ (List.mem_cons_of_mem _ (List.mem_cons_of_mem _ (List.mem_cons_of_mem _ (List.mem_cons_of_mem _ (List.mem_cons_of_mem _ (List.mem_cons_of_mem _ List.mem_cons_self))))))))))))))))))))))
  have g23 : 0 ≤ (0 : Int) + (1 * a14 + 0) := hg _ (List.mem_cons_of_mem _ (List.mem_cons_of_mem _ (List.mem_cons_of_mem _ (List.mem_cons_of_mem _ (List.mem_cons_of_mem _ (List.mem_cons_of_mem _ (List.mem_cons_of_mem _ (List.mem_cons_of_mem _ (List.mem_cons_of_mem _ (List.mem_cons_of_mem _ (List.mem_cons_of_mem _ (List.mem_cons_of_mem _ (List.mem_cons_of_mem _ (List.mem_cons_of_mem _ (List.mem_cons_of_mem _ (List.mem_cons_of_mem _ (List.mem_cons_of_mem _ (List.mem_cons_of_mem _ (List.mem_cons_of_mem _ (List.mem_cons_of_mem _ (List.mem_cons_of_mem _ (List.mem_cons_of_mem _ (List.mem_cons_of_mem _ List.mem_cons_self)))))))))))))))))))))))
  have g24 : 0 ≤ (3200 : Int) + ((-1) * a14 + 0) := hg _ (List.mem_cons_of_mem _ (List.mem_cons_of_mem _ (List.mem_cons_of_mem _ (List.mem_cons_of_mem _ (List.mem_cons_of_mem _ (List.mem_cons_of_mem _ (List.mem_cons_of_mem _ (List.mem_cons_of_mem _ (List.mem_cons_of_mem _ (List.mem_cons_of_mem _ (List.mem_cons_of_mem _ (List.mem_cons_of_mem _ (List.mem_cons_of_mem _ (List.mem_cons_of_mem _ (List.mem_cons_of_mem _ (List.mem_cons_of_mem _ (List.mem_cons_of_mem _ (List.mem_cons_of_mem _ (List.mem_cons_of_mem _ (List.mem_cons_of_mem _ (List.mem_cons_of_mem _ (List.mem_cons_of_mem _ (List.mem_cons_of_mem _ (List.mem_cons_of_mem _ List.mem_cons_self))))))))))))))))))))))))
  have g25 : 0 ≤ (0 : Int) + (1 * a15 + 0) := hg _ (List.mem_cons_of_mem _ (List.mem_cons_of_mem _ (List.mem_cons_of_mem _ (List.mem_cons_of_mem _ (List.mem_cons_of_mem _ (List.mem_cons_of_mem _ (List.mem_cons_of_mem _ (List.mem_cons_of_mem _ (List.mem_cons_of_mem _ (List.mem_cons_of_mem _ (List.mem_cons_of_mem _ (List.mem_cons_of_mem _ (List.mem_cons_of_mem _ (List.mem_cons_of_mem _ (List.mem_cons_of_mem _ (List.mem_cons_of_mem _ (List.mem_cons_of_mem _ (List.mem_cons_of_mem _ (List.mem_cons_of_mem _ (List.mem_cons_of_mem _ (List.mem_cons_of_mem _ (List.mem_cons_of_mem _ (List.mem_cons_of_mem _ (List.mem_cons_of_mem _ (List.mem_cons_of_mem _ List.mem_cons_self)))))))))))))))))))))))))
  have g26 : 0 ≤ (3200 : Int) + ((-1) * a15 + 0) := hg _ (List.mem_cons_of_mem _ (List.mem_cons_of_mem _ (List.mem_cons_of_mem _ (List.mem_cons_of_mem _ (List.mem_cons_of_mem _ (List.mem_cons_of_mem _ (List.mem_cons_of_mem _ (List.mem_cons_of_mem _ (List.mem_cons_of_mem _ (List.mem_cons_of_mem _ (List.mem_cons_of_mem _ (List.mem_cons_of_mem _ (List.mem_cons_of_mem _ (List.mem_cons_of_mem _ (List.mem_cons_of_mem _ (List.mem_cons_of_mem _ (List.mem_cons_of_mem _ (List.mem_cons_of_mem _ (List.mem_cons_of_mem _ (List.mem_cons_of_mem _ (List.mem_cons_of_mem _ (List.mem_cons_of_mem _ (List.mem_cons_of_mem _ (List.mem_cons_of_mem _ (List.mem_cons_of_mem _ (List.mem_cons_of_mem _ List.mem_cons_self))))))))))))))))))))))))))
  have r0 : 0 ≤ a0 := hr _ List.mem_cons_self
  have r1 : 0 ≤ a7 := hr _ (List.mem_cons_of_mem _ List.mem_cons_self)
  have r2 : 0 ≤ a7 := hr _ (List.mem_cons_of_mem _ (List.mem_cons_of_mem _ List.mem_cons_self))
  have r3 : 0 ≤ a9 := hr _ (List.mem_cons_of_mem _ (List.mem_cons_of_mem _ (List.mem_cons_of_mem _ List.mem_cons_self)))
  have hp : zg_R w 61 a2 (2 * a3) = 64 * a8 + (zk_xe w 2000051 a7 - 64 * a8) := by rw [← (zm_pk (w := w) (j := a7) (u := a2) (p := a3) (by omega) (by omega) (by omega) (by omega) (by omega) ).1]; omega
  have ho : zg_R w 61 a2 (2 * a3 + 1) = zk_xe w 2000053 a7 := (zm_pk (w := w) (j := a7) (u := a2) (p := a3) (by omega) (by omega) (by omega) (by omega) (by omega) ).2.symm
  obtain ⟨r0, r⟩ := zm_dj (w := w) (j := a0) (j' := a6) (l := a9) (c := a1) (u := a2) (p := a3) (U := a4) (N := a5) (o := zk_xe w 2000053 a7) (q := a8) (by omega) (by omega) (by omega) (by omega) (by omega) (by omega) (by omega) (by omega) (by omega) (by omega) (by omega) (by omega) (by omega) (by omega) hp ho (by omega)
  have hit := zm_di (w := w) (j := a0) (l := a9) (c := a1) (u := a2) (p := a3) (U := a4) (N := a5) (by omega) (by omega) (by omega) (by omega) (by omega) (by omega) (by omega) (by omega) (by omega) (by omega) (by omega) (by omega) 
  obtain ⟨-, -, -, -, -, -, -, h8⟩ := hit
  obtain ⟨-, -, h9, -⟩ := h8 (by rw [hp]; omega)
  rw [ho] at h9
  obtain ⟨n0, n1, n2, n3, n4, n5, -⟩ := zm_g6 (R := a5) (d0 := a10) (d1 := a11) (d2 := a12) (d3 := a13) (d4 := a14) (d5 := a15) (Q := 0) (by omega) (by omega) (by omega) (by omega) (by omega) (by omega) (by omega) (by omega) (by omega) (by omega) (by omega) (by omega) (by omega) 
  have hn : zg_g a5 a2 ≤ 3200 := by
    rcases (show a2 = 0 ∨ a2 = 1 ∨ a2 = 2 ∨ a2 = 3 ∨ a2 = 4 ∨ a2 = 5 by omega) with h | h | h | h | h | h
    · rw [h, n0]; omega
    · rw [h, n1]; omega
    · rw [h, n2]; omega
    · rw [h, n3]; omega
    · rw [h, n4]; omega
    · rw [h, n5]; omega
  exact ⟨_, List.mem_cons_self, [], rfl, zx_bnil, (zx_cs1 (by show 0 ≤ (0 : Int) + (1 * (zk_xe w 2000053 a7) + 0); omega) (zx_cs1 (by show 0 ≤ (3199 : Int) + ((-1) * (zk_xe w 2000053 a7) + 0); omega) zx_cs0)), (zx_eF1 (by show 0 ≤ (0 : Int) + (1 * a6 + 0); omega) (by show zk_xe w 2000052 ((0 : Int) + (1 * a6 + 0)) = (1 : Int) + (0); rw [show (0 : Int) + (1 * a6 + 0) = a6 by omega]; exact r.trans (by omega)) zx_eF0), zx_k0⟩
/-- brackets of the reference's steps (functions 60 to 65) -/
theorem zb_Dc {f f' : Int → Int} {a : Int} : ∀ {n : Nat}, (∀ i, a ≤ i → i < a + (n : Int) → f' i = f i) → zb_D f' a n = zb_D f a n
  | 0, _ => rfl
  | n + 1, h => by
    show zb_D f' a n + zb_v (f' (a + (n : Int))) = zb_D f a n + zb_v (f (a + (n : Int)))
    rw [zb_Dc (n := n) (fun i i1 i2 => h i i1 (by omega)), h (a + (n : Int)) (by omega) (by omega)]
theorem zb_Fc {f f' : Int → Int} {a : Int} : ∀ {n : Nat}, (∀ i, a ≤ i → i < a + (n : Int) → f' i = f i) → zb_F f' a n = zb_F f a n
  | 0, _ => rfl
  | n + 1, h => by
    show zb_F f' a n + (if f' (a + (n : Int)) = 1 then 1 else 0) = zb_F f a n + (if f (a + (n : Int)) = 1 then 1 else 0)
    rw [zb_Fc (n := n) (fun i i1 i2 => h i i1 (by omega)), h (a + (n : Int)) (by omega) (by omega)]
theorem zb_Pc {f f' : Int → Int} : ∀ {n : Nat}, (∀ i : Int, 0 ≤ i → i < (n : Int) → f' i = f i) → zb_P f' n = zb_P f n
  | 0, _ => rfl
  | n + 1, h => by
    show zb_P f' n + (if 3 ≤ f' (n : Int) then 1 else 0) = zb_P f n + (if 3 ≤ f (n : Int) then 1 else 0)
    rw [zb_Pc (n := n) (fun i i1 i2 => h i i1 (by omega)), h (n : Int) (by omega) (by omega)]
theorem zb_okc {f f' : Int → Int} {a n : Int} (h : ∀ i, a ≤ i → i < a + n → f' i = f i) (k : zb_ok f a n) : zb_ok f' a n := by
  intro i hi
  have e1 : zb_D f' a i = zb_D f a i := zb_Dc (fun z z1 z2 => h z z1 (by omega))
  have e2 : f' (a + (i : Int)) = f (a + (i : Int)) := h _ (by omega) (by omega)
  rw [e1, e2]
  exact k i hi
theorem zb_oks {f : Int → Int} {a n : Int} (n0 : 0 ≤ n) (k : zb_ok f a n) (h1 : 0 ≤ zb_D f a n.toNat ∧ zb_D f a n.toNat ≤ 63) (h2 : (14 ≤ f (a + n) ∧ f (a + n) ≤ 15 ∨ 17 ≤ f (a + n) ∧ f (a + n) ≤ 18) → 1 ≤ zb_D f a n.toNat) : zb_ok f a (n + 1) := by
  intro i hi
  by_cases hn : (i : Int) = n
  · have e : i = n.toNat := by omega
    subst e
    rw [show ((n.toNat : Nat) : Int) = n by omega]
    exact ⟨h1, h2⟩
  · exact k i (by omega)
theorem zb_Dn {f : Int → Int} {a n : Int} (n0 : 0 ≤ n) : zb_D f a (n + 1).toNat = zb_D f a n.toNat + zb_v (f (a + n)) := by
  rw [show (n + 1).toNat = n.toNat + 1 by omega]
  show zb_D f a n.toNat + zb_v (f (a + ((n.toNat : Nat) : Int))) = _
  rw [show ((n.toNat : Nat) : Int) = n by omega]
theorem zb_Fn {f : Int → Int} {a n : Int} (n0 : 0 ≤ n) : zb_F f a (n + 1).toNat = zb_F f a n.toNat + (if f (a + n) = 1 then 1 else 0) := by
  rw [show (n + 1).toNat = n.toNat + 1 by omega]
  show zb_F f a n.toNat + (if f (a + ((n.toNat : Nat) : Int)) = 1 then 1 else 0) = _
  rw [show ((n.toNat : Nat) : Int) = n by omega]
theorem zb_Pn {f : Int → Int} {n : Int} (n0 : 0 ≤ n) : zb_P f (n + 1).toNat = zb_P f n.toNat + (if 3 ≤ f n then 1 else 0) := by
  rw [show (n + 1).toNat = n.toNat + 1 by omega]
  show zb_P f n.toNat + (if 3 ≤ f ((n.toNat : Nat) : Int) then 1 else 0) = _
  rw [show ((n.toNat : Nat) : Int) = n by omega]
theorem zb_Pm {f : Int → Int} {n : Nat} : ∀ {m : Nat}, zb_P f n ≤ zb_P f (n + m)
  | 0 => Int.le_refl _
  | m + 1 => by
    have h := zb_Pm (f := f) (n := n) (m := m)
    show zb_P f n ≤ zb_P f (n + m) + (if 3 ≤ f ((n + m : Nat) : Int) then 1 else 0)
    split <;> omega
theorem zb_60 {w : zz_W} {j : Int} : zk_xe w 2000060 j = zb_D (zh_e w 208) (8000 * j) (zh_e w 207 j).toNat := by
  rw [show (2000060 : Nat) = 2000000 + 60 from rfl, zk_xe_h]
  rfl
theorem zb_61 {w : zz_W} {j : Int} : zk_xe w 2000061 j = 1 ↔ zb_ok (zh_e w 208) (8000 * j) (zh_e w 207 j) := by
  rw [show (2000061 : Nat) = 2000000 + 61 from rfl, zk_xe_h]
  exact ⟨zh_b1', zh_b1⟩
theorem zb_63 {w : zz_W} {j : Int} : zk_xe w 2000063 j = zb_F (zh_e w 208) (8000 * j) (zh_e w 207 j).toNat := by
  rw [show (2000063 : Nat) = 2000000 + 63 from rfl, zk_xe_h]
  rfl
theorem zb_62 {w : zz_W} {j k u : Int} (e : j = k + 4294967296 * u) (k0 : 0 ≤ k) (k1 : k < 4294967296) (u0 : 0 ≤ u) (u1 : u < 4294967296) : zk_xe w 2000062 j = zb_D (zh_e w 208) (8000 * u) k.toNat ∧ zk_xe w 2000064 j = zb_F (zh_e w 208) (8000 * u) k.toNat := by
  obtain ⟨x0, y0, -⟩ := zm_z1 e k0 k1
  obtain ⟨x1, -, -⟩ := zm_z1 (j := u) (a := u) (b := 0) (by omega) u0 u1
  have h1 : zv_dg 1 j = u := (y0 0).trans x1
  rw [show (2000062 : Nat) = 2000000 + 62 from rfl, zk_xe_h, show (2000064 : Nat) = 2000000 + 64 from rfl, zk_xe_h]
  constructor
  · show zb_D (zh_e w 208) (8000 * zv_dg 1 j) (zv_dg 0 j).toNat = _
    rw [x0, h1]
  · show zb_F (zh_e w 208) (8000 * zv_dg 1 j) (zv_dg 0 j).toNat = _
    rw [x0, h1]
theorem zb_65 {w : zz_W} {j : Int} : zk_xe w 2000065 j = zb_P (zh_e w 234) j.toNat := by
  rw [show (2000065 : Nat) = 2000000 + 65 from rfl, zk_xe_h]
  rfl
/-- a step is written behind the ones that are there -/
theorem zb_w1 {w w' : zz_W} {jw u n : Int} (hw : zk_rR 208 jw w w') (u0 : 0 ≤ u) (hn : zh_e w 207 u = n) (n0 : 0 ≤ n) (hP : 8000 * u + n ≤ jw) : zk_xe w' 2000060 u = zk_xe w 2000060 u ∧ (zk_xe w 2000061 u = 1 → zk_xe w' 2000061 u = 1) ∧ zk_xe w' 2000063 u = zk_xe w 2000063 u := by
  have es : zh_e w' 207 = zh_e w 207 := zh_e_g (hw.1 207 (by decide))
  have ef : ∀ i, 8000 * u ≤ i → i < 8000 * u + n → zh_e w' 208 i = zh_e w 208 i := fun i i1 i2 => hw.2 i (by omega) (by omega)
  refine ⟨?_, fun h => ?_, ?_⟩
  · rw [zb_60, zb_60, es, hn]
    exact zb_Dc (fun i i1 i2 => ef i i1 (by omega))
  · rw [zb_61] at h ⊢
    rw [es]
    rw [hn] at h ⊢
    exact zb_okc ef h
  · rw [zb_63, zb_63, es, hn]
    exact zb_Fc (fun i i1 i2 => ef i i1 (by omega))
/-- it counts -/
theorem zb_w2 {w w' : zz_W} {u n x : Int} (hw : zk_rR 207 u w w') (u0 : 0 ≤ u) (hn : zh_e w 207 u = n) (n0 : 0 ≤ n) (hV : zk_el w' 207 u = n + 1) (hx : zh_e w 208 (8000 * u + n) = x) : zk_xe w' 2000060 u = zk_xe w 2000060 u + zb_v x ∧ zk_xe w' 2000063 u = zk_xe w 2000063 u + (if x = 1 then 1 else 0) ∧ (zk_xe w 2000061 u = 1 → 0 ≤ zk_xe w 2000060 u → zk_xe w 2000060 u ≤ 63 → ((14 ≤ x ∧ x ≤ 15 ∨ 17 ≤ x ∧ x ≤ 18) → 1 ≤ zk_xe w 2000060 u) → zk_xe w' 2000061 u = 1) := by
  have ef : zh_e w' 208 = zh_e w 208 := zh_e_g (hw.1 208 (by decide))
  have es : zh_e w' 207 u = n + 1 := hV
  refine ⟨?_, ?_, fun h h1 h2 h3 => ?_⟩
  · rw [zb_60, zb_60, ef, es, hn, zb_Dn n0, hx]
  · rw [zb_63, zb_63, ef, es, hn, zb_Fn n0, hx]
  · rw [zb_61] at h ⊢
    rw [zb_60, hn] at h1 h2 h3
    rw [ef, es]
    rw [hn] at h
    refine zb_oks n0 h ⟨h1, h2⟩ (fun c => h3 ?_)
    rw [hx] at c
    exact c
theorem zb_w0 {w w' : zz_W} {u : Int} (hV : zk_el w' 207 u = 0) : zk_xe w' 2000060 u = 0 ∧ zk_xe w' 2000061 u = 1 ∧ zk_xe w' 2000063 u = 0 := by
  have es : zh_e w' 207 u = 0 := hV
  refine ⟨?_, ?_, ?_⟩
  · rw [zb_60, es]
    rfl
  · rw [zb_61, es]
    intro k hk
    omega
  · rw [zb_63, es]
    rfl
def zx_E490 : zx_V := zx_Vc 208 [] 1 [(2000060, 0), (2000061, 0), (2000063, 0), (207, 0)] [((0, 1), [(4, 1, 0)])] [((0, 0), [(2, 1, 0)]), ((0, 0), [(6, 1, 0)]), ((0, 0), [(0, 1, 0), (2, 0, 8000), (6, 0, 1)])] [(2000060, ((0, 0), [(2, 1, 0)]), ((0, 0), [(3, 1, 0)])), (2000061, ((0, 0), [(2, 1, 0)]), ((1, 0), [])), (2000063, ((0, 0), [(2, 1, 0)]), ((0, 0), [(5, 1, 0)]))]
theorem zx_E490_ok {PT : Nat → zz_W → Prop} : zx_Vok 64 zHT PT zx_E490 := by
  refine zx_Vc_ok (fun w w' j ins hI hI' h0 hw hK hl he hg => ?_)
  obtain ⟨a0, rfl⟩ := zx_i1 hl
  have e0 : ((-1) : Int) + (1 * (zk_xe w 2000061 a0) + 0) = 0 := he _ List.mem_cons_self
  have g0 : 0 ≤ (0 : Int) + (1 * a0 + 0) := hg _ List.mem_cons_self
  have g1 : 0 ≤ (0 : Int) + (1 * (zk_xe w 207 a0) + 0) := hg _ (List.mem_cons_of_mem _ List.mem_cons_self)
  have g2 : 0 ≤ (0 : Int) + (1 * j + ((-8000) * a0 + ((-1) * (zk_xe w 207 a0) + 0))) := hg _ (List.mem_cons_of_mem _ (List.mem_cons_of_mem _ List.mem_cons_self))
  have hn : zh_e w 207 (a0) = zk_xe w 207 a0 := by rw [zk_xe_r (i := 207) (by decide)]; show zk_el w 207 (a0) = zk_el w 207 a0; rw [show a0 = a0 by omega]
  obtain ⟨r1, r2, r3⟩ := zb_w1 (u := a0) (n := zk_xe w 207 a0) hw (by omega) hn (by omega) (by omega)
  have r2 := r2 (by omega)
  exact (zx_eF1 (by show 0 ≤ (0 : Int) + (1 * a0 + 0); omega) (by show zk_xe w' 2000060 ((0 : Int) + (1 * a0 + 0)) = (0 : Int) + (1 * (zk_xe w 2000060 a0) + 0); rw [show (0 : Int) + (1 * a0 + 0) = a0 by omega]; exact r1.trans (by omega)) (zx_eF1 (by show 0 ≤ (0 : Int) + (1 * a0 + 0); omega) (by show zk_xe w' 2000061 ((0 : Int) + (1 * a0 + 0)) = (1 : Int) + (0); rw [show (0 : Int) + (1 * a0 + 0) = a0 by omega]; exact r2.trans (by omega)) (zx_eF1 (by show 0 ≤ (0 : Int) + (1 * a0 + 0); omega) (by show zk_xe w' 2000063 ((0 : Int) + (1 * a0 + 0)) = (0 : Int) + (1 * (zk_xe w 2000063 a0) + 0); rw [show (0 : Int) + (1 * a0 + 0) = a0 by omega]; exact r3.trans (by omega)) zx_eF0)))
def zx_E491 : zx_V := zx_Vc 207 [] 2 [(2000060, 0), (2000061, 0), (2000063, 0), (207, 0), (208, 1)] [((0, 0), [(0, 1, 0), (2, 0, 1)]), ((0, 0), [(2, 0, 8000), (3, 1, 0), (7, 0, 1)]), ((0, 1), [(5, 1, 0)]), ((0, 1), [(1, 1, 0), (7, 0, 1)])] [((0, 0), [(8, 0, 1)]), ((0, 0), [(2, 1, 0)]), ((0, 0), [(7, 1, 0)]), ((0, 0), [(4, 1, 0)]), ((63, 0), [(4, 0, 1)])] [(2000060, ((0, 0), [(2, 1, 0)]), ((0, 0), [(4, 1, 0)])), (2000061, ((0, 0), [(2, 1, 0)]), ((1, 0), [])), (2000063, ((0, 0), [(2, 1, 0)]), ((0, 0), [(6, 1, 0)]))]
theorem zx_E491_ok {PT : Nat → zz_W → Prop} : zx_Vok 64 zHT PT zx_E491 := by
  refine zx_Vc_ok (fun w w' j ins hI hI' h0 hw hK hl he hg => ?_)
  obtain ⟨a0, a1, rfl⟩ := zx_i2 hl
  have e0 : (0 : Int) + (1 * j + ((-1) * a0 + 0)) = 0 := he _ List.mem_cons_self
  have e1 : (0 : Int) + ((-8000) * a0 + (1 * a1 + ((-1) * (zk_xe w 207 a0) + 0))) = 0 := he _ (List.mem_cons_of_mem _ List.mem_cons_self)
  have e2 : ((-1) : Int) + (1 * (zk_xe w 2000061 a0) + 0) = 0 := he _ (List.mem_cons_of_mem _ (List.mem_cons_of_mem _ List.mem_cons_self))
  have e3 : ((-1) : Int) + (1 * (zk_el w' 207 j) + ((-1) * (zk_xe w 207 a0) + 0)) = 0 := he _ (List.mem_cons_of_mem _ (List.mem_cons_of_mem _ (List.mem_cons_of_mem _ List.mem_cons_self)))
  have g0 : 0 ≤ (0 : Int) + ((-1) * (zk_xe w 208 a1) + 0) := hg _ List.mem_cons_self
  have g1 : 0 ≤ (0 : Int) + (1 * a0 + 0) := hg _ (List.mem_cons_of_mem _ List.mem_cons_self)
  have g2 : 0 ≤ (0 : Int) + (1 * (zk_xe w 207 a0) + 0) := hg _ (List.mem_cons_of_mem _ (List.mem_cons_of_mem _ List.mem_cons_self))
  have g3 : 0 ≤ (0 : Int) + (1 * (zk_xe w 2000060 a0) + 0) := hg _ (List.mem_cons_of_mem _ (List.mem_cons_of_mem _ (List.mem_cons_of_mem _ List.mem_cons_self)))
  have g4 : 0 ≤ (63 : Int) + ((-1) * (zk_xe w 2000060 a0) + 0) := hg _ (List.mem_cons_of_mem _ (List.mem_cons_of_mem _ (List.mem_cons_of_mem _ (List.mem_cons_of_mem _ List.mem_cons_self))))
  have hn : zh_e w 207 (a0) = zk_xe w 207 a0 := by rw [zk_xe_r (i := 207) (by decide)]; show zk_el w 207 (a0) = zk_el w 207 a0; rw [show a0 = a0 by omega]
  have hx : zh_e w 208 (8000 * a0 + zk_xe w 207 a0) = zk_xe w 208 a1 := by rw [zk_xe_r (i := 208) (by decide)]; show zk_el w 208 (8000 * a0 + zk_xe w 207 a0) = zk_el w 208 a1; rw [show 8000 * a0 + zk_xe w 207 a0 = a1 by omega]
  have hj : a0 = j := by omega
  subst hj
  obtain ⟨r1, r3, r2⟩ := zb_w2 (u := a0) (n := zk_xe w 207 a0) (x := zk_xe w 208 a1) hw (by omega) hn (by omega) (by omega) hx
  have r2 := r2 (by omega) (by omega) (by omega) (fun h => by omega)
  have v1 : zb_v (zk_xe w 208 a1) = 0 := by
    unfold zb_v
    rw [if_neg (by omega), if_neg (by omega)]
  have v2 : (if zk_xe w 208 a1 = 1 then (1 : Int) else 0) = 0 := by
    rw [if_neg (by omega)]
  rw [v1] at r1
  rw [v2] at r3
  exact (zx_eF1 (by show 0 ≤ (0 : Int) + (1 * a0 + 0); omega) (by show zk_xe w' 2000060 ((0 : Int) + (1 * a0 + 0)) = (0 : Int) + (1 * (zk_xe w 2000060 a0) + 0); rw [show (0 : Int) + (1 * a0 + 0) = a0 by omega]; exact r1.trans (by omega)) (zx_eF1 (by show 0 ≤ (0 : Int) + (1 * a0 + 0); omega) (by show zk_xe w' 2000061 ((0 : Int) + (1 * a0 + 0)) = (1 : Int) + (0); rw [show (0 : Int) + (1 * a0 + 0) = a0 by omega]; exact r2.trans (by omega)) (zx_eF1 (by show 0 ≤ (0 : Int) + (1 * a0 + 0); omega) (by show zk_xe w' 2000063 ((0 : Int) + (1 * a0 + 0)) = (0 : Int) + (1 * (zk_xe w 2000063 a0) + 0); rw [show (0 : Int) + (1 * a0 + 0) = a0 by omega]; exact r3.trans (by omega)) zx_eF0)))
def zx_E492 : zx_V := zx_Vc 207 [] 2 [(2000060, 0), (2000061, 0), (2000063, 0), (207, 0), (208, 1)] [((0, 0), [(0, 1, 0), (2, 0, 1)]), ((0, 0), [(2, 0, 8000), (3, 1, 0), (7, 0, 1)]), ((0, 1), [(5, 1, 0)]), ((0, 1), [(1, 1, 0), (7, 0, 1)])] [((0, 1), [(8, 1, 0)]), ((1, 0), [(8, 0, 1)]), ((0, 0), [(2, 1, 0)]), ((0, 0), [(7, 1, 0)]), ((0, 0), [(4, 1, 0)]), ((63, 0), [(4, 0, 1)])] [(2000060, ((0, 0), [(2, 1, 0)]), ((0, 0), [(4, 1, 0)])), (2000061, ((0, 0), [(2, 1, 0)]), ((1, 0), [])), (2000063, ((0, 0), [(2, 1, 0)]), ((1, 0), [(6, 1, 0)]))]
theorem zx_E492_ok {PT : Nat → zz_W → Prop} : zx_Vok 64 zHT PT zx_E492 := by
  refine zx_Vc_ok (fun w w' j ins hI hI' h0 hw hK hl he hg => ?_)
  obtain ⟨a0, a1, rfl⟩ := zx_i2 hl
  have e0 : (0 : Int) + (1 * j + ((-1) * a0 + 0)) = 0 := he _ List.mem_cons_self
  have e1 : (0 : Int) + ((-8000) * a0 + (1 * a1 + ((-1) * (zk_xe w 207 a0) + 0))) = 0 := he _ (List.mem_cons_of_mem _ List.mem_cons_self)
  have e2 : ((-1) : Int) + (1 * (zk_xe w 2000061 a0) + 0) = 0 := he _ (List.mem_cons_of_mem _ (List.mem_cons_of_mem _ List.mem_cons_self))
  have e3 : ((-1) : Int) + (1 * (zk_el w' 207 j) + ((-1) * (zk_xe w 207 a0) + 0)) = 0 := he _ (List.mem_cons_of_mem _ (List.mem_cons_of_mem _ (List.mem_cons_of_mem _ List.mem_cons_self)))
  have g0 : 0 ≤ ((-1) : Int) + (1 * (zk_xe w 208 a1) + 0) := hg _ List.mem_cons_self
  have g1 : 0 ≤ (1 : Int) + ((-1) * (zk_xe w 208 a1) + 0) := hg _ (List.mem_cons_of_mem _ List.mem_cons_self)
  have g2 : 0 ≤ (0 : Int) + (1 * a0 + 0) := hg _ (List.mem_cons_of_mem _ (List.mem_cons_of_mem _ List.mem_cons_self))
  have g3 : 0 ≤ (0 : Int) + (1 * (zk_xe w 207 a0) + 0) := hg _ (List.mem_cons_of_mem _ (List.mem_cons_of_mem _ (List.mem_cons_of_mem _ List.mem_cons_self)))
  have g4 : 0 ≤ (0 : Int) + (1 * (zk_xe w 2000060 a0) + 0) := hg _ (List.mem_cons_of_mem _ (List.mem_cons_of_mem _ (List.mem_cons_of_mem _ (List.mem_cons_of_mem _ List.mem_cons_self))))
  have g5 : 0 ≤ (63 : Int) + ((-1) * (zk_xe w 2000060 a0) + 0) := hg _ (List.mem_cons_of_mem _ (List.mem_cons_of_mem _ (List.mem_cons_of_mem _ (List.mem_cons_of_mem _ (List.mem_cons_of_mem _ List.mem_cons_self)))))
  have hn : zh_e w 207 (a0) = zk_xe w 207 a0 := by rw [zk_xe_r (i := 207) (by decide)]; show zk_el w 207 (a0) = zk_el w 207 a0; rw [show a0 = a0 by omega]
  have hx : zh_e w 208 (8000 * a0 + zk_xe w 207 a0) = zk_xe w 208 a1 := by rw [zk_xe_r (i := 208) (by decide)]; show zk_el w 208 (8000 * a0 + zk_xe w 207 a0) = zk_el w 208 a1; rw [show 8000 * a0 + zk_xe w 207 a0 = a1 by omega]
  have hj : a0 = j := by omega
  subst hj
  obtain ⟨r1, r3, r2⟩ := zb_w2 (u := a0) (n := zk_xe w 207 a0) (x := zk_xe w 208 a1) hw (by omega) hn (by omega) (by omega) hx
  have r2 := r2 (by omega) (by omega) (by omega) (fun h => by omega)
  have v1 : zb_v (zk_xe w 208 a1) = 0 := by
    unfold zb_v
    rw [if_neg (by omega), if_neg (by omega)]
  have v2 : (if zk_xe w 208 a1 = 1 then (1 : Int) else 0) = 1 := by
    rw [if_pos (by omega)]
  rw [v1] at r1
  rw [v2] at r3
  exact (zx_eF1 (by show 0 ≤ (0 : Int) + (1 * a0 + 0); omega) (by show zk_xe w' 2000060 ((0 : Int) + (1 * a0 + 0)) = (0 : Int) + (1 * (zk_xe w 2000060 a0) + 0); rw [show (0 : Int) + (1 * a0 + 0) = a0 by omega]; exact r1.trans (by omega)) (zx_eF1 (by show 0 ≤ (0 : Int) + (1 * a0 + 0); omega) (by show zk_xe w' 2000061 ((0 : Int) + (1 * a0 + 0)) = (1 : Int) + (0); rw [show (0 : Int) + (1 * a0 + 0) = a0 by omega]; exact r2.trans (by omega)) (zx_eF1 (by show 0 ≤ (0 : Int) + (1 * a0 + 0); omega) (by show zk_xe w' 2000063 ((0 : Int) + (1 * a0 + 0)) = (1 : Int) + (1 * (zk_xe w 2000063 a0) + 0); rw [show (0 : Int) + (1 * a0 + 0) = a0 by omega]; exact r3.trans (by omega)) zx_eF0)))
def zx_E493 : zx_V := zx_Vc 207 [] 2 [(2000060, 0), (2000061, 0), (2000063, 0), (207, 0), (208, 1)] [((0, 0), [(0, 1, 0), (2, 0, 1)]), ((0, 0), [(2, 0, 8000), (3, 1, 0), (7, 0, 1)]), ((0, 1), [(5, 1, 0)]), ((0, 1), [(1, 1, 0), (7, 0, 1)])] [((0, 2), [(8, 1, 0)]), ((12, 0), [(8, 0, 1)]), ((0, 0), [(2, 1, 0)]), ((0, 0), [(7, 1, 0)]), ((0, 0), [(4, 1, 0)]), ((63, 0), [(4, 0, 1)])] [(2000060, ((0, 0), [(2, 1, 0)]), ((0, 0), [(4, 1, 0)])), (2000061, ((0, 0), [(2, 1, 0)]), ((1, 0), [])), (2000063, ((0, 0), [(2, 1, 0)]), ((0, 0), [(6, 1, 0)]))]
theorem zx_E493_ok {PT : Nat → zz_W → Prop} : zx_Vok 64 zHT PT zx_E493 := by
  refine zx_Vc_ok (fun w w' j ins hI hI' h0 hw hK hl he hg => ?_)
  obtain ⟨a0, a1, rfl⟩ := zx_i2 hl
  have e0 : (0 : Int) + (1 * j + ((-1) * a0 + 0)) = 0 := he _ List.mem_cons_self
  have e1 : (0 : Int) + ((-8000) * a0 + (1 * a1 + ((-1) * (zk_xe w 207 a0) + 0))) = 0 := he _ (List.mem_cons_of_mem _ List.mem_cons_self)
  have e2 : ((-1) : Int) + (1 * (zk_xe w 2000061 a0) + 0) = 0 := he _ (List.mem_cons_of_mem _ (List.mem_cons_of_mem _ List.mem_cons_self))
  have e3 : ((-1) : Int) + (1 * (zk_el w' 207 j) + ((-1) * (zk_xe w 207 a0) + 0)) = 0 := he _ (List.mem_cons_of_mem _ (List.mem_cons_of_mem _ (List.mem_cons_of_mem _ List.mem_cons_self)))
  have g0 : 0 ≤ ((-2) : Int) + (1 * (zk_xe w 208 a1) + 0) := hg _ List.mem_cons_self
  have g1 : 0 ≤ (12 : Int) + ((-1) * (zk_xe w 208 a1) + 0) := hg _ (List.mem_cons_of_mem _ List.mem_cons_self)
  have g2 : 0 ≤ (0 : Int) + (1 * a0 + 0) := hg _ (List.mem_cons_of_mem _ (List.mem_cons_of_mem _ List.mem_cons_self))
  have g3 : 0 ≤ (0 : Int) + (1 * (zk_xe w 207 a0) + 0) := hg _ (List.mem_cons_of_mem _ (List.mem_cons_of_mem _ (List.mem_cons_of_mem _ List.mem_cons_self)))
  have g4 : 0 ≤ (0 : Int) + (1 * (zk_xe w 2000060 a0) + 0) := hg _ (List.mem_cons_of_mem _ (List.mem_cons_of_mem _ (List.mem_cons_of_mem _ (List.mem_cons_of_mem _ List.mem_cons_self))))
  have g5 : 0 ≤ (63 : Int) + ((-1) * (zk_xe w 2000060 a0) + 0) := hg _ (List.mem_cons_of_mem _ (List.mem_cons_of_mem _ (List.mem_cons_of_mem _ (List.mem_cons_of_mem _ (List.mem_cons_of_mem _ List.mem_cons_self)))))
  have hn : zh_e w 207 (a0) = zk_xe w 207 a0 := by rw [zk_xe_r (i := 207) (by decide)]; show zk_el w 207 (a0) = zk_el w 207 a0; rw [show a0 = a0 by omega]
  have hx : zh_e w 208 (8000 * a0 + zk_xe w 207 a0) = zk_xe w 208 a1 := by rw [zk_xe_r (i := 208) (by decide)]; show zk_el w 208 (8000 * a0 + zk_xe w 207 a0) = zk_el w 208 a1; rw [show 8000 * a0 + zk_xe w 207 a0 = a1 by omega]
  have hj : a0 = j := by omega
  subst hj
  obtain ⟨r1, r3, r2⟩ := zb_w2 (u := a0) (n := zk_xe w 207 a0) (x := zk_xe w 208 a1) hw (by omega) hn (by omega) (by omega) hx
  have r2 := r2 (by omega) (by omega) (by omega) (fun h => by omega)
  have v1 : zb_v (zk_xe w 208 a1) = 0 := by
    unfold zb_v
    rw [if_neg (by omega), if_neg (by omega)]
  have v2 : (if zk_xe w 208 a1 = 1 then (1 : Int) else 0) = 0 := by
    rw [if_neg (by omega)]
  rw [v1] at r1
  rw [v2] at r3
  exact (zx_eF1 (by show 0 ≤ (0 : Int) + (1 * a0 + 0); omega) (by show zk_xe w' 2000060 ((0 : Int) + (1 * a0 + 0)) = (0 : Int) + (1 * (zk_xe w 2000060 a0) + 0); rw [show (0 : Int) + (1 * a0 + 0) = a0 by omega]; exact r1.trans (by omega)) (zx_eF1 (by show 0 ≤ (0 : Int) + (1 * a0 + 0); omega) (by show zk_xe w' 2000061 ((0 : Int) + (1 * a0 + 0)) = (1 : Int) + (0); rw [show (0 : Int) + (1 * a0 + 0) = a0 by omega]; exact r2.trans (by omega)) (zx_eF1 (by show 0 ≤ (0 : Int) + (1 * a0 + 0); omega) (by show zk_xe w' 2000063 ((0 : Int) + (1 * a0 + 0)) = (0 : Int) + (1 * (zk_xe w 2000063 a0) + 0); rw [show (0 : Int) + (1 * a0 + 0) = a0 by omega]; exact r3.trans (by omega)) zx_eF0)))
def zx_E494 : zx_V := zx_Vc 207 [] 2 [(2000060, 0), (2000061, 0), (2000063, 0), (207, 0), (208, 1)] [((0, 0), [(0, 1, 0), (2, 0, 1)]), ((0, 0), [(2, 0, 8000), (3, 1, 0), (7, 0, 1)]), ((0, 1), [(5, 1, 0)]), ((0, 1), [(1, 1, 0), (7, 0, 1)])] [((0, 13), [(8, 1, 0)]), ((13, 0), [(8, 0, 1)]), ((0, 0), [(2, 1, 0)]), ((0, 0), [(7, 1, 0)]), ((0, 0), [(4, 1, 0)]), ((63, 0), [(4, 0, 1)])] [(2000060, ((0, 0), [(2, 1, 0)]), ((1, 0), [(4, 1, 0)])), (2000061, ((0, 0), [(2, 1, 0)]), ((1, 0), [])), (2000063, ((0, 0), [(2, 1, 0)]), ((0, 0), [(6, 1, 0)]))]
theorem zx_E494_ok {PT : Nat → zz_W → Prop} : zx_Vok 64 zHT PT zx_E494 := by
  refine zx_Vc_ok (fun w w' j ins hI hI' h0 hw hK hl he hg => ?_)
  obtain ⟨a0, a1, rfl⟩ := zx_i2 hl
  have e0 : (0 : Int) + (1 * j + ((-1) * a0 + 0)) = 0 := he _ List.mem_cons_self
  have e1 : (0 : Int) + ((-8000) * a0 + (1 * a1 + ((-1) * (zk_xe w 207 a0) + 0))) = 0 := he _ (List.mem_cons_of_mem _ List.mem_cons_self)
  have e2 : ((-1) : Int) + (1 * (zk_xe w 2000061 a0) + 0) = 0 := he _ (List.mem_cons_of_mem _ (List.mem_cons_of_mem _ List.mem_cons_self))
  have e3 : ((-1) : Int) + (1 * (zk_el w' 207 j) + ((-1) * (zk_xe w 207 a0) + 0)) = 0 := he _ (List.mem_cons_of_mem _ (List.mem_cons_of_mem _ (List.mem_cons_of_mem _ List.mem_cons_self)))
  have g0 : 0 ≤ ((-13) : Int) + (1 * (zk_xe w 208 a1) + 0) := hg _ List.mem_cons_self
  have g1 : 0 ≤ (13 : Int) + ((-1) * (zk_xe w 208 a1) + 0) := hg _ (List.mem_cons_of_mem _ List.mem_cons_self)
  have g2 : 0 ≤ (0 : Int) + (1 * a0 + 0) := hg _ (List.mem_cons_of_mem _ (List.mem_cons_of_mem _ List.mem_cons_self))
  have g3 : 0 ≤ (0 : Int) + (1 * (zk_xe w 207 a0) + 0) := hg _ (List.mem_cons_of_mem _ (List.mem_cons_of_mem _ (List.mem_cons_of_mem _ List.mem_cons_self)))
  have g4 : 0 ≤ (0 : Int) + (1 * (zk_xe w 2000060 a0) + 0) := hg _ (List.mem_cons_of_mem _ (List.mem_cons_of_mem _ (List.mem_cons_of_mem _ (List.mem_cons_of_mem _ List.mem_cons_self))))
  have g5 : 0 ≤ (63 : Int) + ((-1) * (zk_xe w 2000060 a0) + 0) := hg _ (List.mem_cons_of_mem _ (List.mem_cons_of_mem _ (List.mem_cons_of_mem _ (List.mem_cons_of_mem _ (List.mem_cons_of_mem _ List.mem_cons_self)))))
  have hn : zh_e w 207 (a0) = zk_xe w 207 a0 := by rw [zk_xe_r (i := 207) (by decide)]; show zk_el w 207 (a0) = zk_el w 207 a0; rw [show a0 = a0 by omega]
  have hx : zh_e w 208 (8000 * a0 + zk_xe w 207 a0) = zk_xe w 208 a1 := by rw [zk_xe_r (i := 208) (by decide)]; show zk_el w 208 (8000 * a0 + zk_xe w 207 a0) = zk_el w 208 a1; rw [show 8000 * a0 + zk_xe w 207 a0 = a1 by omega]
  have hj : a0 = j := by omega
  subst hj
  obtain ⟨r1, r3, r2⟩ := zb_w2 (u := a0) (n := zk_xe w 207 a0) (x := zk_xe w 208 a1) hw (by omega) hn (by omega) (by omega) hx
  have r2 := r2 (by omega) (by omega) (by omega) (fun h => by omega)
  have v1 : zb_v (zk_xe w 208 a1) = 1 := by
    unfold zb_v
    rw [if_pos (by omega)]
  have v2 : (if zk_xe w 208 a1 = 1 then (1 : Int) else 0) = 0 := by
    rw [if_neg (by omega)]
  rw [v1] at r1
  rw [v2] at r3
  exact (zx_eF1 (by show 0 ≤ (0 : Int) + (1 * a0 + 0); omega) (by show zk_xe w' 2000060 ((0 : Int) + (1 * a0 + 0)) = (1 : Int) + (1 * (zk_xe w 2000060 a0) + 0); rw [show (0 : Int) + (1 * a0 + 0) = a0 by omega]; exact r1.trans (by omega)) (zx_eF1 (by show 0 ≤ (0 : Int) + (1 * a0 + 0); omega) (by show zk_xe w' 2000061 ((0 : Int) + (1 * a0 + 0)) = (1 : Int) + (0); rw [show (0 : Int) + (1 * a0 + 0) = a0 by omega]; exact r2.trans (by omega)) (zx_eF1 (by show 0 ≤ (0 : Int) + (1 * a0 + 0); omega) (by show zk_xe w' 2000063 ((0 : Int) + (1 * a0 + 0)) = (0 : Int) + (1 * (zk_xe w 2000063 a0) + 0); rw [show (0 : Int) + (1 * a0 + 0) = a0 by omega]; exact r3.trans (by omega)) zx_eF0)))
def zx_E495 : zx_V := zx_Vc 207 [] 2 [(2000060, 0), (2000061, 0), (2000063, 0), (207, 0), (208, 1)] [((0, 0), [(0, 1, 0), (2, 0, 1)]), ((0, 0), [(2, 0, 8000), (3, 1, 0), (7, 0, 1)]), ((0, 1), [(5, 1, 0)]), ((0, 1), [(1, 1, 0), (7, 0, 1)])] [((0, 14), [(8, 1, 0)]), ((14, 0), [(8, 0, 1)]), ((0, 0), [(2, 1, 0)]), ((0, 0), [(7, 1, 0)]), ((0, 0), [(4, 1, 0)]), ((63, 0), [(4, 0, 1)]), ((0, 1), [(4, 1, 0)])] [(2000060, ((0, 0), [(2, 1, 0)]), ((0, 0), [(4, 1, 0)])), (2000061, ((0, 0), [(2, 1, 0)]), ((1, 0), [])), (2000063, ((0, 0), [(2, 1, 0)]), ((0, 0), [(6, 1, 0)]))]
theorem zx_E495_ok {PT : Nat → zz_W → Prop} : zx_Vok 64 zHT PT zx_E495 := by
  refine zx_Vc_ok (fun w w' j ins hI hI' h0 hw hK hl he hg => ?_)
  obtain ⟨a0, a1, rfl⟩ := zx_i2 hl
  have e0 : (0 : Int) + (1 * j + ((-1) * a0 + 0)) = 0 := he _ List.mem_cons_self
  have e1 : (0 : Int) + ((-8000) * a0 + (1 * a1 + ((-1) * (zk_xe w 207 a0) + 0))) = 0 := he _ (List.mem_cons_of_mem _ List.mem_cons_self)
  have e2 : ((-1) : Int) + (1 * (zk_xe w 2000061 a0) + 0) = 0 := he _ (List.mem_cons_of_mem _ (List.mem_cons_of_mem _ List.mem_cons_self))
  have e3 : ((-1) : Int) + (1 * (zk_el w' 207 j) + ((-1) * (zk_xe w 207 a0) + 0)) = 0 := he _ (List.mem_cons_of_mem _ (List.mem_cons_of_mem _ (List.mem_cons_of_mem _ List.mem_cons_self)))
  have g0 : 0 ≤ ((-14) : Int) + (1 * (zk_xe w 208 a1) + 0) := hg _ List.mem_cons_self
  have g1 : 0 ≤ (14 : Int) + ((-1) * (zk_xe w 208 a1) + 0) := hg _ (List.mem_cons_of_mem _ List.mem_cons_self)
  have g2 : 0 ≤ (0 : Int) + (1 * a0 + 0) := hg _ (List.mem_cons_of_mem _ (List.mem_cons_of_mem _ List.mem_cons_self))
  have g3 : 0 ≤ (0 : Int) + (1 * (zk_xe w 207 a0) + 0) := hg _ (List.mem_cons_of_mem _ (List.mem_cons_of_mem _ (List.mem_cons_of_mem _ List.mem_cons_self)))
  have g4 : 0 ≤ (0 : Int) + (1 * (zk_xe w 2000060 a0) + 0) := hg _ (List.mem_cons_of_mem _ (List.mem_cons_of_mem _ (List.mem_cons_of_mem _ (List.mem_cons_of_mem _ List.mem_cons_self))))
  have g5 : 0 ≤ (63 : Int) + ((-1) * (zk_xe w 2000060 a0) + 0) := hg _ (List.mem_cons_of_mem _ (List.mem_cons_of_mem _ (List.mem_cons_of_mem _ (List.mem_cons_of_mem _ (List.mem_cons_of_mem _ List.mem_cons_self)))))
  have g6 : 0 ≤ ((-1) : Int) + (1 * (zk_xe w 2000060 a0) + 0) := hg _ (List.mem_cons_of_mem _ (List.mem_cons_of_mem _ (List.mem_cons_of_mem _ (List.mem_cons_of_mem _ (List.mem_cons_of_mem _ (List.mem_cons_of_mem _ List.mem_cons_self))))))
  have hn : zh_e w 207 (a0) = zk_xe w 207 a0 := by rw [zk_xe_r (i := 207) (by decide)]; show zk_el w 207 (a0) = zk_el w 207 a0; rw [show a0 = a0 by omega]
  have hx : zh_e w 208 (8000 * a0 + zk_xe w 207 a0) = zk_xe w 208 a1 := by rw [zk_xe_r (i := 208) (by decide)]; show zk_el w 208 (8000 * a0 + zk_xe w 207 a0) = zk_el w 208 a1; rw [show 8000 * a0 + zk_xe w 207 a0 = a1 by omega]
  have hj : a0 = j := by omega
  subst hj
  obtain ⟨r1, r3, r2⟩ := zb_w2 (u := a0) (n := zk_xe w 207 a0) (x := zk_xe w 208 a1) hw (by omega) hn (by omega) (by omega) hx
  have r2 := r2 (by omega) (by omega) (by omega) (fun h => by omega)
  have v1 : zb_v (zk_xe w 208 a1) = 0 := by
    unfold zb_v
    rw [if_neg (by omega), if_neg (by omega)]
  have v2 : (if zk_xe w 208 a1 = 1 then (1 : Int) else 0) = 0 := by
    rw [if_neg (by omega)]
  rw [v1] at r1
  rw [v2] at r3
  exact (zx_eF1 (by show 0 ≤ (0 : Int) + (1 * a0 + 0); omega) (by show zk_xe w' 2000060 ((0 : Int) + (1 * a0 + 0)) = (0 : Int) + (1 * (zk_xe w 2000060 a0) + 0); rw [show (0 : Int) + (1 * a0 + 0) = a0 by omega]; exact r1.trans (by omega)) (zx_eF1 (by show 0 ≤ (0 : Int) + (1 * a0 + 0); omega) (by show zk_xe w' 2000061 ((0 : Int) + (1 * a0 + 0)) = (1 : Int) + (0); rw [show (0 : Int) + (1 * a0 + 0) = a0 by omega]; exact r2.trans (by omega)) (zx_eF1 (by show 0 ≤ (0 : Int) + (1 * a0 + 0); omega) (by show zk_xe w' 2000063 ((0 : Int) + (1 * a0 + 0)) = (0 : Int) + (1 * (zk_xe w 2000063 a0) + 0); rw [show (0 : Int) + (1 * a0 + 0) = a0 by omega]; exact r3.trans (by omega)) zx_eF0)))
def zx_E496 : zx_V := zx_Vc 207 [] 2 [(2000060, 0), (2000061, 0), (2000063, 0), (207, 0), (208, 1)] [((0, 0), [(0, 1, 0), (2, 0, 1)]), ((0, 0), [(2, 0, 8000), (3, 1, 0), (7, 0, 1)]), ((0, 1), [(5, 1, 0)]), ((0, 1), [(1, 1, 0), (7, 0, 1)])] [((0, 15), [(8, 1, 0)]), ((15, 0), [(8, 0, 1)]), ((0, 0), [(2, 1, 0)]), ((0, 0), [(7, 1, 0)]), ((0, 0), [(4, 1, 0)]), ((63, 0), [(4, 0, 1)]), ((0, 1), [(4, 1, 0)])] [(2000060, ((0, 0), [(2, 1, 0)]), ((0, 1), [(4, 1, 0)])), (2000061, ((0, 0), [(2, 1, 0)]), ((1, 0), [])), (2000063, ((0, 0), [(2, 1, 0)]), ((0, 0), [(6, 1, 0)]))]
theorem zx_E496_ok {PT : Nat → zz_W → Prop} : zx_Vok 64 zHT PT zx_E496 := by
  refine zx_Vc_ok (fun w w' j ins hI hI' h0 hw hK hl he hg => ?_)
  obtain ⟨a0, a1, rfl⟩ := zx_i2 hl
  have e0 : (0 : Int) + (1 * j + ((-1) * a0 + 0)) = 0 := he _ List.mem_cons_self
  have e1 : (0 : Int) + ((-8000) * a0 + (1 * a1 + ((-1) * (zk_xe w 207 a0) + 0))) = 0 := he _ (List.mem_cons_of_mem _ List.mem_cons_self)
  have e2 : ((-1) : Int) + (1 * (zk_xe w 2000061 a0) + 0) = 0 := he _ (List.mem_cons_of_mem _ (List.mem_cons_of_mem _ List.mem_cons_self))
  have e3 : ((-1) : Int) + (1 * (zk_el w' 207 j) + ((-1) * (zk_xe w 207 a0) + 0)) = 0 := he _ (List.mem_cons_of_mem _ (List.mem_cons_of_mem _ (List.mem_cons_of_mem _ List.mem_cons_self)))
  have g0 : 0 ≤ ((-15) : Int) + (1 * (zk_xe w 208 a1) + 0) := hg _ List.mem_cons_self
  have g1 : 0 ≤ (15 : Int) + ((-1) * (zk_xe w 208 a1) + 0) := hg _ (List.mem_cons_of_mem _ List.mem_cons_self)
  have g2 : 0 ≤ (0 : Int) + (1 * a0 + 0) := hg _ (List.mem_cons_of_mem _ (List.mem_cons_of_mem _ List.mem_cons_self))
  have g3 : 0 ≤ (0 : Int) + (1 * (zk_xe w 207 a0) + 0) := hg _ (List.mem_cons_of_mem _ (List.mem_cons_of_mem _ (List.mem_cons_of_mem _ List.mem_cons_self)))
  have g4 : 0 ≤ (0 : Int) + (1 * (zk_xe w 2000060 a0) + 0) := hg _ (List.mem_cons_of_mem _ (List.mem_cons_of_mem _ (List.mem_cons_of_mem _ (List.mem_cons_of_mem _ List.mem_cons_self))))
  have g5 : 0 ≤ (63 : Int) + ((-1) * (zk_xe w 2000060 a0) + 0) := hg _ (List.mem_cons_of_mem _ (List.mem_cons_of_mem _ (List.mem_cons_of_mem _ (List.mem_cons_of_mem _ (List.mem_cons_of_mem _ List.mem_cons_self)))))
  have g6 : 0 ≤ ((-1) : Int) + (1 * (zk_xe w 2000060 a0) + 0) := hg _ (List.mem_cons_of_mem _ (List.mem_cons_of_mem _ (List.mem_cons_of_mem _ (List.mem_cons_of_mem _ (List.mem_cons_of_mem _ (List.mem_cons_of_mem _ List.mem_cons_self))))))
  have hn : zh_e w 207 (a0) = zk_xe w 207 a0 := by rw [zk_xe_r (i := 207) (by decide)]; show zk_el w 207 (a0) = zk_el w 207 a0; rw [show a0 = a0 by omega]
  have hx : zh_e w 208 (8000 * a0 + zk_xe w 207 a0) = zk_xe w 208 a1 := by rw [zk_xe_r (i := 208) (by decide)]; show zk_el w 208 (8000 * a0 + zk_xe w 207 a0) = zk_el w 208 a1; rw [show 8000 * a0 + zk_xe w 207 a0 = a1 by omega]
  have hj : a0 = j := by omega
  subst hj
  obtain ⟨r1, r3, r2⟩ := zb_w2 (u := a0) (n := zk_xe w 207 a0) (x := zk_xe w 208 a1) hw (by omega) hn (by omega) (by omega) hx
  have r2 := r2 (by omega) (by omega) (by omega) (fun h => by omega)
  have v1 : zb_v (zk_xe w 208 a1) = -1 := by
    unfold zb_v
    rw [if_neg (by omega), if_pos (by omega)]
  have v2 : (if zk_xe w 208 a1 = 1 then (1 : Int) else 0) = 0 := by
    rw [if_neg (by omega)]
  rw [v1] at r1
  rw [v2] at r3
  exact (zx_eF1 (by show 0 ≤ (0 : Int) + (1 * a0 + 0); omega) (by show zk_xe w' 2000060 ((0 : Int) + (1 * a0 + 0)) = ((-1) : Int) + (1 * (zk_xe w 2000060 a0) + 0); rw [show (0 : Int) + (1 * a0 + 0) = a0 by omega]; exact r1.trans (by omega)) (zx_eF1 (by show 0 ≤ (0 : Int) + (1 * a0 + 0); omega) (by show zk_xe w' 2000061 ((0 : Int) + (1 * a0 + 0)) = (1 : Int) + (0); rw [show (0 : Int) + (1 * a0 + 0) = a0 by omega]; exact r2.trans (by omega)) (zx_eF1 (by show 0 ≤ (0 : Int) + (1 * a0 + 0); omega) (by show zk_xe w' 2000063 ((0 : Int) + (1 * a0 + 0)) = (0 : Int) + (1 * (zk_xe w 2000063 a0) + 0); rw [show (0 : Int) + (1 * a0 + 0) = a0 by omega]; exact r3.trans (by omega)) zx_eF0)))
def zx_E497 : zx_V := zx_Vc 207 [] 2 [(2000060, 0), (2000061, 0), (2000063, 0), (207, 0), (208, 1)] [((0, 0), [(0, 1, 0), (2, 0, 1)]), ((0, 0), [(2, 0, 8000), (3, 1, 0), (7, 0, 1)]), ((0, 1), [(5, 1, 0)]), ((0, 1), [(1, 1, 0), (7, 0, 1)])] [((0, 16), [(8, 1, 0)]), ((16, 0), [(8, 0, 1)]), ((0, 0), [(2, 1, 0)]), ((0, 0), [(7, 1, 0)]), ((0, 0), [(4, 1, 0)]), ((63, 0), [(4, 0, 1)])] [(2000060, ((0, 0), [(2, 1, 0)]), ((1, 0), [(4, 1, 0)])), (2000061, ((0, 0), [(2, 1, 0)]), ((1, 0), [])), (2000063, ((0, 0), [(2, 1, 0)]), ((0, 0), [(6, 1, 0)]))]
theorem zx_E497_ok {PT : Nat → zz_W → Prop} : zx_Vok 64 zHT PT zx_E497 := by
  refine zx_Vc_ok (fun w w' j ins hI hI' h0 hw hK hl he hg => ?_)
  obtain ⟨a0, a1, rfl⟩ := zx_i2 hl
  have e0 : (0 : Int) + (1 * j + ((-1) * a0 + 0)) = 0 := he _ List.mem_cons_self
  have e1 : (0 : Int) + ((-8000) * a0 + (1 * a1 + ((-1) * (zk_xe w 207 a0) + 0))) = 0 := he _ (List.mem_cons_of_mem _ List.mem_cons_self)
  have e2 : ((-1) : Int) + (1 * (zk_xe w 2000061 a0) + 0) = 0 := he _ (List.mem_cons_of_mem _ (List.mem_cons_of_mem _ List.mem_cons_self))
  have e3 : ((-1) : Int) + (1 * (zk_el w' 207 j) + ((-1) * (zk_xe w 207 a0) + 0)) = 0 := he _ (List.mem_cons_of_mem _ (List.mem_cons_of_mem _ (List.mem_cons_of_mem _ List.mem_cons_self)))
  have g0 : 0 ≤ ((-16) : Int) + (1 * (zk_xe w 208 a1) + 0) := hg _ List.mem_cons_self
  have g1 : 0 ≤ (16 : Int) + ((-1) * (zk_xe w 208 a1) + 0) := hg _ (List.mem_cons_of_mem _ List.mem_cons_self)
  have g2 : 0 ≤ (0 : Int) + (1 * a0 + 0) := hg _ (List.mem_cons_of_mem _ (List.mem_cons_of_mem _ List.mem_cons_self))
  have g3 : 0 ≤ (0 : Int) + (1 * (zk_xe w 207 a0) + 0) := hg _ (List.mem_cons_of_mem _ (List.mem_cons_of_mem _ (List.mem_cons_of_mem _ List.mem_cons_self)))
  have g4 : 0 ≤ (0 : Int) + (1 * (zk_xe w 2000060 a0) + 0) := hg _ (List.mem_cons_of_mem _ (List.mem_cons_of_mem _ (List.mem_cons_of_mem _ (List.mem_cons_of_mem _ List.mem_cons_self))))
  have g5 : 0 ≤ (63 : Int) + ((-1) * (zk_xe w 2000060 a0) + 0) := hg _ (List.mem_cons_of_mem _ (List.mem_cons_of_mem _ (List.mem_cons_of_mem _ (List.mem_cons_of_mem _ (List.mem_cons_of_mem _ List.mem_cons_self)))))
  have hn : zh_e w 207 (a0) = zk_xe w 207 a0 := by rw [zk_xe_r (i := 207) (by decide)]; show zk_el w 207 (a0) = zk_el w 207 a0; rw [show a0 = a0 by omega]
  have hx : zh_e w 208 (8000 * a0 + zk_xe w 207 a0) = zk_xe w 208 a1 := by rw [zk_xe_r (i := 208) (by decide)]; show zk_el w 208 (8000 * a0 + zk_xe w 207 a0) = zk_el w 208 a1; rw [show 8000 * a0 + zk_xe w 207 a0 = a1 by omega]
  have hj : a0 = j := by omega
  subst hj
  obtain ⟨r1, r3, r2⟩ := zb_w2 (u := a0) (n := zk_xe w 207 a0) (x := zk_xe w 208 a1) hw (by omega) hn (by omega) (by omega) hx
  have r2 := r2 (by omega) (by omega) (by omega) (fun h => by omega)
  have v1 : zb_v (zk_xe w 208 a1) = 1 := by
    unfold zb_v
    rw [if_pos (by omega)]
  have v2 : (if zk_xe w 208 a1 = 1 then (1 : Int) else 0) = 0 := by
    rw [if_neg (by omega)]
  rw [v1] at r1
  rw [v2] at r3
  exact (zx_eF1 (by show 0 ≤ (0 : Int) + (1 * a0 + 0); omega) (by show zk_xe w' 2000060 ((0 : Int) + (1 * a0 + 0)) = (1 : Int) + (1 * (zk_xe w 2000060 a0) + 0); rw [show (0 : Int) + (1 * a0 + 0) = a0 by omega]; exact r1.trans (by omega)) (zx_eF1 (by show 0 ≤ (0 : Int) + (1 * a0 + 0); omega) (by show zk_xe w' 2000061 ((0 : Int) + (1 * a0 + 0)) = (1 : Int) + (0); rw [show (0 : Int) + (1 * a0 + 0) = a0 by omega]; exact r2.trans (by omega)) (zx_eF1 (by show 0 ≤ (0 : Int) + (1 * a0 + 0); omega) (by show zk_xe w' 2000063 ((0 : Int) + (1 * a0 + 0)) = (0 : Int) + (1 * (zk_xe w 2000063 a0) + 0); rw [show (0 : Int) + (1 * a0 + 0) = a0 by omega]; exact r3.trans (by omega)) zx_eF0)))
def zx_E498 : zx_V := zx_Vc 207 [] 2 [(2000060, 0), (2000061, 0), (2000063, 0), (207, 0), (208, 1)] [((0, 0), [(0, 1, 0), (2, 0, 1)]), ((0, 0), [(2, 0, 8000), (3, 1, 0), (7, 0, 1)]), ((0, 1), [(5, 1, 0)]), ((0, 1), [(1, 1, 0), (7, 0, 1)])] [((0, 17), [(8, 1, 0)]), ((17, 0), [(8, 0, 1)]), ((0, 0), [(2, 1, 0)]), ((0, 0), [(7, 1, 0)]), ((0, 0), [(4, 1, 0)]), ((63, 0), [(4, 0, 1)]), ((0, 1), [(4, 1, 0)])] [(2000060, ((0, 0), [(2, 1, 0)]), ((0, 0), [(4, 1, 0)])), (2000061, ((0, 0), [(2, 1, 0)]), ((1, 0), [])), (2000063, ((0, 0), [(2, 1, 0)]), ((0, 0), [(6, 1, 0)]))]
theorem zx_E498_ok {PT : Nat → zz_W → Prop} : zx_Vok 64 zHT PT zx_E498 := by
  refine zx_Vc_ok (fun w w' j ins hI hI' h0 hw hK hl he hg => ?_)
  obtain ⟨a0, a1, rfl⟩ := zx_i2 hl
  have e0 : (0 : Int) + (1 * j + ((-1) * a0 + 0)) = 0 := he _ List.mem_cons_self
  have e1 : (0 : Int) + ((-8000) * a0 + (1 * a1 + ((-1) * (zk_xe w 207 a0) + 0))) = 0 := he _ (List.mem_cons_of_mem _ List.mem_cons_self)
  have e2 : ((-1) : Int) + (1 * (zk_xe w 2000061 a0) + 0) = 0 := he _ (List.mem_cons_of_mem _ (List.mem_cons_of_mem _ List.mem_cons_self))
  have e3 : ((-1) : Int) + (1 * (zk_el w' 207 j) + ((-1) * (zk_xe w 207 a0) + 0)) = 0 := he _ (List.mem_cons_of_mem _ (List.mem_cons_of_mem _ (List.mem_cons_of_mem _ List.mem_cons_self)))
  have g0 : 0 ≤ ((-17) : Int) + (1 * (zk_xe w 208 a1) + 0) := hg _ List.mem_cons_self
  have g1 : 0 ≤ (17 : Int) + ((-1) * (zk_xe w 208 a1) + 0) := hg _ (List.mem_cons_of_mem _ List.mem_cons_self)
  have g2 : 0 ≤ (0 : Int) + (1 * a0 + 0) := hg _ (List.mem_cons_of_mem _ (List.mem_cons_of_mem _ List.mem_cons_self))
  have g3 : 0 ≤ (0 : Int) + (1 * (zk_xe w 207 a0) + 0) := hg _ (List.mem_cons_of_mem _ (List.mem_cons_of_mem _ (List.mem_cons_of_mem _ List.mem_cons_self)))
  have g4 : 0 ≤ (0 : Int) + (1 * (zk_xe w 2000060 a0) + 0) := hg _ (List.mem_cons_of_mem _ (List.mem_cons_of_mem _ (List.mem_cons_of_mem _ (List.mem_cons_of_mem _ List.mem_cons_self))))
  have g5 : 0 ≤ (63 : Int) + ((-1) * (zk_xe w 2000060 a0) + 0) := hg _ (List.mem_cons_of_mem _ (List.mem_cons_of_mem _ (List.mem_cons_of_mem _ (List.mem_cons_of_mem _ (List.mem_cons_of_mem _ List.mem_cons_self)))))
  have g6 : 0 ≤ ((-1) : Int) + (1 * (zk_xe w 2000060 a0) + 0) := hg _ (List.mem_cons_of_mem _ (List.mem_cons_of_mem _ (List.mem_cons_of_mem _ (List.mem_cons_of_mem _ (List.mem_cons_of_mem _ (List.mem_cons_of_mem _ List.mem_cons_self))))))
  have hn : zh_e w 207 (a0) = zk_xe w 207 a0 := by rw [zk_xe_r (i := 207) (by decide)]; show zk_el w 207 (a0) = zk_el w 207 a0; rw [show a0 = a0 by omega]
  have hx : zh_e w 208 (8000 * a0 + zk_xe w 207 a0) = zk_xe w 208 a1 := by rw [zk_xe_r (i := 208) (by decide)]; show zk_el w 208 (8000 * a0 + zk_xe w 207 a0) = zk_el w 208 a1; rw [show 8000 * a0 + zk_xe w 207 a0 = a1 by omega]
  have hj : a0 = j := by omega
  subst hj
  obtain ⟨r1, r3, r2⟩ := zb_w2 (u := a0) (n := zk_xe w 207 a0) (x := zk_xe w 208 a1) hw (by omega) hn (by omega) (by omega) hx
  have r2 := r2 (by omega) (by omega) (by omega) (fun h => by omega)
  have v1 : zb_v (zk_xe w 208 a1) = 0 := by
    unfold zb_v
    rw [if_neg (by omega), if_neg (by omega)]
  have v2 : (if zk_xe w 208 a1 = 1 then (1 : Int) else 0) = 0 := by
    rw [if_neg (by omega)]
  rw [v1] at r1
  rw [v2] at r3
  exact (zx_eF1 (by show 0 ≤ (0 : Int) + (1 * a0 + 0); omega) (by show zk_xe w' 2000060 ((0 : Int) + (1 * a0 + 0)) = (0 : Int) + (1 * (zk_xe w 2000060 a0) + 0); rw [show (0 : Int) + (1 * a0 + 0) = a0 by omega]; exact r1.trans (by omega)) (zx_eF1 (by show 0 ≤ (0 : Int) + (1 * a0 + 0); omega) (by show zk_xe w' 2000061 ((0 : Int) + (1 * a0 + 0)) = (1 : Int) + (0); rw [show (0 : Int) + (1 * a0 + 0) = a0 by omega]; exact r2.trans (by omega)) (zx_eF1 (by show 0 ≤ (0 : Int) + (1 * a0 + 0); omega) (by show zk_xe w' 2000063 ((0 : Int) + (1 * a0 + 0)) = (0 : Int) + (1 * (zk_xe w 2000063 a0) + 0); rw [show (0 : Int) + (1 * a0 + 0) = a0 by omega]; exact r3.trans (by omega)) zx_eF0)))
def zx_E499 : zx_V := zx_Vc 207 [] 2 [(2000060, 0), (2000061, 0), (2000063, 0), (207, 0), (208, 1)] [((0, 0), [(0, 1, 0), (2, 0, 1)]), ((0, 0), [(2, 0, 8000), (3, 1, 0), (7, 0, 1)]), ((0, 1), [(5, 1, 0)]), ((0, 1), [(1, 1, 0), (7, 0, 1)])] [((0, 18), [(8, 1, 0)]), ((18, 0), [(8, 0, 1)]), ((0, 0), [(2, 1, 0)]), ((0, 0), [(7, 1, 0)]), ((0, 0), [(4, 1, 0)]), ((63, 0), [(4, 0, 1)]), ((0, 1), [(4, 1, 0)])] [(2000060, ((0, 0), [(2, 1, 0)]), ((0, 1), [(4, 1, 0)])), (2000061, ((0, 0), [(2, 1, 0)]), ((1, 0), [])), (2000063, ((0, 0), [(2, 1, 0)]), ((0, 0), [(6, 1, 0)]))]
theorem zx_E499_ok {PT : Nat → zz_W → Prop} : zx_Vok 64 zHT PT zx_E499 := by
  refine zx_Vc_ok (fun w w' j ins hI hI' h0 hw hK hl he hg => ?_)
  obtain ⟨a0, a1, rfl⟩ := zx_i2 hl
  have e0 : (0 : Int) + (1 * j + ((-1) * a0 + 0)) = 0 := he _ List.mem_cons_self
  have e1 : (0 : Int) + ((-8000) * a0 + (1 * a1 + ((-1) * (zk_xe w 207 a0) + 0))) = 0 := he _ (List.mem_cons_of_mem _ List.mem_cons_self)
  have e2 : ((-1) : Int) + (1 * (zk_xe w 2000061 a0) + 0) = 0 := he _ (List.mem_cons_of_mem _ (List.mem_cons_of_mem _ List.mem_cons_self))
  have e3 : ((-1) : Int) + (1 * (zk_el w' 207 j) + ((-1) * (zk_xe w 207 a0) + 0)) = 0 := he _ (List.mem_cons_of_mem _ (List.mem_cons_of_mem _ (List.mem_cons_of_mem _ List.mem_cons_self)))
  have g0 : 0 ≤ ((-18) : Int) + (1 * (zk_xe w 208 a1) + 0) := hg _ List.mem_cons_self
  have g1 : 0 ≤ (18 : Int) + ((-1) * (zk_xe w 208 a1) + 0) := hg _ (List.mem_cons_of_mem _ List.mem_cons_self)
  have g2 : 0 ≤ (0 : Int) + (1 * a0 + 0) := hg _ (List.mem_cons_of_mem _ (List.mem_cons_of_mem _ List.mem_cons_self))
  have g3 : 0 ≤ (0 : Int) + (1 * (zk_xe w 207 a0) + 0) := hg _ (List.mem_cons_of_mem _ (List.mem_cons_of_mem _ (List.mem_cons_of_mem _ List.mem_cons_self)))
  have g4 : 0 ≤ (0 : Int) + (1 * (zk_xe w 2000060 a0) + 0) := hg _ (List.mem_cons_of_mem _ (List.mem_cons_of_mem _ (List.mem_cons_of_mem _ (List.mem_cons_of_mem _ List.mem_cons_self))))
  have g5 : 0 ≤ (63 : Int) + ((-1) * (zk_xe w 2000060 a0) + 0) := hg _ (List.mem_cons_of_mem _ (List.mem_cons_of_mem _ (List.mem_cons_of_mem _ (List.mem_cons_of_mem _ (List.mem_cons_of_mem _ List.mem_cons_self)))))
  have g6 : 0 ≤ ((-1) : Int) + (1 * (zk_xe w 2000060 a0) + 0) := hg _ (List.mem_cons_of_mem _ (List.mem_cons_of_mem _ (List.mem_cons_of_mem _ (List.mem_cons_of_mem _ (List.mem_cons_of_mem _ (List.mem_cons_of_mem _ List.mem_cons_self))))))
  have hn : zh_e w 207 (a0) = zk_xe w 207 a0 := by rw [zk_xe_r (i := 207) (by decide)]; show zk_el w 207 (a0) = zk_el w 207 a0; rw [show a0 = a0 by omega]
  have hx : zh_e w 208 (8000 * a0 + zk_xe w 207 a0) = zk_xe w 208 a1 := by rw [zk_xe_r (i := 208) (by decide)]; show zk_el w 208 (8000 * a0 + zk_xe w 207 a0) = zk_el w 208 a1; rw [show 8000 * a0 + zk_xe w 207 a0 = a1 by omega]
  have hj : a0 = j := by omega
  subst hj
  obtain ⟨r1, r3, r2⟩ := zb_w2 (u := a0) (n := zk_xe w 207 a0) (x := zk_xe w 208 a1) hw (by omega) hn (by omega) (by omega) hx
  have r2 := r2 (by omega) (by omega) (by omega) (fun h => by omega)
  have v1 : zb_v (zk_xe w 208 a1) = -1 := by
    unfold zb_v
    rw [if_neg (by omega), if_pos (by omega)]
  have v2 : (if zk_xe w 208 a1 = 1 then (1 : Int) else 0) = 0 := by
    rw [if_neg (by omega)]
  rw [v1] at r1
  rw [v2] at r3
  exact (zx_eF1 (by show 0 ≤ (0 : Int) + (1 * a0 + 0); omega) (by show zk_xe w' 2000060 ((0 : Int) + (1 * a0 + 0)) = ((-1) : Int) + (1 * (zk_xe w 2000060 a0) + 0); rw [show (0 : Int) + (1 * a0 + 0) = a0 by omega]; exact r1.trans (by omega)) (zx_eF1 (by show 0 ≤ (0 : Int) + (1 * a0 + 0); omega) (by show zk_xe w' 2000061 ((0 : Int) + (1 * a0 + 0)) = (1 : Int) + (0); rw [show (0 : Int) + (1 * a0 + 0) = a0 by omega]; exact r2.trans (by omega)) (zx_eF1 (by show 0 ≤ (0 : Int) + (1 * a0 + 0); omega) (by show zk_xe w' 2000063 ((0 : Int) + (1 * a0 + 0)) = (0 : Int) + (1 * (zk_xe w 2000063 a0) + 0); rw [show (0 : Int) + (1 * a0 + 0) = a0 by omega]; exact r3.trans (by omega)) zx_eF0)))
def zx_E500 : zx_V := zx_Vc 207 [] 2 [(2000060, 0), (2000061, 0), (2000063, 0), (207, 0), (208, 1)] [((0, 0), [(0, 1, 0), (2, 0, 1)]), ((0, 0), [(2, 0, 8000), (3, 1, 0), (7, 0, 1)]), ((0, 1), [(5, 1, 0)]), ((0, 1), [(1, 1, 0), (7, 0, 1)])] [((0, 19), [(8, 1, 0)]), ((0, 0), [(2, 1, 0)]), ((0, 0), [(7, 1, 0)]), ((0, 0), [(4, 1, 0)]), ((63, 0), [(4, 0, 1)])] [(2000060, ((0, 0), [(2, 1, 0)]), ((0, 0), [(4, 1, 0)])), (2000061, ((0, 0), [(2, 1, 0)]), ((1, 0), [])), (2000063, ((0, 0), [(2, 1, 0)]), ((0, 0), [(6, 1, 0)]))]
theorem zx_E500_ok {PT : Nat → zz_W → Prop} : zx_Vok 64 zHT PT zx_E500 := by
  refine zx_Vc_ok (fun w w' j ins hI hI' h0 hw hK hl he hg => ?_)
  obtain ⟨a0, a1, rfl⟩ := zx_i2 hl
  have e0 : (0 : Int) + (1 * j + ((-1) * a0 + 0)) = 0 := he _ List.mem_cons_self
  have e1 : (0 : Int) + ((-8000) * a0 + (1 * a1 + ((-1) * (zk_xe w 207 a0) + 0))) = 0 := he _ (List.mem_cons_of_mem _ List.mem_cons_self)
  have e2 : ((-1) : Int) + (1 * (zk_xe w 2000061 a0) + 0) = 0 := he _ (List.mem_cons_of_mem _ (List.mem_cons_of_mem _ List.mem_cons_self))
  have e3 : ((-1) : Int) + (1 * (zk_el w' 207 j) + ((-1) * (zk_xe w 207 a0) + 0)) = 0 := he _ (List.mem_cons_of_mem _ (List.mem_cons_of_mem _ (List.mem_cons_of_mem _ List.mem_cons_self)))
  have g0 : 0 ≤ ((-19) : Int) + (1 * (zk_xe w 208 a1) + 0) := hg _ List.mem_cons_self
  have g1 : 0 ≤ (0 : Int) + (1 * a0 + 0) := hg _ (List.mem_cons_of_mem _ List.mem_cons_self)
  have g2 : 0 ≤ (0 : Int) + (1 * (zk_xe w 207 a0) + 0) := hg _ (List.mem_cons_of_mem _ (List.mem_cons_of_mem _ List.mem_cons_self))
  have g3 : 0 ≤ (0 : Int) + (1 * (zk_xe w 2000060 a0) + 0) := hg _ (List.mem_cons_of_mem _ (List.mem_cons_of_mem _ (List.mem_cons_of_mem _ List.mem_cons_self)))
  have g4 : 0 ≤ (63 : Int) + ((-1) * (zk_xe w 2000060 a0) + 0) := hg _ (List.mem_cons_of_mem _ (List.mem_cons_of_mem _ (List.mem_cons_of_mem _ (List.mem_cons_of_mem _ List.mem_cons_self))))
  have hn : zh_e w 207 (a0) = zk_xe w 207 a0 := by rw [zk_xe_r (i := 207) (by decide)]; show zk_el w 207 (a0) = zk_el w 207 a0; rw [show a0 = a0 by omega]
  have hx : zh_e w 208 (8000 * a0 + zk_xe w 207 a0) = zk_xe w 208 a1 := by rw [zk_xe_r (i := 208) (by decide)]; show zk_el w 208 (8000 * a0 + zk_xe w 207 a0) = zk_el w 208 a1; rw [show 8000 * a0 + zk_xe w 207 a0 = a1 by omega]
  have hj : a0 = j := by omega
  subst hj
  obtain ⟨r1, r3, r2⟩ := zb_w2 (u := a0) (n := zk_xe w 207 a0) (x := zk_xe w 208 a1) hw (by omega) hn (by omega) (by omega) hx
  have r2 := r2 (by omega) (by omega) (by omega) (fun h => by omega)
  have v1 : zb_v (zk_xe w 208 a1) = 0 := by
    unfold zb_v
    rw [if_neg (by omega), if_neg (by omega)]
  have v2 : (if zk_xe w 208 a1 = 1 then (1 : Int) else 0) = 0 := by
    rw [if_neg (by omega)]
  rw [v1] at r1
  rw [v2] at r3
  exact (zx_eF1 (by show 0 ≤ (0 : Int) + (1 * a0 + 0); omega) (by show zk_xe w' 2000060 ((0 : Int) + (1 * a0 + 0)) = (0 : Int) + (1 * (zk_xe w 2000060 a0) + 0); rw [show (0 : Int) + (1 * a0 + 0) = a0 by omega]; exact r1.trans (by omega)) (zx_eF1 (by show 0 ≤ (0 : Int) + (1 * a0 + 0); omega) (by show zk_xe w' 2000061 ((0 : Int) + (1 * a0 + 0)) = (1 : Int) + (0); rw [show (0 : Int) + (1 * a0 + 0) = a0 by omega]; exact r2.trans (by omega)) (zx_eF1 (by show 0 ≤ (0 : Int) + (1 * a0 + 0); omega) (by show zk_xe w' 2000063 ((0 : Int) + (1 * a0 + 0)) = (0 : Int) + (1 * (zk_xe w 2000063 a0) + 0); rw [show (0 : Int) + (1 * a0 + 0) = a0 by omega]; exact r3.trans (by omega)) zx_eF0)))
def zx_E501 : zx_V := zx_Vc 207 [] 1 [] [((0, 0), [(0, 1, 0), (2, 0, 1)]), ((0, 0), [(1, 1, 0)])] [((0, 0), [(2, 1, 0)])] [(2000060, ((0, 0), [(2, 1, 0)]), ((0, 0), [])), (2000061, ((0, 0), [(2, 1, 0)]), ((1, 0), [])), (2000063, ((0, 0), [(2, 1, 0)]), ((0, 0), []))]
theorem zx_E501_ok {PT : Nat → zz_W → Prop} : zx_Vok 64 zHT PT zx_E501 := by
  refine zx_Vc_ok (fun w w' j ins hI hI' h0 hw hK hl he hg => ?_)
  obtain ⟨a0, rfl⟩ := zx_i1 hl
  have e0 : (0 : Int) + (1 * j + ((-1) * a0 + 0)) = 0 := he _ List.mem_cons_self
  have e1 : (0 : Int) + (1 * (zk_el w' 207 j) + 0) = 0 := he _ (List.mem_cons_of_mem _ List.mem_cons_self)
  have g0 : 0 ≤ (0 : Int) + (1 * a0 + 0) := hg _ List.mem_cons_self
  have hj : a0 = j := by omega
  subst hj
  obtain ⟨r1, r2, r3⟩ := zb_w0 (w := w) (w' := w') (u := a0) (by omega)
  exact (zx_eF1 (by show 0 ≤ (0 : Int) + (1 * a0 + 0); omega) (by show zk_xe w' 2000060 ((0 : Int) + (1 * a0 + 0)) = (0 : Int) + (0); rw [show (0 : Int) + (1 * a0 + 0) = a0 by omega]; exact r1.trans (by omega)) (zx_eF1 (by show 0 ≤ (0 : Int) + (1 * a0 + 0); omega) (by show zk_xe w' 2000061 ((0 : Int) + (1 * a0 + 0)) = (1 : Int) + (0); rw [show (0 : Int) + (1 * a0 + 0) = a0 by omega]; exact r2.trans (by omega)) (zx_eF1 (by show 0 ≤ (0 : Int) + (1 * a0 + 0); omega) (by show zk_xe w' 2000063 ((0 : Int) + (1 * a0 + 0)) = (0 : Int) + (0); rw [show (0 : Int) + (1 * a0 + 0) = a0 by omega]; exact r3.trans (by omega)) zx_eF0)))
def zx_D680 : zx_L := zx_Lc [] 2 [] [] [((0, 0), [(0, 1, 0), (1, 0, 4294967296)])] [((0, 0), [(1, 1, 0)]), ((4294967294, 0), [(1, 0, 1)])] [([], [], [(2000062, ((0, 0), [(0, 1, 0)]), ((0, 0), [])), (2000064, ((0, 0), [(0, 1, 0)]), ((0, 0), []))], [])]
theorem zx_D680_ok {PT : Nat → zz_W → Prop} : zx_Lok 64 zHT PT zx_D680 := by
  refine zx_Lc_ok (fun w hI hK ins hl hr he hg => ?_)
  obtain ⟨a0, a1, rfl⟩ := zx_i2 hl
  have e0 : (0 : Int) + (1 * a0 + ((-4294967296) * a1 + 0)) = 0 := he _ List.mem_cons_self
  have g0 : 0 ≤ (0 : Int) + (1 * a1 + 0) := hg _ List.mem_cons_self
  have g1 : 0 ≤ (4294967294 : Int) + ((-1) * a1 + 0) := hg _ (List.mem_cons_of_mem _ List.mem_cons_self)
  obtain ⟨r1, r2⟩ := zb_62 (w := w) (j := a0) (k := 0) (u := a1) (by omega) (by omega) (by omega) (by omega) (by omega) 
  exact ⟨_, List.mem_cons_self, [], rfl, zx_bnil, zx_cs0, (zx_eF1 (by show 0 ≤ (0 : Int) + (1 * a0 + 0); omega) (by show zk_xe w 2000062 ((0 : Int) + (1 * a0 + 0)) = (0 : Int) + (0); rw [show (0 : Int) + (1 * a0 + 0) = a0 by omega]; exact r1.trans rfl) (zx_eF1 (by show 0 ≤ (0 : Int) + (1 * a0 + 0); omega) (by show zk_xe w 2000064 ((0 : Int) + (1 * a0 + 0)) = (0 : Int) + (0); rw [show (0 : Int) + (1 * a0 + 0) = a0 by omega]; exact r2.trans rfl) zx_eF0)), zx_k0⟩
def zx_D681 : zx_L := zx_Lc [] 4 [(2000062, 2), (2000064, 2), (208, 3)] [] [((0, 0), [(0, 0, 1), (1, 0, 4294967296), (2, 1, 0)]), ((0, 0), [(0, 0, 1), (1, 0, 8000), (3, 1, 0)])] [((0, 0), [(0, 1, 0)]), ((4294967294, 0), [(0, 0, 1)]), ((0, 0), [(1, 1, 0)]), ((4294967294, 0), [(1, 0, 1)]), ((0, 0), [(6, 0, 1)])] [([], [], [(2000062, ((1, 0), [(2, 1, 0)]), ((0, 0), [(4, 1, 0)])), (2000064, ((1, 0), [(2, 1, 0)]), ((0, 0), [(5, 1, 0)]))], [])]
theorem zx_D681_ok {PT : Nat → zz_W → Prop} : zx_Lok 64 zHT PT zx_D681 := by
  refine zx_Lc_ok (fun w hI hK ins hl hr he hg => ?_)
  obtain ⟨a0, a1, a2, a3, rfl⟩ := zx_i4 hl
  have e0 : (0 : Int) + ((-1) * a0 + ((-4294967296) * a1 + (1 * a2 + 0))) = 0 := he _ List.mem_cons_self
  have e1 : (0 : Int) + ((-1) * a0 + ((-8000) * a1 + (1 * a3 + 0))) = 0 := he _ (List.mem_cons_of_mem _ List.mem_cons_self)
  have g0 : 0 ≤ (0 : Int) + (1 * a0 + 0) := hg _ List.mem_cons_self
  have g1 : 0 ≤ (4294967294 : Int) + ((-1) * a0 + 0) := hg _ (List.mem_cons_of_mem _ List.mem_cons_self)
  have g2 : 0 ≤ (0 : Int) + (1 * a1 + 0) := hg _ (List.mem_cons_of_mem _ (List.mem_cons_of_mem _ List.mem_cons_self))
  have g3 : 0 ≤ (4294967294 : Int) + ((-1) * a1 + 0) := hg _ (List.mem_cons_of_mem _ (List.mem_cons_of_mem _ (List.mem_cons_of_mem _ List.mem_cons_self)))
  have g4 : 0 ≤ (0 : Int) + ((-1) * (zk_xe w 208 a3) + 0) := hg _ (List.mem_cons_of_mem _ (List.mem_cons_of_mem _ (List.mem_cons_of_mem _ (List.mem_cons_of_mem _ List.mem_cons_self))))
  have r0 : 0 ≤ a2 := hr _ List.mem_cons_self
  have r1 : 0 ≤ a2 := hr _ (List.mem_cons_of_mem _ List.mem_cons_self)
  have r2 : 0 ≤ a3 := hr _ (List.mem_cons_of_mem _ (List.mem_cons_of_mem _ List.mem_cons_self))
  have hx : zh_e w 208 (8000 * a1 + a0) = zk_xe w 208 a3 := by rw [zk_xe_r (i := 208) (by decide)]; show zk_el w 208 (8000 * a1 + a0) = zk_el w 208 a3; rw [show 8000 * a1 + a0 = a3 by omega]
  obtain ⟨r1, r2⟩ := zb_62 (w := w) (j := a2) (k := a0) (u := a1) (by omega) (by omega) (by omega) (by omega) (by omega) 
  obtain ⟨q1, q2⟩ := zb_62 (w := w) (j := a2 + 1) (k := a0 + 1) (u := a1) (by omega) (by omega) (by omega) (by omega) (by omega) 
  rw [zb_Dn (by omega), hx, ← r1] at q1
  rw [zb_Fn (by omega), hx, ← r2] at q2
  have v1 : zb_v (zk_xe w 208 a3) = 0 := by
    unfold zb_v
    rw [if_neg (by omega), if_neg (by omega)]
  have v2 : (if zk_xe w 208 a3 = 1 then (1 : Int) else 0) = 0 := by
    rw [if_neg (by omega)]
  rw [v1] at q1
  rw [v2] at q2
  exact ⟨_, List.mem_cons_self, [], rfl, zx_bnil, zx_cs0, (zx_eF1 (by show 0 ≤ (1 : Int) + (1 * a2 + 0); omega) (by show zk_xe w 2000062 ((1 : Int) + (1 * a2 + 0)) = (0 : Int) + (1 * (zk_xe w 2000062 a2) + 0); rw [show (1 : Int) + (1 * a2 + 0) = (a2 + 1) by omega]; exact q1.trans (by omega)) (zx_eF1 (by show 0 ≤ (1 : Int) + (1 * a2 + 0); omega) (by show zk_xe w 2000064 ((1 : Int) + (1 * a2 + 0)) = (0 : Int) + (1 * (zk_xe w 2000064 a2) + 0); rw [show (1 : Int) + (1 * a2 + 0) = (a2 + 1) by omega]; exact q2.trans (by omega)) zx_eF0)), zx_k0⟩
def zx_D682 : zx_L := zx_Lc [] 4 [(2000062, 2), (2000064, 2), (208, 3)] [] [((0, 0), [(0, 0, 1), (1, 0, 4294967296), (2, 1, 0)]), ((0, 0), [(0, 0, 1), (1, 0, 8000), (3, 1, 0)])] [((0, 0), [(0, 1, 0)]), ((4294967294, 0), [(0, 0, 1)]), ((0, 0), [(1, 1, 0)]), ((4294967294, 0), [(1, 0, 1)]), ((0, 1), [(6, 1, 0)]), ((1, 0), [(6, 0, 1)])] [([], [], [(2000062, ((1, 0), [(2, 1, 0)]), ((0, 0), [(4, 1, 0)])), (2000064, ((1, 0), [(2, 1, 0)]), ((1, 0), [(5, 1, 0)]))], [])]
theorem zx_D682_ok {PT : Nat → zz_W → Prop} : zx_Lok 64 zHT PT zx_D682 := by
  refine zx_Lc_ok (fun w hI hK ins hl hr he hg => ?_)
  obtain ⟨a0, a1, a2, a3, rfl⟩ := zx_i4 hl
  have e0 : (0 : Int) + ((-1) * a0 + ((-4294967296) * a1 + (1 * a2 + 0))) = 0 := he _ List.mem_cons_self
  have e1 : (0 : Int) + ((-1) * a0 + ((-8000) * a1 + (1 * a3 + 0))) = 0 := he _ (List.mem_cons_of_mem _ List.mem_cons_self)
  have g0 : 0 ≤ (0 : Int) + (1 * a0 + 0) := hg _ List.mem_cons_self
  have g1 : 0 ≤ (4294967294 : Int) + ((-1) * a0 + 0) := hg _ (List.mem_cons_of_mem _ List.mem_cons_self)
  have g2 : 0 ≤ (0 : Int) + (1 * a1 + 0) := hg _ (List.mem_cons_of_mem _ (List.mem_cons_of_mem _ List.mem_cons_self))
  have g3 : 0 ≤ (4294967294 : Int) + ((-1) * a1 + 0) := hg _ (List.mem_cons_of_mem _ (List.mem_cons_of_mem _ (List.mem_cons_of_mem _ List.mem_cons_self)))
  have g4 : 0 ≤ ((-1) : Int) + (1 * (zk_xe w 208 a3) + 0) := hg _ (List.mem_cons_of_mem _ (List.mem_cons_of_mem _ (List.mem_cons_of_mem _ (List.mem_cons_of_mem _ List.mem_cons_self))))
  have g5 : 0 ≤ (1 : Int) + ((-1) * (zk_xe w 208 a3) + 0) := hg _ (List.mem_cons_of_mem _ (List.mem_cons_of_mem _ (List.mem_cons_of_mem _ (List.mem_cons_of_mem _ (List.mem_cons_of_mem _ List.mem_cons_self)))))
  have r0 : 0 ≤ a2 := hr _ List.mem_cons_self
  have r1 : 0 ≤ a2 := hr _ (List.mem_cons_of_mem _ List.mem_cons_self)
  have r2 : 0 ≤ a3 := hr _ (List.mem_cons_of_mem _ (List.mem_cons_of_mem _ List.mem_cons_self))
  have hx : zh_e w 208 (8000 * a1 + a0) = zk_xe w 208 a3 := by rw [zk_xe_r (i := 208) (by decide)]; show zk_el w 208 (8000 * a1 + a0) = zk_el w 208 a3; rw [show 8000 * a1 + a0 = a3 by omega]
  obtain ⟨r1, r2⟩ := zb_62 (w := w) (j := a2) (k := a0) (u := a1) (by omega) (by omega) (by omega) (by omega) (by omega) 
  obtain ⟨q1, q2⟩ := zb_62 (w := w) (j := a2 + 1) (k := a0 + 1) (u := a1) (by omega) (by omega) (by omega) (by omega) (by omega) 
  rw [zb_Dn (by omega), hx, ← r1] at q1
  rw [zb_Fn (by omega), hx, ← r2] at q2
  have v1 : zb_v (zk_xe w 208 a3) = 0 := by
    unfold zb_v
    rw [if_neg (by omega), if_neg (by omega)]
  have v2 : (if zk_xe w 208 a3 = 1 then (1 : Int) else 0) = 1 := by
    rw [if_pos (by omega)]
  rw [v1] at q1
  rw [v2] at q2
  exact ⟨_, List.mem_cons_self, [], rfl, zx_bnil, zx_cs0, (zx_eF1 (by show 0 ≤ (1 : Int) + (1 * a2 + 0); omega) (by show zk_xe w 2000062 ((1 : Int) + (1 * a2 + 0)) = (0 : Int) + (1 * (zk_xe w 2000062 a2) + 0); rw [show (1 : Int) + (1 * a2 + 0) = (a2 + 1) by omega]; exact q1.trans (by omega)) (zx_eF1 (by show 0 ≤ (1 : Int) + (1 * a2 + 0); omega) (by show zk_xe w 2000064 ((1 : Int) + (1 * a2 + 0)) = (1 : Int) + (1 * (zk_xe w 2000064 a2) + 0); rw [show (1 : Int) + (1 * a2 + 0) = (a2 + 1) by omega]; exact q2.trans (by omega)) zx_eF0)), zx_k0⟩
def zx_D683 : zx_L := zx_Lc [] 4 [(2000062, 2), (2000064, 2), (208, 3)] [] [((0, 0), [(0, 0, 1), (1, 0, 4294967296), (2, 1, 0)]), ((0, 0), [(0, 0, 1), (1, 0, 8000), (3, 1, 0)])] [((0, 0), [(0, 1, 0)]), ((4294967294, 0), [(0, 0, 1)]), ((0, 0), [(1, 1, 0)]), ((4294967294, 0), [(1, 0, 1)]), ((0, 2), [(6, 1, 0)]), ((12, 0), [(6, 0, 1)])] [([], [], [(2000062, ((1, 0), [(2, 1, 0)]), ((0, 0), [(4, 1, 0)])), (2000064, ((1, 0), [(2, 1, 0)]), ((0, 0), [(5, 1, 0)]))], [])]
theorem zx_D683_ok {PT : Nat → zz_W → Prop} : zx_Lok 64 zHT PT zx_D683 := by
  refine zx_Lc_ok (fun w hI hK ins hl hr he hg => ?_)
  obtain ⟨a0, a1, a2, a3, rfl⟩ := zx_i4 hl
  have e0 : (0 : Int) + ((-1) * a0 + ((-4294967296) * a1 + (1 * a2 + 0))) = 0 := he _ List.mem_cons_self
  have e1 : (0 : Int) + ((-1) * a0 + ((-8000) * a1 + (1 * a3 + 0))) = 0 := he _ (List.mem_cons_of_mem _ List.mem_cons_self)
  have g0 : 0 ≤ (0 : Int) + (1 * a0 + 0) := hg _ List.mem_cons_self
  have g1 : 0 ≤ (4294967294 : Int) + ((-1) * a0 + 0) := hg _ (List.mem_cons_of_mem _ List.mem_cons_self)
  have g2 : 0 ≤ (0 : Int) + (1 * a1 + 0) := hg _ (List.mem_cons_of_mem _ (List.mem_cons_of_mem _ List.mem_cons_self))
  have g3 : 0 ≤ (4294967294 : Int) + ((-1) * a1 + 0) := hg _ (List.mem_cons_of_mem _ (List.mem_cons_of_mem _ (List.mem_cons_of_mem _ List.mem_cons_self)))
  have g4 : 0 ≤ ((-2) : Int) + (1 * (zk_xe w 208 a3) + 0) := hg _ (List.mem_cons_of_mem _ (List.mem_cons_of_mem _ (List.mem_cons_of_mem _ (List.mem_cons_of_mem _ List.mem_cons_self))))
  have g5 : 0 ≤ (12 : Int) + ((-1) * (zk_xe w 208 a3) + 0) := hg _ (List.mem_cons_of_mem _ (List.mem_cons_of_mem _ (List.mem_cons_of_mem _ (List.mem_cons_of_mem _ (List.mem_cons_of_mem _ List.mem_cons_self)))))
  have r0 : 0 ≤ a2 := hr _ List.mem_cons_self
  have r1 : 0 ≤ a2 := hr _ (List.mem_cons_of_mem _ List.mem_cons_self)
  have r2 : 0 ≤ a3 := hr _ (List.mem_cons_of_mem _ (List.mem_cons_of_mem _ List.mem_cons_self))
  have hx : zh_e w 208 (8000 * a1 + a0) = zk_xe w 208 a3 := by rw [zk_xe_r (i := 208) (by decide)]; show zk_el w 208 (8000 * a1 + a0) = zk_el w 208 a3; rw [show 8000 * a1 + a0 = a3 by omega]
  obtain ⟨r1, r2⟩ := zb_62 (w := w) (j := a2) (k := a0) (u := a1) (by omega) (by omega) (by omega) (by omega) (by omega) 
  obtain ⟨q1, q2⟩ := zb_62 (w := w) (j := a2 + 1) (k := a0 + 1) (u := a1) (by omega) (by omega) (by omega) (by omega) (by omega) 
  rw [zb_Dn (by omega), hx, ← r1] at q1
  rw [zb_Fn (by omega), hx, ← r2] at q2
  have v1 : zb_v (zk_xe w 208 a3) = 0 := by
    unfold zb_v
    rw [if_neg (by omega), if_neg (by omega)]
  have v2 : (if zk_xe w 208 a3 = 1 then (1 : Int) else 0) = 0 := by
    rw [if_neg (by omega)]
  rw [v1] at q1
  rw [v2] at q2
  exact ⟨_, List.mem_cons_self, [], rfl, zx_bnil, zx_cs0, (zx_eF1 (by show 0 ≤ (1 : Int) + (1 * a2 + 0); omega) (by show zk_xe w 2000062 ((1 : Int) + (1 * a2 + 0)) = (0 : Int) + (1 * (zk_xe w 2000062 a2) + 0); rw [show (1 : Int) + (1 * a2 + 0) = (a2 + 1) by omega]; exact q1.trans (by omega)) (zx_eF1 (by show 0 ≤ (1 : Int) + (1 * a2 + 0); omega) (by show zk_xe w 2000064 ((1 : Int) + (1 * a2 + 0)) = (0 : Int) + (1 * (zk_xe w 2000064 a2) + 0); rw [show (1 : Int) + (1 * a2 + 0) = (a2 + 1) by omega]; exact q2.trans (by omega)) zx_eF0)), zx_k0⟩
def zx_D684 : zx_L := zx_Lc [] 4 [(2000062, 2), (2000064, 2), (208, 3)] [] [((0, 0), [(0, 0, 1), (1, 0, 4294967296), (2, 1, 0)]), ((0, 0), [(0, 0, 1), (1, 0, 8000), (3, 1, 0)])] [((0, 0), [(0, 1, 0)]), ((4294967294, 0), [(0, 0, 1)]), ((0, 0), [(1, 1, 0)]), ((4294967294, 0), [(1, 0, 1)]), ((0, 13), [(6, 1, 0)]), ((13, 0), [(6, 0, 1)])] [([], [], [(2000062, ((1, 0), [(2, 1, 0)]), ((1, 0), [(4, 1, 0)])), (2000064, ((1, 0), [(2, 1, 0)]), ((0, 0), [(5, 1, 0)]))], [])]
theorem zx_D684_ok {PT : Nat → zz_W → Prop} : zx_Lok 64 zHT PT zx_D684 := by
  refine zx_Lc_ok (fun w hI hK ins hl hr he hg => ?_)
  obtain ⟨a0, a1, a2, a3, rfl⟩ := zx_i4 hl
  have e0 : (0 : Int) + ((-1) * a0 + ((-4294967296) * a1 + (1 * a2 + 0))) = 0 := he _ List.mem_cons_self
  have e1 : (0 : Int) + ((-1) * a0 + ((-8000) * a1 + (1 * a3 + 0))) = 0 := he _ (List.mem_cons_of_mem _ List.mem_cons_self)
  have g0 : 0 ≤ (0 : Int) + (1 * a0 + 0) := hg _ List.mem_cons_self
  have g1 : 0 ≤ (4294967294 : Int) + ((-1) * a0 + 0) := hg _ (List.mem_cons_of_mem _ List.mem_cons_self)
  have g2 : 0 ≤ (0 : Int) + (1 * a1 + 0) := hg _ (List.mem_cons_of_mem _ (List.mem_cons_of_mem _ List.mem_cons_self))
  have g3 : 0 ≤ (4294967294 : Int) + ((-1) * a1 + 0) := hg _ (List.mem_cons_of_mem _ (List.mem_cons_of_mem _ (List.mem_cons_of_mem _ List.mem_cons_self)))
  have g4 : 0 ≤ ((-13) : Int) + (1 * (zk_xe w 208 a3) + 0) := hg _ (List.mem_cons_of_mem _ (List.mem_cons_of_mem _ (List.mem_cons_of_mem _ (List.mem_cons_of_mem _ List.mem_cons_self))))
  have g5 : 0 ≤ (13 : Int) + ((-1) * (zk_xe w 208 a3) + 0) := hg _ (List.mem_cons_of_mem _ (List.mem_cons_of_mem _ (List.mem_cons_of_mem _ (List.mem_cons_of_mem _ (List.mem_cons_of_mem _ List.mem_cons_self)))))
  have r0 : 0 ≤ a2 := hr _ List.mem_cons_self
  have r1 : 0 ≤ a2 := hr _ (List.mem_cons_of_mem _ List.mem_cons_self)
  have r2 : 0 ≤ a3 := hr _ (List.mem_cons_of_mem _ (List.mem_cons_of_mem _ List.mem_cons_self))
  have hx : zh_e w 208 (8000 * a1 + a0) = zk_xe w 208 a3 := by rw [zk_xe_r (i := 208) (by decide)]; show zk_el w 208 (8000 * a1 + a0) = zk_el w 208 a3; rw [show 8000 * a1 + a0 = a3 by omega]
  obtain ⟨r1, r2⟩ := zb_62 (w := w) (j := a2) (k := a0) (u := a1) (by omega) (by omega) (by omega) (by omega) (by omega) 
  obtain ⟨q1, q2⟩ := zb_62 (w := w) (j := a2 + 1) (k := a0 + 1) (u := a1) (by omega) (by omega) (by omega) (by omega) (by omega) 
  rw [zb_Dn (by omega), hx, ← r1] at q1
  rw [zb_Fn (by omega), hx, ← r2] at q2
  have v1 : zb_v (zk_xe w 208 a3) = 1 := by
    unfold zb_v
    rw [if_pos (by omega)]
  have v2 : (if zk_xe w 208 a3 = 1 then (1 : Int) else 0) = 0 := by
    rw [if_neg (by omega)]
  rw [v1] at q1
  rw [v2] at q2
  exact ⟨_, List.mem_cons_self, [], rfl, zx_bnil, zx_cs0, (zx_eF1 (by show 0 ≤ (1 : Int) + (1 * a2 + 0); omega) (by show zk_xe w 2000062 ((1 : Int) + (1 * a2 + 0)) = (1 : Int) + (1 * (zk_xe w 2000062 a2) + 0); rw [show (1 : Int) + (1 * a2 + 0) = (a2 + 1) by omega]; exact q1.trans (by omega)) (zx_eF1 (by show 0 ≤ (1 : Int) + (1 * a2 + 0); omega) (by show zk_xe w 2000064 ((1 : Int) + (1 * a2 + 0)) = (0 : Int) + (1 * (zk_xe w 2000064 a2) + 0); rw [show (1 : Int) + (1 * a2 + 0) = (a2 + 1) by omega]; exact q2.trans (by omega)) zx_eF0)), zx_k0⟩
def zx_D685 : zx_L := zx_Lc [] 4 [(2000062, 2), (2000064, 2), (208, 3)] [] [((0, 0), [(0, 0, 1), (1, 0, 4294967296), (2, 1, 0)]), ((0, 0), [(0, 0, 1), (1, 0, 8000), (3, 1, 0)])] [((0, 0), [(0, 1, 0)]), ((4294967294, 0), [(0, 0, 1)]), ((0, 0), [(1, 1, 0)]), ((4294967294, 0), [(1, 0, 1)]), ((0, 14), [(6, 1, 0)]), ((14, 0), [(6, 0, 1)])] [([], [], [(2000062, ((1, 0), [(2, 1, 0)]), ((0, 0), [(4, 1, 0)])), (2000064, ((1, 0), [(2, 1, 0)]), ((0, 0), [(5, 1, 0)]))], [])]
theorem zx_D685_ok {PT : Nat → zz_W → Prop} : zx_Lok 64 zHT PT zx_D685 := by
  refine zx_Lc_ok (fun w hI hK ins hl hr he hg => ?_)
  obtain ⟨a0, a1, a2, a3, rfl⟩ := zx_i4 hl
  have e0 : (0 : Int) + ((-1) * a0 + ((-4294967296) * a1 + (1 * a2 + 0))) = 0 := he _ List.mem_cons_self
  have e1 : (0 : Int) + ((-1) * a0 + ((-8000) * a1 + (1 * a3 + 0))) = 0 := he _ (List.mem_cons_of_mem _ List.mem_cons_self)
  have g0 : 0 ≤ (0 : Int) + (1 * a0 + 0) := hg _ List.mem_cons_self
  have g1 : 0 ≤ (4294967294 : Int) + ((-1) * a0 + 0) := hg _ (List.mem_cons_of_mem _ List.mem_cons_self)
  have g2 : 0 ≤ (0 : Int) + (1 * a1 + 0) := hg _ (List.mem_cons_of_mem _ (List.mem_cons_of_mem _ List.mem_cons_self))
  have g3 : 0 ≤ (4294967294 : Int) + ((-1) * a1 + 0) := hg _ (List.mem_cons_of_mem _ (List.mem_cons_of_mem _ (List.mem_cons_of_mem _ List.mem_cons_self)))
  have g4 : 0 ≤ ((-14) : Int) + (1 * (zk_xe w 208 a3) + 0) := hg _ (List.mem_cons_of_mem _ (List.mem_cons_of_mem _ (List.mem_cons_of_mem _ (List.mem_cons_of_mem _ List.mem_cons_self))))
  have g5 : 0 ≤ (14 : Int) + ((-1) * (zk_xe w 208 a3) + 0) := hg _ (List.mem_cons_of_mem _ (List.mem_cons_of_mem _ (List.mem_cons_of_mem _ (List.mem_cons_of_mem _ (List.mem_cons_of_mem _ List.mem_cons_self)))))
  have r0 : 0 ≤ a2 := hr _ List.mem_cons_self
  have r1 : 0 ≤ a2 := hr _ (List.mem_cons_of_mem _ List.mem_cons_self)
  have r2 : 0 ≤ a3 := hr _ (List.mem_cons_of_mem _ (List.mem_cons_of_mem _ List.mem_cons_self))
  have hx : zh_e w 208 (8000 * a1 + a0) = zk_xe w 208 a3 := by rw [zk_xe_r (i := 208) (by decide)]; show zk_el w 208 (8000 * a1 + a0) = zk_el w 208 a3; rw [show 8000 * a1 + a0 = a3 by omega]
  obtain ⟨r1, r2⟩ := zb_62 (w := w) (j := a2) (k := a0) (u := a1) (by omega) (by omega) (by omega) (by omega) (by omega) 
  obtain ⟨q1, q2⟩ := zb_62 (w := w) (j := a2 + 1) (k := a0 + 1) (u := a1) (by omega) (by omega) (by omega) (by omega) (by omega) 
  rw [zb_Dn (by omega), hx, ← r1] at q1
  rw [zb_Fn (by omega), hx, ← r2] at q2
  have v1 : zb_v (zk_xe w 208 a3) = 0 := by
    unfold zb_v
    rw [if_neg (by omega), if_neg (by omega)]
  have v2 : (if zk_xe w 208 a3 = 1 then (1 : Int) else 0) = 0 := by
    rw [if_neg (by omega)]
  rw [v1] at q1
  rw [v2] at q2
  exact ⟨_, List.mem_cons_self, [], rfl, zx_bnil, zx_cs0, (zx_eF1 (by show 0 ≤ (1 : Int) + (1 * a2 + 0); omega) (by show zk_xe w 2000062 ((1 : Int) + (1 * a2 + 0)) = (0 : Int) + (1 * (zk_xe w 2000062 a2) + 0); rw [show (1 : Int) + (1 * a2 + 0) = (a2 + 1) by omega]; exact q1.trans (by omega)) (zx_eF1 (by show 0 ≤ (1 : Int) + (1 * a2 + 0); omega) (by show zk_xe w 2000064 ((1 : Int) + (1 * a2 + 0)) = (0 : Int) + (1 * (zk_xe w 2000064 a2) + 0); rw [show (1 : Int) + (1 * a2 + 0) = (a2 + 1) by omega]; exact q2.trans (by omega)) zx_eF0)), zx_k0⟩
def zx_D686 : zx_L := zx_Lc [] 4 [(2000062, 2), (2000064, 2), (208, 3)] [] [((0, 0), [(0, 0, 1), (1, 0, 4294967296), (2, 1, 0)]), ((0, 0), [(0, 0, 1), (1, 0, 8000), (3, 1, 0)])] [((0, 0), [(0, 1, 0)]), ((4294967294, 0), [(0, 0, 1)]), ((0, 0), [(1, 1, 0)]), ((4294967294, 0), [(1, 0, 1)]), ((0, 15), [(6, 1, 0)]), ((15, 0), [(6, 0, 1)])] [([], [], [(2000062, ((1, 0), [(2, 1, 0)]), ((0, 1), [(4, 1, 0)])), (2000064, ((1, 0), [(2, 1, 0)]), ((0, 0), [(5, 1, 0)]))], [])]
theorem zx_D686_ok {PT : Nat → zz_W → Prop} : zx_Lok 64 zHT PT zx_D686 := by
  refine zx_Lc_ok (fun w hI hK ins hl hr he hg => ?_)
  obtain ⟨a0, a1, a2, a3, rfl⟩ := zx_i4 hl
  have e0 : (0 : Int) + ((-1) * a0 + ((-4294967296) * a1 + (1 * a2 + 0))) = 0 := he _ List.mem_cons_self
  have e1 : (0 : Int) + ((-1) * a0 + ((-8000) * a1 + (1 * a3 + 0))) = 0 := he _ (List.mem_cons_of_mem _ List.mem_cons_self)
  have g0 : 0 ≤ (0 : Int) + (1 * a0 + 0) := hg _ List.mem_cons_self
  have g1 : 0 ≤ (4294967294 : Int) + ((-1) * a0 + 0) := hg _ (List.mem_cons_of_mem _ List.mem_cons_self)
  have g2 : 0 ≤ (0 : Int) + (1 * a1 + 0) := hg _ (List.mem_cons_of_mem _ (List.mem_cons_of_mem _ List.mem_cons_self))
  have g3 : 0 ≤ (4294967294 : Int) + ((-1) * a1 + 0) := hg _ (List.mem_cons_of_mem _ (List.mem_cons_of_mem _ (List.mem_cons_of_mem _ List.mem_cons_self)))
  have g4 : 0 ≤ ((-15) : Int) + (1 * (zk_xe w 208 a3) + 0) := hg _ (List.mem_cons_of_mem _ (List.mem_cons_of_mem _ (List.mem_cons_of_mem _ (List.mem_cons_of_mem _ List.mem_cons_self))))
  have g5 : 0 ≤ (15 : Int) + ((-1) * (zk_xe w 208 a3) + 0) := hg _ (List.mem_cons_of_mem _ (List.mem_cons_of_mem _ (List.mem_cons_of_mem _ (List.mem_cons_of_mem _ (List.mem_cons_of_mem _ List.mem_cons_self)))))
  have r0 : 0 ≤ a2 := hr _ List.mem_cons_self
  have r1 : 0 ≤ a2 := hr _ (List.mem_cons_of_mem _ List.mem_cons_self)
  have r2 : 0 ≤ a3 := hr _ (List.mem_cons_of_mem _ (List.mem_cons_of_mem _ List.mem_cons_self))
  have hx : zh_e w 208 (8000 * a1 + a0) = zk_xe w 208 a3 := by rw [zk_xe_r (i := 208) (by decide)]; show zk_el w 208 (8000 * a1 + a0) = zk_el w 208 a3; rw [show 8000 * a1 + a0 = a3 by omega]
  obtain ⟨r1, r2⟩ := zb_62 (w := w) (j := a2) (k := a0) (u := a1) (by omega) (by omega) (by omega) (by omega) (by omega) 
  obtain ⟨q1, q2⟩ := zb_62 (w := w) (j := a2 + 1) (k := a0 + 1) (u := a1) (by omega) (by omega) (by omega) (by omega) (by omega) 
  rw [zb_Dn (by omega), hx, ← r1] at q1
  rw [zb_Fn (by omega), hx, ← r2] at q2
  have v1 : zb_v (zk_xe w 208 a3) = -1 := by
    unfold zb_v
    rw [if_neg (by omega), if_pos (by omega)]
  have v2 : (if zk_xe w 208 a3 = 1 then (1 : Int) else 0) = 0 := by
    rw [if_neg (by omega)]
  rw [v1] at q1
  rw [v2] at q2
  exact ⟨_, List.mem_cons_self, [], rfl, zx_bnil, zx_cs0, (zx_eF1 (by show 0 ≤ (1 : Int) + (1 * a2 + 0); omega) (by show zk_xe w 2000062 ((1 : Int) + (1 * a2 + 0)) = ((-1) : Int) + (1 * (zk_xe w 2000062 a2) + 0); rw [show (1 : Int) + (1 * a2 + 0) = (a2 + 1) by omega]; exact q1.trans (by omega)) (zx_eF1 (by show 0 ≤ (1 : Int) + (1 * a2 + 0); omega) (by show zk_xe w 2000064 ((1 : Int) + (1 * a2 + 0)) = (0 : Int) + (1 * (zk_xe w 2000064 a2) + 0); rw [show (1 : Int) + (1 * a2 + 0) = (a2 + 1) by omega]; exact q2.trans (by omega)) zx_eF0)), zx_k0⟩
def zx_D687 : zx_L := zx_Lc [] 4 [(2000062, 2), (2000064, 2), (208, 3)] [] [((0, 0), [(0, 0, 1), (1, 0, 4294967296), (2, 1, 0)]), ((0, 0), [(0, 0, 1), (1, 0, 8000), (3, 1, 0)])] [((0, 0), [(0, 1, 0)]), ((4294967294, 0), [(0, 0, 1)]), ((0, 0), [(1, 1, 0)]), ((4294967294, 0), [(1, 0, 1)]), ((0, 16), [(6, 1, 0)]), ((16, 0), [(6, 0, 1)])] [([], [], [(2000062, ((1, 0), [(2, 1, 0)]), ((1, 0), [(4, 1, 0)])), (2000064, ((1, 0), [(2, 1, 0)]), ((0, 0), [(5, 1, 0)]))], [])]
theorem zx_D687_ok {PT : Nat → zz_W → Prop} : zx_Lok 64 zHT PT zx_D687 := by
  refine zx_Lc_ok (fun w hI hK ins hl hr he hg => ?_)
  obtain ⟨a0, a1, a2, a3, rfl⟩ := zx_i4 hl
  have e0 : (0 : Int) + ((-1) * a0 + ((-4294967296) * a1 + (1 * a2 + 0))) = 0 := he _ List.mem_cons_self
  have e1 : (0 : Int) + ((-1) * a0 + ((-8000) * a1 + (1 * a3 + 0))) = 0 := he _ (List.mem_cons_of_mem _ List.mem_cons_self)
  have g0 : 0 ≤ (0 : Int) + (1 * a0 + 0) := hg _ List.mem_cons_self
  have g1 : 0 ≤ (4294967294 : Int) + ((-1) * a0 + 0) := hg _ (List.mem_cons_of_mem _ List.mem_cons_self)
  have g2 : 0 ≤ (0 : Int) + (1 * a1 + 0) := hg _ (List.mem_cons_of_mem _ (List.mem_cons_of_mem _ List.mem_cons_self))
  have g3 : 0 ≤ (4294967294 : Int) + ((-1) * a1 + 0) := hg _ (List.mem_cons_of_mem _ (List.mem_cons_of_mem _ (List.mem_cons_of_mem _ List.mem_cons_self)))
  have g4 : 0 ≤ ((-16) : Int) + (1 * (zk_xe w 208 a3) + 0) := hg _ (List.mem_cons_of_mem _ (List.mem_cons_of_mem _ (List.mem_cons_of_mem _ (List.mem_cons_of_mem _ List.mem_cons_self))))
  have g5 : 0 ≤ (16 : Int) + ((-1) * (zk_xe w 208 a3) + 0) := hg _ (List.mem_cons_of_mem _ (List.mem_cons_of_mem _ (List.mem_cons_of_mem _ (List.mem_cons_of_mem _ (List.mem_cons_of_mem _ List.mem_cons_self)))))
  have r0 : 0 ≤ a2 := hr _ List.mem_cons_self
  have r1 : 0 ≤ a2 := hr _ (List.mem_cons_of_mem _ List.mem_cons_self)
  have r2 : 0 ≤ a3 := hr _ (List.mem_cons_of_mem _ (List.mem_cons_of_mem _ List.mem_cons_self))
  have hx : zh_e w 208 (8000 * a1 + a0) = zk_xe w 208 a3 := by rw [zk_xe_r (i := 208) (by decide)]; show zk_el w 208 (8000 * a1 + a0) = zk_el w 208 a3; rw [show 8000 * a1 + a0 = a3 by omega]
  obtain ⟨r1, r2⟩ := zb_62 (w := w) (j := a2) (k := a0) (u := a1) (by omega) (by omega) (by omega) (by omega) (by omega) 
  obtain ⟨q1, q2⟩ := zb_62 (w := w) (j := a2 + 1) (k := a0 + 1) (u := a1) (by omega) (by omega) (by omega) (by omega) (by omega) 
  rw [zb_Dn (by omega), hx, ← r1] at q1
  rw [zb_Fn (by omega), hx, ← r2] at q2
  have v1 : zb_v (zk_xe w 208 a3) = 1 := by
    unfold zb_v
    rw [if_pos (by omega)]
  have v2 : (if zk_xe w 208 a3 = 1 then (1 : Int) else 0) = 0 := by
    rw [if_neg (by omega)]
  rw [v1] at q1
  rw [v2] at q2
  exact ⟨_, List.mem_cons_self, [], rfl, zx_bnil, zx_cs0, (zx_eF1 (by show 0 ≤ (1 : Int) + (1 * a2 + 0); omega) (by show zk_xe w 2000062 ((1 : Int) + (1 * a2 + 0)) = (1 : Int) + (1 * (zk_xe w 2000062 a2) + 0); rw [show (1 : Int) + (1 * a2 + 0) = (a2 + 1) by omega]; exact q1.trans (by omega)) (zx_eF1 (by show 0 ≤ (1 : Int) + (1 * a2 + 0); omega) (by show zk_xe w 2000064 ((1 : Int) + (1 * a2 + 0)) = (0 : Int) + (1 * (zk_xe w 2000064 a2) + 0); rw [show (1 : Int) + (1 * a2 + 0) = (a2 + 1) by omega]; exact q2.trans (by omega)) zx_eF0)), zx_k0⟩
def zx_D688 : zx_L := zx_Lc [] 4 [(2000062, 2), (2000064, 2), (208, 3)] [] [((0, 0), [(0, 0, 1), (1, 0, 4294967296), (2, 1, 0)]), ((0, 0), [(0, 0, 1), (1, 0, 8000), (3, 1, 0)])] [((0, 0), [(0, 1, 0)]), ((4294967294, 0), [(0, 0, 1)]), ((0, 0), [(1, 1, 0)]), ((4294967294, 0), [(1, 0, 1)]), ((0, 17), [(6, 1, 0)]), ((17, 0), [(6, 0, 1)])] [([], [], [(2000062, ((1, 0), [(2, 1, 0)]), ((0, 0), [(4, 1, 0)])), (2000064, ((1, 0), [(2, 1, 0)]), ((0, 0), [(5, 1, 0)]))], [])]
theorem zx_D688_ok {PT : Nat → zz_W → Prop} : zx_Lok 64 zHT PT zx_D688 := by
  refine zx_Lc_ok (fun w hI hK ins hl hr he hg => ?_)
  obtain ⟨a0, a1, a2, a3, rfl⟩ := zx_i4 hl
  have e0 : (0 : Int) + ((-1) * a0 + ((-4294967296) * a1 + (1 * a2 + 0))) = 0 := he _ List.mem_cons_self
  have e1 : (0 : Int) + ((-1) * a0 + ((-8000) * a1 + (1 * a3 + 0))) = 0 := he _ (List.mem_cons_of_mem _ List.mem_cons_self)
  have g0 : 0 ≤ (0 : Int) + (1 * a0 + 0) := hg _ List.mem_cons_self
  have g1 : 0 ≤ (4294967294 : Int) + ((-1) * a0 + 0) := hg _ (List.mem_cons_of_mem _ List.mem_cons_self)
  have g2 : 0 ≤ (0 : Int) + (1 * a1 + 0) := hg _ (List.mem_cons_of_mem _ (List.mem_cons_of_mem _ List.mem_cons_self))
  have g3 : 0 ≤ (4294967294 : Int) + ((-1) * a1 + 0) := hg _ (List.mem_cons_of_mem _ (List.mem_cons_of_mem _ (List.mem_cons_of_mem _ List.mem_cons_self)))
  have g4 : 0 ≤ ((-17) : Int) + (1 * (zk_xe w 208 a3) + 0) := hg _ (List.mem_cons_of_mem _ (List.mem_cons_of_mem _ (List.mem_cons_of_mem _ (List.mem_cons_of_mem _ List.mem_cons_self))))
  have g5 : 0 ≤ (17 : Int) + ((-1) * (zk_xe w 208 a3) + 0) := hg _ (List.mem_cons_of_mem _ (List.mem_cons_of_mem _ (List.mem_cons_of_mem _ (List.mem_cons_of_mem _ (List.mem_cons_of_mem _ List.mem_cons_self)))))
  have r0 : 0 ≤ a2 := hr _ List.mem_cons_self
  have r1 : 0 ≤ a2 := hr _ (List.mem_cons_of_mem _ List.mem_cons_self)
  have r2 : 0 ≤ a3 := hr _ (List.mem_cons_of_mem _ (List.mem_cons_of_mem _ List.mem_cons_self))
  have hx : zh_e w 208 (8000 * a1 + a0) = zk_xe w 208 a3 := by rw [zk_xe_r (i := 208) (by decide)]; show zk_el w 208 (8000 * a1 + a0) = zk_el w 208 a3; rw [show 8000 * a1 + a0 = a3 by omega]
  obtain ⟨r1, r2⟩ := zb_62 (w := w) (j := a2) (k := a0) (u := a1) (by omega) (by omega) (by omega) (by omega) (by omega) 
  obtain ⟨q1, q2⟩ := zb_62 (w := w) (j := a2 + 1) (k := a0 + 1) (u := a1) (by omega) (by omega) (by omega) (by omega) (by omega) 
  rw [zb_Dn (by omega), hx, ← r1] at q1
  rw [zb_Fn (by omega), hx, ← r2] at q2
  have v1 : zb_v (zk_xe w 208 a3) = 0 := by
    unfold zb_v
    rw [if_neg (by omega), if_neg (by omega)]
  have v2 : (if zk_xe w 208 a3 = 1 then (1 : Int) else 0) = 0 := by
    rw [if_neg (by omega)]
  rw [v1] at q1
  rw [v2] at q2
  exact ⟨_, List.mem_cons_self, [], rfl, zx_bnil, zx_cs0, (zx_eF1 (by show 0 ≤ (1 : Int) + (1 * a2 + 0); omega) (by show zk_xe w 2000062 ((1 : Int) + (1 * a2 + 0)) = (0 : Int) + (1 * (zk_xe w 2000062 a2) + 0); rw [show (1 : Int) + (1 * a2 + 0) = (a2 + 1) by omega]; exact q1.trans (by omega)) (zx_eF1 (by show 0 ≤ (1 : Int) + (1 * a2 + 0); omega) (by show zk_xe w 2000064 ((1 : Int) + (1 * a2 + 0)) = (0 : Int) + (1 * (zk_xe w 2000064 a2) + 0); rw [show (1 : Int) + (1 * a2 + 0) = (a2 + 1) by omega]; exact q2.trans (by omega)) zx_eF0)), zx_k0⟩
def zx_D689 : zx_L := zx_Lc [] 4 [(2000062, 2), (2000064, 2), (208, 3)] [] [((0, 0), [(0, 0, 1), (1, 0, 4294967296), (2, 1, 0)]), ((0, 0), [(0, 0, 1), (1, 0, 8000), (3, 1, 0)])] [((0, 0), [(0, 1, 0)]), ((4294967294, 0), [(0, 0, 1)]), ((0, 0), [(1, 1, 0)]), ((4294967294, 0), [(1, 0, 1)]), ((0, 18), [(6, 1, 0)]), ((18, 0), [(6, 0, 1)])] [([], [], [(2000062, ((1, 0), [(2, 1, 0)]), ((0, 1), [(4, 1, 0)])), (2000064, ((1, 0), [(2, 1, 0)]), ((0, 0), [(5, 1, 0)]))], [])]
theorem zx_D689_ok {PT : Nat → zz_W → Prop} : zx_Lok 64 zHT PT zx_D689 := by
  refine zx_Lc_ok (fun w hI hK ins hl hr he hg => ?_)
  obtain ⟨a0, a1, a2, a3, rfl⟩ := zx_i4 hl
  have e0 : (0 : Int) + ((-1) * a0 + ((-4294967296) * a1 + (1 * a2 + 0))) = 0 := he _ List.mem_cons_self
  have e1 : (0 : Int) + ((-1) * a0 + ((-8000) * a1 + (1 * a3 + 0))) = 0 := he _ (List.mem_cons_of_mem _ List.mem_cons_self)
  have g0 : 0 ≤ (0 : Int) + (1 * a0 + 0) := hg _ List.mem_cons_self
  have g1 : 0 ≤ (4294967294 : Int) + ((-1) * a0 + 0) := hg _ (List.mem_cons_of_mem _ List.mem_cons_self)
  have g2 : 0 ≤ (0 : Int) + (1 * a1 + 0) := hg _ (List.mem_cons_of_mem _ (List.mem_cons_of_mem _ List.mem_cons_self))
  have g3 : 0 ≤ (4294967294 : Int) + ((-1) * a1 + 0) := hg _ (List.mem_cons_of_mem _ (List.mem_cons_of_mem _ (List.mem_cons_of_mem _ List.mem_cons_self)))
  have g4 : 0 ≤ ((-18) : Int) + (1 * (zk_xe w 208 a3) + 0) := hg _ (List.mem_cons_of_mem _ (List.mem_cons_of_mem _ (List.mem_cons_of_mem _ (List.mem_cons_of_mem _ List.mem_cons_self))))
  have g5 : 0 ≤ (18 : Int) + ((-1) * (zk_xe w 208 a3) + 0) := hg _ (List.mem_cons_of_mem _ (List.mem_cons_of_mem _ (List.mem_cons_of_mem _ (List.mem_cons_of_mem _ (List.mem_cons_of_mem _ List.mem_cons_self)))))
  have r0 : 0 ≤ a2 := hr _ List.mem_cons_self
  have r1 : 0 ≤ a2 := hr _ (List.mem_cons_of_mem _ List.mem_cons_self)
  have r2 : 0 ≤ a3 := hr _ (List.mem_cons_of_mem _ (List.mem_cons_of_mem _ List.mem_cons_self))
  have hx : zh_e w 208 (8000 * a1 + a0) = zk_xe w 208 a3 := by rw [zk_xe_r (i := 208) (by decide)]; show zk_el w 208 (8000 * a1 + a0) = zk_el w 208 a3; rw [show 8000 * a1 + a0 = a3 by omega]
  obtain ⟨r1, r2⟩ := zb_62 (w := w) (j := a2) (k := a0) (u := a1) (by omega) (by omega) (by omega) (by omega) (by omega) 
  obtain ⟨q1, q2⟩ := zb_62 (w := w) (j := a2 + 1) (k := a0 + 1) (u := a1) (by omega) (by omega) (by omega) (by omega) (by omega) 
  rw [zb_Dn (by omega), hx, ← r1] at q1
  rw [zb_Fn (by omega), hx, ← r2] at q2
  have v1 : zb_v (zk_xe w 208 a3) = -1 := by
    unfold zb_v
    rw [if_neg (by omega), if_pos (by omega)]
  have v2 : (if zk_xe w 208 a3 = 1 then (1 : Int) else 0) = 0 := by
    rw [if_neg (by omega)]
  rw [v1] at q1
  rw [v2] at q2
  exact ⟨_, List.mem_cons_self, [], rfl, zx_bnil, zx_cs0, (zx_eF1 (by show 0 ≤ (1 : Int) + (1 * a2 + 0); omega) (by show zk_xe w 2000062 ((1 : Int) + (1 * a2 + 0)) = ((-1) : Int) + (1 * (zk_xe w 2000062 a2) + 0); rw [show (1 : Int) + (1 * a2 + 0) = (a2 + 1) by omega]; exact q1.trans (by omega)) (zx_eF1 (by show 0 ≤ (1 : Int) + (1 * a2 + 0); omega) (by show zk_xe w 2000064 ((1 : Int) + (1 * a2 + 0)) = (0 : Int) + (1 * (zk_xe w 2000064 a2) + 0); rw [show (1 : Int) + (1 * a2 + 0) = (a2 + 1) by omega]; exact q2.trans (by omega)) zx_eF0)), zx_k0⟩
def zx_D690 : zx_L := zx_Lc [] 4 [(2000062, 2), (2000064, 2), (208, 3)] [] [((0, 0), [(0, 0, 1), (1, 0, 4294967296), (2, 1, 0)]), ((0, 0), [(0, 0, 1), (1, 0, 8000), (3, 1, 0)])] [((0, 0), [(0, 1, 0)]), ((4294967294, 0), [(0, 0, 1)]), ((0, 0), [(1, 1, 0)]), ((4294967294, 0), [(1, 0, 1)]), ((0, 19), [(6, 1, 0)])] [([], [], [(2000062, ((1, 0), [(2, 1, 0)]), ((0, 0), [(4, 1, 0)])), (2000064, ((1, 0), [(2, 1, 0)]), ((0, 0), [(5, 1, 0)]))], [])]
theorem zx_D690_ok {PT : Nat → zz_W → Prop} : zx_Lok 64 zHT PT zx_D690 := by
  refine zx_Lc_ok (fun w hI hK ins hl hr he hg => ?_)
  obtain ⟨a0, a1, a2, a3, rfl⟩ := zx_i4 hl
  have e0 : (0 : Int) + ((-1) * a0 + ((-4294967296) * a1 + (1 * a2 + 0))) = 0 := he _ List.mem_cons_self
  have e1 : (0 : Int) + ((-1) * a0 + ((-8000) * a1 + (1 * a3 + 0))) = 0 := he _ (List.mem_cons_of_mem _ List.mem_cons_self)
  have g0 : 0 ≤ (0 : Int) + (1 * a0 + 0) := hg _ List.mem_cons_self
  have g1 : 0 ≤ (4294967294 : Int) + ((-1) * a0 + 0) := hg _ (List.mem_cons_of_mem _ List.mem_cons_self)
  have g2 : 0 ≤ (0 : Int) + (1 * a1 + 0) := hg _ (List.mem_cons_of_mem _ (List.mem_cons_of_mem _ List.mem_cons_self))
  have g3 : 0 ≤ (4294967294 : Int) + ((-1) * a1 + 0) := hg _ (List.mem_cons_of_mem _ (List.mem_cons_of_mem _ (List.mem_cons_of_mem _ List.mem_cons_self)))
  have g4 : 0 ≤ ((-19) : Int) + (1 * (zk_xe w 208 a3) + 0) := hg _ (List.mem_cons_of_mem _ (List.mem_cons_of_mem _ (List.mem_cons_of_mem _ (List.mem_cons_of_mem _ List.mem_cons_self))))
  have r0 : 0 ≤ a2 := hr _ List.mem_cons_self
  have r1 : 0 ≤ a2 := hr _ (List.mem_cons_of_mem _ List.mem_cons_self)
  have r2 : 0 ≤ a3 := hr _ (List.mem_cons_of_mem _ (List.mem_cons_of_mem _ List.mem_cons_self))
  have hx : zh_e w 208 (8000 * a1 + a0) = zk_xe w 208 a3 := by rw [zk_xe_r (i := 208) (by decide)]; show zk_el w 208 (8000 * a1 + a0) = zk_el w 208 a3; rw [show 8000 * a1 + a0 = a3 by omega]
  obtain ⟨r1, r2⟩ := zb_62 (w := w) (j := a2) (k := a0) (u := a1) (by omega) (by omega) (by omega) (by omega) (by omega) 
  obtain ⟨q1, q2⟩ := zb_62 (w := w) (j := a2 + 1) (k := a0 + 1) (u := a1) (by omega) (by omega) (by omega) (by omega) (by omega) 
  rw [zb_Dn (by omega), hx, ← r1] at q1
  rw [zb_Fn (by omega), hx, ← r2] at q2
  have v1 : zb_v (zk_xe w 208 a3) = 0 := by
    unfold zb_v
    rw [if_neg (by omega), if_neg (by omega)]
  have v2 : (if zk_xe w 208 a3 = 1 then (1 : Int) else 0) = 0 := by
    rw [if_neg (by omega)]
  rw [v1] at q1
  rw [v2] at q2
  exact ⟨_, List.mem_cons_self, [], rfl, zx_bnil, zx_cs0, (zx_eF1 (by show 0 ≤ (1 : Int) + (1 * a2 + 0); omega) (by show zk_xe w 2000062 ((1 : Int) + (1 * a2 + 0)) = (0 : Int) + (1 * (zk_xe w 2000062 a2) + 0); rw [show (1 : Int) + (1 * a2 + 0) = (a2 + 1) by omega]; exact q1.trans (by omega)) (zx_eF1 (by show 0 ≤ (1 : Int) + (1 * a2 + 0); omega) (by show zk_xe w 2000064 ((1 : Int) + (1 * a2 + 0)) = (0 : Int) + (1 * (zk_xe w 2000064 a2) + 0); rw [show (1 : Int) + (1 * a2 + 0) = (a2 + 1) by omega]; exact q2.trans (by omega)) zx_eF0)), zx_k0⟩
def zx_D692 : zx_L := zx_Lc [] 4 [(2000061, 1), (207, 1), (2000062, 2), (208, 3)] [] [((0, 0), [(0, 0, 1), (1, 0, 4294967296), (2, 1, 0)]), ((0, 0), [(0, 0, 1), (1, 0, 8000), (3, 1, 0)]), ((0, 1), [(4, 1, 0)])] [((0, 0), [(0, 1, 0)]), ((4294967294, 0), [(0, 0, 1)]), ((0, 0), [(1, 1, 0)]), ((4294967294, 0), [(1, 0, 1)]), ((0, 1), [(0, 0, 1), (5, 1, 0)])] [([], [((0, 0), [(6, 1, 0)]), ((63, 0), [(6, 0, 1)]), ((13, 0), [(7, 0, 1)])], [], []), ([], [((0, 1), [(6, 1, 0)]), ((63, 0), [(6, 0, 1)]), ((0, 14), [(7, 1, 0)]), ((15, 0), [(7, 0, 1)])], [], []), ([], [((0, 0), [(6, 1, 0)]), ((63, 0), [(6, 0, 1)]), ((0, 16), [(7, 1, 0)]), ((16, 0), [(7, 0, 1)])], [], []), ([], [((0, 1), [(6, 1, 0)]), ((63, 0), [(6, 0, 1)]), ((0, 17), [(7, 1, 0)]), ((18, 0), [(7, 0, 1)])], [], []), ([], [((0, 0), [(6, 1, 0)]), ((63, 0), [(6, 0, 1)]), ((0, 19), [(7, 1, 0)])], [], [])]
theorem zx_D692_ok {PT : Nat → zz_W → Prop} : zx_Lok 64 zHT PT zx_D692 := by
  refine zx_Lc_ok (fun w hI hK ins hl hr he hg => ?_)
  obtain ⟨a0, a1, a2, a3, rfl⟩ := zx_i4 hl
  have e0 : (0 : Int) + ((-1) * a0 + ((-4294967296) * a1 + (1 * a2 + 0))) = 0 := he _ List.mem_cons_self
  have e1 : (0 : Int) + ((-1) * a0 + ((-8000) * a1 + (1 * a3 + 0))) = 0 := he _ (List.mem_cons_of_mem _ List.mem_cons_self)
  have e2 : ((-1) : Int) + (1 * (zk_xe w 2000061 a1) + 0) = 0 := he _ (List.mem_cons_of_mem _ (List.mem_cons_of_mem _ List.mem_cons_self))
  have g0 : 0 ≤ (0 : Int) + (1 * a0 + 0) := hg _ List.mem_cons_self
  have g1 : 0 ≤ (4294967294 : Int) + ((-1) * a0 + 0) := hg _ (List.mem_cons_of_mem _ List.mem_cons_self)
  have g2 : 0 ≤ (0 : Int) + (1 * a1 + 0) := hg _ (List.mem_cons_of_mem _ (List.mem_cons_of_mem _ List.mem_cons_self))
  have g3 : 0 ≤ (4294967294 : Int) + ((-1) * a1 + 0) := hg _ (List.mem_cons_of_mem _ (List.mem_cons_of_mem _ (List.mem_cons_of_mem _ List.mem_cons_self)))
  have g4 : 0 ≤ ((-1) : Int) + ((-1) * a0 + (1 * (zk_xe w 207 a1) + 0)) := hg _ (List.mem_cons_of_mem _ (List.mem_cons_of_mem _ (List.mem_cons_of_mem _ (List.mem_cons_of_mem _ List.mem_cons_self))))
  have r0 : 0 ≤ a1 := hr _ List.mem_cons_self
  have r1 : 0 ≤ a1 := hr _ (List.mem_cons_of_mem _ List.mem_cons_self)
  have r2 : 0 ≤ a2 := hr _ (List.mem_cons_of_mem _ (List.mem_cons_of_mem _ List.mem_cons_self))
  have r3 : 0 ≤ a3 := hr _ (List.mem_cons_of_mem _ (List.mem_cons_of_mem _ (List.mem_cons_of_mem _ List.mem_cons_self)))
  have hn : zh_e w 207 (a1) = zk_xe w 207 a1 := by rw [zk_xe_r (i := 207) (by decide)]; show zk_el w 207 (a1) = zk_el w 207 a1; rw [show a1 = a1 by omega]
  have hx : zh_e w 208 (8000 * a1 + a0) = zk_xe w 208 a3 := by rw [zk_xe_r (i := 208) (by decide)]; show zk_el w 208 (8000 * a1 + a0) = zk_el w 208 a3; rw [show 8000 * a1 + a0 = a3 by omega]
  obtain ⟨r1, -⟩ := zb_62 (w := w) (j := a2) (k := a0) (u := a1) (by omega) (by omega) (by omega) (by omega) (by omega) 
  have h := zb_61.mp (show zk_xe w 2000061 a1 = 1 by omega)
  rw [hn] at h
  have h := h a0.toNat (by omega)
  rw [← r1, show ((a0.toNat : Nat) : Int) = a0 by omega, hx] at h
  by_cases c0 : zk_xe w 208 a3 ≤ 13
  ·
    exact ⟨_, List.mem_cons_self, [], rfl, zx_bnil, (zx_cs1 (by show 0 ≤ (0 : Int) + (1 * (zk_xe w 2000062 a2) + 0); omega) (zx_cs1 (by show 0 ≤ (63 : Int) + ((-1) * (zk_xe w 2000062 a2) + 0); omega) (zx_cs1 (by show 0 ≤ (13 : Int) + ((-1) * (zk_xe w 208 a3) + 0); omega) zx_cs0))), zx_eF0, zx_k0⟩
  ·
    by_cases c1 : zk_xe w 208 a3 ≤ 15
    ·
      have := h.2 (by omega)
      exact ⟨_, (List.mem_cons_of_mem _ List.mem_cons_self), [], rfl, zx_bnil, (zx_cs1 (by show 0 ≤ ((-1) : Int) + (1 * (zk_xe w 2000062 a2) + 0); omega) (zx_cs1 (by show 0 ≤ (63 : Int) + ((-1) * (zk_xe w 2000062 a2) + 0); omega) (zx_cs1 (by show 0 ≤ ((-14) : Int) + (1 * (zk_xe w 208 a3) + 0); omega) (zx_cs1 (by show 0 ≤ (15 : Int) + ((-1) * (zk_xe w 208 a3) + 0); omega) zx_cs0)))), zx_eF0, zx_k0⟩
    ·
      by_cases c2 : zk_xe w 208 a3 ≤ 16
      ·
        exact ⟨_, (List.mem_cons_of_mem _ (List.mem_cons_of_mem _ List.mem_cons_self)), [], rfl, zx_bnil, (zx_cs1 (by show 0 ≤ (0 : Int) + (1 * (zk_xe w 2000062 a2) + 0); omega) (zx_cs1 (by show 0 ≤ (63 : Int) + ((-1) * (zk_xe w 2000062 a2) + 0); omega) (zx_cs1 (by show 0 ≤ ((-16) : Int) + (1 * (zk_xe w 208 a3) + 0); omega) (zx_cs1 (by show 0 ≤ (16 : Int) + ((-1) * (zk_xe w 208 a3) + 0); omega) zx_cs0)))), zx_eF0, zx_k0⟩
      ·
        by_cases c3 : zk_xe w 208 a3 ≤ 18
        ·
          have := h.2 (by omega)
          exact ⟨_, (List.mem_cons_of_mem _ (List.mem_cons_of_mem _ (List.mem_cons_of_mem _ List.mem_cons_self))), [], rfl, zx_bnil, (zx_cs1 (by show 0 ≤ ((-1) : Int) + (1 * (zk_xe w 2000062 a2) + 0); omega) (zx_cs1 (by show 0 ≤ (63 : Int) + ((-1) * (zk_xe w 2000062 a2) + 0); omega) (zx_cs1 (by show 0 ≤ ((-17) : Int) + (1 * (zk_xe w 208 a3) + 0); omega) (zx_cs1 (by show 0 ≤ (18 : Int) + ((-1) * (zk_xe w 208 a3) + 0); omega) zx_cs0)))), zx_eF0, zx_k0⟩
        ·
          exact ⟨_, (List.mem_cons_of_mem _ (List.mem_cons_of_mem _ (List.mem_cons_of_mem _ (List.mem_cons_of_mem _ List.mem_cons_self)))), [], rfl, zx_bnil, (zx_cs1 (by show 0 ≤ (0 : Int) + (1 * (zk_xe w 2000062 a2) + 0); omega) (zx_cs1 (by show 0 ≤ (63 : Int) + ((-1) * (zk_xe w 2000062 a2) + 0); omega) (zx_cs1 (by show 0 ≤ ((-19) : Int) + (1 * (zk_xe w 208 a3) + 0); omega) zx_cs0))), zx_eF0, zx_k0⟩
def zx_D693 : zx_L := zx_Lc [] 3 [(2000063, 1), (207, 1), (2000064, 2)] [] [((0, 0), [(0, 0, 1), (1, 0, 4294967296), (2, 1, 0)]), ((0, 0), [(0, 1, 0), (4, 0, 1)])] [((0, 0), [(0, 1, 0)]), ((4294967294, 0), [(0, 0, 1)]), ((0, 0), [(1, 1, 0)]), ((4294967294, 0), [(1, 0, 1)])] [([], [((0, 0), [(3, 0, 1), (5, 1, 0)]), ((0, 0), [(3, 1, 0), (5, 0, 1)])], [], [])]
theorem zx_D693_ok {PT : Nat → zz_W → Prop} : zx_Lok 64 zHT PT zx_D693 := by
  refine zx_Lc_ok (fun w hI hK ins hl hr he hg => ?_)
  obtain ⟨a0, a1, a2, rfl⟩ := zx_i3 hl
  have e0 : (0 : Int) + ((-1) * a0 + ((-4294967296) * a1 + (1 * a2 + 0))) = 0 := he _ List.mem_cons_self
  have e1 : (0 : Int) + (1 * a0 + ((-1) * (zk_xe w 207 a1) + 0)) = 0 := he _ (List.mem_cons_of_mem _ List.mem_cons_self)
  have g0 : 0 ≤ (0 : Int) + (1 * a0 + 0) := hg _ List.mem_cons_self
  have g1 : 0 ≤ (4294967294 : Int) + ((-1) * a0 + 0) := hg _ (List.mem_cons_of_mem _ List.mem_cons_self)
  have g2 : 0 ≤ (0 : Int) + (1 * a1 + 0) := hg _ (List.mem_cons_of_mem _ (List.mem_cons_of_mem _ List.mem_cons_self))
  have g3 : 0 ≤ (4294967294 : Int) + ((-1) * a1 + 0) := hg _ (List.mem_cons_of_mem _ (List.mem_cons_of_mem _ (List.mem_cons_of_mem _ List.mem_cons_self)))
  have r0 : 0 ≤ a1 := hr _ List.mem_cons_self
  have r1 : 0 ≤ a1 := hr _ (List.mem_cons_of_mem _ List.mem_cons_self)
  have r2 : 0 ≤ a2 := hr _ (List.mem_cons_of_mem _ (List.mem_cons_of_mem _ List.mem_cons_self))
  have hn : zh_e w 207 (a1) = zk_xe w 207 a1 := by rw [zk_xe_r (i := 207) (by decide)]; show zk_el w 207 (a1) = zk_el w 207 a1; rw [show a1 = a1 by omega]
  obtain ⟨-, r2⟩ := zb_62 (w := w) (j := a2) (k := a0) (u := a1) (by omega) (by omega) (by omega) (by omega) (by omega) 
  have h := zb_63 (w := w) (j := a1)
  rw [hn, show zk_xe w 207 a1 = a0 by omega, ← r2] at h
  exact ⟨_, List.mem_cons_self, [], rfl, zx_bnil, (zx_cs1 (by show 0 ≤ (0 : Int) + ((-1) * (zk_xe w 2000063 a1) + (1 * (zk_xe w 2000064 a2) + 0)); omega) (zx_cs1 (by show 0 ≤ (0 : Int) + (1 * (zk_xe w 2000063 a1) + ((-1) * (zk_xe w 2000064 a2) + 0)); omega) zx_cs0)), zx_eF0, zx_k0⟩
def zx_D691 : zx_L := zx_Lc [] 3 [(2000063, 1), (207, 1), (2000064, 2)] [] [((0, 0), [(0, 0, 1), (1, 0, 4294967296), (2, 1, 0)])] [((0, 0), [(0, 1, 0)]), ((4294967294, 0), [(0, 0, 1)]), ((0, 0), [(1, 1, 0)]), ((4294967294, 0), [(1, 0, 1)]), ((0, 0), [(0, 0, 1), (4, 1, 0)])] [([], [((0, 1), [(0, 0, 1), (4, 1, 0)])], [], []), ([], [((0, 0), [(3, 0, 1), (5, 1, 0)]), ((0, 0), [(3, 1, 0), (5, 0, 1)]), ((0, 0), [(0, 1, 0), (4, 0, 1)])], [], [])]
theorem zx_D691_ok {PT : Nat → zz_W → Prop} : zx_Lok 64 zHT PT zx_D691 := by
  refine zx_Lc_ok (fun w hI hK ins hl hr he hg => ?_)
  obtain ⟨a0, a1, a2, rfl⟩ := zx_i3 hl
  have e0 : (0 : Int) + ((-1) * a0 + ((-4294967296) * a1 + (1 * a2 + 0))) = 0 := he _ List.mem_cons_self
  have g0 : 0 ≤ (0 : Int) + (1 * a0 + 0) := hg _ List.mem_cons_self
  have g1 : 0 ≤ (4294967294 : Int) + ((-1) * a0 + 0) := hg _ (List.mem_cons_of_mem _ List.mem_cons_self)
  have g2 : 0 ≤ (0 : Int) + (1 * a1 + 0) := hg _ (List.mem_cons_of_mem _ (List.mem_cons_of_mem _ List.mem_cons_self))
  have g3 : 0 ≤ (4294967294 : Int) + ((-1) * a1 + 0) := hg _ (List.mem_cons_of_mem _ (List.mem_cons_of_mem _ (List.mem_cons_of_mem _ List.mem_cons_self)))
  have g4 : 0 ≤ (0 : Int) + ((-1) * a0 + (1 * (zk_xe w 207 a1) + 0)) := hg _ (List.mem_cons_of_mem _ (List.mem_cons_of_mem _ (List.mem_cons_of_mem _ (List.mem_cons_of_mem _ List.mem_cons_self))))
  have r0 : 0 ≤ a1 := hr _ List.mem_cons_self
  have r1 : 0 ≤ a1 := hr _ (List.mem_cons_of_mem _ List.mem_cons_self)
  have r2 : 0 ≤ a2 := hr _ (List.mem_cons_of_mem _ (List.mem_cons_of_mem _ List.mem_cons_self))
  have hn : zh_e w 207 (a1) = zk_xe w 207 a1 := by rw [zk_xe_r (i := 207) (by decide)]; show zk_el w 207 (a1) = zk_el w 207 a1; rw [show a1 = a1 by omega]
  by_cases c : zk_xe w 207 a1 ≤ a0
  ·
    obtain ⟨-, r2⟩ := zb_62 (w := w) (j := a2) (k := a0) (u := a1) (by omega) (by omega) (by omega) (by omega) (by omega) 
    have h := zb_63 (w := w) (j := a1)
    rw [hn, show zk_xe w 207 a1 = a0 by omega, ← r2] at h
    exact ⟨_, (List.mem_cons_of_mem _ List.mem_cons_self), [], rfl, zx_bnil, (zx_cs1 (by show 0 ≤ (0 : Int) + ((-1) * (zk_xe w 2000063 a1) + (1 * (zk_xe w 2000064 a2) + 0)); omega) (zx_cs1 (by show 0 ≤ (0 : Int) + (1 * (zk_xe w 2000063 a1) + ((-1) * (zk_xe w 2000064 a2) + 0)); omega) (zx_cs1 (by show 0 ≤ (0 : Int) + (1 * a0 + ((-1) * (zk_xe w 207 a1) + 0)); omega) zx_cs0))), zx_eF0, zx_k0⟩
  ·
    exact ⟨_, List.mem_cons_self, [], rfl, zx_bnil, (zx_cs1 (by show 0 ≤ ((-1) : Int) + ((-1) * a0 + (1 * (zk_xe w 207 a1) + 0)); omega) zx_cs0), zx_eF0, zx_k0⟩
def zx_D694 : zx_L := zx_Lc [] 1 [] [] [((0, 0), [(0, 1, 0)])] [] [([], [], [(2000065, ((0, 0), [(0, 1, 0)]), ((0, 0), []))], [])]
theorem zx_D694_ok {PT : Nat → zz_W → Prop} : zx_Lok 64 zHT PT zx_D694 := by
  refine zx_Lc_ok (fun w hI hK ins hl hr he hg => ?_)
  obtain ⟨a0, rfl⟩ := zx_i1 hl
  have e0 : (0 : Int) + (1 * a0 + 0) = 0 := he _ List.mem_cons_self
  exact ⟨_, List.mem_cons_self, [], rfl, zx_bnil, zx_cs0, (zx_eF1 (by show 0 ≤ (0 : Int) + (1 * a0 + 0); omega) (by show zk_xe w 2000065 ((0 : Int) + (1 * a0 + 0)) = (0 : Int) + (0); rw [show (0 : Int) + (1 * a0 + 0) = 0 by omega]; exact zb_65.trans rfl) zx_eF0), zx_k0⟩
def zx_D695 : zx_L := zx_Lc [] 1 [(2000065, 0), (234, 0)] [] [] [((0, 0), [(0, 1, 0)]), ((0, 3), [(2, 1, 0)])] [([], [], [(2000065, ((1, 0), [(0, 1, 0)]), ((1, 0), [(1, 1, 0)]))], [])]
theorem zx_D695_ok {PT : Nat → zz_W → Prop} : zx_Lok 64 zHT PT zx_D695 := by
  refine zx_Lc_ok (fun w hI hK ins hl hr he hg => ?_)
  obtain ⟨a0, rfl⟩ := zx_i1 hl
  have g0 : 0 ≤ (0 : Int) + (1 * a0 + 0) := hg _ List.mem_cons_self
  have g1 : 0 ≤ ((-3) : Int) + (1 * (zk_xe w 234 a0) + 0) := hg _ (List.mem_cons_of_mem _ List.mem_cons_self)
  have r0 : 0 ≤ a0 := hr _ List.mem_cons_self
  have r1 : 0 ≤ a0 := hr _ (List.mem_cons_of_mem _ List.mem_cons_self)
  have hx : zh_e w 234 (a0) = zk_xe w 234 a0 := by rw [zk_xe_r (i := 234) (by decide)]; show zk_el w 234 (a0) = zk_el w 234 a0; rw [show a0 = a0 by omega]
  have q := zb_65 (w := w) (j := a0 + 1)
  rw [zb_Pn (by omega), hx, ← zb_65] at q
  rw [if_pos (by omega)] at q
  exact ⟨_, List.mem_cons_self, [], rfl, zx_bnil, zx_cs0, (zx_eF1 (by show 0 ≤ (1 : Int) + (1 * a0 + 0); omega) (by show zk_xe w 2000065 ((1 : Int) + (1 * a0 + 0)) = (1 : Int) + (1 * (zk_xe w 2000065 a0) + 0); rw [show (1 : Int) + (1 * a0 + 0) = (a0 + 1) by omega]; exact q.trans (by omega)) zx_eF0), zx_k0⟩
def zx_D696 : zx_L := zx_Lc [] 1 [(2000065, 0), (234, 0)] [] [] [((0, 0), [(0, 1, 0)]), ((2, 0), [(2, 0, 1)])] [([], [], [(2000065, ((1, 0), [(0, 1, 0)]), ((0, 0), [(1, 1, 0)]))], [])]
theorem zx_D696_ok {PT : Nat → zz_W → Prop} : zx_Lok 64 zHT PT zx_D696 := by
  refine zx_Lc_ok (fun w hI hK ins hl hr he hg => ?_)
  obtain ⟨a0, rfl⟩ := zx_i1 hl
  have g0 : 0 ≤ (0 : Int) + (1 * a0 + 0) := hg _ List.mem_cons_self
  have g1 : 0 ≤ (2 : Int) + ((-1) * (zk_xe w 234 a0) + 0) := hg _ (List.mem_cons_of_mem _ List.mem_cons_self)
  have r0 : 0 ≤ a0 := hr _ List.mem_cons_self
  have r1 : 0 ≤ a0 := hr _ (List.mem_cons_of_mem _ List.mem_cons_self)
  have hx : zh_e w 234 (a0) = zk_xe w 234 a0 := by rw [zk_xe_r (i := 234) (by decide)]; show zk_el w 234 (a0) = zk_el w 234 a0; rw [show a0 = a0 by omega]
  have q := zb_65 (w := w) (j := a0 + 1)
  rw [zb_Pn (by omega), hx, ← zb_65] at q
  rw [if_neg (by omega)] at q
  exact ⟨_, List.mem_cons_self, [], rfl, zx_bnil, zx_cs0, (zx_eF1 (by show 0 ≤ (1 : Int) + (1 * a0 + 0); omega) (by show zk_xe w 2000065 ((1 : Int) + (1 * a0 + 0)) = (0 : Int) + (1 * (zk_xe w 2000065 a0) + 0); rw [show (1 : Int) + (1 * a0 + 0) = (a0 + 1) by omega]; exact q.trans (by omega)) zx_eF0), zx_k0⟩
def zx_D697 : zx_L := zx_Lc [] 2 [(2000065, 0), (2000065, 1)] [] [] [((0, 0), [(0, 1, 0)]), ((0, 0), [(0, 0, 1), (1, 1, 0)])] [([], [((0, 0), [(2, 0, 1), (3, 1, 0)])], [], [])]
theorem zx_D697_ok {PT : Nat → zz_W → Prop} : zx_Lok 64 zHT PT zx_D697 := by
  refine zx_Lc_ok (fun w hI hK ins hl hr he hg => ?_)
  obtain ⟨a0, a1, rfl⟩ := zx_i2 hl
  have g0 : 0 ≤ (0 : Int) + (1 * a0 + 0) := hg _ List.mem_cons_self
  have g1 : 0 ≤ (0 : Int) + ((-1) * a0 + (1 * a1 + 0)) := hg _ (List.mem_cons_of_mem _ List.mem_cons_self)
  have r0 : 0 ≤ a0 := hr _ List.mem_cons_self
  have r1 : 0 ≤ a1 := hr _ (List.mem_cons_of_mem _ List.mem_cons_self)
  have h := zb_Pm (f := zh_e w 234) (n := a0.toNat) (m := (a1 - a0).toNat)
  rw [show a0.toNat + (a1 - a0).toNat = a1.toNat by omega, ← zb_65, ← zb_65] at h
  exact ⟨_, List.mem_cons_self, [], rfl, zx_bnil, (zx_cs1 (by show 0 ≤ (0 : Int) + ((-1) * (zk_xe w 2000065 a0) + (1 * (zk_xe w 2000065 a1) + 0)); omega) zx_cs0), zx_eF0, zx_k0⟩
def zx_E502 : zx_V := zx_Vc 234 [] 1 [(2000065, 0)] [] [((0, 0), [(2, 1, 0)]), ((0, 0), [(0, 1, 0), (2, 0, 1)])] [(2000065, ((0, 0), [(2, 1, 0)]), ((0, 0), [(3, 1, 0)]))]
theorem zx_E502_ok {PT : Nat → zz_W → Prop} : zx_Vok 64 zHT PT zx_E502 := by
  refine zx_Vc_ok (fun w w' j ins hI hI' h0 hw hK hl he hg => ?_)
  obtain ⟨a0, rfl⟩ := zx_i1 hl
  have g0 : 0 ≤ (0 : Int) + (1 * a0 + 0) := hg _ List.mem_cons_self
  have g1 : 0 ≤ (0 : Int) + (1 * j + ((-1) * a0 + 0)) := hg _ (List.mem_cons_of_mem _ List.mem_cons_self)
  have r : zk_xe w' 2000065 a0 = zk_xe w 2000065 a0 := by
    rw [zb_65, zb_65]
    exact zb_Pc (fun i i1 i2 => hw.2 i i1 (by omega))
  exact (zx_eF1 (by show 0 ≤ (0 : Int) + (1 * a0 + 0); omega) (by show zk_xe w' 2000065 ((0 : Int) + (1 * a0 + 0)) = (0 : Int) + (1 * (zk_xe w 2000065 a0) + 0); rw [show (0 : Int) + (1 * a0 + 0) = a0 by omega]; exact r.trans (by omega)) zx_eF0)
/-- the reference's parser (functions 70 to 74) -/
theorem zs_uc {un uk un' uk' : Int → Int} {n n' : Int} (h : ∀ j, 0 ≤ j → j < n → un' j = un j ∧ uk' j = uk j) (hn : n ≤ n') {a k : Int} (q : zs_u un uk 0 n a k) : zs_u un' uk' 0 n' a k := by
  obtain ⟨j, j0, jl, j1, e1, e2⟩ := q
  exact ⟨j, j0, jl, by omega, (h j j0 j1).1.trans e1, (h j j0 j1).2.trans e2⟩
theorem zs_stc {sw sa sb sc sd un uk sw' sa' sb' sc' sd' un' uk' : Int → Int} {n n' b p : Int} (hb : b ≤ p) (hs : ∀ i, b ≤ i → i ≤ p → sw' i = sw i ∧ sa' i = sa i ∧ sb' i = sb i ∧ sc' i = sc i ∧ sd' i = sd i) (hu : ∀ a k, zs_u un uk 0 n a k → zs_u un' uk' 0 n' a k) (h : zs_st sw sa sb sc sd un uk n b p) : zs_st sw' sa' sb' sc' sd' un' uk' n' b p := by
  obtain ⟨e1, e2, e3, e4, e5⟩ := hs p hb (Int.le_refl p)
  unfold zs_st at h ⊢
  obtain ⟨h1, h2, h3, h4, h5, h6, h7, h8⟩ := h
  refine ⟨?_, ?_, ?_, ?_, ?_, ?_, ?_, ?_⟩
  · rw [e1, e4]
    exact h1
  · rw [e1, e2, e3]
    intro c
    rcases h2 c with ⟨x, y⟩ | x
    · exact Or.inl ⟨x, hu _ _ y⟩
    · exact Or.inr x
  · rw [e1, e2, e3, e5]
    intro c
    rcases h3 c with ⟨x, y⟩ | x
    · exact Or.inl ⟨x, hu _ _ y⟩
    · exact Or.inr x
  · rw [e1, e2, e3, e4]
    intro c
    obtain ⟨q, q1, q2, q3, q4⟩ := h4 c
    obtain ⟨f1, f2, f3, f4, -⟩ := hs (p - 1) (by omega) (by omega)
    exact ⟨q, f1.trans q1, f2.trans q2, f3.trans q3, f4.trans q4⟩
  · rw [e1, e2, e3]
    intro c
    obtain ⟨q1, q2, q3⟩ := h5 c
    exact ⟨q1, q2, hu _ _ q3⟩
  · rw [e1, e2, e3]
    intro c
    obtain ⟨j, j1, j2, q1, q2, q3, q4, q5⟩ := h6 c
    obtain ⟨f1, f2, f3, f4, -⟩ := hs j j1 (by omega)
    refine ⟨j, j1, j2, f1.trans q1, f2.trans q2, f3.trans q3, f4.trans q4, fun m m1 m2 => ?_⟩
    obtain ⟨g1, -, -, g4, -⟩ := hs m (by omega) (by omega)
    rw [g1, g4]
    exact q5 m m1 m2
  · rw [e1]
    intro c
    obtain ⟨j, j1, j2, q1, q5⟩ := h7 c
    obtain ⟨f1, -⟩ := hs j j1 (by omega)
    refine ⟨j, j1, j2, f1.trans q1, fun m m1 m2 => ?_⟩
    obtain ⟨g1, -⟩ := hs m (by omega) (by omega)
    rw [g1]
    exact q5 m m1 m2
  · rw [e1]
    intro c
    by_cases hp : p = b
    · exact Or.inl hp
    · obtain ⟨f1, -⟩ := hs (p - 1) (by omega) (by omega)
      rw [f1]
      exact h8 c
theorem zs_Sc {w w' : zz_W} {n n' u : Int} (hs : ∀ i, 8000 * u ≤ i → i < 8000 * u + zh_e w 207 u → zh_e w' 208 i = zh_e w 208 i ∧ zh_e w' 209 i = zh_e w 209 i ∧ zh_e w' 210 i = zh_e w 210 i ∧ zh_e w' 211 i = zh_e w 211 i ∧ zh_e w' 212 i = zh_e w 212 i) (hsn : zh_e w' 207 u = zh_e w 207 u) (hn : n ≤ n') (hU : ∀ j, 0 ≤ j → j < n → zh_e w' 229 j = zh_e w 229 j ∧ zh_e w' 230 j = zh_e w 230 j) (h : zs_S w n u) : zs_S w' n' u := by
  unfold zs_S at h ⊢
  rw [hsn]
  intro p p1 p2
  exact zs_stc p1 (fun i i1 i2 => hs i i1 (by omega)) (fun a k => zs_uc hU hn) (h p p1 p2)
theorem zs_gen {w w' : zz_W} {n u c z m l n' m' l' : Int} (hx : zs_x (zh_e w 224) → zs_x (zh_e w' 224)) (hs : ∀ i, 8000 * u ≤ i → i < 8000 * u + zh_e w 207 u → zh_e w' 208 i = zh_e w 208 i ∧ zh_e w' 209 i = zh_e w 209 i ∧ zh_e w' 210 i = zh_e w 210 i ∧ zh_e w' 211 i = zh_e w 211 i ∧ zh_e w' 212 i = zh_e w 212 i) (hsn : zh_e w' 207 u = zh_e w 207 u) (hn : n ≤ n') (hU : ∀ j, 0 ≤ j → j < n → zh_e w' 229 j = zh_e w 229 j ∧ zh_e w' 230 j = zh_e w 230 j) (h0 : (c = 0 ∧ m' = 0) ∨ zh_e w' 250 0 = zh_e w 250 0) (hc : ∀ i, 0 ≤ i → i < c → (i < c - 1 ∨ z ≠ 1) → zh_e w' 250 i = zh_e w 250 i ∧ zh_e w' 240 i = zh_e w 240 i ∧ zh_e w' 241 i = zh_e w 241 i ∧ zh_e w' 242 i = zh_e w 242 i) (hm : m' ≤ m) (hM : ∀ i, 0 ≤ i → i < m' → zh_e w' 253 i = zh_e w 253 i) (hl : l' ≤ l) (hL : ∀ i, 0 ≤ i → i < l' → zh_e w' 227 i = zh_e w 227 i ∧ zh_e w' 226 i = zh_e w 226 i) (h : zs_ps w n u c z m l) : zs_ps w' n' u c z m' l' := by
  unfold zs_ps at h ⊢
  rcases h with h | ⟨h1, h2, h3, h4⟩
  · exact Or.inl (hx h)
  · refine Or.inr ⟨zs_Sc hs hsn hn hU h1, ?_, ?_, ?_⟩
    · intro i i1 i2 i3
      have q := h2 i i1 i2 i3
      obtain ⟨a0, a1, a2, a3⟩ := hc i i1 i2 i3
      rcases h0 with ⟨x, -⟩ | x
      · omega
      · rw [x, a0, a1, a2, a3]
        exact q
    · intro i i1 i2
      have q := h3 i i1 (by omega)
      rcases h0 with ⟨-, x⟩ | x
      · omega
      · rw [x, hM i i1 i2]
        exact q
    · intro i i1 i2
      have q := h4 i i1 (by omega)
      obtain ⟨a0, a1⟩ := hL i i1 i2
      rw [a0, a1]
      exact q
theorem zs_70 {w : zz_W} {j n u c z m l : Int} (e : j = n + 4294967296 * u + 18446744073709551616 * c + 79228162514264337593543950336 * z + 340282366920938463463374607431768211456 * m + 1461501637330902918203684832716283019655932542976 * l) (n0 : 0 ≤ n) (n1 : n < 4294967296) (u0 : 0 ≤ u) (u1 : u < 4294967296) (c0 : 0 ≤ c) (c1 : c < 4294967296) (z0 : 0 ≤ z) (z1 : z < 4294967296) (m0 : 0 ≤ m) (m1 : m < 4294967296) (l0 : 0 ≤ l) (l1 : l < 4294967296) : zk_xe w 2000070 j = 1 ↔ zs_ps w n u c z m l := by
  obtain ⟨d0, d1, d2, d3, d4, d5, -, -⟩ := zm_e6 (j := j) (c0 := n) (c1 := u) (c2 := c) (c3 := z) (c4 := m) (c5 := l) (R := 0) (by omega) n0 n1 u0 u1 c0 c1 z0 z1 m0 m1 l0 l1
  rw [show (2000070 : Nat) = 2000000 + 70 from rfl, zk_xe_h]
  have h : zv_H 70 w j = zh_b (zs_ps w n u c z m l) := by
    show zh_b (zs_ps w (zv_dg 0 j) (zv_dg 1 j) (zv_dg 2 j) (zv_dg 3 j) (zv_dg 4 j) (zv_dg 5 j)) = _
    rw [d0, d1, d2, d3, d4, d5]
  rw [h]
  exact ⟨zh_b1', zh_b1⟩
theorem zs_71 {w : zz_W} {j : Int} : zk_xe w 2000071 j = zh_b (zs_x (zh_e w 224)) := by
  rw [show (2000071 : Nat) = 2000000 + 71 from rfl, zk_xe_h]
  rfl
theorem zs_71c {w : zz_W} {j : Int} : (zk_xe w 2000071 j = 1 ∧ zs_x (zh_e w 224)) ∨ (zk_xe w 2000071 j = 0 ∧ ¬ zs_x (zh_e w 224)) := by
  rw [zs_71]
  by_cases h : zs_x (zh_e w 224)
  · exact Or.inl ⟨zh_b1 h, h⟩
  · exact Or.inr ⟨zh_b0 h, h⟩
theorem zs_72 {w : zz_W} {j a k n : Int} (e : j = a + 4294967296 * k + 18446744073709551616 * n) (a0 : 0 ≤ a) (a1 : a < 4294967296) (k0 : 0 ≤ k) (k1 : k < 4294967296) (n0 : 0 ≤ n) (n1 : n < 4294967296) : zk_xe w 2000072 j = 1 ↔ zs_u (zh_e w 229) (zh_e w 230) 0 n (a - 1) k := by
  obtain ⟨d0, d1, d2, d3, -, -⟩ := zm_e4 (j := j) (c0 := a) (c1 := k) (c2 := n) (c3 := 0) (R := 0) (by omega) a0 a1 k0 k1 n0 n1 (by omega) (by omega)
  rw [show (2000072 : Nat) = 2000000 + 72 from rfl, zk_xe_h]
  have h : zv_H 72 w j = zh_b (zs_u (zh_e w 229) (zh_e w 230) 0 n (a - 1) k) := by
    show zh_b (zs_u (zh_e w 229) (zh_e w 230) (zv_dg 3 j) (zv_dg 2 j) (zv_dg 0 j - 1) (zv_dg 1 j)) = _
    rw [d0, d1, d2, d3]
  rw [h]
  exact ⟨zh_b1', zh_b1⟩
theorem zs_73 {w : zz_W} {j : Int} : zk_xe w 2000073 j = zs_T w j := by
  rw [show (2000073 : Nat) = 2000000 + 73 from rfl, zk_xe_h]
  rfl
theorem zs_74 {w : zz_W} {j n u : Int} (e : j = n + 4294967296 * u) (n0 : 0 ≤ n) (n1 : n < 4294967296) (u0 : 0 ≤ u) (u1 : u < 4294967296) : zk_xe w 2000074 j = 1 ↔ (zs_x (zh_e w 224) ∨ zs_S w n u) := by
  obtain ⟨x0, y0, -⟩ := zm_z1 e n0 n1
  obtain ⟨x1, -, -⟩ := zm_z1 (j := u) (a := u) (b := 0) (by omega) u0 u1
  have h1 : zv_dg 1 j = u := (y0 0).trans x1
  rw [show (2000074 : Nat) = 2000000 + 74 from rfl, zk_xe_h]
  have h : zv_H 74 w j = zh_b (zs_x (zh_e w 224) ∨ zs_S w n u) := by
    show zh_b (zs_x (zh_e w 224) ∨ zs_S w (zv_dg 0 j) (zv_dg 1 j)) = _
    rw [x0, h1]
  rw [h]
  exact ⟨zh_b1', zh_b1⟩
theorem zs_75 {w : zz_W} {j v l b : Int} (e : j = v + 4294967296 * l + 18446744073709551616 * b) (v0 : 0 ≤ v) (v1 : v < 4294967296) (l0 : 0 ≤ l) (l1 : l < 4294967296) (b0 : 0 ≤ b) (b1 : b < 4294967296) : zk_xe w 2000075 j = 1 ↔ zs_vo (zh_e w 228) (zh_e w 255) v l b := by
  obtain ⟨d0, d1, d2⟩ := zg_d3 (j := j) (n := v) (k := l) (u := b) (by omega) v0 v1 l0 l1 b0 b1
  rw [show (2000075 : Nat) = 2000000 + 75 from rfl, zk_xe_h]
  have h : zv_H 75 w j = zh_b (zs_vo (zh_e w 228) (zh_e w 255) v l b) := by
    show zh_b (zs_vo (zh_e w 228) (zh_e w 255) (zv_dg 0 j) (zv_dg 1 j) (zv_dg 2 j)) = _
    rw [d0, d1, d2]
  rw [h]
  exact ⟨zh_b1', zh_b1⟩
theorem zs_tb {sw sc : Int → Int} {o b : Int} : ∀ {n : Nat}, 0 ≤ zs_t sw sc o b n ∧ zs_t sw sc o b n ≤ (n : Int) ∧ ∀ m : Int, zs_t sw sc o b n ≤ m → m < (n : Int) → 3 ≤ sw (b + m) ∧ sw (b + m) ≤ 10 ∧ o ≤ sc (b + m)
  | 0 => ⟨Int.le_refl 0, Int.le_refl 0, fun m h1 h2 => by
      have h1 : (0 : Int) ≤ m := h1
      have h2 : m < 0 := h2
      omega⟩
  | n + 1 => by
    obtain ⟨h1, h2, h3⟩ := zs_tb (sw := sw) (sc := sc) (o := o) (b := b) (n := n)
    by_cases c : 3 ≤ sw (b + (n : Int)) ∧ sw (b + (n : Int)) ≤ 10 ∧ o ≤ sc (b + (n : Int))
    · have e : zs_t sw sc o b (n + 1) = zs_t sw sc o b n := if_pos c
      rw [e]
      refine ⟨h1, by omega, fun m m1 m2 => ?_⟩
      by_cases hm : m = (n : Int)
      · rw [hm]
        exact c
      · exact h3 m m1 (by omega)
    · have e : zs_t sw sc o b (n + 1) = (n : Int) + 1 := if_neg c
      rw [e]
      exact ⟨by omega, by omega, fun m m1 m2 => by omega⟩
theorem zs_tc {sw sc sw' sc' : Int → Int} {o b : Int} : ∀ {n : Nat}, (∀ i, b ≤ i → i < b + (n : Int) → sw' i = sw i ∧ sc' i = sc i) → zs_t sw' sc' o b n = zs_t sw sc o b n
  | 0, _ => rfl
  | n + 1, h => by
    obtain ⟨e1, e2⟩ := h (b + (n : Int)) (by omega) (by omega)
    show (if 3 ≤ sw' (b + (n : Int)) ∧ sw' (b + (n : Int)) ≤ 10 ∧ o ≤ sc' (b + (n : Int)) then zs_t sw' sc' o b n else (n : Int) + 1) = (if 3 ≤ sw (b + (n : Int)) ∧ sw (b + (n : Int)) ≤ 10 ∧ o ≤ sc (b + (n : Int)) then zs_t sw sc o b n else (n : Int) + 1)
    rw [e1, e2, zs_tc (n := n) (fun i i1 i2 => h i i1 (by omega))]
theorem zs_T1 {w : zz_W} {u : Int} (h : zs_x (zh_e w 224)) : zs_T w u = 0 := by
  unfold zs_T
  exact if_pos h
theorem zs_T0 {w : zz_W} {u : Int} (h : ¬ zs_x (zh_e w 224)) : zs_T w u = zs_t (zh_e w 208) (zh_e w 211) (zh_e w 250 0) (8000 * u) (zh_e w 207 u).toNat := by
  unfold zs_T
  exact if_neg h
theorem zs_Tc {w w' : zz_W} {u : Int} (hx : zh_e w' 224 = zh_e w 224) (hn : zh_e w' 207 u = zh_e w 207 u) (ho : zh_e w' 250 0 = zh_e w 250 0) (hs : ∀ i, 8000 * u ≤ i → i < 8000 * u + zh_e w 207 u → zh_e w' 208 i = zh_e w 208 i ∧ zh_e w' 211 i = zh_e w 211 i) : zk_xe w' 2000073 u = zk_xe w 2000073 u := by
  rw [zs_73, zs_73]
  by_cases c : zs_x (zh_e w 224)
  · rw [zs_T1 c, zs_T1 (by rw [hx]; exact c)]
  · rw [zs_T0 c, zs_T0 (by rw [hx]; exact c), hn, ho]
    exact zs_tc (fun i i1 i2 => hs i i1 (by omega))
/-- a step more -/
theorem zs_more {w w' : zz_W} {u k n : Int} (hw : zk_rR 207 u w w') (hn : zh_e w 207 u = k) (k0 : 0 ≤ k) (hV : zk_el w' 207 u = k + 1) (h : zs_S w n u) (q : zs_st (zh_e w 208) (zh_e w 209) (zh_e w 210) (zh_e w 211) (zh_e w 212) (zh_e w 229) (zh_e w 230) n (8000 * u) (8000 * u + k)) : zs_S w' n u := by
  have es : zh_e w' 207 u = k + 1 := hV
  unfold zs_S at h ⊢
  rw [es, zh_e_g (hw.1 208 (by decide)), zh_e_g (hw.1 209 (by decide)), zh_e_g (hw.1 210 (by decide)), zh_e_g (hw.1 211 (by decide)), zh_e_g (hw.1 212 (by decide)), zh_e_g (hw.1 229 (by decide)), zh_e_g (hw.1 230 (by decide))]
  rw [hn] at h
  intro p p1 p2
  by_cases hp : p = 8000 * u + k
  · rw [hp]
    exact q
  · exact h p p1 (by omega)
theorem zs_Tn {w w' : zz_W} {u k : Int} (hw : zk_rR 207 u w w') (hn : zh_e w 207 u = k) (k0 : 0 ≤ k) (hV : zk_el w' 207 u = k + 1) (h : ¬ zs_x (zh_e w 224) → 3 ≤ zh_e w 208 (8000 * u + k) ∧ zh_e w 208 (8000 * u + k) ≤ 10 ∧ zh_e w 250 0 ≤ zh_e w 211 (8000 * u + k)) : zk_xe w' 2000073 u = zk_xe w 2000073 u := by
  have es : zh_e w' 207 u = k + 1 := hV
  rw [zs_73, zs_73]
  by_cases c : zs_x (zh_e w 224)
  · rw [zs_T1 c, zs_T1 (by rw [zh_e_g (hw.1 224 (by decide))]; exact c)]
  · rw [zs_T0 c, zs_T0 (by rw [zh_e_g (hw.1 224 (by decide))]; exact c), es, hn, zh_e_g (hw.1 208 (by decide)), zh_e_g (hw.1 211 (by decide)), zh_e_g (hw.1 250 (by decide)), show (k + 1).toNat = k.toNat + 1 by omega]
    have h := h c
    have e : ((k.toNat : Nat) : Int) = k := by omega
    refine if_pos ?_
    rw [e]
    exact h
def zx_D700 : zx_L := zx_Lc [] 2 [(207, 0)] [] [((0, 0), [(0, 0, 4294967296), (1, 1, 0)]), ((0, 0), [(2, 1, 0)])] [((0, 0), [(0, 1, 0)]), ((4294967294, 0), [(0, 0, 1)])] [([], [], [(2000070, ((0, 0), [(1, 1, 0)]), ((1, 0), []))], [])]
theorem zx_D700_ok {PT : Nat → zz_W → Prop} : zx_Lok 64 zHT PT zx_D700 := by
  refine zx_Lc_ok (fun w hI hK ins hl hr he hg => ?_)
  obtain ⟨a0, a1, rfl⟩ := zx_i2 hl
  have e0 : (0 : Int) + ((-4294967296) * a0 + (1 * a1 + 0)) = 0 := he _ List.mem_cons_self
  have e1 : (0 : Int) + (1 * (zk_xe w 207 a0) + 0) = 0 := he _ (List.mem_cons_of_mem _ List.mem_cons_self)
  have g0 : 0 ≤ (0 : Int) + (1 * a0 + 0) := hg _ List.mem_cons_self
  have g1 : 0 ≤ (4294967294 : Int) + ((-1) * a0 + 0) := hg _ (List.mem_cons_of_mem _ List.mem_cons_self)
  have r0 : 0 ≤ a0 := hr _ List.mem_cons_self
  have hn : zh_e w 207 (a0) = zk_xe w 207 a0 := by rw [zk_xe_r (i := 207) (by decide)]; show zk_el w 207 (a0) = zk_el w 207 a0; rw [show a0 = a0 by omega]
  have h : zs_ps w 0 a0 0 0 0 0 := by
    refine Or.inr ⟨?_, fun i i1 i2 _ => by omega, fun i i1 i2 => by omega, fun i i1 i2 => by omega⟩
    unfold zs_S
    rw [hn]
    intro p p1 p2
    omega
  exact ⟨_, List.mem_cons_self, [], rfl, zx_bnil, zx_cs0, (zx_eF1 (by show 0 ≤ (0 : Int) + (1 * a1 + 0); omega) (by show zk_xe w 2000070 ((0 : Int) + (1 * a1 + 0)) = (1 : Int) + (0); rw [show (0 : Int) + (1 * a1 + 0) = a1 by omega]; exact ((zs_70 (w := w) (j := a1) (n := 0) (u := a0) (c := 0) (z := 0) (m := 0) (l := 0) (by omega) (by omega) (by omega) (by omega) (by omega) (by omega) (by omega) (by omega) (by omega) (by omega) (by omega) (by omega) (by omega) ).mpr (h)).trans (by omega)) zx_eF0), zx_k0⟩
def zx_D701 : zx_L := zx_Lc [] 1 [] [] [((0, 0), [(0, 1, 0)])] [] [([(0, 1)], [], [(2000071, ((0, 0), [(0, 1, 0)]), ((0, 0), [(1, 1, 0)]))], [])]
theorem zx_D701_ok {PT : Nat → zz_W → Prop} : zx_Lok 64 zHT PT zx_D701 := by
  refine zx_Lc_ok (fun w hI hK ins hl hr he hg => ?_)
  obtain ⟨a0, rfl⟩ := zx_i1 hl
  have e0 : (0 : Int) + (1 * a0 + 0) = 0 := he _ List.mem_cons_self
  have h := zs_71c (w := w) (j := a0)
  exact ⟨_, List.mem_cons_self, [zk_xe w 2000071 a0], rfl, (zx_bcons (by show (0 : Int) ≤ zk_xe w 2000071 a0 ∧ zk_xe w 2000071 a0 ≤ (1 : Int); omega) zx_bnil), zx_cs0, (zx_eF1 (by show 0 ≤ (0 : Int) + (1 * a0 + 0); omega) (by show zk_xe w 2000071 ((0 : Int) + (1 * a0 + 0)) = (0 : Int) + (1 * (zk_xe w 2000071 a0) + 0); rw [show (0 : Int) + (1 * a0 + 0) = a0 by omega]; omega) zx_eF0), zx_k0⟩
def zx_D702 : zx_L := zx_Lc [] 1 [(207, 0)] [] [] [((0, 0), [(1, 1, 0)]), ((8000, 0), [(1, 0, 1)])] [([(0, 8000)], [((0, 0), [(1, 1, 0), (2, 0, 1)])], [(2000073, ((0, 0), [(0, 1, 0)]), ((0, 0), [(2, 1, 0)]))], [])]
theorem zx_D702_ok {PT : Nat → zz_W → Prop} : zx_Lok 64 zHT PT zx_D702 := by
  refine zx_Lc_ok (fun w hI hK ins hl hr he hg => ?_)
  obtain ⟨a0, rfl⟩ := zx_i1 hl
  have g0 : 0 ≤ (0 : Int) + (1 * (zk_xe w 207 a0) + 0) := hg _ List.mem_cons_self
  have g1 : 0 ≤ (8000 : Int) + ((-1) * (zk_xe w 207 a0) + 0) := hg _ (List.mem_cons_of_mem _ List.mem_cons_self)
  have r0 : 0 ≤ a0 := hr _ List.mem_cons_self
  have hn : zh_e w 207 (a0) = zk_xe w 207 a0 := by rw [zk_xe_r (i := 207) (by decide)]; show zk_el w 207 (a0) = zk_el w 207 a0; rw [show a0 = a0 by omega]
  have h : 0 ≤ zk_xe w 2000073 a0 ∧ zk_xe w 2000073 a0 ≤ zk_xe w 207 a0 := by
    rw [zs_73]
    by_cases c : zs_x (zh_e w 224)
    · rw [zs_T1 c]
      exact ⟨Int.le_refl 0, by omega⟩
    · rw [zs_T0 c, hn]
      obtain ⟨q1, q2, -⟩ := zs_tb (sw := zh_e w 208) (sc := zh_e w 211) (o := zh_e w 250 0) (b := 8000 * a0) (n := (zk_xe w 207 a0).toNat)
      exact ⟨q1, by omega⟩
  have hb : zk_xe w 207 a0 ≤ 8000 := by omega
  exact ⟨_, List.mem_cons_self, [zk_xe w 2000073 a0], rfl, (zx_bcons (by show (0 : Int) ≤ zk_xe w 2000073 a0 ∧ zk_xe w 2000073 a0 ≤ (8000 : Int); omega) zx_bnil), (zx_cs1 (by show 0 ≤ (0 : Int) + (1 * (zk_xe w 207 a0) + ((-1) * (zk_xe w 2000073 a0) + 0)); omega) zx_cs0), (zx_eF1 (by show 0 ≤ (0 : Int) + (1 * a0 + 0); omega) (by show zk_xe w 2000073 ((0 : Int) + (1 * a0 + 0)) = (0 : Int) + (1 * (zk_xe w 2000073 a0) + 0); rw [show (0 : Int) + (1 * a0 + 0) = a0 by omega]; omega) zx_eF0), zx_k0⟩
def zx_D703 : zx_L := zx_Lc [] 11 [(2000070, 0)] [] [((0, 0), [(0, 1, 0), (1, 0, 1), (2, 0, 4294967296), (3, 0, 18446744073709551616), (4, 0, 79228162514264337593543950336), (5, 0, 340282366920938463463374607431768211456), (6, 0, 1461501637330902918203684832716283019655932542976)]), ((0, 0), [(2, 0, 4294967296), (3, 0, 18446744073709551616), (4, 0, 79228162514264337593543950336), (7, 1, 0), (8, 0, 1), (9, 0, 340282366920938463463374607431768211456), (10, 0, 1461501637330902918203684832716283019655932542976)]), ((0, 1), [(11, 1, 0)])] [((0, 0), [(1, 1, 0)]), ((4294967294, 0), [(1, 0, 1)]), ((0, 0), [(2, 1, 0)]), ((4294967294, 0), [(2, 0, 1)]), ((0, 0), [(3, 1, 0)]), ((4294967294, 0), [(3, 0, 1)]), ((0, 0), [(4, 1, 0)]), ((4294967294, 0), [(4, 0, 1)]), ((0, 0), [(5, 1, 0)]), ((4294967294, 0), [(5, 0, 1)]), ((0, 0), [(6, 1, 0)]), ((4294967294, 0), [(6, 0, 1)]), ((0, 0), [(8, 1, 0)]), ((4294967294, 0), [(8, 0, 1)]), ((0, 0), [(9, 1, 0)]), ((4294967294, 0), [(9, 0, 1)]), ((0, 0), [(10, 1, 0)]), ((4294967294, 0), [(10, 0, 1)]), ((0, 0), [(1, 0, 1), (8, 1, 0)]), ((0, 0), [(5, 1, 0), (9, 0, 1)]), ((0, 0), [(6, 1, 0), (10, 0, 1)])] [([], [], [(2000070, ((0, 0), [(7, 1, 0)]), ((1, 0), []))], [])]
theorem zx_D703_ok {PT : Nat → zz_W → Prop} : zx_Lok 64 zHT PT zx_D703 := by
  refine zx_Lc_ok (fun w hI hK ins hl hr he hg => ?_)
  obtain ⟨a0, a1, a2, a3, a4, a5, a6, a7, a8, a9, a10, rfl⟩ := zx_i11 hl
  have e0 : (0 : Int) + (1 * a0 + ((-1) * a1 + ((-4294967296) * a2 + ((-18446744073709551616) * a3 + ((-79228162514264337593543950336) * a4 + ((-340282366920938463463374607431768211456) * a5 + ((-1461501637330902918203684832716283019655932542976) * a6 + 0))))))) = 0 := he _ List.mem_cons_self
  have e1 : (0 : Int) + ((-4294967296) * a2 + ((-18446744073709551616) * a3 + ((-79228162514264337593543950336) * a4 + (1 * a7 + ((-1) * a8 + ((-340282366920938463463374607431768211456) * a9 + ((-1461501637330902918203684832716283019655932542976) * a10 + 0))))))) = 0 := he _ (List.mem_cons_of_mem _ List.mem_cons_self)
  have e2 : ((-1) : Int) + (1 * (zk_xe w 2000070 a0) + 0) = 0 := he _ (List.mem_cons_of_mem _ (List.mem_cons_of_mem _ List.mem_cons_self))
  have g0 : 0 ≤ (0 : Int) + (1 * a1 + 0) := hg _ List.mem_cons_self
  have g1 : 0 ≤ (4294967294 : Int) + ((-1) * a1 + 0) := hg _ (List.mem_cons_of_mem _ List.mem_cons_self)
  have g2 : 0 ≤ (0 : Int) + (1 * a2 + 0) := hg _ (List.mem_cons_of_mem _ (List.mem_cons_of_mem _ List.mem_cons_self))
  have g3 : 0 ≤ (4294967294 : Int) + ((-1) * a2 + 0) := hg _ (List.mem_cons_of_mem _ (List.mem_cons_of_mem _ (List.mem_cons_of_mem _ List.mem_cons_self)))
  have g4 : 0 ≤ (0 : Int) + (1 * a3 + 0) := hg _ (List.mem_cons_of_mem _ (List.mem_cons_of_mem _ (List.mem_cons_of_mem _ (List.mem_cons_of_mem _ List.mem_cons_self))))
  have g5 : 0 ≤ (4294967294 : Int) + ((-1) * a3 + 0) := hg _ (List.mem_cons_of_mem _ (List.mem_cons_of_mem _ (List.mem_cons_of_mem _ (List.mem_cons_of_mem _ (List.mem_cons_of_mem _ List.mem_cons_self)))))
  have g6 : 0 ≤ (0 : Int) + (1 * a4 + 0) := hg _ (List.mem_cons_of_mem _ (List.mem_cons_of_mem _ (List.mem_cons_of_mem _ (List.mem_cons_of_mem _ (List.mem_cons_of_mem _ (List.mem_cons_of_mem _ List.mem_cons_self))))))
  have g7 : 0 ≤ (4294967294 : Int) + ((-1) * a4 + 0) := hg _ (List.mem_cons_of_mem _ (List.mem_cons_of_mem _ (List.mem_cons_of_mem _ (List.mem_cons_of_mem _ (List.mem_cons_of_mem _ (List.mem_cons_of_mem _ (List.mem_cons_of_mem _ List.mem_cons_self)))))))
  have g8 : 0 ≤ (0 : Int) + (1 * a5 + 0) := hg _ (List.mem_cons_of_mem _ (List.mem_cons_of_mem _ (List.mem_cons_of_mem _ (List.mem_cons_of_mem _ (List.mem_cons_of_mem _ (List.mem_cons_of_mem _ (List.mem_cons_of_mem _ (List.mem_cons_of_mem _ List.mem_cons_self))))))))
  have g9 : 0 ≤ (4294967294 : Int) + ((-1) * a5 + 0) := hg _ (List.mem_cons_of_mem _ (List.mem_cons_of_mem _ (List.mem_cons_of_mem _ (List.mem_cons_of_mem _ (List.mem_cons_of_mem _ (List.mem_cons_of_mem _ (List.mem_cons_of_mem _ (List.mem_cons_of_mem _ (List.mem_cons_of_mem _ List.mem_cons_self)))))))))
  have g10 : 0 ≤ (0 : Int) + (1 * a6 + 0) := hg _ (List.mem_cons_of_mem _ (List.mem_cons_of_mem _ (List.mem_cons_of_mem _ (List.mem_cons_of_mem _ (List.mem_cons_of_mem _ (List.mem_cons_of_mem _ (List.mem_cons_of_mem _ (List.mem_cons_of_mem _ (List.mem_cons_of_mem _ (List.mem_cons_of_mem _ List.mem_cons_self))))))))))
  have g11 : 0 ≤ (4294967294 : Int) + ((-1) * a6 + 0) := hg _ (List.mem_cons_of_mem _ (List.mem_cons_of_mem _ (List.mem_cons_of_mem _ (List.mem_cons_of_mem _ (List.mem_cons_of_mem _ (List.mem_cons_of_mem _ (List.mem_cons_of_mem _ (List.mem_cons_of_mem _ (List.mem_cons_of_mem _ (List.mem_cons_of_mem _ (List.mem_cons_of_mem _ List.mem_cons_self)))))))))))
  have g12 : 0 ≤ (0 : Int) + (1 * a8 + 0) := hg _ (List.mem_cons_of_mem _ (List.mem_cons_of_mem _ (List.mem_cons_of_mem _ (List.mem_cons_of_mem _ (List.mem_cons_of_mem _ (List.mem_cons_of_mem _ (List.mem_cons_of_mem _ (List.mem_cons_of_mem _ (List.mem_cons_of_mem _ (List.mem_cons_of_mem _ (List.mem_cons_of_mem _ (List.mem_cons_of_mem _ List.mem_cons_self))))))))))))
  have g13 : 0 ≤ (4294967294 : Int) + ((-1) * a8 + 0) := hg _ (List.mem_cons_of_mem _ (List.mem_cons_of_mem _ (List.mem_cons_of_mem _ (List.mem_cons_of_mem _ (List.mem_cons_of_mem _ (List.mem_cons_of_mem _ (List.mem_cons_of_mem _ (List.mem_cons_of_mem _ (List.mem_cons_of_mem _ (List.mem_cons_of_mem _ (List.mem_cons_of_mem _ (List.mem_cons_of_mem _ (List.mem_cons_of_mem _ List.mem_cons_self)))))))))))))
  have g14 : 0 ≤ (0 : Int) + (1 * a9 + 0) := hg _ (List.mem_cons_of_mem _ (List.mem_cons_of_mem _ (List.mem_cons_of_mem _ (List.mem_cons_of_mem _ (List.mem_cons_of_mem _ (List.mem_cons_of_mem _ (List.mem_cons_of_mem _ (List.mem_cons_of_mem _ (List.mem_cons_of_mem _ (List.mem_cons_of_mem _ (List.mem_cons_of_mem _ (List.mem_cons_of_mem _ (List.mem_cons_of_mem _ (List.mem_cons_of_mem _ List.mem_cons_self))))))))))))))
  have g15 : 0 ≤ (4294967294 : Int) + ((-1) * a9 + 0) := hg _ (List.mem_cons_of_mem _ (List.mem_cons_of_mem _ (List.mem_cons_of_mem _ (List.mem_cons_of_mem _ (List.mem_cons_of_mem _ (List.mem_cons_of_mem _ (List.mem_cons_of_mem _ (List.mem_cons_of_mem _ (List.mem_cons_of_mem _ (List.mem_cons_of_mem _ (List.mem_cons_of_mem _ (List.mem_cons_of_mem _ (List.mem_cons_of_mem _ (List.mem_cons_of_mem _ (List.mem_cons_of_mem _ List.mem_cons_self)))))))))))))))
  have g16 : 0 ≤ (0 : Int) + (1 * a10 + 0) := hg _ (List.mem_cons_of_mem _ (List.mem_cons_of_mem _ (List.mem_cons_of_mem _ (List.mem_cons_of_mem _ (List.mem_cons_of_mem _ (List.mem_cons_of_mem _ (List.mem_cons_of_mem _ (List.mem_cons_of_mem _ (List.mem_cons_of_mem _ (List.mem_cons_of_mem _ (List.mem_cons_of_mem _ (List.mem_cons_of_mem _ (List.mem_cons_of_mem _ (List.mem_cons_of_mem _ (List.mem_cons_of_mem _ (List.mem_cons_of_mem _ List.mem_cons_self))))))))))))))))
  have g17 : 0 ≤ (4294967294 : Int) + ((-1) * a10 + 0) := hg _ (List.mem_cons_of_mem _ (List.mem_cons_of_mem _ (List.mem_cons_of_mem _ (List.mem_cons_of_mem _ (List.mem_cons_of_mem _ (List.mem_cons_of_mem _ (List.mem_cons_of_mem _ (List.mem_cons_of_mem _ (List.mem_cons_of_mem _ (List.mem_cons_of_mem _ (List.mem_cons_of_mem _ (List.mem_cons_of_mem _ (List.mem_cons_of_mem _ (List.mem_cons_of_mem _ (List.mem_cons_of_mem _ (List.mem_cons_of_mem _ (List.mem_cons_of_mem _ List.mem_cons_self)))))))))))))))))
  have g18 : 0 ≤ (0 : Int) + ((-1) * a1 + (1 * a8 + 0)) := hg _ (List.mem_cons_of_mem _ (List.mem_cons_of_mem _ (List.mem_cons_of_mem _ (List.mem_cons_of_mem _ (List.mem_cons_of_mem _ (List.mem_cons_of_mem _ (List.mem_cons_of_mem _ (List.mem_cons_of_mem _ (List.mem_cons_of_mem _ (List.mem_cons_of_mem _ (List.mem_cons_of_mem _ (List.mem_cons_of_mem _ (List.mem_cons_of_mem _ (List.mem_cons_of_mem _ (List.mem_cons_of_mem _ (List.mem_cons_of_mem _ (List.mem_cons_of_mem _ (List.mem_cons_of_mem _ List.mem_cons_self))))))))))))))))))
  have g19 : 0 ≤ (0 : Int) + (1 * a5 + ((-1) * a9 + 0)) := hg _ (List.mem_cons_of_mem _ (List.mem_cons_of_mem _ (List.mem_cons_of_mem _ (List.mem_cons_of_mem _ (List.mem_cons_of_mem _ (List.mem_cons_of_mem _ (List.mem_cons_of_mem _ (List.mem_cons_of_mem _ (List.mem_cons_of_mem _ (List.mem_cons_of_mem _ (List.mem_cons_of_mem _ (List.mem_cons_of_mem _ (List.mem_cons_of_mem _ (List.mem_cons_of_mem _ (List.mem_cons_of_mem _ (List.mem_cons_of_mem _ (List.mem_cons_of_mem _ (List.mem_cons_of_mem _ (List.mem_cons_of_mem _ List.mem_cons_self)))))))))))))))))))
  have g20 : 0 ≤ (0 : Int) + (1 * a6 + ((-1) * a10 + 0)) := hg _ (List.mem_cons_of_mem _ (List.mem_cons_of_mem _ (List.mem_cons_of_mem _ (List.mem_cons_of_mem _ (List.mem_cons_of_mem _ (List.mem_cons_of_mem _ (List.mem_cons_of_mem _ (List.mem_cons_of_mem _ (List.mem_cons_of_mem _ (List.mem_cons_of_mem _ (List.mem_cons_of_mem _ (List.mem_cons_of_mem _ (List.mem_cons_of_mem _ (List.mem_cons_of_mem _ (List.mem_cons_of_mem _ (List.mem_cons_of_mem _ (List.mem_cons_of_mem _ (List.mem_cons_of_mem _ (List.mem_cons_of_mem _ (List.mem_cons_of_mem _ List.mem_cons_self))))))))))))))))))))
  have r0 : 0 ≤ a0 := hr _ List.mem_cons_self
  have hp := (zs_70 (w := w) (j := a0) (n := a1) (u := a2) (c := a3) (z := a4) (m := a5) (l := a6) (by omega) (by omega) (by omega) (by omega) (by omega) (by omega) (by omega) (by omega) (by omega) (by omega) (by omega) (by omega) (by omega) ).mp (by omega)
  have h : zs_ps w a8 a2 a3 a4 a9 a10 := zs_gen id (fun i _ _ => ⟨rfl, rfl, rfl, rfl, rfl⟩) rfl (by omega) (fun j _ _ => ⟨rfl, rfl⟩) (Or.inr rfl) (fun i _ _ _ => ⟨rfl, rfl, rfl, rfl⟩) (by omega) (fun i _ _ => rfl) (by omega) (fun i _ _ => ⟨rfl, rfl⟩) hp
  exact ⟨_, List.mem_cons_self, [], rfl, zx_bnil, zx_cs0, (zx_eF1 (by show 0 ≤ (0 : Int) + (1 * a7 + 0); omega) (by show zk_xe w 2000070 ((0 : Int) + (1 * a7 + 0)) = (1 : Int) + (0); rw [show (0 : Int) + (1 * a7 + 0) = a7 by omega]; exact ((zs_70 (w := w) (j := a7) (n := a8) (u := a2) (c := a3) (z := a4) (m := a9) (l := a10) (by omega) (by omega) (by omega) (by omega) (by omega) (by omega) (by omega) (by omega) (by omega) (by omega) (by omega) (by omega) (by omega) ).mpr (h)).trans (by omega)) zx_eF0), zx_k0⟩
def zx_D718 : zx_L := zx_Lc [] 9 [(2000070, 0)] [] [((0, 0), [(0, 1, 0), (1, 0, 1), (2, 0, 4294967296), (3, 0, 18446744073709551616), (4, 0, 79228162514264337593543950336), (5, 0, 340282366920938463463374607431768211456), (6, 0, 1461501637330902918203684832716283019655932542976)]), ((0, 0), [(1, 0, 1), (2, 0, 4294967296), (3, 0, 18446744073709551616), (5, 0, 340282366920938463463374607431768211456), (6, 0, 1461501637330902918203684832716283019655932542976), (7, 1, 0), (8, 0, 79228162514264337593543950336)]), ((0, 1), [(9, 1, 0)]), ((0, 1), [(8, 1, 0)])] [((0, 0), [(1, 1, 0)]), ((4294967294, 0), [(1, 0, 1)]), ((0, 0), [(2, 1, 0)]), ((4294967294, 0), [(2, 0, 1)]), ((0, 0), [(3, 1, 0)]), ((4294967294, 0), [(3, 0, 1)]), ((0, 0), [(4, 1, 0)]), ((4294967294, 0), [(4, 0, 1)]), ((0, 0), [(5, 1, 0)]), ((4294967294, 0), [(5, 0, 1)]), ((0, 0), [(6, 1, 0)]), ((4294967294, 0), [(6, 0, 1)]), ((0, 0), [(8, 1, 0)]), ((4294967294, 0), [(8, 0, 1)])] [([], [], [(2000070, ((0, 0), [(7, 1, 0)]), ((1, 0), []))], [])]
theorem zx_D718_ok {PT : Nat → zz_W → Prop} : zx_Lok 64 zHT PT zx_D718 := by
  refine zx_Lc_ok (fun w hI hK ins hl hr he hg => ?_)
  obtain ⟨a0, a1, a2, a3, a4, a5, a6, a7, a8, rfl⟩ := zx_i9 hl
  have e0 : (0 : Int) + (1 * a0 + ((-1) * a1 + ((-4294967296) * a2 + ((-18446744073709551616) * a3 + ((-79228162514264337593543950336) * a4 + ((-340282366920938463463374607431768211456) * a5 + ((-1461501637330902918203684832716283019655932542976) * a6 + 0))))))) = 0 := he _ List.mem_cons_self
  have e1 : (0 : Int) + ((-1) * a1 + ((-4294967296) * a2 + ((-18446744073709551616) * a3 + ((-340282366920938463463374607431768211456) * a5 + ((-1461501637330902918203684832716283019655932542976) * a6 + (1 * a7 + ((-79228162514264337593543950336) * a8 + 0))))))) = 0 := he _ (List.mem_cons_of_mem _ List.mem_cons_self)
  have e2 : ((-1) : Int) + (1 * (zk_xe w 2000070 a0) + 0) = 0 := he _ (List.mem_cons_of_mem _ (List.mem_cons_of_mem _ List.mem_cons_self))
  have e3 : ((-1) : Int) + (1 * a8 + 0) = 0 := he _ (List.mem_cons_of_mem _ (List.mem_cons_of_mem _ (List.mem_cons_of_mem _ List.mem_cons_self)))
  have g0 : 0 ≤ (0 : Int) + (1 * a1 + 0) := hg _ List.mem_cons_self
  have g1 : 0 ≤ (4294967294 : Int) + ((-1) * a1 + 0) := hg _ (List.mem_cons_of_mem _ List.mem_cons_self)
  have g2 : 0 ≤ (0 : Int) + (1 * a2 + 0) := hg _ (List.mem_cons_of_mem _ (List.mem_cons_of_mem _ List.mem_cons_self))
  have g3 : 0 ≤ (4294967294 : Int) + ((-1) * a2 + 0) := hg _ (List.mem_cons_of_mem _ (List.mem_cons_of_mem _ (List.mem_cons_of_mem _ List.mem_cons_self)))
  have g4 : 0 ≤ (0 : Int) + (1 * a3 + 0) := hg _ (List.mem_cons_of_mem _ (List.mem_cons_of_mem _ (List.mem_cons_of_mem _ (List.mem_cons_of_mem _ List.mem_cons_self))))
  have g5 : 0 ≤ (4294967294 : Int) + ((-1) * a3 + 0) := hg _ (List.mem_cons_of_mem _ (List.mem_cons_of_mem _ (List.mem_cons_of_mem _ (List.mem_cons_of_mem _ (List.mem_cons_of_mem _ List.mem_cons_self)))))
  have g6 : 0 ≤ (0 : Int) + (1 * a4 + 0) := hg _ (List.mem_cons_of_mem _ (List.mem_cons_of_mem _ (List.mem_cons_of_mem _ (List.mem_cons_of_mem _ (List.mem_cons_of_mem _ (List.mem_cons_of_mem _ List.mem_cons_self))))))
  have g7 : 0 ≤ (4294967294 : Int) + ((-1) * a4 + 0) := hg _ (List.mem_cons_of_mem _ (List.mem_cons_of_mem _ (List.mem_cons_of_mem _ (List.mem_cons_of_mem _ (List.mem_cons_of_mem _ (List.mem_cons_of_mem _ (List.mem_cons_of_mem _ List.mem_cons_self)))))))
  have g8 : 0 ≤ (0 : Int) + (1 * a5 + 0) := hg _ (List.mem_cons_of_mem _ (List.mem_cons_of_mem _ (List.mem_cons_of_mem _ (List.mem_cons_of_mem _ (List.mem_cons_of_mem _ (List.mem_cons_of_mem _ (List.mem_cons_of_mem _ (List.mem_cons_of_mem _ List.mem_cons_self))))))))
  have g9 : 0 ≤ (4294967294 : Int) + ((-1) * a5 + 0) := hg _ (List.mem_cons_of_mem _ (List.mem_cons_of_mem _ (List.mem_cons_of_mem _ (List.mem_cons_of_mem _ (List.mem_cons_of_mem _ (List.mem_cons_of_mem _ (List.mem_cons_of_mem _ (List.mem_cons_of_mem _ (List.mem_cons_of_mem _ List.mem_cons_self)))))))))
  have g10 : 0 ≤ (0 : Int) + (1 * a6 + 0) := hg _ (List.mem_cons_of_mem _ (List.mem_cons_of_mem _ (List.mem_cons_of_mem _ (List.mem_cons_of_mem _ (List.mem_cons_of_mem _ (List.mem_cons_of_mem _ (List.mem_cons_of_mem _ (List.mem_cons_of_mem _ (List.mem_cons_of_mem _ (List.mem_cons_of_mem _ List.mem_cons_self))))))))))
  have g11 : 0 ≤ (4294967294 : Int) + ((-1) * a6 + 0) := hg _ (List.mem_cons_of_mem _ (List.mem_cons_of_mem _ (List.mem_cons_of_mem _ (List.mem_cons_of_mem _ (List.mem_cons_of_mem _ (List.mem_cons_of_mem _ (List.mem_cons_of_mem _ (List.mem_cons_of_mem _ (List.mem_cons_of_mem _ (List.mem_cons_of_mem _ (List.mem_cons_of_mem _ List.mem_cons_self)))))))))))
  have g12 : 0 ≤ (0 : Int) + (1 * a8 + 0) := hg _ (List.mem_cons_of_mem _ (List.mem_cons_of_mem _ (List.mem_cons_of_mem _ (List.mem_cons_of_mem _ (List.mem_cons_of_mem _ (List.mem_cons_of_mem _ (List.mem_cons_of_mem _ (List.mem_cons_of_mem _ (List.mem_cons_of_mem _ (List.mem_cons_of_mem _ (List.mem_cons_of_mem _ (List.mem_cons_of_mem _ List.mem_cons_self))))))))))))
  have g13 : 0 ≤ (4294967294 : Int) + ((-1) * a8 + 0) := hg _ (List.mem_cons_of_mem _ (List.mem_cons_of_mem _ (List.mem_cons_of_mem _ (List.mem_cons_of_mem _ (List.mem_cons_of_mem _ (List.mem_cons_of_mem _ (List.mem_cons_of_mem _ (List.mem_cons_of_mem _ (List.mem_cons_of_mem _ (List.mem_cons_of_mem _ (List.mem_cons_of_mem _ (List.mem_cons_of_mem _ (List.mem_cons_of_mem _ List.mem_cons_self)))))))))))))
  have r0 : 0 ≤ a0 := hr _ List.mem_cons_self
  have hp := (zs_70 (w := w) (j := a0) (n := a1) (u := a2) (c := a3) (z := a4) (m := a5) (l := a6) (by omega) (by omega) (by omega) (by omega) (by omega) (by omega) (by omega) (by omega) (by omega) (by omega) (by omega) (by omega) (by omega) ).mp (by omega)
  have h : zs_ps w a1 a2 a3 a8 a5 a6 := by
    rcases hp with h | ⟨h1, h2, h3, h4⟩
    · exact Or.inl h
    · refine Or.inr ⟨h1, fun i i1 i2 i3 => ?_, h3, h4⟩
      obtain ⟨q1, q2, q3⟩ := h2 i i1 i2 (by omega)
      exact ⟨q1, q2, fun _ => q3 (by omega)⟩
  exact ⟨_, List.mem_cons_self, [], rfl, zx_bnil, zx_cs0, (zx_eF1 (by show 0 ≤ (0 : Int) + (1 * a7 + 0); omega) (by show zk_xe w 2000070 ((0 : Int) + (1 * a7 + 0)) = (1 : Int) + (0); rw [show (0 : Int) + (1 * a7 + 0) = a7 by omega]; exact ((zs_70 (w := w) (j := a7) (n := a1) (u := a2) (c := a3) (z := a8) (m := a5) (l := a6) (by omega) (by omega) (by omega) (by omega) (by omega) (by omega) (by omega) (by omega) (by omega) (by omega) (by omega) (by omega) (by omega) ).mpr (h)).trans (by omega)) zx_eF0), zx_k0⟩
def zx_D719 : zx_L := zx_Lc [] 9 [(2000070, 0)] [] [((0, 0), [(0, 1, 0), (1, 0, 1), (2, 0, 4294967296), (3, 0, 18446744073709551616), (4, 0, 79228162514264337593543950336), (5, 0, 340282366920938463463374607431768211456), (6, 0, 1461501637330902918203684832716283019655932542976)]), ((0, 0), [(1, 0, 1), (2, 0, 4294967296), (3, 0, 18446744073709551616), (5, 0, 340282366920938463463374607431768211456), (6, 0, 1461501637330902918203684832716283019655932542976), (7, 1, 0), (8, 0, 79228162514264337593543950336)]), ((0, 1), [(9, 1, 0)])] [((0, 0), [(1, 1, 0)]), ((4294967294, 0), [(1, 0, 1)]), ((0, 0), [(2, 1, 0)]), ((4294967294, 0), [(2, 0, 1)]), ((0, 0), [(3, 1, 0)]), ((4294967294, 0), [(3, 0, 1)]), ((0, 0), [(4, 1, 0)]), ((4294967294, 0), [(4, 0, 1)]), ((0, 0), [(5, 1, 0)]), ((4294967294, 0), [(5, 0, 1)]), ((0, 0), [(6, 1, 0)]), ((4294967294, 0), [(6, 0, 1)]), ((0, 0), [(8, 1, 0)]), ((4294967294, 0), [(8, 0, 1)]), ((0, 2), [(4, 1, 0)])] [([], [], [(2000070, ((0, 0), [(7, 1, 0)]), ((1, 0), []))], [])]
theorem zx_D719_ok {PT : Nat → zz_W → Prop} : zx_Lok 64 zHT PT zx_D719 := by
  refine zx_Lc_ok (fun w hI hK ins hl hr he hg => ?_)
  obtain ⟨a0, a1, a2, a3, a4, a5, a6, a7, a8, rfl⟩ := zx_i9 hl
  have e0 : (0 : Int) + (1 * a0 + ((-1) * a1 + ((-4294967296) * a2 + ((-18446744073709551616) * a3 + ((-79228162514264337593543950336) * a4 + ((-340282366920938463463374607431768211456) * a5 + ((-1461501637330902918203684832716283019655932542976) * a6 + 0))))))) = 0 := he _ List.mem_cons_self
  have e1 : (0 : Int) + ((-1) * a1 + ((-4294967296) * a2 + ((-18446744073709551616) * a3 + ((-340282366920938463463374607431768211456) * a5 + ((-1461501637330902918203684832716283019655932542976) * a6 + (1 * a7 + ((-79228162514264337593543950336) * a8 + 0))))))) = 0 := he _ (List.mem_cons_of_mem _ List.mem_cons_self)
  have e2 : ((-1) : Int) + (1 * (zk_xe w 2000070 a0) + 0) = 0 := he _ (List.mem_cons_of_mem _ (List.mem_cons_of_mem _ List.mem_cons_self))
  have g0 : 0 ≤ (0 : Int) + (1 * a1 + 0) := hg _ List.mem_cons_self
  have g1 : 0 ≤ (4294967294 : Int) + ((-1) * a1 + 0) := hg _ (List.mem_cons_of_mem _ List.mem_cons_self)
  have g2 : 0 ≤ (0 : Int) + (1 * a2 + 0) := hg _ (List.mem_cons_of_mem _ (List.mem_cons_of_mem _ List.mem_cons_self))
  have g3 : 0 ≤ (4294967294 : Int) + ((-1) * a2 + 0) := hg _ (List.mem_cons_of_mem _ (List.mem_cons_of_mem _ (List.mem_cons_of_mem _ List.mem_cons_self)))
  have g4 : 0 ≤ (0 : Int) + (1 * a3 + 0) := hg _ (List.mem_cons_of_mem _ (List.mem_cons_of_mem _ (List.mem_cons_of_mem _ (List.mem_cons_of_mem _ List.mem_cons_self))))
  have g5 : 0 ≤ (4294967294 : Int) + ((-1) * a3 + 0) := hg _ (List.mem_cons_of_mem _ (List.mem_cons_of_mem _ (List.mem_cons_of_mem _ (List.mem_cons_of_mem _ (List.mem_cons_of_mem _ List.mem_cons_self)))))
  have g6 : 0 ≤ (0 : Int) + (1 * a4 + 0) := hg _ (List.mem_cons_of_mem _ (List.mem_cons_of_mem _ (List.mem_cons_of_mem _ (List.mem_cons_of_mem _ (List.mem_cons_of_mem _ (List.mem_cons_of_mem _ List.mem_cons_self))))))
  have g7 : 0 ≤ (4294967294 : Int) + ((-1) * a4 + 0) := hg _ (List.mem_cons_of_mem _ (List.mem_cons_of_mem _ (List.mem_cons_of_mem _ (List.mem_cons_of_mem _ (List.mem_cons_of_mem _ (List.mem_cons_of_mem _ (List.mem_cons_of_mem _ List.mem_cons_self)))))))
  have g8 : 0 ≤ (0 : Int) + (1 * a5 + 0) := hg _ (List.mem_cons_of_mem _ (List.mem_cons_of_mem _ (List.mem_cons_of_mem _ (List.mem_cons_of_mem _ (List.mem_cons_of_mem _ (List.mem_cons_of_mem _ (List.mem_cons_of_mem _ (List.mem_cons_of_mem _ List.mem_cons_self))))))))
  have g9 : 0 ≤ (4294967294 : Int) + ((-1) * a5 + 0) := hg _ (List.mem_cons_of_mem _ (List.mem_cons_of_mem _ (List.mem_cons_of_mem _ (List.mem_cons_of_mem _ (List.mem_cons_of_mem _ (List.mem_cons_of_mem _ (List.mem_cons_of_mem _ (List.mem_cons_of_mem _ (List.mem_cons_of_mem _ List.mem_cons_self)))))))))
  have g10 : 0 ≤ (0 : Int) + (1 * a6 + 0) := hg _ (List.mem_cons_of_mem _ (List.mem_cons_of_mem _ (List.mem_cons_of_mem _ (List.mem_cons_of_mem _ (List.mem_cons_of_mem _ (List.mem_cons_of_mem _ (List.mem_cons_of_mem _ (List.mem_cons_of_mem _ (List.mem_cons_of_mem _ (List.mem_cons_of_mem _ List.mem_cons_self))))))))))
  have g11 : 0 ≤ (4294967294 : Int) + ((-1) * a6 + 0) := hg _ (List.mem_cons_of_mem _ (List.mem_cons_of_mem _ (List.mem_cons_of_mem _ (List.mem_cons_of_mem _ (List.mem_cons_of_mem _ (List.mem_cons_of_mem _ (List.mem_cons_of_mem _ (List.mem_cons_of_mem _ (List.mem_cons_of_mem _ (List.mem_cons_of_mem _ (List.mem_cons_of_mem _ List.mem_cons_self)))))))))))
  have g12 : 0 ≤ (0 : Int) + (1 * a8 + 0) := hg _ (List.mem_cons_of_mem _ (List.mem_cons_of_mem _ (List.mem_cons_of_mem _ (List.mem_cons_of_mem _ (List.mem_cons_of_mem _ (List.mem_cons_of_mem _ (List.mem_cons_of_mem _ (List.mem_cons_of_mem _ (List.mem_cons_of_mem _ (List.mem_cons_of_mem _ (List.mem_cons_of_mem _ (List.mem_cons_of_mem _ List.mem_cons_self))))))))))))
  have g13 : 0 ≤ (4294967294 : Int) + ((-1) * a8 + 0) := hg _ (List.mem_cons_of_mem _ (List.mem_cons_of_mem _ (List.mem_cons_of_mem _ (List.mem_cons_of_mem _ (List.mem_cons_of_mem _ (List.mem_cons_of_mem _ (List.mem_cons_of_mem _ (List.mem_cons_of_mem _ (List.mem_cons_of_mem _ (List.mem_cons_of_mem _ (List.mem_cons_of_mem _ (List.mem_cons_of_mem _ (List.mem_cons_of_mem _ List.mem_cons_self)))))))))))))
  have g14 : 0 ≤ ((-2) : Int) + (1 * a4 + 0) := hg _ (List.mem_cons_of_mem _ (List.mem_cons_of_mem _ (List.mem_cons_of_mem _ (List.mem_cons_of_mem _ (List.mem_cons_of_mem _ (List.mem_cons_of_mem _ (List.mem_cons_of_mem _ (List.mem_cons_of_mem _ (List.mem_cons_of_mem _ (List.mem_cons_of_mem _ (List.mem_cons_of_mem _ (List.mem_cons_of_mem _ (List.mem_cons_of_mem _ (List.mem_cons_of_mem _ List.mem_cons_self))))))))))))))
  have r0 : 0 ≤ a0 := hr _ List.mem_cons_self
  have hp := (zs_70 (w := w) (j := a0) (n := a1) (u := a2) (c := a3) (z := a4) (m := a5) (l := a6) (by omega) (by omega) (by omega) (by omega) (by omega) (by omega) (by omega) (by omega) (by omega) (by omega) (by omega) (by omega) (by omega) ).mp (by omega)
  have h : zs_ps w a1 a2 a3 a8 a5 a6 := by
    rcases hp with h | ⟨h1, h2, h3, h4⟩
    · exact Or.inl h
    · refine Or.inr ⟨h1, fun i i1 i2 i3 => ?_, h3, h4⟩
      obtain ⟨q1, q2, q3⟩ := h2 i i1 i2 (by omega)
      exact ⟨q1, q2, fun _ => q3 (by omega)⟩
  exact ⟨_, List.mem_cons_self, [], rfl, zx_bnil, zx_cs0, (zx_eF1 (by show 0 ≤ (0 : Int) + (1 * a7 + 0); omega) (by show zk_xe w 2000070 ((0 : Int) + (1 * a7 + 0)) = (1 : Int) + (0); rw [show (0 : Int) + (1 * a7 + 0) = a7 by omega]; exact ((zs_70 (w := w) (j := a7) (n := a1) (u := a2) (c := a3) (z := a8) (m := a5) (l := a6) (by omega) (by omega) (by omega) (by omega) (by omega) (by omega) (by omega) (by omega) (by omega) (by omega) (by omega) (by omega) (by omega) ).mpr (h)).trans (by omega)) zx_eF0), zx_k0⟩
def zx_D720 : zx_L := zx_Lc [] 9 [(2000070, 0)] [] [((0, 0), [(0, 1, 0), (1, 0, 1), (2, 0, 4294967296), (3, 0, 18446744073709551616), (4, 0, 79228162514264337593543950336), (5, 0, 340282366920938463463374607431768211456), (6, 0, 1461501637330902918203684832716283019655932542976)]), ((0, 0), [(1, 0, 1), (2, 0, 4294967296), (3, 0, 18446744073709551616), (5, 0, 340282366920938463463374607431768211456), (6, 0, 1461501637330902918203684832716283019655932542976), (7, 1, 0), (8, 0, 79228162514264337593543950336)]), ((0, 1), [(9, 1, 0)]), ((0, 0), [(3, 1, 0)])] [((0, 0), [(1, 1, 0)]), ((4294967294, 0), [(1, 0, 1)]), ((0, 0), [(2, 1, 0)]), ((4294967294, 0), [(2, 0, 1)]), ((0, 0), [(3, 1, 0)]), ((4294967294, 0), [(3, 0, 1)]), ((0, 0), [(4, 1, 0)]), ((4294967294, 0), [(4, 0, 1)]), ((0, 0), [(5, 1, 0)]), ((4294967294, 0), [(5, 0, 1)]), ((0, 0), [(6, 1, 0)]), ((4294967294, 0), [(6, 0, 1)]), ((0, 0), [(8, 1, 0)]), ((4294967294, 0), [(8, 0, 1)])] [([], [], [(2000070, ((0, 0), [(7, 1, 0)]), ((1, 0), []))], [])]
theorem zx_D720_ok {PT : Nat → zz_W → Prop} : zx_Lok 64 zHT PT zx_D720 := by
  refine zx_Lc_ok (fun w hI hK ins hl hr he hg => ?_)
  obtain ⟨a0, a1, a2, a3, a4, a5, a6, a7, a8, rfl⟩ := zx_i9 hl
  have e0 : (0 : Int) + (1 * a0 + ((-1) * a1 + ((-4294967296) * a2 + ((-18446744073709551616) * a3 + ((-79228162514264337593543950336) * a4 + ((-340282366920938463463374607431768211456) * a5 + ((-1461501637330902918203684832716283019655932542976) * a6 + 0))))))) = 0 := he _ List.mem_cons_self
  have e1 : (0 : Int) + ((-1) * a1 + ((-4294967296) * a2 + ((-18446744073709551616) * a3 + ((-340282366920938463463374607431768211456) * a5 + ((-1461501637330902918203684832716283019655932542976) * a6 + (1 * a7 + ((-79228162514264337593543950336) * a8 + 0))))))) = 0 := he _ (List.mem_cons_of_mem _ List.mem_cons_self)
  have e2 : ((-1) : Int) + (1 * (zk_xe w 2000070 a0) + 0) = 0 := he _ (List.mem_cons_of_mem _ (List.mem_cons_of_mem _ List.mem_cons_self))
  have e3 : (0 : Int) + (1 * a3 + 0) = 0 := he _ (List.mem_cons_of_mem _ (List.mem_cons_of_mem _ (List.mem_cons_of_mem _ List.mem_cons_self)))
  have g0 : 0 ≤ (0 : Int) + (1 * a1 + 0) := hg _ List.mem_cons_self
  have g1 : 0 ≤ (4294967294 : Int) + ((-1) * a1 + 0) := hg _ (List.mem_cons_of_mem _ List.mem_cons_self)
  have g2 : 0 ≤ (0 : Int) + (1 * a2 + 0) := hg _ (List.mem_cons_of_mem _ (List.mem_cons_of_mem _ List.mem_cons_self))
  have g3 : 0 ≤ (4294967294 : Int) + ((-1) * a2 + 0) := hg _ (List.mem_cons_of_mem _ (List.mem_cons_of_mem _ (List.mem_cons_of_mem _ List.mem_cons_self)))
  have g4 : 0 ≤ (0 : Int) + (1 * a3 + 0) := hg _ (List.mem_cons_of_mem _ (List.mem_cons_of_mem _ (List.mem_cons_of_mem _ (List.mem_cons_of_mem _ List.mem_cons_self))))
  have g5 : 0 ≤ (4294967294 : Int) + ((-1) * a3 + 0) := hg _ (List.mem_cons_of_mem _ (List.mem_cons_of_mem _ (List.mem_cons_of_mem _ (List.mem_cons_of_mem _ (List.mem_cons_of_mem _ List.mem_cons_self)))))
  have g6 : 0 ≤ (0 : Int) + (1 * a4 + 0) := hg _ (List.mem_cons_of_mem _ (List.mem_cons_of_mem _ (List.mem_cons_of_mem _ (List.mem_cons_of_mem _ (List.mem_cons_of_mem _ (List.mem_cons_of_mem _ List.mem_cons_self))))))
  have g7 : 0 ≤ (4294967294 : Int) + ((-1) * a4 + 0) := hg _ (List.mem_cons_of_mem _ (List.mem_cons_of_mem _ (List.mem_cons_of_mem _ (List.mem_cons_of_mem _ (List.mem_cons_of_mem _ (List.mem_cons_of_mem _ (List.mem_cons_of_mem _ List.mem_cons_self)))))))
  have g8 : 0 ≤ (0 : Int) + (1 * a5 + 0) := hg _ (List.mem_cons_of_mem _ (List.mem_cons_of_mem _ (List.mem_cons_of_mem _ (List.mem_cons_of_mem _ (List.mem_cons_of_mem _ (List.mem_cons_of_mem _ (List.mem_cons_of_mem _ (List.mem_cons_of_mem _ List.mem_cons_self))))))))
  have g9 : 0 ≤ (4294967294 : Int) + ((-1) * a5 + 0) := hg _ (List.mem_cons_of_mem _ (List.mem_cons_of_mem _ (List.mem_cons_of_mem _ (List.mem_cons_of_mem _ (List.mem_cons_of_mem _ (List.mem_cons_of_mem _ (List.mem_cons_of_mem _ (List.mem_cons_of_mem _ (List.mem_cons_of_mem _ List.mem_cons_self)))))))))
  have g10 : 0 ≤ (0 : Int) + (1 * a6 + 0) := hg _ (List.mem_cons_of_mem _ (List.mem_cons_of_mem _ (List.mem_cons_of_mem _ (List.mem_cons_of_mem _ (List.mem_cons_of_mem _ (List.mem_cons_of_mem _ (List.mem_cons_of_mem _ (List.mem_cons_of_mem _ (List.mem_cons_of_mem _ (List.mem_cons_of_mem _ List.mem_cons_self))))))))))
  have g11 : 0 ≤ (4294967294 : Int) + ((-1) * a6 + 0) := hg _ (List.mem_cons_of_mem _ (List.mem_cons_of_mem _ (List.mem_cons_of_mem _ (List.mem_cons_of_mem _ (List.mem_cons_of_mem _ (List.mem_cons_of_mem _ (List.mem_cons_of_mem _ (List.mem_cons_of_mem _ (List.mem_cons_of_mem _ (List.mem_cons_of_mem _ (List.mem_cons_of_mem _ List.mem_cons_self)))))))))))
  have g12 : 0 ≤ (0 : Int) + (1 * a8 + 0) := hg _ (List.mem_cons_of_mem _ (List.mem_cons_of_mem _ (List.mem_cons_of_mem _ (List.mem_cons_of_mem _ (List.mem_cons_of_mem _ (List.mem_cons_of_mem _ (List.mem_cons_of_mem _ (List.mem_cons_of_mem _ (List.mem_cons_of_mem _ (List.mem_cons_of_mem _ (List.mem_cons_of_mem _ (List.mem_cons_of_mem _ List.mem_cons_self))))))))))))
  have g13 : 0 ≤ (4294967294 : Int) + ((-1) * a8 + 0) := hg _ (List.mem_cons_of_mem _ (List.mem_cons_of_mem _ (List.mem_cons_of_mem _ (List.mem_cons_of_mem _ (List.mem_cons_of_mem _ (List.mem_cons_of_mem _ (List.mem_cons_of_mem _ (List.mem_cons_of_mem _ (List.mem_cons_of_mem _ (List.mem_cons_of_mem _ (List.mem_cons_of_mem _ (List.mem_cons_of_mem _ (List.mem_cons_of_mem _ List.mem_cons_self)))))))))))))
  have r0 : 0 ≤ a0 := hr _ List.mem_cons_self
  have hp := (zs_70 (w := w) (j := a0) (n := a1) (u := a2) (c := a3) (z := a4) (m := a5) (l := a6) (by omega) (by omega) (by omega) (by omega) (by omega) (by omega) (by omega) (by omega) (by omega) (by omega) (by omega) (by omega) (by omega) ).mp (by omega)
  have h : zs_ps w a1 a2 a3 a8 a5 a6 := by
    rcases hp with h | ⟨h1, h2, h3, h4⟩
    · exact Or.inl h
    · refine Or.inr ⟨h1, fun i i1 i2 i3 => ?_, h3, h4⟩
      omega
  exact ⟨_, List.mem_cons_self, [], rfl, zx_bnil, zx_cs0, (zx_eF1 (by show 0 ≤ (0 : Int) + (1 * a7 + 0); omega) (by show zk_xe w 2000070 ((0 : Int) + (1 * a7 + 0)) = (1 : Int) + (0); rw [show (0 : Int) + (1 * a7 + 0) = a7 by omega]; exact ((zs_70 (w := w) (j := a7) (n := a1) (u := a2) (c := a3) (z := a8) (m := a5) (l := a6) (by omega) (by omega) (by omega) (by omega) (by omega) (by omega) (by omega) (by omega) (by omega) (by omega) (by omega) (by omega) (by omega) ).mpr (h)).trans (by omega)) zx_eF0), zx_k0⟩
def zx_D704 : zx_L := zx_Lc [] 9 [(2000070, 0)] [] [((0, 0), [(0, 1, 0), (1, 0, 1), (2, 0, 4294967296), (3, 0, 18446744073709551616), (4, 0, 79228162514264337593543950336), (5, 0, 340282366920938463463374607431768211456), (6, 0, 1461501637330902918203684832716283019655932542976)]), ((18446744073709551616, 0), [(1, 0, 1), (2, 0, 4294967296), (3, 0, 18446744073709551616), (5, 0, 340282366920938463463374607431768211456), (6, 0, 1461501637330902918203684832716283019655932542976), (7, 1, 0), (8, 0, 79228162514264337593543950336)]), ((0, 1), [(9, 1, 0)])] [((0, 0), [(1, 1, 0)]), ((4294967294, 0), [(1, 0, 1)]), ((0, 0), [(2, 1, 0)]), ((4294967294, 0), [(2, 0, 1)]), ((0, 0), [(3, 1, 0)]), ((4294967294, 0), [(3, 0, 1)]), ((0, 0), [(4, 1, 0)]), ((4294967294, 0), [(4, 0, 1)]), ((0, 0), [(5, 1, 0)]), ((4294967294, 0), [(5, 0, 1)]), ((0, 0), [(6, 1, 0)]), ((4294967294, 0), [(6, 0, 1)]), ((0, 0), [(8, 1, 0)]), ((4294967294, 0), [(8, 0, 1)]), ((0, 1), [(3, 1, 0)])] [([], [], [(2000070, ((0, 0), [(7, 1, 0)]), ((1, 0), []))], [])]
theorem zx_D704_ok {PT : Nat → zz_W → Prop} : zx_Lok 64 zHT PT zx_D704 := by
  refine zx_Lc_ok (fun w hI hK ins hl hr he hg => ?_)
  obtain ⟨a0, a1, a2, a3, a4, a5, a6, a7, a8, rfl⟩ := zx_i9 hl
  have e0 : (0 : Int) + (1 * a0 + ((-1) * a1 + ((-4294967296) * a2 + ((-18446744073709551616) * a3 + ((-79228162514264337593543950336) * a4 + ((-340282366920938463463374607431768211456) * a5 + ((-1461501637330902918203684832716283019655932542976) * a6 + 0))))))) = 0 := he _ List.mem_cons_self
  have e1 : (18446744073709551616 : Int) + ((-1) * a1 + ((-4294967296) * a2 + ((-18446744073709551616) * a3 + ((-340282366920938463463374607431768211456) * a5 + ((-1461501637330902918203684832716283019655932542976) * a6 + (1 * a7 + ((-79228162514264337593543950336) * a8 + 0))))))) = 0 := he _ (List.mem_cons_of_mem _ List.mem_cons_self)
  have e2 : ((-1) : Int) + (1 * (zk_xe w 2000070 a0) + 0) = 0 := he _ (List.mem_cons_of_mem _ (List.mem_cons_of_mem _ List.mem_cons_self))
  have g0 : 0 ≤ (0 : Int) + (1 * a1 + 0) := hg _ List.mem_cons_self
  have g1 : 0 ≤ (4294967294 : Int) + ((-1) * a1 + 0) := hg _ (List.mem_cons_of_mem _ List.mem_cons_self)
  have g2 : 0 ≤ (0 : Int) + (1 * a2 + 0) := hg _ (List.mem_cons_of_mem _ (List.mem_cons_of_mem _ List.mem_cons_self))
  have g3 : 0 ≤ (4294967294 : Int) + ((-1) * a2 + 0) := hg _ (List.mem_cons_of_mem _ (List.mem_cons_of_mem _ (List.mem_cons_of_mem _ List.mem_cons_self)))
  have g4 : 0 ≤ (0 : Int) + (1 * a3 + 0) := hg _ (List.mem_cons_of_mem _ (List.mem_cons_of_mem _ (List.mem_cons_of_mem _ (List.mem_cons_of_mem _ List.mem_cons_self))))
  have g5 : 0 ≤ (4294967294 : Int) + ((-1) * a3 + 0) := hg _ (List.mem_cons_of_mem _ (List.mem_cons_of_mem _ (List.mem_cons_of_mem _ (List.mem_cons_of_mem _ (List.mem_cons_of_mem _ List.mem_cons_self)))))
  have g6 : 0 ≤ (0 : Int) + (1 * a4 + 0) := hg _ (List.mem_cons_of_mem _ (List.mem_cons_of_mem _ (List.mem_cons_of_mem _ (List.mem_cons_of_mem _ (List.mem_cons_of_mem _ (List.mem_cons_of_mem _ List.mem_cons_self))))))
  have g7 : 0 ≤ (4294967294 : Int) + ((-1) * a4 + 0) := hg _ (List.mem_cons_of_mem _ (List.mem_cons_of_mem _ (List.mem_cons_of_mem _ (List.mem_cons_of_mem _ (List.mem_cons_of_mem _ (List.mem_cons_of_mem _ (List.mem_cons_of_mem _ List.mem_cons_self)))))))
  have g8 : 0 ≤ (0 : Int) + (1 * a5 + 0) := hg _ (List.mem_cons_of_mem _ (List.mem_cons_of_mem _ (List.mem_cons_of_mem _ (List.mem_cons_of_mem _ (List.mem_cons_of_mem _ (List.mem_cons_of_mem _ (List.mem_cons_of_mem _ (List.mem_cons_of_mem _ List.mem_cons_self))))))))
  have g9 : 0 ≤ (4294967294 : Int) + ((-1) * a5 + 0) := hg _ (List.mem_cons_of_mem _ (List.mem_cons_of_mem _ (List.mem_cons_of_mem _ (List.mem_cons_of_mem _ (List.mem_cons_of_mem _ (List.mem_cons_of_mem _ (List.mem_cons_of_mem _ (List.mem_cons_of_mem _ (List.mem_cons_of_mem _ List.mem_cons_self)))))))))
  have g10 : 0 ≤ (0 : Int) + (1 * a6 + 0) := hg _ (List.mem_cons_of_mem _ (List.mem_cons_of_mem _ (List.mem_cons_of_mem _ (List.mem_cons_of_mem _ (List.mem_cons_of_mem _ (List.mem_cons_of_mem _ (List.mem_cons_of_mem _ (List.mem_cons_of_mem _ (List.mem_cons_of_mem _ (List.mem_cons_of_mem _ List.mem_cons_self))))))))))
  have g11 : 0 ≤ (4294967294 : Int) + ((-1) * a6 + 0) := hg _ (List.mem_cons_of_mem _ (List.mem_cons_of_mem _ (List.mem_cons_of_mem _ (List.mem_cons_of_mem _ (List.mem_cons_of_mem _ (List.mem_cons_of_mem _ (List.mem_cons_of_mem _ (List.mem_cons_of_mem _ (List.mem_cons_of_mem _ (List.mem_cons_of_mem _ (List.mem_cons_of_mem _ List.mem_cons_self)))))))))))
  have g12 : 0 ≤ (0 : Int) + (1 * a8 + 0) := hg _ (List.mem_cons_of_mem _ (List.mem_cons_of_mem _ (List.mem_cons_of_mem _ (List.mem_cons_of_mem _ (List.mem_cons_of_mem _ (List.mem_cons_of_mem _ (List.mem_cons_of_mem _ (List.mem_cons_of_mem _ (List.mem_cons_of_mem _ (List.mem_cons_of_mem _ (List.mem_cons_of_mem _ (List.mem_cons_of_mem _ List.mem_cons_self))))))))))))
  have g13 : 0 ≤ (4294967294 : Int) + ((-1) * a8 + 0) := hg _ (List.mem_cons_of_mem _ (List.mem_cons_of_mem _ (List.mem_cons_of_mem _ (List.mem_cons_of_mem _ (List.mem_cons_of_mem _ (List.mem_cons_of_mem _ (List.mem_cons_of_mem _ (List.mem_cons_of_mem _ (List.mem_cons_of_mem _ (List.mem_cons_of_mem _ (List.mem_cons_of_mem _ (List.mem_cons_of_mem _ (List.mem_cons_of_mem _ List.mem_cons_self)))))))))))))
  have g14 : 0 ≤ ((-1) : Int) + (1 * a3 + 0) := hg _ (List.mem_cons_of_mem _ (List.mem_cons_of_mem _ (List.mem_cons_of_mem _ (List.mem_cons_of_mem _ (List.mem_cons_of_mem _ (List.mem_cons_of_mem _ (List.mem_cons_of_mem _ (List.mem_cons_of_mem _ (List.mem_cons_of_mem _ (List.mem_cons_of_mem _ (List.mem_cons_of_mem _ (List.mem_cons_of_mem _ (List.mem_cons_of_mem _ (List.mem_cons_of_mem _ List.mem_cons_self))))))))))))))
  have r0 : 0 ≤ a0 := hr _ List.mem_cons_self
  have hp := (zs_70 (w := w) (j := a0) (n := a1) (u := a2) (c := a3) (z := a4) (m := a5) (l := a6) (by omega) (by omega) (by omega) (by omega) (by omega) (by omega) (by omega) (by omega) (by omega) (by omega) (by omega) (by omega) (by omega) ).mp (by omega)
  have h : zs_ps w a1 a2 (a3 - 1) a8 a5 a6 := by
    rcases hp with h | ⟨h1, h2, h3, h4⟩
    · exact Or.inl h
    · refine Or.inr ⟨h1, fun i i1 i2 i3 => ?_, h3, h4⟩
      obtain ⟨q1, q2, q3⟩ := h2 i i1 (by omega) (by omega)
      exact ⟨q1, q2, fun _ => q3 (by omega)⟩
  exact ⟨_, List.mem_cons_self, [], rfl, zx_bnil, zx_cs0, (zx_eF1 (by show 0 ≤ (0 : Int) + (1 * a7 + 0); omega) (by show zk_xe w 2000070 ((0 : Int) + (1 * a7 + 0)) = (1 : Int) + (0); rw [show (0 : Int) + (1 * a7 + 0) = a7 by omega]; exact ((zs_70 (w := w) (j := a7) (n := a1) (u := a2) (c := (a3 - 1)) (z := a8) (m := a5) (l := a6) (by omega) (by omega) (by omega) (by omega) (by omega) (by omega) (by omega) (by omega) (by omega) (by omega) (by omega) (by omega) (by omega) ).mpr (h)).trans (by omega)) zx_eF0), zx_k0⟩
def zx_D724 : zx_L := zx_Lc [] 9 [(2000070, 0)] [] [((0, 0), [(0, 1, 0), (1, 0, 1), (2, 0, 4294967296), (3, 0, 18446744073709551616), (4, 0, 79228162514264337593543950336), (5, 0, 340282366920938463463374607431768211456), (6, 0, 1461501637330902918203684832716283019655932542976)]), ((0, 0), [(1, 0, 1), (2, 0, 4294967296), (6, 0, 1461501637330902918203684832716283019655932542976), (7, 1, 0), (8, 0, 79228162514264337593543950336)]), ((0, 1), [(9, 1, 0)])] [((0, 0), [(1, 1, 0)]), ((4294967294, 0), [(1, 0, 1)]), ((0, 0), [(2, 1, 0)]), ((4294967294, 0), [(2, 0, 1)]), ((0, 0), [(3, 1, 0)]), ((4294967294, 0), [(3, 0, 1)]), ((0, 0), [(4, 1, 0)]), ((4294967294, 0), [(4, 0, 1)]), ((0, 0), [(5, 1, 0)]), ((4294967294, 0), [(5, 0, 1)]), ((0, 0), [(6, 1, 0)]), ((4294967294, 0), [(6, 0, 1)]), ((0, 0), [(8, 1, 0)]), ((4294967294, 0), [(8, 0, 1)])] [([], [], [(2000070, ((0, 0), [(7, 1, 0)]), ((1, 0), []))], [])]
theorem zx_D724_ok {PT : Nat → zz_W → Prop} : zx_Lok 64 zHT PT zx_D724 := by
  refine zx_Lc_ok (fun w hI hK ins hl hr he hg => ?_)
  obtain ⟨a0, a1, a2, a3, a4, a5, a6, a7, a8, rfl⟩ := zx_i9 hl
  have e0 : (0 : Int) + (1 * a0 + ((-1) * a1 + ((-4294967296) * a2 + ((-18446744073709551616) * a3 + ((-79228162514264337593543950336) * a4 + ((-340282366920938463463374607431768211456) * a5 + ((-1461501637330902918203684832716283019655932542976) * a6 + 0))))))) = 0 := he _ List.mem_cons_self
  have e1 : (0 : Int) + ((-1) * a1 + ((-4294967296) * a2 + ((-1461501637330902918203684832716283019655932542976) * a6 + (1 * a7 + ((-79228162514264337593543950336) * a8 + 0))))) = 0 := he _ (List.mem_cons_of_mem _ List.mem_cons_self)
  have e2 : ((-1) : Int) + (1 * (zk_xe w 2000070 a0) + 0) = 0 := he _ (List.mem_cons_of_mem _ (List.mem_cons_of_mem _ List.mem_cons_self))
  have g0 : 0 ≤ (0 : Int) + (1 * a1 + 0) := hg _ List.mem_cons_self
  have g1 : 0 ≤ (4294967294 : Int) + ((-1) * a1 + 0) := hg _ (List.mem_cons_of_mem _ List.mem_cons_self)
  have g2 : 0 ≤ (0 : Int) + (1 * a2 + 0) := hg _ (List.mem_cons_of_mem _ (List.mem_cons_of_mem _ List.mem_cons_self))
  have g3 : 0 ≤ (4294967294 : Int) + ((-1) * a2 + 0) := hg _ (List.mem_cons_of_mem _ (List.mem_cons_of_mem _ (List.mem_cons_of_mem _ List.mem_cons_self)))
  have g4 : 0 ≤ (0 : Int) + (1 * a3 + 0) := hg _ (List.mem_cons_of_mem _ (List.mem_cons_of_mem _ (List.mem_cons_of_mem _ (List.mem_cons_of_mem _ List.mem_cons_self))))
  have g5 : 0 ≤ (4294967294 : Int) + ((-1) * a3 + 0) := hg _ (List.mem_cons_of_mem _ (List.mem_cons_of_mem _ (List.mem_cons_of_mem _ (List.mem_cons_of_mem _ (List.mem_cons_of_mem _ List.mem_cons_self)))))
  have g6 : 0 ≤ (0 : Int) + (1 * a4 + 0) := hg _ (List.mem_cons_of_mem _ (List.mem_cons_of_mem _ (List.mem_cons_of_mem _ (List.mem_cons_of_mem _ (List.mem_cons_of_mem _ (List.mem_cons_of_mem _ List.mem_cons_self))))))
  have g7 : 0 ≤ (4294967294 : Int) + ((-1) * a4 + 0) := hg _ (List.mem_cons_of_mem _ (List.mem_cons_of_mem _ (List.mem_cons_of_mem _ (List.mem_cons_of_mem _ (List.mem_cons_of_mem _ (List.mem_cons_of_mem _ (List.mem_cons_of_mem _ List.mem_cons_self)))))))
  have g8 : 0 ≤ (0 : Int) + (1 * a5 + 0) := hg _ (List.mem_cons_of_mem _ (List.mem_cons_of_mem _ (List.mem_cons_of_mem _ (List.mem_cons_of_mem _ (List.mem_cons_of_mem _ (List.mem_cons_of_mem _ (List.mem_cons_of_mem _ (List.mem_cons_of_mem _ List.mem_cons_self))))))))
  have g9 : 0 ≤ (4294967294 : Int) + ((-1) * a5 + 0) := hg _ (List.mem_cons_of_mem _ (List.mem_cons_of_mem _ (List.mem_cons_of_mem _ (List.mem_cons_of_mem _ (List.mem_cons_of_mem _ (List.mem_cons_of_mem _ (List.mem_cons_of_mem _ (List.mem_cons_of_mem _ (List.mem_cons_of_mem _ List.mem_cons_self)))))))))
  have g10 : 0 ≤ (0 : Int) + (1 * a6 + 0) := hg _ (List.mem_cons_of_mem _ (List.mem_cons_of_mem _ (List.mem_cons_of_mem _ (List.mem_cons_of_mem _ (List.mem_cons_of_mem _ (List.mem_cons_of_mem _ (List.mem_cons_of_mem _ (List.mem_cons_of_mem _ (List.mem_cons_of_mem _ (List.mem_cons_of_mem _ List.mem_cons_self))))))))))
  have g11 : 0 ≤ (4294967294 : Int) + ((-1) * a6 + 0) := hg _ (List.mem_cons_of_mem _ (List.mem_cons_of_mem _ (List.mem_cons_of_mem _ (List.mem_cons_of_mem _ (List.mem_cons_of_mem _ (List.mem_cons_of_mem _ (List.mem_cons_of_mem _ (List.mem_cons_of_mem _ (List.mem_cons_of_mem _ (List.mem_cons_of_mem _ (List.mem_cons_of_mem _ List.mem_cons_self)))))))))))
  have g12 : 0 ≤ (0 : Int) + (1 * a8 + 0) := hg _ (List.mem_cons_of_mem _ (List.mem_cons_of_mem _ (List.mem_cons_of_mem _ (List.mem_cons_of_mem _ (List.mem_cons_of_mem _ (List.mem_cons_of_mem _ (List.mem_cons_of_mem _ (List.mem_cons_of_mem _ (List.mem_cons_of_mem _ (List.mem_cons_of_mem _ (List.mem_cons_of_mem _ (List.mem_cons_of_mem _ List.mem_cons_self))))))))))))
  have g13 : 0 ≤ (4294967294 : Int) + ((-1) * a8 + 0) := hg _ (List.mem_cons_of_mem _ (List.mem_cons_of_mem _ (List.mem_cons_of_mem _ (List.mem_cons_of_mem _ (List.mem_cons_of_mem _ (List.mem_cons_of_mem _ (List.mem_cons_of_mem _ (List.mem_cons_of_mem _ (List.mem_cons_of_mem _ (List.mem_cons_of_mem _ (List.mem_cons_of_mem _ (List.mem_cons_of_mem _ (List.mem_cons_of_mem _ List.mem_cons_self)))))))))))))
  have r0 : 0 ≤ a0 := hr _ List.mem_cons_self
  have hp := (zs_70 (w := w) (j := a0) (n := a1) (u := a2) (c := a3) (z := a4) (m := a5) (l := a6) (by omega) (by omega) (by omega) (by omega) (by omega) (by omega) (by omega) (by omega) (by omega) (by omega) (by omega) (by omega) (by omega) ).mp (by omega)
  have h : zs_ps w a1 a2 0 a8 0 a6 := by
    rcases hp with h | ⟨h1, h2, h3, h4⟩
    · exact Or.inl h
    · exact Or.inr ⟨h1, fun i i1 i2 i3 => by omega, fun i i1 i2 => by omega, h4⟩
  exact ⟨_, List.mem_cons_self, [], rfl, zx_bnil, zx_cs0, (zx_eF1 (by show 0 ≤ (0 : Int) + (1 * a7 + 0); omega) (by show zk_xe w 2000070 ((0 : Int) + (1 * a7 + 0)) = (1 : Int) + (0); rw [show (0 : Int) + (1 * a7 + 0) = a7 by omega]; exact ((zs_70 (w := w) (j := a7) (n := a1) (u := a2) (c := 0) (z := a8) (m := 0) (l := a6) (by omega) (by omega) (by omega) (by omega) (by omega) (by omega) (by omega) (by omega) (by omega) (by omega) (by omega) (by omega) (by omega) ).mpr (h)).trans (by omega)) zx_eF0), zx_k0⟩
def zx_D723 : zx_L := zx_Lc [] 8 [(2000071, 7)] [] [((0, 0), [(0, 1, 0), (1, 0, 1), (2, 0, 4294967296), (3, 0, 18446744073709551616), (4, 0, 79228162514264337593543950336), (5, 0, 340282366920938463463374607431768211456), (6, 0, 1461501637330902918203684832716283019655932542976)]), ((0, 0), [(7, 1, 0)]), ((0, 1), [(8, 1, 0)])] [((0, 0), [(1, 1, 0)]), ((4294967294, 0), [(1, 0, 1)]), ((0, 0), [(2, 1, 0)]), ((4294967294, 0), [(2, 0, 1)]), ((0, 0), [(3, 1, 0)]), ((4294967294, 0), [(3, 0, 1)]), ((0, 0), [(4, 1, 0)]), ((4294967294, 0), [(4, 0, 1)]), ((0, 0), [(5, 1, 0)]), ((4294967294, 0), [(5, 0, 1)]), ((0, 0), [(6, 1, 0)]), ((4294967294, 0), [(6, 0, 1)])] [([], [], [(2000070, ((0, 0), [(0, 1, 0)]), ((1, 0), []))], [])]
theorem zx_D723_ok {PT : Nat → zz_W → Prop} : zx_Lok 64 zHT PT zx_D723 := by
  refine zx_Lc_ok (fun w hI hK ins hl hr he hg => ?_)
  obtain ⟨a0, a1, a2, a3, a4, a5, a6, a7, rfl⟩ := zx_i8 hl
  have e0 : (0 : Int) + (1 * a0 + ((-1) * a1 + ((-4294967296) * a2 + ((-18446744073709551616) * a3 + ((-79228162514264337593543950336) * a4 + ((-340282366920938463463374607431768211456) * a5 + ((-1461501637330902918203684832716283019655932542976) * a6 + 0))))))) = 0 := he _ List.mem_cons_self
  have e1 : (0 : Int) + (1 * a7 + 0) = 0 := he _ (List.mem_cons_of_mem _ List.mem_cons_self)
  have e2 : ((-1) : Int) + (1 * (zk_xe w 2000071 a7) + 0) = 0 := he _ (List.mem_cons_of_mem _ (List.mem_cons_of_mem _ List.mem_cons_self))
  have g0 : 0 ≤ (0 : Int) + (1 * a1 + 0) := hg _ List.mem_cons_self
  have g1 : 0 ≤ (4294967294 : Int) + ((-1) * a1 + 0) := hg _ (List.mem_cons_of_mem _ List.mem_cons_self)
  have g2 : 0 ≤ (0 : Int) + (1 * a2 + 0) := hg _ (List.mem_cons_of_mem _ (List.mem_cons_of_mem _ List.mem_cons_self))
  have g3 : 0 ≤ (4294967294 : Int) + ((-1) * a2 + 0) := hg _ (List.mem_cons_of_mem _ (List.mem_cons_of_mem _ (List.mem_cons_of_mem _ List.mem_cons_self)))
  have g4 : 0 ≤ (0 : Int) + (1 * a3 + 0) := hg _ (List.mem_cons_of_mem _ (List.mem_cons_of_mem _ (List.mem_cons_of_mem _ (List.mem_cons_of_mem _ List.mem_cons_self))))
  have g5 : 0 ≤ (4294967294 : Int) + ((-1) * a3 + 0) := hg _ (List.mem_cons_of_mem _ (List.mem_cons_of_mem _ (List.mem_cons_of_mem _ (List.mem_cons_of_mem _ (List.mem_cons_of_mem _ List.mem_cons_self)))))
  have g6 : 0 ≤ (0 : Int) + (1 * a4 + 0) := hg _ (List.mem_cons_of_mem _ (List.mem_cons_of_mem _ (List.mem_cons_of_mem _ (List.mem_cons_of_mem _ (List.mem_cons_of_mem _ (List.mem_cons_of_mem _ List.mem_cons_self))))))
  have g7 : 0 ≤ (4294967294 : Int) + ((-1) * a4 + 0) := hg _ (List.mem_cons_of_mem _ (List.mem_cons_of_mem _ (List.mem_cons_of_mem _ (List.mem_cons_of_mem _ (List.mem_cons_of_mem _ (List.mem_cons_of_mem _ (List.mem_cons_of_mem _ List.mem_cons_self)))))))
  have g8 : 0 ≤ (0 : Int) + (1 * a5 + 0) := hg _ (List.mem_cons_of_mem _ (List.mem_cons_of_mem _ (List.mem_cons_of_mem _ (List.mem_cons_of_mem _ (List.mem_cons_of_mem _ (List.mem_cons_of_mem _ (List.mem_cons_of_mem _ (List.mem_cons_of_mem _ List.mem_cons_self))))))))
  have g9 : 0 ≤ (4294967294 : Int) + ((-1) * a5 + 0) := hg _ (List.mem_cons_of_mem _ (List.mem_cons_of_mem _ (List.mem_cons_of_mem _ (List.mem_cons_of_mem _ (List.mem_cons_of_mem _ (List.mem_cons_of_mem _ (List.mem_cons_of_mem _ (List.mem_cons_of_mem _ (List.mem_cons_of_mem _ List.mem_cons_self)))))))))
  have g10 : 0 ≤ (0 : Int) + (1 * a6 + 0) := hg _ (List.mem_cons_of_mem _ (List.mem_cons_of_mem _ (List.mem_cons_of_mem _ (List.mem_cons_of_mem _ (List.mem_cons_of_mem _ (List.mem_cons_of_mem _ (List.mem_cons_of_mem _ (List.mem_cons_of_mem _ (List.mem_cons_of_mem _ (List.mem_cons_of_mem _ List.mem_cons_self))))))))))
  have g11 : 0 ≤ (4294967294 : Int) + ((-1) * a6 + 0) := hg _ (List.mem_cons_of_mem _ (List.mem_cons_of_mem _ (List.mem_cons_of_mem _ (List.mem_cons_of_mem _ (List.mem_cons_of_mem _ (List.mem_cons_of_mem _ (List.mem_cons_of_mem _ (List.mem_cons_of_mem _ (List.mem_cons_of_mem _ (List.mem_cons_of_mem _ (List.mem_cons_of_mem _ List.mem_cons_self)))))))))))
  have r0 : 0 ≤ a7 := hr _ List.mem_cons_self
  have e7z : a7 = 0 := by omega
  rcases zs_71c (w := w) (j := a7) with ⟨-, hx⟩ | ⟨hx, -⟩
  ·
    exact ⟨_, List.mem_cons_self, [], rfl, zx_bnil, zx_cs0, (zx_eF1 (by show 0 ≤ (0 : Int) + (1 * a0 + 0); omega) (by show zk_xe w 2000070 ((0 : Int) + (1 * a0 + 0)) = (1 : Int) + (0); rw [show (0 : Int) + (1 * a0 + 0) = a0 by omega]; exact ((zs_70 (w := w) (j := a0) (n := a1) (u := a2) (c := a3) (z := a4) (m := a5) (l := a6) (by omega) (by omega) (by omega) (by omega) (by omega) (by omega) (by omega) (by omega) (by omega) (by omega) (by omega) (by omega) (by omega) ).mpr (Or.inl hx)).trans (by omega)) zx_eF0), zx_k0⟩
  · omega
def zx_D705 : zx_L := zx_Lc [] 8 [(2000070, 0)] [] [((0, 0), [(0, 1, 0), (1, 0, 1), (2, 0, 4294967296), (3, 0, 18446744073709551616), (4, 0, 79228162514264337593543950336), (5, 0, 340282366920938463463374607431768211456), (6, 0, 1461501637330902918203684832716283019655932542976)]), ((0, 79228162532711081667253501952), [(1, 0, 1), (2, 0, 4294967296), (3, 0, 18446744073709551616), (5, 0, 340282366920938463463374607431768211456), (6, 0, 1461501637330902918203684832716283019655932542976), (7, 1, 0)]), ((0, 1), [(8, 1, 0)])] [((0, 0), [(1, 1, 0)]), ((4294967294, 0), [(1, 0, 1)]), ((0, 0), [(2, 1, 0)]), ((4294967294, 0), [(2, 0, 1)]), ((0, 0), [(3, 1, 0)]), ((4294967294, 0), [(3, 0, 1)]), ((0, 0), [(4, 1, 0)]), ((4294967294, 0), [(4, 0, 1)]), ((0, 0), [(5, 1, 0)]), ((4294967294, 0), [(5, 0, 1)]), ((0, 0), [(6, 1, 0)]), ((4294967294, 0), [(6, 0, 1)]), ((0, 2), [(4, 1, 0)])] [([], [], [(2000070, ((0, 0), [(7, 1, 0)]), ((1, 0), []))], [])]
theorem zx_D705_ok {PT : Nat → zz_W → Prop} : zx_Lok 64 zHT PT zx_D705 := by
  refine zx_Lc_ok (fun w hI hK ins hl hr he hg => ?_)
  obtain ⟨a0, a1, a2, a3, a4, a5, a6, a7, rfl⟩ := zx_i8 hl
  have e0 : (0 : Int) + (1 * a0 + ((-1) * a1 + ((-4294967296) * a2 + ((-18446744073709551616) * a3 + ((-79228162514264337593543950336) * a4 + ((-340282366920938463463374607431768211456) * a5 + ((-1461501637330902918203684832716283019655932542976) * a6 + 0))))))) = 0 := he _ List.mem_cons_self
  have e1 : ((-79228162532711081667253501952) : Int) + ((-1) * a1 + ((-4294967296) * a2 + ((-18446744073709551616) * a3 + ((-340282366920938463463374607431768211456) * a5 + ((-1461501637330902918203684832716283019655932542976) * a6 + (1 * a7 + 0)))))) = 0 := he _ (List.mem_cons_of_mem _ List.mem_cons_self)
  have e2 : ((-1) : Int) + (1 * (zk_xe w 2000070 a0) + 0) = 0 := he _ (List.mem_cons_of_mem _ (List.mem_cons_of_mem _ List.mem_cons_self))
  have g0 : 0 ≤ (0 : Int) + (1 * a1 + 0) := hg _ List.mem_cons_self
  have g1 : 0 ≤ (4294967294 : Int) + ((-1) * a1 + 0) := hg _ (List.mem_cons_of_mem _ List.mem_cons_self)
  have g2 : 0 ≤ (0 : Int) + (1 * a2 + 0) := hg _ (List.mem_cons_of_mem _ (List.mem_cons_of_mem _ List.mem_cons_self))
  have g3 : 0 ≤ (4294967294 : Int) + ((-1) * a2 + 0) := hg _ (List.mem_cons_of_mem _ (List.mem_cons_of_mem _ (List.mem_cons_of_mem _ List.mem_cons_self)))
  have g4 : 0 ≤ (0 : Int) + (1 * a3 + 0) := hg _ (List.mem_cons_of_mem _ (List.mem_cons_of_mem _ (List.mem_cons_of_mem _ (List.mem_cons_of_mem _ List.mem_cons_self))))
  have g5 : 0 ≤ (4294967294 : Int) + ((-1) * a3 + 0) := hg _ (List.mem_cons_of_mem _ (List.mem_cons_of_mem _ (List.mem_cons_of_mem _ (List.mem_cons_of_mem _ (List.mem_cons_of_mem _ List.mem_cons_self)))))
  have g6 : 0 ≤ (0 : Int) + (1 * a4 + 0) := hg _ (List.mem_cons_of_mem _ (List.mem_cons_of_mem _ (List.mem_cons_of_mem _ (List.mem_cons_of_mem _ (List.mem_cons_of_mem _ (List.mem_cons_of_mem _ List.mem_cons_self))))))
  have g7 : 0 ≤ (4294967294 : Int) + ((-1) * a4 + 0) := hg _ (List.mem_cons_of_mem _ (List.mem_cons_of_mem _ (List.mem_cons_of_mem _ (List.mem_cons_of_mem _ (List.mem_cons_of_mem _ (List.mem_cons_of_mem _ (List.mem_cons_of_mem _ List.mem_cons_self)))))))
  have g8 : 0 ≤ (0 : Int) + (1 * a5 + 0) := hg _ (List.mem_cons_of_mem _ (List.mem_cons_of_mem _ (List.mem_cons_of_mem _ (List.mem_cons_of_mem _ (List.mem_cons_of_mem _ (List.mem_cons_of_mem _ (List.mem_cons_of_mem _ (List.mem_cons_of_mem _ List.mem_cons_self))))))))
  have g9 : 0 ≤ (4294967294 : Int) + ((-1) * a5 + 0) := hg _ (List.mem_cons_of_mem _ (List.mem_cons_of_mem _ (List.mem_cons_of_mem _ (List.mem_cons_of_mem _ (List.mem_cons_of_mem _ (List.mem_cons_of_mem _ (List.mem_cons_of_mem _ (List.mem_cons_of_mem _ (List.mem_cons_of_mem _ List.mem_cons_self)))))))))
  have g10 : 0 ≤ (0 : Int) + (1 * a6 + 0) := hg _ (List.mem_cons_of_mem _ (List.mem_cons_of_mem _ (List.mem_cons_of_mem _ (List.mem_cons_of_mem _ (List.mem_cons_of_mem _ (List.mem_cons_of_mem _ (List.mem_cons_of_mem _ (List.mem_cons_of_mem _ (List.mem_cons_of_mem _ (List.mem_cons_of_mem _ List.mem_cons_self))))))))))
  have g11 : 0 ≤ (4294967294 : Int) + ((-1) * a6 + 0) := hg _ (List.mem_cons_of_mem _ (List.mem_cons_of_mem _ (List.mem_cons_of_mem _ (List.mem_cons_of_mem _ (List.mem_cons_of_mem _ (List.mem_cons_of_mem _ (List.mem_cons_of_mem _ (List.mem_cons_of_mem _ (List.mem_cons_of_mem _ (List.mem_cons_of_mem _ (List.mem_cons_of_mem _ List.mem_cons_self)))))))))))
  have g12 : 0 ≤ ((-2) : Int) + (1 * a4 + 0) := hg _ (List.mem_cons_of_mem _ (List.mem_cons_of_mem _ (List.mem_cons_of_mem _ (List.mem_cons_of_mem _ (List.mem_cons_of_mem _ (List.mem_cons_of_mem _ (List.mem_cons_of_mem _ (List.mem_cons_of_mem _ (List.mem_cons_of_mem _ (List.mem_cons_of_mem _ (List.mem_cons_of_mem _ (List.mem_cons_of_mem _ List.mem_cons_self))))))))))))
  have r0 : 0 ≤ a0 := hr _ List.mem_cons_self
  have hp := (zs_70 (w := w) (j := a0) (n := a1) (u := a2) (c := a3) (z := a4) (m := a5) (l := a6) (by omega) (by omega) (by omega) (by omega) (by omega) (by omega) (by omega) (by omega) (by omega) (by omega) (by omega) (by omega) (by omega) ).mp (by omega)
  have h : zs_ps w a1 a2 (a3 + 1) 1 a5 a6 := by
    rcases hp with h | ⟨h1, h2, h3, h4⟩
    · exact Or.inl h
    · refine Or.inr ⟨h1, fun i i1 i2 i3 => ?_, h3, h4⟩
      obtain ⟨q1, q2, q3⟩ := h2 i i1 (by omega) (by omega)
      exact ⟨q1, q2, fun _ => q3 (by omega)⟩
  exact ⟨_, List.mem_cons_self, [], rfl, zx_bnil, zx_cs0, (zx_eF1 (by show 0 ≤ (0 : Int) + (1 * a7 + 0); omega) (by show zk_xe w 2000070 ((0 : Int) + (1 * a7 + 0)) = (1 : Int) + (0); rw [show (0 : Int) + (1 * a7 + 0) = a7 by omega]; exact ((zs_70 (w := w) (j := a7) (n := a1) (u := a2) (c := (a3 + 1)) (z := 1) (m := a5) (l := a6) (by omega) (by omega) (by omega) (by omega) (by omega) (by omega) (by omega) (by omega) (by omega) (by omega) (by omega) (by omega) (by omega) ).mpr (h)).trans (by omega)) zx_eF0), zx_k0⟩
def zx_D706 : zx_L := zx_Lc [] 8 [(2000070, 0)] [] [((0, 0), [(0, 1, 0), (1, 0, 1), (2, 0, 4294967296), (3, 0, 18446744073709551616), (4, 0, 79228162514264337593543950336), (5, 0, 340282366920938463463374607431768211456), (6, 0, 1461501637330902918203684832716283019655932542976)]), ((0, 79228162532711081667253501952), [(1, 0, 1), (2, 0, 4294967296), (5, 0, 340282366920938463463374607431768211456), (6, 0, 1461501637330902918203684832716283019655932542976), (7, 1, 0)]), ((0, 1), [(8, 1, 0)]), ((0, 0), [(3, 1, 0)])] [((0, 0), [(1, 1, 0)]), ((4294967294, 0), [(1, 0, 1)]), ((0, 0), [(2, 1, 0)]), ((4294967294, 0), [(2, 0, 1)]), ((0, 0), [(3, 1, 0)]), ((4294967294, 0), [(3, 0, 1)]), ((0, 0), [(4, 1, 0)]), ((4294967294, 0), [(4, 0, 1)]), ((0, 0), [(5, 1, 0)]), ((4294967294, 0), [(5, 0, 1)]), ((0, 0), [(6, 1, 0)]), ((4294967294, 0), [(6, 0, 1)])] [([], [], [(2000070, ((0, 0), [(7, 1, 0)]), ((1, 0), []))], [])]
theorem zx_D706_ok {PT : Nat → zz_W → Prop} : zx_Lok 64 zHT PT zx_D706 := by
  refine zx_Lc_ok (fun w hI hK ins hl hr he hg => ?_)
  obtain ⟨a0, a1, a2, a3, a4, a5, a6, a7, rfl⟩ := zx_i8 hl
  have e0 : (0 : Int) + (1 * a0 + ((-1) * a1 + ((-4294967296) * a2 + ((-18446744073709551616) * a3 + ((-79228162514264337593543950336) * a4 + ((-340282366920938463463374607431768211456) * a5 + ((-1461501637330902918203684832716283019655932542976) * a6 + 0))))))) = 0 := he _ List.mem_cons_self
  have e1 : ((-79228162532711081667253501952) : Int) + ((-1) * a1 + ((-4294967296) * a2 + ((-340282366920938463463374607431768211456) * a5 + ((-1461501637330902918203684832716283019655932542976) * a6 + (1 * a7 + 0))))) = 0 := he _ (List.mem_cons_of_mem _ List.mem_cons_self)
  have e2 : ((-1) : Int) + (1 * (zk_xe w 2000070 a0) + 0) = 0 := he _ (List.mem_cons_of_mem _ (List.mem_cons_of_mem _ List.mem_cons_self))
  have e3 : (0 : Int) + (1 * a3 + 0) = 0 := he _ (List.mem_cons_of_mem _ (List.mem_cons_of_mem _ (List.mem_cons_of_mem _ List.mem_cons_self)))
  have g0 : 0 ≤ (0 : Int) + (1 * a1 + 0) := hg _ List.mem_cons_self
  have g1 : 0 ≤ (4294967294 : Int) + ((-1) * a1 + 0) := hg _ (List.mem_cons_of_mem _ List.mem_cons_self)
  have g2 : 0 ≤ (0 : Int) + (1 * a2 + 0) := hg _ (List.mem_cons_of_mem _ (List.mem_cons_of_mem _ List.mem_cons_self))
  have g3 : 0 ≤ (4294967294 : Int) + ((-1) * a2 + 0) := hg _ (List.mem_cons_of_mem _ (List.mem_cons_of_mem _ (List.mem_cons_of_mem _ List.mem_cons_self)))
  have g4 : 0 ≤ (0 : Int) + (1 * a3 + 0) := hg _ (List.mem_cons_of_mem _ (List.mem_cons_of_mem _ (List.mem_cons_of_mem _ (List.mem_cons_of_mem _ List.mem_cons_self))))
  have g5 : 0 ≤ (4294967294 : Int) + ((-1) * a3 + 0) := hg _ (List.mem_cons_of_mem _ (List.mem_cons_of_mem _ (List.mem_cons_of_mem _ (List.mem_cons_of_mem _ (List.mem_cons_of_mem _ List.mem_cons_self)))))
  have g6 : 0 ≤ (0 : Int) + (1 * a4 + 0) := hg _ (List.mem_cons_of_mem _ (List.mem_cons_of_mem _ (List.mem_cons_of_mem _ (List.mem_cons_of_mem _ (List.mem_cons_of_mem _ (List.mem_cons_of_mem _ List.mem_cons_self))))))
  have g7 : 0 ≤ (4294967294 : Int) + ((-1) * a4 + 0) := hg _ (List.mem_cons_of_mem _ (List.mem_cons_of_mem _ (List.mem_cons_of_mem _ (List.mem_cons_of_mem _ (List.mem_cons_of_mem _ (List.mem_cons_of_mem _ (List.mem_cons_of_mem _ List.mem_cons_self)))))))
  have g8 : 0 ≤ (0 : Int) + (1 * a5 + 0) := hg _ (List.mem_cons_of_mem _ (List.mem_cons_of_mem _ (List.mem_cons_of_mem _ (List.mem_cons_of_mem _ (List.mem_cons_of_mem _ (List.mem_cons_of_mem _ (List.mem_cons_of_mem _ (List.mem_cons_of_mem _ List.mem_cons_self))))))))
  have g9 : 0 ≤ (4294967294 : Int) + ((-1) * a5 + 0) := hg _ (List.mem_cons_of_mem _ (List.mem_cons_of_mem _ (List.mem_cons_of_mem _ (List.mem_cons_of_mem _ (List.mem_cons_of_mem _ (List.mem_cons_of_mem _ (List.mem_cons_of_mem _ (List.mem_cons_of_mem _ (List.mem_cons_of_mem _ List.mem_cons_self)))))))))
  have g10 : 0 ≤ (0 : Int) + (1 * a6 + 0) := hg _ (List.mem_cons_of_mem _ (List.mem_cons_of_mem _ (List.mem_cons_of_mem _ (List.mem_cons_of_mem _ (List.mem_cons_of_mem _ (List.mem_cons_of_mem _ (List.mem_cons_of_mem _ (List.mem_cons_of_mem _ (List.mem_cons_of_mem _ (List.mem_cons_of_mem _ List.mem_cons_self))))))))))
  have g11 : 0 ≤ (4294967294 : Int) + ((-1) * a6 + 0) := hg _ (List.mem_cons_of_mem _ (List.mem_cons_of_mem _ (List.mem_cons_of_mem _ (List.mem_cons_of_mem _ (List.mem_cons_of_mem _ (List.mem_cons_of_mem _ (List.mem_cons_of_mem _ (List.mem_cons_of_mem _ (List.mem_cons_of_mem _ (List.mem_cons_of_mem _ (List.mem_cons_of_mem _ List.mem_cons_self)))))))))))
  have r0 : 0 ≤ a0 := hr _ List.mem_cons_self
  have hp := (zs_70 (w := w) (j := a0) (n := a1) (u := a2) (c := a3) (z := a4) (m := a5) (l := a6) (by omega) (by omega) (by omega) (by omega) (by omega) (by omega) (by omega) (by omega) (by omega) (by omega) (by omega) (by omega) (by omega) ).mp (by omega)
  have h : zs_ps w a1 a2 1 1 a5 a6 := by
    rcases hp with h | ⟨h1, h2, h3, h4⟩
    · exact Or.inl h
    · exact Or.inr ⟨h1, fun i i1 i2 i3 => by omega, h3, h4⟩
  exact ⟨_, List.mem_cons_self, [], rfl, zx_bnil, zx_cs0, (zx_eF1 (by show 0 ≤ (0 : Int) + (1 * a7 + 0); omega) (by show zk_xe w 2000070 ((0 : Int) + (1 * a7 + 0)) = (1 : Int) + (0); rw [show (0 : Int) + (1 * a7 + 0) = a7 by omega]; exact ((zs_70 (w := w) (j := a7) (n := a1) (u := a2) (c := 1) (z := 1) (m := a5) (l := a6) (by omega) (by omega) (by omega) (by omega) (by omega) (by omega) (by omega) (by omega) (by omega) (by omega) (by omega) (by omega) (by omega) ).mpr (h)).trans (by omega)) zx_eF0), zx_k0⟩
def zx_D707 : zx_L := zx_Lc [] 10 [(2000070, 0), (250, 8), (250, 9), (240, 9), (241, 9), (242, 9), (2000071, 8)] [] [((0, 0), [(0, 1, 0), (1, 0, 1), (2, 0, 4294967296), (3, 0, 18446744073709551616), (4, 0, 79228162514264337593543950336), (5, 0, 340282366920938463463374607431768211456), (6, 0, 1461501637330902918203684832716283019655932542976)]), ((0, 0), [(1, 0, 1), (2, 0, 4294967296), (3, 0, 18446744073709551616), (5, 0, 340282366920938463463374607431768211456), (6, 0, 1461501637330902918203684832716283019655932542976), (7, 1, 0)]), ((0, 1), [(10, 1, 0)]), ((0, 0), [(8, 1, 0)]), ((1, 0), [(3, 0, 1), (9, 1, 0)])] [((0, 0), [(1, 1, 0)]), ((4294967294, 0), [(1, 0, 1)]), ((0, 0), [(2, 1, 0)]), ((4294967294, 0), [(2, 0, 1)]), ((0, 0), [(3, 1, 0)]), ((4294967294, 0), [(3, 0, 1)]), ((0, 0), [(4, 1, 0)]), ((4294967294, 0), [(4, 0, 1)]), ((0, 0), [(5, 1, 0)]), ((4294967294, 0), [(5, 0, 1)]), ((0, 0), [(6, 1, 0)]), ((4294967294, 0), [(6, 0, 1)]), ((0, 1), [(3, 1, 0)]), ((0, 0), [(11, 0, 1), (12, 1, 0), (16, 8589934592, 0)]), ((0, 0), [(12, 1, 0), (16, 8589934592, 0)]), ((7, 0), [(12, 0, 1), (16, 8589934592, 0)]), ((0, 0), [(11, 0, 1), (13, 1, 0), (16, 8589934592, 0)]), ((0, 0), [(13, 0, 1), (14, 1, 0), (16, 8589934592, 0)]), ((0, 0), [(14, 0, 1), (15, 1, 0), (16, 8589934592, 0)]), ((10, 0), [(15, 0, 1), (16, 8589934592, 0)])] [([], [], [(2000070, ((0, 0), [(7, 1, 0)]), ((1, 0), []))], [])]
theorem zx_D707_ok {PT : Nat → zz_W → Prop} : zx_Lok 64 zHT PT zx_D707 := by
  refine zx_Lc_ok (fun w hI hK ins hl hr he hg => ?_)
  obtain ⟨a0, a1, a2, a3, a4, a5, a6, a7, a8, a9, rfl⟩ := zx_i10 hl
  have e0 : (0 : Int) + (1 * a0 + ((-1) * a1 + ((-4294967296) * a2 + ((-18446744073709551616) * a3 + ((-79228162514264337593543950336) * a4 + ((-340282366920938463463374607431768211456) * a5 + ((-1461501637330902918203684832716283019655932542976) * a6 + 0))))))) = 0 := he _ List.mem_cons_self
  have e1 : (0 : Int) + ((-1) * a1 + ((-4294967296) * a2 + ((-18446744073709551616) * a3 + ((-340282366920938463463374607431768211456) * a5 + ((-1461501637330902918203684832716283019655932542976) * a6 + (1 * a7 + 0)))))) = 0 := he _ (List.mem_cons_of_mem _ List.mem_cons_self)
  have e2 : ((-1) : Int) + (1 * (zk_xe w 2000070 a0) + 0) = 0 := he _ (List.mem_cons_of_mem _ (List.mem_cons_of_mem _ List.mem_cons_self))
  have e3 : (0 : Int) + (1 * a8 + 0) = 0 := he _ (List.mem_cons_of_mem _ (List.mem_cons_of_mem _ (List.mem_cons_of_mem _ List.mem_cons_self)))
  have e4 : (1 : Int) + ((-1) * a3 + (1 * a9 + 0)) = 0 := he _ (List.mem_cons_of_mem _ (List.mem_cons_of_mem _ (List.mem_cons_of_mem _ (List.mem_cons_of_mem _ List.mem_cons_self))))
  have g0 : 0 ≤ (0 : Int) + (1 * a1 + 0) := hg _ List.mem_cons_self
  have g1 : 0 ≤ (4294967294 : Int) + ((-1) * a1 + 0) := hg _ (List.mem_cons_of_mem _ List.mem_cons_self)
  have g2 : 0 ≤ (0 : Int) + (1 * a2 + 0) := hg _ (List.mem_cons_of_mem _ (List.mem_cons_of_mem _ List.mem_cons_self))
  have g3 : 0 ≤ (4294967294 : Int) + ((-1) * a2 + 0) := hg _ (List.mem_cons_of_mem _ (List.mem_cons_of_mem _ (List.mem_cons_of_mem _ List.mem_cons_self)))
  have g4 : 0 ≤ (0 : Int) + (1 * a3 + 0) := hg _ (List.mem_cons_of_mem _ (List.mem_cons_of_mem _ (List.mem_cons_of_mem _ (List.mem_cons_of_mem _ List.mem_cons_self))))
  have g5 : 0 ≤ (4294967294 : Int) + ((-1) * a3 + 0) := hg _ (List.mem_cons_of_mem _ (List.mem_cons_of_mem _ (List.mem_cons_of_mem _ (List.mem_cons_of_mem _ (List.mem_cons_of_mem _ List.mem_cons_self)))))
  have g6 : 0 ≤ (0 : Int) + (1 * a4 + 0) := hg _ (List.mem_cons_of_mem _ (List.mem_cons_of_mem _ (List.mem_cons_of_mem _ (List.mem_cons_of_mem _ (List.mem_cons_of_mem _ (List.mem_cons_of_mem _ List.mem_cons_self))))))
  have g7 : 0 ≤ (4294967294 : Int) + ((-1) * a4 + 0) := hg _ (List.mem_cons_of_mem _ (List.mem_cons_of_mem _ (List.mem_cons_of_mem _ (List.mem_cons_of_mem _ (List.mem_cons_of_mem _ (List.mem_cons_of_mem _ (List.mem_cons_of_mem _ List.mem_cons_self)))))))
  have g8 : 0 ≤ (0 : Int) + (1 * a5 + 0) := hg _ (List.mem_cons_of_mem _ (List.mem_cons_of_mem _ (List.mem_cons_of_mem _ (List.mem_cons_of_mem _ (List.mem_cons_of_mem _ (List.mem_cons_of_mem _ (List.mem_cons_of_mem _ (List.mem_cons_of_mem _ List.mem_cons_self))))))))
  have g9 : 0 ≤ (4294967294 : Int) + ((-1) * a5 + 0) := hg _ (List.mem_cons_of_mem _ (List.mem_cons_of_mem _ (List.mem_cons_of_mem _ (List.mem_cons_of_mem _ (List.mem_cons_of_mem _ (List.mem_cons_of_mem _ (List.mem_cons_of_mem _ (List.mem_cons_of_mem _ (List.mem_cons_of_mem _ List.mem_cons_self)))))))))
  have g10 : 0 ≤ (0 : Int) + (1 * a6 + 0) := hg _ (List.mem_cons_of_mem _ (List.mem_cons_of_mem _ (List.mem_cons_of_mem _ (List.mem_cons_of_mem _ (List.mem_cons_of_mem _ (List.mem_cons_of_mem _ (List.mem_cons_of_mem _ (List.mem_cons_of_mem _ (List.mem_cons_of_mem _ (List.mem_cons_of_mem _ List.mem_cons_self))))))))))
  have g11 : 0 ≤ (4294967294 : Int) + ((-1) * a6 + 0) := hg _ (List.mem_cons_of_mem _ (List.mem_cons_of_mem _ (List.mem_cons_of_mem _ (List.mem_cons_of_mem _ (List.mem_cons_of_mem _ (List.mem_cons_of_mem _ (List.mem_cons_of_mem _ (List.mem_cons_of_mem _ (List.mem_cons_of_mem _ (List.mem_cons_of_mem _ (List.mem_cons_of_mem _ List.mem_cons_self)))))))))))
  have g12 : 0 ≤ ((-1) : Int) + (1 * a3 + 0) := hg _ (List.mem_cons_of_mem _ (List.mem_cons_of_mem _ (List.mem_cons_of_mem _ (List.mem_cons_of_mem _ (List.mem_cons_of_mem _ (List.mem_cons_of_mem _ (List.mem_cons_of_mem _ (List.mem_cons_of_mem _ (List.mem_cons_of_mem _ (List.mem_cons_of_mem _ (List.mem_cons_of_mem _ (List.mem_cons_of_mem _ List.mem_cons_self))))))))))))
  have g13 : 0 ≤ (0 : Int) + ((-1) * (zk_xe w 250 a8) + (1 * (zk_xe w 250 a9) + (8589934592 * (zk_xe w 2000071 a8) + 0))) := hg _ (List.mem_cons_of_mem _ (List.mem_cons_of_mem _ (List.mem_cons_of_mem _ (List.mem_cons_of_mem _ (List.mem_cons_of_mem _ (List.mem_cons_of_mem _ (List.mem_cons_of_mem _ (List.mem_cons_of_mem _ (List.mem_cons_of_mem _ (List.mem_cons_of_mem _ (List.mem_cons_of_mem _ (List.mem_cons_of_mem _ (List.mem_cons_of_mem _ List.mem_cons_self)))))))))))))
  have g14 : 0 ≤ (0 : Int) + (1 * (zk_xe w 250 a9) + (8589934592 * (zk_xe w 2000071 a8) + 0)) := hg _ (List.mem_cons_of_mem _ (List.mem_cons_of_mem _ (List.mem_cons_of_mem _ (List.mem_cons_of_mem _ (List.mem_cons_of_mem _ (List.mem_cons_of_mem _ (List.mem_cons_of_mem _ (List.mem_cons_of_mem _ (List.mem_cons_of_mem _ (List.mem_cons_of_mem _ (List.mem_cons_of_mem _ (List.mem_cons_of_mem _ (List.mem_cons_of_mem _ (List.mem_cons_of_mem _ List.mem_cons_self))))))))))))))
  have g15 : 0 ≤ (7 : Int) + ((-1) * (zk_xe w 250 a9) + (8589934592 * (zk_xe w 2000071 a8) + 0)) := hg _ (List.mem_cons_of_mem _ (List.mem_cons_of_mem _ (List.mem_cons_of_mem _ (List.mem_cons_of_mem _ (List.mem_cons_of_mem _ (List.mem_cons_of_mem _ (List.mem_cons_of_mem _ (List.mem_cons_of_mem _ (List.mem_cons_of_mem _ (List.mem_cons_of_mem _ (List.mem_cons_of_mem _ (List.mem_cons_of_mem _ (List.mem_cons_of_mem _ (List.mem_cons_of_mem _ (List.mem_cons_of_mem _ List.mem_cons_self)))))))))))))))
  have g16 : 0 ≤ (0 : Int) + ((-1) * (zk_xe w 250 a8) + (1 * (zk_xe w 240 a9) + (8589934592 * (zk_xe w 2000071 a8) + 0))) := hg _ (List.mem_cons_of_mem _ (List.mem_cons_of_mem _ (List.mem_cons_of_mem _ (List.mem_cons_of_mem _ (List.mem_cons_of_mem _ (List.mem_cons_of_mem _ (List.mem_cons_of_mem _ (List.mem_cons_of_mem _ (List.mem_cons_of_mem _ (List.mem_cons_of_mem _ (List.mem_cons_of_mem _ (List.mem_cons_of_mem _ (List.mem_cons_of_mem _ (List.mem_cons_of_mem _ (List.mem_cons_of_mem _ (List.mem_cons_of_mem _ List.mem_cons_self))))))))))))))))
  have g17 : 0 ≤ (0 : Int) + ((-1) * (zk_xe w 240 a9) + (1 * (zk_xe w 241 a9) + (8589934592 * (zk_xe w 2000071 a8) + 0))) := hg _ (List.mem_cons_of_mem _ (List.mem_cons_of_mem _ (List.mem_cons_of_mem _ (List.mem_cons_of_mem _ (List.mem_cons_of_mem _ (List.mem_cons_of_mem _ (List.mem_cons_of_mem _ (List.mem_cons_of_mem _ (List.mem_cons_of_mem _ (List.mem_cons_of_mem _ (List.mem_cons_of_mem _ (List.mem_cons_of_mem _ (List.mem_cons_of_mem _ (List.mem_cons_of_mem _ (List.mem_cons_of_mem _ (List.mem_cons_of_mem _ (List.mem_cons_of_mem _ List.mem_cons_self)))))))))))))))))
  have g18 : 0 ≤ (0 : Int) + ((-1) * (zk_xe w 241 a9) + (1 * (zk_xe w 242 a9) + (8589934592 * (zk_xe w 2000071 a8) + 0))) := hg _ (List.mem_cons_of_mem _ (List.mem_cons_of_mem _ (List.mem_cons_of_mem _ (List.mem_cons_of_mem _ (List.mem_cons_of_mem _ (List.mem_cons_of_mem _ (List.mem_cons_of_mem _ (List.mem_cons_of_mem _ (List.mem_cons_of_mem _ (List.mem_cons_of_mem _ (List.mem_cons_of_mem _ (List.mem_cons_of_mem _ (List.mem_cons_of_mem _ (List.mem_cons_of_mem _ (List.mem_cons_of_mem _ (List.mem_cons_of_mem _ (List.mem_cons_of_mem _ (List.mem_cons_of_mem _ List.mem_cons_self))))))))))))))))))
  have g19 : 0 ≤ (10 : Int) + ((-1) * (zk_xe w 242 a9) + (8589934592 * (zk_xe w 2000071 a8) + 0)) := hg _ (List.mem_cons_of_mem _ (List.mem_cons_of_mem _ (List.mem_cons_of_mem _ (List.mem_cons_of_mem _ (List.mem_cons_of_mem _ (List.mem_cons_of_mem _ (List.mem_cons_of_mem _ (List.mem_cons_of_mem _ (List.mem_cons_of_mem _ (List.mem_cons_of_mem _ (List.mem_cons_of_mem _ (List.mem_cons_of_mem _ (List.mem_cons_of_mem _ (List.mem_cons_of_mem _ (List.mem_cons_of_mem _ (List.mem_cons_of_mem _ (List.mem_cons_of_mem _ (List.mem_cons_of_mem _ (List.mem_cons_of_mem _ List.mem_cons_self)))))))))))))))))))
  have r0 : 0 ≤ a0 := hr _ List.mem_cons_self
  have r1 : 0 ≤ a8 := hr _ (List.mem_cons_of_mem _ List.mem_cons_self)
  have r2 : 0 ≤ a9 := hr _ (List.mem_cons_of_mem _ (List.mem_cons_of_mem _ List.mem_cons_self))
  have r3 : 0 ≤ a9 := hr _ (List.mem_cons_of_mem _ (List.mem_cons_of_mem _ (List.mem_cons_of_mem _ List.mem_cons_self)))
  have r4 : 0 ≤ a9 := hr _ (List.mem_cons_of_mem _ (List.mem_cons_of_mem _ (List.mem_cons_of_mem _ (List.mem_cons_of_mem _ List.mem_cons_self))))
  have r5 : 0 ≤ a9 := hr _ (List.mem_cons_of_mem _ (List.mem_cons_of_mem _ (List.mem_cons_of_mem _ (List.mem_cons_of_mem _ (List.mem_cons_of_mem _ List.mem_cons_self)))))
  have r6 : 0 ≤ a8 := hr _ (List.mem_cons_of_mem _ (List.mem_cons_of_mem _ (List.mem_cons_of_mem _ (List.mem_cons_of_mem _ (List.mem_cons_of_mem _ (List.mem_cons_of_mem _ List.mem_cons_self))))))
  have hp := (zs_70 (w := w) (j := a0) (n := a1) (u := a2) (c := a3) (z := a4) (m := a5) (l := a6) (by omega) (by omega) (by omega) (by omega) (by omega) (by omega) (by omega) (by omega) (by omega) (by omega) (by omega) (by omega) (by omega) ).mp (by omega)
  have e8z : a8 = 0 := by omega
  have h0 : zh_e w 250 0 = zk_xe w 250 a8 := by rw [zk_xe_r (i := 250) (by decide), show a8 = 0 by omega]; rfl
  have k0 : zh_e w 250 (a3 - 1) = zk_xe w 250 a9 := by rw [zk_xe_r (i := 250) (by decide)]; show zk_el w 250 (a3 - 1) = zk_el w 250 a9; rw [show a3 - 1 = a9 by omega]
  have k1 : zh_e w 240 (a3 - 1) = zk_xe w 240 a9 := by rw [zk_xe_r (i := 240) (by decide)]; show zk_el w 240 (a3 - 1) = zk_el w 240 a9; rw [show a3 - 1 = a9 by omega]
  have k2 : zh_e w 241 (a3 - 1) = zk_xe w 241 a9 := by rw [zk_xe_r (i := 241) (by decide)]; show zk_el w 241 (a3 - 1) = zk_el w 241 a9; rw [show a3 - 1 = a9 by omega]
  have k3 : zh_e w 242 (a3 - 1) = zk_xe w 242 a9 := by rw [zk_xe_r (i := 242) (by decide)]; show zk_el w 242 (a3 - 1) = zk_el w 242 a9; rw [show a3 - 1 = a9 by omega]
  have hx := zs_71c (w := w) (j := a8)
  have h : zs_ps w a1 a2 a3 0 a5 a6 := by
    rcases hp with h | ⟨h1, h2, h3, h4⟩
    · exact Or.inl h
    · rcases hx with ⟨-, hx⟩ | ⟨hx, -⟩
      · exact Or.inl hx
      · refine Or.inr ⟨h1, fun i i1 i2 i3 => ?_, h3, h4⟩
        by_cases c : i = a3 - 1
        · rw [c, h0, k0, k1, k2, k3]
          exact ⟨by omega, by omega, fun q => by omega⟩
        · obtain ⟨q1, q2, q3⟩ := h2 i i1 i2 (by omega)
          exact ⟨q1, q2, fun _ => q3 (by omega)⟩
  exact ⟨_, List.mem_cons_self, [], rfl, zx_bnil, zx_cs0, (zx_eF1 (by show 0 ≤ (0 : Int) + (1 * a7 + 0); omega) (by show zk_xe w 2000070 ((0 : Int) + (1 * a7 + 0)) = (1 : Int) + (0); rw [show (0 : Int) + (1 * a7 + 0) = a7 by omega]; exact ((zs_70 (w := w) (j := a7) (n := a1) (u := a2) (c := a3) (z := 0) (m := a5) (l := a6) (by omega) (by omega) (by omega) (by omega) (by omega) (by omega) (by omega) (by omega) (by omega) (by omega) (by omega) (by omega) (by omega) ).mpr (h)).trans (by omega)) zx_eF0), zx_k0⟩
def zx_D721 : zx_L := zx_Lc [] 10 [(2000070, 0), (250, 8), (250, 9), (240, 9), (241, 9), (242, 9), (2000071, 8)] [] [((0, 0), [(0, 1, 0), (1, 0, 1), (2, 0, 4294967296), (3, 0, 18446744073709551616), (4, 0, 79228162514264337593543950336), (5, 0, 340282366920938463463374607431768211456), (6, 0, 1461501637330902918203684832716283019655932542976)]), ((0, 158456325028528675187087900672), [(1, 0, 1), (2, 0, 4294967296), (3, 0, 18446744073709551616), (5, 0, 340282366920938463463374607431768211456), (6, 0, 1461501637330902918203684832716283019655932542976), (7, 1, 0)]), ((0, 1), [(10, 1, 0)]), ((0, 0), [(8, 1, 0)]), ((1, 0), [(3, 0, 1), (9, 1, 0)])] [((0, 0), [(1, 1, 0)]), ((4294967294, 0), [(1, 0, 1)]), ((0, 0), [(2, 1, 0)]), ((4294967294, 0), [(2, 0, 1)]), ((0, 0), [(3, 1, 0)]), ((4294967294, 0), [(3, 0, 1)]), ((0, 0), [(4, 1, 0)]), ((4294967294, 0), [(4, 0, 1)]), ((0, 0), [(5, 1, 0)]), ((4294967294, 0), [(5, 0, 1)]), ((0, 0), [(6, 1, 0)]), ((4294967294, 0), [(6, 0, 1)]), ((0, 1), [(3, 1, 0)]), ((0, 0), [(11, 0, 1), (12, 1, 0), (16, 8589934592, 0)]), ((0, 0), [(12, 1, 0), (16, 8589934592, 0)]), ((7, 0), [(12, 0, 1), (16, 8589934592, 0)]), ((0, 0), [(11, 0, 1), (13, 1, 0), (16, 8589934592, 0)]), ((0, 0), [(13, 0, 1), (14, 1, 0), (16, 8589934592, 0)]), ((0, 0), [(14, 0, 1), (15, 1, 0), (16, 8589934592, 0)]), ((7, 0), [(15, 0, 1), (16, 8589934592, 0)])] [([], [], [(2000070, ((0, 0), [(7, 1, 0)]), ((1, 0), []))], [])]
theorem zx_D721_ok {PT : Nat → zz_W → Prop} : zx_Lok 64 zHT PT zx_D721 := by
  refine zx_Lc_ok (fun w hI hK ins hl hr he hg => ?_)
  obtain ⟨a0, a1, a2, a3, a4, a5, a6, a7, a8, a9, rfl⟩ := zx_i10 hl
  have e0 : (0 : Int) + (1 * a0 + ((-1) * a1 + ((-4294967296) * a2 + ((-18446744073709551616) * a3 + ((-79228162514264337593543950336) * a4 + ((-340282366920938463463374607431768211456) * a5 + ((-1461501637330902918203684832716283019655932542976) * a6 + 0))))))) = 0 := he _ List.mem_cons_self
  have e1 : ((-158456325028528675187087900672) : Int) + ((-1) * a1 + ((-4294967296) * a2 + ((-18446744073709551616) * a3 + ((-340282366920938463463374607431768211456) * a5 + ((-1461501637330902918203684832716283019655932542976) * a6 + (1 * a7 + 0)))))) = 0 := he _ (List.mem_cons_of_mem _ List.mem_cons_self)
  have e2 : ((-1) : Int) + (1 * (zk_xe w 2000070 a0) + 0) = 0 := he _ (List.mem_cons_of_mem _ (List.mem_cons_of_mem _ List.mem_cons_self))
  have e3 : (0 : Int) + (1 * a8 + 0) = 0 := he _ (List.mem_cons_of_mem _ (List.mem_cons_of_mem _ (List.mem_cons_of_mem _ List.mem_cons_self)))
  have e4 : (1 : Int) + ((-1) * a3 + (1 * a9 + 0)) = 0 := he _ (List.mem_cons_of_mem _ (List.mem_cons_of_mem _ (List.mem_cons_of_mem _ (List.mem_cons_of_mem _ List.mem_cons_self))))
  have g0 : 0 ≤ (0 : Int) + (1 * a1 + 0) := hg _ List.mem_cons_self
  have g1 : 0 ≤ (4294967294 : Int) + ((-1) * a1 + 0) := hg _ (List.mem_cons_of_mem _ List.mem_cons_self)
  have g2 : 0 ≤ (0 : Int) + (1 * a2 + 0) := hg _ (List.mem_cons_of_mem _ (List.mem_cons_of_mem _ List.mem_cons_self))
  have g3 : 0 ≤ (4294967294 : Int) + ((-1) * a2 + 0) := hg _ (List.mem_cons_of_mem _ (List.mem_cons_of_mem _ (List.mem_cons_of_mem _ List.mem_cons_self)))
  have g4 : 0 ≤ (0 : Int) + (1 * a3 + 0) := hg _ (List.mem_cons_of_mem _ (List.mem_cons_of_mem _ (List.mem_cons_of_mem _ (List.mem_cons_of_mem _ List.mem_cons_self))))
  have g5 : 0 ≤ (4294967294 : Int) + ((-1) * a3 + 0) := hg _ (List.mem_cons_of_mem _ (List.mem_cons_of_mem _ (List.mem_cons_of_mem _ (List.mem_cons_of_mem _ (List.mem_cons_of_mem _ List.mem_cons_self)))))
  have g6 : 0 ≤ (0 : Int) + (1 * a4 + 0) := hg _ (List.mem_cons_of_mem _ (List.mem_cons_of_mem _ (List.mem_cons_of_mem _ (List.mem_cons_of_mem _ (List.mem_cons_of_mem _ (List.mem_cons_of_mem _ List.mem_cons_self))))))
  have g7 : 0 ≤ (4294967294 : Int) + ((-1) * a4 + 0) := hg _ (List.mem_cons_of_mem _ (List.mem_cons_of_mem _ (List.mem_cons_of_mem _ (List.mem_cons_of_mem _ (List.mem_cons_of_mem _ (List.mem_cons_of_mem _ (List.mem_cons_of_mem _ List.mem_cons_self)))))))
  have g8 : 0 ≤ (0 : Int) + (1 * a5 + 0) := hg _ (List.mem_cons_of_mem _ (List.mem_cons_of_mem _ (List.mem_cons_of_mem _ (List.mem_cons_of_mem _ (List.mem_cons_of_mem _ (List.mem_cons_of_mem _ (List.mem_cons_of_mem _ (List.mem_cons_of_mem _ List.mem_cons_self))))))))
  have g9 : 0 ≤ (4294967294 : Int) + ((-1) * a5 + 0) := hg _ (List.mem_cons_of_mem _ (List.mem_cons_of_mem _ (List.mem_cons_of_mem _ (List.mem_cons_of_mem _ (List.mem_cons_of_mem _ (List.mem_cons_of_mem _ (List.mem_cons_of_mem _ (List.mem_cons_of_mem _ (List.mem_cons_of_mem _ List.mem_cons_self)))))))))
  have g10 : 0 ≤ (0 : Int) + (1 * a6 + 0) := hg _ (List.mem_cons_of_mem _ (List.mem_cons_of_mem _ (List.mem_cons_of_mem _ (List.mem_cons_of_mem _ (List.mem_cons_of_mem _ (List.mem_cons_of_mem _ (List.mem_cons_of_mem _ (List.mem_cons_of_mem _ (List.mem_cons_of_mem _ (List.mem_cons_of_mem _ List.mem_cons_self))))))))))
  have g11 : 0 ≤ (4294967294 : Int) + ((-1) * a6 + 0) := hg _ (List.mem_cons_of_mem _ (List.mem_cons_of_mem _ (List.mem_cons_of_mem _ (List.mem_cons_of_mem _ (List.mem_cons_of_mem _ (List.mem_cons_of_mem _ (List.mem_cons_of_mem _ (List.mem_cons_of_mem _ (List.mem_cons_of_mem _ (List.mem_cons_of_mem _ (List.mem_cons_of_mem _ List.mem_cons_self)))))))))))
  have g12 : 0 ≤ ((-1) : Int) + (1 * a3 + 0) := hg _ (List.mem_cons_of_mem _ (List.mem_cons_of_mem _ (List.mem_cons_of_mem _ (List.mem_cons_of_mem _ (List.mem_cons_of_mem _ (List.mem_cons_of_mem _ (List.mem_cons_of_mem _ (List.mem_cons_of_mem _ (List.mem_cons_of_mem _ (List.mem_cons_of_mem _ (List.mem_cons_of_mem _ (List.mem_cons_of_mem _ List.mem_cons_self))))))))))))
  have g13 : 0 ≤ (0 : Int) + ((-1) * (zk_xe w 250 a8) + (1 * (zk_xe w 250 a9) + (8589934592 * (zk_xe w 2000071 a8) + 0))) := hg _ (List.mem_cons_of_mem _ (List.mem_cons_of_mem _ (List.mem_cons_of_mem _ (List.mem_cons_of_mem _ (List.mem_cons_of_mem _ (List.mem_cons_of_mem _ (List.mem_cons_of_mem _ (List.mem_cons_of_mem _ (List.mem_cons_of_mem _ (List.mem_cons_of_mem _ (List.mem_cons_of_mem _ (List.mem_cons_of_mem _ (List.mem_cons_of_mem _ List.mem_cons_self)))))))))))))
  have g14 : 0 ≤ (0 : Int) + (1 * (zk_xe w 250 a9) + (8589934592 * (zk_xe w 2000071 a8) + 0)) := hg _ (List.mem_cons_of_mem _ (List.mem_cons_of_mem _ (List.mem_cons_of_mem _ (List.mem_cons_of_mem _ (List.mem_cons_of_mem _ (List.mem_cons_of_mem _ (List.mem_cons_of_mem _ (List.mem_cons_of_mem _ (List.mem_cons_of_mem _ (List.mem_cons_of_mem _ (List.mem_cons_of_mem _ (List.mem_cons_of_mem _ (List.mem_cons_of_mem _ (List.mem_cons_of_mem _ List.mem_cons_self))))))))))))))
  have g15 : 0 ≤ (7 : Int) + ((-1) * (zk_xe w 250 a9) + (8589934592 * (zk_xe w 2000071 a8) + 0)) := hg _ (List.mem_cons_of_mem _ (List.mem_cons_of_mem _ (List.mem_cons_of_mem _ (List.mem_cons_of_mem _ (List.mem_cons_of_mem _ (List.mem_cons_of_mem _ (List.mem_cons_of_mem _ (List.mem_cons_of_mem _ (List.mem_cons_of_mem _ (List.mem_cons_of_mem _ (List.mem_cons_of_mem _ (List.mem_cons_of_mem _ (List.mem_cons_of_mem _ (List.mem_cons_of_mem _ (List.mem_cons_of_mem _ List.mem_cons_self)))))))))))))))
  have g16 : 0 ≤ (0 : Int) + ((-1) * (zk_xe w 250 a8) + (1 * (zk_xe w 240 a9) + (8589934592 * (zk_xe w 2000071 a8) + 0))) := hg _ (List.mem_cons_of_mem _ (List.mem_cons_of_mem _ (List.mem_cons_of_mem _ (List.mem_cons_of_mem _ (List.mem_cons_of_mem _ (List.mem_cons_of_mem _ (List.mem_cons_of_mem _ (List.mem_cons_of_mem _ (List.mem_cons_of_mem _ (List.mem_cons_of_mem _ (List.mem_cons_of_mem _ (List.mem_cons_of_mem _ (List.mem_cons_of_mem _ (List.mem_cons_of_mem _ (List.mem_cons_of_mem _ (List.mem_cons_of_mem _ List.mem_cons_self))))))))))))))))
  have g17 : 0 ≤ (0 : Int) + ((-1) * (zk_xe w 240 a9) + (1 * (zk_xe w 241 a9) + (8589934592 * (zk_xe w 2000071 a8) + 0))) := hg _ (List.mem_cons_of_mem _ (List.mem_cons_of_mem _ (List.mem_cons_of_mem _ (List.mem_cons_of_mem _ (List.mem_cons_of_mem _ (List.mem_cons_of_mem _ (List.mem_cons_of_mem _ (List.mem_cons_of_mem _ (List.mem_cons_of_mem _ (List.mem_cons_of_mem _ (List.mem_cons_of_mem _ (List.mem_cons_of_mem _ (List.mem_cons_of_mem _ (List.mem_cons_of_mem _ (List.mem_cons_of_mem _ (List.mem_cons_of_mem _ (List.mem_cons_of_mem _ List.mem_cons_self)))))))))))))))))
  have g18 : 0 ≤ (0 : Int) + ((-1) * (zk_xe w 241 a9) + (1 * (zk_xe w 242 a9) + (8589934592 * (zk_xe w 2000071 a8) + 0))) := hg _ (List.mem_cons_of_mem _ (List.mem_cons_of_mem _ (List.mem_cons_of_mem _ (List.mem_cons_of_mem _ (List.mem_cons_of_mem _ (List.mem_cons_of_mem _ (List.mem_cons_of_mem _ (List.mem_cons_of_mem _ (List.mem_cons_of_mem _ (List.mem_cons_of_mem _ (List.mem_cons_of_mem _ (List.mem_cons_of_mem _ (List.mem_cons_of_mem _ (List.mem_cons_of_mem _ (List.mem_cons_of_mem _ (List.mem_cons_of_mem _ (List.mem_cons_of_mem _ (List.mem_cons_of_mem _ List.mem_cons_self))))))))))))))))))
  have g19 : 0 ≤ (7 : Int) + ((-1) * (zk_xe w 242 a9) + (8589934592 * (zk_xe w 2000071 a8) + 0)) := hg _ (List.mem_cons_of_mem _ (List.mem_cons_of_mem _ (List.mem_cons_of_mem _ (List.mem_cons_of_mem _ (List.mem_cons_of_mem _ (List.mem_cons_of_mem _ (List.mem_cons_of_mem _ (List.mem_cons_of_mem _ (List.mem_cons_of_mem _ (List.mem_cons_of_mem _ (List.mem_cons_of_mem _ (List.mem_cons_of_mem _ (List.mem_cons_of_mem _ (List.mem_cons_of_mem _ (List.mem_cons_of_mem _ (List.mem_cons_of_mem _ (List.mem_cons_of_mem _ (List.mem_cons_of_mem _ (List.mem_cons_of_mem _ List.mem_cons_self)))))))))))))))))))
  have r0 : 0 ≤ a0 := hr _ List.mem_cons_self
  have r1 : 0 ≤ a8 := hr _ (List.mem_cons_of_mem _ List.mem_cons_self)
  have r2 : 0 ≤ a9 := hr _ (List.mem_cons_of_mem _ (List.mem_cons_of_mem _ List.mem_cons_self))
  have r3 : 0 ≤ a9 := hr _ (List.mem_cons_of_mem _ (List.mem_cons_of_mem _ (List.mem_cons_of_mem _ List.mem_cons_self)))
  have r4 : 0 ≤ a9 := hr _ (List.mem_cons_of_mem _ (List.mem_cons_of_mem _ (List.mem_cons_of_mem _ (List.mem_cons_of_mem _ List.mem_cons_self))))
  have r5 : 0 ≤ a9 := hr _ (List.mem_cons_of_mem _ (List.mem_cons_of_mem _ (List.mem_cons_of_mem _ (List.mem_cons_of_mem _ (List.mem_cons_of_mem _ List.mem_cons_self)))))
  have r6 : 0 ≤ a8 := hr _ (List.mem_cons_of_mem _ (List.mem_cons_of_mem _ (List.mem_cons_of_mem _ (List.mem_cons_of_mem _ (List.mem_cons_of_mem _ (List.mem_cons_of_mem _ List.mem_cons_self))))))
  have hp := (zs_70 (w := w) (j := a0) (n := a1) (u := a2) (c := a3) (z := a4) (m := a5) (l := a6) (by omega) (by omega) (by omega) (by omega) (by omega) (by omega) (by omega) (by omega) (by omega) (by omega) (by omega) (by omega) (by omega) ).mp (by omega)
  have e8z : a8 = 0 := by omega
  have h0 : zh_e w 250 0 = zk_xe w 250 a8 := by rw [zk_xe_r (i := 250) (by decide), show a8 = 0 by omega]; rfl
  have k0 : zh_e w 250 (a3 - 1) = zk_xe w 250 a9 := by rw [zk_xe_r (i := 250) (by decide)]; show zk_el w 250 (a3 - 1) = zk_el w 250 a9; rw [show a3 - 1 = a9 by omega]
  have k1 : zh_e w 240 (a3 - 1) = zk_xe w 240 a9 := by rw [zk_xe_r (i := 240) (by decide)]; show zk_el w 240 (a3 - 1) = zk_el w 240 a9; rw [show a3 - 1 = a9 by omega]
  have k2 : zh_e w 241 (a3 - 1) = zk_xe w 241 a9 := by rw [zk_xe_r (i := 241) (by decide)]; show zk_el w 241 (a3 - 1) = zk_el w 241 a9; rw [show a3 - 1 = a9 by omega]
  have k3 : zh_e w 242 (a3 - 1) = zk_xe w 242 a9 := by rw [zk_xe_r (i := 242) (by decide)]; show zk_el w 242 (a3 - 1) = zk_el w 242 a9; rw [show a3 - 1 = a9 by omega]
  have hx := zs_71c (w := w) (j := a8)
  have h : zs_ps w a1 a2 a3 2 a5 a6 := by
    rcases hp with h | ⟨h1, h2, h3, h4⟩
    · exact Or.inl h
    · rcases hx with ⟨-, hx⟩ | ⟨hx, -⟩
      · exact Or.inl hx
      · refine Or.inr ⟨h1, fun i i1 i2 i3 => ?_, h3, h4⟩
        by_cases c : i = a3 - 1
        · rw [c, h0, k0, k1, k2, k3]
          exact ⟨by omega, by omega, fun q => by omega⟩
        · obtain ⟨q1, q2, q3⟩ := h2 i i1 i2 (by omega)
          exact ⟨q1, q2, fun _ => q3 (by omega)⟩
  exact ⟨_, List.mem_cons_self, [], rfl, zx_bnil, zx_cs0, (zx_eF1 (by show 0 ≤ (0 : Int) + (1 * a7 + 0); omega) (by show zk_xe w 2000070 ((0 : Int) + (1 * a7 + 0)) = (1 : Int) + (0); rw [show (0 : Int) + (1 * a7 + 0) = a7 by omega]; exact ((zs_70 (w := w) (j := a7) (n := a1) (u := a2) (c := a3) (z := 2) (m := a5) (l := a6) (by omega) (by omega) (by omega) (by omega) (by omega) (by omega) (by omega) (by omega) (by omega) (by omega) (by omega) (by omega) (by omega) ).mpr (h)).trans (by omega)) zx_eF0), zx_k0⟩
def zx_D730 : zx_L := zx_Lc [] 9 [(2000070, 0)] [] [((0, 0), [(0, 1, 0), (1, 0, 1), (2, 0, 4294967296), (3, 0, 18446744073709551616), (4, 0, 79228162514264337593543950336), (5, 0, 340282366920938463463374607431768211456), (6, 0, 1461501637330902918203684832716283019655932542976)]), ((0, 0), [(1, 0, 1), (2, 0, 4294967296), (3, 0, 18446744073709551616), (5, 0, 340282366920938463463374607431768211456), (6, 0, 1461501637330902918203684832716283019655932542976), (7, 1, 0), (8, 0, 79228162514264337593543950336)]), ((0, 1), [(9, 1, 0)]), ((0, 0), [(4, 1, 0), (8, 0, 1)])] [((0, 0), [(1, 1, 0)]), ((4294967294, 0), [(1, 0, 1)]), ((0, 0), [(2, 1, 0)]), ((4294967294, 0), [(2, 0, 1)]), ((0, 0), [(3, 1, 0)]), ((4294967294, 0), [(3, 0, 1)]), ((0, 0), [(4, 1, 0)]), ((4294967294, 0), [(4, 0, 1)]), ((0, 0), [(5, 1, 0)]), ((4294967294, 0), [(5, 0, 1)]), ((0, 0), [(6, 1, 0)]), ((4294967294, 0), [(6, 0, 1)]), ((0, 0), [(8, 1, 0)]), ((4294967294, 0), [(8, 0, 1)])] [([], [], [(2000070, ((0, 0), [(7, 1, 0)]), ((1, 0), []))], [])]
theorem zx_D730_ok {PT : Nat → zz_W → Prop} : zx_Lok 64 zHT PT zx_D730 := by
  refine zx_Lc_ok (fun w hI hK ins hl hr he hg => ?_)
  obtain ⟨a0, a1, a2, a3, a4, a5, a6, a7, a8, rfl⟩ := zx_i9 hl
  have e0 : (0 : Int) + (1 * a0 + ((-1) * a1 + ((-4294967296) * a2 + ((-18446744073709551616) * a3 + ((-79228162514264337593543950336) * a4 + ((-340282366920938463463374607431768211456) * a5 + ((-1461501637330902918203684832716283019655932542976) * a6 + 0))))))) = 0 := he _ List.mem_cons_self
  have e1 : (0 : Int) + ((-1) * a1 + ((-4294967296) * a2 + ((-18446744073709551616) * a3 + ((-340282366920938463463374607431768211456) * a5 + ((-1461501637330902918203684832716283019655932542976) * a6 + (1 * a7 + ((-79228162514264337593543950336) * a8 + 0))))))) = 0 := he _ (List.mem_cons_of_mem _ List.mem_cons_self)
  have e2 : ((-1) : Int) + (1 * (zk_xe w 2000070 a0) + 0) = 0 := he _ (List.mem_cons_of_mem _ (List.mem_cons_of_mem _ List.mem_cons_self))
  have e3 : (0 : Int) + (1 * a4 + ((-1) * a8 + 0)) = 0 := he _ (List.mem_cons_of_mem _ (List.mem_cons_of_mem _ (List.mem_cons_of_mem _ List.mem_cons_self)))
  have g0 : 0 ≤ (0 : Int) + (1 * a1 + 0) := hg _ List.mem_cons_self
  have g1 : 0 ≤ (4294967294 : Int) + ((-1) * a1 + 0) := hg _ (List.mem_cons_of_mem _ List.mem_cons_self)
  have g2 : 0 ≤ (0 : Int) + (1 * a2 + 0) := hg _ (List.mem_cons_of_mem _ (List.mem_cons_of_mem _ List.mem_cons_self))
  have g3 : 0 ≤ (4294967294 : Int) + ((-1) * a2 + 0) := hg _ (List.mem_cons_of_mem _ (List.mem_cons_of_mem _ (List.mem_cons_of_mem _ List.mem_cons_self)))
  have g4 : 0 ≤ (0 : Int) + (1 * a3 + 0) := hg _ (List.mem_cons_of_mem _ (List.mem_cons_of_mem _ (List.mem_cons_of_mem _ (List.mem_cons_of_mem _ List.mem_cons_self))))
  have g5 : 0 ≤ (4294967294 : Int) + ((-1) * a3 + 0) := hg _ (List.mem_cons_of_mem _ (List.mem_cons_of_mem _ (List.mem_cons_of_mem _ (List.mem_cons_of_mem _ (List.mem_cons_of_mem _ List.mem_cons_self)))))
  have g6 : 0 ≤ (0 : Int) + (1 * a4 + 0) := hg _ (List.mem_cons_of_mem _ (List.mem_cons_of_mem _ (List.mem_cons_of_mem _ (List.mem_cons_of_mem _ (List.mem_cons_of_mem _ (List.mem_cons_of_mem _ List.mem_cons_self))))))
  have g7 : 0 ≤ (4294967294 : Int) + ((-1) * a4 + 0) := hg _ (List.mem_cons_of_mem _ (List.mem_cons_of_mem _ (List.mem_cons_of_mem _ (List.mem_cons_of_mem _ (List.mem_cons_of_mem _ (List.mem_cons_of_mem _ (List.mem_cons_of_mem _ List.mem_cons_self)))))))
  have g8 : 0 ≤ (0 : Int) + (1 * a5 + 0) := hg _ (List.mem_cons_of_mem _ (List.mem_cons_of_mem _ (List.mem_cons_of_mem _ (List.mem_cons_of_mem _ (List.mem_cons_of_mem _ (List.mem_cons_of_mem _ (List.mem_cons_of_mem _ (List.mem_cons_of_mem _ List.mem_cons_self))))))))
  have g9 : 0 ≤ (4294967294 : Int) + ((-1) * a5 + 0) := hg _ (List.mem_cons_of_mem _ (List.mem_cons_of_mem _ (List.mem_cons_of_mem _ (List.mem_cons_of_mem _ (List.mem_cons_of_mem _ (List.mem_cons_of_mem _ (List.mem_cons_of_mem _ (List.mem_cons_of_mem _ (List.mem_cons_of_mem _ List.mem_cons_self)))))))))
  have g10 : 0 ≤ (0 : Int) + (1 * a6 + 0) := hg _ (List.mem_cons_of_mem _ (List.mem_cons_of_mem _ (List.mem_cons_of_mem _ (List.mem_cons_of_mem _ (List.mem_cons_of_mem _ (List.mem_cons_of_mem _ (List.mem_cons_of_mem _ (List.mem_cons_of_mem _ (List.mem_cons_of_mem _ (List.mem_cons_of_mem _ List.mem_cons_self))))))))))
  have g11 : 0 ≤ (4294967294 : Int) + ((-1) * a6 + 0) := hg _ (List.mem_cons_of_mem _ (List.mem_cons_of_mem _ (List.mem_cons_of_mem _ (List.mem_cons_of_mem _ (List.mem_cons_of_mem _ (List.mem_cons_of_mem _ (List.mem_cons_of_mem _ (List.mem_cons_of_mem _ (List.mem_cons_of_mem _ (List.mem_cons_of_mem _ (List.mem_cons_of_mem _ List.mem_cons_self)))))))))))
  have g12 : 0 ≤ (0 : Int) + (1 * a8 + 0) := hg _ (List.mem_cons_of_mem _ (List.mem_cons_of_mem _ (List.mem_cons_of_mem _ (List.mem_cons_of_mem _ (List.mem_cons_of_mem _ (List.mem_cons_of_mem _ (List.mem_cons_of_mem _ (List.mem_cons_of_mem _ (List.mem_cons_of_mem _ (List.mem_cons_of_mem _ (List.mem_cons_of_mem _ (List.mem_cons_of_mem _ List.mem_cons_self))))))))))))
  have g13 : 0 ≤ (4294967294 : Int) + ((-1) * a8 + 0) := hg _ (List.mem_cons_of_mem _ (List.mem_cons_of_mem _ (List.mem_cons_of_mem _ (List.mem_cons_of_mem _ (List.mem_cons_of_mem _ (List.mem_cons_of_mem _ (List.mem_cons_of_mem _ (List.mem_cons_of_mem _ (List.mem_cons_of_mem _ (List.mem_cons_of_mem _ (List.mem_cons_of_mem _ (List.mem_cons_of_mem _ (List.mem_cons_of_mem _ List.mem_cons_self)))))))))))))
  have r0 : 0 ≤ a0 := hr _ List.mem_cons_self
  have hp := (zs_70 (w := w) (j := a0) (n := a1) (u := a2) (c := a3) (z := a4) (m := a5) (l := a6) (by omega) (by omega) (by omega) (by omega) (by omega) (by omega) (by omega) (by omega) (by omega) (by omega) (by omega) (by omega) (by omega) ).mp (by omega)
  have h : zs_ps w a1 a2 a3 a8 a5 a6 := by
    rcases hp with h | ⟨h1, h2, h3, h4⟩
    · exact Or.inl h
    · refine Or.inr ⟨h1, fun i i1 i2 i3 => ?_, h3, h4⟩
      obtain ⟨q1, q2, q3⟩ := h2 i i1 i2 (by omega)
      exact ⟨q1, q2, fun _ => q3 (by omega)⟩
  exact ⟨_, List.mem_cons_self, [], rfl, zx_bnil, zx_cs0, (zx_eF1 (by show 0 ≤ (0 : Int) + (1 * a7 + 0); omega) (by show zk_xe w 2000070 ((0 : Int) + (1 * a7 + 0)) = (1 : Int) + (0); rw [show (0 : Int) + (1 * a7 + 0) = a7 by omega]; exact ((zs_70 (w := w) (j := a7) (n := a1) (u := a2) (c := a3) (z := a8) (m := a5) (l := a6) (by omega) (by omega) (by omega) (by omega) (by omega) (by omega) (by omega) (by omega) (by omega) (by omega) (by omega) (by omega) (by omega) ).mpr (h)).trans (by omega)) zx_eF0), zx_k0⟩
def zx_D731 : zx_L := zx_Lc [] 2 [(2000071, 1)] [] [((0, 0), [(1, 1, 0)]), ((0, 1), [(2, 1, 0)])] [((0, 0), [(0, 1, 0)])] [([], [], [(2000073, ((0, 0), [(0, 1, 0)]), ((0, 0), []))], [])]
theorem zx_D731_ok {PT : Nat → zz_W → Prop} : zx_Lok 64 zHT PT zx_D731 := by
  refine zx_Lc_ok (fun w hI hK ins hl hr he hg => ?_)
  obtain ⟨a0, a1, rfl⟩ := zx_i2 hl
  have e0 : (0 : Int) + (1 * a1 + 0) = 0 := he _ List.mem_cons_self
  have e1 : ((-1) : Int) + (1 * (zk_xe w 2000071 a1) + 0) = 0 := he _ (List.mem_cons_of_mem _ List.mem_cons_self)
  have g0 : 0 ≤ (0 : Int) + (1 * a0 + 0) := hg _ List.mem_cons_self
  have r0 : 0 ≤ a1 := hr _ List.mem_cons_self
  have e1z : a1 = 0 := by omega
  rcases zs_71c (w := w) (j := a1) with ⟨-, hx⟩ | ⟨hx, -⟩
  ·
    exact ⟨_, List.mem_cons_self, [], rfl, zx_bnil, zx_cs0, (zx_eF1 (by show 0 ≤ (0 : Int) + (1 * a0 + 0); omega) (by show zk_xe w 2000073 ((0 : Int) + (1 * a0 + 0)) = (0 : Int) + (0); rw [show (0 : Int) + (1 * a0 + 0) = a0 by omega]; exact (zs_73.trans (zs_T1 hx)).trans (by omega)) zx_eF0), zx_k0⟩
  · omega
def zx_D732 : zx_L := zx_Lc [] 10 [(2000070, 0), (242, 8), (2000071, 9)] [] [((0, 0), [(0, 1, 0), (1, 0, 1), (2, 0, 4294967296), (3, 0, 18446744073709551616), (4, 0, 79228162514264337593543950336), (5, 0, 340282366920938463463374607431768211456), (6, 0, 1461501637330902918203684832716283019655932542976)]), ((0, 158456325028528675187087900672), [(1, 0, 1), (2, 0, 4294967296), (3, 0, 18446744073709551616), (5, 0, 340282366920938463463374607431768211456), (6, 0, 1461501637330902918203684832716283019655932542976), (7, 1, 0)]), ((0, 1), [(10, 1, 0)]), ((0, 0), [(4, 1, 0)]), ((1, 0), [(3, 0, 1), (8, 1, 0)]), ((0, 0), [(9, 1, 0)])] [((0, 0), [(1, 1, 0)]), ((4294967294, 0), [(1, 0, 1)]), ((0, 0), [(2, 1, 0)]), ((4294967294, 0), [(2, 0, 1)]), ((0, 0), [(3, 1, 0)]), ((4294967294, 0), [(3, 0, 1)]), ((0, 0), [(4, 1, 0)]), ((4294967294, 0), [(4, 0, 1)]), ((0, 0), [(5, 1, 0)]), ((4294967294, 0), [(5, 0, 1)]), ((0, 0), [(6, 1, 0)]), ((4294967294, 0), [(6, 0, 1)]), ((0, 1), [(3, 1, 0)]), ((7, 0), [(11, 0, 1), (12, 8589934592, 0)])] [([], [], [(2000070, ((0, 0), [(7, 1, 0)]), ((1, 0), []))], [])]
theorem zx_D732_ok {PT : Nat → zz_W → Prop} : zx_Lok 64 zHT PT zx_D732 := by
  refine zx_Lc_ok (fun w hI hK ins hl hr he hg => ?_)
  obtain ⟨a0, a1, a2, a3, a4, a5, a6, a7, a8, a9, rfl⟩ := zx_i10 hl
  have e0 : (0 : Int) + (1 * a0 + ((-1) * a1 + ((-4294967296) * a2 + ((-18446744073709551616) * a3 + ((-79228162514264337593543950336) * a4 + ((-340282366920938463463374607431768211456) * a5 + ((-1461501637330902918203684832716283019655932542976) * a6 + 0))))))) = 0 := he _ List.mem_cons_self
  have e1 : ((-158456325028528675187087900672) : Int) + ((-1) * a1 + ((-4294967296) * a2 + ((-18446744073709551616) * a3 + ((-340282366920938463463374607431768211456) * a5 + ((-1461501637330902918203684832716283019655932542976) * a6 + (1 * a7 + 0)))))) = 0 := he _ (List.mem_cons_of_mem _ List.mem_cons_self)
  have e2 : ((-1) : Int) + (1 * (zk_xe w 2000070 a0) + 0) = 0 := he _ (List.mem_cons_of_mem _ (List.mem_cons_of_mem _ List.mem_cons_self))
  have e3 : (0 : Int) + (1 * a4 + 0) = 0 := he _ (List.mem_cons_of_mem _ (List.mem_cons_of_mem _ (List.mem_cons_of_mem _ List.mem_cons_self)))
  have e4 : (1 : Int) + ((-1) * a3 + (1 * a8 + 0)) = 0 := he _ (List.mem_cons_of_mem _ (List.mem_cons_of_mem _ (List.mem_cons_of_mem _ (List.mem_cons_of_mem _ List.mem_cons_self))))
  have e5 : (0 : Int) + (1 * a9 + 0) = 0 := he _ (List.mem_cons_of_mem _ (List.mem_cons_of_mem _ (List.mem_cons_of_mem _ (List.mem_cons_of_mem _ (List.mem_cons_of_mem _ List.mem_cons_self)))))
  have g0 : 0 ≤ (0 : Int) + (1 * a1 + 0) := hg _ List.mem_cons_self
  have g1 : 0 ≤ (4294967294 : Int) + ((-1) * a1 + 0) := hg _ (List.mem_cons_of_mem _ List.mem_cons_self)
  have g2 : 0 ≤ (0 : Int) + (1 * a2 + 0) := hg _ (List.mem_cons_of_mem _ (List.mem_cons_of_mem _ List.mem_cons_self))
  have g3 : 0 ≤ (4294967294 : Int) + ((-1) * a2 + 0) := hg _ (List.mem_cons_of_mem _ (List.mem_cons_of_mem _ (List.mem_cons_of_mem _ List.mem_cons_self)))
  have g4 : 0 ≤ (0 : Int) + (1 * a3 + 0) := hg _ (List.mem_cons_of_mem _ (List.mem_cons_of_mem _ (List.mem_cons_of_mem _ (List.mem_cons_of_mem _ List.mem_cons_self))))
  have g5 : 0 ≤ (4294967294 : Int) + ((-1) * a3 + 0) := hg _ (List.mem_cons_of_mem _ (List.mem_cons_of_mem _ (List.mem_cons_of_mem _ (List.mem_cons_of_mem _ (List.mem_cons_of_mem _ List.mem_cons_self)))))
  have g6 : 0 ≤ (0 : Int) + (1 * a4 + 0) := hg _ (List.mem_cons_of_mem _ (List.mem_cons_of_mem _ (List.mem_cons_of_mem _ (List.mem_cons_of_mem _ (List.mem_cons_of_mem _ (List.mem_cons_of_mem _ List.mem_cons_self))))))
  have g7 : 0 ≤ (4294967294 : Int) + ((-1) * a4 + 0) := hg _ (List.mem_cons_of_mem _ (List.mem_cons_of_mem _ (List.mem_cons_of_mem _ (List.mem_cons_of_mem _ (List.mem_cons_of_mem _ (List.mem_cons_of_mem _ (List.mem_cons_of_mem _ List.mem_cons_self)))))))
  have g8 : 0 ≤ (0 : Int) + (1 * a5 + 0) := hg _ (List.mem_cons_of_mem _ (List.mem_cons_of_mem _ (List.mem_cons_of_mem _ (List.mem_cons_of_mem _ (List.mem_cons_of_mem _ (List.mem_cons_of_mem _ (List.mem_cons_of_mem _ (List.mem_cons_of_mem _ List.mem_cons_self))))))))
  have g9 : 0 ≤ (4294967294 : Int) + ((-1) * a5 + 0) := hg _ (List.mem_cons_of_mem _ (List.mem_cons_of_mem _ (List.mem_cons_of_mem _ (List.mem_cons_of_mem _ (List.mem_cons_of_mem _ (List.mem_cons_of_mem _ (List.mem_cons_of_mem _ (List.mem_cons_of_mem _ (List.mem_cons_of_mem _ List.mem_cons_self)))))))))
  have g10 : 0 ≤ (0 : Int) + (1 * a6 + 0) := hg _ (List.mem_cons_of_mem _ (List.mem_cons_of_mem _ (List.mem_cons_of_mem _ (List.mem_cons_of_mem _ (List.mem_cons_of_mem _ (List.mem_cons_of_mem _ (List.mem_cons_of_mem _ (List.mem_cons_of_mem _ (List.mem_cons_of_mem _ (List.mem_cons_of_mem _ List.mem_cons_self))))))))))
  have g11 : 0 ≤ (4294967294 : Int) + ((-1) * a6 + 0) := hg _ (List.mem_cons_of_mem _ (List.mem_cons_of_mem _ (List.mem_cons_of_mem _ (List.mem_cons_of_mem _ (List.mem_cons_of_mem _ (List.mem_cons_of_mem _ (List.mem_cons_of_mem _ (List.mem_cons_of_mem _ (List.mem_cons_of_mem _ (List.mem_cons_of_mem _ (List.mem_cons_of_mem _ List.mem_cons_self)))))))))))
  have g12 : 0 ≤ ((-1) : Int) + (1 * a3 + 0) := hg _ (List.mem_cons_of_mem _ (List.mem_cons_of_mem _ (List.mem_cons_of_mem _ (List.mem_cons_of_mem _ (List.mem_cons_of_mem _ (List.mem_cons_of_mem _ (List.mem_cons_of_mem _ (List.mem_cons_of_mem _ (List.mem_cons_of_mem _ (List.mem_cons_of_mem _ (List.mem_cons_of_mem _ (List.mem_cons_of_mem _ List.mem_cons_self))))))))))))
  have g13 : 0 ≤ (7 : Int) + ((-1) * (zk_xe w 242 a8) + (8589934592 * (zk_xe w 2000071 a9) + 0)) := hg _ (List.mem_cons_of_mem _ (List.mem_cons_of_mem _ (List.mem_cons_of_mem _ (List.mem_cons_of_mem _ (List.mem_cons_of_mem _ (List.mem_cons_of_mem _ (List.mem_cons_of_mem _ (List.mem_cons_of_mem _ (List.mem_cons_of_mem _ (List.mem_cons_of_mem _ (List.mem_cons_of_mem _ (List.mem_cons_of_mem _ (List.mem_cons_of_mem _ List.mem_cons_self)))))))))))))
  have r0 : 0 ≤ a0 := hr _ List.mem_cons_self
  have r1 : 0 ≤ a8 := hr _ (List.mem_cons_of_mem _ List.mem_cons_self)
  have r2 : 0 ≤ a9 := hr _ (List.mem_cons_of_mem _ (List.mem_cons_of_mem _ List.mem_cons_self))
  have hp := (zs_70 (w := w) (j := a0) (n := a1) (u := a2) (c := a3) (z := a4) (m := a5) (l := a6) (by omega) (by omega) (by omega) (by omega) (by omega) (by omega) (by omega) (by omega) (by omega) (by omega) (by omega) (by omega) (by omega) ).mp (by omega)
  have e9z : a9 = 0 := by omega
  have hc : zh_e w 242 (a3 - 1) = zk_xe w 242 a8 := by rw [zk_xe_r (i := 242) (by decide)]; show zk_el w 242 (a3 - 1) = zk_el w 242 a8; rw [show a3 - 1 = a8 by omega]
  have hx := zs_71c (w := w) (j := a9)
  have h : zs_ps w a1 a2 a3 2 a5 a6 := by
    rcases hp with h | ⟨h1, h2, h3, h4⟩
    · exact Or.inl h
    · rcases hx with ⟨-, hx⟩ | ⟨hx, -⟩
      · exact Or.inl hx
      · refine Or.inr ⟨h1, fun i i1 i2 i3 => ?_, h3, h4⟩
        obtain ⟨q1, q2, q3⟩ := h2 i i1 i2 (by omega)
        refine ⟨q1, q2, fun _ => ?_⟩
        by_cases c : i = a3 - 1
        · rw [c, hc]
          omega
        · exact q3 (by omega)
  exact ⟨_, List.mem_cons_self, [], rfl, zx_bnil, zx_cs0, (zx_eF1 (by show 0 ≤ (0 : Int) + (1 * a7 + 0); omega) (by show zk_xe w 2000070 ((0 : Int) + (1 * a7 + 0)) = (1 : Int) + (0); rw [show (0 : Int) + (1 * a7 + 0) = a7 by omega]; exact ((zs_70 (w := w) (j := a7) (n := a1) (u := a2) (c := a3) (z := 2) (m := a5) (l := a6) (by omega) (by omega) (by omega) (by omega) (by omega) (by omega) (by omega) (by omega) (by omega) (by omega) (by omega) (by omega) (by omega) ).mpr (h)).trans (by omega)) zx_eF0), zx_k0⟩
def zx_D708 : zx_L := zx_Lc [] 10 [(2000070, 0), (250, 8), (253, 9), (2000071, 8)] [] [((0, 0), [(0, 1, 0), (1, 0, 1), (2, 0, 4294967296), (3, 0, 18446744073709551616), (4, 0, 79228162514264337593543950336), (5, 0, 340282366920938463463374607431768211456), (6, 0, 1461501637330902918203684832716283019655932542976)]), ((0, 340282366920938463463374607431768211456), [(1, 0, 1), (2, 0, 4294967296), (3, 0, 18446744073709551616), (4, 0, 79228162514264337593543950336), (5, 0, 340282366920938463463374607431768211456), (6, 0, 1461501637330902918203684832716283019655932542976), (7, 1, 0)]), ((0, 1), [(10, 1, 0)]), ((0, 0), [(8, 1, 0)]), ((0, 0), [(5, 0, 1), (9, 1, 0)])] [((0, 0), [(1, 1, 0)]), ((4294967294, 0), [(1, 0, 1)]), ((0, 0), [(2, 1, 0)]), ((4294967294, 0), [(2, 0, 1)]), ((0, 0), [(3, 1, 0)]), ((4294967294, 0), [(3, 0, 1)]), ((0, 0), [(4, 1, 0)]), ((4294967294, 0), [(4, 0, 1)]), ((0, 0), [(5, 1, 0)]), ((4294967294, 0), [(5, 0, 1)]), ((0, 0), [(6, 1, 0)]), ((4294967294, 0), [(6, 0, 1)]), ((0, 0), [(11, 0, 1), (12, 1, 0), (13, 8589934592, 0)]), ((0, 0), [(12, 1, 0), (13, 8589934592, 0)]), ((7, 0), [(12, 0, 1), (13, 8589934592, 0)])] [([], [], [(2000070, ((0, 0), [(7, 1, 0)]), ((1, 0), []))], [])]
theorem zx_D708_ok {PT : Nat → zz_W → Prop} : zx_Lok 64 zHT PT zx_D708 := by
  refine zx_Lc_ok (fun w hI hK ins hl hr he hg => ?_)
  obtain ⟨a0, a1, a2, a3, a4, a5, a6, a7, a8, a9, rfl⟩ := zx_i10 hl
  have e0 : (0 : Int) + (1 * a0 + ((-1) * a1 + ((-4294967296) * a2 + ((-18446744073709551616) * a3 + ((-79228162514264337593543950336) * a4 + ((-340282366920938463463374607431768211456) * a5 + ((-1461501637330902918203684832716283019655932542976) * a6 + 0))))))) = 0 := he _ List.mem_cons_self
  have e1 : ((-340282366920938463463374607431768211456) : Int) + ((-1) * a1 + ((-4294967296) * a2 + ((-18446744073709551616) * a3 + ((-79228162514264337593543950336) * a4 + ((-340282366920938463463374607431768211456) * a5 + ((-1461501637330902918203684832716283019655932542976) * a6 + (1 * a7 + 0))))))) = 0 := he _ (List.mem_cons_of_mem _ List.mem_cons_self)
  have e2 : ((-1) : Int) + (1 * (zk_xe w 2000070 a0) + 0) = 0 := he _ (List.mem_cons_of_mem _ (List.mem_cons_of_mem _ List.mem_cons_self))
  have e3 : (0 : Int) + (1 * a8 + 0) = 0 := he _ (List.mem_cons_of_mem _ (List.mem_cons_of_mem _ (List.mem_cons_of_mem _ List.mem_cons_self)))
  have e4 : (0 : Int) + ((-1) * a5 + (1 * a9 + 0)) = 0 := he _ (List.mem_cons_of_mem _ (List.mem_cons_of_mem _ (List.mem_cons_of_mem _ (List.mem_cons_of_mem _ List.mem_cons_self))))
  have g0 : 0 ≤ (0 : Int) + (1 * a1 + 0) := hg _ List.mem_cons_self
  have g1 : 0 ≤ (4294967294 : Int) + ((-1) * a1 + 0) := hg _ (List.mem_cons_of_mem _ List.mem_cons_self)
  have g2 : 0 ≤ (0 : Int) + (1 * a2 + 0) := hg _ (List.mem_cons_of_mem _ (List.mem_cons_of_mem _ List.mem_cons_self))
  have g3 : 0 ≤ (4294967294 : Int) + ((-1) * a2 + 0) := hg _ (List.mem_cons_of_mem _ (List.mem_cons_of_mem _ (List.mem_cons_of_mem _ List.mem_cons_self)))
  have g4 : 0 ≤ (0 : Int) + (1 * a3 + 0) := hg _ (List.mem_cons_of_mem _ (List.mem_cons_of_mem _ (List.mem_cons_of_mem _ (List.mem_cons_of_mem _ List.mem_cons_self))))
  have g5 : 0 ≤ (4294967294 : Int) + ((-1) * a3 + 0) := hg _ (List.mem_cons_of_mem _ (List.mem_cons_of_mem _ (List.mem_cons_of_mem _ (List.mem_cons_of_mem _ (List.mem_cons_of_mem _ List.mem_cons_self)))))
  have g6 : 0 ≤ (0 : Int) + (1 * a4 + 0) := hg _ (List.mem_cons_of_mem _ (List.mem_cons_of_mem _ (List.mem_cons_of_mem _ (List.mem_cons_of_mem _ (List.mem_cons_of_mem _ (List.mem_cons_of_mem _ List.mem_cons_self))))))
  have g7 : 0 ≤ (4294967294 : Int) + ((-1) * a4 + 0) := hg _ (List.mem_cons_of_mem _ (List.mem_cons_of_mem _ (List.mem_cons_of_mem _ (List.mem_cons_of_mem _ (List.mem_cons_of_mem _ (List.mem_cons_of_mem _ (List.mem_cons_of_mem _ List.mem_cons_self)))))))
  have g8 : 0 ≤ (0 : Int) + (1 * a5 + 0) := hg _ (List.mem_cons_of_mem _ (List.mem_cons_of_mem _ (List.mem_cons_of_mem _ (List.mem_cons_of_mem _ (List.mem_cons_of_mem _ (List.mem_cons_of_mem _ (List.mem_cons_of_mem _ (List.mem_cons_of_mem _ List.mem_cons_self))))))))
  have g9 : 0 ≤ (4294967294 : Int) + ((-1) * a5 + 0) := hg _ (List.mem_cons_of_mem _ (List.mem_cons_of_mem _ (List.mem_cons_of_mem _ (List.mem_cons_of_mem _ (List.mem_cons_of_mem _ (List.mem_cons_of_mem _ (List.mem_cons_of_mem _ (List.mem_cons_of_mem _ (List.mem_cons_of_mem _ List.mem_cons_self)))))))))
  have g10 : 0 ≤ (0 : Int) + (1 * a6 + 0) := hg _ (List.mem_cons_of_mem _ (List.mem_cons_of_mem _ (List.mem_cons_of_mem _ (List.mem_cons_of_mem _ (List.mem_cons_of_mem _ (List.mem_cons_of_mem _ (List.mem_cons_of_mem _ (List.mem_cons_of_mem _ (List.mem_cons_of_mem _ (List.mem_cons_of_mem _ List.mem_cons_self))))))))))
  have g11 : 0 ≤ (4294967294 : Int) + ((-1) * a6 + 0) := hg _ (List.mem_cons_of_mem _ (List.mem_cons_of_mem _ (List.mem_cons_of_mem _ (List.mem_cons_of_mem _ (List.mem_cons_of_mem _ (List.mem_cons_of_mem _ (List.mem_cons_of_mem _ (List.mem_cons_of_mem _ (List.mem_cons_of_mem _ (List.mem_cons_of_mem _ (List.mem_cons_of_mem _ List.mem_cons_self)))))))))))
  have g12 : 0 ≤ (0 : Int) + ((-1) * (zk_xe w 250 a8) + (1 * (zk_xe w 253 a9) + (8589934592 * (zk_xe w 2000071 a8) + 0))) := hg _ (List.mem_cons_of_mem _ (List.mem_cons_of_mem _ (List.mem_cons_of_mem _ (List.mem_cons_of_mem _ (List.mem_cons_of_mem _ (List.mem_cons_of_mem _ (List.mem_cons_of_mem _ (List.mem_cons_of_mem _ (List.mem_cons_of_mem _ (List.mem_cons_of_mem _ (List.mem_cons_of_mem _ (List.mem_cons_of_mem _ List.mem_cons_self))))))))))))
  have g13 : 0 ≤ (0 : Int) + (1 * (zk_xe w 253 a9) + (8589934592 * (zk_xe w 2000071 a8) + 0)) := hg _ (List.mem_cons_of_mem _ (List.mem_cons_of_mem _ (List.mem_cons_of_mem _ (List.mem_cons_of_mem _ (List.mem_cons_of_mem _ (List.mem_cons_of_mem _ (List.mem_cons_of_mem _ (List.mem_cons_of_mem _ (List.mem_cons_of_mem _ (List.mem_cons_of_mem _ (List.mem_cons_of_mem _ (List.mem_cons_of_mem _ (List.mem_cons_of_mem _ List.mem_cons_self)))))))))))))
  have g14 : 0 ≤ (7 : Int) + ((-1) * (zk_xe w 253 a9) + (8589934592 * (zk_xe w 2000071 a8) + 0)) := hg _ (List.mem_cons_of_mem _ (List.mem_cons_of_mem _ (List.mem_cons_of_mem _ (List.mem_cons_of_mem _ (List.mem_cons_of_mem _ (List.mem_cons_of_mem _ (List.mem_cons_of_mem _ (List.mem_cons_of_mem _ (List.mem_cons_of_mem _ (List.mem_cons_of_mem _ (List.mem_cons_of_mem _ (List.mem_cons_of_mem _ (List.mem_cons_of_mem _ (List.mem_cons_of_mem _ List.mem_cons_self))))))))))))))
  have r0 : 0 ≤ a0 := hr _ List.mem_cons_self
  have r1 : 0 ≤ a8 := hr _ (List.mem_cons_of_mem _ List.mem_cons_self)
  have r2 : 0 ≤ a9 := hr _ (List.mem_cons_of_mem _ (List.mem_cons_of_mem _ List.mem_cons_self))
  have r3 : 0 ≤ a8 := hr _ (List.mem_cons_of_mem _ (List.mem_cons_of_mem _ (List.mem_cons_of_mem _ List.mem_cons_self)))
  have hp := (zs_70 (w := w) (j := a0) (n := a1) (u := a2) (c := a3) (z := a4) (m := a5) (l := a6) (by omega) (by omega) (by omega) (by omega) (by omega) (by omega) (by omega) (by omega) (by omega) (by omega) (by omega) (by omega) (by omega) ).mp (by omega)
  have e8z : a8 = 0 := by omega
  have h0 : zh_e w 250 0 = zk_xe w 250 a8 := by rw [zk_xe_r (i := 250) (by decide), show a8 = 0 by omega]; rfl
  have k0 : zh_e w 253 (a5) = zk_xe w 253 a9 := by rw [zk_xe_r (i := 253) (by decide)]; show zk_el w 253 (a5) = zk_el w 253 a9; rw [show a5 = a9 by omega]
  have hx := zs_71c (w := w) (j := a8)
  have h : zs_ps w a1 a2 a3 a4 (a5 + 1) a6 := by
    rcases hp with h | ⟨h1, h2, h3, h4⟩
    · exact Or.inl h
    · rcases hx with ⟨-, hx⟩ | ⟨hx, -⟩
      · exact Or.inl hx
      · refine Or.inr ⟨h1, h2, fun i i1 i2 => ?_, h4⟩
        by_cases c : i = a5
        · rw [c, h0, k0]
          exact ⟨by omega, by omega, by omega⟩
        · exact h3 i i1 (by omega)
  exact ⟨_, List.mem_cons_self, [], rfl, zx_bnil, zx_cs0, (zx_eF1 (by show 0 ≤ (0 : Int) + (1 * a7 + 0); omega) (by show zk_xe w 2000070 ((0 : Int) + (1 * a7 + 0)) = (1 : Int) + (0); rw [show (0 : Int) + (1 * a7 + 0) = a7 by omega]; exact ((zs_70 (w := w) (j := a7) (n := a1) (u := a2) (c := a3) (z := a4) (m := (a5 + 1)) (l := a6) (by omega) (by omega) (by omega) (by omega) (by omega) (by omega) (by omega) (by omega) (by omega) (by omega) (by omega) (by omega) (by omega) ).mpr (h)).trans (by omega)) zx_eF0), zx_k0⟩
def zx_D709 : zx_L := zx_Lc [] 10 [(2000070, 0), (227, 8), (226, 8), (2000071, 9)] [] [((0, 0), [(0, 1, 0), (1, 0, 1), (2, 0, 4294967296), (3, 0, 18446744073709551616), (4, 0, 79228162514264337593543950336), (5, 0, 340282366920938463463374607431768211456), (6, 0, 1461501637330902918203684832716283019655932542976)]), ((0, 1461501637330902918203684832716283019655932542976), [(1, 0, 1), (2, 0, 4294967296), (3, 0, 18446744073709551616), (4, 0, 79228162514264337593543950336), (5, 0, 340282366920938463463374607431768211456), (6, 0, 1461501637330902918203684832716283019655932542976), (7, 1, 0)]), ((0, 1), [(10, 1, 0)]), ((0, 0), [(9, 1, 0)]), ((0, 0), [(6, 0, 1), (8, 1, 0)])] [((0, 0), [(1, 1, 0)]), ((4294967294, 0), [(1, 0, 1)]), ((0, 0), [(2, 1, 0)]), ((4294967294, 0), [(2, 0, 1)]), ((0, 0), [(3, 1, 0)]), ((4294967294, 0), [(3, 0, 1)]), ((0, 0), [(4, 1, 0)]), ((4294967294, 0), [(4, 0, 1)]), ((0, 0), [(5, 1, 0)]), ((4294967294, 0), [(5, 0, 1)]), ((0, 0), [(6, 1, 0)]), ((4294967294, 0), [(6, 0, 1)]), ((0, 0), [(11, 1, 0), (13, 8589934592, 0)]), ((1616, 0), [(11, 0, 1), (13, 8589934592, 0)]), ((1620, 0), [(11, 0, 1), (12, 0, 4), (13, 8589934592, 0)])] [([], [], [(2000070, ((0, 0), [(7, 1, 0)]), ((1, 0), []))], [])]
theorem zx_D709_ok {PT : Nat → zz_W → Prop} : zx_Lok 64 zHT PT zx_D709 := by
  refine zx_Lc_ok (fun w hI hK ins hl hr he hg => ?_)
  obtain ⟨a0, a1, a2, a3, a4, a5, a6, a7, a8, a9, rfl⟩ := zx_i10 hl
  have e0 : (0 : Int) + (1 * a0 + ((-1) * a1 + ((-4294967296) * a2 + ((-18446744073709551616) * a3 + ((-79228162514264337593543950336) * a4 + ((-340282366920938463463374607431768211456) * a5 + ((-1461501637330902918203684832716283019655932542976) * a6 + 0))))))) = 0 := he _ List.mem_cons_self
  have e1 : ((-1461501637330902918203684832716283019655932542976) : Int) + ((-1) * a1 + ((-4294967296) * a2 + ((-18446744073709551616) * a3 + ((-79228162514264337593543950336) * a4 + ((-340282366920938463463374607431768211456) * a5 + ((-1461501637330902918203684832716283019655932542976) * a6 + (1 * a7 + 0))))))) = 0 := he _ (List.mem_cons_of_mem _ List.mem_cons_self)
  have e2 : ((-1) : Int) + (1 * (zk_xe w 2000070 a0) + 0) = 0 := he _ (List.mem_cons_of_mem _ (List.mem_cons_of_mem _ List.mem_cons_self))
  have e3 : (0 : Int) + (1 * a9 + 0) = 0 := he _ (List.mem_cons_of_mem _ (List.mem_cons_of_mem _ (List.mem_cons_of_mem _ List.mem_cons_self)))
  have e4 : (0 : Int) + ((-1) * a6 + (1 * a8 + 0)) = 0 := he _ (List.mem_cons_of_mem _ (List.mem_cons_of_mem _ (List.mem_cons_of_mem _ (List.mem_cons_of_mem _ List.mem_cons_self))))
  have g0 : 0 ≤ (0 : Int) + (1 * a1 + 0) := hg _ List.mem_cons_self
  have g1 : 0 ≤ (4294967294 : Int) + ((-1) * a1 + 0) := hg _ (List.mem_cons_of_mem _ List.mem_cons_self)
  have g2 : 0 ≤ (0 : Int) + (1 * a2 + 0) := hg _ (List.mem_cons_of_mem _ (List.mem_cons_of_mem _ List.mem_cons_self))
  have g3 : 0 ≤ (4294967294 : Int) + ((-1) * a2 + 0) := hg _ (List.mem_cons_of_mem _ (List.mem_cons_of_mem _ (List.mem_cons_of_mem _ List.mem_cons_self)))
  have g4 : 0 ≤ (0 : Int) + (1 * a3 + 0) := hg _ (List.mem_cons_of_mem _ (List.mem_cons_of_mem _ (List.mem_cons_of_mem _ (List.mem_cons_of_mem _ List.mem_cons_self))))
  have g5 : 0 ≤ (4294967294 : Int) + ((-1) * a3 + 0) := hg _ (List.mem_cons_of_mem _ (List.mem_cons_of_mem _ (List.mem_cons_of_mem _ (List.mem_cons_of_mem _ (List.mem_cons_of_mem _ List.mem_cons_self)))))
  have g6 : 0 ≤ (0 : Int) + (1 * a4 + 0) := hg _ (List.mem_cons_of_mem _ (List.mem_cons_of_mem _ (List.mem_cons_of_mem _ (List.mem_cons_of_mem _ (List.mem_cons_of_mem _ (List.mem_cons_of_mem _ List.mem_cons_self))))))
  have g7 : 0 ≤ (4294967294 : Int) + ((-1) * a4 + 0) := hg _ (List.mem_cons_of_mem _ (List.mem_cons_of_mem _ (List.mem_cons_of_mem _ (List.mem_cons_of_mem _ (List.mem_cons_of_mem _ (List.mem_cons_of_mem _ (List.mem_cons_of_mem _ List.mem_cons_self)))))))
  have g8 : 0 ≤ (0 : Int) + (1 * a5 + 0) := hg _ (List.mem_cons_of_mem _ (List.mem_cons_of_mem _ (List.mem_cons_of_mem _ (List.mem_cons_of_mem _ (List.mem_cons_of_mem _ (List.mem_cons_of_mem _ (List.mem_cons_of_mem _ (List.mem_cons_of_mem _ List.mem_cons_self))))))))
  have g9 : 0 ≤ (4294967294 : Int) + ((-1) * a5 + 0) := hg _ (List.mem_cons_of_mem _ (List.mem_cons_of_mem _ (List.mem_cons_of_mem _ (List.mem_cons_of_mem _ (List.mem_cons_of_mem _ (List.mem_cons_of_mem _ (List.mem_cons_of_mem _ (List.mem_cons_of_mem _ (List.mem_cons_of_mem _ List.mem_cons_self)))))))))
  have g10 : 0 ≤ (0 : Int) + (1 * a6 + 0) := hg _ (List.mem_cons_of_mem _ (List.mem_cons_of_mem _ (List.mem_cons_of_mem _ (List.mem_cons_of_mem _ (List.mem_cons_of_mem _ (List.mem_cons_of_mem _ (List.mem_cons_of_mem _ (List.mem_cons_of_mem _ (List.mem_cons_of_mem _ (List.mem_cons_of_mem _ List.mem_cons_self))))))))))
  have g11 : 0 ≤ (4294967294 : Int) + ((-1) * a6 + 0) := hg _ (List.mem_cons_of_mem _ (List.mem_cons_of_mem _ (List.mem_cons_of_mem _ (List.mem_cons_of_mem _ (List.mem_cons_of_mem _ (List.mem_cons_of_mem _ (List.mem_cons_of_mem _ (List.mem_cons_of_mem _ (List.mem_cons_of_mem _ (List.mem_cons_of_mem _ (List.mem_cons_of_mem _ List.mem_cons_self)))))))))))
  have g12 : 0 ≤ (0 : Int) + (1 * (zk_xe w 227 a8) + (8589934592 * (zk_xe w 2000071 a9) + 0)) := hg _ (List.mem_cons_of_mem _ (List.mem_cons_of_mem _ (List.mem_cons_of_mem _ (List.mem_cons_of_mem _ (List.mem_cons_of_mem _ (List.mem_cons_of_mem _ (List.mem_cons_of_mem _ (List.mem_cons_of_mem _ (List.mem_cons_of_mem _ (List.mem_cons_of_mem _ (List.mem_cons_of_mem _ (List.mem_cons_of_mem _ List.mem_cons_self))))))))))))
  have g13 : 0 ≤ (1616 : Int) + ((-1) * (zk_xe w 227 a8) + (8589934592 * (zk_xe w 2000071 a9) + 0)) := hg _ (List.mem_cons_of_mem _ (List.mem_cons_of_mem _ (List.mem_cons_of_mem _ (List.mem_cons_of_mem _ (List.mem_cons_of_mem _ (List.mem_cons_of_mem _ (List.mem_cons_of_mem _ (List.mem_cons_of_mem _ (List.mem_cons_of_mem _ (List.mem_cons_of_mem _ (List.mem_cons_of_mem _ (List.mem_cons_of_mem _ (List.mem_cons_of_mem _ List.mem_cons_self)))))))))))))
  have g14 : 0 ≤ (1620 : Int) + ((-1) * (zk_xe w 227 a8) + ((-4) * (zk_xe w 226 a8) + (8589934592 * (zk_xe w 2000071 a9) + 0))) := hg _ (List.mem_cons_of_mem _ (List.mem_cons_of_mem _ (List.mem_cons_of_mem _ (List.mem_cons_of_mem _ (List.mem_cons_of_mem _ (List.mem_cons_of_mem _ (List.mem_cons_of_mem _ (List.mem_cons_of_mem _ (List.mem_cons_of_mem _ (List.mem_cons_of_mem _ (List.mem_cons_of_mem _ (List.mem_cons_of_mem _ (List.mem_cons_of_mem _ (List.mem_cons_of_mem _ List.mem_cons_self))))))))))))))
  have r0 : 0 ≤ a0 := hr _ List.mem_cons_self
  have r1 : 0 ≤ a8 := hr _ (List.mem_cons_of_mem _ List.mem_cons_self)
  have r2 : 0 ≤ a8 := hr _ (List.mem_cons_of_mem _ (List.mem_cons_of_mem _ List.mem_cons_self))
  have r3 : 0 ≤ a9 := hr _ (List.mem_cons_of_mem _ (List.mem_cons_of_mem _ (List.mem_cons_of_mem _ List.mem_cons_self)))
  have hp := (zs_70 (w := w) (j := a0) (n := a1) (u := a2) (c := a3) (z := a4) (m := a5) (l := a6) (by omega) (by omega) (by omega) (by omega) (by omega) (by omega) (by omega) (by omega) (by omega) (by omega) (by omega) (by omega) (by omega) ).mp (by omega)
  have e9z : a9 = 0 := by omega
  have k0 : zh_e w 227 (a6) = zk_xe w 227 a8 := by rw [zk_xe_r (i := 227) (by decide)]; show zk_el w 227 (a6) = zk_el w 227 a8; rw [show a6 = a8 by omega]
  have k1 : zh_e w 226 (a6) = zk_xe w 226 a8 := by rw [zk_xe_r (i := 226) (by decide)]; show zk_el w 226 (a6) = zk_el w 226 a8; rw [show a6 = a8 by omega]
  have hx := zs_71c (w := w) (j := a9)
  have h : zs_ps w a1 a2 a3 a4 a5 (a6 + 1) := by
    rcases hp with h | ⟨h1, h2, h3, h4⟩
    · exact Or.inl h
    · rcases hx with ⟨-, hx⟩ | ⟨hx, -⟩
      · exact Or.inl hx
      · refine Or.inr ⟨h1, h2, h3, fun i i1 i2 => ?_⟩
        by_cases c : i = a6
        · rw [c, k0, k1]
          exact ⟨by omega, by omega, by omega⟩
        · exact h4 i i1 (by omega)
  exact ⟨_, List.mem_cons_self, [], rfl, zx_bnil, zx_cs0, (zx_eF1 (by show 0 ≤ (0 : Int) + (1 * a7 + 0); omega) (by show zk_xe w 2000070 ((0 : Int) + (1 * a7 + 0)) = (1 : Int) + (0); rw [show (0 : Int) + (1 * a7 + 0) = a7 by omega]; exact ((zs_70 (w := w) (j := a7) (n := a1) (u := a2) (c := a3) (z := a4) (m := a5) (l := (a6 + 1)) (by omega) (by omega) (by omega) (by omega) (by omega) (by omega) (by omega) (by omega) (by omega) (by omega) (by omega) (by omega) (by omega) ).mpr (h)).trans (by omega)) zx_eF0), zx_k0⟩
def zx_D710 : zx_L := zx_Lc [] 9 [(2000070, 0), (250, 7), (250, 8), (240, 8), (241, 8), (242, 8), (2000071, 7)] [] [((0, 0), [(0, 1, 0), (1, 0, 1), (2, 0, 4294967296), (3, 0, 18446744073709551616), (4, 0, 79228162514264337593543950336), (5, 0, 340282366920938463463374607431768211456), (6, 0, 1461501637330902918203684832716283019655932542976)]), ((0, 1), [(9, 1, 0)]), ((0, 0), [(7, 1, 0)]), ((1, 0), [(3, 0, 1), (8, 1, 0)]), ((0, 0), [(4, 1, 0)])] [((0, 0), [(1, 1, 0)]), ((4294967294, 0), [(1, 0, 1)]), ((0, 0), [(2, 1, 0)]), ((4294967294, 0), [(2, 0, 1)]), ((0, 0), [(3, 1, 0)]), ((4294967294, 0), [(3, 0, 1)]), ((0, 0), [(4, 1, 0)]), ((4294967294, 0), [(4, 0, 1)]), ((0, 0), [(5, 1, 0)]), ((4294967294, 0), [(5, 0, 1)]), ((0, 0), [(6, 1, 0)]), ((4294967294, 0), [(6, 0, 1)]), ((0, 0), [(8, 1, 0)]), ((0, 1), [(3, 1, 0), (8, 0, 1)])] [([], [((0, 1), [(15, 1, 0)])], [], []), ([], [((0, 0), [(10, 0, 1), (11, 1, 0)]), ((0, 0), [(10, 1, 0)]), ((7, 0), [(11, 0, 1)]), ((0, 0), [(10, 0, 1), (12, 1, 0)]), ((0, 0), [(12, 0, 1), (13, 1, 0)]), ((0, 0), [(13, 0, 1), (14, 1, 0)]), ((10, 0), [(14, 0, 1)]), ((10, 0), [(12, 0, 1)]), ((10, 0), [(13, 0, 1)])], [], [])]
theorem zx_D710_ok {PT : Nat → zz_W → Prop} : zx_Lok 64 zHT PT zx_D710 := by
  refine zx_Lc_ok (fun w hI hK ins hl hr he hg => ?_)
  obtain ⟨a0, a1, a2, a3, a4, a5, a6, a7, a8, rfl⟩ := zx_i9 hl
  have e0 : (0 : Int) + (1 * a0 + ((-1) * a1 + ((-4294967296) * a2 + ((-18446744073709551616) * a3 + ((-79228162514264337593543950336) * a4 + ((-340282366920938463463374607431768211456) * a5 + ((-1461501637330902918203684832716283019655932542976) * a6 + 0))))))) = 0 := he _ List.mem_cons_self
  have e1 : ((-1) : Int) + (1 * (zk_xe w 2000070 a0) + 0) = 0 := he _ (List.mem_cons_of_mem _ List.mem_cons_self)
  have e2 : (0 : Int) + (1 * a7 + 0) = 0 := he _ (List.mem_cons_of_mem _ (List.mem_cons_of_mem _ List.mem_cons_self))
  have e3 : (1 : Int) + ((-1) * a3 + (1 * a8 + 0)) = 0 := he _ (List.mem_cons_of_mem _ (List.mem_cons_of_mem _ (List.mem_cons_of_mem _ List.mem_cons_self)))
  have e4 : (0 : Int) + (1 * a4 + 0) = 0 := he _ (List.mem_cons_of_mem _ (List.mem_cons_of_mem _ (List.mem_cons_of_mem _ (List.mem_cons_of_mem _ List.mem_cons_self))))
  have g0 : 0 ≤ (0 : Int) + (1 * a1 + 0) := hg _ List.mem_cons_self
  have g1 : 0 ≤ (4294967294 : Int) + ((-1) * a1 + 0) := hg _ (List.mem_cons_of_mem _ List.mem_cons_self)
  have g2 : 0 ≤ (0 : Int) + (1 * a2 + 0) := hg _ (List.mem_cons_of_mem _ (List.mem_cons_of_mem _ List.mem_cons_self))
  have g3 : 0 ≤ (4294967294 : Int) + ((-1) * a2 + 0) := hg _ (List.mem_cons_of_mem _ (List.mem_cons_of_mem _ (List.mem_cons_of_mem _ List.mem_cons_self)))
  have g4 : 0 ≤ (0 : Int) + (1 * a3 + 0) := hg _ (List.mem_cons_of_mem _ (List.mem_cons_of_mem _ (List.mem_cons_of_mem _ (List.mem_cons_of_mem _ List.mem_cons_self))))
  have g5 : 0 ≤ (4294967294 : Int) + ((-1) * a3 + 0) := hg _ (List.mem_cons_of_mem _ (List.mem_cons_of_mem _ (List.mem_cons_of_mem _ (List.mem_cons_of_mem _ (List.mem_cons_of_mem _ List.mem_cons_self)))))
  have g6 : 0 ≤ (0 : Int) + (1 * a4 + 0) := hg _ (List.mem_cons_of_mem _ (List.mem_cons_of_mem _ (List.mem_cons_of_mem _ (List.mem_cons_of_mem _ (List.mem_cons_of_mem _ (List.mem_cons_of_mem _ List.mem_cons_self))))))
  have g7 : 0 ≤ (4294967294 : Int) + ((-1) * a4 + 0) := hg _ (List.mem_cons_of_mem _ (List.mem_cons_of_mem _ (List.mem_cons_of_mem _ (List.mem_cons_of_mem _ (List.mem_cons_of_mem _ (List.mem_cons_of_mem _ (List.mem_cons_of_mem _ List.mem_cons_self)))))))
  have g8 : 0 ≤ (0 : Int) + (1 * a5 + 0) := hg _ (List.mem_cons_of_mem _ (List.mem_cons_of_mem _ (List.mem_cons_of_mem _ (List.mem_cons_of_mem _ (List.mem_cons_of_mem _ (List.mem_cons_of_mem _ (List.mem_cons_of_mem _ (List.mem_cons_of_mem _ List.mem_cons_self))))))))
  have g9 : 0 ≤ (4294967294 : Int) + ((-1) * a5 + 0) := hg _ (List.mem_cons_of_mem _ (List.mem_cons_of_mem _ (List.mem_cons_of_mem _ (List.mem_cons_of_mem _ (List.mem_cons_of_mem _ (List.mem_cons_of_mem _ (List.mem_cons_of_mem _ (List.mem_cons_of_mem _ (List.mem_cons_of_mem _ List.mem_cons_self)))))))))
  have g10 : 0 ≤ (0 : Int) + (1 * a6 + 0) := hg _ (List.mem_cons_of_mem _ (List.mem_cons_of_mem _ (List.mem_cons_of_mem _ (List.mem_cons_of_mem _ (List.mem_cons_of_mem _ (List.mem_cons_of_mem _ (List.mem_cons_of_mem _ (List.mem_cons_of_mem _ (List.mem_cons_of_mem _ (List.mem_cons_of_mem _ List.mem_cons_self))))))))))
  have g11 : 0 ≤ (4294967294 : Int) + ((-1) * a6 + 0) := hg _ (List.mem_cons_of_mem _ (List.mem_cons_of_mem _ (List.mem_cons_of_mem _ (List.mem_cons_of_mem _ (List.mem_cons_of_mem _ (List.mem_cons_of_mem _ (List.mem_cons_of_mem _ (List.mem_cons_of_mem _ (List.mem_cons_of_mem _ (List.mem_cons_of_mem _ (List.mem_cons_of_mem _ List.mem_cons_self)))))))))))
  have g12 : 0 ≤ (0 : Int) + (1 * a8 + 0) := hg _ (List.mem_cons_of_mem _ (List.mem_cons_of_mem _ (List.mem_cons_of_mem _ (List.mem_cons_of_mem _ (List.mem_cons_of_mem _ (List.mem_cons_of_mem _ (List.mem_cons_of_mem _ (List.mem_cons_of_mem _ (List.mem_cons_of_mem _ (List.mem_cons_of_mem _ (List.mem_cons_of_mem _ (List.mem_cons_of_mem _ List.mem_cons_self))))))))))))
  have g13 : 0 ≤ ((-1) : Int) + (1 * a3 + ((-1) * a8 + 0)) := hg _ (List.mem_cons_of_mem _ (List.mem_cons_of_mem _ (List.mem_cons_of_mem _ (List.mem_cons_of_mem _ (List.mem_cons_of_mem _ (List.mem_cons_of_mem _ (List.mem_cons_of_mem _ (List.mem_cons_of_mem _ (List.mem_cons_of_mem _ (List.mem_cons_of_mem _ (List.mem_cons_of_mem _ (List.mem_cons_of_mem _ (List.mem_cons_of_mem _ List.mem_cons_self)))))))))))))
  have r0 : 0 ≤ a0 := hr _ List.mem_cons_self
  have r1 : 0 ≤ a7 := hr _ (List.mem_cons_of_mem _ List.mem_cons_self)
  have r2 : 0 ≤ a8 := hr _ (List.mem_cons_of_mem _ (List.mem_cons_of_mem _ List.mem_cons_self))
  have r3 : 0 ≤ a8 := hr _ (List.mem_cons_of_mem _ (List.mem_cons_of_mem _ (List.mem_cons_of_mem _ List.mem_cons_self)))
  have r4 : 0 ≤ a8 := hr _ (List.mem_cons_of_mem _ (List.mem_cons_of_mem _ (List.mem_cons_of_mem _ (List.mem_cons_of_mem _ List.mem_cons_self))))
  have r5 : 0 ≤ a8 := hr _ (List.mem_cons_of_mem _ (List.mem_cons_of_mem _ (List.mem_cons_of_mem _ (List.mem_cons_of_mem _ (List.mem_cons_of_mem _ List.mem_cons_self)))))
  have r6 : 0 ≤ a7 := hr _ (List.mem_cons_of_mem _ (List.mem_cons_of_mem _ (List.mem_cons_of_mem _ (List.mem_cons_of_mem _ (List.mem_cons_of_mem _ (List.mem_cons_of_mem _ List.mem_cons_self))))))
  have hp := (zs_70 (w := w) (j := a0) (n := a1) (u := a2) (c := a3) (z := a4) (m := a5) (l := a6) (by omega) (by omega) (by omega) (by omega) (by omega) (by omega) (by omega) (by omega) (by omega) (by omega) (by omega) (by omega) (by omega) ).mp (by omega)
  have e7z : a7 = 0 := by omega
  have h0 : zh_e w 250 0 = zk_xe w 250 a7 := by rw [zk_xe_r (i := 250) (by decide), show a7 = 0 by omega]; rfl
  have k0 : zh_e w 250 (a8) = zk_xe w 250 a8 := by rw [zk_xe_r (i := 250) (by decide)]; show zk_el w 250 (a8) = zk_el w 250 a8; rw [show a8 = a8 by omega]
  have k1 : zh_e w 240 (a8) = zk_xe w 240 a8 := by rw [zk_xe_r (i := 240) (by decide)]; show zk_el w 240 (a8) = zk_el w 240 a8; rw [show a8 = a8 by omega]
  have k2 : zh_e w 241 (a8) = zk_xe w 241 a8 := by rw [zk_xe_r (i := 241) (by decide)]; show zk_el w 241 (a8) = zk_el w 241 a8; rw [show a8 = a8 by omega]
  have k3 : zh_e w 242 (a8) = zk_xe w 242 a8 := by rw [zk_xe_r (i := 242) (by decide)]; show zk_el w 242 (a8) = zk_el w 242 a8; rw [show a8 = a8 by omega]
  have hx := zs_71c (w := w) (j := a7)
  rcases hx with ⟨hx, -⟩ | ⟨hx, hy⟩
  ·
    exact ⟨_, List.mem_cons_self, [], rfl, zx_bnil, (zx_cs1 (by show 0 ≤ ((-1) : Int) + (1 * (zk_xe w 2000071 a7) + 0); omega) zx_cs0), zx_eF0, zx_k0⟩
  ·
    rcases hp with h | ⟨h1, h2, h3, h4⟩
    · exact absurd h hy
    ·
      have q0 := (h2 0 (by omega) (by omega) (by omega)).1.2.1
      rw [h0] at q0
      obtain ⟨q1, q2, q3⟩ := h2 a8 (by omega) (by omega) (by omega)
      rw [h0, k0] at q1
      rw [h0, k1, k2, k3] at q2
      exact ⟨_, (List.mem_cons_of_mem _ List.mem_cons_self), [], rfl, zx_bnil, (zx_cs1 (by show 0 ≤ (0 : Int) + ((-1) * (zk_xe w 250 a7) + (1 * (zk_xe w 250 a8) + 0)); omega) (zx_cs1 (by show 0 ≤ (0 : Int) + (1 * (zk_xe w 250 a7) + 0); omega) (zx_cs1 (by show 0 ≤ (7 : Int) + ((-1) * (zk_xe w 250 a8) + 0); omega) (zx_cs1 (by show 0 ≤ (0 : Int) + ((-1) * (zk_xe w 250 a7) + (1 * (zk_xe w 240 a8) + 0)); omega) (zx_cs1 (by show 0 ≤ (0 : Int) + ((-1) * (zk_xe w 240 a8) + (1 * (zk_xe w 241 a8) + 0)); omega) (zx_cs1 (by show 0 ≤ (0 : Int) + ((-1) * (zk_xe w 241 a8) + (1 * (zk_xe w 242 a8) + 0)); omega) (zx_cs1 (by show 0 ≤ (10 : Int) + ((-1) * (zk_xe w 242 a8) + 0); omega) (zx_cs1 (by show 0 ≤ (10 : Int) + ((-1) * (zk_xe w 240 a8) + 0); omega) (zx_cs1 (by show 0 ≤ (10 : Int) + ((-1) * (zk_xe w 241 a8) + 0); omega) zx_cs0))))))))), zx_eF0, zx_k0⟩
def zx_D722 : zx_L := zx_Lc [] 9 [(2000070, 0), (250, 7), (250, 8), (240, 8), (241, 8), (242, 8), (2000071, 7)] [] [((0, 0), [(0, 1, 0), (1, 0, 1), (2, 0, 4294967296), (3, 0, 18446744073709551616), (4, 0, 79228162514264337593543950336), (5, 0, 340282366920938463463374607431768211456), (6, 0, 1461501637330902918203684832716283019655932542976)]), ((0, 1), [(9, 1, 0)]), ((0, 0), [(7, 1, 0)]), ((1, 0), [(3, 0, 1), (8, 1, 0)])] [((0, 0), [(1, 1, 0)]), ((4294967294, 0), [(1, 0, 1)]), ((0, 0), [(2, 1, 0)]), ((4294967294, 0), [(2, 0, 1)]), ((0, 0), [(3, 1, 0)]), ((4294967294, 0), [(3, 0, 1)]), ((0, 0), [(4, 1, 0)]), ((4294967294, 0), [(4, 0, 1)]), ((0, 0), [(5, 1, 0)]), ((4294967294, 0), [(5, 0, 1)]), ((0, 0), [(6, 1, 0)]), ((4294967294, 0), [(6, 0, 1)]), ((0, 0), [(8, 1, 0)]), ((0, 1), [(3, 1, 0), (8, 0, 1)]), ((0, 2), [(4, 1, 0)])] [([], [((0, 1), [(15, 1, 0)])], [], []), ([], [((0, 0), [(10, 0, 1), (11, 1, 0)]), ((0, 0), [(10, 1, 0)]), ((7, 0), [(11, 0, 1)]), ((0, 0), [(10, 0, 1), (12, 1, 0)]), ((0, 0), [(12, 0, 1), (13, 1, 0)]), ((0, 0), [(13, 0, 1), (14, 1, 0)]), ((7, 0), [(14, 0, 1)]), ((7, 0), [(12, 0, 1)]), ((7, 0), [(13, 0, 1)])], [], [])]
theorem zx_D722_ok {PT : Nat → zz_W → Prop} : zx_Lok 64 zHT PT zx_D722 := by
  refine zx_Lc_ok (fun w hI hK ins hl hr he hg => ?_)
  obtain ⟨a0, a1, a2, a3, a4, a5, a6, a7, a8, rfl⟩ := zx_i9 hl
  have e0 : (0 : Int) + (1 * a0 + ((-1) * a1 + ((-4294967296) * a2 + ((-18446744073709551616) * a3 + ((-79228162514264337593543950336) * a4 + ((-340282366920938463463374607431768211456) * a5 + ((-1461501637330902918203684832716283019655932542976) * a6 + 0))))))) = 0 := he _ List.mem_cons_self
  have e1 : ((-1) : Int) + (1 * (zk_xe w 2000070 a0) + 0) = 0 := he _ (List.mem_cons_of_mem _ List.mem_cons_self)
  have e2 : (0 : Int) + (1 * a7 + 0) = 0 := he _ (List.mem_cons_of_mem _ (List.mem_cons_of_mem _ List.mem_cons_self))
  have e3 : (1 : Int) + ((-1) * a3 + (1 * a8 + 0)) = 0 := he _ (List.mem_cons_of_mem _ (List.mem_cons_of_mem _ (List.mem_cons_of_mem _ List.mem_cons_self)))
  have g0 : 0 ≤ (0 : Int) + (1 * a1 + 0) := hg _ List.mem_cons_self
  have g1 : 0 ≤ (4294967294 : Int) + ((-1) * a1 + 0) := hg _ (List.mem_cons_of_mem _ List.mem_cons_self)
  have g2 : 0 ≤ (0 : Int) + (1 * a2 + 0) := hg _ (List.mem_cons_of_mem _ (List.mem_cons_of_mem _ List.mem_cons_self))
  have g3 : 0 ≤ (4294967294 : Int) + ((-1) * a2 + 0) := hg _ (List.mem_cons_of_mem _ (List.mem_cons_of_mem _ (List.mem_cons_of_mem _ List.mem_cons_self)))
  have g4 : 0 ≤ (0 : Int) + (1 * a3 + 0) := hg _ (List.mem_cons_of_mem _ (List.mem_cons_of_mem _ (List.mem_cons_of_mem _ (List.mem_cons_of_mem _ List.mem_cons_self))))
  have g5 : 0 ≤ (4294967294 : Int) + ((-1) * a3 + 0) := hg _ (List.mem_cons_of_mem _ (List.mem_cons_of_mem _ (List.mem_cons_of_mem _ (List.mem_cons_of_mem _ (List.mem_cons_of_mem _ List.mem_cons_self)))))
  have g6 : 0 ≤ (0 : Int) + (1 * a4 + 0) := hg _ (List.mem_cons_of_mem _ (List.mem_cons_of_mem _ (List.mem_cons_of_mem _ (List.mem_cons_of_mem _ (List.mem_cons_of_mem _ (List.mem_cons_of_mem _ List.mem_cons_self))))))
  have g7 : 0 ≤ (4294967294 : Int) + ((-1) * a4 + 0) := hg _ (List.mem_cons_of_mem _ (List.mem_cons_of_mem _ (List.mem_cons_of_mem _ (List.mem_cons_of_mem _ (List.mem_cons_of_mem _ (List.mem_cons_of_mem _ (List.mem_cons_of_mem _ List.mem_cons_self)))))))
  have g8 : 0 ≤ (0 : Int) + (1 * a5 + 0) := hg _ (List.mem_cons_of_mem _ (List.mem_cons_of_mem _ (List.mem_cons_of_mem _ (List.mem_cons_of_mem _ (List.mem_cons_of_mem _ (List.mem_cons_of_mem _ (List.mem_cons_of_mem _ (List.mem_cons_of_mem _ List.mem_cons_self))))))))
  have g9 : 0 ≤ (4294967294 : Int) + ((-1) * a5 + 0) := hg _ (List.mem_cons_of_mem _ (List.mem_cons_of_mem _ (List.mem_cons_of_mem _ (List.mem_cons_of_mem _ (List.mem_cons_of_mem _ (List.mem_cons_of_mem _ (List.mem_cons_of_mem _ (List.mem_cons_of_mem _ (List.mem_cons_of_mem _ List.mem_cons_self)))))))))
  have g10 : 0 ≤ (0 : Int) + (1 * a6 + 0) := hg _ (List.mem_cons_of_mem _ (List.mem_cons_of_mem _ (List.mem_cons_of_mem _ (List.mem_cons_of_mem _ (List.mem_cons_of_mem _ (List.mem_cons_of_mem _ (List.mem_cons_of_mem _ (List.mem_cons_of_mem _ (List.mem_cons_of_mem _ (List.mem_cons_of_mem _ List.mem_cons_self))))))))))
  have g11 : 0 ≤ (4294967294 : Int) + ((-1) * a6 + 0) := hg _ (List.mem_cons_of_mem _ (List.mem_cons_of_mem _ (List.mem_cons_of_mem _ (List.mem_cons_of_mem _ (List.mem_cons_of_mem _ (List.mem_cons_of_mem _ (List.mem_cons_of_mem _ (List.mem_cons_of_mem _ (List.mem_cons_of_mem _ (List.mem_cons_of_mem _ (List.mem_cons_of_mem _ List.mem_cons_self)))))))))))
  have g12 : 0 ≤ (0 : Int) + (1 * a8 + 0) := hg _ (List.mem_cons_of_mem _ (List.mem_cons_of_mem _ (List.mem_cons_of_mem _ (List.mem_cons_of_mem _ (List.mem_cons_of_mem _ (List.mem_cons_of_mem _ (List.mem_cons_of_mem _ (List.mem_cons_of_mem _ (List.mem_cons_of_mem _ (List.mem_cons_of_mem _ (List.mem_cons_of_mem _ (List.mem_cons_of_mem _ List.mem_cons_self))))))))))))
  have g13 : 0 ≤ ((-1) : Int) + (1 * a3 + ((-1) * a8 + 0)) := hg _ (List.mem_cons_of_mem _ (List.mem_cons_of_mem _ (List.mem_cons_of_mem _ (List.mem_cons_of_mem _ (List.mem_cons_of_mem _ (List.mem_cons_of_mem _ (List.mem_cons_of_mem _ (List.mem_cons_of_mem _ (List.mem_cons_of_mem _ (List.mem_cons_of_mem _ (List.mem_cons_of_mem _ (List.mem_cons_of_mem _ (List.mem_cons_of_mem _ List.mem_cons_self)))))))))))))
  have g14 : 0 ≤ ((-2) : Int) + (1 * a4 + 0) := hg _ (List.mem_cons_of_mem _ (List.mem_cons_of_mem _ (List.mem_cons_of_mem _ (List.mem_cons_of_mem _ (List.mem_cons_of_mem _ (List.mem_cons_of_mem _ (List.mem_cons_of_mem _ (List.mem_cons_of_mem _ (List.mem_cons_of_mem _ (List.mem_cons_of_mem _ (List.mem_cons_of_mem _ (List.mem_cons_of_mem _ (List.mem_cons_of_mem _ (List.mem_cons_of_mem _ List.mem_cons_self))))))))))))))
  have r0 : 0 ≤ a0 := hr _ List.mem_cons_self
  have r1 : 0 ≤ a7 := hr _ (List.mem_cons_of_mem _ List.mem_cons_self)
  have r2 : 0 ≤ a8 := hr _ (List.mem_cons_of_mem _ (List.mem_cons_of_mem _ List.mem_cons_self))
  have r3 : 0 ≤ a8 := hr _ (List.mem_cons_of_mem _ (List.mem_cons_of_mem _ (List.mem_cons_of_mem _ List.mem_cons_self)))
  have r4 : 0 ≤ a8 := hr _ (List.mem_cons_of_mem _ (List.mem_cons_of_mem _ (List.mem_cons_of_mem _ (List.mem_cons_of_mem _ List.mem_cons_self))))
  have r5 : 0 ≤ a8 := hr _ (List.mem_cons_of_mem _ (List.mem_cons_of_mem _ (List.mem_cons_of_mem _ (List.mem_cons_of_mem _ (List.mem_cons_of_mem _ List.mem_cons_self)))))
  have r6 : 0 ≤ a7 := hr _ (List.mem_cons_of_mem _ (List.mem_cons_of_mem _ (List.mem_cons_of_mem _ (List.mem_cons_of_mem _ (List.mem_cons_of_mem _ (List.mem_cons_of_mem _ List.mem_cons_self))))))
  have hp := (zs_70 (w := w) (j := a0) (n := a1) (u := a2) (c := a3) (z := a4) (m := a5) (l := a6) (by omega) (by omega) (by omega) (by omega) (by omega) (by omega) (by omega) (by omega) (by omega) (by omega) (by omega) (by omega) (by omega) ).mp (by omega)
  have e7z : a7 = 0 := by omega
  have h0 : zh_e w 250 0 = zk_xe w 250 a7 := by rw [zk_xe_r (i := 250) (by decide), show a7 = 0 by omega]; rfl
  have k0 : zh_e w 250 (a8) = zk_xe w 250 a8 := by rw [zk_xe_r (i := 250) (by decide)]; show zk_el w 250 (a8) = zk_el w 250 a8; rw [show a8 = a8 by omega]
  have k1 : zh_e w 240 (a8) = zk_xe w 240 a8 := by rw [zk_xe_r (i := 240) (by decide)]; show zk_el w 240 (a8) = zk_el w 240 a8; rw [show a8 = a8 by omega]
  have k2 : zh_e w 241 (a8) = zk_xe w 241 a8 := by rw [zk_xe_r (i := 241) (by decide)]; show zk_el w 241 (a8) = zk_el w 241 a8; rw [show a8 = a8 by omega]
  have k3 : zh_e w 242 (a8) = zk_xe w 242 a8 := by rw [zk_xe_r (i := 242) (by decide)]; show zk_el w 242 (a8) = zk_el w 242 a8; rw [show a8 = a8 by omega]
  have hx := zs_71c (w := w) (j := a7)
  rcases hx with ⟨hx, -⟩ | ⟨hx, hy⟩
  ·
    exact ⟨_, List.mem_cons_self, [], rfl, zx_bnil, (zx_cs1 (by show 0 ≤ ((-1) : Int) + (1 * (zk_xe w 2000071 a7) + 0); omega) zx_cs0), zx_eF0, zx_k0⟩
  ·
    rcases hp with h | ⟨h1, h2, h3, h4⟩
    · exact absurd h hy
    ·
      have q0 := (h2 0 (by omega) (by omega) (by omega)).1.2.1
      rw [h0] at q0
      obtain ⟨q1, q2, q3⟩ := h2 a8 (by omega) (by omega) (by omega)
      rw [h0, k0] at q1
      rw [h0, k1, k2, k3] at q2
      have q3 := q3 (by omega)
      rw [k3] at q3
      exact ⟨_, (List.mem_cons_of_mem _ List.mem_cons_self), [], rfl, zx_bnil, (zx_cs1 (by show 0 ≤ (0 : Int) + ((-1) * (zk_xe w 250 a7) + (1 * (zk_xe w 250 a8) + 0)); omega) (zx_cs1 (by show 0 ≤ (0 : Int) + (1 * (zk_xe w 250 a7) + 0); omega) (zx_cs1 (by show 0 ≤ (7 : Int) + ((-1) * (zk_xe w 250 a8) + 0); omega) (zx_cs1 (by show 0 ≤ (0 : Int) + ((-1) * (zk_xe w 250 a7) + (1 * (zk_xe w 240 a8) + 0)); omega) (zx_cs1 (by show 0 ≤ (0 : Int) + ((-1) * (zk_xe w 240 a8) + (1 * (zk_xe w 241 a8) + 0)); omega) (zx_cs1 (by show 0 ≤ (0 : Int) + ((-1) * (zk_xe w 241 a8) + (1 * (zk_xe w 242 a8) + 0)); omega) (zx_cs1 (by show 0 ≤ (7 : Int) + ((-1) * (zk_xe w 242 a8) + 0); omega) (zx_cs1 (by show 0 ≤ (7 : Int) + ((-1) * (zk_xe w 240 a8) + 0); omega) (zx_cs1 (by show 0 ≤ (7 : Int) + ((-1) * (zk_xe w 241 a8) + 0); omega) zx_cs0))))))))), zx_eF0, zx_k0⟩
def zx_D711 : zx_L := zx_Lc [] 9 [(2000070, 0), (250, 7), (250, 8), (240, 8), (241, 8), (242, 8), (2000071, 7)] [] [((0, 0), [(0, 1, 0), (1, 0, 1), (2, 0, 4294967296), (3, 0, 18446744073709551616), (4, 0, 79228162514264337593543950336), (5, 0, 340282366920938463463374607431768211456), (6, 0, 1461501637330902918203684832716283019655932542976)]), ((0, 1), [(9, 1, 0)]), ((0, 0), [(7, 1, 0)])] [((0, 0), [(1, 1, 0)]), ((4294967294, 0), [(1, 0, 1)]), ((0, 0), [(2, 1, 0)]), ((4294967294, 0), [(2, 0, 1)]), ((0, 0), [(3, 1, 0)]), ((4294967294, 0), [(3, 0, 1)]), ((0, 0), [(4, 1, 0)]), ((4294967294, 0), [(4, 0, 1)]), ((0, 0), [(5, 1, 0)]), ((4294967294, 0), [(5, 0, 1)]), ((0, 0), [(6, 1, 0)]), ((4294967294, 0), [(6, 0, 1)]), ((0, 0), [(8, 1, 0)]), ((0, 1), [(3, 1, 0), (8, 0, 1)]), ((0, 2), [(3, 1, 0), (8, 0, 1)])] [([], [((0, 1), [(15, 1, 0)])], [], []), ([], [((0, 0), [(10, 0, 1), (11, 1, 0)]), ((0, 0), [(10, 1, 0)]), ((7, 0), [(11, 0, 1)]), ((0, 0), [(10, 0, 1), (12, 1, 0)]), ((0, 0), [(12, 0, 1), (13, 1, 0)]), ((0, 0), [(13, 0, 1), (14, 1, 0)]), ((7, 0), [(14, 0, 1)]), ((7, 0), [(12, 0, 1)]), ((7, 0), [(13, 0, 1)])], [], [])]
theorem zx_D711_ok {PT : Nat → zz_W → Prop} : zx_Lok 64 zHT PT zx_D711 := by
  refine zx_Lc_ok (fun w hI hK ins hl hr he hg => ?_)
  obtain ⟨a0, a1, a2, a3, a4, a5, a6, a7, a8, rfl⟩ := zx_i9 hl
  have e0 : (0 : Int) + (1 * a0 + ((-1) * a1 + ((-4294967296) * a2 + ((-18446744073709551616) * a3 + ((-79228162514264337593543950336) * a4 + ((-340282366920938463463374607431768211456) * a5 + ((-1461501637330902918203684832716283019655932542976) * a6 + 0))))))) = 0 := he _ List.mem_cons_self
  have e1 : ((-1) : Int) + (1 * (zk_xe w 2000070 a0) + 0) = 0 := he _ (List.mem_cons_of_mem _ List.mem_cons_self)
  have e2 : (0 : Int) + (1 * a7 + 0) = 0 := he _ (List.mem_cons_of_mem _ (List.mem_cons_of_mem _ List.mem_cons_self))
  have g0 : 0 ≤ (0 : Int) + (1 * a1 + 0) := hg _ List.mem_cons_self
  have g1 : 0 ≤ (4294967294 : Int) + ((-1) * a1 + 0) := hg _ (List.mem_cons_of_mem _ List.mem_cons_self)
  have g2 : 0 ≤ (0 : Int) + (1 * a2 + 0) := hg _ (List.mem_cons_of_mem _ (List.mem_cons_of_mem _ List.mem_cons_self))
  have g3 : 0 ≤ (4294967294 : Int) + ((-1) * a2 + 0) := hg _ (List.mem_cons_of_mem _ (List.mem_cons_of_mem _ (List.mem_cons_of_mem _ List.mem_cons_self)))
  have g4 : 0 ≤ (0 : Int) + (1 * a3 + 0) := hg _ (List.mem_cons_of_mem _ (List.mem_cons_of_mem _ (List.mem_cons_of_mem _ (List.mem_cons_of_mem _ List.mem_cons_self))))
  have g5 : 0 ≤ (4294967294 : Int) + ((-1) * a3 + 0) := hg _ (List.mem_cons_of_mem _ (List.mem_cons_of_mem _ (List.mem_cons_of_mem _ (List.mem_cons_of_mem _ (List.mem_cons_of_mem _ List.mem_cons_self)))))
  have g6 : 0 ≤ (0 : Int) + (1 * a4 + 0) := hg _ (List.mem_cons_of_mem _ (List.mem_cons_of_mem _ (List.mem_cons_of_mem _ (List.mem_cons_of_mem _ (List.mem_cons_of_mem _ (List.mem_cons_of_mem _ List.mem_cons_self))))))
  have g7 : 0 ≤ (4294967294 : Int) + ((-1) * a4 + 0) := hg _ (List.mem_cons_of_mem _ (List.mem_cons_of_mem _ (List.mem_cons_of_mem _ (List.mem_cons_of_mem _ (List.mem_cons_of_mem _ (List.mem_cons_of_mem _ (List.mem_cons_of_mem _ List.mem_cons_self)))))))
  have g8 : 0 ≤ (0 : Int) + (1 * a5 + 0) := hg _ (List.mem_cons_of_mem _ (List.mem_cons_of_mem _ (List.mem_cons_of_mem _ (List.mem_cons_of_mem _ (List.mem_cons_of_mem _ (List.mem_cons_of_mem _ (List.mem_cons_of_mem _ (List.mem_cons_of_mem _ List.mem_cons_self))))))))
  have g9 : 0 ≤ (4294967294 : Int) + ((-1) * a5 + 0) := hg _ (List.mem_cons_of_mem _ (List.mem_cons_of_mem _ (List.mem_cons_of_mem _ (List.mem_cons_of_mem _ (List.mem_cons_of_mem _ (List.mem_cons_of_mem _ (List.mem_cons_of_mem _ (List.mem_cons_of_mem _ (List.mem_cons_of_mem _ List.mem_cons_self)))))))))
  have g10 : 0 ≤ (0 : Int) + (1 * a6 + 0) := hg _ (List.mem_cons_of_mem _ (List.mem_cons_of_mem _ (List.mem_cons_of_mem _ (List.mem_cons_of_mem _ (List.mem_cons_of_mem _ (List.mem_cons_of_mem _ (List.mem_cons_of_mem _ (List.mem_cons_of_mem _ (List.mem_cons_of_mem _ (List.mem_cons_of_mem _ List.mem_cons_self))))))))))
  have g11 : 0 ≤ (4294967294 : Int) + ((-1) * a6 + 0) := hg _ (List.mem_cons_of_mem _ (List.mem_cons_of_mem _ (List.mem_cons_of_mem _ (List.mem_cons_of_mem _ (List.mem_cons_of_mem _ (List.mem_cons_of_mem _ (List.mem_cons_of_mem _ (List.mem_cons_of_mem _ (List.mem_cons_of_mem _ (List.mem_cons_of_mem _ (List.mem_cons_of_mem _ List.mem_cons_self)))))))))))
  have g12 : 0 ≤ (0 : Int) + (1 * a8 + 0) := hg _ (List.mem_cons_of_mem _ (List.mem_cons_of_mem _ (List.mem_cons_of_mem _ (List.mem_cons_of_mem _ (List.mem_cons_of_mem _ (List.mem_cons_of_mem _ (List.mem_cons_of_mem _ (List.mem_cons_of_mem _ (List.mem_cons_of_mem _ (List.mem_cons_of_mem _ (List.mem_cons_of_mem _ (List.mem_cons_of_mem _ List.mem_cons_self))))))))))))
  have g13 : 0 ≤ ((-1) : Int) + (1 * a3 + ((-1) * a8 + 0)) := hg _ (List.mem_cons_of_mem _ (List.mem_cons_of_mem _ (List.mem_cons_of_mem _ (List.mem_cons_of_mem _ (List.mem_cons_of_mem _ (List.mem_cons_of_mem _ (List.mem_cons_of_mem _ (List.mem_cons_of_mem _ (List.mem_cons_of_mem _ (List.mem_cons_of_mem _ (List.mem_cons_of_mem _ (List.mem_cons_of_mem _ (List.mem_cons_of_mem _ List.mem_cons_self)))))))))))))
  have g14 : 0 ≤ ((-2) : Int) + (1 * a3 + ((-1) * a8 + 0)) := hg _ (List.mem_cons_of_mem _ (List.mem_cons_of_mem _ (List.mem_cons_of_mem _ (List.mem_cons_of_mem _ (List.mem_cons_of_mem _ (List.mem_cons_of_mem _ (List.mem_cons_of_mem _ (List.mem_cons_of_mem _ (List.mem_cons_of_mem _ (List.mem_cons_of_mem _ (List.mem_cons_of_mem _ (List.mem_cons_of_mem _ (List.mem_cons_of_mem _ (List.mem_cons_of_mem _ List.mem_cons_self))))))))))))))
  have r0 : 0 ≤ a0 := hr _ List.mem_cons_self
  have r1 : 0 ≤ a7 := hr _ (List.mem_cons_of_mem _ List.mem_cons_self)
  have r2 : 0 ≤ a8 := hr _ (List.mem_cons_of_mem _ (List.mem_cons_of_mem _ List.mem_cons_self))
  have r3 : 0 ≤ a8 := hr _ (List.mem_cons_of_mem _ (List.mem_cons_of_mem _ (List.mem_cons_of_mem _ List.mem_cons_self)))
  have r4 : 0 ≤ a8 := hr _ (List.mem_cons_of_mem _ (List.mem_cons_of_mem _ (List.mem_cons_of_mem _ (List.mem_cons_of_mem _ List.mem_cons_self))))
  have r5 : 0 ≤ a8 := hr _ (List.mem_cons_of_mem _ (List.mem_cons_of_mem _ (List.mem_cons_of_mem _ (List.mem_cons_of_mem _ (List.mem_cons_of_mem _ List.mem_cons_self)))))
  have r6 : 0 ≤ a7 := hr _ (List.mem_cons_of_mem _ (List.mem_cons_of_mem _ (List.mem_cons_of_mem _ (List.mem_cons_of_mem _ (List.mem_cons_of_mem _ (List.mem_cons_of_mem _ List.mem_cons_self))))))
  have hp := (zs_70 (w := w) (j := a0) (n := a1) (u := a2) (c := a3) (z := a4) (m := a5) (l := a6) (by omega) (by omega) (by omega) (by omega) (by omega) (by omega) (by omega) (by omega) (by omega) (by omega) (by omega) (by omega) (by omega) ).mp (by omega)
  have e7z : a7 = 0 := by omega
  have h0 : zh_e w 250 0 = zk_xe w 250 a7 := by rw [zk_xe_r (i := 250) (by decide), show a7 = 0 by omega]; rfl
  have k0 : zh_e w 250 (a8) = zk_xe w 250 a8 := by rw [zk_xe_r (i := 250) (by decide)]; show zk_el w 250 (a8) = zk_el w 250 a8; rw [show a8 = a8 by omega]
  have k1 : zh_e w 240 (a8) = zk_xe w 240 a8 := by rw [zk_xe_r (i := 240) (by decide)]; show zk_el w 240 (a8) = zk_el w 240 a8; rw [show a8 = a8 by omega]
  have k2 : zh_e w 241 (a8) = zk_xe w 241 a8 := by rw [zk_xe_r (i := 241) (by decide)]; show zk_el w 241 (a8) = zk_el w 241 a8; rw [show a8 = a8 by omega]
  have k3 : zh_e w 242 (a8) = zk_xe w 242 a8 := by rw [zk_xe_r (i := 242) (by decide)]; show zk_el w 242 (a8) = zk_el w 242 a8; rw [show a8 = a8 by omega]
  have hx := zs_71c (w := w) (j := a7)
  rcases hx with ⟨hx, -⟩ | ⟨hx, hy⟩
  ·
    exact ⟨_, List.mem_cons_self, [], rfl, zx_bnil, (zx_cs1 (by show 0 ≤ ((-1) : Int) + (1 * (zk_xe w 2000071 a7) + 0); omega) zx_cs0), zx_eF0, zx_k0⟩
  ·
    rcases hp with h | ⟨h1, h2, h3, h4⟩
    · exact absurd h hy
    ·
      have q0 := (h2 0 (by omega) (by omega) (by omega)).1.2.1
      rw [h0] at q0
      obtain ⟨q1, q2, q3⟩ := h2 a8 (by omega) (by omega) (by omega)
      rw [h0, k0] at q1
      rw [h0, k1, k2, k3] at q2
      have q3 := q3 (by omega)
      rw [k3] at q3
      exact ⟨_, (List.mem_cons_of_mem _ List.mem_cons_self), [], rfl, zx_bnil, (zx_cs1 (by show 0 ≤ (0 : Int) + ((-1) * (zk_xe w 250 a7) + (1 * (zk_xe w 250 a8) + 0)); omega) (zx_cs1 (by show 0 ≤ (0 : Int) + (1 * (zk_xe w 250 a7) + 0); omega) (zx_cs1 (by show 0 ≤ (7 : Int) + ((-1) * (zk_xe w 250 a8) + 0); omega) (zx_cs1 (by show 0 ≤ (0 : Int) + ((-1) * (zk_xe w 250 a7) + (1 * (zk_xe w 240 a8) + 0)); omega) (zx_cs1 (by show 0 ≤ (0 : Int) + ((-1) * (zk_xe w 240 a8) + (1 * (zk_xe w 241 a8) + 0)); omega) (zx_cs1 (by show 0 ≤ (0 : Int) + ((-1) * (zk_xe w 241 a8) + (1 * (zk_xe w 242 a8) + 0)); omega) (zx_cs1 (by show 0 ≤ (7 : Int) + ((-1) * (zk_xe w 242 a8) + 0); omega) (zx_cs1 (by show 0 ≤ (7 : Int) + ((-1) * (zk_xe w 240 a8) + 0); omega) (zx_cs1 (by show 0 ≤ (7 : Int) + ((-1) * (zk_xe w 241 a8) + 0); omega) zx_cs0))))))))), zx_eF0, zx_k0⟩
def zx_D712 : zx_L := zx_Lc [] 9 [(2000070, 0), (250, 7), (253, 8), (2000071, 7)] [] [((0, 0), [(0, 1, 0), (1, 0, 1), (2, 0, 4294967296), (3, 0, 18446744073709551616), (4, 0, 79228162514264337593543950336), (5, 0, 340282366920938463463374607431768211456), (6, 0, 1461501637330902918203684832716283019655932542976)]), ((0, 1), [(9, 1, 0)]), ((0, 0), [(7, 1, 0)])] [((0, 0), [(1, 1, 0)]), ((4294967294, 0), [(1, 0, 1)]), ((0, 0), [(2, 1, 0)]), ((4294967294, 0), [(2, 0, 1)]), ((0, 0), [(3, 1, 0)]), ((4294967294, 0), [(3, 0, 1)]), ((0, 0), [(4, 1, 0)]), ((4294967294, 0), [(4, 0, 1)]), ((0, 0), [(5, 1, 0)]), ((4294967294, 0), [(5, 0, 1)]), ((0, 0), [(6, 1, 0)]), ((4294967294, 0), [(6, 0, 1)]), ((0, 0), [(8, 1, 0)]), ((0, 1), [(5, 1, 0), (8, 0, 1)])] [([], [((0, 1), [(12, 1, 0)])], [], []), ([], [((0, 0), [(10, 0, 1), (11, 1, 0)]), ((0, 0), [(11, 1, 0)]), ((7, 0), [(11, 0, 1)])], [], [])]
theorem zx_D712_ok {PT : Nat → zz_W → Prop} : zx_Lok 64 zHT PT zx_D712 := by
  refine zx_Lc_ok (fun w hI hK ins hl hr he hg => ?_)
  obtain ⟨a0, a1, a2, a3, a4, a5, a6, a7, a8, rfl⟩ := zx_i9 hl
  have e0 : (0 : Int) + (1 * a0 + ((-1) * a1 + ((-4294967296) * a2 + ((-18446744073709551616) * a3 + ((-79228162514264337593543950336) * a4 + ((-340282366920938463463374607431768211456) * a5 + ((-1461501637330902918203684832716283019655932542976) * a6 + 0))))))) = 0 := he _ List.mem_cons_self
  have e1 : ((-1) : Int) + (1 * (zk_xe w 2000070 a0) + 0) = 0 := he _ (List.mem_cons_of_mem _ List.mem_cons_self)
  have e2 : (0 : Int) + (1 * a7 + 0) = 0 := he _ (List.mem_cons_of_mem _ (List.mem_cons_of_mem _ List.mem_cons_self))
  have g0 : 0 ≤ (0 : Int) + (1 * a1 + 0) := hg _ List.mem_cons_self
  have g1 : 0 ≤ (4294967294 : Int) + ((-1) * a1 + 0) := hg _ (List.mem_cons_of_mem _ List.mem_cons_self)
  have g2 : 0 ≤ (0 : Int) + (1 * a2 + 0) := hg _ (List.mem_cons_of_mem _ (List.mem_cons_of_mem _ List.mem_cons_self))
  have g3 : 0 ≤ (4294967294 : Int) + ((-1) * a2 + 0) := hg _ (List.mem_cons_of_mem _ (List.mem_cons_of_mem _ (List.mem_cons_of_mem _ List.mem_cons_self)))
  have g4 : 0 ≤ (0 : Int) + (1 * a3 + 0) := hg _ (List.mem_cons_of_mem _ (List.mem_cons_of_mem _ (List.mem_cons_of_mem _ (List.mem_cons_of_mem _ List.mem_cons_self))))
  have g5 : 0 ≤ (4294967294 : Int) + ((-1) * a3 + 0) := hg _ (List.mem_cons_of_mem _ (List.mem_cons_of_mem _ (List.mem_cons_of_mem _ (List.mem_cons_of_mem _ (List.mem_cons_of_mem _ List.mem_cons_self)))))
  have g6 : 0 ≤ (0 : Int) + (1 * a4 + 0) := hg _ (List.mem_cons_of_mem _ (List.mem_cons_of_mem _ (List.mem_cons_of_mem _ (List.mem_cons_of_mem _ (List.mem_cons_of_mem _ (List.mem_cons_of_mem _ List.mem_cons_self))))))
  have g7 : 0 ≤ (4294967294 : Int) + ((-1) * a4 + 0) := hg _ (List.mem_cons_of_mem _ (List.mem_cons_of_mem _ (List.mem_cons_of_mem _ (List.mem_cons_of_mem _ (List.mem_cons_of_mem _ (List.mem_cons_of_mem _ (List.mem_cons_of_mem _ List.mem_cons_self)))))))
  have g8 : 0 ≤ (0 : Int) + (1 * a5 + 0) := hg _ (List.mem_cons_of_mem _ (List.mem_cons_of_mem _ (List.mem_cons_of_mem _ (List.mem_cons_of_mem _ (List.mem_cons_of_mem _ (List.mem_cons_of_mem _ (List.mem_cons_of_mem _ (List.mem_cons_of_mem _ List.mem_cons_self))))))))
  have g9 : 0 ≤ (4294967294 : Int) + ((-1) * a5 + 0) := hg _ (List.mem_cons_of_mem _ (List.mem_cons_of_mem _ (List.mem_cons_of_mem _ (List.mem_cons_of_mem _ (List.mem_cons_of_mem _ (List.mem_cons_of_mem _ (List.mem_cons_of_mem _ (List.mem_cons_of_mem _ (List.mem_cons_of_mem _ List.mem_cons_self)))))))))
  have g10 : 0 ≤ (0 : Int) + (1 * a6 + 0) := hg _ (List.mem_cons_of_mem _ (List.mem_cons_of_mem _ (List.mem_cons_of_mem _ (List.mem_cons_of_mem _ (List.mem_cons_of_mem _ (List.mem_cons_of_mem _ (List.mem_cons_of_mem _ (List.mem_cons_of_mem _ (List.mem_cons_of_mem _ (List.mem_cons_of_mem _ List.mem_cons_self))))))))))
  have g11 : 0 ≤ (4294967294 : Int) + ((-1) * a6 + 0) := hg _ (List.mem_cons_of_mem _ (List.mem_cons_of_mem _ (List.mem_cons_of_mem _ (List.mem_cons_of_mem _ (List.mem_cons_of_mem _ (List.mem_cons_of_mem _ (List.mem_cons_of_mem _ (List.mem_cons_of_mem _ (List.mem_cons_of_mem _ (List.mem_cons_of_mem _ (List.mem_cons_of_mem _ List.mem_cons_self)))))))))))
  have g12 : 0 ≤ (0 : Int) + (1 * a8 + 0) := hg _ (List.mem_cons_of_mem _ (List.mem_cons_of_mem _ (List.mem_cons_of_mem _ (List.mem_cons_of_mem _ (List.mem_cons_of_mem _ (List.mem_cons_of_mem _ (List.mem_cons_of_mem _ (List.mem_cons_of_mem _ (List.mem_cons_of_mem _ (List.mem_cons_of_mem _ (List.mem_cons_of_mem _ (List.mem_cons_of_mem _ List.mem_cons_self))))))))))))
  have g13 : 0 ≤ ((-1) : Int) + (1 * a5 + ((-1) * a8 + 0)) := hg _ (List.mem_cons_of_mem _ (List.mem_cons_of_mem _ (List.mem_cons_of_mem _ (List.mem_cons_of_mem _ (List.mem_cons_of_mem _ (List.mem_cons_of_mem _ (List.mem_cons_of_mem _ (List.mem_cons_of_mem _ (List.mem_cons_of_mem _ (List.mem_cons_of_mem _ (List.mem_cons_of_mem _ (List.mem_cons_of_mem _ (List.mem_cons_of_mem _ List.mem_cons_self)))))))))))))
  have r0 : 0 ≤ a0 := hr _ List.mem_cons_self
  have r1 : 0 ≤ a7 := hr _ (List.mem_cons_of_mem _ List.mem_cons_self)
  have r2 : 0 ≤ a8 := hr _ (List.mem_cons_of_mem _ (List.mem_cons_of_mem _ List.mem_cons_self))
  have r3 : 0 ≤ a7 := hr _ (List.mem_cons_of_mem _ (List.mem_cons_of_mem _ (List.mem_cons_of_mem _ List.mem_cons_self)))
  have hp := (zs_70 (w := w) (j := a0) (n := a1) (u := a2) (c := a3) (z := a4) (m := a5) (l := a6) (by omega) (by omega) (by omega) (by omega) (by omega) (by omega) (by omega) (by omega) (by omega) (by omega) (by omega) (by omega) (by omega) ).mp (by omega)
  have e7z : a7 = 0 := by omega
  have h0 : zh_e w 250 0 = zk_xe w 250 a7 := by rw [zk_xe_r (i := 250) (by decide), show a7 = 0 by omega]; rfl
  have k0 : zh_e w 253 (a8) = zk_xe w 253 a8 := by rw [zk_xe_r (i := 253) (by decide)]; show zk_el w 253 (a8) = zk_el w 253 a8; rw [show a8 = a8 by omega]
  have hx := zs_71c (w := w) (j := a7)
  rcases hx with ⟨hx, -⟩ | ⟨hx, hy⟩
  ·
    exact ⟨_, List.mem_cons_self, [], rfl, zx_bnil, (zx_cs1 (by show 0 ≤ ((-1) : Int) + (1 * (zk_xe w 2000071 a7) + 0); omega) zx_cs0), zx_eF0, zx_k0⟩
  ·
    rcases hp with h | ⟨h1, h2, h3, h4⟩
    · exact absurd h hy
    ·
      have q := h3 a8 (by omega) (by omega)
      rw [h0, k0] at q
      exact ⟨_, (List.mem_cons_of_mem _ List.mem_cons_self), [], rfl, zx_bnil, (zx_cs1 (by show 0 ≤ (0 : Int) + ((-1) * (zk_xe w 250 a7) + (1 * (zk_xe w 253 a8) + 0)); omega) (zx_cs1 (by show 0 ≤ (0 : Int) + (1 * (zk_xe w 253 a8) + 0); omega) (zx_cs1 (by show 0 ≤ (7 : Int) + ((-1) * (zk_xe w 253 a8) + 0); omega) zx_cs0))), zx_eF0, zx_k0⟩
def zx_D713 : zx_L := zx_Lc [] 9 [(2000070, 0), (227, 8), (226, 8), (2000071, 7)] [] [((0, 0), [(0, 1, 0), (1, 0, 1), (2, 0, 4294967296), (3, 0, 18446744073709551616), (4, 0, 79228162514264337593543950336), (5, 0, 340282366920938463463374607431768211456), (6, 0, 1461501637330902918203684832716283019655932542976)]), ((0, 1), [(9, 1, 0)]), ((0, 0), [(7, 1, 0)])] [((0, 0), [(1, 1, 0)]), ((4294967294, 0), [(1, 0, 1)]), ((0, 0), [(2, 1, 0)]), ((4294967294, 0), [(2, 0, 1)]), ((0, 0), [(3, 1, 0)]), ((4294967294, 0), [(3, 0, 1)]), ((0, 0), [(4, 1, 0)]), ((4294967294, 0), [(4, 0, 1)]), ((0, 0), [(5, 1, 0)]), ((4294967294, 0), [(5, 0, 1)]), ((0, 0), [(6, 1, 0)]), ((4294967294, 0), [(6, 0, 1)]), ((0, 0), [(8, 1, 0)]), ((0, 1), [(6, 1, 0), (8, 0, 1)])] [([], [((0, 1), [(12, 1, 0)])], [], []), ([], [((0, 0), [(10, 1, 0)]), ((1616, 0), [(10, 0, 1)]), ((1620, 0), [(10, 0, 1), (11, 0, 4)])], [], [])]
theorem zx_D713_ok {PT : Nat → zz_W → Prop} : zx_Lok 64 zHT PT zx_D713 := by
  refine zx_Lc_ok (fun w hI hK ins hl hr he hg => ?_)
  obtain ⟨a0, a1, a2, a3, a4, a5, a6, a7, a8, rfl⟩ := zx_i9 hl
  have e0 : (0 : Int) + (1 * a0 + ((-1) * a1 + ((-4294967296) * a2 + ((-18446744073709551616) * a3 + ((-79228162514264337593543950336) * a4 + ((-340282366920938463463374607431768211456) * a5 + ((-1461501637330902918203684832716283019655932542976) * a6 + 0))))))) = 0 := he _ List.mem_cons_self
  have e1 : ((-1) : Int) + (1 * (zk_xe w 2000070 a0) + 0) = 0 := he _ (List.mem_cons_of_mem _ List.mem_cons_self)
  have e2 : (0 : Int) + (1 * a7 + 0) = 0 := he _ (List.mem_cons_of_mem _ (List.mem_cons_of_mem _ List.mem_cons_self))
  have g0 : 0 ≤ (0 : Int) + (1 * a1 + 0) := hg _ List.mem_cons_self
  have g1 : 0 ≤ (4294967294 : Int) + ((-1) * a1 + 0) := hg _ (List.mem_cons_of_mem _ List.mem_cons_self)
  have g2 : 0 ≤ (0 : Int) + (1 * a2 + 0) := hg _ (List.mem_cons_of_mem _ (List.mem_cons_of_mem _ List.mem_cons_self))
  have g3 : 0 ≤ (4294967294 : Int) + ((-1) * a2 + 0) := hg _ (List.mem_cons_of_mem _ (List.mem_cons_of_mem _ (List.mem_cons_of_mem _ List.mem_cons_self)))
  have g4 : 0 ≤ (0 : Int) + (1 * a3 + 0) := hg _ (List.mem_cons_of_mem _ (List.mem_cons_of_mem _ (List.mem_cons_of_mem _ (List.mem_cons_of_mem _ List.mem_cons_self))))
  have g5 : 0 ≤ (4294967294 : Int) + ((-1) * a3 + 0) := hg _ (List.mem_cons_of_mem _ (List.mem_cons_of_mem _ (List.mem_cons_of_mem _ (List.mem_cons_of_mem _ (List.mem_cons_of_mem _ List.mem_cons_self)))))
  have g6 : 0 ≤ (0 : Int) + (1 * a4 + 0) := hg _ (List.mem_cons_of_mem _ (List.mem_cons_of_mem _ (List.mem_cons_of_mem _ (List.mem_cons_of_mem _ (List.mem_cons_of_mem _ (List.mem_cons_of_mem _ List.mem_cons_self))))))
  have g7 : 0 ≤ (4294967294 : Int) + ((-1) * a4 + 0) := hg _ (List.mem_cons_of_mem _ (List.mem_cons_of_mem _ (List.mem_cons_of_mem _ (List.mem_cons_of_mem _ (List.mem_cons_of_mem _ (List.mem_cons_of_mem _ (List.mem_cons_of_mem _ List.mem_cons_self)))))))
  have g8 : 0 ≤ (0 : Int) + (1 * a5 + 0) := hg _ (List.mem_cons_of_mem _ (List.mem_cons_of_mem _ (List.mem_cons_of_mem _ (List.mem_cons_of_mem _ (List.mem_cons_of_mem _ (List.mem_cons_of_mem _ (List.mem_cons_of_mem _ (List.mem_cons_of_mem _ List.mem_cons_self))))))))
  have g9 : 0 ≤ (4294967294 : Int) + ((-1) * a5 + 0) := hg _ (List.mem_cons_of_mem _ (List.mem_cons_of_mem _ (List.mem_cons_of_mem _ (List.mem_cons_of_mem _ (List.mem_cons_of_mem _ (List.mem_cons_of_mem _ (List.mem_cons_of_mem _ (List.mem_cons_of_mem _ (List.mem_cons_of_mem _ List.mem_cons_self)))))))))
  have g10 : 0 ≤ (0 : Int) + (1 * a6 + 0) := hg _ (List.mem_cons_of_mem _ (List.mem_cons_of_mem _ (List.mem_cons_of_mem _ (List.mem_cons_of_mem _ (List.mem_cons_of_mem _ (List.mem_cons_of_mem _ (List.mem_cons_of_mem _ (List.mem_cons_of_mem _ (List.mem_cons_of_mem _ (List.mem_cons_of_mem _ List.mem_cons_self))))))))))
  have g11 : 0 ≤ (4294967294 : Int) + ((-1) * a6 + 0) := hg _ (List.mem_cons_of_mem _ (List.mem_cons_of_mem _ (List.mem_cons_of_mem _ (List.mem_cons_of_mem _ (List.mem_cons_of_mem _ (List.mem_cons_of_mem _ (List.mem_cons_of_mem _ (List.mem_cons_of_mem _ (List.mem_cons_of_mem _ (List.mem_cons_of_mem _ (List.mem_cons_of_mem _ List.mem_cons_self)))))))))))
  have g12 : 0 ≤ (0 : Int) + (1 * a8 + 0) := hg _ (List.mem_cons_of_mem _ (List.mem_cons_of_mem _ (List.mem_cons_of_mem _ (List.mem_cons_of_mem _ (List.mem_cons_of_mem _ (List.mem_cons_of_mem _ (List.mem_cons_of_mem _ (List.mem_cons_of_mem _ (List.mem_cons_of_mem _ (List.mem_cons_of_mem _ (List.mem_cons_of_mem _ (List.mem_cons_of_mem _ List.mem_cons_self))))))))))))
  have g13 : 0 ≤ ((-1) : Int) + (1 * a6 + ((-1) * a8 + 0)) := hg _ (List.mem_cons_of_mem _ (List.mem_cons_of_mem _ (List.mem_cons_of_mem _ (List.mem_cons_of_mem _ (List.mem_cons_of_mem _ (List.mem_cons_of_mem _ (List.mem_cons_of_mem _ (List.mem_cons_of_mem _ (List.mem_cons_of_mem _ (List.mem_cons_of_mem _ (List.mem_cons_of_mem _ (List.mem_cons_of_mem _ (List.mem_cons_of_mem _ List.mem_cons_self)))))))))))))
  have r0 : 0 ≤ a0 := hr _ List.mem_cons_self
  have r1 : 0 ≤ a8 := hr _ (List.mem_cons_of_mem _ List.mem_cons_self)
  have r2 : 0 ≤ a8 := hr _ (List.mem_cons_of_mem _ (List.mem_cons_of_mem _ List.mem_cons_self))
  have r3 : 0 ≤ a7 := hr _ (List.mem_cons_of_mem _ (List.mem_cons_of_mem _ (List.mem_cons_of_mem _ List.mem_cons_self)))
  have hp := (zs_70 (w := w) (j := a0) (n := a1) (u := a2) (c := a3) (z := a4) (m := a5) (l := a6) (by omega) (by omega) (by omega) (by omega) (by omega) (by omega) (by omega) (by omega) (by omega) (by omega) (by omega) (by omega) (by omega) ).mp (by omega)
  have e7z : a7 = 0 := by omega
  have k0 : zh_e w 227 (a8) = zk_xe w 227 a8 := by rw [zk_xe_r (i := 227) (by decide)]; show zk_el w 227 (a8) = zk_el w 227 a8; rw [show a8 = a8 by omega]
  have k1 : zh_e w 226 (a8) = zk_xe w 226 a8 := by rw [zk_xe_r (i := 226) (by decide)]; show zk_el w 226 (a8) = zk_el w 226 a8; rw [show a8 = a8 by omega]
  have hx := zs_71c (w := w) (j := a7)
  rcases hx with ⟨hx, -⟩ | ⟨hx, hy⟩
  ·
    exact ⟨_, List.mem_cons_self, [], rfl, zx_bnil, (zx_cs1 (by show 0 ≤ ((-1) : Int) + (1 * (zk_xe w 2000071 a7) + 0); omega) zx_cs0), zx_eF0, zx_k0⟩
  ·
    rcases hp with h | ⟨h1, h2, h3, h4⟩
    · exact absurd h hy
    ·
      have q := h4 a8 (by omega) (by omega)
      rw [k0, k1] at q
      exact ⟨_, (List.mem_cons_of_mem _ List.mem_cons_self), [], rfl, zx_bnil, (zx_cs1 (by show 0 ≤ (0 : Int) + (1 * (zk_xe w 227 a8) + 0); omega) (zx_cs1 (by show 0 ≤ (1616 : Int) + ((-1) * (zk_xe w 227 a8) + 0); omega) (zx_cs1 (by show 0 ≤ (1620 : Int) + ((-1) * (zk_xe w 227 a8) + ((-4) * (zk_xe w 226 a8) + 0)); omega) zx_cs0))), zx_eF0, zx_k0⟩
def zx_D714 : zx_L := zx_Lc [] 2 [(229, 0), (230, 0)] [] [((0, 18446744073709551617), [(0, 0, 18446744073709551616), (1, 1, 0), (2, 0, 1), (3, 0, 4294967296)])] [((0, 0), [(0, 1, 0)]), ((100000, 0), [(0, 0, 1)]), ((1, 0), [(2, 1, 0)]), ((100000, 0), [(2, 0, 1)]), ((0, 0), [(3, 1, 0)]), ((100000, 0), [(3, 0, 1)])] [([], [], [(2000072, ((0, 0), [(1, 1, 0)]), ((1, 0), []))], [])]
theorem zx_D714_ok {PT : Nat → zz_W → Prop} : zx_Lok 64 zHT PT zx_D714 := by
  refine zx_Lc_ok (fun w hI hK ins hl hr he hg => ?_)
  obtain ⟨a0, a1, rfl⟩ := zx_i2 hl
  have e0 : ((-18446744073709551617) : Int) + ((-18446744073709551616) * a0 + (1 * a1 + ((-1) * (zk_xe w 229 a0) + ((-4294967296) * (zk_xe w 230 a0) + 0)))) = 0 := he _ List.mem_cons_self
  have g0 : 0 ≤ (0 : Int) + (1 * a0 + 0) := hg _ List.mem_cons_self
  have g1 : 0 ≤ (100000 : Int) + ((-1) * a0 + 0) := hg _ (List.mem_cons_of_mem _ List.mem_cons_self)
  have g2 : 0 ≤ (1 : Int) + (1 * (zk_xe w 229 a0) + 0) := hg _ (List.mem_cons_of_mem _ (List.mem_cons_of_mem _ List.mem_cons_self))
  have g3 : 0 ≤ (100000 : Int) + ((-1) * (zk_xe w 229 a0) + 0) := hg _ (List.mem_cons_of_mem _ (List.mem_cons_of_mem _ (List.mem_cons_of_mem _ List.mem_cons_self)))
  have g4 : 0 ≤ (0 : Int) + (1 * (zk_xe w 230 a0) + 0) := hg _ (List.mem_cons_of_mem _ (List.mem_cons_of_mem _ (List.mem_cons_of_mem _ (List.mem_cons_of_mem _ List.mem_cons_self))))
  have g5 : 0 ≤ (100000 : Int) + ((-1) * (zk_xe w 230 a0) + 0) := hg _ (List.mem_cons_of_mem _ (List.mem_cons_of_mem _ (List.mem_cons_of_mem _ (List.mem_cons_of_mem _ (List.mem_cons_of_mem _ List.mem_cons_self)))))
  have r0 : 0 ≤ a0 := hr _ List.mem_cons_self
  have r1 : 0 ≤ a0 := hr _ (List.mem_cons_of_mem _ List.mem_cons_self)
  have k0 : zh_e w 229 (a0) = zk_xe w 229 a0 := by rw [zk_xe_r (i := 229) (by decide)]; show zk_el w 229 (a0) = zk_el w 229 a0; rw [show a0 = a0 by omega]
  have k1 : zh_e w 230 (a0) = zk_xe w 230 a0 := by rw [zk_xe_r (i := 230) (by decide)]; show zk_el w 230 (a0) = zk_el w 230 a0; rw [show a0 = a0 by omega]
  have h : zs_u (zh_e w 229) (zh_e w 230) 0 (a0 + 1) (zk_xe w 229 a0 + 1 - 1) (zk_xe w 230 a0) := ⟨a0, by omega, by omega, by omega, by omega, k1⟩
  exact ⟨_, List.mem_cons_self, [], rfl, zx_bnil, zx_cs0, (zx_eF1 (by show 0 ≤ (0 : Int) + (1 * a1 + 0); omega) (by show zk_xe w 2000072 ((0 : Int) + (1 * a1 + 0)) = (1 : Int) + (0); rw [show (0 : Int) + (1 * a1 + 0) = a1 by omega]; exact ((zs_72 (w := w) (j := a1) (a := (zk_xe w 229 a0 + 1)) (k := (zk_xe w 230 a0)) (n := (a0 + 1)) (by omega) (by omega) (by omega) (by omega) (by omega) (by omega) (by omega) ).mpr h).trans (by omega)) zx_eF0), zx_k0⟩
def zx_D715 : zx_L := zx_Lc [] 6 [(2000072, 0)] [] [((0, 0), [(0, 1, 0), (1, 0, 1), (2, 0, 4294967296), (3, 0, 18446744073709551616)]), ((0, 0), [(1, 0, 1), (2, 0, 4294967296), (4, 1, 0), (5, 0, 18446744073709551616)]), ((0, 1), [(6, 1, 0)])] [((0, 0), [(1, 1, 0)]), ((4294967294, 0), [(1, 0, 1)]), ((0, 0), [(2, 1, 0)]), ((4294967294, 0), [(2, 0, 1)]), ((0, 0), [(3, 1, 0)]), ((4294967294, 0), [(3, 0, 1)]), ((0, 0), [(5, 1, 0)]), ((4294967294, 0), [(5, 0, 1)]), ((0, 0), [(3, 0, 1), (5, 1, 0)])] [([], [], [(2000072, ((0, 0), [(4, 1, 0)]), ((1, 0), []))], [])]
theorem zx_D715_ok {PT : Nat → zz_W → Prop} : zx_Lok 64 zHT PT zx_D715 := by
  refine zx_Lc_ok (fun w hI hK ins hl hr he hg => ?_)
  obtain ⟨a0, a1, a2, a3, a4, a5, rfl⟩ := zx_i6 hl
  have e0 : (0 : Int) + (1 * a0 + ((-1) * a1 + ((-4294967296) * a2 + ((-18446744073709551616) * a3 + 0)))) = 0 := he _ List.mem_cons_self
  have e1 : (0 : Int) + ((-1) * a1 + ((-4294967296) * a2 + (1 * a4 + ((-18446744073709551616) * a5 + 0)))) = 0 := he _ (List.mem_cons_of_mem _ List.mem_cons_self)
  have e2 : ((-1) : Int) + (1 * (zk_xe w 2000072 a0) + 0) = 0 := he _ (List.mem_cons_of_mem _ (List.mem_cons_of_mem _ List.mem_cons_self))
  have g0 : 0 ≤ (0 : Int) + (1 * a1 + 0) := hg _ List.mem_cons_self
  have g1 : 0 ≤ (4294967294 : Int) + ((-1) * a1 + 0) := hg _ (List.mem_cons_of_mem _ List.mem_cons_self)
  have g2 : 0 ≤ (0 : Int) + (1 * a2 + 0) := hg _ (List.mem_cons_of_mem _ (List.mem_cons_of_mem _ List.mem_cons_self))
  have g3 : 0 ≤ (4294967294 : Int) + ((-1) * a2 + 0) := hg _ (List.mem_cons_of_mem _ (List.mem_cons_of_mem _ (List.mem_cons_of_mem _ List.mem_cons_self)))
  have g4 : 0 ≤ (0 : Int) + (1 * a3 + 0) := hg _ (List.mem_cons_of_mem _ (List.mem_cons_of_mem _ (List.mem_cons_of_mem _ (List.mem_cons_of_mem _ List.mem_cons_self))))
  have g5 : 0 ≤ (4294967294 : Int) + ((-1) * a3 + 0) := hg _ (List.mem_cons_of_mem _ (List.mem_cons_of_mem _ (List.mem_cons_of_mem _ (List.mem_cons_of_mem _ (List.mem_cons_of_mem _ List.mem_cons_self)))))
  have g6 : 0 ≤ (0 : Int) + (1 * a5 + 0) := hg _ (List.mem_cons_of_mem _ (List.mem_cons_of_mem _ (List.mem_cons_of_mem _ (List.mem_cons_of_mem _ (List.mem_cons_of_mem _ (List.mem_cons_of_mem _ List.mem_cons_self))))))
  have g7 : 0 ≤ (4294967294 : Int) + ((-1) * a5 + 0) := hg _ (List.mem_cons_of_mem _ (List.mem_cons_of_mem _ (List.mem_cons_of_mem _ (List.mem_cons_of_mem _ (List.mem_cons_of_mem _ (List.mem_cons_of_mem _ (List.mem_cons_of_mem _ List.mem_cons_self)))))))
  have g8 : 0 ≤ (0 : Int) + ((-1) * a3 + (1 * a5 + 0)) := hg _ (List.mem_cons_of_mem _ (List.mem_cons_of_mem _ (List.mem_cons_of_mem _ (List.mem_cons_of_mem _ (List.mem_cons_of_mem _ (List.mem_cons_of_mem _ (List.mem_cons_of_mem _ (List.mem_cons_of_mem _ List.mem_cons_self))))))))
  have r0 : 0 ≤ a0 := hr _ List.mem_cons_self
  have h := (zs_72 (w := w) (j := a0) (a := a1) (k := a2) (n := a3) (by omega) (by omega) (by omega) (by omega) (by omega) (by omega) (by omega) ).mp (by omega)
  exact ⟨_, List.mem_cons_self, [], rfl, zx_bnil, zx_cs0, (zx_eF1 (by show 0 ≤ (0 : Int) + (1 * a4 + 0); omega) (by show zk_xe w 2000072 ((0 : Int) + (1 * a4 + 0)) = (1 : Int) + (0); rw [show (0 : Int) + (1 * a4 + 0) = a4 by omega]; exact ((zs_72 (w := w) (j := a4) (a := a1) (k := a2) (n := a5) (by omega) (by omega) (by omega) (by omega) (by omega) (by omega) (by omega) ).mpr (zs_uc (fun j _ _ => ⟨rfl, rfl⟩) (by omega) h)).trans (by omega)) zx_eF0), zx_k0⟩
def zx_D716 : zx_L := zx_Lc [] 8 [(2000070, 0)] [] [((0, 0), [(0, 1, 0), (1, 0, 1), (2, 0, 4294967296), (3, 0, 18446744073709551616), (4, 0, 79228162514264337593543950336), (5, 0, 340282366920938463463374607431768211456), (6, 0, 1461501637330902918203684832716283019655932542976)]), ((0, 0), [(1, 0, 1), (2, 0, 4294967296), (7, 1, 0)]), ((0, 1), [(8, 1, 0)])] [((0, 0), [(1, 1, 0)]), ((4294967294, 0), [(1, 0, 1)]), ((0, 0), [(2, 1, 0)]), ((4294967294, 0), [(2, 0, 1)]), ((0, 0), [(3, 1, 0)]), ((4294967294, 0), [(3, 0, 1)]), ((0, 0), [(4, 1, 0)]), ((4294967294, 0), [(4, 0, 1)]), ((0, 0), [(5, 1, 0)]), ((4294967294, 0), [(5, 0, 1)]), ((0, 0), [(6, 1, 0)]), ((4294967294, 0), [(6, 0, 1)])] [([], [], [(2000074, ((0, 0), [(7, 1, 0)]), ((1, 0), []))], [])]
theorem zx_D716_ok {PT : Nat → zz_W → Prop} : zx_Lok 64 zHT PT zx_D716 := by
  refine zx_Lc_ok (fun w hI hK ins hl hr he hg => ?_)
  obtain ⟨a0, a1, a2, a3, a4, a5, a6, a7, rfl⟩ := zx_i8 hl
  have e0 : (0 : Int) + (1 * a0 + ((-1) * a1 + ((-4294967296) * a2 + ((-18446744073709551616) * a3 + ((-79228162514264337593543950336) * a4 + ((-340282366920938463463374607431768211456) * a5 + ((-1461501637330902918203684832716283019655932542976) * a6 + 0))))))) = 0 := he _ List.mem_cons_self
  have e1 : (0 : Int) + ((-1) * a1 + ((-4294967296) * a2 + (1 * a7 + 0))) = 0 := he _ (List.mem_cons_of_mem _ List.mem_cons_self)
  have e2 : ((-1) : Int) + (1 * (zk_xe w 2000070 a0) + 0) = 0 := he _ (List.mem_cons_of_mem _ (List.mem_cons_of_mem _ List.mem_cons_self))
  have g0 : 0 ≤ (0 : Int) + (1 * a1 + 0) := hg _ List.mem_cons_self
  have g1 : 0 ≤ (4294967294 : Int) + ((-1) * a1 + 0) := hg _ (List.mem_cons_of_mem _ List.mem_cons_self)
  have g2 : 0 ≤ (0 : Int) + (1 * a2 + 0) := hg _ (List.mem_cons_of_mem _ (List.mem_cons_of_mem _ List.mem_cons_self))
  have g3 : 0 ≤ (4294967294 : Int) + ((-1) * a2 + 0) := hg _ (List.mem_cons_of_mem _ (List.mem_cons_of_mem _ (List.mem_cons_of_mem _ List.mem_cons_self)))
  have g4 : 0 ≤ (0 : Int) + (1 * a3 + 0) := hg _ (List.mem_cons_of_mem _ (List.mem_cons_of_mem _ (List.mem_cons_of_mem _ (List.mem_cons_of_mem _ List.mem_cons_self))))
  have g5 : 0 ≤ (4294967294 : Int) + ((-1) * a3 + 0) := hg _ (List.mem_cons_of_mem _ (List.mem_cons_of_mem _ (List.mem_cons_of_mem _ (List.mem_cons_of_mem _ (List.mem_cons_of_mem _ List.mem_cons_self)))))
  have g6 : 0 ≤ (0 : Int) + (1 * a4 + 0) := hg _ (List.mem_cons_of_mem _ (List.mem_cons_of_mem _ (List.mem_cons_of_mem _ (List.mem_cons_of_mem _ (List.mem_cons_of_mem _ (List.mem_cons_of_mem _ List.mem_cons_self))))))
  have g7 : 0 ≤ (4294967294 : Int) + ((-1) * a4 + 0) := hg _ (List.mem_cons_of_mem _ (List.mem_cons_of_mem _ (List.mem_cons_of_mem _ (List.mem_cons_of_mem _ (List.mem_cons_of_mem _ (List.mem_cons_of_mem _ (List.mem_cons_of_mem _ List.mem_cons_self)))))))
  have g8 : 0 ≤ (0 : Int) + (1 * a5 + 0) := hg _ (List.mem_cons_of_mem _ (List.mem_cons_of_mem _ (List.mem_cons_of_mem _ (List.mem_cons_of_mem _ (List.mem_cons_of_mem _ (List.mem_cons_of_mem _ (List.mem_cons_of_mem _ (List.mem_cons_of_mem _ List.mem_cons_self))))))))
  have g9 : 0 ≤ (4294967294 : Int) + ((-1) * a5 + 0) := hg _ (List.mem_cons_of_mem _ (List.mem_cons_of_mem _ (List.mem_cons_of_mem _ (List.mem_cons_of_mem _ (List.mem_cons_of_mem _ (List.mem_cons_of_mem _ (List.mem_cons_of_mem _ (List.mem_cons_of_mem _ (List.mem_cons_of_mem _ List.mem_cons_self)))))))))
  have g10 : 0 ≤ (0 : Int) + (1 * a6 + 0) := hg _ (List.mem_cons_of_mem _ (List.mem_cons_of_mem _ (List.mem_cons_of_mem _ (List.mem_cons_of_mem _ (List.mem_cons_of_mem _ (List.mem_cons_of_mem _ (List.mem_cons_of_mem _ (List.mem_cons_of_mem _ (List.mem_cons_of_mem _ (List.mem_cons_of_mem _ List.mem_cons_self))))))))))
  have g11 : 0 ≤ (4294967294 : Int) + ((-1) * a6 + 0) := hg _ (List.mem_cons_of_mem _ (List.mem_cons_of_mem _ (List.mem_cons_of_mem _ (List.mem_cons_of_mem _ (List.mem_cons_of_mem _ (List.mem_cons_of_mem _ (List.mem_cons_of_mem _ (List.mem_cons_of_mem _ (List.mem_cons_of_mem _ (List.mem_cons_of_mem _ (List.mem_cons_of_mem _ List.mem_cons_self)))))))))))
  have r0 : 0 ≤ a0 := hr _ List.mem_cons_self
  have hp := (zs_70 (w := w) (j := a0) (n := a1) (u := a2) (c := a3) (z := a4) (m := a5) (l := a6) (by omega) (by omega) (by omega) (by omega) (by omega) (by omega) (by omega) (by omega) (by omega) (by omega) (by omega) (by omega) (by omega) ).mp (by omega)
  have h : zs_x (zh_e w 224) ∨ zs_S w a1 a2 := by
    rcases hp with h | h
    · exact Or.inl h
    · exact Or.inr h.1
  exact ⟨_, List.mem_cons_self, [], rfl, zx_bnil, zx_cs0, (zx_eF1 (by show 0 ≤ (0 : Int) + (1 * a7 + 0); omega) (by show zk_xe w 2000074 ((0 : Int) + (1 * a7 + 0)) = (1 : Int) + (0); rw [show (0 : Int) + (1 * a7 + 0) = a7 by omega]; exact ((zs_74 (w := w) (j := a7) (n := a1) (u := a2) (by omega) (by omega) (by omega) (by omega) (by omega) ).mpr h).trans (by omega)) zx_eF0), zx_k0⟩
def zx_D717 : zx_L := zx_Lc [] 6 [(2000074, 0), (208, 3), (211, 3), (207, 2), (2000071, 4)] [] [((0, 0), [(0, 1, 0), (1, 0, 1), (2, 0, 4294967296)]), ((0, 1), [(6, 1, 0)]), ((0, 0), [(4, 1, 0)])] [((0, 0), [(1, 1, 0)]), ((4294967294, 0), [(1, 0, 1)]), ((0, 0), [(2, 1, 0)]), ((4294967294, 0), [(2, 0, 1)]), ((0, 0), [(2, 0, 8000), (3, 1, 0)]), ((0, 1), [(2, 8000, 0), (3, 0, 1), (9, 1, 0)])] [([], [((0, 1), [(10, 1, 0)])], [], []), ([], [((2, 0), [(7, 0, 1)])], [], []), ([], [((0, 11), [(7, 1, 0)])], [], []), ([], [((0, 0), [(8, 1, 0)]), ((7, 0), [(8, 0, 1)])], [], [])]
theorem zx_D717_ok {PT : Nat → zz_W → Prop} : zx_Lok 64 zHT PT zx_D717 := by
  refine zx_Lc_ok (fun w hI hK ins hl hr he hg => ?_)
  obtain ⟨a0, a1, a2, a3, a4, a5, rfl⟩ := zx_i6 hl
  have e0 : (0 : Int) + (1 * a0 + ((-1) * a1 + ((-4294967296) * a2 + 0))) = 0 := he _ List.mem_cons_self
  have e1 : ((-1) : Int) + (1 * (zk_xe w 2000074 a0) + 0) = 0 := he _ (List.mem_cons_of_mem _ List.mem_cons_self)
  have e2 : (0 : Int) + (1 * a4 + 0) = 0 := he _ (List.mem_cons_of_mem _ (List.mem_cons_of_mem _ List.mem_cons_self))
  have g0 : 0 ≤ (0 : Int) + (1 * a1 + 0) := hg _ List.mem_cons_self
  have g1 : 0 ≤ (4294967294 : Int) + ((-1) * a1 + 0) := hg _ (List.mem_cons_of_mem _ List.mem_cons_self)
  have g2 : 0 ≤ (0 : Int) + (1 * a2 + 0) := hg _ (List.mem_cons_of_mem _ (List.mem_cons_of_mem _ List.mem_cons_self))
  have g3 : 0 ≤ (4294967294 : Int) + ((-1) * a2 + 0) := hg _ (List.mem_cons_of_mem _ (List.mem_cons_of_mem _ (List.mem_cons_of_mem _ List.mem_cons_self)))
  have g4 : 0 ≤ (0 : Int) + ((-8000) * a2 + (1 * a3 + 0)) := hg _ (List.mem_cons_of_mem _ (List.mem_cons_of_mem _ (List.mem_cons_of_mem _ (List.mem_cons_of_mem _ List.mem_cons_self))))
  have g5 : 0 ≤ ((-1) : Int) + (8000 * a2 + ((-1) * a3 + (1 * (zk_xe w 207 a2) + 0))) := hg _ (List.mem_cons_of_mem _ (List.mem_cons_of_mem _ (List.mem_cons_of_mem _ (List.mem_cons_of_mem _ (List.mem_cons_of_mem _ List.mem_cons_self)))))
  have r0 : 0 ≤ a0 := hr _ List.mem_cons_self
  have r1 : 0 ≤ a3 := hr _ (List.mem_cons_of_mem _ List.mem_cons_self)
  have r2 : 0 ≤ a3 := hr _ (List.mem_cons_of_mem _ (List.mem_cons_of_mem _ List.mem_cons_self))
  have r3 : 0 ≤ a2 := hr _ (List.mem_cons_of_mem _ (List.mem_cons_of_mem _ (List.mem_cons_of_mem _ List.mem_cons_self)))
  have r4 : 0 ≤ a4 := hr _ (List.mem_cons_of_mem _ (List.mem_cons_of_mem _ (List.mem_cons_of_mem _ (List.mem_cons_of_mem _ List.mem_cons_self))))
  have hp := (zs_74 (w := w) (j := a0) (n := a1) (u := a2) (by omega) (by omega) (by omega) (by omega) (by omega) ).mp (by omega)
  have e4z : a4 = 0 := by omega
  have k0 : zh_e w 208 (a3) = zk_xe w 208 a3 := by rw [zk_xe_r (i := 208) (by decide)]; show zk_el w 208 (a3) = zk_el w 208 a3; rw [show a3 = a3 by omega]
  have k1 : zh_e w 211 (a3) = zk_xe w 211 a3 := by rw [zk_xe_r (i := 211) (by decide)]; show zk_el w 211 (a3) = zk_el w 211 a3; rw [show a3 = a3 by omega]
  have k2 : zh_e w 207 (a2) = zk_xe w 207 a2 := by rw [zk_xe_r (i := 207) (by decide)]; show zk_el w 207 (a2) = zk_el w 207 a2; rw [show a2 = a2 by omega]
  have hx := zs_71c (w := w) (j := a4)
  rcases hx with ⟨hx, -⟩ | ⟨hx, hy⟩
  ·
    exact ⟨_, List.mem_cons_self, [], rfl, zx_bnil, (zx_cs1 (by show 0 ≤ ((-1) : Int) + (1 * (zk_xe w 2000071 a4) + 0); omega) zx_cs0), zx_eF0, zx_k0⟩
  ·
    rcases hp with h | h
    · exact absurd h hy
    ·
      have q := (h a3 (by omega) (by rw [k2]; omega)).1
      rw [k0, k1] at q
      by_cases c1 : zk_xe w 208 a3 ≤ 2
      ·
        exact ⟨_, (List.mem_cons_of_mem _ List.mem_cons_self), [], rfl, zx_bnil, (zx_cs1 (by show 0 ≤ (2 : Int) + ((-1) * (zk_xe w 208 a3) + 0); omega) zx_cs0), zx_eF0, zx_k0⟩
      · by_cases c2 : 11 ≤ zk_xe w 208 a3
        ·
          exact ⟨_, (List.mem_cons_of_mem _ (List.mem_cons_of_mem _ List.mem_cons_self)), [], rfl, zx_bnil, (zx_cs1 (by show 0 ≤ ((-11) : Int) + (1 * (zk_xe w 208 a3) + 0); omega) zx_cs0), zx_eF0, zx_k0⟩
        ·
          have q := q (by omega) (by omega)
          exact ⟨_, (List.mem_cons_of_mem _ (List.mem_cons_of_mem _ (List.mem_cons_of_mem _ List.mem_cons_self))), [], rfl, zx_bnil, (zx_cs1 (by show 0 ≤ (0 : Int) + (1 * (zk_xe w 211 a3) + 0); omega) (zx_cs1 (by show 0 ≤ (7 : Int) + ((-1) * (zk_xe w 211 a3) + 0); omega) zx_cs0)), zx_eF0, zx_k0⟩
def zx_D725 : zx_L := zx_Lc [] 2 [] [] [((0, 0), [(0, 1, 0), (1, 0, 4294967296)])] [((0, 0), [(1, 1, 0)]), ((4294967294, 0), [(1, 0, 1)])] [([], [], [(2000075, ((0, 0), [(0, 1, 0)]), ((1, 0), []))], [])]
theorem zx_D725_ok {PT : Nat → zz_W → Prop} : zx_Lok 64 zHT PT zx_D725 := by
  refine zx_Lc_ok (fun w hI hK ins hl hr he hg => ?_)
  obtain ⟨a0, a1, rfl⟩ := zx_i2 hl
  have e0 : (0 : Int) + (1 * a0 + ((-4294967296) * a1 + 0)) = 0 := he _ List.mem_cons_self
  have g0 : 0 ≤ (0 : Int) + (1 * a1 + 0) := hg _ List.mem_cons_self
  have g1 : 0 ≤ (4294967294 : Int) + ((-1) * a1 + 0) := hg _ (List.mem_cons_of_mem _ List.mem_cons_self)
  have h : zs_vo (zh_e w 228) (zh_e w 255) 0 a1 0 := ⟨fun i i1 i2 => by omega, fun i i1 i2 => by omega, fun i j i1 i2 i3 => by omega⟩
  exact ⟨_, List.mem_cons_self, [], rfl, zx_bnil, zx_cs0, (zx_eF1 (by show 0 ≤ (0 : Int) + (1 * a0 + 0); omega) (by show zk_xe w 2000075 ((0 : Int) + (1 * a0 + 0)) = (1 : Int) + (0); rw [show (0 : Int) + (1 * a0 + 0) = a0 by omega]; exact ((zs_75 (w := w) (j := a0) (v := 0) (l := a1) (b := 0) (by omega) (by omega) (by omega) (by omega) (by omega) (by omega) (by omega) ).mpr (h)).trans (by omega)) zx_eF0), zx_k0⟩
def zx_D726 : zx_L := zx_Lc [] 5 [(2000075, 0), (228, 4)] [] [((0, 0), [(0, 1, 0), (1, 0, 1), (2, 0, 4294967296), (3, 0, 18446744073709551616)]), ((0, 1), [(5, 1, 0)])] [((0, 0), [(1, 1, 0)]), ((4294967294, 0), [(1, 0, 1)]), ((0, 0), [(2, 1, 0)]), ((4294967294, 0), [(2, 0, 1)]), ((0, 0), [(3, 1, 0)]), ((4294967294, 0), [(3, 0, 1)]), ((0, 0), [(4, 1, 0)]), ((0, 1), [(1, 1, 0), (4, 0, 1)])] [([], [((0, 0), [(6, 1, 0)]), ((0, 1), [(2, 1, 0), (6, 0, 1)])], [], [])]
theorem zx_D726_ok {PT : Nat → zz_W → Prop} : zx_Lok 64 zHT PT zx_D726 := by
  refine zx_Lc_ok (fun w hI hK ins hl hr he hg => ?_)
  obtain ⟨a0, a1, a2, a3, a4, rfl⟩ := zx_i5 hl
  have e0 : (0 : Int) + (1 * a0 + ((-1) * a1 + ((-4294967296) * a2 + ((-18446744073709551616) * a3 + 0)))) = 0 := he _ List.mem_cons_self
  have e1 : ((-1) : Int) + (1 * (zk_xe w 2000075 a0) + 0) = 0 := he _ (List.mem_cons_of_mem _ List.mem_cons_self)
  have g0 : 0 ≤ (0 : Int) + (1 * a1 + 0) := hg _ List.mem_cons_self
  have g1 : 0 ≤ (4294967294 : Int) + ((-1) * a1 + 0) := hg _ (List.mem_cons_of_mem _ List.mem_cons_self)
  have g2 : 0 ≤ (0 : Int) + (1 * a2 + 0) := hg _ (List.mem_cons_of_mem _ (List.mem_cons_of_mem _ List.mem_cons_self))
  have g3 : 0 ≤ (4294967294 : Int) + ((-1) * a2 + 0) := hg _ (List.mem_cons_of_mem _ (List.mem_cons_of_mem _ (List.mem_cons_of_mem _ List.mem_cons_self)))
  have g4 : 0 ≤ (0 : Int) + (1 * a3 + 0) := hg _ (List.mem_cons_of_mem _ (List.mem_cons_of_mem _ (List.mem_cons_of_mem _ (List.mem_cons_of_mem _ List.mem_cons_self))))
  have g5 : 0 ≤ (4294967294 : Int) + ((-1) * a3 + 0) := hg _ (List.mem_cons_of_mem _ (List.mem_cons_of_mem _ (List.mem_cons_of_mem _ (List.mem_cons_of_mem _ (List.mem_cons_of_mem _ List.mem_cons_self)))))
  have g6 : 0 ≤ (0 : Int) + (1 * a4 + 0) := hg _ (List.mem_cons_of_mem _ (List.mem_cons_of_mem _ (List.mem_cons_of_mem _ (List.mem_cons_of_mem _ (List.mem_cons_of_mem _ (List.mem_cons_of_mem _ List.mem_cons_self))))))
  have g7 : 0 ≤ ((-1) : Int) + (1 * a1 + ((-1) * a4 + 0)) := hg _ (List.mem_cons_of_mem _ (List.mem_cons_of_mem _ (List.mem_cons_of_mem _ (List.mem_cons_of_mem _ (List.mem_cons_of_mem _ (List.mem_cons_of_mem _ (List.mem_cons_of_mem _ List.mem_cons_self)))))))
  have r0 : 0 ≤ a0 := hr _ List.mem_cons_self
  have r1 : 0 ≤ a4 := hr _ (List.mem_cons_of_mem _ List.mem_cons_self)
  have hp := (zs_75 (w := w) (j := a0) (v := a1) (l := a2) (b := a3) (by omega) (by omega) (by omega) (by omega) (by omega) (by omega) (by omega) ).mp (by omega)
  have k0 : zh_e w 228 (a4) = zk_xe w 228 a4 := by rw [zk_xe_r (i := 228) (by decide)]; show zk_el w 228 (a4) = zk_el w 228 a4; rw [show a4 = a4 by omega]
  have q := hp.1 a4 (by omega) (by omega)
  rw [k0] at q
  exact ⟨_, List.mem_cons_self, [], rfl, zx_bnil, (zx_cs1 (by show 0 ≤ (0 : Int) + (1 * (zk_xe w 228 a4) + 0); omega) (zx_cs1 (by show 0 ≤ ((-1) : Int) + (1 * a2 + ((-1) * (zk_xe w 228 a4) + 0)); omega) zx_cs0)), zx_eF0, zx_k0⟩
def zx_D727 : zx_L := zx_Lc [] 6 [(2000075, 0), (228, 5)] [] [((0, 0), [(0, 1, 0), (1, 0, 1), (2, 0, 4294967296), (3, 0, 18446744073709551616)]), ((0, 4294967297), [(1, 0, 1), (2, 0, 4294967296), (3, 0, 18446744073709551616), (4, 1, 0)]), ((0, 1), [(6, 1, 0)]), ((0, 0), [(1, 0, 1), (5, 1, 0)]), ((0, 0), [(2, 0, 1), (7, 1, 0)])] [((0, 0), [(1, 1, 0)]), ((4294967294, 0), [(1, 0, 1)]), ((0, 0), [(2, 1, 0)]), ((4294967294, 0), [(2, 0, 1)]), ((0, 0), [(3, 1, 0)]), ((4294967294, 0), [(3, 0, 1)])] [([], [], [(2000075, ((0, 0), [(4, 1, 0)]), ((1, 0), []))], [])]
theorem zx_D727_ok {PT : Nat → zz_W → Prop} : zx_Lok 64 zHT PT zx_D727 := by
  refine zx_Lc_ok (fun w hI hK ins hl hr he hg => ?_)
  obtain ⟨a0, a1, a2, a3, a4, a5, rfl⟩ := zx_i6 hl
  have e0 : (0 : Int) + (1 * a0 + ((-1) * a1 + ((-4294967296) * a2 + ((-18446744073709551616) * a3 + 0)))) = 0 := he _ List.mem_cons_self
  have e1 : ((-4294967297) : Int) + ((-1) * a1 + ((-4294967296) * a2 + ((-18446744073709551616) * a3 + (1 * a4 + 0)))) = 0 := he _ (List.mem_cons_of_mem _ List.mem_cons_self)
  have e2 : ((-1) : Int) + (1 * (zk_xe w 2000075 a0) + 0) = 0 := he _ (List.mem_cons_of_mem _ (List.mem_cons_of_mem _ List.mem_cons_self))
  have e3 : (0 : Int) + ((-1) * a1 + (1 * a5 + 0)) = 0 := he _ (List.mem_cons_of_mem _ (List.mem_cons_of_mem _ (List.mem_cons_of_mem _ List.mem_cons_self)))
  have e4 : (0 : Int) + ((-1) * a2 + (1 * (zk_xe w 228 a5) + 0)) = 0 := he _ (List.mem_cons_of_mem _ (List.mem_cons_of_mem _ (List.mem_cons_of_mem _ (List.mem_cons_of_mem _ List.mem_cons_self))))
  have g0 : 0 ≤ (0 : Int) + (1 * a1 + 0) := hg _ List.mem_cons_self
  have g1 : 0 ≤ (4294967294 : Int) + ((-1) * a1 + 0) := hg _ (List.mem_cons_of_mem _ List.mem_cons_self)
  have g2 : 0 ≤ (0 : Int) + (1 * a2 + 0) := hg _ (List.mem_cons_of_mem _ (List.mem_cons_of_mem _ List.mem_cons_self))
  have g3 : 0 ≤ (4294967294 : Int) + ((-1) * a2 + 0) := hg _ (List.mem_cons_of_mem _ (List.mem_cons_of_mem _ (List.mem_cons_of_mem _ List.mem_cons_self)))
  have g4 : 0 ≤ (0 : Int) + (1 * a3 + 0) := hg _ (List.mem_cons_of_mem _ (List.mem_cons_of_mem _ (List.mem_cons_of_mem _ (List.mem_cons_of_mem _ List.mem_cons_self))))
  have g5 : 0 ≤ (4294967294 : Int) + ((-1) * a3 + 0) := hg _ (List.mem_cons_of_mem _ (List.mem_cons_of_mem _ (List.mem_cons_of_mem _ (List.mem_cons_of_mem _ (List.mem_cons_of_mem _ List.mem_cons_self)))))
  have r0 : 0 ≤ a0 := hr _ List.mem_cons_self
  have r1 : 0 ≤ a5 := hr _ (List.mem_cons_of_mem _ List.mem_cons_self)
  have hp := (zs_75 (w := w) (j := a0) (v := a1) (l := a2) (b := a3) (by omega) (by omega) (by omega) (by omega) (by omega) (by omega) (by omega) ).mp (by omega)
  have k0 : zh_e w 228 (a1) = zk_xe w 228 a5 := by rw [zk_xe_r (i := 228) (by decide)]; show zk_el w 228 (a1) = zk_el w 228 a5; rw [show a1 = a5 by omega]
  have h : zs_vo (zh_e w 228) (zh_e w 255) (a1 + 1) (a2 + 1) a3 := by
    refine ⟨fun i i1 i2 => ?_, fun i i1 i2 => ?_, hp.2.2⟩
    · by_cases c : i = a1
      · rw [c, k0]
        omega
      · have q := hp.1 i i1 (by omega)
        omega
    · have q := hp.2.1 i i1 i2
      omega
  exact ⟨_, List.mem_cons_self, [], rfl, zx_bnil, zx_cs0, (zx_eF1 (by show 0 ≤ (0 : Int) + (1 * a4 + 0); omega) (by show zk_xe w 2000075 ((0 : Int) + (1 * a4 + 0)) = (1 : Int) + (0); rw [show (0 : Int) + (1 * a4 + 0) = a4 by omega]; exact ((zs_75 (w := w) (j := a4) (v := (a1 + 1)) (l := (a2 + 1)) (b := a3) (by omega) (by omega) (by omega) (by omega) (by omega) (by omega) (by omega) ).mpr (h)).trans (by omega)) zx_eF0), zx_k0⟩
def zx_D728 : zx_L := zx_Lc [] 6 [(2000075, 0), (255, 5)] [] [((0, 0), [(0, 1, 0), (1, 0, 1), (2, 0, 4294967296), (3, 0, 18446744073709551616)]), ((0, 18446744073709551616), [(1, 0, 1), (2, 0, 4294967296), (3, 0, 18446744073709551616), (4, 1, 0)]), ((0, 1), [(6, 1, 0)]), ((0, 0), [(3, 0, 1), (5, 1, 0)]), ((0, 0), [(1, 0, 1), (7, 1, 0)])] [((0, 0), [(1, 1, 0)]), ((4294967294, 0), [(1, 0, 1)]), ((0, 0), [(2, 1, 0)]), ((4294967294, 0), [(2, 0, 1)]), ((0, 0), [(3, 1, 0)]), ((4294967294, 0), [(3, 0, 1)])] [([], [], [(2000075, ((0, 0), [(4, 1, 0)]), ((1, 0), []))], [])]
theorem zx_D728_ok {PT : Nat → zz_W → Prop} : zx_Lok 64 zHT PT zx_D728 := by
  refine zx_Lc_ok (fun w hI hK ins hl hr he hg => ?_)
  obtain ⟨a0, a1, a2, a3, a4, a5, rfl⟩ := zx_i6 hl
  have e0 : (0 : Int) + (1 * a0 + ((-1) * a1 + ((-4294967296) * a2 + ((-18446744073709551616) * a3 + 0)))) = 0 := he _ List.mem_cons_self
  have e1 : ((-18446744073709551616) : Int) + ((-1) * a1 + ((-4294967296) * a2 + ((-18446744073709551616) * a3 + (1 * a4 + 0)))) = 0 := he _ (List.mem_cons_of_mem _ List.mem_cons_self)
  have e2 : ((-1) : Int) + (1 * (zk_xe w 2000075 a0) + 0) = 0 := he _ (List.mem_cons_of_mem _ (List.mem_cons_of_mem _ List.mem_cons_self))
  have e3 : (0 : Int) + ((-1) * a3 + (1 * a5 + 0)) = 0 := he _ (List.mem_cons_of_mem _ (List.mem_cons_of_mem _ (List.mem_cons_of_mem _ List.mem_cons_self)))
  have e4 : (0 : Int) + ((-1) * a1 + (1 * (zk_xe w 255 a5) + 0)) = 0 := he _ (List.mem_cons_of_mem _ (List.mem_cons_of_mem _ (List.mem_cons_of_mem _ (List.mem_cons_of_mem _ List.mem_cons_self))))
  have g0 : 0 ≤ (0 : Int) + (1 * a1 + 0) := hg _ List.mem_cons_self
  have g1 : 0 ≤ (4294967294 : Int) + ((-1) * a1 + 0) := hg _ (List.mem_cons_of_mem _ List.mem_cons_self)
  have g2 : 0 ≤ (0 : Int) + (1 * a2 + 0) := hg _ (List.mem_cons_of_mem _ (List.mem_cons_of_mem _ List.mem_cons_self))
  have g3 : 0 ≤ (4294967294 : Int) + ((-1) * a2 + 0) := hg _ (List.mem_cons_of_mem _ (List.mem_cons_of_mem _ (List.mem_cons_of_mem _ List.mem_cons_self)))
  have g4 : 0 ≤ (0 : Int) + (1 * a3 + 0) := hg _ (List.mem_cons_of_mem _ (List.mem_cons_of_mem _ (List.mem_cons_of_mem _ (List.mem_cons_of_mem _ List.mem_cons_self))))
  have g5 : 0 ≤ (4294967294 : Int) + ((-1) * a3 + 0) := hg _ (List.mem_cons_of_mem _ (List.mem_cons_of_mem _ (List.mem_cons_of_mem _ (List.mem_cons_of_mem _ (List.mem_cons_of_mem _ List.mem_cons_self)))))
  have r0 : 0 ≤ a0 := hr _ List.mem_cons_self
  have r1 : 0 ≤ a5 := hr _ (List.mem_cons_of_mem _ List.mem_cons_self)
  have hp := (zs_75 (w := w) (j := a0) (v := a1) (l := a2) (b := a3) (by omega) (by omega) (by omega) (by omega) (by omega) (by omega) (by omega) ).mp (by omega)
  have k0 : zh_e w 255 (a3) = zk_xe w 255 a5 := by rw [zk_xe_r (i := 255) (by decide)]; show zk_el w 255 (a3) = zk_el w 255 a5; rw [show a3 = a5 by omega]
  have h : zs_vo (zh_e w 228) (zh_e w 255) a1 a2 (a3 + 1) := by
    refine ⟨hp.1, fun i i1 i2 => ?_, fun i z i1 i2 i3 => ?_⟩
    · by_cases c : i = a3
      · rw [c, k0]
        omega
      · exact hp.2.1 i i1 (by omega)
    · by_cases c : z = a3
      · rw [c, k0]
        by_cases c2 : i = a3
        · rw [c2, k0]
          omega
        · have q := hp.2.1 i i1 (by omega)
          omega
      · exact hp.2.2 i z i1 i2 (by omega)
  exact ⟨_, List.mem_cons_self, [], rfl, zx_bnil, zx_cs0, (zx_eF1 (by show 0 ≤ (0 : Int) + (1 * a4 + 0); omega) (by show zk_xe w 2000075 ((0 : Int) + (1 * a4 + 0)) = (1 : Int) + (0); rw [show (0 : Int) + (1 * a4 + 0) = a4 by omega]; exact ((zs_75 (w := w) (j := a4) (v := a1) (l := a2) (b := (a3 + 1)) (by omega) (by omega) (by omega) (by omega) (by omega) (by omega) (by omega) ).mpr (h)).trans (by omega)) zx_eF0), zx_k0⟩
def zx_D729 : zx_L := zx_Lc [] 6 [(2000075, 0), (255, 5)] [] [((0, 0), [(0, 1, 0), (1, 0, 1), (2, 0, 4294967296), (3, 0, 18446744073709551616)]), ((18446744073709551616, 0), [(2, 0, 4294967296), (3, 0, 18446744073709551616), (4, 1, 0), (7, 0, 1)]), ((0, 1), [(6, 1, 0)]), ((1, 0), [(3, 0, 1), (5, 1, 0)])] [((0, 0), [(1, 1, 0)]), ((4294967294, 0), [(1, 0, 1)]), ((0, 0), [(2, 1, 0)]), ((4294967294, 0), [(2, 0, 1)]), ((0, 0), [(3, 1, 0)]), ((4294967294, 0), [(3, 0, 1)]), ((0, 1), [(3, 1, 0)]), ((0, 0), [(7, 1, 0)]), ((4294967294, 0), [(7, 0, 1)])] [([], [((0, 0), [(1, 1, 0), (7, 0, 1)])], [(2000075, ((0, 0), [(4, 1, 0)]), ((1, 0), []))], [])]
theorem zx_D729_ok {PT : Nat → zz_W → Prop} : zx_Lok 64 zHT PT zx_D729 := by
  refine zx_Lc_ok (fun w hI hK ins hl hr he hg => ?_)
  obtain ⟨a0, a1, a2, a3, a4, a5, rfl⟩ := zx_i6 hl
  have e0 : (0 : Int) + (1 * a0 + ((-1) * a1 + ((-4294967296) * a2 + ((-18446744073709551616) * a3 + 0)))) = 0 := he _ List.mem_cons_self
  have e1 : (18446744073709551616 : Int) + ((-4294967296) * a2 + ((-18446744073709551616) * a3 + (1 * a4 + ((-1) * (zk_xe w 255 a5) + 0)))) = 0 := he _ (List.mem_cons_of_mem _ List.mem_cons_self)
  have e2 : ((-1) : Int) + (1 * (zk_xe w 2000075 a0) + 0) = 0 := he _ (List.mem_cons_of_mem _ (List.mem_cons_of_mem _ List.mem_cons_self))
  have e3 : (1 : Int) + ((-1) * a3 + (1 * a5 + 0)) = 0 := he _ (List.mem_cons_of_mem _ (List.mem_cons_of_mem _ (List.mem_cons_of_mem _ List.mem_cons_self)))
  have g0 : 0 ≤ (0 : Int) + (1 * a1 + 0) := hg _ List.mem_cons_self
  have g1 : 0 ≤ (4294967294 : Int) + ((-1) * a1 + 0) := hg _ (List.mem_cons_of_mem _ List.mem_cons_self)
  have g2 : 0 ≤ (0 : Int) + (1 * a2 + 0) := hg _ (List.mem_cons_of_mem _ (List.mem_cons_of_mem _ List.mem_cons_self))
  have g3 : 0 ≤ (4294967294 : Int) + ((-1) * a2 + 0) := hg _ (List.mem_cons_of_mem _ (List.mem_cons_of_mem _ (List.mem_cons_of_mem _ List.mem_cons_self)))
  have g4 : 0 ≤ (0 : Int) + (1 * a3 + 0) := hg _ (List.mem_cons_of_mem _ (List.mem_cons_of_mem _ (List.mem_cons_of_mem _ (List.mem_cons_of_mem _ List.mem_cons_self))))
  have g5 : 0 ≤ (4294967294 : Int) + ((-1) * a3 + 0) := hg _ (List.mem_cons_of_mem _ (List.mem_cons_of_mem _ (List.mem_cons_of_mem _ (List.mem_cons_of_mem _ (List.mem_cons_of_mem _ List.mem_cons_self)))))
  have g6 : 0 ≤ ((-1) : Int) + (1 * a3 + 0) := hg _ (List.mem_cons_of_mem _ (List.mem_cons_of_mem _ (List.mem_cons_of_mem _ (List.mem_cons_of_mem _ (List.mem_cons_of_mem _ (List.mem_cons_of_mem _ List.mem_cons_self))))))
  have g7 : 0 ≤ (0 : Int) + (1 * (zk_xe w 255 a5) + 0) := hg _ (List.mem_cons_of_mem _ (List.mem_cons_of_mem _ (List.mem_cons_of_mem _ (List.mem_cons_of_mem _ (List.mem_cons_of_mem _ (List.mem_cons_of_mem _ (List.mem_cons_of_mem _ List.mem_cons_self)))))))
  have g8 : 0 ≤ (4294967294 : Int) + ((-1) * (zk_xe w 255 a5) + 0) := hg _ (List.mem_cons_of_mem _ (List.mem_cons_of_mem _ (List.mem_cons_of_mem _ (List.mem_cons_of_mem _ (List.mem_cons_of_mem _ (List.mem_cons_of_mem _ (List.mem_cons_of_mem _ (List.mem_cons_of_mem _ List.mem_cons_self))))))))
  have r0 : 0 ≤ a0 := hr _ List.mem_cons_self
  have r1 : 0 ≤ a5 := hr _ (List.mem_cons_of_mem _ List.mem_cons_self)
  have hp := (zs_75 (w := w) (j := a0) (v := a1) (l := a2) (b := a3) (by omega) (by omega) (by omega) (by omega) (by omega) (by omega) (by omega) ).mp (by omega)
  have k0 : zh_e w 255 (a3 - 1) = zk_xe w 255 a5 := by rw [zk_xe_r (i := 255) (by decide)]; show zk_el w 255 (a3 - 1) = zk_el w 255 a5; rw [show a3 - 1 = a5 by omega]
  have q0 := hp.2.1 (a3 - 1) (by omega) (by omega)
  rw [k0] at q0
  have h : zs_vo (zh_e w 228) (zh_e w 255) (zk_xe w 255 a5) a2 (a3 - 1) := by
    refine ⟨fun i i1 i2 => hp.1 i i1 (by omega), fun i i1 i2 => ?_, fun i z i1 i2 i3 => hp.2.2 i z i1 i2 (by omega)⟩
    have q := hp.2.2 i (a3 - 1) i1 (by omega) (by omega)
    rw [k0] at q
    exact ⟨(hp.2.1 i i1 (by omega)).1, q⟩
  exact ⟨_, List.mem_cons_self, [], rfl, zx_bnil, (zx_cs1 (by show 0 ≤ (0 : Int) + (1 * a1 + ((-1) * (zk_xe w 255 a5) + 0)); omega) zx_cs0), (zx_eF1 (by show 0 ≤ (0 : Int) + (1 * a4 + 0); omega) (by show zk_xe w 2000075 ((0 : Int) + (1 * a4 + 0)) = (1 : Int) + (0); rw [show (0 : Int) + (1 * a4 + 0) = a4 by omega]; exact ((zs_75 (w := w) (j := a4) (v := (zk_xe w 255 a5)) (l := a2) (b := (a3 - 1)) (by omega) (by omega) (by omega) (by omega) (by omega) (by omega) (by omega) ).mpr h).trans (by omega)) zx_eF0), zx_k0⟩
def zx_E565 : zx_V := zx_Vc 228 [] 4 [(2000075, 0)] [((0, 0), [(2, 1, 0), (3, 0, 1), (4, 0, 4294967296), (5, 0, 18446744073709551616)]), ((0, 1), [(6, 1, 0)])] [((0, 0), [(3, 1, 0)]), ((4294967294, 0), [(3, 0, 1)]), ((0, 0), [(4, 1, 0)]), ((4294967294, 0), [(4, 0, 1)]), ((0, 0), [(5, 1, 0)]), ((4294967294, 0), [(5, 0, 1)]), ((0, 0), [(0, 1, 0), (3, 0, 1)])] [(2000075, ((0, 0), [(2, 1, 0)]), ((1, 0), []))]
theorem zx_E565_ok {PT : Nat → zz_W → Prop} : zx_Vok 64 zHT PT zx_E565 := by
  refine zx_Vc_ok (fun w w' j ins hI hI' h0 hw hK hl he hg => ?_)
  obtain ⟨a0, a1, a2, a3, rfl⟩ := zx_i4 hl
  have e0 : (0 : Int) + (1 * a0 + ((-1) * a1 + ((-4294967296) * a2 + ((-18446744073709551616) * a3 + 0)))) = 0 := he _ List.mem_cons_self
  have e1 : ((-1) : Int) + (1 * (zk_xe w 2000075 a0) + 0) = 0 := he _ (List.mem_cons_of_mem _ List.mem_cons_self)
  have g0 : 0 ≤ (0 : Int) + (1 * a1 + 0) := hg _ List.mem_cons_self
  have g1 : 0 ≤ (4294967294 : Int) + ((-1) * a1 + 0) := hg _ (List.mem_cons_of_mem _ List.mem_cons_self)
  have g2 : 0 ≤ (0 : Int) + (1 * a2 + 0) := hg _ (List.mem_cons_of_mem _ (List.mem_cons_of_mem _ List.mem_cons_self))
  have g3 : 0 ≤ (4294967294 : Int) + ((-1) * a2 + 0) := hg _ (List.mem_cons_of_mem _ (List.mem_cons_of_mem _ (List.mem_cons_of_mem _ List.mem_cons_self)))
  have g4 : 0 ≤ (0 : Int) + (1 * a3 + 0) := hg _ (List.mem_cons_of_mem _ (List.mem_cons_of_mem _ (List.mem_cons_of_mem _ (List.mem_cons_of_mem _ List.mem_cons_self))))
  have g5 : 0 ≤ (4294967294 : Int) + ((-1) * a3 + 0) := hg _ (List.mem_cons_of_mem _ (List.mem_cons_of_mem _ (List.mem_cons_of_mem _ (List.mem_cons_of_mem _ (List.mem_cons_of_mem _ List.mem_cons_self)))))
  have g6 : 0 ≤ (0 : Int) + (1 * j + ((-1) * a1 + 0)) := hg _ (List.mem_cons_of_mem _ (List.mem_cons_of_mem _ (List.mem_cons_of_mem _ (List.mem_cons_of_mem _ (List.mem_cons_of_mem _ (List.mem_cons_of_mem _ List.mem_cons_self))))))
  have hp := (zs_75 (w := w) (j := a0) (v := a1) (l := a2) (b := a3) (by omega) (by omega) (by omega) (by omega) (by omega) (by omega) (by omega) ).mp (by omega)
  have h : zs_vo (zh_e w' 228) (zh_e w' 255) a1 a2 a3 := by
    refine ⟨fun i i1 i2 => ?_, fun i i1 i2 => ?_, fun i z i1 i2 i3 => ?_⟩
    · rw [(show zh_e w' 228 i = zh_e w 228 i from hw.2 i (by omega) (by omega))]
      exact hp.1 i i1 i2
    · rw [(congrFun (zh_e_g (hw.1 255 (by decide))) i)]
      exact hp.2.1 i i1 i2
    · rw [(congrFun (zh_e_g (hw.1 255 (by decide))) i), (congrFun (zh_e_g (hw.1 255 (by decide))) z)]
      exact hp.2.2 i z i1 i2 i3
  exact (zx_eF1 (by show 0 ≤ (0 : Int) + (1 * a0 + 0); omega) (by show zk_xe w' 2000075 ((0 : Int) + (1 * a0 + 0)) = (1 : Int) + (0); rw [show (0 : Int) + (1 * a0 + 0) = a0 by omega]; exact ((zs_75 (w := w') (j := a0) (v := a1) (l := a2) (b := a3) (by omega) (by omega) (by omega) (by omega) (by omega) (by omega) (by omega) ).mpr h).trans (by omega)) zx_eF0)
def zx_E566 : zx_V := zx_Vc 255 [] 4 [(2000075, 0)] [((0, 0), [(2, 1, 0), (3, 0, 1), (4, 0, 4294967296), (5, 0, 18446744073709551616)]), ((0, 1), [(6, 1, 0)])] [((0, 0), [(3, 1, 0)]), ((4294967294, 0), [(3, 0, 1)]), ((0, 0), [(4, 1, 0)]), ((4294967294, 0), [(4, 0, 1)]), ((0, 0), [(5, 1, 0)]), ((4294967294, 0), [(5, 0, 1)]), ((0, 0), [(0, 1, 0), (5, 0, 1)])] [(2000075, ((0, 0), [(2, 1, 0)]), ((1, 0), []))]
theorem zx_E566_ok {PT : Nat → zz_W → Prop} : zx_Vok 64 zHT PT zx_E566 := by
  refine zx_Vc_ok (fun w w' j ins hI hI' h0 hw hK hl he hg => ?_)
  obtain ⟨a0, a1, a2, a3, rfl⟩ := zx_i4 hl
  have e0 : (0 : Int) + (1 * a0 + ((-1) * a1 + ((-4294967296) * a2 + ((-18446744073709551616) * a3 + 0)))) = 0 := he _ List.mem_cons_self
  have e1 : ((-1) : Int) + (1 * (zk_xe w 2000075 a0) + 0) = 0 := he _ (List.mem_cons_of_mem _ List.mem_cons_self)
  have g0 : 0 ≤ (0 : Int) + (1 * a1 + 0) := hg _ List.mem_cons_self
  have g1 : 0 ≤ (4294967294 : Int) + ((-1) * a1 + 0) := hg _ (List.mem_cons_of_mem _ List.mem_cons_self)
  have g2 : 0 ≤ (0 : Int) + (1 * a2 + 0) := hg _ (List.mem_cons_of_mem _ (List.mem_cons_of_mem _ List.mem_cons_self))
  have g3 : 0 ≤ (4294967294 : Int) + ((-1) * a2 + 0) := hg _ (List.mem_cons_of_mem _ (List.mem_cons_of_mem _ (List.mem_cons_of_mem _ List.mem_cons_self)))
  have g4 : 0 ≤ (0 : Int) + (1 * a3 + 0) := hg _ (List.mem_cons_of_mem _ (List.mem_cons_of_mem _ (List.mem_cons_of_mem _ (List.mem_cons_of_mem _ List.mem_cons_self))))
  have g5 : 0 ≤ (4294967294 : Int) + ((-1) * a3 + 0) := hg _ (List.mem_cons_of_mem _ (List.mem_cons_of_mem _ (List.mem_cons_of_mem _ (List.mem_cons_of_mem _ (List.mem_cons_of_mem _ List.mem_cons_self)))))
  have g6 : 0 ≤ (0 : Int) + (1 * j + ((-1) * a3 + 0)) := hg _ (List.mem_cons_of_mem _ (List.mem_cons_of_mem _ (List.mem_cons_of_mem _ (List.mem_cons_of_mem _ (List.mem_cons_of_mem _ (List.mem_cons_of_mem _ List.mem_cons_self))))))
  have hp := (zs_75 (w := w) (j := a0) (v := a1) (l := a2) (b := a3) (by omega) (by omega) (by omega) (by omega) (by omega) (by omega) (by omega) ).mp (by omega)
  have h : zs_vo (zh_e w' 228) (zh_e w' 255) a1 a2 a3 := by
    refine ⟨fun i i1 i2 => ?_, fun i i1 i2 => ?_, fun i z i1 i2 i3 => ?_⟩
    · rw [(congrFun (zh_e_g (hw.1 228 (by decide))) i)]
      exact hp.1 i i1 i2
    · rw [(show zh_e w' 255 i = zh_e w 255 i from hw.2 i (by omega) (by omega))]
      exact hp.2.1 i i1 i2
    · rw [(show zh_e w' 255 i = zh_e w 255 i from hw.2 i (by omega) (by omega)), (show zh_e w' 255 z = zh_e w 255 z from hw.2 z (by omega) (by omega))]
      exact hp.2.2 i z i1 i2 i3
  exact (zx_eF1 (by show 0 ≤ (0 : Int) + (1 * a0 + 0); omega) (by show zk_xe w' 2000075 ((0 : Int) + (1 * a0 + 0)) = (1 : Int) + (0); rw [show (0 : Int) + (1 * a0 + 0) = a0 by omega]; exact ((zs_75 (w := w') (j := a0) (v := a1) (l := a2) (b := a3) (by omega) (by omega) (by omega) (by omega) (by omega) (by omega) (by omega) ).mpr h).trans (by omega)) zx_eF0)
def zx_E520 : zx_V := zx_Vc 208 [] 8 [(2000070, 0), (207, 7)] [((0, 0), [(2, 1, 0), (3, 0, 1), (4, 0, 4294967296), (5, 0, 18446744073709551616), (6, 0, 79228162514264337593543950336), (7, 0, 340282366920938463463374607431768211456), (8, 0, 1461501637330902918203684832716283019655932542976)]), ((0, 1), [(10, 1, 0)]), ((0, 0), [(4, 0, 1), (9, 1, 0)])] [((0, 0), [(3, 1, 0)]), ((4294967294, 0), [(3, 0, 1)]), ((0, 0), [(4, 1, 0)]), ((4294967294, 0), [(4, 0, 1)]), ((0, 0), [(5, 1, 0)]), ((4294967294, 0), [(5, 0, 1)]), ((0, 0), [(6, 1, 0)]), ((4294967294, 0), [(6, 0, 1)]), ((0, 0), [(7, 1, 0)]), ((4294967294, 0), [(7, 0, 1)]), ((0, 0), [(8, 1, 0)]), ((4294967294, 0), [(8, 0, 1)]), ((0, 0), [(11, 1, 0)]), ((0, 0), [(0, 1, 0), (4, 0, 8000), (11, 0, 1)])] [(2000070, ((0, 0), [(2, 1, 0)]), ((1, 0), []))]
theorem zx_E520_ok {PT : Nat → zz_W → Prop} : zx_Vok 64 zHT PT zx_E520 := by
  refine zx_Vc_ok (fun w w' j ins hI hI' h0 hw hK hl he hg => ?_)
  obtain ⟨a0, a1, a2, a3, a4, a5, a6, a7, rfl⟩ := zx_i8 hl
  have e0 : (0 : Int) + (1 * a0 + ((-1) * a1 + ((-4294967296) * a2 + ((-18446744073709551616) * a3 + ((-79228162514264337593543950336) * a4 + ((-340282366920938463463374607431768211456) * a5 + ((-1461501637330902918203684832716283019655932542976) * a6 + 0))))))) = 0 := he _ List.mem_cons_self
  have e1 : ((-1) : Int) + (1 * (zk_xe w 2000070 a0) + 0) = 0 := he _ (List.mem_cons_of_mem _ List.mem_cons_self)
  have e2 : (0 : Int) + ((-1) * a2 + (1 * a7 + 0)) = 0 := he _ (List.mem_cons_of_mem _ (List.mem_cons_of_mem _ List.mem_cons_self))
  have g0 : 0 ≤ (0 : Int) + (1 * a1 + 0) := hg _ List.mem_cons_self
  have g1 : 0 ≤ (4294967294 : Int) + ((-1) * a1 + 0) := hg _ (List.mem_cons_of_mem _ List.mem_cons_self)
  have g2 : 0 ≤ (0 : Int) + (1 * a2 + 0) := hg _ (List.mem_cons_of_mem _ (List.mem_cons_of_mem _ List.mem_cons_self))
  have g3 : 0 ≤ (4294967294 : Int) + ((-1) * a2 + 0) := hg _ (List.mem_cons_of_mem _ (List.mem_cons_of_mem _ (List.mem_cons_of_mem _ List.mem_cons_self)))
  have g4 : 0 ≤ (0 : Int) + (1 * a3 + 0) := hg _ (List.mem_cons_of_mem _ (List.mem_cons_of_mem _ (List.mem_cons_of_mem _ (List.mem_cons_of_mem _ List.mem_cons_self))))
  have g5 : 0 ≤ (4294967294 : Int) + ((-1) * a3 + 0) := hg _ (List.mem_cons_of_mem _ (List.mem_cons_of_mem _ (List.mem_cons_of_mem _ (List.mem_cons_of_mem _ (List.mem_cons_of_mem _ List.mem_cons_self)))))
  have g6 : 0 ≤ (0 : Int) + (1 * a4 + 0) := hg _ (List.mem_cons_of_mem _ (List.mem_cons_of_mem _ (List.mem_cons_of_mem _ (List.mem_cons_of_mem _ (List.mem_cons_of_mem _ (List.mem_cons_of_mem _ List.mem_cons_self))))))
  have g7 : 0 ≤ (4294967294 : Int) + ((-1) * a4 + 0) := hg _ (List.mem_cons_of_mem _ (List.mem_cons_of_mem _ (List.mem_cons_of_mem _ (List.mem_cons_of_mem _ (List.mem_cons_of_mem _ (List.mem_cons_of_mem _ (List.mem_cons_of_mem _ List.mem_cons_self)))))))
  have g8 : 0 ≤ (0 : Int) + (1 * a5 + 0) := hg _ (List.mem_cons_of_mem _ (List.mem_cons_of_mem _ (List.mem_cons_of_mem _ (List.mem_cons_of_mem _ (List.mem_cons_of_mem _ (List.mem_cons_of_mem _ (List.mem_cons_of_mem _ (List.mem_cons_of_mem _ List.mem_cons_self))))))))
  have g9 : 0 ≤ (4294967294 : Int) + ((-1) * a5 + 0) := hg _ (List.mem_cons_of_mem _ (List.mem_cons_of_mem _ (List.mem_cons_of_mem _ (List.mem_cons_of_mem _ (List.mem_cons_of_mem _ (List.mem_cons_of_mem _ (List.mem_cons_of_mem _ (List.mem_cons_of_mem _ (List.mem_cons_of_mem _ List.mem_cons_self)))))))))
  have g10 : 0 ≤ (0 : Int) + (1 * a6 + 0) := hg _ (List.mem_cons_of_mem _ (List.mem_cons_of_mem _ (List.mem_cons_of_mem _ (List.mem_cons_of_mem _ (List.mem_cons_of_mem _ (List.mem_cons_of_mem _ (List.mem_cons_of_mem _ (List.mem_cons_of_mem _ (List.mem_cons_of_mem _ (List.mem_cons_of_mem _ List.mem_cons_self))))))))))
  have g11 : 0 ≤ (4294967294 : Int) + ((-1) * a6 + 0) := hg _ (List.mem_cons_of_mem _ (List.mem_cons_of_mem _ (List.mem_cons_of_mem _ (List.mem_cons_of_mem _ (List.mem_cons_of_mem _ (List.mem_cons_of_mem _ (List.mem_cons_of_mem _ (List.mem_cons_of_mem _ (List.mem_cons_of_mem _ (List.mem_cons_of_mem _ (List.mem_cons_of_mem _ List.mem_cons_self)))))))))))
  have g12 : 0 ≤ (0 : Int) + (1 * (zk_xe w 207 a7) + 0) := hg _ (List.mem_cons_of_mem _ (List.mem_cons_of_mem _ (List.mem_cons_of_mem _ (List.mem_cons_of_mem _ (List.mem_cons_of_mem _ (List.mem_cons_of_mem _ (List.mem_cons_of_mem _ (List.mem_cons_of_mem _ (List.mem_cons_of_mem _ (List.mem_cons_of_mem _ (List.mem_cons_of_mem _ (List.mem_cons_of_mem _ List.mem_cons_self))))))))))))
  have g13 : 0 ≤ (0 : Int) + (1 * j + ((-8000) * a2 + ((-1) * (zk_xe w 207 a7) + 0))) := hg _ (List.mem_cons_of_mem _ (List.mem_cons_of_mem _ (List.mem_cons_of_mem _ (List.mem_cons_of_mem _ (List.mem_cons_of_mem _ (List.mem_cons_of_mem _ (List.mem_cons_of_mem _ (List.mem_cons_of_mem _ (List.mem_cons_of_mem _ (List.mem_cons_of_mem _ (List.mem_cons_of_mem _ (List.mem_cons_of_mem _ (List.mem_cons_of_mem _ List.mem_cons_self)))))))))))))
  have hn : zh_e w 207 (a2) = zk_xe w 207 a7 := by rw [zk_xe_r (i := 207) (by decide)]; show zk_el w 207 (a2) = zk_el w 207 a7; rw [show a2 = a7 by omega]
  have hp := (zs_70 (w := w) (j := a0) (n := a1) (u := a2) (c := a3) (z := a4) (m := a5) (l := a6) (by omega) (by omega) (by omega) (by omega) (by omega) (by omega) (by omega) (by omega) (by omega) (by omega) (by omega) (by omega) (by omega) ).mp (by omega)
  have h : zs_ps w' a1 a2 a3 a4 a5 a6 := zs_gen (by rw [zh_e_g (hw.1 224 (by decide))]; exact id) (fun i i1 i2 => ⟨hw.2 i (by omega) (by omega), congrFun (zh_e_g (hw.1 209 (by decide))) i, congrFun (zh_e_g (hw.1 210 (by decide))) i, congrFun (zh_e_g (hw.1 211 (by decide))) i, congrFun (zh_e_g (hw.1 212 (by decide))) i⟩) (congrFun (zh_e_g (hw.1 207 (by decide))) a2) (Int.le_refl _) (fun i i1 i2 => ⟨congrFun (zh_e_g (hw.1 229 (by decide))) i, congrFun (zh_e_g (hw.1 230 (by decide))) i⟩) (Or.inr (congrFun (zh_e_g (hw.1 250 (by decide))) 0)) (fun i i1 i2 i3 => ⟨congrFun (zh_e_g (hw.1 250 (by decide))) i, congrFun (zh_e_g (hw.1 240 (by decide))) i, congrFun (zh_e_g (hw.1 241 (by decide))) i, congrFun (zh_e_g (hw.1 242 (by decide))) i⟩) (Int.le_refl _) (fun i i1 i2 => congrFun (zh_e_g (hw.1 253 (by decide))) i) (Int.le_refl _) (fun i i1 i2 => ⟨congrFun (zh_e_g (hw.1 227 (by decide))) i, congrFun (zh_e_g (hw.1 226 (by decide))) i⟩) hp
  exact (zx_eF1 (by show 0 ≤ (0 : Int) + (1 * a0 + 0); omega) (by show zk_xe w' 2000070 ((0 : Int) + (1 * a0 + 0)) = (1 : Int) + (0); rw [show (0 : Int) + (1 * a0 + 0) = a0 by omega]; exact ((zs_70 (w := w') (j := a0) (n := a1) (u := a2) (c := a3) (z := a4) (m := a5) (l := a6) (by omega) (by omega) (by omega) (by omega) (by omega) (by omega) (by omega) (by omega) (by omega) (by omega) (by omega) (by omega) (by omega) ).mpr h).trans (by omega)) zx_eF0)
def zx_E521 : zx_V := zx_Vc 209 [] 8 [(2000070, 0), (207, 7)] [((0, 0), [(2, 1, 0), (3, 0, 1), (4, 0, 4294967296), (5, 0, 18446744073709551616), (6, 0, 79228162514264337593543950336), (7, 0, 340282366920938463463374607431768211456), (8, 0, 1461501637330902918203684832716283019655932542976)]), ((0, 1), [(10, 1, 0)]), ((0, 0), [(4, 0, 1), (9, 1, 0)])] [((0, 0), [(3, 1, 0)]), ((4294967294, 0), [(3, 0, 1)]), ((0, 0), [(4, 1, 0)]), ((4294967294, 0), [(4, 0, 1)]), ((0, 0), [(5, 1, 0)]), ((4294967294, 0), [(5, 0, 1)]), ((0, 0), [(6, 1, 0)]), ((4294967294, 0), [(6, 0, 1)]), ((0, 0), [(7, 1, 0)]), ((4294967294, 0), [(7, 0, 1)]), ((0, 0), [(8, 1, 0)]), ((4294967294, 0), [(8, 0, 1)]), ((0, 0), [(11, 1, 0)]), ((0, 0), [(0, 1, 0), (4, 0, 8000), (11, 0, 1)])] [(2000070, ((0, 0), [(2, 1, 0)]), ((1, 0), []))]
theorem zx_E521_ok {PT : Nat → zz_W → Prop} : zx_Vok 64 zHT PT zx_E521 := by
  refine zx_Vc_ok (fun w w' j ins hI hI' h0 hw hK hl he hg => ?_)
  obtain ⟨a0, a1, a2, a3, a4, a5, a6, a7, rfl⟩ := zx_i8 hl
  have e0 : (0 : Int) + (1 * a0 + ((-1) * a1 + ((-4294967296) * a2 + ((-18446744073709551616) * a3 + ((-79228162514264337593543950336) * a4 + ((-340282366920938463463374607431768211456) * a5 + ((-1461501637330902918203684832716283019655932542976) * a6 + 0))))))) = 0 := he _ List.mem_cons_self
  have e1 : ((-1) : Int) + (1 * (zk_xe w 2000070 a0) + 0) = 0 := he _ (List.mem_cons_of_mem _ List.mem_cons_self)
  have e2 : (0 : Int) + ((-1) * a2 + (1 * a7 + 0)) = 0 := he _ (List.mem_cons_of_mem _ (List.mem_cons_of_mem _ List.mem_cons_self))
  have g0 : 0 ≤ (0 : Int) + (1 * a1 + 0) := hg _ List.mem_cons_self
  have g1 : 0 ≤ (4294967294 : Int) + ((-1) * a1 + 0) := hg _ (List.mem_cons_of_mem _ List.mem_cons_self)
  have g2 : 0 ≤ (0 : Int) + (1 * a2 + 0) := hg _ (List.mem_cons_of_mem _ (List.mem_cons_of_mem _ List.mem_cons_self))
  have g3 : 0 ≤ (4294967294 : Int) + ((-1) * a2 + 0) := hg _ (List.mem_cons_of_mem _ (List.mem_cons_of_mem _ (List.mem_cons_of_mem _ List.mem_cons_self)))
  have g4 : 0 ≤ (0 : Int) + (1 * a3 + 0) := hg _ (List.mem_cons_of_mem _ (List.mem_cons_of_mem _ (List.mem_cons_of_mem _ (List.mem_cons_of_mem _ List.mem_cons_self))))
  have g5 : 0 ≤ (4294967294 : Int) + ((-1) * a3 + 0) := hg _ (List.mem_cons_of_mem _ (List.mem_cons_of_mem _ (List.mem_cons_of_mem _ (List.mem_cons_of_mem _ (List.mem_cons_of_mem _ List.mem_cons_self)))))
  have g6 : 0 ≤ (0 : Int) + (1 * a4 + 0) := hg _ (List.mem_cons_of_mem _ (List.mem_cons_of_mem _ (List.mem_cons_of_mem _ (List.mem_cons_of_mem _ (List.mem_cons_of_mem _ (List.mem_cons_of_mem _ List.mem_cons_self))))))
  have g7 : 0 ≤ (4294967294 : Int) + ((-1) * a4 + 0) := hg _ (List.mem_cons_of_mem _ (List.mem_cons_of_mem _ (List.mem_cons_of_mem _ (List.mem_cons_of_mem _ (List.mem_cons_of_mem _ (List.mem_cons_of_mem _ (List.mem_cons_of_mem _ List.mem_cons_self)))))))
  have g8 : 0 ≤ (0 : Int) + (1 * a5 + 0) := hg _ (List.mem_cons_of_mem _ (List.mem_cons_of_mem _ (List.mem_cons_of_mem _ (List.mem_cons_of_mem _ (List.mem_cons_of_mem _ (List.mem_cons_of_mem _ (List.mem_cons_of_mem _ (List.mem_cons_of_mem _ List.mem_cons_self))))))))
  have g9 : 0 ≤ (4294967294 : Int) + ((-1) * a5 + 0) := hg _ (List.mem_cons_of_mem _ (List.mem_cons_of_mem _ (List.mem_cons_of_mem _ (List.mem_cons_of_mem _ (List.mem_cons_of_mem _ (List.mem_cons_of_mem _ (List.mem_cons_of_mem _ (List.mem_cons_of_mem _ (List.mem_cons_of_mem _ List.mem_cons_self)))))))))
  have g10 : 0 ≤ (0 : Int) + (1 * a6 + 0) := hg _ (List.mem_cons_of_mem _ (List.mem_cons_of_mem _ (List.mem_cons_of_mem _ (List.mem_cons_of_mem _ (List.mem_cons_of_mem _ (List.mem_cons_of_mem _ (List.mem_cons_of_mem _ (List.mem_cons_of_mem _ (List.mem_cons_of_mem _ (List.mem_cons_of_mem _ List.mem_cons_self))))))))))
  have g11 : 0 ≤ (4294967294 : Int) + ((-1) * a6 + 0) := hg _ (List.mem_cons_of_mem _ (List.mem_cons_of_mem _ (List.mem_cons_of_mem _ (List.mem_cons_of_mem _ (List.mem_cons_of_mem _ (List.mem_cons_of_mem _ (List.mem_cons_of_mem _ (List.mem_cons_of_mem _ (List.mem_cons_of_mem _ (List.mem_cons_of_mem _ (List.mem_cons_of_mem _ List.mem_cons_self)))))))))))
  have g12 : 0 ≤ (0 : Int) + (1 * (zk_xe w 207 a7) + 0) := hg _ (List.mem_cons_of_mem _ (List.mem_cons_of_mem _ (List.mem_cons_of_mem _ (List.mem_cons_of_mem _ (List.mem_cons_of_mem _ (List.mem_cons_of_mem _ (List.mem_cons_of_mem _ (List.mem_cons_of_mem _ (List.mem_cons_of_mem _ (List.mem_cons_of_mem _ (List.mem_cons_of_mem _ (List.mem_cons_of_mem _ List.mem_cons_self))))))))))))
  have g13 : 0 ≤ (0 : Int) + (1 * j + ((-8000) * a2 + ((-1) * (zk_xe w 207 a7) + 0))) := hg _ (List.mem_cons_of_mem _ (List.mem_cons_of_mem _ (List.mem_cons_of_mem _ (List.mem_cons_of_mem _ (List.mem_cons_of_mem _ (List.mem_cons_of_mem _ (List.mem_cons_of_mem _ (List.mem_cons_of_mem _ (List.mem_cons_of_mem _ (List.mem_cons_of_mem _ (List.mem_cons_of_mem _ (List.mem_cons_of_mem _ (List.mem_cons_of_mem _ List.mem_cons_self)))))))))))))
  have hn : zh_e w 207 (a2) = zk_xe w 207 a7 := by rw [zk_xe_r (i := 207) (by decide)]; show zk_el w 207 (a2) = zk_el w 207 a7; rw [show a2 = a7 by omega]
  have hp := (zs_70 (w := w) (j := a0) (n := a1) (u := a2) (c := a3) (z := a4) (m := a5) (l := a6) (by omega) (by omega) (by omega) (by omega) (by omega) (by omega) (by omega) (by omega) (by omega) (by omega) (by omega) (by omega) (by omega) ).mp (by omega)
  have h : zs_ps w' a1 a2 a3 a4 a5 a6 := zs_gen (by rw [zh_e_g (hw.1 224 (by decide))]; exact id) (fun i i1 i2 => ⟨congrFun (zh_e_g (hw.1 208 (by decide))) i, hw.2 i (by omega) (by omega), congrFun (zh_e_g (hw.1 210 (by decide))) i, congrFun (zh_e_g (hw.1 211 (by decide))) i, congrFun (zh_e_g (hw.1 212 (by decide))) i⟩) (congrFun (zh_e_g (hw.1 207 (by decide))) a2) (Int.le_refl _) (fun i i1 i2 => ⟨congrFun (zh_e_g (hw.1 229 (by decide))) i, congrFun (zh_e_g (hw.1 230 (by decide))) i⟩) (Or.inr (congrFun (zh_e_g (hw.1 250 (by decide))) 0)) (fun i i1 i2 i3 => ⟨congrFun (zh_e_g (hw.1 250 (by decide))) i, congrFun (zh_e_g (hw.1 240 (by decide))) i, congrFun (zh_e_g (hw.1 241 (by decide))) i, congrFun (zh_e_g (hw.1 242 (by decide))) i⟩) (Int.le_refl _) (fun i i1 i2 => congrFun (zh_e_g (hw.1 253 (by decide))) i) (Int.le_refl _) (fun i i1 i2 => ⟨congrFun (zh_e_g (hw.1 227 (by decide))) i, congrFun (zh_e_g (hw.1 226 (by decide))) i⟩) hp
  exact (zx_eF1 (by show 0 ≤ (0 : Int) + (1 * a0 + 0); omega) (by show zk_xe w' 2000070 ((0 : Int) + (1 * a0 + 0)) = (1 : Int) + (0); rw [show (0 : Int) + (1 * a0 + 0) = a0 by omega]; exact ((zs_70 (w := w') (j := a0) (n := a1) (u := a2) (c := a3) (z := a4) (m := a5) (l := a6) (by omega) (by omega) (by omega) (by omega) (by omega) (by omega) (by omega) (by omega) (by omega) (by omega) (by omega) (by omega) (by omega) ).mpr h).trans (by omega)) zx_eF0)
def zx_E522 : zx_V := zx_Vc 210 [] 8 [(2000070, 0), (207, 7)] [((0, 0), [(2, 1, 0), (3, 0, 1), (4, 0, 4294967296), (5, 0, 18446744073709551616), (6, 0, 79228162514264337593543950336), (7, 0, 340282366920938463463374607431768211456), (8, 0, 1461501637330902918203684832716283019655932542976)]), ((0, 1), [(10, 1, 0)]), ((0, 0), [(4, 0, 1), (9, 1, 0)])] [((0, 0), [(3, 1, 0)]), ((4294967294, 0), [(3, 0, 1)]), ((0, 0), [(4, 1, 0)]), ((4294967294, 0), [(4, 0, 1)]), ((0, 0), [(5, 1, 0)]), ((4294967294, 0), [(5, 0, 1)]), ((0, 0), [(6, 1, 0)]), ((4294967294, 0), [(6, 0, 1)]), ((0, 0), [(7, 1, 0)]), ((4294967294, 0), [(7, 0, 1)]), ((0, 0), [(8, 1, 0)]), ((4294967294, 0), [(8, 0, 1)]), ((0, 0), [(11, 1, 0)]), ((0, 0), [(0, 1, 0), (4, 0, 8000), (11, 0, 1)])] [(2000070, ((0, 0), [(2, 1, 0)]), ((1, 0), []))]
theorem zx_E522_ok {PT : Nat → zz_W → Prop} : zx_Vok 64 zHT PT zx_E522 := by
  refine zx_Vc_ok (fun w w' j ins hI hI' h0 hw hK hl he hg => ?_)
  obtain ⟨a0, a1, a2, a3, a4, a5, a6, a7, rfl⟩ := zx_i8 hl
  have e0 : (0 : Int) + (1 * a0 + ((-1) * a1 + ((-4294967296) * a2 + ((-18446744073709551616) * a3 + ((-79228162514264337593543950336) * a4 + ((-340282366920938463463374607431768211456) * a5 + ((-1461501637330902918203684832716283019655932542976) * a6 + 0))))))) = 0 := he _ List.mem_cons_self
  have e1 : ((-1) : Int) + (1 * (zk_xe w 2000070 a0) + 0) = 0 := he _ (List.mem_cons_of_mem _ List.mem_cons_self)
  have e2 : (0 : Int) + ((-1) * a2 + (1 * a7 + 0)) = 0 := he _ (List.mem_cons_of_mem _ (List.mem_cons_of_mem _ List.mem_cons_self))
  have g0 : 0 ≤ (0 : Int) + (1 * a1 + 0) := hg _ List.mem_cons_self
  have g1 : 0 ≤ (4294967294 : Int) + ((-1) * a1 + 0) := hg _ (List.mem_cons_of_mem _ List.mem_cons_self)
  have g2 : 0 ≤ (0 : Int) + (1 * a2 + 0) := hg _ (List.mem_cons_of_mem _ (List.mem_cons_of_mem _ List.mem_cons_self))
  have g3 : 0 ≤ (4294967294 : Int) + ((-1) * a2 + 0) := hg _ (List.mem_cons_of_mem _ (List.mem_cons_of_mem _ (List.mem_cons_of_mem _ List.mem_cons_self)))
  have g4 : 0 ≤ (0 : Int) + (1 * a3 + 0) := hg _ (List.mem_cons_of_mem _ (List.mem_cons_of_mem _ (List.mem_cons_of_mem _ (List.mem_cons_of_mem _ List.mem_cons_self))))
  have g5 : 0 ≤ (4294967294 : Int) + ((-1) * a3 + 0) := hg _ (List.mem_cons_of_mem _ (List.mem_cons_of_mem _ (List.mem_cons_of_mem _ (List.mem_cons_of_mem _ (List.mem_cons_of_mem _ List.mem_cons_self)))))
  have g6 : 0 ≤ (0 : Int) + (1 * a4 + 0) := hg _ (List.mem_cons_of_mem _ (List.mem_cons_of_mem _ (List.mem_cons_of_mem _ (List.mem_cons_of_mem _ (List.mem_cons_of_mem _ (List.mem_cons_of_mem _ List.mem_cons_self))))))
  have g7 : 0 ≤ (4294967294 : Int) + ((-1) * a4 + 0) := hg _ (List.mem_cons_of_mem _ (List.mem_cons_of_mem _ (List.mem_cons_of_mem _ (List.mem_cons_of_mem _ (List.mem_cons_of_mem _ (List.mem_cons_of_mem _ (List.mem_cons_of_mem _ List.mem_cons_self)))))))
  have g8 : 0 ≤ (0 : Int) + (1 * a5 + 0) := hg _ (List.mem_cons_of_mem _ (List.mem_cons_of_mem _ (List.mem_cons_of_mem _ (List.mem_cons_of_mem _ (List.mem_cons_of_mem _ (List.mem_cons_of_mem _ (List.mem_cons_of_mem _ (List.mem_cons_of_mem _ List.mem_cons_self))))))))
  have g9 : 0 ≤ (4294967294 : Int) + ((-1) * a5 + 0) := hg _ (List.mem_cons_of_mem _ (List.mem_cons_of_mem _ (List.mem_cons_of_mem _ (List.mem_cons_of_mem _ (List.mem_cons_of_mem _ (List.mem_cons_of_mem _ (List.mem_cons_of_mem _ (List.mem_cons_of_mem _ (List.mem_cons_of_mem _ List.mem_cons_self)))))))))
  have g10 : 0 ≤ (0 : Int) + (1 * a6 + 0) := hg _ (List.mem_cons_of_mem _ (List.mem_cons_of_mem _ (List.mem_cons_of_mem _ (List.mem_cons_of_mem _ (List.mem_cons_of_mem _ (List.mem_cons_of_mem _ (List.mem_cons_of_mem _ (List.mem_cons_of_mem _ (List.mem_cons_of_mem _ (List.mem_cons_of_mem _ List.mem_cons_self))))))))))
  have g11 : 0 ≤ (4294967294 : Int) + ((-1) * a6 + 0) := hg _ (List.mem_cons_of_mem _ (List.mem_cons_of_mem _ (List.mem_cons_of_mem _ (List.mem_cons_of_mem _ (List.mem_cons_of_mem _ (List.mem_cons_of_mem _ (List.mem_cons_of_mem _ (List.mem_cons_of_mem _ (List.mem_cons_of_mem _ (List.mem_cons_of_mem _ (List.mem_cons_of_mem _ List.mem_cons_self)))))))))))
  have g12 : 0 ≤ (0 : Int) + (1 * (zk_xe w 207 a7) + 0) := hg _ (List.mem_cons_of_mem _ (List.mem_cons_of_mem _ (List.mem_cons_of_mem _ (List.mem_cons_of_mem _ (List.mem_cons_of_mem _ (List.mem_cons_of_mem _ (List.mem_cons_of_mem _ (List.mem_cons_of_mem _ (List.mem_cons_of_mem _ (List.mem_cons_of_mem _ (List.mem_cons_of_mem _ (List.mem_cons_of_mem _ List.mem_cons_self))))))))))))
  have g13 : 0 ≤ (0 : Int) + (1 * j + ((-8000) * a2 + ((-1) * (zk_xe w 207 a7) + 0))) := hg _ (List.mem_cons_of_mem _ (List.mem_cons_of_mem _ (List.mem_cons_of_mem _ (List.mem_cons_of_mem _ (List.mem_cons_of_mem _ (List.mem_cons_of_mem _ (List.mem_cons_of_mem _ (List.mem_cons_of_mem _ (List.mem_cons_of_mem _ (List.mem_cons_of_mem _ (List.mem_cons_of_mem _ (List.mem_cons_of_mem _ (List.mem_cons_of_mem _ List.mem_cons_self)))))))))))))
  have hn : zh_e w 207 (a2) = zk_xe w 207 a7 := by rw [zk_xe_r (i := 207) (by decide)]; show zk_el w 207 (a2) = zk_el w 207 a7; rw [show a2 = a7 by omega]
  have hp := (zs_70 (w := w) (j := a0) (n := a1) (u := a2) (c := a3) (z := a4) (m := a5) (l := a6) (by omega) (by omega) (by omega) (by omega) (by omega) (by omega) (by omega) (by omega) (by omega) (by omega) (by omega) (by omega) (by omega) ).mp (by omega)
  have h : zs_ps w' a1 a2 a3 a4 a5 a6 := zs_gen (by rw [zh_e_g (hw.1 224 (by decide))]; exact id) (fun i i1 i2 => ⟨congrFun (zh_e_g (hw.1 208 (by decide))) i, congrFun (zh_e_g (hw.1 209 (by decide))) i, hw.2 i (by omega) (by omega), congrFun (zh_e_g (hw.1 211 (by decide))) i, congrFun (zh_e_g (hw.1 212 (by decide))) i⟩) (congrFun (zh_e_g (hw.1 207 (by decide))) a2) (Int.le_refl _) (fun i i1 i2 => ⟨congrFun (zh_e_g (hw.1 229 (by decide))) i, congrFun (zh_e_g (hw.1 230 (by decide))) i⟩) (Or.inr (congrFun (zh_e_g (hw.1 250 (by decide))) 0)) (fun i i1 i2 i3 => ⟨congrFun (zh_e_g (hw.1 250 (by decide))) i, congrFun (zh_e_g (hw.1 240 (by decide))) i, congrFun (zh_e_g (hw.1 241 (by decide))) i, congrFun (zh_e_g (hw.1 242 (by decide))) i⟩) (Int.le_refl _) (fun i i1 i2 => congrFun (zh_e_g (hw.1 253 (by decide))) i) (Int.le_refl _) (fun i i1 i2 => ⟨congrFun (zh_e_g (hw.1 227 (by decide))) i, congrFun (zh_e_g (hw.1 226 (by decide))) i⟩) hp
  exact (zx_eF1 (by show 0 ≤ (0 : Int) + (1 * a0 + 0); omega) (by show zk_xe w' 2000070 ((0 : Int) + (1 * a0 + 0)) = (1 : Int) + (0); rw [show (0 : Int) + (1 * a0 + 0) = a0 by omega]; exact ((zs_70 (w := w') (j := a0) (n := a1) (u := a2) (c := a3) (z := a4) (m := a5) (l := a6) (by omega) (by omega) (by omega) (by omega) (by omega) (by omega) (by omega) (by omega) (by omega) (by omega) (by omega) (by omega) (by omega) ).mpr h).trans (by omega)) zx_eF0)
def zx_E523 : zx_V := zx_Vc 211 [] 8 [(2000070, 0), (207, 7)] [((0, 0), [(2, 1, 0), (3, 0, 1), (4, 0, 4294967296), (5, 0, 18446744073709551616), (6, 0, 79228162514264337593543950336), (7, 0, 340282366920938463463374607431768211456), (8, 0, 1461501637330902918203684832716283019655932542976)]), ((0, 1), [(10, 1, 0)]), ((0, 0), [(4, 0, 1), (9, 1, 0)])] [((0, 0), [(3, 1, 0)]), ((4294967294, 0), [(3, 0, 1)]), ((0, 0), [(4, 1, 0)]), ((4294967294, 0), [(4, 0, 1)]), ((0, 0), [(5, 1, 0)]), ((4294967294, 0), [(5, 0, 1)]), ((0, 0), [(6, 1, 0)]), ((4294967294, 0), [(6, 0, 1)]), ((0, 0), [(7, 1, 0)]), ((4294967294, 0), [(7, 0, 1)]), ((0, 0), [(8, 1, 0)]), ((4294967294, 0), [(8, 0, 1)]), ((0, 0), [(11, 1, 0)]), ((0, 0), [(0, 1, 0), (4, 0, 8000), (11, 0, 1)])] [(2000070, ((0, 0), [(2, 1, 0)]), ((1, 0), []))]
theorem zx_E523_ok {PT : Nat → zz_W → Prop} : zx_Vok 64 zHT PT zx_E523 := by
  refine zx_Vc_ok (fun w w' j ins hI hI' h0 hw hK hl he hg => ?_)
  obtain ⟨a0, a1, a2, a3, a4, a5, a6, a7, rfl⟩ := zx_i8 hl
  have e0 : (0 : Int) + (1 * a0 + ((-1) * a1 + ((-4294967296) * a2 + ((-18446744073709551616) * a3 + ((-79228162514264337593543950336) * a4 + ((-340282366920938463463374607431768211456) * a5 + ((-1461501637330902918203684832716283019655932542976) * a6 + 0))))))) = 0 := he _ List.mem_cons_self
  have e1 : ((-1) : Int) + (1 * (zk_xe w 2000070 a0) + 0) = 0 := he _ (List.mem_cons_of_mem _ List.mem_cons_self)
  have e2 : (0 : Int) + ((-1) * a2 + (1 * a7 + 0)) = 0 := he _ (List.mem_cons_of_mem _ (List.mem_cons_of_mem _ List.mem_cons_self))
  have g0 : 0 ≤ (0 : Int) + (1 * a1 + 0) := hg _ List.mem_cons_self
  have g1 : 0 ≤ (4294967294 : Int) + ((-1) * a1 + 0) := hg _ (List.mem_cons_of_mem _ List.mem_cons_self)
  have g2 : 0 ≤ (0 : Int) + (1 * a2 + 0) := hg _ (List.mem_cons_of_mem _ (List.mem_cons_of_mem _ List.mem_cons_self))
  have g3 : 0 ≤ (4294967294 : Int) + ((-1) * a2 + 0) := hg _ (List.mem_cons_of_mem _ (List.mem_cons_of_mem _ (List.mem_cons_of_mem _ List.mem_cons_self)))
  have g4 : 0 ≤ (0 : Int) + (1 * a3 + 0) := hg _ (List.mem_cons_of_mem _ (List.mem_cons_of_mem _ (List.mem_cons_of_mem _ (List.mem_cons_of_mem _ List.mem_cons_self))))
  have g5 : 0 ≤ (4294967294 : Int) + ((-1) * a3 + 0) := hg _ (List.mem_cons_of_mem _ (List.mem_cons_of_mem _ (List.mem_cons_of_mem _ (List.mem_cons_of_mem _ (List.mem_cons_of_mem _ List.mem_cons_self)))))
  have g6 : 0 ≤ (0 : Int) + (1 * a4 + 0) := hg _ (List.mem_cons_of_mem _ (List.mem_cons_of_mem _ (List.mem_cons_of_mem _ (List.mem_cons_of_mem _ (List.mem_cons_of_mem _ (List.mem_cons_of_mem _ List.mem_cons_self))))))
  have g7 : 0 ≤ (4294967294 : Int) + ((-1) * a4 + 0) := hg _ (List.mem_cons_of_mem _ (List.mem_cons_of_mem _ (List.mem_cons_of_mem _ (List.mem_cons_of_mem _ (List.mem_cons_of_mem _ (List.mem_cons_of_mem _ (List.mem_cons_of_mem _ List.mem_cons_self)))))))
  have g8 : 0 ≤ (0 : Int) + (1 * a5 + 0) := hg _ (List.mem_cons_of_mem _ (List.mem_cons_of_mem _ (List.mem_cons_of_mem _ (List.mem_cons_of_mem _ (List.mem_cons_of_mem _ (List.mem_cons_of_mem _ (List.mem_cons_of_mem _ (List.mem_cons_of_mem _ List.mem_cons_self))))))))
  have g9 : 0 ≤ (4294967294 : Int) + ((-1) * a5 + 0) := hg _ (List.mem_cons_of_mem _ (List.mem_cons_of_mem _ (List.mem_cons_of_mem _ (List.mem_cons_of_mem _ (List.mem_cons_of_mem _ (List.mem_cons_of_mem _ (List.mem_cons_of_mem _ (List.mem_cons_of_mem _ (List.mem_cons_of_mem _ List.mem_cons_self)))))))))
  have g10 : 0 ≤ (0 : Int) + (1 * a6 + 0) := hg _ (List.mem_cons_of_mem _ (List.mem_cons_of_mem _ (List.mem_cons_of_mem _ (List.mem_cons_of_mem _ (List.mem_cons_of_mem _ (List.mem_cons_of_mem _ (List.mem_cons_of_mem _ (List.mem_cons_of_mem _ (List.mem_cons_of_mem _ (List.mem_cons_of_mem _ List.mem_cons_self))))))))))
  have g11 : 0 ≤ (4294967294 : Int) + ((-1) * a6 + 0) := hg _ (List.mem_cons_of_mem _ (List.mem_cons_of_mem _ (List.mem_cons_of_mem _ (List.mem_cons_of_mem _ (List.mem_cons_of_mem _ (List.mem_cons_of_mem _ (List.mem_cons_of_mem _ (List.mem_cons_of_mem _ (List.mem_cons_of_mem _ (List.mem_cons_of_mem _ (List.mem_cons_of_mem _ List.mem_cons_self)))))))))))
  have g12 : 0 ≤ (0 : Int) + (1 * (zk_xe w 207 a7) + 0) := hg _ (List.mem_cons_of_mem _ (List.mem_cons_of_mem _ (List.mem_cons_of_mem _ (List.mem_cons_of_mem _ (List.mem_cons_of_mem _ (List.mem_cons_of_mem _ (List.mem_cons_of_mem _ (List.mem_cons_of_mem _ (List.mem_cons_of_mem _ (List.mem_cons_of_mem _ (List.mem_cons_of_mem _ (List.mem_cons_of_mem _ List.mem_cons_self))))))))))))
  have g13 : 0 ≤ (0 : Int) + (1 * j + ((-8000) * a2 + ((-1) * (zk_xe w 207 a7) + 0))) := hg _ (List.mem_cons_of_mem _ (List.mem_cons_of_mem _ (List.mem_cons_of_mem _ (List.mem_cons_of_mem _ (List.mem_cons_of_mem _ (List.mem_cons_of_mem _ (List.mem_cons_of_mem _ (List.mem_cons_of_mem _ (List.mem_cons_of_mem _ (List.mem_cons_of_mem _ (List.mem_cons_of_mem _ (List.mem_cons_of_mem _ (List.mem_cons_of_mem _ List.mem_cons_self)))))))))))))
  have hn : zh_e w 207 (a2) = zk_xe w 207 a7 := by rw [zk_xe_r (i := 207) (by decide)]; show zk_el w 207 (a2) = zk_el w 207 a7; rw [show a2 = a7 by omega]
  have hp := (zs_70 (w := w) (j := a0) (n := a1) (u := a2) (c := a3) (z := a4) (m := a5) (l := a6) (by omega) (by omega) (by omega) (by omega) (by omega) (by omega) (by omega) (by omega) (by omega) (by omega) (by omega) (by omega) (by omega) ).mp (by omega)
  have h : zs_ps w' a1 a2 a3 a4 a5 a6 := zs_gen (by rw [zh_e_g (hw.1 224 (by decide))]; exact id) (fun i i1 i2 => ⟨congrFun (zh_e_g (hw.1 208 (by decide))) i, congrFun (zh_e_g (hw.1 209 (by decide))) i, congrFun (zh_e_g (hw.1 210 (by decide))) i, hw.2 i (by omega) (by omega), congrFun (zh_e_g (hw.1 212 (by decide))) i⟩) (congrFun (zh_e_g (hw.1 207 (by decide))) a2) (Int.le_refl _) (fun i i1 i2 => ⟨congrFun (zh_e_g (hw.1 229 (by decide))) i, congrFun (zh_e_g (hw.1 230 (by decide))) i⟩) (Or.inr (congrFun (zh_e_g (hw.1 250 (by decide))) 0)) (fun i i1 i2 i3 => ⟨congrFun (zh_e_g (hw.1 250 (by decide))) i, congrFun (zh_e_g (hw.1 240 (by decide))) i, congrFun (zh_e_g (hw.1 241 (by decide))) i, congrFun (zh_e_g (hw.1 242 (by decide))) i⟩) (Int.le_refl _) (fun i i1 i2 => congrFun (zh_e_g (hw.1 253 (by decide))) i) (Int.le_refl _) (fun i i1 i2 => ⟨congrFun (zh_e_g (hw.1 227 (by decide))) i, congrFun (zh_e_g (hw.1 226 (by decide))) i⟩) hp
  exact (zx_eF1 (by show 0 ≤ (0 : Int) + (1 * a0 + 0); omega) (by show zk_xe w' 2000070 ((0 : Int) + (1 * a0 + 0)) = (1 : Int) + (0); rw [show (0 : Int) + (1 * a0 + 0) = a0 by omega]; exact ((zs_70 (w := w') (j := a0) (n := a1) (u := a2) (c := a3) (z := a4) (m := a5) (l := a6) (by omega) (by omega) (by omega) (by omega) (by omega) (by omega) (by omega) (by omega) (by omega) (by omega) (by omega) (by omega) (by omega) ).mpr h).trans (by omega)) zx_eF0)
def zx_E524 : zx_V := zx_Vc 212 [] 8 [(2000070, 0), (207, 7)] [((0, 0), [(2, 1, 0), (3, 0, 1), (4, 0, 4294967296), (5, 0, 18446744073709551616), (6, 0, 79228162514264337593543950336), (7, 0, 340282366920938463463374607431768211456), (8, 0, 1461501637330902918203684832716283019655932542976)]), ((0, 1), [(10, 1, 0)]), ((0, 0), [(4, 0, 1), (9, 1, 0)])] [((0, 0), [(3, 1, 0)]), ((4294967294, 0), [(3, 0, 1)]), ((0, 0), [(4, 1, 0)]), ((4294967294, 0), [(4, 0, 1)]), ((0, 0), [(5, 1, 0)]), ((4294967294, 0), [(5, 0, 1)]), ((0, 0), [(6, 1, 0)]), ((4294967294, 0), [(6, 0, 1)]), ((0, 0), [(7, 1, 0)]), ((4294967294, 0), [(7, 0, 1)]), ((0, 0), [(8, 1, 0)]), ((4294967294, 0), [(8, 0, 1)]), ((0, 0), [(11, 1, 0)]), ((0, 0), [(0, 1, 0), (4, 0, 8000), (11, 0, 1)])] [(2000070, ((0, 0), [(2, 1, 0)]), ((1, 0), []))]
theorem zx_E524_ok {PT : Nat → zz_W → Prop} : zx_Vok 64 zHT PT zx_E524 := by
  refine zx_Vc_ok (fun w w' j ins hI hI' h0 hw hK hl he hg => ?_)
  obtain ⟨a0, a1, a2, a3, a4, a5, a6, a7, rfl⟩ := zx_i8 hl
  have e0 : (0 : Int) + (1 * a0 + ((-1) * a1 + ((-4294967296) * a2 + ((-18446744073709551616) * a3 + ((-79228162514264337593543950336) * a4 + ((-340282366920938463463374607431768211456) * a5 + ((-1461501637330902918203684832716283019655932542976) * a6 + 0))))))) = 0 := he _ List.mem_cons_self
  have e1 : ((-1) : Int) + (1 * (zk_xe w 2000070 a0) + 0) = 0 := he _ (List.mem_cons_of_mem _ List.mem_cons_self)
  have e2 : (0 : Int) + ((-1) * a2 + (1 * a7 + 0)) = 0 := he _ (List.mem_cons_of_mem _ (List.mem_cons_of_mem _ List.mem_cons_self))
  have g0 : 0 ≤ (0 : Int) + (1 * a1 + 0) := hg _ List.mem_cons_self
  have g1 : 0 ≤ (4294967294 : Int) + ((-1) * a1 + 0) := hg _ (List.mem_cons_of_mem _ List.mem_cons_self)
  have g2 : 0 ≤ (0 : Int) + (1 * a2 + 0) := hg _ (List.mem_cons_of_mem _ (List.mem_cons_of_mem _ List.mem_cons_self))
  have g3 : 0 ≤ (4294967294 : Int) + ((-1) * a2 + 0) := hg _ (List.mem_cons_of_mem _ (List.mem_cons_of_mem _ (List.mem_cons_of_mem _ List.mem_cons_self)))
  have g4 : 0 ≤ (0 : Int) + (1 * a3 + 0) := hg _ (List.mem_cons_of_mem _ (List.mem_cons_of_mem _ (List.mem_cons_of_mem _ (List.mem_cons_of_mem _ List.mem_cons_self))))
  have g5 : 0 ≤ (4294967294 : Int) + ((-1) * a3 + 0) := hg _ (List.mem_cons_of_mem _ (List.mem_cons_of_mem _ (List.mem_cons_of_mem _ (List.mem_cons_of_mem _ (List.mem_cons_of_mem _ List.mem_cons_self)))))
  have g6 : 0 ≤ (0 : Int) + (1 * a4 + 0) := hg _ (List.mem_cons_of_mem _ (List.mem_cons_of_mem _ (List.mem_cons_of_mem _ (List.mem_cons_of_mem _ (List.mem_cons_of_mem _ (List.mem_cons_of_mem _ List.mem_cons_self))))))
  have g7 : 0 ≤ (4294967294 : Int) + ((-1) * a4 + 0) := hg _ (List.mem_cons_of_mem _ (List.mem_cons_of_mem _ (List.mem_cons_of_mem _ (List.mem_cons_of_mem _ (List.mem_cons_of_mem _ (List.mem_cons_of_mem _ (List.mem_cons_of_mem _ List.mem_cons_self)))))))
  have g8 : 0 ≤ (0 : Int) + (1 * a5 + 0) := hg _ (List.mem_cons_of_mem _ (List.mem_cons_of_mem _ (List.mem_cons_of_mem _ (List.mem_cons_of_mem _ (List.mem_cons_of_mem _ (List.mem_cons_of_mem _ (List.mem_cons_of_mem _ (List.mem_cons_of_mem _ List.mem_cons_self))))))))
  have g9 : 0 ≤ (4294967294 : Int) + ((-1) * a5 + 0) := hg _ (List.mem_cons_of_mem _ (List.mem_cons_of_mem _ (List.mem_cons_of_mem _ (List.mem_cons_of_mem _ (List.mem_cons_of_mem _ (List.mem_cons_of_mem _ (List.mem_cons_of_mem _ (List.mem_cons_of_mem _ (List.mem_cons_of_mem _ List.mem_cons_self)))))))))
  have g10 : 0 ≤ (0 : Int) + (1 * a6 + 0) := hg _ (List.mem_cons_of_mem _ (List.mem_cons_of_mem _ (List.mem_cons_of_mem _ (List.mem_cons_of_mem _ (List.mem_cons_of_mem _ (List.mem_cons_of_mem _ (List.mem_cons_of_mem _ (List.mem_cons_of_mem _ (List.mem_cons_of_mem _ (List.mem_cons_of_mem _ List.mem_cons_self))))))))))
  have g11 : 0 ≤ (4294967294 : Int) + ((-1) * a6 + 0) := hg _ (List.mem_cons_of_mem _ (List.mem_cons_of_mem _ (List.mem_cons_of_mem _ (List.mem_cons_of_mem _ (List.mem_cons_of_mem _ (List.mem_cons_of_mem _ (List.mem_cons_of_mem _ (List.mem_cons_of_mem _ (List.mem_cons_of_mem _ (List.mem_cons_of_mem _ (List.mem_cons_of_mem _ List.mem_cons_self)))))))))))
  have g12 : 0 ≤ (0 : Int) + (1 * (zk_xe w 207 a7) + 0) := hg _ (List.mem_cons_of_mem _ (List.mem_cons_of_mem _ (List.mem_cons_of_mem _ (List.mem_cons_of_mem _ (List.mem_cons_of_mem _ (List.mem_cons_of_mem _ (List.mem_cons_of_mem _ (List.mem_cons_of_mem _ (List.mem_cons_of_mem _ (List.mem_cons_of_mem _ (List.mem_cons_of_mem _ (List.mem_cons_of_mem _ List.mem_cons_self))))))))))))
  have g13 : 0 ≤ (0 : Int) + (1 * j + ((-8000) * a2 + ((-1) * (zk_xe w 207 a7) + 0))) := hg _ (List.mem_cons_of_mem _ (List.mem_cons_of_mem _ (List.mem_cons_of_mem _ (List.mem_cons_of_mem _ (List.mem_cons_of_mem _ (List.mem_cons_of_mem _ (List.mem_cons_of_mem _ (List.mem_cons_of_mem _ (List.mem_cons_of_mem _ (List.mem_cons_of_mem _ (List.mem_cons_of_mem _ (List.mem_cons_of_mem _ (List.mem_cons_of_mem _ List.mem_cons_self)))))))))))))
  have hn : zh_e w 207 (a2) = zk_xe w 207 a7 := by rw [zk_xe_r (i := 207) (by decide)]; show zk_el w 207 (a2) = zk_el w 207 a7; rw [show a2 = a7 by omega]
  have hp := (zs_70 (w := w) (j := a0) (n := a1) (u := a2) (c := a3) (z := a4) (m := a5) (l := a6) (by omega) (by omega) (by omega) (by omega) (by omega) (by omega) (by omega) (by omega) (by omega) (by omega) (by omega) (by omega) (by omega) ).mp (by omega)
  have h : zs_ps w' a1 a2 a3 a4 a5 a6 := zs_gen (by rw [zh_e_g (hw.1 224 (by decide))]; exact id) (fun i i1 i2 => ⟨congrFun (zh_e_g (hw.1 208 (by decide))) i, congrFun (zh_e_g (hw.1 209 (by decide))) i, congrFun (zh_e_g (hw.1 210 (by decide))) i, congrFun (zh_e_g (hw.1 211 (by decide))) i, hw.2 i (by omega) (by omega)⟩) (congrFun (zh_e_g (hw.1 207 (by decide))) a2) (Int.le_refl _) (fun i i1 i2 => ⟨congrFun (zh_e_g (hw.1 229 (by decide))) i, congrFun (zh_e_g (hw.1 230 (by decide))) i⟩) (Or.inr (congrFun (zh_e_g (hw.1 250 (by decide))) 0)) (fun i i1 i2 i3 => ⟨congrFun (zh_e_g (hw.1 250 (by decide))) i, congrFun (zh_e_g (hw.1 240 (by decide))) i, congrFun (zh_e_g (hw.1 241 (by decide))) i, congrFun (zh_e_g (hw.1 242 (by decide))) i⟩) (Int.le_refl _) (fun i i1 i2 => congrFun (zh_e_g (hw.1 253 (by decide))) i) (Int.le_refl _) (fun i i1 i2 => ⟨congrFun (zh_e_g (hw.1 227 (by decide))) i, congrFun (zh_e_g (hw.1 226 (by decide))) i⟩) hp
  exact (zx_eF1 (by show 0 ≤ (0 : Int) + (1 * a0 + 0); omega) (by show zk_xe w' 2000070 ((0 : Int) + (1 * a0 + 0)) = (1 : Int) + (0); rw [show (0 : Int) + (1 * a0 + 0) = a0 by omega]; exact ((zs_70 (w := w') (j := a0) (n := a1) (u := a2) (c := a3) (z := a4) (m := a5) (l := a6) (by omega) (by omega) (by omega) (by omega) (by omega) (by omega) (by omega) (by omega) (by omega) (by omega) (by omega) (by omega) (by omega) ).mpr h).trans (by omega)) zx_eF0)
def zx_E525 : zx_V := zx_Vc 229 [] 7 [(2000070, 0)] [((0, 0), [(2, 1, 0), (3, 0, 1), (4, 0, 4294967296), (5, 0, 18446744073709551616), (6, 0, 79228162514264337593543950336), (7, 0, 340282366920938463463374607431768211456), (8, 0, 1461501637330902918203684832716283019655932542976)]), ((0, 1), [(9, 1, 0)])] [((0, 0), [(3, 1, 0)]), ((4294967294, 0), [(3, 0, 1)]), ((0, 0), [(4, 1, 0)]), ((4294967294, 0), [(4, 0, 1)]), ((0, 0), [(5, 1, 0)]), ((4294967294, 0), [(5, 0, 1)]), ((0, 0), [(6, 1, 0)]), ((4294967294, 0), [(6, 0, 1)]), ((0, 0), [(7, 1, 0)]), ((4294967294, 0), [(7, 0, 1)]), ((0, 0), [(8, 1, 0)]), ((4294967294, 0), [(8, 0, 1)]), ((0, 0), [(0, 1, 0), (3, 0, 1)])] [(2000070, ((0, 0), [(2, 1, 0)]), ((1, 0), []))]
theorem zx_E525_ok {PT : Nat → zz_W → Prop} : zx_Vok 64 zHT PT zx_E525 := by
  refine zx_Vc_ok (fun w w' j ins hI hI' h0 hw hK hl he hg => ?_)
  obtain ⟨a0, a1, a2, a3, a4, a5, a6, rfl⟩ := zx_i7 hl
  have e0 : (0 : Int) + (1 * a0 + ((-1) * a1 + ((-4294967296) * a2 + ((-18446744073709551616) * a3 + ((-79228162514264337593543950336) * a4 + ((-340282366920938463463374607431768211456) * a5 + ((-1461501637330902918203684832716283019655932542976) * a6 + 0))))))) = 0 := he _ List.mem_cons_self
  have e1 : ((-1) : Int) + (1 * (zk_xe w 2000070 a0) + 0) = 0 := he _ (List.mem_cons_of_mem _ List.mem_cons_self)
  have g0 : 0 ≤ (0 : Int) + (1 * a1 + 0) := hg _ List.mem_cons_self
  have g1 : 0 ≤ (4294967294 : Int) + ((-1) * a1 + 0) := hg _ (List.mem_cons_of_mem _ List.mem_cons_self)
  have g2 : 0 ≤ (0 : Int) + (1 * a2 + 0) := hg _ (List.mem_cons_of_mem _ (List.mem_cons_of_mem _ List.mem_cons_self))
  have g3 : 0 ≤ (4294967294 : Int) + ((-1) * a2 + 0) := hg _ (List.mem_cons_of_mem _ (List.mem_cons_of_mem _ (List.mem_cons_of_mem _ List.mem_cons_self)))
  have g4 : 0 ≤ (0 : Int) + (1 * a3 + 0) := hg _ (List.mem_cons_of_mem _ (List.mem_cons_of_mem _ (List.mem_cons_of_mem _ (List.mem_cons_of_mem _ List.mem_cons_self))))
  have g5 : 0 ≤ (4294967294 : Int) + ((-1) * a3 + 0) := hg _ (List.mem_cons_of_mem _ (List.mem_cons_of_mem _ (List.mem_cons_of_mem _ (List.mem_cons_of_mem _ (List.mem_cons_of_mem _ List.mem_cons_self)))))
  have g6 : 0 ≤ (0 : Int) + (1 * a4 + 0) := hg _ (List.mem_cons_of_mem _ (List.mem_cons_of_mem _ (List.mem_cons_of_mem _ (List.mem_cons_of_mem _ (List.mem_cons_of_mem _ (List.mem_cons_of_mem _ List.mem_cons_self))))))
  have g7 : 0 ≤ (4294967294 : Int) + ((-1) * a4 + 0) := hg _ (List.mem_cons_of_mem _ (List.mem_cons_of_mem _ (List.mem_cons_of_mem _ (List.mem_cons_of_mem _ (List.mem_cons_of_mem _ (List.mem_cons_of_mem _ (List.mem_cons_of_mem _ List.mem_cons_self)))))))
  have g8 : 0 ≤ (0 : Int) + (1 * a5 + 0) := hg _ (List.mem_cons_of_mem _ (List.mem_cons_of_mem _ (List.mem_cons_of_mem _ (List.mem_cons_of_mem _ (List.mem_cons_of_mem _ (List.mem_cons_of_mem _ (List.mem_cons_of_mem _ (List.mem_cons_of_mem _ List.mem_cons_self))))))))
  have g9 : 0 ≤ (4294967294 : Int) + ((-1) * a5 + 0) := hg _ (List.mem_cons_of_mem _ (List.mem_cons_of_mem _ (List.mem_cons_of_mem _ (List.mem_cons_of_mem _ (List.mem_cons_of_mem _ (List.mem_cons_of_mem _ (List.mem_cons_of_mem _ (List.mem_cons_of_mem _ (List.mem_cons_of_mem _ List.mem_cons_self)))))))))
  have g10 : 0 ≤ (0 : Int) + (1 * a6 + 0) := hg _ (List.mem_cons_of_mem _ (List.mem_cons_of_mem _ (List.mem_cons_of_mem _ (List.mem_cons_of_mem _ (List.mem_cons_of_mem _ (List.mem_cons_of_mem _ (List.mem_cons_of_mem _ (List.mem_cons_of_mem _ (List.mem_cons_of_mem _ (List.mem_cons_of_mem _ List.mem_cons_self))))))))))
  have g11 : 0 ≤ (4294967294 : Int) + ((-1) * a6 + 0) := hg _ (List.mem_cons_of_mem _ (List.mem_cons_of_mem _ (List.mem_cons_of_mem _ (List.mem_cons_of_mem _ (List.mem_cons_of_mem _ (List.mem_cons_of_mem _ (List.mem_cons_of_mem _ (List.mem_cons_of_mem _ (List.mem_cons_of_mem _ (List.mem_cons_of_mem _ (List.mem_cons_of_mem _ List.mem_cons_self)))))))))))
  have g12 : 0 ≤ (0 : Int) + (1 * j + ((-1) * a1 + 0)) := hg _ (List.mem_cons_of_mem _ (List.mem_cons_of_mem _ (List.mem_cons_of_mem _ (List.mem_cons_of_mem _ (List.mem_cons_of_mem _ (List.mem_cons_of_mem _ (List.mem_cons_of_mem _ (List.mem_cons_of_mem _ (List.mem_cons_of_mem _ (List.mem_cons_of_mem _ (List.mem_cons_of_mem _ (List.mem_cons_of_mem _ List.mem_cons_self))))))))))))
  have hp := (zs_70 (w := w) (j := a0) (n := a1) (u := a2) (c := a3) (z := a4) (m := a5) (l := a6) (by omega) (by omega) (by omega) (by omega) (by omega) (by omega) (by omega) (by omega) (by omega) (by omega) (by omega) (by omega) (by omega) ).mp (by omega)
  have h : zs_ps w' a1 a2 a3 a4 a5 a6 := zs_gen (by rw [zh_e_g (hw.1 224 (by decide))]; exact id) (fun i i1 i2 => ⟨congrFun (zh_e_g (hw.1 208 (by decide))) i, congrFun (zh_e_g (hw.1 209 (by decide))) i, congrFun (zh_e_g (hw.1 210 (by decide))) i, congrFun (zh_e_g (hw.1 211 (by decide))) i, congrFun (zh_e_g (hw.1 212 (by decide))) i⟩) (congrFun (zh_e_g (hw.1 207 (by decide))) a2) (Int.le_refl _) (fun i i1 i2 => ⟨hw.2 i (by omega) (by omega), congrFun (zh_e_g (hw.1 230 (by decide))) i⟩) (Or.inr (congrFun (zh_e_g (hw.1 250 (by decide))) 0)) (fun i i1 i2 i3 => ⟨congrFun (zh_e_g (hw.1 250 (by decide))) i, congrFun (zh_e_g (hw.1 240 (by decide))) i, congrFun (zh_e_g (hw.1 241 (by decide))) i, congrFun (zh_e_g (hw.1 242 (by decide))) i⟩) (Int.le_refl _) (fun i i1 i2 => congrFun (zh_e_g (hw.1 253 (by decide))) i) (Int.le_refl _) (fun i i1 i2 => ⟨congrFun (zh_e_g (hw.1 227 (by decide))) i, congrFun (zh_e_g (hw.1 226 (by decide))) i⟩) hp
  exact (zx_eF1 (by show 0 ≤ (0 : Int) + (1 * a0 + 0); omega) (by show zk_xe w' 2000070 ((0 : Int) + (1 * a0 + 0)) = (1 : Int) + (0); rw [show (0 : Int) + (1 * a0 + 0) = a0 by omega]; exact ((zs_70 (w := w') (j := a0) (n := a1) (u := a2) (c := a3) (z := a4) (m := a5) (l := a6) (by omega) (by omega) (by omega) (by omega) (by omega) (by omega) (by omega) (by omega) (by omega) (by omega) (by omega) (by omega) (by omega) ).mpr h).trans (by omega)) zx_eF0)
def zx_E526 : zx_V := zx_Vc 230 [] 7 [(2000070, 0)] [((0, 0), [(2, 1, 0), (3, 0, 1), (4, 0, 4294967296), (5, 0, 18446744073709551616), (6, 0, 79228162514264337593543950336), (7, 0, 340282366920938463463374607431768211456), (8, 0, 1461501637330902918203684832716283019655932542976)]), ((0, 1), [(9, 1, 0)])] [((0, 0), [(3, 1, 0)]), ((4294967294, 0), [(3, 0, 1)]), ((0, 0), [(4, 1, 0)]), ((4294967294, 0), [(4, 0, 1)]), ((0, 0), [(5, 1, 0)]), ((4294967294, 0), [(5, 0, 1)]), ((0, 0), [(6, 1, 0)]), ((4294967294, 0), [(6, 0, 1)]), ((0, 0), [(7, 1, 0)]), ((4294967294, 0), [(7, 0, 1)]), ((0, 0), [(8, 1, 0)]), ((4294967294, 0), [(8, 0, 1)]), ((0, 0), [(0, 1, 0), (3, 0, 1)])] [(2000070, ((0, 0), [(2, 1, 0)]), ((1, 0), []))]
theorem zx_E526_ok {PT : Nat → zz_W → Prop} : zx_Vok 64 zHT PT zx_E526 := by
  refine zx_Vc_ok (fun w w' j ins hI hI' h0 hw hK hl he hg => ?_)
  obtain ⟨a0, a1, a2, a3, a4, a5, a6, rfl⟩ := zx_i7 hl
  have e0 : (0 : Int) + (1 * a0 + ((-1) * a1 + ((-4294967296) * a2 + ((-18446744073709551616) * a3 + ((-79228162514264337593543950336) * a4 + ((-340282366920938463463374607431768211456) * a5 + ((-1461501637330902918203684832716283019655932542976) * a6 + 0))))))) = 0 := he _ List.mem_cons_self
  have e1 : ((-1) : Int) + (1 * (zk_xe w 2000070 a0) + 0) = 0 := he _ (List.mem_cons_of_mem _ List.mem_cons_self)
  have g0 : 0 ≤ (0 : Int) + (1 * a1 + 0) := hg _ List.mem_cons_self
  have g1 : 0 ≤ (4294967294 : Int) + ((-1) * a1 + 0) := hg _ (List.mem_cons_of_mem _ List.mem_cons_self)
  have g2 : 0 ≤ (0 : Int) + (1 * a2 + 0) := hg _ (List.mem_cons_of_mem _ (List.mem_cons_of_mem _ List.mem_cons_self))
  have g3 : 0 ≤ (4294967294 : Int) + ((-1) * a2 + 0) := hg _ (List.mem_cons_of_mem _ (List.mem_cons_of_mem _ (List.mem_cons_of_mem _ List.mem_cons_self)))
  have g4 : 0 ≤ (0 : Int) + (1 * a3 + 0) := hg _ (List.mem_cons_of_mem _ (List.mem_cons_of_mem _ (List.mem_cons_of_mem _ (List.mem_cons_of_mem _ List.mem_cons_self))))
  have g5 : 0 ≤ (4294967294 : Int) + ((-1) * a3 + 0) := hg _ (List.mem_cons_of_mem _ (List.mem_cons_of_mem _ (List.mem_cons_of_mem _ (List.mem_cons_of_mem _ (List.mem_cons_of_mem _ List.mem_cons_self)))))
  have g6 : 0 ≤ (0 : Int) + (1 * a4 + 0) := hg _ (List.mem_cons_of_mem _ (List.mem_cons_of_mem _ (List.mem_cons_of_mem _ (List.mem_cons_of_mem _ (List.mem_cons_of_mem _ (List.mem_cons_of_mem _ List.mem_cons_self))))))
  have g7 : 0 ≤ (4294967294 : Int) + ((-1) * a4 + 0) := hg _ (List.mem_cons_of_mem _ (List.mem_cons_of_mem _ (List.mem_cons_of_mem _ (List.mem_cons_of_mem _ (List.mem_cons_of_mem _ (List.mem_cons_of_mem _ (List.mem_cons_of_mem _ List.mem_cons_self)))))))
  have g8 : 0 ≤ (0 : Int) + (1 * a5 + 0) := hg _ (List.mem_cons_of_mem _ (List.mem_cons_of_mem _ (List.mem_cons_of_mem _ (List.mem_cons_of_mem _ (List.mem_cons_of_mem _ (List.mem_cons_of_mem _ (List.mem_cons_of_mem _ (List.mem_cons_of_mem _ List.mem_cons_self))))))))
  have g9 : 0 ≤ (4294967294 : Int) + ((-1) * a5 + 0) := hg _ (List.mem_cons_of_mem _ (List.mem_cons_of_mem _ (List.mem_cons_of_mem _ (List.mem_cons_of_mem _ (List.mem_cons_of_mem _ (List.mem_cons_of_mem _ (List.mem_cons_of_mem _ (List.mem_cons_of_mem _ (List.mem_cons_of_mem _ List.mem_cons_self)))))))))
  have g10 : 0 ≤ (0 : Int) + (1 * a6 + 0) := hg _ (List.mem_cons_of_mem _ (List.mem_cons_of_mem _ (List.mem_cons_of_mem _ (List.mem_cons_of_mem _ (List.mem_cons_of_mem _ (List.mem_cons_of_mem _ (List.mem_cons_of_mem _ (List.mem_cons_of_mem _ (List.mem_cons_of_mem _ (List.mem_cons_of_mem _ List.mem_cons_self))))))))))
  have g11 : 0 ≤ (4294967294 : Int) + ((-1) * a6 + 0) := hg _ (List.mem_cons_of_mem _ (List.mem_cons_of_mem _ (List.mem_cons_of_mem _ (List.mem_cons_of_mem _ (List.mem_cons_of_mem _ (List.mem_cons_of_mem _ (List.mem_cons_of_mem _ (List.mem_cons_of_mem _ (List.mem_cons_of_mem _ (List.mem_cons_of_mem _ (List.mem_cons_of_mem _ List.mem_cons_self)))))))))))
  have g12 : 0 ≤ (0 : Int) + (1 * j + ((-1) * a1 + 0)) := hg _ (List.mem_cons_of_mem _ (List.mem_cons_of_mem _ (List.mem_cons_of_mem _ (List.mem_cons_of_mem _ (List.mem_cons_of_mem _ (List.mem_cons_of_mem _ (List.mem_cons_of_mem _ (List.mem_cons_of_mem _ (List.mem_cons_of_mem _ (List.mem_cons_of_mem _ (List.mem_cons_of_mem _ (List.mem_cons_of_mem _ List.mem_cons_self))))))))))))
  have hp := (zs_70 (w := w) (j := a0) (n := a1) (u := a2) (c := a3) (z := a4) (m := a5) (l := a6) (by omega) (by omega) (by omega) (by omega) (by omega) (by omega) (by omega) (by omega) (by omega) (by omega) (by omega) (by omega) (by omega) ).mp (by omega)
  have h : zs_ps w' a1 a2 a3 a4 a5 a6 := zs_gen (by rw [zh_e_g (hw.1 224 (by decide))]; exact id) (fun i i1 i2 => ⟨congrFun (zh_e_g (hw.1 208 (by decide))) i, congrFun (zh_e_g (hw.1 209 (by decide))) i, congrFun (zh_e_g (hw.1 210 (by decide))) i, congrFun (zh_e_g (hw.1 211 (by decide))) i, congrFun (zh_e_g (hw.1 212 (by decide))) i⟩) (congrFun (zh_e_g (hw.1 207 (by decide))) a2) (Int.le_refl _) (fun i i1 i2 => ⟨congrFun (zh_e_g (hw.1 229 (by decide))) i, hw.2 i (by omega) (by omega)⟩) (Or.inr (congrFun (zh_e_g (hw.1 250 (by decide))) 0)) (fun i i1 i2 i3 => ⟨congrFun (zh_e_g (hw.1 250 (by decide))) i, congrFun (zh_e_g (hw.1 240 (by decide))) i, congrFun (zh_e_g (hw.1 241 (by decide))) i, congrFun (zh_e_g (hw.1 242 (by decide))) i⟩) (Int.le_refl _) (fun i i1 i2 => congrFun (zh_e_g (hw.1 253 (by decide))) i) (Int.le_refl _) (fun i i1 i2 => ⟨congrFun (zh_e_g (hw.1 227 (by decide))) i, congrFun (zh_e_g (hw.1 226 (by decide))) i⟩) hp
  exact (zx_eF1 (by show 0 ≤ (0 : Int) + (1 * a0 + 0); omega) (by show zk_xe w' 2000070 ((0 : Int) + (1 * a0 + 0)) = (1 : Int) + (0); rw [show (0 : Int) + (1 * a0 + 0) = a0 by omega]; exact ((zs_70 (w := w') (j := a0) (n := a1) (u := a2) (c := a3) (z := a4) (m := a5) (l := a6) (by omega) (by omega) (by omega) (by omega) (by omega) (by omega) (by omega) (by omega) (by omega) (by omega) (by omega) (by omega) (by omega) ).mpr h).trans (by omega)) zx_eF0)
def zx_E527 : zx_V := zx_Vc 250 [] 7 [(2000070, 0)] [((0, 0), [(2, 1, 0), (3, 0, 1), (4, 0, 4294967296), (5, 0, 18446744073709551616), (6, 0, 79228162514264337593543950336), (7, 0, 340282366920938463463374607431768211456), (8, 0, 1461501637330902918203684832716283019655932542976)]), ((0, 1), [(9, 1, 0)])] [((0, 0), [(3, 1, 0)]), ((4294967294, 0), [(3, 0, 1)]), ((0, 0), [(4, 1, 0)]), ((4294967294, 0), [(4, 0, 1)]), ((0, 0), [(5, 1, 0)]), ((4294967294, 0), [(5, 0, 1)]), ((0, 0), [(6, 1, 0)]), ((4294967294, 0), [(6, 0, 1)]), ((0, 0), [(7, 1, 0)]), ((4294967294, 0), [(7, 0, 1)]), ((0, 0), [(8, 1, 0)]), ((4294967294, 0), [(8, 0, 1)]), ((0, 1), [(0, 1, 0)]), ((0, 0), [(0, 1, 0), (5, 0, 1)])] [(2000070, ((0, 0), [(2, 1, 0)]), ((1, 0), []))]
theorem zx_E527_ok {PT : Nat → zz_W → Prop} : zx_Vok 64 zHT PT zx_E527 := by
  refine zx_Vc_ok (fun w w' j ins hI hI' h0 hw hK hl he hg => ?_)
  obtain ⟨a0, a1, a2, a3, a4, a5, a6, rfl⟩ := zx_i7 hl
  have e0 : (0 : Int) + (1 * a0 + ((-1) * a1 + ((-4294967296) * a2 + ((-18446744073709551616) * a3 + ((-79228162514264337593543950336) * a4 + ((-340282366920938463463374607431768211456) * a5 + ((-1461501637330902918203684832716283019655932542976) * a6 + 0))))))) = 0 := he _ List.mem_cons_self
  have e1 : ((-1) : Int) + (1 * (zk_xe w 2000070 a0) + 0) = 0 := he _ (List.mem_cons_of_mem _ List.mem_cons_self)
  have g0 : 0 ≤ (0 : Int) + (1 * a1 + 0) := hg _ List.mem_cons_self
  have g1 : 0 ≤ (4294967294 : Int) + ((-1) * a1 + 0) := hg _ (List.mem_cons_of_mem _ List.mem_cons_self)
  have g2 : 0 ≤ (0 : Int) + (1 * a2 + 0) := hg _ (List.mem_cons_of_mem _ (List.mem_cons_of_mem _ List.mem_cons_self))
  have g3 : 0 ≤ (4294967294 : Int) + ((-1) * a2 + 0) := hg _ (List.mem_cons_of_mem _ (List.mem_cons_of_mem _ (List.mem_cons_of_mem _ List.mem_cons_self)))
  have g4 : 0 ≤ (0 : Int) + (1 * a3 + 0) := hg _ (List.mem_cons_of_mem _ (List.mem_cons_of_mem _ (List.mem_cons_of_mem _ (List.mem_cons_of_mem _ List.mem_cons_self))))
  have g5 : 0 ≤ (4294967294 : Int) + ((-1) * a3 + 0) := hg _ (List.mem_cons_of_mem _ (List.mem_cons_of_mem _ (List.mem_cons_of_mem _ (List.mem_cons_of_mem _ (List.mem_cons_of_mem _ List.mem_cons_self)))))
  have g6 : 0 ≤ (0 : Int) + (1 * a4 + 0) := hg _ (List.mem_cons_of_mem _ (List.mem_cons_of_mem _ (List.mem_cons_of_mem _ (List.mem_cons_of_mem _ (List.mem_cons_of_mem _ (List.mem_cons_of_mem _ List.mem_cons_self))))))
  have g7 : 0 ≤ (4294967294 : Int) + ((-1) * a4 + 0) := hg _ (List.mem_cons_of_mem _ (List.mem_cons_of_mem _ (List.mem_cons_of_mem _ (List.mem_cons_of_mem _ (List.mem_cons_of_mem _ (List.mem_cons_of_mem _ (List.mem_cons_of_mem _ List.mem_cons_self)))))))
  have g8 : 0 ≤ (0 : Int) + (1 * a5 + 0) := hg _ (List.mem_cons_of_mem _ (List.mem_cons_of_mem _ (List.mem_cons_of_mem _ (List.mem_cons_of_mem _ (List.mem_cons_of_mem _ (List.mem_cons_of_mem _ (List.mem_cons_of_mem _ (List.mem_cons_of_mem _ List.mem_cons_self))))))))
  have g9 : 0 ≤ (4294967294 : Int) + ((-1) * a5 + 0) := hg _ (List.mem_cons_of_mem _ (List.mem_cons_of_mem _ (List.mem_cons_of_mem _ (List.mem_cons_of_mem _ (List.mem_cons_of_mem _ (List.mem_cons_of_mem _ (List.mem_cons_of_mem _ (List.mem_cons_of_mem _ (List.mem_cons_of_mem _ List.mem_cons_self)))))))))
  have g10 : 0 ≤ (0 : Int) + (1 * a6 + 0) := hg _ (List.mem_cons_of_mem _ (List.mem_cons_of_mem _ (List.mem_cons_of_mem _ (List.mem_cons_of_mem _ (List.mem_cons_of_mem _ (List.mem_cons_of_mem _ (List.mem_cons_of_mem _ (List.mem_cons_of_mem _ (List.mem_cons_of_mem _ (List.mem_cons_of_mem _ List.mem_cons_self))))))))))
  have g11 : 0 ≤ (4294967294 : Int) + ((-1) * a6 + 0) := hg _ (List.mem_cons_of_mem _ (List.mem_cons_of_mem _ (List.mem_cons_of_mem _ (List.mem_cons_of_mem _ (List.mem_cons_of_mem _ (List.mem_cons_of_mem _ (List.mem_cons_of_mem _ (List.mem_cons_of_mem _ (List.mem_cons_of_mem _ (List.mem_cons_of_mem _ (List.mem_cons_of_mem _ List.mem_cons_self)))))))))))
  have g12 : 0 ≤ ((-1) : Int) + (1 * j + 0) := hg _ (List.mem_cons_of_mem _ (List.mem_cons_of_mem _ (List.mem_cons_of_mem _ (List.mem_cons_of_mem _ (List.mem_cons_of_mem _ (List.mem_cons_of_mem _ (List.mem_cons_of_mem _ (List.mem_cons_of_mem _ (List.mem_cons_of_mem _ (List.mem_cons_of_mem _ (List.mem_cons_of_mem _ (List.mem_cons_of_mem _ List.mem_cons_self))))))))))))
  have g13 : 0 ≤ (0 : Int) + (1 * j + ((-1) * a3 + 0)) := hg _ (List.mem_cons_of_mem _ (List.mem_cons_of_mem _ (List.mem_cons_of_mem _ (List.mem_cons_of_mem _ (List.mem_cons_of_mem _ (List.mem_cons_of_mem _ (List.mem_cons_of_mem _ (List.mem_cons_of_mem _ (List.mem_cons_of_mem _ (List.mem_cons_of_mem _ (List.mem_cons_of_mem _ (List.mem_cons_of_mem _ (List.mem_cons_of_mem _ List.mem_cons_self)))))))))))))
  have hp := (zs_70 (w := w) (j := a0) (n := a1) (u := a2) (c := a3) (z := a4) (m := a5) (l := a6) (by omega) (by omega) (by omega) (by omega) (by omega) (by omega) (by omega) (by omega) (by omega) (by omega) (by omega) (by omega) (by omega) ).mp (by omega)
  have h : zs_ps w' a1 a2 a3 a4 a5 a6 := zs_gen (by rw [zh_e_g (hw.1 224 (by decide))]; exact id) (fun i i1 i2 => ⟨congrFun (zh_e_g (hw.1 208 (by decide))) i, congrFun (zh_e_g (hw.1 209 (by decide))) i, congrFun (zh_e_g (hw.1 210 (by decide))) i, congrFun (zh_e_g (hw.1 211 (by decide))) i, congrFun (zh_e_g (hw.1 212 (by decide))) i⟩) (congrFun (zh_e_g (hw.1 207 (by decide))) a2) (Int.le_refl _) (fun i i1 i2 => ⟨congrFun (zh_e_g (hw.1 229 (by decide))) i, congrFun (zh_e_g (hw.1 230 (by decide))) i⟩) (Or.inr (hw.2 0 (by omega) (by omega))) (fun i i1 i2 i3 => ⟨hw.2 i (by omega) (by omega), congrFun (zh_e_g (hw.1 240 (by decide))) i, congrFun (zh_e_g (hw.1 241 (by decide))) i, congrFun (zh_e_g (hw.1 242 (by decide))) i⟩) (Int.le_refl _) (fun i i1 i2 => congrFun (zh_e_g (hw.1 253 (by decide))) i) (Int.le_refl _) (fun i i1 i2 => ⟨congrFun (zh_e_g (hw.1 227 (by decide))) i, congrFun (zh_e_g (hw.1 226 (by decide))) i⟩) hp
  exact (zx_eF1 (by show 0 ≤ (0 : Int) + (1 * a0 + 0); omega) (by show zk_xe w' 2000070 ((0 : Int) + (1 * a0 + 0)) = (1 : Int) + (0); rw [show (0 : Int) + (1 * a0 + 0) = a0 by omega]; exact ((zs_70 (w := w') (j := a0) (n := a1) (u := a2) (c := a3) (z := a4) (m := a5) (l := a6) (by omega) (by omega) (by omega) (by omega) (by omega) (by omega) (by omega) (by omega) (by omega) (by omega) (by omega) (by omega) (by omega) ).mpr h).trans (by omega)) zx_eF0)
def zx_E528 : zx_V := zx_Vc 250 [] 7 [(2000070, 0)] [((0, 0), [(2, 1, 0), (3, 0, 1), (4, 0, 4294967296), (5, 0, 18446744073709551616), (6, 0, 79228162514264337593543950336), (7, 0, 340282366920938463463374607431768211456), (8, 0, 1461501637330902918203684832716283019655932542976)]), ((0, 1), [(9, 1, 0)]), ((0, 0), [(5, 1, 0)]), ((0, 0), [(7, 1, 0)])] [((0, 0), [(3, 1, 0)]), ((4294967294, 0), [(3, 0, 1)]), ((0, 0), [(4, 1, 0)]), ((4294967294, 0), [(4, 0, 1)]), ((0, 0), [(5, 1, 0)]), ((4294967294, 0), [(5, 0, 1)]), ((0, 0), [(6, 1, 0)]), ((4294967294, 0), [(6, 0, 1)]), ((0, 0), [(7, 1, 0)]), ((4294967294, 0), [(7, 0, 1)]), ((0, 0), [(8, 1, 0)]), ((4294967294, 0), [(8, 0, 1)])] [(2000070, ((0, 0), [(2, 1, 0)]), ((1, 0), []))]
theorem zx_E528_ok {PT : Nat → zz_W → Prop} : zx_Vok 64 zHT PT zx_E528 := by
  refine zx_Vc_ok (fun w w' j ins hI hI' h0 hw hK hl he hg => ?_)
  obtain ⟨a0, a1, a2, a3, a4, a5, a6, rfl⟩ := zx_i7 hl
  have e0 : (0 : Int) + (1 * a0 + ((-1) * a1 + ((-4294967296) * a2 + ((-18446744073709551616) * a3 + ((-79228162514264337593543950336) * a4 + ((-340282366920938463463374607431768211456) * a5 + ((-1461501637330902918203684832716283019655932542976) * a6 + 0))))))) = 0 := he _ List.mem_cons_self
  have e1 : ((-1) : Int) + (1 * (zk_xe w 2000070 a0) + 0) = 0 := he _ (List.mem_cons_of_mem _ List.mem_cons_self)
  have e2 : (0 : Int) + (1 * a3 + 0) = 0 := he _ (List.mem_cons_of_mem _ (List.mem_cons_of_mem _ List.mem_cons_self))
  have e3 : (0 : Int) + (1 * a5 + 0) = 0 := he _ (List.mem_cons_of_mem _ (List.mem_cons_of_mem _ (List.mem_cons_of_mem _ List.mem_cons_self)))
  have g0 : 0 ≤ (0 : Int) + (1 * a1 + 0) := hg _ List.mem_cons_self
  have g1 : 0 ≤ (4294967294 : Int) + ((-1) * a1 + 0) := hg _ (List.mem_cons_of_mem _ List.mem_cons_self)
  have g2 : 0 ≤ (0 : Int) + (1 * a2 + 0) := hg _ (List.mem_cons_of_mem _ (List.mem_cons_of_mem _ List.mem_cons_self))
  have g3 : 0 ≤ (4294967294 : Int) + ((-1) * a2 + 0) := hg _ (List.mem_cons_of_mem _ (List.mem_cons_of_mem _ (List.mem_cons_of_mem _ List.mem_cons_self)))
  have g4 : 0 ≤ (0 : Int) + (1 * a3 + 0) := hg _ (List.mem_cons_of_mem _ (List.mem_cons_of_mem _ (List.mem_cons_of_mem _ (List.mem_cons_of_mem _ List.mem_cons_self))))
  have g5 : 0 ≤ (4294967294 : Int) + ((-1) * a3 + 0) := hg _ (List.mem_cons_of_mem _ (List.mem_cons_of_mem _ (List.mem_cons_of_mem _ (List.mem_cons_of_mem _ (List.mem_cons_of_mem _ List.mem_cons_self)))))
  have g6 : 0 ≤ (0 : Int) + (1 * a4 + 0) := hg _ (List.mem_cons_of_mem _ (List.mem_cons_of_mem _ (List.mem_cons_of_mem _ (List.mem_cons_of_mem _ (List.mem_cons_of_mem _ (List.mem_cons_of_mem _ List.mem_cons_self))))))
  have g7 : 0 ≤ (4294967294 : Int) + ((-1) * a4 + 0) := hg _ (List.mem_cons_of_mem _ (List.mem_cons_of_mem _ (List.mem_cons_of_mem _ (List.mem_cons_of_mem _ (List.mem_cons_of_mem _ (List.mem_cons_of_mem _ (List.mem_cons_of_mem _ List.mem_cons_self)))))))
  have g8 : 0 ≤ (0 : Int) + (1 * a5 + 0) := hg _ (List.mem_cons_of_mem _ (List.mem_cons_of_mem _ (List.mem_cons_of_mem _ (List.mem_cons_of_mem _ (List.mem_cons_of_mem _ (List.mem_cons_of_mem _ (List.mem_cons_of_mem _ (List.mem_cons_of_mem _ List.mem_cons_self))))))))
  have g9 : 0 ≤ (4294967294 : Int) + ((-1) * a5 + 0) := hg _ (List.mem_cons_of_mem _ (List.mem_cons_of_mem _ (List.mem_cons_of_mem _ (List.mem_cons_of_mem _ (List.mem_cons_of_mem _ (List.mem_cons_of_mem _ (List.mem_cons_of_mem _ (List.mem_cons_of_mem _ (List.mem_cons_of_mem _ List.mem_cons_self)))))))))
  have g10 : 0 ≤ (0 : Int) + (1 * a6 + 0) := hg _ (List.mem_cons_of_mem _ (List.mem_cons_of_mem _ (List.mem_cons_of_mem _ (List.mem_cons_of_mem _ (List.mem_cons_of_mem _ (List.mem_cons_of_mem _ (List.mem_cons_of_mem _ (List.mem_cons_of_mem _ (List.mem_cons_of_mem _ (List.mem_cons_of_mem _ List.mem_cons_self))))))))))
  have g11 : 0 ≤ (4294967294 : Int) + ((-1) * a6 + 0) := hg _ (List.mem_cons_of_mem _ (List.mem_cons_of_mem _ (List.mem_cons_of_mem _ (List.mem_cons_of_mem _ (List.mem_cons_of_mem _ (List.mem_cons_of_mem _ (List.mem_cons_of_mem _ (List.mem_cons_of_mem _ (List.mem_cons_of_mem _ (List.mem_cons_of_mem _ (List.mem_cons_of_mem _ List.mem_cons_self)))))))))))
  have hp := (zs_70 (w := w) (j := a0) (n := a1) (u := a2) (c := a3) (z := a4) (m := a5) (l := a6) (by omega) (by omega) (by omega) (by omega) (by omega) (by omega) (by omega) (by omega) (by omega) (by omega) (by omega) (by omega) (by omega) ).mp (by omega)
  have h : zs_ps w' a1 a2 a3 a4 a5 a6 := zs_gen (by rw [zh_e_g (hw.1 224 (by decide))]; exact id) (fun i i1 i2 => ⟨congrFun (zh_e_g (hw.1 208 (by decide))) i, congrFun (zh_e_g (hw.1 209 (by decide))) i, congrFun (zh_e_g (hw.1 210 (by decide))) i, congrFun (zh_e_g (hw.1 211 (by decide))) i, congrFun (zh_e_g (hw.1 212 (by decide))) i⟩) (congrFun (zh_e_g (hw.1 207 (by decide))) a2) (Int.le_refl _) (fun i i1 i2 => ⟨congrFun (zh_e_g (hw.1 229 (by decide))) i, congrFun (zh_e_g (hw.1 230 (by decide))) i⟩) (Or.inl ⟨by omega, by omega⟩) (fun i i1 i2 i3 => ⟨hw.2 i (by omega) (by omega), congrFun (zh_e_g (hw.1 240 (by decide))) i, congrFun (zh_e_g (hw.1 241 (by decide))) i, congrFun (zh_e_g (hw.1 242 (by decide))) i⟩) (Int.le_refl _) (fun i i1 i2 => congrFun (zh_e_g (hw.1 253 (by decide))) i) (Int.le_refl _) (fun i i1 i2 => ⟨congrFun (zh_e_g (hw.1 227 (by decide))) i, congrFun (zh_e_g (hw.1 226 (by decide))) i⟩) hp
  exact (zx_eF1 (by show 0 ≤ (0 : Int) + (1 * a0 + 0); omega) (by show zk_xe w' 2000070 ((0 : Int) + (1 * a0 + 0)) = (1 : Int) + (0); rw [show (0 : Int) + (1 * a0 + 0) = a0 by omega]; exact ((zs_70 (w := w') (j := a0) (n := a1) (u := a2) (c := a3) (z := a4) (m := a5) (l := a6) (by omega) (by omega) (by omega) (by omega) (by omega) (by omega) (by omega) (by omega) (by omega) (by omega) (by omega) (by omega) (by omega) ).mpr h).trans (by omega)) zx_eF0)
def zx_E529 : zx_V := zx_Vc 240 [] 7 [(2000070, 0)] [((0, 0), [(2, 1, 0), (3, 0, 1), (4, 0, 4294967296), (5, 0, 18446744073709551616), (6, 0, 79228162514264337593543950336), (7, 0, 340282366920938463463374607431768211456), (8, 0, 1461501637330902918203684832716283019655932542976)]), ((0, 1), [(9, 1, 0)]), ((0, 1), [(6, 1, 0)])] [((0, 0), [(3, 1, 0)]), ((4294967294, 0), [(3, 0, 1)]), ((0, 0), [(4, 1, 0)]), ((4294967294, 0), [(4, 0, 1)]), ((0, 0), [(5, 1, 0)]), ((4294967294, 0), [(5, 0, 1)]), ((0, 0), [(6, 1, 0)]), ((4294967294, 0), [(6, 0, 1)]), ((0, 0), [(7, 1, 0)]), ((4294967294, 0), [(7, 0, 1)]), ((0, 0), [(8, 1, 0)]), ((4294967294, 0), [(8, 0, 1)]), ((1, 0), [(0, 1, 0), (5, 0, 1)])] [(2000070, ((0, 0), [(2, 1, 0)]), ((1, 0), []))]
theorem zx_E529_ok {PT : Nat → zz_W → Prop} : zx_Vok 64 zHT PT zx_E529 := by
  refine zx_Vc_ok (fun w w' j ins hI hI' h0 hw hK hl he hg => ?_)
  obtain ⟨a0, a1, a2, a3, a4, a5, a6, rfl⟩ := zx_i7 hl
  have e0 : (0 : Int) + (1 * a0 + ((-1) * a1 + ((-4294967296) * a2 + ((-18446744073709551616) * a3 + ((-79228162514264337593543950336) * a4 + ((-340282366920938463463374607431768211456) * a5 + ((-1461501637330902918203684832716283019655932542976) * a6 + 0))))))) = 0 := he _ List.mem_cons_self
  have e1 : ((-1) : Int) + (1 * (zk_xe w 2000070 a0) + 0) = 0 := he _ (List.mem_cons_of_mem _ List.mem_cons_self)
  have e2 : ((-1) : Int) + (1 * a4 + 0) = 0 := he _ (List.mem_cons_of_mem _ (List.mem_cons_of_mem _ List.mem_cons_self))
  have g0 : 0 ≤ (0 : Int) + (1 * a1 + 0) := hg _ List.mem_cons_self
  have g1 : 0 ≤ (4294967294 : Int) + ((-1) * a1 + 0) := hg _ (List.mem_cons_of_mem _ List.mem_cons_self)
  have g2 : 0 ≤ (0 : Int) + (1 * a2 + 0) := hg _ (List.mem_cons_of_mem _ (List.mem_cons_of_mem _ List.mem_cons_self))
  have g3 : 0 ≤ (4294967294 : Int) + ((-1) * a2 + 0) := hg _ (List.mem_cons_of_mem _ (List.mem_cons_of_mem _ (List.mem_cons_of_mem _ List.mem_cons_self)))
  have g4 : 0 ≤ (0 : Int) + (1 * a3 + 0) := hg _ (List.mem_cons_of_mem _ (List.mem_cons_of_mem _ (List.mem_cons_of_mem _ (List.mem_cons_of_mem _ List.mem_cons_self))))
  have g5 : 0 ≤ (4294967294 : Int) + ((-1) * a3 + 0) := hg _ (List.mem_cons_of_mem _ (List.mem_cons_of_mem _ (List.mem_cons_of_mem _ (List.mem_cons_of_mem _ (List.mem_cons_of_mem _ List.mem_cons_self)))))
  have g6 : 0 ≤ (0 : Int) + (1 * a4 + 0) := hg _ (List.mem_cons_of_mem _ (List.mem_cons_of_mem _ (List.mem_cons_of_mem _ (List.mem_cons_of_mem _ (List.mem_cons_of_mem _ (List.mem_cons_of_mem _ List.mem_cons_self))))))
  have g7 : 0 ≤ (4294967294 : Int) + ((-1) * a4 + 0) := hg _ (List.mem_cons_of_mem _ (List.mem_cons_of_mem _ (List.mem_cons_of_mem _ (List.mem_cons_of_mem _ (List.mem_cons_of_mem _ (List.mem_cons_of_mem _ (List.mem_cons_of_mem _ List.mem_cons_self)))))))
  have g8 : 0 ≤ (0 : Int) + (1 * a5 + 0) := hg _ (List.mem_cons_of_mem _ (List.mem_cons_of_mem _ (List.mem_cons_of_mem _ (List.mem_cons_of_mem _ (List.mem_cons_of_mem _ (List.mem_cons_of_mem _ (List.mem_cons_of_mem _ (List.mem_cons_of_mem _ List.mem_cons_self))))))))
  have g9 : 0 ≤ (4294967294 : Int) + ((-1) * a5 + 0) := hg _ (List.mem_cons_of_mem _ (List.mem_cons_of_mem _ (List.mem_cons_of_mem _ (List.mem_cons_of_mem _ (List.mem_cons_of_mem _ (List.mem_cons_of_mem _ (List.mem_cons_of_mem _ (List.mem_cons_of_mem _ (List.mem_cons_of_mem _ List.mem_cons_self)))))))))
  have g10 : 0 ≤ (0 : Int) + (1 * a6 + 0) := hg _ (List.mem_cons_of_mem _ (List.mem_cons_of_mem _ (List.mem_cons_of_mem _ (List.mem_cons_of_mem _ (List.mem_cons_of_mem _ (List.mem_cons_of_mem _ (List.mem_cons_of_mem _ (List.mem_cons_of_mem _ (List.mem_cons_of_mem _ (List.mem_cons_of_mem _ List.mem_cons_self))))))))))
  have g11 : 0 ≤ (4294967294 : Int) + ((-1) * a6 + 0) := hg _ (List.mem_cons_of_mem _ (List.mem_cons_of_mem _ (List.mem_cons_of_mem _ (List.mem_cons_of_mem _ (List.mem_cons_of_mem _ (List.mem_cons_of_mem _ (List.mem_cons_of_mem _ (List.mem_cons_of_mem _ (List.mem_cons_of_mem _ (List.mem_cons_of_mem _ (List.mem_cons_of_mem _ List.mem_cons_self)))))))))))
  have g12 : 0 ≤ (1 : Int) + (1 * j + ((-1) * a3 + 0)) := hg _ (List.mem_cons_of_mem _ (List.mem_cons_of_mem _ (List.mem_cons_of_mem _ (List.mem_cons_of_mem _ (List.mem_cons_of_mem _ (List.mem_cons_of_mem _ (List.mem_cons_of_mem _ (List.mem_cons_of_mem _ (List.mem_cons_of_mem _ (List.mem_cons_of_mem _ (List.mem_cons_of_mem _ (List.mem_cons_of_mem _ List.mem_cons_self))))))))))))
  have hp := (zs_70 (w := w) (j := a0) (n := a1) (u := a2) (c := a3) (z := a4) (m := a5) (l := a6) (by omega) (by omega) (by omega) (by omega) (by omega) (by omega) (by omega) (by omega) (by omega) (by omega) (by omega) (by omega) (by omega) ).mp (by omega)
  have h : zs_ps w' a1 a2 a3 a4 a5 a6 := zs_gen (by rw [zh_e_g (hw.1 224 (by decide))]; exact id) (fun i i1 i2 => ⟨congrFun (zh_e_g (hw.1 208 (by decide))) i, congrFun (zh_e_g (hw.1 209 (by decide))) i, congrFun (zh_e_g (hw.1 210 (by decide))) i, congrFun (zh_e_g (hw.1 211 (by decide))) i, congrFun (zh_e_g (hw.1 212 (by decide))) i⟩) (congrFun (zh_e_g (hw.1 207 (by decide))) a2) (Int.le_refl _) (fun i i1 i2 => ⟨congrFun (zh_e_g (hw.1 229 (by decide))) i, congrFun (zh_e_g (hw.1 230 (by decide))) i⟩) (Or.inr (congrFun (zh_e_g (hw.1 250 (by decide))) 0)) (fun i i1 i2 i3 => ⟨congrFun (zh_e_g (hw.1 250 (by decide))) i, hw.2 i (by omega) (by omega), congrFun (zh_e_g (hw.1 241 (by decide))) i, congrFun (zh_e_g (hw.1 242 (by decide))) i⟩) (Int.le_refl _) (fun i i1 i2 => congrFun (zh_e_g (hw.1 253 (by decide))) i) (Int.le_refl _) (fun i i1 i2 => ⟨congrFun (zh_e_g (hw.1 227 (by decide))) i, congrFun (zh_e_g (hw.1 226 (by decide))) i⟩) hp
  exact (zx_eF1 (by show 0 ≤ (0 : Int) + (1 * a0 + 0); omega) (by show zk_xe w' 2000070 ((0 : Int) + (1 * a0 + 0)) = (1 : Int) + (0); rw [show (0 : Int) + (1 * a0 + 0) = a0 by omega]; exact ((zs_70 (w := w') (j := a0) (n := a1) (u := a2) (c := a3) (z := a4) (m := a5) (l := a6) (by omega) (by omega) (by omega) (by omega) (by omega) (by omega) (by omega) (by omega) (by omega) (by omega) (by omega) (by omega) (by omega) ).mpr h).trans (by omega)) zx_eF0)
def zx_E530 : zx_V := zx_Vc 241 [] 7 [(2000070, 0)] [((0, 0), [(2, 1, 0), (3, 0, 1), (4, 0, 4294967296), (5, 0, 18446744073709551616), (6, 0, 79228162514264337593543950336), (7, 0, 340282366920938463463374607431768211456), (8, 0, 1461501637330902918203684832716283019655932542976)]), ((0, 1), [(9, 1, 0)]), ((0, 1), [(6, 1, 0)])] [((0, 0), [(3, 1, 0)]), ((4294967294, 0), [(3, 0, 1)]), ((0, 0), [(4, 1, 0)]), ((4294967294, 0), [(4, 0, 1)]), ((0, 0), [(5, 1, 0)]), ((4294967294, 0), [(5, 0, 1)]), ((0, 0), [(6, 1, 0)]), ((4294967294, 0), [(6, 0, 1)]), ((0, 0), [(7, 1, 0)]), ((4294967294, 0), [(7, 0, 1)]), ((0, 0), [(8, 1, 0)]), ((4294967294, 0), [(8, 0, 1)]), ((1, 0), [(0, 1, 0), (5, 0, 1)])] [(2000070, ((0, 0), [(2, 1, 0)]), ((1, 0), []))]
theorem zx_E530_ok {PT : Nat → zz_W → Prop} : zx_Vok 64 zHT PT zx_E530 := by
  refine zx_Vc_ok (fun w w' j ins hI hI' h0 hw hK hl he hg => ?_)
  obtain ⟨a0, a1, a2, a3, a4, a5, a6, rfl⟩ := zx_i7 hl
  have e0 : (0 : Int) + (1 * a0 + ((-1) * a1 + ((-4294967296) * a2 + ((-18446744073709551616) * a3 + ((-79228162514264337593543950336) * a4 + ((-340282366920938463463374607431768211456) * a5 + ((-1461501637330902918203684832716283019655932542976) * a6 + 0))))))) = 0 := he _ List.mem_cons_self
  have e1 : ((-1) : Int) + (1 * (zk_xe w 2000070 a0) + 0) = 0 := he _ (List.mem_cons_of_mem _ List.mem_cons_self)
  have e2 : ((-1) : Int) + (1 * a4 + 0) = 0 := he _ (List.mem_cons_of_mem _ (List.mem_cons_of_mem _ List.mem_cons_self))
  have g0 : 0 ≤ (0 : Int) + (1 * a1 + 0) := hg _ List.mem_cons_self
  have g1 : 0 ≤ (4294967294 : Int) + ((-1) * a1 + 0) := hg _ (List.mem_cons_of_mem _ List.mem_cons_self)
  have g2 : 0 ≤ (0 : Int) + (1 * a2 + 0) := hg _ (List.mem_cons_of_mem _ (List.mem_cons_of_mem _ List.mem_cons_self))
  have g3 : 0 ≤ (4294967294 : Int) + ((-1) * a2 + 0) := hg _ (List.mem_cons_of_mem _ (List.mem_cons_of_mem _ (List.mem_cons_of_mem _ List.mem_cons_self)))
  have g4 : 0 ≤ (0 : Int) + (1 * a3 + 0) := hg _ (List.mem_cons_of_mem _ (List.mem_cons_of_mem _ (List.mem_cons_of_mem _ (List.mem_cons_of_mem _ List.mem_cons_self))))
  have g5 : 0 ≤ (4294967294 : Int) + ((-1) * a3 + 0) := hg _ (List.mem_cons_of_mem _ (List.mem_cons_of_mem _ (List.mem_cons_of_mem _ (List.mem_cons_of_mem _ (List.mem_cons_of_mem _ List.mem_cons_self)))))
  have g6 : 0 ≤ (0 : Int) + (1 * a4 + 0) := hg _ (List.mem_cons_of_mem _ (List.mem_cons_of_mem _ (List.mem_cons_of_mem _ (List.mem_cons_of_mem _ (List.mem_cons_of_mem _ (List.mem_cons_of_mem _ List.mem_cons_self))))))
  have g7 : 0 ≤ (4294967294 : Int) + ((-1) * a4 + 0) := hg _ (List.mem_cons_of_mem _ (List.mem_cons_of_mem _ (List.mem_cons_of_mem _ (List.mem_cons_of_mem _ (List.mem_cons_of_mem _ (List.mem_cons_of_mem _ (List.mem_cons_of_mem _ List.mem_cons_self)))))))
  have g8 : 0 ≤ (0 : Int) + (1 * a5 + 0) := hg _ (List.mem_cons_of_mem _ (List.mem_cons_of_mem _ (List.mem_cons_of_mem _ (List.mem_cons_of_mem _ (List.mem_cons_of_mem _ (List.mem_cons_of_mem _ (List.mem_cons_of_mem _ (List.mem_cons_of_mem _ List.mem_cons_self))))))))
  have g9 : 0 ≤ (4294967294 : Int) + ((-1) * a5 + 0) := hg _ (List.mem_cons_of_mem _ (List.mem_cons_of_mem _ (List.mem_cons_of_mem _ (List.mem_cons_of_mem _ (List.mem_cons_of_mem _ (List.mem_cons_of_mem _ (List.mem_cons_of_mem _ (List.mem_cons_of_mem _ (List.mem_cons_of_mem _ List.mem_cons_self)))))))))
  have g10 : 0 ≤ (0 : Int) + (1 * a6 + 0) := hg _ (List.mem_cons_of_mem _ (List.mem_cons_of_mem _ (List.mem_cons_of_mem _ (List.mem_cons_of_mem _ (List.mem_cons_of_mem _ (List.mem_cons_of_mem _ (List.mem_cons_of_mem _ (List.mem_cons_of_mem _ (List.mem_cons_of_mem _ (List.mem_cons_of_mem _ List.mem_cons_self))))))))))
  have g11 : 0 ≤ (4294967294 : Int) + ((-1) * a6 + 0) := hg _ (List.mem_cons_of_mem _ (List.mem_cons_of_mem _ (List.mem_cons_of_mem _ (List.mem_cons_of_mem _ (List.mem_cons_of_mem _ (List.mem_cons_of_mem _ (List.mem_cons_of_mem _ (List.mem_cons_of_mem _ (List.mem_cons_of_mem _ (List.mem_cons_of_mem _ (List.mem_cons_of_mem _ List.mem_cons_self)))))))))))
  have g12 : 0 ≤ (1 : Int) + (1 * j + ((-1) * a3 + 0)) := hg _ (List.mem_cons_of_mem _ (List.mem_cons_of_mem _ (List.mem_cons_of_mem _ (List.mem_cons_of_mem _ (List.mem_cons_of_mem _ (List.mem_cons_of_mem _ (List.mem_cons_of_mem _ (List.mem_cons_of_mem _ (List.mem_cons_of_mem _ (List.mem_cons_of_mem _ (List.mem_cons_of_mem _ (List.mem_cons_of_mem _ List.mem_cons_self))))))))))))
  have hp := (zs_70 (w := w) (j := a0) (n := a1) (u := a2) (c := a3) (z := a4) (m := a5) (l := a6) (by omega) (by omega) (by omega) (by omega) (by omega) (by omega) (by omega) (by omega) (by omega) (by omega) (by omega) (by omega) (by omega) ).mp (by omega)
  have h : zs_ps w' a1 a2 a3 a4 a5 a6 := zs_gen (by rw [zh_e_g (hw.1 224 (by decide))]; exact id) (fun i i1 i2 => ⟨congrFun (zh_e_g (hw.1 208 (by decide))) i, congrFun (zh_e_g (hw.1 209 (by decide))) i, congrFun (zh_e_g (hw.1 210 (by decide))) i, congrFun (zh_e_g (hw.1 211 (by decide))) i, congrFun (zh_e_g (hw.1 212 (by decide))) i⟩) (congrFun (zh_e_g (hw.1 207 (by decide))) a2) (Int.le_refl _) (fun i i1 i2 => ⟨congrFun (zh_e_g (hw.1 229 (by decide))) i, congrFun (zh_e_g (hw.1 230 (by decide))) i⟩) (Or.inr (congrFun (zh_e_g (hw.1 250 (by decide))) 0)) (fun i i1 i2 i3 => ⟨congrFun (zh_e_g (hw.1 250 (by decide))) i, congrFun (zh_e_g (hw.1 240 (by decide))) i, hw.2 i (by omega) (by omega), congrFun (zh_e_g (hw.1 242 (by decide))) i⟩) (Int.le_refl _) (fun i i1 i2 => congrFun (zh_e_g (hw.1 253 (by decide))) i) (Int.le_refl _) (fun i i1 i2 => ⟨congrFun (zh_e_g (hw.1 227 (by decide))) i, congrFun (zh_e_g (hw.1 226 (by decide))) i⟩) hp
  exact (zx_eF1 (by show 0 ≤ (0 : Int) + (1 * a0 + 0); omega) (by show zk_xe w' 2000070 ((0 : Int) + (1 * a0 + 0)) = (1 : Int) + (0); rw [show (0 : Int) + (1 * a0 + 0) = a0 by omega]; exact ((zs_70 (w := w') (j := a0) (n := a1) (u := a2) (c := a3) (z := a4) (m := a5) (l := a6) (by omega) (by omega) (by omega) (by omega) (by omega) (by omega) (by omega) (by omega) (by omega) (by omega) (by omega) (by omega) (by omega) ).mpr h).trans (by omega)) zx_eF0)
def zx_E531 : zx_V := zx_Vc 242 [] 7 [(2000070, 0)] [((0, 0), [(2, 1, 0), (3, 0, 1), (4, 0, 4294967296), (5, 0, 18446744073709551616), (6, 0, 79228162514264337593543950336), (7, 0, 340282366920938463463374607431768211456), (8, 0, 1461501637330902918203684832716283019655932542976)]), ((0, 1), [(9, 1, 0)]), ((0, 1), [(6, 1, 0)])] [((0, 0), [(3, 1, 0)]), ((4294967294, 0), [(3, 0, 1)]), ((0, 0), [(4, 1, 0)]), ((4294967294, 0), [(4, 0, 1)]), ((0, 0), [(5, 1, 0)]), ((4294967294, 0), [(5, 0, 1)]), ((0, 0), [(6, 1, 0)]), ((4294967294, 0), [(6, 0, 1)]), ((0, 0), [(7, 1, 0)]), ((4294967294, 0), [(7, 0, 1)]), ((0, 0), [(8, 1, 0)]), ((4294967294, 0), [(8, 0, 1)]), ((1, 0), [(0, 1, 0), (5, 0, 1)])] [(2000070, ((0, 0), [(2, 1, 0)]), ((1, 0), []))]
theorem zx_E531_ok {PT : Nat → zz_W → Prop} : zx_Vok 64 zHT PT zx_E531 := by
  refine zx_Vc_ok (fun w w' j ins hI hI' h0 hw hK hl he hg => ?_)
  obtain ⟨a0, a1, a2, a3, a4, a5, a6, rfl⟩ := zx_i7 hl
  have e0 : (0 : Int) + (1 * a0 + ((-1) * a1 + ((-4294967296) * a2 + ((-18446744073709551616) * a3 + ((-79228162514264337593543950336) * a4 + ((-340282366920938463463374607431768211456) * a5 + ((-1461501637330902918203684832716283019655932542976) * a6 + 0))))))) = 0 := he _ List.mem_cons_self
  have e1 : ((-1) : Int) + (1 * (zk_xe w 2000070 a0) + 0) = 0 := he _ (List.mem_cons_of_mem _ List.mem_cons_self)
  have e2 : ((-1) : Int) + (1 * a4 + 0) = 0 := he _ (List.mem_cons_of_mem _ (List.mem_cons_of_mem _ List.mem_cons_self))
  have g0 : 0 ≤ (0 : Int) + (1 * a1 + 0) := hg _ List.mem_cons_self
  have g1 : 0 ≤ (4294967294 : Int) + ((-1) * a1 + 0) := hg _ (List.mem_cons_of_mem _ List.mem_cons_self)
  have g2 : 0 ≤ (0 : Int) + (1 * a2 + 0) := hg _ (List.mem_cons_of_mem _ (List.mem_cons_of_mem _ List.mem_cons_self))
  have g3 : 0 ≤ (4294967294 : Int) + ((-1) * a2 + 0) := hg _ (List.mem_cons_of_mem _ (List.mem_cons_of_mem _ (List.mem_cons_of_mem _ List.mem_cons_self)))
  have g4 : 0 ≤ (0 : Int) + (1 * a3 + 0) := hg _ (List.mem_cons_of_mem _ (List.mem_cons_of_mem _ (List.mem_cons_of_mem _ (List.mem_cons_of_mem _ List.mem_cons_self))))
  have g5 : 0 ≤ (4294967294 : Int) + ((-1) * a3 + 0) := hg _ (List.mem_cons_of_mem _ (List.mem_cons_of_mem _ (List.mem_cons_of_mem _ (List.mem_cons_of_mem _ (List.mem_cons_of_mem _ List.mem_cons_self)))))
  have g6 : 0 ≤ (0 : Int) + (1 * a4 + 0) := hg _ (List.mem_cons_of_mem _ (List.mem_cons_of_mem _ (List.mem_cons_of_mem _ (List.mem_cons_of_mem _ (List.mem_cons_of_mem _ (List.mem_cons_of_mem _ List.mem_cons_self))))))
  have g7 : 0 ≤ (4294967294 : Int) + ((-1) * a4 + 0) := hg _ (List.mem_cons_of_mem _ (List.mem_cons_of_mem _ (List.mem_cons_of_mem _ (List.mem_cons_of_mem _ (List.mem_cons_of_mem _ (List.mem_cons_of_mem _ (List.mem_cons_of_mem _ List.mem_cons_self)))))))
  have g8 : 0 ≤ (0 : Int) + (1 * a5 + 0) := hg _ (List.mem_cons_of_mem _ (List.mem_cons_of_mem _ (List.mem_cons_of_mem _ (List.mem_cons_of_mem _ (List.mem_cons_of_mem _ (List.mem_cons_of_mem _ (List.mem_cons_of_mem _ (List.mem_cons_of_mem _ List.mem_cons_self))))))))
  have g9 : 0 ≤ (4294967294 : Int) + ((-1) * a5 + 0) := hg _ (List.mem_cons_of_mem _ (List.mem_cons_of_mem _ (List.mem_cons_of_mem _ (List.mem_cons_of_mem _ (List.mem_cons_of_mem _ (List.mem_cons_of_mem _ (List.mem_cons_of_mem _ (List.mem_cons_of_mem _ (List.mem_cons_of_mem _ List.mem_cons_self)))))))))
  have g10 : 0 ≤ (0 : Int) + (1 * a6 + 0) := hg _ (List.mem_cons_of_mem _ (List.mem_cons_of_mem _ (List.mem_cons_of_mem _ (List.mem_cons_of_mem _ (List.mem_cons_of_mem _ (List.mem_cons_of_mem _ (List.mem_cons_of_mem _ (List.mem_cons_of_mem _ (List.mem_cons_of_mem _ (List.mem_cons_of_mem _ List.mem_cons_self))))))))))
  have g11 : 0 ≤ (4294967294 : Int) + ((-1) * a6 + 0) := hg _ (List.mem_cons_of_mem _ (List.mem_cons_of_mem _ (List.mem_cons_of_mem _ (List.mem_cons_of_mem _ (List.mem_cons_of_mem _ (List.mem_cons_of_mem _ (List.mem_cons_of_mem _ (List.mem_cons_of_mem _ (List.mem_cons_of_mem _ (List.mem_cons_of_mem _ (List.mem_cons_of_mem _ List.mem_cons_self)))))))))))
  have g12 : 0 ≤ (1 : Int) + (1 * j + ((-1) * a3 + 0)) := hg _ (List.mem_cons_of_mem _ (List.mem_cons_of_mem _ (List.mem_cons_of_mem _ (List.mem_cons_of_mem _ (List.mem_cons_of_mem _ (List.mem_cons_of_mem _ (List.mem_cons_of_mem _ (List.mem_cons_of_mem _ (List.mem_cons_of_mem _ (List.mem_cons_of_mem _ (List.mem_cons_of_mem _ (List.mem_cons_of_mem _ List.mem_cons_self))))))))))))
  have hp := (zs_70 (w := w) (j := a0) (n := a1) (u := a2) (c := a3) (z := a4) (m := a5) (l := a6) (by omega) (by omega) (by omega) (by omega) (by omega) (by omega) (by omega) (by omega) (by omega) (by omega) (by omega) (by omega) (by omega) ).mp (by omega)
  have h : zs_ps w' a1 a2 a3 a4 a5 a6 := zs_gen (by rw [zh_e_g (hw.1 224 (by decide))]; exact id) (fun i i1 i2 => ⟨congrFun (zh_e_g (hw.1 208 (by decide))) i, congrFun (zh_e_g (hw.1 209 (by decide))) i, congrFun (zh_e_g (hw.1 210 (by decide))) i, congrFun (zh_e_g (hw.1 211 (by decide))) i, congrFun (zh_e_g (hw.1 212 (by decide))) i⟩) (congrFun (zh_e_g (hw.1 207 (by decide))) a2) (Int.le_refl _) (fun i i1 i2 => ⟨congrFun (zh_e_g (hw.1 229 (by decide))) i, congrFun (zh_e_g (hw.1 230 (by decide))) i⟩) (Or.inr (congrFun (zh_e_g (hw.1 250 (by decide))) 0)) (fun i i1 i2 i3 => ⟨congrFun (zh_e_g (hw.1 250 (by decide))) i, congrFun (zh_e_g (hw.1 240 (by decide))) i, congrFun (zh_e_g (hw.1 241 (by decide))) i, hw.2 i (by omega) (by omega)⟩) (Int.le_refl _) (fun i i1 i2 => congrFun (zh_e_g (hw.1 253 (by decide))) i) (Int.le_refl _) (fun i i1 i2 => ⟨congrFun (zh_e_g (hw.1 227 (by decide))) i, congrFun (zh_e_g (hw.1 226 (by decide))) i⟩) hp
  exact (zx_eF1 (by show 0 ≤ (0 : Int) + (1 * a0 + 0); omega) (by show zk_xe w' 2000070 ((0 : Int) + (1 * a0 + 0)) = (1 : Int) + (0); rw [show (0 : Int) + (1 * a0 + 0) = a0 by omega]; exact ((zs_70 (w := w') (j := a0) (n := a1) (u := a2) (c := a3) (z := a4) (m := a5) (l := a6) (by omega) (by omega) (by omega) (by omega) (by omega) (by omega) (by omega) (by omega) (by omega) (by omega) (by omega) (by omega) (by omega) ).mpr h).trans (by omega)) zx_eF0)
def zx_E532 : zx_V := zx_Vc 253 [] 7 [(2000070, 0)] [((0, 0), [(2, 1, 0), (3, 0, 1), (4, 0, 4294967296), (5, 0, 18446744073709551616), (6, 0, 79228162514264337593543950336), (7, 0, 340282366920938463463374607431768211456), (8, 0, 1461501637330902918203684832716283019655932542976)]), ((0, 1), [(9, 1, 0)])] [((0, 0), [(3, 1, 0)]), ((4294967294, 0), [(3, 0, 1)]), ((0, 0), [(4, 1, 0)]), ((4294967294, 0), [(4, 0, 1)]), ((0, 0), [(5, 1, 0)]), ((4294967294, 0), [(5, 0, 1)]), ((0, 0), [(6, 1, 0)]), ((4294967294, 0), [(6, 0, 1)]), ((0, 0), [(7, 1, 0)]), ((4294967294, 0), [(7, 0, 1)]), ((0, 0), [(8, 1, 0)]), ((4294967294, 0), [(8, 0, 1)]), ((0, 0), [(0, 1, 0), (7, 0, 1)])] [(2000070, ((0, 0), [(2, 1, 0)]), ((1, 0), []))]
theorem zx_E532_ok {PT : Nat → zz_W → Prop} : zx_Vok 64 zHT PT zx_E532 := by
  refine zx_Vc_ok (fun w w' j ins hI hI' h0 hw hK hl he hg => ?_)
  obtain ⟨a0, a1, a2, a3, a4, a5, a6, rfl⟩ := zx_i7 hl
  have e0 : (0 : Int) + (1 * a0 + ((-1) * a1 + ((-4294967296) * a2 + ((-18446744073709551616) * a3 + ((-79228162514264337593543950336) * a4 + ((-340282366920938463463374607431768211456) * a5 + ((-1461501637330902918203684832716283019655932542976) * a6 + 0))))))) = 0 := he _ List.mem_cons_self
  have e1 : ((-1) : Int) + (1 * (zk_xe w 2000070 a0) + 0) = 0 := he _ (List.mem_cons_of_mem _ List.mem_cons_self)
  have g0 : 0 ≤ (0 : Int) + (1 * a1 + 0) := hg _ List.mem_cons_self
  have g1 : 0 ≤ (4294967294 : Int) + ((-1) * a1 + 0) := hg _ (List.mem_cons_of_mem _ List.mem_cons_self)
  have g2 : 0 ≤ (0 : Int) + (1 * a2 + 0) := hg _ (List.mem_cons_of_mem _ (List.mem_cons_of_mem _ List.mem_cons_self))
  have g3 : 0 ≤ (4294967294 : Int) + ((-1) * a2 + 0) := hg _ (List.mem_cons_of_mem _ (List.mem_cons_of_mem _ (List.mem_cons_of_mem _ List.mem_cons_self)))
  have g4 : 0 ≤ (0 : Int) + (1 * a3 + 0) := hg _ (List.mem_cons_of_mem _ (List.mem_cons_of_mem _ (List.mem_cons_of_mem _ (List.mem_cons_of_mem _ List.mem_cons_self))))
  have g5 : 0 ≤ (4294967294 : Int) + ((-1) * a3 + 0) := hg _ (List.mem_cons_of_mem _ (List.mem_cons_of_mem _ (List.mem_cons_of_mem _ (List.mem_cons_of_mem _ (List.mem_cons_of_mem _ List.mem_cons_self)))))
  have g6 : 0 ≤ (0 : Int) + (1 * a4 + 0) := hg _ (List.mem_cons_of_mem _ (List.mem_cons_of_mem _ (List.mem_cons_of_mem _ (List.mem_cons_of_mem _ (List.mem_cons_of_mem _ (List.mem_cons_of_mem _ List.mem_cons_self))))))
  have g7 : 0 ≤ (4294967294 : Int) + ((-1) * a4 + 0) := hg _ (List.mem_cons_of_mem _ (List.mem_cons_of_mem _ (List.mem_cons_of_mem _ (List.mem_cons_of_mem _ (List.mem_cons_of_mem _ (List.mem_cons_of_mem _ (List.mem_cons_of_mem _ List.mem_cons_self)))))))
  have g8 : 0 ≤ (0 : Int) + (1 * a5 + 0) := hg _ (List.mem_cons_of_mem _ (List.mem_cons_of_mem _ (List.mem_cons_of_mem _ (List.mem_cons_of_mem _ (List.mem_cons_of_mem _ (List.mem_cons_of_mem _ (List.mem_cons_of_mem _ (List.mem_cons_of_mem _ List.mem_cons_self))))))))
  have g9 : 0 ≤ (4294967294 : Int) + ((-1) * a5 + 0) := hg _ (List.mem_cons_of_mem _ (List.mem_cons_of_mem _ (List.mem_cons_of_mem _ (List.mem_cons_of_mem _ (List.mem_cons_of_mem _ (List.mem_cons_of_mem _ (List.mem_cons_of_mem _ (List.mem_cons_of_mem _ (List.mem_cons_of_mem _ List.mem_cons_self)))))))))
  have g10 : 0 ≤ (0 : Int) + (1 * a6 + 0) := hg _ (List.mem_cons_of_mem _ (List.mem_cons_of_mem _ (List.mem_cons_of_mem _ (List.mem_cons_of_mem _ (List.mem_cons_of_mem _ (List.mem_cons_of_mem _ (List.mem_cons_of_mem _ (List.mem_cons_of_mem _ (List.mem_cons_of_mem _ (List.mem_cons_of_mem _ List.mem_cons_self))))))))))
  have g11 : 0 ≤ (4294967294 : Int) + ((-1) * a6 + 0) := hg _ (List.mem_cons_of_mem _ (List.mem_cons_of_mem _ (List.mem_cons_of_mem _ (List.mem_cons_of_mem _ (List.mem_cons_of_mem _ (List.mem_cons_of_mem _ (List.mem_cons_of_mem _ (List.mem_cons_of_mem _ (List.mem_cons_of_mem _ (List.mem_cons_of_mem _ (List.mem_cons_of_mem _ List.mem_cons_self)))))))))))
  have g12 : 0 ≤ (0 : Int) + (1 * j + ((-1) * a5 + 0)) := hg _ (List.mem_cons_of_mem _ (List.mem_cons_of_mem _ (List.mem_cons_of_mem _ (List.mem_cons_of_mem _ (List.mem_cons_of_mem _ (List.mem_cons_of_mem _ (List.mem_cons_of_mem _ (List.mem_cons_of_mem _ (List.mem_cons_of_mem _ (List.mem_cons_of_mem _ (List.mem_cons_of_mem _ (List.mem_cons_of_mem _ List.mem_cons_self))))))))))))
  have hp := (zs_70 (w := w) (j := a0) (n := a1) (u := a2) (c := a3) (z := a4) (m := a5) (l := a6) (by omega) (by omega) (by omega) (by omega) (by omega) (by omega) (by omega) (by omega) (by omega) (by omega) (by omega) (by omega) (by omega) ).mp (by omega)
  have h : zs_ps w' a1 a2 a3 a4 a5 a6 := zs_gen (by rw [zh_e_g (hw.1 224 (by decide))]; exact id) (fun i i1 i2 => ⟨congrFun (zh_e_g (hw.1 208 (by decide))) i, congrFun (zh_e_g (hw.1 209 (by decide))) i, congrFun (zh_e_g (hw.1 210 (by decide))) i, congrFun (zh_e_g (hw.1 211 (by decide))) i, congrFun (zh_e_g (hw.1 212 (by decide))) i⟩) (congrFun (zh_e_g (hw.1 207 (by decide))) a2) (Int.le_refl _) (fun i i1 i2 => ⟨congrFun (zh_e_g (hw.1 229 (by decide))) i, congrFun (zh_e_g (hw.1 230 (by decide))) i⟩) (Or.inr (congrFun (zh_e_g (hw.1 250 (by decide))) 0)) (fun i i1 i2 i3 => ⟨congrFun (zh_e_g (hw.1 250 (by decide))) i, congrFun (zh_e_g (hw.1 240 (by decide))) i, congrFun (zh_e_g (hw.1 241 (by decide))) i, congrFun (zh_e_g (hw.1 242 (by decide))) i⟩) (Int.le_refl _) (fun i i1 i2 => hw.2 i (by omega) (by omega)) (Int.le_refl _) (fun i i1 i2 => ⟨congrFun (zh_e_g (hw.1 227 (by decide))) i, congrFun (zh_e_g (hw.1 226 (by decide))) i⟩) hp
  exact (zx_eF1 (by show 0 ≤ (0 : Int) + (1 * a0 + 0); omega) (by show zk_xe w' 2000070 ((0 : Int) + (1 * a0 + 0)) = (1 : Int) + (0); rw [show (0 : Int) + (1 * a0 + 0) = a0 by omega]; exact ((zs_70 (w := w') (j := a0) (n := a1) (u := a2) (c := a3) (z := a4) (m := a5) (l := a6) (by omega) (by omega) (by omega) (by omega) (by omega) (by omega) (by omega) (by omega) (by omega) (by omega) (by omega) (by omega) (by omega) ).mpr h).trans (by omega)) zx_eF0)
def zx_E533 : zx_V := zx_Vc 227 [] 7 [(2000070, 0)] [((0, 0), [(2, 1, 0), (3, 0, 1), (4, 0, 4294967296), (5, 0, 18446744073709551616), (6, 0, 79228162514264337593543950336), (7, 0, 340282366920938463463374607431768211456), (8, 0, 1461501637330902918203684832716283019655932542976)]), ((0, 1), [(9, 1, 0)])] [((0, 0), [(3, 1, 0)]), ((4294967294, 0), [(3, 0, 1)]), ((0, 0), [(4, 1, 0)]), ((4294967294, 0), [(4, 0, 1)]), ((0, 0), [(5, 1, 0)]), ((4294967294, 0), [(5, 0, 1)]), ((0, 0), [(6, 1, 0)]), ((4294967294, 0), [(6, 0, 1)]), ((0, 0), [(7, 1, 0)]), ((4294967294, 0), [(7, 0, 1)]), ((0, 0), [(8, 1, 0)]), ((4294967294, 0), [(8, 0, 1)]), ((0, 0), [(0, 1, 0), (8, 0, 1)])] [(2000070, ((0, 0), [(2, 1, 0)]), ((1, 0), []))]
theorem zx_E533_ok {PT : Nat → zz_W → Prop} : zx_Vok 64 zHT PT zx_E533 := by
  refine zx_Vc_ok (fun w w' j ins hI hI' h0 hw hK hl he hg => ?_)
  obtain ⟨a0, a1, a2, a3, a4, a5, a6, rfl⟩ := zx_i7 hl
  have e0 : (0 : Int) + (1 * a0 + ((-1) * a1 + ((-4294967296) * a2 + ((-18446744073709551616) * a3 + ((-79228162514264337593543950336) * a4 + ((-340282366920938463463374607431768211456) * a5 + ((-1461501637330902918203684832716283019655932542976) * a6 + 0))))))) = 0 := he _ List.mem_cons_self
  have e1 : ((-1) : Int) + (1 * (zk_xe w 2000070 a0) + 0) = 0 := he _ (List.mem_cons_of_mem _ List.mem_cons_self)
  have g0 : 0 ≤ (0 : Int) + (1 * a1 + 0) := hg _ List.mem_cons_self
  have g1 : 0 ≤ (4294967294 : Int) + ((-1) * a1 + 0) := hg _ (List.mem_cons_of_mem _ List.mem_cons_self)
  have g2 : 0 ≤ (0 : Int) + (1 * a2 + 0) := hg _ (List.mem_cons_of_mem _ (List.mem_cons_of_mem _ List.mem_cons_self))
  have g3 : 0 ≤ (4294967294 : Int) + ((-1) * a2 + 0) := hg _ (List.mem_cons_of_mem _ (List.mem_cons_of_mem _ (List.mem_cons_of_mem _ List.mem_cons_self)))
  have g4 : 0 ≤ (0 : Int) + (1 * a3 + 0) := hg _ (List.mem_cons_of_mem _ (List.mem_cons_of_mem _ (List.mem_cons_of_mem _ (List.mem_cons_of_mem _ List.mem_cons_self))))
  have g5 : 0 ≤ (4294967294 : Int) + ((-1) * a3 + 0) := hg _ (List.mem_cons_of_mem _ (List.mem_cons_of_mem _ (List.mem_cons_of_mem _ (List.mem_cons_of_mem _ (List.mem_cons_of_mem _ List.mem_cons_self)))))
  have g6 : 0 ≤ (0 : Int) + (1 * a4 + 0) := hg _ (List.mem_cons_of_mem _ (List.mem_cons_of_mem _ (List.mem_cons_of_mem _ (List.mem_cons_of_mem _ (List.mem_cons_of_mem _ (List.mem_cons_of_mem _ List.mem_cons_self))))))
  have g7 : 0 ≤ (4294967294 : Int) + ((-1) * a4 + 0) := hg _ (List.mem_cons_of_mem _ (List.mem_cons_of_mem _ (List.mem_cons_of_mem _ (List.mem_cons_of_mem _ (List.mem_cons_of_mem _ (List.mem_cons_of_mem _ (List.mem_cons_of_mem _ List.mem_cons_self)))))))
  have g8 : 0 ≤ (0 : Int) + (1 * a5 + 0) := hg _ (List.mem_cons_of_mem _ (List.mem_cons_of_mem _ (List.mem_cons_of_mem _ (List.mem_cons_of_mem _ (List.mem_cons_of_mem _ (List.mem_cons_of_mem _ (List.mem_cons_of_mem _ (List.mem_cons_of_mem _ List.mem_cons_self))))))))
  have g9 : 0 ≤ (4294967294 : Int) + ((-1) * a5 + 0) := hg _ (List.mem_cons_of_mem _ (List.mem_cons_of_mem _ (List.mem_cons_of_mem _ (List.mem_cons_of_mem _ (List.mem_cons_of_mem _ (List.mem_cons_of_mem _ (List.mem_cons_of_mem _ (List.mem_cons_of_mem _ (List.mem_cons_of_mem _ List.mem_cons_self)))))))))
  have g10 : 0 ≤ (0 : Int) + (1 * a6 + 0) := hg _ (List.mem_cons_of_mem _ (List.mem_cons_of_mem _ (List.mem_cons_of_mem _ (List.mem_cons_of_mem _ (List.mem_cons_of_mem _ (List.mem_cons_of_mem _ (List.mem_cons_of_mem _ (List.mem_cons_of_mem _ (List.mem_cons_of_mem _ (List.mem_cons_of_mem _ List.mem_cons_self))))))))))
  have g11 : 0 ≤ (4294967294 : Int) + ((-1) * a6 + 0) := hg _ (List.mem_cons_of_mem _ (List.mem_cons_of_mem _ (List.mem_cons_of_mem _ (List.mem_cons_of_mem _ (List.mem_cons_of_mem _ (List.mem_cons_of_mem _ (List.mem_cons_of_mem _ (List.mem_cons_of_mem _ (List.mem_cons_of_mem _ (List.mem_cons_of_mem _ (List.mem_cons_of_mem _ List.mem_cons_self)))))))))))
  have g12 : 0 ≤ (0 : Int) + (1 * j + ((-1) * a6 + 0)) := hg _ (List.mem_cons_of_mem _ (List.mem_cons_of_mem _ (List.mem_cons_of_mem _ (List.mem_cons_of_mem _ (List.mem_cons_of_mem _ (List.mem_cons_of_mem _ (List.mem_cons_of_mem _ (List.mem_cons_of_mem _ (List.mem_cons_of_mem _ (List.mem_cons_of_mem _ (List.mem_cons_of_mem _ (List.mem_cons_of_mem _ List.mem_cons_self))))))))))))
  have hp := (zs_70 (w := w) (j := a0) (n := a1) (u := a2) (c := a3) (z := a4) (m := a5) (l := a6) (by omega) (by omega) (by omega) (by omega) (by omega) (by omega) (by omega) (by omega) (by omega) (by omega) (by omega) (by omega) (by omega) ).mp (by omega)
  have h : zs_ps w' a1 a2 a3 a4 a5 a6 := zs_gen (by rw [zh_e_g (hw.1 224 (by decide))]; exact id) (fun i i1 i2 => ⟨congrFun (zh_e_g (hw.1 208 (by decide))) i, congrFun (zh_e_g (hw.1 209 (by decide))) i, congrFun (zh_e_g (hw.1 210 (by decide))) i, congrFun (zh_e_g (hw.1 211 (by decide))) i, congrFun (zh_e_g (hw.1 212 (by decide))) i⟩) (congrFun (zh_e_g (hw.1 207 (by decide))) a2) (Int.le_refl _) (fun i i1 i2 => ⟨congrFun (zh_e_g (hw.1 229 (by decide))) i, congrFun (zh_e_g (hw.1 230 (by decide))) i⟩) (Or.inr (congrFun (zh_e_g (hw.1 250 (by decide))) 0)) (fun i i1 i2 i3 => ⟨congrFun (zh_e_g (hw.1 250 (by decide))) i, congrFun (zh_e_g (hw.1 240 (by decide))) i, congrFun (zh_e_g (hw.1 241 (by decide))) i, congrFun (zh_e_g (hw.1 242 (by decide))) i⟩) (Int.le_refl _) (fun i i1 i2 => congrFun (zh_e_g (hw.1 253 (by decide))) i) (Int.le_refl _) (fun i i1 i2 => ⟨hw.2 i (by omega) (by omega), congrFun (zh_e_g (hw.1 226 (by decide))) i⟩) hp
  exact (zx_eF1 (by show 0 ≤ (0 : Int) + (1 * a0 + 0); omega) (by show zk_xe w' 2000070 ((0 : Int) + (1 * a0 + 0)) = (1 : Int) + (0); rw [show (0 : Int) + (1 * a0 + 0) = a0 by omega]; exact ((zs_70 (w := w') (j := a0) (n := a1) (u := a2) (c := a3) (z := a4) (m := a5) (l := a6) (by omega) (by omega) (by omega) (by omega) (by omega) (by omega) (by omega) (by omega) (by omega) (by omega) (by omega) (by omega) (by omega) ).mpr h).trans (by omega)) zx_eF0)
def zx_E534 : zx_V := zx_Vc 226 [] 7 [(2000070, 0)] [((0, 0), [(2, 1, 0), (3, 0, 1), (4, 0, 4294967296), (5, 0, 18446744073709551616), (6, 0, 79228162514264337593543950336), (7, 0, 340282366920938463463374607431768211456), (8, 0, 1461501637330902918203684832716283019655932542976)]), ((0, 1), [(9, 1, 0)])] [((0, 0), [(3, 1, 0)]), ((4294967294, 0), [(3, 0, 1)]), ((0, 0), [(4, 1, 0)]), ((4294967294, 0), [(4, 0, 1)]), ((0, 0), [(5, 1, 0)]), ((4294967294, 0), [(5, 0, 1)]), ((0, 0), [(6, 1, 0)]), ((4294967294, 0), [(6, 0, 1)]), ((0, 0), [(7, 1, 0)]), ((4294967294, 0), [(7, 0, 1)]), ((0, 0), [(8, 1, 0)]), ((4294967294, 0), [(8, 0, 1)]), ((0, 0), [(0, 1, 0), (8, 0, 1)])] [(2000070, ((0, 0), [(2, 1, 0)]), ((1, 0), []))]
theorem zx_E534_ok {PT : Nat → zz_W → Prop} : zx_Vok 64 zHT PT zx_E534 := by
  refine zx_Vc_ok (fun w w' j ins hI hI' h0 hw hK hl he hg => ?_)
  obtain ⟨a0, a1, a2, a3, a4, a5, a6, rfl⟩ := zx_i7 hl
  have e0 : (0 : Int) + (1 * a0 + ((-1) * a1 + ((-4294967296) * a2 + ((-18446744073709551616) * a3 + ((-79228162514264337593543950336) * a4 + ((-340282366920938463463374607431768211456) * a5 + ((-1461501637330902918203684832716283019655932542976) * a6 + 0))))))) = 0 := he _ List.mem_cons_self
  have e1 : ((-1) : Int) + (1 * (zk_xe w 2000070 a0) + 0) = 0 := he _ (List.mem_cons_of_mem _ List.mem_cons_self)
  have g0 : 0 ≤ (0 : Int) + (1 * a1 + 0) := hg _ List.mem_cons_self
  have g1 : 0 ≤ (4294967294 : Int) + ((-1) * a1 + 0) := hg _ (List.mem_cons_of_mem _ List.mem_cons_self)
  have g2 : 0 ≤ (0 : Int) + (1 * a2 + 0) := hg _ (List.mem_cons_of_mem _ (List.mem_cons_of_mem _ List.mem_cons_self))
  have g3 : 0 ≤ (4294967294 : Int) + ((-1) * a2 + 0) := hg _ (List.mem_cons_of_mem _ (List.mem_cons_of_mem _ (List.mem_cons_of_mem _ List.mem_cons_self)))
  have g4 : 0 ≤ (0 : Int) + (1 * a3 + 0) := hg _ (List.mem_cons_of_mem _ (List.mem_cons_of_mem _ (List.mem_cons_of_mem _ (List.mem_cons_of_mem _ List.mem_cons_self))))
  have g5 : 0 ≤ (4294967294 : Int) + ((-1) * a3 + 0) := hg _ (List.mem_cons_of_mem _ (List.mem_cons_of_mem _ (List.mem_cons_of_mem _ (List.mem_cons_of_mem _ (List.mem_cons_of_mem _ List.mem_cons_self)))))
  have g6 : 0 ≤ (0 : Int) + (1 * a4 + 0) := hg _ (List.mem_cons_of_mem _ (List.mem_cons_of_mem _ (List.mem_cons_of_mem _ (List.mem_cons_of_mem _ (List.mem_cons_of_mem _ (List.mem_cons_of_mem _ List.mem_cons_self))))))
  have g7 : 0 ≤ (4294967294 : Int) + ((-1) * a4 + 0) := hg _ (List.mem_cons_of_mem _ (List.mem_cons_of_mem _ (List.mem_cons_of_mem _ (List.mem_cons_of_mem _ (List.mem_cons_of_mem _ (List.mem_cons_of_mem _ (List.mem_cons_of_mem _ List.mem_cons_self)))))))
  have g8 : 0 ≤ (0 : Int) + (1 * a5 + 0) := hg _ (List.mem_cons_of_mem _ (List.mem_cons_of_mem _ (List.mem_cons_of_mem _ (List.mem_cons_of_mem _ (List.mem_cons_of_mem _ (List.mem_cons_of_mem _ (List.mem_cons_of_mem _ (List.mem_cons_of_mem _ List.mem_cons_self))))))))
  have g9 : 0 ≤ (4294967294 : Int) + ((-1) * a5 + 0) := hg _ (List.mem_cons_of_mem _ (List.mem_cons_of_mem _ (List.mem_cons_of_mem _ (List.mem_cons_of_mem _ (List.mem_cons_of_mem _ (List.mem_cons_of_mem _ (List.mem_cons_of_mem _ (List.mem_cons_of_mem _ (List.mem_cons_of_mem _ List.mem_cons_self)))))))))
  have g10 : 0 ≤ (0 : Int) + (1 * a6 + 0) := hg _ (List.mem_cons_of_mem _ (List.mem_cons_of_mem _ (List.mem_cons_of_mem _ (List.mem_cons_of_mem _ (List.mem_cons_of_mem _ (List.mem_cons_of_mem _ (List.mem_cons_of_mem _ (List.mem_cons_of_mem _ (List.mem_cons_of_mem _ (List.mem_cons_of_mem _ List.mem_cons_self))))))))))
  have g11 : 0 ≤ (4294967294 : Int) + ((-1) * a6 + 0) := hg _ (List.mem_cons_of_mem _ (List.mem_cons_of_mem _ (List.mem_cons_of_mem _ (List.mem_cons_of_mem _ (List.mem_cons_of_mem _ (List.mem_cons_of_mem _ (List.mem_cons_of_mem _ (List.mem_cons_of_mem _ (List.mem_cons_of_mem _ (List.mem_cons_of_mem _ (List.mem_cons_of_mem _ List.mem_cons_self)))))))))))
  have g12 : 0 ≤ (0 : Int) + (1 * j + ((-1) * a6 + 0)) := hg _ (List.mem_cons_of_mem _ (List.mem_cons_of_mem _ (List.mem_cons_of_mem _ (List.mem_cons_of_mem _ (List.mem_cons_of_mem _ (List.mem_cons_of_mem _ (List.mem_cons_of_mem _ (List.mem_cons_of_mem _ (List.mem_cons_of_mem _ (List.mem_cons_of_mem _ (List.mem_cons_of_mem _ (List.mem_cons_of_mem _ List.mem_cons_self))))))))))))
  have hp := (zs_70 (w := w) (j := a0) (n := a1) (u := a2) (c := a3) (z := a4) (m := a5) (l := a6) (by omega) (by omega) (by omega) (by omega) (by omega) (by omega) (by omega) (by omega) (by omega) (by omega) (by omega) (by omega) (by omega) ).mp (by omega)
  have h : zs_ps w' a1 a2 a3 a4 a5 a6 := zs_gen (by rw [zh_e_g (hw.1 224 (by decide))]; exact id) (fun i i1 i2 => ⟨congrFun (zh_e_g (hw.1 208 (by decide))) i, congrFun (zh_e_g (hw.1 209 (by decide))) i, congrFun (zh_e_g (hw.1 210 (by decide))) i, congrFun (zh_e_g (hw.1 211 (by decide))) i, congrFun (zh_e_g (hw.1 212 (by decide))) i⟩) (congrFun (zh_e_g (hw.1 207 (by decide))) a2) (Int.le_refl _) (fun i i1 i2 => ⟨congrFun (zh_e_g (hw.1 229 (by decide))) i, congrFun (zh_e_g (hw.1 230 (by decide))) i⟩) (Or.inr (congrFun (zh_e_g (hw.1 250 (by decide))) 0)) (fun i i1 i2 i3 => ⟨congrFun (zh_e_g (hw.1 250 (by decide))) i, congrFun (zh_e_g (hw.1 240 (by decide))) i, congrFun (zh_e_g (hw.1 241 (by decide))) i, congrFun (zh_e_g (hw.1 242 (by decide))) i⟩) (Int.le_refl _) (fun i i1 i2 => congrFun (zh_e_g (hw.1 253 (by decide))) i) (Int.le_refl _) (fun i i1 i2 => ⟨congrFun (zh_e_g (hw.1 227 (by decide))) i, hw.2 i (by omega) (by omega)⟩) hp
  exact (zx_eF1 (by show 0 ≤ (0 : Int) + (1 * a0 + 0); omega) (by show zk_xe w' 2000070 ((0 : Int) + (1 * a0 + 0)) = (1 : Int) + (0); rw [show (0 : Int) + (1 * a0 + 0) = a0 by omega]; exact ((zs_70 (w := w') (j := a0) (n := a1) (u := a2) (c := a3) (z := a4) (m := a5) (l := a6) (by omega) (by omega) (by omega) (by omega) (by omega) (by omega) (by omega) (by omega) (by omega) (by omega) (by omega) (by omega) (by omega) ).mpr h).trans (by omega)) zx_eF0)
def zx_E535 : zx_V := zx_Vc 208 [] 1 [(2000073, 0), (207, 0)] [] [((0, 0), [(4, 1, 0)]), ((0, 0), [(0, 1, 0), (2, 0, 8000), (4, 0, 1)]), ((0, 0), [(2, 1, 0)])] [(2000073, ((0, 0), [(2, 1, 0)]), ((0, 0), [(3, 1, 0)]))]
theorem zx_E535_ok {PT : Nat → zz_W → Prop} : zx_Vok 64 zHT PT zx_E535 := by
  refine zx_Vc_ok (fun w w' j ins hI hI' h0 hw hK hl he hg => ?_)
  obtain ⟨a0, rfl⟩ := zx_i1 hl
  have g0 : 0 ≤ (0 : Int) + (1 * (zk_xe w 207 a0) + 0) := hg _ List.mem_cons_self
  have g1 : 0 ≤ (0 : Int) + (1 * j + ((-8000) * a0 + ((-1) * (zk_xe w 207 a0) + 0))) := hg _ (List.mem_cons_of_mem _ List.mem_cons_self)
  have g2 : 0 ≤ (0 : Int) + (1 * a0 + 0) := hg _ (List.mem_cons_of_mem _ (List.mem_cons_of_mem _ List.mem_cons_self))
  have hn : zh_e w 207 (a0) = zk_xe w 207 a0 := by rw [zk_xe_r (i := 207) (by decide)]; show zk_el w 207 (a0) = zk_el w 207 a0; rw [show a0 = a0 by omega]
  have h : zk_xe w' 2000073 a0 = zk_xe w 2000073 a0 := zs_Tc (zh_e_g (hw.1 224 (by decide))) (congrFun (zh_e_g (hw.1 207 (by decide))) a0) (congrFun (zh_e_g (hw.1 250 (by decide))) 0) (fun i i1 i2 => ⟨hw.2 i (by omega) (by omega), congrFun (zh_e_g (hw.1 211 (by decide))) i⟩)
  exact (zx_eF1 (by show 0 ≤ (0 : Int) + (1 * a0 + 0); omega) (by show zk_xe w' 2000073 ((0 : Int) + (1 * a0 + 0)) = (0 : Int) + (1 * (zk_xe w 2000073 a0) + 0); rw [show (0 : Int) + (1 * a0 + 0) = a0 by omega]; exact h.trans (by omega)) zx_eF0)
def zx_E536 : zx_V := zx_Vc 211 [] 1 [(2000073, 0), (207, 0)] [] [((0, 0), [(4, 1, 0)]), ((0, 0), [(0, 1, 0), (2, 0, 8000), (4, 0, 1)]), ((0, 0), [(2, 1, 0)])] [(2000073, ((0, 0), [(2, 1, 0)]), ((0, 0), [(3, 1, 0)]))]
theorem zx_E536_ok {PT : Nat → zz_W → Prop} : zx_Vok 64 zHT PT zx_E536 := by
  refine zx_Vc_ok (fun w w' j ins hI hI' h0 hw hK hl he hg => ?_)
  obtain ⟨a0, rfl⟩ := zx_i1 hl
  have g0 : 0 ≤ (0 : Int) + (1 * (zk_xe w 207 a0) + 0) := hg _ List.mem_cons_self
  have g1 : 0 ≤ (0 : Int) + (1 * j + ((-8000) * a0 + ((-1) * (zk_xe w 207 a0) + 0))) := hg _ (List.mem_cons_of_mem _ List.mem_cons_self)
  have g2 : 0 ≤ (0 : Int) + (1 * a0 + 0) := hg _ (List.mem_cons_of_mem _ (List.mem_cons_of_mem _ List.mem_cons_self))
  have hn : zh_e w 207 (a0) = zk_xe w 207 a0 := by rw [zk_xe_r (i := 207) (by decide)]; show zk_el w 207 (a0) = zk_el w 207 a0; rw [show a0 = a0 by omega]
  have h : zk_xe w' 2000073 a0 = zk_xe w 2000073 a0 := zs_Tc (zh_e_g (hw.1 224 (by decide))) (congrFun (zh_e_g (hw.1 207 (by decide))) a0) (congrFun (zh_e_g (hw.1 250 (by decide))) 0) (fun i i1 i2 => ⟨congrFun (zh_e_g (hw.1 208 (by decide))) i, hw.2 i (by omega) (by omega)⟩)
  exact (zx_eF1 (by show 0 ≤ (0 : Int) + (1 * a0 + 0); omega) (by show zk_xe w' 2000073 ((0 : Int) + (1 * a0 + 0)) = (0 : Int) + (1 * (zk_xe w 2000073 a0) + 0); rw [show (0 : Int) + (1 * a0 + 0) = a0 by omega]; exact h.trans (by omega)) zx_eF0)
def zx_E537 : zx_V := zx_Vc 250 [] 1 [(2000073, 0)] [] [((0, 1), [(0, 1, 0)]), ((0, 0), [(2, 1, 0)])] [(2000073, ((0, 0), [(2, 1, 0)]), ((0, 0), [(3, 1, 0)]))]
theorem zx_E537_ok {PT : Nat → zz_W → Prop} : zx_Vok 64 zHT PT zx_E537 := by
  refine zx_Vc_ok (fun w w' j ins hI hI' h0 hw hK hl he hg => ?_)
  obtain ⟨a0, rfl⟩ := zx_i1 hl
  have g0 : 0 ≤ ((-1) : Int) + (1 * j + 0) := hg _ List.mem_cons_self
  have g1 : 0 ≤ (0 : Int) + (1 * a0 + 0) := hg _ (List.mem_cons_of_mem _ List.mem_cons_self)
  have h : zk_xe w' 2000073 a0 = zk_xe w 2000073 a0 := zs_Tc (zh_e_g (hw.1 224 (by decide))) (congrFun (zh_e_g (hw.1 207 (by decide))) a0) (hw.2 0 (by omega) (by omega)) (fun i i1 i2 => ⟨congrFun (zh_e_g (hw.1 208 (by decide))) i, congrFun (zh_e_g (hw.1 211 (by decide))) i⟩)
  exact (zx_eF1 (by show 0 ≤ (0 : Int) + (1 * a0 + 0); omega) (by show zk_xe w' 2000073 ((0 : Int) + (1 * a0 + 0)) = (0 : Int) + (1 * (zk_xe w 2000073 a0) + 0); rw [show (0 : Int) + (1 * a0 + 0) = a0 by omega]; exact h.trans (by omega)) zx_eF0)
def zx_E540 : zx_V := zx_Vc 224 [] 9 [(2000070, 0), (2000071, 7), (2000073, 8)] [((0, 0), [(2, 1, 0), (3, 0, 1), (4, 0, 4294967296), (5, 0, 18446744073709551616), (6, 0, 79228162514264337593543950336), (7, 0, 340282366920938463463374607431768211456), (8, 0, 1461501637330902918203684832716283019655932542976)]), ((0, 0), [(9, 1, 0)]), ((0, 1), [(0, 1, 0)])] [((0, 0), [(3, 1, 0)]), ((4294967294, 0), [(3, 0, 1)]), ((0, 0), [(4, 1, 0)]), ((4294967294, 0), [(4, 0, 1)]), ((0, 0), [(5, 1, 0)]), ((4294967294, 0), [(5, 0, 1)]), ((0, 0), [(6, 1, 0)]), ((4294967294, 0), [(6, 0, 1)]), ((0, 0), [(7, 1, 0)]), ((4294967294, 0), [(7, 0, 1)]), ((0, 0), [(8, 1, 0)]), ((4294967294, 0), [(8, 0, 1)]), ((0, 0), [(1, 1, 0)]), ((0, 0), [(10, 1, 0)])] [(2000070, ((0, 0), [(2, 1, 0)]), ((1, 0), [])), (2000071, ((0, 0), [(9, 1, 0)]), ((1, 0), [])), (2000073, ((0, 0), [(10, 1, 0)]), ((0, 0), []))]
theorem zx_E540_ok {PT : Nat → zz_W → Prop} : zx_Vok 64 zHT PT zx_E540 := by
  refine zx_Vc_ok (fun w w' j ins hI hI' h0 hw hK hl he hg => ?_)
  obtain ⟨a0, a1, a2, a3, a4, a5, a6, a7, a8, rfl⟩ := zx_i9 hl
  have e0 : (0 : Int) + (1 * a0 + ((-1) * a1 + ((-4294967296) * a2 + ((-18446744073709551616) * a3 + ((-79228162514264337593543950336) * a4 + ((-340282366920938463463374607431768211456) * a5 + ((-1461501637330902918203684832716283019655932542976) * a6 + 0))))))) = 0 := he _ List.mem_cons_self
  have e1 : (0 : Int) + (1 * a7 + 0) = 0 := he _ (List.mem_cons_of_mem _ List.mem_cons_self)
  have e2 : ((-1) : Int) + (1 * j + 0) = 0 := he _ (List.mem_cons_of_mem _ (List.mem_cons_of_mem _ List.mem_cons_self))
  have g0 : 0 ≤ (0 : Int) + (1 * a1 + 0) := hg _ List.mem_cons_self
  have g1 : 0 ≤ (4294967294 : Int) + ((-1) * a1 + 0) := hg _ (List.mem_cons_of_mem _ List.mem_cons_self)
  have g2 : 0 ≤ (0 : Int) + (1 * a2 + 0) := hg _ (List.mem_cons_of_mem _ (List.mem_cons_of_mem _ List.mem_cons_self))
  have g3 : 0 ≤ (4294967294 : Int) + ((-1) * a2 + 0) := hg _ (List.mem_cons_of_mem _ (List.mem_cons_of_mem _ (List.mem_cons_of_mem _ List.mem_cons_self)))
  have g4 : 0 ≤ (0 : Int) + (1 * a3 + 0) := hg _ (List.mem_cons_of_mem _ (List.mem_cons_of_mem _ (List.mem_cons_of_mem _ (List.mem_cons_of_mem _ List.mem_cons_self))))
  have g5 : 0 ≤ (4294967294 : Int) + ((-1) * a3 + 0) := hg _ (List.mem_cons_of_mem _ (List.mem_cons_of_mem _ (List.mem_cons_of_mem _ (List.mem_cons_of_mem _ (List.mem_cons_of_mem _ List.mem_cons_self)))))
  have g6 : 0 ≤ (0 : Int) + (1 * a4 + 0) := hg _ (List.mem_cons_of_mem _ (List.mem_cons_of_mem _ (List.mem_cons_of_mem _ (List.mem_cons_of_mem _ (List.mem_cons_of_mem _ (List.mem_cons_of_mem _ List.mem_cons_self))))))
  have g7 : 0 ≤ (4294967294 : Int) + ((-1) * a4 + 0) := hg _ (List.mem_cons_of_mem _ (List.mem_cons_of_mem _ (List.mem_cons_of_mem _ (List.mem_cons_of_mem _ (List.mem_cons_of_mem _ (List.mem_cons_of_mem _ (List.mem_cons_of_mem _ List.mem_cons_self)))))))
  have g8 : 0 ≤ (0 : Int) + (1 * a5 + 0) := hg _ (List.mem_cons_of_mem _ (List.mem_cons_of_mem _ (List.mem_cons_of_mem _ (List.mem_cons_of_mem _ (List.mem_cons_of_mem _ (List.mem_cons_of_mem _ (List.mem_cons_of_mem _ (List.mem_cons_of_mem _ List.mem_cons_self))))))))
  have g9 : 0 ≤ (4294967294 : Int) + ((-1) * a5 + 0) := hg _ (List.mem_cons_of_mem _ (List.mem_cons_of_mem _ (List.mem_cons_of_mem _ (List.mem_cons_of_mem _ (List.mem_cons_of_mem _ (List.mem_cons_of_mem _ (List.mem_cons_of_mem _ (List.mem_cons_of_mem _ (List.mem_cons_of_mem _ List.mem_cons_self)))))))))
  have g10 : 0 ≤ (0 : Int) + (1 * a6 + 0) := hg _ (List.mem_cons_of_mem _ (List.mem_cons_of_mem _ (List.mem_cons_of_mem _ (List.mem_cons_of_mem _ (List.mem_cons_of_mem _ (List.mem_cons_of_mem _ (List.mem_cons_of_mem _ (List.mem_cons_of_mem _ (List.mem_cons_of_mem _ (List.mem_cons_of_mem _ List.mem_cons_self))))))))))
  have g11 : 0 ≤ (4294967294 : Int) + ((-1) * a6 + 0) := hg _ (List.mem_cons_of_mem _ (List.mem_cons_of_mem _ (List.mem_cons_of_mem _ (List.mem_cons_of_mem _ (List.mem_cons_of_mem _ (List.mem_cons_of_mem _ (List.mem_cons_of_mem _ (List.mem_cons_of_mem _ (List.mem_cons_of_mem _ (List.mem_cons_of_mem _ (List.mem_cons_of_mem _ List.mem_cons_self)))))))))))
  have g12 : 0 ≤ (0 : Int) + (1 * (zk_el w' 224 j) + 0) := hg _ (List.mem_cons_of_mem _ (List.mem_cons_of_mem _ (List.mem_cons_of_mem _ (List.mem_cons_of_mem _ (List.mem_cons_of_mem _ (List.mem_cons_of_mem _ (List.mem_cons_of_mem _ (List.mem_cons_of_mem _ (List.mem_cons_of_mem _ (List.mem_cons_of_mem _ (List.mem_cons_of_mem _ (List.mem_cons_of_mem _ List.mem_cons_self))))))))))))
  have g13 : 0 ≤ (0 : Int) + (1 * a8 + 0) := hg _ (List.mem_cons_of_mem _ (List.mem_cons_of_mem _ (List.mem_cons_of_mem _ (List.mem_cons_of_mem _ (List.mem_cons_of_mem _ (List.mem_cons_of_mem _ (List.mem_cons_of_mem _ (List.mem_cons_of_mem _ (List.mem_cons_of_mem _ (List.mem_cons_of_mem _ (List.mem_cons_of_mem _ (List.mem_cons_of_mem _ (List.mem_cons_of_mem _ List.mem_cons_self)))))))))))))
  have e7z : a7 = 0 := by omega
  have hv : zh_e w' 224 1 = zk_el w' 224 j := by show zk_el w' 224 1 = zk_el w' 224 j; rw [show (1 : Int) = j by omega]
  have hx : zs_x (zh_e w' 224) := Or.inl (by omega)
  exact (zx_eF1 (by show 0 ≤ (0 : Int) + (1 * a0 + 0); omega) (by show zk_xe w' 2000070 ((0 : Int) + (1 * a0 + 0)) = (1 : Int) + (0); rw [show (0 : Int) + (1 * a0 + 0) = a0 by omega]; exact ((zs_70 (w := w') (j := a0) (n := a1) (u := a2) (c := a3) (z := a4) (m := a5) (l := a6) (by omega) (by omega) (by omega) (by omega) (by omega) (by omega) (by omega) (by omega) (by omega) (by omega) (by omega) (by omega) (by omega) ).mpr (Or.inl hx)).trans (by omega)) (zx_eF1 (by show 0 ≤ (0 : Int) + (1 * a7 + 0); omega) (by show zk_xe w' 2000071 ((0 : Int) + (1 * a7 + 0)) = (1 : Int) + (0); rw [show (0 : Int) + (1 * a7 + 0) = a7 by omega]; exact (zs_71.trans (zh_b1 hx)).trans (by omega)) (zx_eF1 (by show 0 ≤ (0 : Int) + (1 * a8 + 0); omega) (by show zk_xe w' 2000073 ((0 : Int) + (1 * a8 + 0)) = (0 : Int) + (0); rw [show (0 : Int) + (1 * a8 + 0) = a8 by omega]; exact (zs_73.trans (zs_T1 hx)).trans (by omega)) zx_eF0)))
def zx_E541 : zx_V := zx_Vc 224 [] 9 [(2000070, 0), (2000071, 7), (2000073, 8)] [((0, 0), [(2, 1, 0), (3, 0, 1), (4, 0, 4294967296), (5, 0, 18446744073709551616), (6, 0, 79228162514264337593543950336), (7, 0, 340282366920938463463374607431768211456), (8, 0, 1461501637330902918203684832716283019655932542976)]), ((0, 0), [(9, 1, 0)]), ((0, 3), [(0, 1, 0)])] [((0, 0), [(3, 1, 0)]), ((4294967294, 0), [(3, 0, 1)]), ((0, 0), [(4, 1, 0)]), ((4294967294, 0), [(4, 0, 1)]), ((0, 0), [(5, 1, 0)]), ((4294967294, 0), [(5, 0, 1)]), ((0, 0), [(6, 1, 0)]), ((4294967294, 0), [(6, 0, 1)]), ((0, 0), [(7, 1, 0)]), ((4294967294, 0), [(7, 0, 1)]), ((0, 0), [(8, 1, 0)]), ((4294967294, 0), [(8, 0, 1)]), ((0, 0), [(1, 1, 0)]), ((0, 0), [(10, 1, 0)])] [(2000070, ((0, 0), [(2, 1, 0)]), ((1, 0), [])), (2000071, ((0, 0), [(9, 1, 0)]), ((1, 0), [])), (2000073, ((0, 0), [(10, 1, 0)]), ((0, 0), []))]
theorem zx_E541_ok {PT : Nat → zz_W → Prop} : zx_Vok 64 zHT PT zx_E541 := by
  refine zx_Vc_ok (fun w w' j ins hI hI' h0 hw hK hl he hg => ?_)
  obtain ⟨a0, a1, a2, a3, a4, a5, a6, a7, a8, rfl⟩ := zx_i9 hl
  have e0 : (0 : Int) + (1 * a0 + ((-1) * a1 + ((-4294967296) * a2 + ((-18446744073709551616) * a3 + ((-79228162514264337593543950336) * a4 + ((-340282366920938463463374607431768211456) * a5 + ((-1461501637330902918203684832716283019655932542976) * a6 + 0))))))) = 0 := he _ List.mem_cons_self
  have e1 : (0 : Int) + (1 * a7 + 0) = 0 := he _ (List.mem_cons_of_mem _ List.mem_cons_self)
  have e2 : ((-3) : Int) + (1 * j + 0) = 0 := he _ (List.mem_cons_of_mem _ (List.mem_cons_of_mem _ List.mem_cons_self))
  have g0 : 0 ≤ (0 : Int) + (1 * a1 + 0) := hg _ List.mem_cons_self
  have g1 : 0 ≤ (4294967294 : Int) + ((-1) * a1 + 0) := hg _ (List.mem_cons_of_mem _ List.mem_cons_self)
  have g2 : 0 ≤ (0 : Int) + (1 * a2 + 0) := hg _ (List.mem_cons_of_mem _ (List.mem_cons_of_mem _ List.mem_cons_self))
  have g3 : 0 ≤ (4294967294 : Int) + ((-1) * a2 + 0) := hg _ (List.mem_cons_of_mem _ (List.mem_cons_of_mem _ (List.mem_cons_of_mem _ List.mem_cons_self)))
  have g4 : 0 ≤ (0 : Int) + (1 * a3 + 0) := hg _ (List.mem_cons_of_mem _ (List.mem_cons_of_mem _ (List.mem_cons_of_mem _ (List.mem_cons_of_mem _ List.mem_cons_self))))
  have g5 : 0 ≤ (4294967294 : Int) + ((-1) * a3 + 0) := hg _ (List.mem_cons_of_mem _ (List.mem_cons_of_mem _ (List.mem_cons_of_mem _ (List.mem_cons_of_mem _ (List.mem_cons_of_mem _ List.mem_cons_self)))))
  have g6 : 0 ≤ (0 : Int) + (1 * a4 + 0) := hg _ (List.mem_cons_of_mem _ (List.mem_cons_of_mem _ (List.mem_cons_of_mem _ (List.mem_cons_of_mem _ (List.mem_cons_of_mem _ (List.mem_cons_of_mem _ List.mem_cons_self))))))
  have g7 : 0 ≤ (4294967294 : Int) + ((-1) * a4 + 0) := hg _ (List.mem_cons_of_mem _ (List.mem_cons_of_mem _ (List.mem_cons_of_mem _ (List.mem_cons_of_mem _ (List.mem_cons_of_mem _ (List.mem_cons_of_mem _ (List.mem_cons_of_mem _ List.mem_cons_self)))))))
  have g8 : 0 ≤ (0 : Int) + (1 * a5 + 0) := hg _ (List.mem_cons_of_mem _ (List.mem_cons_of_mem _ (List.mem_cons_of_mem _ (List.mem_cons_of_mem _ (List.mem_cons_of_mem _ (List.mem_cons_of_mem _ (List.mem_cons_of_mem _ (List.mem_cons_of_mem _ List.mem_cons_self))))))))
  have g9 : 0 ≤ (4294967294 : Int) + ((-1) * a5 + 0) := hg _ (List.mem_cons_of_mem _ (List.mem_cons_of_mem _ (List.mem_cons_of_mem _ (List.mem_cons_of_mem _ (List.mem_cons_of_mem _ (List.mem_cons_of_mem _ (List.mem_cons_of_mem _ (List.mem_cons_of_mem _ (List.mem_cons_of_mem _ List.mem_cons_self)))))))))
  have g10 : 0 ≤ (0 : Int) + (1 * a6 + 0) := hg _ (List.mem_cons_of_mem _ (List.mem_cons_of_mem _ (List.mem_cons_of_mem _ (List.mem_cons_of_mem _ (List.mem_cons_of_mem _ (List.mem_cons_of_mem _ (List.mem_cons_of_mem _ (List.mem_cons_of_mem _ (List.mem_cons_of_mem _ (List.mem_cons_of_mem _ List.mem_cons_self))))))))))
  have g11 : 0 ≤ (4294967294 : Int) + ((-1) * a6 + 0) := hg _ (List.mem_cons_of_mem _ (List.mem_cons_of_mem _ (List.mem_cons_of_mem _ (List.mem_cons_of_mem _ (List.mem_cons_of_mem _ (List.mem_cons_of_mem _ (List.mem_cons_of_mem _ (List.mem_cons_of_mem _ (List.mem_cons_of_mem _ (List.mem_cons_of_mem _ (List.mem_cons_of_mem _ List.mem_cons_self)))))))))))
  have g12 : 0 ≤ (0 : Int) + (1 * (zk_el w' 224 j) + 0) := hg _ (List.mem_cons_of_mem _ (List.mem_cons_of_mem _ (List.mem_cons_of_mem _ (List.mem_cons_of_mem _ (List.mem_cons_of_mem _ (List.mem_cons_of_mem _ (List.mem_cons_of_mem _ (List.mem_cons_of_mem _ (List.mem_cons_of_mem _ (List.mem_cons_of_mem _ (List.mem_cons_of_mem _ (List.mem_cons_of_mem _ List.mem_cons_self))))))))))))
  have g13 : 0 ≤ (0 : Int) + (1 * a8 + 0) := hg _ (List.mem_cons_of_mem _ (List.mem_cons_of_mem _ (List.mem_cons_of_mem _ (List.mem_cons_of_mem _ (List.mem_cons_of_mem _ (List.mem_cons_of_mem _ (List.mem_cons_of_mem _ (List.mem_cons_of_mem _ (List.mem_cons_of_mem _ (List.mem_cons_of_mem _ (List.mem_cons_of_mem _ (List.mem_cons_of_mem _ (List.mem_cons_of_mem _ List.mem_cons_self)))))))))))))
  have e7z : a7 = 0 := by omega
  have hv : zh_e w' 224 3 = zk_el w' 224 j := by show zk_el w' 224 3 = zk_el w' 224 j; rw [show (3 : Int) = j by omega]
  have hx : zs_x (zh_e w' 224) := Or.inr (Or.inl (by omega))
  exact (zx_eF1 (by show 0 ≤ (0 : Int) + (1 * a0 + 0); omega) (by show zk_xe w' 2000070 ((0 : Int) + (1 * a0 + 0)) = (1 : Int) + (0); rw [show (0 : Int) + (1 * a0 + 0) = a0 by omega]; exact ((zs_70 (w := w') (j := a0) (n := a1) (u := a2) (c := a3) (z := a4) (m := a5) (l := a6) (by omega) (by omega) (by omega) (by omega) (by omega) (by omega) (by omega) (by omega) (by omega) (by omega) (by omega) (by omega) (by omega) ).mpr (Or.inl hx)).trans (by omega)) (zx_eF1 (by show 0 ≤ (0 : Int) + (1 * a7 + 0); omega) (by show zk_xe w' 2000071 ((0 : Int) + (1 * a7 + 0)) = (1 : Int) + (0); rw [show (0 : Int) + (1 * a7 + 0) = a7 by omega]; exact (zs_71.trans (zh_b1 hx)).trans (by omega)) (zx_eF1 (by show 0 ≤ (0 : Int) + (1 * a8 + 0); omega) (by show zk_xe w' 2000073 ((0 : Int) + (1 * a8 + 0)) = (0 : Int) + (0); rw [show (0 : Int) + (1 * a8 + 0) = a8 by omega]; exact (zs_73.trans (zs_T1 hx)).trans (by omega)) zx_eF0)))
def zx_E542 : zx_V := zx_Vc 224 [] 9 [(2000070, 0), (2000071, 7), (2000073, 8)] [((0, 0), [(2, 1, 0), (3, 0, 1), (4, 0, 4294967296), (5, 0, 18446744073709551616), (6, 0, 79228162514264337593543950336), (7, 0, 340282366920938463463374607431768211456), (8, 0, 1461501637330902918203684832716283019655932542976)]), ((0, 0), [(9, 1, 0)]), ((0, 4), [(0, 1, 0)])] [((0, 0), [(3, 1, 0)]), ((4294967294, 0), [(3, 0, 1)]), ((0, 0), [(4, 1, 0)]), ((4294967294, 0), [(4, 0, 1)]), ((0, 0), [(5, 1, 0)]), ((4294967294, 0), [(5, 0, 1)]), ((0, 0), [(6, 1, 0)]), ((4294967294, 0), [(6, 0, 1)]), ((0, 0), [(7, 1, 0)]), ((4294967294, 0), [(7, 0, 1)]), ((0, 0), [(8, 1, 0)]), ((4294967294, 0), [(8, 0, 1)]), ((0, 0), [(1, 1, 0)]), ((0, 0), [(10, 1, 0)])] [(2000070, ((0, 0), [(2, 1, 0)]), ((1, 0), [])), (2000071, ((0, 0), [(9, 1, 0)]), ((1, 0), [])), (2000073, ((0, 0), [(10, 1, 0)]), ((0, 0), []))]
theorem zx_E542_ok {PT : Nat → zz_W → Prop} : zx_Vok 64 zHT PT zx_E542 := by
  refine zx_Vc_ok (fun w w' j ins hI hI' h0 hw hK hl he hg => ?_)
  obtain ⟨a0, a1, a2, a3, a4, a5, a6, a7, a8, rfl⟩ := zx_i9 hl
  have e0 : (0 : Int) + (1 * a0 + ((-1) * a1 + ((-4294967296) * a2 + ((-18446744073709551616) * a3 + ((-79228162514264337593543950336) * a4 + ((-340282366920938463463374607431768211456) * a5 + ((-1461501637330902918203684832716283019655932542976) * a6 + 0))))))) = 0 := he _ List.mem_cons_self
  have e1 : (0 : Int) + (1 * a7 + 0) = 0 := he _ (List.mem_cons_of_mem _ List.mem_cons_self)
  have e2 : ((-4) : Int) + (1 * j + 0) = 0 := he _ (List.mem_cons_of_mem _ (List.mem_cons_of_mem _ List.mem_cons_self))
  have g0 : 0 ≤ (0 : Int) + (1 * a1 + 0) := hg _ List.mem_cons_self
  have g1 : 0 ≤ (4294967294 : Int) + ((-1) * a1 + 0) := hg _ (List.mem_cons_of_mem _ List.mem_cons_self)
  have g2 : 0 ≤ (0 : Int) + (1 * a2 + 0) := hg _ (List.mem_cons_of_mem _ (List.mem_cons_of_mem _ List.mem_cons_self))
  have g3 : 0 ≤ (4294967294 : Int) + ((-1) * a2 + 0) := hg _ (List.mem_cons_of_mem _ (List.mem_cons_of_mem _ (List.mem_cons_of_mem _ List.mem_cons_self)))
  have g4 : 0 ≤ (0 : Int) + (1 * a3 + 0) := hg _ (List.mem_cons_of_mem _ (List.mem_cons_of_mem _ (List.mem_cons_of_mem _ (List.mem_cons_of_mem _ List.mem_cons_self))))
  have g5 : 0 ≤ (4294967294 : Int) + ((-1) * a3 + 0) := hg _ (List.mem_cons_of_mem _ (List.mem_cons_of_mem _ (List.mem_cons_of_mem _ (List.mem_cons_of_mem _ (List.mem_cons_of_mem _ List.mem_cons_self)))))
  have g6 : 0 ≤ (0 : Int) + (1 * a4 + 0) := hg _ (List.mem_cons_of_mem _ (List.mem_cons_of_mem _ (List.mem_cons_of_mem _ (List.mem_cons_of_mem _ (List.mem_cons_of_mem _ (List.mem_cons_of_mem _ List.mem_cons_self))))))
  have g7 : 0 ≤ (4294967294 : Int) + ((-1) * a4 + 0) := hg _ (List.mem_cons_of_mem _ (List.mem_cons_of_mem _ (List.mem_cons_of_mem _ (List.mem_cons_of_mem _ (List.mem_cons_of_mem _ (List.mem_cons_of_mem _ (List.mem_cons_of_mem _ List.mem_cons_self)))))))
  have g8 : 0 ≤ (0 : Int) + (1 * a5 + 0) := hg _ (List.mem_cons_of_mem _ (List.mem_cons_of_mem _ (List.mem_cons_of_mem _ (List.mem_cons_of_mem _ (List.mem_cons_of_mem _ (List.mem_cons_of_mem _ (List.mem_cons_of_mem _ (List.mem_cons_of_mem _ List.mem_cons_self))))))))
  have g9 : 0 ≤ (4294967294 : Int) + ((-1) * a5 + 0) := hg _ (List.mem_cons_of_mem _ (List.mem_cons_of_mem _ (List.mem_cons_of_mem _ (List.mem_cons_of_mem _ (List.mem_cons_of_mem _ (List.mem_cons_of_mem _ (List.mem_cons_of_mem _ (List.mem_cons_of_mem _ (List.mem_cons_of_mem _ List.mem_cons_self)))))))))
  have g10 : 0 ≤ (0 : Int) + (1 * a6 + 0) := hg _ (List.mem_cons_of_mem _ (List.mem_cons_of_mem _ (List.mem_cons_of_mem _ (List.mem_cons_of_mem _ (List.mem_cons_of_mem _ (List.mem_cons_of_mem _ (List.mem_cons_of_mem _ (List.mem_cons_of_mem _ (List.mem_cons_of_mem _ (List.mem_cons_of_mem _ List.mem_cons_self))))))))))
  have g11 : 0 ≤ (4294967294 : Int) + ((-1) * a6 + 0) := hg _ (List.mem_cons_of_mem _ (List.mem_cons_of_mem _ (List.mem_cons_of_mem _ (List.mem_cons_of_mem _ (List.mem_cons_of_mem _ (List.mem_cons_of_mem _ (List.mem_cons_of_mem _ (List.mem_cons_of_mem _ (List.mem_cons_of_mem _ (List.mem_cons_of_mem _ (List.mem_cons_of_mem _ List.mem_cons_self)))))))))))
  have g12 : 0 ≤ (0 : Int) + (1 * (zk_el w' 224 j) + 0) := hg _ (List.mem_cons_of_mem _ (List.mem_cons_of_mem _ (List.mem_cons_of_mem _ (List.mem_cons_of_mem _ (List.mem_cons_of_mem _ (List.mem_cons_of_mem _ (List.mem_cons_of_mem _ (List.mem_cons_of_mem _ (List.mem_cons_of_mem _ (List.mem_cons_of_mem _ (List.mem_cons_of_mem _ (List.mem_cons_of_mem _ List.mem_cons_self))))))))))))
  have g13 : 0 ≤ (0 : Int) + (1 * a8 + 0) := hg _ (List.mem_cons_of_mem _ (List.mem_cons_of_mem _ (List.mem_cons_of_mem _ (List.mem_cons_of_mem _ (List.mem_cons_of_mem _ (List.mem_cons_of_mem _ (List.mem_cons_of_mem _ (List.mem_cons_of_mem _ (List.mem_cons_of_mem _ (List.mem_cons_of_mem _ (List.mem_cons_of_mem _ (List.mem_cons_of_mem _ (List.mem_cons_of_mem _ List.mem_cons_self)))))))))))))
  have e7z : a7 = 0 := by omega
  have hv : zh_e w' 224 4 = zk_el w' 224 j := by show zk_el w' 224 4 = zk_el w' 224 j; rw [show (4 : Int) = j by omega]
  have hx : zs_x (zh_e w' 224) := Or.inr (Or.inr (by omega))
  exact (zx_eF1 (by show 0 ≤ (0 : Int) + (1 * a0 + 0); omega) (by show zk_xe w' 2000070 ((0 : Int) + (1 * a0 + 0)) = (1 : Int) + (0); rw [show (0 : Int) + (1 * a0 + 0) = a0 by omega]; exact ((zs_70 (w := w') (j := a0) (n := a1) (u := a2) (c := a3) (z := a4) (m := a5) (l := a6) (by omega) (by omega) (by omega) (by omega) (by omega) (by omega) (by omega) (by omega) (by omega) (by omega) (by omega) (by omega) (by omega) ).mpr (Or.inl hx)).trans (by omega)) (zx_eF1 (by show 0 ≤ (0 : Int) + (1 * a7 + 0); omega) (by show zk_xe w' 2000071 ((0 : Int) + (1 * a7 + 0)) = (1 : Int) + (0); rw [show (0 : Int) + (1 * a7 + 0) = a7 by omega]; exact (zs_71.trans (zh_b1 hx)).trans (by omega)) (zx_eF1 (by show 0 ≤ (0 : Int) + (1 * a8 + 0); omega) (by show zk_xe w' 2000073 ((0 : Int) + (1 * a8 + 0)) = (0 : Int) + (0); rw [show (0 : Int) + (1 * a8 + 0) = a8 by omega]; exact (zs_73.trans (zs_T1 hx)).trans (by omega)) zx_eF0)))
def zx_E543 : zx_V := zx_Vc 224 [] 9 [(2000070, 0), (2000071, 7), (2000073, 8)] [((0, 0), [(2, 1, 0), (3, 0, 1), (4, 0, 4294967296), (5, 0, 18446744073709551616), (6, 0, 79228162514264337593543950336), (7, 0, 340282366920938463463374607431768211456), (8, 0, 1461501637330902918203684832716283019655932542976)]), ((0, 1), [(11, 1, 0)]), ((0, 0), [(9, 1, 0)]), ((0, 2), [(0, 1, 0)])] [((0, 0), [(3, 1, 0)]), ((4294967294, 0), [(3, 0, 1)]), ((0, 0), [(4, 1, 0)]), ((4294967294, 0), [(4, 0, 1)]), ((0, 0), [(5, 1, 0)]), ((4294967294, 0), [(5, 0, 1)]), ((0, 0), [(6, 1, 0)]), ((4294967294, 0), [(6, 0, 1)]), ((0, 0), [(7, 1, 0)]), ((4294967294, 0), [(7, 0, 1)]), ((0, 0), [(8, 1, 0)]), ((4294967294, 0), [(8, 0, 1)]), ((0, 0), [(10, 1, 0)])] [(2000070, ((0, 0), [(2, 1, 0)]), ((1, 0), [])), (2000071, ((0, 0), [(9, 1, 0)]), ((0, 0), [(12, 1, 0)])), (2000073, ((0, 0), [(10, 1, 0)]), ((0, 0), [(13, 1, 0)]))]
theorem zx_E543_ok {PT : Nat → zz_W → Prop} : zx_Vok 64 zHT PT zx_E543 := by
  refine zx_Vc_ok (fun w w' j ins hI hI' h0 hw hK hl he hg => ?_)
  obtain ⟨a0, a1, a2, a3, a4, a5, a6, a7, a8, rfl⟩ := zx_i9 hl
  have e0 : (0 : Int) + (1 * a0 + ((-1) * a1 + ((-4294967296) * a2 + ((-18446744073709551616) * a3 + ((-79228162514264337593543950336) * a4 + ((-340282366920938463463374607431768211456) * a5 + ((-1461501637330902918203684832716283019655932542976) * a6 + 0))))))) = 0 := he _ List.mem_cons_self
  have e1 : ((-1) : Int) + (1 * (zk_xe w 2000070 a0) + 0) = 0 := he _ (List.mem_cons_of_mem _ List.mem_cons_self)
  have e2 : (0 : Int) + (1 * a7 + 0) = 0 := he _ (List.mem_cons_of_mem _ (List.mem_cons_of_mem _ List.mem_cons_self))
  have e3 : ((-2) : Int) + (1 * j + 0) = 0 := he _ (List.mem_cons_of_mem _ (List.mem_cons_of_mem _ (List.mem_cons_of_mem _ List.mem_cons_self)))
  have g0 : 0 ≤ (0 : Int) + (1 * a1 + 0) := hg _ List.mem_cons_self
  have g1 : 0 ≤ (4294967294 : Int) + ((-1) * a1 + 0) := hg _ (List.mem_cons_of_mem _ List.mem_cons_self)
  have g2 : 0 ≤ (0 : Int) + (1 * a2 + 0) := hg _ (List.mem_cons_of_mem _ (List.mem_cons_of_mem _ List.mem_cons_self))
  have g3 : 0 ≤ (4294967294 : Int) + ((-1) * a2 + 0) := hg _ (List.mem_cons_of_mem _ (List.mem_cons_of_mem _ (List.mem_cons_of_mem _ List.mem_cons_self)))
  have g4 : 0 ≤ (0 : Int) + (1 * a3 + 0) := hg _ (List.mem_cons_of_mem _ (List.mem_cons_of_mem _ (List.mem_cons_of_mem _ (List.mem_cons_of_mem _ List.mem_cons_self))))
  have g5 : 0 ≤ (4294967294 : Int) + ((-1) * a3 + 0) := hg _ (List.mem_cons_of_mem _ (List.mem_cons_of_mem _ (List.mem_cons_of_mem _ (List.mem_cons_of_mem _ (List.mem_cons_of_mem _ List.mem_cons_self)))))
  have g6 : 0 ≤ (0 : Int) + (1 * a4 + 0) := hg _ (List.mem_cons_of_mem _ (List.mem_cons_of_mem _ (List.mem_cons_of_mem _ (List.mem_cons_of_mem _ (List.mem_cons_of_mem _ (List.mem_cons_of_mem _ List.mem_cons_self))))))
  have g7 : 0 ≤ (4294967294 : Int) + ((-1) * a4 + 0) := hg _ (List.mem_cons_of_mem _ (List.mem_cons_of_mem _ (List.mem_cons_of_mem _ (List.mem_cons_of_mem _ (List.mem_cons_of_mem _ (List.mem_cons_of_mem _ (List.mem_cons_of_mem _ List.mem_cons_self)))))))
  have g8 : 0 ≤ (0 : Int) + (1 * a5 + 0) := hg _ (List.mem_cons_of_mem _ (List.mem_cons_of_mem _ (List.mem_cons_of_mem _ (List.mem_cons_of_mem _ (List.mem_cons_of_mem _ (List.mem_cons_of_mem _ (List.mem_cons_of_mem _ (List.mem_cons_of_mem _ List.mem_cons_self))))))))
  have g9 : 0 ≤ (4294967294 : Int) + ((-1) * a5 + 0) := hg _ (List.mem_cons_of_mem _ (List.mem_cons_of_mem _ (List.mem_cons_of_mem _ (List.mem_cons_of_mem _ (List.mem_cons_of_mem _ (List.mem_cons_of_mem _ (List.mem_cons_of_mem _ (List.mem_cons_of_mem _ (List.mem_cons_of_mem _ List.mem_cons_self)))))))))
  have g10 : 0 ≤ (0 : Int) + (1 * a6 + 0) := hg _ (List.mem_cons_of_mem _ (List.mem_cons_of_mem _ (List.mem_cons_of_mem _ (List.mem_cons_of_mem _ (List.mem_cons_of_mem _ (List.mem_cons_of_mem _ (List.mem_cons_of_mem _ (List.mem_cons_of_mem _ (List.mem_cons_of_mem _ (List.mem_cons_of_mem _ List.mem_cons_self))))))))))
  have g11 : 0 ≤ (4294967294 : Int) + ((-1) * a6 + 0) := hg _ (List.mem_cons_of_mem _ (List.mem_cons_of_mem _ (List.mem_cons_of_mem _ (List.mem_cons_of_mem _ (List.mem_cons_of_mem _ (List.mem_cons_of_mem _ (List.mem_cons_of_mem _ (List.mem_cons_of_mem _ (List.mem_cons_of_mem _ (List.mem_cons_of_mem _ (List.mem_cons_of_mem _ List.mem_cons_self)))))))))))
  have g12 : 0 ≤ (0 : Int) + (1 * a8 + 0) := hg _ (List.mem_cons_of_mem _ (List.mem_cons_of_mem _ (List.mem_cons_of_mem _ (List.mem_cons_of_mem _ (List.mem_cons_of_mem _ (List.mem_cons_of_mem _ (List.mem_cons_of_mem _ (List.mem_cons_of_mem _ (List.mem_cons_of_mem _ (List.mem_cons_of_mem _ (List.mem_cons_of_mem _ (List.mem_cons_of_mem _ List.mem_cons_self))))))))))))
  have e7z : a7 = 0 := by omega
  have hp := (zs_70 (w := w) (j := a0) (n := a1) (u := a2) (c := a3) (z := a4) (m := a5) (l := a6) (by omega) (by omega) (by omega) (by omega) (by omega) (by omega) (by omega) (by omega) (by omega) (by omega) (by omega) (by omega) (by omega) ).mp (by omega)
  have q1 : zh_e w' 224 1 = zh_e w 224 1 := hw.2 1 (by omega) (by omega)
  have q3 : zh_e w' 224 3 = zh_e w 224 3 := hw.2 3 (by omega) (by omega)
  have q4 : zh_e w' 224 4 = zh_e w 224 4 := hw.2 4 (by omega) (by omega)
  have hx : zs_x (zh_e w' 224) ↔ zs_x (zh_e w 224) := by unfold zs_x; rw [q1, q3, q4]
  have h : zs_ps w' a1 a2 a3 a4 a5 a6 := zs_gen hx.mpr (fun i i1 i2 => ⟨congrFun (zh_e_g (hw.1 208 (by decide))) i, congrFun (zh_e_g (hw.1 209 (by decide))) i, congrFun (zh_e_g (hw.1 210 (by decide))) i, congrFun (zh_e_g (hw.1 211 (by decide))) i, congrFun (zh_e_g (hw.1 212 (by decide))) i⟩) (congrFun (zh_e_g (hw.1 207 (by decide))) a2) (Int.le_refl _) (fun i i1 i2 => ⟨congrFun (zh_e_g (hw.1 229 (by decide))) i, congrFun (zh_e_g (hw.1 230 (by decide))) i⟩) (Or.inr (congrFun (zh_e_g (hw.1 250 (by decide))) 0)) (fun i i1 i2 i3 => ⟨congrFun (zh_e_g (hw.1 250 (by decide))) i, congrFun (zh_e_g (hw.1 240 (by decide))) i, congrFun (zh_e_g (hw.1 241 (by decide))) i, congrFun (zh_e_g (hw.1 242 (by decide))) i⟩) (Int.le_refl _) (fun i i1 i2 => congrFun (zh_e_g (hw.1 253 (by decide))) i) (Int.le_refl _) (fun i i1 i2 => ⟨congrFun (zh_e_g (hw.1 227 (by decide))) i, congrFun (zh_e_g (hw.1 226 (by decide))) i⟩) hp
  have hT : zs_T w' a8 = zs_T w a8 := by
    by_cases c : zs_x (zh_e w 224)
    · rw [zs_T1 c, zs_T1 (hx.mpr c)]
    · rw [zs_T0 c, zs_T0 (fun q => c (hx.mp q)), zh_e_g (hw.1 208 (by decide)), zh_e_g (hw.1 211 (by decide)), zh_e_g (hw.1 250 (by decide)), zh_e_g (hw.1 207 (by decide))]
  have hE : zh_b (zs_x (zh_e w' 224)) = zh_b (zs_x (zh_e w 224)) := by
    by_cases c : zs_x (zh_e w 224)
    · rw [zh_b1 c, zh_b1 (hx.mpr c)]
    · rw [zh_b0 c, zh_b0 (fun q => c (hx.mp q))]
  exact (zx_eF1 (by show 0 ≤ (0 : Int) + (1 * a0 + 0); omega) (by show zk_xe w' 2000070 ((0 : Int) + (1 * a0 + 0)) = (1 : Int) + (0); rw [show (0 : Int) + (1 * a0 + 0) = a0 by omega]; exact ((zs_70 (w := w') (j := a0) (n := a1) (u := a2) (c := a3) (z := a4) (m := a5) (l := a6) (by omega) (by omega) (by omega) (by omega) (by omega) (by omega) (by omega) (by omega) (by omega) (by omega) (by omega) (by omega) (by omega) ).mpr h).trans (by omega)) (zx_eF1 (by show 0 ≤ (0 : Int) + (1 * a7 + 0); omega) (by show zk_xe w' 2000071 ((0 : Int) + (1 * a7 + 0)) = (0 : Int) + (1 * (zk_xe w 2000071 a7) + 0); rw [show (0 : Int) + (1 * a7 + 0) = a7 by omega]; exact ((zs_71.trans hE).trans (zs_71 (w := w) (j := a7)).symm).trans (by omega)) (zx_eF1 (by show 0 ≤ (0 : Int) + (1 * a8 + 0); omega) (by show zk_xe w' 2000073 ((0 : Int) + (1 * a8 + 0)) = (0 : Int) + (1 * (zk_xe w 2000073 a8) + 0); rw [show (0 : Int) + (1 * a8 + 0) = a8 by omega]; exact ((zs_73.trans hT).trans zs_73.symm).trans (by omega)) zx_eF0)))
def zx_E550 : zx_V := zx_Vc 207 [] 10 [(2000070, 0), (207, 7), (208, 8), (209, 8), (210, 8), (211, 8), (212, 8), (2000071, 9)] [((0, 0), [(2, 1, 0), (3, 0, 1), (4, 0, 4294967296), (5, 0, 18446744073709551616), (6, 0, 79228162514264337593543950336), (7, 0, 340282366920938463463374607431768211456), (8, 0, 1461501637330902918203684832716283019655932542976)]), ((0, 1), [(12, 1, 0)]), ((0, 0), [(4, 0, 1), (9, 1, 0)]), ((0, 0), [(4, 0, 8000), (10, 1, 0), (13, 0, 1)]), ((0, 0), [(11, 1, 0)]), ((0, 1), [(1, 1, 0), (13, 0, 1)]), ((0, 0), [(0, 1, 0), (4, 0, 1)])] [((0, 0), [(3, 1, 0)]), ((4294967294, 0), [(3, 0, 1)]), ((0, 0), [(4, 1, 0)]), ((4294967294, 0), [(4, 0, 1)]), ((0, 0), [(5, 1, 0)]), ((4294967294, 0), [(5, 0, 1)]), ((0, 0), [(6, 1, 0)]), ((4294967294, 0), [(6, 0, 1)]), ((0, 0), [(7, 1, 0)]), ((4294967294, 0), [(7, 0, 1)]), ((0, 0), [(8, 1, 0)]), ((4294967294, 0), [(8, 0, 1)]), ((0, 0), [(13, 1, 0)]), ((0, 1), [(14, 1, 0)]), ((2, 0), [(14, 0, 1)])] [(2000070, ((0, 0), [(2, 1, 0)]), ((1, 0), []))]
theorem zx_E550_ok {PT : Nat → zz_W → Prop} : zx_Vok 64 zHT PT zx_E550 := by
  refine zx_Vc_ok (fun w w' j ins hI hI' h0 hw hK hl he hg => ?_)
  obtain ⟨a0, a1, a2, a3, a4, a5, a6, a7, a8, a9, rfl⟩ := zx_i10 hl
  have e0 : (0 : Int) + (1 * a0 + ((-1) * a1 + ((-4294967296) * a2 + ((-18446744073709551616) * a3 + ((-79228162514264337593543950336) * a4 + ((-340282366920938463463374607431768211456) * a5 + ((-1461501637330902918203684832716283019655932542976) * a6 + 0))))))) = 0 := he _ List.mem_cons_self
  have e1 : ((-1) : Int) + (1 * (zk_xe w 2000070 a0) + 0) = 0 := he _ (List.mem_cons_of_mem _ List.mem_cons_self)
  have e2 : (0 : Int) + ((-1) * a2 + (1 * a7 + 0)) = 0 := he _ (List.mem_cons_of_mem _ (List.mem_cons_of_mem _ List.mem_cons_self))
  have e3 : (0 : Int) + ((-8000) * a2 + (1 * a8 + ((-1) * (zk_xe w 207 a7) + 0))) = 0 := he _ (List.mem_cons_of_mem _ (List.mem_cons_of_mem _ (List.mem_cons_of_mem _ List.mem_cons_self)))
  have e4 : (0 : Int) + (1 * a9 + 0) = 0 := he _ (List.mem_cons_of_mem _ (List.mem_cons_of_mem _ (List.mem_cons_of_mem _ (List.mem_cons_of_mem _ List.mem_cons_self))))
  have e5 : ((-1) : Int) + (1 * (zk_el w' 207 j) + ((-1) * (zk_xe w 207 a7) + 0)) = 0 := he _ (List.mem_cons_of_mem _ (List.mem_cons_of_mem _ (List.mem_cons_of_mem _ (List.mem_cons_of_mem _ (List.mem_cons_of_mem _ List.mem_cons_self)))))
  have e6 : (0 : Int) + (1 * j + ((-1) * a2 + 0)) = 0 := he _ (List.mem_cons_of_mem _ (List.mem_cons_of_mem _ (List.mem_cons_of_mem _ (List.mem_cons_of_mem _ (List.mem_cons_of_mem _ (List.mem_cons_of_mem _ List.mem_cons_self))))))
  have g0 : 0 ≤ (0 : Int) + (1 * a1 + 0) := hg _ List.mem_cons_self
  have g1 : 0 ≤ (4294967294 : Int) + ((-1) * a1 + 0) := hg _ (List.mem_cons_of_mem _ List.mem_cons_self)
  have g2 : 0 ≤ (0 : Int) + (1 * a2 + 0) := hg _ (List.mem_cons_of_mem _ (List.mem_cons_of_mem _ List.mem_cons_self))
  have g3 : 0 ≤ (4294967294 : Int) + ((-1) * a2 + 0) := hg _ (List.mem_cons_of_mem _ (List.mem_cons_of_mem _ (List.mem_cons_of_mem _ List.mem_cons_self)))
  have g4 : 0 ≤ (0 : Int) + (1 * a3 + 0) := hg _ (List.mem_cons_of_mem _ (List.mem_cons_of_mem _ (List.mem_cons_of_mem _ (List.mem_cons_of_mem _ List.mem_cons_self))))
  have g5 : 0 ≤ (4294967294 : Int) + ((-1) * a3 + 0) := hg _ (List.mem_cons_of_mem _ (List.mem_cons_of_mem _ (List.mem_cons_of_mem _ (List.mem_cons_of_mem _ (List.mem_cons_of_mem _ List.mem_cons_self)))))
  have g6 : 0 ≤ (0 : Int) + (1 * a4 + 0) := hg _ (List.mem_cons_of_mem _ (List.mem_cons_of_mem _ (List.mem_cons_of_mem _ (List.mem_cons_of_mem _ (List.mem_cons_of_mem _ (List.mem_cons_of_mem _ List.mem_cons_self))))))
  have g7 : 0 ≤ (4294967294 : Int) + ((-1) * a4 + 0) := hg _ (List.mem_cons_of_mem _ (List.mem_cons_of_mem _ (List.mem_cons_of_mem _ (List.mem_cons_of_mem _ (List.mem_cons_of_mem _ (List.mem_cons_of_mem _ (List.mem_cons_of_mem _ List.mem_cons_self)))))))
  have g8 : 0 ≤ (0 : Int) + (1 * a5 + 0) := hg _ (List.mem_cons_of_mem _ (List.mem_cons_of_mem _ (List.mem_cons_of_mem _ (List.mem_cons_of_mem _ (List.mem_cons_of_mem _ (List.mem_cons_of_mem _ (List.mem_cons_of_mem _ (List.mem_cons_of_mem _ List.mem_cons_self))))))))
  have g9 : 0 ≤ (4294967294 : Int) + ((-1) * a5 + 0) := hg _ (List.mem_cons_of_mem _ (List.mem_cons_of_mem _ (List.mem_cons_of_mem _ (List.mem_cons_of_mem _ (List.mem_cons_of_mem _ (List.mem_cons_of_mem _ (List.mem_cons_of_mem _ (List.mem_cons_of_mem _ (List.mem_cons_of_mem _ List.mem_cons_self)))))))))
  have g10 : 0 ≤ (0 : Int) + (1 * a6 + 0) := hg _ (List.mem_cons_of_mem _ (List.mem_cons_of_mem _ (List.mem_cons_of_mem _ (List.mem_cons_of_mem _ (List.mem_cons_of_mem _ (List.mem_cons_of_mem _ (List.mem_cons_of_mem _ (List.mem_cons_of_mem _ (List.mem_cons_of_mem _ (List.mem_cons_of_mem _ List.mem_cons_self))))))))))
  have g11 : 0 ≤ (4294967294 : Int) + ((-1) * a6 + 0) := hg _ (List.mem_cons_of_mem _ (List.mem_cons_of_mem _ (List.mem_cons_of_mem _ (List.mem_cons_of_mem _ (List.mem_cons_of_mem _ (List.mem_cons_of_mem _ (List.mem_cons_of_mem _ (List.mem_cons_of_mem _ (List.mem_cons_of_mem _ (List.mem_cons_of_mem _ (List.mem_cons_of_mem _ List.mem_cons_self)))))))))))
  have g12 : 0 ≤ (0 : Int) + (1 * (zk_xe w 207 a7) + 0) := hg _ (List.mem_cons_of_mem _ (List.mem_cons_of_mem _ (List.mem_cons_of_mem _ (List.mem_cons_of_mem _ (List.mem_cons_of_mem _ (List.mem_cons_of_mem _ (List.mem_cons_of_mem _ (List.mem_cons_of_mem _ (List.mem_cons_of_mem _ (List.mem_cons_of_mem _ (List.mem_cons_of_mem _ (List.mem_cons_of_mem _ List.mem_cons_self))))))))))))
  have g13 : 0 ≤ ((-1) : Int) + (1 * (zk_xe w 208 a8) + 0) := hg _ (List.mem_cons_of_mem _ (List.mem_cons_of_mem _ (List.mem_cons_of_mem _ (List.mem_cons_of_mem _ (List.mem_cons_of_mem _ (List.mem_cons_of_mem _ (List.mem_cons_of_mem _ (List.mem_cons_of_mem _ (List.mem_cons_of_mem _ (List.mem_cons_of_mem _ (List.mem_cons_of_mem _ (List.mem_cons_of_mem _ (List.mem_cons_of_mem _ List.mem_cons_self)))))))))))))
  have g14 : 0 ≤ (2 : Int) + ((-1) * (zk_xe w 208 a8) + 0) := hg _ (List.mem_cons_of_mem _ (List.mem_cons_of_mem _ (List.mem_cons_of_mem _ (List.mem_cons_of_mem _ (List.mem_cons_of_mem _ (List.mem_cons_of_mem _ (List.mem_cons_of_mem _ (List.mem_cons_of_mem _ (List.mem_cons_of_mem _ (List.mem_cons_of_mem _ (List.mem_cons_of_mem _ (List.mem_cons_of_mem _ (List.mem_cons_of_mem _ (List.mem_cons_of_mem _ List.mem_cons_self))))))))))))))
  have e9z : a9 = 0 := by omega
  have ej : j = a2 := by omega
  subst ej
  have hn : zh_e w 207 (j) = zk_xe w 207 a7 := by rw [zk_xe_r (i := 207) (by decide)]; show zk_el w 207 (j) = zk_el w 207 a7; rw [show j = a7 by omega]
  have k0 : zh_e w 208 (8000 * j + zk_xe w 207 a7) = zk_xe w 208 a8 := by rw [zk_xe_r (i := 208) (by decide)]; show zk_el w 208 (8000 * j + zk_xe w 207 a7) = zk_el w 208 a8; rw [show 8000 * j + zk_xe w 207 a7 = a8 by omega]
  have k1 : zh_e w 209 (8000 * j + zk_xe w 207 a7) = zk_xe w 209 a8 := by rw [zk_xe_r (i := 209) (by decide)]; show zk_el w 209 (8000 * j + zk_xe w 207 a7) = zk_el w 209 a8; rw [show 8000 * j + zk_xe w 207 a7 = a8 by omega]
  have k2 : zh_e w 210 (8000 * j + zk_xe w 207 a7) = zk_xe w 210 a8 := by rw [zk_xe_r (i := 210) (by decide)]; show zk_el w 210 (8000 * j + zk_xe w 207 a7) = zk_el w 210 a8; rw [show 8000 * j + zk_xe w 207 a7 = a8 by omega]
  have k3 : zh_e w 211 (8000 * j + zk_xe w 207 a7) = zk_xe w 211 a8 := by rw [zk_xe_r (i := 211) (by decide)]; show zk_el w 211 (8000 * j + zk_xe w 207 a7) = zk_el w 211 a8; rw [show 8000 * j + zk_xe w 207 a7 = a8 by omega]
  have k4 : zh_e w 212 (8000 * j + zk_xe w 207 a7) = zk_xe w 212 a8 := by rw [zk_xe_r (i := 212) (by decide)]; show zk_el w 212 (8000 * j + zk_xe w 207 a7) = zk_el w 212 a8; rw [show 8000 * j + zk_xe w 207 a7 = a8 by omega]
  have hx := zs_71c (w := w) (j := a9)
  have hp := (zs_70 (w := w) (j := a0) (n := a1) (u := j) (c := a3) (z := a4) (m := a5) (l := a6) (by omega) (by omega) (by omega) (by omega) (by omega) (by omega) (by omega) (by omega) (by omega) (by omega) (by omega) (by omega) (by omega) ).mp (by omega)
  have h : zs_ps w' a1 j a3 a4 a5 a6 := by
    unfold zs_ps at hp ⊢
    rw [zh_e_g (hw.1 224 (by decide)), zh_e_g (hw.1 250 (by decide)), zh_e_g (hw.1 240 (by decide)), zh_e_g (hw.1 241 (by decide)), zh_e_g (hw.1 242 (by decide)), zh_e_g (hw.1 253 (by decide)), zh_e_g (hw.1 227 (by decide)), zh_e_g (hw.1 226 (by decide))]
    rcases hp with h | ⟨h1, h2, h3, h4⟩
    · exact Or.inl h
    · rcases hx with ⟨-, hx⟩ | ⟨hx, -⟩
      · exact Or.inl hx
      · refine Or.inr ⟨zs_more hw hn (by omega) (by omega) h1 ?_, h2, h3, h4⟩
        unfold zs_st
        rw [k0, k1, k2, k3, k4]
        refine ⟨fun q1 q2 => by omega, fun q => by omega, fun q => by omega, fun q => by omega, fun q => by omega, fun q => by omega, fun q => by omega, fun q => by omega⟩
  exact (zx_eF1 (by show 0 ≤ (0 : Int) + (1 * a0 + 0); omega) (by show zk_xe w' 2000070 ((0 : Int) + (1 * a0 + 0)) = (1 : Int) + (0); rw [show (0 : Int) + (1 * a0 + 0) = a0 by omega]; exact ((zs_70 (w := w') (j := a0) (n := a1) (u := j) (c := a3) (z := a4) (m := a5) (l := a6) (by omega) (by omega) (by omega) (by omega) (by omega) (by omega) (by omega) (by omega) (by omega) (by omega) (by omega) (by omega) (by omega) ).mpr h).trans (by omega)) zx_eF0)
def zx_E551 : zx_V := zx_Vc 207 [] 10 [(2000070, 0), (207, 7), (208, 8), (209, 8), (210, 8), (211, 8), (212, 8), (2000071, 9)] [((0, 0), [(2, 1, 0), (3, 0, 1), (4, 0, 4294967296), (5, 0, 18446744073709551616), (6, 0, 79228162514264337593543950336), (7, 0, 340282366920938463463374607431768211456), (8, 0, 1461501637330902918203684832716283019655932542976)]), ((0, 1), [(12, 1, 0)]), ((0, 0), [(4, 0, 1), (9, 1, 0)]), ((0, 0), [(4, 0, 8000), (10, 1, 0), (13, 0, 1)]), ((0, 0), [(11, 1, 0)]), ((0, 1), [(1, 1, 0), (13, 0, 1)]), ((0, 0), [(0, 1, 0), (4, 0, 1)])] [((0, 0), [(3, 1, 0)]), ((4294967294, 0), [(3, 0, 1)]), ((0, 0), [(4, 1, 0)]), ((4294967294, 0), [(4, 0, 1)]), ((0, 0), [(5, 1, 0)]), ((4294967294, 0), [(5, 0, 1)]), ((0, 0), [(6, 1, 0)]), ((4294967294, 0), [(6, 0, 1)]), ((0, 0), [(7, 1, 0)]), ((4294967294, 0), [(7, 0, 1)]), ((0, 0), [(8, 1, 0)]), ((4294967294, 0), [(8, 0, 1)]), ((0, 0), [(13, 1, 0)]), ((0, 13), [(14, 1, 0)]), ((19, 0), [(14, 0, 1)])] [(2000070, ((0, 0), [(2, 1, 0)]), ((1, 0), []))]
theorem zx_E551_ok {PT : Nat → zz_W → Prop} : zx_Vok 64 zHT PT zx_E551 := by
  refine zx_Vc_ok (fun w w' j ins hI hI' h0 hw hK hl he hg => ?_)
  obtain ⟨a0, a1, a2, a3, a4, a5, a6, a7, a8, a9, rfl⟩ := zx_i10 hl
  have e0 : (0 : Int) + (1 * a0 + ((-1) * a1 + ((-4294967296) * a2 + ((-18446744073709551616) * a3 + ((-79228162514264337593543950336) * a4 + ((-340282366920938463463374607431768211456) * a5 + ((-1461501637330902918203684832716283019655932542976) * a6 + 0))))))) = 0 := he _ List.mem_cons_self
  have e1 : ((-1) : Int) + (1 * (zk_xe w 2000070 a0) + 0) = 0 := he _ (List.mem_cons_of_mem _ List.mem_cons_self)
  have e2 : (0 : Int) + ((-1) * a2 + (1 * a7 + 0)) = 0 := he _ (List.mem_cons_of_mem _ (List.mem_cons_of_mem _ List.mem_cons_self))
  have e3 : (0 : Int) + ((-8000) * a2 + (1 * a8 + ((-1) * (zk_xe w 207 a7) + 0))) = 0 := he _ (List.mem_cons_of_mem _ (List.mem_cons_of_mem _ (List.mem_cons_of_mem _ List.mem_cons_self)))
  have e4 : (0 : Int) + (1 * a9 + 0) = 0 := he _ (List.mem_cons_of_mem _ (List.mem_cons_of_mem _ (List.mem_cons_of_mem _ (List.mem_cons_of_mem _ List.mem_cons_self))))
  have e5 : ((-1) : Int) + (1 * (zk_el w' 207 j) + ((-1) * (zk_xe w 207 a7) + 0)) = 0 := he _ (List.mem_cons_of_mem _ (List.mem_cons_of_mem _ (List.mem_cons_of_mem _ (List.mem_cons_of_mem _ (List.mem_cons_of_mem _ List.mem_cons_self)))))
  have e6 : (0 : Int) + (1 * j + ((-1) * a2 + 0)) = 0 := he _ (List.mem_cons_of_mem _ (List.mem_cons_of_mem _ (List.mem_cons_of_mem _ (List.mem_cons_of_mem _ (List.mem_cons_of_mem _ (List.mem_cons_of_mem _ List.mem_cons_self))))))
  have g0 : 0 ≤ (0 : Int) + (1 * a1 + 0) := hg _ List.mem_cons_self
  have g1 : 0 ≤ (4294967294 : Int) + ((-1) * a1 + 0) := hg _ (List.mem_cons_of_mem _ List.mem_cons_self)
  have g2 : 0 ≤ (0 : Int) + (1 * a2 + 0) := hg _ (List.mem_cons_of_mem _ (List.mem_cons_of_mem _ List.mem_cons_self))
  have g3 : 0 ≤ (4294967294 : Int) + ((-1) * a2 + 0) := hg _ (List.mem_cons_of_mem _ (List.mem_cons_of_mem _ (List.mem_cons_of_mem _ List.mem_cons_self)))
  have g4 : 0 ≤ (0 : Int) + (1 * a3 + 0) := hg _ (List.mem_cons_of_mem _ (List.mem_cons_of_mem _ (List.mem_cons_of_mem _ (List.mem_cons_of_mem _ List.mem_cons_self))))
  have g5 : 0 ≤ (4294967294 : Int) + ((-1) * a3 + 0) := hg _ (List.mem_cons_of_mem _ (List.mem_cons_of_mem _ (List.mem_cons_of_mem _ (List.mem_cons_of_mem _ (List.mem_cons_of_mem _ List.mem_cons_self)))))
  have g6 : 0 ≤ (0 : Int) + (1 * a4 + 0) := hg _ (List.mem_cons_of_mem _ (List.mem_cons_of_mem _ (List.mem_cons_of_mem _ (List.mem_cons_of_mem _ (List.mem_cons_of_mem _ (List.mem_cons_of_mem _ List.mem_cons_self))))))
  have g7 : 0 ≤ (4294967294 : Int) + ((-1) * a4 + 0) := hg _ (List.mem_cons_of_mem _ (List.mem_cons_of_mem _ (List.mem_cons_of_mem _ (List.mem_cons_of_mem _ (List.mem_cons_of_mem _ (List.mem_cons_of_mem _ (List.mem_cons_of_mem _ List.mem_cons_self)))))))
  have g8 : 0 ≤ (0 : Int) + (1 * a5 + 0) := hg _ (List.mem_cons_of_mem _ (List.mem_cons_of_mem _ (List.mem_cons_of_mem _ (List.mem_cons_of_mem _ (List.mem_cons_of_mem _ (List.mem_cons_of_mem _ (List.mem_cons_of_mem _ (List.mem_cons_of_mem _ List.mem_cons_self))))))))
  have g9 : 0 ≤ (4294967294 : Int) + ((-1) * a5 + 0) := hg _ (List.mem_cons_of_mem _ (List.mem_cons_of_mem _ (List.mem_cons_of_mem _ (List.mem_cons_of_mem _ (List.mem_cons_of_mem _ (List.mem_cons_of_mem _ (List.mem_cons_of_mem _ (List.mem_cons_of_mem _ (List.mem_cons_of_mem _ List.mem_cons_self)))))))))
  have g10 : 0 ≤ (0 : Int) + (1 * a6 + 0) := hg _ (List.mem_cons_of_mem _ (List.mem_cons_of_mem _ (List.mem_cons_of_mem _ (List.mem_cons_of_mem _ (List.mem_cons_of_mem _ (List.mem_cons_of_mem _ (List.mem_cons_of_mem _ (List.mem_cons_of_mem _ (List.mem_cons_of_mem _ (List.mem_cons_of_mem _ List.mem_cons_self))))))))))
  have g11 : 0 ≤ (4294967294 : Int) + ((-1) * a6 + 0) := hg _ (List.mem_cons_of_mem _ (List.mem_cons_of_mem _ (List.mem_cons_of_mem _ (List.mem_cons_of_mem _ (List.mem_cons_of_mem _ (List.mem_cons_of_mem _ (List.mem_cons_of_mem _ (List.mem_cons_of_mem _ (List.mem_cons_of_mem _ (List.mem_cons_of_mem _ (List.mem_cons_of_mem _ List.mem_cons_self)))))))))))
  have g12 : 0 ≤ (0 : Int) + (1 * (zk_xe w 207 a7) + 0) := hg _ (List.mem_cons_of_mem _ (List.mem_cons_of_mem _ (List.mem_cons_of_mem _ (List.mem_cons_of_mem _ (List.mem_cons_of_mem _ (List.mem_cons_of_mem _ (List.mem_cons_of_mem _ (List.mem_cons_of_mem _ (List.mem_cons_of_mem _ (List.mem_cons_of_mem _ (List.mem_cons_of_mem _ (List.mem_cons_of_mem _ List.mem_cons_self))))))))))))
  have g13 : 0 ≤ ((-13) : Int) + (1 * (zk_xe w 208 a8) + 0) := hg _ (List.mem_cons_of_mem _ (List.mem_cons_of_mem _ (List.mem_cons_of_mem _ (List.mem_cons_of_mem _ (List.mem_cons_of_mem _ (List.mem_cons_of_mem _ (List.mem_cons_of_mem _ (List.mem_cons_of_mem _ (List.mem_cons_of_mem _ (List.mem_cons_of_mem _ (List.mem_cons_of_mem _ (List.mem_cons_of_mem _ (List.mem_cons_of_mem _ List.mem_cons_self)))))))))))))
  have g14 : 0 ≤ (19 : Int) + ((-1) * (zk_xe w 208 a8) + 0) := hg _ (List.mem_cons_of_mem _ (List.mem_cons_of_mem _ (List.mem_cons_of_mem _ (List.mem_cons_of_mem _ (List.mem_cons_of_mem _ (List.mem_cons_of_mem _ (List.mem_cons_of_mem _ (List.mem_cons_of_mem _ (List.mem_cons_of_mem _ (List.mem_cons_of_mem _ (List.mem_cons_of_mem _ (List.mem_cons_of_mem _ (List.mem_cons_of_mem _ (List.mem_cons_of_mem _ List.mem_cons_self))))))))))))))
  have e9z : a9 = 0 := by omega
  have ej : j = a2 := by omega
  subst ej
  have hn : zh_e w 207 (j) = zk_xe w 207 a7 := by rw [zk_xe_r (i := 207) (by decide)]; show zk_el w 207 (j) = zk_el w 207 a7; rw [show j = a7 by omega]
  have k0 : zh_e w 208 (8000 * j + zk_xe w 207 a7) = zk_xe w 208 a8 := by rw [zk_xe_r (i := 208) (by decide)]; show zk_el w 208 (8000 * j + zk_xe w 207 a7) = zk_el w 208 a8; rw [show 8000 * j + zk_xe w 207 a7 = a8 by omega]
  have k1 : zh_e w 209 (8000 * j + zk_xe w 207 a7) = zk_xe w 209 a8 := by rw [zk_xe_r (i := 209) (by decide)]; show zk_el w 209 (8000 * j + zk_xe w 207 a7) = zk_el w 209 a8; rw [show 8000 * j + zk_xe w 207 a7 = a8 by omega]
  have k2 : zh_e w 210 (8000 * j + zk_xe w 207 a7) = zk_xe w 210 a8 := by rw [zk_xe_r (i := 210) (by decide)]; show zk_el w 210 (8000 * j + zk_xe w 207 a7) = zk_el w 210 a8; rw [show 8000 * j + zk_xe w 207 a7 = a8 by omega]
  have k3 : zh_e w 211 (8000 * j + zk_xe w 207 a7) = zk_xe w 211 a8 := by rw [zk_xe_r (i := 211) (by decide)]; show zk_el w 211 (8000 * j + zk_xe w 207 a7) = zk_el w 211 a8; rw [show 8000 * j + zk_xe w 207 a7 = a8 by omega]
  have k4 : zh_e w 212 (8000 * j + zk_xe w 207 a7) = zk_xe w 212 a8 := by rw [zk_xe_r (i := 212) (by decide)]; show zk_el w 212 (8000 * j + zk_xe w 207 a7) = zk_el w 212 a8; rw [show 8000 * j + zk_xe w 207 a7 = a8 by omega]
  have hx := zs_71c (w := w) (j := a9)
  have hp := (zs_70 (w := w) (j := a0) (n := a1) (u := j) (c := a3) (z := a4) (m := a5) (l := a6) (by omega) (by omega) (by omega) (by omega) (by omega) (by omega) (by omega) (by omega) (by omega) (by omega) (by omega) (by omega) (by omega) ).mp (by omega)
  have h : zs_ps w' a1 j a3 a4 a5 a6 := by
    unfold zs_ps at hp ⊢
    rw [zh_e_g (hw.1 224 (by decide)), zh_e_g (hw.1 250 (by decide)), zh_e_g (hw.1 240 (by decide)), zh_e_g (hw.1 241 (by decide)), zh_e_g (hw.1 242 (by decide)), zh_e_g (hw.1 253 (by decide)), zh_e_g (hw.1 227 (by decide)), zh_e_g (hw.1 226 (by decide))]
    rcases hp with h | ⟨h1, h2, h3, h4⟩
    · exact Or.inl h
    · rcases hx with ⟨-, hx⟩ | ⟨hx, -⟩
      · exact Or.inl hx
      · refine Or.inr ⟨zs_more hw hn (by omega) (by omega) h1 ?_, h2, h3, h4⟩
        unfold zs_st
        rw [k0, k1, k2, k3, k4]
        refine ⟨fun q1 q2 => by omega, fun q => by omega, fun q => by omega, fun q => by omega, fun q => by omega, fun q => by omega, fun q => by omega, fun q => by omega⟩
  exact (zx_eF1 (by show 0 ≤ (0 : Int) + (1 * a0 + 0); omega) (by show zk_xe w' 2000070 ((0 : Int) + (1 * a0 + 0)) = (1 : Int) + (0); rw [show (0 : Int) + (1 * a0 + 0) = a0 by omega]; exact ((zs_70 (w := w') (j := a0) (n := a1) (u := j) (c := a3) (z := a4) (m := a5) (l := a6) (by omega) (by omega) (by omega) (by omega) (by omega) (by omega) (by omega) (by omega) (by omega) (by omega) (by omega) (by omega) (by omega) ).mpr h).trans (by omega)) zx_eF0)
def zx_E552 : zx_V := zx_Vc 207 [] 10 [(2000070, 0), (207, 7), (208, 8), (209, 8), (210, 8), (211, 8), (212, 8), (2000071, 9)] [((0, 0), [(2, 1, 0), (3, 0, 1), (4, 0, 4294967296), (5, 0, 18446744073709551616), (6, 0, 79228162514264337593543950336), (7, 0, 340282366920938463463374607431768211456), (8, 0, 1461501637330902918203684832716283019655932542976)]), ((0, 1), [(12, 1, 0)]), ((0, 0), [(4, 0, 1), (9, 1, 0)]), ((0, 0), [(4, 0, 8000), (10, 1, 0), (13, 0, 1)]), ((0, 0), [(11, 1, 0)]), ((0, 1), [(1, 1, 0), (13, 0, 1)]), ((0, 0), [(0, 1, 0), (4, 0, 1)])] [((0, 0), [(3, 1, 0)]), ((4294967294, 0), [(3, 0, 1)]), ((0, 0), [(4, 1, 0)]), ((4294967294, 0), [(4, 0, 1)]), ((0, 0), [(5, 1, 0)]), ((4294967294, 0), [(5, 0, 1)]), ((0, 0), [(6, 1, 0)]), ((4294967294, 0), [(6, 0, 1)]), ((0, 0), [(7, 1, 0)]), ((4294967294, 0), [(7, 0, 1)]), ((0, 0), [(8, 1, 0)]), ((4294967294, 0), [(8, 0, 1)]), ((0, 0), [(13, 1, 0)]), ((0, 3), [(14, 1, 0)]), ((4, 0), [(14, 0, 1)]), ((0, 0), [(17, 1, 0), (19, 8589934592, 0)]), ((7, 0), [(17, 0, 1), (19, 8589934592, 0)])] [(2000070, ((0, 0), [(2, 1, 0)]), ((1, 0), []))]
theorem zx_E552_ok {PT : Nat → zz_W → Prop} : zx_Vok 64 zHT PT zx_E552 := by
  refine zx_Vc_ok (fun w w' j ins hI hI' h0 hw hK hl he hg => ?_)
  obtain ⟨a0, a1, a2, a3, a4, a5, a6, a7, a8, a9, rfl⟩ := zx_i10 hl
  have e0 : (0 : Int) + (1 * a0 + ((-1) * a1 + ((-4294967296) * a2 + ((-18446744073709551616) * a3 + ((-79228162514264337593543950336) * a4 + ((-340282366920938463463374607431768211456) * a5 + ((-1461501637330902918203684832716283019655932542976) * a6 + 0))))))) = 0 := he _ List.mem_cons_self
  have e1 : ((-1) : Int) + (1 * (zk_xe w 2000070 a0) + 0) = 0 := he _ (List.mem_cons_of_mem _ List.mem_cons_self)
  have e2 : (0 : Int) + ((-1) * a2 + (1 * a7 + 0)) = 0 := he _ (List.mem_cons_of_mem _ (List.mem_cons_of_mem _ List.mem_cons_self))
  have e3 : (0 : Int) + ((-8000) * a2 + (1 * a8 + ((-1) * (zk_xe w 207 a7) + 0))) = 0 := he _ (List.mem_cons_of_mem _ (List.mem_cons_of_mem _ (List.mem_cons_of_mem _ List.mem_cons_self)))
  have e4 : (0 : Int) + (1 * a9 + 0) = 0 := he _ (List.mem_cons_of_mem _ (List.mem_cons_of_mem _ (List.mem_cons_of_mem _ (List.mem_cons_of_mem _ List.mem_cons_self))))
  have e5 : ((-1) : Int) + (1 * (zk_el w' 207 j) + ((-1) * (zk_xe w 207 a7) + 0)) = 0 := he _ (List.mem_cons_of_mem _ (List.mem_cons_of_mem _ (List.mem_cons_of_mem _ (List.mem_cons_of_mem _ (List.mem_cons_of_mem _ List.mem_cons_self)))))
  have e6 : (0 : Int) + (1 * j + ((-1) * a2 + 0)) = 0 := he _ (List.mem_cons_of_mem _ (List.mem_cons_of_mem _ (List.mem_cons_of_mem _ (List.mem_cons_of_mem _ (List.mem_cons_of_mem _ (List.mem_cons_of_mem _ List.mem_cons_self))))))
  have g0 : 0 ≤ (0 : Int) + (1 * a1 + 0) := hg _ List.mem_cons_self
  have g1 : 0 ≤ (4294967294 : Int) + ((-1) * a1 + 0) := hg _ (List.mem_cons_of_mem _ List.mem_cons_self)
  have g2 : 0 ≤ (0 : Int) + (1 * a2 + 0) := hg _ (List.mem_cons_of_mem _ (List.mem_cons_of_mem _ List.mem_cons_self))
  have g3 : 0 ≤ (4294967294 : Int) + ((-1) * a2 + 0) := hg _ (List.mem_cons_of_mem _ (List.mem_cons_of_mem _ (List.mem_cons_of_mem _ List.mem_cons_self)))
  have g4 : 0 ≤ (0 : Int) + (1 * a3 + 0) := hg _ (List.mem_cons_of_mem _ (List.mem_cons_of_mem _ (List.mem_cons_of_mem _ (List.mem_cons_of_mem _ List.mem_cons_self))))
  have g5 : 0 ≤ (4294967294 : Int) + ((-1) * a3 + 0) := hg _ (List.mem_cons_of_mem _ (List.mem_cons_of_mem _ (List.mem_cons_of_mem _ (List.mem_cons_of_mem _ (List.mem_cons_of_mem _ List.mem_cons_self)))))
  have g6 : 0 ≤ (0 : Int) + (1 * a4 + 0) := hg _ (List.mem_cons_of_mem _ (List.mem_cons_of_mem _ (List.mem_cons_of_mem _ (List.mem_cons_of_mem _ (List.mem_cons_of_mem _ (List.mem_cons_of_mem _ List.mem_cons_self))))))
  have g7 : 0 ≤ (4294967294 : Int) + ((-1) * a4 + 0) := hg _ (List.mem_cons_of_mem _ (List.mem_cons_of_mem _ (List.mem_cons_of_mem _ (List.mem_cons_of_mem _ (List.mem_cons_of_mem _ (List.mem_cons_of_mem _ (List.mem_cons_of_mem _ List.mem_cons_self)))))))
  have g8 : 0 ≤ (0 : Int) + (1 * a5 + 0) := hg _ (List.mem_cons_of_mem _ (List.mem_cons_of_mem _ (List.mem_cons_of_mem _ (List.mem_cons_of_mem _ (List.mem_cons_of_mem _ (List.mem_cons_of_mem _ (List.mem_cons_of_mem _ (List.mem_cons_of_mem _ List.mem_cons_self))))))))
  have g9 : 0 ≤ (4294967294 : Int) + ((-1) * a5 + 0) := hg _ (List.mem_cons_of_mem _ (List.mem_cons_of_mem _ (List.mem_cons_of_mem _ (List.mem_cons_of_mem _ (List.mem_cons_of_mem _ (List.mem_cons_of_mem _ (List.mem_cons_of_mem _ (List.mem_cons_of_mem _ (List.mem_cons_of_mem _ List.mem_cons_self)))))))))
  have g10 : 0 ≤ (0 : Int) + (1 * a6 + 0) := hg _ (List.mem_cons_of_mem _ (List.mem_cons_of_mem _ (List.mem_cons_of_mem _ (List.mem_cons_of_mem _ (List.mem_cons_of_mem _ (List.mem_cons_of_mem _ (List.mem_cons_of_mem _ (List.mem_cons_of_mem _ (List.mem_cons_of_mem _ (List.mem_cons_of_mem _ List.mem_cons_self))))))))))
  have g11 : 0 ≤ (4294967294 : Int) + ((-1) * a6 + 0) := hg _ (List.mem_cons_of_mem _ (List.mem_cons_of_mem _ (List.mem_cons_of_mem _ (List.mem_cons_of_mem _ (List.mem_cons_of_mem _ (List.mem_cons_of_mem _ (List.mem_cons_of_mem _ (List.mem_cons_of_mem _ (List.mem_cons_of_mem _ (List.mem_cons_of_mem _ (List.mem_cons_of_mem _ List.mem_cons_self)))))))))))
  have g12 : 0 ≤ (0 : Int) + (1 * (zk_xe w 207 a7) + 0) := hg _ (List.mem_cons_of_mem _ (List.mem_cons_of_mem _ (List.mem_cons_of_mem _ (List.mem_cons_of_mem _ (List.mem_cons_of_mem _ (List.mem_cons_of_mem _ (List.mem_cons_of_mem _ (List.mem_cons_of_mem _ (List.mem_cons_of_mem _ (List.mem_cons_of_mem _ (List.mem_cons_of_mem _ (List.mem_cons_of_mem _ List.mem_cons_self))))))))))))
  have g13 : 0 ≤ ((-3) : Int) + (1 * (zk_xe w 208 a8) + 0) := hg _ (List.mem_cons_of_mem _ (List.mem_cons_of_mem _ (List.mem_cons_of_mem _ (List.mem_cons_of_mem _ (List.mem_cons_of_mem _ (List.mem_cons_of_mem _ (List.mem_cons_of_mem _ (List.mem_cons_of_mem _ (List.mem_cons_of_mem _ (List.mem_cons_of_mem _ (List.mem_cons_of_mem _ (List.mem_cons_of_mem _ (List.mem_cons_of_mem _ List.mem_cons_self)))))))))))))
  have g14 : 0 ≤ (4 : Int) + ((-1) * (zk_xe w 208 a8) + 0) := hg _ (List.mem_cons_of_mem _ (List.mem_cons_of_mem _ (List.mem_cons_of_mem _ (List.mem_cons_of_mem _ (List.mem_cons_of_mem _ (List.mem_cons_of_mem _ (List.mem_cons_of_mem _ (List.mem_cons_of_mem _ (List.mem_cons_of_mem _ (List.mem_cons_of_mem _ (List.mem_cons_of_mem _ (List.mem_cons_of_mem _ (List.mem_cons_of_mem _ (List.mem_cons_of_mem _ List.mem_cons_self))))))))))))))
  have g15 : 0 ≤ (0 : Int) + (1 * (zk_xe w 211 a8) + (8589934592 * (zk_xe w 2000071 a9) + 0)) := hg _ (List.mem_cons_of_mem _ (List.mem_cons_of_mem _ (List.mem_cons_of_mem _ (List.mem_cons_of_mem _ (List.mem_cons_of_mem _ (List.mem_cons_of_mem _ (List.mem_cons_of_mem _ (List.mem_cons_of_mem _ (List.mem_cons_of_mem _ (List.mem_cons_of_mem _ (List.mem_cons_of_mem _ (List.mem_cons_of_mem _ (List.mem_cons_of_mem _ (List.mem_cons_of_mem _ (List.mem_cons_of_mem _ List.mem_cons_self)))))))))))))))
  have g16 : 0 ≤ (7 : Int) + ((-1) * (zk_xe w 211 a8) + (8589934592 * (zk_xe w 2000071 a9) + 0)) := hg _ (List.mem_cons_of_mem _ (List.mem_cons_of_mem _ (List.mem_cons_of_mem _ (List.mem_cons_of_mem _ (List.mem_cons_of_mem _ (List.mem_cons_of_mem _ (List.mem_cons_of_mem _ (List.mem_cons_of_mem _ (List.mem_cons_of_mem _ (List.mem_cons_of_mem _ (List.mem_cons_of_mem _ (List.mem_cons_of_mem _ (List.mem_cons_of_mem _ (List.mem_cons_of_mem _ (List.mem_cons_of_mem _ (List.mem_cons_of_mem _ List.mem_cons_self))))))))))))))))
  have e9z : a9 = 0 := by omega
  have ej : j = a2 := by omega
  subst ej
  have hn : zh_e w 207 (j) = zk_xe w 207 a7 := by rw [zk_xe_r (i := 207) (by decide)]; show zk_el w 207 (j) = zk_el w 207 a7; rw [show j = a7 by omega]
  have k0 : zh_e w 208 (8000 * j + zk_xe w 207 a7) = zk_xe w 208 a8 := by rw [zk_xe_r (i := 208) (by decide)]; show zk_el w 208 (8000 * j + zk_xe w 207 a7) = zk_el w 208 a8; rw [show 8000 * j + zk_xe w 207 a7 = a8 by omega]
  have k1 : zh_e w 209 (8000 * j + zk_xe w 207 a7) = zk_xe w 209 a8 := by rw [zk_xe_r (i := 209) (by decide)]; show zk_el w 209 (8000 * j + zk_xe w 207 a7) = zk_el w 209 a8; rw [show 8000 * j + zk_xe w 207 a7 = a8 by omega]
  have k2 : zh_e w 210 (8000 * j + zk_xe w 207 a7) = zk_xe w 210 a8 := by rw [zk_xe_r (i := 210) (by decide)]; show zk_el w 210 (8000 * j + zk_xe w 207 a7) = zk_el w 210 a8; rw [show 8000 * j + zk_xe w 207 a7 = a8 by omega]
  have k3 : zh_e w 211 (8000 * j + zk_xe w 207 a7) = zk_xe w 211 a8 := by rw [zk_xe_r (i := 211) (by decide)]; show zk_el w 211 (8000 * j + zk_xe w 207 a7) = zk_el w 211 a8; rw [show 8000 * j + zk_xe w 207 a7 = a8 by omega]
  have k4 : zh_e w 212 (8000 * j + zk_xe w 207 a7) = zk_xe w 212 a8 := by rw [zk_xe_r (i := 212) (by decide)]; show zk_el w 212 (8000 * j + zk_xe w 207 a7) = zk_el w 212 a8; rw [show 8000 * j + zk_xe w 207 a7 = a8 by omega]
  have hx := zs_71c (w := w) (j := a9)
  have hp := (zs_70 (w := w) (j := a0) (n := a1) (u := j) (c := a3) (z := a4) (m := a5) (l := a6) (by omega) (by omega) (by omega) (by omega) (by omega) (by omega) (by omega) (by omega) (by omega) (by omega) (by omega) (by omega) (by omega) ).mp (by omega)
  have h : zs_ps w' a1 j a3 a4 a5 a6 := by
    unfold zs_ps at hp ⊢
    rw [zh_e_g (hw.1 224 (by decide)), zh_e_g (hw.1 250 (by decide)), zh_e_g (hw.1 240 (by decide)), zh_e_g (hw.1 241 (by decide)), zh_e_g (hw.1 242 (by decide)), zh_e_g (hw.1 253 (by decide)), zh_e_g (hw.1 227 (by decide)), zh_e_g (hw.1 226 (by decide))]
    rcases hp with h | ⟨h1, h2, h3, h4⟩
    · exact Or.inl h
    · rcases hx with ⟨-, hx⟩ | ⟨hx, -⟩
      · exact Or.inl hx
      · refine Or.inr ⟨zs_more hw hn (by omega) (by omega) h1 ?_, h2, h3, h4⟩
        unfold zs_st
        rw [k0, k1, k2, k3, k4]
        refine ⟨fun q1 q2 => ⟨by omega, by omega⟩, fun q => by omega, fun q => by omega, fun q => by omega, fun q => by omega, fun q => by omega, fun q => by omega, fun q => by omega⟩
  exact (zx_eF1 (by show 0 ≤ (0 : Int) + (1 * a0 + 0); omega) (by show zk_xe w' 2000070 ((0 : Int) + (1 * a0 + 0)) = (1 : Int) + (0); rw [show (0 : Int) + (1 * a0 + 0) = a0 by omega]; exact ((zs_70 (w := w') (j := a0) (n := a1) (u := j) (c := a3) (z := a4) (m := a5) (l := a6) (by omega) (by omega) (by omega) (by omega) (by omega) (by omega) (by omega) (by omega) (by omega) (by omega) (by omega) (by omega) (by omega) ).mpr h).trans (by omega)) zx_eF0)
def zx_E553 : zx_V := zx_Vc 207 [] 10 [(2000070, 0), (207, 7), (208, 8), (209, 8), (210, 8), (211, 8), (212, 8), (2000071, 9)] [((0, 0), [(2, 1, 0), (3, 0, 1), (4, 0, 4294967296), (5, 0, 18446744073709551616), (6, 0, 79228162514264337593543950336), (7, 0, 340282366920938463463374607431768211456), (8, 0, 1461501637330902918203684832716283019655932542976)]), ((0, 1), [(12, 1, 0)]), ((0, 0), [(4, 0, 1), (9, 1, 0)]), ((0, 0), [(4, 0, 8000), (10, 1, 0), (13, 0, 1)]), ((0, 0), [(11, 1, 0)]), ((0, 1), [(1, 1, 0), (13, 0, 1)]), ((0, 0), [(0, 1, 0), (4, 0, 1)])] [((0, 0), [(3, 1, 0)]), ((4294967294, 0), [(3, 0, 1)]), ((0, 0), [(4, 1, 0)]), ((4294967294, 0), [(4, 0, 1)]), ((0, 0), [(5, 1, 0)]), ((4294967294, 0), [(5, 0, 1)]), ((0, 0), [(6, 1, 0)]), ((4294967294, 0), [(6, 0, 1)]), ((0, 0), [(7, 1, 0)]), ((4294967294, 0), [(7, 0, 1)]), ((0, 0), [(8, 1, 0)]), ((4294967294, 0), [(8, 0, 1)]), ((0, 0), [(13, 1, 0)]), ((0, 9), [(14, 1, 0)]), ((10, 0), [(14, 0, 1)]), ((0, 0), [(17, 1, 0), (19, 8589934592, 0)]), ((7, 0), [(17, 0, 1), (19, 8589934592, 0)])] [(2000070, ((0, 0), [(2, 1, 0)]), ((1, 0), []))]
theorem zx_E553_ok {PT : Nat → zz_W → Prop} : zx_Vok 64 zHT PT zx_E553 := by
  refine zx_Vc_ok (fun w w' j ins hI hI' h0 hw hK hl he hg => ?_)
  obtain ⟨a0, a1, a2, a3, a4, a5, a6, a7, a8, a9, rfl⟩ := zx_i10 hl
  have e0 : (0 : Int) + (1 * a0 + ((-1) * a1 + ((-4294967296) * a2 + ((-18446744073709551616) * a3 + ((-79228162514264337593543950336) * a4 + ((-340282366920938463463374607431768211456) * a5 + ((-1461501637330902918203684832716283019655932542976) * a6 + 0))))))) = 0 := he _ List.mem_cons_self
  have e1 : ((-1) : Int) + (1 * (zk_xe w 2000070 a0) + 0) = 0 := he _ (List.mem_cons_of_mem _ List.mem_cons_self)
  have e2 : (0 : Int) + ((-1) * a2 + (1 * a7 + 0)) = 0 := he _ (List.mem_cons_of_mem _ (List.mem_cons_of_mem _ List.mem_cons_self))
  have e3 : (0 : Int) + ((-8000) * a2 + (1 * a8 + ((-1) * (zk_xe w 207 a7) + 0))) = 0 := he _ (List.mem_cons_of_mem _ (List.mem_cons_of_mem _ (List.mem_cons_of_mem _ List.mem_cons_self)))
  have e4 : (0 : Int) + (1 * a9 + 0) = 0 := he _ (List.mem_cons_of_mem _ (List.mem_cons_of_mem _ (List.mem_cons_of_mem _ (List.mem_cons_of_mem _ List.mem_cons_self))))
  have e5 : ((-1) : Int) + (1 * (zk_el w' 207 j) + ((-1) * (zk_xe w 207 a7) + 0)) = 0 := he _ (List.mem_cons_of_mem _ (List.mem_cons_of_mem _ (List.mem_cons_of_mem _ (List.mem_cons_of_mem _ (List.mem_cons_of_mem _ List.mem_cons_self)))))
  have e6 : (0 : Int) + (1 * j + ((-1) * a2 + 0)) = 0 := he _ (List.mem_cons_of_mem _ (List.mem_cons_of_mem _ (List.mem_cons_of_mem _ (List.mem_cons_of_mem _ (List.mem_cons_of_mem _ (List.mem_cons_of_mem _ List.mem_cons_self))))))
  have g0 : 0 ≤ (0 : Int) + (1 * a1 + 0) := hg _ List.mem_cons_self
  have g1 : 0 ≤ (4294967294 : Int) + ((-1) * a1 + 0) := hg _ (List.mem_cons_of_mem _ List.mem_cons_self)
  have g2 : 0 ≤ (0 : Int) + (1 * a2 + 0) := hg _ (List.mem_cons_of_mem _ (List.mem_cons_of_mem _ List.mem_cons_self))
  have g3 : 0 ≤ (4294967294 : Int) + ((-1) * a2 + 0) := hg _ (List.mem_cons_of_mem _ (List.mem_cons_of_mem _ (List.mem_cons_of_mem _ List.mem_cons_self)))
  have g4 : 0 ≤ (0 : Int) + (1 * a3 + 0) := hg _ (List.mem_cons_of_mem _ (List.mem_cons_of_mem _ (List.mem_cons_of_mem _ (List.mem_cons_of_mem _ List.mem_cons_self))))
  have g5 : 0 ≤ (4294967294 : Int) + ((-1) * a3 + 0) := hg _ (List.mem_cons_of_mem _ (List.mem_cons_of_mem _ (List.mem_cons_of_mem _ (List.mem_cons_of_mem _ (List.mem_cons_of_mem _ List.mem_cons_self)))))
  have g6 : 0 ≤ (0 : Int) + (1 * a4 + 0) := hg _ (List.mem_cons_of_mem _ (List.mem_cons_of_mem _ (List.mem_cons_of_mem _ (List.mem_cons_of_mem _ (List.mem_cons_of_mem _ (List.mem_cons_of_mem _ List.mem_cons_self))))))
  have g7 : 0 ≤ (4294967294 : Int) + ((-1) * a4 + 0) := hg _ (List.mem_cons_of_mem _ (List.mem_cons_of_mem _ (List.mem_cons_of_mem _ (List.mem_cons_of_mem _ (List.mem_cons_of_mem _ (List.mem_cons_of_mem _ (List.mem_cons_of_mem _ List.mem_cons_self)))))))
  have g8 : 0 ≤ (0 : Int) + (1 * a5 + 0) := hg _ (List.mem_cons_of_mem _ (List.mem_cons_of_mem _ (List.mem_cons_of_mem _ (List.mem_cons_of_mem _ (List.mem_cons_of_mem _ (List.mem_cons_of_mem _ (List.mem_cons_of_mem _ (List.mem_cons_of_mem _ List.mem_cons_self))))))))
  have g9 : 0 ≤ (4294967294 : Int) + ((-1) * a5 + 0) := hg _ (List.mem_cons_of_mem _ (List.mem_cons_of_mem _ (List.mem_cons_of_mem _ (List.mem_cons_of_mem _ (List.mem_cons_of_mem _ (List.mem_cons_of_mem _ (List.mem_cons_of_mem _ (List.mem_cons_of_mem _ (List.mem_cons_of_mem _ List.mem_cons_self)))))))))
  have g10 : 0 ≤ (0 : Int) + (1 * a6 + 0) := hg _ (List.mem_cons_of_mem _ (List.mem_cons_of_mem _ (List.mem_cons_of_mem _ (List.mem_cons_of_mem _ (List.mem_cons_of_mem _ (List.mem_cons_of_mem _ (List.mem_cons_of_mem _ (List.mem_cons_of_mem _ (List.mem_cons_of_mem _ (List.mem_cons_of_mem _ List.mem_cons_self))))))))))
  have g11 : 0 ≤ (4294967294 : Int) + ((-1) * a6 + 0) := hg _ (List.mem_cons_of_mem _ (List.mem_cons_of_mem _ (List.mem_cons_of_mem _ (List.mem_cons_of_mem _ (List.mem_cons_of_mem _ (List.mem_cons_of_mem _ (List.mem_cons_of_mem _ (List.mem_cons_of_mem _ (List.mem_cons_of_mem _ (List.mem_cons_of_mem _ (List.mem_cons_of_mem _ List.mem_cons_self)))))))))))
  have g12 : 0 ≤ (0 : Int) + (1 * (zk_xe w 207 a7) + 0) := hg _ (List.mem_cons_of_mem _ (List.mem_cons_of_mem _ (List.mem_cons_of_mem _ (List.mem_cons_of_mem _ (List.mem_cons_of_mem _ (List.mem_cons_of_mem _ (List.mem_cons_of_mem _ (List.mem_cons_of_mem _ (List.mem_cons_of_mem _ (List.mem_cons_of_mem _ (List.mem_cons_of_mem _ (List.mem_cons_of_mem _ List.mem_cons_self))))))))))))
  have g13 : 0 ≤ ((-9) : Int) + (1 * (zk_xe w 208 a8) + 0) := hg _ (List.mem_cons_of_mem _ (List.mem_cons_of_mem _ (List.mem_cons_of_mem _ (List.mem_cons_of_mem _ (List.mem_cons_of_mem _ (List.mem_cons_of_mem _ (List.mem_cons_of_mem _ (List.mem_cons_of_mem _ (List.mem_cons_of_mem _ (List.mem_cons_of_mem _ (List.mem_cons_of_mem _ (List.mem_cons_of_mem _ (List.mem_cons_of_mem _ List.mem_cons_self)))))))))))))
  have g14 : 0 ≤ (10 : Int) + ((-1) * (zk_xe w 208 a8) + 0) := hg _ (List.mem_cons_of_mem _ (List.mem_cons_of_mem _ (List.mem_cons_of_mem _ (List.mem_cons_of_mem _ (List.mem_cons_of_mem _ (List.mem_cons_of_mem _ (List.mem_cons_of_mem _ (List.mem_cons_of_mem _ (List.mem_cons_of_mem _ (List.mem_cons_of_mem _ (List.mem_cons_of_mem _ (List.mem_cons_of_mem _ (List.mem_cons_of_mem _ (List.mem_cons_of_mem _ List.mem_cons_self))))))))))))))
  have g15 : 0 ≤ (0 : Int) + (1 * (zk_xe w 211 a8) + (8589934592 * (zk_xe w 2000071 a9) + 0)) := hg _ (List.mem_cons_of_mem _ (List.mem_cons_of_mem _ (List.mem_cons_of_mem _ (List.mem_cons_of_mem _ (List.mem_cons_of_mem _ (List.mem_cons_of_mem _ (List.mem_cons_of_mem _ (List.mem_cons_of_mem _ (List.mem_cons_of_mem _ (List.mem_cons_of_mem _ (List.mem_cons_of_mem _ (List.mem_cons_of_mem _ (List.mem_cons_of_mem _ (List.mem_cons_of_mem _ (List.mem_cons_of_mem _ List.mem_cons_self)))))))))))))))
  have g16 : 0 ≤ (7 : Int) + ((-1) * (zk_xe w 211 a8) + (8589934592 * (zk_xe w 2000071 a9) + 0)) := hg _ (List.mem_cons_of_mem _ (List.mem_cons_of_mem _ (List.mem_cons_of_mem _ (List.mem_cons_of_mem _ (List.mem_cons_of_mem _ (List.mem_cons_of_mem _ (List.mem_cons_of_mem _ (List.mem_cons_of_mem _ (List.mem_cons_of_mem _ (List.mem_cons_of_mem _ (List.mem_cons_of_mem _ (List.mem_cons_of_mem _ (List.mem_cons_of_mem _ (List.mem_cons_of_mem _ (List.mem_cons_of_mem _ (List.mem_cons_of_mem _ List.mem_cons_self))))))))))))))))
  have e9z : a9 = 0 := by omega
  have ej : j = a2 := by omega
  subst ej
  have hn : zh_e w 207 (j) = zk_xe w 207 a7 := by rw [zk_xe_r (i := 207) (by decide)]; show zk_el w 207 (j) = zk_el w 207 a7; rw [show j = a7 by omega]
  have k0 : zh_e w 208 (8000 * j + zk_xe w 207 a7) = zk_xe w 208 a8 := by rw [zk_xe_r (i := 208) (by decide)]; show zk_el w 208 (8000 * j + zk_xe w 207 a7) = zk_el w 208 a8; rw [show 8000 * j + zk_xe w 207 a7 = a8 by omega]
  have k1 : zh_e w 209 (8000 * j + zk_xe w 207 a7) = zk_xe w 209 a8 := by rw [zk_xe_r (i := 209) (by decide)]; show zk_el w 209 (8000 * j + zk_xe w 207 a7) = zk_el w 209 a8; rw [show 8000 * j + zk_xe w 207 a7 = a8 by omega]
  have k2 : zh_e w 210 (8000 * j + zk_xe w 207 a7) = zk_xe w 210 a8 := by rw [zk_xe_r (i := 210) (by decide)]; show zk_el w 210 (8000 * j + zk_xe w 207 a7) = zk_el w 210 a8; rw [show 8000 * j + zk_xe w 207 a7 = a8 by omega]
  have k3 : zh_e w 211 (8000 * j + zk_xe w 207 a7) = zk_xe w 211 a8 := by rw [zk_xe_r (i := 211) (by decide)]; show zk_el w 211 (8000 * j + zk_xe w 207 a7) = zk_el w 211 a8; rw [show 8000 * j + zk_xe w 207 a7 = a8 by omega]
  have k4 : zh_e w 212 (8000 * j + zk_xe w 207 a7) = zk_xe w 212 a8 := by rw [zk_xe_r (i := 212) (by decide)]; show zk_el w 212 (8000 * j + zk_xe w 207 a7) = zk_el w 212 a8; rw [show 8000 * j + zk_xe w 207 a7 = a8 by omega]
  have hx := zs_71c (w := w) (j := a9)
  have hp := (zs_70 (w := w) (j := a0) (n := a1) (u := j) (c := a3) (z := a4) (m := a5) (l := a6) (by omega) (by omega) (by omega) (by omega) (by omega) (by omega) (by omega) (by omega) (by omega) (by omega) (by omega) (by omega) (by omega) ).mp (by omega)
  have h : zs_ps w' a1 j a3 a4 a5 a6 := by
    unfold zs_ps at hp ⊢
    rw [zh_e_g (hw.1 224 (by decide)), zh_e_g (hw.1 250 (by decide)), zh_e_g (hw.1 240 (by decide)), zh_e_g (hw.1 241 (by decide)), zh_e_g (hw.1 242 (by decide)), zh_e_g (hw.1 253 (by decide)), zh_e_g (hw.1 227 (by decide)), zh_e_g (hw.1 226 (by decide))]
    rcases hp with h | ⟨h1, h2, h3, h4⟩
    · exact Or.inl h
    · rcases hx with ⟨-, hx⟩ | ⟨hx, -⟩
      · exact Or.inl hx
      · refine Or.inr ⟨zs_more hw hn (by omega) (by omega) h1 ?_, h2, h3, h4⟩
        unfold zs_st
        rw [k0, k1, k2, k3, k4]
        refine ⟨fun q1 q2 => ⟨by omega, by omega⟩, fun q => by omega, fun q => by omega, fun q => by omega, fun q => by omega, fun q => by omega, fun q => by omega, fun q => by omega⟩
  exact (zx_eF1 (by show 0 ≤ (0 : Int) + (1 * a0 + 0); omega) (by show zk_xe w' 2000070 ((0 : Int) + (1 * a0 + 0)) = (1 : Int) + (0); rw [show (0 : Int) + (1 * a0 + 0) = a0 by omega]; exact ((zs_70 (w := w') (j := a0) (n := a1) (u := j) (c := a3) (z := a4) (m := a5) (l := a6) (by omega) (by omega) (by omega) (by omega) (by omega) (by omega) (by omega) (by omega) (by omega) (by omega) (by omega) (by omega) (by omega) ).mpr h).trans (by omega)) zx_eF0)
def zx_E554 : zx_V := zx_Vc 207 [] 10 [(2000070, 0), (207, 7), (208, 8), (209, 8), (210, 8), (211, 8), (212, 8), (2000071, 9)] [((0, 0), [(2, 1, 0), (3, 0, 1), (4, 0, 4294967296), (5, 0, 18446744073709551616), (6, 0, 79228162514264337593543950336), (7, 0, 340282366920938463463374607431768211456), (8, 0, 1461501637330902918203684832716283019655932542976)]), ((0, 1), [(12, 1, 0)]), ((0, 0), [(4, 0, 1), (9, 1, 0)]), ((0, 0), [(4, 0, 8000), (10, 1, 0), (13, 0, 1)]), ((0, 0), [(11, 1, 0)]), ((0, 1), [(1, 1, 0), (13, 0, 1)]), ((0, 0), [(0, 1, 0), (4, 0, 1)])] [((0, 0), [(3, 1, 0)]), ((4294967294, 0), [(3, 0, 1)]), ((0, 0), [(4, 1, 0)]), ((4294967294, 0), [(4, 0, 1)]), ((0, 0), [(5, 1, 0)]), ((4294967294, 0), [(5, 0, 1)]), ((0, 0), [(6, 1, 0)]), ((4294967294, 0), [(6, 0, 1)]), ((0, 0), [(7, 1, 0)]), ((4294967294, 0), [(7, 0, 1)]), ((0, 0), [(8, 1, 0)]), ((4294967294, 0), [(8, 0, 1)]), ((0, 0), [(13, 1, 0)]), ((0, 5), [(14, 1, 0)]), ((5, 0), [(14, 0, 1)]), ((0, 0), [(17, 1, 0), (19, 8589934592, 0)]), ((7, 0), [(17, 0, 1), (19, 8589934592, 0)]), ((0, 0), [(16, 1, 0), (19, 8589934592, 0)]), ((1616, 0), [(16, 0, 1), (19, 8589934592, 0)])] [(2000070, ((0, 0), [(2, 1, 0)]), ((1, 0), []))]
theorem zx_E554_ok {PT : Nat → zz_W → Prop} : zx_Vok 64 zHT PT zx_E554 := by
  refine zx_Vc_ok (fun w w' j ins hI hI' h0 hw hK hl he hg => ?_)
  obtain ⟨a0, a1, a2, a3, a4, a5, a6, a7, a8, a9, rfl⟩ := zx_i10 hl
  have e0 : (0 : Int) + (1 * a0 + ((-1) * a1 + ((-4294967296) * a2 + ((-18446744073709551616) * a3 + ((-79228162514264337593543950336) * a4 + ((-340282366920938463463374607431768211456) * a5 + ((-1461501637330902918203684832716283019655932542976) * a6 + 0))))))) = 0 := he _ List.mem_cons_self
  have e1 : ((-1) : Int) + (1 * (zk_xe w 2000070 a0) + 0) = 0 := he _ (List.mem_cons_of_mem _ List.mem_cons_self)
  have e2 : (0 : Int) + ((-1) * a2 + (1 * a7 + 0)) = 0 := he _ (List.mem_cons_of_mem _ (List.mem_cons_of_mem _ List.mem_cons_self))
  have e3 : (0 : Int) + ((-8000) * a2 + (1 * a8 + ((-1) * (zk_xe w 207 a7) + 0))) = 0 := he _ (List.mem_cons_of_mem _ (List.mem_cons_of_mem _ (List.mem_cons_of_mem _ List.mem_cons_self)))
  have e4 : (0 : Int) + (1 * a9 + 0) = 0 := he _ (List.mem_cons_of_mem _ (List.mem_cons_of_mem _ (List.mem_cons_of_mem _ (List.mem_cons_of_mem _ List.mem_cons_self))))
  have e5 : ((-1) : Int) + (1 * (zk_el w' 207 j) + ((-1) * (zk_xe w 207 a7) + 0)) = 0 := he _ (List.mem_cons_of_mem _ (List.mem_cons_of_mem _ (List.mem_cons_of_mem _ (List.mem_cons_of_mem _ (List.mem_cons_of_mem _ List.mem_cons_self)))))
  have e6 : (0 : Int) + (1 * j + ((-1) * a2 + 0)) = 0 := he _ (List.mem_cons_of_mem _ (List.mem_cons_of_mem _ (List.mem_cons_of_mem _ (List.mem_cons_of_mem _ (List.mem_cons_of_mem _ (List.mem_cons_of_mem _ List.mem_cons_self))))))
  have g0 : 0 ≤ (0 : Int) + (1 * a1 + 0) := hg _ List.mem_cons_self
  have g1 : 0 ≤ (4294967294 : Int) + ((-1) * a1 + 0) := hg _ (List.mem_cons_of_mem _ List.mem_cons_self)
  have g2 : 0 ≤ (0 : Int) + (1 * a2 + 0) := hg _ (List.mem_cons_of_mem _ (List.mem_cons_of_mem _ List.mem_cons_self))
  have g3 : 0 ≤ (4294967294 : Int) + ((-1) * a2 + 0) := hg _ (List.mem_cons_of_mem _ (List.mem_cons_of_mem _ (List.mem_cons_of_mem _ List.mem_cons_self)))
  have g4 : 0 ≤ (0 : Int) + (1 * a3 + 0) := hg _ (List.mem_cons_of_mem _ (List.mem_cons_of_mem _ (List.mem_cons_of_mem _ (List.mem_cons_of_mem _ List.mem_cons_self))))
  have g5 : 0 ≤ (4294967294 : Int) + ((-1) * a3 + 0) := hg _ (List.mem_cons_of_mem _ (List.mem_cons_of_mem _ (List.mem_cons_of_mem _ (List.mem_cons_of_mem _ (List.mem_cons_of_mem _ List.mem_cons_self)))))
  have g6 : 0 ≤ (0 : Int) + (1 * a4 + 0) := hg _ (List.mem_cons_of_mem _ (List.mem_cons_of_mem _ (List.mem_cons_of_mem _ (List.mem_cons_of_mem _ (List.mem_cons_of_mem _ (List.mem_cons_of_mem _ List.mem_cons_self))))))
  have g7 : 0 ≤ (4294967294 : Int) + ((-1) * a4 + 0) := hg _ (List.mem_cons_of_mem _ (List.mem_cons_of_mem _ (List.mem_cons_of_mem _ (List.mem_cons_of_mem _ (List.mem_cons_of_mem _ (List.mem_cons_of_mem _ (List.mem_cons_of_mem _ List.mem_cons_self)))))))
  have g8 : 0 ≤ (0 : Int) + (1 * a5 + 0) := hg _ (List.mem_cons_of_mem _ (List.mem_cons_of_mem _ (List.mem_cons_of_mem _ (List.mem_cons_of_mem _ (List.mem_cons_of_mem _ (List.mem_cons_of_mem _ (List.mem_cons_of_mem _ (List.mem_cons_of_mem _ List.mem_cons_self))))))))
  have g9 : 0 ≤ (4294967294 : Int) + ((-1) * a5 + 0) := hg _ (List.mem_cons_of_mem _ (List.mem_cons_of_mem _ (List.mem_cons_of_mem _ (List.mem_cons_of_mem _ (List.mem_cons_of_mem _ (List.mem_cons_of_mem _ (List.mem_cons_of_mem _ (List.mem_cons_of_mem _ (List.mem_cons_of_mem _ List.mem_cons_self)))))))))
  have g10 : 0 ≤ (0 : Int) + (1 * a6 + 0) := hg _ (List.mem_cons_of_mem _ (List.mem_cons_of_mem _ (List.mem_cons_of_mem _ (List.mem_cons_of_mem _ (List.mem_cons_of_mem _ (List.mem_cons_of_mem _ (List.mem_cons_of_mem _ (List.mem_cons_of_mem _ (List.mem_cons_of_mem _ (List.mem_cons_of_mem _ List.mem_cons_self))))))))))
  have g11 : 0 ≤ (4294967294 : Int) + ((-1) * a6 + 0) := hg _ (List.mem_cons_of_mem _ (List.mem_cons_of_mem _ (List.mem_cons_of_mem _ (List.mem_cons_of_mem _ (List.mem_cons_of_mem _ (List.mem_cons_of_mem _ (List.mem_cons_of_mem _ (List.mem_cons_of_mem _ (List.mem_cons_of_mem _ (List.mem_cons_of_mem _ (List.mem_cons_of_mem _ List.mem_cons_self)))))))))))
  have g12 : 0 ≤ (0 : Int) + (1 * (zk_xe w 207 a7) + 0) := hg _ (List.mem_cons_of_mem _ (List.mem_cons_of_mem _ (List.mem_cons_of_mem _ (List.mem_cons_of_mem _ (List.mem_cons_of_mem _ (List.mem_cons_of_mem _ (List.mem_cons_of_mem _ (List.mem_cons_of_mem _ (List.mem_cons_of_mem _ (List.mem_cons_of_mem _ (List.mem_cons_of_mem _ (List.mem_cons_of_mem _ List.mem_cons_self))))))))))))
  have g13 : 0 ≤ ((-5) : Int) + (1 * (zk_xe w 208 a8) + 0) := hg _ (List.mem_cons_of_mem _ (List.mem_cons_of_mem _ (List.mem_cons_of_mem _ (List.mem_cons_of_mem _ (List.mem_cons_of_mem _ (List.mem_cons_of_mem _ (List.mem_cons_of_mem _ (List.mem_cons_of_mem _ (List.mem_cons_of_mem _ (List.mem_cons_of_mem _ (List.mem_cons_of_mem _ (List.mem_cons_of_mem _ (List.mem_cons_of_mem _ List.mem_cons_self)))))))))))))
  have g14 : 0 ≤ (5 : Int) + ((-1) * (zk_xe w 208 a8) + 0) := hg _ (List.mem_cons_of_mem _ (List.mem_cons_of_mem _ (List.mem_cons_of_mem _ (List.mem_cons_of_mem _ (List.mem_cons_of_mem _ (List.mem_cons_of_mem _ (List.mem_cons_of_mem _ (List.mem_cons_of_mem _ (List.mem_cons_of_mem _ (List.mem_cons_of_mem _ (List.mem_cons_of_mem _ (List.mem_cons_of_mem _ (List.mem_cons_of_mem _ (List.mem_cons_of_mem _ List.mem_cons_self))))))))))))))
  have g15 : 0 ≤ (0 : Int) + (1 * (zk_xe w 211 a8) + (8589934592 * (zk_xe w 2000071 a9) + 0)) := hg _ (List.mem_cons_of_mem _ (List.mem_cons_of_mem _ (List.mem_cons_of_mem _ (List.mem_cons_of_mem _ (List.mem_cons_of_mem _ (List.mem_cons_of_mem _ (List.mem_cons_of_mem _ (List.mem_cons_of_mem _ (List.mem_cons_of_mem _ (List.mem_cons_of_mem _ (List.mem_cons_of_mem _ (List.mem_cons_of_mem _ (List.mem_cons_of_mem _ (List.mem_cons_of_mem _ (List.mem_cons_of_mem _ List.mem_cons_self)))))))))))))))
  have g16 : 0 ≤ (7 : Int) + ((-1) * (zk_xe w 211 a8) + (8589934592 * (zk_xe w 2000071 a9) + 0)) := hg _ (List.mem_cons_of_mem _ (List.mem_cons_of_mem _ (List.mem_cons_of_mem _ (List.mem_cons_of_mem _ (List.mem_cons_of_mem _ (List.mem_cons_of_mem _ (List.mem_cons_of_mem _ (List.mem_cons_of_mem _ (List.mem_cons_of_mem _ (List.mem_cons_of_mem _ (List.mem_cons_of_mem _ (List.mem_cons_of_mem _ (List.mem_cons_of_mem _ (List.mem_cons_of_mem _ (List.mem_cons_of_mem _ (List.mem_cons_of_mem _ List.mem_cons_self))))))))))))))))
  have g17 : 0 ≤ (0 : Int) + (1 * (zk_xe w 210 a8) + (8589934592 * (zk_xe w 2000071 a9) + 0)) := hg _ (List.mem_cons_of_mem _ (List.mem_cons_of_mem _ (List.mem_cons_of_mem _ (List.mem_cons_of_mem _ (List.mem_cons_of_mem _ (List.mem_cons_of_mem _ (List.mem_cons_of_mem _ (List.mem_cons_of_mem _ (List.mem_cons_of_mem _ (List.mem_cons_of_mem _ (List.mem_cons_of_mem _ (List.mem_cons_of_mem _ (List.mem_cons_of_mem _ (List.mem_cons_of_mem _ (List.mem_cons_of_mem _ (List.mem_cons_of_mem _ (List.mem_cons_of_mem _ List.mem_cons_self)))))))))))))))))
  have g18 : 0 ≤ (1616 : Int) + ((-1) * (zk_xe w 210 a8) + (8589934592 * (zk_xe w 2000071 a9) + 0)) := hg _ (List.mem_cons_of_mem _ (List.mem_cons_of_mem _ (List.mem_cons_of_mem _ (List.mem_cons_of_mem _ (List.mem_cons_of_mem _ (List.mem_cons_of_mem _ (List.mem_cons_of_mem _ (List.mem_cons_of_mem _ (List.mem_cons_of_mem _ (List.mem_cons_of_mem _ (List.mem_cons_of_mem _ (List.mem_cons_of_mem _ (List.mem_cons_of_mem _ (List.mem_cons_of_mem _ (List.mem_cons_of_mem _ (List.mem_cons_of_mem _ (List.mem_cons_of_mem _ (List.mem_cons_of_mem _ List.mem_cons_self))))))))))))))))))
  have e9z : a9 = 0 := by omega
  have ej : j = a2 := by omega
  subst ej
  have hn : zh_e w 207 (j) = zk_xe w 207 a7 := by rw [zk_xe_r (i := 207) (by decide)]; show zk_el w 207 (j) = zk_el w 207 a7; rw [show j = a7 by omega]
  have k0 : zh_e w 208 (8000 * j + zk_xe w 207 a7) = zk_xe w 208 a8 := by rw [zk_xe_r (i := 208) (by decide)]; show zk_el w 208 (8000 * j + zk_xe w 207 a7) = zk_el w 208 a8; rw [show 8000 * j + zk_xe w 207 a7 = a8 by omega]
  have k1 : zh_e w 209 (8000 * j + zk_xe w 207 a7) = zk_xe w 209 a8 := by rw [zk_xe_r (i := 209) (by decide)]; show zk_el w 209 (8000 * j + zk_xe w 207 a7) = zk_el w 209 a8; rw [show 8000 * j + zk_xe w 207 a7 = a8 by omega]
  have k2 : zh_e w 210 (8000 * j + zk_xe w 207 a7) = zk_xe w 210 a8 := by rw [zk_xe_r (i := 210) (by decide)]; show zk_el w 210 (8000 * j + zk_xe w 207 a7) = zk_el w 210 a8; rw [show 8000 * j + zk_xe w 207 a7 = a8 by omega]
  have k3 : zh_e w 211 (8000 * j + zk_xe w 207 a7) = zk_xe w 211 a8 := by rw [zk_xe_r (i := 211) (by decide)]; show zk_el w 211 (8000 * j + zk_xe w 207 a7) = zk_el w 211 a8; rw [show 8000 * j + zk_xe w 207 a7 = a8 by omega]
  have k4 : zh_e w 212 (8000 * j + zk_xe w 207 a7) = zk_xe w 212 a8 := by rw [zk_xe_r (i := 212) (by decide)]; show zk_el w 212 (8000 * j + zk_xe w 207 a7) = zk_el w 212 a8; rw [show 8000 * j + zk_xe w 207 a7 = a8 by omega]
  have hx := zs_71c (w := w) (j := a9)
  have hp := (zs_70 (w := w) (j := a0) (n := a1) (u := j) (c := a3) (z := a4) (m := a5) (l := a6) (by omega) (by omega) (by omega) (by omega) (by omega) (by omega) (by omega) (by omega) (by omega) (by omega) (by omega) (by omega) (by omega) ).mp (by omega)
  have h : zs_ps w' a1 j a3 a4 a5 a6 := by
    unfold zs_ps at hp ⊢
    rw [zh_e_g (hw.1 224 (by decide)), zh_e_g (hw.1 250 (by decide)), zh_e_g (hw.1 240 (by decide)), zh_e_g (hw.1 241 (by decide)), zh_e_g (hw.1 242 (by decide)), zh_e_g (hw.1 253 (by decide)), zh_e_g (hw.1 227 (by decide)), zh_e_g (hw.1 226 (by decide))]
    rcases hp with h | ⟨h1, h2, h3, h4⟩
    · exact Or.inl h
    · rcases hx with ⟨-, hx⟩ | ⟨hx, -⟩
      · exact Or.inl hx
      · refine Or.inr ⟨zs_more hw hn (by omega) (by omega) h1 ?_, h2, h3, h4⟩
        unfold zs_st
        rw [k0, k1, k2, k3, k4]
        refine ⟨fun q1 q2 => ⟨by omega, by omega⟩, fun q => Or.inr ⟨by omega, by omega⟩, fun q => by omega, fun q => by omega, fun q => by omega, fun q => by omega, fun q => by omega, fun q => by omega⟩
  exact (zx_eF1 (by show 0 ≤ (0 : Int) + (1 * a0 + 0); omega) (by show zk_xe w' 2000070 ((0 : Int) + (1 * a0 + 0)) = (1 : Int) + (0); rw [show (0 : Int) + (1 * a0 + 0) = a0 by omega]; exact ((zs_70 (w := w') (j := a0) (n := a1) (u := j) (c := a3) (z := a4) (m := a5) (l := a6) (by omega) (by omega) (by omega) (by omega) (by omega) (by omega) (by omega) (by omega) (by omega) (by omega) (by omega) (by omega) (by omega) ).mpr h).trans (by omega)) zx_eF0)
def zx_E556 : zx_V := zx_Vc 207 [] 10 [(2000070, 0), (207, 7), (208, 8), (209, 8), (210, 8), (211, 8), (212, 8), (2000071, 9)] [((0, 0), [(2, 1, 0), (3, 0, 1), (4, 0, 4294967296), (5, 0, 18446744073709551616), (6, 0, 79228162514264337593543950336), (7, 0, 340282366920938463463374607431768211456), (8, 0, 1461501637330902918203684832716283019655932542976)]), ((0, 1), [(12, 1, 0)]), ((0, 0), [(4, 0, 1), (9, 1, 0)]), ((0, 0), [(4, 0, 8000), (10, 1, 0), (13, 0, 1)]), ((0, 0), [(11, 1, 0)]), ((0, 1), [(1, 1, 0), (13, 0, 1)]), ((0, 0), [(0, 1, 0), (4, 0, 1)])] [((0, 0), [(3, 1, 0)]), ((4294967294, 0), [(3, 0, 1)]), ((0, 0), [(4, 1, 0)]), ((4294967294, 0), [(4, 0, 1)]), ((0, 0), [(5, 1, 0)]), ((4294967294, 0), [(5, 0, 1)]), ((0, 0), [(6, 1, 0)]), ((4294967294, 0), [(6, 0, 1)]), ((0, 0), [(7, 1, 0)]), ((4294967294, 0), [(7, 0, 1)]), ((0, 0), [(8, 1, 0)]), ((4294967294, 0), [(8, 0, 1)]), ((0, 0), [(13, 1, 0)]), ((0, 11), [(14, 1, 0)]), ((11, 0), [(14, 0, 1)]), ((0, 0), [(16, 1, 0), (19, 8589934592, 0)]), ((1616, 0), [(16, 0, 1), (19, 8589934592, 0)])] [(2000070, ((0, 0), [(2, 1, 0)]), ((1, 0), []))]
theorem zx_E556_ok {PT : Nat → zz_W → Prop} : zx_Vok 64 zHT PT zx_E556 := by
  refine zx_Vc_ok (fun w w' j ins hI hI' h0 hw hK hl he hg => ?_)
  obtain ⟨a0, a1, a2, a3, a4, a5, a6, a7, a8, a9, rfl⟩ := zx_i10 hl
  have e0 : (0 : Int) + (1 * a0 + ((-1) * a1 + ((-4294967296) * a2 + ((-18446744073709551616) * a3 + ((-79228162514264337593543950336) * a4 + ((-340282366920938463463374607431768211456) * a5 + ((-1461501637330902918203684832716283019655932542976) * a6 + 0))))))) = 0 := he _ List.mem_cons_self
  have e1 : ((-1) : Int) + (1 * (zk_xe w 2000070 a0) + 0) = 0 := he _ (List.mem_cons_of_mem _ List.mem_cons_self)
  have e2 : (0 : Int) + ((-1) * a2 + (1 * a7 + 0)) = 0 := he _ (List.mem_cons_of_mem _ (List.mem_cons_of_mem _ List.mem_cons_self))
  have e3 : (0 : Int) + ((-8000) * a2 + (1 * a8 + ((-1) * (zk_xe w 207 a7) + 0))) = 0 := he _ (List.mem_cons_of_mem _ (List.mem_cons_of_mem _ (List.mem_cons_of_mem _ List.mem_cons_self)))
  have e4 : (0 : Int) + (1 * a9 + 0) = 0 := he _ (List.mem_cons_of_mem _ (List.mem_cons_of_mem _ (List.mem_cons_of_mem _ (List.mem_cons_of_mem _ List.mem_cons_self))))
  have e5 : ((-1) : Int) + (1 * (zk_el w' 207 j) + ((-1) * (zk_xe w 207 a7) + 0)) = 0 := he _ (List.mem_cons_of_mem _ (List.mem_cons_of_mem _ (List.mem_cons_of_mem _ (List.mem_cons_of_mem _ (List.mem_cons_of_mem _ List.mem_cons_self)))))
  have e6 : (0 : Int) + (1 * j + ((-1) * a2 + 0)) = 0 := he _ (List.mem_cons_of_mem _ (List.mem_cons_of_mem _ (List.mem_cons_of_mem _ (List.mem_cons_of_mem _ (List.mem_cons_of_mem _ (List.mem_cons_of_mem _ List.mem_cons_self))))))
  have g0 : 0 ≤ (0 : Int) + (1 * a1 + 0) := hg _ List.mem_cons_self
  have g1 : 0 ≤ (4294967294 : Int) + ((-1) * a1 + 0) := hg _ (List.mem_cons_of_mem _ List.mem_cons_self)
  have g2 : 0 ≤ (0 : Int) + (1 * a2 + 0) := hg _ (List.mem_cons_of_mem _ (List.mem_cons_of_mem _ List.mem_cons_self))
  have g3 : 0 ≤ (4294967294 : Int) + ((-1) * a2 + 0) := hg _ (List.mem_cons_of_mem _ (List.mem_cons_of_mem _ (List.mem_cons_of_mem _ List.mem_cons_self)))
  have g4 : 0 ≤ (0 : Int) + (1 * a3 + 0) := hg _ (List.mem_cons_of_mem _ (List.mem_cons_of_mem _ (List.mem_cons_of_mem _ (List.mem_cons_of_mem _ List.mem_cons_self))))
  have g5 : 0 ≤ (4294967294 : Int) + ((-1) * a3 + 0) := hg _ (List.mem_cons_of_mem _ (List.mem_cons_of_mem _ (List.mem_cons_of_mem _ (List.mem_cons_of_mem _ (List.mem_cons_of_mem _ List.mem_cons_self)))))
  have g6 : 0 ≤ (0 : Int) + (1 * a4 + 0) := hg _ (List.mem_cons_of_mem _ (List.mem_cons_of_mem _ (List.mem_cons_of_mem _ (List.mem_cons_of_mem _ (List.mem_cons_of_mem _ (List.mem_cons_of_mem _ List.mem_cons_self))))))
  have g7 : 0 ≤ (4294967294 : Int) + ((-1) * a4 + 0) := hg _ (List.mem_cons_of_mem _ (List.mem_cons_of_mem _ (List.mem_cons_of_mem _ (List.mem_cons_of_mem _ (List.mem_cons_of_mem _ (List.mem_cons_of_mem _ (List.mem_cons_of_mem _ List.mem_cons_self)))))))
  have g8 : 0 ≤ (0 : Int) + (1 * a5 + 0) := hg _ (List.mem_cons_of_mem _ (List.mem_cons_of_mem _ (List.mem_cons_of_mem _ (List.mem_cons_of_mem _ (List.mem_cons_of_mem _ (List.mem_cons_of_mem _ (List.mem_cons_of_mem _ (List.mem_cons_of_mem _ List.mem_cons_self))))))))
  have g9 : 0 ≤ (4294967294 : Int) + ((-1) * a5 + 0) := hg _ (List.mem_cons_of_mem _ (List.mem_cons_of_mem _ (List.mem_cons_of_mem _ (List.mem_cons_of_mem _ (List.mem_cons_of_mem _ (List.mem_cons_of_mem _ (List.mem_cons_of_mem _ (List.mem_cons_of_mem _ (List.mem_cons_of_mem _ List.mem_cons_self)))))))))
  have g10 : 0 ≤ (0 : Int) + (1 * a6 + 0) := hg _ (List.mem_cons_of_mem _ (List.mem_cons_of_mem _ (List.mem_cons_of_mem _ (List.mem_cons_of_mem _ (List.mem_cons_of_mem _ (List.mem_cons_of_mem _ (List.mem_cons_of_mem _ (List.mem_cons_of_mem _ (List.mem_cons_of_mem _ (List.mem_cons_of_mem _ List.mem_cons_self))))))))))
  have g11 : 0 ≤ (4294967294 : Int) + ((-1) * a6 + 0) := hg _ (List.mem_cons_of_mem _ (List.mem_cons_of_mem _ (List.mem_cons_of_mem _ (List.mem_cons_of_mem _ (List.mem_cons_of_mem _ (List.mem_cons_of_mem _ (List.mem_cons_of_mem _ (List.mem_cons_of_mem _ (List.mem_cons_of_mem _ (List.mem_cons_of_mem _ (List.mem_cons_of_mem _ List.mem_cons_self)))))))))))
  have g12 : 0 ≤ (0 : Int) + (1 * (zk_xe w 207 a7) + 0) := hg _ (List.mem_cons_of_mem _ (List.mem_cons_of_mem _ (List.mem_cons_of_mem _ (List.mem_cons_of_mem _ (List.mem_cons_of_mem _ (List.mem_cons_of_mem _ (List.mem_cons_of_mem _ (List.mem_cons_of_mem _ (List.mem_cons_of_mem _ (List.mem_cons_of_mem _ (List.mem_cons_of_mem _ (List.mem_cons_of_mem _ List.mem_cons_self))))))))))))
  have g13 : 0 ≤ ((-11) : Int) + (1 * (zk_xe w 208 a8) + 0) := hg _ (List.mem_cons_of_mem _ (List.mem_cons_of_mem _ (List.mem_cons_of_mem _ (List.mem_cons_of_mem _ (List.mem_cons_of_mem _ (List.mem_cons_of_mem _ (List.mem_cons_of_mem _ (List.mem_cons_of_mem _ (List.mem_cons_of_mem _ (List.mem_cons_of_mem _ (List.mem_cons_of_mem _ (List.mem_cons_of_mem _ (List.mem_cons_of_mem _ List.mem_cons_self)))))))))))))
  have g14 : 0 ≤ (11 : Int) + ((-1) * (zk_xe w 208 a8) + 0) := hg _ (List.mem_cons_of_mem _ (List.mem_cons_of_mem _ (List.mem_cons_of_mem _ (List.mem_cons_of_mem _ (List.mem_cons_of_mem _ (List.mem_cons_of_mem _ (List.mem_cons_of_mem _ (List.mem_cons_of_mem _ (List.mem_cons_of_mem _ (List.mem_cons_of_mem _ (List.mem_cons_of_mem _ (List.mem_cons_of_mem _ (List.mem_cons_of_mem _ (List.mem_cons_of_mem _ List.mem_cons_self))))))))))))))
  have g15 : 0 ≤ (0 : Int) + (1 * (zk_xe w 210 a8) + (8589934592 * (zk_xe w 2000071 a9) + 0)) := hg _ (List.mem_cons_of_mem _ (List.mem_cons_of_mem _ (List.mem_cons_of_mem _ (List.mem_cons_of_mem _ (List.mem_cons_of_mem _ (List.mem_cons_of_mem _ (List.mem_cons_of_mem _ (List.mem_cons_of_mem _ (List.mem_cons_of_mem _ (List.mem_cons_of_mem _ (List.mem_cons_of_mem _ (List.mem_cons_of_mem _ (List.mem_cons_of_mem _ (List.mem_cons_of_mem _ (List.mem_cons_of_mem _ List.mem_cons_self)))))))))))))))
  have g16 : 0 ≤ (1616 : Int) + ((-1) * (zk_xe w 210 a8) + (8589934592 * (zk_xe w 2000071 a9) + 0)) := hg _ (List.mem_cons_of_mem _ (List.mem_cons_of_mem _ (List.mem_cons_of_mem _ (List.mem_cons_of_mem _ (List.mem_cons_of_mem _ (List.mem_cons_of_mem _ (List.mem_cons_of_mem _ (List.mem_cons_of_mem _ (List.mem_cons_of_mem _ (List.mem_cons_of_mem _ (List.mem_cons_of_mem _ (List.mem_cons_of_mem _ (List.mem_cons_of_mem _ (List.mem_cons_of_mem _ (List.mem_cons_of_mem _ (List.mem_cons_of_mem _ List.mem_cons_self))))))))))))))))
  have e9z : a9 = 0 := by omega
  have ej : j = a2 := by omega
  subst ej
  have hn : zh_e w 207 (j) = zk_xe w 207 a7 := by rw [zk_xe_r (i := 207) (by decide)]; show zk_el w 207 (j) = zk_el w 207 a7; rw [show j = a7 by omega]
  have k0 : zh_e w 208 (8000 * j + zk_xe w 207 a7) = zk_xe w 208 a8 := by rw [zk_xe_r (i := 208) (by decide)]; show zk_el w 208 (8000 * j + zk_xe w 207 a7) = zk_el w 208 a8; rw [show 8000 * j + zk_xe w 207 a7 = a8 by omega]
  have k1 : zh_e w 209 (8000 * j + zk_xe w 207 a7) = zk_xe w 209 a8 := by rw [zk_xe_r (i := 209) (by decide)]; show zk_el w 209 (8000 * j + zk_xe w 207 a7) = zk_el w 209 a8; rw [show 8000 * j + zk_xe w 207 a7 = a8 by omega]
  have k2 : zh_e w 210 (8000 * j + zk_xe w 207 a7) = zk_xe w 210 a8 := by rw [zk_xe_r (i := 210) (by decide)]; show zk_el w 210 (8000 * j + zk_xe w 207 a7) = zk_el w 210 a8; rw [show 8000 * j + zk_xe w 207 a7 = a8 by omega]
  have k3 : zh_e w 211 (8000 * j + zk_xe w 207 a7) = zk_xe w 211 a8 := by rw [zk_xe_r (i := 211) (by decide)]; show zk_el w 211 (8000 * j + zk_xe w 207 a7) = zk_el w 211 a8; rw [show 8000 * j + zk_xe w 207 a7 = a8 by omega]
  have k4 : zh_e w 212 (8000 * j + zk_xe w 207 a7) = zk_xe w 212 a8 := by rw [zk_xe_r (i := 212) (by decide)]; show zk_el w 212 (8000 * j + zk_xe w 207 a7) = zk_el w 212 a8; rw [show 8000 * j + zk_xe w 207 a7 = a8 by omega]
  have hx := zs_71c (w := w) (j := a9)
  have hp := (zs_70 (w := w) (j := a0) (n := a1) (u := j) (c := a3) (z := a4) (m := a5) (l := a6) (by omega) (by omega) (by omega) (by omega) (by omega) (by omega) (by omega) (by omega) (by omega) (by omega) (by omega) (by omega) (by omega) ).mp (by omega)
  have h : zs_ps w' a1 j a3 a4 a5 a6 := by
    unfold zs_ps at hp ⊢
    rw [zh_e_g (hw.1 224 (by decide)), zh_e_g (hw.1 250 (by decide)), zh_e_g (hw.1 240 (by decide)), zh_e_g (hw.1 241 (by decide)), zh_e_g (hw.1 242 (by decide)), zh_e_g (hw.1 253 (by decide)), zh_e_g (hw.1 227 (by decide)), zh_e_g (hw.1 226 (by decide))]
    rcases hp with h | ⟨h1, h2, h3, h4⟩
    · exact Or.inl h
    · rcases hx with ⟨-, hx⟩ | ⟨hx, -⟩
      · exact Or.inl hx
      · refine Or.inr ⟨zs_more hw hn (by omega) (by omega) h1 ?_, h2, h3, h4⟩
        unfold zs_st
        rw [k0, k1, k2, k3, k4]
        refine ⟨fun q1 q2 => by omega, fun q => Or.inr ⟨by omega, by omega⟩, fun q => by omega, fun q => by omega, fun q => by omega, fun q => by omega, fun q => by omega, fun q => by omega⟩
  exact (zx_eF1 (by show 0 ≤ (0 : Int) + (1 * a0 + 0); omega) (by show zk_xe w' 2000070 ((0 : Int) + (1 * a0 + 0)) = (1 : Int) + (0); rw [show (0 : Int) + (1 * a0 + 0) = a0 by omega]; exact ((zs_70 (w := w') (j := a0) (n := a1) (u := j) (c := a3) (z := a4) (m := a5) (l := a6) (by omega) (by omega) (by omega) (by omega) (by omega) (by omega) (by omega) (by omega) (by omega) (by omega) (by omega) (by omega) (by omega) ).mpr h).trans (by omega)) zx_eF0)
def zx_E555 : zx_V := zx_Vc 207 [] 11 [(2000070, 0), (207, 7), (208, 8), (209, 8), (210, 8), (211, 8), (212, 8), (2000071, 9), (2000072, 10)] [((0, 0), [(2, 1, 0), (3, 0, 1), (4, 0, 4294967296), (5, 0, 18446744073709551616), (6, 0, 79228162514264337593543950336), (7, 0, 340282366920938463463374607431768211456), (8, 0, 1461501637330902918203684832716283019655932542976)]), ((0, 1), [(13, 1, 0)]), ((0, 0), [(4, 0, 1), (9, 1, 0)]), ((0, 0), [(4, 0, 8000), (10, 1, 0), (14, 0, 1)]), ((0, 0), [(11, 1, 0)]), ((0, 1), [(1, 1, 0), (14, 0, 1)]), ((0, 0), [(0, 1, 0), (4, 0, 1)]), ((1, 0), [(17, 1, 0)]), ((0, 1), [(21, 1, 0)]), ((0, 4294967297), [(3, 0, 18446744073709551616), (12, 1, 0), (16, 0, 1)])] [((0, 0), [(3, 1, 0)]), ((4294967294, 0), [(3, 0, 1)]), ((0, 0), [(4, 1, 0)]), ((4294967294, 0), [(4, 0, 1)]), ((0, 0), [(5, 1, 0)]), ((4294967294, 0), [(5, 0, 1)]), ((0, 0), [(6, 1, 0)]), ((4294967294, 0), [(6, 0, 1)]), ((0, 0), [(7, 1, 0)]), ((4294967294, 0), [(7, 0, 1)]), ((0, 0), [(8, 1, 0)]), ((4294967294, 0), [(8, 0, 1)]), ((0, 0), [(14, 1, 0)]), ((0, 5), [(15, 1, 0)]), ((5, 0), [(15, 0, 1)]), ((0, 0), [(18, 1, 0), (20, 8589934592, 0)]), ((7, 0), [(18, 0, 1), (20, 8589934592, 0)]), ((1, 0), [(16, 1, 0)]), ((100000, 0), [(16, 0, 1)])] [(2000070, ((0, 0), [(2, 1, 0)]), ((1, 0), []))]
theorem zx_E555_ok {PT : Nat → zz_W → Prop} : zx_Vok 64 zHT PT zx_E555 := by
  refine zx_Vc_ok (fun w w' j ins hI hI' h0 hw hK hl he hg => ?_)
  obtain ⟨a0, a1, a2, a3, a4, a5, a6, a7, a8, a9, a10, rfl⟩ := zx_i11 hl
  have e0 : (0 : Int) + (1 * a0 + ((-1) * a1 + ((-4294967296) * a2 + ((-18446744073709551616) * a3 + ((-79228162514264337593543950336) * a4 + ((-340282366920938463463374607431768211456) * a5 + ((-1461501637330902918203684832716283019655932542976) * a6 + 0))))))) = 0 := he _ List.mem_cons_self
  have e1 : ((-1) : Int) + (1 * (zk_xe w 2000070 a0) + 0) = 0 := he _ (List.mem_cons_of_mem _ List.mem_cons_self)
  have e2 : (0 : Int) + ((-1) * a2 + (1 * a7 + 0)) = 0 := he _ (List.mem_cons_of_mem _ (List.mem_cons_of_mem _ List.mem_cons_self))
  have e3 : (0 : Int) + ((-8000) * a2 + (1 * a8 + ((-1) * (zk_xe w 207 a7) + 0))) = 0 := he _ (List.mem_cons_of_mem _ (List.mem_cons_of_mem _ (List.mem_cons_of_mem _ List.mem_cons_self)))
  have e4 : (0 : Int) + (1 * a9 + 0) = 0 := he _ (List.mem_cons_of_mem _ (List.mem_cons_of_mem _ (List.mem_cons_of_mem _ (List.mem_cons_of_mem _ List.mem_cons_self))))
  have e5 : ((-1) : Int) + (1 * (zk_el w' 207 j) + ((-1) * (zk_xe w 207 a7) + 0)) = 0 := he _ (List.mem_cons_of_mem _ (List.mem_cons_of_mem _ (List.mem_cons_of_mem _ (List.mem_cons_of_mem _ (List.mem_cons_of_mem _ List.mem_cons_self)))))
  have e6 : (0 : Int) + (1 * j + ((-1) * a2 + 0)) = 0 := he _ (List.mem_cons_of_mem _ (List.mem_cons_of_mem _ (List.mem_cons_of_mem _ (List.mem_cons_of_mem _ (List.mem_cons_of_mem _ (List.mem_cons_of_mem _ List.mem_cons_self))))))
  have e7 : (1 : Int) + (1 * (zk_xe w 210 a8) + 0) = 0 := he _ (List.mem_cons_of_mem _ (List.mem_cons_of_mem _ (List.mem_cons_of_mem _ (List.mem_cons_of_mem _ (List.mem_cons_of_mem _ (List.mem_cons_of_mem _ (List.mem_cons_of_mem _ List.mem_cons_self)))))))
  have e8 : ((-1) : Int) + (1 * (zk_xe w 2000072 a10) + 0) = 0 := he _ (List.mem_cons_of_mem _ (List.mem_cons_of_mem _ (List.mem_cons_of_mem _ (List.mem_cons_of_mem _ (List.mem_cons_of_mem _ (List.mem_cons_of_mem _ (List.mem_cons_of_mem _ (List.mem_cons_of_mem _ List.mem_cons_self))))))))
  have e9 : ((-4294967297) : Int) + ((-18446744073709551616) * a1 + (1 * a10 + ((-1) * (zk_xe w 209 a8) + 0))) = 0 := he _ (List.mem_cons_of_mem _ (List.mem_cons_of_mem _ (List.mem_cons_of_mem _ (List.mem_cons_of_mem _ (List.mem_cons_of_mem _ (List.mem_cons_of_mem _ (List.mem_cons_of_mem _ (List.mem_cons_of_mem _ (List.mem_cons_of_mem _ List.mem_cons_self)))))))))
  have g0 : 0 ≤ (0 : Int) + (1 * a1 + 0) := hg _ List.mem_cons_self
  have g1 : 0 ≤ (4294967294 : Int) + ((-1) * a1 + 0) := hg _ (List.mem_cons_of_mem _ List.mem_cons_self)
  have g2 : 0 ≤ (0 : Int) + (1 * a2 + 0) := hg _ (List.mem_cons_of_mem _ (List.mem_cons_of_mem _ List.mem_cons_self))
  have g3 : 0 ≤ (4294967294 : Int) + ((-1) * a2 + 0) := hg _ (List.mem_cons_of_mem _ (List.mem_cons_of_mem _ (List.mem_cons_of_mem _ List.mem_cons_self)))
  have g4 : 0 ≤ (0 : Int) + (1 * a3 + 0) := hg _ (List.mem_cons_of_mem _ (List.mem_cons_of_mem _ (List.mem_cons_of_mem _ (List.mem_cons_of_mem _ List.mem_cons_self))))
  have g5 : 0 ≤ (4294967294 : Int) + ((-1) * a3 + 0) := hg _ (List.mem_cons_of_mem _ (List.mem_cons_of_mem _ (List.mem_cons_of_mem _ (List.mem_cons_of_mem _ (List.mem_cons_of_mem _ List.mem_cons_self)))))
  have g6 : 0 ≤ (0 : Int) + (1 * a4 + 0) := hg _ (List.mem_cons_of_mem _ (List.mem_cons_of_mem _ (List.mem_cons_of_mem _ (List.mem_cons_of_mem _ (List.mem_cons_of_mem _ (List.mem_cons_of_mem _ List.mem_cons_self))))))
  have g7 : 0 ≤ (4294967294 : Int) + ((-1) * a4 + 0) := hg _ (List.mem_cons_of_mem _ (List.mem_cons_of_mem _ (List.mem_cons_of_mem _ (List.mem_cons_of_mem _ (List.mem_cons_of_mem _ (List.mem_cons_of_mem _ (List.mem_cons_of_mem _ List.mem_cons_self)))))))
  have g8 : 0 ≤ (0 : Int) + (1 * a5 + 0) := hg _ (List.mem_cons_of_mem _ (List.mem_cons_of_mem _ (List.mem_cons_of_mem _ (List.mem_cons_of_mem _ (List.mem_cons_of_mem _ (List.mem_cons_of_mem _ (List.mem_cons_of_mem _ (List.mem_cons_of_mem _ List.mem_cons_self))))))))
  have g9 : 0 ≤ (4294967294 : Int) + ((-1) * a5 + 0) := hg _ (List.mem_cons_of_mem _ (List.mem_cons_of_mem _ (List.mem_cons_of_mem _ (List.mem_cons_of_mem _ (List.mem_cons_of_mem _ (List.mem_cons_of_mem _ (List.mem_cons_of_mem _ (List.mem_cons_of_mem _ (List.mem_cons_of_mem _ List.mem_cons_self)))))))))
  have g10 : 0 ≤ (0 : Int) + (1 * a6 + 0) := hg _ (List.mem_cons_of_mem _ (List.mem_cons_of_mem _ (List.mem_cons_of_mem _ (List.mem_cons_of_mem _ (List.mem_cons_of_mem _ (List.mem_cons_of_mem _ (List.mem_cons_of_mem _ (List.mem_cons_of_mem _ (List.mem_cons_of_mem _ (List.mem_cons_of_mem _ List.mem_cons_self))))))))))
  have g11 : 0 ≤ (4294967294 : Int) + ((-1) * a6 + 0) := hg _ (List.mem_cons_of_mem _ (List.mem_cons_of_mem _ (List.mem_cons_of_mem _ (List.mem_cons_of_mem _ (List.mem_cons_of_mem _ (List.mem_cons_of_mem _ (List.mem_cons_of_mem _ (List.mem_cons_of_mem _ (List.mem_cons_of_mem _ (List.mem_cons_of_mem _ (List.mem_cons_of_mem _ List.mem_cons_self)))))))))))
  have g12 : 0 ≤ (0 : Int) + (1 * (zk_xe w 207 a7) + 0) := hg _ (List.mem_cons_of_mem _ (List.mem_cons_of_mem _ (List.mem_cons_of_mem _ (List.mem_cons_of_mem _ (List.mem_cons_of_mem _ (List.mem_cons_of_mem _ (List.mem_cons_of_mem _ (List.mem_cons_of_mem _ (List.mem_cons_of_mem _ (List.mem_cons_of_mem _ (List.mem_cons_of_mem _ (List.mem_cons_of_mem _ List.mem_cons_self))))))))))))
  have g13 : 0 ≤ ((-5) : Int) + (1 * (zk_xe w 208 a8) + 0) := hg _ (List.mem_cons_of_mem _ (List.mem_cons_of_mem _ (List.mem_cons_of_mem _ (List.mem_cons_of_mem _ (List.mem_cons_of_mem _ (List.mem_cons_of_mem _ (List.mem_cons_of_mem _ (List.mem_cons_of_mem _ (List.mem_cons_of_mem _ (List.mem_cons_of_mem _ (List.mem_cons_of_mem _ (List.mem_cons_of_mem _ (List.mem_cons_of_mem _ List.mem_cons_self)))))))))))))
  have g14 : 0 ≤ (5 : Int) + ((-1) * (zk_xe w 208 a8) + 0) := hg _ (List.mem_cons_of_mem _ (List.mem_cons_of_mem _ (List.mem_cons_of_mem _ (List.mem_cons_of_mem _ (List.mem_cons_of_mem _ (List.mem_cons_of_mem _ (List.mem_cons_of_mem _ (List.mem_cons_of_mem _ (List.mem_cons_of_mem _ (List.mem_cons_of_mem _ (List.mem_cons_of_mem _ (List.mem_cons_of_mem _ (List.mem_cons_of_mem _ (List.mem_cons_of_mem _ List.mem_cons_self))))))))))))))
  have g15 : 0 ≤ (0 : Int) + (1 * (zk_xe w 211 a8) + (8589934592 * (zk_xe w 2000071 a9) + 0)) := hg _ (List.mem_cons_of_mem _ (List.mem_cons_of_mem _ (List.mem_cons_of_mem _ (List.mem_cons_of_mem _ (List.mem_cons_of_mem _ (List.mem_cons_of_mem _ (List.mem_cons_of_mem _ (List.mem_cons_of_mem _ (List.mem_cons_of_mem _ (List.mem_cons_of_mem _ (List.mem_cons_of_mem _ (List.mem_cons_of_mem _ (List.mem_cons_of_mem _ (List.mem_cons_of_mem _ (List.mem_cons_of_mem _ List.mem_cons_self)))))))))))))))
  have g16 : 0 ≤ (7 : Int) + ((-1) * (zk_xe w 211 a8) + (8589934592 * (zk_xe w 2000071 a9) + 0)) := hg _ (List.mem_cons_of_mem _ (List.mem_cons_of_mem _ (List.mem_cons_of_mem _ (List.mem_cons_of_mem _ (List.mem_cons_of_mem _ (List.mem_cons_of_mem _ (List.mem_cons_of_mem _ (List.mem_cons_of_mem _ (List.mem_cons_of_mem _ (List.mem_cons_of_mem _ (List.mem_cons_of_mem _ (List.mem_cons_of_mem _ (List.mem_cons_of_mem _ (List.mem_cons_of_mem _ (List.mem_cons_of_mem _ (List.mem_cons_of_mem _ List.mem_cons_self))))))))))))))))
  have g17 : 0 ≤ (1 : Int) + (1 * (zk_xe w 209 a8) + 0) := hg _ (List.mem_cons_of_mem _ (List.mem_cons_of_mem _ (List.mem_cons_of_mem _ (List.mem_cons_of_mem _ (List.mem_cons_of_mem _ (List.mem_cons_of_mem _ (List.mem_cons_of_mem _ (List.mem_cons_of_mem _ (List.mem_cons_of_mem _ (List.mem_cons_of_mem _ (List.mem_cons_of_mem _ (List.mem_cons_of_mem _ (List.mem_cons_of_mem _ (List.mem_cons_of_mem _ (List.mem_cons_of_mem _ (List.mem_cons_of_mem _ (List.mem_cons_of_mem _ List.mem_cons_self)))))))))))))))))
  have g18 : 0 ≤ (100000 : Int) + ((-1) * (zk_xe w 209 a8) + 0) := hg _ (List.mem_cons_of_mem _ (List.mem_cons_of_mem _ (List.mem_cons_of_mem _ (List.mem_cons_of_mem _ (List.mem_cons_of_mem _ (List.mem_cons_of_mem _ (List.mem_cons_of_mem _ (List.mem_cons_of_mem _ (List.mem_cons_of_mem _ (List.mem_cons_of_mem _ (List.mem_cons_of_mem _ (List.mem_cons_of_mem _ (List.mem_cons_of_mem _ (List.mem_cons_of_mem _ (List.mem_cons_of_mem _ (List.mem_cons_of_mem _ (List.mem_cons_of_mem _ (List.mem_cons_of_mem _ List.mem_cons_self))))))))))))))))))
  have e9z : a9 = 0 := by omega
  have ej : j = a2 := by omega
  subst ej
  have hn : zh_e w 207 (j) = zk_xe w 207 a7 := by rw [zk_xe_r (i := 207) (by decide)]; show zk_el w 207 (j) = zk_el w 207 a7; rw [show j = a7 by omega]
  have k0 : zh_e w 208 (8000 * j + zk_xe w 207 a7) = zk_xe w 208 a8 := by rw [zk_xe_r (i := 208) (by decide)]; show zk_el w 208 (8000 * j + zk_xe w 207 a7) = zk_el w 208 a8; rw [show 8000 * j + zk_xe w 207 a7 = a8 by omega]
  have k1 : zh_e w 209 (8000 * j + zk_xe w 207 a7) = zk_xe w 209 a8 := by rw [zk_xe_r (i := 209) (by decide)]; show zk_el w 209 (8000 * j + zk_xe w 207 a7) = zk_el w 209 a8; rw [show 8000 * j + zk_xe w 207 a7 = a8 by omega]
  have k2 : zh_e w 210 (8000 * j + zk_xe w 207 a7) = zk_xe w 210 a8 := by rw [zk_xe_r (i := 210) (by decide)]; show zk_el w 210 (8000 * j + zk_xe w 207 a7) = zk_el w 210 a8; rw [show 8000 * j + zk_xe w 207 a7 = a8 by omega]
  have k3 : zh_e w 211 (8000 * j + zk_xe w 207 a7) = zk_xe w 211 a8 := by rw [zk_xe_r (i := 211) (by decide)]; show zk_el w 211 (8000 * j + zk_xe w 207 a7) = zk_el w 211 a8; rw [show 8000 * j + zk_xe w 207 a7 = a8 by omega]
  have k4 : zh_e w 212 (8000 * j + zk_xe w 207 a7) = zk_xe w 212 a8 := by rw [zk_xe_r (i := 212) (by decide)]; show zk_el w 212 (8000 * j + zk_xe w 207 a7) = zk_el w 212 a8; rw [show 8000 * j + zk_xe w 207 a7 = a8 by omega]
  have hu := (zs_72 (w := w) (j := a10) (a := (zk_xe w 209 a8 + 1)) (k := 1) (n := a1) (by omega) (by omega) (by omega) (by omega) (by omega) (by omega) (by omega) ).mp (by omega)
  rw [show zk_xe w 209 a8 + 1 - 1 = zk_xe w 209 a8 by omega] at hu
  have hx := zs_71c (w := w) (j := a9)
  have hp := (zs_70 (w := w) (j := a0) (n := a1) (u := j) (c := a3) (z := a4) (m := a5) (l := a6) (by omega) (by omega) (by omega) (by omega) (by omega) (by omega) (by omega) (by omega) (by omega) (by omega) (by omega) (by omega) (by omega) ).mp (by omega)
  have h : zs_ps w' a1 j a3 a4 a5 a6 := by
    unfold zs_ps at hp ⊢
    rw [zh_e_g (hw.1 224 (by decide)), zh_e_g (hw.1 250 (by decide)), zh_e_g (hw.1 240 (by decide)), zh_e_g (hw.1 241 (by decide)), zh_e_g (hw.1 242 (by decide)), zh_e_g (hw.1 253 (by decide)), zh_e_g (hw.1 227 (by decide)), zh_e_g (hw.1 226 (by decide))]
    rcases hp with h | ⟨h1, h2, h3, h4⟩
    · exact Or.inl h
    · rcases hx with ⟨-, hx⟩ | ⟨hx, -⟩
      · exact Or.inl hx
      · refine Or.inr ⟨zs_more hw hn (by omega) (by omega) h1 ?_, h2, h3, h4⟩
        unfold zs_st
        rw [k0, k1, k2, k3, k4]
        refine ⟨fun q1 q2 => ⟨by omega, by omega⟩, fun q => Or.inl ⟨by omega, hu⟩, fun q => by omega, fun q => by omega, fun q => by omega, fun q => by omega, fun q => by omega, fun q => by omega⟩
  exact (zx_eF1 (by show 0 ≤ (0 : Int) + (1 * a0 + 0); omega) (by show zk_xe w' 2000070 ((0 : Int) + (1 * a0 + 0)) = (1 : Int) + (0); rw [show (0 : Int) + (1 * a0 + 0) = a0 by omega]; exact ((zs_70 (w := w') (j := a0) (n := a1) (u := j) (c := a3) (z := a4) (m := a5) (l := a6) (by omega) (by omega) (by omega) (by omega) (by omega) (by omega) (by omega) (by omega) (by omega) (by omega) (by omega) (by omega) (by omega) ).mpr h).trans (by omega)) zx_eF0)
def zx_E557 : zx_V := zx_Vc 207 [] 11 [(2000070, 0), (207, 7), (208, 8), (209, 8), (210, 8), (211, 8), (212, 8), (2000071, 9), (2000072, 10)] [((0, 0), [(2, 1, 0), (3, 0, 1), (4, 0, 4294967296), (5, 0, 18446744073709551616), (6, 0, 79228162514264337593543950336), (7, 0, 340282366920938463463374607431768211456), (8, 0, 1461501637330902918203684832716283019655932542976)]), ((0, 1), [(13, 1, 0)]), ((0, 0), [(4, 0, 1), (9, 1, 0)]), ((0, 0), [(4, 0, 8000), (10, 1, 0), (14, 0, 1)]), ((0, 0), [(11, 1, 0)]), ((0, 1), [(1, 1, 0), (14, 0, 1)]), ((0, 0), [(0, 1, 0), (4, 0, 1)]), ((1, 0), [(17, 1, 0)]), ((0, 1), [(21, 1, 0)]), ((0, 4294967297), [(3, 0, 18446744073709551616), (12, 1, 0), (16, 0, 1)])] [((0, 0), [(3, 1, 0)]), ((4294967294, 0), [(3, 0, 1)]), ((0, 0), [(4, 1, 0)]), ((4294967294, 0), [(4, 0, 1)]), ((0, 0), [(5, 1, 0)]), ((4294967294, 0), [(5, 0, 1)]), ((0, 0), [(6, 1, 0)]), ((4294967294, 0), [(6, 0, 1)]), ((0, 0), [(7, 1, 0)]), ((4294967294, 0), [(7, 0, 1)]), ((0, 0), [(8, 1, 0)]), ((4294967294, 0), [(8, 0, 1)]), ((0, 0), [(14, 1, 0)]), ((0, 11), [(15, 1, 0)]), ((11, 0), [(15, 0, 1)]), ((1, 0), [(16, 1, 0)]), ((100000, 0), [(16, 0, 1)])] [(2000070, ((0, 0), [(2, 1, 0)]), ((1, 0), []))]
theorem zx_E557_ok {PT : Nat → zz_W → Prop} : zx_Vok 64 zHT PT zx_E557 := by
  refine zx_Vc_ok (fun w w' j ins hI hI' h0 hw hK hl he hg => ?_)
  obtain ⟨a0, a1, a2, a3, a4, a5, a6, a7, a8, a9, a10, rfl⟩ := zx_i11 hl
  have e0 : (0 : Int) + (1 * a0 + ((-1) * a1 + ((-4294967296) * a2 + ((-18446744073709551616) * a3 + ((-79228162514264337593543950336) * a4 + ((-340282366920938463463374607431768211456) * a5 + ((-1461501637330902918203684832716283019655932542976) * a6 + 0))))))) = 0 := he _ List.mem_cons_self
  have e1 : ((-1) : Int) + (1 * (zk_xe w 2000070 a0) + 0) = 0 := he _ (List.mem_cons_of_mem _ List.mem_cons_self)
  have e2 : (0 : Int) + ((-1) * a2 + (1 * a7 + 0)) = 0 := he _ (List.mem_cons_of_mem _ (List.mem_cons_of_mem _ List.mem_cons_self))
  have e3 : (0 : Int) + ((-8000) * a2 + (1 * a8 + ((-1) * (zk_xe w 207 a7) + 0))) = 0 := he _ (List.mem_cons_of_mem _ (List.mem_cons_of_mem _ (List.mem_cons_of_mem _ List.mem_cons_self)))
  have e4 : (0 : Int) + (1 * a9 + 0) = 0 := he _ (List.mem_cons_of_mem _ (List.mem_cons_of_mem _ (List.mem_cons_of_mem _ (List.mem_cons_of_mem _ List.mem_cons_self))))
  have e5 : ((-1) : Int) + (1 * (zk_el w' 207 j) + ((-1) * (zk_xe w 207 a7) + 0)) = 0 := he _ (List.mem_cons_of_mem _ (List.mem_cons_of_mem _ (List.mem_cons_of_mem _ (List.mem_cons_of_mem _ (List.mem_cons_of_mem _ List.mem_cons_self)))))
  have e6 : (0 : Int) + (1 * j + ((-1) * a2 + 0)) = 0 := he _ (List.mem_cons_of_mem _ (List.mem_cons_of_mem _ (List.mem_cons_of_mem _ (List.mem_cons_of_mem _ (List.mem_cons_of_mem _ (List.mem_cons_of_mem _ List.mem_cons_self))))))
  have e7 : (1 : Int) + (1 * (zk_xe w 210 a8) + 0) = 0 := he _ (List.mem_cons_of_mem _ (List.mem_cons_of_mem _ (List.mem_cons_of_mem _ (List.mem_cons_of_mem _ (List.mem_cons_of_mem _ (List.mem_cons_of_mem _ (List.mem_cons_of_mem _ List.mem_cons_self)))))))
  have e8 : ((-1) : Int) + (1 * (zk_xe w 2000072 a10) + 0) = 0 := he _ (List.mem_cons_of_mem _ (List.mem_cons_of_mem _ (List.mem_cons_of_mem _ (List.mem_cons_of_mem _ (List.mem_cons_of_mem _ (List.mem_cons_of_mem _ (List.mem_cons_of_mem _ (List.mem_cons_of_mem _ List.mem_cons_self))))))))
  have e9 : ((-4294967297) : Int) + ((-18446744073709551616) * a1 + (1 * a10 + ((-1) * (zk_xe w 209 a8) + 0))) = 0 := he _ (List.mem_cons_of_mem _ (List.mem_cons_of_mem _ (List.mem_cons_of_mem _ (List.mem_cons_of_mem _ (List.mem_cons_of_mem _ (List.mem_cons_of_mem _ (List.mem_cons_of_mem _ (List.mem_cons_of_mem _ (List.mem_cons_of_mem _ List.mem_cons_self)))))))))
  have g0 : 0 ≤ (0 : Int) + (1 * a1 + 0) := hg _ List.mem_cons_self
  have g1 : 0 ≤ (4294967294 : Int) + ((-1) * a1 + 0) := hg _ (List.mem_cons_of_mem _ List.mem_cons_self)
  have g2 : 0 ≤ (0 : Int) + (1 * a2 + 0) := hg _ (List.mem_cons_of_mem _ (List.mem_cons_of_mem _ List.mem_cons_self))
  have g3 : 0 ≤ (4294967294 : Int) + ((-1) * a2 + 0) := hg _ (List.mem_cons_of_mem _ (List.mem_cons_of_mem _ (List.mem_cons_of_mem _ List.mem_cons_self)))
  have g4 : 0 ≤ (0 : Int) + (1 * a3 + 0) := hg _ (List.mem_cons_of_mem _ (List.mem_cons_of_mem _ (List.mem_cons_of_mem _ (List.mem_cons_of_mem _ List.mem_cons_self))))
  have g5 : 0 ≤ (4294967294 : Int) + ((-1) * a3 + 0) := hg _ (List.mem_cons_of_mem _ (List.mem_cons_of_mem _ (List.mem_cons_of_mem _ (List.mem_cons_of_mem _ (List.mem_cons_of_mem _ List.mem_cons_self)))))
  have g6 : 0 ≤ (0 : Int) + (1 * a4 + 0) := hg _ (List.mem_cons_of_mem _ (List.mem_cons_of_mem _ (List.mem_cons_of_mem _ (List.mem_cons_of_mem _ (List.mem_cons_of_mem _ (List.mem_cons_of_mem _ List.mem_cons_self))))))
  have g7 : 0 ≤ (4294967294 : Int) + ((-1) * a4 + 0) := hg _ (List.mem_cons_of_mem _ (List.mem_cons_of_mem _ (List.mem_cons_of_mem _ (List.mem_cons_of_mem _ (List.mem_cons_of_mem _ (List.mem_cons_of_mem _ (List.mem_cons_of_mem _ List.mem_cons_self)))))))
  have g8 : 0 ≤ (0 : Int) + (1 * a5 + 0) := hg _ (List.mem_cons_of_mem _ (List.mem_cons_of_mem _ (List.mem_cons_of_mem _ (List.mem_cons_of_mem _ (List.mem_cons_of_mem _ (List.mem_cons_of_mem _ (List.mem_cons_of_mem _ (List.mem_cons_of_mem _ List.mem_cons_self))))))))
  have g9 : 0 ≤ (4294967294 : Int) + ((-1) * a5 + 0) := hg _ (List.mem_cons_of_mem _ (List.mem_cons_of_mem _ (List.mem_cons_of_mem _ (List.mem_cons_of_mem _ (List.mem_cons_of_mem _ (List.mem_cons_of_mem _ (List.mem_cons_of_mem _ (List.mem_cons_of_mem _ (List.mem_cons_of_mem _ List.mem_cons_self)))))))))
  have g10 : 0 ≤ (0 : Int) + (1 * a6 + 0) := hg _ (List.mem_cons_of_mem _ (List.mem_cons_of_mem _ (List.mem_cons_of_mem _ (List.mem_cons_of_mem _ (List.mem_cons_of_mem _ (List.mem_cons_of_mem _ (List.mem_cons_of_mem _ (List.mem_cons_of_mem _ (List.mem_cons_of_mem _ (List.mem_cons_of_mem _ List.mem_cons_self))))))))))
  have g11 : 0 ≤ (4294967294 : Int) + ((-1) * a6 + 0) := hg _ (List.mem_cons_of_mem _ (List.mem_cons_of_mem _ (List.mem_cons_of_mem _ (List.mem_cons_of_mem _ (List.mem_cons_of_mem _ (List.mem_cons_of_mem _ (List.mem_cons_of_mem _ (List.mem_cons_of_mem _ (List.mem_cons_of_mem _ (List.mem_cons_of_mem _ (List.mem_cons_of_mem _ List.mem_cons_self)))))))))))
  have g12 : 0 ≤ (0 : Int) + (1 * (zk_xe w 207 a7) + 0) := hg _ (List.mem_cons_of_mem _ (List.mem_cons_of_mem _ (List.mem_cons_of_mem _ (List.mem_cons_of_mem _ (List.mem_cons_of_mem _ (List.mem_cons_of_mem _ (List.mem_cons_of_mem _ (List.mem_cons_of_mem _ (List.mem_cons_of_mem _ (List.mem_cons_of_mem _ (List.mem_cons_of_mem _ (List.mem_cons_of_mem _ List.mem_cons_self))))))))))))
  have g13 : 0 ≤ ((-11) : Int) + (1 * (zk_xe w 208 a8) + 0) := hg _ (List.mem_cons_of_mem _ (List.mem_cons_of_mem _ (List.mem_cons_of_mem _ (List.mem_cons_of_mem _ (List.mem_cons_of_mem _ (List.mem_cons_of_mem _ (List.mem_cons_of_mem _ (List.mem_cons_of_mem _ (List.mem_cons_of_mem _ (List.mem_cons_of_mem _ (List.mem_cons_of_mem _ (List.mem_cons_of_mem _ (List.mem_cons_of_mem _ List.mem_cons_self)))))))))))))
  have g14 : 0 ≤ (11 : Int) + ((-1) * (zk_xe w 208 a8) + 0) := hg _ (List.mem_cons_of_mem _ (List.mem_cons_of_mem _ (List.mem_cons_of_mem _ (List.mem_cons_of_mem _ (List.mem_cons_of_mem _ (List.mem_cons_of_mem _ (List.mem_cons_of_mem _ (List.mem_cons_of_mem _ (List.mem_cons_of_mem _ (List.mem_cons_of_mem _ (List.mem_cons_of_mem _ (List.mem_cons_of_mem _ (List.mem_cons_of_mem _ (List.mem_cons_of_mem _ List.mem_cons_self))))))))))))))
  have g15 : 0 ≤ (1 : Int) + (1 * (zk_xe w 209 a8) + 0) := hg _ (List.mem_cons_of_mem _ (List.mem_cons_of_mem _ (List.mem_cons_of_mem _ (List.mem_cons_of_mem _ (List.mem_cons_of_mem _ (List.mem_cons_of_mem _ (List.mem_cons_of_mem _ (List.mem_cons_of_mem _ (List.mem_cons_of_mem _ (List.mem_cons_of_mem _ (List.mem_cons_of_mem _ (List.mem_cons_of_mem _ (List.mem_cons_of_mem _ (List.mem_cons_of_mem _ (List.mem_cons_of_mem _ List.mem_cons_self)))))))))))))))
  have g16 : 0 ≤ (100000 : Int) + ((-1) * (zk_xe w 209 a8) + 0) := hg _ (List.mem_cons_of_mem _ (List.mem_cons_of_mem _ (List.mem_cons_of_mem _ (List.mem_cons_of_mem _ (List.mem_cons_of_mem _ (List.mem_cons_of_mem _ (List.mem_cons_of_mem _ (List.mem_cons_of_mem _ (List.mem_cons_of_mem _ (List.mem_cons_of_mem _ (List.mem_cons_of_mem _ (List.mem_cons_of_mem _ (List.mem_cons_of_mem _ (List.mem_cons_of_mem _ (List.mem_cons_of_mem _ (List.mem_cons_of_mem _ List.mem_cons_self))))))))))))))))
  have e9z : a9 = 0 := by omega
  have ej : j = a2 := by omega
  subst ej
  have hn : zh_e w 207 (j) = zk_xe w 207 a7 := by rw [zk_xe_r (i := 207) (by decide)]; show zk_el w 207 (j) = zk_el w 207 a7; rw [show j = a7 by omega]
  have k0 : zh_e w 208 (8000 * j + zk_xe w 207 a7) = zk_xe w 208 a8 := by rw [zk_xe_r (i := 208) (by decide)]; show zk_el w 208 (8000 * j + zk_xe w 207 a7) = zk_el w 208 a8; rw [show 8000 * j + zk_xe w 207 a7 = a8 by omega]
  have k1 : zh_e w 209 (8000 * j + zk_xe w 207 a7) = zk_xe w 209 a8 := by rw [zk_xe_r (i := 209) (by decide)]; show zk_el w 209 (8000 * j + zk_xe w 207 a7) = zk_el w 209 a8; rw [show 8000 * j + zk_xe w 207 a7 = a8 by omega]
  have k2 : zh_e w 210 (8000 * j + zk_xe w 207 a7) = zk_xe w 210 a8 := by rw [zk_xe_r (i := 210) (by decide)]; show zk_el w 210 (8000 * j + zk_xe w 207 a7) = zk_el w 210 a8; rw [show 8000 * j + zk_xe w 207 a7 = a8 by omega]
  have k3 : zh_e w 211 (8000 * j + zk_xe w 207 a7) = zk_xe w 211 a8 := by rw [zk_xe_r (i := 211) (by decide)]; show zk_el w 211 (8000 * j + zk_xe w 207 a7) = zk_el w 211 a8; rw [show 8000 * j + zk_xe w 207 a7 = a8 by omega]
  have k4 : zh_e w 212 (8000 * j + zk_xe w 207 a7) = zk_xe w 212 a8 := by rw [zk_xe_r (i := 212) (by decide)]; show zk_el w 212 (8000 * j + zk_xe w 207 a7) = zk_el w 212 a8; rw [show 8000 * j + zk_xe w 207 a7 = a8 by omega]
  have hu := (zs_72 (w := w) (j := a10) (a := (zk_xe w 209 a8 + 1)) (k := 1) (n := a1) (by omega) (by omega) (by omega) (by omega) (by omega) (by omega) (by omega) ).mp (by omega)
  rw [show zk_xe w 209 a8 + 1 - 1 = zk_xe w 209 a8 by omega] at hu
  have hx := zs_71c (w := w) (j := a9)
  have hp := (zs_70 (w := w) (j := a0) (n := a1) (u := j) (c := a3) (z := a4) (m := a5) (l := a6) (by omega) (by omega) (by omega) (by omega) (by omega) (by omega) (by omega) (by omega) (by omega) (by omega) (by omega) (by omega) (by omega) ).mp (by omega)
  have h : zs_ps w' a1 j a3 a4 a5 a6 := by
    unfold zs_ps at hp ⊢
    rw [zh_e_g (hw.1 224 (by decide)), zh_e_g (hw.1 250 (by decide)), zh_e_g (hw.1 240 (by decide)), zh_e_g (hw.1 241 (by decide)), zh_e_g (hw.1 242 (by decide)), zh_e_g (hw.1 253 (by decide)), zh_e_g (hw.1 227 (by decide)), zh_e_g (hw.1 226 (by decide))]
    rcases hp with h | ⟨h1, h2, h3, h4⟩
    · exact Or.inl h
    · rcases hx with ⟨-, hx⟩ | ⟨hx, -⟩
      · exact Or.inl hx
      · refine Or.inr ⟨zs_more hw hn (by omega) (by omega) h1 ?_, h2, h3, h4⟩
        unfold zs_st
        rw [k0, k1, k2, k3, k4]
        refine ⟨fun q1 q2 => by omega, fun q => Or.inl ⟨by omega, hu⟩, fun q => by omega, fun q => by omega, fun q => by omega, fun q => by omega, fun q => by omega, fun q => by omega⟩
  exact (zx_eF1 (by show 0 ≤ (0 : Int) + (1 * a0 + 0); omega) (by show zk_xe w' 2000070 ((0 : Int) + (1 * a0 + 0)) = (1 : Int) + (0); rw [show (0 : Int) + (1 * a0 + 0) = a0 by omega]; exact ((zs_70 (w := w') (j := a0) (n := a1) (u := j) (c := a3) (z := a4) (m := a5) (l := a6) (by omega) (by omega) (by omega) (by omega) (by omega) (by omega) (by omega) (by omega) (by omega) (by omega) (by omega) (by omega) (by omega) ).mpr h).trans (by omega)) zx_eF0)
def zx_E559 : zx_V := zx_Vc 207 [] 11 [(2000070, 0), (207, 7), (208, 8), (209, 8), (210, 8), (211, 8), (212, 8), (2000071, 9), (2000072, 10)] [((0, 0), [(2, 1, 0), (3, 0, 1), (4, 0, 4294967296), (5, 0, 18446744073709551616), (6, 0, 79228162514264337593543950336), (7, 0, 340282366920938463463374607431768211456), (8, 0, 1461501637330902918203684832716283019655932542976)]), ((0, 1), [(13, 1, 0)]), ((0, 0), [(4, 0, 1), (9, 1, 0)]), ((0, 0), [(4, 0, 8000), (10, 1, 0), (14, 0, 1)]), ((0, 0), [(11, 1, 0)]), ((0, 1), [(1, 1, 0), (14, 0, 1)]), ((0, 0), [(0, 1, 0), (4, 0, 1)]), ((1, 0), [(17, 1, 0)]), ((0, 1), [(21, 1, 0)]), ((0, 8589934593), [(3, 0, 18446744073709551616), (12, 1, 0), (16, 0, 1)])] [((0, 0), [(3, 1, 0)]), ((4294967294, 0), [(3, 0, 1)]), ((0, 0), [(4, 1, 0)]), ((4294967294, 0), [(4, 0, 1)]), ((0, 0), [(5, 1, 0)]), ((4294967294, 0), [(5, 0, 1)]), ((0, 0), [(6, 1, 0)]), ((4294967294, 0), [(6, 0, 1)]), ((0, 0), [(7, 1, 0)]), ((4294967294, 0), [(7, 0, 1)]), ((0, 0), [(8, 1, 0)]), ((4294967294, 0), [(8, 0, 1)]), ((0, 0), [(14, 1, 0)]), ((0, 6), [(15, 1, 0)]), ((6, 0), [(15, 0, 1)]), ((0, 0), [(18, 1, 0), (20, 8589934592, 0)]), ((7, 0), [(18, 0, 1), (20, 8589934592, 0)]), ((1, 0), [(16, 1, 0)]), ((100000, 0), [(16, 0, 1)])] [(2000070, ((0, 0), [(2, 1, 0)]), ((1, 0), []))]
theorem zx_E559_ok {PT : Nat → zz_W → Prop} : zx_Vok 64 zHT PT zx_E559 := by
  refine zx_Vc_ok (fun w w' j ins hI hI' h0 hw hK hl he hg => ?_)
  obtain ⟨a0, a1, a2, a3, a4, a5, a6, a7, a8, a9, a10, rfl⟩ := zx_i11 hl
  have e0 : (0 : Int) + (1 * a0 + ((-1) * a1 + ((-4294967296) * a2 + ((-18446744073709551616) * a3 + ((-79228162514264337593543950336) * a4 + ((-340282366920938463463374607431768211456) * a5 + ((-1461501637330902918203684832716283019655932542976) * a6 + 0))))))) = 0 := he _ List.mem_cons_self
  have e1 : ((-1) : Int) + (1 * (zk_xe w 2000070 a0) + 0) = 0 := he _ (List.mem_cons_of_mem _ List.mem_cons_self)
  have e2 : (0 : Int) + ((-1) * a2 + (1 * a7 + 0)) = 0 := he _ (List.mem_cons_of_mem _ (List.mem_cons_of_mem _ List.mem_cons_self))
  have e3 : (0 : Int) + ((-8000) * a2 + (1 * a8 + ((-1) * (zk_xe w 207 a7) + 0))) = 0 := he _ (List.mem_cons_of_mem _ (List.mem_cons_of_mem _ (List.mem_cons_of_mem _ List.mem_cons_self)))
  have e4 : (0 : Int) + (1 * a9 + 0) = 0 := he _ (List.mem_cons_of_mem _ (List.mem_cons_of_mem _ (List.mem_cons_of_mem _ (List.mem_cons_of_mem _ List.mem_cons_self))))
  have e5 : ((-1) : Int) + (1 * (zk_el w' 207 j) + ((-1) * (zk_xe w 207 a7) + 0)) = 0 := he _ (List.mem_cons_of_mem _ (List.mem_cons_of_mem _ (List.mem_cons_of_mem _ (List.mem_cons_of_mem _ (List.mem_cons_of_mem _ List.mem_cons_self)))))
  have e6 : (0 : Int) + (1 * j + ((-1) * a2 + 0)) = 0 := he _ (List.mem_cons_of_mem _ (List.mem_cons_of_mem _ (List.mem_cons_of_mem _ (List.mem_cons_of_mem _ (List.mem_cons_of_mem _ (List.mem_cons_of_mem _ List.mem_cons_self))))))
  have e7 : (1 : Int) + (1 * (zk_xe w 210 a8) + 0) = 0 := he _ (List.mem_cons_of_mem _ (List.mem_cons_of_mem _ (List.mem_cons_of_mem _ (List.mem_cons_of_mem _ (List.mem_cons_of_mem _ (List.mem_cons_of_mem _ (List.mem_cons_of_mem _ List.mem_cons_self)))))))
  have e8 : ((-1) : Int) + (1 * (zk_xe w 2000072 a10) + 0) = 0 := he _ (List.mem_cons_of_mem _ (List.mem_cons_of_mem _ (List.mem_cons_of_mem _ (List.mem_cons_of_mem _ (List.mem_cons_of_mem _ (List.mem_cons_of_mem _ (List.mem_cons_of_mem _ (List.mem_cons_of_mem _ List.mem_cons_self))))))))
  have e9 : ((-8589934593) : Int) + ((-18446744073709551616) * a1 + (1 * a10 + ((-1) * (zk_xe w 209 a8) + 0))) = 0 := he _ (List.mem_cons_of_mem _ (List.mem_cons_of_mem _ (List.mem_cons_of_mem _ (List.mem_cons_of_mem _ (List.mem_cons_of_mem _ (List.mem_cons_of_mem _ (List.mem_cons_of_mem _ (List.mem_cons_of_mem _ (List.mem_cons_of_mem _ List.mem_cons_self)))))))))
  have g0 : 0 ≤ (0 : Int) + (1 * a1 + 0) := hg _ List.mem_cons_self
  have g1 : 0 ≤ (4294967294 : Int) + ((-1) * a1 + 0) := hg _ (List.mem_cons_of_mem _ List.mem_cons_self)
  have g2 : 0 ≤ (0 : Int) + (1 * a2 + 0) := hg _ (List.mem_cons_of_mem _ (List.mem_cons_of_mem _ List.mem_cons_self))
  have g3 : 0 ≤ (4294967294 : Int) + ((-1) * a2 + 0) := hg _ (List.mem_cons_of_mem _ (List.mem_cons_of_mem _ (List.mem_cons_of_mem _ List.mem_cons_self)))
  have g4 : 0 ≤ (0 : Int) + (1 * a3 + 0) := hg _ (List.mem_cons_of_mem _ (List.mem_cons_of_mem _ (List.mem_cons_of_mem _ (List.mem_cons_of_mem _ List.mem_cons_self))))
  have g5 : 0 ≤ (4294967294 : Int) + ((-1) * a3 + 0) := hg _ (List.mem_cons_of_mem _ (List.mem_cons_of_mem _ (List.mem_cons_of_mem _ (List.mem_cons_of_mem _ (List.mem_cons_of_mem _ List.mem_cons_self)))))
  have g6 : 0 ≤ (0 : Int) + (1 * a4 + 0) := hg _ (List.mem_cons_of_mem _ (List.mem_cons_of_mem _ (List.mem_cons_of_mem _ (List.mem_cons_of_mem _ (List.mem_cons_of_mem _ (List.mem_cons_of_mem _ List.mem_cons_self))))))
  have g7 : 0 ≤ (4294967294 : Int) + ((-1) * a4 + 0) := hg _ (List.mem_cons_of_mem _ (List.mem_cons_of_mem _ (List.mem_cons_of_mem _ (List.mem_cons_of_mem _ (List.mem_cons_of_mem _ (List.mem_cons_of_mem _ (List.mem_cons_of_mem _ List.mem_cons_self)))))))
  have g8 : 0 ≤ (0 : Int) + (1 * a5 + 0) := hg _ (List.mem_cons_of_mem _ (List.mem_cons_of_mem _ (List.mem_cons_of_mem _ (List.mem_cons_of_mem _ (List.mem_cons_of_mem _ (List.mem_cons_of_mem _ (List.mem_cons_of_mem _ (List.mem_cons_of_mem _ List.mem_cons_self))))))))
  have g9 : 0 ≤ (4294967294 : Int) + ((-1) * a5 + 0) := hg _ (List.mem_cons_of_mem _ (List.mem_cons_of_mem _ (List.mem_cons_of_mem _ (List.mem_cons_of_mem _ (List.mem_cons_of_mem _ (List.mem_cons_of_mem _ (List.mem_cons_of_mem _ (List.mem_cons_of_mem _ (List.mem_cons_of_mem _ List.mem_cons_self)))))))))
  have g10 : 0 ≤ (0 : Int) + (1 * a6 + 0) := hg _ (List.mem_cons_of_mem _ (List.mem_cons_of_mem _ (List.mem_cons_of_mem _ (List.mem_cons_of_mem _ (List.mem_cons_of_mem _ (List.mem_cons_of_mem _ (List.mem_cons_of_mem _ (List.mem_cons_of_mem _ (List.mem_cons_of_mem _ (List.mem_cons_of_mem _ List.mem_cons_self))))))))))
  have g11 : 0 ≤ (4294967294 : Int) + ((-1) * a6 + 0) := hg _ (List.mem_cons_of_mem _ (List.mem_cons_of_mem _ (List.mem_cons_of_mem _ (List.mem_cons_of_mem _ (List.mem_cons_of_mem _ (List.mem_cons_of_mem _ (List.mem_cons_of_mem _ (List.mem_cons_of_mem _ (List.mem_cons_of_mem _ (List.mem_cons_of_mem _ (List.mem_cons_of_mem _ List.mem_cons_self)))))))))))
  have g12 : 0 ≤ (0 : Int) + (1 * (zk_xe w 207 a7) + 0) := hg _ (List.mem_cons_of_mem _ (List.mem_cons_of_mem _ (List.mem_cons_of_mem _ (List.mem_cons_of_mem _ (List.mem_cons_of_mem _ (List.mem_cons_of_mem _ (List.mem_cons_of_mem _ (List.mem_cons_of_mem _ (List.mem_cons_of_mem _ (List.mem_cons_of_mem _ (List.mem_cons_of_mem _ (List.mem_cons_of_mem _ List.mem_cons_self))))))))))))
  have g13 : 0 ≤ ((-6) : Int) + (1 * (zk_xe w 208 a8) + 0) := hg _ (List.mem_cons_of_mem _ (List.mem_cons_of_mem _ (List.mem_cons_of_mem _ (List.mem_cons_of_mem _ (List.mem_cons_of_mem _ (List.mem_cons_of_mem _ (List.mem_cons_of_mem _ (List.mem_cons_of_mem _ (List.mem_cons_of_mem _ (List.mem_cons_of_mem _ (List.mem_cons_of_mem _ (List.mem_cons_of_mem _ (List.mem_cons_of_mem _ List.mem_cons_self)))))))))))))
  have g14 : 0 ≤ (6 : Int) + ((-1) * (zk_xe w 208 a8) + 0) := hg _ (List.mem_cons_of_mem _ (List.mem_cons_of_mem _ (List.mem_cons_of_mem _ (List.mem_cons_of_mem _ (List.mem_cons_of_mem _ (List.mem_cons_of_mem _ (List.mem_cons_of_mem _ (List.mem_cons_of_mem _ (List.mem_cons_of_mem _ (List.mem_cons_of_mem _ (List.mem_cons_of_mem _ (List.mem_cons_of_mem _ (List.mem_cons_of_mem _ (List.mem_cons_of_mem _ List.mem_cons_self))))))))))))))
  have g15 : 0 ≤ (0 : Int) + (1 * (zk_xe w 211 a8) + (8589934592 * (zk_xe w 2000071 a9) + 0)) := hg _ (List.mem_cons_of_mem _ (List.mem_cons_of_mem _ (List.mem_cons_of_mem _ (List.mem_cons_of_mem _ (List.mem_cons_of_mem _ (List.mem_cons_of_mem _ (List.mem_cons_of_mem _ (List.mem_cons_of_mem _ (List.mem_cons_of_mem _ (List.mem_cons_of_mem _ (List.mem_cons_of_mem _ (List.mem_cons_of_mem _ (List.mem_cons_of_mem _ (List.mem_cons_of_mem _ (List.mem_cons_of_mem _ List.mem_cons_self)))))))))))))))
  have g16 : 0 ≤ (7 : Int) + ((-1) * (zk_xe w 211 a8) + (8589934592 * (zk_xe w 2000071 a9) + 0)) := hg _ (List.mem_cons_of_mem _ (List.mem_cons_of_mem _ (List.mem_cons_of_mem _ (List.mem_cons_of_mem _ (List.mem_cons_of_mem _ (List.mem_cons_of_mem _ (List.mem_cons_of_mem _ (List.mem_cons_of_mem _ (List.mem_cons_of_mem _ (List.mem_cons_of_mem _ (List.mem_cons_of_mem _ (List.mem_cons_of_mem _ (List.mem_cons_of_mem _ (List.mem_cons_of_mem _ (List.mem_cons_of_mem _ (List.mem_cons_of_mem _ List.mem_cons_self))))))))))))))))
  have g17 : 0 ≤ (1 : Int) + (1 * (zk_xe w 209 a8) + 0) := hg _ (List.mem_cons_of_mem _ (List.mem_cons_of_mem _ (List.mem_cons_of_mem _ (List.mem_cons_of_mem _ (List.mem_cons_of_mem _ (List.mem_cons_of_mem _ (List.mem_cons_of_mem _ (List.mem_cons_of_mem _ (List.mem_cons_of_mem _ (List.mem_cons_of_mem _ (List.mem_cons_of_mem _ (List.mem_cons_of_mem _ (List.mem_cons_of_mem _ (List.mem_cons_of_mem _ (List.mem_cons_of_mem _ (List.mem_cons_of_mem _ (List.mem_cons_of_mem _ List.mem_cons_self)))))))))))))))))
  have g18 : 0 ≤ (100000 : Int) + ((-1) * (zk_xe w 209 a8) + 0) := hg _ (List.mem_cons_of_mem _ (List.mem_cons_of_mem _ (List.mem_cons_of_mem _ (List.mem_cons_of_mem _ (List.mem_cons_of_mem _ (List.mem_cons_of_mem _ (List.mem_cons_of_mem _ (List.mem_cons_of_mem _ (List.mem_cons_of_mem _ (List.mem_cons_of_mem _ (List.mem_cons_of_mem _ (List.mem_cons_of_mem _ (List.mem_cons_of_mem _ (List.mem_cons_of_mem _ (List.mem_cons_of_mem _ (List.mem_cons_of_mem _ (List.mem_cons_of_mem _ (List.mem_cons_of_mem _ List.mem_cons_self))))))))))))))))))
  have e9z : a9 = 0 := by omega
  have ej : j = a2 := by omega
  subst ej
  have hn : zh_e w 207 (j) = zk_xe w 207 a7 := by rw [zk_xe_r (i := 207) (by decide)]; show zk_el w 207 (j) = zk_el w 207 a7; rw [show j = a7 by omega]
  have k0 : zh_e w 208 (8000 * j + zk_xe w 207 a7) = zk_xe w 208 a8 := by rw [zk_xe_r (i := 208) (by decide)]; show zk_el w 208 (8000 * j + zk_xe w 207 a7) = zk_el w 208 a8; rw [show 8000 * j + zk_xe w 207 a7 = a8 by omega]
  have k1 : zh_e w 209 (8000 * j + zk_xe w 207 a7) = zk_xe w 209 a8 := by rw [zk_xe_r (i := 209) (by decide)]; show zk_el w 209 (8000 * j + zk_xe w 207 a7) = zk_el w 209 a8; rw [show 8000 * j + zk_xe w 207 a7 = a8 by omega]
  have k2 : zh_e w 210 (8000 * j + zk_xe w 207 a7) = zk_xe w 210 a8 := by rw [zk_xe_r (i := 210) (by decide)]; show zk_el w 210 (8000 * j + zk_xe w 207 a7) = zk_el w 210 a8; rw [show 8000 * j + zk_xe w 207 a7 = a8 by omega]
  have k3 : zh_e w 211 (8000 * j + zk_xe w 207 a7) = zk_xe w 211 a8 := by rw [zk_xe_r (i := 211) (by decide)]; show zk_el w 211 (8000 * j + zk_xe w 207 a7) = zk_el w 211 a8; rw [show 8000 * j + zk_xe w 207 a7 = a8 by omega]
  have k4 : zh_e w 212 (8000 * j + zk_xe w 207 a7) = zk_xe w 212 a8 := by rw [zk_xe_r (i := 212) (by decide)]; show zk_el w 212 (8000 * j + zk_xe w 207 a7) = zk_el w 212 a8; rw [show 8000 * j + zk_xe w 207 a7 = a8 by omega]
  have hu := (zs_72 (w := w) (j := a10) (a := (zk_xe w 209 a8 + 1)) (k := 2) (n := a1) (by omega) (by omega) (by omega) (by omega) (by omega) (by omega) (by omega) ).mp (by omega)
  rw [show zk_xe w 209 a8 + 1 - 1 = zk_xe w 209 a8 by omega] at hu
  have hx := zs_71c (w := w) (j := a9)
  have hp := (zs_70 (w := w) (j := a0) (n := a1) (u := j) (c := a3) (z := a4) (m := a5) (l := a6) (by omega) (by omega) (by omega) (by omega) (by omega) (by omega) (by omega) (by omega) (by omega) (by omega) (by omega) (by omega) (by omega) ).mp (by omega)
  have h : zs_ps w' a1 j a3 a4 a5 a6 := by
    unfold zs_ps at hp ⊢
    rw [zh_e_g (hw.1 224 (by decide)), zh_e_g (hw.1 250 (by decide)), zh_e_g (hw.1 240 (by decide)), zh_e_g (hw.1 241 (by decide)), zh_e_g (hw.1 242 (by decide)), zh_e_g (hw.1 253 (by decide)), zh_e_g (hw.1 227 (by decide)), zh_e_g (hw.1 226 (by decide))]
    rcases hp with h | ⟨h1, h2, h3, h4⟩
    · exact Or.inl h
    · rcases hx with ⟨-, hx⟩ | ⟨hx, -⟩
      · exact Or.inl hx
      · refine Or.inr ⟨zs_more hw hn (by omega) (by omega) h1 ?_, h2, h3, h4⟩
        unfold zs_st
        rw [k0, k1, k2, k3, k4]
        refine ⟨fun q1 q2 => ⟨by omega, by omega⟩, fun q => by omega, fun q => Or.inl ⟨by omega, hu⟩, fun q => by omega, fun q => by omega, fun q => by omega, fun q => by omega, fun q => by omega⟩
  exact (zx_eF1 (by show 0 ≤ (0 : Int) + (1 * a0 + 0); omega) (by show zk_xe w' 2000070 ((0 : Int) + (1 * a0 + 0)) = (1 : Int) + (0); rw [show (0 : Int) + (1 * a0 + 0) = a0 by omega]; exact ((zs_70 (w := w') (j := a0) (n := a1) (u := j) (c := a3) (z := a4) (m := a5) (l := a6) (by omega) (by omega) (by omega) (by omega) (by omega) (by omega) (by omega) (by omega) (by omega) (by omega) (by omega) (by omega) (by omega) ).mpr h).trans (by omega)) zx_eF0)
def zx_E558 : zx_V := zx_Vc 207 [] 10 [(2000070, 0), (207, 7), (208, 8), (209, 8), (210, 8), (211, 8), (212, 8), (2000071, 9)] [((0, 0), [(2, 1, 0), (3, 0, 1), (4, 0, 4294967296), (5, 0, 18446744073709551616), (6, 0, 79228162514264337593543950336), (7, 0, 340282366920938463463374607431768211456), (8, 0, 1461501637330902918203684832716283019655932542976)]), ((0, 1), [(12, 1, 0)]), ((0, 0), [(4, 0, 1), (9, 1, 0)]), ((0, 0), [(4, 0, 8000), (10, 1, 0), (13, 0, 1)]), ((0, 0), [(11, 1, 0)]), ((0, 1), [(1, 1, 0), (13, 0, 1)]), ((0, 0), [(0, 1, 0), (4, 0, 1)])] [((0, 0), [(3, 1, 0)]), ((4294967294, 0), [(3, 0, 1)]), ((0, 0), [(4, 1, 0)]), ((4294967294, 0), [(4, 0, 1)]), ((0, 0), [(5, 1, 0)]), ((4294967294, 0), [(5, 0, 1)]), ((0, 0), [(6, 1, 0)]), ((4294967294, 0), [(6, 0, 1)]), ((0, 0), [(7, 1, 0)]), ((4294967294, 0), [(7, 0, 1)]), ((0, 0), [(8, 1, 0)]), ((4294967294, 0), [(8, 0, 1)]), ((0, 0), [(13, 1, 0)]), ((0, 6), [(14, 1, 0)]), ((6, 0), [(14, 0, 1)]), ((0, 0), [(17, 1, 0), (19, 8589934592, 0)]), ((7, 0), [(17, 0, 1), (19, 8589934592, 0)]), ((0, 0), [(16, 1, 0), (19, 8589934592, 0)]), ((0, 1), [(18, 1, 0), (19, 8589934592, 0)]), ((1620, 0), [(16, 0, 1), (18, 0, 4), (19, 8589934592, 0)])] [(2000070, ((0, 0), [(2, 1, 0)]), ((1, 0), []))]
theorem zx_E558_ok {PT : Nat → zz_W → Prop} : zx_Vok 64 zHT PT zx_E558 := by
  refine zx_Vc_ok (fun w w' j ins hI hI' h0 hw hK hl he hg => ?_)
  obtain ⟨a0, a1, a2, a3, a4, a5, a6, a7, a8, a9, rfl⟩ := zx_i10 hl
  have e0 : (0 : Int) + (1 * a0 + ((-1) * a1 + ((-4294967296) * a2 + ((-18446744073709551616) * a3 + ((-79228162514264337593543950336) * a4 + ((-340282366920938463463374607431768211456) * a5 + ((-1461501637330902918203684832716283019655932542976) * a6 + 0))))))) = 0 := he _ List.mem_cons_self
  have e1 : ((-1) : Int) + (1 * (zk_xe w 2000070 a0) + 0) = 0 := he _ (List.mem_cons_of_mem _ List.mem_cons_self)
  have e2 : (0 : Int) + ((-1) * a2 + (1 * a7 + 0)) = 0 := he _ (List.mem_cons_of_mem _ (List.mem_cons_of_mem _ List.mem_cons_self))
  have e3 : (0 : Int) + ((-8000) * a2 + (1 * a8 + ((-1) * (zk_xe w 207 a7) + 0))) = 0 := he _ (List.mem_cons_of_mem _ (List.mem_cons_of_mem _ (List.mem_cons_of_mem _ List.mem_cons_self)))
  have e4 : (0 : Int) + (1 * a9 + 0) = 0 := he _ (List.mem_cons_of_mem _ (List.mem_cons_of_mem _ (List.mem_cons_of_mem _ (List.mem_cons_of_mem _ List.mem_cons_self))))
  have e5 : ((-1) : Int) + (1 * (zk_el w' 207 j) + ((-1) * (zk_xe w 207 a7) + 0)) = 0 := he _ (List.mem_cons_of_mem _ (List.mem_cons_of_mem _ (List.mem_cons_of_mem _ (List.mem_cons_of_mem _ (List.mem_cons_of_mem _ List.mem_cons_self)))))
  have e6 : (0 : Int) + (1 * j + ((-1) * a2 + 0)) = 0 := he _ (List.mem_cons_of_mem _ (List.mem_cons_of_mem _ (List.mem_cons_of_mem _ (List.mem_cons_of_mem _ (List.mem_cons_of_mem _ (List.mem_cons_of_mem _ List.mem_cons_self))))))
  have g0 : 0 ≤ (0 : Int) + (1 * a1 + 0) := hg _ List.mem_cons_self
  have g1 : 0 ≤ (4294967294 : Int) + ((-1) * a1 + 0) := hg _ (List.mem_cons_of_mem _ List.mem_cons_self)
  have g2 : 0 ≤ (0 : Int) + (1 * a2 + 0) := hg _ (List.mem_cons_of_mem _ (List.mem_cons_of_mem _ List.mem_cons_self))
  have g3 : 0 ≤ (4294967294 : Int) + ((-1) * a2 + 0) := hg _ (List.mem_cons_of_mem _ (List.mem_cons_of_mem _ (List.mem_cons_of_mem _ List.mem_cons_self)))
  have g4 : 0 ≤ (0 : Int) + (1 * a3 + 0) := hg _ (List.mem_cons_of_mem _ (List.mem_cons_of_mem _ (List.mem_cons_of_mem _ (List.mem_cons_of_mem _ List.mem_cons_self))))
  have g5 : 0 ≤ (4294967294 : Int) + ((-1) * a3 + 0) := hg _ (List.mem_cons_of_mem _ (List.mem_cons_of_mem _ (List.mem_cons_of_mem _ (List.mem_cons_of_mem _ (List.mem_cons_of_mem _ List.mem_cons_self)))))
  have g6 : 0 ≤ (0 : Int) + (1 * a4 + 0) := hg _ (List.mem_cons_of_mem _ (List.mem_cons_of_mem _ (List.mem_cons_of_mem _ (List.mem_cons_of_mem _ (List.mem_cons_of_mem _ (List.mem_cons_of_mem _ List.mem_cons_self))))))
  have g7 : 0 ≤ (4294967294 : Int) + ((-1) * a4 + 0) := hg _ (List.mem_cons_of_mem _ (List.mem_cons_of_mem _ (List.mem_cons_of_mem _ (List.mem_cons_of_mem _ (List.mem_cons_of_mem _ (List.mem_cons_of_mem _ (List.mem_cons_of_mem _ List.mem_cons_self)))))))
  have g8 : 0 ≤ (0 : Int) + (1 * a5 + 0) := hg _ (List.mem_cons_of_mem _ (List.mem_cons_of_mem _ (List.mem_cons_of_mem _ (List.mem_cons_of_mem _ (List.mem_cons_of_mem _ (List.mem_cons_of_mem _ (List.mem_cons_of_mem _ (List.mem_cons_of_mem _ List.mem_cons_self))))))))
  have g9 : 0 ≤ (4294967294 : Int) + ((-1) * a5 + 0) := hg _ (List.mem_cons_of_mem _ (List.mem_cons_of_mem _ (List.mem_cons_of_mem _ (List.mem_cons_of_mem _ (List.mem_cons_of_mem _ (List.mem_cons_of_mem _ (List.mem_cons_of_mem _ (List.mem_cons_of_mem _ (List.mem_cons_of_mem _ List.mem_cons_self)))))))))
  have g10 : 0 ≤ (0 : Int) + (1 * a6 + 0) := hg _ (List.mem_cons_of_mem _ (List.mem_cons_of_mem _ (List.mem_cons_of_mem _ (List.mem_cons_of_mem _ (List.mem_cons_of_mem _ (List.mem_cons_of_mem _ (List.mem_cons_of_mem _ (List.mem_cons_of_mem _ (List.mem_cons_of_mem _ (List.mem_cons_of_mem _ List.mem_cons_self))))))))))
  have g11 : 0 ≤ (4294967294 : Int) + ((-1) * a6 + 0) := hg _ (List.mem_cons_of_mem _ (List.mem_cons_of_mem _ (List.mem_cons_of_mem _ (List.mem_cons_of_mem _ (List.mem_cons_of_mem _ (List.mem_cons_of_mem _ (List.mem_cons_of_mem _ (List.mem_cons_of_mem _ (List.mem_cons_of_mem _ (List.mem_cons_of_mem _ (List.mem_cons_of_mem _ List.mem_cons_self)))))))))))
  have g12 : 0 ≤ (0 : Int) + (1 * (zk_xe w 207 a7) + 0) := hg _ (List.mem_cons_of_mem _ (List.mem_cons_of_mem _ (List.mem_cons_of_mem _ (List.mem_cons_of_mem _ (List.mem_cons_of_mem _ (List.mem_cons_of_mem _ (List.mem_cons_of_mem _ (List.mem_cons_of_mem _ (List.mem_cons_of_mem _ (List.mem_cons_of_mem _ (List.mem_cons_of_mem _ (List.mem_cons_of_mem _ List.mem_cons_self))))))))))))
  have g13 : 0 ≤ ((-6) : Int) + (1 * (zk_xe w 208 a8) + 0) := hg _ (List.mem_cons_of_mem _ (List.mem_cons_of_mem _ (List.mem_cons_of_mem _ (List.mem_cons_of_mem _ (List.mem_cons_of_mem _ (List.mem_cons_of_mem _ (List.mem_cons_of_mem _ (List.mem_cons_of_mem _ (List.mem_cons_of_mem _ (List.mem_cons_of_mem _ (List.mem_cons_of_mem _ (List.mem_cons_of_mem _ (List.mem_cons_of_mem _ List.mem_cons_self)))))))))))))
  have g14 : 0 ≤ (6 : Int) + ((-1) * (zk_xe w 208 a8) + 0) := hg _ (List.mem_cons_of_mem _ (List.mem_cons_of_mem _ (List.mem_cons_of_mem _ (List.mem_cons_of_mem _ (List.mem_cons_of_mem _ (List.mem_cons_of_mem _ (List.mem_cons_of_mem _ (List.mem_cons_of_mem _ (List.mem_cons_of_mem _ (List.mem_cons_of_mem _ (List.mem_cons_of_mem _ (List.mem_cons_of_mem _ (List.mem_cons_of_mem _ (List.mem_cons_of_mem _ List.mem_cons_self))))))))))))))
  have g15 : 0 ≤ (0 : Int) + (1 * (zk_xe w 211 a8) + (8589934592 * (zk_xe w 2000071 a9) + 0)) := hg _ (List.mem_cons_of_mem _ (List.mem_cons_of_mem _ (List.mem_cons_of_mem _ (List.mem_cons_of_mem _ (List.mem_cons_of_mem _ (List.mem_cons_of_mem _ (List.mem_cons_of_mem _ (List.mem_cons_of_mem _ (List.mem_cons_of_mem _ (List.mem_cons_of_mem _ (List.mem_cons_of_mem _ (List.mem_cons_of_mem _ (List.mem_cons_of_mem _ (List.mem_cons_of_mem _ (List.mem_cons_of_mem _ List.mem_cons_self)))))))))))))))
  have g16 : 0 ≤ (7 : Int) + ((-1) * (zk_xe w 211 a8) + (8589934592 * (zk_xe w 2000071 a9) + 0)) := hg _ (List.mem_cons_of_mem _ (List.mem_cons_of_mem _ (List.mem_cons_of_mem _ (List.mem_cons_of_mem _ (List.mem_cons_of_mem _ (List.mem_cons_of_mem _ (List.mem_cons_of_mem _ (List.mem_cons_of_mem _ (List.mem_cons_of_mem _ (List.mem_cons_of_mem _ (List.mem_cons_of_mem _ (List.mem_cons_of_mem _ (List.mem_cons_of_mem _ (List.mem_cons_of_mem _ (List.mem_cons_of_mem _ (List.mem_cons_of_mem _ List.mem_cons_self))))))))))))))))
  have g17 : 0 ≤ (0 : Int) + (1 * (zk_xe w 210 a8) + (8589934592 * (zk_xe w 2000071 a9) + 0)) := hg _ (List.mem_cons_of_mem _ (List.mem_cons_of_mem _ (List.mem_cons_of_mem _ (List.mem_cons_of_mem _ (List.mem_cons_of_mem _ (List.mem_cons_of_mem _ (List.mem_cons_of_mem _ (List.mem_cons_of_mem _ (List.mem_cons_of_mem _ (List.mem_cons_of_mem _ (List.mem_cons_of_mem _ (List.mem_cons_of_mem _ (List.mem_cons_of_mem _ (List.mem_cons_of_mem _ (List.mem_cons_of_mem _ (List.mem_cons_of_mem _ (List.mem_cons_of_mem _ List.mem_cons_self)))))))))))))))))
  have g18 : 0 ≤ ((-1) : Int) + (1 * (zk_xe w 212 a8) + (8589934592 * (zk_xe w 2000071 a9) + 0)) := hg _ (List.mem_cons_of_mem _ (List.mem_cons_of_mem _ (List.mem_cons_of_mem _ (List.mem_cons_of_mem _ (List.mem_cons_of_mem _ (List.mem_cons_of_mem _ (List.mem_cons_of_mem _ (List.mem_cons_of_mem _ (List.mem_cons_of_mem _ (List.mem_cons_of_mem _ (List.mem_cons_of_mem _ (List.mem_cons_of_mem _ (List.mem_cons_of_mem _ (List.mem_cons_of_mem _ (List.mem_cons_of_mem _ (List.mem_cons_of_mem _ (List.mem_cons_of_mem _ (List.mem_cons_of_mem _ List.mem_cons_self))))))))))))))))))
  have g19 : 0 ≤ (1620 : Int) + ((-1) * (zk_xe w 210 a8) + ((-4) * (zk_xe w 212 a8) + (8589934592 * (zk_xe w 2000071 a9) + 0))) := hg _ (List.mem_cons_of_mem _ (List.mem_cons_of_mem _ (List.mem_cons_of_mem _ (List.mem_cons_of_mem _ (List.mem_cons_of_mem _ (List.mem_cons_of_mem _ (List.mem_cons_of_mem _ (List.mem_cons_of_mem _ (List.mem_cons_of_mem _ (List.mem_cons_of_mem _ (List.mem_cons_of_mem _ (List.mem_cons_of_mem _ (List.mem_cons_of_mem _ (List.mem_cons_of_mem _ (List.mem_cons_of_mem _ (List.mem_cons_of_mem _ (List.mem_cons_of_mem _ (List.mem_cons_of_mem _ (List.mem_cons_of_mem _ List.mem_cons_self)))))))))))))))))))
  have e9z : a9 = 0 := by omega
  have ej : j = a2 := by omega
  subst ej
  have hn : zh_e w 207 (j) = zk_xe w 207 a7 := by rw [zk_xe_r (i := 207) (by decide)]; show zk_el w 207 (j) = zk_el w 207 a7; rw [show j = a7 by omega]
  have k0 : zh_e w 208 (8000 * j + zk_xe w 207 a7) = zk_xe w 208 a8 := by rw [zk_xe_r (i := 208) (by decide)]; show zk_el w 208 (8000 * j + zk_xe w 207 a7) = zk_el w 208 a8; rw [show 8000 * j + zk_xe w 207 a7 = a8 by omega]
  have k1 : zh_e w 209 (8000 * j + zk_xe w 207 a7) = zk_xe w 209 a8 := by rw [zk_xe_r (i := 209) (by decide)]; show zk_el w 209 (8000 * j + zk_xe w 207 a7) = zk_el w 209 a8; rw [show 8000 * j + zk_xe w 207 a7 = a8 by omega]
  have k2 : zh_e w 210 (8000 * j + zk_xe w 207 a7) = zk_xe w 210 a8 := by rw [zk_xe_r (i := 210) (by decide)]; show zk_el w 210 (8000 * j + zk_xe w 207 a7) = zk_el w 210 a8; rw [show 8000 * j + zk_xe w 207 a7 = a8 by omega]
  have k3 : zh_e w 211 (8000 * j + zk_xe w 207 a7) = zk_xe w 211 a8 := by rw [zk_xe_r (i := 211) (by decide)]; show zk_el w 211 (8000 * j + zk_xe w 207 a7) = zk_el w 211 a8; rw [show 8000 * j + zk_xe w 207 a7 = a8 by omega]
  have k4 : zh_e w 212 (8000 * j + zk_xe w 207 a7) = zk_xe w 212 a8 := by rw [zk_xe_r (i := 212) (by decide)]; show zk_el w 212 (8000 * j + zk_xe w 207 a7) = zk_el w 212 a8; rw [show 8000 * j + zk_xe w 207 a7 = a8 by omega]
  have hx := zs_71c (w := w) (j := a9)
  have hp := (zs_70 (w := w) (j := a0) (n := a1) (u := j) (c := a3) (z := a4) (m := a5) (l := a6) (by omega) (by omega) (by omega) (by omega) (by omega) (by omega) (by omega) (by omega) (by omega) (by omega) (by omega) (by omega) (by omega) ).mp (by omega)
  have h : zs_ps w' a1 j a3 a4 a5 a6 := by
    unfold zs_ps at hp ⊢
    rw [zh_e_g (hw.1 224 (by decide)), zh_e_g (hw.1 250 (by decide)), zh_e_g (hw.1 240 (by decide)), zh_e_g (hw.1 241 (by decide)), zh_e_g (hw.1 242 (by decide)), zh_e_g (hw.1 253 (by decide)), zh_e_g (hw.1 227 (by decide)), zh_e_g (hw.1 226 (by decide))]
    rcases hp with h | ⟨h1, h2, h3, h4⟩
    · exact Or.inl h
    · rcases hx with ⟨-, hx⟩ | ⟨hx, -⟩
      · exact Or.inl hx
      · refine Or.inr ⟨zs_more hw hn (by omega) (by omega) h1 ?_, h2, h3, h4⟩
        unfold zs_st
        rw [k0, k1, k2, k3, k4]
        refine ⟨fun q1 q2 => ⟨by omega, by omega⟩, fun q => by omega, fun q => Or.inr ⟨by omega, by omega, by omega⟩, fun q => by omega, fun q => by omega, fun q => by omega, fun q => by omega, fun q => by omega⟩
  exact (zx_eF1 (by show 0 ≤ (0 : Int) + (1 * a0 + 0); omega) (by show zk_xe w' 2000070 ((0 : Int) + (1 * a0 + 0)) = (1 : Int) + (0); rw [show (0 : Int) + (1 * a0 + 0) = a0 by omega]; exact ((zs_70 (w := w') (j := a0) (n := a1) (u := j) (c := a3) (z := a4) (m := a5) (l := a6) (by omega) (by omega) (by omega) (by omega) (by omega) (by omega) (by omega) (by omega) (by omega) (by omega) (by omega) (by omega) (by omega) ).mpr h).trans (by omega)) zx_eF0)
def zx_E560 : zx_V := zx_Vc 207 [] 11 [(2000070, 0), (207, 7), (208, 8), (209, 8), (210, 8), (211, 8), (212, 8), (2000071, 9), (208, 10), (209, 10), (210, 10), (211, 10)] [((0, 0), [(2, 1, 0), (3, 0, 1), (4, 0, 4294967296), (5, 0, 18446744073709551616), (6, 0, 79228162514264337593543950336), (7, 0, 340282366920938463463374607431768211456), (8, 0, 1461501637330902918203684832716283019655932542976)]), ((0, 1), [(13, 1, 0)]), ((0, 0), [(4, 0, 1), (9, 1, 0)]), ((0, 0), [(4, 0, 8000), (10, 1, 0), (14, 0, 1)]), ((0, 0), [(11, 1, 0)]), ((0, 1), [(1, 1, 0), (14, 0, 1)]), ((0, 0), [(0, 1, 0), (4, 0, 1)]), ((1, 0), [(10, 0, 1), (12, 1, 0)]), ((0, 6), [(21, 1, 0)]), ((0, 0), [(16, 0, 1), (22, 1, 0)]), ((0, 0), [(17, 0, 1), (23, 1, 0)]), ((0, 0), [(18, 0, 1), (24, 1, 0)])] [((0, 0), [(3, 1, 0)]), ((4294967294, 0), [(3, 0, 1)]), ((0, 0), [(4, 1, 0)]), ((4294967294, 0), [(4, 0, 1)]), ((0, 0), [(5, 1, 0)]), ((4294967294, 0), [(5, 0, 1)]), ((0, 0), [(6, 1, 0)]), ((4294967294, 0), [(6, 0, 1)]), ((0, 0), [(7, 1, 0)]), ((4294967294, 0), [(7, 0, 1)]), ((0, 0), [(8, 1, 0)]), ((4294967294, 0), [(8, 0, 1)]), ((0, 0), [(14, 1, 0)]), ((0, 7), [(15, 1, 0)]), ((7, 0), [(15, 0, 1)]), ((0, 0), [(18, 1, 0), (20, 8589934592, 0)]), ((7, 0), [(18, 0, 1), (20, 8589934592, 0)]), ((0, 1), [(14, 1, 0)])] [(2000070, ((0, 0), [(2, 1, 0)]), ((1, 0), []))]
theorem zx_E560_ok {PT : Nat → zz_W → Prop} : zx_Vok 64 zHT PT zx_E560 := by
  refine zx_Vc_ok (fun w w' j ins hI hI' h0 hw hK hl he hg => ?_)
  obtain ⟨a0, a1, a2, a3, a4, a5, a6, a7, a8, a9, a10, rfl⟩ := zx_i11 hl
  have e0 : (0 : Int) + (1 * a0 + ((-1) * a1 + ((-4294967296) * a2 + ((-18446744073709551616) * a3 + ((-79228162514264337593543950336) * a4 + ((-340282366920938463463374607431768211456) * a5 + ((-1461501637330902918203684832716283019655932542976) * a6 + 0))))))) = 0 := he _ List.mem_cons_self
  have e1 : ((-1) : Int) + (1 * (zk_xe w 2000070 a0) + 0) = 0 := he _ (List.mem_cons_of_mem _ List.mem_cons_self)
  have e2 : (0 : Int) + ((-1) * a2 + (1 * a7 + 0)) = 0 := he _ (List.mem_cons_of_mem _ (List.mem_cons_of_mem _ List.mem_cons_self))
  have e3 : (0 : Int) + ((-8000) * a2 + (1 * a8 + ((-1) * (zk_xe w 207 a7) + 0))) = 0 := he _ (List.mem_cons_of_mem _ (List.mem_cons_of_mem _ (List.mem_cons_of_mem _ List.mem_cons_self)))
  have e4 : (0 : Int) + (1 * a9 + 0) = 0 := he _ (List.mem_cons_of_mem _ (List.mem_cons_of_mem _ (List.mem_cons_of_mem _ (List.mem_cons_of_mem _ List.mem_cons_self))))
  have e5 : ((-1) : Int) + (1 * (zk_el w' 207 j) + ((-1) * (zk_xe w 207 a7) + 0)) = 0 := he _ (List.mem_cons_of_mem _ (List.mem_cons_of_mem _ (List.mem_cons_of_mem _ (List.mem_cons_of_mem _ (List.mem_cons_of_mem _ List.mem_cons_self)))))
  have e6 : (0 : Int) + (1 * j + ((-1) * a2 + 0)) = 0 := he _ (List.mem_cons_of_mem _ (List.mem_cons_of_mem _ (List.mem_cons_of_mem _ (List.mem_cons_of_mem _ (List.mem_cons_of_mem _ (List.mem_cons_of_mem _ List.mem_cons_self))))))
  have e7 : (1 : Int) + ((-1) * a8 + (1 * a10 + 0)) = 0 := he _ (List.mem_cons_of_mem _ (List.mem_cons_of_mem _ (List.mem_cons_of_mem _ (List.mem_cons_of_mem _ (List.mem_cons_of_mem _ (List.mem_cons_of_mem _ (List.mem_cons_of_mem _ List.mem_cons_self)))))))
  have e8 : ((-6) : Int) + (1 * (zk_xe w 208 a10) + 0) = 0 := he _ (List.mem_cons_of_mem _ (List.mem_cons_of_mem _ (List.mem_cons_of_mem _ (List.mem_cons_of_mem _ (List.mem_cons_of_mem _ (List.mem_cons_of_mem _ (List.mem_cons_of_mem _ (List.mem_cons_of_mem _ List.mem_cons_self))))))))
  have e9 : (0 : Int) + ((-1) * (zk_xe w 209 a8) + (1 * (zk_xe w 209 a10) + 0)) = 0 := he _ (List.mem_cons_of_mem _ (List.mem_cons_of_mem _ (List.mem_cons_of_mem _ (List.mem_cons_of_mem _ (List.mem_cons_of_mem _ (List.mem_cons_of_mem _ (List.mem_cons_of_mem _ (List.mem_cons_of_mem _ (List.mem_cons_of_mem _ List.mem_cons_self)))))))))
  have e10 : (0 : Int) + ((-1) * (zk_xe w 210 a8) + (1 * (zk_xe w 210 a10) + 0)) = 0 := he _ (List.mem_cons_of_mem _ (List.mem_cons_of_mem _ (List.mem_cons_of_mem _ (List.mem_cons_of_mem _ (List.mem_cons_of_mem _ (List.mem_cons_of_mem _ (List.mem_cons_of_mem _ (List.mem_cons_of_mem _ (List.mem_cons_of_mem _ (List.mem_cons_of_mem _ List.mem_cons_self))))))))))
  have e11 : (0 : Int) + ((-1) * (zk_xe w 211 a8) + (1 * (zk_xe w 211 a10) + 0)) = 0 := he _ (List.mem_cons_of_mem _ (List.mem_cons_of_mem _ (List.mem_cons_of_mem _ (List.mem_cons_of_mem _ (List.mem_cons_of_mem _ (List.mem_cons_of_mem _ (List.mem_cons_of_mem _ (List.mem_cons_of_mem _ (List.mem_cons_of_mem _ (List.mem_cons_of_mem _ (List.mem_cons_of_mem _ List.mem_cons_self)))))))))))
  have g0 : 0 ≤ (0 : Int) + (1 * a1 + 0) := hg _ List.mem_cons_self
  have g1 : 0 ≤ (4294967294 : Int) + ((-1) * a1 + 0) := hg _ (List.mem_cons_of_mem _ List.mem_cons_self)
  have g2 : 0 ≤ (0 : Int) + (1 * a2 + 0) := hg _ (List.mem_cons_of_mem _ (List.mem_cons_of_mem _ List.mem_cons_self))
  have g3 : 0 ≤ (4294967294 : Int) + ((-1) * a2 + 0) := hg _ (List.mem_cons_of_mem _ (List.mem_cons_of_mem _ (List.mem_cons_of_mem _ List.mem_cons_self)))
  have g4 : 0 ≤ (0 : Int) + (1 * a3 + 0) := hg _ (List.mem_cons_of_mem _ (List.mem_cons_of_mem _ (List.mem_cons_of_mem _ (List.mem_cons_of_mem _ List.mem_cons_self))))
  have g5 : 0 ≤ (4294967294 : Int) + ((-1) * a3 + 0) := hg _ (List.mem_cons_of_mem _ (List.mem_cons_of_mem _ (List.mem_cons_of_mem _ (List.mem_cons_of_mem _ (List.mem_cons_of_mem _ List.mem_cons_self)))))
  have g6 : 0 ≤ (0 : Int) + (1 * a4 + 0) := hg _ (List.mem_cons_of_mem _ (List.mem_cons_of_mem _ (List.mem_cons_of_mem _ (List.mem_cons_of_mem _ (List.mem_cons_of_mem _ (List.mem_cons_of_mem _ List.mem_cons_self))))))
  have g7 : 0 ≤ (4294967294 : Int) + ((-1) * a4 + 0) := hg _ (List.mem_cons_of_mem _ (List.mem_cons_of_mem _ (List.mem_cons_of_mem _ (List.mem_cons_of_mem _ (List.mem_cons_of_mem _ (List.mem_cons_of_mem _ (List.mem_cons_of_mem _ List.mem_cons_self)))))))
  have g8 : 0 ≤ (0 : Int) + (1 * a5 + 0) := hg _ (List.mem_cons_of_mem _ (List.mem_cons_of_mem _ (List.mem_cons_of_mem _ (List.mem_cons_of_mem _ (List.mem_cons_of_mem _ (List.mem_cons_of_mem _ (List.mem_cons_of_mem _ (List.mem_cons_of_mem _ List.mem_cons_self))))))))
  have g9 : 0 ≤ (4294967294 : Int) + ((-1) * a5 + 0) := hg _ (List.mem_cons_of_mem _ (List.mem_cons_of_mem _ (List.mem_cons_of_mem _ (List.mem_cons_of_mem _ (List.mem_cons_of_mem _ (List.mem_cons_of_mem _ (List.mem_cons_of_mem _ (List.mem_cons_of_mem _ (List.mem_cons_of_mem _ List.mem_cons_self)))))))))
  have g10 : 0 ≤ (0 : Int) + (1 * a6 + 0) := hg _ (List.mem_cons_of_mem _ (List.mem_cons_of_mem _ (List.mem_cons_of_mem _ (List.mem_cons_of_mem _ (List.mem_cons_of_mem _ (List.mem_cons_of_mem _ (List.mem_cons_of_mem _ (List.mem_cons_of_mem _ (List.mem_cons_of_mem _ (List.mem_cons_of_mem _ List.mem_cons_self))))))))))
  have g11 : 0 ≤ (4294967294 : Int) + ((-1) * a6 + 0) := hg _ (List.mem_cons_of_mem _ (List.mem_cons_of_mem _ (List.mem_cons_of_mem _ (List.mem_cons_of_mem _ (List.mem_cons_of_mem _ (List.mem_cons_of_mem _ (List.mem_cons_of_mem _ (List.mem_cons_of_mem _ (List.mem_cons_of_mem _ (List.mem_cons_of_mem _ (List.mem_cons_of_mem _ List.mem_cons_self)))))))))))
  have g12 : 0 ≤ (0 : Int) + (1 * (zk_xe w 207 a7) + 0) := hg _ (List.mem_cons_of_mem _ (List.mem_cons_of_mem _ (List.mem_cons_of_mem _ (List.mem_cons_of_mem _ (List.mem_cons_of_mem _ (List.mem_cons_of_mem _ (List.mem_cons_of_mem _ (List.mem_cons_of_mem _ (List.mem_cons_of_mem _ (List.mem_cons_of_mem _ (List.mem_cons_of_mem _ (List.mem_cons_of_mem _ List.mem_cons_self))))))))))))
  have g13 : 0 ≤ ((-7) : Int) + (1 * (zk_xe w 208 a8) + 0) := hg _ (List.mem_cons_of_mem _ (List.mem_cons_of_mem _ (List.mem_cons_of_mem _ (List.mem_cons_of_mem _ (List.mem_cons_of_mem _ (List.mem_cons_of_mem _ (List.mem_cons_of_mem _ (List.mem_cons_of_mem _ (List.mem_cons_of_mem _ (List.mem_cons_of_mem _ (List.mem_cons_of_mem _ (List.mem_cons_of_mem _ (List.mem_cons_of_mem _ List.mem_cons_self)))))))))))))
  have g14 : 0 ≤ (7 : Int) + ((-1) * (zk_xe w 208 a8) + 0) := hg _ (List.mem_cons_of_mem _ (List.mem_cons_of_mem _ (List.mem_cons_of_mem _ (List.mem_cons_of_mem _ (List.mem_cons_of_mem _ (List.mem_cons_of_mem _ (List.mem_cons_of_mem _ (List.mem_cons_of_mem _ (List.mem_cons_of_mem _ (List.mem_cons_of_mem _ (List.mem_cons_of_mem _ (List.mem_cons_of_mem _ (List.mem_cons_of_mem _ (List.mem_cons_of_mem _ List.mem_cons_self))))))))))))))
  have g15 : 0 ≤ (0 : Int) + (1 * (zk_xe w 211 a8) + (8589934592 * (zk_xe w 2000071 a9) + 0)) := hg _ (List.mem_cons_of_mem _ (List.mem_cons_of_mem _ (List.mem_cons_of_mem _ (List.mem_cons_of_mem _ (List.mem_cons_of_mem _ (List.mem_cons_of_mem _ (List.mem_cons_of_mem _ (List.mem_cons_of_mem _ (List.mem_cons_of_mem _ (List.mem_cons_of_mem _ (List.mem_cons_of_mem _ (List.mem_cons_of_mem _ (List.mem_cons_of_mem _ (List.mem_cons_of_mem _ (List.mem_cons_of_mem _ List.mem_cons_self)))))))))))))))
  have g16 : 0 ≤ (7 : Int) + ((-1) * (zk_xe w 211 a8) + (8589934592 * (zk_xe w 2000071 a9) + 0)) := hg _ (List.mem_cons_of_mem _ (List.mem_cons_of_mem _ (List.mem_cons_of_mem _ (List.mem_cons_of_mem _ (List.mem_cons_of_mem _ (List.mem_cons_of_mem _ (List.mem_cons_of_mem _ (List.mem_cons_of_mem _ (List.mem_cons_of_mem _ (List.mem_cons_of_mem _ (List.mem_cons_of_mem _ (List.mem_cons_of_mem _ (List.mem_cons_of_mem _ (List.mem_cons_of_mem _ (List.mem_cons_of_mem _ (List.mem_cons_of_mem _ List.mem_cons_self))))))))))))))))
  have g17 : 0 ≤ ((-1) : Int) + (1 * (zk_xe w 207 a7) + 0) := hg _ (List.mem_cons_of_mem _ (List.mem_cons_of_mem _ (List.mem_cons_of_mem _ (List.mem_cons_of_mem _ (List.mem_cons_of_mem _ (List.mem_cons_of_mem _ (List.mem_cons_of_mem _ (List.mem_cons_of_mem _ (List.mem_cons_of_mem _ (List.mem_cons_of_mem _ (List.mem_cons_of_mem _ (List.mem_cons_of_mem _ (List.mem_cons_of_mem _ (List.mem_cons_of_mem _ (List.mem_cons_of_mem _ (List.mem_cons_of_mem _ (List.mem_cons_of_mem _ List.mem_cons_self)))))))))))))))))
  have e9z : a9 = 0 := by omega
  have ej : j = a2 := by omega
  subst ej
  have hn : zh_e w 207 (j) = zk_xe w 207 a7 := by rw [zk_xe_r (i := 207) (by decide)]; show zk_el w 207 (j) = zk_el w 207 a7; rw [show j = a7 by omega]
  have k0 : zh_e w 208 (8000 * j + zk_xe w 207 a7) = zk_xe w 208 a8 := by rw [zk_xe_r (i := 208) (by decide)]; show zk_el w 208 (8000 * j + zk_xe w 207 a7) = zk_el w 208 a8; rw [show 8000 * j + zk_xe w 207 a7 = a8 by omega]
  have k1 : zh_e w 209 (8000 * j + zk_xe w 207 a7) = zk_xe w 209 a8 := by rw [zk_xe_r (i := 209) (by decide)]; show zk_el w 209 (8000 * j + zk_xe w 207 a7) = zk_el w 209 a8; rw [show 8000 * j + zk_xe w 207 a7 = a8 by omega]
  have k2 : zh_e w 210 (8000 * j + zk_xe w 207 a7) = zk_xe w 210 a8 := by rw [zk_xe_r (i := 210) (by decide)]; show zk_el w 210 (8000 * j + zk_xe w 207 a7) = zk_el w 210 a8; rw [show 8000 * j + zk_xe w 207 a7 = a8 by omega]
  have k3 : zh_e w 211 (8000 * j + zk_xe w 207 a7) = zk_xe w 211 a8 := by rw [zk_xe_r (i := 211) (by decide)]; show zk_el w 211 (8000 * j + zk_xe w 207 a7) = zk_el w 211 a8; rw [show 8000 * j + zk_xe w 207 a7 = a8 by omega]
  have k4 : zh_e w 212 (8000 * j + zk_xe w 207 a7) = zk_xe w 212 a8 := by rw [zk_xe_r (i := 212) (by decide)]; show zk_el w 212 (8000 * j + zk_xe w 207 a7) = zk_el w 212 a8; rw [show 8000 * j + zk_xe w 207 a7 = a8 by omega]
  have p0 : zh_e w 208 (8000 * j + zk_xe w 207 a7 - 1) = zk_xe w 208 a10 := by rw [zk_xe_r (i := 208) (by decide)]; show zk_el w 208 (8000 * j + zk_xe w 207 a7 - 1) = zk_el w 208 a10; rw [show 8000 * j + zk_xe w 207 a7 - 1 = a10 by omega]
  have p1 : zh_e w 209 (8000 * j + zk_xe w 207 a7 - 1) = zk_xe w 209 a10 := by rw [zk_xe_r (i := 209) (by decide)]; show zk_el w 209 (8000 * j + zk_xe w 207 a7 - 1) = zk_el w 209 a10; rw [show 8000 * j + zk_xe w 207 a7 - 1 = a10 by omega]
  have p2 : zh_e w 210 (8000 * j + zk_xe w 207 a7 - 1) = zk_xe w 210 a10 := by rw [zk_xe_r (i := 210) (by decide)]; show zk_el w 210 (8000 * j + zk_xe w 207 a7 - 1) = zk_el w 210 a10; rw [show 8000 * j + zk_xe w 207 a7 - 1 = a10 by omega]
  have p3 : zh_e w 211 (8000 * j + zk_xe w 207 a7 - 1) = zk_xe w 211 a10 := by rw [zk_xe_r (i := 211) (by decide)]; show zk_el w 211 (8000 * j + zk_xe w 207 a7 - 1) = zk_el w 211 a10; rw [show 8000 * j + zk_xe w 207 a7 - 1 = a10 by omega]
  have hx := zs_71c (w := w) (j := a9)
  have hp := (zs_70 (w := w) (j := a0) (n := a1) (u := j) (c := a3) (z := a4) (m := a5) (l := a6) (by omega) (by omega) (by omega) (by omega) (by omega) (by omega) (by omega) (by omega) (by omega) (by omega) (by omega) (by omega) (by omega) ).mp (by omega)
  have h : zs_ps w' a1 j a3 a4 a5 a6 := by
    unfold zs_ps at hp ⊢
    rw [zh_e_g (hw.1 224 (by decide)), zh_e_g (hw.1 250 (by decide)), zh_e_g (hw.1 240 (by decide)), zh_e_g (hw.1 241 (by decide)), zh_e_g (hw.1 242 (by decide)), zh_e_g (hw.1 253 (by decide)), zh_e_g (hw.1 227 (by decide)), zh_e_g (hw.1 226 (by decide))]
    rcases hp with h | ⟨h1, h2, h3, h4⟩
    · exact Or.inl h
    · rcases hx with ⟨-, hx⟩ | ⟨hx, -⟩
      · exact Or.inl hx
      · refine Or.inr ⟨zs_more hw hn (by omega) (by omega) h1 ?_, h2, h3, h4⟩
        unfold zs_st
        rw [k0, k1, k2, k3, k4]
        refine ⟨fun q1 q2 => ⟨by omega, by omega⟩, fun q => by omega, fun q => by omega, fun q => ⟨by omega, by rw [p0]; omega, by rw [p1]; omega, by rw [p2]; omega, by rw [p3]; omega⟩, fun q => by omega, fun q => by omega, fun q => by omega, fun q => by omega⟩
  exact (zx_eF1 (by show 0 ≤ (0 : Int) + (1 * a0 + 0); omega) (by show zk_xe w' 2000070 ((0 : Int) + (1 * a0 + 0)) = (1 : Int) + (0); rw [show (0 : Int) + (1 * a0 + 0) = a0 by omega]; exact ((zs_70 (w := w') (j := a0) (n := a1) (u := j) (c := a3) (z := a4) (m := a5) (l := a6) (by omega) (by omega) (by omega) (by omega) (by omega) (by omega) (by omega) (by omega) (by omega) (by omega) (by omega) (by omega) (by omega) ).mpr h).trans (by omega)) zx_eF0)
def zx_E561 : zx_V := zx_Vc 207 [] 11 [(2000070, 0), (207, 7), (208, 8), (209, 8), (210, 8), (211, 8), (212, 8), (2000071, 9), (2000072, 10)] [((0, 0), [(2, 1, 0), (3, 0, 1), (4, 0, 4294967296), (5, 0, 18446744073709551616), (6, 0, 79228162514264337593543950336), (7, 0, 340282366920938463463374607431768211456), (8, 0, 1461501637330902918203684832716283019655932542976)]), ((0, 1), [(13, 1, 0)]), ((0, 0), [(4, 0, 1), (9, 1, 0)]), ((0, 0), [(4, 0, 8000), (10, 1, 0), (14, 0, 1)]), ((0, 0), [(11, 1, 0)]), ((0, 1), [(1, 1, 0), (14, 0, 1)]), ((0, 0), [(0, 1, 0), (4, 0, 1)]), ((0, 1), [(21, 1, 0)]), ((0, 12884901889), [(3, 0, 18446744073709551616), (12, 1, 0), (16, 0, 1), (17, 0, 4294967296)])] [((0, 0), [(3, 1, 0)]), ((4294967294, 0), [(3, 0, 1)]), ((0, 0), [(4, 1, 0)]), ((4294967294, 0), [(4, 0, 1)]), ((0, 0), [(5, 1, 0)]), ((4294967294, 0), [(5, 0, 1)]), ((0, 0), [(6, 1, 0)]), ((4294967294, 0), [(6, 0, 1)]), ((0, 0), [(7, 1, 0)]), ((4294967294, 0), [(7, 0, 1)]), ((0, 0), [(8, 1, 0)]), ((4294967294, 0), [(8, 0, 1)]), ((0, 0), [(14, 1, 0)]), ((0, 8), [(15, 1, 0)]), ((8, 0), [(15, 0, 1)]), ((0, 0), [(18, 1, 0), (20, 8589934592, 0)]), ((7, 0), [(18, 0, 1), (20, 8589934592, 0)]), ((0, 0), [(17, 1, 0)]), ((4, 0), [(17, 0, 1)]), ((1, 0), [(16, 1, 0)]), ((100000, 0), [(16, 0, 1)])] [(2000070, ((0, 0), [(2, 1, 0)]), ((1, 0), []))]
theorem zx_E561_ok {PT : Nat → zz_W → Prop} : zx_Vok 64 zHT PT zx_E561 := by
  refine zx_Vc_ok (fun w w' j ins hI hI' h0 hw hK hl he hg => ?_)
  obtain ⟨a0, a1, a2, a3, a4, a5, a6, a7, a8, a9, a10, rfl⟩ := zx_i11 hl
  have e0 : (0 : Int) + (1 * a0 + ((-1) * a1 + ((-4294967296) * a2 + ((-18446744073709551616) * a3 + ((-79228162514264337593543950336) * a4 + ((-340282366920938463463374607431768211456) * a5 + ((-1461501637330902918203684832716283019655932542976) * a6 + 0))))))) = 0 := he _ List.mem_cons_self
  have e1 : ((-1) : Int) + (1 * (zk_xe w 2000070 a0) + 0) = 0 := he _ (List.mem_cons_of_mem _ List.mem_cons_self)
  have e2 : (0 : Int) + ((-1) * a2 + (1 * a7 + 0)) = 0 := he _ (List.mem_cons_of_mem _ (List.mem_cons_of_mem _ List.mem_cons_self))
  have e3 : (0 : Int) + ((-8000) * a2 + (1 * a8 + ((-1) * (zk_xe w 207 a7) + 0))) = 0 := he _ (List.mem_cons_of_mem _ (List.mem_cons_of_mem _ (List.mem_cons_of_mem _ List.mem_cons_self)))
  have e4 : (0 : Int) + (1 * a9 + 0) = 0 := he _ (List.mem_cons_of_mem _ (List.mem_cons_of_mem _ (List.mem_cons_of_mem _ (List.mem_cons_of_mem _ List.mem_cons_self))))
  have e5 : ((-1) : Int) + (1 * (zk_el w' 207 j) + ((-1) * (zk_xe w 207 a7) + 0)) = 0 := he _ (List.mem_cons_of_mem _ (List.mem_cons_of_mem _ (List.mem_cons_of_mem _ (List.mem_cons_of_mem _ (List.mem_cons_of_mem _ List.mem_cons_self)))))
  have e6 : (0 : Int) + (1 * j + ((-1) * a2 + 0)) = 0 := he _ (List.mem_cons_of_mem _ (List.mem_cons_of_mem _ (List.mem_cons_of_mem _ (List.mem_cons_of_mem _ (List.mem_cons_of_mem _ (List.mem_cons_of_mem _ List.mem_cons_self))))))
  have e7 : ((-1) : Int) + (1 * (zk_xe w 2000072 a10) + 0) = 0 := he _ (List.mem_cons_of_mem _ (List.mem_cons_of_mem _ (List.mem_cons_of_mem _ (List.mem_cons_of_mem _ (List.mem_cons_of_mem _ (List.mem_cons_of_mem _ (List.mem_cons_of_mem _ List.mem_cons_self)))))))
  have e8 : ((-12884901889) : Int) + ((-18446744073709551616) * a1 + (1 * a10 + ((-1) * (zk_xe w 209 a8) + ((-4294967296) * (zk_xe w 210 a8) + 0)))) = 0 := he _ (List.mem_cons_of_mem _ (List.mem_cons_of_mem _ (List.mem_cons_of_mem _ (List.mem_cons_of_mem _ (List.mem_cons_of_mem _ (List.mem_cons_of_mem _ (List.mem_cons_of_mem _ (List.mem_cons_of_mem _ List.mem_cons_self))))))))
  have g0 : 0 ≤ (0 : Int) + (1 * a1 + 0) := hg _ List.mem_cons_self
  have g1 : 0 ≤ (4294967294 : Int) + ((-1) * a1 + 0) := hg _ (List.mem_cons_of_mem _ List.mem_cons_self)
  have g2 : 0 ≤ (0 : Int) + (1 * a2 + 0) := hg _ (List.mem_cons_of_mem _ (List.mem_cons_of_mem _ List.mem_cons_self))
  have g3 : 0 ≤ (4294967294 : Int) + ((-1) * a2 + 0) := hg _ (List.mem_cons_of_mem _ (List.mem_cons_of_mem _ (List.mem_cons_of_mem _ List.mem_cons_self)))
  have g4 : 0 ≤ (0 : Int) + (1 * a3 + 0) := hg _ (List.mem_cons_of_mem _ (List.mem_cons_of_mem _ (List.mem_cons_of_mem _ (List.mem_cons_of_mem _ List.mem_cons_self))))
  have g5 : 0 ≤ (4294967294 : Int) + ((-1) * a3 + 0) := hg _ (List.mem_cons_of_mem _ (List.mem_cons_of_mem _ (List.mem_cons_of_mem _ (List.mem_cons_of_mem _ (List.mem_cons_of_mem _ List.mem_cons_self)))))
  have g6 : 0 ≤ (0 : Int) + (1 * a4 + 0) := hg _ (List.mem_cons_of_mem _ (List.mem_cons_of_mem _ (List.mem_cons_of_mem _ (List.mem_cons_of_mem _ (List.mem_cons_of_mem _ (List.mem_cons_of_mem _ List.mem_cons_self))))))
  have g7 : 0 ≤ (4294967294 : Int) + ((-1) * a4 + 0) := hg _ (List.mem_cons_of_mem _ (List.mem_cons_of_mem _ (List.mem_cons_of_mem _ (List.mem_cons_of_mem _ (List.mem_cons_of_mem _ (List.mem_cons_of_mem _ (List.mem_cons_of_mem _ List.mem_cons_self)))))))
  have g8 : 0 ≤ (0 : Int) + (1 * a5 + 0) := hg _ (List.mem_cons_of_mem _ (List.mem_cons_of_mem _ (List.mem_cons_of_mem _ (List.mem_cons_of_mem _ (List.mem_cons_of_mem _ (List.mem_cons_of_mem _ (List.mem_cons_of_mem _ (List.mem_cons_of_mem _ List.mem_cons_self))))))))
  have g9 : 0 ≤ (4294967294 : Int) + ((-1) * a5 + 0) := hg _ (List.mem_cons_of_mem _ (List.mem_cons_of_mem _ (List.mem_cons_of_mem _ (List.mem_cons_of_mem _ (List.mem_cons_of_mem _ (List.mem_cons_of_mem _ (List.mem_cons_of_mem _ (List.mem_cons_of_mem _ (List.mem_cons_of_mem _ List.mem_cons_self)))))))))
  have g10 : 0 ≤ (0 : Int) + (1 * a6 + 0) := hg _ (List.mem_cons_of_mem _ (List.mem_cons_of_mem _ (List.mem_cons_of_mem _ (List.mem_cons_of_mem _ (List.mem_cons_of_mem _ (List.mem_cons_of_mem _ (List.mem_cons_of_mem _ (List.mem_cons_of_mem _ (List.mem_cons_of_mem _ (List.mem_cons_of_mem _ List.mem_cons_self))))))))))
  have g11 : 0 ≤ (4294967294 : Int) + ((-1) * a6 + 0) := hg _ (List.mem_cons_of_mem _ (List.mem_cons_of_mem _ (List.mem_cons_of_mem _ (List.mem_cons_of_mem _ (List.mem_cons_of_mem _ (List.mem_cons_of_mem _ (List.mem_cons_of_mem _ (List.mem_cons_of_mem _ (List.mem_cons_of_mem _ (List.mem_cons_of_mem _ (List.mem_cons_of_mem _ List.mem_cons_self)))))))))))
  have g12 : 0 ≤ (0 : Int) + (1 * (zk_xe w 207 a7) + 0) := hg _ (List.mem_cons_of_mem _ (List.mem_cons_of_mem _ (List.mem_cons_of_mem _ (List.mem_cons_of_mem _ (List.mem_cons_of_mem _ (List.mem_cons_of_mem _ (List.mem_cons_of_mem _ (List.mem_cons_of_mem _ (List.mem_cons_of_mem _ (List.mem_cons_of_mem _ (List.mem_cons_of_mem _ (List.mem_cons_of_mem _ List.mem_cons_self))))))))))))
  have g13 : 0 ≤ ((-8) : Int) + (1 * (zk_xe w 208 a8) + 0) := hg _ (List.mem_cons_of_mem _ (List.mem_cons_of_mem _ (List.mem_cons_of_mem _ (List.mem_cons_of_mem _ (List.mem_cons_of_mem _ (List.mem_cons_of_mem _ (List.mem_cons_of_mem _ (List.mem_cons_of_mem _ (List.mem_cons_of_mem _ (List.mem_cons_of_mem _ (List.mem_cons_of_mem _ (List.mem_cons_of_mem _ (List.mem_cons_of_mem _ List.mem_cons_self)))))))))))))
  have g14 : 0 ≤ (8 : Int) + ((-1) * (zk_xe w 208 a8) + 0) := hg _ (List.mem_cons_of_mem _ (List.mem_cons_of_mem _ (List.mem_cons_of_mem _ (List.mem_cons_of_mem _ (List.mem_cons_of_mem _ (List.mem_cons_of_mem _ (List.mem_cons_of_mem _ (List.mem_cons_of_mem _ (List.mem_cons_of_mem _ (List.mem_cons_of_mem _ (List.mem_cons_of_mem _ (List.mem_cons_of_mem _ (List.mem_cons_of_mem _ (List.mem_cons_of_mem _ List.mem_cons_self))))))))))))))
  have g15 : 0 ≤ (0 : Int) + (1 * (zk_xe w 211 a8) + (8589934592 * (zk_xe w 2000071 a9) + 0)) := hg _ (List.mem_cons_of_mem _ (List.mem_cons_of_mem _ (List.mem_cons_of_mem _ (List.mem_cons_of_mem _ (List.mem_cons_of_mem _ (List.mem_cons_of_mem _ (List.mem_cons_of_mem _ (List.mem_cons_of_mem _ (List.mem_cons_of_mem _ (List.mem_cons_of_mem _ (List.mem_cons_of_mem _ (List.mem_cons_of_mem _ (List.mem_cons_of_mem _ (List.mem_cons_of_mem _ (List.mem_cons_of_mem _ List.mem_cons_self)))))))))))))))
  have g16 : 0 ≤ (7 : Int) + ((-1) * (zk_xe w 211 a8) + (8589934592 * (zk_xe w 2000071 a9) + 0)) := hg _ (List.mem_cons_of_mem _ (List.mem_cons_of_mem _ (List.mem_cons_of_mem _ (List.mem_cons_of_mem _ (List.mem_cons_of_mem _ (List.mem_cons_of_mem _ (List.mem_cons_of_mem _ (List.mem_cons_of_mem _ (List.mem_cons_of_mem _ (List.mem_cons_of_mem _ (List.mem_cons_of_mem _ (List.mem_cons_of_mem _ (List.mem_cons_of_mem _ (List.mem_cons_of_mem _ (List.mem_cons_of_mem _ (List.mem_cons_of_mem _ List.mem_cons_self))))))))))))))))
  have g17 : 0 ≤ (0 : Int) + (1 * (zk_xe w 210 a8) + 0) := hg _ (List.mem_cons_of_mem _ (List.mem_cons_of_mem _ (List.mem_cons_of_mem _ (List.mem_cons_of_mem _ (List.mem_cons_of_mem _ (List.mem_cons_of_mem _ (List.mem_cons_of_mem _ (List.mem_cons_of_mem _ (List.mem_cons_of_mem _ (List.mem_cons_of_mem _ (List.mem_cons_of_mem _ (List.mem_cons_of_mem _ (List.mem_cons_of_mem _ (List.mem_cons_of_mem _ (List.mem_cons_of_mem _ (List.mem_cons_of_mem _ (List.mem_cons_of_mem _ List.mem_cons_self)))))))))))))))))
  have g18 : 0 ≤ (4 : Int) + ((-1) * (zk_xe w 210 a8) + 0) := hg _ (List.mem_cons_of_mem _ (List.mem_cons_of_mem _ (List.mem_cons_of_mem _ (List.mem_cons_of_mem _ (List.mem_cons_of_mem _ (List.mem_cons_of_mem _ (List.mem_cons_of_mem _ (List.mem_cons_of_mem _ (List.mem_cons_of_mem _ (List.mem_cons_of_mem _ (List.mem_cons_of_mem _ (List.mem_cons_of_mem _ (List.mem_cons_of_mem _ (List.mem_cons_of_mem _ (List.mem_cons_of_mem _ (List.mem_cons_of_mem _ (List.mem_cons_of_mem _ (List.mem_cons_of_mem _ List.mem_cons_self))))))))))))))))))
  have g19 : 0 ≤ (1 : Int) + (1 * (zk_xe w 209 a8) + 0) := hg _ (List.mem_cons_of_mem _ (List.mem_cons_of_mem _ (List.mem_cons_of_mem _ (List.mem_cons_of_mem _ (List.mem_cons_of_mem _ (List.mem_cons_of_mem _ (List.mem_cons_of_mem _ (List.mem_cons_of_mem _ (List.mem_cons_of_mem _ (List.mem_cons_of_mem _ (List.mem_cons_of_mem _ (List.mem_cons_of_mem _ (List.mem_cons_of_mem _ (List.mem_cons_of_mem _ (List.mem_cons_of_mem _ (List.mem_cons_of_mem _ (List.mem_cons_of_mem _ (List.mem_cons_of_mem _ (List.mem_cons_of_mem _ List.mem_cons_self)))))))))))))))))))
  have g20 : 0 ≤ (100000 : Int) + ((-1) * (zk_xe w 209 a8) + 0) := hg _ (List.mem_cons_of_mem _ (List.mem_cons_of_mem _ (List.mem_cons_of_mem _ (List.mem_cons_of_mem _ (List.mem_cons_of_mem _ (List.mem_cons_of_mem _ (List.mem_cons_of_mem _ (List.mem_cons_of_mem _ (List.mem_cons_of_mem _ (List.mem_cons_of_mem _ (List.mem_cons_of_mem _ (List.mem_cons_of_mem _ (List.mem_cons_of_mem _ (List.mem_cons_of_mem _ (List.mem_cons_of_mem _ (List.mem_cons_of_mem _ (List.mem_cons_of_mem _ (List.mem_cons_of_mem _ (List.mem_cons_of_mem _ (List.mem_cons_of_mem _ List.mem_cons_self))))))))))))))))))))
  have e9z : a9 = 0 := by omega
  have ej : j = a2 := by omega
  subst ej
  have hn : zh_e w 207 (j) = zk_xe w 207 a7 := by rw [zk_xe_r (i := 207) (by decide)]; show zk_el w 207 (j) = zk_el w 207 a7; rw [show j = a7 by omega]
  have k0 : zh_e w 208 (8000 * j + zk_xe w 207 a7) = zk_xe w 208 a8 := by rw [zk_xe_r (i := 208) (by decide)]; show zk_el w 208 (8000 * j + zk_xe w 207 a7) = zk_el w 208 a8; rw [show 8000 * j + zk_xe w 207 a7 = a8 by omega]
  have k1 : zh_e w 209 (8000 * j + zk_xe w 207 a7) = zk_xe w 209 a8 := by rw [zk_xe_r (i := 209) (by decide)]; show zk_el w 209 (8000 * j + zk_xe w 207 a7) = zk_el w 209 a8; rw [show 8000 * j + zk_xe w 207 a7 = a8 by omega]
  have k2 : zh_e w 210 (8000 * j + zk_xe w 207 a7) = zk_xe w 210 a8 := by rw [zk_xe_r (i := 210) (by decide)]; show zk_el w 210 (8000 * j + zk_xe w 207 a7) = zk_el w 210 a8; rw [show 8000 * j + zk_xe w 207 a7 = a8 by omega]
  have k3 : zh_e w 211 (8000 * j + zk_xe w 207 a7) = zk_xe w 211 a8 := by rw [zk_xe_r (i := 211) (by decide)]; show zk_el w 211 (8000 * j + zk_xe w 207 a7) = zk_el w 211 a8; rw [show 8000 * j + zk_xe w 207 a7 = a8 by omega]
  have k4 : zh_e w 212 (8000 * j + zk_xe w 207 a7) = zk_xe w 212 a8 := by rw [zk_xe_r (i := 212) (by decide)]; show zk_el w 212 (8000 * j + zk_xe w 207 a7) = zk_el w 212 a8; rw [show 8000 * j + zk_xe w 207 a7 = a8 by omega]
  have hu := (zs_72 (w := w) (j := a10) (a := (zk_xe w 209 a8 + 1)) (k := (3 + zk_xe w 210 a8)) (n := a1) (by omega) (by omega) (by omega) (by omega) (by omega) (by omega) (by omega) ).mp (by omega)
  rw [show zk_xe w 209 a8 + 1 - 1 = zk_xe w 209 a8 by omega] at hu
  have hx := zs_71c (w := w) (j := a9)
  have hp := (zs_70 (w := w) (j := a0) (n := a1) (u := j) (c := a3) (z := a4) (m := a5) (l := a6) (by omega) (by omega) (by omega) (by omega) (by omega) (by omega) (by omega) (by omega) (by omega) (by omega) (by omega) (by omega) (by omega) ).mp (by omega)
  have h : zs_ps w' a1 j a3 a4 a5 a6 := by
    unfold zs_ps at hp ⊢
    rw [zh_e_g (hw.1 224 (by decide)), zh_e_g (hw.1 250 (by decide)), zh_e_g (hw.1 240 (by decide)), zh_e_g (hw.1 241 (by decide)), zh_e_g (hw.1 242 (by decide)), zh_e_g (hw.1 253 (by decide)), zh_e_g (hw.1 227 (by decide)), zh_e_g (hw.1 226 (by decide))]
    rcases hp with h | ⟨h1, h2, h3, h4⟩
    · exact Or.inl h
    · rcases hx with ⟨-, hx⟩ | ⟨hx, -⟩
      · exact Or.inl hx
      · refine Or.inr ⟨zs_more hw hn (by omega) (by omega) h1 ?_, h2, h3, h4⟩
        unfold zs_st
        rw [k0, k1, k2, k3, k4]
        refine ⟨fun q1 q2 => ⟨by omega, by omega⟩, fun q => by omega, fun q => by omega, fun q => by omega, fun q => ⟨by omega, by omega, hu⟩, fun q => by omega, fun q => by omega, fun q => by omega⟩
  exact (zx_eF1 (by show 0 ≤ (0 : Int) + (1 * a0 + 0); omega) (by show zk_xe w' 2000070 ((0 : Int) + (1 * a0 + 0)) = (1 : Int) + (0); rw [show (0 : Int) + (1 * a0 + 0) = a0 by omega]; exact ((zs_70 (w := w') (j := a0) (n := a1) (u := j) (c := a3) (z := a4) (m := a5) (l := a6) (by omega) (by omega) (by omega) (by omega) (by omega) (by omega) (by omega) (by omega) (by omega) (by omega) (by omega) (by omega) (by omega) ).mpr h).trans (by omega)) zx_eF0)
def zx_E562 : zx_V := zx_Vc 207 [] 13 [(2000070, 0), (207, 7), (208, 8), (209, 8), (210, 8), (211, 8), (212, 8), (2000071, 9), (208, 10), (209, 10), (210, 10), (211, 10), (2000073, 11), (250, 12)] [((0, 0), [(2, 1, 0), (3, 0, 1), (4, 0, 4294967296), (5, 0, 18446744073709551616), (6, 0, 79228162514264337593543950336), (7, 0, 340282366920938463463374607431768211456), (8, 0, 1461501637330902918203684832716283019655932542976)]), ((0, 1), [(15, 1, 0)]), ((0, 0), [(4, 0, 1), (9, 1, 0)]), ((0, 0), [(4, 0, 8000), (10, 1, 0), (16, 0, 1)]), ((0, 0), [(11, 1, 0)]), ((0, 1), [(1, 1, 0), (16, 0, 1)]), ((0, 0), [(0, 1, 0), (4, 0, 1)]), ((0, 6), [(23, 1, 0)]), ((0, 0), [(18, 0, 1), (24, 1, 0)]), ((0, 0), [(19, 0, 1), (25, 1, 0)]), ((0, 0), [(26, 1, 0)]), ((0, 0), [(4, 0, 1), (13, 1, 0)]), ((0, 0), [(14, 1, 0)]), ((0, 1), [(28, 1, 0)])] [((0, 0), [(3, 1, 0)]), ((4294967294, 0), [(3, 0, 1)]), ((0, 0), [(4, 1, 0)]), ((4294967294, 0), [(4, 0, 1)]), ((0, 0), [(5, 1, 0)]), ((4294967294, 0), [(5, 0, 1)]), ((0, 0), [(6, 1, 0)]), ((4294967294, 0), [(6, 0, 1)]), ((0, 0), [(7, 1, 0)]), ((4294967294, 0), [(7, 0, 1)]), ((0, 0), [(8, 1, 0)]), ((4294967294, 0), [(8, 0, 1)]), ((0, 0), [(16, 1, 0)]), ((0, 12), [(17, 1, 0)]), ((12, 0), [(17, 0, 1)]), ((0, 0), [(4, 0, 8000), (12, 1, 0)]), ((0, 1), [(10, 1, 0), (12, 0, 1)]), ((1, 0), [(4, 0, 8000), (12, 1, 0), (27, 0, 1)])] [(2000070, ((0, 0), [(2, 1, 0)]), ((1, 0), []))]
theorem zx_E562_ok {PT : Nat → zz_W → Prop} : zx_Vok 64 zHT PT zx_E562 := by
  refine zx_Vc_ok (fun w w' j ins hI hI' h0 hw hK hl he hg => ?_)
  obtain ⟨a0, a1, a2, a3, a4, a5, a6, a7, a8, a9, a10, a11, a12, rfl⟩ := zx_i13 hl
  have e0 : (0 : Int) + (1 * a0 + ((-1) * a1 + ((-4294967296) * a2 + ((-18446744073709551616) * a3 + ((-79228162514264337593543950336) * a4 + ((-340282366920938463463374607431768211456) * a5 + ((-1461501637330902918203684832716283019655932542976) * a6 + 0))))))) = 0 := he _ List.mem_cons_self
  have e1 : ((-1) : Int) + (1 * (zk_xe w 2000070 a0) + 0) = 0 := he _ (List.mem_cons_of_mem _ List.mem_cons_self)
  have e2 : (0 : Int) + ((-1) * a2 + (1 * a7 + 0)) = 0 := he _ (List.mem_cons_of_mem _ (List.mem_cons_of_mem _ List.mem_cons_self))
  have e3 : (0 : Int) + ((-8000) * a2 + (1 * a8 + ((-1) * (zk_xe w 207 a7) + 0))) = 0 := he _ (List.mem_cons_of_mem _ (List.mem_cons_of_mem _ (List.mem_cons_of_mem _ List.mem_cons_self)))
  have e4 : (0 : Int) + (1 * a9 + 0) = 0 := he _ (List.mem_cons_of_mem _ (List.mem_cons_of_mem _ (List.mem_cons_of_mem _ (List.mem_cons_of_mem _ List.mem_cons_self))))
  have e5 : ((-1) : Int) + (1 * (zk_el w' 207 j) + ((-1) * (zk_xe w 207 a7) + 0)) = 0 := he _ (List.mem_cons_of_mem _ (List.mem_cons_of_mem _ (List.mem_cons_of_mem _ (List.mem_cons_of_mem _ (List.mem_cons_of_mem _ List.mem_cons_self)))))
  have e6 : (0 : Int) + (1 * j + ((-1) * a2 + 0)) = 0 := he _ (List.mem_cons_of_mem _ (List.mem_cons_of_mem _ (List.mem_cons_of_mem _ (List.mem_cons_of_mem _ (List.mem_cons_of_mem _ (List.mem_cons_of_mem _ List.mem_cons_self))))))
  have e7 : ((-6) : Int) + (1 * (zk_xe w 208 a10) + 0) = 0 := he _ (List.mem_cons_of_mem _ (List.mem_cons_of_mem _ (List.mem_cons_of_mem _ (List.mem_cons_of_mem _ (List.mem_cons_of_mem _ (List.mem_cons_of_mem _ (List.mem_cons_of_mem _ List.mem_cons_self)))))))
  have e8 : (0 : Int) + ((-1) * (zk_xe w 209 a8) + (1 * (zk_xe w 209 a10) + 0)) = 0 := he _ (List.mem_cons_of_mem _ (List.mem_cons_of_mem _ (List.mem_cons_of_mem _ (List.mem_cons_of_mem _ (List.mem_cons_of_mem _ (List.mem_cons_of_mem _ (List.mem_cons_of_mem _ (List.mem_cons_of_mem _ List.mem_cons_self))))))))
  have e9 : (0 : Int) + ((-1) * (zk_xe w 210 a8) + (1 * (zk_xe w 210 a10) + 0)) = 0 := he _ (List.mem_cons_of_mem _ (List.mem_cons_of_mem _ (List.mem_cons_of_mem _ (List.mem_cons_of_mem _ (List.mem_cons_of_mem _ (List.mem_cons_of_mem _ (List.mem_cons_of_mem _ (List.mem_cons_of_mem _ (List.mem_cons_of_mem _ List.mem_cons_self)))))))))
  have e10 : (0 : Int) + (1 * (zk_xe w 211 a10) + 0) = 0 := he _ (List.mem_cons_of_mem _ (List.mem_cons_of_mem _ (List.mem_cons_of_mem _ (List.mem_cons_of_mem _ (List.mem_cons_of_mem _ (List.mem_cons_of_mem _ (List.mem_cons_of_mem _ (List.mem_cons_of_mem _ (List.mem_cons_of_mem _ (List.mem_cons_of_mem _ List.mem_cons_self))))))))))
  have e11 : (0 : Int) + ((-1) * a2 + (1 * a11 + 0)) = 0 := he _ (List.mem_cons_of_mem _ (List.mem_cons_of_mem _ (List.mem_cons_of_mem _ (List.mem_cons_of_mem _ (List.mem_cons_of_mem _ (List.mem_cons_of_mem _ (List.mem_cons_of_mem _ (List.mem_cons_of_mem _ (List.mem_cons_of_mem _ (List.mem_cons_of_mem _ (List.mem_cons_of_mem _ List.mem_cons_self)))))))))))
  have e12 : (0 : Int) + (1 * a12 + 0) = 0 := he _ (List.mem_cons_of_mem _ (List.mem_cons_of_mem _ (List.mem_cons_of_mem _ (List.mem_cons_of_mem _ (List.mem_cons_of_mem _ (List.mem_cons_of_mem _ (List.mem_cons_of_mem _ (List.mem_cons_of_mem _ (List.mem_cons_of_mem _ (List.mem_cons_of_mem _ (List.mem_cons_of_mem _ (List.mem_cons_of_mem _ List.mem_cons_self))))))))))))
  have e13 : ((-1) : Int) + (1 * (zk_xe w 250 a12) + 0) = 0 := he _ (List.mem_cons_of_mem _ (List.mem_cons_of_mem _ (List.mem_cons_of_mem _ (List.mem_cons_of_mem _ (List.mem_cons_of_mem _ (List.mem_cons_of_mem _ (List.mem_cons_of_mem _ (List.mem_cons_of_mem _ (List.mem_cons_of_mem _ (List.mem_cons_of_mem _ (List.mem_cons_of_mem _ (List.mem_cons_of_mem _ (List.mem_cons_of_mem _ List.mem_cons_self)))))))))))))
  have g0 : 0 ≤ (0 : Int) + (1 * a1 + 0) := hg _ List.mem_cons_self
  have g1 : 0 ≤ (4294967294 : Int) + ((-1) * a1 + 0) := hg _ (List.mem_cons_of_mem _ List.mem_cons_self)
  have g2 : 0 ≤ (0 : Int) + (1 * a2 + 0) := hg _ (List.mem_cons_of_mem _ (List.mem_cons_of_mem _ List.mem_cons_self))
  have g3 : 0 ≤ (4294967294 : Int) + ((-1) * a2 + 0) := hg _ (List.mem_cons_of_mem _ (List.mem_cons_of_mem _ (List.mem_cons_of_mem _ List.mem_cons_self)))
  have g4 : 0 ≤ (0 : Int) + (1 * a3 + 0) := hg _ (List.mem_cons_of_mem _ (List.mem_cons_of_mem _ (List.mem_cons_of_mem _ (List.mem_cons_of_mem _ List.mem_cons_self))))
  have g5 : 0 ≤ (4294967294 : Int) + ((-1) * a3 + 0) := hg _ (List.mem_cons_of_mem _ (List.mem_cons_of_mem _ (List.mem_cons_of_mem _ (List.mem_cons_of_mem _ (List.mem_cons_of_mem _ List.mem_cons_self)))))
  have g6 : 0 ≤ (0 : Int) + (1 * a4 + 0) := hg _ (List.mem_cons_of_mem _ (List.mem_cons_of_mem _ (List.mem_cons_of_mem _ (List.mem_cons_of_mem _ (List.mem_cons_of_mem _ (List.mem_cons_of_mem _ List.mem_cons_self))))))
  have g7 : 0 ≤ (4294967294 : Int) + ((-1) * a4 + 0) := hg _ (List.mem_cons_of_mem _ (List.mem_cons_of_mem _ (List.mem_cons_of_mem _ (List.mem_cons_of_mem _ (List.mem_cons_of_mem _ (List.mem_cons_of_mem _ (List.mem_cons_of_mem _ List.mem_cons_self)))))))
  have g8 : 0 ≤ (0 : Int) + (1 * a5 + 0) := hg _ (List.mem_cons_of_mem _ (List.mem_cons_of_mem _ (List.mem_cons_of_mem _ (List.mem_cons_of_mem _ (List.mem_cons_of_mem _ (List.mem_cons_of_mem _ (List.mem_cons_of_mem _ (List.mem_cons_of_mem _ List.mem_cons_self))))))))
  have g9 : 0 ≤ (4294967294 : Int) + ((-1) * a5 + 0) := hg _ (List.mem_cons_of_mem _ (List.mem_cons_of_mem _ (List.mem_cons_of_mem _ (List.mem_cons_of_mem _ (List.mem_cons_of_mem _ (List.mem_cons_of_mem _ (List.mem_cons_of_mem _ (List.mem_cons_of_mem _ (List.mem_cons_of_mem _ List.mem_cons_self)))))))))
  have g10 : 0 ≤ (0 : Int) + (1 * a6 + 0) := hg _ (List.mem_cons_of_mem _ (List.mem_cons_of_mem _ (List.mem_cons_of_mem _ (List.mem_cons_of_mem _ (List.mem_cons_of_mem _ (List.mem_cons_of_mem _ (List.mem_cons_of_mem _ (List.mem_cons_of_mem _ (List.mem_cons_of_mem _ (List.mem_cons_of_mem _ List.mem_cons_self))))))))))
  have g11 : 0 ≤ (4294967294 : Int) + ((-1) * a6 + 0) := hg _ (List.mem_cons_of_mem _ (List.mem_cons_of_mem _ (List.mem_cons_of_mem _ (List.mem_cons_of_mem _ (List.mem_cons_of_mem _ (List.mem_cons_of_mem _ (List.mem_cons_of_mem _ (List.mem_cons_of_mem _ (List.mem_cons_of_mem _ (List.mem_cons_of_mem _ (List.mem_cons_of_mem _ List.mem_cons_self)))))))))))
  have g12 : 0 ≤ (0 : Int) + (1 * (zk_xe w 207 a7) + 0) := hg _ (List.mem_cons_of_mem _ (List.mem_cons_of_mem _ (List.mem_cons_of_mem _ (List.mem_cons_of_mem _ (List.mem_cons_of_mem _ (List.mem_cons_of_mem _ (List.mem_cons_of_mem _ (List.mem_cons_of_mem _ (List.mem_cons_of_mem _ (List.mem_cons_of_mem _ (List.mem_cons_of_mem _ (List.mem_cons_of_mem _ List.mem_cons_self))))))))))))
  have g13 : 0 ≤ ((-12) : Int) + (1 * (zk_xe w 208 a8) + 0) := hg _ (List.mem_cons_of_mem _ (List.mem_cons_of_mem _ (List.mem_cons_of_mem _ (List.mem_cons_of_mem _ (List.mem_cons_of_mem _ (List.mem_cons_of_mem _ (List.mem_cons_of_mem _ (List.mem_cons_of_mem _ (List.mem_cons_of_mem _ (List.mem_cons_of_mem _ (List.mem_cons_of_mem _ (List.mem_cons_of_mem _ (List.mem_cons_of_mem _ List.mem_cons_self)))))))))))))
  have g14 : 0 ≤ (12 : Int) + ((-1) * (zk_xe w 208 a8) + 0) := hg _ (List.mem_cons_of_mem _ (List.mem_cons_of_mem _ (List.mem_cons_of_mem _ (List.mem_cons_of_mem _ (List.mem_cons_of_mem _ (List.mem_cons_of_mem _ (List.mem_cons_of_mem _ (List.mem_cons_of_mem _ (List.mem_cons_of_mem _ (List.mem_cons_of_mem _ (List.mem_cons_of_mem _ (List.mem_cons_of_mem _ (List.mem_cons_of_mem _ (List.mem_cons_of_mem _ List.mem_cons_self))))))))))))))
  have g15 : 0 ≤ (0 : Int) + ((-8000) * a2 + (1 * a10 + 0)) := hg _ (List.mem_cons_of_mem _ (List.mem_cons_of_mem _ (List.mem_cons_of_mem _ (List.mem_cons_of_mem _ (List.mem_cons_of_mem _ (List.mem_cons_of_mem _ (List.mem_cons_of_mem _ (List.mem_cons_of_mem _ (List.mem_cons_of_mem _ (List.mem_cons_of_mem _ (List.mem_cons_of_mem _ (List.mem_cons_of_mem _ (List.mem_cons_of_mem _ (List.mem_cons_of_mem _ (List.mem_cons_of_mem _ List.mem_cons_self)))))))))))))))
  have g16 : 0 ≤ ((-1) : Int) + (1 * a8 + ((-1) * a10 + 0)) := hg _ (List.mem_cons_of_mem _ (List.mem_cons_of_mem _ (List.mem_cons_of_mem _ (List.mem_cons_of_mem _ (List.mem_cons_of_mem _ (List.mem_cons_of_mem _ (List.mem_cons_of_mem _ (List.mem_cons_of_mem _ (List.mem_cons_of_mem _ (List.mem_cons_of_mem _ (List.mem_cons_of_mem _ (List.mem_cons_of_mem _ (List.mem_cons_of_mem _ (List.mem_cons_of_mem _ (List.mem_cons_of_mem _ (List.mem_cons_of_mem _ List.mem_cons_self))))))))))))))))
  have g17 : 0 ≤ (1 : Int) + ((-8000) * a2 + (1 * a10 + ((-1) * (zk_xe w 2000073 a11) + 0))) := hg _ (List.mem_cons_of_mem _ (List.mem_cons_of_mem _ (List.mem_cons_of_mem _ (List.mem_cons_of_mem _ (List.mem_cons_of_mem _ (List.mem_cons_of_mem _ (List.mem_cons_of_mem _ (List.mem_cons_of_mem _ (List.mem_cons_of_mem _ (List.mem_cons_of_mem _ (List.mem_cons_of_mem _ (List.mem_cons_of_mem _ (List.mem_cons_of_mem _ (List.mem_cons_of_mem _ (List.mem_cons_of_mem _ (List.mem_cons_of_mem _ (List.mem_cons_of_mem _ List.mem_cons_self)))))))))))))))))
  have e9z : a9 = 0 := by omega
  have ej : j = a2 := by omega
  subst ej
  have hn : zh_e w 207 (j) = zk_xe w 207 a7 := by rw [zk_xe_r (i := 207) (by decide)]; show zk_el w 207 (j) = zk_el w 207 a7; rw [show j = a7 by omega]
  have k0 : zh_e w 208 (8000 * j + zk_xe w 207 a7) = zk_xe w 208 a8 := by rw [zk_xe_r (i := 208) (by decide)]; show zk_el w 208 (8000 * j + zk_xe w 207 a7) = zk_el w 208 a8; rw [show 8000 * j + zk_xe w 207 a7 = a8 by omega]
  have k1 : zh_e w 209 (8000 * j + zk_xe w 207 a7) = zk_xe w 209 a8 := by rw [zk_xe_r (i := 209) (by decide)]; show zk_el w 209 (8000 * j + zk_xe w 207 a7) = zk_el w 209 a8; rw [show 8000 * j + zk_xe w 207 a7 = a8 by omega]
  have k2 : zh_e w 210 (8000 * j + zk_xe w 207 a7) = zk_xe w 210 a8 := by rw [zk_xe_r (i := 210) (by decide)]; show zk_el w 210 (8000 * j + zk_xe w 207 a7) = zk_el w 210 a8; rw [show 8000 * j + zk_xe w 207 a7 = a8 by omega]
  have k3 : zh_e w 211 (8000 * j + zk_xe w 207 a7) = zk_xe w 211 a8 := by rw [zk_xe_r (i := 211) (by decide)]; show zk_el w 211 (8000 * j + zk_xe w 207 a7) = zk_el w 211 a8; rw [show 8000 * j + zk_xe w 207 a7 = a8 by omega]
  have k4 : zh_e w 212 (8000 * j + zk_xe w 207 a7) = zk_xe w 212 a8 := by rw [zk_xe_r (i := 212) (by decide)]; show zk_el w 212 (8000 * j + zk_xe w 207 a7) = zk_el w 212 a8; rw [show 8000 * j + zk_xe w 207 a7 = a8 by omega]
  have p0 : zh_e w 208 (a10) = zk_xe w 208 a10 := by rw [zk_xe_r (i := 208) (by decide)]; show zk_el w 208 (a10) = zk_el w 208 a10; rw [show a10 = a10 by omega]
  have p1 : zh_e w 209 (a10) = zk_xe w 209 a10 := by rw [zk_xe_r (i := 209) (by decide)]; show zk_el w 209 (a10) = zk_el w 209 a10; rw [show a10 = a10 by omega]
  have p2 : zh_e w 210 (a10) = zk_xe w 210 a10 := by rw [zk_xe_r (i := 210) (by decide)]; show zk_el w 210 (a10) = zk_el w 210 a10; rw [show a10 = a10 by omega]
  have p3 : zh_e w 211 (a10) = zk_xe w 211 a10 := by rw [zk_xe_r (i := 211) (by decide)]; show zk_el w 211 (a10) = zk_el w 211 a10; rw [show a10 = a10 by omega]
  have e12z : a12 = 0 := by omega
  have h0 : zh_e w 250 0 = zk_xe w 250 a12 := by rw [zk_xe_r (i := 250) (by decide), show a12 = 0 by omega]; rfl
  have e11 : a11 = j := by omega
  have hT : zk_xe w 2000071 a9 = 0 → ∀ m : Int, zk_xe w 2000073 a11 ≤ m → m < zk_xe w 207 a7 → 3 ≤ zh_e w 208 (8000 * j + m) ∧ zh_e w 208 (8000 * j + m) ≤ 10 ∧ zh_e w 250 0 ≤ zh_e w 211 (8000 * j + m) := by
    intro q
    rw [e11]
    rcases zs_71c (w := w) (j := a9) with ⟨y, -⟩ | ⟨-, y⟩
    · omega
    · rw [zs_73, zs_T0 y, hn]
      obtain ⟨-, -, q3⟩ := zs_tb (sw := zh_e w 208) (sc := zh_e w 211) (o := zh_e w 250 0) (b := 8000 * j) (n := (zk_xe w 207 a7).toNat)
      exact fun m m1 m2 => q3 m m1 (by omega)
  have hx := zs_71c (w := w) (j := a9)
  have hp := (zs_70 (w := w) (j := a0) (n := a1) (u := j) (c := a3) (z := a4) (m := a5) (l := a6) (by omega) (by omega) (by omega) (by omega) (by omega) (by omega) (by omega) (by omega) (by omega) (by omega) (by omega) (by omega) (by omega) ).mp (by omega)
  have h : zs_ps w' a1 j a3 a4 a5 a6 := by
    unfold zs_ps at hp ⊢
    rw [zh_e_g (hw.1 224 (by decide)), zh_e_g (hw.1 250 (by decide)), zh_e_g (hw.1 240 (by decide)), zh_e_g (hw.1 241 (by decide)), zh_e_g (hw.1 242 (by decide)), zh_e_g (hw.1 253 (by decide)), zh_e_g (hw.1 227 (by decide)), zh_e_g (hw.1 226 (by decide))]
    rcases hp with h | ⟨h1, h2, h3, h4⟩
    · exact Or.inl h
    · rcases hx with ⟨-, hx⟩ | ⟨hx, -⟩
      · exact Or.inl hx
      · refine Or.inr ⟨zs_more hw hn (by omega) (by omega) h1 ?_, h2, h3, h4⟩
        unfold zs_st
        rw [k0, k1, k2, k3, k4]
        refine ⟨fun q1 q2 => by omega, fun q => by omega, fun q => by omega, fun q => by omega, fun q => by omega, fun q => ⟨a10, by omega, by omega, by omega, by omega, by omega, by omega, fun m m1 m2 => ?_⟩, fun q => by omega, fun q => by omega⟩
        have t := hT hx (m - 8000 * j) (by omega) (by omega)
        rw [show 8000 * j + (m - 8000 * j) = m by omega] at t
        exact ⟨t.1, t.2.1, by omega⟩
  exact (zx_eF1 (by show 0 ≤ (0 : Int) + (1 * a0 + 0); omega) (by show zk_xe w' 2000070 ((0 : Int) + (1 * a0 + 0)) = (1 : Int) + (0); rw [show (0 : Int) + (1 * a0 + 0) = a0 by omega]; exact ((zs_70 (w := w') (j := a0) (n := a1) (u := j) (c := a3) (z := a4) (m := a5) (l := a6) (by omega) (by omega) (by omega) (by omega) (by omega) (by omega) (by omega) (by omega) (by omega) (by omega) (by omega) (by omega) (by omega) ).mpr h).trans (by omega)) zx_eF0)
def zx_E579 : zx_V := zx_Vc 207 [] 11 [(2000070, 0), (207, 7), (208, 8), (209, 8), (210, 8), (211, 8), (212, 8), (2000071, 9), (2000179, 10)] [((0, 0), [(2, 1, 0), (3, 0, 1), (4, 0, 4294967296), (5, 0, 18446744073709551616), (6, 0, 79228162514264337593543950336), (7, 0, 340282366920938463463374607431768211456), (8, 0, 1461501637330902918203684832716283019655932542976)]), ((0, 1), [(13, 1, 0)]), ((0, 0), [(4, 0, 1), (9, 1, 0)]), ((0, 0), [(4, 0, 8000), (10, 1, 0), (14, 0, 1)]), ((0, 0), [(11, 1, 0)]), ((0, 1), [(1, 1, 0), (14, 0, 1)]), ((0, 0), [(0, 1, 0), (4, 0, 1)]), ((0, 0), [(4, 0, 1), (12, 1, 0)])] [((0, 0), [(3, 1, 0)]), ((4294967294, 0), [(3, 0, 1)]), ((0, 0), [(4, 1, 0)]), ((4294967294, 0), [(4, 0, 1)]), ((0, 0), [(5, 1, 0)]), ((4294967294, 0), [(5, 0, 1)]), ((0, 0), [(6, 1, 0)]), ((4294967294, 0), [(6, 0, 1)]), ((0, 0), [(7, 1, 0)]), ((4294967294, 0), [(7, 0, 1)]), ((0, 0), [(8, 1, 0)]), ((4294967294, 0), [(8, 0, 1)]), ((0, 0), [(14, 1, 0)]), ((0, 0), [(15, 1, 0)]), ((0, 0), [(15, 0, 1)]), ((0, 1), [(20, 8589934592, 0), (21, 1, 0)])] [(2000070, ((0, 0), [(2, 1, 0)]), ((1, 0), []))]
theorem zx_E579_ok {PT : Nat → zz_W → Prop} : zx_Vok 64 zHT PT zx_E579 := by
  refine zx_Vc_ok (fun w w' j ins hI hI' h0 hw hK hl he hg => ?_)
  obtain ⟨a0, a1, a2, a3, a4, a5, a6, a7, a8, a9, a10, rfl⟩ := zx_i11 hl
  have e0 : (0 : Int) + (1 * a0 + ((-1) * a1 + ((-4294967296) * a2 + ((-18446744073709551616) * a3 + ((-79228162514264337593543950336) * a4 + ((-340282366920938463463374607431768211456) * a5 + ((-1461501637330902918203684832716283019655932542976) * a6 + 0))))))) = 0 := he _ List.mem_cons_self
  have e1 : ((-1) : Int) + (1 * (zk_xe w 2000070 a0) + 0) = 0 := he _ (List.mem_cons_of_mem _ List.mem_cons_self)
  have e2 : (0 : Int) + ((-1) * a2 + (1 * a7 + 0)) = 0 := he _ (List.mem_cons_of_mem _ (List.mem_cons_of_mem _ List.mem_cons_self))
  have e3 : (0 : Int) + ((-8000) * a2 + (1 * a8 + ((-1) * (zk_xe w 207 a7) + 0))) = 0 := he _ (List.mem_cons_of_mem _ (List.mem_cons_of_mem _ (List.mem_cons_of_mem _ List.mem_cons_self)))
  have e4 : (0 : Int) + (1 * a9 + 0) = 0 := he _ (List.mem_cons_of_mem _ (List.mem_cons_of_mem _ (List.mem_cons_of_mem _ (List.mem_cons_of_mem _ List.mem_cons_self))))
  have e5 : ((-1) : Int) + (1 * (zk_el w' 207 j) + ((-1) * (zk_xe w 207 a7) + 0)) = 0 := he _ (List.mem_cons_of_mem _ (List.mem_cons_of_mem _ (List.mem_cons_of_mem _ (List.mem_cons_of_mem _ (List.mem_cons_of_mem _ List.mem_cons_self)))))
  have e6 : (0 : Int) + (1 * j + ((-1) * a2 + 0)) = 0 := he _ (List.mem_cons_of_mem _ (List.mem_cons_of_mem _ (List.mem_cons_of_mem _ (List.mem_cons_of_mem _ (List.mem_cons_of_mem _ (List.mem_cons_of_mem _ List.mem_cons_self))))))
  have e7 : (0 : Int) + ((-1) * a2 + (1 * a10 + 0)) = 0 := he _ (List.mem_cons_of_mem _ (List.mem_cons_of_mem _ (List.mem_cons_of_mem _ (List.mem_cons_of_mem _ (List.mem_cons_of_mem _ (List.mem_cons_of_mem _ (List.mem_cons_of_mem _ List.mem_cons_self)))))))
  have g0 : 0 ≤ (0 : Int) + (1 * a1 + 0) := hg _ List.mem_cons_self
  have g1 : 0 ≤ (4294967294 : Int) + ((-1) * a1 + 0) := hg _ (List.mem_cons_of_mem _ List.mem_cons_self)
  have g2 : 0 ≤ (0 : Int) + (1 * a2 + 0) := hg _ (List.mem_cons_of_mem _ (List.mem_cons_of_mem _ List.mem_cons_self))
  have g3 : 0 ≤ (4294967294 : Int) + ((-1) * a2 + 0) := hg _ (List.mem_cons_of_mem _ (List.mem_cons_of_mem _ (List.mem_cons_of_mem _ List.mem_cons_self)))
  have g4 : 0 ≤ (0 : Int) + (1 * a3 + 0) := hg _ (List.mem_cons_of_mem _ (List.mem_cons_of_mem _ (List.mem_cons_of_mem _ (List.mem_cons_of_mem _ List.mem_cons_self))))
  have g5 : 0 ≤ (4294967294 : Int) + ((-1) * a3 + 0) := hg _ (List.mem_cons_of_mem _ (List.mem_cons_of_mem _ (List.mem_cons_of_mem _ (List.mem_cons_of_mem _ (List.mem_cons_of_mem _ List.mem_cons_self)))))
  have g6 : 0 ≤ (0 : Int) + (1 * a4 + 0) := hg _ (List.mem_cons_of_mem _ (List.mem_cons_of_mem _ (List.mem_cons_of_mem _ (List.mem_cons_of_mem _ (List.mem_cons_of_mem _ (List.mem_cons_of_mem _ List.mem_cons_self))))))
  have g7 : 0 ≤ (4294967294 : Int) + ((-1) * a4 + 0) := hg _ (List.mem_cons_of_mem _ (List.mem_cons_of_mem _ (List.mem_cons_of_mem _ (List.mem_cons_of_mem _ (List.mem_cons_of_mem _ (List.mem_cons_of_mem _ (List.mem_cons_of_mem _ List.mem_cons_self)))))))
  have g8 : 0 ≤ (0 : Int) + (1 * a5 + 0) := hg _ (List.mem_cons_of_mem _ (List.mem_cons_of_mem _ (List.mem_cons_of_mem _ (List.mem_cons_of_mem _ (List.mem_cons_of_mem _ (List.mem_cons_of_mem _ (List.mem_cons_of_mem _ (List.mem_cons_of_mem _ List.mem_cons_self))))))))
  have g9 : 0 ≤ (4294967294 : Int) + ((-1) * a5 + 0) := hg _ (List.mem_cons_of_mem _ (List.mem_cons_of_mem _ (List.mem_cons_of_mem _ (List.mem_cons_of_mem _ (List.mem_cons_of_mem _ (List.mem_cons_of_mem _ (List.mem_cons_of_mem _ (List.mem_cons_of_mem _ (List.mem_cons_of_mem _ List.mem_cons_self)))))))))
  have g10 : 0 ≤ (0 : Int) + (1 * a6 + 0) := hg _ (List.mem_cons_of_mem _ (List.mem_cons_of_mem _ (List.mem_cons_of_mem _ (List.mem_cons_of_mem _ (List.mem_cons_of_mem _ (List.mem_cons_of_mem _ (List.mem_cons_of_mem _ (List.mem_cons_of_mem _ (List.mem_cons_of_mem _ (List.mem_cons_of_mem _ List.mem_cons_self))))))))))
  have g11 : 0 ≤ (4294967294 : Int) + ((-1) * a6 + 0) := hg _ (List.mem_cons_of_mem _ (List.mem_cons_of_mem _ (List.mem_cons_of_mem _ (List.mem_cons_of_mem _ (List.mem_cons_of_mem _ (List.mem_cons_of_mem _ (List.mem_cons_of_mem _ (List.mem_cons_of_mem _ (List.mem_cons_of_mem _ (List.mem_cons_of_mem _ (List.mem_cons_of_mem _ List.mem_cons_self)))))))))))
  have g12 : 0 ≤ (0 : Int) + (1 * (zk_xe w 207 a7) + 0) := hg _ (List.mem_cons_of_mem _ (List.mem_cons_of_mem _ (List.mem_cons_of_mem _ (List.mem_cons_of_mem _ (List.mem_cons_of_mem _ (List.mem_cons_of_mem _ (List.mem_cons_of_mem _ (List.mem_cons_of_mem _ (List.mem_cons_of_mem _ (List.mem_cons_of_mem _ (List.mem_cons_of_mem _ (List.mem_cons_of_mem _ List.mem_cons_self))))))))))))
  have g13 : 0 ≤ (0 : Int) + (1 * (zk_xe w 208 a8) + 0) := hg _ (List.mem_cons_of_mem _ (List.mem_cons_of_mem _ (List.mem_cons_of_mem _ (List.mem_cons_of_mem _ (List.mem_cons_of_mem _ (List.mem_cons_of_mem _ (List.mem_cons_of_mem _ (List.mem_cons_of_mem _ (List.mem_cons_of_mem _ (List.mem_cons_of_mem _ (List.mem_cons_of_mem _ (List.mem_cons_of_mem _ (List.mem_cons_of_mem _ List.mem_cons_self)))))))))))))
  have g14 : 0 ≤ (0 : Int) + ((-1) * (zk_xe w 208 a8) + 0) := hg _ (List.mem_cons_of_mem _ (List.mem_cons_of_mem _ (List.mem_cons_of_mem _ (List.mem_cons_of_mem _ (List.mem_cons_of_mem _ (List.mem_cons_of_mem _ (List.mem_cons_of_mem _ (List.mem_cons_of_mem _ (List.mem_cons_of_mem _ (List.mem_cons_of_mem _ (List.mem_cons_of_mem _ (List.mem_cons_of_mem _ (List.mem_cons_of_mem _ (List.mem_cons_of_mem _ List.mem_cons_self))))))))))))))
  have g15 : 0 ≤ ((-1) : Int) + (8589934592 * (zk_xe w 2000071 a9) + (1 * (zk_xe w 2000179 a10) + 0)) := hg _ (List.mem_cons_of_mem _ (List.mem_cons_of_mem _ (List.mem_cons_of_mem _ (List.mem_cons_of_mem _ (List.mem_cons_of_mem _ (List.mem_cons_of_mem _ (List.mem_cons_of_mem _ (List.mem_cons_of_mem _ (List.mem_cons_of_mem _ (List.mem_cons_of_mem _ (List.mem_cons_of_mem _ (List.mem_cons_of_mem _ (List.mem_cons_of_mem _ (List.mem_cons_of_mem _ (List.mem_cons_of_mem _ List.mem_cons_self)))))))))))))))
  have e9z : a9 = 0 := by omega
  have ej : j = a2 := by omega
  subst ej
  have hn : zh_e w 207 (j) = zk_xe w 207 a7 := by rw [zk_xe_r (i := 207) (by decide)]; show zk_el w 207 (j) = zk_el w 207 a7; rw [show j = a7 by omega]
  have k0 : zh_e w 208 (8000 * j + zk_xe w 207 a7) = zk_xe w 208 a8 := by rw [zk_xe_r (i := 208) (by decide)]; show zk_el w 208 (8000 * j + zk_xe w 207 a7) = zk_el w 208 a8; rw [show 8000 * j + zk_xe w 207 a7 = a8 by omega]
  have k1 : zh_e w 209 (8000 * j + zk_xe w 207 a7) = zk_xe w 209 a8 := by rw [zk_xe_r (i := 209) (by decide)]; show zk_el w 209 (8000 * j + zk_xe w 207 a7) = zk_el w 209 a8; rw [show 8000 * j + zk_xe w 207 a7 = a8 by omega]
  have k2 : zh_e w 210 (8000 * j + zk_xe w 207 a7) = zk_xe w 210 a8 := by rw [zk_xe_r (i := 210) (by decide)]; show zk_el w 210 (8000 * j + zk_xe w 207 a7) = zk_el w 210 a8; rw [show 8000 * j + zk_xe w 207 a7 = a8 by omega]
  have k3 : zh_e w 211 (8000 * j + zk_xe w 207 a7) = zk_xe w 211 a8 := by rw [zk_xe_r (i := 211) (by decide)]; show zk_el w 211 (8000 * j + zk_xe w 207 a7) = zk_el w 211 a8; rw [show 8000 * j + zk_xe w 207 a7 = a8 by omega]
  have k4 : zh_e w 212 (8000 * j + zk_xe w 207 a7) = zk_xe w 212 a8 := by rw [zk_xe_r (i := 212) (by decide)]; show zk_el w 212 (8000 * j + zk_xe w 207 a7) = zk_el w 212 a8; rw [show 8000 * j + zk_xe w 207 a7 = a8 by omega]
  have e10 : a10 = j := by omega
  have hl : zk_xe w 2000179 a10 = zh_b (zh_e w 207 j ≤ 0 ∨ zh_e w 208 (8000 * j + zh_e w 207 j - 1) = 1) := by
    rw [show (2000179 : Nat) = 2000000 + 179 from rfl, zk_xe_h, e10]
    rfl
  rw [hn] at hl
  have hx2 : zk_xe w 2000071 a9 = 0 → zk_xe w 207 a7 ≤ 0 ∨ zh_e w 208 (8000 * j + zk_xe w 207 a7 - 1) = 1 := by
    intro q
    by_cases c : zk_xe w 207 a7 ≤ 0 ∨ zh_e w 208 (8000 * j + zk_xe w 207 a7 - 1) = 1
    · exact c
    · rw [zh_b0 c] at hl
      omega
  have hx := zs_71c (w := w) (j := a9)
  have hp := (zs_70 (w := w) (j := a0) (n := a1) (u := j) (c := a3) (z := a4) (m := a5) (l := a6) (by omega) (by omega) (by omega) (by omega) (by omega) (by omega) (by omega) (by omega) (by omega) (by omega) (by omega) (by omega) (by omega) ).mp (by omega)
  have h : zs_ps w' a1 j a3 a4 a5 a6 := by
    unfold zs_ps at hp ⊢
    rw [zh_e_g (hw.1 224 (by decide)), zh_e_g (hw.1 250 (by decide)), zh_e_g (hw.1 240 (by decide)), zh_e_g (hw.1 241 (by decide)), zh_e_g (hw.1 242 (by decide)), zh_e_g (hw.1 253 (by decide)), zh_e_g (hw.1 227 (by decide)), zh_e_g (hw.1 226 (by decide))]
    rcases hp with h | ⟨h1, h2, h3, h4⟩
    · exact Or.inl h
    · rcases hx with ⟨-, hx⟩ | ⟨hx, -⟩
      · exact Or.inl hx
      · refine Or.inr ⟨zs_more hw hn (by omega) (by omega) h1 ?_, h2, h3, h4⟩
        unfold zs_st
        rw [k0, k1, k2, k3, k4]
        refine ⟨fun q1 q2 => by omega, fun q => by omega, fun q => by omega, fun q => by omega, fun q => by omega, fun q => by omega, fun q => by omega, fun _ => ?_⟩
        rcases hx2 hx with z | z
        · exact Or.inl (by omega)
        · exact Or.inr z
  exact (zx_eF1 (by show 0 ≤ (0 : Int) + (1 * a0 + 0); omega) (by show zk_xe w' 2000070 ((0 : Int) + (1 * a0 + 0)) = (1 : Int) + (0); rw [show (0 : Int) + (1 * a0 + 0) = a0 by omega]; exact ((zs_70 (w := w') (j := a0) (n := a1) (u := j) (c := a3) (z := a4) (m := a5) (l := a6) (by omega) (by omega) (by omega) (by omega) (by omega) (by omega) (by omega) (by omega) (by omega) (by omega) (by omega) (by omega) (by omega) ).mpr h).trans (by omega)) zx_eF0)
def zx_E578 : zx_V := zx_Vc 207 [] 12 [(2000070, 0), (207, 7), (208, 8), (209, 8), (210, 8), (211, 8), (212, 8), (2000071, 9), (208, 10), (2000073, 11)] [((0, 0), [(2, 1, 0), (3, 0, 1), (4, 0, 4294967296), (5, 0, 18446744073709551616), (6, 0, 79228162514264337593543950336), (7, 0, 340282366920938463463374607431768211456), (8, 0, 1461501637330902918203684832716283019655932542976)]), ((0, 1), [(14, 1, 0)]), ((0, 0), [(4, 0, 1), (9, 1, 0)]), ((0, 0), [(4, 0, 8000), (10, 1, 0), (15, 0, 1)]), ((0, 0), [(11, 1, 0)]), ((0, 1), [(1, 1, 0), (15, 0, 1)]), ((0, 0), [(0, 1, 0), (4, 0, 1)]), ((0, 2), [(22, 1, 0)]), ((0, 0), [(4, 0, 1), (13, 1, 0)])] [((0, 0), [(3, 1, 0)]), ((4294967294, 0), [(3, 0, 1)]), ((0, 0), [(4, 1, 0)]), ((4294967294, 0), [(4, 0, 1)]), ((0, 0), [(5, 1, 0)]), ((4294967294, 0), [(5, 0, 1)]), ((0, 0), [(6, 1, 0)]), ((4294967294, 0), [(6, 0, 1)]), ((0, 0), [(7, 1, 0)]), ((4294967294, 0), [(7, 0, 1)]), ((0, 0), [(8, 1, 0)]), ((4294967294, 0), [(8, 0, 1)]), ((0, 0), [(15, 1, 0)]), ((0, 20), [(16, 1, 0)]), ((20, 0), [(16, 0, 1)]), ((0, 0), [(4, 0, 8000), (12, 1, 0)]), ((0, 1), [(10, 1, 0), (12, 0, 1)]), ((1, 0), [(4, 0, 8000), (12, 1, 0), (23, 0, 1)])] [(2000070, ((0, 0), [(2, 1, 0)]), ((1, 0), []))]
theorem zx_E578_ok {PT : Nat → zz_W → Prop} : zx_Vok 64 zHT PT zx_E578 := by
  refine zx_Vc_ok (fun w w' j ins hI hI' h0 hw hK hl he hg => ?_)
  obtain ⟨a0, a1, a2, a3, a4, a5, a6, a7, a8, a9, a10, a11, rfl⟩ := zx_i12 hl
  have e0 : (0 : Int) + (1 * a0 + ((-1) * a1 + ((-4294967296) * a2 + ((-18446744073709551616) * a3 + ((-79228162514264337593543950336) * a4 + ((-340282366920938463463374607431768211456) * a5 + ((-1461501637330902918203684832716283019655932542976) * a6 + 0))))))) = 0 := he _ List.mem_cons_self
  have e1 : ((-1) : Int) + (1 * (zk_xe w 2000070 a0) + 0) = 0 := he _ (List.mem_cons_of_mem _ List.mem_cons_self)
  have e2 : (0 : Int) + ((-1) * a2 + (1 * a7 + 0)) = 0 := he _ (List.mem_cons_of_mem _ (List.mem_cons_of_mem _ List.mem_cons_self))
  have e3 : (0 : Int) + ((-8000) * a2 + (1 * a8 + ((-1) * (zk_xe w 207 a7) + 0))) = 0 := he _ (List.mem_cons_of_mem _ (List.mem_cons_of_mem _ (List.mem_cons_of_mem _ List.mem_cons_self)))
  have e4 : (0 : Int) + (1 * a9 + 0) = 0 := he _ (List.mem_cons_of_mem _ (List.mem_cons_of_mem _ (List.mem_cons_of_mem _ (List.mem_cons_of_mem _ List.mem_cons_self))))
  have e5 : ((-1) : Int) + (1 * (zk_el w' 207 j) + ((-1) * (zk_xe w 207 a7) + 0)) = 0 := he _ (List.mem_cons_of_mem _ (List.mem_cons_of_mem _ (List.mem_cons_of_mem _ (List.mem_cons_of_mem _ (List.mem_cons_of_mem _ List.mem_cons_self)))))
  have e6 : (0 : Int) + (1 * j + ((-1) * a2 + 0)) = 0 := he _ (List.mem_cons_of_mem _ (List.mem_cons_of_mem _ (List.mem_cons_of_mem _ (List.mem_cons_of_mem _ (List.mem_cons_of_mem _ (List.mem_cons_of_mem _ List.mem_cons_self))))))
  have e7 : ((-2) : Int) + (1 * (zk_xe w 208 a10) + 0) = 0 := he _ (List.mem_cons_of_mem _ (List.mem_cons_of_mem _ (List.mem_cons_of_mem _ (List.mem_cons_of_mem _ (List.mem_cons_of_mem _ (List.mem_cons_of_mem _ (List.mem_cons_of_mem _ List.mem_cons_self)))))))
  have e8 : (0 : Int) + ((-1) * a2 + (1 * a11 + 0)) = 0 := he _ (List.mem_cons_of_mem _ (List.mem_cons_of_mem _ (List.mem_cons_of_mem _ (List.mem_cons_of_mem _ (List.mem_cons_of_mem _ (List.mem_cons_of_mem _ (List.mem_cons_of_mem _ (List.mem_cons_of_mem _ List.mem_cons_self))))))))
  have g0 : 0 ≤ (0 : Int) + (1 * a1 + 0) := hg _ List.mem_cons_self
  have g1 : 0 ≤ (4294967294 : Int) + ((-1) * a1 + 0) := hg _ (List.mem_cons_of_mem _ List.mem_cons_self)
  have g2 : 0 ≤ (0 : Int) + (1 * a2 + 0) := hg _ (List.mem_cons_of_mem _ (List.mem_cons_of_mem _ List.mem_cons_self))
  have g3 : 0 ≤ (4294967294 : Int) + ((-1) * a2 + 0) := hg _ (List.mem_cons_of_mem _ (List.mem_cons_of_mem _ (List.mem_cons_of_mem _ List.mem_cons_self)))
  have g4 : 0 ≤ (0 : Int) + (1 * a3 + 0) := hg _ (List.mem_cons_of_mem _ (List.mem_cons_of_mem _ (List.mem_cons_of_mem _ (List.mem_cons_of_mem _ List.mem_cons_self))))
  have g5 : 0 ≤ (4294967294 : Int) + ((-1) * a3 + 0) := hg _ (List.mem_cons_of_mem _ (List.mem_cons_of_mem _ (List.mem_cons_of_mem _ (List.mem_cons_of_mem _ (List.mem_cons_of_mem _ List.mem_cons_self)))))
  have g6 : 0 ≤ (0 : Int) + (1 * a4 + 0) := hg _ (List.mem_cons_of_mem _ (List.mem_cons_of_mem _ (List.mem_cons_of_mem _ (List.mem_cons_of_mem _ (List.mem_cons_of_mem _ (List.mem_cons_of_mem _ List.mem_cons_self))))))
  have g7 : 0 ≤ (4294967294 : Int) + ((-1) * a4 + 0) := hg _ (List.mem_cons_of_mem _ (List.mem_cons_of_mem _ (List.mem_cons_of_mem _ (List.mem_cons_of_mem _ (List.mem_cons_of_mem _ (List.mem_cons_of_mem _ (List.mem_cons_of_mem _ List.mem_cons_self)))))))
  have g8 : 0 ≤ (0 : Int) + (1 * a5 + 0) := hg _ (List.mem_cons_of_mem _ (List.mem_cons_of_mem _ (List.mem_cons_of_mem _ (List.mem_cons_of_mem _ (List.mem_cons_of_mem _ (List.mem_cons_of_mem _ (List.mem_cons_of_mem _ (List.mem_cons_of_mem _ List.mem_cons_self))))))))
  have g9 : 0 ≤ (4294967294 : Int) + ((-1) * a5 + 0) := hg _ (List.mem_cons_of_mem _ (List.mem_cons_of_mem _ (List.mem_cons_of_mem _ (List.mem_cons_of_mem _ (List.mem_cons_of_mem _ (List.mem_cons_of_mem _ (List.mem_cons_of_mem _ (List.mem_cons_of_mem _ (List.mem_cons_of_mem _ List.mem_cons_self)))))))))
  have g10 : 0 ≤ (0 : Int) + (1 * a6 + 0) := hg _ (List.mem_cons_of_mem _ (List.mem_cons_of_mem _ (List.mem_cons_of_mem _ (List.mem_cons_of_mem _ (List.mem_cons_of_mem _ (List.mem_cons_of_mem _ (List.mem_cons_of_mem _ (List.mem_cons_of_mem _ (List.mem_cons_of_mem _ (List.mem_cons_of_mem _ List.mem_cons_self))))))))))
  have g11 : 0 ≤ (4294967294 : Int) + ((-1) * a6 + 0) := hg _ (List.mem_cons_of_mem _ (List.mem_cons_of_mem _ (List.mem_cons_of_mem _ (List.mem_cons_of_mem _ (List.mem_cons_of_mem _ (List.mem_cons_of_mem _ (List.mem_cons_of_mem _ (List.mem_cons_of_mem _ (List.mem_cons_of_mem _ (List.mem_cons_of_mem _ (List.mem_cons_of_mem _ List.mem_cons_self)))))))))))
  have g12 : 0 ≤ (0 : Int) + (1 * (zk_xe w 207 a7) + 0) := hg _ (List.mem_cons_of_mem _ (List.mem_cons_of_mem _ (List.mem_cons_of_mem _ (List.mem_cons_of_mem _ (List.mem_cons_of_mem _ (List.mem_cons_of_mem _ (List.mem_cons_of_mem _ (List.mem_cons_of_mem _ (List.mem_cons_of_mem _ (List.mem_cons_of_mem _ (List.mem_cons_of_mem _ (List.mem_cons_of_mem _ List.mem_cons_self))))))))))))
  have g13 : 0 ≤ ((-20) : Int) + (1 * (zk_xe w 208 a8) + 0) := hg _ (List.mem_cons_of_mem _ (List.mem_cons_of_mem _ (List.mem_cons_of_mem _ (List.mem_cons_of_mem _ (List.mem_cons_of_mem _ (List.mem_cons_of_mem _ (List.mem_cons_of_mem _ (List.mem_cons_of_mem _ (List.mem_cons_of_mem _ (List.mem_cons_of_mem _ (List.mem_cons_of_mem _ (List.mem_cons_of_mem _ (List.mem_cons_of_mem _ List.mem_cons_self)))))))))))))
  have g14 : 0 ≤ (20 : Int) + ((-1) * (zk_xe w 208 a8) + 0) := hg _ (List.mem_cons_of_mem _ (List.mem_cons_of_mem _ (List.mem_cons_of_mem _ (List.mem_cons_of_mem _ (List.mem_cons_of_mem _ (List.mem_cons_of_mem _ (List.mem_cons_of_mem _ (List.mem_cons_of_mem _ (List.mem_cons_of_mem _ (List.mem_cons_of_mem _ (List.mem_cons_of_mem _ (List.mem_cons_of_mem _ (List.mem_cons_of_mem _ (List.mem_cons_of_mem _ List.mem_cons_self))))))))))))))
  have g15 : 0 ≤ (0 : Int) + ((-8000) * a2 + (1 * a10 + 0)) := hg _ (List.mem_cons_of_mem _ (List.mem_cons_of_mem _ (List.mem_cons_of_mem _ (List.mem_cons_of_mem _ (List.mem_cons_of_mem _ (List.mem_cons_of_mem _ (List.mem_cons_of_mem _ (List.mem_cons_of_mem _ (List.mem_cons_of_mem _ (List.mem_cons_of_mem _ (List.mem_cons_of_mem _ (List.mem_cons_of_mem _ (List.mem_cons_of_mem _ (List.mem_cons_of_mem _ (List.mem_cons_of_mem _ List.mem_cons_self)))))))))))))))
  have g16 : 0 ≤ ((-1) : Int) + (1 * a8 + ((-1) * a10 + 0)) := hg _ (List.mem_cons_of_mem _ (List.mem_cons_of_mem _ (List.mem_cons_of_mem _ (List.mem_cons_of_mem _ (List.mem_cons_of_mem _ (List.mem_cons_of_mem _ (List.mem_cons_of_mem _ (List.mem_cons_of_mem _ (List.mem_cons_of_mem _ (List.mem_cons_of_mem _ (List.mem_cons_of_mem _ (List.mem_cons_of_mem _ (List.mem_cons_of_mem _ (List.mem_cons_of_mem _ (List.mem_cons_of_mem _ (List.mem_cons_of_mem _ List.mem_cons_self))))))))))))))))
  have g17 : 0 ≤ (1 : Int) + ((-8000) * a2 + (1 * a10 + ((-1) * (zk_xe w 2000073 a11) + 0))) := hg _ (List.mem_cons_of_mem _ (List.mem_cons_of_mem _ (List.mem_cons_of_mem _ (List.mem_cons_of_mem _ (List.mem_cons_of_mem _ (List.mem_cons_of_mem _ (List.mem_cons_of_mem _ (List.mem_cons_of_mem _ (List.mem_cons_of_mem _ (List.mem_cons_of_mem _ (List.mem_cons_of_mem _ (List.mem_cons_of_mem _ (List.mem_cons_of_mem _ (List.mem_cons_of_mem _ (List.mem_cons_of_mem _ (List.mem_cons_of_mem _ (List.mem_cons_of_mem _ List.mem_cons_self)))))))))))))))))
  have e9z : a9 = 0 := by omega
  have ej : j = a2 := by omega
  subst ej
  have hn : zh_e w 207 (j) = zk_xe w 207 a7 := by rw [zk_xe_r (i := 207) (by decide)]; show zk_el w 207 (j) = zk_el w 207 a7; rw [show j = a7 by omega]
  have k0 : zh_e w 208 (8000 * j + zk_xe w 207 a7) = zk_xe w 208 a8 := by rw [zk_xe_r (i := 208) (by decide)]; show zk_el w 208 (8000 * j + zk_xe w 207 a7) = zk_el w 208 a8; rw [show 8000 * j + zk_xe w 207 a7 = a8 by omega]
  have k1 : zh_e w 209 (8000 * j + zk_xe w 207 a7) = zk_xe w 209 a8 := by rw [zk_xe_r (i := 209) (by decide)]; show zk_el w 209 (8000 * j + zk_xe w 207 a7) = zk_el w 209 a8; rw [show 8000 * j + zk_xe w 207 a7 = a8 by omega]
  have k2 : zh_e w 210 (8000 * j + zk_xe w 207 a7) = zk_xe w 210 a8 := by rw [zk_xe_r (i := 210) (by decide)]; show zk_el w 210 (8000 * j + zk_xe w 207 a7) = zk_el w 210 a8; rw [show 8000 * j + zk_xe w 207 a7 = a8 by omega]
  have k3 : zh_e w 211 (8000 * j + zk_xe w 207 a7) = zk_xe w 211 a8 := by rw [zk_xe_r (i := 211) (by decide)]; show zk_el w 211 (8000 * j + zk_xe w 207 a7) = zk_el w 211 a8; rw [show 8000 * j + zk_xe w 207 a7 = a8 by omega]
  have k4 : zh_e w 212 (8000 * j + zk_xe w 207 a7) = zk_xe w 212 a8 := by rw [zk_xe_r (i := 212) (by decide)]; show zk_el w 212 (8000 * j + zk_xe w 207 a7) = zk_el w 212 a8; rw [show 8000 * j + zk_xe w 207 a7 = a8 by omega]
  have p0 : zh_e w 208 (a10) = zk_xe w 208 a10 := by rw [zk_xe_r (i := 208) (by decide)]; show zk_el w 208 (a10) = zk_el w 208 a10; rw [show a10 = a10 by omega]
  have e11 : a11 = j := by omega
  have hT : zk_xe w 2000071 a9 = 0 → ∀ m : Int, zk_xe w 2000073 a11 ≤ m → m < zk_xe w 207 a7 → 3 ≤ zh_e w 208 (8000 * j + m) ∧ zh_e w 208 (8000 * j + m) ≤ 10 ∧ zh_e w 250 0 ≤ zh_e w 211 (8000 * j + m) := by
    intro q
    rw [e11]
    rcases zs_71c (w := w) (j := a9) with ⟨y, -⟩ | ⟨-, y⟩
    · omega
    · rw [zs_73, zs_T0 y, hn]
      obtain ⟨-, -, q3⟩ := zs_tb (sw := zh_e w 208) (sc := zh_e w 211) (o := zh_e w 250 0) (b := 8000 * j) (n := (zk_xe w 207 a7).toNat)
      exact fun m m1 m2 => q3 m m1 (by omega)
  have hx := zs_71c (w := w) (j := a9)
  have hp := (zs_70 (w := w) (j := a0) (n := a1) (u := j) (c := a3) (z := a4) (m := a5) (l := a6) (by omega) (by omega) (by omega) (by omega) (by omega) (by omega) (by omega) (by omega) (by omega) (by omega) (by omega) (by omega) (by omega) ).mp (by omega)
  have h : zs_ps w' a1 j a3 a4 a5 a6 := by
    unfold zs_ps at hp ⊢
    rw [zh_e_g (hw.1 224 (by decide)), zh_e_g (hw.1 250 (by decide)), zh_e_g (hw.1 240 (by decide)), zh_e_g (hw.1 241 (by decide)), zh_e_g (hw.1 242 (by decide)), zh_e_g (hw.1 253 (by decide)), zh_e_g (hw.1 227 (by decide)), zh_e_g (hw.1 226 (by decide))]
    rcases hp with h | ⟨h1, h2, h3, h4⟩
    · exact Or.inl h
    · rcases hx with ⟨-, hx⟩ | ⟨hx, -⟩
      · exact Or.inl hx
      · refine Or.inr ⟨zs_more hw hn (by omega) (by omega) h1 ?_, h2, h3, h4⟩
        unfold zs_st
        rw [k0, k1, k2, k3, k4]
        refine ⟨fun q1 q2 => by omega, fun q => by omega, fun q => by omega, fun q => by omega, fun q => by omega, fun q => by omega, fun q => ⟨a10, by omega, by omega, by rw [p0]; omega, fun m m1 m2 => ?_⟩, fun q => by omega⟩
        have t := hT hx (m - 8000 * j) (by omega) (by omega)
        rw [show 8000 * j + (m - 8000 * j) = m by omega] at t
        exact ⟨t.1, t.2.1⟩
  exact (zx_eF1 (by show 0 ≤ (0 : Int) + (1 * a0 + 0); omega) (by show zk_xe w' 2000070 ((0 : Int) + (1 * a0 + 0)) = (1 : Int) + (0); rw [show (0 : Int) + (1 * a0 + 0) = a0 by omega]; exact ((zs_70 (w := w') (j := a0) (n := a1) (u := j) (c := a3) (z := a4) (m := a5) (l := a6) (by omega) (by omega) (by omega) (by omega) (by omega) (by omega) (by omega) (by omega) (by omega) (by omega) (by omega) (by omega) (by omega) ).mpr h).trans (by omega)) zx_eF0)
def zx_E563 : zx_V := zx_Vc 207 [] 10 [(2000070, 0), (207, 7), (208, 8), (209, 8), (210, 8), (211, 8), (212, 8), (2000071, 9)] [((0, 0), [(2, 1, 0), (3, 0, 1), (4, 0, 4294967296), (5, 0, 18446744073709551616), (6, 0, 79228162514264337593543950336), (7, 0, 340282366920938463463374607431768211456), (8, 0, 1461501637330902918203684832716283019655932542976)]), ((0, 1), [(12, 1, 0)]), ((0, 0), [(4, 0, 1), (9, 1, 0)]), ((0, 0), [(4, 0, 8000), (10, 1, 0), (13, 0, 1)]), ((0, 0), [(11, 1, 0)]), ((0, 1), [(1, 1, 0), (13, 0, 1)]), ((0, 0), [(0, 1, 0), (4, 0, 1)])] [((0, 0), [(3, 1, 0)]), ((4294967294, 0), [(3, 0, 1)]), ((0, 0), [(4, 1, 0)]), ((4294967294, 0), [(4, 0, 1)]), ((0, 0), [(5, 1, 0)]), ((4294967294, 0), [(5, 0, 1)]), ((0, 0), [(6, 1, 0)]), ((4294967294, 0), [(6, 0, 1)]), ((0, 0), [(7, 1, 0)]), ((4294967294, 0), [(7, 0, 1)]), ((0, 0), [(8, 1, 0)]), ((4294967294, 0), [(8, 0, 1)]), ((0, 0), [(13, 1, 0)]), ((0, 1), [(19, 1, 0)])] [(2000070, ((0, 0), [(2, 1, 0)]), ((1, 0), []))]
theorem zx_E563_ok {PT : Nat → zz_W → Prop} : zx_Vok 64 zHT PT zx_E563 := by
  refine zx_Vc_ok (fun w w' j ins hI hI' h0 hw hK hl he hg => ?_)
  obtain ⟨a0, a1, a2, a3, a4, a5, a6, a7, a8, a9, rfl⟩ := zx_i10 hl
  have e0 : (0 : Int) + (1 * a0 + ((-1) * a1 + ((-4294967296) * a2 + ((-18446744073709551616) * a3 + ((-79228162514264337593543950336) * a4 + ((-340282366920938463463374607431768211456) * a5 + ((-1461501637330902918203684832716283019655932542976) * a6 + 0))))))) = 0 := he _ List.mem_cons_self
  have e1 : ((-1) : Int) + (1 * (zk_xe w 2000070 a0) + 0) = 0 := he _ (List.mem_cons_of_mem _ List.mem_cons_self)
  have e2 : (0 : Int) + ((-1) * a2 + (1 * a7 + 0)) = 0 := he _ (List.mem_cons_of_mem _ (List.mem_cons_of_mem _ List.mem_cons_self))
  have e3 : (0 : Int) + ((-8000) * a2 + (1 * a8 + ((-1) * (zk_xe w 207 a7) + 0))) = 0 := he _ (List.mem_cons_of_mem _ (List.mem_cons_of_mem _ (List.mem_cons_of_mem _ List.mem_cons_self)))
  have e4 : (0 : Int) + (1 * a9 + 0) = 0 := he _ (List.mem_cons_of_mem _ (List.mem_cons_of_mem _ (List.mem_cons_of_mem _ (List.mem_cons_of_mem _ List.mem_cons_self))))
  have e5 : ((-1) : Int) + (1 * (zk_el w' 207 j) + ((-1) * (zk_xe w 207 a7) + 0)) = 0 := he _ (List.mem_cons_of_mem _ (List.mem_cons_of_mem _ (List.mem_cons_of_mem _ (List.mem_cons_of_mem _ (List.mem_cons_of_mem _ List.mem_cons_self)))))
  have e6 : (0 : Int) + (1 * j + ((-1) * a2 + 0)) = 0 := he _ (List.mem_cons_of_mem _ (List.mem_cons_of_mem _ (List.mem_cons_of_mem _ (List.mem_cons_of_mem _ (List.mem_cons_of_mem _ (List.mem_cons_of_mem _ List.mem_cons_self))))))
  have g0 : 0 ≤ (0 : Int) + (1 * a1 + 0) := hg _ List.mem_cons_self
  have g1 : 0 ≤ (4294967294 : Int) + ((-1) * a1 + 0) := hg _ (List.mem_cons_of_mem _ List.mem_cons_self)
  have g2 : 0 ≤ (0 : Int) + (1 * a2 + 0) := hg _ (List.mem_cons_of_mem _ (List.mem_cons_of_mem _ List.mem_cons_self))
  have g3 : 0 ≤ (4294967294 : Int) + ((-1) * a2 + 0) := hg _ (List.mem_cons_of_mem _ (List.mem_cons_of_mem _ (List.mem_cons_of_mem _ List.mem_cons_self)))
  have g4 : 0 ≤ (0 : Int) + (1 * a3 + 0) := hg _ (List.mem_cons_of_mem _ (List.mem_cons_of_mem _ (List.mem_cons_of_mem _ (List.mem_cons_of_mem _ List.mem_cons_self))))
  have g5 : 0 ≤ (4294967294 : Int) + ((-1) * a3 + 0) := hg _ (List.mem_cons_of_mem _ (List.mem_cons_of_mem _ (List.mem_cons_of_mem _ (List.mem_cons_of_mem _ (List.mem_cons_of_mem _ List.mem_cons_self)))))
  have g6 : 0 ≤ (0 : Int) + (1 * a4 + 0) := hg _ (List.mem_cons_of_mem _ (List.mem_cons_of_mem _ (List.mem_cons_of_mem _ (List.mem_cons_of_mem _ (List.mem_cons_of_mem _ (List.mem_cons_of_mem _ List.mem_cons_self))))))
  have g7 : 0 ≤ (4294967294 : Int) + ((-1) * a4 + 0) := hg _ (List.mem_cons_of_mem _ (List.mem_cons_of_mem _ (List.mem_cons_of_mem _ (List.mem_cons_of_mem _ (List.mem_cons_of_mem _ (List.mem_cons_of_mem _ (List.mem_cons_of_mem _ List.mem_cons_self)))))))
  have g8 : 0 ≤ (0 : Int) + (1 * a5 + 0) := hg _ (List.mem_cons_of_mem _ (List.mem_cons_of_mem _ (List.mem_cons_of_mem _ (List.mem_cons_of_mem _ (List.mem_cons_of_mem _ (List.mem_cons_of_mem _ (List.mem_cons_of_mem _ (List.mem_cons_of_mem _ List.mem_cons_self))))))))
  have g9 : 0 ≤ (4294967294 : Int) + ((-1) * a5 + 0) := hg _ (List.mem_cons_of_mem _ (List.mem_cons_of_mem _ (List.mem_cons_of_mem _ (List.mem_cons_of_mem _ (List.mem_cons_of_mem _ (List.mem_cons_of_mem _ (List.mem_cons_of_mem _ (List.mem_cons_of_mem _ (List.mem_cons_of_mem _ List.mem_cons_self)))))))))
  have g10 : 0 ≤ (0 : Int) + (1 * a6 + 0) := hg _ (List.mem_cons_of_mem _ (List.mem_cons_of_mem _ (List.mem_cons_of_mem _ (List.mem_cons_of_mem _ (List.mem_cons_of_mem _ (List.mem_cons_of_mem _ (List.mem_cons_of_mem _ (List.mem_cons_of_mem _ (List.mem_cons_of_mem _ (List.mem_cons_of_mem _ List.mem_cons_self))))))))))
  have g11 : 0 ≤ (4294967294 : Int) + ((-1) * a6 + 0) := hg _ (List.mem_cons_of_mem _ (List.mem_cons_of_mem _ (List.mem_cons_of_mem _ (List.mem_cons_of_mem _ (List.mem_cons_of_mem _ (List.mem_cons_of_mem _ (List.mem_cons_of_mem _ (List.mem_cons_of_mem _ (List.mem_cons_of_mem _ (List.mem_cons_of_mem _ (List.mem_cons_of_mem _ List.mem_cons_self)))))))))))
  have g12 : 0 ≤ (0 : Int) + (1 * (zk_xe w 207 a7) + 0) := hg _ (List.mem_cons_of_mem _ (List.mem_cons_of_mem _ (List.mem_cons_of_mem _ (List.mem_cons_of_mem _ (List.mem_cons_of_mem _ (List.mem_cons_of_mem _ (List.mem_cons_of_mem _ (List.mem_cons_of_mem _ (List.mem_cons_of_mem _ (List.mem_cons_of_mem _ (List.mem_cons_of_mem _ (List.mem_cons_of_mem _ List.mem_cons_self))))))))))))
  have g13 : 0 ≤ ((-1) : Int) + (1 * (zk_xe w 2000071 a9) + 0) := hg _ (List.mem_cons_of_mem _ (List.mem_cons_of_mem _ (List.mem_cons_of_mem _ (List.mem_cons_of_mem _ (List.mem_cons_of_mem _ (List.mem_cons_of_mem _ (List.mem_cons_of_mem _ (List.mem_cons_of_mem _ (List.mem_cons_of_mem _ (List.mem_cons_of_mem _ (List.mem_cons_of_mem _ (List.mem_cons_of_mem _ (List.mem_cons_of_mem _ List.mem_cons_self)))))))))))))
  have e9z : a9 = 0 := by omega
  have ej : j = a2 := by omega
  subst ej
  have hn : zh_e w 207 (j) = zk_xe w 207 a7 := by rw [zk_xe_r (i := 207) (by decide)]; show zk_el w 207 (j) = zk_el w 207 a7; rw [show j = a7 by omega]
  have k0 : zh_e w 208 (8000 * j + zk_xe w 207 a7) = zk_xe w 208 a8 := by rw [zk_xe_r (i := 208) (by decide)]; show zk_el w 208 (8000 * j + zk_xe w 207 a7) = zk_el w 208 a8; rw [show 8000 * j + zk_xe w 207 a7 = a8 by omega]
  have k1 : zh_e w 209 (8000 * j + zk_xe w 207 a7) = zk_xe w 209 a8 := by rw [zk_xe_r (i := 209) (by decide)]; show zk_el w 209 (8000 * j + zk_xe w 207 a7) = zk_el w 209 a8; rw [show 8000 * j + zk_xe w 207 a7 = a8 by omega]
  have k2 : zh_e w 210 (8000 * j + zk_xe w 207 a7) = zk_xe w 210 a8 := by rw [zk_xe_r (i := 210) (by decide)]; show zk_el w 210 (8000 * j + zk_xe w 207 a7) = zk_el w 210 a8; rw [show 8000 * j + zk_xe w 207 a7 = a8 by omega]
  have k3 : zh_e w 211 (8000 * j + zk_xe w 207 a7) = zk_xe w 211 a8 := by rw [zk_xe_r (i := 211) (by decide)]; show zk_el w 211 (8000 * j + zk_xe w 207 a7) = zk_el w 211 a8; rw [show 8000 * j + zk_xe w 207 a7 = a8 by omega]
  have k4 : zh_e w 212 (8000 * j + zk_xe w 207 a7) = zk_xe w 212 a8 := by rw [zk_xe_r (i := 212) (by decide)]; show zk_el w 212 (8000 * j + zk_xe w 207 a7) = zk_el w 212 a8; rw [show 8000 * j + zk_xe w 207 a7 = a8 by omega]
  have hx := zs_71c (w := w) (j := a9)
  have hp := (zs_70 (w := w) (j := a0) (n := a1) (u := j) (c := a3) (z := a4) (m := a5) (l := a6) (by omega) (by omega) (by omega) (by omega) (by omega) (by omega) (by omega) (by omega) (by omega) (by omega) (by omega) (by omega) (by omega) ).mp (by omega)
  have h : zs_ps w' a1 j a3 a4 a5 a6 := by
    unfold zs_ps at hp ⊢
    rw [zh_e_g (hw.1 224 (by decide)), zh_e_g (hw.1 250 (by decide)), zh_e_g (hw.1 240 (by decide)), zh_e_g (hw.1 241 (by decide)), zh_e_g (hw.1 242 (by decide)), zh_e_g (hw.1 253 (by decide)), zh_e_g (hw.1 227 (by decide)), zh_e_g (hw.1 226 (by decide))]
    rcases hp with h | ⟨h1, h2, h3, h4⟩
    · exact Or.inl h
    · rcases hx with ⟨-, hx⟩ | ⟨hx, -⟩
      · exact Or.inl hx
      · refine Or.inr ⟨zs_more hw hn (by omega) (by omega) h1 ?_, h2, h3, h4⟩
        unfold zs_st
        rw [k0, k1, k2, k3, k4]
        exact absurd hx (by omega)
  exact (zx_eF1 (by show 0 ≤ (0 : Int) + (1 * a0 + 0); omega) (by show zk_xe w' 2000070 ((0 : Int) + (1 * a0 + 0)) = (1 : Int) + (0); rw [show (0 : Int) + (1 * a0 + 0) = a0 by omega]; exact ((zs_70 (w := w') (j := a0) (n := a1) (u := j) (c := a3) (z := a4) (m := a5) (l := a6) (by omega) (by omega) (by omega) (by omega) (by omega) (by omega) (by omega) (by omega) (by omega) (by omega) (by omega) (by omega) (by omega) ).mpr h).trans (by omega)) zx_eF0)
def zx_E564 : zx_V := zx_Vc 207 [] 3 [(2000073, 0), (207, 0), (208, 1), (211, 1), (250, 2), (2000071, 2)] [((0, 0), [(0, 1, 0), (2, 0, 1)]), ((0, 0), [(2, 0, 8000), (3, 1, 0), (6, 0, 1)]), ((0, 0), [(4, 1, 0)]), ((0, 1), [(1, 1, 0), (6, 0, 1)])] [((0, 0), [(6, 1, 0)]), ((0, 0), [(2, 1, 0)]), ((0, 3), [(7, 1, 0), (10, 8589934592, 0)]), ((10, 0), [(7, 0, 1), (10, 8589934592, 0)]), ((0, 0), [(8, 1, 0), (9, 0, 1), (10, 8589934592, 0)])] [(2000073, ((0, 0), [(2, 1, 0)]), ((0, 0), [(5, 1, 0)]))]
theorem zx_E564_ok {PT : Nat → zz_W → Prop} : zx_Vok 64 zHT PT zx_E564 := by
  refine zx_Vc_ok (fun w w' j ins hI hI' h0 hw hK hl he hg => ?_)
  obtain ⟨a0, a1, a2, rfl⟩ := zx_i3 hl
  have e0 : (0 : Int) + (1 * j + ((-1) * a0 + 0)) = 0 := he _ List.mem_cons_self
  have e1 : (0 : Int) + ((-8000) * a0 + (1 * a1 + ((-1) * (zk_xe w 207 a0) + 0))) = 0 := he _ (List.mem_cons_of_mem _ List.mem_cons_self)
  have e2 : (0 : Int) + (1 * a2 + 0) = 0 := he _ (List.mem_cons_of_mem _ (List.mem_cons_of_mem _ List.mem_cons_self))
  have e3 : ((-1) : Int) + (1 * (zk_el w' 207 j) + ((-1) * (zk_xe w 207 a0) + 0)) = 0 := he _ (List.mem_cons_of_mem _ (List.mem_cons_of_mem _ (List.mem_cons_of_mem _ List.mem_cons_self)))
  have g0 : 0 ≤ (0 : Int) + (1 * (zk_xe w 207 a0) + 0) := hg _ List.mem_cons_self
  have g1 : 0 ≤ (0 : Int) + (1 * a0 + 0) := hg _ (List.mem_cons_of_mem _ List.mem_cons_self)
  have g2 : 0 ≤ ((-3) : Int) + (1 * (zk_xe w 208 a1) + (8589934592 * (zk_xe w 2000071 a2) + 0)) := hg _ (List.mem_cons_of_mem _ (List.mem_cons_of_mem _ List.mem_cons_self))
  have g3 : 0 ≤ (10 : Int) + ((-1) * (zk_xe w 208 a1) + (8589934592 * (zk_xe w 2000071 a2) + 0)) := hg _ (List.mem_cons_of_mem _ (List.mem_cons_of_mem _ (List.mem_cons_of_mem _ List.mem_cons_self)))
  have g4 : 0 ≤ (0 : Int) + (1 * (zk_xe w 211 a1) + ((-1) * (zk_xe w 250 a2) + (8589934592 * (zk_xe w 2000071 a2) + 0))) := hg _ (List.mem_cons_of_mem _ (List.mem_cons_of_mem _ (List.mem_cons_of_mem _ (List.mem_cons_of_mem _ List.mem_cons_self))))
  have e2z : a2 = 0 := by omega
  have ej : a0 = j := by omega
  subst ej
  have hn : zh_e w 207 (a0) = zk_xe w 207 a0 := by rw [zk_xe_r (i := 207) (by decide)]; show zk_el w 207 (a0) = zk_el w 207 a0; rw [show a0 = a0 by omega]
  have k0 : zh_e w 208 (8000 * a0 + zk_xe w 207 a0) = zk_xe w 208 a1 := by rw [zk_xe_r (i := 208) (by decide)]; show zk_el w 208 (8000 * a0 + zk_xe w 207 a0) = zk_el w 208 a1; rw [show 8000 * a0 + zk_xe w 207 a0 = a1 by omega]
  have k1 : zh_e w 211 (8000 * a0 + zk_xe w 207 a0) = zk_xe w 211 a1 := by rw [zk_xe_r (i := 211) (by decide)]; show zk_el w 211 (8000 * a0 + zk_xe w 207 a0) = zk_el w 211 a1; rw [show 8000 * a0 + zk_xe w 207 a0 = a1 by omega]
  have h0 : zh_e w 250 0 = zk_xe w 250 a2 := by rw [zk_xe_r (i := 250) (by decide), show a2 = 0 by omega]; rfl
  have hx := zs_71c (w := w) (j := a2)
  have h := zs_Tn hw hn (by omega) (by omega) (fun c => by
    rw [k0, k1, h0]
    rcases hx with ⟨-, y⟩ | ⟨y, -⟩
    · exact absurd y c
    · exact ⟨by omega, by omega, by omega⟩)
  exact (zx_eF1 (by show 0 ≤ (0 : Int) + (1 * a0 + 0); omega) (by show zk_xe w' 2000073 ((0 : Int) + (1 * a0 + 0)) = (0 : Int) + (1 * (zk_xe w 2000073 a0) + 0); rw [show (0 : Int) + (1 * a0 + 0) = a0 by omega]; exact h.trans (by omega)) zx_eF0)
/-- uses at unlike places (functions 76 to 78) -/
theorem zs_76 {w : zz_W} {j n c t : Int} (e : j = n + 4294967296 * c + 18446744073709551616 * t) (n0 : 0 ≤ n) (n1 : n < 4294967296) (c0 : 0 ≤ c) (c1 : c < 4294967296) (t0 : 0 ≤ t) (t1 : t < 4294967296) : zk_xe w 2000076 j = 1 ↔ zs_ud (zh_e w 231) (zh_e w 248) (zh_e w 239) (zh_e w 222) n c t 0 := by
  obtain ⟨d0, d1, d2⟩ := zg_d3 (j := j) (n := n) (k := c) (u := t) (by omega) n0 n1 c0 c1 t0 t1
  rw [show (2000076 : Nat) = 2000000 + 76 from rfl, zk_xe_h]
  have h : zv_H 76 w j = zh_b (zs_ud (zh_e w 231) (zh_e w 248) (zh_e w 239) (zh_e w 222) n c t 0) := by
    show zh_b (zs_ud (zh_e w 231) (zh_e w 248) (zh_e w 239) (zh_e w 222) (zv_dg 0 j) (zv_dg 1 j) (zv_dg 2 j) 0) = _
    rw [d0, d1, d2]
  rw [h]
  exact ⟨zh_b1', zh_b1⟩
theorem zs_77 {w : zz_W} {j n b : Int} (e : j = n + 4294967296 * b) (n0 : 0 ≤ n) (n1 : n < 4294967296) (b0 : 0 ≤ b) (b1 : b < 4294967296) : zk_xe w 2000077 j = 1 ↔ zs_tk (zh_e w 222) n b := by
  obtain ⟨x0, y0, -⟩ := zm_z1 e n0 n1
  obtain ⟨x1, -, -⟩ := zm_z1 (j := b) (a := b) (b := 0) (by omega) b0 b1
  have h1 : zv_dg 1 j = b := (y0 0).trans x1
  rw [show (2000077 : Nat) = 2000000 + 77 from rfl, zk_xe_h]
  have h : zv_H 77 w j = zh_b (zs_tk (zh_e w 222) n b) := by
    show zh_b (zs_tk (zh_e w 222) (zv_dg 0 j) (zv_dg 1 j)) = _
    rw [x0, h1]
  rw [h]
  exact ⟨zh_b1', zh_b1⟩
theorem zs_78 {w : zz_W} {j n c t y : Int} (e : j = n + 4294967296 * c + 18446744073709551616 * t + 79228162514264337593543950336 * y) (n0 : 0 ≤ n) (n1 : n < 4294967296) (c0 : 0 ≤ c) (c1 : c < 4294967296) (t0 : 0 ≤ t) (t1 : t < 4294967296) (y0 : 0 ≤ y) (y1 : y < 4294967296) : zk_xe w 2000078 j = 1 ↔ zs_ud (zh_e w 231) (zh_e w 248) (zh_e w 239) (zh_e w 222) n c t y := by
  obtain ⟨d0, d1, d2, d3, -, -⟩ := zm_e4 (j := j) (c0 := n) (c1 := c) (c2 := t) (c3 := y) (R := 0) (by omega) n0 n1 c0 c1 t0 t1 y0 y1
  rw [show (2000078 : Nat) = 2000000 + 78 from rfl, zk_xe_h]
  have h : zv_H 78 w j = zh_b (zs_ud (zh_e w 231) (zh_e w 248) (zh_e w 239) (zh_e w 222) n c t y) := by
    show zh_b (zs_ud (zh_e w 231) (zh_e w 248) (zh_e w 239) (zh_e w 222) (zv_dg 0 j) (zv_dg 1 j) (zv_dg 2 j) (zv_dg 3 j)) = _
    rw [d0, d1, d2, d3]
  rw [h]
  exact ⟨zh_b1', zh_b1⟩
theorem zs_udc {up cp ck ta up' cp' ck' : Int → Int} {n c t y : Int} (hu : ∀ i, 0 ≤ i → i < n → up' i = up i) (hc : ∀ i, 0 ≤ i → i < c → cp' i = cp i ∧ ck' i = ck i) (h : zs_ud up cp ck ta n c t y) : zs_ud up' cp' ck' ta n c t y := by
  obtain ⟨h1, h2, h3, h4, h5⟩ := h
  refine ⟨fun i j i0 ij jn => ?_, fun i i0 i1 => ?_, fun i i0 i1 k2 => ?_, fun i j i0 ij jc a b => ?_, fun hy => ?_⟩
  · rw [hu i i0 (by omega), hu j (by omega) jn]
    exact h1 i j i0 ij jn
  · rw [hu i i0 i1]
    exact h2 i i0 i1
  · obtain ⟨e1, e2⟩ := hc i i0 i1
    rw [e2] at k2
    obtain ⟨q1, q2⟩ := h3 i i0 i1 k2
    rw [e1]
    exact ⟨q1, fun k k0 k1 => by rw [hu k k0 k1]; exact q2 k k0 k1⟩
  · obtain ⟨e1, e2⟩ := hc i i0 (by omega)
    obtain ⟨f1, f2⟩ := hc j (by omega) jc
    rw [e2] at a
    rw [f2] at b
    rw [e1, f1]
    exact h4 i j i0 ij jc a b
  · obtain ⟨q1, q2, q3⟩ := h5 hy
    refine ⟨q1, fun k k0 k1 => by rw [hu k k0 k1]; exact q2 k k0 k1, fun i i0 i1 k2 => ?_⟩
    obtain ⟨e1, e2⟩ := hc i i0 i1
    rw [e2] at k2
    rw [e1]
    exact q3 i i0 i1 k2
/-- less is asked, the token goes on -/
theorem zs_udw {up cp ck ta : Int → Int} {n c t y c' t' y' : Int} (hc : c' ≤ c) (ht : ta t ≤ ta t') (hy : y' = y ∨ y' = 0) (h : zs_ud up cp ck ta n c t y) : zs_ud up cp ck ta n c' t' y' := by
  obtain ⟨h1, h2, h3, h4, h5⟩ := h
  refine ⟨h1, fun i i0 i1 => ?_, fun i i0 i1 k2 => ?_, fun i j i0 ij jc => h4 i j i0 ij (by omega), fun q => ?_⟩
  · have := h2 i i0 i1
    exact ⟨this.1, by omega⟩
  · obtain ⟨q1, q2⟩ := h3 i i0 (by omega) k2
    exact ⟨by omega, q2⟩
  · obtain ⟨q1, q2, q3⟩ := h5 (by omega)
    rcases hy with e | e
    · subst e
      exact ⟨by omega, q2, fun i i0 i1 => q3 i i0 (by omega)⟩
    · omega
theorem zs_79 {w : zz_W} {j k l z : Int} (e : j = k + 4294967296 * (l + 1) + 18446744073709551616 * z) (k0 : 0 ≤ k) (k1 : k < 4294967296) (l0 : 0 ≤ l + 1) (l1 : l + 1 < 4294967296) (z0 : 0 ≤ z) (z1 : z < 4294967296) : zk_xe w 2000079 j = 1 ↔ zs_nx (zh_e w 231) k l z := by
  obtain ⟨d0, d1, d2⟩ := zg_d3 (j := j) (n := k) (k := l + 1) (u := z) (by omega) k0 k1 l0 l1 z0 z1
  rw [show (2000079 : Nat) = 2000000 + 79 from rfl, zk_xe_h]
  have h : zv_H 79 w j = zh_b (zs_nx (zh_e w 231) k l z) := by
    show zh_b (zs_nx (zh_e w 231) (zv_dg 0 j) (zv_dg 1 j - 1) (zv_dg 2 j)) = _
    rw [d0, d1, d2, show l + 1 - 1 = l by omega]
  rw [h]
  exact ⟨zh_b1', zh_b1⟩
theorem zs_80 {w : zz_W} {j l m : Int} (e : j = (l + 1) + 4294967296 * m) (l0 : 0 ≤ l + 1) (l1 : l + 1 < 4294967296) (m0 : 0 ≤ m) (m1 : m < 4294967296) : zk_xe w 2000080 j = zs_cn (zh_e w 231) l m.toNat := by
  obtain ⟨x0, y0, -⟩ := zm_z1 e l0 l1
  obtain ⟨x1, -, -⟩ := zm_z1 (j := m) (a := m) (b := 0) (by omega) m0 m1
  have h1 : zv_dg 1 j = m := (y0 0).trans x1
  rw [show (2000080 : Nat) = 2000000 + 80 from rfl, zk_xe_h]
  show zs_cn (zh_e w 231) (zv_dg 0 j - 1) (zv_dg 1 j).toNat = _
  rw [x0, h1, show l + 1 - 1 = l by omega]
theorem zs_cn0 {up : Int → Int} : ∀ {m : Nat}, zs_cn up (-1) m = 0
  | 0 => rfl
  | m + 1 => by
    show zs_cn up (-1) m + (if 0 ≤ up (m : Int) ∧ up (m : Int) ≤ -1 then 1 else 0) = 0
    rw [zs_cn0 (m := m), if_neg (by omega)]
    rfl
theorem zs_cnm {up : Int → Int} {l : Int} : ∀ {m : Nat}, (∀ i, 0 ≤ i → i < (m : Int) → 0 ≤ up i ∧ up i ≤ l) → zs_cn up l m = (m : Int)
  | 0, _ => rfl
  | m + 1, h => by
    show zs_cn up l m + (if 0 ≤ up (m : Int) ∧ up (m : Int) ≤ l then 1 else 0) = ((m + 1 : Nat) : Int)
    rw [zs_cnm (m := m) (fun i i0 i1 => h i i0 (by omega)), if_pos (h (m : Int) (by omega) (by omega))]
    omega
theorem zs_cns {up : Int → Int} {l x : Int} {M : Int} (x0 : 0 ≤ x) (x1 : l < up x) (xp : 0 ≤ up x) (hm : ∀ i, 0 ≤ i → i < M → l < up i → up x ≤ up i) (hd : ∀ i, 0 ≤ i → i < M → i ≠ x → up i ≠ up x) (hn : ∀ i, 0 ≤ i → i < M → 0 ≤ up i) : ∀ {m : Nat}, (m : Int) ≤ M → zs_cn up (up x) m = zs_cn up l m + (if x < (m : Int) then 1 else 0)
  | 0, _ => by
    show (0 : Int) = 0 + (if x < ((0 : Nat) : Int) then 1 else 0)
    rw [if_neg (by omega)]
    rfl
  | m + 1, h => by
    show zs_cn up (up x) m + (if 0 ≤ up (m : Int) ∧ up (m : Int) ≤ up x then 1 else 0) = zs_cn up l m + (if 0 ≤ up (m : Int) ∧ up (m : Int) ≤ l then 1 else 0) + (if x < ((m + 1 : Nat) : Int) then 1 else 0)
    rw [zs_cns x0 x1 xp hm hd hn (m := m) (by omega)]
    have h0 := hn (m : Int) (by omega) (by omega)
    by_cases c : (m : Int) = x
    · rw [c, if_neg (show ¬ (x < x) by omega), if_pos (show 0 ≤ up x ∧ up x ≤ up x from ⟨xp, Int.le_refl _⟩), if_neg (show ¬ (0 ≤ up x ∧ up x ≤ l) by omega), if_pos (show x < ((m + 1 : Nat) : Int) by omega)]
    · have h1 := hd (m : Int) (by omega) (by omega) c
      by_cases c2 : up (m : Int) ≤ l
      · rw [if_pos (show 0 ≤ up (m : Int) ∧ up (m : Int) ≤ up x from ⟨h0, by omega⟩), if_pos (show 0 ≤ up (m : Int) ∧ up (m : Int) ≤ l from ⟨h0, c2⟩)]
        by_cases c3 : x < (m : Int)
        · rw [if_pos c3, if_pos (show x < ((m + 1 : Nat) : Int) by omega)]
        · rw [if_neg c3, if_neg (show ¬ (x < ((m + 1 : Nat) : Int)) by omega)]
          omega
      · have h2 := hm (m : Int) (by omega) (by omega) (by omega)
        rw [if_neg (show ¬ (0 ≤ up (m : Int) ∧ up (m : Int) ≤ up x) by omega), if_neg (show ¬ (0 ≤ up (m : Int) ∧ up (m : Int) ≤ l) by omega)]
        by_cases c3 : x < (m : Int)
        · rw [if_pos c3, if_pos (show x < ((m + 1 : Nat) : Int) by omega)]
          omega
        · rw [if_neg c3, if_neg (show ¬ (x < ((m + 1 : Nat) : Int)) by omega)]
def zx_D740 : zx_L := zx_Lc [] 2 [] [] [((0, 0), [(0, 1, 0), (1, 0, 4294967296)])] [((0, 0), [(1, 1, 0)]), ((4294967294, 0), [(1, 0, 1)])] [([], [], [(2000077, ((0, 0), [(0, 1, 0)]), ((1, 0), []))], [])]
theorem zx_D740_ok {PT : Nat → zz_W → Prop} : zx_Lok 64 zHT PT zx_D740 := by
  refine zx_Lc_ok (fun w hI hK ins hl hr he hg => ?_)
  obtain ⟨a0, a1, rfl⟩ := zx_i2 hl
  have e0 : (0 : Int) + (1 * a0 + ((-4294967296) * a1 + 0)) = 0 := he _ List.mem_cons_self
  have g0 : 0 ≤ (0 : Int) + (1 * a1 + 0) := hg _ List.mem_cons_self
  have g1 : 0 ≤ (4294967294 : Int) + ((-1) * a1 + 0) := hg _ (List.mem_cons_of_mem _ List.mem_cons_self)
  have h : zs_tk (zh_e w 222) 0 a1 := ⟨fun i j i0 ij jn => by omega, fun i i0 i1 => by omega⟩
  exact ⟨_, List.mem_cons_self, [], rfl, zx_bnil, zx_cs0, (zx_eF1 (by show 0 ≤ (0 : Int) + (1 * a0 + 0); omega) (by show zk_xe w 2000077 ((0 : Int) + (1 * a0 + 0)) = (1 : Int) + (0); rw [show (0 : Int) + (1 * a0 + 0) = a0 by omega]; exact ((zs_77 (w := w) (j := a0) (n := 0) (b := a1) (by omega) (by omega) (by omega) (by omega) (by omega) ).mpr (h)).trans (by omega)) zx_eF0), zx_k0⟩
def zx_D741 : zx_L := zx_Lc [] 5 [(2000077, 0), (222, 4)] [] [((0, 0), [(0, 1, 0), (1, 0, 1), (2, 0, 4294967296)]), ((0, 4294967297), [(1, 0, 1), (3, 1, 0), (6, 0, 4294967296)]), ((0, 1), [(5, 1, 0)]), ((0, 0), [(1, 0, 1), (4, 1, 0)])] [((0, 0), [(1, 1, 0)]), ((4294967294, 0), [(1, 0, 1)]), ((0, 0), [(2, 1, 0)]), ((4294967294, 0), [(2, 0, 1)]), ((0, 0), [(2, 0, 1), (6, 1, 0)]), ((100000, 0), [(6, 0, 1)])] [([], [], [(2000077, ((0, 0), [(3, 1, 0)]), ((1, 0), []))], [])]
theorem zx_D741_ok {PT : Nat → zz_W → Prop} : zx_Lok 64 zHT PT zx_D741 := by
  refine zx_Lc_ok (fun w hI hK ins hl hr he hg => ?_)
  obtain ⟨a0, a1, a2, a3, a4, rfl⟩ := zx_i5 hl
  have e0 : (0 : Int) + (1 * a0 + ((-1) * a1 + ((-4294967296) * a2 + 0))) = 0 := he _ List.mem_cons_self
  have e1 : ((-4294967297) : Int) + ((-1) * a1 + (1 * a3 + ((-4294967296) * (zk_xe w 222 a4) + 0))) = 0 := he _ (List.mem_cons_of_mem _ List.mem_cons_self)
  have e2 : ((-1) : Int) + (1 * (zk_xe w 2000077 a0) + 0) = 0 := he _ (List.mem_cons_of_mem _ (List.mem_cons_of_mem _ List.mem_cons_self))
  have e3 : (0 : Int) + ((-1) * a1 + (1 * a4 + 0)) = 0 := he _ (List.mem_cons_of_mem _ (List.mem_cons_of_mem _ (List.mem_cons_of_mem _ List.mem_cons_self)))
  have g0 : 0 ≤ (0 : Int) + (1 * a1 + 0) := hg _ List.mem_cons_self
  have g1 : 0 ≤ (4294967294 : Int) + ((-1) * a1 + 0) := hg _ (List.mem_cons_of_mem _ List.mem_cons_self)
  have g2 : 0 ≤ (0 : Int) + (1 * a2 + 0) := hg _ (List.mem_cons_of_mem _ (List.mem_cons_of_mem _ List.mem_cons_self))
  have g3 : 0 ≤ (4294967294 : Int) + ((-1) * a2 + 0) := hg _ (List.mem_cons_of_mem _ (List.mem_cons_of_mem _ (List.mem_cons_of_mem _ List.mem_cons_self)))
  have g4 : 0 ≤ (0 : Int) + ((-1) * a2 + (1 * (zk_xe w 222 a4) + 0)) := hg _ (List.mem_cons_of_mem _ (List.mem_cons_of_mem _ (List.mem_cons_of_mem _ (List.mem_cons_of_mem _ List.mem_cons_self))))
  have g5 : 0 ≤ (100000 : Int) + ((-1) * (zk_xe w 222 a4) + 0) := hg _ (List.mem_cons_of_mem _ (List.mem_cons_of_mem _ (List.mem_cons_of_mem _ (List.mem_cons_of_mem _ (List.mem_cons_of_mem _ List.mem_cons_self)))))
  have r0 : 0 ≤ a0 := hr _ List.mem_cons_self
  have r1 : 0 ≤ a4 := hr _ (List.mem_cons_of_mem _ List.mem_cons_self)
  have hp := (zs_77 (w := w) (j := a0) (n := a1) (b := a2) (by omega) (by omega) (by omega) (by omega) (by omega) ).mp (by omega)
  have k0 : zh_e w 222 (a1) = zk_xe w 222 a4 := by rw [zk_xe_r (i := 222) (by decide)]; show zk_el w 222 (a1) = zk_el w 222 a4; rw [show a1 = a4 by omega]
  have h : zs_tk (zh_e w 222) (a1 + 1) (zk_xe w 222 a4 + 1) := by
    refine ⟨fun i j i0 ij jn => ?_, fun i i0 i1 => ?_⟩
    · by_cases c : j = a1
      · rw [c, k0]
        have := hp.2 i i0 (by omega)
        omega
      · exact hp.1 i j i0 ij (by omega)
    · by_cases c : i = a1
      · rw [c, k0]
        omega
      · have := hp.2 i i0 (by omega)
        omega
  exact ⟨_, List.mem_cons_self, [], rfl, zx_bnil, zx_cs0, (zx_eF1 (by show 0 ≤ (0 : Int) + (1 * a3 + 0); omega) (by show zk_xe w 2000077 ((0 : Int) + (1 * a3 + 0)) = (1 : Int) + (0); rw [show (0 : Int) + (1 * a3 + 0) = a3 by omega]; exact ((zs_77 (w := w) (j := a3) (n := (a1 + 1)) (b := (zk_xe w 222 a4 + 1)) (by omega) (by omega) (by omega) (by omega) (by omega) ).mpr (h)).trans (by omega)) zx_eF0), zx_k0⟩
def zx_D742 : zx_L := zx_Lc [] 5 [(2000077, 0)] [] [((0, 0), [(0, 1, 0), (1, 0, 1), (2, 0, 4294967296)]), ((0, 0), [(1, 0, 1), (3, 1, 0), (4, 0, 4294967296)]), ((0, 1), [(5, 1, 0)])] [((0, 0), [(1, 1, 0)]), ((4294967294, 0), [(1, 0, 1)]), ((0, 0), [(2, 1, 0)]), ((4294967294, 0), [(2, 0, 1)]), ((0, 0), [(4, 1, 0)]), ((4294967294, 0), [(4, 0, 1)]), ((0, 0), [(2, 0, 1), (4, 1, 0)])] [([], [], [(2000077, ((0, 0), [(3, 1, 0)]), ((1, 0), []))], [])]
theorem zx_D742_ok {PT : Nat → zz_W → Prop} : zx_Lok 64 zHT PT zx_D742 := by
  refine zx_Lc_ok (fun w hI hK ins hl hr he hg => ?_)
  obtain ⟨a0, a1, a2, a3, a4, rfl⟩ := zx_i5 hl
  have e0 : (0 : Int) + (1 * a0 + ((-1) * a1 + ((-4294967296) * a2 + 0))) = 0 := he _ List.mem_cons_self
  have e1 : (0 : Int) + ((-1) * a1 + (1 * a3 + ((-4294967296) * a4 + 0))) = 0 := he _ (List.mem_cons_of_mem _ List.mem_cons_self)
  have e2 : ((-1) : Int) + (1 * (zk_xe w 2000077 a0) + 0) = 0 := he _ (List.mem_cons_of_mem _ (List.mem_cons_of_mem _ List.mem_cons_self))
  have g0 : 0 ≤ (0 : Int) + (1 * a1 + 0) := hg _ List.mem_cons_self
  have g1 : 0 ≤ (4294967294 : Int) + ((-1) * a1 + 0) := hg _ (List.mem_cons_of_mem _ List.mem_cons_self)
  have g2 : 0 ≤ (0 : Int) + (1 * a2 + 0) := hg _ (List.mem_cons_of_mem _ (List.mem_cons_of_mem _ List.mem_cons_self))
  have g3 : 0 ≤ (4294967294 : Int) + ((-1) * a2 + 0) := hg _ (List.mem_cons_of_mem _ (List.mem_cons_of_mem _ (List.mem_cons_of_mem _ List.mem_cons_self)))
  have g4 : 0 ≤ (0 : Int) + (1 * a4 + 0) := hg _ (List.mem_cons_of_mem _ (List.mem_cons_of_mem _ (List.mem_cons_of_mem _ (List.mem_cons_of_mem _ List.mem_cons_self))))
  have g5 : 0 ≤ (4294967294 : Int) + ((-1) * a4 + 0) := hg _ (List.mem_cons_of_mem _ (List.mem_cons_of_mem _ (List.mem_cons_of_mem _ (List.mem_cons_of_mem _ (List.mem_cons_of_mem _ List.mem_cons_self)))))
  have g6 : 0 ≤ (0 : Int) + ((-1) * a2 + (1 * a4 + 0)) := hg _ (List.mem_cons_of_mem _ (List.mem_cons_of_mem _ (List.mem_cons_of_mem _ (List.mem_cons_of_mem _ (List.mem_cons_of_mem _ (List.mem_cons_of_mem _ List.mem_cons_self))))))
  have r0 : 0 ≤ a0 := hr _ List.mem_cons_self
  have hp := (zs_77 (w := w) (j := a0) (n := a1) (b := a2) (by omega) (by omega) (by omega) (by omega) (by omega) ).mp (by omega)
  have h : zs_tk (zh_e w 222) a1 a4 := ⟨hp.1, fun i i0 i1 => by have := hp.2 i i0 i1; omega⟩
  exact ⟨_, List.mem_cons_self, [], rfl, zx_bnil, zx_cs0, (zx_eF1 (by show 0 ≤ (0 : Int) + (1 * a3 + 0); omega) (by show zk_xe w 2000077 ((0 : Int) + (1 * a3 + 0)) = (1 : Int) + (0); rw [show (0 : Int) + (1 * a3 + 0) = a3 by omega]; exact ((zs_77 (w := w) (j := a3) (n := a1) (b := a4) (by omega) (by omega) (by omega) (by omega) (by omega) ).mpr (h)).trans (by omega)) zx_eF0), zx_k0⟩
def zx_D743 : zx_L := zx_Lc [] 2 [] [] [((0, 0), [(0, 1, 0), (1, 0, 18446744073709551616)])] [((0, 0), [(1, 1, 0)]), ((4294967294, 0), [(1, 0, 1)])] [([], [], [(2000076, ((0, 0), [(0, 1, 0)]), ((1, 0), []))], [])]
theorem zx_D743_ok {PT : Nat → zz_W → Prop} : zx_Lok 64 zHT PT zx_D743 := by
  refine zx_Lc_ok (fun w hI hK ins hl hr he hg => ?_)
  obtain ⟨a0, a1, rfl⟩ := zx_i2 hl
  have e0 : (0 : Int) + (1 * a0 + ((-18446744073709551616) * a1 + 0)) = 0 := he _ List.mem_cons_self
  have g0 : 0 ≤ (0 : Int) + (1 * a1 + 0) := hg _ List.mem_cons_self
  have g1 : 0 ≤ (4294967294 : Int) + ((-1) * a1 + 0) := hg _ (List.mem_cons_of_mem _ List.mem_cons_self)
  have h : zs_ud (zh_e w 231) (zh_e w 248) (zh_e w 239) (zh_e w 222) 0 0 a1 0 := ⟨fun i j i0 ij jn => by omega, fun i i0 i1 => by omega, fun i i0 i1 => by omega, fun i j i0 ij jc => by omega, fun q => by omega⟩
  exact ⟨_, List.mem_cons_self, [], rfl, zx_bnil, zx_cs0, (zx_eF1 (by show 0 ≤ (0 : Int) + (1 * a0 + 0); omega) (by show zk_xe w 2000076 ((0 : Int) + (1 * a0 + 0)) = (1 : Int) + (0); rw [show (0 : Int) + (1 * a0 + 0) = a0 by omega]; exact ((zs_76 (w := w) (j := a0) (n := 0) (c := 0) (t := a1) (by omega) (by omega) (by omega) (by omega) (by omega) (by omega) (by omega) ).mpr (h)).trans (by omega)) zx_eF0), zx_k0⟩
def zx_D744 : zx_L := zx_Lc [] 9 [(2000076, 0), (2000077, 5), (222, 8)] [] [((0, 0), [(0, 1, 0), (1, 0, 1), (2, 0, 4294967296), (3, 0, 18446744073709551616)]), ((0, 79228162532711081667253501952), [(1, 0, 1), (2, 0, 4294967296), (3, 0, 18446744073709551616), (4, 1, 0), (11, 0, 79228162514264337593543950336)]), ((0, 1), [(9, 1, 0)]), ((0, 0), [(5, 1, 0), (6, 0, 1), (7, 0, 4294967296)]), ((0, 1), [(10, 1, 0)]), ((0, 0), [(3, 0, 1), (8, 1, 0)])] [((0, 0), [(1, 1, 0)]), ((4294967294, 0), [(1, 0, 1)]), ((0, 0), [(2, 1, 0)]), ((4294967294, 0), [(2, 0, 1)]), ((0, 0), [(3, 1, 0)]), ((4294967294, 0), [(3, 0, 1)]), ((0, 0), [(6, 1, 0)]), ((4294967294, 0), [(6, 0, 1)]), ((0, 0), [(7, 1, 0)]), ((4294967294, 0), [(7, 0, 1)]), ((0, 2), [(3, 0, 1), (6, 1, 0)]), ((0, 0), [(11, 1, 0)]), ((100000, 0), [(11, 0, 1)])] [([], [], [(2000078, ((0, 0), [(4, 1, 0)]), ((1, 0), []))], [])]
theorem zx_D744_ok {PT : Nat → zz_W → Prop} : zx_Lok 64 zHT PT zx_D744 := by
  refine zx_Lc_ok (fun w hI hK ins hl hr he hg => ?_)
  obtain ⟨a0, a1, a2, a3, a4, a5, a6, a7, a8, rfl⟩ := zx_i9 hl
  have e0 : (0 : Int) + (1 * a0 + ((-1) * a1 + ((-4294967296) * a2 + ((-18446744073709551616) * a3 + 0)))) = 0 := he _ List.mem_cons_self
  have e1 : ((-79228162532711081667253501952) : Int) + ((-1) * a1 + ((-4294967296) * a2 + ((-18446744073709551616) * a3 + (1 * a4 + ((-79228162514264337593543950336) * (zk_xe w 222 a8) + 0))))) = 0 := he _ (List.mem_cons_of_mem _ List.mem_cons_self)
  have e2 : ((-1) : Int) + (1 * (zk_xe w 2000076 a0) + 0) = 0 := he _ (List.mem_cons_of_mem _ (List.mem_cons_of_mem _ List.mem_cons_self))
  have e3 : (0 : Int) + (1 * a5 + ((-1) * a6 + ((-4294967296) * a7 + 0))) = 0 := he _ (List.mem_cons_of_mem _ (List.mem_cons_of_mem _ (List.mem_cons_of_mem _ List.mem_cons_self)))
  have e4 : ((-1) : Int) + (1 * (zk_xe w 2000077 a5) + 0) = 0 := he _ (List.mem_cons_of_mem _ (List.mem_cons_of_mem _ (List.mem_cons_of_mem _ (List.mem_cons_of_mem _ List.mem_cons_self))))
  have e5 : (0 : Int) + ((-1) * a3 + (1 * a8 + 0)) = 0 := he _ (List.mem_cons_of_mem _ (List.mem_cons_of_mem _ (List.mem_cons_of_mem _ (List.mem_cons_of_mem _ (List.mem_cons_of_mem _ List.mem_cons_self)))))
  have g0 : 0 ≤ (0 : Int) + (1 * a1 + 0) := hg _ List.mem_cons_self
  have g1 : 0 ≤ (4294967294 : Int) + ((-1) * a1 + 0) := hg _ (List.mem_cons_of_mem _ List.mem_cons_self)
  have g2 : 0 ≤ (0 : Int) + (1 * a2 + 0) := hg _ (List.mem_cons_of_mem _ (List.mem_cons_of_mem _ List.mem_cons_self))
  have g3 : 0 ≤ (4294967294 : Int) + ((-1) * a2 + 0) := hg _ (List.mem_cons_of_mem _ (List.mem_cons_of_mem _ (List.mem_cons_of_mem _ List.mem_cons_self)))
  have g4 : 0 ≤ (0 : Int) + (1 * a3 + 0) := hg _ (List.mem_cons_of_mem _ (List.mem_cons_of_mem _ (List.mem_cons_of_mem _ (List.mem_cons_of_mem _ List.mem_cons_self))))
  have g5 : 0 ≤ (4294967294 : Int) + ((-1) * a3 + 0) := hg _ (List.mem_cons_of_mem _ (List.mem_cons_of_mem _ (List.mem_cons_of_mem _ (List.mem_cons_of_mem _ (List.mem_cons_of_mem _ List.mem_cons_self)))))
  have g6 : 0 ≤ (0 : Int) + (1 * a6 + 0) := hg _ (List.mem_cons_of_mem _ (List.mem_cons_of_mem _ (List.mem_cons_of_mem _ (List.mem_cons_of_mem _ (List.mem_cons_of_mem _ (List.mem_cons_of_mem _ List.mem_cons_self))))))
  have g7 : 0 ≤ (4294967294 : Int) + ((-1) * a6 + 0) := hg _ (List.mem_cons_of_mem _ (List.mem_cons_of_mem _ (List.mem_cons_of_mem _ (List.mem_cons_of_mem _ (List.mem_cons_of_mem _ (List.mem_cons_of_mem _ (List.mem_cons_of_mem _ List.mem_cons_self)))))))
  have g8 : 0 ≤ (0 : Int) + (1 * a7 + 0) := hg _ (List.mem_cons_of_mem _ (List.mem_cons_of_mem _ (List.mem_cons_of_mem _ (List.mem_cons_of_mem _ (List.mem_cons_of_mem _ (List.mem_cons_of_mem _ (List.mem_cons_of_mem _ (List.mem_cons_of_mem _ List.mem_cons_self))))))))
  have g9 : 0 ≤ (4294967294 : Int) + ((-1) * a7 + 0) := hg _ (List.mem_cons_of_mem _ (List.mem_cons_of_mem _ (List.mem_cons_of_mem _ (List.mem_cons_of_mem _ (List.mem_cons_of_mem _ (List.mem_cons_of_mem _ (List.mem_cons_of_mem _ (List.mem_cons_of_mem _ (List.mem_cons_of_mem _ List.mem_cons_self)))))))))
  have g10 : 0 ≤ ((-2) : Int) + ((-1) * a3 + (1 * a6 + 0)) := hg _ (List.mem_cons_of_mem _ (List.mem_cons_of_mem _ (List.mem_cons_of_mem _ (List.mem_cons_of_mem _ (List.mem_cons_of_mem _ (List.mem_cons_of_mem _ (List.mem_cons_of_mem _ (List.mem_cons_of_mem _ (List.mem_cons_of_mem _ (List.mem_cons_of_mem _ List.mem_cons_self))))))))))
  have g11 : 0 ≤ (0 : Int) + (1 * (zk_xe w 222 a8) + 0) := hg _ (List.mem_cons_of_mem _ (List.mem_cons_of_mem _ (List.mem_cons_of_mem _ (List.mem_cons_of_mem _ (List.mem_cons_of_mem _ (List.mem_cons_of_mem _ (List.mem_cons_of_mem _ (List.mem_cons_of_mem _ (List.mem_cons_of_mem _ (List.mem_cons_of_mem _ (List.mem_cons_of_mem _ List.mem_cons_self)))))))))))
  have g12 : 0 ≤ (100000 : Int) + ((-1) * (zk_xe w 222 a8) + 0) := hg _ (List.mem_cons_of_mem _ (List.mem_cons_of_mem _ (List.mem_cons_of_mem _ (List.mem_cons_of_mem _ (List.mem_cons_of_mem _ (List.mem_cons_of_mem _ (List.mem_cons_of_mem _ (List.mem_cons_of_mem _ (List.mem_cons_of_mem _ (List.mem_cons_of_mem _ (List.mem_cons_of_mem _ (List.mem_cons_of_mem _ List.mem_cons_self))))))))))))
  have r0 : 0 ≤ a0 := hr _ List.mem_cons_self
  have r1 : 0 ≤ a5 := hr _ (List.mem_cons_of_mem _ List.mem_cons_self)
  have r2 : 0 ≤ a8 := hr _ (List.mem_cons_of_mem _ (List.mem_cons_of_mem _ List.mem_cons_self))
  have hp := (zs_76 (w := w) (j := a0) (n := a1) (c := a2) (t := a3) (by omega) (by omega) (by omega) (by omega) (by omega) (by omega) (by omega) ).mp (by omega)
  have ht := (zs_77 (w := w) (j := a5) (n := a6) (b := a7) (by omega) (by omega) (by omega) (by omega) (by omega) ).mp (by omega)
  have k0 : zh_e w 222 (a3) = zk_xe w 222 a8 := by rw [zk_xe_r (i := 222) (by decide)]; show zk_el w 222 (a3) = zk_el w 222 a8; rw [show a3 = a8 by omega]
  have hl := ht.1 a3 (a3 + 1) (by omega) (by omega) (by omega)
  rw [k0] at hl
  have h : zs_ud (zh_e w 231) (zh_e w 248) (zh_e w 239) (zh_e w 222) a1 a2 (a3 + 1) (zk_xe w 222 a8 + 1) := by
    obtain ⟨h1, h2, h3, h4, -⟩ := hp
    have h2 : ∀ i, 0 ≤ i → i < a1 → 0 ≤ zh_e w 231 i ∧ zh_e w 231 i < zk_xe w 222 a8 := fun i i0 i1 => by rw [← k0]; exact h2 i i0 i1
    have h3 : ∀ i, 0 ≤ i → i < a2 → 2 ≤ zh_e w 239 i → zh_e w 248 i < zk_xe w 222 a8 ∧ ∀ k, 0 ≤ k → k < a1 → zh_e w 231 k ≠ zh_e w 248 i := fun i i0 i1 i2 => by rw [← k0]; exact h3 i i0 i1 i2
    refine ⟨h1, fun i i0 i1 => ?_, fun i i0 i1 i2 => ?_, h4, fun _ => ⟨by omega, fun k k0 k1 => ?_, fun i i0 i1 i2 => ?_⟩⟩
    · have := h2 i i0 i1
      exact ⟨this.1, by omega⟩
    · obtain ⟨q1, q2⟩ := h3 i i0 i1 i2
      exact ⟨by omega, q2⟩
    · have := h2 k k0 k1
      omega
    · have := (h3 i i0 i1 i2).1
      omega
  exact ⟨_, List.mem_cons_self, [], rfl, zx_bnil, zx_cs0, (zx_eF1 (by show 0 ≤ (0 : Int) + (1 * a4 + 0); omega) (by show zk_xe w 2000078 ((0 : Int) + (1 * a4 + 0)) = (1 : Int) + (0); rw [show (0 : Int) + (1 * a4 + 0) = a4 by omega]; exact ((zs_78 (w := w) (j := a4) (n := a1) (c := a2) (t := (a3 + 1)) (y := (zk_xe w 222 a8 + 1)) (by omega) (by omega) (by omega) (by omega) (by omega) (by omega) (by omega) (by omega) (by omega) ).mpr (h)).trans (by omega)) zx_eF0), zx_k0⟩
def zx_D745 : zx_L := zx_Lc [] 9 [(2000076, 0), (2000077, 6)] [] [((0, 0), [(0, 1, 0), (1, 0, 1), (2, 0, 4294967296), (3, 0, 18446744073709551616)]), ((0, 0), [(1, 0, 1), (2, 0, 4294967296), (4, 1, 0), (5, 0, 18446744073709551616)]), ((0, 1), [(9, 1, 0)]), ((0, 0), [(6, 1, 0), (7, 0, 1), (8, 0, 4294967296)]), ((0, 1), [(10, 1, 0)])] [((0, 0), [(1, 1, 0)]), ((4294967294, 0), [(1, 0, 1)]), ((0, 0), [(2, 1, 0)]), ((4294967294, 0), [(2, 0, 1)]), ((0, 0), [(3, 1, 0)]), ((4294967294, 0), [(3, 0, 1)]), ((0, 0), [(5, 1, 0)]), ((4294967294, 0), [(5, 0, 1)]), ((0, 0), [(7, 1, 0)]), ((4294967294, 0), [(7, 0, 1)]), ((0, 0), [(8, 1, 0)]), ((4294967294, 0), [(8, 0, 1)]), ((0, 0), [(3, 0, 1), (5, 1, 0)]), ((0, 1), [(5, 0, 1), (7, 1, 0)])] [([], [], [(2000076, ((0, 0), [(4, 1, 0)]), ((1, 0), []))], [])]
theorem zx_D745_ok {PT : Nat → zz_W → Prop} : zx_Lok 64 zHT PT zx_D745 := by
  refine zx_Lc_ok (fun w hI hK ins hl hr he hg => ?_)
  obtain ⟨a0, a1, a2, a3, a4, a5, a6, a7, a8, rfl⟩ := zx_i9 hl
  have e0 : (0 : Int) + (1 * a0 + ((-1) * a1 + ((-4294967296) * a2 + ((-18446744073709551616) * a3 + 0)))) = 0 := he _ List.mem_cons_self
  have e1 : (0 : Int) + ((-1) * a1 + ((-4294967296) * a2 + (1 * a4 + ((-18446744073709551616) * a5 + 0)))) = 0 := he _ (List.mem_cons_of_mem _ List.mem_cons_self)
  have e2 : ((-1) : Int) + (1 * (zk_xe w 2000076 a0) + 0) = 0 := he _ (List.mem_cons_of_mem _ (List.mem_cons_of_mem _ List.mem_cons_self))
  have e3 : (0 : Int) + (1 * a6 + ((-1) * a7 + ((-4294967296) * a8 + 0))) = 0 := he _ (List.mem_cons_of_mem _ (List.mem_cons_of_mem _ (List.mem_cons_of_mem _ List.mem_cons_self)))
  have e4 : ((-1) : Int) + (1 * (zk_xe w 2000077 a6) + 0) = 0 := he _ (List.mem_cons_of_mem _ (List.mem_cons_of_mem _ (List.mem_cons_of_mem _ (List.mem_cons_of_mem _ List.mem_cons_self))))
  have g0 : 0 ≤ (0 : Int) + (1 * a1 + 0) := hg _ List.mem_cons_self
  have g1 : 0 ≤ (4294967294 : Int) + ((-1) * a1 + 0) := hg _ (List.mem_cons_of_mem _ List.mem_cons_self)
  have g2 : 0 ≤ (0 : Int) + (1 * a2 + 0) := hg _ (List.mem_cons_of_mem _ (List.mem_cons_of_mem _ List.mem_cons_self))
  have g3 : 0 ≤ (4294967294 : Int) + ((-1) * a2 + 0) := hg _ (List.mem_cons_of_mem _ (List.mem_cons_of_mem _ (List.mem_cons_of_mem _ List.mem_cons_self)))
  have g4 : 0 ≤ (0 : Int) + (1 * a3 + 0) := hg _ (List.mem_cons_of_mem _ (List.mem_cons_of_mem _ (List.mem_cons_of_mem _ (List.mem_cons_of_mem _ List.mem_cons_self))))
  have g5 : 0 ≤ (4294967294 : Int) + ((-1) * a3 + 0) := hg _ (List.mem_cons_of_mem _ (List.mem_cons_of_mem _ (List.mem_cons_of_mem _ (List.mem_cons_of_mem _ (List.mem_cons_of_mem _ List.mem_cons_self)))))
  have g6 : 0 ≤ (0 : Int) + (1 * a5 + 0) := hg _ (List.mem_cons_of_mem _ (List.mem_cons_of_mem _ (List.mem_cons_of_mem _ (List.mem_cons_of_mem _ (List.mem_cons_of_mem _ (List.mem_cons_of_mem _ List.mem_cons_self))))))
  have g7 : 0 ≤ (4294967294 : Int) + ((-1) * a5 + 0) := hg _ (List.mem_cons_of_mem _ (List.mem_cons_of_mem _ (List.mem_cons_of_mem _ (List.mem_cons_of_mem _ (List.mem_cons_of_mem _ (List.mem_cons_of_mem _ (List.mem_cons_of_mem _ List.mem_cons_self)))))))
  have g8 : 0 ≤ (0 : Int) + (1 * a7 + 0) := hg _ (List.mem_cons_of_mem _ (List.mem_cons_of_mem _ (List.mem_cons_of_mem _ (List.mem_cons_of_mem _ (List.mem_cons_of_mem _ (List.mem_cons_of_mem _ (List.mem_cons_of_mem _ (List.mem_cons_of_mem _ List.mem_cons_self))))))))
  have g9 : 0 ≤ (4294967294 : Int) + ((-1) * a7 + 0) := hg _ (List.mem_cons_of_mem _ (List.mem_cons_of_mem _ (List.mem_cons_of_mem _ (List.mem_cons_of_mem _ (List.mem_cons_of_mem _ (List.mem_cons_of_mem _ (List.mem_cons_of_mem _ (List.mem_cons_of_mem _ (List.mem_cons_of_mem _ List.mem_cons_self)))))))))
  have g10 : 0 ≤ (0 : Int) + (1 * a8 + 0) := hg _ (List.mem_cons_of_mem _ (List.mem_cons_of_mem _ (List.mem_cons_of_mem _ (List.mem_cons_of_mem _ (List.mem_cons_of_mem _ (List.mem_cons_of_mem _ (List.mem_cons_of_mem _ (List.mem_cons_of_mem _ (List.mem_cons_of_mem _ (List.mem_cons_of_mem _ List.mem_cons_self))))))))))
  have g11 : 0 ≤ (4294967294 : Int) + ((-1) * a8 + 0) := hg _ (List.mem_cons_of_mem _ (List.mem_cons_of_mem _ (List.mem_cons_of_mem _ (List.mem_cons_of_mem _ (List.mem_cons_of_mem _ (List.mem_cons_of_mem _ (List.mem_cons_of_mem _ (List.mem_cons_of_mem _ (List.mem_cons_of_mem _ (List.mem_cons_of_mem _ (List.mem_cons_of_mem _ List.mem_cons_self)))))))))))
  have g12 : 0 ≤ (0 : Int) + ((-1) * a3 + (1 * a5 + 0)) := hg _ (List.mem_cons_of_mem _ (List.mem_cons_of_mem _ (List.mem_cons_of_mem _ (List.mem_cons_of_mem _ (List.mem_cons_of_mem _ (List.mem_cons_of_mem _ (List.mem_cons_of_mem _ (List.mem_cons_of_mem _ (List.mem_cons_of_mem _ (List.mem_cons_of_mem _ (List.mem_cons_of_mem _ (List.mem_cons_of_mem _ List.mem_cons_self))))))))))))
  have g13 : 0 ≤ ((-1) : Int) + ((-1) * a5 + (1 * a7 + 0)) := hg _ (List.mem_cons_of_mem _ (List.mem_cons_of_mem _ (List.mem_cons_of_mem _ (List.mem_cons_of_mem _ (List.mem_cons_of_mem _ (List.mem_cons_of_mem _ (List.mem_cons_of_mem _ (List.mem_cons_of_mem _ (List.mem_cons_of_mem _ (List.mem_cons_of_mem _ (List.mem_cons_of_mem _ (List.mem_cons_of_mem _ (List.mem_cons_of_mem _ List.mem_cons_self)))))))))))))
  have r0 : 0 ≤ a0 := hr _ List.mem_cons_self
  have r1 : 0 ≤ a6 := hr _ (List.mem_cons_of_mem _ List.mem_cons_self)
  have hp := (zs_76 (w := w) (j := a0) (n := a1) (c := a2) (t := a3) (by omega) (by omega) (by omega) (by omega) (by omega) (by omega) (by omega) ).mp (by omega)
  have ht := (zs_77 (w := w) (j := a6) (n := a7) (b := a8) (by omega) (by omega) (by omega) (by omega) (by omega) ).mp (by omega)
  have hl : zh_e w 222 a3 ≤ zh_e w 222 a5 := by
    by_cases c : a3 = a5
    · rw [c]
      exact Int.le_refl _
    · exact Int.le_of_lt (ht.1 a3 a5 (by omega) (by omega) (by omega))
  exact ⟨_, List.mem_cons_self, [], rfl, zx_bnil, zx_cs0, (zx_eF1 (by show 0 ≤ (0 : Int) + (1 * a4 + 0); omega) (by show zk_xe w 2000076 ((0 : Int) + (1 * a4 + 0)) = (1 : Int) + (0); rw [show (0 : Int) + (1 * a4 + 0) = a4 by omega]; exact ((zs_76 (w := w) (j := a4) (n := a1) (c := a2) (t := a5) (by omega) (by omega) (by omega) (by omega) (by omega) (by omega) (by omega) ).mpr (zs_udw (Int.le_refl _) hl (Or.inl rfl) hp)).trans (by omega)) zx_eF0), zx_k0⟩
def zx_D752 : zx_L := zx_Lc [] 10 [(2000078, 0), (2000077, 7)] [] [((0, 0), [(0, 1, 0), (1, 0, 1), (2, 0, 4294967296), (3, 0, 18446744073709551616), (4, 0, 79228162514264337593543950336)]), ((0, 0), [(1, 0, 1), (2, 0, 4294967296), (4, 0, 79228162514264337593543950336), (5, 1, 0), (6, 0, 18446744073709551616)]), ((0, 1), [(10, 1, 0)]), ((0, 0), [(7, 1, 0), (8, 0, 1), (9, 0, 4294967296)]), ((0, 1), [(11, 1, 0)])] [((0, 0), [(1, 1, 0)]), ((4294967294, 0), [(1, 0, 1)]), ((0, 0), [(2, 1, 0)]), ((4294967294, 0), [(2, 0, 1)]), ((0, 0), [(3, 1, 0)]), ((4294967294, 0), [(3, 0, 1)]), ((0, 0), [(4, 1, 0)]), ((4294967294, 0), [(4, 0, 1)]), ((0, 0), [(6, 1, 0)]), ((4294967294, 0), [(6, 0, 1)]), ((0, 0), [(8, 1, 0)]), ((4294967294, 0), [(8, 0, 1)]), ((0, 0), [(9, 1, 0)]), ((4294967294, 0), [(9, 0, 1)]), ((0, 0), [(3, 0, 1), (6, 1, 0)]), ((0, 1), [(6, 0, 1), (8, 1, 0)])] [([], [], [(2000078, ((0, 0), [(5, 1, 0)]), ((1, 0), []))], [])]
theorem zx_D752_ok {PT : Nat → zz_W → Prop} : zx_Lok 64 zHT PT zx_D752 := by
  refine zx_Lc_ok (fun w hI hK ins hl hr he hg => ?_)
  obtain ⟨a0, a1, a2, a3, a4, a5, a6, a7, a8, a9, rfl⟩ := zx_i10 hl
  have e0 : (0 : Int) + (1 * a0 + ((-1) * a1 + ((-4294967296) * a2 + ((-18446744073709551616) * a3 + ((-79228162514264337593543950336) * a4 + 0))))) = 0 := he _ List.mem_cons_self
  have e1 : (0 : Int) + ((-1) * a1 + ((-4294967296) * a2 + ((-79228162514264337593543950336) * a4 + (1 * a5 + ((-18446744073709551616) * a6 + 0))))) = 0 := he _ (List.mem_cons_of_mem _ List.mem_cons_self)
  have e2 : ((-1) : Int) + (1 * (zk_xe w 2000078 a0) + 0) = 0 := he _ (List.mem_cons_of_mem _ (List.mem_cons_of_mem _ List.mem_cons_self))
  have e3 : (0 : Int) + (1 * a7 + ((-1) * a8 + ((-4294967296) * a9 + 0))) = 0 := he _ (List.mem_cons_of_mem _ (List.mem_cons_of_mem _ (List.mem_cons_of_mem _ List.mem_cons_self)))
  have e4 : ((-1) : Int) + (1 * (zk_xe w 2000077 a7) + 0) = 0 := he _ (List.mem_cons_of_mem _ (List.mem_cons_of_mem _ (List.mem_cons_of_mem _ (List.mem_cons_of_mem _ List.mem_cons_self))))
  have g0 : 0 ≤ (0 : Int) + (1 * a1 + 0) := hg _ List.mem_cons_self
  have g1 : 0 ≤ (4294967294 : Int) + ((-1) * a1 + 0) := hg _ (List.mem_cons_of_mem _ List.mem_cons_self)
  have g2 : 0 ≤ (0 : Int) + (1 * a2 + 0) := hg _ (List.mem_cons_of_mem _ (List.mem_cons_of_mem _ List.mem_cons_self))
  have g3 : 0 ≤ (4294967294 : Int) + ((-1) * a2 + 0) := hg _ (List.mem_cons_of_mem _ (List.mem_cons_of_mem _ (List.mem_cons_of_mem _ List.mem_cons_self)))
  have g4 : 0 ≤ (0 : Int) + (1 * a3 + 0) := hg _ (List.mem_cons_of_mem _ (List.mem_cons_of_mem _ (List.mem_cons_of_mem _ (List.mem_cons_of_mem _ List.mem_cons_self))))
  have g5 : 0 ≤ (4294967294 : Int) + ((-1) * a3 + 0) := hg _ (List.mem_cons_of_mem _ (List.mem_cons_of_mem _ (List.mem_cons_of_mem _ (List.mem_cons_of_mem _ (List.mem_cons_of_mem _ List.mem_cons_self)))))
  have g6 : 0 ≤ (0 : Int) + (1 * a4 + 0) := hg _ (List.mem_cons_of_mem _ (List.mem_cons_of_mem _ (List.mem_cons_of_mem _ (List.mem_cons_of_mem _ (List.mem_cons_of_mem _ (List.mem_cons_of_mem _ List.mem_cons_self))))))
  have g7 : 0 ≤ (4294967294 : Int) + ((-1) * a4 + 0) := hg _ (List.mem_cons_of_mem _ (List.mem_cons_of_mem _ (List.mem_cons_of_mem _ (List.mem_cons_of_mem _ (List.mem_cons_of_mem _ (List.mem_cons_of_mem _ (List.mem_cons_of_mem _ List.mem_cons_self)))))))
  have g8 : 0 ≤ (0 : Int) + (1 * a6 + 0) := hg _ (List.mem_cons_of_mem _ (List.mem_cons_of_mem _ (List.mem_cons_of_mem _ (List.mem_cons_of_mem _ (List.mem_cons_of_mem _ (List.mem_cons_of_mem _ (List.mem_cons_of_mem _ (List.mem_cons_of_mem _ List.mem_cons_self))))))))
  have g9 : 0 ≤ (4294967294 : Int) + ((-1) * a6 + 0) := hg _ (List.mem_cons_of_mem _ (List.mem_cons_of_mem _ (List.mem_cons_of_mem _ (List.mem_cons_of_mem _ (List.mem_cons_of_mem _ (List.mem_cons_of_mem _ (List.mem_cons_of_mem _ (List.mem_cons_of_mem _ (List.mem_cons_of_mem _ List.mem_cons_self)))))))))
  have g10 : 0 ≤ (0 : Int) + (1 * a8 + 0) := hg _ (List.mem_cons_of_mem _ (List.mem_cons_of_mem _ (List.mem_cons_of_mem _ (List.mem_cons_of_mem _ (List.mem_cons_of_mem _ (List.mem_cons_of_mem _ (List.mem_cons_of_mem _ (List.mem_cons_of_mem _ (List.mem_cons_of_mem _ (List.mem_cons_of_mem _ List.mem_cons_self))))))))))
  have g11 : 0 ≤ (4294967294 : Int) + ((-1) * a8 + 0) := hg _ (List.mem_cons_of_mem _ (List.mem_cons_of_mem _ (List.mem_cons_of_mem _ (List.mem_cons_of_mem _ (List.mem_cons_of_mem _ (List.mem_cons_of_mem _ (List.mem_cons_of_mem _ (List.mem_cons_of_mem _ (List.mem_cons_of_mem _ (List.mem_cons_of_mem _ (List.mem_cons_of_mem _ List.mem_cons_self)))))))))))
  have g12 : 0 ≤ (0 : Int) + (1 * a9 + 0) := hg _ (List.mem_cons_of_mem _ (List.mem_cons_of_mem _ (List.mem_cons_of_mem _ (List.mem_cons_of_mem _ (List.mem_cons_of_mem _ (List.mem_cons_of_mem _ (List.mem_cons_of_mem _ (List.mem_cons_of_mem _ (List.mem_cons_of_mem _ (List.mem_cons_of_mem _ (List.mem_cons_of_mem _ (List.mem_cons_of_mem _ List.mem_cons_self))))))))))))
  have g13 : 0 ≤ (4294967294 : Int) + ((-1) * a9 + 0) := hg _ (List.mem_cons_of_mem _ (List.mem_cons_of_mem _ (List.mem_cons_of_mem _ (List.mem_cons_of_mem _ (List.mem_cons_of_mem _ (List.mem_cons_of_mem _ (List.mem_cons_of_mem _ (List.mem_cons_of_mem _ (List.mem_cons_of_mem _ (List.mem_cons_of_mem _ (List.mem_cons_of_mem _ (List.mem_cons_of_mem _ (List.mem_cons_of_mem _ List.mem_cons_self)))))))))))))
  have g14 : 0 ≤ (0 : Int) + ((-1) * a3 + (1 * a6 + 0)) := hg _ (List.mem_cons_of_mem _ (List.mem_cons_of_mem _ (List.mem_cons_of_mem _ (List.mem_cons_of_mem _ (List.mem_cons_of_mem _ (List.mem_cons_of_mem _ (List.mem_cons_of_mem _ (List.mem_cons_of_mem _ (List.mem_cons_of_mem _ (List.mem_cons_of_mem _ (List.mem_cons_of_mem _ (List.mem_cons_of_mem _ (List.mem_cons_of_mem _ (List.mem_cons_of_mem _ List.mem_cons_self))))))))))))))
  have g15 : 0 ≤ ((-1) : Int) + ((-1) * a6 + (1 * a8 + 0)) := hg _ (List.mem_cons_of_mem _ (List.mem_cons_of_mem _ (List.mem_cons_of_mem _ (List.mem_cons_of_mem _ (List.mem_cons_of_mem _ (List.mem_cons_of_mem _ (List.mem_cons_of_mem _ (List.mem_cons_of_mem _ (List.mem_cons_of_mem _ (List.mem_cons_of_mem _ (List.mem_cons_of_mem _ (List.mem_cons_of_mem _ (List.mem_cons_of_mem _ (List.mem_cons_of_mem _ (List.mem_cons_of_mem _ List.mem_cons_self)))))))))))))))
  have r0 : 0 ≤ a0 := hr _ List.mem_cons_self
  have r1 : 0 ≤ a7 := hr _ (List.mem_cons_of_mem _ List.mem_cons_self)
  have hp := (zs_78 (w := w) (j := a0) (n := a1) (c := a2) (t := a3) (y := a4) (by omega) (by omega) (by omega) (by omega) (by omega) (by omega) (by omega) (by omega) (by omega) ).mp (by omega)
  have ht := (zs_77 (w := w) (j := a7) (n := a8) (b := a9) (by omega) (by omega) (by omega) (by omega) (by omega) ).mp (by omega)
  have hl : zh_e w 222 a3 ≤ zh_e w 222 a6 := by
    by_cases c : a3 = a6
    · rw [c]
      exact Int.le_refl _
    · exact Int.le_of_lt (ht.1 a3 a6 (by omega) (by omega) (by omega))
  exact ⟨_, List.mem_cons_self, [], rfl, zx_bnil, zx_cs0, (zx_eF1 (by show 0 ≤ (0 : Int) + (1 * a5 + 0); omega) (by show zk_xe w 2000078 ((0 : Int) + (1 * a5 + 0)) = (1 : Int) + (0); rw [show (0 : Int) + (1 * a5 + 0) = a5 by omega]; exact ((zs_78 (w := w) (j := a5) (n := a1) (c := a2) (t := a6) (y := a4) (by omega) (by omega) (by omega) (by omega) (by omega) (by omega) (by omega) (by omega) (by omega) ).mpr (zs_udw (Int.le_refl _) hl (Or.inl rfl) hp)).trans (by omega)) zx_eF0), zx_k0⟩
def zx_D746 : zx_L := zx_Lc [] 7 [(2000078, 0), (231, 6)] [] [((0, 0), [(0, 1, 0), (1, 0, 1), (2, 0, 4294967296), (3, 0, 18446744073709551616), (4, 0, 79228162514264337593543950336)]), ((0, 1), [(1, 0, 1), (2, 0, 4294967296), (3, 0, 18446744073709551616), (5, 1, 0)]), ((0, 1), [(7, 1, 0)]), ((0, 0), [(1, 0, 1), (6, 1, 0)]), ((1, 0), [(4, 0, 1), (8, 1, 0)])] [((0, 0), [(1, 1, 0)]), ((4294967294, 0), [(1, 0, 1)]), ((0, 0), [(2, 1, 0)]), ((4294967294, 0), [(2, 0, 1)]), ((0, 0), [(3, 1, 0)]), ((4294967294, 0), [(3, 0, 1)]), ((0, 0), [(4, 1, 0)]), ((4294967294, 0), [(4, 0, 1)]), ((0, 1), [(4, 1, 0)])] [([], [], [(2000076, ((0, 0), [(5, 1, 0)]), ((1, 0), []))], [])]
theorem zx_D746_ok {PT : Nat → zz_W → Prop} : zx_Lok 64 zHT PT zx_D746 := by
  refine zx_Lc_ok (fun w hI hK ins hl hr he hg => ?_)
  obtain ⟨a0, a1, a2, a3, a4, a5, a6, rfl⟩ := zx_i7 hl
  have e0 : (0 : Int) + (1 * a0 + ((-1) * a1 + ((-4294967296) * a2 + ((-18446744073709551616) * a3 + ((-79228162514264337593543950336) * a4 + 0))))) = 0 := he _ List.mem_cons_self
  have e1 : ((-1) : Int) + ((-1) * a1 + ((-4294967296) * a2 + ((-18446744073709551616) * a3 + (1 * a5 + 0)))) = 0 := he _ (List.mem_cons_of_mem _ List.mem_cons_self)
  have e2 : ((-1) : Int) + (1 * (zk_xe w 2000078 a0) + 0) = 0 := he _ (List.mem_cons_of_mem _ (List.mem_cons_of_mem _ List.mem_cons_self))
  have e3 : (0 : Int) + ((-1) * a1 + (1 * a6 + 0)) = 0 := he _ (List.mem_cons_of_mem _ (List.mem_cons_of_mem _ (List.mem_cons_of_mem _ List.mem_cons_self)))
  have e4 : (1 : Int) + ((-1) * a4 + (1 * (zk_xe w 231 a6) + 0)) = 0 := he _ (List.mem_cons_of_mem _ (List.mem_cons_of_mem _ (List.mem_cons_of_mem _ (List.mem_cons_of_mem _ List.mem_cons_self))))
  have g0 : 0 ≤ (0 : Int) + (1 * a1 + 0) := hg _ List.mem_cons_self
  have g1 : 0 ≤ (4294967294 : Int) + ((-1) * a1 + 0) := hg _ (List.mem_cons_of_mem _ List.mem_cons_self)
  have g2 : 0 ≤ (0 : Int) + (1 * a2 + 0) := hg _ (List.mem_cons_of_mem _ (List.mem_cons_of_mem _ List.mem_cons_self))
  have g3 : 0 ≤ (4294967294 : Int) + ((-1) * a2 + 0) := hg _ (List.mem_cons_of_mem _ (List.mem_cons_of_mem _ (List.mem_cons_of_mem _ List.mem_cons_self)))
  have g4 : 0 ≤ (0 : Int) + (1 * a3 + 0) := hg _ (List.mem_cons_of_mem _ (List.mem_cons_of_mem _ (List.mem_cons_of_mem _ (List.mem_cons_of_mem _ List.mem_cons_self))))
  have g5 : 0 ≤ (4294967294 : Int) + ((-1) * a3 + 0) := hg _ (List.mem_cons_of_mem _ (List.mem_cons_of_mem _ (List.mem_cons_of_mem _ (List.mem_cons_of_mem _ (List.mem_cons_of_mem _ List.mem_cons_self)))))
  have g6 : 0 ≤ (0 : Int) + (1 * a4 + 0) := hg _ (List.mem_cons_of_mem _ (List.mem_cons_of_mem _ (List.mem_cons_of_mem _ (List.mem_cons_of_mem _ (List.mem_cons_of_mem _ (List.mem_cons_of_mem _ List.mem_cons_self))))))
  have g7 : 0 ≤ (4294967294 : Int) + ((-1) * a4 + 0) := hg _ (List.mem_cons_of_mem _ (List.mem_cons_of_mem _ (List.mem_cons_of_mem _ (List.mem_cons_of_mem _ (List.mem_cons_of_mem _ (List.mem_cons_of_mem _ (List.mem_cons_of_mem _ List.mem_cons_self)))))))
  have g8 : 0 ≤ ((-1) : Int) + (1 * a4 + 0) := hg _ (List.mem_cons_of_mem _ (List.mem_cons_of_mem _ (List.mem_cons_of_mem _ (List.mem_cons_of_mem _ (List.mem_cons_of_mem _ (List.mem_cons_of_mem _ (List.mem_cons_of_mem _ (List.mem_cons_of_mem _ List.mem_cons_self))))))))
  have r0 : 0 ≤ a0 := hr _ List.mem_cons_self
  have r1 : 0 ≤ a6 := hr _ (List.mem_cons_of_mem _ List.mem_cons_self)
  have hp := (zs_78 (w := w) (j := a0) (n := a1) (c := a2) (t := a3) (y := a4) (by omega) (by omega) (by omega) (by omega) (by omega) (by omega) (by omega) (by omega) (by omega) ).mp (by omega)
  have k0 : zh_e w 231 (a1) = zk_xe w 231 a6 := by rw [zk_xe_r (i := 231) (by decide)]; show zk_el w 231 (a1) = zk_el w 231 a6; rw [show a1 = a6 by omega]
  have h : zs_ud (zh_e w 231) (zh_e w 248) (zh_e w 239) (zh_e w 222) (a1 + 1) a2 a3 0 := by
    obtain ⟨h1, h2, h3, h4, h5⟩ := hp
    obtain ⟨q1, q2, q3⟩ := h5 (by omega)
    refine ⟨fun i j i0 ij jn => ?_, fun i i0 i1 => ?_, fun i i0 i1 i2 => ⟨(h3 i i0 i1 i2).1, fun k k0_ k1 => ?_⟩, h4, fun q => by omega⟩
    · by_cases c : j = a1
      · rw [c, k0]
        have := q2 i i0 (by omega)
        omega
      · exact h1 i j i0 ij (by omega)
    · by_cases c : i = a1
      · rw [c, k0]
        exact ⟨by omega, by omega⟩
      · exact h2 i i0 (by omega)
    · by_cases c : k = a1
      · rw [c, k0]
        have := q3 i i0 i1 i2
        omega
      · exact (h3 i i0 i1 i2).2 k k0_ (by omega)
  exact ⟨_, List.mem_cons_self, [], rfl, zx_bnil, zx_cs0, (zx_eF1 (by show 0 ≤ (0 : Int) + (1 * a5 + 0); omega) (by show zk_xe w 2000076 ((0 : Int) + (1 * a5 + 0)) = (1 : Int) + (0); rw [show (0 : Int) + (1 * a5 + 0) = a5 by omega]; exact ((zs_76 (w := w) (j := a5) (n := (a1 + 1)) (c := a2) (t := a3) (by omega) (by omega) (by omega) (by omega) (by omega) (by omega) (by omega) ).mpr (h)).trans (by omega)) zx_eF0), zx_k0⟩
def zx_D747 : zx_L := zx_Lc [] 7 [(2000078, 0), (248, 6)] [] [((0, 0), [(0, 1, 0), (1, 0, 1), (2, 0, 4294967296), (3, 0, 18446744073709551616), (4, 0, 79228162514264337593543950336)]), ((0, 4294967296), [(1, 0, 1), (2, 0, 4294967296), (3, 0, 18446744073709551616), (5, 1, 0)]), ((0, 1), [(7, 1, 0)]), ((0, 0), [(2, 0, 1), (6, 1, 0)]), ((1, 0), [(4, 0, 1), (8, 1, 0)])] [((0, 0), [(1, 1, 0)]), ((4294967294, 0), [(1, 0, 1)]), ((0, 0), [(2, 1, 0)]), ((4294967294, 0), [(2, 0, 1)]), ((0, 0), [(3, 1, 0)]), ((4294967294, 0), [(3, 0, 1)]), ((0, 0), [(4, 1, 0)]), ((4294967294, 0), [(4, 0, 1)]), ((0, 1), [(4, 1, 0)])] [([], [], [(2000076, ((0, 0), [(5, 1, 0)]), ((1, 0), []))], [])]
theorem zx_D747_ok {PT : Nat → zz_W → Prop} : zx_Lok 64 zHT PT zx_D747 := by
  refine zx_Lc_ok (fun w hI hK ins hl hr he hg => ?_)
  obtain ⟨a0, a1, a2, a3, a4, a5, a6, rfl⟩ := zx_i7 hl
  have e0 : (0 : Int) + (1 * a0 + ((-1) * a1 + ((-4294967296) * a2 + ((-18446744073709551616) * a3 + ((-79228162514264337593543950336) * a4 + 0))))) = 0 := he _ List.mem_cons_self
  have e1 : ((-4294967296) : Int) + ((-1) * a1 + ((-4294967296) * a2 + ((-18446744073709551616) * a3 + (1 * a5 + 0)))) = 0 := he _ (List.mem_cons_of_mem _ List.mem_cons_self)
  have e2 : ((-1) : Int) + (1 * (zk_xe w 2000078 a0) + 0) = 0 := he _ (List.mem_cons_of_mem _ (List.mem_cons_of_mem _ List.mem_cons_self))
  have e3 : (0 : Int) + ((-1) * a2 + (1 * a6 + 0)) = 0 := he _ (List.mem_cons_of_mem _ (List.mem_cons_of_mem _ (List.mem_cons_of_mem _ List.mem_cons_self)))
  have e4 : (1 : Int) + ((-1) * a4 + (1 * (zk_xe w 248 a6) + 0)) = 0 := he _ (List.mem_cons_of_mem _ (List.mem_cons_of_mem _ (List.mem_cons_of_mem _ (List.mem_cons_of_mem _ List.mem_cons_self))))
  have g0 : 0 ≤ (0 : Int) + (1 * a1 + 0) := hg _ List.mem_cons_self
  have g1 : 0 ≤ (4294967294 : Int) + ((-1) * a1 + 0) := hg _ (List.mem_cons_of_mem _ List.mem_cons_self)
  have g2 : 0 ≤ (0 : Int) + (1 * a2 + 0) := hg _ (List.mem_cons_of_mem _ (List.mem_cons_of_mem _ List.mem_cons_self))
  have g3 : 0 ≤ (4294967294 : Int) + ((-1) * a2 + 0) := hg _ (List.mem_cons_of_mem _ (List.mem_cons_of_mem _ (List.mem_cons_of_mem _ List.mem_cons_self)))
  have g4 : 0 ≤ (0 : Int) + (1 * a3 + 0) := hg _ (List.mem_cons_of_mem _ (List.mem_cons_of_mem _ (List.mem_cons_of_mem _ (List.mem_cons_of_mem _ List.mem_cons_self))))
  have g5 : 0 ≤ (4294967294 : Int) + ((-1) * a3 + 0) := hg _ (List.mem_cons_of_mem _ (List.mem_cons_of_mem _ (List.mem_cons_of_mem _ (List.mem_cons_of_mem _ (List.mem_cons_of_mem _ List.mem_cons_self)))))
  have g6 : 0 ≤ (0 : Int) + (1 * a4 + 0) := hg _ (List.mem_cons_of_mem _ (List.mem_cons_of_mem _ (List.mem_cons_of_mem _ (List.mem_cons_of_mem _ (List.mem_cons_of_mem _ (List.mem_cons_of_mem _ List.mem_cons_self))))))
  have g7 : 0 ≤ (4294967294 : Int) + ((-1) * a4 + 0) := hg _ (List.mem_cons_of_mem _ (List.mem_cons_of_mem _ (List.mem_cons_of_mem _ (List.mem_cons_of_mem _ (List.mem_cons_of_mem _ (List.mem_cons_of_mem _ (List.mem_cons_of_mem _ List.mem_cons_self)))))))
  have g8 : 0 ≤ ((-1) : Int) + (1 * a4 + 0) := hg _ (List.mem_cons_of_mem _ (List.mem_cons_of_mem _ (List.mem_cons_of_mem _ (List.mem_cons_of_mem _ (List.mem_cons_of_mem _ (List.mem_cons_of_mem _ (List.mem_cons_of_mem _ (List.mem_cons_of_mem _ List.mem_cons_self))))))))
  have r0 : 0 ≤ a0 := hr _ List.mem_cons_self
  have r1 : 0 ≤ a6 := hr _ (List.mem_cons_of_mem _ List.mem_cons_self)
  have hp := (zs_78 (w := w) (j := a0) (n := a1) (c := a2) (t := a3) (y := a4) (by omega) (by omega) (by omega) (by omega) (by omega) (by omega) (by omega) (by omega) (by omega) ).mp (by omega)
  have k0 : zh_e w 248 (a2) = zk_xe w 248 a6 := by rw [zk_xe_r (i := 248) (by decide)]; show zk_el w 248 (a2) = zk_el w 248 a6; rw [show a2 = a6 by omega]
  have h : zs_ud (zh_e w 231) (zh_e w 248) (zh_e w 239) (zh_e w 222) a1 (a2 + 1) a3 0 := by
    obtain ⟨h1, h2, h3, h4, h5⟩ := hp
    obtain ⟨q1, q2, q3⟩ := h5 (by omega)
    refine ⟨h1, h2, fun i i0 i1 i2 => ?_, fun i j i0 ij jc x1 x2 => ?_, fun q => by omega⟩
    · by_cases c : i = a2
      · rw [c, k0]
        exact ⟨by omega, fun k k0_ k1 => by have := q2 k k0_ k1; omega⟩
      · exact h3 i i0 (by omega) i2
    · by_cases c : j = a2
      · rw [c, k0]
        have := q3 i i0 (by omega) x1
        omega
      · exact h4 i j i0 ij (by omega) x1 x2
  exact ⟨_, List.mem_cons_self, [], rfl, zx_bnil, zx_cs0, (zx_eF1 (by show 0 ≤ (0 : Int) + (1 * a5 + 0); omega) (by show zk_xe w 2000076 ((0 : Int) + (1 * a5 + 0)) = (1 : Int) + (0); rw [show (0 : Int) + (1 * a5 + 0) = a5 by omega]; exact ((zs_76 (w := w) (j := a5) (n := a1) (c := (a2 + 1)) (t := a3) (by omega) (by omega) (by omega) (by omega) (by omega) (by omega) (by omega) ).mpr (h)).trans (by omega)) zx_eF0), zx_k0⟩
def zx_D748 : zx_L := zx_Lc [] 6 [(2000076, 0), (239, 5)] [] [((0, 0), [(0, 1, 0), (1, 0, 1), (2, 0, 4294967296), (3, 0, 18446744073709551616)]), ((0, 4294967296), [(1, 0, 1), (2, 0, 4294967296), (3, 0, 18446744073709551616), (4, 1, 0)]), ((0, 1), [(6, 1, 0)]), ((0, 0), [(2, 0, 1), (5, 1, 0)])] [((0, 0), [(1, 1, 0)]), ((4294967294, 0), [(1, 0, 1)]), ((0, 0), [(2, 1, 0)]), ((4294967294, 0), [(2, 0, 1)]), ((0, 0), [(3, 1, 0)]), ((4294967294, 0), [(3, 0, 1)]), ((1, 0), [(7, 0, 1)])] [([], [], [(2000076, ((0, 0), [(4, 1, 0)]), ((1, 0), []))], [])]
theorem zx_D748_ok {PT : Nat → zz_W → Prop} : zx_Lok 64 zHT PT zx_D748 := by
  refine zx_Lc_ok (fun w hI hK ins hl hr he hg => ?_)
  obtain ⟨a0, a1, a2, a3, a4, a5, rfl⟩ := zx_i6 hl
  have e0 : (0 : Int) + (1 * a0 + ((-1) * a1 + ((-4294967296) * a2 + ((-18446744073709551616) * a3 + 0)))) = 0 := he _ List.mem_cons_self
  have e1 : ((-4294967296) : Int) + ((-1) * a1 + ((-4294967296) * a2 + ((-18446744073709551616) * a3 + (1 * a4 + 0)))) = 0 := he _ (List.mem_cons_of_mem _ List.mem_cons_self)
  have e2 : ((-1) : Int) + (1 * (zk_xe w 2000076 a0) + 0) = 0 := he _ (List.mem_cons_of_mem _ (List.mem_cons_of_mem _ List.mem_cons_self))
  have e3 : (0 : Int) + ((-1) * a2 + (1 * a5 + 0)) = 0 := he _ (List.mem_cons_of_mem _ (List.mem_cons_of_mem _ (List.mem_cons_of_mem _ List.mem_cons_self)))
  have g0 : 0 ≤ (0 : Int) + (1 * a1 + 0) := hg _ List.mem_cons_self
  have g1 : 0 ≤ (4294967294 : Int) + ((-1) * a1 + 0) := hg _ (List.mem_cons_of_mem _ List.mem_cons_self)
  have g2 : 0 ≤ (0 : Int) + (1 * a2 + 0) := hg _ (List.mem_cons_of_mem _ (List.mem_cons_of_mem _ List.mem_cons_self))
  have g3 : 0 ≤ (4294967294 : Int) + ((-1) * a2 + 0) := hg _ (List.mem_cons_of_mem _ (List.mem_cons_of_mem _ (List.mem_cons_of_mem _ List.mem_cons_self)))
  have g4 : 0 ≤ (0 : Int) + (1 * a3 + 0) := hg _ (List.mem_cons_of_mem _ (List.mem_cons_of_mem _ (List.mem_cons_of_mem _ (List.mem_cons_of_mem _ List.mem_cons_self))))
  have g5 : 0 ≤ (4294967294 : Int) + ((-1) * a3 + 0) := hg _ (List.mem_cons_of_mem _ (List.mem_cons_of_mem _ (List.mem_cons_of_mem _ (List.mem_cons_of_mem _ (List.mem_cons_of_mem _ List.mem_cons_self)))))
  have g6 : 0 ≤ (1 : Int) + ((-1) * (zk_xe w 239 a5) + 0) := hg _ (List.mem_cons_of_mem _ (List.mem_cons_of_mem _ (List.mem_cons_of_mem _ (List.mem_cons_of_mem _ (List.mem_cons_of_mem _ (List.mem_cons_of_mem _ List.mem_cons_self))))))
  have r0 : 0 ≤ a0 := hr _ List.mem_cons_self
  have r1 : 0 ≤ a5 := hr _ (List.mem_cons_of_mem _ List.mem_cons_self)
  have hp := (zs_76 (w := w) (j := a0) (n := a1) (c := a2) (t := a3) (by omega) (by omega) (by omega) (by omega) (by omega) (by omega) (by omega) ).mp (by omega)
  have k0 : zh_e w 239 (a2) = zk_xe w 239 a5 := by rw [zk_xe_r (i := 239) (by decide)]; show zk_el w 239 (a2) = zk_el w 239 a5; rw [show a2 = a5 by omega]
  have h : zs_ud (zh_e w 231) (zh_e w 248) (zh_e w 239) (zh_e w 222) a1 (a2 + 1) a3 0 := by
    obtain ⟨h1, h2, h3, h4, h5⟩ := hp
    refine ⟨h1, h2, fun i i0 i1 i2 => ?_, fun i j i0 ij jc x1 x2 => ?_, fun q => by omega⟩
    · by_cases c : i = a2
      · rw [c, k0] at i2
        omega
      · exact h3 i i0 (by omega) i2
    · by_cases c : j = a2
      · rw [c, k0] at x2
        omega
      · exact h4 i j i0 ij (by omega) x1 x2
  exact ⟨_, List.mem_cons_self, [], rfl, zx_bnil, zx_cs0, (zx_eF1 (by show 0 ≤ (0 : Int) + (1 * a4 + 0); omega) (by show zk_xe w 2000076 ((0 : Int) + (1 * a4 + 0)) = (1 : Int) + (0); rw [show (0 : Int) + (1 * a4 + 0) = a4 by omega]; exact ((zs_76 (w := w) (j := a4) (n := a1) (c := (a2 + 1)) (t := a3) (by omega) (by omega) (by omega) (by omega) (by omega) (by omega) (by omega) ).mpr (h)).trans (by omega)) zx_eF0), zx_k0⟩
def zx_D749 : zx_L := zx_Lc [] 6 [(2000076, 0), (248, 5), (239, 5)] [] [((0, 0), [(0, 1, 0), (1, 0, 1), (2, 0, 4294967296), (3, 0, 18446744073709551616)]), ((0, 79228162514264337589248983040), [(1, 0, 1), (2, 0, 4294967296), (3, 0, 18446744073709551616), (4, 1, 0), (7, 0, 79228162514264337593543950336)]), ((0, 1), [(6, 1, 0)]), ((1, 0), [(2, 0, 1), (5, 1, 0)])] [((0, 0), [(1, 1, 0)]), ((4294967294, 0), [(1, 0, 1)]), ((0, 0), [(2, 1, 0)]), ((4294967294, 0), [(2, 0, 1)]), ((0, 0), [(3, 1, 0)]), ((4294967294, 0), [(3, 0, 1)]), ((0, 1), [(2, 1, 0)]), ((0, 2), [(8, 1, 0)]), ((0, 0), [(7, 1, 0)]), ((100000, 0), [(7, 0, 1)])] [([], [], [(2000078, ((0, 0), [(4, 1, 0)]), ((1, 0), []))], [])]
theorem zx_D749_ok {PT : Nat → zz_W → Prop} : zx_Lok 64 zHT PT zx_D749 := by
  refine zx_Lc_ok (fun w hI hK ins hl hr he hg => ?_)
  obtain ⟨a0, a1, a2, a3, a4, a5, rfl⟩ := zx_i6 hl
  have e0 : (0 : Int) + (1 * a0 + ((-1) * a1 + ((-4294967296) * a2 + ((-18446744073709551616) * a3 + 0)))) = 0 := he _ List.mem_cons_self
  have e1 : ((-79228162514264337589248983040) : Int) + ((-1) * a1 + ((-4294967296) * a2 + ((-18446744073709551616) * a3 + (1 * a4 + ((-79228162514264337593543950336) * (zk_xe w 248 a5) + 0))))) = 0 := he _ (List.mem_cons_of_mem _ List.mem_cons_self)
  have e2 : ((-1) : Int) + (1 * (zk_xe w 2000076 a0) + 0) = 0 := he _ (List.mem_cons_of_mem _ (List.mem_cons_of_mem _ List.mem_cons_self))
  have e3 : (1 : Int) + ((-1) * a2 + (1 * a5 + 0)) = 0 := he _ (List.mem_cons_of_mem _ (List.mem_cons_of_mem _ (List.mem_cons_of_mem _ List.mem_cons_self)))
  have g0 : 0 ≤ (0 : Int) + (1 * a1 + 0) := hg _ List.mem_cons_self
  have g1 : 0 ≤ (4294967294 : Int) + ((-1) * a1 + 0) := hg _ (List.mem_cons_of_mem _ List.mem_cons_self)
  have g2 : 0 ≤ (0 : Int) + (1 * a2 + 0) := hg _ (List.mem_cons_of_mem _ (List.mem_cons_of_mem _ List.mem_cons_self))
  have g3 : 0 ≤ (4294967294 : Int) + ((-1) * a2 + 0) := hg _ (List.mem_cons_of_mem _ (List.mem_cons_of_mem _ (List.mem_cons_of_mem _ List.mem_cons_self)))
  have g4 : 0 ≤ (0 : Int) + (1 * a3 + 0) := hg _ (List.mem_cons_of_mem _ (List.mem_cons_of_mem _ (List.mem_cons_of_mem _ (List.mem_cons_of_mem _ List.mem_cons_self))))
  have g5 : 0 ≤ (4294967294 : Int) + ((-1) * a3 + 0) := hg _ (List.mem_cons_of_mem _ (List.mem_cons_of_mem _ (List.mem_cons_of_mem _ (List.mem_cons_of_mem _ (List.mem_cons_of_mem _ List.mem_cons_self)))))
  have g6 : 0 ≤ ((-1) : Int) + (1 * a2 + 0) := hg _ (List.mem_cons_of_mem _ (List.mem_cons_of_mem _ (List.mem_cons_of_mem _ (List.mem_cons_of_mem _ (List.mem_cons_of_mem _ (List.mem_cons_of_mem _ List.mem_cons_self))))))
  have g7 : 0 ≤ ((-2) : Int) + (1 * (zk_xe w 239 a5) + 0) := hg _ (List.mem_cons_of_mem _ (List.mem_cons_of_mem _ (List.mem_cons_of_mem _ (List.mem_cons_of_mem _ (List.mem_cons_of_mem _ (List.mem_cons_of_mem _ (List.mem_cons_of_mem _ List.mem_cons_self)))))))
  have g8 : 0 ≤ (0 : Int) + (1 * (zk_xe w 248 a5) + 0) := hg _ (List.mem_cons_of_mem _ (List.mem_cons_of_mem _ (List.mem_cons_of_mem _ (List.mem_cons_of_mem _ (List.mem_cons_of_mem _ (List.mem_cons_of_mem _ (List.mem_cons_of_mem _ (List.mem_cons_of_mem _ List.mem_cons_self))))))))
  have g9 : 0 ≤ (100000 : Int) + ((-1) * (zk_xe w 248 a5) + 0) := hg _ (List.mem_cons_of_mem _ (List.mem_cons_of_mem _ (List.mem_cons_of_mem _ (List.mem_cons_of_mem _ (List.mem_cons_of_mem _ (List.mem_cons_of_mem _ (List.mem_cons_of_mem _ (List.mem_cons_of_mem _ (List.mem_cons_of_mem _ List.mem_cons_self)))))))))
  have r0 : 0 ≤ a0 := hr _ List.mem_cons_self
  have r1 : 0 ≤ a5 := hr _ (List.mem_cons_of_mem _ List.mem_cons_self)
  have r2 : 0 ≤ a5 := hr _ (List.mem_cons_of_mem _ (List.mem_cons_of_mem _ List.mem_cons_self))
  have hp := (zs_76 (w := w) (j := a0) (n := a1) (c := a2) (t := a3) (by omega) (by omega) (by omega) (by omega) (by omega) (by omega) (by omega) ).mp (by omega)
  have k0 : zh_e w 248 (a2 - 1) = zk_xe w 248 a5 := by rw [zk_xe_r (i := 248) (by decide)]; show zk_el w 248 (a2 - 1) = zk_el w 248 a5; rw [show a2 - 1 = a5 by omega]
  have k1 : zh_e w 239 (a2 - 1) = zk_xe w 239 a5 := by rw [zk_xe_r (i := 239) (by decide)]; show zk_el w 239 (a2 - 1) = zk_el w 239 a5; rw [show a2 - 1 = a5 by omega]
  have h : zs_ud (zh_e w 231) (zh_e w 248) (zh_e w 239) (zh_e w 222) a1 (a2 - 1) a3 (zk_xe w 248 a5 + 1) := by
    obtain ⟨h1, h2, h3, h4, h5⟩ := hp
    have q := h3 (a2 - 1) (by omega) (by omega) (by rw [k1]; omega)
    rw [k0] at q
    refine ⟨h1, h2, fun i i0 i1 i2 => h3 i i0 (by omega) i2, fun i j i0 ij jc => h4 i j i0 ij (by omega), fun _ => ⟨by omega, fun k k0_ k1_ => ?_, fun i i0 i1 i2 => ?_⟩⟩
    · have := q.2 k k0_ k1_
      omega
    · have := h4 i (a2 - 1) i0 (by omega) (by omega) i2 (by rw [k1]; omega)
      rw [k0] at this
      omega
  exact ⟨_, List.mem_cons_self, [], rfl, zx_bnil, zx_cs0, (zx_eF1 (by show 0 ≤ (0 : Int) + (1 * a4 + 0); omega) (by show zk_xe w 2000078 ((0 : Int) + (1 * a4 + 0)) = (1 : Int) + (0); rw [show (0 : Int) + (1 * a4 + 0) = a4 by omega]; exact ((zs_78 (w := w) (j := a4) (n := a1) (c := (a2 - 1)) (t := a3) (y := (zk_xe w 248 a5 + 1)) (by omega) (by omega) (by omega) (by omega) (by omega) (by omega) (by omega) (by omega) (by omega) ).mpr (h)).trans (by omega)) zx_eF0), zx_k0⟩
def zx_D750 : zx_L := zx_Lc [] 6 [(2000076, 0)] [] [((0, 0), [(0, 1, 0), (1, 0, 1), (2, 0, 4294967296), (3, 0, 18446744073709551616)]), ((0, 0), [(1, 0, 1), (3, 0, 18446744073709551616), (4, 1, 0), (5, 0, 4294967296)]), ((0, 1), [(6, 1, 0)])] [((0, 0), [(1, 1, 0)]), ((4294967294, 0), [(1, 0, 1)]), ((0, 0), [(2, 1, 0)]), ((4294967294, 0), [(2, 0, 1)]), ((0, 0), [(3, 1, 0)]), ((4294967294, 0), [(3, 0, 1)]), ((0, 0), [(5, 1, 0)]), ((4294967294, 0), [(5, 0, 1)]), ((0, 0), [(2, 1, 0), (5, 0, 1)])] [([], [], [(2000076, ((0, 0), [(4, 1, 0)]), ((1, 0), []))], [])]
theorem zx_D750_ok {PT : Nat → zz_W → Prop} : zx_Lok 64 zHT PT zx_D750 := by
  refine zx_Lc_ok (fun w hI hK ins hl hr he hg => ?_)
  obtain ⟨a0, a1, a2, a3, a4, a5, rfl⟩ := zx_i6 hl
  have e0 : (0 : Int) + (1 * a0 + ((-1) * a1 + ((-4294967296) * a2 + ((-18446744073709551616) * a3 + 0)))) = 0 := he _ List.mem_cons_self
  have e1 : (0 : Int) + ((-1) * a1 + ((-18446744073709551616) * a3 + (1 * a4 + ((-4294967296) * a5 + 0)))) = 0 := he _ (List.mem_cons_of_mem _ List.mem_cons_self)
  have e2 : ((-1) : Int) + (1 * (zk_xe w 2000076 a0) + 0) = 0 := he _ (List.mem_cons_of_mem _ (List.mem_cons_of_mem _ List.mem_cons_self))
  have g0 : 0 ≤ (0 : Int) + (1 * a1 + 0) := hg _ List.mem_cons_self
  have g1 : 0 ≤ (4294967294 : Int) + ((-1) * a1 + 0) := hg _ (List.mem_cons_of_mem _ List.mem_cons_self)
  have g2 : 0 ≤ (0 : Int) + (1 * a2 + 0) := hg _ (List.mem_cons_of_mem _ (List.mem_cons_of_mem _ List.mem_cons_self))
  have g3 : 0 ≤ (4294967294 : Int) + ((-1) * a2 + 0) := hg _ (List.mem_cons_of_mem _ (List.mem_cons_of_mem _ (List.mem_cons_of_mem _ List.mem_cons_self)))
  have g4 : 0 ≤ (0 : Int) + (1 * a3 + 0) := hg _ (List.mem_cons_of_mem _ (List.mem_cons_of_mem _ (List.mem_cons_of_mem _ (List.mem_cons_of_mem _ List.mem_cons_self))))
  have g5 : 0 ≤ (4294967294 : Int) + ((-1) * a3 + 0) := hg _ (List.mem_cons_of_mem _ (List.mem_cons_of_mem _ (List.mem_cons_of_mem _ (List.mem_cons_of_mem _ (List.mem_cons_of_mem _ List.mem_cons_self)))))
  have g6 : 0 ≤ (0 : Int) + (1 * a5 + 0) := hg _ (List.mem_cons_of_mem _ (List.mem_cons_of_mem _ (List.mem_cons_of_mem _ (List.mem_cons_of_mem _ (List.mem_cons_of_mem _ (List.mem_cons_of_mem _ List.mem_cons_self))))))
  have g7 : 0 ≤ (4294967294 : Int) + ((-1) * a5 + 0) := hg _ (List.mem_cons_of_mem _ (List.mem_cons_of_mem _ (List.mem_cons_of_mem _ (List.mem_cons_of_mem _ (List.mem_cons_of_mem _ (List.mem_cons_of_mem _ (List.mem_cons_of_mem _ List.mem_cons_self)))))))
  have g8 : 0 ≤ (0 : Int) + (1 * a2 + ((-1) * a5 + 0)) := hg _ (List.mem_cons_of_mem _ (List.mem_cons_of_mem _ (List.mem_cons_of_mem _ (List.mem_cons_of_mem _ (List.mem_cons_of_mem _ (List.mem_cons_of_mem _ (List.mem_cons_of_mem _ (List.mem_cons_of_mem _ List.mem_cons_self))))))))
  have r0 : 0 ≤ a0 := hr _ List.mem_cons_self
  have hp := (zs_76 (w := w) (j := a0) (n := a1) (c := a2) (t := a3) (by omega) (by omega) (by omega) (by omega) (by omega) (by omega) (by omega) ).mp (by omega)
  exact ⟨_, List.mem_cons_self, [], rfl, zx_bnil, zx_cs0, (zx_eF1 (by show 0 ≤ (0 : Int) + (1 * a4 + 0); omega) (by show zk_xe w 2000076 ((0 : Int) + (1 * a4 + 0)) = (1 : Int) + (0); rw [show (0 : Int) + (1 * a4 + 0) = a4 by omega]; exact ((zs_76 (w := w) (j := a4) (n := a1) (c := a5) (t := a3) (by omega) (by omega) (by omega) (by omega) (by omega) (by omega) (by omega) ).mpr (zs_udw (by omega) (Int.le_refl _) (Or.inl rfl) hp)).trans (by omega)) zx_eF0), zx_k0⟩
def zx_D751 : zx_L := zx_Lc [] 6 [(2000078, 0)] [] [((0, 0), [(0, 1, 0), (1, 0, 1), (2, 0, 4294967296), (3, 0, 18446744073709551616), (4, 0, 79228162514264337593543950336)]), ((0, 0), [(1, 0, 1), (2, 0, 4294967296), (3, 0, 18446744073709551616), (5, 1, 0)]), ((0, 1), [(6, 1, 0)])] [((0, 0), [(1, 1, 0)]), ((4294967294, 0), [(1, 0, 1)]), ((0, 0), [(2, 1, 0)]), ((4294967294, 0), [(2, 0, 1)]), ((0, 0), [(3, 1, 0)]), ((4294967294, 0), [(3, 0, 1)]), ((0, 0), [(4, 1, 0)]), ((4294967294, 0), [(4, 0, 1)])] [([], [], [(2000076, ((0, 0), [(5, 1, 0)]), ((1, 0), []))], [])]
theorem zx_D751_ok {PT : Nat → zz_W → Prop} : zx_Lok 64 zHT PT zx_D751 := by
  refine zx_Lc_ok (fun w hI hK ins hl hr he hg => ?_)
  obtain ⟨a0, a1, a2, a3, a4, a5, rfl⟩ := zx_i6 hl
  have e0 : (0 : Int) + (1 * a0 + ((-1) * a1 + ((-4294967296) * a2 + ((-18446744073709551616) * a3 + ((-79228162514264337593543950336) * a4 + 0))))) = 0 := he _ List.mem_cons_self
  have e1 : (0 : Int) + ((-1) * a1 + ((-4294967296) * a2 + ((-18446744073709551616) * a3 + (1 * a5 + 0)))) = 0 := he _ (List.mem_cons_of_mem _ List.mem_cons_self)
  have e2 : ((-1) : Int) + (1 * (zk_xe w 2000078 a0) + 0) = 0 := he _ (List.mem_cons_of_mem _ (List.mem_cons_of_mem _ List.mem_cons_self))
  have g0 : 0 ≤ (0 : Int) + (1 * a1 + 0) := hg _ List.mem_cons_self
  have g1 : 0 ≤ (4294967294 : Int) + ((-1) * a1 + 0) := hg _ (List.mem_cons_of_mem _ List.mem_cons_self)
  have g2 : 0 ≤ (0 : Int) + (1 * a2 + 0) := hg _ (List.mem_cons_of_mem _ (List.mem_cons_of_mem _ List.mem_cons_self))
  have g3 : 0 ≤ (4294967294 : Int) + ((-1) * a2 + 0) := hg _ (List.mem_cons_of_mem _ (List.mem_cons_of_mem _ (List.mem_cons_of_mem _ List.mem_cons_self)))
  have g4 : 0 ≤ (0 : Int) + (1 * a3 + 0) := hg _ (List.mem_cons_of_mem _ (List.mem_cons_of_mem _ (List.mem_cons_of_mem _ (List.mem_cons_of_mem _ List.mem_cons_self))))
  have g5 : 0 ≤ (4294967294 : Int) + ((-1) * a3 + 0) := hg _ (List.mem_cons_of_mem _ (List.mem_cons_of_mem _ (List.mem_cons_of_mem _ (List.mem_cons_of_mem _ (List.mem_cons_of_mem _ List.mem_cons_self)))))
  have g6 : 0 ≤ (0 : Int) + (1 * a4 + 0) := hg _ (List.mem_cons_of_mem _ (List.mem_cons_of_mem _ (List.mem_cons_of_mem _ (List.mem_cons_of_mem _ (List.mem_cons_of_mem _ (List.mem_cons_of_mem _ List.mem_cons_self))))))
  have g7 : 0 ≤ (4294967294 : Int) + ((-1) * a4 + 0) := hg _ (List.mem_cons_of_mem _ (List.mem_cons_of_mem _ (List.mem_cons_of_mem _ (List.mem_cons_of_mem _ (List.mem_cons_of_mem _ (List.mem_cons_of_mem _ (List.mem_cons_of_mem _ List.mem_cons_self)))))))
  have r0 : 0 ≤ a0 := hr _ List.mem_cons_self
  have hp := (zs_78 (w := w) (j := a0) (n := a1) (c := a2) (t := a3) (y := a4) (by omega) (by omega) (by omega) (by omega) (by omega) (by omega) (by omega) (by omega) (by omega) ).mp (by omega)
  exact ⟨_, List.mem_cons_self, [], rfl, zx_bnil, zx_cs0, (zx_eF1 (by show 0 ≤ (0 : Int) + (1 * a5 + 0); omega) (by show zk_xe w 2000076 ((0 : Int) + (1 * a5 + 0)) = (1 : Int) + (0); rw [show (0 : Int) + (1 * a5 + 0) = a5 by omega]; exact ((zs_76 (w := w) (j := a5) (n := a1) (c := a2) (t := a3) (by omega) (by omega) (by omega) (by omega) (by omega) (by omega) (by omega) ).mpr (zs_udw (Int.le_refl _) (Int.le_refl _) (Or.inr rfl) hp)).trans (by omega)) zx_eF0), zx_k0⟩
def zx_D755 : zx_L := zx_Lc [] 2 [] [] [((0, 0), [(0, 1, 0), (1, 0, 4294967296)])] [((0, 0), [(1, 1, 0)]), ((4294967294, 0), [(1, 0, 1)])] [([], [], [(2000079, ((0, 0), [(0, 1, 0)]), ((1, 0), []))], [])]
theorem zx_D755_ok {PT : Nat → zz_W → Prop} : zx_Lok 64 zHT PT zx_D755 := by
  refine zx_Lc_ok (fun w hI hK ins hl hr he hg => ?_)
  obtain ⟨a0, a1, rfl⟩ := zx_i2 hl
  have e0 : (0 : Int) + (1 * a0 + ((-4294967296) * a1 + 0)) = 0 := he _ List.mem_cons_self
  have g0 : 0 ≤ (0 : Int) + (1 * a1 + 0) := hg _ List.mem_cons_self
  have g1 : 0 ≤ (4294967294 : Int) + ((-1) * a1 + 0) := hg _ (List.mem_cons_of_mem _ List.mem_cons_self)
  have h : zs_nx (zh_e w 231) 0 (a1 - 1) 0 := Or.inl ⟨rfl, fun i i0 i1 => by omega⟩
  exact ⟨_, List.mem_cons_self, [], rfl, zx_bnil, zx_cs0, (zx_eF1 (by show 0 ≤ (0 : Int) + (1 * a0 + 0); omega) (by show zk_xe w 2000079 ((0 : Int) + (1 * a0 + 0)) = (1 : Int) + (0); rw [show (0 : Int) + (1 * a0 + 0) = a0 by omega]; exact ((zs_79 (w := w) (j := a0) (k := 0) (l := (a1 - 1)) (z := 0) (by omega) (by omega) (by omega) (by omega) (by omega) (by omega) (by omega) ).mpr (h)).trans (by omega)) zx_eF0), zx_k0⟩
def zx_D756 : zx_L := zx_Lc [] 6 [(2000079, 0), (231, 5)] [] [((0, 0), [(0, 1, 0), (1, 0, 1), (2, 0, 4294967296), (3, 0, 18446744073709551616)]), ((0, 1), [(1, 0, 1), (2, 0, 4294967296), (3, 0, 18446744073709551616), (4, 1, 0)]), ((0, 1), [(6, 1, 0)]), ((0, 0), [(1, 0, 1), (5, 1, 0)])] [((0, 0), [(1, 1, 0)]), ((4294967294, 0), [(1, 0, 1)]), ((0, 0), [(2, 1, 0)]), ((4294967294, 0), [(2, 0, 1)]), ((0, 0), [(3, 1, 0)]), ((4294967294, 0), [(3, 0, 1)]), ((0, 1), [(2, 1, 0), (7, 0, 1)])] [([], [], [(2000079, ((0, 0), [(4, 1, 0)]), ((1, 0), []))], [])]
theorem zx_D756_ok {PT : Nat → zz_W → Prop} : zx_Lok 64 zHT PT zx_D756 := by
  refine zx_Lc_ok (fun w hI hK ins hl hr he hg => ?_)
  obtain ⟨a0, a1, a2, a3, a4, a5, rfl⟩ := zx_i6 hl
  have e0 : (0 : Int) + (1 * a0 + ((-1) * a1 + ((-4294967296) * a2 + ((-18446744073709551616) * a3 + 0)))) = 0 := he _ List.mem_cons_self
  have e1 : ((-1) : Int) + ((-1) * a1 + ((-4294967296) * a2 + ((-18446744073709551616) * a3 + (1 * a4 + 0)))) = 0 := he _ (List.mem_cons_of_mem _ List.mem_cons_self)
  have e2 : ((-1) : Int) + (1 * (zk_xe w 2000079 a0) + 0) = 0 := he _ (List.mem_cons_of_mem _ (List.mem_cons_of_mem _ List.mem_cons_self))
  have e3 : (0 : Int) + ((-1) * a1 + (1 * a5 + 0)) = 0 := he _ (List.mem_cons_of_mem _ (List.mem_cons_of_mem _ (List.mem_cons_of_mem _ List.mem_cons_self)))
  have g0 : 0 ≤ (0 : Int) + (1 * a1 + 0) := hg _ List.mem_cons_self
  have g1 : 0 ≤ (4294967294 : Int) + ((-1) * a1 + 0) := hg _ (List.mem_cons_of_mem _ List.mem_cons_self)
  have g2 : 0 ≤ (0 : Int) + (1 * a2 + 0) := hg _ (List.mem_cons_of_mem _ (List.mem_cons_of_mem _ List.mem_cons_self))
  have g3 : 0 ≤ (4294967294 : Int) + ((-1) * a2 + 0) := hg _ (List.mem_cons_of_mem _ (List.mem_cons_of_mem _ (List.mem_cons_of_mem _ List.mem_cons_self)))
  have g4 : 0 ≤ (0 : Int) + (1 * a3 + 0) := hg _ (List.mem_cons_of_mem _ (List.mem_cons_of_mem _ (List.mem_cons_of_mem _ (List.mem_cons_of_mem _ List.mem_cons_self))))
  have g5 : 0 ≤ (4294967294 : Int) + ((-1) * a3 + 0) := hg _ (List.mem_cons_of_mem _ (List.mem_cons_of_mem _ (List.mem_cons_of_mem _ (List.mem_cons_of_mem _ (List.mem_cons_of_mem _ List.mem_cons_self)))))
  have g6 : 0 ≤ ((-1) : Int) + (1 * a2 + ((-1) * (zk_xe w 231 a5) + 0)) := hg _ (List.mem_cons_of_mem _ (List.mem_cons_of_mem _ (List.mem_cons_of_mem _ (List.mem_cons_of_mem _ (List.mem_cons_of_mem _ (List.mem_cons_of_mem _ List.mem_cons_self))))))
  have r0 : 0 ≤ a0 := hr _ List.mem_cons_self
  have r1 : 0 ≤ a5 := hr _ (List.mem_cons_of_mem _ List.mem_cons_self)
  have hp := (zs_79 (w := w) (j := a0) (k := a1) (l := (a2 - 1)) (z := a3) (by omega) (by omega) (by omega) (by omega) (by omega) (by omega) (by omega) ).mp (by omega)
  have k0 : zh_e w 231 (a1) = zk_xe w 231 a5 := by rw [zk_xe_r (i := 231) (by decide)]; show zk_el w 231 (a1) = zk_el w 231 a5; rw [show a1 = a5 by omega]
  have h : zs_nx (zh_e w 231) (a1 + 1) (a2 - 1) a3 := by
    rcases hp with ⟨h1, h2⟩ | ⟨h1, h2, h3, h4⟩
    · refine Or.inl ⟨h1, fun i i0 i1 => ?_⟩
      by_cases c : i = a1
      · rw [c, k0]
        omega
      · exact h2 i i0 (by omega)
    · refine Or.inr ⟨h1, by omega, h3, fun i i0 i1 i2 => ?_⟩
      by_cases c : i = a1
      · rw [c, k0] at i2
        omega
      · exact h4 i i0 (by omega) i2
  exact ⟨_, List.mem_cons_self, [], rfl, zx_bnil, zx_cs0, (zx_eF1 (by show 0 ≤ (0 : Int) + (1 * a4 + 0); omega) (by show zk_xe w 2000079 ((0 : Int) + (1 * a4 + 0)) = (1 : Int) + (0); rw [show (0 : Int) + (1 * a4 + 0) = a4 by omega]; exact ((zs_79 (w := w) (j := a4) (k := (a1 + 1)) (l := (a2 - 1)) (z := a3) (by omega) (by omega) (by omega) (by omega) (by omega) (by omega) (by omega) ).mpr (h)).trans (by omega)) zx_eF0), zx_k0⟩
def zx_D757 : zx_L := zx_Lc [] 7 [(2000079, 0), (231, 5), (231, 6)] [] [((0, 0), [(0, 1, 0), (1, 0, 1), (2, 0, 4294967296), (3, 0, 18446744073709551616)]), ((0, 1), [(1, 0, 1), (2, 0, 4294967296), (3, 0, 18446744073709551616), (4, 1, 0)]), ((0, 1), [(7, 1, 0)]), ((0, 0), [(1, 0, 1), (5, 1, 0)]), ((1, 0), [(3, 0, 1), (6, 1, 0)])] [((0, 0), [(1, 1, 0)]), ((4294967294, 0), [(1, 0, 1)]), ((0, 0), [(2, 1, 0)]), ((4294967294, 0), [(2, 0, 1)]), ((0, 0), [(3, 1, 0)]), ((4294967294, 0), [(3, 0, 1)]), ((0, 1), [(3, 1, 0)]), ((0, 0), [(8, 1, 0), (9, 0, 1)])] [([], [], [(2000079, ((0, 0), [(4, 1, 0)]), ((1, 0), []))], [])]
theorem zx_D757_ok {PT : Nat → zz_W → Prop} : zx_Lok 64 zHT PT zx_D757 := by
  refine zx_Lc_ok (fun w hI hK ins hl hr he hg => ?_)
  obtain ⟨a0, a1, a2, a3, a4, a5, a6, rfl⟩ := zx_i7 hl
  have e0 : (0 : Int) + (1 * a0 + ((-1) * a1 + ((-4294967296) * a2 + ((-18446744073709551616) * a3 + 0)))) = 0 := he _ List.mem_cons_self
  have e1 : ((-1) : Int) + ((-1) * a1 + ((-4294967296) * a2 + ((-18446744073709551616) * a3 + (1 * a4 + 0)))) = 0 := he _ (List.mem_cons_of_mem _ List.mem_cons_self)
  have e2 : ((-1) : Int) + (1 * (zk_xe w 2000079 a0) + 0) = 0 := he _ (List.mem_cons_of_mem _ (List.mem_cons_of_mem _ List.mem_cons_self))
  have e3 : (0 : Int) + ((-1) * a1 + (1 * a5 + 0)) = 0 := he _ (List.mem_cons_of_mem _ (List.mem_cons_of_mem _ (List.mem_cons_of_mem _ List.mem_cons_self)))
  have e4 : (1 : Int) + ((-1) * a3 + (1 * a6 + 0)) = 0 := he _ (List.mem_cons_of_mem _ (List.mem_cons_of_mem _ (List.mem_cons_of_mem _ (List.mem_cons_of_mem _ List.mem_cons_self))))
  have g0 : 0 ≤ (0 : Int) + (1 * a1 + 0) := hg _ List.mem_cons_self
  have g1 : 0 ≤ (4294967294 : Int) + ((-1) * a1 + 0) := hg _ (List.mem_cons_of_mem _ List.mem_cons_self)
  have g2 : 0 ≤ (0 : Int) + (1 * a2 + 0) := hg _ (List.mem_cons_of_mem _ (List.mem_cons_of_mem _ List.mem_cons_self))
  have g3 : 0 ≤ (4294967294 : Int) + ((-1) * a2 + 0) := hg _ (List.mem_cons_of_mem _ (List.mem_cons_of_mem _ (List.mem_cons_of_mem _ List.mem_cons_self)))
  have g4 : 0 ≤ (0 : Int) + (1 * a3 + 0) := hg _ (List.mem_cons_of_mem _ (List.mem_cons_of_mem _ (List.mem_cons_of_mem _ (List.mem_cons_of_mem _ List.mem_cons_self))))
  have g5 : 0 ≤ (4294967294 : Int) + ((-1) * a3 + 0) := hg _ (List.mem_cons_of_mem _ (List.mem_cons_of_mem _ (List.mem_cons_of_mem _ (List.mem_cons_of_mem _ (List.mem_cons_of_mem _ List.mem_cons_self)))))
  have g6 : 0 ≤ ((-1) : Int) + (1 * a3 + 0) := hg _ (List.mem_cons_of_mem _ (List.mem_cons_of_mem _ (List.mem_cons_of_mem _ (List.mem_cons_of_mem _ (List.mem_cons_of_mem _ (List.mem_cons_of_mem _ List.mem_cons_self))))))
  have g7 : 0 ≤ (0 : Int) + (1 * (zk_xe w 231 a5) + ((-1) * (zk_xe w 231 a6) + 0)) := hg _ (List.mem_cons_of_mem _ (List.mem_cons_of_mem _ (List.mem_cons_of_mem _ (List.mem_cons_of_mem _ (List.mem_cons_of_mem _ (List.mem_cons_of_mem _ (List.mem_cons_of_mem _ List.mem_cons_self)))))))
  have r0 : 0 ≤ a0 := hr _ List.mem_cons_self
  have r1 : 0 ≤ a5 := hr _ (List.mem_cons_of_mem _ List.mem_cons_self)
  have r2 : 0 ≤ a6 := hr _ (List.mem_cons_of_mem _ (List.mem_cons_of_mem _ List.mem_cons_self))
  have hp := (zs_79 (w := w) (j := a0) (k := a1) (l := (a2 - 1)) (z := a3) (by omega) (by omega) (by omega) (by omega) (by omega) (by omega) (by omega) ).mp (by omega)
  have k0 : zh_e w 231 (a1) = zk_xe w 231 a5 := by rw [zk_xe_r (i := 231) (by decide)]; show zk_el w 231 (a1) = zk_el w 231 a5; rw [show a1 = a5 by omega]
  have k1 : zh_e w 231 (a3 - 1) = zk_xe w 231 a6 := by rw [zk_xe_r (i := 231) (by decide)]; show zk_el w 231 (a3 - 1) = zk_el w 231 a6; rw [show a3 - 1 = a6 by omega]
  have h : zs_nx (zh_e w 231) (a1 + 1) (a2 - 1) a3 := by
    rcases hp with ⟨h1, h2⟩ | ⟨h1, h2, h3, h4⟩
    · omega
    · refine Or.inr ⟨h1, by omega, h3, fun i i0 i1 i2 => ?_⟩
      by_cases c : i = a1
      · rw [c, k0, k1]
        omega
      · exact h4 i i0 (by omega) i2
  exact ⟨_, List.mem_cons_self, [], rfl, zx_bnil, zx_cs0, (zx_eF1 (by show 0 ≤ (0 : Int) + (1 * a4 + 0); omega) (by show zk_xe w 2000079 ((0 : Int) + (1 * a4 + 0)) = (1 : Int) + (0); rw [show (0 : Int) + (1 * a4 + 0) = a4 by omega]; exact ((zs_79 (w := w) (j := a4) (k := (a1 + 1)) (l := (a2 - 1)) (z := a3) (by omega) (by omega) (by omega) (by omega) (by omega) (by omega) (by omega) ).mpr (h)).trans (by omega)) zx_eF0), zx_k0⟩
def zx_D758 : zx_L := zx_Lc [] 6 [(2000079, 0), (231, 5)] [] [((0, 0), [(0, 1, 0), (1, 0, 1), (2, 0, 4294967296), (3, 0, 18446744073709551616)]), ((0, 18446744073709551617), [(1, 0, 18446744073709551617), (2, 0, 4294967296), (4, 1, 0)]), ((0, 1), [(6, 1, 0)]), ((0, 0), [(1, 0, 1), (5, 1, 0)])] [((0, 0), [(1, 1, 0)]), ((4294967294, 0), [(1, 0, 1)]), ((0, 0), [(2, 1, 0)]), ((4294967294, 0), [(2, 0, 1)]), ((0, 0), [(3, 1, 0)]), ((4294967294, 0), [(3, 0, 1)]), ((0, 0), [(2, 0, 1), (7, 1, 0)]), ((0, 0), [(3, 0, 1)])] [([], [], [(2000079, ((0, 0), [(4, 1, 0)]), ((1, 0), []))], [])]
theorem zx_D758_ok {PT : Nat → zz_W → Prop} : zx_Lok 64 zHT PT zx_D758 := by
  refine zx_Lc_ok (fun w hI hK ins hl hr he hg => ?_)
  obtain ⟨a0, a1, a2, a3, a4, a5, rfl⟩ := zx_i6 hl
  have e0 : (0 : Int) + (1 * a0 + ((-1) * a1 + ((-4294967296) * a2 + ((-18446744073709551616) * a3 + 0)))) = 0 := he _ List.mem_cons_self
  have e1 : ((-18446744073709551617) : Int) + ((-18446744073709551617) * a1 + ((-4294967296) * a2 + (1 * a4 + 0))) = 0 := he _ (List.mem_cons_of_mem _ List.mem_cons_self)
  have e2 : ((-1) : Int) + (1 * (zk_xe w 2000079 a0) + 0) = 0 := he _ (List.mem_cons_of_mem _ (List.mem_cons_of_mem _ List.mem_cons_self))
  have e3 : (0 : Int) + ((-1) * a1 + (1 * a5 + 0)) = 0 := he _ (List.mem_cons_of_mem _ (List.mem_cons_of_mem _ (List.mem_cons_of_mem _ List.mem_cons_self)))
  have g0 : 0 ≤ (0 : Int) + (1 * a1 + 0) := hg _ List.mem_cons_self
  have g1 : 0 ≤ (4294967294 : Int) + ((-1) * a1 + 0) := hg _ (List.mem_cons_of_mem _ List.mem_cons_self)
  have g2 : 0 ≤ (0 : Int) + (1 * a2 + 0) := hg _ (List.mem_cons_of_mem _ (List.mem_cons_of_mem _ List.mem_cons_self))
  have g3 : 0 ≤ (4294967294 : Int) + ((-1) * a2 + 0) := hg _ (List.mem_cons_of_mem _ (List.mem_cons_of_mem _ (List.mem_cons_of_mem _ List.mem_cons_self)))
  have g4 : 0 ≤ (0 : Int) + (1 * a3 + 0) := hg _ (List.mem_cons_of_mem _ (List.mem_cons_of_mem _ (List.mem_cons_of_mem _ (List.mem_cons_of_mem _ List.mem_cons_self))))
  have g5 : 0 ≤ (4294967294 : Int) + ((-1) * a3 + 0) := hg _ (List.mem_cons_of_mem _ (List.mem_cons_of_mem _ (List.mem_cons_of_mem _ (List.mem_cons_of_mem _ (List.mem_cons_of_mem _ List.mem_cons_self)))))
  have g6 : 0 ≤ (0 : Int) + ((-1) * a2 + (1 * (zk_xe w 231 a5) + 0)) := hg _ (List.mem_cons_of_mem _ (List.mem_cons_of_mem _ (List.mem_cons_of_mem _ (List.mem_cons_of_mem _ (List.mem_cons_of_mem _ (List.mem_cons_of_mem _ List.mem_cons_self))))))
  have g7 : 0 ≤ (0 : Int) + ((-1) * a3 + 0) := hg _ (List.mem_cons_of_mem _ (List.mem_cons_of_mem _ (List.mem_cons_of_mem _ (List.mem_cons_of_mem _ (List.mem_cons_of_mem _ (List.mem_cons_of_mem _ (List.mem_cons_of_mem _ List.mem_cons_self)))))))
  have r0 : 0 ≤ a0 := hr _ List.mem_cons_self
  have r1 : 0 ≤ a5 := hr _ (List.mem_cons_of_mem _ List.mem_cons_self)
  have hp := (zs_79 (w := w) (j := a0) (k := a1) (l := (a2 - 1)) (z := a3) (by omega) (by omega) (by omega) (by omega) (by omega) (by omega) (by omega) ).mp (by omega)
  have k0 : zh_e w 231 (a1) = zk_xe w 231 a5 := by rw [zk_xe_r (i := 231) (by decide)]; show zk_el w 231 (a1) = zk_el w 231 a5; rw [show a1 = a5 by omega]
  have h : zs_nx (zh_e w 231) (a1 + 1) (a2 - 1) (a1 + 1) := by
    rcases hp with ⟨h1, h2⟩ | ⟨h1, h2, h3, h4⟩
    · refine Or.inr ⟨by omega, by omega, by rw [show a1 + 1 - 1 = a1 by omega, k0]; omega, fun i i0 i1 i2 => ?_⟩
      by_cases c : i = a1
      · rw [c, show a1 + 1 - 1 = a1 by omega]
        exact Int.le_refl _
      · have := h2 i i0 (by omega)
        omega
    · omega
  exact ⟨_, List.mem_cons_self, [], rfl, zx_bnil, zx_cs0, (zx_eF1 (by show 0 ≤ (0 : Int) + (1 * a4 + 0); omega) (by show zk_xe w 2000079 ((0 : Int) + (1 * a4 + 0)) = (1 : Int) + (0); rw [show (0 : Int) + (1 * a4 + 0) = a4 by omega]; exact ((zs_79 (w := w) (j := a4) (k := (a1 + 1)) (l := (a2 - 1)) (z := (a1 + 1)) (by omega) (by omega) (by omega) (by omega) (by omega) (by omega) (by omega) ).mpr (h)).trans (by omega)) zx_eF0), zx_k0⟩
def zx_D759 : zx_L := zx_Lc [] 7 [(2000079, 0), (231, 5), (231, 6)] [] [((0, 0), [(0, 1, 0), (1, 0, 1), (2, 0, 4294967296), (3, 0, 18446744073709551616)]), ((0, 18446744073709551617), [(1, 0, 18446744073709551617), (2, 0, 4294967296), (4, 1, 0)]), ((0, 1), [(7, 1, 0)]), ((0, 0), [(1, 0, 1), (5, 1, 0)]), ((1, 0), [(3, 0, 1), (6, 1, 0)])] [((0, 0), [(1, 1, 0)]), ((4294967294, 0), [(1, 0, 1)]), ((0, 0), [(2, 1, 0)]), ((4294967294, 0), [(2, 0, 1)]), ((0, 0), [(3, 1, 0)]), ((4294967294, 0), [(3, 0, 1)]), ((0, 1), [(3, 1, 0)]), ((0, 0), [(2, 0, 1), (8, 1, 0)]), ((0, 1), [(8, 0, 1), (9, 1, 0)])] [([], [], [(2000079, ((0, 0), [(4, 1, 0)]), ((1, 0), []))], [])]
theorem zx_D759_ok {PT : Nat → zz_W → Prop} : zx_Lok 64 zHT PT zx_D759 := by
  refine zx_Lc_ok (fun w hI hK ins hl hr he hg => ?_)
  obtain ⟨a0, a1, a2, a3, a4, a5, a6, rfl⟩ := zx_i7 hl
  have e0 : (0 : Int) + (1 * a0 + ((-1) * a1 + ((-4294967296) * a2 + ((-18446744073709551616) * a3 + 0)))) = 0 := he _ List.mem_cons_self
  have e1 : ((-18446744073709551617) : Int) + ((-18446744073709551617) * a1 + ((-4294967296) * a2 + (1 * a4 + 0))) = 0 := he _ (List.mem_cons_of_mem _ List.mem_cons_self)
  have e2 : ((-1) : Int) + (1 * (zk_xe w 2000079 a0) + 0) = 0 := he _ (List.mem_cons_of_mem _ (List.mem_cons_of_mem _ List.mem_cons_self))
  have e3 : (0 : Int) + ((-1) * a1 + (1 * a5 + 0)) = 0 := he _ (List.mem_cons_of_mem _ (List.mem_cons_of_mem _ (List.mem_cons_of_mem _ List.mem_cons_self)))
  have e4 : (1 : Int) + ((-1) * a3 + (1 * a6 + 0)) = 0 := he _ (List.mem_cons_of_mem _ (List.mem_cons_of_mem _ (List.mem_cons_of_mem _ (List.mem_cons_of_mem _ List.mem_cons_self))))
  have g0 : 0 ≤ (0 : Int) + (1 * a1 + 0) := hg _ List.mem_cons_self
  have g1 : 0 ≤ (4294967294 : Int) + ((-1) * a1 + 0) := hg _ (List.mem_cons_of_mem _ List.mem_cons_self)
  have g2 : 0 ≤ (0 : Int) + (1 * a2 + 0) := hg _ (List.mem_cons_of_mem _ (List.mem_cons_of_mem _ List.mem_cons_self))
  have g3 : 0 ≤ (4294967294 : Int) + ((-1) * a2 + 0) := hg _ (List.mem_cons_of_mem _ (List.mem_cons_of_mem _ (List.mem_cons_of_mem _ List.mem_cons_self)))
  have g4 : 0 ≤ (0 : Int) + (1 * a3 + 0) := hg _ (List.mem_cons_of_mem _ (List.mem_cons_of_mem _ (List.mem_cons_of_mem _ (List.mem_cons_of_mem _ List.mem_cons_self))))
  have g5 : 0 ≤ (4294967294 : Int) + ((-1) * a3 + 0) := hg _ (List.mem_cons_of_mem _ (List.mem_cons_of_mem _ (List.mem_cons_of_mem _ (List.mem_cons_of_mem _ (List.mem_cons_of_mem _ List.mem_cons_self)))))
  have g6 : 0 ≤ ((-1) : Int) + (1 * a3 + 0) := hg _ (List.mem_cons_of_mem _ (List.mem_cons_of_mem _ (List.mem_cons_of_mem _ (List.mem_cons_of_mem _ (List.mem_cons_of_mem _ (List.mem_cons_of_mem _ List.mem_cons_self))))))
  have g7 : 0 ≤ (0 : Int) + ((-1) * a2 + (1 * (zk_xe w 231 a5) + 0)) := hg _ (List.mem_cons_of_mem _ (List.mem_cons_of_mem _ (List.mem_cons_of_mem _ (List.mem_cons_of_mem _ (List.mem_cons_of_mem _ (List.mem_cons_of_mem _ (List.mem_cons_of_mem _ List.mem_cons_self)))))))
  have g8 : 0 ≤ ((-1) : Int) + ((-1) * (zk_xe w 231 a5) + (1 * (zk_xe w 231 a6) + 0)) := hg _ (List.mem_cons_of_mem _ (List.mem_cons_of_mem _ (List.mem_cons_of_mem _ (List.mem_cons_of_mem _ (List.mem_cons_of_mem _ (List.mem_cons_of_mem _ (List.mem_cons_of_mem _ (List.mem_cons_of_mem _ List.mem_cons_self))))))))
  have r0 : 0 ≤ a0 := hr _ List.mem_cons_self
  have r1 : 0 ≤ a5 := hr _ (List.mem_cons_of_mem _ List.mem_cons_self)
  have r2 : 0 ≤ a6 := hr _ (List.mem_cons_of_mem _ (List.mem_cons_of_mem _ List.mem_cons_self))
  have hp := (zs_79 (w := w) (j := a0) (k := a1) (l := (a2 - 1)) (z := a3) (by omega) (by omega) (by omega) (by omega) (by omega) (by omega) (by omega) ).mp (by omega)
  have k0 : zh_e w 231 (a1) = zk_xe w 231 a5 := by rw [zk_xe_r (i := 231) (by decide)]; show zk_el w 231 (a1) = zk_el w 231 a5; rw [show a1 = a5 by omega]
  have k1 : zh_e w 231 (a3 - 1) = zk_xe w 231 a6 := by rw [zk_xe_r (i := 231) (by decide)]; show zk_el w 231 (a3 - 1) = zk_el w 231 a6; rw [show a3 - 1 = a6 by omega]
  have h : zs_nx (zh_e w 231) (a1 + 1) (a2 - 1) (a1 + 1) := by
    rcases hp with ⟨h1, h2⟩ | ⟨h1, h2, h3, h4⟩
    · omega
    · refine Or.inr ⟨by omega, by omega, by rw [show a1 + 1 - 1 = a1 by omega, k0]; omega, fun i i0 i1 i2 => ?_⟩
      rw [show a1 + 1 - 1 = a1 by omega, k0]
      by_cases c : i = a1
      · rw [c, k0]
        exact Int.le_refl _
      · have := h4 i i0 (by omega) i2
        rw [k1] at this
        omega
  exact ⟨_, List.mem_cons_self, [], rfl, zx_bnil, zx_cs0, (zx_eF1 (by show 0 ≤ (0 : Int) + (1 * a4 + 0); omega) (by show zk_xe w 2000079 ((0 : Int) + (1 * a4 + 0)) = (1 : Int) + (0); rw [show (0 : Int) + (1 * a4 + 0) = a4 by omega]; exact ((zs_79 (w := w) (j := a4) (k := (a1 + 1)) (l := (a2 - 1)) (z := (a1 + 1)) (by omega) (by omega) (by omega) (by omega) (by omega) (by omega) (by omega) ).mpr (h)).trans (by omega)) zx_eF0), zx_k0⟩
def zx_D760 : zx_L := zx_Lc [] 2 [] [] [((0, 0), [(0, 1, 0), (1, 0, 4294967296)])] [((0, 0), [(1, 1, 0)]), ((4294967294, 0), [(1, 0, 1)])] [([], [], [(2000080, ((0, 0), [(0, 1, 0)]), ((0, 0), []))], [])]
theorem zx_D760_ok {PT : Nat → zz_W → Prop} : zx_Lok 64 zHT PT zx_D760 := by
  refine zx_Lc_ok (fun w hI hK ins hl hr he hg => ?_)
  obtain ⟨a0, a1, rfl⟩ := zx_i2 hl
  have e0 : (0 : Int) + (1 * a0 + ((-4294967296) * a1 + 0)) = 0 := he _ List.mem_cons_self
  have g0 : 0 ≤ (0 : Int) + (1 * a1 + 0) := hg _ List.mem_cons_self
  have g1 : 0 ≤ (4294967294 : Int) + ((-1) * a1 + 0) := hg _ (List.mem_cons_of_mem _ List.mem_cons_self)
  have h := zs_80 (w := w) (j := a0) (l := (-1)) (m := a1) (by omega) (by omega) (by omega) (by omega) (by omega) 
  rw [zs_cn0] at h
  exact ⟨_, List.mem_cons_self, [], rfl, zx_bnil, zx_cs0, (zx_eF1 (by show 0 ≤ (0 : Int) + (1 * a0 + 0); omega) (by show zk_xe w 2000080 ((0 : Int) + (1 * a0 + 0)) = (0 : Int) + (0); rw [show (0 : Int) + (1 * a0 + 0) = a0 by omega]; exact h.trans (by omega)) zx_eF0), zx_k0⟩
def zx_D761 : zx_L := zx_Lc [] 10 [(2000080, 0), (2000079, 3), (2000076, 5), (231, 9)] [] [((0, 0), [(0, 1, 0), (1, 0, 1), (2, 0, 4294967296)]), ((0, 0), [(1, 0, 4294967296), (2, 0, 1), (3, 1, 0), (4, 0, 18446744073709551616)]), ((0, 0), [(2, 0, 1), (5, 1, 0), (6, 0, 4294967296), (7, 0, 18446744073709551616)]), ((0, 1), [(11, 1, 0)]), ((0, 1), [(12, 1, 0)]), ((1, 0), [(4, 0, 1), (9, 1, 0)]), ((0, 1), [(2, 0, 4294967296), (8, 1, 0), (13, 0, 1)])] [((0, 0), [(1, 1, 0)]), ((4294967294, 0), [(1, 0, 1)]), ((0, 0), [(2, 1, 0)]), ((4294967294, 0), [(2, 0, 1)]), ((0, 0), [(4, 1, 0)]), ((4294967294, 0), [(4, 0, 1)]), ((0, 0), [(6, 1, 0)]), ((4294967294, 0), [(6, 0, 1)]), ((0, 0), [(7, 1, 0)]), ((4294967294, 0), [(7, 0, 1)]), ((0, 1), [(4, 1, 0)]), ((0, 0), [(13, 1, 0)]), ((100000, 0), [(13, 0, 1)])] [([], [], [(2000080, ((0, 0), [(8, 1, 0)]), ((1, 0), [(10, 1, 0)]))], [])]
theorem zx_D761_ok {PT : Nat → zz_W → Prop} : zx_Lok 64 zHT PT zx_D761 := by
  refine zx_Lc_ok (fun w hI hK ins hl hr he hg => ?_)
  obtain ⟨a0, a1, a2, a3, a4, a5, a6, a7, a8, a9, rfl⟩ := zx_i10 hl
  have e0 : (0 : Int) + (1 * a0 + ((-1) * a1 + ((-4294967296) * a2 + 0))) = 0 := he _ List.mem_cons_self
  have e1 : (0 : Int) + ((-4294967296) * a1 + ((-1) * a2 + (1 * a3 + ((-18446744073709551616) * a4 + 0)))) = 0 := he _ (List.mem_cons_of_mem _ List.mem_cons_self)
  have e2 : (0 : Int) + ((-1) * a2 + (1 * a5 + ((-4294967296) * a6 + ((-18446744073709551616) * a7 + 0)))) = 0 := he _ (List.mem_cons_of_mem _ (List.mem_cons_of_mem _ List.mem_cons_self))
  have e3 : ((-1) : Int) + (1 * (zk_xe w 2000079 a3) + 0) = 0 := he _ (List.mem_cons_of_mem _ (List.mem_cons_of_mem _ (List.mem_cons_of_mem _ List.mem_cons_self)))
  have e4 : ((-1) : Int) + (1 * (zk_xe w 2000076 a5) + 0) = 0 := he _ (List.mem_cons_of_mem _ (List.mem_cons_of_mem _ (List.mem_cons_of_mem _ (List.mem_cons_of_mem _ List.mem_cons_self))))
  have e5 : (1 : Int) + ((-1) * a4 + (1 * a9 + 0)) = 0 := he _ (List.mem_cons_of_mem _ (List.mem_cons_of_mem _ (List.mem_cons_of_mem _ (List.mem_cons_of_mem _ (List.mem_cons_of_mem _ List.mem_cons_self)))))
  have e6 : ((-1) : Int) + ((-4294967296) * a2 + (1 * a8 + ((-1) * (zk_xe w 231 a9) + 0))) = 0 := he _ (List.mem_cons_of_mem _ (List.mem_cons_of_mem _ (List.mem_cons_of_mem _ (List.mem_cons_of_mem _ (List.mem_cons_of_mem _ (List.mem_cons_of_mem _ List.mem_cons_self))))))
  have g0 : 0 ≤ (0 : Int) + (1 * a1 + 0) := hg _ List.mem_cons_self
  have g1 : 0 ≤ (4294967294 : Int) + ((-1) * a1 + 0) := hg _ (List.mem_cons_of_mem _ List.mem_cons_self)
  have g2 : 0 ≤ (0 : Int) + (1 * a2 + 0) := hg _ (List.mem_cons_of_mem _ (List.mem_cons_of_mem _ List.mem_cons_self))
  have g3 : 0 ≤ (4294967294 : Int) + ((-1) * a2 + 0) := hg _ (List.mem_cons_of_mem _ (List.mem_cons_of_mem _ (List.mem_cons_of_mem _ List.mem_cons_self)))
  have g4 : 0 ≤ (0 : Int) + (1 * a4 + 0) := hg _ (List.mem_cons_of_mem _ (List.mem_cons_of_mem _ (List.mem_cons_of_mem _ (List.mem_cons_of_mem _ List.mem_cons_self))))
  have g5 : 0 ≤ (4294967294 : Int) + ((-1) * a4 + 0) := hg _ (List.mem_cons_of_mem _ (List.mem_cons_of_mem _ (List.mem_cons_of_mem _ (List.mem_cons_of_mem _ (List.mem_cons_of_mem _ List.mem_cons_self)))))
  have g6 : 0 ≤ (0 : Int) + (1 * a6 + 0) := hg _ (List.mem_cons_of_mem _ (List.mem_cons_of_mem _ (List.mem_cons_of_mem _ (List.mem_cons_of_mem _ (List.mem_cons_of_mem _ (List.mem_cons_of_mem _ List.mem_cons_self))))))
  have g7 : 0 ≤ (4294967294 : Int) + ((-1) * a6 + 0) := hg _ (List.mem_cons_of_mem _ (List.mem_cons_of_mem _ (List.mem_cons_of_mem _ (List.mem_cons_of_mem _ (List.mem_cons_of_mem _ (List.mem_cons_of_mem _ (List.mem_cons_of_mem _ List.mem_cons_self)))))))
  have g8 : 0 ≤ (0 : Int) + (1 * a7 + 0) := hg _ (List.mem_cons_of_mem _ (List.mem_cons_of_mem _ (List.mem_cons_of_mem _ (List.mem_cons_of_mem _ (List.mem_cons_of_mem _ (List.mem_cons_of_mem _ (List.mem_cons_of_mem _ (List.mem_cons_of_mem _ List.mem_cons_self))))))))
  have g9 : 0 ≤ (4294967294 : Int) + ((-1) * a7 + 0) := hg _ (List.mem_cons_of_mem _ (List.mem_cons_of_mem _ (List.mem_cons_of_mem _ (List.mem_cons_of_mem _ (List.mem_cons_of_mem _ (List.mem_cons_of_mem _ (List.mem_cons_of_mem _ (List.mem_cons_of_mem _ (List.mem_cons_of_mem _ List.mem_cons_self)))))))))
  have g10 : 0 ≤ ((-1) : Int) + (1 * a4 + 0) := hg _ (List.mem_cons_of_mem _ (List.mem_cons_of_mem _ (List.mem_cons_of_mem _ (List.mem_cons_of_mem _ (List.mem_cons_of_mem _ (List.mem_cons_of_mem _ (List.mem_cons_of_mem _ (List.mem_cons_of_mem _ (List.mem_cons_of_mem _ (List.mem_cons_of_mem _ List.mem_cons_self))))))))))
  have g11 : 0 ≤ (0 : Int) + (1 * (zk_xe w 231 a9) + 0) := hg _ (List.mem_cons_of_mem _ (List.mem_cons_of_mem _ (List.mem_cons_of_mem _ (List.mem_cons_of_mem _ (List.mem_cons_of_mem _ (List.mem_cons_of_mem _ (List.mem_cons_of_mem _ (List.mem_cons_of_mem _ (List.mem_cons_of_mem _ (List.mem_cons_of_mem _ (List.mem_cons_of_mem _ List.mem_cons_self)))))))))))
  have g12 : 0 ≤ (100000 : Int) + ((-1) * (zk_xe w 231 a9) + 0) := hg _ (List.mem_cons_of_mem _ (List.mem_cons_of_mem _ (List.mem_cons_of_mem _ (List.mem_cons_of_mem _ (List.mem_cons_of_mem _ (List.mem_cons_of_mem _ (List.mem_cons_of_mem _ (List.mem_cons_of_mem _ (List.mem_cons_of_mem _ (List.mem_cons_of_mem _ (List.mem_cons_of_mem _ (List.mem_cons_of_mem _ List.mem_cons_self))))))))))))
  have r0 : 0 ≤ a0 := hr _ List.mem_cons_self
  have r1 : 0 ≤ a3 := hr _ (List.mem_cons_of_mem _ List.mem_cons_self)
  have r2 : 0 ≤ a5 := hr _ (List.mem_cons_of_mem _ (List.mem_cons_of_mem _ List.mem_cons_self))
  have r3 : 0 ≤ a9 := hr _ (List.mem_cons_of_mem _ (List.mem_cons_of_mem _ (List.mem_cons_of_mem _ List.mem_cons_self)))
  have hN := (zs_79 (w := w) (j := a3) (k := a2) (l := (a1 - 1)) (z := a4) (by omega) (by omega) (by omega) (by omega) (by omega) (by omega) (by omega) ).mp (by omega)
  have hU := (zs_76 (w := w) (j := a5) (n := a2) (c := a6) (t := a7) (by omega) (by omega) (by omega) (by omega) (by omega) (by omega) (by omega) ).mp (by omega)
  have hC := zs_80 (w := w) (j := a0) (l := (a1 - 1)) (m := a2) (by omega) (by omega) (by omega) (by omega) (by omega) 
  have k0 : zh_e w 231 (a4 - 1) = zk_xe w 231 a9 := by rw [zk_xe_r (i := 231) (by decide)]; show zk_el w 231 (a4 - 1) = zk_el w 231 a9; rw [show a4 - 1 = a9 by omega]
  rcases hN with ⟨h1, h2⟩ | ⟨h1, h2, h3, h4⟩
  · omega
  ·
    have hS := zs_cns (up := zh_e w 231) (l := a1 - 1) (x := a4 - 1) (M := a2) (by omega) h3 (hU.2.1 (a4 - 1) (by omega) h2).1 h4 (fun i i0 i1 i2 => ?_) (fun i i0 i1 => (hU.2.1 i i0 i1).1) (m := a2.toNat) (by omega)
    · rw [if_pos (show a4 - 1 < ((a2.toNat : Nat) : Int) by omega), ← hC, k0] at hS
      have h := zs_80 (w := w) (j := a8) (l := (zk_xe w 231 a9)) (m := a2) (by omega) (by omega) (by omega) (by omega) (by omega) 
      rw [hS] at h
      exact ⟨_, List.mem_cons_self, [], rfl, zx_bnil, zx_cs0, (zx_eF1 (by show 0 ≤ (0 : Int) + (1 * a8 + 0); omega) (by show zk_xe w 2000080 ((0 : Int) + (1 * a8 + 0)) = (1 : Int) + (1 * (zk_xe w 2000080 a0) + 0); rw [show (0 : Int) + (1 * a8 + 0) = a8 by omega]; exact h.trans (by omega)) zx_eF0), zx_k0⟩
    · by_cases c : i < a4 - 1
      · exact hU.1 i (a4 - 1) i0 c h2
      · exact fun q => hU.1 (a4 - 1) i (by omega) (by omega) i1 q.symm
def zx_D762 : zx_L := zx_Lc [] 8 [(2000080, 0), (2000079, 3), (2000076, 5)] [] [((0, 0), [(0, 1, 0), (1, 0, 1), (2, 0, 4294967296)]), ((0, 0), [(1, 0, 4294967296), (2, 0, 1), (3, 1, 0), (4, 0, 18446744073709551616)]), ((0, 0), [(2, 0, 1), (5, 1, 0), (6, 0, 4294967296), (7, 0, 18446744073709551616)]), ((0, 1), [(9, 1, 0)]), ((0, 1), [(10, 1, 0)]), ((0, 0), [(4, 1, 0)])] [((0, 0), [(1, 1, 0)]), ((4294967294, 0), [(1, 0, 1)]), ((0, 0), [(2, 1, 0)]), ((4294967294, 0), [(2, 0, 1)]), ((0, 0), [(4, 1, 0)]), ((4294967294, 0), [(4, 0, 1)]), ((0, 0), [(6, 1, 0)]), ((4294967294, 0), [(6, 0, 1)]), ((0, 0), [(7, 1, 0)]), ((4294967294, 0), [(7, 0, 1)])] [([], [((0, 0), [(2, 0, 1), (8, 1, 0)]), ((0, 0), [(2, 1, 0), (8, 0, 1)])], [], [])]
theorem zx_D762_ok {PT : Nat → zz_W → Prop} : zx_Lok 64 zHT PT zx_D762 := by
  refine zx_Lc_ok (fun w hI hK ins hl hr he hg => ?_)
  obtain ⟨a0, a1, a2, a3, a4, a5, a6, a7, rfl⟩ := zx_i8 hl
  have e0 : (0 : Int) + (1 * a0 + ((-1) * a1 + ((-4294967296) * a2 + 0))) = 0 := he _ List.mem_cons_self
  have e1 : (0 : Int) + ((-4294967296) * a1 + ((-1) * a2 + (1 * a3 + ((-18446744073709551616) * a4 + 0)))) = 0 := he _ (List.mem_cons_of_mem _ List.mem_cons_self)
  have e2 : (0 : Int) + ((-1) * a2 + (1 * a5 + ((-4294967296) * a6 + ((-18446744073709551616) * a7 + 0)))) = 0 := he _ (List.mem_cons_of_mem _ (List.mem_cons_of_mem _ List.mem_cons_self))
  have e3 : ((-1) : Int) + (1 * (zk_xe w 2000079 a3) + 0) = 0 := he _ (List.mem_cons_of_mem _ (List.mem_cons_of_mem _ (List.mem_cons_of_mem _ List.mem_cons_self)))
  have e4 : ((-1) : Int) + (1 * (zk_xe w 2000076 a5) + 0) = 0 := he _ (List.mem_cons_of_mem _ (List.mem_cons_of_mem _ (List.mem_cons_of_mem _ (List.mem_cons_of_mem _ List.mem_cons_self))))
  have e5 : (0 : Int) + (1 * a4 + 0) = 0 := he _ (List.mem_cons_of_mem _ (List.mem_cons_of_mem _ (List.mem_cons_of_mem _ (List.mem_cons_of_mem _ (List.mem_cons_of_mem _ List.mem_cons_self)))))
  have g0 : 0 ≤ (0 : Int) + (1 * a1 + 0) := hg _ List.mem_cons_self
  have g1 : 0 ≤ (4294967294 : Int) + ((-1) * a1 + 0) := hg _ (List.mem_cons_of_mem _ List.mem_cons_self)
  have g2 : 0 ≤ (0 : Int) + (1 * a2 + 0) := hg _ (List.mem_cons_of_mem _ (List.mem_cons_of_mem _ List.mem_cons_self))
  have g3 : 0 ≤ (4294967294 : Int) + ((-1) * a2 + 0) := hg _ (List.mem_cons_of_mem _ (List.mem_cons_of_mem _ (List.mem_cons_of_mem _ List.mem_cons_self)))
  have g4 : 0 ≤ (0 : Int) + (1 * a4 + 0) := hg _ (List.mem_cons_of_mem _ (List.mem_cons_of_mem _ (List.mem_cons_of_mem _ (List.mem_cons_of_mem _ List.mem_cons_self))))
  have g5 : 0 ≤ (4294967294 : Int) + ((-1) * a4 + 0) := hg _ (List.mem_cons_of_mem _ (List.mem_cons_of_mem _ (List.mem_cons_of_mem _ (List.mem_cons_of_mem _ (List.mem_cons_of_mem _ List.mem_cons_self)))))
  have g6 : 0 ≤ (0 : Int) + (1 * a6 + 0) := hg _ (List.mem_cons_of_mem _ (List.mem_cons_of_mem _ (List.mem_cons_of_mem _ (List.mem_cons_of_mem _ (List.mem_cons_of_mem _ (List.mem_cons_of_mem _ List.mem_cons_self))))))
  have g7 : 0 ≤ (4294967294 : Int) + ((-1) * a6 + 0) := hg _ (List.mem_cons_of_mem _ (List.mem_cons_of_mem _ (List.mem_cons_of_mem _ (List.mem_cons_of_mem _ (List.mem_cons_of_mem _ (List.mem_cons_of_mem _ (List.mem_cons_of_mem _ List.mem_cons_self)))))))
  have g8 : 0 ≤ (0 : Int) + (1 * a7 + 0) := hg _ (List.mem_cons_of_mem _ (List.mem_cons_of_mem _ (List.mem_cons_of_mem _ (List.mem_cons_of_mem _ (List.mem_cons_of_mem _ (List.mem_cons_of_mem _ (List.mem_cons_of_mem _ (List.mem_cons_of_mem _ List.mem_cons_self))))))))
  have g9 : 0 ≤ (4294967294 : Int) + ((-1) * a7 + 0) := hg _ (List.mem_cons_of_mem _ (List.mem_cons_of_mem _ (List.mem_cons_of_mem _ (List.mem_cons_of_mem _ (List.mem_cons_of_mem _ (List.mem_cons_of_mem _ (List.mem_cons_of_mem _ (List.mem_cons_of_mem _ (List.mem_cons_of_mem _ List.mem_cons_self)))))))))
  have r0 : 0 ≤ a0 := hr _ List.mem_cons_self
  have r1 : 0 ≤ a3 := hr _ (List.mem_cons_of_mem _ List.mem_cons_self)
  have r2 : 0 ≤ a5 := hr _ (List.mem_cons_of_mem _ (List.mem_cons_of_mem _ List.mem_cons_self))
  have hN := (zs_79 (w := w) (j := a3) (k := a2) (l := (a1 - 1)) (z := a4) (by omega) (by omega) (by omega) (by omega) (by omega) (by omega) (by omega) ).mp (by omega)
  have hU := (zs_76 (w := w) (j := a5) (n := a2) (c := a6) (t := a7) (by omega) (by omega) (by omega) (by omega) (by omega) (by omega) (by omega) ).mp (by omega)
  have hC := zs_80 (w := w) (j := a0) (l := (a1 - 1)) (m := a2) (by omega) (by omega) (by omega) (by omega) (by omega) 
  rcases hN with ⟨h1, h2⟩ | ⟨h1, h2, h3, h4⟩
  ·
    have hM := zs_cnm (up := zh_e w 231) (l := a1 - 1) (m := a2.toNat) (fun i i0 i1 => ⟨(hU.2.1 i i0 (by omega)).1, h2 i i0 (by omega)⟩)
    rw [hM] at hC
    exact ⟨_, List.mem_cons_self, [], rfl, zx_bnil, (zx_cs1 (by show 0 ≤ (0 : Int) + ((-1) * a2 + (1 * (zk_xe w 2000080 a0) + 0)); omega) (zx_cs1 (by show 0 ≤ (0 : Int) + (1 * a2 + ((-1) * (zk_xe w 2000080 a0) + 0)); omega) zx_cs0)), zx_eF0, zx_k0⟩
  · omega
def zx_E570 : zx_V := zx_Vc 231 [] 4 [(2000076, 0)] [((0, 0), [(2, 1, 0), (3, 0, 1), (4, 0, 4294967296), (5, 0, 18446744073709551616)]), ((0, 1), [(6, 1, 0)])] [((0, 0), [(3, 1, 0)]), ((4294967294, 0), [(3, 0, 1)]), ((0, 0), [(4, 1, 0)]), ((4294967294, 0), [(4, 0, 1)]), ((0, 0), [(5, 1, 0)]), ((4294967294, 0), [(5, 0, 1)]), ((0, 0), [(0, 1, 0), (3, 0, 1)])] [(2000076, ((0, 0), [(2, 1, 0)]), ((1, 0), []))]
theorem zx_E570_ok {PT : Nat → zz_W → Prop} : zx_Vok 64 zHT PT zx_E570 := by
  refine zx_Vc_ok (fun w w' j ins hI hI' h0 hw hK hl he hg => ?_)
  obtain ⟨a0, a1, a2, a3, rfl⟩ := zx_i4 hl
  have e0 : (0 : Int) + (1 * a0 + ((-1) * a1 + ((-4294967296) * a2 + ((-18446744073709551616) * a3 + 0)))) = 0 := he _ List.mem_cons_self
  have e1 : ((-1) : Int) + (1 * (zk_xe w 2000076 a0) + 0) = 0 := he _ (List.mem_cons_of_mem _ List.mem_cons_self)
  have g0 : 0 ≤ (0 : Int) + (1 * a1 + 0) := hg _ List.mem_cons_self
  have g1 : 0 ≤ (4294967294 : Int) + ((-1) * a1 + 0) := hg _ (List.mem_cons_of_mem _ List.mem_cons_self)
  have g2 : 0 ≤ (0 : Int) + (1 * a2 + 0) := hg _ (List.mem_cons_of_mem _ (List.mem_cons_of_mem _ List.mem_cons_self))
  have g3 : 0 ≤ (4294967294 : Int) + ((-1) * a2 + 0) := hg _ (List.mem_cons_of_mem _ (List.mem_cons_of_mem _ (List.mem_cons_of_mem _ List.mem_cons_self)))
  have g4 : 0 ≤ (0 : Int) + (1 * a3 + 0) := hg _ (List.mem_cons_of_mem _ (List.mem_cons_of_mem _ (List.mem_cons_of_mem _ (List.mem_cons_of_mem _ List.mem_cons_self))))
  have g5 : 0 ≤ (4294967294 : Int) + ((-1) * a3 + 0) := hg _ (List.mem_cons_of_mem _ (List.mem_cons_of_mem _ (List.mem_cons_of_mem _ (List.mem_cons_of_mem _ (List.mem_cons_of_mem _ List.mem_cons_self)))))
  have g6 : 0 ≤ (0 : Int) + (1 * j + ((-1) * a1 + 0)) := hg _ (List.mem_cons_of_mem _ (List.mem_cons_of_mem _ (List.mem_cons_of_mem _ (List.mem_cons_of_mem _ (List.mem_cons_of_mem _ (List.mem_cons_of_mem _ List.mem_cons_self))))))
  have hp := (zs_76 (w := w) (j := a0) (n := a1) (c := a2) (t := a3) (by omega) (by omega) (by omega) (by omega) (by omega) (by omega) (by omega) ).mp (by omega)
  have h : zs_ud (zh_e w' 231) (zh_e w' 248) (zh_e w' 239) (zh_e w' 222) a1 a2 a3 0 := by
    rw [show zh_e w' 222 = zh_e w 222 from zh_e_g (hw.1 222 (by decide))]
    exact zs_udc (fun i i0 i1 => (hw.2 i (by omega) (by omega))) (fun i i0 i1 => ⟨congrFun (zh_e_g (hw.1 248 (by decide))) i, congrFun (zh_e_g (hw.1 239 (by decide))) i⟩) hp
  exact (zx_eF1 (by show 0 ≤ (0 : Int) + (1 * a0 + 0); omega) (by show zk_xe w' 2000076 ((0 : Int) + (1 * a0 + 0)) = (1 : Int) + (0); rw [show (0 : Int) + (1 * a0 + 0) = a0 by omega]; exact ((zs_76 (w := w') (j := a0) (n := a1) (c := a2) (t := a3) (by omega) (by omega) (by omega) (by omega) (by omega) (by omega) (by omega) ).mpr h).trans (by omega)) zx_eF0)
def zx_E574 : zx_V := zx_Vc 231 [] 5 [(2000078, 0)] [((0, 0), [(2, 1, 0), (3, 0, 1), (4, 0, 4294967296), (5, 0, 18446744073709551616), (6, 0, 79228162514264337593543950336)]), ((0, 1), [(7, 1, 0)])] [((0, 0), [(3, 1, 0)]), ((4294967294, 0), [(3, 0, 1)]), ((0, 0), [(4, 1, 0)]), ((4294967294, 0), [(4, 0, 1)]), ((0, 0), [(5, 1, 0)]), ((4294967294, 0), [(5, 0, 1)]), ((0, 0), [(6, 1, 0)]), ((4294967294, 0), [(6, 0, 1)]), ((0, 0), [(0, 1, 0), (3, 0, 1)])] [(2000078, ((0, 0), [(2, 1, 0)]), ((1, 0), []))]
theorem zx_E574_ok {PT : Nat → zz_W → Prop} : zx_Vok 64 zHT PT zx_E574 := by
  refine zx_Vc_ok (fun w w' j ins hI hI' h0 hw hK hl he hg => ?_)
  obtain ⟨a0, a1, a2, a3, a4, rfl⟩ := zx_i5 hl
  have e0 : (0 : Int) + (1 * a0 + ((-1) * a1 + ((-4294967296) * a2 + ((-18446744073709551616) * a3 + ((-79228162514264337593543950336) * a4 + 0))))) = 0 := he _ List.mem_cons_self
  have e1 : ((-1) : Int) + (1 * (zk_xe w 2000078 a0) + 0) = 0 := he _ (List.mem_cons_of_mem _ List.mem_cons_self)
  have g0 : 0 ≤ (0 : Int) + (1 * a1 + 0) := hg _ List.mem_cons_self
  have g1 : 0 ≤ (4294967294 : Int) + ((-1) * a1 + 0) := hg _ (List.mem_cons_of_mem _ List.mem_cons_self)
  have g2 : 0 ≤ (0 : Int) + (1 * a2 + 0) := hg _ (List.mem_cons_of_mem _ (List.mem_cons_of_mem _ List.mem_cons_self))
  have g3 : 0 ≤ (4294967294 : Int) + ((-1) * a2 + 0) := hg _ (List.mem_cons_of_mem _ (List.mem_cons_of_mem _ (List.mem_cons_of_mem _ List.mem_cons_self)))
  have g4 : 0 ≤ (0 : Int) + (1 * a3 + 0) := hg _ (List.mem_cons_of_mem _ (List.mem_cons_of_mem _ (List.mem_cons_of_mem _ (List.mem_cons_of_mem _ List.mem_cons_self))))
  have g5 : 0 ≤ (4294967294 : Int) + ((-1) * a3 + 0) := hg _ (List.mem_cons_of_mem _ (List.mem_cons_of_mem _ (List.mem_cons_of_mem _ (List.mem_cons_of_mem _ (List.mem_cons_of_mem _ List.mem_cons_self)))))
  have g6 : 0 ≤ (0 : Int) + (1 * a4 + 0) := hg _ (List.mem_cons_of_mem _ (List.mem_cons_of_mem _ (List.mem_cons_of_mem _ (List.mem_cons_of_mem _ (List.mem_cons_of_mem _ (List.mem_cons_of_mem _ List.mem_cons_self))))))
  have g7 : 0 ≤ (4294967294 : Int) + ((-1) * a4 + 0) := hg _ (List.mem_cons_of_mem _ (List.mem_cons_of_mem _ (List.mem_cons_of_mem _ (List.mem_cons_of_mem _ (List.mem_cons_of_mem _ (List.mem_cons_of_mem _ (List.mem_cons_of_mem _ List.mem_cons_self)))))))
  have g8 : 0 ≤ (0 : Int) + (1 * j + ((-1) * a1 + 0)) := hg _ (List.mem_cons_of_mem _ (List.mem_cons_of_mem _ (List.mem_cons_of_mem _ (List.mem_cons_of_mem _ (List.mem_cons_of_mem _ (List.mem_cons_of_mem _ (List.mem_cons_of_mem _ (List.mem_cons_of_mem _ List.mem_cons_self))))))))
  have hp := (zs_78 (w := w) (j := a0) (n := a1) (c := a2) (t := a3) (y := a4) (by omega) (by omega) (by omega) (by omega) (by omega) (by omega) (by omega) (by omega) (by omega) ).mp (by omega)
  have h : zs_ud (zh_e w' 231) (zh_e w' 248) (zh_e w' 239) (zh_e w' 222) a1 a2 a3 a4 := by
    rw [show zh_e w' 222 = zh_e w 222 from zh_e_g (hw.1 222 (by decide))]
    exact zs_udc (fun i i0 i1 => (hw.2 i (by omega) (by omega))) (fun i i0 i1 => ⟨congrFun (zh_e_g (hw.1 248 (by decide))) i, congrFun (zh_e_g (hw.1 239 (by decide))) i⟩) hp
  exact (zx_eF1 (by show 0 ≤ (0 : Int) + (1 * a0 + 0); omega) (by show zk_xe w' 2000078 ((0 : Int) + (1 * a0 + 0)) = (1 : Int) + (0); rw [show (0 : Int) + (1 * a0 + 0) = a0 by omega]; exact ((zs_78 (w := w') (j := a0) (n := a1) (c := a2) (t := a3) (y := a4) (by omega) (by omega) (by omega) (by omega) (by omega) (by omega) (by omega) (by omega) (by omega) ).mpr h).trans (by omega)) zx_eF0)
def zx_E571 : zx_V := zx_Vc 248 [] 4 [(2000076, 0)] [((0, 0), [(2, 1, 0), (3, 0, 1), (4, 0, 4294967296), (5, 0, 18446744073709551616)]), ((0, 1), [(6, 1, 0)])] [((0, 0), [(3, 1, 0)]), ((4294967294, 0), [(3, 0, 1)]), ((0, 0), [(4, 1, 0)]), ((4294967294, 0), [(4, 0, 1)]), ((0, 0), [(5, 1, 0)]), ((4294967294, 0), [(5, 0, 1)]), ((0, 0), [(0, 1, 0), (4, 0, 1)])] [(2000076, ((0, 0), [(2, 1, 0)]), ((1, 0), []))]
theorem zx_E571_ok {PT : Nat → zz_W → Prop} : zx_Vok 64 zHT PT zx_E571 := by
  refine zx_Vc_ok (fun w w' j ins hI hI' h0 hw hK hl he hg => ?_)
  obtain ⟨a0, a1, a2, a3, rfl⟩ := zx_i4 hl
  have e0 : (0 : Int) + (1 * a0 + ((-1) * a1 + ((-4294967296) * a2 + ((-18446744073709551616) * a3 + 0)))) = 0 := he _ List.mem_cons_self
  have e1 : ((-1) : Int) + (1 * (zk_xe w 2000076 a0) + 0) = 0 := he _ (List.mem_cons_of_mem _ List.mem_cons_self)
  have g0 : 0 ≤ (0 : Int) + (1 * a1 + 0) := hg _ List.mem_cons_self
  have g1 : 0 ≤ (4294967294 : Int) + ((-1) * a1 + 0) := hg _ (List.mem_cons_of_mem _ List.mem_cons_self)
  have g2 : 0 ≤ (0 : Int) + (1 * a2 + 0) := hg _ (List.mem_cons_of_mem _ (List.mem_cons_of_mem _ List.mem_cons_self))
  have g3 : 0 ≤ (4294967294 : Int) + ((-1) * a2 + 0) := hg _ (List.mem_cons_of_mem _ (List.mem_cons_of_mem _ (List.mem_cons_of_mem _ List.mem_cons_self)))
  have g4 : 0 ≤ (0 : Int) + (1 * a3 + 0) := hg _ (List.mem_cons_of_mem _ (List.mem_cons_of_mem _ (List.mem_cons_of_mem _ (List.mem_cons_of_mem _ List.mem_cons_self))))
  have g5 : 0 ≤ (4294967294 : Int) + ((-1) * a3 + 0) := hg _ (List.mem_cons_of_mem _ (List.mem_cons_of_mem _ (List.mem_cons_of_mem _ (List.mem_cons_of_mem _ (List.mem_cons_of_mem _ List.mem_cons_self)))))
  have g6 : 0 ≤ (0 : Int) + (1 * j + ((-1) * a2 + 0)) := hg _ (List.mem_cons_of_mem _ (List.mem_cons_of_mem _ (List.mem_cons_of_mem _ (List.mem_cons_of_mem _ (List.mem_cons_of_mem _ (List.mem_cons_of_mem _ List.mem_cons_self))))))
  have hp := (zs_76 (w := w) (j := a0) (n := a1) (c := a2) (t := a3) (by omega) (by omega) (by omega) (by omega) (by omega) (by omega) (by omega) ).mp (by omega)
  have h : zs_ud (zh_e w' 231) (zh_e w' 248) (zh_e w' 239) (zh_e w' 222) a1 a2 a3 0 := by
    rw [show zh_e w' 222 = zh_e w 222 from zh_e_g (hw.1 222 (by decide))]
    exact zs_udc (fun i i0 i1 => congrFun (zh_e_g (hw.1 231 (by decide))) i) (fun i i0 i1 => ⟨(hw.2 i (by omega) (by omega)), congrFun (zh_e_g (hw.1 239 (by decide))) i⟩) hp
  exact (zx_eF1 (by show 0 ≤ (0 : Int) + (1 * a0 + 0); omega) (by show zk_xe w' 2000076 ((0 : Int) + (1 * a0 + 0)) = (1 : Int) + (0); rw [show (0 : Int) + (1 * a0 + 0) = a0 by omega]; exact ((zs_76 (w := w') (j := a0) (n := a1) (c := a2) (t := a3) (by omega) (by omega) (by omega) (by omega) (by omega) (by omega) (by omega) ).mpr h).trans (by omega)) zx_eF0)
def zx_E575 : zx_V := zx_Vc 248 [] 5 [(2000078, 0)] [((0, 0), [(2, 1, 0), (3, 0, 1), (4, 0, 4294967296), (5, 0, 18446744073709551616), (6, 0, 79228162514264337593543950336)]), ((0, 1), [(7, 1, 0)])] [((0, 0), [(3, 1, 0)]), ((4294967294, 0), [(3, 0, 1)]), ((0, 0), [(4, 1, 0)]), ((4294967294, 0), [(4, 0, 1)]), ((0, 0), [(5, 1, 0)]), ((4294967294, 0), [(5, 0, 1)]), ((0, 0), [(6, 1, 0)]), ((4294967294, 0), [(6, 0, 1)]), ((0, 0), [(0, 1, 0), (4, 0, 1)])] [(2000078, ((0, 0), [(2, 1, 0)]), ((1, 0), []))]
theorem zx_E575_ok {PT : Nat → zz_W → Prop} : zx_Vok 64 zHT PT zx_E575 := by
  refine zx_Vc_ok (fun w w' j ins hI hI' h0 hw hK hl he hg => ?_)
  obtain ⟨a0, a1, a2, a3, a4, rfl⟩ := zx_i5 hl
  have e0 : (0 : Int) + (1 * a0 + ((-1) * a1 + ((-4294967296) * a2 + ((-18446744073709551616) * a3 + ((-79228162514264337593543950336) * a4 + 0))))) = 0 := he _ List.mem_cons_self
  have e1 : ((-1) : Int) + (1 * (zk_xe w 2000078 a0) + 0) = 0 := he _ (List.mem_cons_of_mem _ List.mem_cons_self)
  have g0 : 0 ≤ (0 : Int) + (1 * a1 + 0) := hg _ List.mem_cons_self
  have g1 : 0 ≤ (4294967294 : Int) + ((-1) * a1 + 0) := hg _ (List.mem_cons_of_mem _ List.mem_cons_self)
  have g2 : 0 ≤ (0 : Int) + (1 * a2 + 0) := hg _ (List.mem_cons_of_mem _ (List.mem_cons_of_mem _ List.mem_cons_self))
  have g3 : 0 ≤ (4294967294 : Int) + ((-1) * a2 + 0) := hg _ (List.mem_cons_of_mem _ (List.mem_cons_of_mem _ (List.mem_cons_of_mem _ List.mem_cons_self)))
  have g4 : 0 ≤ (0 : Int) + (1 * a3 + 0) := hg _ (List.mem_cons_of_mem _ (List.mem_cons_of_mem _ (List.mem_cons_of_mem _ (List.mem_cons_of_mem _ List.mem_cons_self))))
  have g5 : 0 ≤ (4294967294 : Int) + ((-1) * a3 + 0) := hg _ (List.mem_cons_of_mem _ (List.mem_cons_of_mem _ (List.mem_cons_of_mem _ (List.mem_cons_of_mem _ (List.mem_cons_of_mem _ List.mem_cons_self)))))
  have g6 : 0 ≤ (0 : Int) + (1 * a4 + 0) := hg _ (List.mem_cons_of_mem _ (List.mem_cons_of_mem _ (List.mem_cons_of_mem _ (List.mem_cons_of_mem _ (List.mem_cons_of_mem _ (List.mem_cons_of_mem _ List.mem_cons_self))))))
  have g7 : 0 ≤ (4294967294 : Int) + ((-1) * a4 + 0) := hg _ (List.mem_cons_of_mem _ (List.mem_cons_of_mem _ (List.mem_cons_of_mem _ (List.mem_cons_of_mem _ (List.mem_cons_of_mem _ (List.mem_cons_of_mem _ (List.mem_cons_of_mem _ List.mem_cons_self)))))))
  have g8 : 0 ≤ (0 : Int) + (1 * j + ((-1) * a2 + 0)) := hg _ (List.mem_cons_of_mem _ (List.mem_cons_of_mem _ (List.mem_cons_of_mem _ (List.mem_cons_of_mem _ (List.mem_cons_of_mem _ (List.mem_cons_of_mem _ (List.mem_cons_of_mem _ (List.mem_cons_of_mem _ List.mem_cons_self))))))))
  have hp := (zs_78 (w := w) (j := a0) (n := a1) (c := a2) (t := a3) (y := a4) (by omega) (by omega) (by omega) (by omega) (by omega) (by omega) (by omega) (by omega) (by omega) ).mp (by omega)
  have h : zs_ud (zh_e w' 231) (zh_e w' 248) (zh_e w' 239) (zh_e w' 222) a1 a2 a3 a4 := by
    rw [show zh_e w' 222 = zh_e w 222 from zh_e_g (hw.1 222 (by decide))]
    exact zs_udc (fun i i0 i1 => congrFun (zh_e_g (hw.1 231 (by decide))) i) (fun i i0 i1 => ⟨(hw.2 i (by omega) (by omega)), congrFun (zh_e_g (hw.1 239 (by decide))) i⟩) hp
  exact (zx_eF1 (by show 0 ≤ (0 : Int) + (1 * a0 + 0); omega) (by show zk_xe w' 2000078 ((0 : Int) + (1 * a0 + 0)) = (1 : Int) + (0); rw [show (0 : Int) + (1 * a0 + 0) = a0 by omega]; exact ((zs_78 (w := w') (j := a0) (n := a1) (c := a2) (t := a3) (y := a4) (by omega) (by omega) (by omega) (by omega) (by omega) (by omega) (by omega) (by omega) (by omega) ).mpr h).trans (by omega)) zx_eF0)
def zx_E572 : zx_V := zx_Vc 239 [] 4 [(2000076, 0)] [((0, 0), [(2, 1, 0), (3, 0, 1), (4, 0, 4294967296), (5, 0, 18446744073709551616)]), ((0, 1), [(6, 1, 0)])] [((0, 0), [(3, 1, 0)]), ((4294967294, 0), [(3, 0, 1)]), ((0, 0), [(4, 1, 0)]), ((4294967294, 0), [(4, 0, 1)]), ((0, 0), [(5, 1, 0)]), ((4294967294, 0), [(5, 0, 1)]), ((0, 0), [(0, 1, 0), (4, 0, 1)])] [(2000076, ((0, 0), [(2, 1, 0)]), ((1, 0), []))]
theorem zx_E572_ok {PT : Nat → zz_W → Prop} : zx_Vok 64 zHT PT zx_E572 := by
  refine zx_Vc_ok (fun w w' j ins hI hI' h0 hw hK hl he hg => ?_)
  obtain ⟨a0, a1, a2, a3, rfl⟩ := zx_i4 hl
  have e0 : (0 : Int) + (1 * a0 + ((-1) * a1 + ((-4294967296) * a2 + ((-18446744073709551616) * a3 + 0)))) = 0 := he _ List.mem_cons_self
  have e1 : ((-1) : Int) + (1 * (zk_xe w 2000076 a0) + 0) = 0 := he _ (List.mem_cons_of_mem _ List.mem_cons_self)
  have g0 : 0 ≤ (0 : Int) + (1 * a1 + 0) := hg _ List.mem_cons_self
  have g1 : 0 ≤ (4294967294 : Int) + ((-1) * a1 + 0) := hg _ (List.mem_cons_of_mem _ List.mem_cons_self)
  have g2 : 0 ≤ (0 : Int) + (1 * a2 + 0) := hg _ (List.mem_cons_of_mem _ (List.mem_cons_of_mem _ List.mem_cons_self))
  have g3 : 0 ≤ (4294967294 : Int) + ((-1) * a2 + 0) := hg _ (List.mem_cons_of_mem _ (List.mem_cons_of_mem _ (List.mem_cons_of_mem _ List.mem_cons_self)))
  have g4 : 0 ≤ (0 : Int) + (1 * a3 + 0) := hg _ (List.mem_cons_of_mem _ (List.mem_cons_of_mem _ (List.mem_cons_of_mem _ (List.mem_cons_of_mem _ List.mem_cons_self))))
  have g5 : 0 ≤ (4294967294 : Int) + ((-1) * a3 + 0) := hg _ (List.mem_cons_of_mem _ (List.mem_cons_of_mem _ (List.mem_cons_of_mem _ (List.mem_cons_of_mem _ (List.mem_cons_of_mem _ List.mem_cons_self)))))
  have g6 : 0 ≤ (0 : Int) + (1 * j + ((-1) * a2 + 0)) := hg _ (List.mem_cons_of_mem _ (List.mem_cons_of_mem _ (List.mem_cons_of_mem _ (List.mem_cons_of_mem _ (List.mem_cons_of_mem _ (List.mem_cons_of_mem _ List.mem_cons_self))))))
  have hp := (zs_76 (w := w) (j := a0) (n := a1) (c := a2) (t := a3) (by omega) (by omega) (by omega) (by omega) (by omega) (by omega) (by omega) ).mp (by omega)
  have h : zs_ud (zh_e w' 231) (zh_e w' 248) (zh_e w' 239) (zh_e w' 222) a1 a2 a3 0 := by
    rw [show zh_e w' 222 = zh_e w 222 from zh_e_g (hw.1 222 (by decide))]
    exact zs_udc (fun i i0 i1 => congrFun (zh_e_g (hw.1 231 (by decide))) i) (fun i i0 i1 => ⟨congrFun (zh_e_g (hw.1 248 (by decide))) i, (hw.2 i (by omega) (by omega))⟩) hp
  exact (zx_eF1 (by show 0 ≤ (0 : Int) + (1 * a0 + 0); omega) (by show zk_xe w' 2000076 ((0 : Int) + (1 * a0 + 0)) = (1 : Int) + (0); rw [show (0 : Int) + (1 * a0 + 0) = a0 by omega]; exact ((zs_76 (w := w') (j := a0) (n := a1) (c := a2) (t := a3) (by omega) (by omega) (by omega) (by omega) (by omega) (by omega) (by omega) ).mpr h).trans (by omega)) zx_eF0)
def zx_E576 : zx_V := zx_Vc 239 [] 5 [(2000078, 0)] [((0, 0), [(2, 1, 0), (3, 0, 1), (4, 0, 4294967296), (5, 0, 18446744073709551616), (6, 0, 79228162514264337593543950336)]), ((0, 1), [(7, 1, 0)])] [((0, 0), [(3, 1, 0)]), ((4294967294, 0), [(3, 0, 1)]), ((0, 0), [(4, 1, 0)]), ((4294967294, 0), [(4, 0, 1)]), ((0, 0), [(5, 1, 0)]), ((4294967294, 0), [(5, 0, 1)]), ((0, 0), [(6, 1, 0)]), ((4294967294, 0), [(6, 0, 1)]), ((0, 0), [(0, 1, 0), (4, 0, 1)])] [(2000078, ((0, 0), [(2, 1, 0)]), ((1, 0), []))]
theorem zx_E576_ok {PT : Nat → zz_W → Prop} : zx_Vok 64 zHT PT zx_E576 := by
  refine zx_Vc_ok (fun w w' j ins hI hI' h0 hw hK hl he hg => ?_)
  obtain ⟨a0, a1, a2, a3, a4, rfl⟩ := zx_i5 hl
  have e0 : (0 : Int) + (1 * a0 + ((-1) * a1 + ((-4294967296) * a2 + ((-18446744073709551616) * a3 + ((-79228162514264337593543950336) * a4 + 0))))) = 0 := he _ List.mem_cons_self
  have e1 : ((-1) : Int) + (1 * (zk_xe w 2000078 a0) + 0) = 0 := he _ (List.mem_cons_of_mem _ List.mem_cons_self)
  have g0 : 0 ≤ (0 : Int) + (1 * a1 + 0) := hg _ List.mem_cons_self
  have g1 : 0 ≤ (4294967294 : Int) + ((-1) * a1 + 0) := hg _ (List.mem_cons_of_mem _ List.mem_cons_self)
  have g2 : 0 ≤ (0 : Int) + (1 * a2 + 0) := hg _ (List.mem_cons_of_mem _ (List.mem_cons_of_mem _ List.mem_cons_self))
  have g3 : 0 ≤ (4294967294 : Int) + ((-1) * a2 + 0) := hg _ (List.mem_cons_of_mem _ (List.mem_cons_of_mem _ (List.mem_cons_of_mem _ List.mem_cons_self)))
  have g4 : 0 ≤ (0 : Int) + (1 * a3 + 0) := hg _ (List.mem_cons_of_mem _ (List.mem_cons_of_mem _ (List.mem_cons_of_mem _ (List.mem_cons_of_mem _ List.mem_cons_self))))
  have g5 : 0 ≤ (4294967294 : Int) + ((-1) * a3 + 0) := hg _ (List.mem_cons_of_mem _ (List.mem_cons_of_mem _ (List.mem_cons_of_mem _ (List.mem_cons_of_mem _ (List.mem_cons_of_mem _ List.mem_cons_self)))))
  have g6 : 0 ≤ (0 : Int) + (1 * a4 + 0) := hg _ (List.mem_cons_of_mem _ (List.mem_cons_of_mem _ (List.mem_cons_of_mem _ (List.mem_cons_of_mem _ (List.mem_cons_of_mem _ (List.mem_cons_of_mem _ List.mem_cons_self))))))
  have g7 : 0 ≤ (4294967294 : Int) + ((-1) * a4 + 0) := hg _ (List.mem_cons_of_mem _ (List.mem_cons_of_mem _ (List.mem_cons_of_mem _ (List.mem_cons_of_mem _ (List.mem_cons_of_mem _ (List.mem_cons_of_mem _ (List.mem_cons_of_mem _ List.mem_cons_self)))))))
  have g8 : 0 ≤ (0 : Int) + (1 * j + ((-1) * a2 + 0)) := hg _ (List.mem_cons_of_mem _ (List.mem_cons_of_mem _ (List.mem_cons_of_mem _ (List.mem_cons_of_mem _ (List.mem_cons_of_mem _ (List.mem_cons_of_mem _ (List.mem_cons_of_mem _ (List.mem_cons_of_mem _ List.mem_cons_self))))))))
  have hp := (zs_78 (w := w) (j := a0) (n := a1) (c := a2) (t := a3) (y := a4) (by omega) (by omega) (by omega) (by omega) (by omega) (by omega) (by omega) (by omega) (by omega) ).mp (by omega)
  have h : zs_ud (zh_e w' 231) (zh_e w' 248) (zh_e w' 239) (zh_e w' 222) a1 a2 a3 a4 := by
    rw [show zh_e w' 222 = zh_e w 222 from zh_e_g (hw.1 222 (by decide))]
    exact zs_udc (fun i i0 i1 => congrFun (zh_e_g (hw.1 231 (by decide))) i) (fun i i0 i1 => ⟨congrFun (zh_e_g (hw.1 248 (by decide))) i, (hw.2 i (by omega) (by omega))⟩) hp
  exact (zx_eF1 (by show 0 ≤ (0 : Int) + (1 * a0 + 0); omega) (by show zk_xe w' 2000078 ((0 : Int) + (1 * a0 + 0)) = (1 : Int) + (0); rw [show (0 : Int) + (1 * a0 + 0) = a0 by omega]; exact ((zs_78 (w := w') (j := a0) (n := a1) (c := a2) (t := a3) (y := a4) (by omega) (by omega) (by omega) (by omega) (by omega) (by omega) (by omega) (by omega) (by omega) ).mpr h).trans (by omega)) zx_eF0)
def zx_E577 : zx_V := zx_Vc 224 [] 3 [(2000074, 0)] [((0, 0), [(2, 1, 0), (3, 0, 1), (4, 0, 4294967296)]), ((0, 1), [(5, 1, 0)])] [((0, 0), [(3, 1, 0)]), ((4294967294, 0), [(3, 0, 1)]), ((0, 0), [(4, 1, 0)]), ((4294967294, 0), [(4, 0, 1)]), ((0, 0), [(1, 1, 0)])] [(2000074, ((0, 0), [(2, 1, 0)]), ((1, 0), []))]
theorem zx_E577_ok {PT : Nat → zz_W → Prop} : zx_Vok 64 zHT PT zx_E577 := by
  refine zx_Vc_ok (fun w w' j ins hI hI' h0 hw hK hl he hg => ?_)
  obtain ⟨a0, a1, a2, rfl⟩ := zx_i3 hl
  have e0 : (0 : Int) + (1 * a0 + ((-1) * a1 + ((-4294967296) * a2 + 0))) = 0 := he _ List.mem_cons_self
  have e1 : ((-1) : Int) + (1 * (zk_xe w 2000074 a0) + 0) = 0 := he _ (List.mem_cons_of_mem _ List.mem_cons_self)
  have g0 : 0 ≤ (0 : Int) + (1 * a1 + 0) := hg _ List.mem_cons_self
  have g1 : 0 ≤ (4294967294 : Int) + ((-1) * a1 + 0) := hg _ (List.mem_cons_of_mem _ List.mem_cons_self)
  have g2 : 0 ≤ (0 : Int) + (1 * a2 + 0) := hg _ (List.mem_cons_of_mem _ (List.mem_cons_of_mem _ List.mem_cons_self))
  have g3 : 0 ≤ (4294967294 : Int) + ((-1) * a2 + 0) := hg _ (List.mem_cons_of_mem _ (List.mem_cons_of_mem _ (List.mem_cons_of_mem _ List.mem_cons_self)))
  have g4 : 0 ≤ (0 : Int) + (1 * (zk_el w' 224 j) + 0) := hg _ (List.mem_cons_of_mem _ (List.mem_cons_of_mem _ (List.mem_cons_of_mem _ (List.mem_cons_of_mem _ List.mem_cons_self))))
  have hp := (zs_74 (w := w) (j := a0) (n := a1) (u := a2) (by omega) (by omega) (by omega) (by omega) (by omega) ).mp (by omega)
  have hx : ∀ i : Int, 0 ≤ i → 0 ≤ zh_e w 224 i → 0 ≤ zh_e w' 224 i := by
    intro i i0 hi
    by_cases c : i = j
    · rw [c]
      show 0 ≤ zk_el w' 224 j
      omega
    · rw [show zh_e w' 224 i = zh_e w 224 i from hw.2 i i0 c]
      exact hi
  have h : zs_x (zh_e w' 224) ∨ zs_S w' a1 a2 := by
    rcases hp with h | h
    · refine Or.inl ?_
      rcases h with h | h | h
      · exact Or.inl (hx 1 (by omega) h)
      · exact Or.inr (Or.inl (hx 3 (by omega) h))
      · exact Or.inr (Or.inr (hx 4 (by omega) h))
    · refine Or.inr (zs_Sc (fun i _ _ => ⟨congrFun (zh_e_g (hw.1 208 (by decide))) i, congrFun (zh_e_g (hw.1 209 (by decide))) i, congrFun (zh_e_g (hw.1 210 (by decide))) i, congrFun (zh_e_g (hw.1 211 (by decide))) i, congrFun (zh_e_g (hw.1 212 (by decide))) i⟩) (congrFun (zh_e_g (hw.1 207 (by decide))) a2) (Int.le_refl _) (fun i _ _ => ⟨congrFun (zh_e_g (hw.1 229 (by decide))) i, congrFun (zh_e_g (hw.1 230 (by decide))) i⟩) h)
  exact (zx_eF1 (by show 0 ≤ (0 : Int) + (1 * a0 + 0); omega) (by show zk_xe w' 2000074 ((0 : Int) + (1 * a0 + 0)) = (1 : Int) + (0); rw [show (0 : Int) + (1 * a0 + 0) = a0 by omega]; exact ((zs_74 (w := w') (j := a0) (n := a1) (u := a2) (by omega) (by omega) (by omega) (by omega) (by omega) ).mpr h).trans (by omega)) zx_eF0)
def zx_E573 : zx_V := zx_Vc 222 [] 3 [(2000077, 0)] [((0, 0), [(2, 1, 0), (3, 0, 1), (4, 0, 4294967296)]), ((0, 1), [(5, 1, 0)])] [((0, 0), [(3, 1, 0)]), ((4294967294, 0), [(3, 0, 1)]), ((0, 0), [(4, 1, 0)]), ((4294967294, 0), [(4, 0, 1)]), ((0, 0), [(0, 1, 0), (3, 0, 1)])] [(2000077, ((0, 0), [(2, 1, 0)]), ((1, 0), []))]
theorem zx_E573_ok {PT : Nat → zz_W → Prop} : zx_Vok 64 zHT PT zx_E573 := by
  refine zx_Vc_ok (fun w w' j ins hI hI' h0 hw hK hl he hg => ?_)
  obtain ⟨a0, a1, a2, rfl⟩ := zx_i3 hl
  have e0 : (0 : Int) + (1 * a0 + ((-1) * a1 + ((-4294967296) * a2 + 0))) = 0 := he _ List.mem_cons_self
  have e1 : ((-1) : Int) + (1 * (zk_xe w 2000077 a0) + 0) = 0 := he _ (List.mem_cons_of_mem _ List.mem_cons_self)
  have g0 : 0 ≤ (0 : Int) + (1 * a1 + 0) := hg _ List.mem_cons_self
  have g1 : 0 ≤ (4294967294 : Int) + ((-1) * a1 + 0) := hg _ (List.mem_cons_of_mem _ List.mem_cons_self)
  have g2 : 0 ≤ (0 : Int) + (1 * a2 + 0) := hg _ (List.mem_cons_of_mem _ (List.mem_cons_of_mem _ List.mem_cons_self))
  have g3 : 0 ≤ (4294967294 : Int) + ((-1) * a2 + 0) := hg _ (List.mem_cons_of_mem _ (List.mem_cons_of_mem _ (List.mem_cons_of_mem _ List.mem_cons_self)))
  have g4 : 0 ≤ (0 : Int) + (1 * j + ((-1) * a1 + 0)) := hg _ (List.mem_cons_of_mem _ (List.mem_cons_of_mem _ (List.mem_cons_of_mem _ (List.mem_cons_of_mem _ List.mem_cons_self))))
  have hp := (zs_77 (w := w) (j := a0) (n := a1) (b := a2) (by omega) (by omega) (by omega) (by omega) (by omega) ).mp (by omega)
  have h : zs_tk (zh_e w' 222) a1 a2 := by
    refine ⟨fun i z i0 ij jn => ?_, fun i i0 i1 => ?_⟩
    · rw [show zh_e w' 222 i = zh_e w 222 i from hw.2 i (by omega) (by omega), show zh_e w' 222 z = zh_e w 222 z from hw.2 z (by omega) (by omega)]
      exact hp.1 i z i0 ij jn
    · rw [show zh_e w' 222 i = zh_e w 222 i from hw.2 i (by omega) (by omega)]
      exact hp.2 i i0 i1
  exact (zx_eF1 (by show 0 ≤ (0 : Int) + (1 * a0 + 0); omega) (by show zk_xe w' 2000077 ((0 : Int) + (1 * a0 + 0)) = (1 : Int) + (0); rw [show (0 : Int) + (1 * a0 + 0) = a0 by omega]; exact ((zs_77 (w := w') (j := a0) (n := a1) (b := a2) (by omega) (by omega) (by omega) (by omega) (by omega) ).mpr h).trans (by omega)) zx_eF0)
end
