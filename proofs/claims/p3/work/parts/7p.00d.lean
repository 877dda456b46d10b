/-! LAWS BY HAND, begins and want lines -/
noncomputable section
/-- begins of procedures (function 140) -/
theorem zc_140 {w : zz_W} {j u F x : Int} (e : j = u + 4294967296 * F + 18446744073709551616 * x) (u0 : 0 ≤ u) (u1 : u < 4294967296) (F0 : 0 ≤ F) (F1 : F < 4294967296) (x0 : 0 ≤ x) (x1 : x < 4294967296) : zk_xe w 2000140 j = 1 ↔ zc_bd (zh_e w 208) (zh_e w 209) (zh_e w 234) (zh_e w 236) (zh_e w 207 u) u F x := by
  obtain ⟨d0, d1, d2⟩ := zg_d3 (j := j) (n := u) (k := F) (u := x) (by omega) u0 u1 F0 F1 x0 x1
  rw [show (2000140 : Nat) = 2000000 + 140 from rfl, zk_xe_h]
  have h : zv_H 140 w j = zh_b (zc_bd (zh_e w 208) (zh_e w 209) (zh_e w 234) (zh_e w 236) (zh_e w 207 u) u F x) := by
    show zh_b (zc_bd (zh_e w 208) (zh_e w 209) (zh_e w 234) (zh_e w 236) (zh_e w 207 (zv_dg 0 j)) (zv_dg 0 j) (zv_dg 1 j) (zv_dg 2 j)) = _
    rw [d0, d1, d2]
  rw [h]
  exact ⟨zh_b1', zh_b1⟩
theorem zc_bdc {sw sa fk fs sw' sa' fk' fs' : Int → Int} {sn u F x : Int} (hs : ∀ i, 0 ≤ i → i < sn → sw' (8000 * u + i) = sw (8000 * u + i) ∧ sa' (8000 * u + i) = sa (8000 * u + i)) (hf : ∀ n, 0 ≤ n → n < F → fk' n = fk n ∧ fs' n = fs n) (x0 : 0 ≤ x) (h : zc_bd sw sa fk fs sn u F x) : zc_bd sw' sa' fk' fs' sn u F x := by
  obtain ⟨h1, h2, h3⟩ := h
  refine ⟨fun i i0 i1 i2 => ?_, fun n n0 n1 n2 => ?_, fun hx => ?_⟩
  · obtain ⟨e1, e2⟩ := hs i i0 i1
    rw [e1] at i2
    rw [e2]
    exact h1 i i0 i1 i2
  · obtain ⟨e1, e2⟩ := hf n n0 (by omega)
    rw [e1] at n2
    obtain ⟨q1, q2, q3⟩ := h2 n n0 n1 n2
    rw [e2]
    exact ⟨q1, q2, (hs (fs n) q1 q2).1.trans q3⟩
  · obtain ⟨q1, q2⟩ := h3 hx
    exact ⟨q1, (hf (F - 1) (by omega) (by omega)).2.trans q2⟩
def zx_E640 : zx_V := zx_Vc 208 [] 4 [(2000140, 0), (207, 1)] [((0, 0), [(2, 1, 0), (3, 0, 1), (4, 0, 4294967296), (5, 0, 18446744073709551616)]), ((0, 1), [(6, 1, 0)])] [((0, 0), [(3, 1, 0)]), ((4294967293, 0), [(3, 0, 1)]), ((0, 0), [(4, 1, 0)]), ((4294967293, 0), [(4, 0, 1)]), ((0, 0), [(5, 1, 0)]), ((4294967293, 0), [(5, 0, 1)]), ((0, 0), [(0, 1, 0), (3, 0, 8000), (7, 0, 1)]), ((0, 0), [(7, 1, 0)])] [(2000140, ((0, 0), [(2, 1, 0)]), ((1, 0), []))]
theorem zx_E640_ok {PT : Nat → zz_W → Prop} : zx_Vok 64 zHT PT zx_E640 := by
  refine zx_Vc_ok (fun w w' j ins hI hI' h0 hw hK hl he hg => ?_)
  obtain ⟨a0, a1, a2, a3, rfl⟩ := zx_i4 hl
  have e0 : (0 : Int) + (1 * a0 + ((-1) * a1 + ((-4294967296) * a2 + ((-18446744073709551616) * a3 + 0)))) = 0 := he _ List.mem_cons_self
  have e1 : ((-1) : Int) + (1 * (zk_xe w 2000140 a0) + 0) = 0 := he _ (List.mem_cons_of_mem _ List.mem_cons_self)
  have g0 : 0 ≤ (0 : Int) + (1 * a1 + 0) := hg _ List.mem_cons_self
  have g1 : 0 ≤ (4294967293 : Int) + ((-1) * a1 + 0) := hg _ (List.mem_cons_of_mem _ List.mem_cons_self)
  have g2 : 0 ≤ (0 : Int) + (1 * a2 + 0) := hg _ (List.mem_cons_of_mem _ (List.mem_cons_of_mem _ List.mem_cons_self))
  have g3 : 0 ≤ (4294967293 : Int) + ((-1) * a2 + 0) := hg _ (List.mem_cons_of_mem _ (List.mem_cons_of_mem _ (List.mem_cons_of_mem _ List.mem_cons_self)))
  have g4 : 0 ≤ (0 : Int) + (1 * a3 + 0) := hg _ (List.mem_cons_of_mem _ (List.mem_cons_of_mem _ (List.mem_cons_of_mem _ (List.mem_cons_of_mem _ List.mem_cons_self))))
  have g5 : 0 ≤ (4294967293 : Int) + ((-1) * a3 + 0) := hg _ (List.mem_cons_of_mem _ (List.mem_cons_of_mem _ (List.mem_cons_of_mem _ (List.mem_cons_of_mem _ (List.mem_cons_of_mem _ List.mem_cons_self)))))
  have g6 : 0 ≤ (0 : Int) + (1 * j + ((-8000) * a1 + ((-1) * (zk_xe w 207 a1) + 0))) := hg _ (List.mem_cons_of_mem _ (List.mem_cons_of_mem _ (List.mem_cons_of_mem _ (List.mem_cons_of_mem _ (List.mem_cons_of_mem _ (List.mem_cons_of_mem _ List.mem_cons_self))))))
  have g7 : 0 ≤ (0 : Int) + (1 * (zk_xe w 207 a1) + 0) := hg _ (List.mem_cons_of_mem _ (List.mem_cons_of_mem _ (List.mem_cons_of_mem _ (List.mem_cons_of_mem _ (List.mem_cons_of_mem _ (List.mem_cons_of_mem _ (List.mem_cons_of_mem _ List.mem_cons_self)))))))
  have hp := (zc_140 (w := w) (j := a0) (u := a1) (F := a2) (x := a3) (by omega) (by omega) (by omega) (by omega) (by omega) (by omega) (by omega) ).mp (by omega)
  have k0 : zh_e w 207 (a1) = zk_xe w 207 a1 := by rw [zk_xe_r (i := 207) (by decide)]; show zk_el w 207 (a1) = zk_el w 207 a1; rw [show a1 = a1 by omega]
  have o209 : zh_e w' 209 = zh_e w 209 := zh_e_g (hw.1 209 (by decide))
  have o234 : zh_e w' 234 = zh_e w 234 := zh_e_g (hw.1 234 (by decide))
  have o236 : zh_e w' 236 = zh_e w 236 := zh_e_g (hw.1 236 (by decide))
  have o207 : zh_e w' 207 = zh_e w 207 := zh_e_g (hw.1 207 (by decide))
  have h : zc_bd (zh_e w' 208) (zh_e w' 209) (zh_e w' 234) (zh_e w' 236) (zh_e w' 207 a1) a1 a2 a3 := by
    rw [o209, o234, o236, o207]
    refine zc_bdc (fun i i0 i1 => ?_) (fun n _ _ => ⟨rfl, rfl⟩) (by omega) hp
    rw [k0] at i1
    have q : zh_e w' 208 (8000 * a1 + i) = zh_e w 208 (8000 * a1 + i) := hw.2 (8000 * a1 + i) (by omega) (by omega)
    exact ⟨q, rfl⟩
  exact (zx_eF1 (by show 0 ≤ (0 : Int) + (1 * a0 + 0); omega) (by show zk_xe w' 2000140 ((0 : Int) + (1 * a0 + 0)) = (1 : Int) + (0); rw [show (0 : Int) + (1 * a0 + 0) = a0 by omega]; exact ((zc_140 (w := w') (j := a0) (u := a1) (F := a2) (x := a3) (by omega) (by omega) (by omega) (by omega) (by omega) (by omega) (by omega) ).mpr h).trans (by omega)) zx_eF0)
def zx_E641 : zx_V := zx_Vc 209 [] 4 [(2000140, 0), (207, 1)] [((0, 0), [(2, 1, 0), (3, 0, 1), (4, 0, 4294967296), (5, 0, 18446744073709551616)]), ((0, 1), [(6, 1, 0)])] [((0, 0), [(3, 1, 0)]), ((4294967293, 0), [(3, 0, 1)]), ((0, 0), [(4, 1, 0)]), ((4294967293, 0), [(4, 0, 1)]), ((0, 0), [(5, 1, 0)]), ((4294967293, 0), [(5, 0, 1)]), ((0, 0), [(0, 1, 0), (3, 0, 8000), (7, 0, 1)]), ((0, 0), [(7, 1, 0)])] [(2000140, ((0, 0), [(2, 1, 0)]), ((1, 0), []))]
theorem zx_E641_ok {PT : Nat → zz_W → Prop} : zx_Vok 64 zHT PT zx_E641 := by
  refine zx_Vc_ok (fun w w' j ins hI hI' h0 hw hK hl he hg => ?_)
  obtain ⟨a0, a1, a2, a3, rfl⟩ := zx_i4 hl
  have e0 : (0 : Int) + (1 * a0 + ((-1) * a1 + ((-4294967296) * a2 + ((-18446744073709551616) * a3 + 0)))) = 0 := he _ List.mem_cons_self
  have e1 : ((-1) : Int) + (1 * (zk_xe w 2000140 a0) + 0) = 0 := he _ (List.mem_cons_of_mem _ List.mem_cons_self)
  have g0 : 0 ≤ (0 : Int) + (1 * a1 + 0) := hg _ List.mem_cons_self
  have g1 : 0 ≤ (4294967293 : Int) + ((-1) * a1 + 0) := hg _ (List.mem_cons_of_mem _ List.mem_cons_self)
  have g2 : 0 ≤ (0 : Int) + (1 * a2 + 0) := hg _ (List.mem_cons_of_mem _ (List.mem_cons_of_mem _ List.mem_cons_self))
  have g3 : 0 ≤ (4294967293 : Int) + ((-1) * a2 + 0) := hg _ (List.mem_cons_of_mem _ (List.mem_cons_of_mem _ (List.mem_cons_of_mem _ List.mem_cons_self)))
  have g4 : 0 ≤ (0 : Int) + (1 * a3 + 0) := hg _ (List.mem_cons_of_mem _ (List.mem_cons_of_mem _ (List.mem_cons_of_mem _ (List.mem_cons_of_mem _ List.mem_cons_self))))
  have g5 : 0 ≤ (4294967293 : Int) + ((-1) * a3 + 0) := hg _ (List.mem_cons_of_mem _ (List.mem_cons_of_mem _ (List.mem_cons_of_mem _ (List.mem_cons_of_mem _ (List.mem_cons_of_mem _ List.mem_cons_self)))))
  have g6 : 0 ≤ (0 : Int) + (1 * j + ((-8000) * a1 + ((-1) * (zk_xe w 207 a1) + 0))) := hg _ (List.mem_cons_of_mem _ (List.mem_cons_of_mem _ (List.mem_cons_of_mem _ (List.mem_cons_of_mem _ (List.mem_cons_of_mem _ (List.mem_cons_of_mem _ List.mem_cons_self))))))
  have g7 : 0 ≤ (0 : Int) + (1 * (zk_xe w 207 a1) + 0) := hg _ (List.mem_cons_of_mem _ (List.mem_cons_of_mem _ (List.mem_cons_of_mem _ (List.mem_cons_of_mem _ (List.mem_cons_of_mem _ (List.mem_cons_of_mem _ (List.mem_cons_of_mem _ List.mem_cons_self)))))))
  have hp := (zc_140 (w := w) (j := a0) (u := a1) (F := a2) (x := a3) (by omega) (by omega) (by omega) (by omega) (by omega) (by omega) (by omega) ).mp (by omega)
  have k0 : zh_e w 207 (a1) = zk_xe w 207 a1 := by rw [zk_xe_r (i := 207) (by decide)]; show zk_el w 207 (a1) = zk_el w 207 a1; rw [show a1 = a1 by omega]
  have o208 : zh_e w' 208 = zh_e w 208 := zh_e_g (hw.1 208 (by decide))
  have o234 : zh_e w' 234 = zh_e w 234 := zh_e_g (hw.1 234 (by decide))
  have o236 : zh_e w' 236 = zh_e w 236 := zh_e_g (hw.1 236 (by decide))
  have o207 : zh_e w' 207 = zh_e w 207 := zh_e_g (hw.1 207 (by decide))
  have h : zc_bd (zh_e w' 208) (zh_e w' 209) (zh_e w' 234) (zh_e w' 236) (zh_e w' 207 a1) a1 a2 a3 := by
    rw [o208, o234, o236, o207]
    refine zc_bdc (fun i i0 i1 => ?_) (fun n _ _ => ⟨rfl, rfl⟩) (by omega) hp
    rw [k0] at i1
    have q : zh_e w' 209 (8000 * a1 + i) = zh_e w 209 (8000 * a1 + i) := hw.2 (8000 * a1 + i) (by omega) (by omega)
    exact ⟨rfl, q⟩
  exact (zx_eF1 (by show 0 ≤ (0 : Int) + (1 * a0 + 0); omega) (by show zk_xe w' 2000140 ((0 : Int) + (1 * a0 + 0)) = (1 : Int) + (0); rw [show (0 : Int) + (1 * a0 + 0) = a0 by omega]; exact ((zc_140 (w := w') (j := a0) (u := a1) (F := a2) (x := a3) (by omega) (by omega) (by omega) (by omega) (by omega) (by omega) (by omega) ).mpr h).trans (by omega)) zx_eF0)
def zx_E642 : zx_V := zx_Vc 207 [] 4 [(2000140, 0), (207, 1), (208, 3)] [((0, 0), [(0, 1, 0), (3, 0, 1)]), ((0, 1), [(1, 1, 0), (7, 0, 1)]), ((0, 0), [(2, 1, 0), (3, 0, 1), (4, 0, 4294967296)]), ((0, 1), [(6, 1, 0)]), ((0, 0), [(3, 0, 8000), (5, 1, 0), (7, 0, 1)])] [((0, 0), [(3, 1, 0)]), ((4294967293, 0), [(3, 0, 1)]), ((0, 0), [(4, 1, 0)]), ((4294967293, 0), [(4, 0, 1)]), ((0, 0), [(7, 1, 0)]), ((0, 1), [(8, 1, 0)])] [(2000140, ((0, 0), [(2, 1, 0)]), ((1, 0), []))]
theorem zx_E642_ok {PT : Nat → zz_W → Prop} : zx_Vok 64 zHT PT zx_E642 := by
  refine zx_Vc_ok (fun w w' j ins hI hI' h0 hw hK hl he hg => ?_)
  obtain ⟨a0, a1, a2, a3, rfl⟩ := zx_i4 hl
  have e0 : (0 : Int) + (1 * j + ((-1) * a1 + 0)) = 0 := he _ List.mem_cons_self
  have e1 : ((-1) : Int) + (1 * (zk_el w' 207 j) + ((-1) * (zk_xe w 207 a1) + 0)) = 0 := he _ (List.mem_cons_of_mem _ List.mem_cons_self)
  have e2 : (0 : Int) + (1 * a0 + ((-1) * a1 + ((-4294967296) * a2 + 0))) = 0 := he _ (List.mem_cons_of_mem _ (List.mem_cons_of_mem _ List.mem_cons_self))
  have e3 : ((-1) : Int) + (1 * (zk_xe w 2000140 a0) + 0) = 0 := he _ (List.mem_cons_of_mem _ (List.mem_cons_of_mem _ (List.mem_cons_of_mem _ List.mem_cons_self)))
  have e4 : (0 : Int) + ((-8000) * a1 + (1 * a3 + ((-1) * (zk_xe w 207 a1) + 0))) = 0 := he _ (List.mem_cons_of_mem _ (List.mem_cons_of_mem _ (List.mem_cons_of_mem _ (List.mem_cons_of_mem _ List.mem_cons_self))))
  have g0 : 0 ≤ (0 : Int) + (1 * a1 + 0) := hg _ List.mem_cons_self
  have g1 : 0 ≤ (4294967293 : Int) + ((-1) * a1 + 0) := hg _ (List.mem_cons_of_mem _ List.mem_cons_self)
  have g2 : 0 ≤ (0 : Int) + (1 * a2 + 0) := hg _ (List.mem_cons_of_mem _ (List.mem_cons_of_mem _ List.mem_cons_self))
  have g3 : 0 ≤ (4294967293 : Int) + ((-1) * a2 + 0) := hg _ (List.mem_cons_of_mem _ (List.mem_cons_of_mem _ (List.mem_cons_of_mem _ List.mem_cons_self)))
  have g4 : 0 ≤ (0 : Int) + (1 * (zk_xe w 207 a1) + 0) := hg _ (List.mem_cons_of_mem _ (List.mem_cons_of_mem _ (List.mem_cons_of_mem _ (List.mem_cons_of_mem _ List.mem_cons_self))))
  have g5 : 0 ≤ ((-1) : Int) + (1 * (zk_xe w 208 a3) + 0) := hg _ (List.mem_cons_of_mem _ (List.mem_cons_of_mem _ (List.mem_cons_of_mem _ (List.mem_cons_of_mem _ (List.mem_cons_of_mem _ List.mem_cons_self)))))
  have hp := (zc_140 (w := w) (j := a0) (u := a1) (F := a2) (x := 0) (by omega) (by omega) (by omega) (by omega) (by omega) (by omega) (by omega) ).mp (by omega)
  have k0 : zh_e w 207 (a1) = zk_xe w 207 a1 := by rw [zk_xe_r (i := 207) (by decide)]; show zk_el w 207 (a1) = zk_el w 207 a1; rw [show a1 = a1 by omega]
  have k1 : zh_e w 208 (8000 * a1 + zk_xe w 207 a1) = zk_xe w 208 a3 := by rw [zk_xe_r (i := 208) (by decide)]; show zk_el w 208 (8000 * a1 + zk_xe w 207 a1) = zk_el w 208 a3; rw [show 8000 * a1 + zk_xe w 207 a1 = a3 by omega]
  have o208 : zh_e w' 208 = zh_e w 208 := zh_e_g (hw.1 208 (by decide))
  have o209 : zh_e w' 209 = zh_e w 209 := zh_e_g (hw.1 209 (by decide))
  have o234 : zh_e w' 234 = zh_e w 234 := zh_e_g (hw.1 234 (by decide))
  have o236 : zh_e w' 236 = zh_e w 236 := zh_e_g (hw.1 236 (by decide))
  have kS : zh_e w' 207 a1 = zk_xe w 207 a1 + 1 := by
    show zk_el w' 207 a1 = _
    have q : zk_el w' 207 a1 = zk_el w' 207 j := by rw [show a1 = j by omega]
    omega
  have h : zc_bd (zh_e w' 208) (zh_e w' 209) (zh_e w' 234) (zh_e w' 236) (zh_e w' 207 a1) a1 a2 0 := by
    rw [kS, o208, o209, o234, o236]
    rw [k0] at hp
    obtain ⟨h1, h2, h3⟩ := hp
    refine ⟨fun i i0 i1 i2 => ?_, fun n n0 n1 n2 => ?_, fun hx => absurd hx (by decide)⟩
    · by_cases c : i = zk_xe w 207 a1
      · rw [c, k1] at i2
        omega
      · exact h1 i i0 (by omega) i2
    · obtain ⟨q1, q2, q3⟩ := h2 n n0 n1 n2
      exact ⟨q1, by omega, q3⟩
  exact (zx_eF1 (by show 0 ≤ (0 : Int) + (1 * a0 + 0); omega) (by show zk_xe w' 2000140 ((0 : Int) + (1 * a0 + 0)) = (1 : Int) + (0); rw [show (0 : Int) + (1 * a0 + 0) = a0 by omega]; exact ((zc_140 (w := w') (j := a0) (u := a1) (F := a2) (x := 0) (by omega) (by omega) (by omega) (by omega) (by omega) (by omega) (by omega) ).mpr h).trans (by omega)) zx_eF0)
def zx_E643 : zx_V := zx_Vc 207 [] 5 [(2000140, 0), (207, 1), (208, 3), (209, 3)] [((0, 0), [(0, 1, 0), (3, 0, 1)]), ((0, 1), [(1, 1, 0), (8, 0, 1)]), ((0, 18446744073709551616), [(2, 1, 0), (3, 0, 1), (4, 0, 4294967296)]), ((0, 1), [(7, 1, 0)]), ((0, 0), [(3, 0, 8000), (5, 1, 0), (8, 0, 1)]), ((0, 0), [(9, 1, 0)]), ((1, 0), [(4, 0, 1), (10, 1, 0)]), ((0, 0), [(3, 0, 1), (4, 0, 4294967296), (6, 1, 0)])] [((0, 0), [(3, 1, 0)]), ((4294967293, 0), [(3, 0, 1)]), ((0, 0), [(4, 1, 0)]), ((4294967293, 0), [(4, 0, 1)]), ((0, 0), [(8, 1, 0)])] [(2000140, ((0, 0), [(6, 1, 0)]), ((1, 0), []))]
theorem zx_E643_ok {PT : Nat → zz_W → Prop} : zx_Vok 64 zHT PT zx_E643 := by
  refine zx_Vc_ok (fun w w' j ins hI hI' h0 hw hK hl he hg => ?_)
  obtain ⟨a0, a1, a2, a3, a4, rfl⟩ := zx_i5 hl
  have e0 : (0 : Int) + (1 * j + ((-1) * a1 + 0)) = 0 := he _ List.mem_cons_self
  have e1 : ((-1) : Int) + (1 * (zk_el w' 207 j) + ((-1) * (zk_xe w 207 a1) + 0)) = 0 := he _ (List.mem_cons_of_mem _ List.mem_cons_self)
  have e2 : ((-18446744073709551616) : Int) + (1 * a0 + ((-1) * a1 + ((-4294967296) * a2 + 0))) = 0 := he _ (List.mem_cons_of_mem _ (List.mem_cons_of_mem _ List.mem_cons_self))
  have e3 : ((-1) : Int) + (1 * (zk_xe w 2000140 a0) + 0) = 0 := he _ (List.mem_cons_of_mem _ (List.mem_cons_of_mem _ (List.mem_cons_of_mem _ List.mem_cons_self)))
  have e4 : (0 : Int) + ((-8000) * a1 + (1 * a3 + ((-1) * (zk_xe w 207 a1) + 0))) = 0 := he _ (List.mem_cons_of_mem _ (List.mem_cons_of_mem _ (List.mem_cons_of_mem _ (List.mem_cons_of_mem _ List.mem_cons_self))))
  have e5 : (0 : Int) + (1 * (zk_xe w 208 a3) + 0) = 0 := he _ (List.mem_cons_of_mem _ (List.mem_cons_of_mem _ (List.mem_cons_of_mem _ (List.mem_cons_of_mem _ (List.mem_cons_of_mem _ List.mem_cons_self)))))
  have e6 : (1 : Int) + ((-1) * a2 + (1 * (zk_xe w 209 a3) + 0)) = 0 := he _ (List.mem_cons_of_mem _ (List.mem_cons_of_mem _ (List.mem_cons_of_mem _ (List.mem_cons_of_mem _ (List.mem_cons_of_mem _ (List.mem_cons_of_mem _ List.mem_cons_self))))))
  have e7 : (0 : Int) + ((-1) * a1 + ((-4294967296) * a2 + (1 * a4 + 0))) = 0 := he _ (List.mem_cons_of_mem _ (List.mem_cons_of_mem _ (List.mem_cons_of_mem _ (List.mem_cons_of_mem _ (List.mem_cons_of_mem _ (List.mem_cons_of_mem _ (List.mem_cons_of_mem _ List.mem_cons_self)))))))
  have g0 : 0 ≤ (0 : Int) + (1 * a1 + 0) := hg _ List.mem_cons_self
  have g1 : 0 ≤ (4294967293 : Int) + ((-1) * a1 + 0) := hg _ (List.mem_cons_of_mem _ List.mem_cons_self)
  have g2 : 0 ≤ (0 : Int) + (1 * a2 + 0) := hg _ (List.mem_cons_of_mem _ (List.mem_cons_of_mem _ List.mem_cons_self))
  have g3 : 0 ≤ (4294967293 : Int) + ((-1) * a2 + 0) := hg _ (List.mem_cons_of_mem _ (List.mem_cons_of_mem _ (List.mem_cons_of_mem _ List.mem_cons_self)))
  have g4 : 0 ≤ (0 : Int) + (1 * (zk_xe w 207 a1) + 0) := hg _ (List.mem_cons_of_mem _ (List.mem_cons_of_mem _ (List.mem_cons_of_mem _ (List.mem_cons_of_mem _ List.mem_cons_self))))
  have hp := (zc_140 (w := w) (j := a0) (u := a1) (F := a2) (x := 1) (by omega) (by omega) (by omega) (by omega) (by omega) (by omega) (by omega) ).mp (by omega)
  have k0 : zh_e w 207 (a1) = zk_xe w 207 a1 := by rw [zk_xe_r (i := 207) (by decide)]; show zk_el w 207 (a1) = zk_el w 207 a1; rw [show a1 = a1 by omega]
  have k1 : zh_e w 208 (8000 * a1 + zk_xe w 207 a1) = zk_xe w 208 a3 := by rw [zk_xe_r (i := 208) (by decide)]; show zk_el w 208 (8000 * a1 + zk_xe w 207 a1) = zk_el w 208 a3; rw [show 8000 * a1 + zk_xe w 207 a1 = a3 by omega]
  have k2 : zh_e w 209 (8000 * a1 + zk_xe w 207 a1) = zk_xe w 209 a3 := by rw [zk_xe_r (i := 209) (by decide)]; show zk_el w 209 (8000 * a1 + zk_xe w 207 a1) = zk_el w 209 a3; rw [show 8000 * a1 + zk_xe w 207 a1 = a3 by omega]
  have o208 : zh_e w' 208 = zh_e w 208 := zh_e_g (hw.1 208 (by decide))
  have o209 : zh_e w' 209 = zh_e w 209 := zh_e_g (hw.1 209 (by decide))
  have o234 : zh_e w' 234 = zh_e w 234 := zh_e_g (hw.1 234 (by decide))
  have o236 : zh_e w' 236 = zh_e w 236 := zh_e_g (hw.1 236 (by decide))
  have kS : zh_e w' 207 a1 = zk_xe w 207 a1 + 1 := by
    show zk_el w' 207 a1 = _
    have q : zk_el w' 207 a1 = zk_el w' 207 j := by rw [show a1 = j by omega]
    omega
  have h : zc_bd (zh_e w' 208) (zh_e w' 209) (zh_e w' 234) (zh_e w' 236) (zh_e w' 207 a1) a1 a2 0 := by
    rw [kS, o208, o209, o234, o236]
    rw [k0] at hp
    obtain ⟨h1, h2, h3⟩ := hp
    obtain ⟨h3, h4⟩ := h3 rfl
    refine ⟨fun i i0 i1 i2 => ?_, fun n n0 n1 n2 => ?_, fun hx => absurd hx (by decide)⟩
    · by_cases c : i = zk_xe w 207 a1
      · rw [c, k2]
        omega
      · exact h1 i i0 (by omega) i2
    · by_cases c : n = a2 - 1
      · rw [c, h4]
        exact ⟨by omega, by omega, by rw [k1]; omega⟩
      · obtain ⟨q1, q2, q3⟩ := h2 n n0 (by omega) n2
        exact ⟨q1, by omega, q3⟩
  exact (zx_eF1 (by show 0 ≤ (0 : Int) + (1 * a4 + 0); omega) (by show zk_xe w' 2000140 ((0 : Int) + (1 * a4 + 0)) = (1 : Int) + (0); rw [show (0 : Int) + (1 * a4 + 0) = a4 by omega]; exact ((zc_140 (w := w') (j := a4) (u := a1) (F := a2) (x := 0) (by omega) (by omega) (by omega) (by omega) (by omega) (by omega) (by omega) ).mpr h).trans (by omega)) zx_eF0)
def zx_E644 : zx_V := zx_Vc 207 [] 1 [] [((0, 0), [(0, 1, 0), (2, 0, 1)]), ((0, 0), [(1, 1, 0)])] [((0, 0), [(2, 1, 0)]), ((4294967293, 0), [(2, 0, 1)])] [(2000140, ((0, 0), [(2, 1, 0)]), ((1, 0), []))]
theorem zx_E644_ok {PT : Nat → zz_W → Prop} : zx_Vok 64 zHT PT zx_E644 := by
  refine zx_Vc_ok (fun w w' j ins hI hI' h0 hw hK hl he hg => ?_)
  obtain ⟨a0, rfl⟩ := zx_i1 hl
  have e0 : (0 : Int) + (1 * j + ((-1) * a0 + 0)) = 0 := he _ List.mem_cons_self
  have e1 : (0 : Int) + (1 * (zk_el w' 207 j) + 0) = 0 := he _ (List.mem_cons_of_mem _ List.mem_cons_self)
  have g0 : 0 ≤ (0 : Int) + (1 * a0 + 0) := hg _ List.mem_cons_self
  have g1 : 0 ≤ (4294967293 : Int) + ((-1) * a0 + 0) := hg _ (List.mem_cons_of_mem _ List.mem_cons_self)
  have kS : zh_e w' 207 a0 = 0 := by
    show zk_el w' 207 a0 = _
    have q : zk_el w' 207 a0 = zk_el w' 207 j := by rw [show a0 = j by omega]
    omega
  have h : zc_bd (zh_e w' 208) (zh_e w' 209) (zh_e w' 234) (zh_e w' 236) (zh_e w' 207 a0) a0 0 0 := by
    rw [kS]
    exact ⟨fun i i0 i1 => by omega, fun n n0 n1 => by omega, fun hx => absurd hx (by decide)⟩
  exact (zx_eF1 (by show 0 ≤ (0 : Int) + (1 * a0 + 0); omega) (by show zk_xe w' 2000140 ((0 : Int) + (1 * a0 + 0)) = (1 : Int) + (0); rw [show (0 : Int) + (1 * a0 + 0) = a0 by omega]; exact ((zc_140 (w := w') (j := a0) (u := a0) (F := 0) (x := 0) (by omega) (by omega) (by omega) (by omega) (by omega) (by omega) (by omega) ).mpr h).trans (by omega)) zx_eF0)
def zx_E645 : zx_V := zx_Vc 234 [] 3 [(2000140, 0)] [((0, 0), [(2, 1, 0), (3, 0, 1), (4, 0, 4294967296)]), ((0, 1), [(5, 1, 0)])] [((0, 0), [(3, 1, 0)]), ((4294967293, 0), [(3, 0, 1)]), ((0, 0), [(4, 1, 0)]), ((4294967293, 0), [(4, 0, 1)]), ((0, 0), [(0, 1, 0), (4, 0, 1)])] [(2000140, ((0, 0), [(2, 1, 0)]), ((1, 0), []))]
theorem zx_E645_ok {PT : Nat → zz_W → Prop} : zx_Vok 64 zHT PT zx_E645 := by
  refine zx_Vc_ok (fun w w' j ins hI hI' h0 hw hK hl he hg => ?_)
  obtain ⟨a0, a1, a2, rfl⟩ := zx_i3 hl
  have e0 : (0 : Int) + (1 * a0 + ((-1) * a1 + ((-4294967296) * a2 + 0))) = 0 := he _ List.mem_cons_self
  have e1 : ((-1) : Int) + (1 * (zk_xe w 2000140 a0) + 0) = 0 := he _ (List.mem_cons_of_mem _ List.mem_cons_self)
  have g0 : 0 ≤ (0 : Int) + (1 * a1 + 0) := hg _ List.mem_cons_self
  have g1 : 0 ≤ (4294967293 : Int) + ((-1) * a1 + 0) := hg _ (List.mem_cons_of_mem _ List.mem_cons_self)
  have g2 : 0 ≤ (0 : Int) + (1 * a2 + 0) := hg _ (List.mem_cons_of_mem _ (List.mem_cons_of_mem _ List.mem_cons_self))
  have g3 : 0 ≤ (4294967293 : Int) + ((-1) * a2 + 0) := hg _ (List.mem_cons_of_mem _ (List.mem_cons_of_mem _ (List.mem_cons_of_mem _ List.mem_cons_self)))
  have g4 : 0 ≤ (0 : Int) + (1 * j + ((-1) * a2 + 0)) := hg _ (List.mem_cons_of_mem _ (List.mem_cons_of_mem _ (List.mem_cons_of_mem _ (List.mem_cons_of_mem _ List.mem_cons_self))))
  have hp := (zc_140 (w := w) (j := a0) (u := a1) (F := a2) (x := 0) (by omega) (by omega) (by omega) (by omega) (by omega) (by omega) (by omega) ).mp (by omega)
  have o208 : zh_e w' 208 = zh_e w 208 := zh_e_g (hw.1 208 (by decide))
  have o209 : zh_e w' 209 = zh_e w 209 := zh_e_g (hw.1 209 (by decide))
  have o236 : zh_e w' 236 = zh_e w 236 := zh_e_g (hw.1 236 (by decide))
  have o207 : zh_e w' 207 = zh_e w 207 := zh_e_g (hw.1 207 (by decide))
  have h : zc_bd (zh_e w' 208) (zh_e w' 209) (zh_e w' 234) (zh_e w' 236) (zh_e w' 207 a1) a1 a2 0 := by
    rw [o208, o209, o236, o207]
    refine zc_bdc (fun i _ _ => ⟨rfl, rfl⟩) (fun n n0 n1 => ?_) (by omega) hp
    have q : zh_e w' 234 n = zh_e w 234 n := hw.2 n (by omega) (by omega)
    exact ⟨q, rfl⟩
  exact (zx_eF1 (by show 0 ≤ (0 : Int) + (1 * a0 + 0); omega) (by show zk_xe w' 2000140 ((0 : Int) + (1 * a0 + 0)) = (1 : Int) + (0); rw [show (0 : Int) + (1 * a0 + 0) = a0 by omega]; exact ((zc_140 (w := w') (j := a0) (u := a1) (F := a2) (x := 0) (by omega) (by omega) (by omega) (by omega) (by omega) (by omega) (by omega) ).mpr h).trans (by omega)) zx_eF0)
def zx_E646 : zx_V := zx_Vc 236 [] 3 [(2000140, 0)] [((0, 0), [(2, 1, 0), (3, 0, 1), (4, 0, 4294967296)]), ((0, 1), [(5, 1, 0)])] [((0, 0), [(3, 1, 0)]), ((4294967293, 0), [(3, 0, 1)]), ((0, 0), [(4, 1, 0)]), ((4294967293, 0), [(4, 0, 1)]), ((0, 0), [(0, 1, 0), (4, 0, 1)])] [(2000140, ((0, 0), [(2, 1, 0)]), ((1, 0), []))]
theorem zx_E646_ok {PT : Nat → zz_W → Prop} : zx_Vok 64 zHT PT zx_E646 := by
  refine zx_Vc_ok (fun w w' j ins hI hI' h0 hw hK hl he hg => ?_)
  obtain ⟨a0, a1, a2, rfl⟩ := zx_i3 hl
  have e0 : (0 : Int) + (1 * a0 + ((-1) * a1 + ((-4294967296) * a2 + 0))) = 0 := he _ List.mem_cons_self
  have e1 : ((-1) : Int) + (1 * (zk_xe w 2000140 a0) + 0) = 0 := he _ (List.mem_cons_of_mem _ List.mem_cons_self)
  have g0 : 0 ≤ (0 : Int) + (1 * a1 + 0) := hg _ List.mem_cons_self
  have g1 : 0 ≤ (4294967293 : Int) + ((-1) * a1 + 0) := hg _ (List.mem_cons_of_mem _ List.mem_cons_self)
  have g2 : 0 ≤ (0 : Int) + (1 * a2 + 0) := hg _ (List.mem_cons_of_mem _ (List.mem_cons_of_mem _ List.mem_cons_self))
  have g3 : 0 ≤ (4294967293 : Int) + ((-1) * a2 + 0) := hg _ (List.mem_cons_of_mem _ (List.mem_cons_of_mem _ (List.mem_cons_of_mem _ List.mem_cons_self)))
  have g4 : 0 ≤ (0 : Int) + (1 * j + ((-1) * a2 + 0)) := hg _ (List.mem_cons_of_mem _ (List.mem_cons_of_mem _ (List.mem_cons_of_mem _ (List.mem_cons_of_mem _ List.mem_cons_self))))
  have hp := (zc_140 (w := w) (j := a0) (u := a1) (F := a2) (x := 0) (by omega) (by omega) (by omega) (by omega) (by omega) (by omega) (by omega) ).mp (by omega)
  have o208 : zh_e w' 208 = zh_e w 208 := zh_e_g (hw.1 208 (by decide))
  have o209 : zh_e w' 209 = zh_e w 209 := zh_e_g (hw.1 209 (by decide))
  have o234 : zh_e w' 234 = zh_e w 234 := zh_e_g (hw.1 234 (by decide))
  have o207 : zh_e w' 207 = zh_e w 207 := zh_e_g (hw.1 207 (by decide))
  have h : zc_bd (zh_e w' 208) (zh_e w' 209) (zh_e w' 234) (zh_e w' 236) (zh_e w' 207 a1) a1 a2 0 := by
    rw [o208, o209, o234, o207]
    refine zc_bdc (fun i _ _ => ⟨rfl, rfl⟩) (fun n n0 n1 => ?_) (by omega) hp
    have q : zh_e w' 236 n = zh_e w 236 n := hw.2 n (by omega) (by omega)
    exact ⟨rfl, q⟩
  exact (zx_eF1 (by show 0 ≤ (0 : Int) + (1 * a0 + 0); omega) (by show zk_xe w' 2000140 ((0 : Int) + (1 * a0 + 0)) = (1 : Int) + (0); rw [show (0 : Int) + (1 * a0 + 0) = a0 by omega]; exact ((zc_140 (w := w') (j := a0) (u := a1) (F := a2) (x := 0) (by omega) (by omega) (by omega) (by omega) (by omega) (by omega) (by omega) ).mpr h).trans (by omega)) zx_eF0)
def zx_D880 : zx_L := zx_Lc [] 4 [(2000140, 0), (234, 2)] [] [((0, 0), [(0, 1, 0), (1, 0, 1), (2, 0, 4294967296)]), ((0, 1), [(4, 1, 0)]), ((0, 4294967296), [(1, 0, 1), (2, 0, 4294967296), (3, 1, 0)])] [((0, 0), [(1, 1, 0)]), ((4294967293, 0), [(1, 0, 1)]), ((0, 0), [(2, 1, 0)]), ((4294967293, 0), [(2, 0, 1)]), ((2, 0), [(5, 0, 1)])] [([], [], [(2000140, ((0, 0), [(3, 1, 0)]), ((1, 0), []))], [])]
theorem zx_D880_ok {PT : Nat → zz_W → Prop} : zx_Lok 64 zHT PT zx_D880 := by
  refine zx_Lc_ok (fun w hI hK ins hl hr he hg => ?_)
  obtain ⟨a0, a1, a2, a3, rfl⟩ := zx_i4 hl
  have e0 : (0 : Int) + (1 * a0 + ((-1) * a1 + ((-4294967296) * a2 + 0))) = 0 := he _ List.mem_cons_self
  have e1 : ((-1) : Int) + (1 * (zk_xe w 2000140 a0) + 0) = 0 := he _ (List.mem_cons_of_mem _ List.mem_cons_self)
  have e2 : ((-4294967296) : Int) + ((-1) * a1 + ((-4294967296) * a2 + (1 * a3 + 0))) = 0 := he _ (List.mem_cons_of_mem _ (List.mem_cons_of_mem _ List.mem_cons_self))
  have g0 : 0 ≤ (0 : Int) + (1 * a1 + 0) := hg _ List.mem_cons_self
  have g1 : 0 ≤ (4294967293 : Int) + ((-1) * a1 + 0) := hg _ (List.mem_cons_of_mem _ List.mem_cons_self)
  have g2 : 0 ≤ (0 : Int) + (1 * a2 + 0) := hg _ (List.mem_cons_of_mem _ (List.mem_cons_of_mem _ List.mem_cons_self))
  have g3 : 0 ≤ (4294967293 : Int) + ((-1) * a2 + 0) := hg _ (List.mem_cons_of_mem _ (List.mem_cons_of_mem _ (List.mem_cons_of_mem _ List.mem_cons_self)))
  have g4 : 0 ≤ (2 : Int) + ((-1) * (zk_xe w 234 a2) + 0) := hg _ (List.mem_cons_of_mem _ (List.mem_cons_of_mem _ (List.mem_cons_of_mem _ (List.mem_cons_of_mem _ List.mem_cons_self))))
  have r0 : 0 ≤ a0 := hr _ List.mem_cons_self
  have r1 : 0 ≤ a2 := hr _ (List.mem_cons_of_mem _ List.mem_cons_self)
  have hp := (zc_140 (w := w) (j := a0) (u := a1) (F := a2) (x := 0) (by omega) (by omega) (by omega) (by omega) (by omega) (by omega) (by omega) ).mp (by omega)
  have k0 : zh_e w 234 (a2) = zk_xe w 234 a2 := by rw [zk_xe_r (i := 234) (by decide)]; show zk_el w 234 (a2) = zk_el w 234 a2; rw [show a2 = a2 by omega]
  have h : zc_bd (zh_e w 208) (zh_e w 209) (zh_e w 234) (zh_e w 236) (zh_e w 207 a1) a1 (a2 + 1) 0 := by
    obtain ⟨h1, h2, h3⟩ := hp
    refine ⟨fun i i0 i1 i2 => ?_, fun n n0 n1 n2 => ?_, fun hx => absurd hx (by decide)⟩
    · have q := h1 i i0 i1 i2
      exact ⟨q.1, by omega⟩
    · by_cases c : n = a2
      · rw [c, k0] at n2
        omega
      · exact h2 n n0 (by omega) n2
  exact ⟨_, List.mem_cons_self, [], rfl, zx_bnil, zx_cs0, (zx_eF1 (by show 0 ≤ (0 : Int) + (1 * a3 + 0); omega) (by show zk_xe w 2000140 ((0 : Int) + (1 * a3 + 0)) = (1 : Int) + (0); rw [show (0 : Int) + (1 * a3 + 0) = a3 by omega]; exact ((zc_140 (w := w) (j := a3) (u := a1) (F := (a2 + 1)) (x := 0) (by omega) (by omega) (by omega) (by omega) (by omega) (by omega) (by omega) ).mpr h).trans (by omega)) zx_eF0), zx_k0⟩
def zx_D881 : zx_L := zx_Lc [] 4 [(2000140, 0), (236, 2), (207, 1)] [] [((0, 0), [(0, 1, 0), (1, 0, 1), (2, 0, 4294967296)]), ((0, 1), [(4, 1, 0)]), ((0, 18446744078004518912), [(1, 0, 1), (2, 0, 4294967296), (3, 1, 0)]), ((0, 0), [(5, 1, 0), (6, 0, 1)])] [((0, 0), [(1, 1, 0)]), ((4294967293, 0), [(1, 0, 1)]), ((0, 0), [(2, 1, 0)]), ((4294967293, 0), [(2, 0, 1)])] [([], [], [(2000140, ((0, 0), [(3, 1, 0)]), ((1, 0), []))], [])]
theorem zx_D881_ok {PT : Nat → zz_W → Prop} : zx_Lok 64 zHT PT zx_D881 := by
  refine zx_Lc_ok (fun w hI hK ins hl hr he hg => ?_)
  obtain ⟨a0, a1, a2, a3, rfl⟩ := zx_i4 hl
  have e0 : (0 : Int) + (1 * a0 + ((-1) * a1 + ((-4294967296) * a2 + 0))) = 0 := he _ List.mem_cons_self
  have e1 : ((-1) : Int) + (1 * (zk_xe w 2000140 a0) + 0) = 0 := he _ (List.mem_cons_of_mem _ List.mem_cons_self)
  have e2 : ((-18446744078004518912) : Int) + ((-1) * a1 + ((-4294967296) * a2 + (1 * a3 + 0))) = 0 := he _ (List.mem_cons_of_mem _ (List.mem_cons_of_mem _ List.mem_cons_self))
  have e3 : (0 : Int) + (1 * (zk_xe w 236 a2) + ((-1) * (zk_xe w 207 a1) + 0)) = 0 := he _ (List.mem_cons_of_mem _ (List.mem_cons_of_mem _ (List.mem_cons_of_mem _ List.mem_cons_self)))
  have g0 : 0 ≤ (0 : Int) + (1 * a1 + 0) := hg _ List.mem_cons_self
  have g1 : 0 ≤ (4294967293 : Int) + ((-1) * a1 + 0) := hg _ (List.mem_cons_of_mem _ List.mem_cons_self)
  have g2 : 0 ≤ (0 : Int) + (1 * a2 + 0) := hg _ (List.mem_cons_of_mem _ (List.mem_cons_of_mem _ List.mem_cons_self))
  have g3 : 0 ≤ (4294967293 : Int) + ((-1) * a2 + 0) := hg _ (List.mem_cons_of_mem _ (List.mem_cons_of_mem _ (List.mem_cons_of_mem _ List.mem_cons_self)))
  have r0 : 0 ≤ a0 := hr _ List.mem_cons_self
  have r1 : 0 ≤ a2 := hr _ (List.mem_cons_of_mem _ List.mem_cons_self)
  have r2 : 0 ≤ a1 := hr _ (List.mem_cons_of_mem _ (List.mem_cons_of_mem _ List.mem_cons_self))
  have hp := (zc_140 (w := w) (j := a0) (u := a1) (F := a2) (x := 0) (by omega) (by omega) (by omega) (by omega) (by omega) (by omega) (by omega) ).mp (by omega)
  have k0 : zh_e w 236 (a2) = zk_xe w 236 a2 := by rw [zk_xe_r (i := 236) (by decide)]; show zk_el w 236 (a2) = zk_el w 236 a2; rw [show a2 = a2 by omega]
  have k1 : zh_e w 207 (a1) = zk_xe w 207 a1 := by rw [zk_xe_r (i := 207) (by decide)]; show zk_el w 207 (a1) = zk_el w 207 a1; rw [show a1 = a1 by omega]
  have h : zc_bd (zh_e w 208) (zh_e w 209) (zh_e w 234) (zh_e w 236) (zh_e w 207 a1) a1 (a2 + 1) 1 := by
    obtain ⟨h1, h2, h3⟩ := hp
    refine ⟨fun i i0 i1 i2 => ?_, fun n n0 n1 n2 => h2 n n0 (by omega) n2, fun hx => ⟨by omega, ?_⟩⟩
    · have q := h1 i i0 i1 i2
      exact ⟨q.1, by omega⟩
    · rw [show a2 + 1 - 1 = a2 by omega, k0, k1]
      omega
  exact ⟨_, List.mem_cons_self, [], rfl, zx_bnil, zx_cs0, (zx_eF1 (by show 0 ≤ (0 : Int) + (1 * a3 + 0); omega) (by show zk_xe w 2000140 ((0 : Int) + (1 * a3 + 0)) = (1 : Int) + (0); rw [show (0 : Int) + (1 * a3 + 0) = a3 by omega]; exact ((zc_140 (w := w) (j := a3) (u := a1) (F := (a2 + 1)) (x := 1) (by omega) (by omega) (by omega) (by omega) (by omega) (by omega) (by omega) ).mpr h).trans (by omega)) zx_eF0), zx_k0⟩
def zx_D882 : zx_L := zx_Lc [] 4 [(2000140, 0), (207, 1), (208, 3), (209, 3)] [] [((0, 0), [(0, 1, 0), (1, 0, 1), (2, 0, 4294967296)]), ((0, 1), [(4, 1, 0)])] [((0, 0), [(1, 1, 0)]), ((4294967293, 0), [(1, 0, 1)]), ((0, 0), [(2, 1, 0)]), ((4294967293, 0), [(2, 0, 1)]), ((0, 0), [(1, 0, 8000), (3, 1, 0)]), ((0, 1), [(1, 8000, 0), (3, 0, 1), (5, 1, 0)])] [([], [((0, 1), [(6, 1, 0)])], [], []), ([], [((0, 1), [(6, 0, 1)])], [], []), ([], [((0, 0), [(7, 1, 0)]), ((0, 1), [(2, 1, 0), (7, 0, 1)])], [], [])]
theorem zx_D882_ok {PT : Nat → zz_W → Prop} : zx_Lok 64 zHT PT zx_D882 := by
  refine zx_Lc_ok (fun w hI hK ins hl hr he hg => ?_)
  obtain ⟨a0, a1, a2, a3, rfl⟩ := zx_i4 hl
  have e0 : (0 : Int) + (1 * a0 + ((-1) * a1 + ((-4294967296) * a2 + 0))) = 0 := he _ List.mem_cons_self
  have e1 : ((-1) : Int) + (1 * (zk_xe w 2000140 a0) + 0) = 0 := he _ (List.mem_cons_of_mem _ List.mem_cons_self)
  have g0 : 0 ≤ (0 : Int) + (1 * a1 + 0) := hg _ List.mem_cons_self
  have g1 : 0 ≤ (4294967293 : Int) + ((-1) * a1 + 0) := hg _ (List.mem_cons_of_mem _ List.mem_cons_self)
  have g2 : 0 ≤ (0 : Int) + (1 * a2 + 0) := hg _ (List.mem_cons_of_mem _ (List.mem_cons_of_mem _ List.mem_cons_self))
  have g3 : 0 ≤ (4294967293 : Int) + ((-1) * a2 + 0) := hg _ (List.mem_cons_of_mem _ (List.mem_cons_of_mem _ (List.mem_cons_of_mem _ List.mem_cons_self)))
  have g4 : 0 ≤ (0 : Int) + ((-8000) * a1 + (1 * a3 + 0)) := hg _ (List.mem_cons_of_mem _ (List.mem_cons_of_mem _ (List.mem_cons_of_mem _ (List.mem_cons_of_mem _ List.mem_cons_self))))
  have g5 : 0 ≤ ((-1) : Int) + (8000 * a1 + ((-1) * a3 + (1 * (zk_xe w 207 a1) + 0))) := hg _ (List.mem_cons_of_mem _ (List.mem_cons_of_mem _ (List.mem_cons_of_mem _ (List.mem_cons_of_mem _ (List.mem_cons_of_mem _ List.mem_cons_self)))))
  have r0 : 0 ≤ a0 := hr _ List.mem_cons_self
  have r1 : 0 ≤ a1 := hr _ (List.mem_cons_of_mem _ List.mem_cons_self)
  have r2 : 0 ≤ a3 := hr _ (List.mem_cons_of_mem _ (List.mem_cons_of_mem _ List.mem_cons_self))
  have r3 : 0 ≤ a3 := hr _ (List.mem_cons_of_mem _ (List.mem_cons_of_mem _ (List.mem_cons_of_mem _ List.mem_cons_self)))
  have hp := (zc_140 (w := w) (j := a0) (u := a1) (F := a2) (x := 0) (by omega) (by omega) (by omega) (by omega) (by omega) (by omega) (by omega) ).mp (by omega)
  have k0 : zh_e w 207 (a1) = zk_xe w 207 a1 := by rw [zk_xe_r (i := 207) (by decide)]; show zk_el w 207 (a1) = zk_el w 207 a1; rw [show a1 = a1 by omega]
  have k1 : zh_e w 208 (8000 * a1 + (a3 - 8000 * a1)) = zk_xe w 208 a3 := by rw [zk_xe_r (i := 208) (by decide)]; show zk_el w 208 (8000 * a1 + (a3 - 8000 * a1)) = zk_el w 208 a3; rw [show 8000 * a1 + (a3 - 8000 * a1) = a3 by omega]
  have k2 : zh_e w 209 (8000 * a1 + (a3 - 8000 * a1)) = zk_xe w 209 a3 := by rw [zk_xe_r (i := 209) (by decide)]; show zk_el w 209 (8000 * a1 + (a3 - 8000 * a1)) = zk_el w 209 a3; rw [show 8000 * a1 + (a3 - 8000 * a1) = a3 by omega]
  by_cases c : 1 ≤ zk_xe w 208 a3
  ·
    exact ⟨_, List.mem_cons_self, [], rfl, zx_bnil, (zx_cs1 (by show 0 ≤ ((-1) : Int) + (1 * (zk_xe w 208 a3) + 0); omega) zx_cs0), zx_eF0, zx_k0⟩
  ·
    by_cases c2 : zk_xe w 208 a3 < 0
    ·
      exact ⟨_, (List.mem_cons_of_mem _ List.mem_cons_self), [], rfl, zx_bnil, (zx_cs1 (by show 0 ≤ ((-1) : Int) + ((-1) * (zk_xe w 208 a3) + 0); omega) zx_cs0), zx_eF0, zx_k0⟩
    ·
      have q := hp.1 (a3 - 8000 * a1) (by omega) (by rw [k0]; omega) (by rw [k1]; omega)
      rw [k2] at q
      exact ⟨_, (List.mem_cons_of_mem _ (List.mem_cons_of_mem _ List.mem_cons_self)), [], rfl, zx_bnil, (zx_cs1 (by show 0 ≤ (0 : Int) + (1 * (zk_xe w 209 a3) + 0); omega) (zx_cs1 (by show 0 ≤ ((-1) : Int) + (1 * a2 + ((-1) * (zk_xe w 209 a3) + 0)); omega) zx_cs0)), zx_eF0, zx_k0⟩
/-- want lines (functions 141 to 143) -/
theorem zc_141 {w : zz_W} {j n m : Int} (e : j = n + 4294967296 * m) (n0 : 0 ≤ n) (n1 : n < 4294967296) (m0 : 0 ≤ m) (m1 : m < 4294967296) : zk_xe w 2000141 j = 1 ↔ zc_pm (zn_l w 173 n) (zn_l w 174 n) m := by
  obtain ⟨q0, y0, -⟩ := zm_z1 e n0 n1
  obtain ⟨q1, -, -⟩ := zm_z1 (j := m) (a := m) (b := 0) (by omega) m0 m1
  have h1 : zv_dg 1 j = m := (y0 0).trans q1
  rw [show (2000141 : Nat) = 2000000 + 141 from rfl, zk_xe_h]
  have h : zv_H 141 w j = zh_b (zc_pm (zn_l w 173 n) (zn_l w 174 n) m) := by
    show zh_b (zc_pm (zn_l w 173 (zv_dg 0 j)) (zn_l w 174 (zv_dg 0 j)) (zv_dg 1 j)) = _
    rw [q0, h1]
  rw [h]
  exact ⟨zh_b1', zh_b1⟩
theorem zc_142 {w : zz_W} {j q s m : Int} (e : j = q + 4294967296 * s + 18446744073709551616 * m) (q0 : 0 ≤ q) (q1 : q < 4294967296) (s0 : 0 ≤ s) (s1 : s < 4294967296) (m0 : 0 ≤ m) (m1 : m < 4294967296) : zk_xe w 2000142 j = zc_xs (zn_l w 173 (zh_e w 256 q)) (zh_e w 257 q) s m := by
  obtain ⟨d0, d1, d2⟩ := zg_d3 (j := j) (n := q) (k := s) (u := m) (by omega) q0 q1 s0 s1 m0 m1
  rw [show (2000142 : Nat) = 2000000 + 142 from rfl, zk_xe_h]
  show zc_xs (zn_l w 173 (zh_e w 256 (zv_dg 0 j))) (zh_e w 257 (zv_dg 0 j)) (zv_dg 1 j) (zv_dg 2 j) = _
  rw [d0, d1, d2]
theorem zc_143x {w : zz_W} {j u q s m : Int} (e : j = u + 4294967296 * q + 18446744073709551616 * s + 79228162514264337593543950336 * m) (u0 : 0 ≤ u) (u1 : u < 4294967296) (q0 : 0 ≤ q) (q1 : q < 4294967296) (s0 : 0 ≤ s) (s1 : s < 4294967296) (m0 : 0 ≤ m) (m1 : m < 4294967296) : zk_xe w 2000143 j = zh_b (zc_wp (zh_e w 177) (zn_l w 173) (zn_l w 174) (zh_e w 256) (zh_e w 257) (zh_e w 178 u) (40000 * u) q s m) := by
  obtain ⟨d0, d1, d2, d3⟩ := zg_d4 (j := j) (n := u) (k := q) (u := s) (l := m) (by omega) u0 u1 q0 q1 s0 s1 m0 m1
  rw [show (2000143 : Nat) = 2000000 + 143 from rfl, zk_xe_h]
  show zh_b (zc_wp (zh_e w 177) (zn_l w 173) (zn_l w 174) (zh_e w 256) (zh_e w 257) (zh_e w 178 (zv_dg 0 j)) (40000 * zv_dg 0 j) (zv_dg 1 j) (zv_dg 2 j) (zv_dg 3 j)) = _
  rw [d0, d1, d2, d3]
theorem zc_143 {w : zz_W} {j u q s m : Int} (e : j = u + 4294967296 * q + 18446744073709551616 * s + 79228162514264337593543950336 * m) (u0 : 0 ≤ u) (u1 : u < 4294967296) (q0 : 0 ≤ q) (q1 : q < 4294967296) (s0 : 0 ≤ s) (s1 : s < 4294967296) (m0 : 0 ≤ m) (m1 : m < 4294967296) : zk_xe w 2000143 j = 1 ↔ zc_wp (zh_e w 177) (zn_l w 173) (zn_l w 174) (zh_e w 256) (zh_e w 257) (zh_e w 178 u) (40000 * u) q s m := by
  rw [zc_143x e u0 u1 q0 q1 s0 s1 m0 m1]
  exact ⟨zh_b1', zh_b1⟩
theorem zc_143d {w : zz_W} {j : Int} : zk_xe w 2000143 j = 0 ∨ zk_xe w 2000143 j = 1 := by
  rw [show (2000143 : Nat) = 2000000 + 143 from rfl, zk_xe_h]
  show zh_b (zc_wp (zh_e w 177) (zn_l w 173) (zn_l w 174) (zh_e w 256) (zh_e w 257) (zh_e w 178 (zv_dg 0 j)) (40000 * zv_dg 0 j) (zv_dg 1 j) (zv_dg 2 j) (zv_dg 3 j)) = 0 ∨ zh_b (zc_wp (zh_e w 177) (zn_l w 173) (zn_l w 174) (zh_e w 256) (zh_e w 257) (zh_e w 178 (zv_dg 0 j)) (40000 * zv_dg 0 j) (zv_dg 1 j) (zv_dg 2 j) (zv_dg 3 j)) = 1
  by_cases h : zc_wp (zh_e w 177) (zn_l w 173) (zn_l w 174) (zh_e w 256) (zh_e w 257) (zh_e w 178 (zv_dg 0 j)) (40000 * zv_dg 0 j) (zv_dg 1 j) (zv_dg 2 j) (zv_dg 3 j)
  · exact Or.inr (zh_b1 h)
  · exact Or.inl (zh_b0 h)
/-- where the lines are -/
theorem zc_wpF {T A B O Q F : Int → Int} {b : Int} (f0 : 0 ≤ F 0) : ∀ {q : Nat}, (∀ p, 0 ≤ p → p < (q : Int) → ∃ k, F (p + 1) = F p + 9 + k ∧ zc_wl T A B O Q b p (F p) k) → 0 ≤ F (q : Int) ∧ ∀ p, 0 ≤ p → p < (q : Int) → 0 ≤ F p ∧ F (p + 1) ≤ F (q : Int)
  | 0, _ => ⟨f0, fun p p0 p1 => by omega⟩
  | q + 1, h => by
    obtain ⟨h1, h2⟩ := zc_wpF f0 (q := q) (fun p p0 p1 => h p p0 (by omega))
    obtain ⟨k, k1, k2⟩ := h (q : Int) (by omega) (by omega)
    have k3 := k2.2.1.1
    have e : F (((q + 1 : Nat)) : Int) = F ((q : Int) + 1) := by
      congr 1
    refine ⟨by omega, fun p p0 p1 => ?_⟩
    by_cases c : p = (q : Int)
    · subst c
      exact ⟨h1, by omega⟩
    · obtain ⟨r1, r2⟩ := h2 p p0 (by omega)
      exact ⟨r1, by omega⟩
/-- the text is written behind its end -/
theorem zc_wpc {T T' A B O Q : Int → Int} {z b q s m : Int} (q0 : 0 ≤ q) (s0 : 0 ≤ s) (hT : ∀ i, 0 ≤ i → i < z → T' (b + i) = T (b + i)) (h : zc_wp T A B O Q z b q s m) : zc_wp T' A B O Q z b q s m := by
  obtain ⟨F, f0, f1, f2, f3, f4⟩ := h
  obtain ⟨n, hn⟩ : ∃ n : Nat, q = (n : Int) := ⟨q.toNat, by omega⟩
  subst hn
  obtain ⟨g1, g2⟩ := zc_wpF f0 f2
  have g0 : F 0 ≤ F (n : Int) := by
    by_cases c : n = 0
    · subst c
      exact Int.le_refl _
    · obtain ⟨r1, r2⟩ := g2 0 (by omega) (by omega)
      obtain ⟨k, k1, k2⟩ := f2 0 (by omega) (by omega)
      have := k2.2.1.1
      omega
  refine ⟨F, f0, ?_, fun p p0 p1 => ?_, f3, fun i i0 i1 => ?_⟩
  · by_cases c : F 0 = 0
    · exact Or.inl c
    · have q := hT (F 0 - 1) (by omega) (by omega)
      rw [show b + (F 0 - 1) = b + F 0 - 1 by omega] at q
      rcases f1 with f1 | f1
      · exact Or.inl f1
      · exact Or.inr (q.trans f1)
  · obtain ⟨k, k1, k2, k3, k4, k5, k6⟩ := f2 p p0 p1
    obtain ⟨r1, r2⟩ := g2 p p0 p1
    refine ⟨k, k1, k2, k3, k4, k5, fun i i0 i1 => ?_⟩
    have q := hT (F p + i) (by omega) (by omega)
    rw [show b + (F p + i) = b + F p + i by omega] at q
    exact q.trans (k6 i i0 i1)
  · have q := hT (F (n : Int) + i) (by omega) (by omega)
    rw [show b + (F (n : Int) + i) = b + F (n : Int) + i by omega] at q
    exact q.trans (f4 i i0 i1)
theorem zc_63 {a : Int} {m : Nat} (m2 : m ≤ 8) (hk : zp_k m a) : 0 ≤ a ∧ a < 9223372036854775808 := by
  have hb := zp_kb hk
  have hl : (256 : Int) ^ m ≤ 256 ^ 8 := by
    have q := Nat.pow_le_pow_right (n := 256) (by decide) m2
    have e1 : ((256 ^ m : Nat) : Int) = (256 : Int) ^ m := Int.natCast_pow 256 m
    have e2 : ((256 ^ 8 : Nat) : Int) = (256 : Int) ^ 8 := Int.natCast_pow 256 8
    rw [← e1, ← e2]
    exact Int.ofNat_le.mpr q
  have ht := (zy_by hk 7).1
  have hu := (zy_by hk 7).2
  refine ⟨hb.1, ?_⟩
  have q : a / 256 ^ 7 < 128 := by
    by_cases c : 7 < m
    · have := ht c
      unfold zp_ch at this
      have q8 : a / 256 ^ 7 < 256 := by
        have : (256 : Int) ^ 8 = 256 ^ 7 * 256 := Int.pow_succ 256 7
        exact Int.ediv_lt_of_lt_mul (by decide) (by omega)
      have q0 : 0 ≤ a / 256 ^ 7 := Int.ediv_nonneg hb.1 (by decide)
      omega
    · rw [hu (by omega)]
      decide
  have e7 : (256 : Int) ^ 7 = 72057594037927936 := by decide
  rw [e7] at q
  omega
/-- sign k of a name of m signs -/
theorem zc_ng {w : zz_W} {n k m : Int} (h : zc_pm (zn_l w 173 n) (zn_l w 174 n) m) (n0 : 0 ≤ n) (n1 : n < 4294967296) (k0 : 0 ≤ k) (k1 : k < 16) : (k < m → zk_xe w 2000099 (n + 4294967296 * k) = zn_l w 173 n / 256 ^ k.toNat % 256 ∧ zp_ch (zk_xe w 2000099 (n + 4294967296 * k))) ∧ (m ≤ k → zk_xe w 2000099 (n + 4294967296 * k) = 0) := by
  obtain ⟨m1, m2, hb, hk⟩ := h
  obtain ⟨a0, a1⟩ := zc_63 (by omega) hk
  rw [zyq99 (n := n) (k := k) rfl n0 n1 k0 (by omega)]
  have key : ∀ (a : Int) (r : Nat), 0 ≤ a → a < 9223372036854775808 → r ≤ 7 → zn_op 7 (zn_op 4 (zn_op 6 a (8 * (r : Int))) 127) 0 = a / 256 ^ r % 128 := fun a r a0 a1 hr => by
    have x0 : 0 ≤ a / 256 ^ r := Int.ediv_nonneg a0 (Int.le_of_lt (Int.pow_pos (by decide)))
    have x1 : a / 256 ^ r < 9223372036854775808 := Int.lt_of_le_of_lt (Int.ediv_le_self _ a0) a1
    rw [zy_shr a0 a1 hr, zy_and x0 x1, zn_op7 (by omega) (by omega)]
  refine ⟨fun hm => ?_, fun hm => ?_⟩
  · obtain ⟨r, hr⟩ : ∃ r : Nat, k = (r : Int) := ⟨k.toNat, by omega⟩
    subst hr
    rw [if_pos (by omega), show (r : Int) % 8 = (r : Int) by omega, key _ r a0 a1 (by omega), Int.toNat_natCast]
    have q := (zy_by hk r).1 (by omega)
    have e : zn_l w 173 n / 256 ^ r % 128 = zn_l w 173 n / 256 ^ r % 256 := by
      unfold zp_ch at q
      omega
    rw [e]
    exact ⟨rfl, q⟩
  · by_cases c : k < 8
    · obtain ⟨r, hr⟩ : ∃ r : Nat, k = (r : Int) := ⟨k.toNat, by omega⟩
      subst hr
      rw [if_pos c, show (r : Int) % 8 = (r : Int) by omega, key _ r a0 a1 (by omega), (zy_by hk r).2 (by omega)]
      decide
    · obtain ⟨r, hr⟩ : ∃ r : Nat, k % 8 = (r : Int) := ⟨(k % 8).toNat, by omega⟩
      rw [if_neg c, hr, hb, key 0 r (by decide) (by decide) (by omega), Int.zero_ediv]
      decide
def zx_D980 : zx_L := zx_Lc [] 5 [(2000089, 0), (2000143, 2), (256, 4)] [] [((0, 4294967297), [(0, 1, 0), (1, 0, 1)]), ((0, 1), [(5, 1, 0)]), ((0, 0), [(2, 1, 0), (3, 0, 1), (4, 0, 4294967296)]), ((0, 1), [(6, 1, 0)]), ((0, 0), [(1, 0, 1), (7, 1, 0)])] [((0, 0), [(1, 1, 0)]), ((4294967276, 0), [(1, 0, 1)]), ((0, 0), [(3, 1, 0)]), ((4294967276, 0), [(3, 0, 1)]), ((0, 0), [(4, 1, 0)]), ((4294967276, 0), [(4, 0, 1)])] [([(1, 8)], [], [(2000141, ((0, 0), [(1, 1, 0), (8, 4294967296, 0)]), ((1, 0), [])), (2000143, ((0, 0), [(3, 1, 0), (4, 4294967296, 0), (8, 79228162514264337593543950336, 0)]), ((1, 0), [])), (2000142, ((0, 0), [(4, 1, 0), (8, 18446744073709551616, 0)]), ((46, 0), [])), (2000142, ((4294967296, 0), [(4, 1, 0), (8, 18446744073709551616, 0)]), ((119, 0), [])), (2000142, ((8589934592, 0), [(4, 1, 0), (8, 18446744073709551616, 0)]), ((97, 0), [])), (2000142, ((12884901888, 0), [(4, 1, 0), (8, 18446744073709551616, 0)]), ((110, 0), [])), (2000142, ((17179869184, 0), [(4, 1, 0), (8, 18446744073709551616, 0)]), ((116, 0), [])), (2000142, ((21474836480, 0), [(4, 1, 0), (8, 18446744073709551616, 0)]), ((32, 0), []))], [])]
theorem zx_D980_ok {PT : Nat → zz_W → Prop} : zx_Lok 64 zHT PT zx_D980 := by
  refine zx_Lc_ok (fun w hI hK ins hl hr he hg => ?_)
  obtain ⟨a0, a1, a2, a3, a4, rfl⟩ := zx_i5 hl
  have e0 : ((-4294967297) : Int) + (1 * a0 + ((-1) * a1 + 0)) = 0 := he _ List.mem_cons_self
  have e1 : ((-1) : Int) + (1 * (zk_xe w 2000089 a0) + 0) = 0 := he _ (List.mem_cons_of_mem _ List.mem_cons_self)
  have e2 : (0 : Int) + (1 * a2 + ((-1) * a3 + ((-4294967296) * a4 + 0))) = 0 := he _ (List.mem_cons_of_mem _ (List.mem_cons_of_mem _ List.mem_cons_self))
  have e3 : ((-1) : Int) + (1 * (zk_xe w 2000143 a2) + 0) = 0 := he _ (List.mem_cons_of_mem _ (List.mem_cons_of_mem _ (List.mem_cons_of_mem _ List.mem_cons_self)))
  have e4 : (0 : Int) + ((-1) * a1 + (1 * (zk_xe w 256 a4) + 0)) = 0 := he _ (List.mem_cons_of_mem _ (List.mem_cons_of_mem _ (List.mem_cons_of_mem _ (List.mem_cons_of_mem _ List.mem_cons_self))))
  have g0 : 0 ≤ (0 : Int) + (1 * a1 + 0) := hg _ List.mem_cons_self
  have g1 : 0 ≤ (4294967276 : Int) + ((-1) * a1 + 0) := hg _ (List.mem_cons_of_mem _ List.mem_cons_self)
  have g2 : 0 ≤ (0 : Int) + (1 * a3 + 0) := hg _ (List.mem_cons_of_mem _ (List.mem_cons_of_mem _ List.mem_cons_self))
  have g3 : 0 ≤ (4294967276 : Int) + ((-1) * a3 + 0) := hg _ (List.mem_cons_of_mem _ (List.mem_cons_of_mem _ (List.mem_cons_of_mem _ List.mem_cons_self)))
  have g4 : 0 ≤ (0 : Int) + (1 * a4 + 0) := hg _ (List.mem_cons_of_mem _ (List.mem_cons_of_mem _ (List.mem_cons_of_mem _ (List.mem_cons_of_mem _ List.mem_cons_self))))
  have g5 : 0 ≤ (4294967276 : Int) + ((-1) * a4 + 0) := hg _ (List.mem_cons_of_mem _ (List.mem_cons_of_mem _ (List.mem_cons_of_mem _ (List.mem_cons_of_mem _ (List.mem_cons_of_mem _ List.mem_cons_self)))))
  have r0 : 0 ≤ a0 := hr _ List.mem_cons_self
  have r1 : 0 ≤ a2 := hr _ (List.mem_cons_of_mem _ List.mem_cons_self)
  have r2 : 0 ≤ a4 := hr _ (List.mem_cons_of_mem _ (List.mem_cons_of_mem _ List.mem_cons_self))
  have hp := (zn_89 (w := w) (j := a0) (n := a1) (by omega) (by omega) (by omega)).mp (by omega)
  have hw := (zc_143 (w := w) (j := a2) (u := a3) (q := a4) (s := 0) (m := 0) (by omega) (by omega) (by omega) (by omega) (by omega) (by omega) (by omega) (by omega) (by omega) ).mp (by omega)
  obtain ⟨pb, m, m1, m2, hk⟩ := hp
  have hm : zc_pm (zn_l w 173 a1) (zn_l w 174 a1) (m : Int) := ⟨by omega, by omega, pb, by rw [Int.toNat_natCast]; exact hk⟩
  have hv : zc_wp (zh_e w 177) (zn_l w 173) (zn_l w 174) (zh_e w 256) (zh_e w 257) (zh_e w 178 a3) (40000 * a3) a4 0 (m : Int) := by
    obtain ⟨F, f0, f1, f2, f3, f4⟩ := hw
    exact ⟨F, f0, f1, f2, f3, fun i i0 i1 => by omega⟩
  exact ⟨_, List.mem_cons_self, [(m : Int)], rfl, (zx_bcons (by show (1 : Int) ≤ (m : Int) ∧ (m : Int) ≤ (8 : Int); omega) zx_bnil), zx_cs0, (zx_eF1 (by show 0 ≤ (0 : Int) + (1 * a1 + (4294967296 * ((m : Int)) + 0)); omega) (by show zk_xe w 2000141 ((0 : Int) + (1 * a1 + (4294967296 * ((m : Int)) + 0))) = (1 : Int) + (0); rw [show (0 : Int) + (1 * a1 + (4294967296 * ((m : Int)) + 0)) = (a1 + 4294967296 * (m : Int)) by omega]; exact ((zc_141 (w := w) (j := (a1 + 4294967296 * (m : Int))) (n := a1) (m := (m : Int)) (by omega) (by omega) (by omega) (by omega) (by omega) ).mpr hm).trans (by omega)) (zx_eF1 (by show 0 ≤ (0 : Int) + (1 * a3 + (4294967296 * a4 + (79228162514264337593543950336 * ((m : Int)) + 0))); omega) (by show zk_xe w 2000143 ((0 : Int) + (1 * a3 + (4294967296 * a4 + (79228162514264337593543950336 * ((m : Int)) + 0)))) = (1 : Int) + (0); rw [show (0 : Int) + (1 * a3 + (4294967296 * a4 + (79228162514264337593543950336 * ((m : Int)) + 0))) = (a3 + 4294967296 * a4 + 79228162514264337593543950336 * (m : Int)) by omega]; exact ((zc_143 (w := w) (j := (a3 + 4294967296 * a4 + 79228162514264337593543950336 * (m : Int))) (u := a3) (q := a4) (s := 0) (m := (m : Int)) (by omega) (by omega) (by omega) (by omega) (by omega) (by omega) (by omega) (by omega) (by omega) ).mpr hv).trans (by omega)) (zx_eF1 (by show 0 ≤ (0 : Int) + (1 * a4 + (18446744073709551616 * ((m : Int)) + 0)); omega) (by show zk_xe w 2000142 ((0 : Int) + (1 * a4 + (18446744073709551616 * ((m : Int)) + 0))) = (46 : Int) + (0); rw [show (0 : Int) + (1 * a4 + (18446744073709551616 * ((m : Int)) + 0)) = (a4 + 0 + 18446744073709551616 * (m : Int)) by omega]; rw [zc_142 (w := w) (j := (a4 + 0 + 18446744073709551616 * (m : Int))) (q := a4) (s := 0) (m := (m : Int)) (by omega) (by omega) (by omega) (by omega) (by omega) (by omega) (by omega) ]; show zc_xs _ _ 0 _ = (46 : Int) + 0; unfold zc_xs; rw [if_pos (by decide), if_pos (by decide)]; rfl) (zx_eF1 (by show 0 ≤ (4294967296 : Int) + (1 * a4 + (18446744073709551616 * ((m : Int)) + 0)); omega) (by show zk_xe w 2000142 ((4294967296 : Int) + (1 * a4 + (18446744073709551616 * ((m : Int)) + 0))) = (119 : Int) + (0); rw [show (4294967296 : Int) + (1 * a4 + (18446744073709551616 * ((m : Int)) + 0)) = (a4 + 4294967296 + 18446744073709551616 * (m : Int)) by omega]; rw [zc_142 (w := w) (j := (a4 + 4294967296 + 18446744073709551616 * (m : Int))) (q := a4) (s := 1) (m := (m : Int)) (by omega) (by omega) (by omega) (by omega) (by omega) (by omega) (by omega) ]; show zc_xs _ _ 1 _ = (119 : Int) + 0; unfold zc_xs; rw [if_pos (by decide), if_neg (by decide), if_pos (by decide)]; rfl) (zx_eF1 (by show 0 ≤ (8589934592 : Int) + (1 * a4 + (18446744073709551616 * ((m : Int)) + 0)); omega) (by show zk_xe w 2000142 ((8589934592 : Int) + (1 * a4 + (18446744073709551616 * ((m : Int)) + 0))) = (97 : Int) + (0); rw [show (8589934592 : Int) + (1 * a4 + (18446744073709551616 * ((m : Int)) + 0)) = (a4 + 8589934592 + 18446744073709551616 * (m : Int)) by omega]; rw [zc_142 (w := w) (j := (a4 + 8589934592 + 18446744073709551616 * (m : Int))) (q := a4) (s := 2) (m := (m : Int)) (by omega) (by omega) (by omega) (by omega) (by omega) (by omega) (by omega) ]; show zc_xs _ _ 2 _ = (97 : Int) + 0; unfold zc_xs; rw [if_pos (by decide), if_neg (by decide), if_neg (by decide), if_pos (by decide)]; rfl) (zx_eF1 (by show 0 ≤ (12884901888 : Int) + (1 * a4 + (18446744073709551616 * ((m : Int)) + 0)); omega) (by show zk_xe w 2000142 ((12884901888 : Int) + (1 * a4 + (18446744073709551616 * ((m : Int)) + 0))) = (110 : Int) + (0); rw [show (12884901888 : Int) + (1 * a4 + (18446744073709551616 * ((m : Int)) + 0)) = (a4 + 12884901888 + 18446744073709551616 * (m : Int)) by omega]; rw [zc_142 (w := w) (j := (a4 + 12884901888 + 18446744073709551616 * (m : Int))) (q := a4) (s := 3) (m := (m : Int)) (by omega) (by omega) (by omega) (by omega) (by omega) (by omega) (by omega) ]; show zc_xs _ _ 3 _ = (110 : Int) + 0; unfold zc_xs; rw [if_pos (by decide), if_neg (by decide), if_neg (by decide), if_neg (by decide), if_pos (by decide)]; rfl) (zx_eF1 (by show 0 ≤ (17179869184 : Int) + (1 * a4 + (18446744073709551616 * ((m : Int)) + 0)); omega) (by show zk_xe w 2000142 ((17179869184 : Int) + (1 * a4 + (18446744073709551616 * ((m : Int)) + 0))) = (116 : Int) + (0); rw [show (17179869184 : Int) + (1 * a4 + (18446744073709551616 * ((m : Int)) + 0)) = (a4 + 17179869184 + 18446744073709551616 * (m : Int)) by omega]; rw [zc_142 (w := w) (j := (a4 + 17179869184 + 18446744073709551616 * (m : Int))) (q := a4) (s := 4) (m := (m : Int)) (by omega) (by omega) (by omega) (by omega) (by omega) (by omega) (by omega) ]; show zc_xs _ _ 4 _ = (116 : Int) + 0; unfold zc_xs; rw [if_pos (by decide), if_neg (by decide), if_neg (by decide), if_neg (by decide), if_neg (by decide), if_pos (by decide)]; rfl) (zx_eF1 (by show 0 ≤ (21474836480 : Int) + (1 * a4 + (18446744073709551616 * ((m : Int)) + 0)); omega) (by show zk_xe w 2000142 ((21474836480 : Int) + (1 * a4 + (18446744073709551616 * ((m : Int)) + 0))) = (32 : Int) + (0); rw [show (21474836480 : Int) + (1 * a4 + (18446744073709551616 * ((m : Int)) + 0)) = (a4 + 21474836480 + 18446744073709551616 * (m : Int)) by omega]; rw [zc_142 (w := w) (j := (a4 + 21474836480 + 18446744073709551616 * (m : Int))) (q := a4) (s := 5) (m := (m : Int)) (by omega) (by omega) (by omega) (by omega) (by omega) (by omega) (by omega) ]; show zc_xs _ _ 5 _ = (32 : Int) + 0; unfold zc_xs; rw [if_pos (by decide), if_neg (by decide), if_neg (by decide), if_neg (by decide), if_neg (by decide), if_neg (by decide)]; rfl) zx_eF0)))))))), zx_k0⟩
def zx_D981 : zx_L := zx_Lc [] 5 [(2000141, 0), (2000099, 3)] [] [((0, 0), [(0, 1, 0), (1, 0, 1), (2, 0, 4294967296)]), ((0, 1), [(5, 1, 0)]), ((0, 0), [(1, 0, 1), (3, 1, 0), (4, 0, 4294967296)])] [((0, 0), [(1, 1, 0)]), ((4294967276, 0), [(1, 0, 1)]), ((0, 0), [(2, 1, 0)]), ((4294967276, 0), [(2, 0, 1)]), ((0, 0), [(4, 1, 0)]), ((15, 0), [(4, 0, 1)])] [([], [((0, 1), [(6, 1, 0)]), ((0, 1), [(2, 1, 0), (4, 0, 1)])], [], []), ([], [((0, 0), [(6, 0, 1)]), ((0, 0), [(2, 0, 1), (4, 1, 0)])], [], [])]
theorem zx_D981_ok {PT : Nat → zz_W → Prop} : zx_Lok 64 zHT PT zx_D981 := by
  refine zx_Lc_ok (fun w hI hK ins hl hr he hg => ?_)
  obtain ⟨a0, a1, a2, a3, a4, rfl⟩ := zx_i5 hl
  have e0 : (0 : Int) + (1 * a0 + ((-1) * a1 + ((-4294967296) * a2 + 0))) = 0 := he _ List.mem_cons_self
  have e1 : ((-1) : Int) + (1 * (zk_xe w 2000141 a0) + 0) = 0 := he _ (List.mem_cons_of_mem _ List.mem_cons_self)
  have e2 : (0 : Int) + ((-1) * a1 + (1 * a3 + ((-4294967296) * a4 + 0))) = 0 := he _ (List.mem_cons_of_mem _ (List.mem_cons_of_mem _ List.mem_cons_self))
  have g0 : 0 ≤ (0 : Int) + (1 * a1 + 0) := hg _ List.mem_cons_self
  have g1 : 0 ≤ (4294967276 : Int) + ((-1) * a1 + 0) := hg _ (List.mem_cons_of_mem _ List.mem_cons_self)
  have g2 : 0 ≤ (0 : Int) + (1 * a2 + 0) := hg _ (List.mem_cons_of_mem _ (List.mem_cons_of_mem _ List.mem_cons_self))
  have g3 : 0 ≤ (4294967276 : Int) + ((-1) * a2 + 0) := hg _ (List.mem_cons_of_mem _ (List.mem_cons_of_mem _ (List.mem_cons_of_mem _ List.mem_cons_self)))
  have g4 : 0 ≤ (0 : Int) + (1 * a4 + 0) := hg _ (List.mem_cons_of_mem _ (List.mem_cons_of_mem _ (List.mem_cons_of_mem _ (List.mem_cons_of_mem _ List.mem_cons_self))))
  have g5 : 0 ≤ (15 : Int) + ((-1) * a4 + 0) := hg _ (List.mem_cons_of_mem _ (List.mem_cons_of_mem _ (List.mem_cons_of_mem _ (List.mem_cons_of_mem _ (List.mem_cons_of_mem _ List.mem_cons_self)))))
  have r0 : 0 ≤ a0 := hr _ List.mem_cons_self
  have r1 : 0 ≤ a3 := hr _ (List.mem_cons_of_mem _ List.mem_cons_self)
  have hp := (zc_141 (w := w) (j := a0) (n := a1) (m := a2) (by omega) (by omega) (by omega) (by omega) (by omega) ).mp (by omega)
  have hn := zc_ng (k := a4) hp (by omega) (by omega) (by omega) (by omega)
  rw [show a1 + 4294967296 * a4 = a3 by omega] at hn
  by_cases c : a4 < a2
  · have q := (hn.1 c).2
    unfold zp_ch at q
    exact ⟨_, List.mem_cons_self, [], rfl, zx_bnil, (zx_cs1 (by show 0 ≤ ((-1) : Int) + (1 * (zk_xe w 2000099 a3) + 0); omega) (zx_cs1 (by show 0 ≤ ((-1) : Int) + (1 * a2 + ((-1) * a4 + 0)); omega) zx_cs0)), zx_eF0, zx_k0⟩
  · have q := hn.2 (by omega)
    exact ⟨_, (List.mem_cons_of_mem _ List.mem_cons_self), [], rfl, zx_bnil, (zx_cs1 (by show 0 ≤ (0 : Int) + ((-1) * (zk_xe w 2000099 a3) + 0); omega) (zx_cs1 (by show 0 ≤ (0 : Int) + ((-1) * a2 + (1 * a4 + 0)); omega) zx_cs0)), zx_eF0, zx_k0⟩
def zx_D988 : zx_L := zx_Lc [] 7 [(2000141, 4), (2000099, 6), (256, 1)] [] [((0, 25769803776), [(0, 1, 0), (1, 0, 1), (2, 0, 4294967296), (3, 0, 18446744073709551616)]), ((0, 0), [(3, 0, 4294967296), (4, 1, 0), (5, 0, 1)]), ((0, 1), [(7, 1, 0)]), ((0, 0), [(2, 0, 4294967296), (5, 0, 1), (6, 1, 0)]), ((0, 0), [(5, 0, 1), (9, 1, 0)])] [((0, 0), [(1, 1, 0)]), ((4294967276, 0), [(1, 0, 1)]), ((0, 0), [(3, 1, 0)]), ((4294967276, 0), [(3, 0, 1)]), ((0, 0), [(5, 1, 0)]), ((4294967276, 0), [(5, 0, 1)]), ((0, 0), [(2, 1, 0)]), ((15, 0), [(2, 0, 1)]), ((0, 1), [(2, 0, 1), (3, 1, 0)])] [([], [], [(2000142, ((0, 0), [(0, 1, 0)]), ((0, 0), [(8, 1, 0)]))], [])]
theorem zx_D988_ok {PT : Nat → zz_W → Prop} : zx_Lok 64 zHT PT zx_D988 := by
  refine zx_Lc_ok (fun w hI hK ins hl hr he hg => ?_)
  obtain ⟨a0, a1, a2, a3, a4, a5, a6, rfl⟩ := zx_i7 hl
  have e0 : ((-25769803776) : Int) + (1 * a0 + ((-1) * a1 + ((-4294967296) * a2 + ((-18446744073709551616) * a3 + 0)))) = 0 := he _ List.mem_cons_self
  have e1 : (0 : Int) + ((-4294967296) * a3 + (1 * a4 + ((-1) * a5 + 0))) = 0 := he _ (List.mem_cons_of_mem _ List.mem_cons_self)
  have e2 : ((-1) : Int) + (1 * (zk_xe w 2000141 a4) + 0) = 0 := he _ (List.mem_cons_of_mem _ (List.mem_cons_of_mem _ List.mem_cons_self))
  have e3 : (0 : Int) + ((-4294967296) * a2 + ((-1) * a5 + (1 * a6 + 0))) = 0 := he _ (List.mem_cons_of_mem _ (List.mem_cons_of_mem _ (List.mem_cons_of_mem _ List.mem_cons_self)))
  have e4 : (0 : Int) + ((-1) * a5 + (1 * (zk_xe w 256 a1) + 0)) = 0 := he _ (List.mem_cons_of_mem _ (List.mem_cons_of_mem _ (List.mem_cons_of_mem _ (List.mem_cons_of_mem _ List.mem_cons_self))))
  have g0 : 0 ≤ (0 : Int) + (1 * a1 + 0) := hg _ List.mem_cons_self
  have g1 : 0 ≤ (4294967276 : Int) + ((-1) * a1 + 0) := hg _ (List.mem_cons_of_mem _ List.mem_cons_self)
  have g2 : 0 ≤ (0 : Int) + (1 * a3 + 0) := hg _ (List.mem_cons_of_mem _ (List.mem_cons_of_mem _ List.mem_cons_self))
  have g3 : 0 ≤ (4294967276 : Int) + ((-1) * a3 + 0) := hg _ (List.mem_cons_of_mem _ (List.mem_cons_of_mem _ (List.mem_cons_of_mem _ List.mem_cons_self)))
  have g4 : 0 ≤ (0 : Int) + (1 * a5 + 0) := hg _ (List.mem_cons_of_mem _ (List.mem_cons_of_mem _ (List.mem_cons_of_mem _ (List.mem_cons_of_mem _ List.mem_cons_self))))
  have g5 : 0 ≤ (4294967276 : Int) + ((-1) * a5 + 0) := hg _ (List.mem_cons_of_mem _ (List.mem_cons_of_mem _ (List.mem_cons_of_mem _ (List.mem_cons_of_mem _ (List.mem_cons_of_mem _ List.mem_cons_self)))))
  have g6 : 0 ≤ (0 : Int) + (1 * a2 + 0) := hg _ (List.mem_cons_of_mem _ (List.mem_cons_of_mem _ (List.mem_cons_of_mem _ (List.mem_cons_of_mem _ (List.mem_cons_of_mem _ (List.mem_cons_of_mem _ List.mem_cons_self))))))
  have g7 : 0 ≤ (15 : Int) + ((-1) * a2 + 0) := hg _ (List.mem_cons_of_mem _ (List.mem_cons_of_mem _ (List.mem_cons_of_mem _ (List.mem_cons_of_mem _ (List.mem_cons_of_mem _ (List.mem_cons_of_mem _ (List.mem_cons_of_mem _ List.mem_cons_self)))))))
  have g8 : 0 ≤ ((-1) : Int) + ((-1) * a2 + (1 * a3 + 0)) := hg _ (List.mem_cons_of_mem _ (List.mem_cons_of_mem _ (List.mem_cons_of_mem _ (List.mem_cons_of_mem _ (List.mem_cons_of_mem _ (List.mem_cons_of_mem _ (List.mem_cons_of_mem _ (List.mem_cons_of_mem _ List.mem_cons_self))))))))
  have r0 : 0 ≤ a4 := hr _ List.mem_cons_self
  have r1 : 0 ≤ a6 := hr _ (List.mem_cons_of_mem _ List.mem_cons_self)
  have r2 : 0 ≤ a1 := hr _ (List.mem_cons_of_mem _ (List.mem_cons_of_mem _ List.mem_cons_self))
  have hp := (zc_141 (w := w) (j := a4) (n := a5) (m := a3) (by omega) (by omega) (by omega) (by omega) (by omega) ).mp (by omega)
  have hn := zc_ng (k := a2) hp (by omega) (by omega) (by omega) (by omega)
  rw [show a5 + 4294967296 * a2 = a6 by omega] at hn
  have q := (hn.1 (by omega)).1
  have k0 : zh_e w 256 (a1) = zk_xe w 256 a1 := by rw [zk_xe_r (i := 256) (by decide)]; show zk_el w 256 (a1) = zk_el w 256 a1; rw [show a1 = a1 by omega]
  have hx : zk_xe w 2000142 a0 = zk_xe w 2000099 a6 := by
    rw [zc_142 (w := w) (j := a0) (q := a1) (s := (a2 + 6)) (m := a3) (by omega) (by omega) (by omega) (by omega) (by omega) (by omega) (by omega) , k0, show zk_xe w 256 a1 = a5 by omega, q]
    unfold zc_xs
    rw [if_neg (by omega), if_pos (by omega), show (a2 + 6 - 6).toNat = a2.toNat by omega]
  exact ⟨_, List.mem_cons_self, [], rfl, zx_bnil, zx_cs0, (zx_eF1 (by show 0 ≤ (0 : Int) + (1 * a0 + 0); omega) (by show zk_xe w 2000142 ((0 : Int) + (1 * a0 + 0)) = (0 : Int) + (1 * (zk_xe w 2000099 a6) + 0); rw [show (0 : Int) + (1 * a0 + 0) = a0 by omega]; exact hx.trans (by omega)) zx_eF0), zx_k0⟩
def zx_D989 : zx_L := zx_Lc [] 5 [(257, 0)] [] [((0, 25769803776), [(0, 0, 1), (1, 0, 18446744078004518912), (2, 1, 0)]), ((0, 30064771072), [(0, 0, 1), (1, 0, 18446744078004518912), (3, 1, 0)]), ((0, 34359738368), [(0, 0, 1), (1, 0, 18446744078004518912), (4, 1, 0)])] [((0, 0), [(0, 1, 0)]), ((4294967276, 0), [(0, 0, 1)]), ((0, 0), [(1, 1, 0)]), ((4294967276, 0), [(1, 0, 1)]), ((0, 1), [(1, 1, 0)]), ((8, 0), [(1, 0, 1)])] [([], [], [(2000142, ((0, 0), [(2, 1, 0)]), ((44, 0), [])), (2000142, ((0, 0), [(3, 1, 0)]), ((48, 0), [(5, 1, 0)])), (2000142, ((0, 0), [(4, 1, 0)]), ((10, 0), []))], [])]
theorem zx_D989_ok {PT : Nat → zz_W → Prop} : zx_Lok 64 zHT PT zx_D989 := by
  refine zx_Lc_ok (fun w hI hK ins hl hr he hg => ?_)
  obtain ⟨a0, a1, a2, a3, a4, rfl⟩ := zx_i5 hl
  have e0 : ((-25769803776) : Int) + ((-1) * a0 + ((-18446744078004518912) * a1 + (1 * a2 + 0))) = 0 := he _ List.mem_cons_self
  have e1 : ((-30064771072) : Int) + ((-1) * a0 + ((-18446744078004518912) * a1 + (1 * a3 + 0))) = 0 := he _ (List.mem_cons_of_mem _ List.mem_cons_self)
  have e2 : ((-34359738368) : Int) + ((-1) * a0 + ((-18446744078004518912) * a1 + (1 * a4 + 0))) = 0 := he _ (List.mem_cons_of_mem _ (List.mem_cons_of_mem _ List.mem_cons_self))
  have g0 : 0 ≤ (0 : Int) + (1 * a0 + 0) := hg _ List.mem_cons_self
  have g1 : 0 ≤ (4294967276 : Int) + ((-1) * a0 + 0) := hg _ (List.mem_cons_of_mem _ List.mem_cons_self)
  have g2 : 0 ≤ (0 : Int) + (1 * a1 + 0) := hg _ (List.mem_cons_of_mem _ (List.mem_cons_of_mem _ List.mem_cons_self))
  have g3 : 0 ≤ (4294967276 : Int) + ((-1) * a1 + 0) := hg _ (List.mem_cons_of_mem _ (List.mem_cons_of_mem _ (List.mem_cons_of_mem _ List.mem_cons_self)))
  have g4 : 0 ≤ ((-1) : Int) + (1 * a1 + 0) := hg _ (List.mem_cons_of_mem _ (List.mem_cons_of_mem _ (List.mem_cons_of_mem _ (List.mem_cons_of_mem _ List.mem_cons_self))))
  have g5 : 0 ≤ (8 : Int) + ((-1) * a1 + 0) := hg _ (List.mem_cons_of_mem _ (List.mem_cons_of_mem _ (List.mem_cons_of_mem _ (List.mem_cons_of_mem _ (List.mem_cons_of_mem _ List.mem_cons_self)))))
  have r0 : 0 ≤ a0 := hr _ List.mem_cons_self
  have k0 : zh_e w 257 (a0) = zk_xe w 257 a0 := by rw [zk_xe_r (i := 257) (by decide)]; show zk_el w 257 (a0) = zk_el w 257 a0; rw [show a0 = a0 by omega]
  have h1 : zk_xe w 2000142 a2 = 44 := by
    rw [zc_142 (w := w) (j := a2) (q := a0) (s := (a1 + 6)) (m := a1) (by omega) (by omega) (by omega) (by omega) (by omega) (by omega) (by omega) ]
    unfold zc_xs
    rw [if_neg (by omega), if_neg (by omega), if_pos (by omega)]
  have h2 : zk_xe w 2000142 a3 = 48 + zk_xe w 257 a0 := by
    rw [zc_142 (w := w) (j := a3) (q := a0) (s := (a1 + 7)) (m := a1) (by omega) (by omega) (by omega) (by omega) (by omega) (by omega) (by omega) , k0]
    unfold zc_xs
    rw [if_neg (by omega), if_neg (by omega), if_neg (by omega), if_pos (by omega)]
  have h3 : zk_xe w 2000142 a4 = 10 := by
    rw [zc_142 (w := w) (j := a4) (q := a0) (s := (a1 + 8)) (m := a1) (by omega) (by omega) (by omega) (by omega) (by omega) (by omega) (by omega) ]
    unfold zc_xs
    rw [if_neg (by omega), if_neg (by omega), if_neg (by omega), if_neg (by omega)]
  exact ⟨_, List.mem_cons_self, [], rfl, zx_bnil, zx_cs0, (zx_eF1 (by show 0 ≤ (0 : Int) + (1 * a2 + 0); omega) (by show zk_xe w 2000142 ((0 : Int) + (1 * a2 + 0)) = (44 : Int) + (0); rw [show (0 : Int) + (1 * a2 + 0) = a2 by omega]; omega) (zx_eF1 (by show 0 ≤ (0 : Int) + (1 * a3 + 0); omega) (by show zk_xe w 2000142 ((0 : Int) + (1 * a3 + 0)) = (48 : Int) + (1 * (zk_xe w 257 a0) + 0); rw [show (0 : Int) + (1 * a3 + 0) = a3 by omega]; omega) (zx_eF1 (by show 0 ≤ (0 : Int) + (1 * a4 + 0); omega) (by show zk_xe w 2000142 ((0 : Int) + (1 * a4 + 0)) = (10 : Int) + (0); rw [show (0 : Int) + (1 * a4 + 0) = a4 by omega]; omega) zx_eF0))), zx_k0⟩
def zx_D992 : zx_L := zx_Lc [] 7 [(2000143, 0), (2000141, 5), (256, 2), (257, 2)] [] [((0, 166020696663385964544), [(0, 1, 0), (1, 0, 1), (2, 0, 4294967296), (3, 0, 79228162532711081667253501952)]), ((0, 1), [(7, 1, 0)]), ((0, 4294967296), [(1, 0, 1), (2, 0, 4294967296), (4, 1, 0)]), ((0, 0), [(3, 0, 4294967296), (5, 1, 0), (6, 0, 1)]), ((0, 1), [(8, 1, 0)]), ((0, 0), [(6, 0, 1), (9, 1, 0)])] [((0, 0), [(1, 1, 0)]), ((4294967276, 0), [(1, 0, 1)]), ((0, 0), [(2, 1, 0)]), ((4294967276, 0), [(2, 0, 1)]), ((0, 0), [(3, 1, 0)]), ((4294967276, 0), [(3, 0, 1)]), ((0, 0), [(6, 1, 0)]), ((4294967276, 0), [(6, 0, 1)]), ((0, 0), [(10, 1, 0)]), ((9, 0), [(10, 0, 1)])] [([], [], [(2000143, ((0, 0), [(4, 1, 0)]), ((1, 0), []))], [])]
theorem zx_D992_ok {PT : Nat → zz_W → Prop} : zx_Lok 64 zHT PT zx_D992 := by
  refine zx_Lc_ok (fun w hI hK ins hl hr he hg => ?_)
  obtain ⟨a0, a1, a2, a3, a4, a5, a6, rfl⟩ := zx_i7 hl
  have e0 : ((-166020696663385964544) : Int) + (1 * a0 + ((-1) * a1 + ((-4294967296) * a2 + ((-79228162532711081667253501952) * a3 + 0)))) = 0 := he _ List.mem_cons_self
  have e1 : ((-1) : Int) + (1 * (zk_xe w 2000143 a0) + 0) = 0 := he _ (List.mem_cons_of_mem _ List.mem_cons_self)
  have e2 : ((-4294967296) : Int) + ((-1) * a1 + ((-4294967296) * a2 + (1 * a4 + 0))) = 0 := he _ (List.mem_cons_of_mem _ (List.mem_cons_of_mem _ List.mem_cons_self))
  have e3 : (0 : Int) + ((-4294967296) * a3 + (1 * a5 + ((-1) * a6 + 0))) = 0 := he _ (List.mem_cons_of_mem _ (List.mem_cons_of_mem _ (List.mem_cons_of_mem _ List.mem_cons_self)))
  have e4 : ((-1) : Int) + (1 * (zk_xe w 2000141 a5) + 0) = 0 := he _ (List.mem_cons_of_mem _ (List.mem_cons_of_mem _ (List.mem_cons_of_mem _ (List.mem_cons_of_mem _ List.mem_cons_self))))
  have e5 : (0 : Int) + ((-1) * a6 + (1 * (zk_xe w 256 a2) + 0)) = 0 := he _ (List.mem_cons_of_mem _ (List.mem_cons_of_mem _ (List.mem_cons_of_mem _ (List.mem_cons_of_mem _ (List.mem_cons_of_mem _ List.mem_cons_self)))))
  have g0 : 0 ≤ (0 : Int) + (1 * a1 + 0) := hg _ List.mem_cons_self
  have g1 : 0 ≤ (4294967276 : Int) + ((-1) * a1 + 0) := hg _ (List.mem_cons_of_mem _ List.mem_cons_self)
  have g2 : 0 ≤ (0 : Int) + (1 * a2 + 0) := hg _ (List.mem_cons_of_mem _ (List.mem_cons_of_mem _ List.mem_cons_self))
  have g3 : 0 ≤ (4294967276 : Int) + ((-1) * a2 + 0) := hg _ (List.mem_cons_of_mem _ (List.mem_cons_of_mem _ (List.mem_cons_of_mem _ List.mem_cons_self)))
  have g4 : 0 ≤ (0 : Int) + (1 * a3 + 0) := hg _ (List.mem_cons_of_mem _ (List.mem_cons_of_mem _ (List.mem_cons_of_mem _ (List.mem_cons_of_mem _ List.mem_cons_self))))
  have g5 : 0 ≤ (4294967276 : Int) + ((-1) * a3 + 0) := hg _ (List.mem_cons_of_mem _ (List.mem_cons_of_mem _ (List.mem_cons_of_mem _ (List.mem_cons_of_mem _ (List.mem_cons_of_mem _ List.mem_cons_self)))))
  have g6 : 0 ≤ (0 : Int) + (1 * a6 + 0) := hg _ (List.mem_cons_of_mem _ (List.mem_cons_of_mem _ (List.mem_cons_of_mem _ (List.mem_cons_of_mem _ (List.mem_cons_of_mem _ (List.mem_cons_of_mem _ List.mem_cons_self))))))
  have g7 : 0 ≤ (4294967276 : Int) + ((-1) * a6 + 0) := hg _ (List.mem_cons_of_mem _ (List.mem_cons_of_mem _ (List.mem_cons_of_mem _ (List.mem_cons_of_mem _ (List.mem_cons_of_mem _ (List.mem_cons_of_mem _ (List.mem_cons_of_mem _ List.mem_cons_self)))))))
  have g8 : 0 ≤ (0 : Int) + (1 * (zk_xe w 257 a2) + 0) := hg _ (List.mem_cons_of_mem _ (List.mem_cons_of_mem _ (List.mem_cons_of_mem _ (List.mem_cons_of_mem _ (List.mem_cons_of_mem _ (List.mem_cons_of_mem _ (List.mem_cons_of_mem _ (List.mem_cons_of_mem _ List.mem_cons_self))))))))
  have g9 : 0 ≤ (9 : Int) + ((-1) * (zk_xe w 257 a2) + 0) := hg _ (List.mem_cons_of_mem _ (List.mem_cons_of_mem _ (List.mem_cons_of_mem _ (List.mem_cons_of_mem _ (List.mem_cons_of_mem _ (List.mem_cons_of_mem _ (List.mem_cons_of_mem _ (List.mem_cons_of_mem _ (List.mem_cons_of_mem _ List.mem_cons_self)))))))))
  have r0 : 0 ≤ a0 := hr _ List.mem_cons_self
  have r1 : 0 ≤ a5 := hr _ (List.mem_cons_of_mem _ List.mem_cons_self)
  have r2 : 0 ≤ a2 := hr _ (List.mem_cons_of_mem _ (List.mem_cons_of_mem _ List.mem_cons_self))
  have r3 : 0 ≤ a2 := hr _ (List.mem_cons_of_mem _ (List.mem_cons_of_mem _ (List.mem_cons_of_mem _ List.mem_cons_self)))
  have hp := (zc_143 (w := w) (j := a0) (u := a1) (q := a2) (s := (a3 + 9)) (m := a3) (by omega) (by omega) (by omega) (by omega) (by omega) (by omega) (by omega) (by omega) (by omega) ).mp (by omega)
  have hm := (zc_141 (w := w) (j := a5) (n := a6) (m := a3) (by omega) (by omega) (by omega) (by omega) (by omega) ).mp (by omega)
  have k0 : zh_e w 256 (a2) = zk_xe w 256 a2 := by rw [zk_xe_r (i := 256) (by decide)]; show zk_el w 256 (a2) = zk_el w 256 a2; rw [show a2 = a2 by omega]
  have k1 : zh_e w 257 (a2) = zk_xe w 257 a2 := by rw [zk_xe_r (i := 257) (by decide)]; show zk_el w 257 (a2) = zk_el w 257 a2; rw [show a2 = a2 by omega]
  have h : zc_wp (zh_e w 177) (zn_l w 173) (zn_l w 174) (zh_e w 256) (zh_e w 257) (zh_e w 178 a1) (40000 * a1) (a2 + 1) 0 0 := by
    obtain ⟨F, f0, f1, f2, f3, f4⟩ := hp
    refine ⟨fun p => if p = a2 + 1 then F a2 + 9 + a3 else F p, ?_, ?_, fun p p0 p1 => ?_, ?_, fun i i0 i1 => by omega⟩
    · show 0 ≤ (if (0 : Int) = a2 + 1 then F a2 + 9 + a3 else F 0)
      rw [if_neg (by omega)]
      exact f0
    · show (if (0 : Int) = a2 + 1 then F a2 + 9 + a3 else F 0) = 0 ∨ zh_e w 177 (40000 * a1 + (if (0 : Int) = a2 + 1 then F a2 + 9 + a3 else F 0) - 1) = 10
      rw [if_neg (by omega)]
      exact f1
    · show ∃ k, (if p + 1 = a2 + 1 then F a2 + 9 + a3 else F (p + 1)) = (if p = a2 + 1 then F a2 + 9 + a3 else F p) + 9 + k ∧ zc_wl (zh_e w 177) (zn_l w 173) (zn_l w 174) (zh_e w 256) (zh_e w 257) (40000 * a1) p (if p = a2 + 1 then F a2 + 9 + a3 else F p) k
      rw [if_neg (show ¬ p = a2 + 1 by omega)]
      by_cases c : p = a2
      · rw [if_pos (by omega), c]
        refine ⟨a3, rfl, by rw [k0]; omega, by rw [k0, show zk_xe w 256 a2 = a6 by omega]; exact hm, by rw [k1]; omega, by rw [k1]; omega, fun i i0 i1 => f4 i i0 (by omega)⟩
      · rw [if_neg (by omega)]
        exact f2 p p0 (by omega)
    · show (if a2 + 1 = a2 + 1 then F a2 + 9 + a3 else F (a2 + 1)) + 0 = _
      rw [if_pos rfl]
      omega
  exact ⟨_, List.mem_cons_self, [], rfl, zx_bnil, zx_cs0, (zx_eF1 (by show 0 ≤ (0 : Int) + (1 * a4 + 0); omega) (by show zk_xe w 2000143 ((0 : Int) + (1 * a4 + 0)) = (1 : Int) + (0); rw [show (0 : Int) + (1 * a4 + 0) = a4 by omega]; exact ((zc_143 (w := w) (j := a4) (u := a1) (q := (a2 + 1)) (s := 0) (m := 0) (by omega) (by omega) (by omega) (by omega) (by omega) (by omega) (by omega) (by omega) (by omega) ).mpr h).trans (by omega)) zx_eF0), zx_k0⟩
def zx_D993 : zx_L := zx_Lc [] 1 [(2000144, 0), (178, 0)] [] [((0, 1), [(1, 1, 0)])] [((0, 0), [(0, 1, 0)]), ((4294967276, 0), [(0, 0, 1)]), ((0, 0), [(2, 1, 0)])] [([], [], [(2000143, ((0, 0), [(0, 1, 0)]), ((1, 0), []))], [])]
theorem zx_D993_ok {PT : Nat → zz_W → Prop} : zx_Lok 64 zHT PT zx_D993 := by
  refine zx_Lc_ok (fun w hI hK ins hl hr he hg => ?_)
  obtain ⟨a0, rfl⟩ := zx_i1 hl
  have e0 : ((-1) : Int) + (1 * (zk_xe w 2000144 a0) + 0) = 0 := he _ List.mem_cons_self
  have g0 : 0 ≤ (0 : Int) + (1 * a0 + 0) := hg _ List.mem_cons_self
  have g1 : 0 ≤ (4294967276 : Int) + ((-1) * a0 + 0) := hg _ (List.mem_cons_of_mem _ List.mem_cons_self)
  have g2 : 0 ≤ (0 : Int) + (1 * (zk_xe w 178 a0) + 0) := hg _ (List.mem_cons_of_mem _ (List.mem_cons_of_mem _ List.mem_cons_self))
  have r0 : 0 ≤ a0 := hr _ List.mem_cons_self
  have r1 : 0 ≤ a0 := hr _ (List.mem_cons_of_mem _ List.mem_cons_self)
  have k0 : zh_e w 178 (a0) = zk_xe w 178 a0 := by rw [zk_xe_r (i := 178) (by decide)]; show zk_el w 178 (a0) = zk_el w 178 a0; rw [show a0 = a0 by omega]
  have hb : zh_e w 178 a0 = 0 ∨ zh_e w 177 (40000 * a0 + zh_e w 178 a0 - 1) = 10 := by
    have q : zk_xe w 2000144 a0 = 1 := by omega
    rw [zyq144] at q
    exact zh_b1' q
  have h : zc_wp (zh_e w 177) (zn_l w 173) (zn_l w 174) (zh_e w 256) (zh_e w 257) (zh_e w 178 a0) (40000 * a0) 0 0 0 := ⟨fun _ => zh_e w 178 a0, by show 0 ≤ zh_e w 178 a0; omega, hb, fun p p0 p1 => by omega, by show zh_e w 178 a0 + 0 = _; omega, fun i i0 i1 => by omega⟩
  exact ⟨_, List.mem_cons_self, [], rfl, zx_bnil, zx_cs0, (zx_eF1 (by show 0 ≤ (0 : Int) + (1 * a0 + 0); omega) (by show zk_xe w 2000143 ((0 : Int) + (1 * a0 + 0)) = (1 : Int) + (0); rw [show (0 : Int) + (1 * a0 + 0) = a0 by omega]; exact ((zc_143 (w := w) (j := a0) (u := a0) (q := 0) (s := 0) (m := 0) (by omega) (by omega) (by omega) (by omega) (by omega) (by omega) (by omega) (by omega) (by omega) ).mpr h).trans (by omega)) zx_eF0), zx_k0⟩
def zx_D994 : zx_L := zx_Lc [] 1 [] [] [] [((0, 0), [(0, 1, 0)])] [([(0, 1)], [], [(2000143, ((0, 0), [(0, 1, 0)]), ((0, 0), [(1, 1, 0)]))], [])]
theorem zx_D994_ok {PT : Nat → zz_W → Prop} : zx_Lok 64 zHT PT zx_D994 := by
  refine zx_Lc_ok (fun w hI hK ins hl hr he hg => ?_)
  obtain ⟨a0, rfl⟩ := zx_i1 hl
  have g0 : 0 ≤ (0 : Int) + (1 * a0 + 0) := hg _ List.mem_cons_self
  have hb := zc_143d (w := w) (j := a0)
  exact ⟨_, List.mem_cons_self, [zk_xe w 2000143 a0], rfl, (zx_bcons (by show (0 : Int) ≤ zk_xe w 2000143 a0 ∧ zk_xe w 2000143 a0 ≤ (1 : Int); omega) zx_bnil), zx_cs0, (zx_eF1 (by show 0 ≤ (0 : Int) + (1 * a0 + 0); omega) (by show zk_xe w 2000143 ((0 : Int) + (1 * a0 + 0)) = (0 : Int) + (1 * (zk_xe w 2000143 a0) + 0); rw [show (0 : Int) + (1 * a0 + 0) = a0 by omega]; omega) zx_eF0), zx_k0⟩
def zx_D997 : zx_L := zx_Lc [] 2 [(2000143, 0)] [] [((0, 0), [(0, 1, 0), (1, 0, 1)])] [((0, 0), [(0, 1, 0)])] [([], [], [(2000143, ((0, 0), [(1, 1, 0)]), ((0, 0), [(2, 1, 0)]))], [])]
theorem zx_D997_ok {PT : Nat → zz_W → Prop} : zx_Lok 64 zHT PT zx_D997 := by
  refine zx_Lc_ok (fun w hI hK ins hl hr he hg => ?_)
  obtain ⟨a0, a1, rfl⟩ := zx_i2 hl
  have e0 : (0 : Int) + (1 * a0 + ((-1) * a1 + 0)) = 0 := he _ List.mem_cons_self
  have g0 : 0 ≤ (0 : Int) + (1 * a0 + 0) := hg _ List.mem_cons_self
  have r0 : 0 ≤ a0 := hr _ List.mem_cons_self
  have e : a1 = a0 := by omega
  exact ⟨_, List.mem_cons_self, [], rfl, zx_bnil, zx_cs0, (zx_eF1 (by show 0 ≤ (0 : Int) + (1 * a1 + 0); omega) (by show zk_xe w 2000143 ((0 : Int) + (1 * a1 + 0)) = (0 : Int) + (1 * (zk_xe w 2000143 a0) + 0); rw [show (0 : Int) + (1 * a1 + 0) = a1 by omega]; rw [e]; omega) zx_eF0), zx_k0⟩
def zx_E660 : zx_V := zx_Vc 177 [] 5 [(2000143, 0), (178, 1)] [((0, 0), [(2, 1, 0), (3, 0, 1), (4, 0, 4294967296), (5, 0, 18446744073709551616), (6, 0, 79228162514264337593543950336)]), ((0, 1), [(7, 1, 0)])] [((0, 0), [(3, 1, 0)]), ((4294967276, 0), [(3, 0, 1)]), ((0, 0), [(4, 1, 0)]), ((4294967276, 0), [(4, 0, 1)]), ((0, 0), [(5, 1, 0)]), ((4294967276, 0), [(5, 0, 1)]), ((0, 0), [(6, 1, 0)]), ((4294967276, 0), [(6, 0, 1)]), ((0, 0), [(0, 1, 0), (3, 0, 40000), (8, 0, 1)]), ((0, 0), [(8, 1, 0)])] [(2000143, ((0, 0), [(2, 1, 0)]), ((1, 0), []))]
theorem zx_E660_ok {PT : Nat → zz_W → Prop} : zx_Vok 64 zHT PT zx_E660 := by
  refine zx_Vc_ok (fun w w' j ins hI hI' h0 hw hK hl he hg => ?_)
  obtain ⟨a0, a1, a2, a3, a4, rfl⟩ := zx_i5 hl
  have e0 : (0 : Int) + (1 * a0 + ((-1) * a1 + ((-4294967296) * a2 + ((-18446744073709551616) * a3 + ((-79228162514264337593543950336) * a4 + 0))))) = 0 := he _ List.mem_cons_self
  have e1 : ((-1) : Int) + (1 * (zk_xe w 2000143 a0) + 0) = 0 := he _ (List.mem_cons_of_mem _ List.mem_cons_self)
  have g0 : 0 ≤ (0 : Int) + (1 * a1 + 0) := hg _ List.mem_cons_self
  have g1 : 0 ≤ (4294967276 : Int) + ((-1) * a1 + 0) := hg _ (List.mem_cons_of_mem _ List.mem_cons_self)
  have g2 : 0 ≤ (0 : Int) + (1 * a2 + 0) := hg _ (List.mem_cons_of_mem _ (List.mem_cons_of_mem _ List.mem_cons_self))
  have g3 : 0 ≤ (4294967276 : Int) + ((-1) * a2 + 0) := hg _ (List.mem_cons_of_mem _ (List.mem_cons_of_mem _ (List.mem_cons_of_mem _ List.mem_cons_self)))
  have g4 : 0 ≤ (0 : Int) + (1 * a3 + 0) := hg _ (List.mem_cons_of_mem _ (List.mem_cons_of_mem _ (List.mem_cons_of_mem _ (List.mem_cons_of_mem _ List.mem_cons_self))))
  have g5 : 0 ≤ (4294967276 : Int) + ((-1) * a3 + 0) := hg _ (List.mem_cons_of_mem _ (List.mem_cons_of_mem _ (List.mem_cons_of_mem _ (List.mem_cons_of_mem _ (List.mem_cons_of_mem _ List.mem_cons_self)))))
  have g6 : 0 ≤ (0 : Int) + (1 * a4 + 0) := hg _ (List.mem_cons_of_mem _ (List.mem_cons_of_mem _ (List.mem_cons_of_mem _ (List.mem_cons_of_mem _ (List.mem_cons_of_mem _ (List.mem_cons_of_mem _ List.mem_cons_self))))))
  have g7 : 0 ≤ (4294967276 : Int) + ((-1) * a4 + 0) := hg _ (List.mem_cons_of_mem _ (List.mem_cons_of_mem _ (List.mem_cons_of_mem _ (List.mem_cons_of_mem _ (List.mem_cons_of_mem _ (List.mem_cons_of_mem _ (List.mem_cons_of_mem _ List.mem_cons_self)))))))
  have g8 : 0 ≤ (0 : Int) + (1 * j + ((-40000) * a1 + ((-1) * (zk_xe w 178 a1) + 0))) := hg _ (List.mem_cons_of_mem _ (List.mem_cons_of_mem _ (List.mem_cons_of_mem _ (List.mem_cons_of_mem _ (List.mem_cons_of_mem _ (List.mem_cons_of_mem _ (List.mem_cons_of_mem _ (List.mem_cons_of_mem _ List.mem_cons_self))))))))
  have g9 : 0 ≤ (0 : Int) + (1 * (zk_xe w 178 a1) + 0) := hg _ (List.mem_cons_of_mem _ (List.mem_cons_of_mem _ (List.mem_cons_of_mem _ (List.mem_cons_of_mem _ (List.mem_cons_of_mem _ (List.mem_cons_of_mem _ (List.mem_cons_of_mem _ (List.mem_cons_of_mem _ (List.mem_cons_of_mem _ List.mem_cons_self)))))))))
  have hp := (zc_143 (w := w) (j := a0) (u := a1) (q := a2) (s := a3) (m := a4) (by omega) (by omega) (by omega) (by omega) (by omega) (by omega) (by omega) (by omega) (by omega) ).mp (by omega)
  have k0 : zh_e w 178 (a1) = zk_xe w 178 a1 := by rw [zk_xe_r (i := 178) (by decide)]; show zk_el w 178 (a1) = zk_el w 178 a1; rw [show a1 = a1 by omega]
  have o178 : zh_e w' 178 = zh_e w 178 := zh_e_g (hw.1 178 (by decide))
  have o256 : zh_e w' 256 = zh_e w 256 := zh_e_g (hw.1 256 (by decide))
  have o257 : zh_e w' 257 = zh_e w 257 := zh_e_g (hw.1 257 (by decide))
  have l173 : zn_l w' 173 = zn_l w 173 := zn_l_g (hw.1 173 (by decide))
  have l174 : zn_l w' 174 = zn_l w 174 := zn_l_g (hw.1 174 (by decide))
  have h : zc_wp (zh_e w' 177) (zn_l w' 173) (zn_l w' 174) (zh_e w' 256) (zh_e w' 257) (zh_e w' 178 a1) (40000 * a1) a2 a3 a4 := by
    rw [o178, o256, o257, l173, l174]
    exact zc_wpc (by omega) (by omega) (fun i i0 i1 => hw.2 (40000 * a1 + i) (by omega) (by rw [k0] at i1; omega)) hp
  exact (zx_eF1 (by show 0 ≤ (0 : Int) + (1 * a0 + 0); omega) (by show zk_xe w' 2000143 ((0 : Int) + (1 * a0 + 0)) = (1 : Int) + (0); rw [show (0 : Int) + (1 * a0 + 0) = a0 by omega]; exact ((zc_143 (w := w') (j := a0) (u := a1) (q := a2) (s := a3) (m := a4) (by omega) (by omega) (by omega) (by omega) (by omega) (by omega) (by omega) (by omega) (by omega) ).mpr h).trans (by omega)) zx_eF0)
def zx_E661 : zx_V := zx_Vc 178 [] 8 [(2000143, 0), (178, 1), (177, 5), (2000142, 6)] [((0, 0), [(0, 1, 0), (3, 0, 1)]), ((0, 1), [(1, 1, 0), (11, 0, 1)]), ((0, 0), [(2, 1, 0), (3, 0, 1), (4, 0, 4294967296), (5, 0, 18446744073709551616), (6, 0, 79228162514264337593543950336)]), ((0, 1), [(10, 1, 0)]), ((0, 0), [(3, 0, 40000), (7, 1, 0), (11, 0, 1)]), ((0, 0), [(4, 0, 1), (5, 0, 4294967296), (6, 0, 18446744073709551616), (8, 1, 0)]), ((0, 18446744073709551616), [(3, 0, 1), (4, 0, 4294967296), (5, 0, 18446744073709551616), (6, 0, 79228162514264337593543950336), (9, 1, 0)]), ((0, 0), [(12, 1, 0), (13, 0, 1)])] [((0, 0), [(3, 1, 0)]), ((4294967276, 0), [(3, 0, 1)]), ((0, 0), [(4, 1, 0)]), ((4294967276, 0), [(4, 0, 1)]), ((0, 0), [(5, 1, 0)]), ((4294967276, 0), [(5, 0, 1)]), ((0, 0), [(6, 1, 0)]), ((4294967276, 0), [(6, 0, 1)]), ((0, 0), [(11, 1, 0)])] [(2000143, ((0, 0), [(9, 1, 0)]), ((1, 0), []))]
theorem zx_E661_ok {PT : Nat → zz_W → Prop} : zx_Vok 64 zHT PT zx_E661 := by
  refine zx_Vc_ok (fun w w' j ins hI hI' h0 hw hK hl he hg => ?_)
  obtain ⟨a0, a1, a2, a3, a4, a5, a6, a7, rfl⟩ := zx_i8 hl
  have e0 : (0 : Int) + (1 * j + ((-1) * a1 + 0)) = 0 := he _ List.mem_cons_self
  have e1 : ((-1) : Int) + (1 * (zk_el w' 178 j) + ((-1) * (zk_xe w 178 a1) + 0)) = 0 := he _ (List.mem_cons_of_mem _ List.mem_cons_self)
  have e2 : (0 : Int) + (1 * a0 + ((-1) * a1 + ((-4294967296) * a2 + ((-18446744073709551616) * a3 + ((-79228162514264337593543950336) * a4 + 0))))) = 0 := he _ (List.mem_cons_of_mem _ (List.mem_cons_of_mem _ List.mem_cons_self))
  have e3 : ((-1) : Int) + (1 * (zk_xe w 2000143 a0) + 0) = 0 := he _ (List.mem_cons_of_mem _ (List.mem_cons_of_mem _ (List.mem_cons_of_mem _ List.mem_cons_self)))
  have e4 : (0 : Int) + ((-40000) * a1 + (1 * a5 + ((-1) * (zk_xe w 178 a1) + 0))) = 0 := he _ (List.mem_cons_of_mem _ (List.mem_cons_of_mem _ (List.mem_cons_of_mem _ (List.mem_cons_of_mem _ List.mem_cons_self))))
  have e5 : (0 : Int) + ((-1) * a2 + ((-4294967296) * a3 + ((-18446744073709551616) * a4 + (1 * a6 + 0)))) = 0 := he _ (List.mem_cons_of_mem _ (List.mem_cons_of_mem _ (List.mem_cons_of_mem _ (List.mem_cons_of_mem _ (List.mem_cons_of_mem _ List.mem_cons_self)))))
  have e6 : ((-18446744073709551616) : Int) + ((-1) * a1 + ((-4294967296) * a2 + ((-18446744073709551616) * a3 + ((-79228162514264337593543950336) * a4 + (1 * a7 + 0))))) = 0 := he _ (List.mem_cons_of_mem _ (List.mem_cons_of_mem _ (List.mem_cons_of_mem _ (List.mem_cons_of_mem _ (List.mem_cons_of_mem _ (List.mem_cons_of_mem _ List.mem_cons_self))))))
  have e7 : (0 : Int) + (1 * (zk_xe w 177 a5) + ((-1) * (zk_xe w 2000142 a6) + 0)) = 0 := he _ (List.mem_cons_of_mem _ (List.mem_cons_of_mem _ (List.mem_cons_of_mem _ (List.mem_cons_of_mem _ (List.mem_cons_of_mem _ (List.mem_cons_of_mem _ (List.mem_cons_of_mem _ List.mem_cons_self)))))))
  have g0 : 0 ≤ (0 : Int) + (1 * a1 + 0) := hg _ List.mem_cons_self
  have g1 : 0 ≤ (4294967276 : Int) + ((-1) * a1 + 0) := hg _ (List.mem_cons_of_mem _ List.mem_cons_self)
  have g2 : 0 ≤ (0 : Int) + (1 * a2 + 0) := hg _ (List.mem_cons_of_mem _ (List.mem_cons_of_mem _ List.mem_cons_self))
  have g3 : 0 ≤ (4294967276 : Int) + ((-1) * a2 + 0) := hg _ (List.mem_cons_of_mem _ (List.mem_cons_of_mem _ (List.mem_cons_of_mem _ List.mem_cons_self)))
  have g4 : 0 ≤ (0 : Int) + (1 * a3 + 0) := hg _ (List.mem_cons_of_mem _ (List.mem_cons_of_mem _ (List.mem_cons_of_mem _ (List.mem_cons_of_mem _ List.mem_cons_self))))
  have g5 : 0 ≤ (4294967276 : Int) + ((-1) * a3 + 0) := hg _ (List.mem_cons_of_mem _ (List.mem_cons_of_mem _ (List.mem_cons_of_mem _ (List.mem_cons_of_mem _ (List.mem_cons_of_mem _ List.mem_cons_self)))))
  have g6 : 0 ≤ (0 : Int) + (1 * a4 + 0) := hg _ (List.mem_cons_of_mem _ (List.mem_cons_of_mem _ (List.mem_cons_of_mem _ (List.mem_cons_of_mem _ (List.mem_cons_of_mem _ (List.mem_cons_of_mem _ List.mem_cons_self))))))
  have g7 : 0 ≤ (4294967276 : Int) + ((-1) * a4 + 0) := hg _ (List.mem_cons_of_mem _ (List.mem_cons_of_mem _ (List.mem_cons_of_mem _ (List.mem_cons_of_mem _ (List.mem_cons_of_mem _ (List.mem_cons_of_mem _ (List.mem_cons_of_mem _ List.mem_cons_self)))))))
  have g8 : 0 ≤ (0 : Int) + (1 * (zk_xe w 178 a1) + 0) := hg _ (List.mem_cons_of_mem _ (List.mem_cons_of_mem _ (List.mem_cons_of_mem _ (List.mem_cons_of_mem _ (List.mem_cons_of_mem _ (List.mem_cons_of_mem _ (List.mem_cons_of_mem _ (List.mem_cons_of_mem _ List.mem_cons_self))))))))
  have hp := (zc_143 (w := w) (j := a0) (u := a1) (q := a2) (s := a3) (m := a4) (by omega) (by omega) (by omega) (by omega) (by omega) (by omega) (by omega) (by omega) (by omega) ).mp (by omega)
  have k0 : zh_e w 178 (a1) = zk_xe w 178 a1 := by rw [zk_xe_r (i := 178) (by decide)]; show zk_el w 178 (a1) = zk_el w 178 a1; rw [show a1 = a1 by omega]
  have k1 : zh_e w 177 (40000 * a1 + zk_xe w 178 a1) = zk_xe w 177 a5 := by rw [zk_xe_r (i := 177) (by decide)]; show zk_el w 177 (40000 * a1 + zk_xe w 178 a1) = zk_el w 177 a5; rw [show 40000 * a1 + zk_xe w 178 a1 = a5 by omega]
  have hx := zc_142 (w := w) (j := a6) (q := a2) (s := a3) (m := a4) (by omega) (by omega) (by omega) (by omega) (by omega) (by omega) (by omega) 
  have o177 : zh_e w' 177 = zh_e w 177 := zh_e_g (hw.1 177 (by decide))
  have o256 : zh_e w' 256 = zh_e w 256 := zh_e_g (hw.1 256 (by decide))
  have o257 : zh_e w' 257 = zh_e w 257 := zh_e_g (hw.1 257 (by decide))
  have l173 : zn_l w' 173 = zn_l w 173 := zn_l_g (hw.1 173 (by decide))
  have l174 : zn_l w' 174 = zn_l w 174 := zn_l_g (hw.1 174 (by decide))
  have kS : zh_e w' 178 a1 = zk_xe w 178 a1 + 1 := by
    show zk_el w' 178 a1 = _
    have q : zk_el w' 178 a1 = zk_el w' 178 j := by rw [show a1 = j by omega]
    omega
  have h : zc_wp (zh_e w' 177) (zn_l w' 173) (zn_l w' 174) (zh_e w' 256) (zh_e w' 257) (zh_e w' 178 a1) (40000 * a1) a2 (a3 + 1) a4 := by
    rw [kS, o177, o256, o257, l173, l174]
    rw [k0] at hp
    obtain ⟨F, f0, f1, f2, f3, f4⟩ := hp
    refine ⟨F, f0, f1, f2, by omega, fun i i0 i1 => ?_⟩
    by_cases c : i = a3
    · rw [c, show 40000 * a1 + F a2 + a3 = 40000 * a1 + zk_xe w 178 a1 by omega, k1, ← hx]
      omega
    · exact f4 i i0 (by omega)
  exact (zx_eF1 (by show 0 ≤ (0 : Int) + (1 * a7 + 0); omega) (by show zk_xe w' 2000143 ((0 : Int) + (1 * a7 + 0)) = (1 : Int) + (0); rw [show (0 : Int) + (1 * a7 + 0) = a7 by omega]; exact ((zc_143 (w := w') (j := a7) (u := a1) (q := a2) (s := (a3 + 1)) (m := a4) (by omega) (by omega) (by omega) (by omega) (by omega) (by omega) (by omega) (by omega) (by omega) ).mpr h).trans (by omega)) zx_eF0)
/-- lines of a typed text -/
theorem zc_145 {w : zz_W} {j u a k t : Int} (e : j = u + 4294967296 * a + 18446744073709551616 * k + 79228162514264337593543950336 * t) (u0 : 0 ≤ u) (u1 : u < 4294967296) (a0 : 0 ≤ a) (a1 : a < 4294967296) (k0 : 0 ≤ k) (k1 : k < 4294967296) (t0 : 0 ≤ t) (t1 : t < 4294967296) : zk_xe w 2000145 j = 1 ↔ zc_nt (zh_e w 177) (40000 * u) a k t := by
  obtain ⟨d0, d1, d2, d3⟩ := zg_d4 (j := j) (n := u) (k := a) (u := k) (l := t) (by omega) u0 u1 a0 a1 k0 k1 t0 t1
  rw [show (2000145 : Nat) = 2000000 + 145 from rfl, zk_xe_h]
  have h : zv_H 145 w j = zh_b (zc_nt (zh_e w 177) (40000 * u) a k t) := by
    show zh_b (zc_nt (zh_e w 177) (40000 * zv_dg 0 j) (zv_dg 1 j) (zv_dg 2 j) (zv_dg 3 j)) = _
    rw [d0, d1, d2, d3]
  rw [h]
  exact ⟨zh_b1', zh_b1⟩
theorem zc_146 {w : zz_W} {j u x n : Int} (e : j = u + 4294967296 * x + 18446744073709551616 * n) (u0 : 0 ≤ u) (u1 : u < 4294967296) (x0 : 0 ≤ x) (x1 : x < 4294967296) (n0 : 0 ≤ n) (n1 : n < 4294967296) : zk_xe w 2000146 j = 1 ↔ zc_fn (zh_e w 177) (zh_e w 261) (zh_e w 262) (40000 * u) (zh_e w 178 u) x n := by
  obtain ⟨d0, d1, d2⟩ := zg_d3 (j := j) (n := u) (k := x) (u := n) (by omega) u0 u1 x0 x1 n0 n1
  rw [show (2000146 : Nat) = 2000000 + 146 from rfl, zk_xe_h]
  have h : zv_H 146 w j = zh_b (zc_fn (zh_e w 177) (zh_e w 261) (zh_e w 262) (40000 * u) (zh_e w 178 u) x n) := by
    show zh_b (zc_fn (zh_e w 177) (zh_e w 261) (zh_e w 262) (40000 * zv_dg 0 j) (zh_e w 178 (zv_dg 0 j)) (zv_dg 1 j) (zv_dg 2 j)) = _
    rw [d0, d1, d2]
  rw [h]
  exact ⟨zh_b1', zh_b1⟩
theorem zc_152 {w : zz_W} {j u k : Int} (e : j = u + 4294967296 * k) (u0 : 0 ≤ u) (u1 : u < 4294967296) (k0 : 0 ≤ k) (k1 : k < 4294967296) : zk_xe w 2000152 j = zy_c (zh_e w 177) (40000 * u) k.toNat := by
  obtain ⟨q0, y0, -⟩ := zm_z1 e u0 u1
  obtain ⟨q1, -, -⟩ := zm_z1 (j := k) (a := k) (b := 0) (by omega) k0 k1
  have h1 : zv_dg 1 j = k := (y0 0).trans q1
  rw [show (2000152 : Nat) = 2000000 + 152 from rfl, zk_xe_h]
  show zy_c (zh_e w 177) (40000 * zv_dg 0 j) (zv_dg 1 j).toNat = _
  rw [q0, h1]
theorem zc_cm {T : Int → Int} {b : Int} {n : Nat} : ∀ {m : Nat}, zy_c T b n ≤ zy_c T b (n + m)
  | 0 => Int.le_refl _
  | m + 1 => by
    have h := zc_cm (T := T) (b := b) (n := n) (m := m)
    show zy_c T b n ≤ zy_c T b (n + m) + (if T (b + ((n + m : Nat) : Int)) = 10 then 1 else 0)
    split <;> omega
theorem zc_cs {T : Int → Int} {b k : Int} (k0 : 0 ≤ k) : zy_c T b (k + 1).toNat = zy_c T b k.toNat + (if T (b + k) = 10 then 1 else 0) := by
  rw [show (k + 1).toNat = k.toNat + 1 by omega]
  show zy_c T b k.toNat + (if T (b + ((k.toNat : Nat) : Int)) = 10 then 1 else 0) = _
  rw [show ((k.toNat : Nat) : Int) = k by omega]
/-- a line more -/
theorem zc_fns {T L E : Int → Int} {b z x n k t : Int} (n0 : 0 ≤ n) (x0 : 0 ≤ x) (xk : x ≤ k) (xt : x ≤ t) (tk : t ≤ k) (h : zc_fn T L E b z x n) (hn : zc_nt T b x k t) (hL : L n = x) (hE : E n = t) (hz : k = z ∨ T (b + k) = 10) (ht : t = k ∨ T (b + t) = 35) : zc_fn T L E b z (k + 1) (n + 1) := by
  obtain ⟨h1, h2, h3⟩ := h
  refine ⟨fun h => by omega, fun _ => ?_, fun i i0 i1 => ?_⟩
  · by_cases c : n = 0
    · have q := h1 c
      rw [c] at hL
      rw [hL, q]
    · exact h2 (by omega)
  · by_cases c : i = n
    · rw [if_pos (by omega), c, hL, hE]
      refine ⟨x0, by omega, fun t' a b' => (hn t' a).1 (by omega), fun hk => ?_, xt, by omega, fun t' a b' => (hn t' a).2 b', ?_⟩
      · rw [show b + (k + 1) - 1 = b + k by omega]
        rcases hz with hz | hz
        · omega
        · exact hz
      · rcases ht with ht | ht
        · exact Or.inl (by omega)
        · exact Or.inr ht
    · rw [if_neg (by omega)]
      have q := h3 i i0 (by omega)
      by_cases c2 : i = n - 1
      · rw [if_pos c2] at q
        rw [show i + 1 = n by omega, hL]
        exact q
      · rw [if_neg c2] at q
        exact q
theorem zc_fnc {T L E L' E' : Int → Int} {b z x n : Int} (hL : ∀ i, 0 ≤ i → i < n → L' i = L i) (hE : ∀ i, 0 ≤ i → i < n → E' i = E i) (h : zc_fn T L E b z x n) : zc_fn T L' E' b z x n := by
  obtain ⟨h1, h2, h3⟩ := h
  refine ⟨h1, fun hn => (hL 0 (by omega) hn).trans (h2 hn), fun i i0 i1 => ?_⟩
  have q := h3 i i0 i1
  rw [hL i i0 i1, hE i i0 i1]
  by_cases c : i = n - 1
  · rw [if_pos c] at q ⊢
    exact q
  · rw [if_neg c] at q ⊢
    rw [hL (i + 1) (by omega) (by omega)]
    exact q
def zx_D1001 : zx_L := zx_Lc [] 3 [] [] [((0, 0), [(0, 1, 0), (1, 0, 1), (2, 0, 79228162532711081671548469248)])] [((0, 0), [(1, 1, 0)]), ((4294967276, 0), [(1, 0, 1)]), ((0, 0), [(2, 1, 0)]), ((4294967276, 0), [(2, 0, 1)])] [([], [], [(2000145, ((0, 0), [(0, 1, 0)]), ((1, 0), []))], [])]
theorem zx_D1001_ok {PT : Nat → zz_W → Prop} : zx_Lok 64 zHT PT zx_D1001 := by
  refine zx_Lc_ok (fun w hI hK ins hl hr he hg => ?_)
  obtain ⟨a0, a1, a2, rfl⟩ := zx_i3 hl
  have e0 : (0 : Int) + (1 * a0 + ((-1) * a1 + ((-79228162532711081671548469248) * a2 + 0))) = 0 := he _ List.mem_cons_self
  have g0 : 0 ≤ (0 : Int) + (1 * a1 + 0) := hg _ List.mem_cons_self
  have g1 : 0 ≤ (4294967276 : Int) + ((-1) * a1 + 0) := hg _ (List.mem_cons_of_mem _ List.mem_cons_self)
  have g2 : 0 ≤ (0 : Int) + (1 * a2 + 0) := hg _ (List.mem_cons_of_mem _ (List.mem_cons_of_mem _ List.mem_cons_self))
  have g3 : 0 ≤ (4294967276 : Int) + ((-1) * a2 + 0) := hg _ (List.mem_cons_of_mem _ (List.mem_cons_of_mem _ (List.mem_cons_of_mem _ List.mem_cons_self)))
  have h : zc_nt (zh_e w 177) (40000 * a1) a2 a2 a2 := fun i i0 => ⟨fun i1 => by omega, fun i1 => by omega⟩
  exact ⟨_, List.mem_cons_self, [], rfl, zx_bnil, zx_cs0, (zx_eF1 (by show 0 ≤ (0 : Int) + (1 * a0 + 0); omega) (by show zk_xe w 2000145 ((0 : Int) + (1 * a0 + 0)) = (1 : Int) + (0); rw [show (0 : Int) + (1 * a0 + 0) = a0 by omega]; exact ((zc_145 (w := w) (j := a0) (u := a1) (a := a2) (k := a2) (t := a2) (by omega) (by omega) (by omega) (by omega) (by omega) (by omega) (by omega) (by omega) (by omega) ).mpr h).trans (by omega)) zx_eF0), zx_k0⟩
def zx_D1002 : zx_L := zx_Lc [] 7 [(2000145, 0), (177, 6)] [] [((0, 0), [(0, 1, 0), (1, 0, 1), (2, 0, 4294967296), (3, 0, 18446744073709551616), (4, 0, 79228162514264337593543950336)]), ((0, 1), [(7, 1, 0)]), ((0, 18446744073709551616), [(1, 0, 1), (2, 0, 4294967296), (3, 0, 18446744073709551616), (4, 0, 79228162514264337593543950336), (5, 1, 0)]), ((0, 0), [(1, 0, 40000), (3, 0, 1), (6, 1, 0)])] [((0, 0), [(1, 1, 0)]), ((4294967276, 0), [(1, 0, 1)]), ((0, 0), [(2, 1, 0)]), ((4294967276, 0), [(2, 0, 1)]), ((0, 0), [(3, 1, 0)]), ((4294967276, 0), [(3, 0, 1)]), ((0, 0), [(4, 1, 0)]), ((4294967276, 0), [(4, 0, 1)]), ((9, 0), [(8, 0, 1)])] [([], [], [(2000145, ((0, 0), [(5, 1, 0)]), ((1, 0), []))], [])]
theorem zx_D1002_ok {PT : Nat → zz_W → Prop} : zx_Lok 64 zHT PT zx_D1002 := by
  refine zx_Lc_ok (fun w hI hK ins hl hr he hg => ?_)
  obtain ⟨a0, a1, a2, a3, a4, a5, a6, rfl⟩ := zx_i7 hl
  have e0 : (0 : Int) + (1 * a0 + ((-1) * a1 + ((-4294967296) * a2 + ((-18446744073709551616) * a3 + ((-79228162514264337593543950336) * a4 + 0))))) = 0 := he _ List.mem_cons_self
  have e1 : ((-1) : Int) + (1 * (zk_xe w 2000145 a0) + 0) = 0 := he _ (List.mem_cons_of_mem _ List.mem_cons_self)
  have e2 : ((-18446744073709551616) : Int) + ((-1) * a1 + ((-4294967296) * a2 + ((-18446744073709551616) * a3 + ((-79228162514264337593543950336) * a4 + (1 * a5 + 0))))) = 0 := he _ (List.mem_cons_of_mem _ (List.mem_cons_of_mem _ List.mem_cons_self))
  have e3 : (0 : Int) + ((-40000) * a1 + ((-1) * a3 + (1 * a6 + 0))) = 0 := he _ (List.mem_cons_of_mem _ (List.mem_cons_of_mem _ (List.mem_cons_of_mem _ List.mem_cons_self)))
  have g0 : 0 ≤ (0 : Int) + (1 * a1 + 0) := hg _ List.mem_cons_self
  have g1 : 0 ≤ (4294967276 : Int) + ((-1) * a1 + 0) := hg _ (List.mem_cons_of_mem _ List.mem_cons_self)
  have g2 : 0 ≤ (0 : Int) + (1 * a2 + 0) := hg _ (List.mem_cons_of_mem _ (List.mem_cons_of_mem _ List.mem_cons_self))
  have g3 : 0 ≤ (4294967276 : Int) + ((-1) * a2 + 0) := hg _ (List.mem_cons_of_mem _ (List.mem_cons_of_mem _ (List.mem_cons_of_mem _ List.mem_cons_self)))
  have g4 : 0 ≤ (0 : Int) + (1 * a3 + 0) := hg _ (List.mem_cons_of_mem _ (List.mem_cons_of_mem _ (List.mem_cons_of_mem _ (List.mem_cons_of_mem _ List.mem_cons_self))))
  have g5 : 0 ≤ (4294967276 : Int) + ((-1) * a3 + 0) := hg _ (List.mem_cons_of_mem _ (List.mem_cons_of_mem _ (List.mem_cons_of_mem _ (List.mem_cons_of_mem _ (List.mem_cons_of_mem _ List.mem_cons_self)))))
  have g6 : 0 ≤ (0 : Int) + (1 * a4 + 0) := hg _ (List.mem_cons_of_mem _ (List.mem_cons_of_mem _ (List.mem_cons_of_mem _ (List.mem_cons_of_mem _ (List.mem_cons_of_mem _ (List.mem_cons_of_mem _ List.mem_cons_self))))))
  have g7 : 0 ≤ (4294967276 : Int) + ((-1) * a4 + 0) := hg _ (List.mem_cons_of_mem _ (List.mem_cons_of_mem _ (List.mem_cons_of_mem _ (List.mem_cons_of_mem _ (List.mem_cons_of_mem _ (List.mem_cons_of_mem _ (List.mem_cons_of_mem _ List.mem_cons_self)))))))
  have g8 : 0 ≤ (9 : Int) + ((-1) * (zk_xe w 177 a6) + 0) := hg _ (List.mem_cons_of_mem _ (List.mem_cons_of_mem _ (List.mem_cons_of_mem _ (List.mem_cons_of_mem _ (List.mem_cons_of_mem _ (List.mem_cons_of_mem _ (List.mem_cons_of_mem _ (List.mem_cons_of_mem _ List.mem_cons_self))))))))
  have r0 : 0 ≤ a0 := hr _ List.mem_cons_self
  have r1 : 0 ≤ a6 := hr _ (List.mem_cons_of_mem _ List.mem_cons_self)
  have hp := (zc_145 (w := w) (j := a0) (u := a1) (a := a2) (k := a3) (t := a4) (by omega) (by omega) (by omega) (by omega) (by omega) (by omega) (by omega) (by omega) (by omega) ).mp (by omega)
  have k0 : zh_e w 177 (40000 * a1 + a3) = zk_xe w 177 a6 := by rw [zk_xe_r (i := 177) (by decide)]; show zk_el w 177 (40000 * a1 + a3) = zk_el w 177 a6; rw [show 40000 * a1 + a3 = a6 by omega]
  have h : zc_nt (zh_e w 177) (40000 * a1) a2 (a3 + 1) a4 := by
    intro i i0
    obtain ⟨q1, q2⟩ := hp i i0
    refine ⟨fun i1 => ?_, q2⟩
    by_cases c : i = a3
    · rw [c, k0]
      omega
    · exact q1 (by omega)
  exact ⟨_, List.mem_cons_self, [], rfl, zx_bnil, zx_cs0, (zx_eF1 (by show 0 ≤ (0 : Int) + (1 * a5 + 0); omega) (by show zk_xe w 2000145 ((0 : Int) + (1 * a5 + 0)) = (1 : Int) + (0); rw [show (0 : Int) + (1 * a5 + 0) = a5 by omega]; exact ((zc_145 (w := w) (j := a5) (u := a1) (a := a2) (k := (a3 + 1)) (t := a4) (by omega) (by omega) (by omega) (by omega) (by omega) (by omega) (by omega) (by omega) (by omega) ).mpr h).trans (by omega)) zx_eF0), zx_k0⟩
def zx_D1003 : zx_L := zx_Lc [] 7 [(2000145, 0), (177, 6)] [] [((0, 0), [(0, 1, 0), (1, 0, 1), (2, 0, 4294967296), (3, 0, 18446744073709551616), (4, 0, 79228162514264337593543950336)]), ((0, 1), [(7, 1, 0)]), ((0, 18446744073709551616), [(1, 0, 1), (2, 0, 4294967296), (3, 0, 18446744073709551616), (4, 0, 79228162514264337593543950336), (5, 1, 0)]), ((0, 0), [(1, 0, 40000), (3, 0, 1), (6, 1, 0)])] [((0, 0), [(1, 1, 0)]), ((4294967276, 0), [(1, 0, 1)]), ((0, 0), [(2, 1, 0)]), ((4294967276, 0), [(2, 0, 1)]), ((0, 0), [(3, 1, 0)]), ((4294967276, 0), [(3, 0, 1)]), ((0, 0), [(4, 1, 0)]), ((4294967276, 0), [(4, 0, 1)]), ((0, 11), [(8, 1, 0)])] [([], [], [(2000145, ((0, 0), [(5, 1, 0)]), ((1, 0), []))], [])]
theorem zx_D1003_ok {PT : Nat → zz_W → Prop} : zx_Lok 64 zHT PT zx_D1003 := by
  refine zx_Lc_ok (fun w hI hK ins hl hr he hg => ?_)
  obtain ⟨a0, a1, a2, a3, a4, a5, a6, rfl⟩ := zx_i7 hl
  have e0 : (0 : Int) + (1 * a0 + ((-1) * a1 + ((-4294967296) * a2 + ((-18446744073709551616) * a3 + ((-79228162514264337593543950336) * a4 + 0))))) = 0 := he _ List.mem_cons_self
  have e1 : ((-1) : Int) + (1 * (zk_xe w 2000145 a0) + 0) = 0 := he _ (List.mem_cons_of_mem _ List.mem_cons_self)
  have e2 : ((-18446744073709551616) : Int) + ((-1) * a1 + ((-4294967296) * a2 + ((-18446744073709551616) * a3 + ((-79228162514264337593543950336) * a4 + (1 * a5 + 0))))) = 0 := he _ (List.mem_cons_of_mem _ (List.mem_cons_of_mem _ List.mem_cons_self))
  have e3 : (0 : Int) + ((-40000) * a1 + ((-1) * a3 + (1 * a6 + 0))) = 0 := he _ (List.mem_cons_of_mem _ (List.mem_cons_of_mem _ (List.mem_cons_of_mem _ List.mem_cons_self)))
  have g0 : 0 ≤ (0 : Int) + (1 * a1 + 0) := hg _ List.mem_cons_self
  have g1 : 0 ≤ (4294967276 : Int) + ((-1) * a1 + 0) := hg _ (List.mem_cons_of_mem _ List.mem_cons_self)
  have g2 : 0 ≤ (0 : Int) + (1 * a2 + 0) := hg _ (List.mem_cons_of_mem _ (List.mem_cons_of_mem _ List.mem_cons_self))
  have g3 : 0 ≤ (4294967276 : Int) + ((-1) * a2 + 0) := hg _ (List.mem_cons_of_mem _ (List.mem_cons_of_mem _ (List.mem_cons_of_mem _ List.mem_cons_self)))
  have g4 : 0 ≤ (0 : Int) + (1 * a3 + 0) := hg _ (List.mem_cons_of_mem _ (List.mem_cons_of_mem _ (List.mem_cons_of_mem _ (List.mem_cons_of_mem _ List.mem_cons_self))))
  have g5 : 0 ≤ (4294967276 : Int) + ((-1) * a3 + 0) := hg _ (List.mem_cons_of_mem _ (List.mem_cons_of_mem _ (List.mem_cons_of_mem _ (List.mem_cons_of_mem _ (List.mem_cons_of_mem _ List.mem_cons_self)))))
  have g6 : 0 ≤ (0 : Int) + (1 * a4 + 0) := hg _ (List.mem_cons_of_mem _ (List.mem_cons_of_mem _ (List.mem_cons_of_mem _ (List.mem_cons_of_mem _ (List.mem_cons_of_mem _ (List.mem_cons_of_mem _ List.mem_cons_self))))))
  have g7 : 0 ≤ (4294967276 : Int) + ((-1) * a4 + 0) := hg _ (List.mem_cons_of_mem _ (List.mem_cons_of_mem _ (List.mem_cons_of_mem _ (List.mem_cons_of_mem _ (List.mem_cons_of_mem _ (List.mem_cons_of_mem _ (List.mem_cons_of_mem _ List.mem_cons_self)))))))
  have g8 : 0 ≤ ((-11) : Int) + (1 * (zk_xe w 177 a6) + 0) := hg _ (List.mem_cons_of_mem _ (List.mem_cons_of_mem _ (List.mem_cons_of_mem _ (List.mem_cons_of_mem _ (List.mem_cons_of_mem _ (List.mem_cons_of_mem _ (List.mem_cons_of_mem _ (List.mem_cons_of_mem _ List.mem_cons_self))))))))
  have r0 : 0 ≤ a0 := hr _ List.mem_cons_self
  have r1 : 0 ≤ a6 := hr _ (List.mem_cons_of_mem _ List.mem_cons_self)
  have hp := (zc_145 (w := w) (j := a0) (u := a1) (a := a2) (k := a3) (t := a4) (by omega) (by omega) (by omega) (by omega) (by omega) (by omega) (by omega) (by omega) (by omega) ).mp (by omega)
  have k0 : zh_e w 177 (40000 * a1 + a3) = zk_xe w 177 a6 := by rw [zk_xe_r (i := 177) (by decide)]; show zk_el w 177 (40000 * a1 + a3) = zk_el w 177 a6; rw [show 40000 * a1 + a3 = a6 by omega]
  have h : zc_nt (zh_e w 177) (40000 * a1) a2 (a3 + 1) a4 := by
    intro i i0
    obtain ⟨q1, q2⟩ := hp i i0
    refine ⟨fun i1 => ?_, q2⟩
    by_cases c : i = a3
    · rw [c, k0]
      omega
    · exact q1 (by omega)
  exact ⟨_, List.mem_cons_self, [], rfl, zx_bnil, zx_cs0, (zx_eF1 (by show 0 ≤ (0 : Int) + (1 * a5 + 0); omega) (by show zk_xe w 2000145 ((0 : Int) + (1 * a5 + 0)) = (1 : Int) + (0); rw [show (0 : Int) + (1 * a5 + 0) = a5 by omega]; exact ((zc_145 (w := w) (j := a5) (u := a1) (a := a2) (k := (a3 + 1)) (t := a4) (by omega) (by omega) (by omega) (by omega) (by omega) (by omega) (by omega) (by omega) (by omega) ).mpr h).trans (by omega)) zx_eF0), zx_k0⟩
def zx_D1004 : zx_L := zx_Lc [] 7 [(2000145, 0), (177, 6)] [] [((0, 0), [(0, 1, 0), (1, 0, 1), (2, 0, 4294967296), (3, 0, 18446744073709551616), (4, 0, 79228162514264337593543950336)]), ((0, 1), [(7, 1, 0)]), ((0, 79228162514264337593543950336), [(1, 0, 1), (2, 0, 4294967296), (3, 0, 18446744073709551616), (4, 0, 79228162514264337593543950336), (5, 1, 0)]), ((0, 0), [(1, 0, 40000), (4, 0, 1), (6, 1, 0)])] [((0, 0), [(1, 1, 0)]), ((4294967276, 0), [(1, 0, 1)]), ((0, 0), [(2, 1, 0)]), ((4294967276, 0), [(2, 0, 1)]), ((0, 0), [(3, 1, 0)]), ((4294967276, 0), [(3, 0, 1)]), ((0, 0), [(4, 1, 0)]), ((4294967276, 0), [(4, 0, 1)]), ((34, 0), [(8, 0, 1)])] [([], [], [(2000145, ((0, 0), [(5, 1, 0)]), ((1, 0), []))], [])]
theorem zx_D1004_ok {PT : Nat → zz_W → Prop} : zx_Lok 64 zHT PT zx_D1004 := by
  refine zx_Lc_ok (fun w hI hK ins hl hr he hg => ?_)
  obtain ⟨a0, a1, a2, a3, a4, a5, a6, rfl⟩ := zx_i7 hl
  have e0 : (0 : Int) + (1 * a0 + ((-1) * a1 + ((-4294967296) * a2 + ((-18446744073709551616) * a3 + ((-79228162514264337593543950336) * a4 + 0))))) = 0 := he _ List.mem_cons_self
  have e1 : ((-1) : Int) + (1 * (zk_xe w 2000145 a0) + 0) = 0 := he _ (List.mem_cons_of_mem _ List.mem_cons_self)
  have e2 : ((-79228162514264337593543950336) : Int) + ((-1) * a1 + ((-4294967296) * a2 + ((-18446744073709551616) * a3 + ((-79228162514264337593543950336) * a4 + (1 * a5 + 0))))) = 0 := he _ (List.mem_cons_of_mem _ (List.mem_cons_of_mem _ List.mem_cons_self))
  have e3 : (0 : Int) + ((-40000) * a1 + ((-1) * a4 + (1 * a6 + 0))) = 0 := he _ (List.mem_cons_of_mem _ (List.mem_cons_of_mem _ (List.mem_cons_of_mem _ List.mem_cons_self)))
  have g0 : 0 ≤ (0 : Int) + (1 * a1 + 0) := hg _ List.mem_cons_self
  have g1 : 0 ≤ (4294967276 : Int) + ((-1) * a1 + 0) := hg _ (List.mem_cons_of_mem _ List.mem_cons_self)
  have g2 : 0 ≤ (0 : Int) + (1 * a2 + 0) := hg _ (List.mem_cons_of_mem _ (List.mem_cons_of_mem _ List.mem_cons_self))
  have g3 : 0 ≤ (4294967276 : Int) + ((-1) * a2 + 0) := hg _ (List.mem_cons_of_mem _ (List.mem_cons_of_mem _ (List.mem_cons_of_mem _ List.mem_cons_self)))
  have g4 : 0 ≤ (0 : Int) + (1 * a3 + 0) := hg _ (List.mem_cons_of_mem _ (List.mem_cons_of_mem _ (List.mem_cons_of_mem _ (List.mem_cons_of_mem _ List.mem_cons_self))))
  have g5 : 0 ≤ (4294967276 : Int) + ((-1) * a3 + 0) := hg _ (List.mem_cons_of_mem _ (List.mem_cons_of_mem _ (List.mem_cons_of_mem _ (List.mem_cons_of_mem _ (List.mem_cons_of_mem _ List.mem_cons_self)))))
  have g6 : 0 ≤ (0 : Int) + (1 * a4 + 0) := hg _ (List.mem_cons_of_mem _ (List.mem_cons_of_mem _ (List.mem_cons_of_mem _ (List.mem_cons_of_mem _ (List.mem_cons_of_mem _ (List.mem_cons_of_mem _ List.mem_cons_self))))))
  have g7 : 0 ≤ (4294967276 : Int) + ((-1) * a4 + 0) := hg _ (List.mem_cons_of_mem _ (List.mem_cons_of_mem _ (List.mem_cons_of_mem _ (List.mem_cons_of_mem _ (List.mem_cons_of_mem _ (List.mem_cons_of_mem _ (List.mem_cons_of_mem _ List.mem_cons_self)))))))
  have g8 : 0 ≤ (34 : Int) + ((-1) * (zk_xe w 177 a6) + 0) := hg _ (List.mem_cons_of_mem _ (List.mem_cons_of_mem _ (List.mem_cons_of_mem _ (List.mem_cons_of_mem _ (List.mem_cons_of_mem _ (List.mem_cons_of_mem _ (List.mem_cons_of_mem _ (List.mem_cons_of_mem _ List.mem_cons_self))))))))
  have r0 : 0 ≤ a0 := hr _ List.mem_cons_self
  have r1 : 0 ≤ a6 := hr _ (List.mem_cons_of_mem _ List.mem_cons_self)
  have hp := (zc_145 (w := w) (j := a0) (u := a1) (a := a2) (k := a3) (t := a4) (by omega) (by omega) (by omega) (by omega) (by omega) (by omega) (by omega) (by omega) (by omega) ).mp (by omega)
  have k0 : zh_e w 177 (40000 * a1 + a4) = zk_xe w 177 a6 := by rw [zk_xe_r (i := 177) (by decide)]; show zk_el w 177 (40000 * a1 + a4) = zk_el w 177 a6; rw [show 40000 * a1 + a4 = a6 by omega]
  have h : zc_nt (zh_e w 177) (40000 * a1) a2 a3 (a4 + 1) := by
    intro i i0
    obtain ⟨q1, q2⟩ := hp i i0
    refine ⟨q1, fun i1 => ?_⟩
    by_cases c : i = a4
    · rw [c, k0]
      omega
    · exact q2 (by omega)
  exact ⟨_, List.mem_cons_self, [], rfl, zx_bnil, zx_cs0, (zx_eF1 (by show 0 ≤ (0 : Int) + (1 * a5 + 0); omega) (by show zk_xe w 2000145 ((0 : Int) + (1 * a5 + 0)) = (1 : Int) + (0); rw [show (0 : Int) + (1 * a5 + 0) = a5 by omega]; exact ((zc_145 (w := w) (j := a5) (u := a1) (a := a2) (k := a3) (t := (a4 + 1)) (by omega) (by omega) (by omega) (by omega) (by omega) (by omega) (by omega) (by omega) (by omega) ).mpr h).trans (by omega)) zx_eF0), zx_k0⟩
def zx_D1005 : zx_L := zx_Lc [] 7 [(2000145, 0), (177, 6)] [] [((0, 0), [(0, 1, 0), (1, 0, 1), (2, 0, 4294967296), (3, 0, 18446744073709551616), (4, 0, 79228162514264337593543950336)]), ((0, 1), [(7, 1, 0)]), ((0, 79228162514264337593543950336), [(1, 0, 1), (2, 0, 4294967296), (3, 0, 18446744073709551616), (4, 0, 79228162514264337593543950336), (5, 1, 0)]), ((0, 0), [(1, 0, 40000), (4, 0, 1), (6, 1, 0)])] [((0, 0), [(1, 1, 0)]), ((4294967276, 0), [(1, 0, 1)]), ((0, 0), [(2, 1, 0)]), ((4294967276, 0), [(2, 0, 1)]), ((0, 0), [(3, 1, 0)]), ((4294967276, 0), [(3, 0, 1)]), ((0, 0), [(4, 1, 0)]), ((4294967276, 0), [(4, 0, 1)]), ((0, 36), [(8, 1, 0)])] [([], [], [(2000145, ((0, 0), [(5, 1, 0)]), ((1, 0), []))], [])]
theorem zx_D1005_ok {PT : Nat → zz_W → Prop} : zx_Lok 64 zHT PT zx_D1005 := by
  refine zx_Lc_ok (fun w hI hK ins hl hr he hg => ?_)
  obtain ⟨a0, a1, a2, a3, a4, a5, a6, rfl⟩ := zx_i7 hl
  have e0 : (0 : Int) + (1 * a0 + ((-1) * a1 + ((-4294967296) * a2 + ((-18446744073709551616) * a3 + ((-79228162514264337593543950336) * a4 + 0))))) = 0 := he _ List.mem_cons_self
  have e1 : ((-1) : Int) + (1 * (zk_xe w 2000145 a0) + 0) = 0 := he _ (List.mem_cons_of_mem _ List.mem_cons_self)
  have e2 : ((-79228162514264337593543950336) : Int) + ((-1) * a1 + ((-4294967296) * a2 + ((-18446744073709551616) * a3 + ((-79228162514264337593543950336) * a4 + (1 * a5 + 0))))) = 0 := he _ (List.mem_cons_of_mem _ (List.mem_cons_of_mem _ List.mem_cons_self))
  have e3 : (0 : Int) + ((-40000) * a1 + ((-1) * a4 + (1 * a6 + 0))) = 0 := he _ (List.mem_cons_of_mem _ (List.mem_cons_of_mem _ (List.mem_cons_of_mem _ List.mem_cons_self)))
  have g0 : 0 ≤ (0 : Int) + (1 * a1 + 0) := hg _ List.mem_cons_self
  have g1 : 0 ≤ (4294967276 : Int) + ((-1) * a1 + 0) := hg _ (List.mem_cons_of_mem _ List.mem_cons_self)
  have g2 : 0 ≤ (0 : Int) + (1 * a2 + 0) := hg _ (List.mem_cons_of_mem _ (List.mem_cons_of_mem _ List.mem_cons_self))
  have g3 : 0 ≤ (4294967276 : Int) + ((-1) * a2 + 0) := hg _ (List.mem_cons_of_mem _ (List.mem_cons_of_mem _ (List.mem_cons_of_mem _ List.mem_cons_self)))
  have g4 : 0 ≤ (0 : Int) + (1 * a3 + 0) := hg _ (List.mem_cons_of_mem _ (List.mem_cons_of_mem _ (List.mem_cons_of_mem _ (List.mem_cons_of_mem _ List.mem_cons_self))))
  have g5 : 0 ≤ (4294967276 : Int) + ((-1) * a3 + 0) := hg _ (List.mem_cons_of_mem _ (List.mem_cons_of_mem _ (List.mem_cons_of_mem _ (List.mem_cons_of_mem _ (List.mem_cons_of_mem _ List.mem_cons_self)))))
  have g6 : 0 ≤ (0 : Int) + (1 * a4 + 0) := hg _ (List.mem_cons_of_mem _ (List.mem_cons_of_mem _ (List.mem_cons_of_mem _ (List.mem_cons_of_mem _ (List.mem_cons_of_mem _ (List.mem_cons_of_mem _ List.mem_cons_self))))))
  have g7 : 0 ≤ (4294967276 : Int) + ((-1) * a4 + 0) := hg _ (List.mem_cons_of_mem _ (List.mem_cons_of_mem _ (List.mem_cons_of_mem _ (List.mem_cons_of_mem _ (List.mem_cons_of_mem _ (List.mem_cons_of_mem _ (List.mem_cons_of_mem _ List.mem_cons_self)))))))
  have g8 : 0 ≤ ((-36) : Int) + (1 * (zk_xe w 177 a6) + 0) := hg _ (List.mem_cons_of_mem _ (List.mem_cons_of_mem _ (List.mem_cons_of_mem _ (List.mem_cons_of_mem _ (List.mem_cons_of_mem _ (List.mem_cons_of_mem _ (List.mem_cons_of_mem _ (List.mem_cons_of_mem _ List.mem_cons_self))))))))
  have r0 : 0 ≤ a0 := hr _ List.mem_cons_self
  have r1 : 0 ≤ a6 := hr _ (List.mem_cons_of_mem _ List.mem_cons_self)
  have hp := (zc_145 (w := w) (j := a0) (u := a1) (a := a2) (k := a3) (t := a4) (by omega) (by omega) (by omega) (by omega) (by omega) (by omega) (by omega) (by omega) (by omega) ).mp (by omega)
  have k0 : zh_e w 177 (40000 * a1 + a4) = zk_xe w 177 a6 := by rw [zk_xe_r (i := 177) (by decide)]; show zk_el w 177 (40000 * a1 + a4) = zk_el w 177 a6; rw [show 40000 * a1 + a4 = a6 by omega]
  have h : zc_nt (zh_e w 177) (40000 * a1) a2 a3 (a4 + 1) := by
    intro i i0
    obtain ⟨q1, q2⟩ := hp i i0
    refine ⟨q1, fun i1 => ?_⟩
    by_cases c : i = a4
    · rw [c, k0]
      omega
    · exact q2 (by omega)
  exact ⟨_, List.mem_cons_self, [], rfl, zx_bnil, zx_cs0, (zx_eF1 (by show 0 ≤ (0 : Int) + (1 * a5 + 0); omega) (by show zk_xe w 2000145 ((0 : Int) + (1 * a5 + 0)) = (1 : Int) + (0); rw [show (0 : Int) + (1 * a5 + 0) = a5 by omega]; exact ((zc_145 (w := w) (j := a5) (u := a1) (a := a2) (k := a3) (t := (a4 + 1)) (by omega) (by omega) (by omega) (by omega) (by omega) (by omega) (by omega) (by omega) (by omega) ).mpr h).trans (by omega)) zx_eF0), zx_k0⟩
def zx_D1006 : zx_L := zx_Lc [] 1 [] [] [] [((0, 0), [(0, 1, 0)]), ((4294967276, 0), [(0, 0, 1)])] [([], [], [(2000146, ((0, 0), [(0, 1, 0)]), ((1, 0), []))], [])]
theorem zx_D1006_ok {PT : Nat → zz_W → Prop} : zx_Lok 64 zHT PT zx_D1006 := by
  refine zx_Lc_ok (fun w hI hK ins hl hr he hg => ?_)
  obtain ⟨a0, rfl⟩ := zx_i1 hl
  have g0 : 0 ≤ (0 : Int) + (1 * a0 + 0) := hg _ List.mem_cons_self
  have g1 : 0 ≤ (4294967276 : Int) + ((-1) * a0 + 0) := hg _ (List.mem_cons_of_mem _ List.mem_cons_self)
  have h : zc_fn (zh_e w 177) (zh_e w 261) (zh_e w 262) (40000 * a0) (zh_e w 178 a0) 0 0 := ⟨fun _ => rfl, fun h => by omega, fun i i0 i1 => by omega⟩
  exact ⟨_, List.mem_cons_self, [], rfl, zx_bnil, zx_cs0, (zx_eF1 (by show 0 ≤ (0 : Int) + (1 * a0 + 0); omega) (by show zk_xe w 2000146 ((0 : Int) + (1 * a0 + 0)) = (1 : Int) + (0); rw [show (0 : Int) + (1 * a0 + 0) = a0 by omega]; exact ((zc_146 (w := w) (j := a0) (u := a0) (x := 0) (n := 0) (by omega) (by omega) (by omega) (by omega) (by omega) (by omega) (by omega) ).mpr h).trans (by omega)) zx_eF0), zx_k0⟩
def zx_D1010 : zx_L := zx_Lc [] 10 [(2000146, 0), (2000145, 4), (261, 3), (262, 3), (178, 1)] [] [((0, 0), [(0, 1, 0), (1, 0, 1), (2, 0, 4294967296), (3, 0, 18446744073709551616)]), ((0, 1), [(10, 1, 0)]), ((0, 0), [(1, 0, 1), (2, 0, 4294967296), (4, 1, 0), (5, 0, 18446744073709551616), (6, 0, 79228162514264337593543950336)]), ((0, 1), [(11, 1, 0)]), ((0, 0), [(2, 0, 1), (12, 1, 0)]), ((0, 0), [(6, 0, 1), (13, 1, 0)]), ((0, 18446744078004518912), [(1, 0, 1), (3, 0, 18446744073709551616), (5, 0, 4294967296), (7, 1, 0)]), ((0, 0), [(5, 1, 0), (14, 0, 1)]), ((0, 0), [(5, 0, 1), (6, 1, 0)])] [((0, 0), [(1, 1, 0)]), ((4294967276, 0), [(1, 0, 1)]), ((0, 0), [(2, 1, 0)]), ((4294967276, 0), [(2, 0, 1)]), ((0, 0), [(3, 1, 0)]), ((4294967276, 0), [(3, 0, 1)]), ((0, 0), [(5, 1, 0)]), ((4294967276, 0), [(5, 0, 1)]), ((0, 0), [(6, 1, 0)]), ((4294967276, 0), [(6, 0, 1)]), ((0, 0), [(2, 0, 1), (5, 1, 0)]), ((0, 0), [(2, 0, 1), (6, 1, 0)]), ((0, 0), [(5, 1, 0), (6, 0, 1)])] [([], [], [(2000146, ((0, 0), [(7, 1, 0)]), ((1, 0), []))], [])]
theorem zx_D1010_ok {PT : Nat → zz_W → Prop} : zx_Lok 64 zHT PT zx_D1010 := by
  refine zx_Lc_ok (fun w hI hK ins hl hr he hg => ?_)
  obtain ⟨a0, a1, a2, a3, a4, a5, a6, a7, a8, a9, rfl⟩ := zx_i10 hl
  have e0 : (0 : Int) + (1 * a0 + ((-1) * a1 + ((-4294967296) * a2 + ((-18446744073709551616) * a3 + 0)))) = 0 := he _ List.mem_cons_self
  have e1 : ((-1) : Int) + (1 * (zk_xe w 2000146 a0) + 0) = 0 := he _ (List.mem_cons_of_mem _ List.mem_cons_self)
  have e2 : (0 : Int) + ((-1) * a1 + ((-4294967296) * a2 + (1 * a4 + ((-18446744073709551616) * a5 + ((-79228162514264337593543950336) * a6 + 0))))) = 0 := he _ (List.mem_cons_of_mem _ (List.mem_cons_of_mem _ List.mem_cons_self))
  have e3 : ((-1) : Int) + (1 * (zk_xe w 2000145 a4) + 0) = 0 := he _ (List.mem_cons_of_mem _ (List.mem_cons_of_mem _ (List.mem_cons_of_mem _ List.mem_cons_self)))
  have e4 : (0 : Int) + ((-1) * a2 + (1 * (zk_xe w 261 a3) + 0)) = 0 := he _ (List.mem_cons_of_mem _ (List.mem_cons_of_mem _ (List.mem_cons_of_mem _ (List.mem_cons_of_mem _ List.mem_cons_self))))
  have e5 : (0 : Int) + ((-1) * a6 + (1 * (zk_xe w 262 a3) + 0)) = 0 := he _ (List.mem_cons_of_mem _ (List.mem_cons_of_mem _ (List.mem_cons_of_mem _ (List.mem_cons_of_mem _ (List.mem_cons_of_mem _ List.mem_cons_self)))))
  have e6 : ((-18446744078004518912) : Int) + ((-1) * a1 + ((-18446744073709551616) * a3 + ((-4294967296) * a5 + (1 * a7 + 0)))) = 0 := he _ (List.mem_cons_of_mem _ (List.mem_cons_of_mem _ (List.mem_cons_of_mem _ (List.mem_cons_of_mem _ (List.mem_cons_of_mem _ (List.mem_cons_of_mem _ List.mem_cons_self))))))
  have e7 : (0 : Int) + (1 * a5 + ((-1) * (zk_xe w 178 a1) + 0)) = 0 := he _ (List.mem_cons_of_mem _ (List.mem_cons_of_mem _ (List.mem_cons_of_mem _ (List.mem_cons_of_mem _ (List.mem_cons_of_mem _ (List.mem_cons_of_mem _ (List.mem_cons_of_mem _ List.mem_cons_self)))))))
  have e8 : (0 : Int) + ((-1) * a5 + (1 * a6 + 0)) = 0 := he _ (List.mem_cons_of_mem _ (List.mem_cons_of_mem _ (List.mem_cons_of_mem _ (List.mem_cons_of_mem _ (List.mem_cons_of_mem _ (List.mem_cons_of_mem _ (List.mem_cons_of_mem _ (List.mem_cons_of_mem _ List.mem_cons_self))))))))
  have g0 : 0 ≤ (0 : Int) + (1 * a1 + 0) := hg _ List.mem_cons_self
  have g1 : 0 ≤ (4294967276 : Int) + ((-1) * a1 + 0) := hg _ (List.mem_cons_of_mem _ List.mem_cons_self)
  have g2 : 0 ≤ (0 : Int) + (1 * a2 + 0) := hg _ (List.mem_cons_of_mem _ (List.mem_cons_of_mem _ List.mem_cons_self))
  have g3 : 0 ≤ (4294967276 : Int) + ((-1) * a2 + 0) := hg _ (List.mem_cons_of_mem _ (List.mem_cons_of_mem _ (List.mem_cons_of_mem _ List.mem_cons_self)))
  have g4 : 0 ≤ (0 : Int) + (1 * a3 + 0) := hg _ (List.mem_cons_of_mem _ (List.mem_cons_of_mem _ (List.mem_cons_of_mem _ (List.mem_cons_of_mem _ List.mem_cons_self))))
  have g5 : 0 ≤ (4294967276 : Int) + ((-1) * a3 + 0) := hg _ (List.mem_cons_of_mem _ (List.mem_cons_of_mem _ (List.mem_cons_of_mem _ (List.mem_cons_of_mem _ (List.mem_cons_of_mem _ List.mem_cons_self)))))
  have g6 : 0 ≤ (0 : Int) + (1 * a5 + 0) := hg _ (List.mem_cons_of_mem _ (List.mem_cons_of_mem _ (List.mem_cons_of_mem _ (List.mem_cons_of_mem _ (List.mem_cons_of_mem _ (List.mem_cons_of_mem _ List.mem_cons_self))))))
  have g7 : 0 ≤ (4294967276 : Int) + ((-1) * a5 + 0) := hg _ (List.mem_cons_of_mem _ (List.mem_cons_of_mem _ (List.mem_cons_of_mem _ (List.mem_cons_of_mem _ (List.mem_cons_of_mem _ (List.mem_cons_of_mem _ (List.mem_cons_of_mem _ List.mem_cons_self)))))))
  have g8 : 0 ≤ (0 : Int) + (1 * a6 + 0) := hg _ (List.mem_cons_of_mem _ (List.mem_cons_of_mem _ (List.mem_cons_of_mem _ (List.mem_cons_of_mem _ (List.mem_cons_of_mem _ (List.mem_cons_of_mem _ (List.mem_cons_of_mem _ (List.mem_cons_of_mem _ List.mem_cons_self))))))))
  have g9 : 0 ≤ (4294967276 : Int) + ((-1) * a6 + 0) := hg _ (List.mem_cons_of_mem _ (List.mem_cons_of_mem _ (List.mem_cons_of_mem _ (List.mem_cons_of_mem _ (List.mem_cons_of_mem _ (List.mem_cons_of_mem _ (List.mem_cons_of_mem _ (List.mem_cons_of_mem _ (List.mem_cons_of_mem _ List.mem_cons_self)))))))))
  have g10 : 0 ≤ (0 : Int) + ((-1) * a2 + (1 * a5 + 0)) := hg _ (List.mem_cons_of_mem _ (List.mem_cons_of_mem _ (List.mem_cons_of_mem _ (List.mem_cons_of_mem _ (List.mem_cons_of_mem _ (List.mem_cons_of_mem _ (List.mem_cons_of_mem _ (List.mem_cons_of_mem _ (List.mem_cons_of_mem _ (List.mem_cons_of_mem _ List.mem_cons_self))))))))))
  have g11 : 0 ≤ (0 : Int) + ((-1) * a2 + (1 * a6 + 0)) := hg _ (List.mem_cons_of_mem _ (List.mem_cons_of_mem _ (List.mem_cons_of_mem _ (List.mem_cons_of_mem _ (List.mem_cons_of_mem _ (List.mem_cons_of_mem _ (List.mem_cons_of_mem _ (List.mem_cons_of_mem _ (List.mem_cons_of_mem _ (List.mem_cons_of_mem _ (List.mem_cons_of_mem _ List.mem_cons_self)))))))))))
  have g12 : 0 ≤ (0 : Int) + (1 * a5 + ((-1) * a6 + 0)) := hg _ (List.mem_cons_of_mem _ (List.mem_cons_of_mem _ (List.mem_cons_of_mem _ (List.mem_cons_of_mem _ (List.mem_cons_of_mem _ (List.mem_cons_of_mem _ (List.mem_cons_of_mem _ (List.mem_cons_of_mem _ (List.mem_cons_of_mem _ (List.mem_cons_of_mem _ (List.mem_cons_of_mem _ (List.mem_cons_of_mem _ List.mem_cons_self))))))))))))
  have r0 : 0 ≤ a0 := hr _ List.mem_cons_self
  have r1 : 0 ≤ a4 := hr _ (List.mem_cons_of_mem _ List.mem_cons_self)
  have r2 : 0 ≤ a3 := hr _ (List.mem_cons_of_mem _ (List.mem_cons_of_mem _ List.mem_cons_self))
  have r3 : 0 ≤ a3 := hr _ (List.mem_cons_of_mem _ (List.mem_cons_of_mem _ (List.mem_cons_of_mem _ List.mem_cons_self)))
  have r4 : 0 ≤ a1 := hr _ (List.mem_cons_of_mem _ (List.mem_cons_of_mem _ (List.mem_cons_of_mem _ (List.mem_cons_of_mem _ List.mem_cons_self))))
  have hp := (zc_146 (w := w) (j := a0) (u := a1) (x := a2) (n := a3) (by omega) (by omega) (by omega) (by omega) (by omega) (by omega) (by omega) ).mp (by omega)
  have hn := (zc_145 (w := w) (j := a4) (u := a1) (a := a2) (k := a5) (t := a6) (by omega) (by omega) (by omega) (by omega) (by omega) (by omega) (by omega) (by omega) (by omega) ).mp (by omega)
  have k0 : zh_e w 261 (a3) = zk_xe w 261 a3 := by rw [zk_xe_r (i := 261) (by decide)]; show zk_el w 261 (a3) = zk_el w 261 a3; rw [show a3 = a3 by omega]
  have k1 : zh_e w 262 (a3) = zk_xe w 262 a3 := by rw [zk_xe_r (i := 262) (by decide)]; show zk_el w 262 (a3) = zk_el w 262 a3; rw [show a3 = a3 by omega]
  have k2 : zh_e w 178 (a1) = zk_xe w 178 a1 := by rw [zk_xe_r (i := 178) (by decide)]; show zk_el w 178 (a1) = zk_el w 178 a1; rw [show a1 = a1 by omega]
  have h : zc_fn (zh_e w 177) (zh_e w 261) (zh_e w 262) (40000 * a1) (zh_e w 178 a1) (a5 + 1) (a3 + 1) := zc_fns (by omega) (by omega) (by omega) (by omega) (by omega) hp hn (by omega) (by omega) (Or.inl (by omega)) (Or.inl (by omega))
  exact ⟨_, List.mem_cons_self, [], rfl, zx_bnil, zx_cs0, (zx_eF1 (by show 0 ≤ (0 : Int) + (1 * a7 + 0); omega) (by show zk_xe w 2000146 ((0 : Int) + (1 * a7 + 0)) = (1 : Int) + (0); rw [show (0 : Int) + (1 * a7 + 0) = a7 by omega]; exact ((zc_146 (w := w) (j := a7) (u := a1) (x := (a5 + 1)) (n := (a3 + 1)) (by omega) (by omega) (by omega) (by omega) (by omega) (by omega) (by omega) ).mpr h).trans (by omega)) zx_eF0), zx_k0⟩
def zx_D1011 : zx_L := zx_Lc [] 10 [(2000146, 0), (2000145, 4), (261, 3), (262, 3), (178, 1), (177, 9)] [] [((0, 0), [(0, 1, 0), (1, 0, 1), (2, 0, 4294967296), (3, 0, 18446744073709551616)]), ((0, 1), [(10, 1, 0)]), ((0, 0), [(1, 0, 1), (2, 0, 4294967296), (4, 1, 0), (5, 0, 18446744073709551616), (6, 0, 79228162514264337593543950336)]), ((0, 1), [(11, 1, 0)]), ((0, 0), [(2, 0, 1), (12, 1, 0)]), ((0, 0), [(6, 0, 1), (13, 1, 0)]), ((0, 18446744078004518912), [(1, 0, 1), (3, 0, 18446744073709551616), (5, 0, 4294967296), (7, 1, 0)]), ((0, 0), [(5, 1, 0), (14, 0, 1)]), ((0, 0), [(1, 0, 40000), (6, 0, 1), (9, 1, 0)]), ((0, 35), [(15, 1, 0)])] [((0, 0), [(1, 1, 0)]), ((4294967276, 0), [(1, 0, 1)]), ((0, 0), [(2, 1, 0)]), ((4294967276, 0), [(2, 0, 1)]), ((0, 0), [(3, 1, 0)]), ((4294967276, 0), [(3, 0, 1)]), ((0, 0), [(5, 1, 0)]), ((4294967276, 0), [(5, 0, 1)]), ((0, 0), [(6, 1, 0)]), ((4294967276, 0), [(6, 0, 1)]), ((0, 0), [(2, 0, 1), (5, 1, 0)]), ((0, 0), [(2, 0, 1), (6, 1, 0)]), ((0, 0), [(5, 1, 0), (6, 0, 1)])] [([], [], [(2000146, ((0, 0), [(7, 1, 0)]), ((1, 0), []))], [])]
theorem zx_D1011_ok {PT : Nat → zz_W → Prop} : zx_Lok 64 zHT PT zx_D1011 := by
  refine zx_Lc_ok (fun w hI hK ins hl hr he hg => ?_)
  obtain ⟨a0, a1, a2, a3, a4, a5, a6, a7, a8, a9, rfl⟩ := zx_i10 hl
  have e0 : (0 : Int) + (1 * a0 + ((-1) * a1 + ((-4294967296) * a2 + ((-18446744073709551616) * a3 + 0)))) = 0 := he _ List.mem_cons_self
  have e1 : ((-1) : Int) + (1 * (zk_xe w 2000146 a0) + 0) = 0 := he _ (List.mem_cons_of_mem _ List.mem_cons_self)
  have e2 : (0 : Int) + ((-1) * a1 + ((-4294967296) * a2 + (1 * a4 + ((-18446744073709551616) * a5 + ((-79228162514264337593543950336) * a6 + 0))))) = 0 := he _ (List.mem_cons_of_mem _ (List.mem_cons_of_mem _ List.mem_cons_self))
  have e3 : ((-1) : Int) + (1 * (zk_xe w 2000145 a4) + 0) = 0 := he _ (List.mem_cons_of_mem _ (List.mem_cons_of_mem _ (List.mem_cons_of_mem _ List.mem_cons_self)))
  have e4 : (0 : Int) + ((-1) * a2 + (1 * (zk_xe w 261 a3) + 0)) = 0 := he _ (List.mem_cons_of_mem _ (List.mem_cons_of_mem _ (List.mem_cons_of_mem _ (List.mem_cons_of_mem _ List.mem_cons_self))))
  have e5 : (0 : Int) + ((-1) * a6 + (1 * (zk_xe w 262 a3) + 0)) = 0 := he _ (List.mem_cons_of_mem _ (List.mem_cons_of_mem _ (List.mem_cons_of_mem _ (List.mem_cons_of_mem _ (List.mem_cons_of_mem _ List.mem_cons_self)))))
  have e6 : ((-18446744078004518912) : Int) + ((-1) * a1 + ((-18446744073709551616) * a3 + ((-4294967296) * a5 + (1 * a7 + 0)))) = 0 := he _ (List.mem_cons_of_mem _ (List.mem_cons_of_mem _ (List.mem_cons_of_mem _ (List.mem_cons_of_mem _ (List.mem_cons_of_mem _ (List.mem_cons_of_mem _ List.mem_cons_self))))))
  have e7 : (0 : Int) + (1 * a5 + ((-1) * (zk_xe w 178 a1) + 0)) = 0 := he _ (List.mem_cons_of_mem _ (List.mem_cons_of_mem _ (List.mem_cons_of_mem _ (List.mem_cons_of_mem _ (List.mem_cons_of_mem _ (List.mem_cons_of_mem _ (List.mem_cons_of_mem _ List.mem_cons_self)))))))
  have e8 : (0 : Int) + ((-40000) * a1 + ((-1) * a6 + (1 * a9 + 0))) = 0 := he _ (List.mem_cons_of_mem _ (List.mem_cons_of_mem _ (List.mem_cons_of_mem _ (List.mem_cons_of_mem _ (List.mem_cons_of_mem _ (List.mem_cons_of_mem _ (List.mem_cons_of_mem _ (List.mem_cons_of_mem _ List.mem_cons_self))))))))
  have e9 : ((-35) : Int) + (1 * (zk_xe w 177 a9) + 0) = 0 := he _ (List.mem_cons_of_mem _ (List.mem_cons_of_mem _ (List.mem_cons_of_mem _ (List.mem_cons_of_mem _ (List.mem_cons_of_mem _ (List.mem_cons_of_mem _ (List.mem_cons_of_mem _ (List.mem_cons_of_mem _ (List.mem_cons_of_mem _ List.mem_cons_self)))))))))
  have g0 : 0 ≤ (0 : Int) + (1 * a1 + 0) := hg _ List.mem_cons_self
  have g1 : 0 ≤ (4294967276 : Int) + ((-1) * a1 + 0) := hg _ (List.mem_cons_of_mem _ List.mem_cons_self)
  have g2 : 0 ≤ (0 : Int) + (1 * a2 + 0) := hg _ (List.mem_cons_of_mem _ (List.mem_cons_of_mem _ List.mem_cons_self))
  have g3 : 0 ≤ (4294967276 : Int) + ((-1) * a2 + 0) := hg _ (List.mem_cons_of_mem _ (List.mem_cons_of_mem _ (List.mem_cons_of_mem _ List.mem_cons_self)))
  have g4 : 0 ≤ (0 : Int) + (1 * a3 + 0) := hg _ (List.mem_cons_of_mem _ (List.mem_cons_of_mem _ (List.mem_cons_of_mem _ (List.mem_cons_of_mem _ List.mem_cons_self))))
  have g5 : 0 ≤ (4294967276 : Int) + ((-1) * a3 + 0) := hg _ (List.mem_cons_of_mem _ (List.mem_cons_of_mem _ (List.mem_cons_of_mem _ (List.mem_cons_of_mem _ (List.mem_cons_of_mem _ List.mem_cons_self)))))
  have g6 : 0 ≤ (0 : Int) + (1 * a5 + 0) := hg _ (List.mem_cons_of_mem _ (List.mem_cons_of_mem _ (List.mem_cons_of_mem _ (List.mem_cons_of_mem _ (List.mem_cons_of_mem _ (List.mem_cons_of_mem _ List.mem_cons_self))))))
  have g7 : 0 ≤ (4294967276 : Int) + ((-1) * a5 + 0) := hg _ (List.mem_cons_of_mem _ (List.mem_cons_of_mem _ (List.mem_cons_of_mem _ (List.mem_cons_of_mem _ (List.mem_cons_of_mem _ (List.mem_cons_of_mem _ (List.mem_cons_of_mem _ List.mem_cons_self)))))))
  have g8 : 0 ≤ (0 : Int) + (1 * a6 + 0) := hg _ (List.mem_cons_of_mem _ (List.mem_cons_of_mem _ (List.mem_cons_of_mem _ (List.mem_cons_of_mem _ (List.mem_cons_of_mem _ (List.mem_cons_of_mem _ (List.mem_cons_of_mem _ (List.mem_cons_of_mem _ List.mem_cons_self))))))))
  have g9 : 0 ≤ (4294967276 : Int) + ((-1) * a6 + 0) := hg _ (List.mem_cons_of_mem _ (List.mem_cons_of_mem _ (List.mem_cons_of_mem _ (List.mem_cons_of_mem _ (List.mem_cons_of_mem _ (List.mem_cons_of_mem _ (List.mem_cons_of_mem _ (List.mem_cons_of_mem _ (List.mem_cons_of_mem _ List.mem_cons_self)))))))))
  have g10 : 0 ≤ (0 : Int) + ((-1) * a2 + (1 * a5 + 0)) := hg _ (List.mem_cons_of_mem _ (List.mem_cons_of_mem _ (List.mem_cons_of_mem _ (List.mem_cons_of_mem _ (List.mem_cons_of_mem _ (List.mem_cons_of_mem _ (List.mem_cons_of_mem _ (List.mem_cons_of_mem _ (List.mem_cons_of_mem _ (List.mem_cons_of_mem _ List.mem_cons_self))))))))))
  have g11 : 0 ≤ (0 : Int) + ((-1) * a2 + (1 * a6 + 0)) := hg _ (List.mem_cons_of_mem _ (List.mem_cons_of_mem _ (List.mem_cons_of_mem _ (List.mem_cons_of_mem _ (List.mem_cons_of_mem _ (List.mem_cons_of_mem _ (List.mem_cons_of_mem _ (List.mem_cons_of_mem _ (List.mem_cons_of_mem _ (List.mem_cons_of_mem _ (List.mem_cons_of_mem _ List.mem_cons_self)))))))))))
  have g12 : 0 ≤ (0 : Int) + (1 * a5 + ((-1) * a6 + 0)) := hg _ (List.mem_cons_of_mem _ (List.mem_cons_of_mem _ (List.mem_cons_of_mem _ (List.mem_cons_of_mem _ (List.mem_cons_of_mem _ (List.mem_cons_of_mem _ (List.mem_cons_of_mem _ (List.mem_cons_of_mem _ (List.mem_cons_of_mem _ (List.mem_cons_of_mem _ (List.mem_cons_of_mem _ (List.mem_cons_of_mem _ List.mem_cons_self))))))))))))
  have r0 : 0 ≤ a0 := hr _ List.mem_cons_self
  have r1 : 0 ≤ a4 := hr _ (List.mem_cons_of_mem _ List.mem_cons_self)
  have r2 : 0 ≤ a3 := hr _ (List.mem_cons_of_mem _ (List.mem_cons_of_mem _ List.mem_cons_self))
  have r3 : 0 ≤ a3 := hr _ (List.mem_cons_of_mem _ (List.mem_cons_of_mem _ (List.mem_cons_of_mem _ List.mem_cons_self)))
  have r4 : 0 ≤ a1 := hr _ (List.mem_cons_of_mem _ (List.mem_cons_of_mem _ (List.mem_cons_of_mem _ (List.mem_cons_of_mem _ List.mem_cons_self))))
  have r5 : 0 ≤ a9 := hr _ (List.mem_cons_of_mem _ (List.mem_cons_of_mem _ (List.mem_cons_of_mem _ (List.mem_cons_of_mem _ (List.mem_cons_of_mem _ List.mem_cons_self)))))
  have hp := (zc_146 (w := w) (j := a0) (u := a1) (x := a2) (n := a3) (by omega) (by omega) (by omega) (by omega) (by omega) (by omega) (by omega) ).mp (by omega)
  have hn := (zc_145 (w := w) (j := a4) (u := a1) (a := a2) (k := a5) (t := a6) (by omega) (by omega) (by omega) (by omega) (by omega) (by omega) (by omega) (by omega) (by omega) ).mp (by omega)
  have k0 : zh_e w 261 (a3) = zk_xe w 261 a3 := by rw [zk_xe_r (i := 261) (by decide)]; show zk_el w 261 (a3) = zk_el w 261 a3; rw [show a3 = a3 by omega]
  have k1 : zh_e w 262 (a3) = zk_xe w 262 a3 := by rw [zk_xe_r (i := 262) (by decide)]; show zk_el w 262 (a3) = zk_el w 262 a3; rw [show a3 = a3 by omega]
  have k2 : zh_e w 178 (a1) = zk_xe w 178 a1 := by rw [zk_xe_r (i := 178) (by decide)]; show zk_el w 178 (a1) = zk_el w 178 a1; rw [show a1 = a1 by omega]
  have k4 : zh_e w 177 (40000 * a1 + a6) = zk_xe w 177 a9 := by rw [zk_xe_r (i := 177) (by decide)]; show zk_el w 177 (40000 * a1 + a6) = zk_el w 177 a9; rw [show 40000 * a1 + a6 = a9 by omega]
  have h : zc_fn (zh_e w 177) (zh_e w 261) (zh_e w 262) (40000 * a1) (zh_e w 178 a1) (a5 + 1) (a3 + 1) := zc_fns (by omega) (by omega) (by omega) (by omega) (by omega) hp hn (by omega) (by omega) (Or.inl (by omega)) (Or.inr (by omega))
  exact ⟨_, List.mem_cons_self, [], rfl, zx_bnil, zx_cs0, (zx_eF1 (by show 0 ≤ (0 : Int) + (1 * a7 + 0); omega) (by show zk_xe w 2000146 ((0 : Int) + (1 * a7 + 0)) = (1 : Int) + (0); rw [show (0 : Int) + (1 * a7 + 0) = a7 by omega]; exact ((zc_146 (w := w) (j := a7) (u := a1) (x := (a5 + 1)) (n := (a3 + 1)) (by omega) (by omega) (by omega) (by omega) (by omega) (by omega) (by omega) ).mpr h).trans (by omega)) zx_eF0), zx_k0⟩
def zx_D1012 : zx_L := zx_Lc [] 10 [(2000146, 0), (2000145, 4), (261, 3), (262, 3), (178, 1), (177, 8)] [] [((0, 0), [(0, 1, 0), (1, 0, 1), (2, 0, 4294967296), (3, 0, 18446744073709551616)]), ((0, 1), [(10, 1, 0)]), ((0, 0), [(1, 0, 1), (2, 0, 4294967296), (4, 1, 0), (5, 0, 18446744073709551616), (6, 0, 79228162514264337593543950336)]), ((0, 1), [(11, 1, 0)]), ((0, 0), [(2, 0, 1), (12, 1, 0)]), ((0, 0), [(6, 0, 1), (13, 1, 0)]), ((0, 18446744078004518912), [(1, 0, 1), (3, 0, 18446744073709551616), (5, 0, 4294967296), (7, 1, 0)]), ((0, 0), [(1, 0, 40000), (5, 0, 1), (8, 1, 0)]), ((0, 10), [(15, 1, 0)]), ((0, 0), [(5, 0, 1), (6, 1, 0)])] [((0, 0), [(1, 1, 0)]), ((4294967276, 0), [(1, 0, 1)]), ((0, 0), [(2, 1, 0)]), ((4294967276, 0), [(2, 0, 1)]), ((0, 0), [(3, 1, 0)]), ((4294967276, 0), [(3, 0, 1)]), ((0, 0), [(5, 1, 0)]), ((4294967276, 0), [(5, 0, 1)]), ((0, 0), [(6, 1, 0)]), ((4294967276, 0), [(6, 0, 1)]), ((0, 0), [(2, 0, 1), (5, 1, 0)]), ((0, 0), [(2, 0, 1), (6, 1, 0)]), ((0, 0), [(5, 1, 0), (6, 0, 1)])] [([], [], [(2000146, ((0, 0), [(7, 1, 0)]), ((1, 0), []))], [])]
theorem zx_D1012_ok {PT : Nat → zz_W → Prop} : zx_Lok 64 zHT PT zx_D1012 := by
  refine zx_Lc_ok (fun w hI hK ins hl hr he hg => ?_)
  obtain ⟨a0, a1, a2, a3, a4, a5, a6, a7, a8, a9, rfl⟩ := zx_i10 hl
  have e0 : (0 : Int) + (1 * a0 + ((-1) * a1 + ((-4294967296) * a2 + ((-18446744073709551616) * a3 + 0)))) = 0 := he _ List.mem_cons_self
  have e1 : ((-1) : Int) + (1 * (zk_xe w 2000146 a0) + 0) = 0 := he _ (List.mem_cons_of_mem _ List.mem_cons_self)
  have e2 : (0 : Int) + ((-1) * a1 + ((-4294967296) * a2 + (1 * a4 + ((-18446744073709551616) * a5 + ((-79228162514264337593543950336) * a6 + 0))))) = 0 := he _ (List.mem_cons_of_mem _ (List.mem_cons_of_mem _ List.mem_cons_self))
  have e3 : ((-1) : Int) + (1 * (zk_xe w 2000145 a4) + 0) = 0 := he _ (List.mem_cons_of_mem _ (List.mem_cons_of_mem _ (List.mem_cons_of_mem _ List.mem_cons_self)))
  have e4 : (0 : Int) + ((-1) * a2 + (1 * (zk_xe w 261 a3) + 0)) = 0 := he _ (List.mem_cons_of_mem _ (List.mem_cons_of_mem _ (List.mem_cons_of_mem _ (List.mem_cons_of_mem _ List.mem_cons_self))))
  have e5 : (0 : Int) + ((-1) * a6 + (1 * (zk_xe w 262 a3) + 0)) = 0 := he _ (List.mem_cons_of_mem _ (List.mem_cons_of_mem _ (List.mem_cons_of_mem _ (List.mem_cons_of_mem _ (List.mem_cons_of_mem _ List.mem_cons_self)))))
  have e6 : ((-18446744078004518912) : Int) + ((-1) * a1 + ((-18446744073709551616) * a3 + ((-4294967296) * a5 + (1 * a7 + 0)))) = 0 := he _ (List.mem_cons_of_mem _ (List.mem_cons_of_mem _ (List.mem_cons_of_mem _ (List.mem_cons_of_mem _ (List.mem_cons_of_mem _ (List.mem_cons_of_mem _ List.mem_cons_self))))))
  have e7 : (0 : Int) + ((-40000) * a1 + ((-1) * a5 + (1 * a8 + 0))) = 0 := he _ (List.mem_cons_of_mem _ (List.mem_cons_of_mem _ (List.mem_cons_of_mem _ (List.mem_cons_of_mem _ (List.mem_cons_of_mem _ (List.mem_cons_of_mem _ (List.mem_cons_of_mem _ List.mem_cons_self)))))))
  have e8 : ((-10) : Int) + (1 * (zk_xe w 177 a8) + 0) = 0 := he _ (List.mem_cons_of_mem _ (List.mem_cons_of_mem _ (List.mem_cons_of_mem _ (List.mem_cons_of_mem _ (List.mem_cons_of_mem _ (List.mem_cons_of_mem _ (List.mem_cons_of_mem _ (List.mem_cons_of_mem _ List.mem_cons_self))))))))
  have e9 : (0 : Int) + ((-1) * a5 + (1 * a6 + 0)) = 0 := he _ (List.mem_cons_of_mem _ (List.mem_cons_of_mem _ (List.mem_cons_of_mem _ (List.mem_cons_of_mem _ (List.mem_cons_of_mem _ (List.mem_cons_of_mem _ (List.mem_cons_of_mem _ (List.mem_cons_of_mem _ (List.mem_cons_of_mem _ List.mem_cons_self)))))))))
  have g0 : 0 ≤ (0 : Int) + (1 * a1 + 0) := hg _ List.mem_cons_self
  have g1 : 0 ≤ (4294967276 : Int) + ((-1) * a1 + 0) := hg _ (List.mem_cons_of_mem _ List.mem_cons_self)
  have g2 : 0 ≤ (0 : Int) + (1 * a2 + 0) := hg _ (List.mem_cons_of_mem _ (List.mem_cons_of_mem _ List.mem_cons_self))
  have g3 : 0 ≤ (4294967276 : Int) + ((-1) * a2 + 0) := hg _ (List.mem_cons_of_mem _ (List.mem_cons_of_mem _ (List.mem_cons_of_mem _ List.mem_cons_self)))
  have g4 : 0 ≤ (0 : Int) + (1 * a3 + 0) := hg _ (List.mem_cons_of_mem _ (List.mem_cons_of_mem _ (List.mem_cons_of_mem _ (List.mem_cons_of_mem _ List.mem_cons_self))))
  have g5 : 0 ≤ (4294967276 : Int) + ((-1) * a3 + 0) := hg _ (List.mem_cons_of_mem _ (List.mem_cons_of_mem _ (List.mem_cons_of_mem _ (List.mem_cons_of_mem _ (List.mem_cons_of_mem _ List.mem_cons_self)))))
  have g6 : 0 ≤ (0 : Int) + (1 * a5 + 0) := hg _ (List.mem_cons_of_mem _ (List.mem_cons_of_mem _ (List.mem_cons_of_mem _ (List.mem_cons_of_mem _ (List.mem_cons_of_mem _ (List.mem_cons_of_mem _ List.mem_cons_self))))))
  have g7 : 0 ≤ (4294967276 : Int) + ((-1) * a5 + 0) := hg _ (List.mem_cons_of_mem _ (List.mem_cons_of_mem _ (List.mem_cons_of_mem _ (List.mem_cons_of_mem _ (List.mem_cons_of_mem _ (List.mem_cons_of_mem _ (List.mem_cons_of_mem _ List.mem_cons_self)))))))
  have g8 : 0 ≤ (0 : Int) + (1 * a6 + 0) := hg _ (List.mem_cons_of_mem _ (List.mem_cons_of_mem _ (List.mem_cons_of_mem _ (List.mem_cons_of_mem _ (List.mem_cons_of_mem _ (List.mem_cons_of_mem _ (List.mem_cons_of_mem _ (List.mem_cons_of_mem _ List.mem_cons_self))))))))
  have g9 : 0 ≤ (4294967276 : Int) + ((-1) * a6 + 0) := hg _ (List.mem_cons_of_mem _ (List.mem_cons_of_mem _ (List.mem_cons_of_mem _ (List.mem_cons_of_mem _ (List.mem_cons_of_mem _ (List.mem_cons_of_mem _ (List.mem_cons_of_mem _ (List.mem_cons_of_mem _ (List.mem_cons_of_mem _ List.mem_cons_self)))))))))
  have g10 : 0 ≤ (0 : Int) + ((-1) * a2 + (1 * a5 + 0)) := hg _ (List.mem_cons_of_mem _ (List.mem_cons_of_mem _ (List.mem_cons_of_mem _ (List.mem_cons_of_mem _ (List.mem_cons_of_mem _ (List.mem_cons_of_mem _ (List.mem_cons_of_mem _ (List.mem_cons_of_mem _ (List.mem_cons_of_mem _ (List.mem_cons_of_mem _ List.mem_cons_self))))))))))
  have g11 : 0 ≤ (0 : Int) + ((-1) * a2 + (1 * a6 + 0)) := hg _ (List.mem_cons_of_mem _ (List.mem_cons_of_mem _ (List.mem_cons_of_mem _ (List.mem_cons_of_mem _ (List.mem_cons_of_mem _ (List.mem_cons_of_mem _ (List.mem_cons_of_mem _ (List.mem_cons_of_mem _ (List.mem_cons_of_mem _ (List.mem_cons_of_mem _ (List.mem_cons_of_mem _ List.mem_cons_self)))))))))))
  have g12 : 0 ≤ (0 : Int) + (1 * a5 + ((-1) * a6 + 0)) := hg _ (List.mem_cons_of_mem _ (List.mem_cons_of_mem _ (List.mem_cons_of_mem _ (List.mem_cons_of_mem _ (List.mem_cons_of_mem _ (List.mem_cons_of_mem _ (List.mem_cons_of_mem _ (List.mem_cons_of_mem _ (List.mem_cons_of_mem _ (List.mem_cons_of_mem _ (List.mem_cons_of_mem _ (List.mem_cons_of_mem _ List.mem_cons_self))))))))))))
  have r0 : 0 ≤ a0 := hr _ List.mem_cons_self
  have r1 : 0 ≤ a4 := hr _ (List.mem_cons_of_mem _ List.mem_cons_self)
  have r2 : 0 ≤ a3 := hr _ (List.mem_cons_of_mem _ (List.mem_cons_of_mem _ List.mem_cons_self))
  have r3 : 0 ≤ a3 := hr _ (List.mem_cons_of_mem _ (List.mem_cons_of_mem _ (List.mem_cons_of_mem _ List.mem_cons_self)))
  have r4 : 0 ≤ a1 := hr _ (List.mem_cons_of_mem _ (List.mem_cons_of_mem _ (List.mem_cons_of_mem _ (List.mem_cons_of_mem _ List.mem_cons_self))))
  have r5 : 0 ≤ a8 := hr _ (List.mem_cons_of_mem _ (List.mem_cons_of_mem _ (List.mem_cons_of_mem _ (List.mem_cons_of_mem _ (List.mem_cons_of_mem _ List.mem_cons_self)))))
  have hp := (zc_146 (w := w) (j := a0) (u := a1) (x := a2) (n := a3) (by omega) (by omega) (by omega) (by omega) (by omega) (by omega) (by omega) ).mp (by omega)
  have hn := (zc_145 (w := w) (j := a4) (u := a1) (a := a2) (k := a5) (t := a6) (by omega) (by omega) (by omega) (by omega) (by omega) (by omega) (by omega) (by omega) (by omega) ).mp (by omega)
  have k0 : zh_e w 261 (a3) = zk_xe w 261 a3 := by rw [zk_xe_r (i := 261) (by decide)]; show zk_el w 261 (a3) = zk_el w 261 a3; rw [show a3 = a3 by omega]
  have k1 : zh_e w 262 (a3) = zk_xe w 262 a3 := by rw [zk_xe_r (i := 262) (by decide)]; show zk_el w 262 (a3) = zk_el w 262 a3; rw [show a3 = a3 by omega]
  have k2 : zh_e w 178 (a1) = zk_xe w 178 a1 := by rw [zk_xe_r (i := 178) (by decide)]; show zk_el w 178 (a1) = zk_el w 178 a1; rw [show a1 = a1 by omega]
  have k3 : zh_e w 177 (40000 * a1 + a5) = zk_xe w 177 a8 := by rw [zk_xe_r (i := 177) (by decide)]; show zk_el w 177 (40000 * a1 + a5) = zk_el w 177 a8; rw [show 40000 * a1 + a5 = a8 by omega]
  have h : zc_fn (zh_e w 177) (zh_e w 261) (zh_e w 262) (40000 * a1) (zh_e w 178 a1) (a5 + 1) (a3 + 1) := zc_fns (by omega) (by omega) (by omega) (by omega) (by omega) hp hn (by omega) (by omega) (Or.inr (by omega)) (Or.inl (by omega))
  exact ⟨_, List.mem_cons_self, [], rfl, zx_bnil, zx_cs0, (zx_eF1 (by show 0 ≤ (0 : Int) + (1 * a7 + 0); omega) (by show zk_xe w 2000146 ((0 : Int) + (1 * a7 + 0)) = (1 : Int) + (0); rw [show (0 : Int) + (1 * a7 + 0) = a7 by omega]; exact ((zc_146 (w := w) (j := a7) (u := a1) (x := (a5 + 1)) (n := (a3 + 1)) (by omega) (by omega) (by omega) (by omega) (by omega) (by omega) (by omega) ).mpr h).trans (by omega)) zx_eF0), zx_k0⟩
def zx_D1013 : zx_L := zx_Lc [] 10 [(2000146, 0), (2000145, 4), (261, 3), (262, 3), (178, 1), (177, 8), (177, 9)] [] [((0, 0), [(0, 1, 0), (1, 0, 1), (2, 0, 4294967296), (3, 0, 18446744073709551616)]), ((0, 1), [(10, 1, 0)]), ((0, 0), [(1, 0, 1), (2, 0, 4294967296), (4, 1, 0), (5, 0, 18446744073709551616), (6, 0, 79228162514264337593543950336)]), ((0, 1), [(11, 1, 0)]), ((0, 0), [(2, 0, 1), (12, 1, 0)]), ((0, 0), [(6, 0, 1), (13, 1, 0)]), ((0, 18446744078004518912), [(1, 0, 1), (3, 0, 18446744073709551616), (5, 0, 4294967296), (7, 1, 0)]), ((0, 0), [(1, 0, 40000), (5, 0, 1), (8, 1, 0)]), ((0, 10), [(15, 1, 0)]), ((0, 0), [(1, 0, 40000), (6, 0, 1), (9, 1, 0)]), ((0, 35), [(16, 1, 0)])] [((0, 0), [(1, 1, 0)]), ((4294967276, 0), [(1, 0, 1)]), ((0, 0), [(2, 1, 0)]), ((4294967276, 0), [(2, 0, 1)]), ((0, 0), [(3, 1, 0)]), ((4294967276, 0), [(3, 0, 1)]), ((0, 0), [(5, 1, 0)]), ((4294967276, 0), [(5, 0, 1)]), ((0, 0), [(6, 1, 0)]), ((4294967276, 0), [(6, 0, 1)]), ((0, 0), [(2, 0, 1), (5, 1, 0)]), ((0, 0), [(2, 0, 1), (6, 1, 0)]), ((0, 0), [(5, 1, 0), (6, 0, 1)])] [([], [], [(2000146, ((0, 0), [(7, 1, 0)]), ((1, 0), []))], [])]
theorem zx_D1013_ok {PT : Nat → zz_W → Prop} : zx_Lok 64 zHT PT zx_D1013 := by
  refine zx_Lc_ok (fun w hI hK ins hl hr he hg => ?_)
  obtain ⟨a0, a1, a2, a3, a4, a5, a6, a7, a8, a9, rfl⟩ := zx_i10 hl
  have e0 : (0 : Int) + (1 * a0 + ((-1) * a1 + ((-4294967296) * a2 + ((-18446744073709551616) * a3 + 0)))) = 0 := he _ List.mem_cons_self
  have e1 : ((-1) : Int) + (1 * (zk_xe w 2000146 a0) + 0) = 0 := he _ (List.mem_cons_of_mem _ List.mem_cons_self)
  have e2 : (0 : Int) + ((-1) * a1 + ((-4294967296) * a2 + (1 * a4 + ((-18446744073709551616) * a5 + ((-79228162514264337593543950336) * a6 + 0))))) = 0 := he _ (List.mem_cons_of_mem _ (List.mem_cons_of_mem _ List.mem_cons_self))
  have e3 : ((-1) : Int) + (1 * (zk_xe w 2000145 a4) + 0) = 0 := he _ (List.mem_cons_of_mem _ (List.mem_cons_of_mem _ (List.mem_cons_of_mem _ List.mem_cons_self)))
  have e4 : (0 : Int) + ((-1) * a2 + (1 * (zk_xe w 261 a3) + 0)) = 0 := he _ (List.mem_cons_of_mem _ (List.mem_cons_of_mem _ (List.mem_cons_of_mem _ (List.mem_cons_of_mem _ List.mem_cons_self))))
  have e5 : (0 : Int) + ((-1) * a6 + (1 * (zk_xe w 262 a3) + 0)) = 0 := he _ (List.mem_cons_of_mem _ (List.mem_cons_of_mem _ (List.mem_cons_of_mem _ (List.mem_cons_of_mem _ (List.mem_cons_of_mem _ List.mem_cons_self)))))
  have e6 : ((-18446744078004518912) : Int) + ((-1) * a1 + ((-18446744073709551616) * a3 + ((-4294967296) * a5 + (1 * a7 + 0)))) = 0 := he _ (List.mem_cons_of_mem _ (List.mem_cons_of_mem _ (List.mem_cons_of_mem _ (List.mem_cons_of_mem _ (List.mem_cons_of_mem _ (List.mem_cons_of_mem _ List.mem_cons_self))))))
  have e7 : (0 : Int) + ((-40000) * a1 + ((-1) * a5 + (1 * a8 + 0))) = 0 := he _ (List.mem_cons_of_mem _ (List.mem_cons_of_mem _ (List.mem_cons_of_mem _ (List.mem_cons_of_mem _ (List.mem_cons_of_mem _ (List.mem_cons_of_mem _ (List.mem_cons_of_mem _ List.mem_cons_self)))))))
  have e8 : ((-10) : Int) + (1 * (zk_xe w 177 a8) + 0) = 0 := he _ (List.mem_cons_of_mem _ (List.mem_cons_of_mem _ (List.mem_cons_of_mem _ (List.mem_cons_of_mem _ (List.mem_cons_of_mem _ (List.mem_cons_of_mem _ (List.mem_cons_of_mem _ (List.mem_cons_of_mem _ List.mem_cons_self))))))))
  have e9 : (0 : Int) + ((-40000) * a1 + ((-1) * a6 + (1 * a9 + 0))) = 0 := he _ (List.mem_cons_of_mem _ (List.mem_cons_of_mem _ (List.mem_cons_of_mem _ (List.mem_cons_of_mem _ (List.mem_cons_of_mem _ (List.mem_cons_of_mem _ (List.mem_cons_of_mem _ (List.mem_cons_of_mem _ (List.mem_cons_of_mem _ List.mem_cons_self)))))))))
  have e10 : ((-35) : Int) + (1 * (zk_xe w 177 a9) + 0) = 0 := he _ (List.mem_cons_of_mem _ (List.mem_cons_of_mem _ (List.mem_cons_of_mem _ (List.mem_cons_of_mem _ (List.mem_cons_of_mem _ (List.mem_cons_of_mem _ (List.mem_cons_of_mem _ (List.mem_cons_of_mem _ (List.mem_cons_of_mem _ (List.mem_cons_of_mem _ List.mem_cons_self))))))))))
  have g0 : 0 ≤ (0 : Int) + (1 * a1 + 0) := hg _ List.mem_cons_self
  have g1 : 0 ≤ (4294967276 : Int) + ((-1) * a1 + 0) := hg _ (List.mem_cons_of_mem _ List.mem_cons_self)
  have g2 : 0 ≤ (0 : Int) + (1 * a2 + 0) := hg _ (List.mem_cons_of_mem _ (List.mem_cons_of_mem _ List.mem_cons_self))
  have g3 : 0 ≤ (4294967276 : Int) + ((-1) * a2 + 0) := hg _ (List.mem_cons_of_mem _ (List.mem_cons_of_mem _ (List.mem_cons_of_mem _ List.mem_cons_self)))
  have g4 : 0 ≤ (0 : Int) + (1 * a3 + 0) := hg _ (List.mem_cons_of_mem _ (List.mem_cons_of_mem _ (List.mem_cons_of_mem _ (List.mem_cons_of_mem _ List.mem_cons_self))))
  have g5 : 0 ≤ (4294967276 : Int) + ((-1) * a3 + 0) := hg _ (List.mem_cons_of_mem _ (List.mem_cons_of_mem _ (List.mem_cons_of_mem _ (List.mem_cons_of_mem _ (List.mem_cons_of_mem _ List.mem_cons_self)))))
  have g6 : 0 ≤ (0 : Int) + (1 * a5 + 0) := hg _ (List.mem_cons_of_mem _ (List.mem_cons_of_mem _ (List.mem_cons_of_mem _ (List.mem_cons_of_mem _ (List.mem_cons_of_mem _ (List.mem_cons_of_mem _ List.mem_cons_self))))))
  have g7 : 0 ≤ (4294967276 : Int) + ((-1) * a5 + 0) := hg _ (List.mem_cons_of_mem _ (List.mem_cons_of_mem _ (List.mem_cons_of_mem _ (List.mem_cons_of_mem _ (List.mem_cons_of_mem _ (List.mem_cons_of_mem _ (List.mem_cons_of_mem _ List.mem_cons_self)))))))
  have g8 : 0 ≤ (0 : Int) + (1 * a6 + 0) := hg _ (List.mem_cons_of_mem _ (List.mem_cons_of_mem _ (List.mem_cons_of_mem _ (List.mem_cons_of_mem _ (List.mem_cons_of_mem _ (List.mem_cons_of_mem _ (List.mem_cons_of_mem _ (List.mem_cons_of_mem _ List.mem_cons_self))))))))
  have g9 : 0 ≤ (4294967276 : Int) + ((-1) * a6 + 0) := hg _ (List.mem_cons_of_mem _ (List.mem_cons_of_mem _ (List.mem_cons_of_mem _ (List.mem_cons_of_mem _ (List.mem_cons_of_mem _ (List.mem_cons_of_mem _ (List.mem_cons_of_mem _ (List.mem_cons_of_mem _ (List.mem_cons_of_mem _ List.mem_cons_self)))))))))
  have g10 : 0 ≤ (0 : Int) + ((-1) * a2 + (1 * a5 + 0)) := hg _ (List.mem_cons_of_mem _ (List.mem_cons_of_mem _ (List.mem_cons_of_mem _ (List.mem_cons_of_mem _ (List.mem_cons_of_mem _ (List.mem_cons_of_mem _ (List.mem_cons_of_mem _ (List.mem_cons_of_mem _ (List.mem_cons_of_mem _ (List.mem_cons_of_mem _ List.mem_cons_self))))))))))
  have g11 : 0 ≤ (0 : Int) + ((-1) * a2 + (1 * a6 + 0)) := hg _ (List.mem_cons_of_mem _ (List.mem_cons_of_mem _ (List.mem_cons_of_mem _ (List.mem_cons_of_mem _ (List.mem_cons_of_mem _ (List.mem_cons_of_mem _ (List.mem_cons_of_mem _ (List.mem_cons_of_mem _ (List.mem_cons_of_mem _ (List.mem_cons_of_mem _ (List.mem_cons_of_mem _ List.mem_cons_self)))))))))))
  have g12 : 0 ≤ (0 : Int) + (1 * a5 + ((-1) * a6 + 0)) := hg _ (List.mem_cons_of_mem _ (List.mem_cons_of_mem _ (List.mem_cons_of_mem _ (List.mem_cons_of_mem _ (List.mem_cons_of_mem _ (List.mem_cons_of_mem _ (List.mem_cons_of_mem _ (List.mem_cons_of_mem _ (List.mem_cons_of_mem _ (List.mem_cons_of_mem _ (List.mem_cons_of_mem _ (List.mem_cons_of_mem _ List.mem_cons_self))))))))))))
  have r0 : 0 ≤ a0 := hr _ List.mem_cons_self
  have r1 : 0 ≤ a4 := hr _ (List.mem_cons_of_mem _ List.mem_cons_self)
  have r2 : 0 ≤ a3 := hr _ (List.mem_cons_of_mem _ (List.mem_cons_of_mem _ List.mem_cons_self))
  have r3 : 0 ≤ a3 := hr _ (List.mem_cons_of_mem _ (List.mem_cons_of_mem _ (List.mem_cons_of_mem _ List.mem_cons_self)))
  have r4 : 0 ≤ a1 := hr _ (List.mem_cons_of_mem _ (List.mem_cons_of_mem _ (List.mem_cons_of_mem _ (List.mem_cons_of_mem _ List.mem_cons_self))))
  have r5 : 0 ≤ a8 := hr _ (List.mem_cons_of_mem _ (List.mem_cons_of_mem _ (List.mem_cons_of_mem _ (List.mem_cons_of_mem _ (List.mem_cons_of_mem _ List.mem_cons_self)))))
  have r6 : 0 ≤ a9 := hr _ (List.mem_cons_of_mem _ (List.mem_cons_of_mem _ (List.mem_cons_of_mem _ (List.mem_cons_of_mem _ (List.mem_cons_of_mem _ (List.mem_cons_of_mem _ List.mem_cons_self))))))
  have hp := (zc_146 (w := w) (j := a0) (u := a1) (x := a2) (n := a3) (by omega) (by omega) (by omega) (by omega) (by omega) (by omega) (by omega) ).mp (by omega)
  have hn := (zc_145 (w := w) (j := a4) (u := a1) (a := a2) (k := a5) (t := a6) (by omega) (by omega) (by omega) (by omega) (by omega) (by omega) (by omega) (by omega) (by omega) ).mp (by omega)
  have k0 : zh_e w 261 (a3) = zk_xe w 261 a3 := by rw [zk_xe_r (i := 261) (by decide)]; show zk_el w 261 (a3) = zk_el w 261 a3; rw [show a3 = a3 by omega]
  have k1 : zh_e w 262 (a3) = zk_xe w 262 a3 := by rw [zk_xe_r (i := 262) (by decide)]; show zk_el w 262 (a3) = zk_el w 262 a3; rw [show a3 = a3 by omega]
  have k2 : zh_e w 178 (a1) = zk_xe w 178 a1 := by rw [zk_xe_r (i := 178) (by decide)]; show zk_el w 178 (a1) = zk_el w 178 a1; rw [show a1 = a1 by omega]
  have k3 : zh_e w 177 (40000 * a1 + a5) = zk_xe w 177 a8 := by rw [zk_xe_r (i := 177) (by decide)]; show zk_el w 177 (40000 * a1 + a5) = zk_el w 177 a8; rw [show 40000 * a1 + a5 = a8 by omega]
  have k4 : zh_e w 177 (40000 * a1 + a6) = zk_xe w 177 a9 := by rw [zk_xe_r (i := 177) (by decide)]; show zk_el w 177 (40000 * a1 + a6) = zk_el w 177 a9; rw [show 40000 * a1 + a6 = a9 by omega]
  have h : zc_fn (zh_e w 177) (zh_e w 261) (zh_e w 262) (40000 * a1) (zh_e w 178 a1) (a5 + 1) (a3 + 1) := zc_fns (by omega) (by omega) (by omega) (by omega) (by omega) hp hn (by omega) (by omega) (Or.inr (by omega)) (Or.inr (by omega))
  exact ⟨_, List.mem_cons_self, [], rfl, zx_bnil, zx_cs0, (zx_eF1 (by show 0 ≤ (0 : Int) + (1 * a7 + 0); omega) (by show zk_xe w 2000146 ((0 : Int) + (1 * a7 + 0)) = (1 : Int) + (0); rw [show (0 : Int) + (1 * a7 + 0) = a7 by omega]; exact ((zc_146 (w := w) (j := a7) (u := a1) (x := (a5 + 1)) (n := (a3 + 1)) (by omega) (by omega) (by omega) (by omega) (by omega) (by omega) (by omega) ).mpr h).trans (by omega)) zx_eF0), zx_k0⟩
def zx_D1014 : zx_L := zx_Lc [] 2 [(2000146, 0)] [] [((0, 0), [(0, 1, 0), (1, 0, 1)])] [((0, 0), [(0, 1, 0)])] [([], [], [(2000146, ((0, 0), [(1, 1, 0)]), ((0, 0), [(2, 1, 0)]))], [])]
theorem zx_D1014_ok {PT : Nat → zz_W → Prop} : zx_Lok 64 zHT PT zx_D1014 := by
  refine zx_Lc_ok (fun w hI hK ins hl hr he hg => ?_)
  obtain ⟨a0, a1, rfl⟩ := zx_i2 hl
  have e0 : (0 : Int) + (1 * a0 + ((-1) * a1 + 0)) = 0 := he _ List.mem_cons_self
  have g0 : 0 ≤ (0 : Int) + (1 * a0 + 0) := hg _ List.mem_cons_self
  have r0 : 0 ≤ a0 := hr _ List.mem_cons_self
  have e : a1 = a0 := by omega
  exact ⟨_, List.mem_cons_self, [], rfl, zx_bnil, zx_cs0, (zx_eF1 (by show 0 ≤ (0 : Int) + (1 * a1 + 0); omega) (by show zk_xe w 2000146 ((0 : Int) + (1 * a1 + 0)) = (0 : Int) + (1 * (zk_xe w 2000146 a0) + 0); rw [show (0 : Int) + (1 * a1 + 0) = a1 by omega]; rw [e]; omega) zx_eF0), zx_k0⟩
def zx_D1025 : zx_L := zx_Lc [] 2 [(178, 0), (2000095, 0)] [] [((0, 0), [(0, 1, 0), (1, 0, 1)])] [((0, 0), [(0, 1, 0)])] [([], [], [(178, ((0, 0), [(1, 1, 0)]), ((0, 0), [(2, 1, 0)])), (2000095, ((0, 0), [(1, 1, 0)]), ((0, 0), [(3, 1, 0)]))], [])]
theorem zx_D1025_ok {PT : Nat → zz_W → Prop} : zx_Lok 64 zHT PT zx_D1025 := by
  refine zx_Lc_ok (fun w hI hK ins hl hr he hg => ?_)
  obtain ⟨a0, a1, rfl⟩ := zx_i2 hl
  have e0 : (0 : Int) + (1 * a0 + ((-1) * a1 + 0)) = 0 := he _ List.mem_cons_self
  have g0 : 0 ≤ (0 : Int) + (1 * a0 + 0) := hg _ List.mem_cons_self
  have r0 : 0 ≤ a0 := hr _ List.mem_cons_self
  have r1 : 0 ≤ a0 := hr _ (List.mem_cons_of_mem _ List.mem_cons_self)
  have e : a1 = a0 := by omega
  exact ⟨_, List.mem_cons_self, [], rfl, zx_bnil, zx_cs0, (zx_eF1 (by show 0 ≤ (0 : Int) + (1 * a1 + 0); omega) (by show zk_xe w 178 ((0 : Int) + (1 * a1 + 0)) = (0 : Int) + (1 * (zk_xe w 178 a0) + 0); rw [show (0 : Int) + (1 * a1 + 0) = a1 by omega]; rw [e]; omega) (zx_eF1 (by show 0 ≤ (0 : Int) + (1 * a1 + 0); omega) (by show zk_xe w 2000095 ((0 : Int) + (1 * a1 + 0)) = (0 : Int) + (1 * (zk_xe w 2000095 a0) + 0); rw [show (0 : Int) + (1 * a1 + 0) = a1 by omega]; rw [e]; omega) zx_eF0)), zx_k0⟩
def zx_D1020 : zx_L := zx_Lc [] 1 [] [] [] [((0, 0), [(0, 1, 0)]), ((4294967276, 0), [(0, 0, 1)])] [([], [], [(2000152, ((0, 0), [(0, 1, 0)]), ((0, 0), []))], [])]
theorem zx_D1020_ok {PT : Nat → zz_W → Prop} : zx_Lok 64 zHT PT zx_D1020 := by
  refine zx_Lc_ok (fun w hI hK ins hl hr he hg => ?_)
  obtain ⟨a0, rfl⟩ := zx_i1 hl
  have g0 : 0 ≤ (0 : Int) + (1 * a0 + 0) := hg _ List.mem_cons_self
  have g1 : 0 ≤ (4294967276 : Int) + ((-1) * a0 + 0) := hg _ (List.mem_cons_of_mem _ List.mem_cons_self)
  have h := zc_152 (w := w) (j := a0) (u := a0) (k := 0) (by omega) (by omega) (by omega) (by omega) (by omega) 
  have h : zk_xe w 2000152 a0 = 0 := h.trans rfl
  exact ⟨_, List.mem_cons_self, [], rfl, zx_bnil, zx_cs0, (zx_eF1 (by show 0 ≤ (0 : Int) + (1 * a0 + 0); omega) (by show zk_xe w 2000152 ((0 : Int) + (1 * a0 + 0)) = (0 : Int) + (0); rw [show (0 : Int) + (1 * a0 + 0) = a0 by omega]; omega) zx_eF0), zx_k0⟩
def zx_D1021 : zx_L := zx_Lc [] 5 [(2000152, 0), (177, 4)] [] [((0, 0), [(0, 1, 0), (1, 0, 1), (2, 0, 4294967296)]), ((0, 4294967296), [(1, 0, 1), (2, 0, 4294967296), (3, 1, 0)]), ((0, 0), [(1, 0, 40000), (2, 0, 1), (4, 1, 0)])] [((0, 0), [(1, 1, 0)]), ((4294967276, 0), [(1, 0, 1)]), ((0, 0), [(2, 1, 0)]), ((4294967276, 0), [(2, 0, 1)]), ((0, 10), [(6, 1, 0)]), ((10, 0), [(6, 0, 1)])] [([], [], [(2000152, ((0, 0), [(3, 1, 0)]), ((1, 0), [(5, 1, 0)]))], [])]
theorem zx_D1021_ok {PT : Nat → zz_W → Prop} : zx_Lok 64 zHT PT zx_D1021 := by
  refine zx_Lc_ok (fun w hI hK ins hl hr he hg => ?_)
  obtain ⟨a0, a1, a2, a3, a4, rfl⟩ := zx_i5 hl
  have e0 : (0 : Int) + (1 * a0 + ((-1) * a1 + ((-4294967296) * a2 + 0))) = 0 := he _ List.mem_cons_self
  have e1 : ((-4294967296) : Int) + ((-1) * a1 + ((-4294967296) * a2 + (1 * a3 + 0))) = 0 := he _ (List.mem_cons_of_mem _ List.mem_cons_self)
  have e2 : (0 : Int) + ((-40000) * a1 + ((-1) * a2 + (1 * a4 + 0))) = 0 := he _ (List.mem_cons_of_mem _ (List.mem_cons_of_mem _ List.mem_cons_self))
  have g0 : 0 ≤ (0 : Int) + (1 * a1 + 0) := hg _ List.mem_cons_self
  have g1 : 0 ≤ (4294967276 : Int) + ((-1) * a1 + 0) := hg _ (List.mem_cons_of_mem _ List.mem_cons_self)
  have g2 : 0 ≤ (0 : Int) + (1 * a2 + 0) := hg _ (List.mem_cons_of_mem _ (List.mem_cons_of_mem _ List.mem_cons_self))
  have g3 : 0 ≤ (4294967276 : Int) + ((-1) * a2 + 0) := hg _ (List.mem_cons_of_mem _ (List.mem_cons_of_mem _ (List.mem_cons_of_mem _ List.mem_cons_self)))
  have g4 : 0 ≤ ((-10) : Int) + (1 * (zk_xe w 177 a4) + 0) := hg _ (List.mem_cons_of_mem _ (List.mem_cons_of_mem _ (List.mem_cons_of_mem _ (List.mem_cons_of_mem _ List.mem_cons_self))))
  have g5 : 0 ≤ (10 : Int) + ((-1) * (zk_xe w 177 a4) + 0) := hg _ (List.mem_cons_of_mem _ (List.mem_cons_of_mem _ (List.mem_cons_of_mem _ (List.mem_cons_of_mem _ (List.mem_cons_of_mem _ List.mem_cons_self)))))
  have r0 : 0 ≤ a0 := hr _ List.mem_cons_self
  have r1 : 0 ≤ a4 := hr _ (List.mem_cons_of_mem _ List.mem_cons_self)
  have h1 := zc_152 (w := w) (j := a0) (u := a1) (k := a2) (by omega) (by omega) (by omega) (by omega) (by omega) 
  have h2 := zc_152 (w := w) (j := a3) (u := a1) (k := (a2 + 1)) (by omega) (by omega) (by omega) (by omega) (by omega) 
  have k0 : zh_e w 177 (40000 * a1 + a2) = zk_xe w 177 a4 := by rw [zk_xe_r (i := 177) (by decide)]; show zk_el w 177 (40000 * a1 + a2) = zk_el w 177 a4; rw [show 40000 * a1 + a2 = a4 by omega]
  rw [zc_cs (by omega), k0, if_pos (by omega), ← h1] at h2
  exact ⟨_, List.mem_cons_self, [], rfl, zx_bnil, zx_cs0, (zx_eF1 (by show 0 ≤ (0 : Int) + (1 * a3 + 0); omega) (by show zk_xe w 2000152 ((0 : Int) + (1 * a3 + 0)) = (1 : Int) + (1 * (zk_xe w 2000152 a0) + 0); rw [show (0 : Int) + (1 * a3 + 0) = a3 by omega]; omega) zx_eF0), zx_k0⟩
def zx_D1022 : zx_L := zx_Lc [] 5 [(2000152, 0), (177, 4)] [] [((0, 0), [(0, 1, 0), (1, 0, 1), (2, 0, 4294967296)]), ((0, 4294967296), [(1, 0, 1), (2, 0, 4294967296), (3, 1, 0)]), ((0, 0), [(1, 0, 40000), (2, 0, 1), (4, 1, 0)])] [((0, 0), [(1, 1, 0)]), ((4294967276, 0), [(1, 0, 1)]), ((0, 0), [(2, 1, 0)]), ((4294967276, 0), [(2, 0, 1)]), ((9, 0), [(6, 0, 1)])] [([], [], [(2000152, ((0, 0), [(3, 1, 0)]), ((0, 0), [(5, 1, 0)]))], [])]
theorem zx_D1022_ok {PT : Nat → zz_W → Prop} : zx_Lok 64 zHT PT zx_D1022 := by
  refine zx_Lc_ok (fun w hI hK ins hl hr he hg => ?_)
  obtain ⟨a0, a1, a2, a3, a4, rfl⟩ := zx_i5 hl
  have e0 : (0 : Int) + (1 * a0 + ((-1) * a1 + ((-4294967296) * a2 + 0))) = 0 := he _ List.mem_cons_self
  have e1 : ((-4294967296) : Int) + ((-1) * a1 + ((-4294967296) * a2 + (1 * a3 + 0))) = 0 := he _ (List.mem_cons_of_mem _ List.mem_cons_self)
  have e2 : (0 : Int) + ((-40000) * a1 + ((-1) * a2 + (1 * a4 + 0))) = 0 := he _ (List.mem_cons_of_mem _ (List.mem_cons_of_mem _ List.mem_cons_self))
  have g0 : 0 ≤ (0 : Int) + (1 * a1 + 0) := hg _ List.mem_cons_self
  have g1 : 0 ≤ (4294967276 : Int) + ((-1) * a1 + 0) := hg _ (List.mem_cons_of_mem _ List.mem_cons_self)
  have g2 : 0 ≤ (0 : Int) + (1 * a2 + 0) := hg _ (List.mem_cons_of_mem _ (List.mem_cons_of_mem _ List.mem_cons_self))
  have g3 : 0 ≤ (4294967276 : Int) + ((-1) * a2 + 0) := hg _ (List.mem_cons_of_mem _ (List.mem_cons_of_mem _ (List.mem_cons_of_mem _ List.mem_cons_self)))
  have g4 : 0 ≤ (9 : Int) + ((-1) * (zk_xe w 177 a4) + 0) := hg _ (List.mem_cons_of_mem _ (List.mem_cons_of_mem _ (List.mem_cons_of_mem _ (List.mem_cons_of_mem _ List.mem_cons_self))))
  have r0 : 0 ≤ a0 := hr _ List.mem_cons_self
  have r1 : 0 ≤ a4 := hr _ (List.mem_cons_of_mem _ List.mem_cons_self)
  have h1 := zc_152 (w := w) (j := a0) (u := a1) (k := a2) (by omega) (by omega) (by omega) (by omega) (by omega) 
  have h2 := zc_152 (w := w) (j := a3) (u := a1) (k := (a2 + 1)) (by omega) (by omega) (by omega) (by omega) (by omega) 
  have k0 : zh_e w 177 (40000 * a1 + a2) = zk_xe w 177 a4 := by rw [zk_xe_r (i := 177) (by decide)]; show zk_el w 177 (40000 * a1 + a2) = zk_el w 177 a4; rw [show 40000 * a1 + a2 = a4 by omega]
  rw [zc_cs (by omega), k0, if_neg (by omega), ← h1] at h2
  exact ⟨_, List.mem_cons_self, [], rfl, zx_bnil, zx_cs0, (zx_eF1 (by show 0 ≤ (0 : Int) + (1 * a3 + 0); omega) (by show zk_xe w 2000152 ((0 : Int) + (1 * a3 + 0)) = (0 : Int) + (1 * (zk_xe w 2000152 a0) + 0); rw [show (0 : Int) + (1 * a3 + 0) = a3 by omega]; omega) zx_eF0), zx_k0⟩
def zx_D1023 : zx_L := zx_Lc [] 5 [(2000152, 0), (177, 4)] [] [((0, 0), [(0, 1, 0), (1, 0, 1), (2, 0, 4294967296)]), ((0, 4294967296), [(1, 0, 1), (2, 0, 4294967296), (3, 1, 0)]), ((0, 0), [(1, 0, 40000), (2, 0, 1), (4, 1, 0)])] [((0, 0), [(1, 1, 0)]), ((4294967276, 0), [(1, 0, 1)]), ((0, 0), [(2, 1, 0)]), ((4294967276, 0), [(2, 0, 1)]), ((0, 11), [(6, 1, 0)])] [([], [], [(2000152, ((0, 0), [(3, 1, 0)]), ((0, 0), [(5, 1, 0)]))], [])]
theorem zx_D1023_ok {PT : Nat → zz_W → Prop} : zx_Lok 64 zHT PT zx_D1023 := by
  refine zx_Lc_ok (fun w hI hK ins hl hr he hg => ?_)
  obtain ⟨a0, a1, a2, a3, a4, rfl⟩ := zx_i5 hl
  have e0 : (0 : Int) + (1 * a0 + ((-1) * a1 + ((-4294967296) * a2 + 0))) = 0 := he _ List.mem_cons_self
  have e1 : ((-4294967296) : Int) + ((-1) * a1 + ((-4294967296) * a2 + (1 * a3 + 0))) = 0 := he _ (List.mem_cons_of_mem _ List.mem_cons_self)
  have e2 : (0 : Int) + ((-40000) * a1 + ((-1) * a2 + (1 * a4 + 0))) = 0 := he _ (List.mem_cons_of_mem _ (List.mem_cons_of_mem _ List.mem_cons_self))
  have g0 : 0 ≤ (0 : Int) + (1 * a1 + 0) := hg _ List.mem_cons_self
  have g1 : 0 ≤ (4294967276 : Int) + ((-1) * a1 + 0) := hg _ (List.mem_cons_of_mem _ List.mem_cons_self)
  have g2 : 0 ≤ (0 : Int) + (1 * a2 + 0) := hg _ (List.mem_cons_of_mem _ (List.mem_cons_of_mem _ List.mem_cons_self))
  have g3 : 0 ≤ (4294967276 : Int) + ((-1) * a2 + 0) := hg _ (List.mem_cons_of_mem _ (List.mem_cons_of_mem _ (List.mem_cons_of_mem _ List.mem_cons_self)))
  have g4 : 0 ≤ ((-11) : Int) + (1 * (zk_xe w 177 a4) + 0) := hg _ (List.mem_cons_of_mem _ (List.mem_cons_of_mem _ (List.mem_cons_of_mem _ (List.mem_cons_of_mem _ List.mem_cons_self))))
  have r0 : 0 ≤ a0 := hr _ List.mem_cons_self
  have r1 : 0 ≤ a4 := hr _ (List.mem_cons_of_mem _ List.mem_cons_self)
  have h1 := zc_152 (w := w) (j := a0) (u := a1) (k := a2) (by omega) (by omega) (by omega) (by omega) (by omega) 
  have h2 := zc_152 (w := w) (j := a3) (u := a1) (k := (a2 + 1)) (by omega) (by omega) (by omega) (by omega) (by omega) 
  have k0 : zh_e w 177 (40000 * a1 + a2) = zk_xe w 177 a4 := by rw [zk_xe_r (i := 177) (by decide)]; show zk_el w 177 (40000 * a1 + a2) = zk_el w 177 a4; rw [show 40000 * a1 + a2 = a4 by omega]
  rw [zc_cs (by omega), k0, if_neg (by omega), ← h1] at h2
  exact ⟨_, List.mem_cons_self, [], rfl, zx_bnil, zx_cs0, (zx_eF1 (by show 0 ≤ (0 : Int) + (1 * a3 + 0); omega) (by show zk_xe w 2000152 ((0 : Int) + (1 * a3 + 0)) = (0 : Int) + (1 * (zk_xe w 2000152 a0) + 0); rw [show (0 : Int) + (1 * a3 + 0) = a3 by omega]; omega) zx_eF0), zx_k0⟩
def zx_D1024 : zx_L := zx_Lc [] 3 [(2000152, 0), (2000095, 1), (178, 1)] [] [((0, 0), [(0, 1, 0), (1, 0, 1), (2, 0, 4294967296)])] [((0, 0), [(1, 1, 0)]), ((4294967276, 0), [(1, 0, 1)]), ((0, 0), [(2, 1, 0)]), ((4294967276, 0), [(2, 0, 1)]), ((0, 0), [(2, 0, 1), (5, 1, 0)])] [([], [((0, 0), [(3, 0, 1), (4, 1, 0)])], [], [])]
theorem zx_D1024_ok {PT : Nat → zz_W → Prop} : zx_Lok 64 zHT PT zx_D1024 := by
  refine zx_Lc_ok (fun w hI hK ins hl hr he hg => ?_)
  obtain ⟨a0, a1, a2, rfl⟩ := zx_i3 hl
  have e0 : (0 : Int) + (1 * a0 + ((-1) * a1 + ((-4294967296) * a2 + 0))) = 0 := he _ List.mem_cons_self
  have g0 : 0 ≤ (0 : Int) + (1 * a1 + 0) := hg _ List.mem_cons_self
  have g1 : 0 ≤ (4294967276 : Int) + ((-1) * a1 + 0) := hg _ (List.mem_cons_of_mem _ List.mem_cons_self)
  have g2 : 0 ≤ (0 : Int) + (1 * a2 + 0) := hg _ (List.mem_cons_of_mem _ (List.mem_cons_of_mem _ List.mem_cons_self))
  have g3 : 0 ≤ (4294967276 : Int) + ((-1) * a2 + 0) := hg _ (List.mem_cons_of_mem _ (List.mem_cons_of_mem _ (List.mem_cons_of_mem _ List.mem_cons_self)))
  have g4 : 0 ≤ (0 : Int) + ((-1) * a2 + (1 * (zk_xe w 178 a1) + 0)) := hg _ (List.mem_cons_of_mem _ (List.mem_cons_of_mem _ (List.mem_cons_of_mem _ (List.mem_cons_of_mem _ List.mem_cons_self))))
  have r0 : 0 ≤ a0 := hr _ List.mem_cons_self
  have r1 : 0 ≤ a1 := hr _ (List.mem_cons_of_mem _ List.mem_cons_self)
  have r2 : 0 ≤ a1 := hr _ (List.mem_cons_of_mem _ (List.mem_cons_of_mem _ List.mem_cons_self))
  have h1 := zc_152 (w := w) (j := a0) (u := a1) (k := a2) (by omega) (by omega) (by omega) (by omega) (by omega) 
  have h2 := zyq95 (w := w) (j := a1)
  have k0 : zh_e w 178 (a1) = zk_xe w 178 a1 := by rw [zk_xe_r (i := 178) (by decide)]; show zk_el w 178 (a1) = zk_el w 178 a1; rw [show a1 = a1 by omega]
  have q := zc_cm (T := zh_e w 177) (b := 40000 * a1) (n := a2.toNat) (m := (zk_xe w 178 a1 - a2).toNat)
  rw [show a2.toNat + (zk_xe w 178 a1 - a2).toNat = (zk_xe w 178 a1).toNat by omega, ← h1, ← k0, ← h2] at q
  exact ⟨_, List.mem_cons_self, [], rfl, zx_bnil, (zx_cs1 (by show 0 ≤ (0 : Int) + ((-1) * (zk_xe w 2000152 a0) + (1 * (zk_xe w 2000095 a1) + 0)); omega) zx_cs0), zx_eF0, zx_k0⟩
def zx_E670 : zx_V := zx_Vc 261 [] 4 [(2000146, 0)] [((0, 0), [(2, 1, 0), (3, 0, 1), (4, 0, 4294967296), (5, 0, 18446744073709551616)]), ((0, 1), [(6, 1, 0)])] [((0, 0), [(3, 1, 0)]), ((4294967276, 0), [(3, 0, 1)]), ((0, 0), [(4, 1, 0)]), ((4294967276, 0), [(4, 0, 1)]), ((0, 0), [(5, 1, 0)]), ((4294967276, 0), [(5, 0, 1)]), ((0, 0), [(0, 1, 0), (5, 0, 1)])] [(2000146, ((0, 0), [(2, 1, 0)]), ((1, 0), []))]
theorem zx_E670_ok {PT : Nat → zz_W → Prop} : zx_Vok 64 zHT PT zx_E670 := by
  refine zx_Vc_ok (fun w w' j ins hI hI' h0 hw hK hl he hg => ?_)
  obtain ⟨a0, a1, a2, a3, rfl⟩ := zx_i4 hl
  have e0 : (0 : Int) + (1 * a0 + ((-1) * a1 + ((-4294967296) * a2 + ((-18446744073709551616) * a3 + 0)))) = 0 := he _ List.mem_cons_self
  have e1 : ((-1) : Int) + (1 * (zk_xe w 2000146 a0) + 0) = 0 := he _ (List.mem_cons_of_mem _ List.mem_cons_self)
  have g0 : 0 ≤ (0 : Int) + (1 * a1 + 0) := hg _ List.mem_cons_self
  have g1 : 0 ≤ (4294967276 : Int) + ((-1) * a1 + 0) := hg _ (List.mem_cons_of_mem _ List.mem_cons_self)
  have g2 : 0 ≤ (0 : Int) + (1 * a2 + 0) := hg _ (List.mem_cons_of_mem _ (List.mem_cons_of_mem _ List.mem_cons_self))
  have g3 : 0 ≤ (4294967276 : Int) + ((-1) * a2 + 0) := hg _ (List.mem_cons_of_mem _ (List.mem_cons_of_mem _ (List.mem_cons_of_mem _ List.mem_cons_self)))
  have g4 : 0 ≤ (0 : Int) + (1 * a3 + 0) := hg _ (List.mem_cons_of_mem _ (List.mem_cons_of_mem _ (List.mem_cons_of_mem _ (List.mem_cons_of_mem _ List.mem_cons_self))))
  have g5 : 0 ≤ (4294967276 : Int) + ((-1) * a3 + 0) := hg _ (List.mem_cons_of_mem _ (List.mem_cons_of_mem _ (List.mem_cons_of_mem _ (List.mem_cons_of_mem _ (List.mem_cons_of_mem _ List.mem_cons_self)))))
  have g6 : 0 ≤ (0 : Int) + (1 * j + ((-1) * a3 + 0)) := hg _ (List.mem_cons_of_mem _ (List.mem_cons_of_mem _ (List.mem_cons_of_mem _ (List.mem_cons_of_mem _ (List.mem_cons_of_mem _ (List.mem_cons_of_mem _ List.mem_cons_self))))))
  have hp := (zc_146 (w := w) (j := a0) (u := a1) (x := a2) (n := a3) (by omega) (by omega) (by omega) (by omega) (by omega) (by omega) (by omega) ).mp (by omega)
  have h : zc_fn (zh_e w' 177) (zh_e w' 261) (zh_e w' 262) (40000 * a1) (zh_e w' 178 a1) a2 a3 := by
    rw [zh_e_g (hw.1 177 (by decide)), zh_e_g (hw.1 262 (by decide)), zh_e_g (hw.1 178 (by decide))]
    have e : ∀ i, 0 ≤ i → i < a3 → zh_e w' 261 i = zh_e w 261 i := fun i i0 i1 => hw.2 i i0 (by omega)
    exact zc_fnc e (fun i _ _ => rfl) hp
  exact (zx_eF1 (by show 0 ≤ (0 : Int) + (1 * a0 + 0); omega) (by show zk_xe w' 2000146 ((0 : Int) + (1 * a0 + 0)) = (1 : Int) + (0); rw [show (0 : Int) + (1 * a0 + 0) = a0 by omega]; exact ((zc_146 (w := w') (j := a0) (u := a1) (x := a2) (n := a3) (by omega) (by omega) (by omega) (by omega) (by omega) (by omega) (by omega) ).mpr h).trans (by omega)) zx_eF0)
def zx_E671 : zx_V := zx_Vc 262 [] 4 [(2000146, 0)] [((0, 0), [(2, 1, 0), (3, 0, 1), (4, 0, 4294967296), (5, 0, 18446744073709551616)]), ((0, 1), [(6, 1, 0)])] [((0, 0), [(3, 1, 0)]), ((4294967276, 0), [(3, 0, 1)]), ((0, 0), [(4, 1, 0)]), ((4294967276, 0), [(4, 0, 1)]), ((0, 0), [(5, 1, 0)]), ((4294967276, 0), [(5, 0, 1)]), ((0, 0), [(0, 1, 0), (5, 0, 1)])] [(2000146, ((0, 0), [(2, 1, 0)]), ((1, 0), []))]
theorem zx_E671_ok {PT : Nat → zz_W → Prop} : zx_Vok 64 zHT PT zx_E671 := by
  refine zx_Vc_ok (fun w w' j ins hI hI' h0 hw hK hl he hg => ?_)
  obtain ⟨a0, a1, a2, a3, rfl⟩ := zx_i4 hl
  have e0 : (0 : Int) + (1 * a0 + ((-1) * a1 + ((-4294967296) * a2 + ((-18446744073709551616) * a3 + 0)))) = 0 := he _ List.mem_cons_self
  have e1 : ((-1) : Int) + (1 * (zk_xe w 2000146 a0) + 0) = 0 := he _ (List.mem_cons_of_mem _ List.mem_cons_self)
  have g0 : 0 ≤ (0 : Int) + (1 * a1 + 0) := hg _ List.mem_cons_self
  have g1 : 0 ≤ (4294967276 : Int) + ((-1) * a1 + 0) := hg _ (List.mem_cons_of_mem _ List.mem_cons_self)
  have g2 : 0 ≤ (0 : Int) + (1 * a2 + 0) := hg _ (List.mem_cons_of_mem _ (List.mem_cons_of_mem _ List.mem_cons_self))
  have g3 : 0 ≤ (4294967276 : Int) + ((-1) * a2 + 0) := hg _ (List.mem_cons_of_mem _ (List.mem_cons_of_mem _ (List.mem_cons_of_mem _ List.mem_cons_self)))
  have g4 : 0 ≤ (0 : Int) + (1 * a3 + 0) := hg _ (List.mem_cons_of_mem _ (List.mem_cons_of_mem _ (List.mem_cons_of_mem _ (List.mem_cons_of_mem _ List.mem_cons_self))))
  have g5 : 0 ≤ (4294967276 : Int) + ((-1) * a3 + 0) := hg _ (List.mem_cons_of_mem _ (List.mem_cons_of_mem _ (List.mem_cons_of_mem _ (List.mem_cons_of_mem _ (List.mem_cons_of_mem _ List.mem_cons_self)))))
  have g6 : 0 ≤ (0 : Int) + (1 * j + ((-1) * a3 + 0)) := hg _ (List.mem_cons_of_mem _ (List.mem_cons_of_mem _ (List.mem_cons_of_mem _ (List.mem_cons_of_mem _ (List.mem_cons_of_mem _ (List.mem_cons_of_mem _ List.mem_cons_self))))))
  have hp := (zc_146 (w := w) (j := a0) (u := a1) (x := a2) (n := a3) (by omega) (by omega) (by omega) (by omega) (by omega) (by omega) (by omega) ).mp (by omega)
  have h : zc_fn (zh_e w' 177) (zh_e w' 261) (zh_e w' 262) (40000 * a1) (zh_e w' 178 a1) a2 a3 := by
    rw [zh_e_g (hw.1 177 (by decide)), zh_e_g (hw.1 261 (by decide)), zh_e_g (hw.1 178 (by decide))]
    have e : ∀ i, 0 ≤ i → i < a3 → zh_e w' 262 i = zh_e w 262 i := fun i i0 i1 => hw.2 i i0 (by omega)
    exact zc_fnc (fun i _ _ => rfl) e hp
  exact (zx_eF1 (by show 0 ≤ (0 : Int) + (1 * a0 + 0); omega) (by show zk_xe w' 2000146 ((0 : Int) + (1 * a0 + 0)) = (1 : Int) + (0); rw [show (0 : Int) + (1 * a0 + 0) = a0 by omega]; exact ((zc_146 (w := w') (j := a0) (u := a1) (x := a2) (n := a3) (by omega) (by omega) (by omega) (by omega) (by omega) (by omega) (by omega) ).mpr h).trans (by omega)) zx_eF0)
/-- want lines with names below N (functions 153, 154) -/
theorem zc_153x {w : zz_W} {j N u o : Int} (e : j = N + 4294967296 * u + 18446744073709551616 * o) (N0 : 0 ≤ N) (N1 : N < 4294967296) (u0 : 0 ≤ u) (u1 : u < 4294967296) (o0 : 0 ≤ o) (o1 : o < 4294967296) : zk_xe w 2000153 j = zh_b (zc_wn (zh_e w 177) (zn_l w 173) (zn_l w 174) (zh_e w 256) (zh_e w 257) (zh_e w 178 u) (40000 * u) N o) := by
  obtain ⟨d0, d1, d2⟩ := zg_d3 (j := j) (n := N) (k := u) (u := o) (by omega) N0 N1 u0 u1 o0 o1
  rw [show (2000153 : Nat) = 2000000 + 153 from rfl, zk_xe_h]
  show zh_b (zc_wn (zh_e w 177) (zn_l w 173) (zn_l w 174) (zh_e w 256) (zh_e w 257) (zh_e w 178 (zv_dg 1 j)) (40000 * zv_dg 1 j) (zv_dg 0 j) (zv_dg 2 j)) = _
  rw [d0, d1, d2]
theorem zc_153 {w : zz_W} {j N u o : Int} (e : j = N + 4294967296 * u + 18446744073709551616 * o) (N0 : 0 ≤ N) (N1 : N < 4294967296) (u0 : 0 ≤ u) (u1 : u < 4294967296) (o0 : 0 ≤ o) (o1 : o < 4294967296) : zk_xe w 2000153 j = 1 ↔ zc_wn (zh_e w 177) (zn_l w 173) (zn_l w 174) (zh_e w 256) (zh_e w 257) (zh_e w 178 u) (40000 * u) N o := by
  rw [zc_153x e N0 N1 u0 u1 o0 o1]
  exact ⟨zh_b1', zh_b1⟩
theorem zc_153b {w : zz_W} {j N u o : Int} (e : j = N + 4294967296 * u + 18446744073709551616 * o) (N0 : 0 ≤ N) (N1 : N < 4294967296) (u0 : 0 ≤ u) (u1 : u < 4294967296) (o0 : 0 ≤ o) (o1 : o < 4294967296) : zk_xe w 2000153 j = 0 ∨ zk_xe w 2000153 j = 1 := by
  rw [zc_153x e N0 N1 u0 u1 o0 o1]
  by_cases h : zc_wn (zh_e w 177) (zn_l w 173) (zn_l w 174) (zh_e w 256) (zh_e w 257) (zh_e w 178 u) (40000 * u) N o
  · exact Or.inr (zh_b1 h)
  · exact Or.inl (zh_b0 h)
theorem zc_wnm {T A B O Q : Int → Int} {z b N N' o : Int} (hN : N ≤ N') (h : zc_wn T A B O Q z b N o) : zc_wn T A B O Q z b N' o := ⟨h.1, fun p p0 p1 => Int.lt_of_lt_of_le (h.2 p p0 p1) hN⟩
theorem zc_154 {w : zz_W} {j o N : Int} (e : j = o + 4294967296 * N) (o0 : 0 ≤ o) (o1 : o < 4294967296) (N0 : 0 ≤ N) (N1 : N < 4294967296) : zk_xe w 2000154 j = 1 ↔ ∀ p, 0 ≤ p → p < o → zh_e w 256 p < N := by
  obtain ⟨q0, y0, -⟩ := zm_z1 e o0 o1
  obtain ⟨q1, -, -⟩ := zm_z1 (j := N) (a := N) (b := 0) (by omega) N0 N1
  have h1 : zv_dg 1 j = N := (y0 0).trans q1
  rw [show (2000154 : Nat) = 2000000 + 154 from rfl, zk_xe_h]
  have h : zv_H 154 w j = zh_b (∀ p, 0 ≤ p → p < o → zh_e w 256 p < N) := by
    show zh_b (∀ p, 0 ≤ p → p < zv_dg 0 j → zh_e w 256 p < zv_dg 1 j) = _
    rw [q0, h1]
  rw [h]
  exact ⟨zh_b1', zh_b1⟩
def zx_D1032 : zx_L := zx_Lc [] 6 [(2000153, 0)] [] [((0, 0), [(0, 1, 0), (1, 0, 1), (2, 0, 4294967296), (3, 0, 18446744073709551616)]), ((0, 1), [(6, 1, 0)]), ((0, 0), [(2, 0, 4294967296), (3, 0, 18446744073709551616), (4, 1, 0), (5, 0, 1)])] [((0, 0), [(1, 1, 0)]), ((4294967276, 0), [(1, 0, 1)]), ((0, 0), [(2, 1, 0)]), ((4294967276, 0), [(2, 0, 1)]), ((0, 0), [(3, 1, 0)]), ((4294967276, 0), [(3, 0, 1)]), ((0, 0), [(5, 1, 0)]), ((4294967276, 0), [(5, 0, 1)]), ((0, 0), [(1, 0, 1), (5, 1, 0)])] [([], [], [(2000153, ((0, 0), [(4, 1, 0)]), ((1, 0), []))], [])]
theorem zx_D1032_ok {PT : Nat → zz_W → Prop} : zx_Lok 64 zHT PT zx_D1032 := by
  refine zx_Lc_ok (fun w hI hK ins hl hr he hg => ?_)
  obtain ⟨a0, a1, a2, a3, a4, a5, rfl⟩ := zx_i6 hl
  have e0 : (0 : Int) + (1 * a0 + ((-1) * a1 + ((-4294967296) * a2 + ((-18446744073709551616) * a3 + 0)))) = 0 := he _ List.mem_cons_self
  have e1 : ((-1) : Int) + (1 * (zk_xe w 2000153 a0) + 0) = 0 := he _ (List.mem_cons_of_mem _ List.mem_cons_self)
  have e2 : (0 : Int) + ((-4294967296) * a2 + ((-18446744073709551616) * a3 + (1 * a4 + ((-1) * a5 + 0)))) = 0 := he _ (List.mem_cons_of_mem _ (List.mem_cons_of_mem _ List.mem_cons_self))
  have g0 : 0 ≤ (0 : Int) + (1 * a1 + 0) := hg _ List.mem_cons_self
  have g1 : 0 ≤ (4294967276 : Int) + ((-1) * a1 + 0) := hg _ (List.mem_cons_of_mem _ List.mem_cons_self)
  have g2 : 0 ≤ (0 : Int) + (1 * a2 + 0) := hg _ (List.mem_cons_of_mem _ (List.mem_cons_of_mem _ List.mem_cons_self))
  have g3 : 0 ≤ (4294967276 : Int) + ((-1) * a2 + 0) := hg _ (List.mem_cons_of_mem _ (List.mem_cons_of_mem _ (List.mem_cons_of_mem _ List.mem_cons_self)))
  have g4 : 0 ≤ (0 : Int) + (1 * a3 + 0) := hg _ (List.mem_cons_of_mem _ (List.mem_cons_of_mem _ (List.mem_cons_of_mem _ (List.mem_cons_of_mem _ List.mem_cons_self))))
  have g5 : 0 ≤ (4294967276 : Int) + ((-1) * a3 + 0) := hg _ (List.mem_cons_of_mem _ (List.mem_cons_of_mem _ (List.mem_cons_of_mem _ (List.mem_cons_of_mem _ (List.mem_cons_of_mem _ List.mem_cons_self)))))
  have g6 : 0 ≤ (0 : Int) + (1 * a5 + 0) := hg _ (List.mem_cons_of_mem _ (List.mem_cons_of_mem _ (List.mem_cons_of_mem _ (List.mem_cons_of_mem _ (List.mem_cons_of_mem _ (List.mem_cons_of_mem _ List.mem_cons_self))))))
  have g7 : 0 ≤ (4294967276 : Int) + ((-1) * a5 + 0) := hg _ (List.mem_cons_of_mem _ (List.mem_cons_of_mem _ (List.mem_cons_of_mem _ (List.mem_cons_of_mem _ (List.mem_cons_of_mem _ (List.mem_cons_of_mem _ (List.mem_cons_of_mem _ List.mem_cons_self)))))))
  have g8 : 0 ≤ (0 : Int) + ((-1) * a1 + (1 * a5 + 0)) := hg _ (List.mem_cons_of_mem _ (List.mem_cons_of_mem _ (List.mem_cons_of_mem _ (List.mem_cons_of_mem _ (List.mem_cons_of_mem _ (List.mem_cons_of_mem _ (List.mem_cons_of_mem _ (List.mem_cons_of_mem _ List.mem_cons_self))))))))
  have r0 : 0 ≤ a0 := hr _ List.mem_cons_self
  have hp := (zc_153 (w := w) (j := a0) (N := a1) (u := a2) (o := a3) (by omega) (by omega) (by omega) (by omega) (by omega) (by omega) (by omega) ).mp (by omega)
  have h := zc_wnm (N' := a5) (by omega) hp
  exact ⟨_, List.mem_cons_self, [], rfl, zx_bnil, zx_cs0, (zx_eF1 (by show 0 ≤ (0 : Int) + (1 * a4 + 0); omega) (by show zk_xe w 2000153 ((0 : Int) + (1 * a4 + 0)) = (1 : Int) + (0); rw [show (0 : Int) + (1 * a4 + 0) = a4 by omega]; exact ((zc_153 (w := w) (j := a4) (N := a5) (u := a2) (o := a3) (by omega) (by omega) (by omega) (by omega) (by omega) (by omega) (by omega) ).mpr h).trans (by omega)) zx_eF0), zx_k0⟩
def zx_D1033 : zx_L := zx_Lc [] 6 [(2000143, 0), (2000154, 3)] [] [((0, 0), [(0, 1, 0), (1, 0, 1), (2, 0, 4294967296)]), ((0, 1), [(6, 1, 0)]), ((0, 0), [(2, 0, 1), (3, 1, 0), (4, 0, 4294967296)]), ((0, 1), [(7, 1, 0)]), ((0, 0), [(1, 0, 4294967296), (2, 0, 18446744073709551616), (4, 0, 1), (5, 1, 0)])] [((0, 0), [(1, 1, 0)]), ((4294967276, 0), [(1, 0, 1)]), ((0, 0), [(2, 1, 0)]), ((4294967276, 0), [(2, 0, 1)]), ((0, 0), [(4, 1, 0)]), ((4294967276, 0), [(4, 0, 1)])] [([], [], [(2000153, ((0, 0), [(5, 1, 0)]), ((1, 0), []))], [])]
theorem zx_D1033_ok {PT : Nat → zz_W → Prop} : zx_Lok 64 zHT PT zx_D1033 := by
  refine zx_Lc_ok (fun w hI hK ins hl hr he hg => ?_)
  obtain ⟨a0, a1, a2, a3, a4, a5, rfl⟩ := zx_i6 hl
  have e0 : (0 : Int) + (1 * a0 + ((-1) * a1 + ((-4294967296) * a2 + 0))) = 0 := he _ List.mem_cons_self
  have e1 : ((-1) : Int) + (1 * (zk_xe w 2000143 a0) + 0) = 0 := he _ (List.mem_cons_of_mem _ List.mem_cons_self)
  have e2 : (0 : Int) + ((-1) * a2 + (1 * a3 + ((-4294967296) * a4 + 0))) = 0 := he _ (List.mem_cons_of_mem _ (List.mem_cons_of_mem _ List.mem_cons_self))
  have e3 : ((-1) : Int) + (1 * (zk_xe w 2000154 a3) + 0) = 0 := he _ (List.mem_cons_of_mem _ (List.mem_cons_of_mem _ (List.mem_cons_of_mem _ List.mem_cons_self)))
  have e4 : (0 : Int) + ((-4294967296) * a1 + ((-18446744073709551616) * a2 + ((-1) * a4 + (1 * a5 + 0)))) = 0 := he _ (List.mem_cons_of_mem _ (List.mem_cons_of_mem _ (List.mem_cons_of_mem _ (List.mem_cons_of_mem _ List.mem_cons_self))))
  have g0 : 0 ≤ (0 : Int) + (1 * a1 + 0) := hg _ List.mem_cons_self
  have g1 : 0 ≤ (4294967276 : Int) + ((-1) * a1 + 0) := hg _ (List.mem_cons_of_mem _ List.mem_cons_self)
  have g2 : 0 ≤ (0 : Int) + (1 * a2 + 0) := hg _ (List.mem_cons_of_mem _ (List.mem_cons_of_mem _ List.mem_cons_self))
  have g3 : 0 ≤ (4294967276 : Int) + ((-1) * a2 + 0) := hg _ (List.mem_cons_of_mem _ (List.mem_cons_of_mem _ (List.mem_cons_of_mem _ List.mem_cons_self)))
  have g4 : 0 ≤ (0 : Int) + (1 * a4 + 0) := hg _ (List.mem_cons_of_mem _ (List.mem_cons_of_mem _ (List.mem_cons_of_mem _ (List.mem_cons_of_mem _ List.mem_cons_self))))
  have g5 : 0 ≤ (4294967276 : Int) + ((-1) * a4 + 0) := hg _ (List.mem_cons_of_mem _ (List.mem_cons_of_mem _ (List.mem_cons_of_mem _ (List.mem_cons_of_mem _ (List.mem_cons_of_mem _ List.mem_cons_self)))))
  have r0 : 0 ≤ a0 := hr _ List.mem_cons_self
  have r1 : 0 ≤ a3 := hr _ (List.mem_cons_of_mem _ List.mem_cons_self)
  have hp := (zc_143 (w := w) (j := a0) (u := a1) (q := a2) (s := 0) (m := 0) (by omega) (by omega) (by omega) (by omega) (by omega) (by omega) (by omega) (by omega) (by omega) ).mp (by omega)
  have hb := (zc_154 (w := w) (j := a3) (o := a2) (N := a4) (by omega) (by omega) (by omega) (by omega) (by omega) ).mp (by omega)
  have h : zc_wn (zh_e w 177) (zn_l w 173) (zn_l w 174) (zh_e w 256) (zh_e w 257) (zh_e w 178 a1) (40000 * a1) a4 a2 := ⟨hp, hb⟩
  exact ⟨_, List.mem_cons_self, [], rfl, zx_bnil, zx_cs0, (zx_eF1 (by show 0 ≤ (0 : Int) + (1 * a5 + 0); omega) (by show zk_xe w 2000153 ((0 : Int) + (1 * a5 + 0)) = (1 : Int) + (0); rw [show (0 : Int) + (1 * a5 + 0) = a5 by omega]; exact ((zc_153 (w := w) (j := a5) (N := a4) (u := a1) (o := a2) (by omega) (by omega) (by omega) (by omega) (by omega) (by omega) (by omega) ).mpr h).trans (by omega)) zx_eF0), zx_k0⟩
def zx_D1034 : zx_L := zx_Lc [] 2 [] [] [((0, 0), [(0, 1, 0), (1, 0, 4294967296)])] [((0, 0), [(1, 1, 0)]), ((4294967276, 0), [(1, 0, 1)])] [([], [], [(2000154, ((0, 0), [(0, 1, 0)]), ((1, 0), []))], [])]
theorem zx_D1034_ok {PT : Nat → zz_W → Prop} : zx_Lok 64 zHT PT zx_D1034 := by
  refine zx_Lc_ok (fun w hI hK ins hl hr he hg => ?_)
  obtain ⟨a0, a1, rfl⟩ := zx_i2 hl
  have e0 : (0 : Int) + (1 * a0 + ((-4294967296) * a1 + 0)) = 0 := he _ List.mem_cons_self
  have g0 : 0 ≤ (0 : Int) + (1 * a1 + 0) := hg _ List.mem_cons_self
  have g1 : 0 ≤ (4294967276 : Int) + ((-1) * a1 + 0) := hg _ (List.mem_cons_of_mem _ List.mem_cons_self)
  have h : ∀ p, 0 ≤ p → p < 0 → zh_e w 256 p < a1 := fun p p0 p1 => by omega
  exact ⟨_, List.mem_cons_self, [], rfl, zx_bnil, zx_cs0, (zx_eF1 (by show 0 ≤ (0 : Int) + (1 * a0 + 0); omega) (by show zk_xe w 2000154 ((0 : Int) + (1 * a0 + 0)) = (1 : Int) + (0); rw [show (0 : Int) + (1 * a0 + 0) = a0 by omega]; exact ((zc_154 (w := w) (j := a0) (o := 0) (N := a1) (by omega) (by omega) (by omega) (by omega) (by omega) ).mpr h).trans (by omega)) zx_eF0), zx_k0⟩
def zx_D1035 : zx_L := zx_Lc [] 4 [(2000154, 0), (256, 1)] [] [((0, 0), [(0, 1, 0), (1, 0, 1), (2, 0, 4294967296)]), ((0, 1), [(4, 1, 0)]), ((0, 1), [(1, 0, 1), (2, 0, 4294967296), (3, 1, 0)])] [((0, 0), [(1, 1, 0)]), ((4294967276, 0), [(1, 0, 1)]), ((0, 0), [(2, 1, 0)]), ((4294967276, 0), [(2, 0, 1)]), ((0, 1), [(2, 1, 0), (5, 0, 1)])] [([], [], [(2000154, ((0, 0), [(3, 1, 0)]), ((1, 0), []))], [])]
theorem zx_D1035_ok {PT : Nat → zz_W → Prop} : zx_Lok 64 zHT PT zx_D1035 := by
  refine zx_Lc_ok (fun w hI hK ins hl hr he hg => ?_)
  obtain ⟨a0, a1, a2, a3, rfl⟩ := zx_i4 hl
  have e0 : (0 : Int) + (1 * a0 + ((-1) * a1 + ((-4294967296) * a2 + 0))) = 0 := he _ List.mem_cons_self
  have e1 : ((-1) : Int) + (1 * (zk_xe w 2000154 a0) + 0) = 0 := he _ (List.mem_cons_of_mem _ List.mem_cons_self)
  have e2 : ((-1) : Int) + ((-1) * a1 + ((-4294967296) * a2 + (1 * a3 + 0))) = 0 := he _ (List.mem_cons_of_mem _ (List.mem_cons_of_mem _ List.mem_cons_self))
  have g0 : 0 ≤ (0 : Int) + (1 * a1 + 0) := hg _ List.mem_cons_self
  have g1 : 0 ≤ (4294967276 : Int) + ((-1) * a1 + 0) := hg _ (List.mem_cons_of_mem _ List.mem_cons_self)
  have g2 : 0 ≤ (0 : Int) + (1 * a2 + 0) := hg _ (List.mem_cons_of_mem _ (List.mem_cons_of_mem _ List.mem_cons_self))
  have g3 : 0 ≤ (4294967276 : Int) + ((-1) * a2 + 0) := hg _ (List.mem_cons_of_mem _ (List.mem_cons_of_mem _ (List.mem_cons_of_mem _ List.mem_cons_self)))
  have g4 : 0 ≤ ((-1) : Int) + (1 * a2 + ((-1) * (zk_xe w 256 a1) + 0)) := hg _ (List.mem_cons_of_mem _ (List.mem_cons_of_mem _ (List.mem_cons_of_mem _ (List.mem_cons_of_mem _ List.mem_cons_self))))
  have r0 : 0 ≤ a0 := hr _ List.mem_cons_self
  have r1 : 0 ≤ a1 := hr _ (List.mem_cons_of_mem _ List.mem_cons_self)
  have hp := (zc_154 (w := w) (j := a0) (o := a1) (N := a2) (by omega) (by omega) (by omega) (by omega) (by omega) ).mp (by omega)
  have k0 : zh_e w 256 (a1) = zk_xe w 256 a1 := by rw [zk_xe_r (i := 256) (by decide)]; show zk_el w 256 (a1) = zk_el w 256 a1; rw [show a1 = a1 by omega]
  have h : ∀ p, 0 ≤ p → p < a1 + 1 → zh_e w 256 p < a2 := by
    intro p p0 p1
    by_cases c : p = a1
    · rw [c, k0]
      omega
    · exact hp p p0 (by omega)
  exact ⟨_, List.mem_cons_self, [], rfl, zx_bnil, zx_cs0, (zx_eF1 (by show 0 ≤ (0 : Int) + (1 * a3 + 0); omega) (by show zk_xe w 2000154 ((0 : Int) + (1 * a3 + 0)) = (1 : Int) + (0); rw [show (0 : Int) + (1 * a3 + 0) = a3 by omega]; exact ((zc_154 (w := w) (j := a3) (o := (a1 + 1)) (N := a2) (by omega) (by omega) (by omega) (by omega) (by omega) ).mpr h).trans (by omega)) zx_eF0), zx_k0⟩
def zx_E672 : zx_V := zx_Vc 256 [] 3 [(2000154, 0)] [((0, 0), [(2, 1, 0), (3, 0, 1), (4, 0, 4294967296)]), ((0, 1), [(5, 1, 0)])] [((0, 0), [(3, 1, 0)]), ((4294967276, 0), [(3, 0, 1)]), ((0, 0), [(4, 1, 0)]), ((4294967276, 0), [(4, 0, 1)]), ((0, 0), [(0, 1, 0), (3, 0, 1)])] [(2000154, ((0, 0), [(2, 1, 0)]), ((1, 0), []))]
theorem zx_E672_ok {PT : Nat → zz_W → Prop} : zx_Vok 64 zHT PT zx_E672 := by
  refine zx_Vc_ok (fun w w' j ins hI hI' h0 hw hK hl he hg => ?_)
  obtain ⟨a0, a1, a2, rfl⟩ := zx_i3 hl
  have e0 : (0 : Int) + (1 * a0 + ((-1) * a1 + ((-4294967296) * a2 + 0))) = 0 := he _ List.mem_cons_self
  have e1 : ((-1) : Int) + (1 * (zk_xe w 2000154 a0) + 0) = 0 := he _ (List.mem_cons_of_mem _ List.mem_cons_self)
  have g0 : 0 ≤ (0 : Int) + (1 * a1 + 0) := hg _ List.mem_cons_self
  have g1 : 0 ≤ (4294967276 : Int) + ((-1) * a1 + 0) := hg _ (List.mem_cons_of_mem _ List.mem_cons_self)
  have g2 : 0 ≤ (0 : Int) + (1 * a2 + 0) := hg _ (List.mem_cons_of_mem _ (List.mem_cons_of_mem _ List.mem_cons_self))
  have g3 : 0 ≤ (4294967276 : Int) + ((-1) * a2 + 0) := hg _ (List.mem_cons_of_mem _ (List.mem_cons_of_mem _ (List.mem_cons_of_mem _ List.mem_cons_self)))
  have g4 : 0 ≤ (0 : Int) + (1 * j + ((-1) * a1 + 0)) := hg _ (List.mem_cons_of_mem _ (List.mem_cons_of_mem _ (List.mem_cons_of_mem _ (List.mem_cons_of_mem _ List.mem_cons_self))))
  have hp := (zc_154 (w := w) (j := a0) (o := a1) (N := a2) (by omega) (by omega) (by omega) (by omega) (by omega) ).mp (by omega)
  have h : ∀ p, 0 ≤ p → p < a1 → zh_e w' 256 p < a2 := by
    intro p p0 p1
    have e : zh_e w' 256 p = zh_e w 256 p := hw.2 p p0 (by omega)
    rw [e]
    exact hp p p0 p1
  exact (zx_eF1 (by show 0 ≤ (0 : Int) + (1 * a0 + 0); omega) (by show zk_xe w' 2000154 ((0 : Int) + (1 * a0 + 0)) = (1 : Int) + (0); rw [show (0 : Int) + (1 * a0 + 0) = a0 by omega]; exact ((zc_154 (w := w') (j := a0) (o := a1) (N := a2) (by omega) (by omega) (by omega) (by omega) (by omega) ).mpr h).trans (by omega)) zx_eF0)
/-- words that are read (functions 149, 150, 155) -/
theorem zc_ws1 {c : Int} (h : zc_ws c) : 1 ≤ c ∧ c ≤ 127 := by
  unfold zc_ws zp_ch at h
  exact ⟨by omega, by omega⟩
theorem zc_158 {w : zz_W} {j c : Int} (e : j = c + 2147483648) : zk_xe w 2000158 j = 1 ↔ zc_ws c := by
  rw [show (2000158 : Nat) = 2000000 + 158 from rfl, zk_xe_h]
  have h : zv_H 158 w j = zh_b (zc_ws c) := by
    show zh_b (zc_ws (j - 2147483648)) = _
    rw [show j - 2147483648 = c by omega]
  rw [h]
  exact ⟨zh_b1', zh_b1⟩
theorem zc_149 {w : zz_W} {j f k : Int} (e : j = f + 4294967296 * k) (f0 : 0 ≤ f) (f1 : f < 4294967296) (k0 : 0 ≤ k) (k1 : k < 4294967296) : zk_xe w 2000149 j = 1 ↔ ∀ i, 0 ≤ i → i < k → zc_ws (zh_e w 263 (f + i)) := by
  obtain ⟨q0, y0, -⟩ := zm_z1 e f0 f1
  obtain ⟨q1, -, -⟩ := zm_z1 (j := k) (a := k) (b := 0) (by omega) k0 k1
  have h1 : zv_dg 1 j = k := (y0 0).trans q1
  rw [show (2000149 : Nat) = 2000000 + 149 from rfl, zk_xe_h]
  have h : zv_H 149 w j = zh_b (∀ i, 0 ≤ i → i < k → zc_ws (zh_e w 263 (f + i))) := by
    show zh_b (∀ i, 0 ≤ i → i < zv_dg 1 j → zc_ws (zh_e w 263 (zv_dg 0 j + i))) = _
    rw [q0, h1]
  rw [h]
  exact ⟨zh_b1', zh_b1⟩
theorem zc_150 {w : zz_W} {j f k : Int} (e : j = f + 4294967296 * k) (f0 : 0 ≤ f) (f1 : f < 4294967296) (k0 : 0 ≤ k) (k1 : k < 4294967296) : zk_xe w 2000150 j = zc_pk (zh_e w 263) f k.toNat := by
  obtain ⟨q0, y0, -⟩ := zm_z1 e f0 f1
  obtain ⟨q1, -, -⟩ := zm_z1 (j := k) (a := k) (b := 0) (by omega) k0 k1
  have h1 : zv_dg 1 j = k := (y0 0).trans q1
  rw [show (2000150 : Nat) = 2000000 + 150 from rfl, zk_xe_h]
  show zc_pk (zh_e w 263) (zv_dg 0 j) (zv_dg 1 j).toNat = _
  rw [q0, h1]
theorem zc_155 {w : zz_W} {j : Int} : zk_xe w 2000155 j = 1 ↔ ∀ i, 0 ≤ i → i + 1 < j → zh_e w 263 i = 46 → zy_ok (zh_e w 263 (i + 1)) := by
  rw [show (2000155 : Nat) = 2000000 + 155 from rfl, zk_xe_h]
  exact ⟨zh_b1', zh_b1⟩
theorem zc_pkb {C : Int → Int} {f : Int} : ∀ {k : Nat}, (∀ i, 0 ≤ i → i < (k : Int) → 1 ≤ C (f + i) ∧ C (f + i) ≤ 127) → 0 ≤ zc_pk C f k ∧ zc_pk C f k < 256 ^ k
  | 0, _ => ⟨Int.le_refl _, by show (0 : Int) < 256 ^ 0; decide⟩
  | k + 1, h => by
    obtain ⟨h1, h2⟩ := zc_pkb (k := k) (fun i i0 i1 => h i i0 (by omega))
    obtain ⟨c1, c2⟩ := h (k : Int) (by omega) (by omega)
    show 0 ≤ zc_pk C f k + C (f + (k : Int)) * 256 ^ k ∧ zc_pk C f k + C (f + (k : Int)) * 256 ^ k < 256 ^ (k + 1)
    have hP : (0 : Int) ≤ 256 ^ k := Int.pow_nonneg (by decide)
    have h3 : C (f + (k : Int)) * 256 ^ k ≤ 127 * 256 ^ k := Int.mul_le_mul_of_nonneg_right c2 hP
    have h4 : 0 ≤ C (f + (k : Int)) * 256 ^ k := Int.mul_nonneg (by omega) hP
    rw [Int.pow_succ]
    omega
theorem zc_pk1 {C : Int → Int} {f : Int} : ∀ {k : Nat}, (∀ i, 0 ≤ i → i < ((k + 1 : Nat) : Int) → 1 ≤ C (f + i) ∧ C (f + i) ≤ 127) → zc_pk C f (k + 1) % 256 = C f
  | 0, h => by
    have c := h 0 (by omega) (by omega)
    rw [Int.add_zero] at c
    show ((0 : Int) + C (f + ((0 : Nat) : Int)) * 256 ^ 0) % 256 = C f
    rw [show f + ((0 : Nat) : Int) = f by omega, Int.pow_zero]
    omega
  | k + 1, h => by
    have q := zc_pk1 (k := k) (fun i i0 i1 => h i i0 (by omega))
    show (zc_pk C f (k + 1) + C (f + ((k + 1 : Nat) : Int)) * 256 ^ (k + 1)) % 256 = C f
    rw [Int.pow_succ, ← Int.mul_assoc, Int.add_mul_emod_self_right]
    exact q
theorem zc_pk2 {C : Int → Int} {f : Int} : ∀ {k : Nat}, (∀ i, 0 ≤ i → i < ((k + 2 : Nat) : Int) → 1 ≤ C (f + i) ∧ C (f + i) ≤ 127) → zc_pk C f (k + 2) / 256 % 256 = C (f + 1)
  | 0, h => by
    have c := h 0 (by omega) (by omega)
    rw [Int.add_zero] at c
    have d := h 1 (by omega) (by omega)
    show ((0 : Int) + C (f + ((0 : Nat) : Int)) * 256 ^ 0 + C (f + ((1 : Nat) : Int)) * 256 ^ 1) / 256 % 256 = C (f + 1)
    rw [show f + ((0 : Nat) : Int) = f by omega, show f + ((1 : Nat) : Int) = f + 1 by omega, Int.pow_zero, show (256 : Int) ^ 1 = 256 by decide]
    omega
  | k + 1, h => by
    have q := zc_pk2 (k := k) (fun i i0 i1 => h i i0 (by omega))
    show (zc_pk C f (k + 2) + C (f + ((k + 2 : Nat) : Int)) * 256 ^ (k + 2)) / 256 % 256 = C (f + 1)
    rw [Int.pow_succ, Int.pow_succ, ← Int.mul_assoc, ← Int.mul_assoc, Int.add_mul_ediv_right _ _ (by decide), Int.add_mul_emod_self_right]
    exact q
theorem zc_ctl : ∀ m : Nat, m < 93 → 85 ≤ m → zn_KA.getD m 0 % 256 = 46 ∧ ¬ (zn_KA.getD m 0 / 256 % 256 = 0) ∧ ¬ (zn_KA.getD m 0 / 256 % 256 = 100) ∧ ¬ (zn_KA.getD m 0 / 256 % 256 = 103) ∧ ¬ (zn_KA.getD m 0 / 256 % 256 = 107) ∧ ¬ (zn_KA.getD m 0 / 256 % 256 = 115) ∧ ¬ (zn_KA.getD m 0 / 256 % 256 = 116) ∧ ¬ (zn_KA.getD m 0 / 256 % 256 = 119) := by
  intro m h1 h2
  obtain ⟨d, hd⟩ : ∃ d : Nat, m = 85 + d := ⟨m - 85, by omega⟩
  subst hd
  have : ∀ d : Nat, d < 8 → zn_KA.getD (85 + d) 0 % 256 = 46 ∧ ¬ (zn_KA.getD (85 + d) 0 / 256 % 256 = 0) ∧ ¬ (zn_KA.getD (85 + d) 0 / 256 % 256 = 100) ∧ ¬ (zn_KA.getD (85 + d) 0 / 256 % 256 = 103) ∧ ¬ (zn_KA.getD (85 + d) 0 / 256 % 256 = 107) ∧ ¬ (zn_KA.getD (85 + d) 0 / 256 % 256 = 115) ∧ ¬ (zn_KA.getD (85 + d) 0 / 256 % 256 = 116) ∧ ¬ (zn_KA.getD (85 + d) 0 / 256 % 256 = 119) := by decide +kernel
  exact this d (by omega)
def zx_D1050 : zx_L := zx_Lc [] 1 [] [] [] [((0, 0), [(0, 1, 0)]), ((4294967276, 0), [(0, 0, 1)])] [([], [], [(2000150, ((0, 0), [(0, 1, 0)]), ((0, 0), [])), (2000149, ((0, 0), [(0, 1, 0)]), ((1, 0), []))], [])]
theorem zx_D1050_ok {PT : Nat → zz_W → Prop} : zx_Lok 64 zHT PT zx_D1050 := by
  refine zx_Lc_ok (fun w hI hK ins hl hr he hg => ?_)
  obtain ⟨a0, rfl⟩ := zx_i1 hl
  have g0 : 0 ≤ (0 : Int) + (1 * a0 + 0) := hg _ List.mem_cons_self
  have g1 : 0 ≤ (4294967276 : Int) + ((-1) * a0 + 0) := hg _ (List.mem_cons_of_mem _ List.mem_cons_self)
  have h1 : zk_xe w 2000150 a0 = 0 := by
    rw [zc_150 (w := w) (j := a0) (f := a0) (k := 0) (by omega) (by omega) (by omega) (by omega) (by omega) ]
    rfl
  have h2 : ∀ i, 0 ≤ i → i < 0 → zc_ws (zh_e w 263 (a0 + i)) := fun i i0 i1 => by omega
  exact ⟨_, List.mem_cons_self, [], rfl, zx_bnil, zx_cs0, (zx_eF1 (by show 0 ≤ (0 : Int) + (1 * a0 + 0); omega) (by show zk_xe w 2000150 ((0 : Int) + (1 * a0 + 0)) = (0 : Int) + (0); rw [show (0 : Int) + (1 * a0 + 0) = a0 by omega]; omega) (zx_eF1 (by show 0 ≤ (0 : Int) + (1 * a0 + 0); omega) (by show zk_xe w 2000149 ((0 : Int) + (1 * a0 + 0)) = (1 : Int) + (0); rw [show (0 : Int) + (1 * a0 + 0) = a0 by omega]; exact ((zc_149 (w := w) (j := a0) (f := a0) (k := 0) (by omega) (by omega) (by omega) (by omega) (by omega) ).mpr h2).trans (by omega)) zx_eF0)), zx_k0⟩
def zx_D1051 : zx_L := zx_Lc [] 9 [(2000150, 0), (2000149, 3), (263, 4), (2000081, 5), (2000081, 6), (2000158, 8)] [] [((0, 0), [(0, 1, 0), (1, 0, 1), (2, 0, 4294967296)]), ((0, 0), [(1, 0, 1), (2, 0, 4294967296), (3, 1, 0)]), ((0, 1), [(10, 1, 0)]), ((0, 0), [(1, 0, 1), (2, 0, 1), (4, 1, 0)]), ((0, 2722258935367507707854570812043822104581), [(2, 0, 2361183241434822606848), (5, 1, 0), (11, 0, 16)]), ((0, 2722258935367507707854570812043822104579), [(6, 1, 0), (9, 0, 16), (12, 0, 295147905179352825856)]), ((0, 4294967296), [(1, 0, 1), (2, 0, 4294967296), (7, 1, 0)]), ((0, 2147483648), [(8, 1, 0), (11, 0, 1)]), ((0, 1), [(14, 1, 0)])] [((0, 0), [(1, 1, 0)]), ((4294967276, 0), [(1, 0, 1)]), ((0, 0), [(2, 1, 0)]), ((7, 0), [(2, 0, 1)]), ((0, 1), [(11, 1, 0)]), ((127, 0), [(11, 0, 1)])] [([], [], [(2000150, ((0, 0), [(7, 1, 0)]), ((0, 0), [(13, 1, 0)])), (2000149, ((0, 0), [(7, 1, 0)]), ((1, 0), []))], [])]
theorem zx_D1051_ok {PT : Nat → zz_W → Prop} : zx_Lok 64 zHT PT zx_D1051 := by
  refine zx_Lc_ok (fun w hI hK ins hl hr he hg => ?_)
  obtain ⟨a0, a1, a2, a3, a4, a5, a6, a7, a8, rfl⟩ := zx_i9 hl
  have e0 : (0 : Int) + (1 * a0 + ((-1) * a1 + ((-4294967296) * a2 + 0))) = 0 := he _ List.mem_cons_self
  have e1 : (0 : Int) + ((-1) * a1 + ((-4294967296) * a2 + (1 * a3 + 0))) = 0 := he _ (List.mem_cons_of_mem _ List.mem_cons_self)
  have e2 : ((-1) : Int) + (1 * (zk_xe w 2000149 a3) + 0) = 0 := he _ (List.mem_cons_of_mem _ (List.mem_cons_of_mem _ List.mem_cons_self))
  have e3 : (0 : Int) + ((-1) * a1 + ((-1) * a2 + (1 * a4 + 0))) = 0 := he _ (List.mem_cons_of_mem _ (List.mem_cons_of_mem _ (List.mem_cons_of_mem _ List.mem_cons_self)))
  have e4 : ((-2722258935367507707854570812043822104581) : Int) + ((-2361183241434822606848) * a2 + (1 * a5 + ((-16) * (zk_xe w 263 a4) + 0))) = 0 := he _ (List.mem_cons_of_mem _ (List.mem_cons_of_mem _ (List.mem_cons_of_mem _ (List.mem_cons_of_mem _ List.mem_cons_self))))
  have e5 : ((-2722258935367507707854570812043822104579) : Int) + (1 * a6 + ((-16) * (zk_xe w 2000150 a0) + ((-295147905179352825856) * (zk_xe w 2000081 a5) + 0))) = 0 := he _ (List.mem_cons_of_mem _ (List.mem_cons_of_mem _ (List.mem_cons_of_mem _ (List.mem_cons_of_mem _ (List.mem_cons_of_mem _ List.mem_cons_self)))))
  have e6 : ((-4294967296) : Int) + ((-1) * a1 + ((-4294967296) * a2 + (1 * a7 + 0))) = 0 := he _ (List.mem_cons_of_mem _ (List.mem_cons_of_mem _ (List.mem_cons_of_mem _ (List.mem_cons_of_mem _ (List.mem_cons_of_mem _ (List.mem_cons_of_mem _ List.mem_cons_self))))))
  have e7 : ((-2147483648) : Int) + (1 * a8 + ((-1) * (zk_xe w 263 a4) + 0)) = 0 := he _ (List.mem_cons_of_mem _ (List.mem_cons_of_mem _ (List.mem_cons_of_mem _ (List.mem_cons_of_mem _ (List.mem_cons_of_mem _ (List.mem_cons_of_mem _ (List.mem_cons_of_mem _ List.mem_cons_self)))))))
  have e8 : ((-1) : Int) + (1 * (zk_xe w 2000158 a8) + 0) = 0 := he _ (List.mem_cons_of_mem _ (List.mem_cons_of_mem _ (List.mem_cons_of_mem _ (List.mem_cons_of_mem _ (List.mem_cons_of_mem _ (List.mem_cons_of_mem _ (List.mem_cons_of_mem _ (List.mem_cons_of_mem _ List.mem_cons_self))))))))
  have g0 : 0 ≤ (0 : Int) + (1 * a1 + 0) := hg _ List.mem_cons_self
  have g1 : 0 ≤ (4294967276 : Int) + ((-1) * a1 + 0) := hg _ (List.mem_cons_of_mem _ List.mem_cons_self)
  have g2 : 0 ≤ (0 : Int) + (1 * a2 + 0) := hg _ (List.mem_cons_of_mem _ (List.mem_cons_of_mem _ List.mem_cons_self))
  have g3 : 0 ≤ (7 : Int) + ((-1) * a2 + 0) := hg _ (List.mem_cons_of_mem _ (List.mem_cons_of_mem _ (List.mem_cons_of_mem _ List.mem_cons_self)))
  have g4 : 0 ≤ ((-1) : Int) + (1 * (zk_xe w 263 a4) + 0) := hg _ (List.mem_cons_of_mem _ (List.mem_cons_of_mem _ (List.mem_cons_of_mem _ (List.mem_cons_of_mem _ List.mem_cons_self))))
  have g5 : 0 ≤ (127 : Int) + ((-1) * (zk_xe w 263 a4) + 0) := hg _ (List.mem_cons_of_mem _ (List.mem_cons_of_mem _ (List.mem_cons_of_mem _ (List.mem_cons_of_mem _ (List.mem_cons_of_mem _ List.mem_cons_self)))))
  have r0 : 0 ≤ a0 := hr _ List.mem_cons_self
  have r1 : 0 ≤ a3 := hr _ (List.mem_cons_of_mem _ List.mem_cons_self)
  have r2 : 0 ≤ a4 := hr _ (List.mem_cons_of_mem _ (List.mem_cons_of_mem _ List.mem_cons_self))
  have r3 : 0 ≤ a5 := hr _ (List.mem_cons_of_mem _ (List.mem_cons_of_mem _ (List.mem_cons_of_mem _ List.mem_cons_self)))
  have r4 : 0 ≤ a6 := hr _ (List.mem_cons_of_mem _ (List.mem_cons_of_mem _ (List.mem_cons_of_mem _ (List.mem_cons_of_mem _ List.mem_cons_self))))
  have r5 : 0 ≤ a8 := hr _ (List.mem_cons_of_mem _ (List.mem_cons_of_mem _ (List.mem_cons_of_mem _ (List.mem_cons_of_mem _ (List.mem_cons_of_mem _ List.mem_cons_self)))))
  have hp := (zc_149 (w := w) (j := a3) (f := a1) (k := a2) (by omega) (by omega) (by omega) (by omega) (by omega) ).mp (by omega)
  have hk := zc_150 (w := w) (j := a0) (f := a1) (k := a2) (by omega) (by omega) (by omega) (by omega) (by omega) 
  have k0 : zh_e w 263 (a1 + a2) = zk_xe w 263 a4 := by rw [zk_xe_r (i := 263) (by decide)]; show zk_el w 263 (a1 + a2) = zk_el w 263 a4; rw [show a1 + a2 = a4 by omega]
  obtain ⟨k, rfl⟩ : ∃ k : Nat, a2 = (k : Int) := ⟨a2.toNat, by omega⟩
  rw [Int.toNat_natCast] at hk
  have hb := zc_pkb (C := zh_e w 263) (f := a1) (k := k) (fun i a b => zc_ws1 (hp i a b))
  rw [← hk] at hb
  obtain ⟨a, ha⟩ : ∃ a, zk_xe w 2000150 a0 = a := ⟨_, rfl⟩
  obtain ⟨c, hc⟩ : ∃ c, zk_xe w 263 a4 = c := ⟨_, rfl⟩
  obtain ⟨v, hv⟩ : ∃ v, zk_xe w 2000081 a5 = v := ⟨_, rfl⟩
  obtain ⟨r, hr⟩ : ∃ r, zk_xe w 2000081 a6 = r := ⟨_, rfl⟩
  rw [ha] at hk hb
  rw [hc] at k0 e4 g4 g5 e7
  have hws := (zc_158 (w := w) (j := a8) (c := c) (by omega)).mp (by omega)
  rw [ha, hv] at e5
  have v1 : v = zn_op 5 c (8 * (k : Int)) := hv.symm.trans (zn_oc_at (x := c) (y := 8 * (k : Int)) (by decide) (by omega) (by omega) (by omega) (by omega))
  rw [zn_shl (by omega) (by omega) (by omega)] at v1
  have hP := zp_256le (n := k) (by omega)
  have h0P : (0 : Int) ≤ 256 ^ k := Int.pow_nonneg (by decide)
  have hsb : c * 256 ^ k ≤ 127 * 72057594037927936 := Int.mul_le_mul (by omega) hP h0P (by decide)
  have hs0 : 0 ≤ c * 256 ^ k := Int.mul_nonneg (by omega) h0P
  rw [← v1] at hsb hs0
  have v2 : r = zn_op 3 a v := hr.symm.trans (zn_oc_at (x := a) (y := v) (by decide) (by omega) (by omega) (by omega) (by omega))
  rw [zn_lor v1 (by omega) (by omega) (by omega) hb.1 hb.2, v1] at v2
  have h1 : zk_xe w 2000150 a7 = r := by
    rw [zc_150 (w := w) (j := a7) (f := a1) (k := ((k : Int) + 1)) (by omega) (by omega) (by omega) (by omega) (by omega) , show ((k : Int) + 1).toNat = k + 1 by omega]
    show zc_pk (zh_e w 263) a1 k + zh_e w 263 (a1 + (k : Int)) * 256 ^ k = r
    rw [← hk, k0, v2]
  have h2 : ∀ i, 0 ≤ i → i < (k : Int) + 1 → zc_ws (zh_e w 263 (a1 + i)) := by
    intro i i0 i1
    by_cases q : i = (k : Int)
    · rw [q, k0]
      exact hws
    · exact hp i i0 (by omega)
  clear v1 v2 hv hsb hs0 hP h0P hb
  exact ⟨_, List.mem_cons_self, [], rfl, zx_bnil, zx_cs0, (zx_eF1 (by show 0 ≤ (0 : Int) + (1 * a7 + 0); omega) (by show zk_xe w 2000150 ((0 : Int) + (1 * a7 + 0)) = (0 : Int) + (1 * (zk_xe w 2000081 a6) + 0); rw [show (0 : Int) + (1 * a7 + 0) = a7 by omega]; exact h1.trans (by rw [hr]; omega)) (zx_eF1 (by show 0 ≤ (0 : Int) + (1 * a7 + 0); omega) (by show zk_xe w 2000149 ((0 : Int) + (1 * a7 + 0)) = (1 : Int) + (0); rw [show (0 : Int) + (1 * a7 + 0) = a7 by omega]; exact ((zc_149 (w := w) (j := a7) (f := a1) (k := ((k : Int) + 1)) (by omega) (by omega) (by omega) (by omega) (by omega) ).mpr h2).trans (by omega)) zx_eF0)), zx_k0⟩
def zx_D1053 : zx_L := zx_Lc [] 6 [(2000149, 0), (263, 3), (2000158, 5)] [] [((0, 0), [(0, 1, 0), (1, 0, 1), (2, 0, 4294967296)]), ((0, 1), [(6, 1, 0)]), ((0, 0), [(1, 0, 1), (2, 0, 1), (3, 1, 0)]), ((0, 4294967296), [(1, 0, 1), (2, 0, 4294967296), (4, 1, 0)]), ((0, 2147483648), [(5, 1, 0), (7, 0, 1)]), ((0, 1), [(8, 1, 0)])] [((0, 0), [(1, 1, 0)]), ((4294967276, 0), [(1, 0, 1)]), ((0, 0), [(2, 1, 0)]), ((4294967276, 0), [(2, 0, 1)])] [([], [], [(2000149, ((0, 0), [(4, 1, 0)]), ((1, 0), []))], [])]
theorem zx_D1053_ok {PT : Nat → zz_W → Prop} : zx_Lok 64 zHT PT zx_D1053 := by
  refine zx_Lc_ok (fun w hI hK ins hl hr he hg => ?_)
  obtain ⟨a0, a1, a2, a3, a4, a5, rfl⟩ := zx_i6 hl
  have e0 : (0 : Int) + (1 * a0 + ((-1) * a1 + ((-4294967296) * a2 + 0))) = 0 := he _ List.mem_cons_self
  have e1 : ((-1) : Int) + (1 * (zk_xe w 2000149 a0) + 0) = 0 := he _ (List.mem_cons_of_mem _ List.mem_cons_self)
  have e2 : (0 : Int) + ((-1) * a1 + ((-1) * a2 + (1 * a3 + 0))) = 0 := he _ (List.mem_cons_of_mem _ (List.mem_cons_of_mem _ List.mem_cons_self))
  have e3 : ((-4294967296) : Int) + ((-1) * a1 + ((-4294967296) * a2 + (1 * a4 + 0))) = 0 := he _ (List.mem_cons_of_mem _ (List.mem_cons_of_mem _ (List.mem_cons_of_mem _ List.mem_cons_self)))
  have e4 : ((-2147483648) : Int) + (1 * a5 + ((-1) * (zk_xe w 263 a3) + 0)) = 0 := he _ (List.mem_cons_of_mem _ (List.mem_cons_of_mem _ (List.mem_cons_of_mem _ (List.mem_cons_of_mem _ List.mem_cons_self))))
  have e5 : ((-1) : Int) + (1 * (zk_xe w 2000158 a5) + 0) = 0 := he _ (List.mem_cons_of_mem _ (List.mem_cons_of_mem _ (List.mem_cons_of_mem _ (List.mem_cons_of_mem _ (List.mem_cons_of_mem _ List.mem_cons_self)))))
  have g0 : 0 ≤ (0 : Int) + (1 * a1 + 0) := hg _ List.mem_cons_self
  have g1 : 0 ≤ (4294967276 : Int) + ((-1) * a1 + 0) := hg _ (List.mem_cons_of_mem _ List.mem_cons_self)
  have g2 : 0 ≤ (0 : Int) + (1 * a2 + 0) := hg _ (List.mem_cons_of_mem _ (List.mem_cons_of_mem _ List.mem_cons_self))
  have g3 : 0 ≤ (4294967276 : Int) + ((-1) * a2 + 0) := hg _ (List.mem_cons_of_mem _ (List.mem_cons_of_mem _ (List.mem_cons_of_mem _ List.mem_cons_self)))
  have r0 : 0 ≤ a0 := hr _ List.mem_cons_self
  have r1 : 0 ≤ a3 := hr _ (List.mem_cons_of_mem _ List.mem_cons_self)
  have r2 : 0 ≤ a5 := hr _ (List.mem_cons_of_mem _ (List.mem_cons_of_mem _ List.mem_cons_self))
  have hp := (zc_149 (w := w) (j := a0) (f := a1) (k := a2) (by omega) (by omega) (by omega) (by omega) (by omega) ).mp (by omega)
  have k0 : zh_e w 263 (a1 + a2) = zk_xe w 263 a3 := by rw [zk_xe_r (i := 263) (by decide)]; show zk_el w 263 (a1 + a2) = zk_el w 263 a3; rw [show a1 + a2 = a3 by omega]
  have hws := (zc_158 (w := w) (j := a5) (c := zk_xe w 263 a3) (by omega)).mp (by omega)
  have h2 : ∀ i, 0 ≤ i → i < a2 + 1 → zc_ws (zh_e w 263 (a1 + i)) := by
    intro i i0 i1
    by_cases q : i = a2
    · rw [q, k0]
      exact hws
    · exact hp i i0 (by omega)
  exact ⟨_, List.mem_cons_self, [], rfl, zx_bnil, zx_cs0, (zx_eF1 (by show 0 ≤ (0 : Int) + (1 * a4 + 0); omega) (by show zk_xe w 2000149 ((0 : Int) + (1 * a4 + 0)) = (1 : Int) + (0); rw [show (0 : Int) + (1 * a4 + 0) = a4 by omega]; exact ((zc_149 (w := w) (j := a4) (f := a1) (k := (a2 + 1)) (by omega) (by omega) (by omega) (by omega) (by omega) ).mpr h2).trans (by omega)) zx_eF0), zx_k0⟩
def zx_D1054 : zx_L := zx_Lc [] 5 [(2000149, 0)] [] [((0, 0), [(0, 1, 0), (1, 0, 1), (2, 0, 4294967296)]), ((0, 1), [(5, 1, 0)]), ((0, 0), [(1, 0, 1), (3, 0, 4294967296), (4, 1, 0)])] [((0, 0), [(1, 1, 0)]), ((4294967276, 0), [(1, 0, 1)]), ((0, 0), [(2, 1, 0)]), ((4294967276, 0), [(2, 0, 1)]), ((0, 0), [(3, 1, 0)]), ((4294967276, 0), [(3, 0, 1)]), ((0, 0), [(2, 1, 0), (3, 0, 1)])] [([], [], [(2000149, ((0, 0), [(4, 1, 0)]), ((1, 0), []))], [])]
theorem zx_D1054_ok {PT : Nat → zz_W → Prop} : zx_Lok 64 zHT PT zx_D1054 := by
  refine zx_Lc_ok (fun w hI hK ins hl hr he hg => ?_)
  obtain ⟨a0, a1, a2, a3, a4, rfl⟩ := zx_i5 hl
  have e0 : (0 : Int) + (1 * a0 + ((-1) * a1 + ((-4294967296) * a2 + 0))) = 0 := he _ List.mem_cons_self
  have e1 : ((-1) : Int) + (1 * (zk_xe w 2000149 a0) + 0) = 0 := he _ (List.mem_cons_of_mem _ List.mem_cons_self)
  have e2 : (0 : Int) + ((-1) * a1 + ((-4294967296) * a3 + (1 * a4 + 0))) = 0 := he _ (List.mem_cons_of_mem _ (List.mem_cons_of_mem _ List.mem_cons_self))
  have g0 : 0 ≤ (0 : Int) + (1 * a1 + 0) := hg _ List.mem_cons_self
  have g1 : 0 ≤ (4294967276 : Int) + ((-1) * a1 + 0) := hg _ (List.mem_cons_of_mem _ List.mem_cons_self)
  have g2 : 0 ≤ (0 : Int) + (1 * a2 + 0) := hg _ (List.mem_cons_of_mem _ (List.mem_cons_of_mem _ List.mem_cons_self))
  have g3 : 0 ≤ (4294967276 : Int) + ((-1) * a2 + 0) := hg _ (List.mem_cons_of_mem _ (List.mem_cons_of_mem _ (List.mem_cons_of_mem _ List.mem_cons_self)))
  have g4 : 0 ≤ (0 : Int) + (1 * a3 + 0) := hg _ (List.mem_cons_of_mem _ (List.mem_cons_of_mem _ (List.mem_cons_of_mem _ (List.mem_cons_of_mem _ List.mem_cons_self))))
  have g5 : 0 ≤ (4294967276 : Int) + ((-1) * a3 + 0) := hg _ (List.mem_cons_of_mem _ (List.mem_cons_of_mem _ (List.mem_cons_of_mem _ (List.mem_cons_of_mem _ (List.mem_cons_of_mem _ List.mem_cons_self)))))
  have g6 : 0 ≤ (0 : Int) + (1 * a2 + ((-1) * a3 + 0)) := hg _ (List.mem_cons_of_mem _ (List.mem_cons_of_mem _ (List.mem_cons_of_mem _ (List.mem_cons_of_mem _ (List.mem_cons_of_mem _ (List.mem_cons_of_mem _ List.mem_cons_self))))))
  have r0 : 0 ≤ a0 := hr _ List.mem_cons_self
  have hp := (zc_149 (w := w) (j := a0) (f := a1) (k := a2) (by omega) (by omega) (by omega) (by omega) (by omega) ).mp (by omega)
  have h2 : ∀ i, 0 ≤ i → i < a3 → zc_ws (zh_e w 263 (a1 + i)) := fun i i0 i1 => hp i i0 (by omega)
  exact ⟨_, List.mem_cons_self, [], rfl, zx_bnil, zx_cs0, (zx_eF1 (by show 0 ≤ (0 : Int) + (1 * a4 + 0); omega) (by show zk_xe w 2000149 ((0 : Int) + (1 * a4 + 0)) = (1 : Int) + (0); rw [show (0 : Int) + (1 * a4 + 0) = a4 by omega]; exact ((zc_149 (w := w) (j := a4) (f := a1) (k := a3) (by omega) (by omega) (by omega) (by omega) (by omega) ).mpr h2).trans (by omega)) zx_eF0), zx_k0⟩
def zx_D1052 : zx_L := zx_Lc [] 2 [(2000150, 0), (2000149, 0)] [] [((0, 0), [(0, 1, 0), (1, 0, 1)])] [((0, 0), [(0, 1, 0)])] [([], [], [(2000150, ((0, 0), [(1, 1, 0)]), ((0, 0), [(2, 1, 0)])), (2000149, ((0, 0), [(1, 1, 0)]), ((0, 0), [(3, 1, 0)]))], [])]
theorem zx_D1052_ok {PT : Nat → zz_W → Prop} : zx_Lok 64 zHT PT zx_D1052 := by
  refine zx_Lc_ok (fun w hI hK ins hl hr he hg => ?_)
  obtain ⟨a0, a1, rfl⟩ := zx_i2 hl
  have e0 : (0 : Int) + (1 * a0 + ((-1) * a1 + 0)) = 0 := he _ List.mem_cons_self
  have g0 : 0 ≤ (0 : Int) + (1 * a0 + 0) := hg _ List.mem_cons_self
  have r0 : 0 ≤ a0 := hr _ List.mem_cons_self
  have r1 : 0 ≤ a0 := hr _ (List.mem_cons_of_mem _ List.mem_cons_self)
  have e : a1 = a0 := by omega
  exact ⟨_, List.mem_cons_self, [], rfl, zx_bnil, zx_cs0, (zx_eF1 (by show 0 ≤ (0 : Int) + (1 * a1 + 0); omega) (by show zk_xe w 2000150 ((0 : Int) + (1 * a1 + 0)) = (0 : Int) + (1 * (zk_xe w 2000150 a0) + 0); rw [show (0 : Int) + (1 * a1 + 0) = a1 by omega]; rw [e]; omega) (zx_eF1 (by show 0 ≤ (0 : Int) + (1 * a1 + 0); omega) (by show zk_xe w 2000149 ((0 : Int) + (1 * a1 + 0)) = (0 : Int) + (1 * (zk_xe w 2000149 a0) + 0); rw [show (0 : Int) + (1 * a1 + 0) = a1 by omega]; rw [e]; omega) zx_eF0)), zx_k0⟩
def zx_D1040 : zx_L := zx_Lc [] 6 [(2000150, 0), (2000149, 3), (263, 1), (2000082, 4), (2000084, 5)] [] [((0, 0), [(0, 1, 0), (1, 0, 1), (2, 0, 4294967296)]), ((0, 0), [(1, 0, 1), (2, 0, 4294967296), (3, 1, 0)]), ((0, 1), [(7, 1, 0)]), ((0, 0), [(6, 0, 1), (9, 1, 0)]), ((0, 1), [(10, 1, 0)])] [((0, 0), [(1, 1, 0)]), ((4294967276, 0), [(1, 0, 1)]), ((0, 0), [(2, 1, 0)]), ((4294967276, 0), [(2, 0, 1)]), ((0, 0), [(4, 1, 0)]), ((4294967276, 0), [(4, 0, 1)]), ((0, 0), [(5, 1, 0)]), ((4294967276, 0), [(5, 0, 1)]), ((0, 1), [(2, 1, 0)]), ((0, 1), [(4, 0, 1), (5, 1, 0)]), ((0, 47), [(8, 1, 0)])] [([], [((84, 0), [(4, 0, 1)])], [], []), ([], [((0, 93), [(4, 1, 0)])], [], [])]
theorem zx_D1040_ok {PT : Nat → zz_W → Prop} : zx_Lok 64 zHT PT zx_D1040 := by
  refine zx_Lc_ok (fun w hI hK ins hl hr he hg => ?_)
  obtain ⟨a0, a1, a2, a3, a4, a5, rfl⟩ := zx_i6 hl
  have e0 : (0 : Int) + (1 * a0 + ((-1) * a1 + ((-4294967296) * a2 + 0))) = 0 := he _ List.mem_cons_self
  have e1 : (0 : Int) + ((-1) * a1 + ((-4294967296) * a2 + (1 * a3 + 0))) = 0 := he _ (List.mem_cons_of_mem _ List.mem_cons_self)
  have e2 : ((-1) : Int) + (1 * (zk_xe w 2000149 a3) + 0) = 0 := he _ (List.mem_cons_of_mem _ (List.mem_cons_of_mem _ List.mem_cons_self))
  have e3 : (0 : Int) + ((-1) * (zk_xe w 2000150 a0) + (1 * (zk_xe w 2000082 a4) + 0)) = 0 := he _ (List.mem_cons_of_mem _ (List.mem_cons_of_mem _ (List.mem_cons_of_mem _ List.mem_cons_self)))
  have e4 : ((-1) : Int) + (1 * (zk_xe w 2000084 a5) + 0) = 0 := he _ (List.mem_cons_of_mem _ (List.mem_cons_of_mem _ (List.mem_cons_of_mem _ (List.mem_cons_of_mem _ List.mem_cons_self))))
  have g0 : 0 ≤ (0 : Int) + (1 * a1 + 0) := hg _ List.mem_cons_self
  have g1 : 0 ≤ (4294967276 : Int) + ((-1) * a1 + 0) := hg _ (List.mem_cons_of_mem _ List.mem_cons_self)
  have g2 : 0 ≤ (0 : Int) + (1 * a2 + 0) := hg _ (List.mem_cons_of_mem _ (List.mem_cons_of_mem _ List.mem_cons_self))
  have g3 : 0 ≤ (4294967276 : Int) + ((-1) * a2 + 0) := hg _ (List.mem_cons_of_mem _ (List.mem_cons_of_mem _ (List.mem_cons_of_mem _ List.mem_cons_self)))
  have g4 : 0 ≤ (0 : Int) + (1 * a4 + 0) := hg _ (List.mem_cons_of_mem _ (List.mem_cons_of_mem _ (List.mem_cons_of_mem _ (List.mem_cons_of_mem _ List.mem_cons_self))))
  have g5 : 0 ≤ (4294967276 : Int) + ((-1) * a4 + 0) := hg _ (List.mem_cons_of_mem _ (List.mem_cons_of_mem _ (List.mem_cons_of_mem _ (List.mem_cons_of_mem _ (List.mem_cons_of_mem _ List.mem_cons_self)))))
  have g6 : 0 ≤ (0 : Int) + (1 * a5 + 0) := hg _ (List.mem_cons_of_mem _ (List.mem_cons_of_mem _ (List.mem_cons_of_mem _ (List.mem_cons_of_mem _ (List.mem_cons_of_mem _ (List.mem_cons_of_mem _ List.mem_cons_self))))))
  have g7 : 0 ≤ (4294967276 : Int) + ((-1) * a5 + 0) := hg _ (List.mem_cons_of_mem _ (List.mem_cons_of_mem _ (List.mem_cons_of_mem _ (List.mem_cons_of_mem _ (List.mem_cons_of_mem _ (List.mem_cons_of_mem _ (List.mem_cons_of_mem _ List.mem_cons_self)))))))
  have g8 : 0 ≤ ((-1) : Int) + (1 * a2 + 0) := hg _ (List.mem_cons_of_mem _ (List.mem_cons_of_mem _ (List.mem_cons_of_mem _ (List.mem_cons_of_mem _ (List.mem_cons_of_mem _ (List.mem_cons_of_mem _ (List.mem_cons_of_mem _ (List.mem_cons_of_mem _ List.mem_cons_self))))))))
  have g9 : 0 ≤ ((-1) : Int) + ((-1) * a4 + (1 * a5 + 0)) := hg _ (List.mem_cons_of_mem _ (List.mem_cons_of_mem _ (List.mem_cons_of_mem _ (List.mem_cons_of_mem _ (List.mem_cons_of_mem _ (List.mem_cons_of_mem _ (List.mem_cons_of_mem _ (List.mem_cons_of_mem _ (List.mem_cons_of_mem _ List.mem_cons_self)))))))))
  have g10 : 0 ≤ ((-47) : Int) + (1 * (zk_xe w 263 a1) + 0) := hg _ (List.mem_cons_of_mem _ (List.mem_cons_of_mem _ (List.mem_cons_of_mem _ (List.mem_cons_of_mem _ (List.mem_cons_of_mem _ (List.mem_cons_of_mem _ (List.mem_cons_of_mem _ (List.mem_cons_of_mem _ (List.mem_cons_of_mem _ (List.mem_cons_of_mem _ List.mem_cons_self))))))))))
  have r0 : 0 ≤ a0 := hr _ List.mem_cons_self
  have r1 : 0 ≤ a3 := hr _ (List.mem_cons_of_mem _ List.mem_cons_self)
  have r2 : 0 ≤ a1 := hr _ (List.mem_cons_of_mem _ (List.mem_cons_of_mem _ List.mem_cons_self))
  have r3 : 0 ≤ a4 := hr _ (List.mem_cons_of_mem _ (List.mem_cons_of_mem _ (List.mem_cons_of_mem _ List.mem_cons_self)))
  have r4 : 0 ≤ a5 := hr _ (List.mem_cons_of_mem _ (List.mem_cons_of_mem _ (List.mem_cons_of_mem _ (List.mem_cons_of_mem _ List.mem_cons_self))))
  by_cases c1 : a4 ≤ 84
  ·
    exact ⟨_, List.mem_cons_self, [], rfl, zx_bnil, (zx_cs1 (by show 0 ≤ (84 : Int) + ((-1) * a4 + 0); omega) zx_cs0), zx_eF0, zx_k0⟩
  ·
    by_cases c2 : 93 ≤ a4
    ·
      exact ⟨_, (List.mem_cons_of_mem _ List.mem_cons_self), [], rfl, zx_bnil, (zx_cs1 (by show 0 ≤ ((-93) : Int) + (1 * a4 + 0); omega) zx_cs0), zx_eF0, zx_k0⟩
    ·
      exfalso
      have hp := fun i a b => zc_ws1 ((zc_149 (w := w) (j := a3) (f := a1) (k := a2) (by omega) (by omega) (by omega) (by omega) (by omega) ).mp (by omega) i a b)
      have hk := zc_150 (w := w) (j := a0) (f := a1) (k := a2) (by omega) (by omega) (by omega) (by omega) (by omega) 
      have k0 : zh_e w 263 (a1) = zk_xe w 263 a1 := by rw [zk_xe_r (i := 263) (by decide)]; show zk_el w 263 (a1) = zk_el w 263 a1; rw [show a1 = a1 by omega]
      have hm := (zn_84' (w := w) (j := a5) (by omega) (by omega)).mp (by omega)
      have x1 := zn_82 (w := w) (i := a4) (j := a4) rfl
      have h3 := (hm.2.2 a4 (by omega) (by omega) (by omega)).1
      have hq := zc_ctl a4.toNat (by omega) (by omega)
      rw [← h3, ← x1] at hq
      obtain ⟨k, hk2⟩ : ∃ k : Nat, a2.toNat = k + 1 := ⟨a2.toNat - 1, by omega⟩
      rw [hk2] at hk
      have q1 := zc_pk1 (C := zh_e w 263) (f := a1) (k := k) (fun i i0 i1 => hp i i0 (by omega))
      rw [← hk, k0] at q1
      omega
def zx_D1043 : zx_L := zx_Lc [] 6 [(2000150, 0), (2000149, 3), (263, 1), (2000082, 4), (2000084, 5)] [] [((0, 0), [(0, 1, 0), (1, 0, 1), (2, 0, 4294967296)]), ((0, 0), [(1, 0, 1), (2, 0, 4294967296), (3, 1, 0)]), ((0, 1), [(7, 1, 0)]), ((0, 0), [(6, 0, 1), (9, 1, 0)]), ((0, 1), [(10, 1, 0)]), ((0, 46), [(8, 1, 0)]), ((0, 1), [(2, 1, 0)])] [((0, 0), [(1, 1, 0)]), ((4294967276, 0), [(1, 0, 1)]), ((0, 0), [(2, 1, 0)]), ((4294967276, 0), [(2, 0, 1)]), ((0, 0), [(4, 1, 0)]), ((4294967276, 0), [(4, 0, 1)]), ((0, 0), [(5, 1, 0)]), ((4294967276, 0), [(5, 0, 1)]), ((0, 1), [(2, 1, 0)]), ((0, 1), [(4, 0, 1), (5, 1, 0)])] [([], [((84, 0), [(4, 0, 1)])], [], []), ([], [((0, 93), [(4, 1, 0)])], [], [])]
theorem zx_D1043_ok {PT : Nat → zz_W → Prop} : zx_Lok 64 zHT PT zx_D1043 := by
  refine zx_Lc_ok (fun w hI hK ins hl hr he hg => ?_)
  obtain ⟨a0, a1, a2, a3, a4, a5, rfl⟩ := zx_i6 hl
  have e0 : (0 : Int) + (1 * a0 + ((-1) * a1 + ((-4294967296) * a2 + 0))) = 0 := he _ List.mem_cons_self
  have e1 : (0 : Int) + ((-1) * a1 + ((-4294967296) * a2 + (1 * a3 + 0))) = 0 := he _ (List.mem_cons_of_mem _ List.mem_cons_self)
  have e2 : ((-1) : Int) + (1 * (zk_xe w 2000149 a3) + 0) = 0 := he _ (List.mem_cons_of_mem _ (List.mem_cons_of_mem _ List.mem_cons_self))
  have e3 : (0 : Int) + ((-1) * (zk_xe w 2000150 a0) + (1 * (zk_xe w 2000082 a4) + 0)) = 0 := he _ (List.mem_cons_of_mem _ (List.mem_cons_of_mem _ (List.mem_cons_of_mem _ List.mem_cons_self)))
  have e4 : ((-1) : Int) + (1 * (zk_xe w 2000084 a5) + 0) = 0 := he _ (List.mem_cons_of_mem _ (List.mem_cons_of_mem _ (List.mem_cons_of_mem _ (List.mem_cons_of_mem _ List.mem_cons_self))))
  have e5 : ((-46) : Int) + (1 * (zk_xe w 263 a1) + 0) = 0 := he _ (List.mem_cons_of_mem _ (List.mem_cons_of_mem _ (List.mem_cons_of_mem _ (List.mem_cons_of_mem _ (List.mem_cons_of_mem _ List.mem_cons_self)))))
  have e6 : ((-1) : Int) + (1 * a2 + 0) = 0 := he _ (List.mem_cons_of_mem _ (List.mem_cons_of_mem _ (List.mem_cons_of_mem _ (List.mem_cons_of_mem _ (List.mem_cons_of_mem _ (List.mem_cons_of_mem _ List.mem_cons_self))))))
  have g0 : 0 ≤ (0 : Int) + (1 * a1 + 0) := hg _ List.mem_cons_self
  have g1 : 0 ≤ (4294967276 : Int) + ((-1) * a1 + 0) := hg _ (List.mem_cons_of_mem _ List.mem_cons_self)
  have g2 : 0 ≤ (0 : Int) + (1 * a2 + 0) := hg _ (List.mem_cons_of_mem _ (List.mem_cons_of_mem _ List.mem_cons_self))
  have g3 : 0 ≤ (4294967276 : Int) + ((-1) * a2 + 0) := hg _ (List.mem_cons_of_mem _ (List.mem_cons_of_mem _ (List.mem_cons_of_mem _ List.mem_cons_self)))
  have g4 : 0 ≤ (0 : Int) + (1 * a4 + 0) := hg _ (List.mem_cons_of_mem _ (List.mem_cons_of_mem _ (List.mem_cons_of_mem _ (List.mem_cons_of_mem _ List.mem_cons_self))))
  have g5 : 0 ≤ (4294967276 : Int) + ((-1) * a4 + 0) := hg _ (List.mem_cons_of_mem _ (List.mem_cons_of_mem _ (List.mem_cons_of_mem _ (List.mem_cons_of_mem _ (List.mem_cons_of_mem _ List.mem_cons_self)))))
  have g6 : 0 ≤ (0 : Int) + (1 * a5 + 0) := hg _ (List.mem_cons_of_mem _ (List.mem_cons_of_mem _ (List.mem_cons_of_mem _ (List.mem_cons_of_mem _ (List.mem_cons_of_mem _ (List.mem_cons_of_mem _ List.mem_cons_self))))))
  have g7 : 0 ≤ (4294967276 : Int) + ((-1) * a5 + 0) := hg _ (List.mem_cons_of_mem _ (List.mem_cons_of_mem _ (List.mem_cons_of_mem _ (List.mem_cons_of_mem _ (List.mem_cons_of_mem _ (List.mem_cons_of_mem _ (List.mem_cons_of_mem _ List.mem_cons_self)))))))
  have g8 : 0 ≤ ((-1) : Int) + (1 * a2 + 0) := hg _ (List.mem_cons_of_mem _ (List.mem_cons_of_mem _ (List.mem_cons_of_mem _ (List.mem_cons_of_mem _ (List.mem_cons_of_mem _ (List.mem_cons_of_mem _ (List.mem_cons_of_mem _ (List.mem_cons_of_mem _ List.mem_cons_self))))))))
  have g9 : 0 ≤ ((-1) : Int) + ((-1) * a4 + (1 * a5 + 0)) := hg _ (List.mem_cons_of_mem _ (List.mem_cons_of_mem _ (List.mem_cons_of_mem _ (List.mem_cons_of_mem _ (List.mem_cons_of_mem _ (List.mem_cons_of_mem _ (List.mem_cons_of_mem _ (List.mem_cons_of_mem _ (List.mem_cons_of_mem _ List.mem_cons_self)))))))))
  have r0 : 0 ≤ a0 := hr _ List.mem_cons_self
  have r1 : 0 ≤ a3 := hr _ (List.mem_cons_of_mem _ List.mem_cons_self)
  have r2 : 0 ≤ a1 := hr _ (List.mem_cons_of_mem _ (List.mem_cons_of_mem _ List.mem_cons_self))
  have r3 : 0 ≤ a4 := hr _ (List.mem_cons_of_mem _ (List.mem_cons_of_mem _ (List.mem_cons_of_mem _ List.mem_cons_self)))
  have r4 : 0 ≤ a5 := hr _ (List.mem_cons_of_mem _ (List.mem_cons_of_mem _ (List.mem_cons_of_mem _ (List.mem_cons_of_mem _ List.mem_cons_self))))
  by_cases c1 : a4 ≤ 84
  ·
    exact ⟨_, List.mem_cons_self, [], rfl, zx_bnil, (zx_cs1 (by show 0 ≤ (84 : Int) + ((-1) * a4 + 0); omega) zx_cs0), zx_eF0, zx_k0⟩
  ·
    by_cases c2 : 93 ≤ a4
    ·
      exact ⟨_, (List.mem_cons_of_mem _ List.mem_cons_self), [], rfl, zx_bnil, (zx_cs1 (by show 0 ≤ ((-93) : Int) + (1 * a4 + 0); omega) zx_cs0), zx_eF0, zx_k0⟩
    ·
      exfalso
      have hp := fun i a b => zc_ws1 ((zc_149 (w := w) (j := a3) (f := a1) (k := a2) (by omega) (by omega) (by omega) (by omega) (by omega) ).mp (by omega) i a b)
      have hk := zc_150 (w := w) (j := a0) (f := a1) (k := a2) (by omega) (by omega) (by omega) (by omega) (by omega) 
      have k0 : zh_e w 263 (a1) = zk_xe w 263 a1 := by rw [zk_xe_r (i := 263) (by decide)]; show zk_el w 263 (a1) = zk_el w 263 a1; rw [show a1 = a1 by omega]
      have hm := (zn_84' (w := w) (j := a5) (by omega) (by omega)).mp (by omega)
      have x1 := zn_82 (w := w) (i := a4) (j := a4) rfl
      have h3 := (hm.2.2 a4 (by omega) (by omega) (by omega)).1
      have hq := zc_ctl a4.toNat (by omega) (by omega)
      rw [← h3, ← x1] at hq
      rw [show a2.toNat = 0 + 1 by omega] at hk
      have q1 := zc_pk1 (C := zh_e w 263) (f := a1) (k := 0) (fun i i0 i1 => hp i i0 (by omega))
      have q2 := zc_pkb (C := zh_e w 263) (f := a1) (k := 0 + 1) (fun i i0 i1 => hp i i0 (by omega))
      rw [← hk] at q1 q2
      rw [show (256 : Int) ^ (0 + 1) = 256 by decide] at q2
      omega
def zx_D1044 : zx_L := zx_Lc [] 7 [(2000150, 0), (2000149, 3), (263, 1), (2000082, 4), (2000084, 5), (2000155, 6)] [] [((0, 0), [(0, 1, 0), (1, 0, 1), (2, 0, 4294967296)]), ((0, 0), [(1, 0, 1), (2, 0, 4294967296), (3, 1, 0)]), ((0, 1), [(8, 1, 0)]), ((0, 0), [(7, 0, 1), (10, 1, 0)]), ((0, 1), [(11, 1, 0)]), ((0, 46), [(9, 1, 0)]), ((0, 1), [(12, 1, 0)])] [((0, 0), [(1, 1, 0)]), ((4294967276, 0), [(1, 0, 1)]), ((0, 0), [(2, 1, 0)]), ((4294967276, 0), [(2, 0, 1)]), ((0, 0), [(4, 1, 0)]), ((4294967276, 0), [(4, 0, 1)]), ((0, 0), [(5, 1, 0)]), ((4294967276, 0), [(5, 0, 1)]), ((0, 1), [(2, 1, 0)]), ((0, 1), [(4, 0, 1), (5, 1, 0)]), ((0, 2), [(2, 1, 0)]), ((0, 2), [(1, 0, 1), (6, 1, 0)])] [([], [((84, 0), [(4, 0, 1)])], [], []), ([], [((0, 93), [(4, 1, 0)])], [], [])]
theorem zx_D1044_ok {PT : Nat → zz_W → Prop} : zx_Lok 64 zHT PT zx_D1044 := by
  refine zx_Lc_ok (fun w hI hK ins hl hr he hg => ?_)
  obtain ⟨a0, a1, a2, a3, a4, a5, a6, rfl⟩ := zx_i7 hl
  have e0 : (0 : Int) + (1 * a0 + ((-1) * a1 + ((-4294967296) * a2 + 0))) = 0 := he _ List.mem_cons_self
  have e1 : (0 : Int) + ((-1) * a1 + ((-4294967296) * a2 + (1 * a3 + 0))) = 0 := he _ (List.mem_cons_of_mem _ List.mem_cons_self)
  have e2 : ((-1) : Int) + (1 * (zk_xe w 2000149 a3) + 0) = 0 := he _ (List.mem_cons_of_mem _ (List.mem_cons_of_mem _ List.mem_cons_self))
  have e3 : (0 : Int) + ((-1) * (zk_xe w 2000150 a0) + (1 * (zk_xe w 2000082 a4) + 0)) = 0 := he _ (List.mem_cons_of_mem _ (List.mem_cons_of_mem _ (List.mem_cons_of_mem _ List.mem_cons_self)))
  have e4 : ((-1) : Int) + (1 * (zk_xe w 2000084 a5) + 0) = 0 := he _ (List.mem_cons_of_mem _ (List.mem_cons_of_mem _ (List.mem_cons_of_mem _ (List.mem_cons_of_mem _ List.mem_cons_self))))
  have e5 : ((-46) : Int) + (1 * (zk_xe w 263 a1) + 0) = 0 := he _ (List.mem_cons_of_mem _ (List.mem_cons_of_mem _ (List.mem_cons_of_mem _ (List.mem_cons_of_mem _ (List.mem_cons_of_mem _ List.mem_cons_self)))))
  have e6 : ((-1) : Int) + (1 * (zk_xe w 2000155 a6) + 0) = 0 := he _ (List.mem_cons_of_mem _ (List.mem_cons_of_mem _ (List.mem_cons_of_mem _ (List.mem_cons_of_mem _ (List.mem_cons_of_mem _ (List.mem_cons_of_mem _ List.mem_cons_self))))))
  have g0 : 0 ≤ (0 : Int) + (1 * a1 + 0) := hg _ List.mem_cons_self
  have g1 : 0 ≤ (4294967276 : Int) + ((-1) * a1 + 0) := hg _ (List.mem_cons_of_mem _ List.mem_cons_self)
  have g2 : 0 ≤ (0 : Int) + (1 * a2 + 0) := hg _ (List.mem_cons_of_mem _ (List.mem_cons_of_mem _ List.mem_cons_self))
  have g3 : 0 ≤ (4294967276 : Int) + ((-1) * a2 + 0) := hg _ (List.mem_cons_of_mem _ (List.mem_cons_of_mem _ (List.mem_cons_of_mem _ List.mem_cons_self)))
  have g4 : 0 ≤ (0 : Int) + (1 * a4 + 0) := hg _ (List.mem_cons_of_mem _ (List.mem_cons_of_mem _ (List.mem_cons_of_mem _ (List.mem_cons_of_mem _ List.mem_cons_self))))
  have g5 : 0 ≤ (4294967276 : Int) + ((-1) * a4 + 0) := hg _ (List.mem_cons_of_mem _ (List.mem_cons_of_mem _ (List.mem_cons_of_mem _ (List.mem_cons_of_mem _ (List.mem_cons_of_mem _ List.mem_cons_self)))))
  have g6 : 0 ≤ (0 : Int) + (1 * a5 + 0) := hg _ (List.mem_cons_of_mem _ (List.mem_cons_of_mem _ (List.mem_cons_of_mem _ (List.mem_cons_of_mem _ (List.mem_cons_of_mem _ (List.mem_cons_of_mem _ List.mem_cons_self))))))
  have g7 : 0 ≤ (4294967276 : Int) + ((-1) * a5 + 0) := hg _ (List.mem_cons_of_mem _ (List.mem_cons_of_mem _ (List.mem_cons_of_mem _ (List.mem_cons_of_mem _ (List.mem_cons_of_mem _ (List.mem_cons_of_mem _ (List.mem_cons_of_mem _ List.mem_cons_self)))))))
  have g8 : 0 ≤ ((-1) : Int) + (1 * a2 + 0) := hg _ (List.mem_cons_of_mem _ (List.mem_cons_of_mem _ (List.mem_cons_of_mem _ (List.mem_cons_of_mem _ (List.mem_cons_of_mem _ (List.mem_cons_of_mem _ (List.mem_cons_of_mem _ (List.mem_cons_of_mem _ List.mem_cons_self))))))))
  have g9 : 0 ≤ ((-1) : Int) + ((-1) * a4 + (1 * a5 + 0)) := hg _ (List.mem_cons_of_mem _ (List.mem_cons_of_mem _ (List.mem_cons_of_mem _ (List.mem_cons_of_mem _ (List.mem_cons_of_mem _ (List.mem_cons_of_mem _ (List.mem_cons_of_mem _ (List.mem_cons_of_mem _ (List.mem_cons_of_mem _ List.mem_cons_self)))))))))
  have g10 : 0 ≤ ((-2) : Int) + (1 * a2 + 0) := hg _ (List.mem_cons_of_mem _ (List.mem_cons_of_mem _ (List.mem_cons_of_mem _ (List.mem_cons_of_mem _ (List.mem_cons_of_mem _ (List.mem_cons_of_mem _ (List.mem_cons_of_mem _ (List.mem_cons_of_mem _ (List.mem_cons_of_mem _ (List.mem_cons_of_mem _ List.mem_cons_self))))))))))
  have g11 : 0 ≤ ((-2) : Int) + ((-1) * a1 + (1 * a6 + 0)) := hg _ (List.mem_cons_of_mem _ (List.mem_cons_of_mem _ (List.mem_cons_of_mem _ (List.mem_cons_of_mem _ (List.mem_cons_of_mem _ (List.mem_cons_of_mem _ (List.mem_cons_of_mem _ (List.mem_cons_of_mem _ (List.mem_cons_of_mem _ (List.mem_cons_of_mem _ (List.mem_cons_of_mem _ List.mem_cons_self)))))))))))
  have r0 : 0 ≤ a0 := hr _ List.mem_cons_self
  have r1 : 0 ≤ a3 := hr _ (List.mem_cons_of_mem _ List.mem_cons_self)
  have r2 : 0 ≤ a1 := hr _ (List.mem_cons_of_mem _ (List.mem_cons_of_mem _ List.mem_cons_self))
  have r3 : 0 ≤ a4 := hr _ (List.mem_cons_of_mem _ (List.mem_cons_of_mem _ (List.mem_cons_of_mem _ List.mem_cons_self)))
  have r4 : 0 ≤ a5 := hr _ (List.mem_cons_of_mem _ (List.mem_cons_of_mem _ (List.mem_cons_of_mem _ (List.mem_cons_of_mem _ List.mem_cons_self))))
  have r5 : 0 ≤ a6 := hr _ (List.mem_cons_of_mem _ (List.mem_cons_of_mem _ (List.mem_cons_of_mem _ (List.mem_cons_of_mem _ (List.mem_cons_of_mem _ List.mem_cons_self)))))
  by_cases c1 : a4 ≤ 84
  ·
    exact ⟨_, List.mem_cons_self, [], rfl, zx_bnil, (zx_cs1 (by show 0 ≤ (84 : Int) + ((-1) * a4 + 0); omega) zx_cs0), zx_eF0, zx_k0⟩
  ·
    by_cases c2 : 93 ≤ a4
    ·
      exact ⟨_, (List.mem_cons_of_mem _ List.mem_cons_self), [], rfl, zx_bnil, (zx_cs1 (by show 0 ≤ ((-93) : Int) + (1 * a4 + 0); omega) zx_cs0), zx_eF0, zx_k0⟩
    ·
      exfalso
      have hp := fun i a b => zc_ws1 ((zc_149 (w := w) (j := a3) (f := a1) (k := a2) (by omega) (by omega) (by omega) (by omega) (by omega) ).mp (by omega) i a b)
      have hk := zc_150 (w := w) (j := a0) (f := a1) (k := a2) (by omega) (by omega) (by omega) (by omega) (by omega) 
      have k0 : zh_e w 263 (a1) = zk_xe w 263 a1 := by rw [zk_xe_r (i := 263) (by decide)]; show zk_el w 263 (a1) = zk_el w 263 a1; rw [show a1 = a1 by omega]
      have hm := (zn_84' (w := w) (j := a5) (by omega) (by omega)).mp (by omega)
      have x1 := zn_82 (w := w) (i := a4) (j := a4) rfl
      have h3 := (hm.2.2 a4 (by omega) (by omega) (by omega)).1
      have hq := zc_ctl a4.toNat (by omega) (by omega)
      rw [← h3, ← x1] at hq
      obtain ⟨k, hk2⟩ : ∃ k : Nat, a2.toNat = k + 2 := ⟨a2.toNat - 2, by omega⟩
      rw [hk2] at hk
      have q1 := zc_pk2 (C := zh_e w 263) (f := a1) (k := k) (fun i i0 i1 => hp i i0 (by omega))
      rw [← hk] at q1
      have hd := zc_155.mp (show zk_xe w 2000155 a6 = 1 by omega) a1 (by omega) (by omega) (by rw [k0]; omega)
      unfold zy_ok at hd
      omega
/-- a line that is copied -/
theorem zc_148 {w : zz_W} {j u f n : Int} (e : j = u + 4294967296 * f + 18446744073709551616 * n) (u0 : 0 ≤ u) (u1 : u < 4294967296) (f0 : 0 ≤ f) (f1 : f < 4294967296) (n0 : 0 ≤ n) (n1 : n < 4294967296) : zk_xe w 2000148 j = 1 ↔ ∀ i, 0 ≤ i → i < n → zh_e w 263 i = zh_e w 177 (40000 * u + f + i) := by
  obtain ⟨d0, d1, d2⟩ := zg_d3 (j := j) (n := u) (k := f) (u := n) (by omega) u0 u1 f0 f1 n0 n1
  rw [show (2000148 : Nat) = 2000000 + 148 from rfl, zk_xe_h]
  have h : zv_H 148 w j = zh_b (∀ i, 0 ≤ i → i < n → zh_e w 263 i = zh_e w 177 (40000 * u + f + i)) := by
    show zh_b (∀ i, 0 ≤ i → i < zv_dg 2 j → zh_e w 263 i = zh_e w 177 (40000 * zv_dg 0 j + zv_dg 1 j + i)) = _
    rw [d0, d1, d2]
  rw [h]
  exact ⟨zh_b1', zh_b1⟩
def zx_D1060 : zx_L := zx_Lc [] 3 [] [] [((0, 0), [(0, 1, 0), (1, 0, 1), (2, 0, 4294967296)])] [((0, 0), [(1, 1, 0)]), ((4294967276, 0), [(1, 0, 1)]), ((0, 0), [(2, 1, 0)]), ((4294967276, 0), [(2, 0, 1)])] [([], [], [(2000148, ((0, 0), [(0, 1, 0)]), ((1, 0), []))], [])]
theorem zx_D1060_ok {PT : Nat → zz_W → Prop} : zx_Lok 64 zHT PT zx_D1060 := by
  refine zx_Lc_ok (fun w hI hK ins hl hr he hg => ?_)
  obtain ⟨a0, a1, a2, rfl⟩ := zx_i3 hl
  have e0 : (0 : Int) + (1 * a0 + ((-1) * a1 + ((-4294967296) * a2 + 0))) = 0 := he _ List.mem_cons_self
  have g0 : 0 ≤ (0 : Int) + (1 * a1 + 0) := hg _ List.mem_cons_self
  have g1 : 0 ≤ (4294967276 : Int) + ((-1) * a1 + 0) := hg _ (List.mem_cons_of_mem _ List.mem_cons_self)
  have g2 : 0 ≤ (0 : Int) + (1 * a2 + 0) := hg _ (List.mem_cons_of_mem _ (List.mem_cons_of_mem _ List.mem_cons_self))
  have g3 : 0 ≤ (4294967276 : Int) + ((-1) * a2 + 0) := hg _ (List.mem_cons_of_mem _ (List.mem_cons_of_mem _ (List.mem_cons_of_mem _ List.mem_cons_self)))
  have h : ∀ i, 0 ≤ i → i < 0 → zh_e w 263 i = zh_e w 177 (40000 * a1 + a2 + i) := fun i i0 i1 => by omega
  exact ⟨_, List.mem_cons_self, [], rfl, zx_bnil, zx_cs0, (zx_eF1 (by show 0 ≤ (0 : Int) + (1 * a0 + 0); omega) (by show zk_xe w 2000148 ((0 : Int) + (1 * a0 + 0)) = (1 : Int) + (0); rw [show (0 : Int) + (1 * a0 + 0) = a0 by omega]; exact ((zc_148 (w := w) (j := a0) (u := a1) (f := a2) (n := 0) (by omega) (by omega) (by omega) (by omega) (by omega) (by omega) (by omega) ).mpr h).trans (by omega)) zx_eF0), zx_k0⟩
def zx_D1061 : zx_L := zx_Lc [] 7 [(2000148, 0), (263, 4), (177, 5)] [] [((0, 0), [(0, 1, 0), (1, 0, 1), (2, 0, 4294967296), (3, 0, 18446744073709551616)]), ((0, 1), [(7, 1, 0)]), ((0, 0), [(3, 0, 1), (4, 1, 0)]), ((0, 0), [(1, 0, 40000), (2, 0, 1), (3, 0, 1), (5, 1, 0)]), ((0, 0), [(8, 1, 0), (9, 0, 1)]), ((0, 18446744073709551616), [(1, 0, 1), (2, 0, 4294967296), (3, 0, 18446744073709551616), (6, 1, 0)])] [((0, 0), [(1, 1, 0)]), ((4294967276, 0), [(1, 0, 1)]), ((0, 0), [(2, 1, 0)]), ((4294967276, 0), [(2, 0, 1)]), ((0, 0), [(3, 1, 0)]), ((4294967276, 0), [(3, 0, 1)])] [([], [], [(2000148, ((0, 0), [(6, 1, 0)]), ((1, 0), []))], [])]
theorem zx_D1061_ok {PT : Nat → zz_W → Prop} : zx_Lok 64 zHT PT zx_D1061 := by
  refine zx_Lc_ok (fun w hI hK ins hl hr he hg => ?_)
  obtain ⟨a0, a1, a2, a3, a4, a5, a6, rfl⟩ := zx_i7 hl
  have e0 : (0 : Int) + (1 * a0 + ((-1) * a1 + ((-4294967296) * a2 + ((-18446744073709551616) * a3 + 0)))) = 0 := he _ List.mem_cons_self
  have e1 : ((-1) : Int) + (1 * (zk_xe w 2000148 a0) + 0) = 0 := he _ (List.mem_cons_of_mem _ List.mem_cons_self)
  have e2 : (0 : Int) + ((-1) * a3 + (1 * a4 + 0)) = 0 := he _ (List.mem_cons_of_mem _ (List.mem_cons_of_mem _ List.mem_cons_self))
  have e3 : (0 : Int) + ((-40000) * a1 + ((-1) * a2 + ((-1) * a3 + (1 * a5 + 0)))) = 0 := he _ (List.mem_cons_of_mem _ (List.mem_cons_of_mem _ (List.mem_cons_of_mem _ List.mem_cons_self)))
  have e4 : (0 : Int) + (1 * (zk_xe w 263 a4) + ((-1) * (zk_xe w 177 a5) + 0)) = 0 := he _ (List.mem_cons_of_mem _ (List.mem_cons_of_mem _ (List.mem_cons_of_mem _ (List.mem_cons_of_mem _ List.mem_cons_self))))
  have e5 : ((-18446744073709551616) : Int) + ((-1) * a1 + ((-4294967296) * a2 + ((-18446744073709551616) * a3 + (1 * a6 + 0)))) = 0 := he _ (List.mem_cons_of_mem _ (List.mem_cons_of_mem _ (List.mem_cons_of_mem _ (List.mem_cons_of_mem _ (List.mem_cons_of_mem _ List.mem_cons_self)))))
  have g0 : 0 ≤ (0 : Int) + (1 * a1 + 0) := hg _ List.mem_cons_self
  have g1 : 0 ≤ (4294967276 : Int) + ((-1) * a1 + 0) := hg _ (List.mem_cons_of_mem _ List.mem_cons_self)
  have g2 : 0 ≤ (0 : Int) + (1 * a2 + 0) := hg _ (List.mem_cons_of_mem _ (List.mem_cons_of_mem _ List.mem_cons_self))
  have g3 : 0 ≤ (4294967276 : Int) + ((-1) * a2 + 0) := hg _ (List.mem_cons_of_mem _ (List.mem_cons_of_mem _ (List.mem_cons_of_mem _ List.mem_cons_self)))
  have g4 : 0 ≤ (0 : Int) + (1 * a3 + 0) := hg _ (List.mem_cons_of_mem _ (List.mem_cons_of_mem _ (List.mem_cons_of_mem _ (List.mem_cons_of_mem _ List.mem_cons_self))))
  have g5 : 0 ≤ (4294967276 : Int) + ((-1) * a3 + 0) := hg _ (List.mem_cons_of_mem _ (List.mem_cons_of_mem _ (List.mem_cons_of_mem _ (List.mem_cons_of_mem _ (List.mem_cons_of_mem _ List.mem_cons_self)))))
  have r0 : 0 ≤ a0 := hr _ List.mem_cons_self
  have r1 : 0 ≤ a4 := hr _ (List.mem_cons_of_mem _ List.mem_cons_self)
  have r2 : 0 ≤ a5 := hr _ (List.mem_cons_of_mem _ (List.mem_cons_of_mem _ List.mem_cons_self))
  have hp := (zc_148 (w := w) (j := a0) (u := a1) (f := a2) (n := a3) (by omega) (by omega) (by omega) (by omega) (by omega) (by omega) (by omega) ).mp (by omega)
  have k0 : zh_e w 263 (a3) = zk_xe w 263 a4 := by rw [zk_xe_r (i := 263) (by decide)]; show zk_el w 263 (a3) = zk_el w 263 a4; rw [show a3 = a4 by omega]
  have k1 : zh_e w 177 (40000 * a1 + a2 + a3) = zk_xe w 177 a5 := by rw [zk_xe_r (i := 177) (by decide)]; show zk_el w 177 (40000 * a1 + a2 + a3) = zk_el w 177 a5; rw [show 40000 * a1 + a2 + a3 = a5 by omega]
  have h : ∀ i, 0 ≤ i → i < a3 + 1 → zh_e w 263 i = zh_e w 177 (40000 * a1 + a2 + i) := by
    intro i i0 i1
    by_cases c : i = a3
    · rw [c, k0, k1]
      omega
    · exact hp i i0 (by omega)
  exact ⟨_, List.mem_cons_self, [], rfl, zx_bnil, zx_cs0, (zx_eF1 (by show 0 ≤ (0 : Int) + (1 * a6 + 0); omega) (by show zk_xe w 2000148 ((0 : Int) + (1 * a6 + 0)) = (1 : Int) + (0); rw [show (0 : Int) + (1 * a6 + 0) = a6 by omega]; exact ((zc_148 (w := w) (j := a6) (u := a1) (f := a2) (n := (a3 + 1)) (by omega) (by omega) (by omega) (by omega) (by omega) (by omega) (by omega) ).mpr h).trans (by omega)) zx_eF0), zx_k0⟩
def zx_D1062 : zx_L := zx_Lc [] 5 [(2000148, 0), (2000096, 4), (178, 1)] [] [((0, 0), [(0, 1, 0), (1, 0, 1), (2, 0, 4294967296), (3, 0, 18446744073709551616)]), ((0, 1), [(5, 1, 0)]), ((0, 0), [(1, 0, 1), (4, 1, 0)]), ((0, 1), [(6, 1, 0)])] [((0, 0), [(1, 1, 0)]), ((4294967276, 0), [(1, 0, 1)]), ((0, 0), [(2, 1, 0)]), ((4294967276, 0), [(2, 0, 1)]), ((0, 0), [(3, 1, 0)]), ((4294967276, 0), [(3, 0, 1)]), ((0, 0), [(2, 0, 1), (3, 0, 1), (7, 1, 0)])] [([], [], [(2000155, ((0, 0), [(3, 1, 0)]), ((1, 0), []))], [])]
theorem zx_D1062_ok {PT : Nat → zz_W → Prop} : zx_Lok 64 zHT PT zx_D1062 := by
  refine zx_Lc_ok (fun w hI hK ins hl hr he hg => ?_)
  obtain ⟨a0, a1, a2, a3, a4, rfl⟩ := zx_i5 hl
  have e0 : (0 : Int) + (1 * a0 + ((-1) * a1 + ((-4294967296) * a2 + ((-18446744073709551616) * a3 + 0)))) = 0 := he _ List.mem_cons_self
  have e1 : ((-1) : Int) + (1 * (zk_xe w 2000148 a0) + 0) = 0 := he _ (List.mem_cons_of_mem _ List.mem_cons_self)
  have e2 : (0 : Int) + ((-1) * a1 + (1 * a4 + 0)) = 0 := he _ (List.mem_cons_of_mem _ (List.mem_cons_of_mem _ List.mem_cons_self))
  have e3 : ((-1) : Int) + (1 * (zk_xe w 2000096 a4) + 0) = 0 := he _ (List.mem_cons_of_mem _ (List.mem_cons_of_mem _ (List.mem_cons_of_mem _ List.mem_cons_self)))
  have g0 : 0 ≤ (0 : Int) + (1 * a1 + 0) := hg _ List.mem_cons_self
  have g1 : 0 ≤ (4294967276 : Int) + ((-1) * a1 + 0) := hg _ (List.mem_cons_of_mem _ List.mem_cons_self)
  have g2 : 0 ≤ (0 : Int) + (1 * a2 + 0) := hg _ (List.mem_cons_of_mem _ (List.mem_cons_of_mem _ List.mem_cons_self))
  have g3 : 0 ≤ (4294967276 : Int) + ((-1) * a2 + 0) := hg _ (List.mem_cons_of_mem _ (List.mem_cons_of_mem _ (List.mem_cons_of_mem _ List.mem_cons_self)))
  have g4 : 0 ≤ (0 : Int) + (1 * a3 + 0) := hg _ (List.mem_cons_of_mem _ (List.mem_cons_of_mem _ (List.mem_cons_of_mem _ (List.mem_cons_of_mem _ List.mem_cons_self))))
  have g5 : 0 ≤ (4294967276 : Int) + ((-1) * a3 + 0) := hg _ (List.mem_cons_of_mem _ (List.mem_cons_of_mem _ (List.mem_cons_of_mem _ (List.mem_cons_of_mem _ (List.mem_cons_of_mem _ List.mem_cons_self)))))
  have g6 : 0 ≤ (0 : Int) + ((-1) * a2 + ((-1) * a3 + (1 * (zk_xe w 178 a1) + 0))) := hg _ (List.mem_cons_of_mem _ (List.mem_cons_of_mem _ (List.mem_cons_of_mem _ (List.mem_cons_of_mem _ (List.mem_cons_of_mem _ (List.mem_cons_of_mem _ List.mem_cons_self))))))
  have r0 : 0 ≤ a0 := hr _ List.mem_cons_self
  have r1 : 0 ≤ a4 := hr _ (List.mem_cons_of_mem _ List.mem_cons_self)
  have r2 : 0 ≤ a1 := hr _ (List.mem_cons_of_mem _ (List.mem_cons_of_mem _ List.mem_cons_self))
  have hp := (zc_148 (w := w) (j := a0) (u := a1) (f := a2) (n := a3) (by omega) (by omega) (by omega) (by omega) (by omega) (by omega) (by omega) ).mp (by omega)
  have hd := (zyq96 (w := w) (j := a4) (u := a1) (x := 0) (by omega) (by omega) (by omega) (by omega) (by omega) ).mp (by omega)
  have k0 : zh_e w 178 (a1) = zk_xe w 178 a1 := by rw [zk_xe_r (i := 178) (by decide)]; show zk_el w 178 (a1) = zk_el w 178 a1; rw [show a1 = a1 by omega]
  have h : ∀ i, 0 ≤ i → i + 1 < a3 → zh_e w 263 i = 46 → zy_ok (zh_e w 263 (i + 1)) := by
    intro i i0 i1 i2
    rw [hp i i0 (by omega)] at i2
    rw [hp (i + 1) (by omega) i1]
    have q := hd (a2 + i) (by omega) (by rw [k0]; omega) (by rw [show 40000 * a1 + (a2 + i) = 40000 * a1 + a2 + i by omega]; exact i2)
    rcases q with ⟨-, q⟩ | ⟨-, q⟩
    · rw [show 40000 * a1 + a2 + (i + 1) = 40000 * a1 + (a2 + i) + 1 by omega]
      exact q
    · exact absurd q (by decide)
  exact ⟨_, List.mem_cons_self, [], rfl, zx_bnil, zx_cs0, (zx_eF1 (by show 0 ≤ (0 : Int) + (1 * a3 + 0); omega) (by show zk_xe w 2000155 ((0 : Int) + (1 * a3 + 0)) = (1 : Int) + (0); rw [show (0 : Int) + (1 * a3 + 0) = a3 by omega]; exact (zc_155.mpr h).trans (by omega)) zx_eF0), zx_k0⟩
def zx_E673 : zx_V := zx_Vc 263 [] 4 [(2000148, 0)] [((0, 0), [(2, 1, 0), (3, 0, 1), (4, 0, 4294967296), (5, 0, 18446744073709551616)]), ((0, 1), [(6, 1, 0)])] [((0, 0), [(3, 1, 0)]), ((4294967276, 0), [(3, 0, 1)]), ((0, 0), [(4, 1, 0)]), ((4294967276, 0), [(4, 0, 1)]), ((0, 0), [(5, 1, 0)]), ((4294967276, 0), [(5, 0, 1)]), ((0, 0), [(0, 1, 0), (5, 0, 1)])] [(2000148, ((0, 0), [(2, 1, 0)]), ((1, 0), []))]
theorem zx_E673_ok {PT : Nat → zz_W → Prop} : zx_Vok 64 zHT PT zx_E673 := by
  refine zx_Vc_ok (fun w w' j ins hI hI' h0 hw hK hl he hg => ?_)
  obtain ⟨a0, a1, a2, a3, rfl⟩ := zx_i4 hl
  have e0 : (0 : Int) + (1 * a0 + ((-1) * a1 + ((-4294967296) * a2 + ((-18446744073709551616) * a3 + 0)))) = 0 := he _ List.mem_cons_self
  have e1 : ((-1) : Int) + (1 * (zk_xe w 2000148 a0) + 0) = 0 := he _ (List.mem_cons_of_mem _ List.mem_cons_self)
  have g0 : 0 ≤ (0 : Int) + (1 * a1 + 0) := hg _ List.mem_cons_self
  have g1 : 0 ≤ (4294967276 : Int) + ((-1) * a1 + 0) := hg _ (List.mem_cons_of_mem _ List.mem_cons_self)
  have g2 : 0 ≤ (0 : Int) + (1 * a2 + 0) := hg _ (List.mem_cons_of_mem _ (List.mem_cons_of_mem _ List.mem_cons_self))
  have g3 : 0 ≤ (4294967276 : Int) + ((-1) * a2 + 0) := hg _ (List.mem_cons_of_mem _ (List.mem_cons_of_mem _ (List.mem_cons_of_mem _ List.mem_cons_self)))
  have g4 : 0 ≤ (0 : Int) + (1 * a3 + 0) := hg _ (List.mem_cons_of_mem _ (List.mem_cons_of_mem _ (List.mem_cons_of_mem _ (List.mem_cons_of_mem _ List.mem_cons_self))))
  have g5 : 0 ≤ (4294967276 : Int) + ((-1) * a3 + 0) := hg _ (List.mem_cons_of_mem _ (List.mem_cons_of_mem _ (List.mem_cons_of_mem _ (List.mem_cons_of_mem _ (List.mem_cons_of_mem _ List.mem_cons_self)))))
  have g6 : 0 ≤ (0 : Int) + (1 * j + ((-1) * a3 + 0)) := hg _ (List.mem_cons_of_mem _ (List.mem_cons_of_mem _ (List.mem_cons_of_mem _ (List.mem_cons_of_mem _ (List.mem_cons_of_mem _ (List.mem_cons_of_mem _ List.mem_cons_self))))))
  have hp := (zc_148 (w := w) (j := a0) (u := a1) (f := a2) (n := a3) (by omega) (by omega) (by omega) (by omega) (by omega) (by omega) (by omega) ).mp (by omega)
  have h : ∀ i, 0 ≤ i → i < a3 → zh_e w' 263 i = zh_e w' 177 (40000 * a1 + a2 + i) := by
    intro i i0 i1
    have e : zh_e w' 263 i = zh_e w 263 i := hw.2 i i0 (by omega)
    rw [e, zh_e_g (hw.1 177 (by decide))]
    exact hp i i0 i1
  exact (zx_eF1 (by show 0 ≤ (0 : Int) + (1 * a0 + 0); omega) (by show zk_xe w' 2000148 ((0 : Int) + (1 * a0 + 0)) = (1 : Int) + (0); rw [show (0 : Int) + (1 * a0 + 0) = a0 by omega]; exact ((zc_148 (w := w') (j := a0) (u := a1) (f := a2) (n := a3) (by omega) (by omega) (by omega) (by omega) (by omega) (by omega) (by omega) ).mpr h).trans (by omega)) zx_eF0)
def zx_D1045 : zx_L := zx_Lc [] 7 [(2000150, 0), (2000149, 3), (263, 1), (2000082, 4), (2000084, 5), (2000155, 6)] [] [((0, 0), [(0, 1, 0), (1, 0, 1), (2, 0, 4294967296)]), ((0, 0), [(1, 0, 1), (2, 0, 4294967296), (3, 1, 0)]), ((0, 1), [(8, 1, 0)]), ((0, 0), [(7, 0, 1), (10, 1, 0)]), ((0, 1), [(11, 1, 0)]), ((0, 46), [(9, 1, 0)]), ((0, 1), [(12, 1, 0)])] [((0, 0), [(1, 1, 0)]), ((4294967276, 0), [(1, 0, 1)]), ((0, 0), [(2, 1, 0)]), ((4294967276, 0), [(2, 0, 1)]), ((0, 0), [(4, 1, 0)]), ((4294967276, 0), [(4, 0, 1)]), ((0, 0), [(5, 1, 0)]), ((4294967276, 0), [(5, 0, 1)]), ((0, 1), [(2, 1, 0)]), ((0, 1), [(4, 0, 1), (5, 1, 0)]), ((0, 0), [(1, 0, 1), (2, 0, 1), (6, 1, 0)])] [([], [((84, 0), [(4, 0, 1)])], [], []), ([], [((0, 93), [(4, 1, 0)])], [], [])]
theorem zx_D1045_ok {PT : Nat → zz_W → Prop} : zx_Lok 64 zHT PT zx_D1045 := by
  refine zx_Lc_ok (fun w hI hK ins hl hr he hg => ?_)
  obtain ⟨a0, a1, a2, a3, a4, a5, a6, rfl⟩ := zx_i7 hl
  have e0 : (0 : Int) + (1 * a0 + ((-1) * a1 + ((-4294967296) * a2 + 0))) = 0 := he _ List.mem_cons_self
  have e1 : (0 : Int) + ((-1) * a1 + ((-4294967296) * a2 + (1 * a3 + 0))) = 0 := he _ (List.mem_cons_of_mem _ List.mem_cons_self)
  have e2 : ((-1) : Int) + (1 * (zk_xe w 2000149 a3) + 0) = 0 := he _ (List.mem_cons_of_mem _ (List.mem_cons_of_mem _ List.mem_cons_self))
  have e3 : (0 : Int) + ((-1) * (zk_xe w 2000150 a0) + (1 * (zk_xe w 2000082 a4) + 0)) = 0 := he _ (List.mem_cons_of_mem _ (List.mem_cons_of_mem _ (List.mem_cons_of_mem _ List.mem_cons_self)))
  have e4 : ((-1) : Int) + (1 * (zk_xe w 2000084 a5) + 0) = 0 := he _ (List.mem_cons_of_mem _ (List.mem_cons_of_mem _ (List.mem_cons_of_mem _ (List.mem_cons_of_mem _ List.mem_cons_self))))
  have e5 : ((-46) : Int) + (1 * (zk_xe w 263 a1) + 0) = 0 := he _ (List.mem_cons_of_mem _ (List.mem_cons_of_mem _ (List.mem_cons_of_mem _ (List.mem_cons_of_mem _ (List.mem_cons_of_mem _ List.mem_cons_self)))))
  have e6 : ((-1) : Int) + (1 * (zk_xe w 2000155 a6) + 0) = 0 := he _ (List.mem_cons_of_mem _ (List.mem_cons_of_mem _ (List.mem_cons_of_mem _ (List.mem_cons_of_mem _ (List.mem_cons_of_mem _ (List.mem_cons_of_mem _ List.mem_cons_self))))))
  have g0 : 0 ≤ (0 : Int) + (1 * a1 + 0) := hg _ List.mem_cons_self
  have g1 : 0 ≤ (4294967276 : Int) + ((-1) * a1 + 0) := hg _ (List.mem_cons_of_mem _ List.mem_cons_self)
  have g2 : 0 ≤ (0 : Int) + (1 * a2 + 0) := hg _ (List.mem_cons_of_mem _ (List.mem_cons_of_mem _ List.mem_cons_self))
  have g3 : 0 ≤ (4294967276 : Int) + ((-1) * a2 + 0) := hg _ (List.mem_cons_of_mem _ (List.mem_cons_of_mem _ (List.mem_cons_of_mem _ List.mem_cons_self)))
  have g4 : 0 ≤ (0 : Int) + (1 * a4 + 0) := hg _ (List.mem_cons_of_mem _ (List.mem_cons_of_mem _ (List.mem_cons_of_mem _ (List.mem_cons_of_mem _ List.mem_cons_self))))
  have g5 : 0 ≤ (4294967276 : Int) + ((-1) * a4 + 0) := hg _ (List.mem_cons_of_mem _ (List.mem_cons_of_mem _ (List.mem_cons_of_mem _ (List.mem_cons_of_mem _ (List.mem_cons_of_mem _ List.mem_cons_self)))))
  have g6 : 0 ≤ (0 : Int) + (1 * a5 + 0) := hg _ (List.mem_cons_of_mem _ (List.mem_cons_of_mem _ (List.mem_cons_of_mem _ (List.mem_cons_of_mem _ (List.mem_cons_of_mem _ (List.mem_cons_of_mem _ List.mem_cons_self))))))
  have g7 : 0 ≤ (4294967276 : Int) + ((-1) * a5 + 0) := hg _ (List.mem_cons_of_mem _ (List.mem_cons_of_mem _ (List.mem_cons_of_mem _ (List.mem_cons_of_mem _ (List.mem_cons_of_mem _ (List.mem_cons_of_mem _ (List.mem_cons_of_mem _ List.mem_cons_self)))))))
  have g8 : 0 ≤ ((-1) : Int) + (1 * a2 + 0) := hg _ (List.mem_cons_of_mem _ (List.mem_cons_of_mem _ (List.mem_cons_of_mem _ (List.mem_cons_of_mem _ (List.mem_cons_of_mem _ (List.mem_cons_of_mem _ (List.mem_cons_of_mem _ (List.mem_cons_of_mem _ List.mem_cons_self))))))))
  have g9 : 0 ≤ ((-1) : Int) + ((-1) * a4 + (1 * a5 + 0)) := hg _ (List.mem_cons_of_mem _ (List.mem_cons_of_mem _ (List.mem_cons_of_mem _ (List.mem_cons_of_mem _ (List.mem_cons_of_mem _ (List.mem_cons_of_mem _ (List.mem_cons_of_mem _ (List.mem_cons_of_mem _ (List.mem_cons_of_mem _ List.mem_cons_self)))))))))
  have g10 : 0 ≤ (0 : Int) + ((-1) * a1 + ((-1) * a2 + (1 * a6 + 0))) := hg _ (List.mem_cons_of_mem _ (List.mem_cons_of_mem _ (List.mem_cons_of_mem _ (List.mem_cons_of_mem _ (List.mem_cons_of_mem _ (List.mem_cons_of_mem _ (List.mem_cons_of_mem _ (List.mem_cons_of_mem _ (List.mem_cons_of_mem _ (List.mem_cons_of_mem _ List.mem_cons_self))))))))))
  have r0 : 0 ≤ a0 := hr _ List.mem_cons_self
  have r1 : 0 ≤ a3 := hr _ (List.mem_cons_of_mem _ List.mem_cons_self)
  have r2 : 0 ≤ a1 := hr _ (List.mem_cons_of_mem _ (List.mem_cons_of_mem _ List.mem_cons_self))
  have r3 : 0 ≤ a4 := hr _ (List.mem_cons_of_mem _ (List.mem_cons_of_mem _ (List.mem_cons_of_mem _ List.mem_cons_self)))
  have r4 : 0 ≤ a5 := hr _ (List.mem_cons_of_mem _ (List.mem_cons_of_mem _ (List.mem_cons_of_mem _ (List.mem_cons_of_mem _ List.mem_cons_self))))
  have r5 : 0 ≤ a6 := hr _ (List.mem_cons_of_mem _ (List.mem_cons_of_mem _ (List.mem_cons_of_mem _ (List.mem_cons_of_mem _ (List.mem_cons_of_mem _ List.mem_cons_self)))))
  by_cases c1 : a4 ≤ 84
  ·
    exact ⟨_, List.mem_cons_self, [], rfl, zx_bnil, (zx_cs1 (by show 0 ≤ (84 : Int) + ((-1) * a4 + 0); omega) zx_cs0), zx_eF0, zx_k0⟩
  ·
    by_cases c2 : 93 ≤ a4
    ·
      exact ⟨_, (List.mem_cons_of_mem _ List.mem_cons_self), [], rfl, zx_bnil, (zx_cs1 (by show 0 ≤ ((-93) : Int) + (1 * a4 + 0); omega) zx_cs0), zx_eF0, zx_k0⟩
    ·
      exfalso
      have hp := fun i a b => zc_ws1 ((zc_149 (w := w) (j := a3) (f := a1) (k := a2) (by omega) (by omega) (by omega) (by omega) (by omega) ).mp (by omega) i a b)
      have hk := zc_150 (w := w) (j := a0) (f := a1) (k := a2) (by omega) (by omega) (by omega) (by omega) (by omega) 
      have k0 : zh_e w 263 (a1) = zk_xe w 263 a1 := by rw [zk_xe_r (i := 263) (by decide)]; show zk_el w 263 (a1) = zk_el w 263 a1; rw [show a1 = a1 by omega]
      have hm := (zn_84' (w := w) (j := a5) (by omega) (by omega)).mp (by omega)
      have x1 := zn_82 (w := w) (i := a4) (j := a4) rfl
      have h3 := (hm.2.2 a4 (by omega) (by omega) (by omega)).1
      have hq := zc_ctl a4.toNat (by omega) (by omega)
      rw [← h3, ← x1] at hq
      by_cases c3 : a2 = 1
      · rw [show a2.toNat = 0 + 1 by omega] at hk
        have q1 := zc_pk1 (C := zh_e w 263) (f := a1) (k := 0) (fun i i0 i1 => hp i i0 (by omega))
        have q2 := zc_pkb (C := zh_e w 263) (f := a1) (k := 0 + 1) (fun i i0 i1 => hp i i0 (by omega))
        rw [← hk] at q1 q2
        rw [show (256 : Int) ^ (0 + 1) = 256 by decide] at q2
        omega
      · obtain ⟨k, hk2⟩ : ∃ k : Nat, a2.toNat = k + 2 := ⟨a2.toNat - 2, by omega⟩
        rw [hk2] at hk
        have q1 := zc_pk2 (C := zh_e w 263) (f := a1) (k := k) (fun i i0 i1 => hp i i0 (by omega))
        rw [← hk] at q1
        have hd := zc_155.mp (show zk_xe w 2000155 a6 = 1 by omega) a1 (by omega) (by omega) (by rw [k0]; omega)
        unfold zy_ok at hd
        omega
/-- want lines are lines -/
theorem zc_xs10 {a K i m : Int} (K0 : 0 ≤ K) (K9 : K ≤ 9) (m1 : 1 ≤ m) (hk : zp_k m.toNat a) (i0 : 0 ≤ i) (i1 : i < 8 + m) : zc_xs a K i m ≠ 10 ∧ zc_xs a K i m ≠ 35 := by
  unfold zc_xs
  by_cases c : i < 6
  · rw [if_pos c]
    by_cases c0 : i = 0
    · rw [if_pos c0]
      decide
    · rw [if_neg c0]
      by_cases c1 : i = 1
      · rw [if_pos c1]
        decide
      · rw [if_neg c1]
        by_cases c2 : i = 2
        · rw [if_pos c2]
          decide
        · rw [if_neg c2]
          by_cases c3 : i = 3
          · rw [if_pos c3]
            decide
          · rw [if_neg c3]
            by_cases c4 : i = 4
            · rw [if_pos c4]
              decide
            · rw [if_neg c4]
              decide
  · rw [if_neg c]
    by_cases d : i < 6 + m
    · rw [if_pos d]
      have q := (zy_by hk (i - 6).toNat).1 (by omega)
      unfold zp_ch at q
      exact ⟨by omega, by omega⟩
    · rw [if_neg d]
      by_cases e : i = 6 + m
      · rw [if_pos e]
        decide
      · rw [if_neg e, if_pos (by omega)]
        exact ⟨by omega, by omega⟩
theorem zc_xsL {a K m : Int} (m1 : 1 ≤ m) : zc_xs a K (8 + m) m = 10 := by
  unfold zc_xs
  rw [if_neg (by omega), if_neg (by omega), if_neg (by omega), if_neg (by omega)]
theorem zc_lnz {T L E : Int → Int} {b z n : Int} (h : zc_fn T L E b z (z + 1) n) : ∀ (t : Nat) (i : Int), 0 ≤ i → i + (t : Int) = n - 1 → L i ≤ z
  | 0, i, i0, it => by
    have q := h.2.2 i i0 (by omega)
    rw [if_pos (by omega)] at q
    have := q.2.1
    omega
  | t + 1, i, i0, it => by
    have r := zc_lnz h t (i + 1) (by omega) (by omega)
    have q := h.2.2 i i0 (by omega)
    rw [if_neg (by omega)] at q
    have := q.2.1
    omega
theorem zc_lnb {T L E : Int → Int} {b z n i : Int} (h : zc_fn T L E b z (z + 1) n) (i0 : 0 ≤ i) (i1 : i < n) : L i = 0 ∨ T (b + L i - 1) = 10 := by
  by_cases c : i = 0
  · rw [c]
    exact Or.inl (h.2.1 (by omega))
  · have q := h.2.2 (i - 1) (by omega) (by omega)
    rw [if_neg (by omega), show i - 1 + 1 = i by omega] at q
    exact Or.inr (q.2.2.2.1 (zc_lnz h (n - 1 - i).toNat i i0 (by omega)))
theorem zc_lwb {T A B O Q F : Int → Int} {b o q : Int} (f1 : F 0 = 0 ∨ T (b + F 0 - 1) = 10) (f2 : ∀ p, 0 ≤ p → p < o → ∃ k, F (p + 1) = F p + 9 + k ∧ zc_wl T A B O Q b p (F p) k) (q0 : 0 ≤ q) (q1 : q ≤ o) : F q = 0 ∨ T (b + F q - 1) = 10 := by
  by_cases c : q = 0
  · rw [c]
    exact f1
  · obtain ⟨k, k1, -, k2, -, -, k3⟩ := f2 (q - 1) (by omega) (by omega)
    have m1 := k2.1
    rw [show q - 1 + 1 = q by omega] at k1
    have r := k3 (8 + k) (by omega) (by omega)
    rw [zc_xsL m1] at r
    refine Or.inr ?_
    rw [show b + F q - 1 = b + F (q - 1) + (8 + k) by omega]
    exact r
theorem zc_down {T A B O Q F L E : Int → Int} {b z n o : Int} (z0 : 0 ≤ z) (n0 : 0 < n) (f0 : 0 ≤ F 0) (f1 : F 0 = 0 ∨ T (b + F 0 - 1) = 10) (f2 : ∀ p, 0 ≤ p → p < o → ∃ k, F (p + 1) = F p + 9 + k ∧ zc_wl T A B O Q b p (F p) k) (f3 : F o = z) (o0 : 0 ≤ o) (h : zc_fn T L E b z (z + 1) n) : ∀ t : Nat, (t : Int) ≤ o → (t : Int) ≤ n - 1 ∧ L (n - 1 - (t : Int)) = F (o - (t : Int))
  | 0, _ => by
    refine ⟨by omega, ?_⟩
    rw [show n - 1 - ((0 : Nat) : Int) = n - 1 by omega, show o - ((0 : Nat) : Int) = o by omega, f3]
    have q := h.2.2 (n - 1) (by omega) (by omega)
    rw [if_pos rfl] at q
    have q1 := q.2.1
    by_cases c : L (n - 1) = z
    · exact c
    · have r := zc_lwb f1 f2 o0 (Int.le_refl o)
      rw [f3] at r
      have q0 := q.1
      rcases r with r | r
      · omega
      · have s := q.2.2.1 (z - 1) (by omega) (by omega)
        rw [show b + (z - 1) = b + z - 1 by omega] at s
        exact absurd r s
  | t + 1, ht => by
    obtain ⟨g1, g2⟩ := zc_down z0 n0 f0 f1 f2 f3 o0 h t (by omega)
    obtain ⟨k, k1, w1, w2, w3, w4, w5⟩ := f2 (o - (t : Int) - 1) (by omega) (by omega)
    have m1 := w2.1
    rw [show o - (t : Int) - 1 + 1 = o - (t : Int) by omega] at k1
    obtain ⟨qn, hqn⟩ : ∃ qn : Nat, o - (t : Int) - 1 = (qn : Int) := ⟨(o - (t : Int) - 1).toNat, by omega⟩
    have gq := (zc_wpF f0 (q := qn) (fun p p0 p1 => f2 p p0 (by omega))).1
    rw [← hqn] at gq
    have jn : n - 1 - (t : Int) ≠ 0 := fun e => by
      rw [e, h.2.1 n0] at g2
      omega
    refine ⟨by omega, ?_⟩
    rw [show n - 1 - ((t + 1 : Nat) : Int) = n - 1 - (t : Int) - 1 by omega, show o - ((t + 1 : Nat) : Int) = o - (t : Int) - 1 by omega]
    have q := h.2.2 (n - 1 - (t : Int) - 1) (by omega) (by omega)
    rw [if_neg (by omega), show n - 1 - (t : Int) - 1 + 1 = n - 1 - (t : Int) by omega, g2] at q
    obtain ⟨q0, q1, q2, -⟩ := q
    have hb := zc_lnb (i := n - 1 - (t : Int) - 1) h (by omega) (by omega)
    have hF := zc_lwb (q := o - (t : Int) - 1) f1 f2 (by omega) (by omega)
    generalize L (n - 1 - (t : Int) - 1) = f at q0 q1 q2 hb ⊢
    generalize F (o - (t : Int) - 1) = g at k1 w5 gq hF ⊢
    by_cases c1 : g < f
    · exfalso
      rcases hb with hb | hb
      · omega
      · have r := w5 (f - 1 - g) (by omega) (by omega)
        rw [show b + g + (f - 1 - g) = b + f - 1 by omega, hb] at r
        exact (zc_xs10 w3 w4 m1 w2.2.2.2 (by omega) (by omega)).1 r.symm
    · by_cases c2 : f < g
      · exfalso
        rcases hF with hF | hF
        · omega
        · have s := q2 (g - 1) (by omega) (by omega)
          rw [show b + (g - 1) = b + g - 1 by omega] at s
          exact s hF
      · omega
theorem zc_fw {T A B O Q L E : Int → Int} {b z n N o : Int} (z0 : 0 ≤ z) (o0 : 0 ≤ o) (n0 : 0 ≤ n) (h : zc_fn T L E b z (z + 1) n) (hw : zc_wn T A B O Q z b N o) : zc_lw T A B O Q L E b N o n := by
  obtain ⟨⟨F, f0, f1, f2, f3, -⟩, hN⟩ := hw
  have np : 0 < n := by
    by_cases c : n = 0
    · have := h.1 c
      omega
    · omega
  have f3 : F o = z := by omega
  have hd := zc_down z0 np f0 f1 f2 f3 o0 h
  refine ⟨?_, fun p p0 p1 => ⟨hN p p0 p1, ?_⟩⟩
  · have := (hd o.toNat (by omega)).1
    omega
  · obtain ⟨k, k1, hl⟩ := f2 p p0 p1
    have e1 := (hd (o - p).toNat (by omega)).2
    have e2 := (hd (o - p - 1).toNat (by omega)).2
    have l1 := (hd (o - p).toNat (by omega)).1
    rw [show n - 1 - (((o - p).toNat : Nat) : Int) = n - 1 - o + p by omega, show o - (((o - p).toNat : Nat) : Int) = p by omega] at e1
    rw [show n - 1 - (((o - p - 1).toNat : Nat) : Int) = n - 1 - o + p + 1 by omega, show o - (((o - p - 1).toNat : Nat) : Int) = p + 1 by omega] at e2
    have q := h.2.2 (n - 1 - o + p) (by omega) (by omega)
    rw [if_neg (by omega), e1, e2] at q
    obtain ⟨q0, q1, -, -, q4, q5, q6, q7⟩ := q
    have m1 := hl.2.1.1
    refine ⟨k, by rw [e1]; exact hl, ?_⟩
    rw [e1]
    rcases q7 with q7 | q7
    · omega
    · by_cases c : E (n - 1 - o + p) = F (p + 1) - 1
      · omega
      · exfalso
        have r := hl.2.2.2.2 (E (n - 1 - o + p) - F p) (by omega) (by omega)
        rw [show b + F p + (E (n - 1 - o + p) - F p) = b + E (n - 1 - o + p) by omega, q7] at r
        exact (zc_xs10 hl.2.2.1 hl.2.2.2.1 m1 hl.2.1.2.2.2 (by omega) (by omega)).2 r.symm
theorem zc_147 {w : zz_W} {j N u o n : Int} (e : j = N + 4294967296 * u + 18446744073709551616 * o + 79228162514264337593543950336 * n) (N0 : 0 ≤ N) (N1 : N < 4294967296) (u0 : 0 ≤ u) (u1 : u < 4294967296) (o0 : 0 ≤ o) (o1 : o < 4294967296) (n0 : 0 ≤ n) (n1 : n < 4294967296) : zk_xe w 2000147 j = 1 ↔ zc_lw (zh_e w 177) (zn_l w 173) (zn_l w 174) (zh_e w 256) (zh_e w 257) (zh_e w 261) (zh_e w 262) (40000 * u) N o n := by
  obtain ⟨d0, d1, d2, d3⟩ := zg_d4 (j := j) (n := N) (k := u) (u := o) (l := n) (by omega) N0 N1 u0 u1 o0 o1 n0 n1
  rw [show (2000147 : Nat) = 2000000 + 147 from rfl, zk_xe_h]
  have h : zv_H 147 w j = zh_b (zc_lw (zh_e w 177) (zn_l w 173) (zn_l w 174) (zh_e w 256) (zh_e w 257) (zh_e w 261) (zh_e w 262) (40000 * u) N o n) := by
    show zh_b (zc_lw (zh_e w 177) (zn_l w 173) (zn_l w 174) (zh_e w 256) (zh_e w 257) (zh_e w 261) (zh_e w 262) (40000 * zv_dg 1 j) (zv_dg 0 j) (zv_dg 2 j) (zv_dg 3 j)) = _
    rw [d0, d1, d2, d3]
  rw [h]
  exact ⟨zh_b1', zh_b1⟩
def zx_D1070 : zx_L := zx_Lc [] 5 [(2000146, 0), (261, 4), (262, 4)] [] [((0, 0), [(0, 1, 0), (1, 0, 1), (2, 0, 4294967296), (3, 0, 18446744073709551616)]), ((0, 1), [(5, 1, 0)])] [((0, 0), [(1, 1, 0)]), ((4294967276, 0), [(1, 0, 1)]), ((0, 0), [(2, 1, 0)]), ((4294967276, 0), [(2, 0, 1)]), ((0, 0), [(3, 1, 0)]), ((4294967276, 0), [(3, 0, 1)]), ((0, 0), [(4, 1, 0)]), ((0, 1), [(3, 1, 0), (4, 0, 1)])] [([], [((0, 0), [(6, 1, 0)]), ((0, 0), [(6, 0, 1), (7, 1, 0)])], [], [])]
theorem zx_D1070_ok {PT : Nat → zz_W → Prop} : zx_Lok 64 zHT PT zx_D1070 := by
  refine zx_Lc_ok (fun w hI hK ins hl hr he hg => ?_)
  obtain ⟨a0, a1, a2, a3, a4, rfl⟩ := zx_i5 hl
  have e0 : (0 : Int) + (1 * a0 + ((-1) * a1 + ((-4294967296) * a2 + ((-18446744073709551616) * a3 + 0)))) = 0 := he _ List.mem_cons_self
  have e1 : ((-1) : Int) + (1 * (zk_xe w 2000146 a0) + 0) = 0 := he _ (List.mem_cons_of_mem _ List.mem_cons_self)
  have g0 : 0 ≤ (0 : Int) + (1 * a1 + 0) := hg _ List.mem_cons_self
  have g1 : 0 ≤ (4294967276 : Int) + ((-1) * a1 + 0) := hg _ (List.mem_cons_of_mem _ List.mem_cons_self)
  have g2 : 0 ≤ (0 : Int) + (1 * a2 + 0) := hg _ (List.mem_cons_of_mem _ (List.mem_cons_of_mem _ List.mem_cons_self))
  have g3 : 0 ≤ (4294967276 : Int) + ((-1) * a2 + 0) := hg _ (List.mem_cons_of_mem _ (List.mem_cons_of_mem _ (List.mem_cons_of_mem _ List.mem_cons_self)))
  have g4 : 0 ≤ (0 : Int) + (1 * a3 + 0) := hg _ (List.mem_cons_of_mem _ (List.mem_cons_of_mem _ (List.mem_cons_of_mem _ (List.mem_cons_of_mem _ List.mem_cons_self))))
  have g5 : 0 ≤ (4294967276 : Int) + ((-1) * a3 + 0) := hg _ (List.mem_cons_of_mem _ (List.mem_cons_of_mem _ (List.mem_cons_of_mem _ (List.mem_cons_of_mem _ (List.mem_cons_of_mem _ List.mem_cons_self)))))
  have g6 : 0 ≤ (0 : Int) + (1 * a4 + 0) := hg _ (List.mem_cons_of_mem _ (List.mem_cons_of_mem _ (List.mem_cons_of_mem _ (List.mem_cons_of_mem _ (List.mem_cons_of_mem _ (List.mem_cons_of_mem _ List.mem_cons_self))))))
  have g7 : 0 ≤ ((-1) : Int) + (1 * a3 + ((-1) * a4 + 0)) := hg _ (List.mem_cons_of_mem _ (List.mem_cons_of_mem _ (List.mem_cons_of_mem _ (List.mem_cons_of_mem _ (List.mem_cons_of_mem _ (List.mem_cons_of_mem _ (List.mem_cons_of_mem _ List.mem_cons_self)))))))
  have r0 : 0 ≤ a0 := hr _ List.mem_cons_self
  have r1 : 0 ≤ a4 := hr _ (List.mem_cons_of_mem _ List.mem_cons_self)
  have r2 : 0 ≤ a4 := hr _ (List.mem_cons_of_mem _ (List.mem_cons_of_mem _ List.mem_cons_self))
  have hp := (zc_146 (w := w) (j := a0) (u := a1) (x := a2) (n := a3) (by omega) (by omega) (by omega) (by omega) (by omega) (by omega) (by omega) ).mp (by omega)
  have k0 : zh_e w 261 (a4) = zk_xe w 261 a4 := by rw [zk_xe_r (i := 261) (by decide)]; show zk_el w 261 (a4) = zk_el w 261 a4; rw [show a4 = a4 by omega]
  have k1 : zh_e w 262 (a4) = zk_xe w 262 a4 := by rw [zk_xe_r (i := 262) (by decide)]; show zk_el w 262 (a4) = zk_el w 262 a4; rw [show a4 = a4 by omega]
  have q := hp.2.2 a4 (by omega) (by omega)
  rw [k0, k1] at q
  have q0 := q.1
  have q4 := q.2.2.2.2.1
  exact ⟨_, List.mem_cons_self, [], rfl, zx_bnil, (zx_cs1 (by show 0 ≤ (0 : Int) + (1 * (zk_xe w 261 a4) + 0); omega) (zx_cs1 (by show 0 ≤ (0 : Int) + ((-1) * (zk_xe w 261 a4) + (1 * (zk_xe w 262 a4) + 0)); omega) zx_cs0)), zx_eF0, zx_k0⟩
def zx_D1071 : zx_L := zx_Lc [] 8 [(2000146, 0), (2000153, 4), (178, 1)] [] [((0, 0), [(0, 1, 0), (1, 0, 1), (2, 0, 4294967296), (3, 0, 18446744073709551616)]), ((0, 1), [(8, 1, 0)]), ((0, 0), [(1, 0, 4294967296), (4, 1, 0), (5, 0, 1), (6, 0, 18446744073709551616)]), ((0, 1), [(9, 1, 0)]), ((0, 1), [(2, 1, 0), (10, 0, 1)]), ((0, 0), [(1, 0, 4294967296), (3, 0, 79228162514264337593543950336), (5, 0, 1), (6, 0, 18446744073709551616), (7, 1, 0)])] [((0, 0), [(1, 1, 0)]), ((4294967276, 0), [(1, 0, 1)]), ((0, 0), [(2, 1, 0)]), ((4294967276, 0), [(2, 0, 1)]), ((0, 0), [(3, 1, 0)]), ((4294967276, 0), [(3, 0, 1)]), ((0, 0), [(5, 1, 0)]), ((4294967276, 0), [(5, 0, 1)]), ((0, 0), [(6, 1, 0)]), ((4294967276, 0), [(6, 0, 1)]), ((0, 0), [(10, 1, 0)])] [([], [], [(2000147, ((0, 0), [(7, 1, 0)]), ((1, 0), []))], [])]
theorem zx_D1071_ok {PT : Nat → zz_W → Prop} : zx_Lok 64 zHT PT zx_D1071 := by
  refine zx_Lc_ok (fun w hI hK ins hl hr he hg => ?_)
  obtain ⟨a0, a1, a2, a3, a4, a5, a6, a7, rfl⟩ := zx_i8 hl
  have e0 : (0 : Int) + (1 * a0 + ((-1) * a1 + ((-4294967296) * a2 + ((-18446744073709551616) * a3 + 0)))) = 0 := he _ List.mem_cons_self
  have e1 : ((-1) : Int) + (1 * (zk_xe w 2000146 a0) + 0) = 0 := he _ (List.mem_cons_of_mem _ List.mem_cons_self)
  have e2 : (0 : Int) + ((-4294967296) * a1 + (1 * a4 + ((-1) * a5 + ((-18446744073709551616) * a6 + 0)))) = 0 := he _ (List.mem_cons_of_mem _ (List.mem_cons_of_mem _ List.mem_cons_self))
  have e3 : ((-1) : Int) + (1 * (zk_xe w 2000153 a4) + 0) = 0 := he _ (List.mem_cons_of_mem _ (List.mem_cons_of_mem _ (List.mem_cons_of_mem _ List.mem_cons_self)))
  have e4 : ((-1) : Int) + (1 * a2 + ((-1) * (zk_xe w 178 a1) + 0)) = 0 := he _ (List.mem_cons_of_mem _ (List.mem_cons_of_mem _ (List.mem_cons_of_mem _ (List.mem_cons_of_mem _ List.mem_cons_self))))
  have e5 : (0 : Int) + ((-4294967296) * a1 + ((-79228162514264337593543950336) * a3 + ((-1) * a5 + ((-18446744073709551616) * a6 + (1 * a7 + 0))))) = 0 := he _ (List.mem_cons_of_mem _ (List.mem_cons_of_mem _ (List.mem_cons_of_mem _ (List.mem_cons_of_mem _ (List.mem_cons_of_mem _ List.mem_cons_self)))))
  have g0 : 0 ≤ (0 : Int) + (1 * a1 + 0) := hg _ List.mem_cons_self
  have g1 : 0 ≤ (4294967276 : Int) + ((-1) * a1 + 0) := hg _ (List.mem_cons_of_mem _ List.mem_cons_self)
  have g2 : 0 ≤ (0 : Int) + (1 * a2 + 0) := hg _ (List.mem_cons_of_mem _ (List.mem_cons_of_mem _ List.mem_cons_self))
  have g3 : 0 ≤ (4294967276 : Int) + ((-1) * a2 + 0) := hg _ (List.mem_cons_of_mem _ (List.mem_cons_of_mem _ (List.mem_cons_of_mem _ List.mem_cons_self)))
  have g4 : 0 ≤ (0 : Int) + (1 * a3 + 0) := hg _ (List.mem_cons_of_mem _ (List.mem_cons_of_mem _ (List.mem_cons_of_mem _ (List.mem_cons_of_mem _ List.mem_cons_self))))
  have g5 : 0 ≤ (4294967276 : Int) + ((-1) * a3 + 0) := hg _ (List.mem_cons_of_mem _ (List.mem_cons_of_mem _ (List.mem_cons_of_mem _ (List.mem_cons_of_mem _ (List.mem_cons_of_mem _ List.mem_cons_self)))))
  have g6 : 0 ≤ (0 : Int) + (1 * a5 + 0) := hg _ (List.mem_cons_of_mem _ (List.mem_cons_of_mem _ (List.mem_cons_of_mem _ (List.mem_cons_of_mem _ (List.mem_cons_of_mem _ (List.mem_cons_of_mem _ List.mem_cons_self))))))
  have g7 : 0 ≤ (4294967276 : Int) + ((-1) * a5 + 0) := hg _ (List.mem_cons_of_mem _ (List.mem_cons_of_mem _ (List.mem_cons_of_mem _ (List.mem_cons_of_mem _ (List.mem_cons_of_mem _ (List.mem_cons_of_mem _ (List.mem_cons_of_mem _ List.mem_cons_self)))))))
  have g8 : 0 ≤ (0 : Int) + (1 * a6 + 0) := hg _ (List.mem_cons_of_mem _ (List.mem_cons_of_mem _ (List.mem_cons_of_mem _ (List.mem_cons_of_mem _ (List.mem_cons_of_mem _ (List.mem_cons_of_mem _ (List.mem_cons_of_mem _ (List.mem_cons_of_mem _ List.mem_cons_self))))))))
  have g9 : 0 ≤ (4294967276 : Int) + ((-1) * a6 + 0) := hg _ (List.mem_cons_of_mem _ (List.mem_cons_of_mem _ (List.mem_cons_of_mem _ (List.mem_cons_of_mem _ (List.mem_cons_of_mem _ (List.mem_cons_of_mem _ (List.mem_cons_of_mem _ (List.mem_cons_of_mem _ (List.mem_cons_of_mem _ List.mem_cons_self)))))))))
  have g10 : 0 ≤ (0 : Int) + (1 * (zk_xe w 178 a1) + 0) := hg _ (List.mem_cons_of_mem _ (List.mem_cons_of_mem _ (List.mem_cons_of_mem _ (List.mem_cons_of_mem _ (List.mem_cons_of_mem _ (List.mem_cons_of_mem _ (List.mem_cons_of_mem _ (List.mem_cons_of_mem _ (List.mem_cons_of_mem _ (List.mem_cons_of_mem _ List.mem_cons_self))))))))))
  have r0 : 0 ≤ a0 := hr _ List.mem_cons_self
  have r1 : 0 ≤ a4 := hr _ (List.mem_cons_of_mem _ List.mem_cons_self)
  have r2 : 0 ≤ a1 := hr _ (List.mem_cons_of_mem _ (List.mem_cons_of_mem _ List.mem_cons_self))
  have hp := (zc_146 (w := w) (j := a0) (u := a1) (x := a2) (n := a3) (by omega) (by omega) (by omega) (by omega) (by omega) (by omega) (by omega) ).mp (by omega)
  have hw := (zc_153 (w := w) (j := a4) (N := a5) (u := a1) (o := a6) (by omega) (by omega) (by omega) (by omega) (by omega) (by omega) (by omega) ).mp (by omega)
  have k0 : zh_e w 178 (a1) = zk_xe w 178 a1 := by rw [zk_xe_r (i := 178) (by decide)]; show zk_el w 178 (a1) = zk_el w 178 a1; rw [show a1 = a1 by omega]
  rw [k0] at hp hw
  rw [show a2 = zk_xe w 178 a1 + 1 by omega] at hp
  have h := zc_fw (by omega) (by omega) (by omega) hp hw
  exact ⟨_, List.mem_cons_self, [], rfl, zx_bnil, zx_cs0, (zx_eF1 (by show 0 ≤ (0 : Int) + (1 * a7 + 0); omega) (by show zk_xe w 2000147 ((0 : Int) + (1 * a7 + 0)) = (1 : Int) + (0); rw [show (0 : Int) + (1 * a7 + 0) = a7 by omega]; exact ((zc_147 (w := w) (j := a7) (N := a5) (u := a1) (o := a6) (n := a3) (by omega) (by omega) (by omega) (by omega) (by omega) (by omega) (by omega) (by omega) (by omega) ).mpr h).trans (by omega)) zx_eF0), zx_k0⟩
end
