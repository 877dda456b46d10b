/-! cells of the world of fresh objects, by program -/
set_option maxRecDepth 100000 in
theorem zs3 : zz_sh zW3 := ⟨by decide +kernel, by decide +kernel⟩
noncomputable def zc_0 : Nat := (zz_g zW3 0).2.2.2
theorem zh_0 : zz_has zW3 0 (3, 1, 17, zc_0) := ⟨by decide +kernel, by decide, rfl⟩
theorem zv_0_1 : zz_at 64 zc_0 1 = 0 := by decide +kernel
theorem zv_0_2 : zz_at 64 zc_0 2 = 3 := by decide +kernel
theorem zv_0_3 : zz_at 64 zc_0 3 = 0 := by decide +kernel
theorem zv_0_4 : zz_at 64 zc_0 4 = 4 := by decide +kernel
theorem zv_0_5 : zz_at 64 zc_0 5 = 0 := by decide +kernel
theorem zv_0_6 : zz_at 64 zc_0 6 = 0 := by decide +kernel
theorem zv_0_7 : zz_at 64 zc_0 7 = 4294967295 := by decide +kernel
theorem zv_0_8 : zz_at 64 zc_0 8 = 4294967295 := by decide +kernel
theorem zv_0_9 : zz_at 64 zc_0 9 = 0 := by decide +kernel
theorem zv_0_10 : zz_at 64 zc_0 10 = 0 := by decide +kernel
noncomputable def zc_2 : Nat := (zz_g zW3 2).2.2.2
theorem zh_2 : zz_has zW3 2 (2, 4, 7, zc_2) := ⟨by decide +kernel, by decide, rfl⟩
theorem zv_2_6 : zz_at 32 zc_2 6 = 162 := by decide +kernel
noncomputable def zc_3 : Nat := (zz_g zW3 3).2.2.2
theorem zh_3 : zz_has zW3 3 (0, 0, 64, zc_3) := ⟨by decide +kernel, by decide, rfl⟩
noncomputable def zc_161 : Nat := (zz_g zW3 161).2.2.2
theorem zh_161 : zz_has zW3 161 (3, 12, 16, zc_161) := ⟨by decide +kernel, by decide, rfl⟩
theorem zv_161_0 : zz_at 64 zc_161 0 = 0 := by decide +kernel
theorem zv_161_4 : zz_at 64 zc_161 4 = 163 := by decide +kernel
theorem zv_161_5 : zz_at 64 zc_161 5 = 164 := by decide +kernel
theorem zv_161_6 : zz_at 64 zc_161 6 = 3 := by decide +kernel
theorem zv_161_7 : zz_at 64 zc_161 7 = 165 := by decide +kernel
theorem zv_161_9 : zz_at 64 zc_161 9 = 4 := by decide +kernel
theorem zv_161_13 : zz_at 64 zc_161 13 = 169 := by decide +kernel
theorem zv_161_15 : zz_at 64 zc_161 15 = 1 := by decide +kernel
noncomputable def zc_163 : Nat := (zz_g zW3 163).2.2.2
theorem zh_163 : zz_has zW3 163 (0, 0, 24, zc_163) := ⟨by decide +kernel, by decide, rfl⟩
theorem zv_163_1 : zz_at 32 zc_163 1 = 0 := by decide +kernel
theorem zv_163_7 : zz_at 32 zc_163 7 = 20 := by decide +kernel
theorem zv_163_13 : zz_at 32 zc_163 13 = 12 := by decide +kernel
noncomputable def zc_171 : Nat := (zz_g zW3 171).2.2.2
theorem zh_171 : zz_has zW3 171 (3, 0, 243, zc_171) := ⟨by decide +kernel, by decide, rfl⟩
theorem zv_171_2 : zz_at 64 zc_171 2 = 0 := by decide +kernel
theorem zv_171_7 : zz_at 64 zc_171 7 = 0 := by decide +kernel
theorem zv_171_8 : zz_at 64 zc_171 8 = 4294967295 := by decide +kernel
theorem zv_171_9 : zz_at 64 zc_171 9 = 4294967295 := by decide +kernel
theorem zv_171_10 : zz_at 64 zc_171 10 = 0 := by decide +kernel
theorem zv_171_14 : zz_at 64 zc_171 14 = 180 := by decide +kernel
theorem zv_171_15 : zz_at 64 zc_171 15 = 181 := by decide +kernel
theorem zv_171_17 : zz_at 64 zc_171 17 = 183 := by decide +kernel
theorem zv_171_23 : zz_at 64 zc_171 23 = 189 := by decide +kernel
theorem zv_171_24 : zz_at 64 zc_171 24 = 190 := by decide +kernel
theorem zv_171_30 : zz_at 64 zc_171 30 = 196 := by decide +kernel
theorem zv_171_36 : zz_at 64 zc_171 36 = 202 := by decide +kernel
theorem zv_171_202 : zz_at 64 zc_171 202 = 0 := by decide +kernel
theorem zv_171_217 : zz_at 64 zc_171 217 = 0 := by decide +kernel
theorem zv_171_218 : zz_at 64 zc_171 218 = 318 := by decide +kernel
theorem zv_171_224 : zz_at 64 zc_171 224 = 0 := by decide +kernel
noncomputable def zc_179 : Nat := (zz_g zW3 179).2.2.2
theorem zh_179 : zz_has zW3 179 (0, 0, 7, zc_179) := ⟨by decide +kernel, by decide, rfl⟩
theorem zv_179_6 : zz_at 32 zc_179 6 = 3 := by decide +kernel
noncomputable def zc_180 : Nat := (zz_g zW3 180).2.2.2
theorem zh_180 : zz_has zW3 180 (0, 0, 448, zc_180) := ⟨by decide +kernel, by decide, rfl⟩
theorem zv_180_384 : zz_at 32 zc_180 384 = 125 := by decide +kernel
theorem zv_180_385 : zz_at 32 zc_180 385 = 126 := by decide +kernel
theorem zv_180_386 : zz_at 32 zc_180 386 = 128 := by decide +kernel
noncomputable def zc_182 : Nat := (zz_g zW3 182).2.2.2
theorem zh_182 : zz_has zW3 182 (0, 0, 448, zc_182) := ⟨by decide +kernel, by decide, rfl⟩
theorem zv_182_384 : zz_at 32 zc_182 384 = 0 := by decide +kernel
theorem zv_182_385 : zz_at 32 zc_182 385 = 20 := by decide +kernel
theorem zv_182_386 : zz_at 32 zc_182 386 = 12 := by decide +kernel
noncomputable def zc_188 : Nat := (zz_g zW3 188).2.2.2
theorem zh_188 : zz_has zW3 188 (0, 0, 7, zc_188) := ⟨by decide +kernel, by decide, rfl⟩
theorem zv_188_6 : zz_at 32 zc_188 6 = 4 := by decide +kernel
noncomputable def zc_189 : Nat := (zz_g zW3 189).2.2.2
theorem zh_189 : zz_has zW3 189 (0, 0, 4200, zc_189) := ⟨by decide +kernel, by decide, rfl⟩
theorem zv_189_3600 : zz_at 32 zc_189 3600 = 126 := by decide +kernel
theorem zv_189_3601 : zz_at 32 zc_189 3601 = 129 := by decide +kernel
theorem zv_189_3602 : zz_at 32 zc_189 3602 = 130 := by decide +kernel
theorem zv_189_3603 : zz_at 32 zc_189 3603 = 131 := by decide +kernel
noncomputable def zc_195 : Nat := (zz_g zW3 195).2.2.2
theorem zh_195 : zz_has zW3 195 (0, 0, 7, zc_195) := ⟨by decide +kernel, by decide, rfl⟩
theorem zv_195_6 : zz_at 32 zc_195 6 = 1 := by decide +kernel
noncomputable def zc_201 : Nat := (zz_g zW3 201).2.2.2
theorem zh_201 : zz_has zW3 201 (0, 0, 21000, zc_201) := ⟨by decide +kernel, by decide, rfl⟩
theorem zv_201_18000 : zz_at 32 zc_201 18000 = 127 := by decide +kernel
noncomputable def zc_317 : Nat := (zz_g zW3 317).2.2.2
theorem zh_317 : zz_has zW3 317 (0, 0, 64, zc_317) := ⟨by decide +kernel, by decide, rfl⟩
/-- the reference's cells are as in zW3 -/
def zR (w : zz_W) : Prop := zz_sh w ∧ 329 ≤ w.1 ∧ ∀ i, 171 ≤ i → i < 328 → zz_g w i = zz_g zW3 i
theorem zR_has {w : zz_W} {i : Nat} {c : zz_C} (h : zR w) (hc : zz_has zW3 i c) (h1 : 171 ≤ i) (h2 : i < 328) : zz_has w i c := ⟨Nat.lt_of_lt_of_le (by omega) h.2.1, hc.2.1, (h.2.2 i h1 h2).trans hc.2.2⟩
theorem zz_gs {N k : Nat} {x : Int32} : Int32.ofNat (zz_at 64 (zz_to 64 N k (zz_nI x)) k) = x := by
  rw [zz_at_to (Nat.lt_of_lt_of_le (zz_nI_lt x) (by decide)), if_pos rfl, zz_nI_of]
theorem zz_gn {N k j : Nat} {x : Int32} (h : j ≠ k) : zz_at 64 (zz_to 64 N k (zz_nI x)) j = zz_at 64 N j := by
  rw [zz_at_to (Nat.lt_of_lt_of_le (zz_nI_lt x) (by decide)), if_neg h]
theorem zz_rs {N k : Nat} {x : Int32} : Int32.ofNat (zz_at 32 (zz_to 32 N k (zz_nI x)) k) = x := by
  rw [zz_at_to (zz_nI_lt x), if_pos rfl, zz_nI_of]
theorem zz_rn9 {N k j : Nat} {x : Int32} (h : j ≠ k) : zz_at 32 (zz_to 32 N k (zz_nI x)) j = zz_at 32 N j := by
  rw [zz_at_to (zz_nI_lt x), if_neg h]
theorem zz_lb {a b : Nat} (h : Nat.ble a b = true) : a ≤ b := Nat.le_of_ble_eq_true h
theorem zz_any (p : Int32) : p < Int32.ofNat 0 ∨ Int32.ofNat 0 - Int32.ofNat 1 < p := by
  have e1 : (Int32.ofNat 0).toInt = 0 := by decide
  have e2 : (Int32.ofNat 0 - Int32.ofNat 1).toInt = -1 := by decide
  rw [Int32.lt_iff_toInt_lt, Int32.lt_iff_toInt_lt, e1, e2]
  omega
