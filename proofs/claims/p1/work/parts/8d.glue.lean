/-! class and reference take a word for the same instruction, by program -/
theorem zpc_pr_b (x : BitVec 32) (k : Nat) (hk : k ≤ 24) : (x >>> k) &&& 255#32 = (x.sshiftRight k) &&& 255#32 := by
  apply BitVec.eq_of_getLsbD_eq
  intro i hi
  rw [BitVec.getLsbD_and, BitVec.getLsbD_and]
  by_cases h : i < 8
  · rw [BitVec.getLsbD_ushiftRight, BitVec.getLsbD_sshiftRight, if_pos (by omega), decide_eq_false (by omega), Bool.not_false, Bool.true_and]
  · have e2 : (255#32).getLsbD i = false := by
      revert h
      revert i
      decide
    rw [e2, Bool.and_false, Bool.and_false]
theorem zpc_pr (p : Int32) : ∀ i, i < 4 → zpc p (Int32.ofNat i) = zpr p (Int32.ofNat i) := by
  intro i hi
  apply Int32.toBitVec_inj.mp
  unfold zpc zpr
  rw [Int32.toBitVec_and, Int32.toBitVec_and, show (Int32.ofNat 255).toBitVec = 255#32 by decide]
  have h1 : (p.toUInt32 >>> ((Int32.ofNat 8 * Int32.ofNat i).toUInt32 &&& Int32.toUInt32 31)).toInt32.toBitVec = p.toBitVec >>> (8 * i) := by
    have e : ((Int32.ofNat 8 * Int32.ofNat i).toUInt32 &&& Int32.toUInt32 31).toBitVec % 32 = BitVec.ofNat 32 (8 * i) := by
      revert i
      decide
    show (p.toUInt32 >>> ((Int32.ofNat 8 * Int32.ofNat i).toUInt32 &&& Int32.toUInt32 31)).toBitVec = _
    rw [UInt32.toBitVec_shiftRight, e]
    show p.toBitVec >>> (BitVec.ofNat 32 (8 * i)).toNat = _
    rw [BitVec.toNat_ofNat, Nat.mod_eq_of_lt (by omega)]
  have h2 : (p >>> ((Int32.ofNat 8 * Int32.ofNat i) &&& 31)).toBitVec = p.toBitVec.sshiftRight (8 * i) := by
    have e : ((Int32.ofNat 8 * Int32.ofNat i) &&& 31).toBitVec.smod 32 = BitVec.ofNat 32 (8 * i) := by
      clear h1
      revert i
      decide
    rw [Int32.toBitVec_shiftRight, e]
    show p.toBitVec.sshiftRight (BitVec.ofNat 32 (8 * i)).toNat = _
    rw [BitVec.toNat_ofNat, Nat.mod_eq_of_lt (by omega)]
  rw [h1, h2]
  exact zpc_pr_b _ _ (by omega)
theorem zA_f {n M B : Nat} (h : n &&& M = B) (s w : Nat) (hM : M / 2 ^ s % 2 ^ w = 2 ^ w - 1) : n / 2 ^ s % 2 ^ w = B / 2 ^ s % 2 ^ w := by
  rw [← h, ← Nat.shiftRight_eq_div_pow, ← Nat.shiftRight_eq_div_pow, Nat.shiftRight_and_distrib, Nat.and_mod_two_pow, Nat.shiftRight_eq_div_pow M, hM, Nat.and_two_pow_sub_one_eq_mod, Nat.mod_mod]
theorem zA_g {n M b : Nat} (s w : Nat) (h : M / 2 ^ s % 2 ^ w = 2 ^ w - 1 ∧ n / 2 ^ s % 2 ^ w = b ∨ M / 2 ^ s % 2 ^ w = 0 ∧ b = 0) : (n &&& M) / 2 ^ s % 2 ^ w = b := by
  rw [← Nat.shiftRight_eq_div_pow, Nat.shiftRight_and_distrib, Nat.and_mod_two_pow, Nat.shiftRight_eq_div_pow M, Nat.shiftRight_eq_div_pow n]
  rcases h with ⟨h1, h2⟩ | ⟨h1, h2⟩
  · rw [h1, Nat.and_two_pow_sub_one_eq_mod, Nat.mod_mod, h2]
  · rw [h1, h2, Nat.and_zero]
theorem zA_eq {x y : Nat} (hx : x < 2 ^ 32) (hy : y < 2 ^ 32) (a1 : x / 2 ^ 26 % 2 ^ 6 = y / 2 ^ 26 % 2 ^ 6) (a2 : x / 2 ^ 21 % 2 ^ 5 = y / 2 ^ 21 % 2 ^ 5) (a3 : x / 2 ^ 16 % 2 ^ 5 = y / 2 ^ 16 % 2 ^ 5) (a4 : x / 2 ^ 11 % 2 ^ 5 = y / 2 ^ 11 % 2 ^ 5) (a5 : x / 2 ^ 6 % 2 ^ 5 = y / 2 ^ 6 % 2 ^ 5) (a6 : x / 2 ^ 0 % 2 ^ 6 = y / 2 ^ 0 % 2 ^ 6) : x = y := by omega
theorem zA_n {p : Int32} {f M B : Nat} (h : zcK p f) (e1 : zFx f = M) (e2 : zBa f = B) (l1 : M < 2 ^ 32) (l2 : B < 2 ^ 32) : zz_nI p &&& M = B := by
  have h2 := congrArg zz_nI h.2.2
  rw [zI_and, e1, e2, zz_nI_ofNat l1, zz_nI_ofNat l2] at h2
  exact h2
theorem zA_p {p : Int32} {f M B : Nat} (e1 : zFx f = M) (e2 : zBa f = B) (l1 : M < 2 ^ 32) (l2 : B < 2 ^ 32) (h : zz_nI p &&& M = B) : p &&& Int32.ofNat (zFx f) = Int32.ofNat (zBa f) := by
  apply zI_eq
  rw [zI_and, e1, e2, zz_nI_ofNat l1, zz_nI_ofNat l2]
  exact h
theorem zrl_in : (List.range 64).all (fun n => (List.range 26).all (fun g => !decide (zrl n 26 = Int32.ofNat g) || Nat.beq n (zz_at 32 zc_260 g))) = true := by decide +kernel
theorem zrm_in : (List.range 64).all (fun n => (List.range 51).all (fun g => !decide (zrm n 25 = Int32.ofNat g) || Nat.beq n (zz_at 32 zc_260 g))) = true := by decide +kernel
theorem zrl_i {n g : Nat} (hn : n < 2 ^ 6) (hg : g < 26) (h : zrl n 26 = Int32.ofNat g) : n = zz_at 32 zc_260 g := by
  have h1 := List.all_eq_true.mp (List.all_eq_true.mp zrl_in n (List.mem_range.mpr hn)) g (List.mem_range.mpr hg)
  rw [decide_eq_true h] at h1
  exact Nat.eq_of_beq_eq_true h1
theorem zrm_i {n g : Nat} (hn : n < 2 ^ 6) (hg : g < 51) (h : zrm n 25 = Int32.ofNat g) : n = zz_at 32 zc_260 g := by
  have h1 := List.all_eq_true.mp (List.all_eq_true.mp zrm_in n (List.mem_range.mpr hn)) g (List.mem_range.mpr hg)
  rw [decide_eq_true h] at h1
  exact Nat.eq_of_beq_eq_true h1
theorem zK_0 {p : Int32} (h : zcK p 0) : zrK p 8 := by
  have h4 := zA_n h (by decide +kernel : zFx 0 = 4292870207) (by decide +kernel : zBa 0 = 0) (by decide) (by decide)
  have e0 : zF p 26 6 = 0 := zA_f h4 26 6 (by decide)
  have e1 : zF p 21 5 = 0 := zA_f h4 21 5 (by decide)
  have e5 : zF p 0 6 = 0 := zA_f h4 0 6 (by decide)
  exact Or.inl ⟨e0, by decide, by rw [e5]; decide +kernel, e1⟩
theorem zJ_0 {p : Int32} (h : zrK p 8) : zcK p 0 := by
  rcases h with ⟨e0, hg, hf, e1⟩ | ⟨e0, h⟩ | ⟨e0, hg, hf, hc⟩
  case inr.inl => exact absurd h (by omega)
  case inr.inr => exact absurd hg (by omega)
  have e5 := (zrl_i (zF_lt p 0 6) hg hf).trans (by decide +kernel : zz_at 32 zc_260 8 = 0)
  exact ⟨by unfold zcf; rw [if_pos e0, e5]; decide +kernel, by decide, zA_p (by decide +kernel : zFx 0 = 4292870207) (by decide +kernel : zBa 0 = 0) (by decide) (by decide) (zA_eq (Nat.lt_of_le_of_lt Nat.and_le_left (zz_nI_lt p)) (by decide) (zA_g 26 6 (Or.inl ⟨by decide, e0⟩)) (zA_g 21 5 (Or.inl ⟨by decide, e1⟩)) (zA_g 16 5 (Or.inr ⟨by decide, by decide⟩)) (zA_g 11 5 (Or.inr ⟨by decide, by decide⟩)) (zA_g 6 5 (Or.inr ⟨by decide, by decide⟩)) (zA_g 0 6 (Or.inl ⟨by decide, e5⟩)))⟩
theorem zK_1 {p : Int32} (h : zcK p 1) : zrK p 9 := by
  have h4 := zA_n h (by decide +kernel : zFx 1 = 4292870207) (by decide +kernel : zBa 1 = 2) (by decide) (by decide)
  have e0 : zF p 26 6 = 0 := zA_f h4 26 6 (by decide)
  have e1 : zF p 21 5 = 0 := zA_f h4 21 5 (by decide)
  have e5 : zF p 0 6 = 2 := zA_f h4 0 6 (by decide)
  exact Or.inl ⟨e0, by decide, by rw [e5]; decide +kernel, e1⟩
theorem zJ_1 {p : Int32} (h : zrK p 9) : zcK p 1 := by
  rcases h with ⟨e0, hg, hf, e1⟩ | ⟨e0, h⟩ | ⟨e0, hg, hf, hc⟩
  case inr.inl => exact absurd h (by omega)
  case inr.inr => exact absurd hg (by omega)
  have e5 := (zrl_i (zF_lt p 0 6) hg hf).trans (by decide +kernel : zz_at 32 zc_260 9 = 2)
  exact ⟨by unfold zcf; rw [if_pos e0, e5]; decide +kernel, by decide, zA_p (by decide +kernel : zFx 1 = 4292870207) (by decide +kernel : zBa 1 = 2) (by decide) (by decide) (zA_eq (Nat.lt_of_le_of_lt Nat.and_le_left (zz_nI_lt p)) (by decide) (zA_g 26 6 (Or.inl ⟨by decide, e0⟩)) (zA_g 21 5 (Or.inl ⟨by decide, e1⟩)) (zA_g 16 5 (Or.inr ⟨by decide, by decide⟩)) (zA_g 11 5 (Or.inr ⟨by decide, by decide⟩)) (zA_g 6 5 (Or.inr ⟨by decide, by decide⟩)) (zA_g 0 6 (Or.inl ⟨by decide, e5⟩)))⟩
theorem zK_2 {p : Int32} (h : zcK p 2) : zrK p 10 := by
  have h4 := zA_n h (by decide +kernel : zFx 2 = 4292870207) (by decide +kernel : zBa 2 = 3) (by decide) (by decide)
  have e0 : zF p 26 6 = 0 := zA_f h4 26 6 (by decide)
  have e1 : zF p 21 5 = 0 := zA_f h4 21 5 (by decide)
  have e5 : zF p 0 6 = 3 := zA_f h4 0 6 (by decide)
  exact Or.inl ⟨e0, by decide, by rw [e5]; decide +kernel, e1⟩
theorem zJ_2 {p : Int32} (h : zrK p 10) : zcK p 2 := by
  rcases h with ⟨e0, hg, hf, e1⟩ | ⟨e0, h⟩ | ⟨e0, hg, hf, hc⟩
  case inr.inl => exact absurd h (by omega)
  case inr.inr => exact absurd hg (by omega)
  have e5 := (zrl_i (zF_lt p 0 6) hg hf).trans (by decide +kernel : zz_at 32 zc_260 10 = 3)
  exact ⟨by unfold zcf; rw [if_pos e0, e5]; decide +kernel, by decide, zA_p (by decide +kernel : zFx 2 = 4292870207) (by decide +kernel : zBa 2 = 3) (by decide) (by decide) (zA_eq (Nat.lt_of_le_of_lt Nat.and_le_left (zz_nI_lt p)) (by decide) (zA_g 26 6 (Or.inl ⟨by decide, e0⟩)) (zA_g 21 5 (Or.inl ⟨by decide, e1⟩)) (zA_g 16 5 (Or.inr ⟨by decide, by decide⟩)) (zA_g 11 5 (Or.inr ⟨by decide, by decide⟩)) (zA_g 6 5 (Or.inr ⟨by decide, by decide⟩)) (zA_g 0 6 (Or.inl ⟨by decide, e5⟩)))⟩
theorem zK_3 {p : Int32} (h : zcK p 3) : zrK p 11 := by
  have h4 := zA_n h (by decide +kernel : zFx 3 = 4227860479) (by decide +kernel : zBa 3 = 4) (by decide) (by decide)
  have e0 : zF p 26 6 = 0 := zA_f h4 26 6 (by decide)
  have e4 : zF p 6 5 = 0 := zA_f h4 6 5 (by decide)
  have e5 : zF p 0 6 = 4 := zA_f h4 0 6 (by decide)
  exact Or.inl ⟨e0, by decide, by rw [e5]; decide +kernel, e4⟩
theorem zJ_3 {p : Int32} (h : zrK p 11) : zcK p 3 := by
  rcases h with ⟨e0, hg, hf, e4⟩ | ⟨e0, h⟩ | ⟨e0, hg, hf, hc⟩
  case inr.inl => exact absurd h (by omega)
  case inr.inr => exact absurd hg (by omega)
  have e5 := (zrl_i (zF_lt p 0 6) hg hf).trans (by decide +kernel : zz_at 32 zc_260 11 = 4)
  exact ⟨by unfold zcf; rw [if_pos e0, e5]; decide +kernel, by decide, zA_p (by decide +kernel : zFx 3 = 4227860479) (by decide +kernel : zBa 3 = 4) (by decide) (by decide) (zA_eq (Nat.lt_of_le_of_lt Nat.and_le_left (zz_nI_lt p)) (by decide) (zA_g 26 6 (Or.inl ⟨by decide, e0⟩)) (zA_g 21 5 (Or.inr ⟨by decide, by decide⟩)) (zA_g 16 5 (Or.inr ⟨by decide, by decide⟩)) (zA_g 11 5 (Or.inr ⟨by decide, by decide⟩)) (zA_g 6 5 (Or.inl ⟨by decide, e4⟩)) (zA_g 0 6 (Or.inl ⟨by decide, e5⟩)))⟩
theorem zK_4 {p : Int32} (h : zcK p 4) : zrK p 12 := by
  have h4 := zA_n h (by decide +kernel : zFx 4 = 4227860479) (by decide +kernel : zBa 4 = 6) (by decide) (by decide)
  have e0 : zF p 26 6 = 0 := zA_f h4 26 6 (by decide)
  have e4 : zF p 6 5 = 0 := zA_f h4 6 5 (by decide)
  have e5 : zF p 0 6 = 6 := zA_f h4 0 6 (by decide)
  exact Or.inl ⟨e0, by decide, by rw [e5]; decide +kernel, e4⟩
theorem zJ_4 {p : Int32} (h : zrK p 12) : zcK p 4 := by
  rcases h with ⟨e0, hg, hf, e4⟩ | ⟨e0, h⟩ | ⟨e0, hg, hf, hc⟩
  case inr.inl => exact absurd h (by omega)
  case inr.inr => exact absurd hg (by omega)
  have e5 := (zrl_i (zF_lt p 0 6) hg hf).trans (by decide +kernel : zz_at 32 zc_260 12 = 6)
  exact ⟨by unfold zcf; rw [if_pos e0, e5]; decide +kernel, by decide, zA_p (by decide +kernel : zFx 4 = 4227860479) (by decide +kernel : zBa 4 = 6) (by decide) (by decide) (zA_eq (Nat.lt_of_le_of_lt Nat.and_le_left (zz_nI_lt p)) (by decide) (zA_g 26 6 (Or.inl ⟨by decide, e0⟩)) (zA_g 21 5 (Or.inr ⟨by decide, by decide⟩)) (zA_g 16 5 (Or.inr ⟨by decide, by decide⟩)) (zA_g 11 5 (Or.inr ⟨by decide, by decide⟩)) (zA_g 6 5 (Or.inl ⟨by decide, e4⟩)) (zA_g 0 6 (Or.inl ⟨by decide, e5⟩)))⟩
theorem zK_5 {p : Int32} (h : zcK p 5) : zrK p 13 := by
  have h4 := zA_n h (by decide +kernel : zFx 5 = 4227860479) (by decide +kernel : zBa 5 = 7) (by decide) (by decide)
  have e0 : zF p 26 6 = 0 := zA_f h4 26 6 (by decide)
  have e4 : zF p 6 5 = 0 := zA_f h4 6 5 (by decide)
  have e5 : zF p 0 6 = 7 := zA_f h4 0 6 (by decide)
  exact Or.inl ⟨e0, by decide, by rw [e5]; decide +kernel, e4⟩
theorem zJ_5 {p : Int32} (h : zrK p 13) : zcK p 5 := by
  rcases h with ⟨e0, hg, hf, e4⟩ | ⟨e0, h⟩ | ⟨e0, hg, hf, hc⟩
  case inr.inl => exact absurd h (by omega)
  case inr.inr => exact absurd hg (by omega)
  have e5 := (zrl_i (zF_lt p 0 6) hg hf).trans (by decide +kernel : zz_at 32 zc_260 13 = 7)
  exact ⟨by unfold zcf; rw [if_pos e0, e5]; decide +kernel, by decide, zA_p (by decide +kernel : zFx 5 = 4227860479) (by decide +kernel : zBa 5 = 7) (by decide) (by decide) (zA_eq (Nat.lt_of_le_of_lt Nat.and_le_left (zz_nI_lt p)) (by decide) (zA_g 26 6 (Or.inl ⟨by decide, e0⟩)) (zA_g 21 5 (Or.inr ⟨by decide, by decide⟩)) (zA_g 16 5 (Or.inr ⟨by decide, by decide⟩)) (zA_g 11 5 (Or.inr ⟨by decide, by decide⟩)) (zA_g 6 5 (Or.inl ⟨by decide, e4⟩)) (zA_g 0 6 (Or.inl ⟨by decide, e5⟩)))⟩
theorem zK_6 {p : Int32} (h : zcK p 6) : zrK p 22 := by
  have h4 := zA_n h (by decide +kernel : zFx 6 = 4229955583) (by decide +kernel : zBa 6 = 8) (by decide) (by decide)
  have e0 : zF p 26 6 = 0 := zA_f h4 26 6 (by decide)
  have e2 : zF p 16 5 = 0 := zA_f h4 16 5 (by decide)
  have e3 : zF p 11 5 = 0 := zA_f h4 11 5 (by decide)
  have e4 : zF p 6 5 = 0 := zA_f h4 6 5 (by decide)
  have e5 : zF p 0 6 = 8 := zA_f h4 0 6 (by decide)
  exact Or.inl ⟨e0, by decide, by rw [e5]; decide +kernel, ⟨e4, e2, e3⟩⟩
theorem zJ_6 {p : Int32} (h : zrK p 22) : zcK p 6 := by
  rcases h with ⟨e0, hg, hf, ⟨e4, e2, e3⟩⟩ | ⟨e0, h⟩ | ⟨e0, hg, hf, hc⟩
  case inr.inl => exact absurd h (by omega)
  case inr.inr => exact absurd hg (by omega)
  have e5 := (zrl_i (zF_lt p 0 6) hg hf).trans (by decide +kernel : zz_at 32 zc_260 22 = 8)
  exact ⟨by unfold zcf; rw [if_pos e0, e5]; decide +kernel, by decide, zA_p (by decide +kernel : zFx 6 = 4229955583) (by decide +kernel : zBa 6 = 8) (by decide) (by decide) (zA_eq (Nat.lt_of_le_of_lt Nat.and_le_left (zz_nI_lt p)) (by decide) (zA_g 26 6 (Or.inl ⟨by decide, e0⟩)) (zA_g 21 5 (Or.inr ⟨by decide, by decide⟩)) (zA_g 16 5 (Or.inl ⟨by decide, e2⟩)) (zA_g 11 5 (Or.inl ⟨by decide, e3⟩)) (zA_g 6 5 (Or.inl ⟨by decide, e4⟩)) (zA_g 0 6 (Or.inl ⟨by decide, e5⟩)))⟩
theorem zK_7 {p : Int32} (h : zcK p 7) : zrK p 23 := by
  have h4 := zA_n h (by decide +kernel : zFx 7 = 4229955583) (by decide +kernel : zBa 7 = 63497) (by decide) (by decide)
  have e0 : zF p 26 6 = 0 := zA_f h4 26 6 (by decide)
  have e2 : zF p 16 5 = 0 := zA_f h4 16 5 (by decide)
  have e3 : zF p 11 5 = 31 := zA_f h4 11 5 (by decide)
  have e4 : zF p 6 5 = 0 := zA_f h4 6 5 (by decide)
  have e5 : zF p 0 6 = 9 := zA_f h4 0 6 (by decide)
  exact Or.inl ⟨e0, by decide, by rw [e5]; decide +kernel, ⟨e4, e2, e3⟩⟩
theorem zJ_7 {p : Int32} (h : zrK p 23) : zcK p 7 := by
  rcases h with ⟨e0, hg, hf, ⟨e4, e2, e3⟩⟩ | ⟨e0, h⟩ | ⟨e0, hg, hf, hc⟩
  case inr.inl => exact absurd h (by omega)
  case inr.inr => exact absurd hg (by omega)
  have e5 := (zrl_i (zF_lt p 0 6) hg hf).trans (by decide +kernel : zz_at 32 zc_260 23 = 9)
  exact ⟨by unfold zcf; rw [if_pos e0, e5]; decide +kernel, by decide, zA_p (by decide +kernel : zFx 7 = 4229955583) (by decide +kernel : zBa 7 = 63497) (by decide) (by decide) (zA_eq (Nat.lt_of_le_of_lt Nat.and_le_left (zz_nI_lt p)) (by decide) (zA_g 26 6 (Or.inl ⟨by decide, e0⟩)) (zA_g 21 5 (Or.inr ⟨by decide, by decide⟩)) (zA_g 16 5 (Or.inl ⟨by decide, e2⟩)) (zA_g 11 5 (Or.inl ⟨by decide, e3⟩)) (zA_g 6 5 (Or.inl ⟨by decide, e4⟩)) (zA_g 0 6 (Or.inl ⟨by decide, e5⟩)))⟩
theorem zK_8 {p : Int32} (h : zcK p 8) : zrK p 24 := by
  have h4 := zA_n h (by decide +kernel : zFx 8 = 4294967295) (by decide +kernel : zBa 8 = 12) (by decide) (by decide)
  have e0 : zF p 26 6 = 0 := zA_f h4 26 6 (by decide)
  have e1 : zF p 21 5 = 0 := zA_f h4 21 5 (by decide)
  have e2 : zF p 16 5 = 0 := zA_f h4 16 5 (by decide)
  have e3 : zF p 11 5 = 0 := zA_f h4 11 5 (by decide)
  have e4 : zF p 6 5 = 0 := zA_f h4 6 5 (by decide)
  have e5 : zF p 0 6 = 12 := zA_f h4 0 6 (by decide)
  exact Or.inl ⟨e0, by decide, by rw [e5]; decide +kernel, ⟨e4, e1, e2, e3⟩⟩
theorem zJ_8 {p : Int32} (h : zrK p 24) : zcK p 8 := by
  rcases h with ⟨e0, hg, hf, ⟨e4, e1, e2, e3⟩⟩ | ⟨e0, h⟩ | ⟨e0, hg, hf, hc⟩
  case inr.inl => exact absurd h (by omega)
  case inr.inr => exact absurd hg (by omega)
  have e5 := (zrl_i (zF_lt p 0 6) hg hf).trans (by decide +kernel : zz_at 32 zc_260 24 = 12)
  exact ⟨by unfold zcf; rw [if_pos e0, e5]; decide +kernel, by decide, zA_p (by decide +kernel : zFx 8 = 4294967295) (by decide +kernel : zBa 8 = 12) (by decide) (by decide) (zA_eq (Nat.lt_of_le_of_lt Nat.and_le_left (zz_nI_lt p)) (by decide) (zA_g 26 6 (Or.inl ⟨by decide, e0⟩)) (zA_g 21 5 (Or.inl ⟨by decide, e1⟩)) (zA_g 16 5 (Or.inl ⟨by decide, e2⟩)) (zA_g 11 5 (Or.inl ⟨by decide, e3⟩)) (zA_g 6 5 (Or.inl ⟨by decide, e4⟩)) (zA_g 0 6 (Or.inl ⟨by decide, e5⟩)))⟩
theorem zK_9 {p : Int32} (h : zcK p 9) : zrK p 25 := by
  have h4 := zA_n h (by decide +kernel : zFx 9 = 4227858495) (by decide +kernel : zBa 9 = 13) (by decide) (by decide)
  have e0 : zF p 26 6 = 0 := zA_f h4 26 6 (by decide)
  have e5 : zF p 0 6 = 13 := zA_f h4 0 6 (by decide)
  exact Or.inl ⟨e0, by decide, by rw [e5]; decide +kernel, trivial⟩
theorem zJ_9 {p : Int32} (h : zrK p 25) : zcK p 9 := by
  rcases h with ⟨e0, hg, hf, -⟩ | ⟨e0, h⟩ | ⟨e0, hg, hf, hc⟩
  case inr.inl => exact absurd h (by omega)
  case inr.inr => exact absurd hg (by omega)
  have e5 := (zrl_i (zF_lt p 0 6) hg hf).trans (by decide +kernel : zz_at 32 zc_260 25 = 13)
  exact ⟨by unfold zcf; rw [if_pos e0, e5]; decide +kernel, by decide, zA_p (by decide +kernel : zFx 9 = 4227858495) (by decide +kernel : zBa 9 = 13) (by decide) (by decide) (zA_eq (Nat.lt_of_le_of_lt Nat.and_le_left (zz_nI_lt p)) (by decide) (zA_g 26 6 (Or.inl ⟨by decide, e0⟩)) (zA_g 21 5 (Or.inr ⟨by decide, by decide⟩)) (zA_g 16 5 (Or.inr ⟨by decide, by decide⟩)) (zA_g 11 5 (Or.inr ⟨by decide, by decide⟩)) (zA_g 6 5 (Or.inr ⟨by decide, by decide⟩)) (zA_g 0 6 (Or.inl ⟨by decide, e5⟩)))⟩
theorem zK_10 {p : Int32} (h : zcK p 10) : zrK p 18 := by
  have h4 := zA_n h (by decide +kernel : zFx 10 = 4294903807) (by decide +kernel : zBa 10 = 16) (by decide) (by decide)
  have e0 : zF p 26 6 = 0 := zA_f h4 26 6 (by decide)
  have e1 : zF p 21 5 = 0 := zA_f h4 21 5 (by decide)
  have e2 : zF p 16 5 = 0 := zA_f h4 16 5 (by decide)
  have e4 : zF p 6 5 = 0 := zA_f h4 6 5 (by decide)
  have e5 : zF p 0 6 = 16 := zA_f h4 0 6 (by decide)
  exact Or.inl ⟨e0, by decide, by rw [e5]; decide +kernel, ⟨e4, e1, e2⟩⟩
theorem zJ_10 {p : Int32} (h : zrK p 18) : zcK p 10 := by
  rcases h with ⟨e0, hg, hf, ⟨e4, e1, e2⟩⟩ | ⟨e0, h⟩ | ⟨e0, hg, hf, hc⟩
  case inr.inl => exact absurd h (by omega)
  case inr.inr => exact absurd hg (by omega)
  have e5 := (zrl_i (zF_lt p 0 6) hg hf).trans (by decide +kernel : zz_at 32 zc_260 18 = 16)
  exact ⟨by unfold zcf; rw [if_pos e0, e5]; decide +kernel, by decide, zA_p (by decide +kernel : zFx 10 = 4294903807) (by decide +kernel : zBa 10 = 16) (by decide) (by decide) (zA_eq (Nat.lt_of_le_of_lt Nat.and_le_left (zz_nI_lt p)) (by decide) (zA_g 26 6 (Or.inl ⟨by decide, e0⟩)) (zA_g 21 5 (Or.inl ⟨by decide, e1⟩)) (zA_g 16 5 (Or.inl ⟨by decide, e2⟩)) (zA_g 11 5 (Or.inr ⟨by decide, by decide⟩)) (zA_g 6 5 (Or.inl ⟨by decide, e4⟩)) (zA_g 0 6 (Or.inl ⟨by decide, e5⟩)))⟩
theorem zK_11 {p : Int32} (h : zcK p 11) : zrK p 20 := by
  have h4 := zA_n h (by decide +kernel : zFx 11 = 4229955583) (by decide +kernel : zBa 11 = 17) (by decide) (by decide)
  have e0 : zF p 26 6 = 0 := zA_f h4 26 6 (by decide)
  have e2 : zF p 16 5 = 0 := zA_f h4 16 5 (by decide)
  have e3 : zF p 11 5 = 0 := zA_f h4 11 5 (by decide)
  have e4 : zF p 6 5 = 0 := zA_f h4 6 5 (by decide)
  have e5 : zF p 0 6 = 17 := zA_f h4 0 6 (by decide)
  exact Or.inl ⟨e0, by decide, by rw [e5]; decide +kernel, ⟨e4, e2, e3⟩⟩
theorem zJ_11 {p : Int32} (h : zrK p 20) : zcK p 11 := by
  rcases h with ⟨e0, hg, hf, ⟨e4, e2, e3⟩⟩ | ⟨e0, h⟩ | ⟨e0, hg, hf, hc⟩
  case inr.inl => exact absurd h (by omega)
  case inr.inr => exact absurd hg (by omega)
  have e5 := (zrl_i (zF_lt p 0 6) hg hf).trans (by decide +kernel : zz_at 32 zc_260 20 = 17)
  exact ⟨by unfold zcf; rw [if_pos e0, e5]; decide +kernel, by decide, zA_p (by decide +kernel : zFx 11 = 4229955583) (by decide +kernel : zBa 11 = 17) (by decide) (by decide) (zA_eq (Nat.lt_of_le_of_lt Nat.and_le_left (zz_nI_lt p)) (by decide) (zA_g 26 6 (Or.inl ⟨by decide, e0⟩)) (zA_g 21 5 (Or.inr ⟨by decide, by decide⟩)) (zA_g 16 5 (Or.inl ⟨by decide, e2⟩)) (zA_g 11 5 (Or.inl ⟨by decide, e3⟩)) (zA_g 6 5 (Or.inl ⟨by decide, e4⟩)) (zA_g 0 6 (Or.inl ⟨by decide, e5⟩)))⟩
theorem zK_12 {p : Int32} (h : zcK p 12) : zrK p 19 := by
  have h4 := zA_n h (by decide +kernel : zFx 12 = 4294903807) (by decide +kernel : zBa 12 = 18) (by decide) (by decide)
  have e0 : zF p 26 6 = 0 := zA_f h4 26 6 (by decide)
  have e1 : zF p 21 5 = 0 := zA_f h4 21 5 (by decide)
  have e2 : zF p 16 5 = 0 := zA_f h4 16 5 (by decide)
  have e4 : zF p 6 5 = 0 := zA_f h4 6 5 (by decide)
  have e5 : zF p 0 6 = 18 := zA_f h4 0 6 (by decide)
  exact Or.inl ⟨e0, by decide, by rw [e5]; decide +kernel, ⟨e4, e1, e2⟩⟩
theorem zJ_12 {p : Int32} (h : zrK p 19) : zcK p 12 := by
  rcases h with ⟨e0, hg, hf, ⟨e4, e1, e2⟩⟩ | ⟨e0, h⟩ | ⟨e0, hg, hf, hc⟩
  case inr.inl => exact absurd h (by omega)
  case inr.inr => exact absurd hg (by omega)
  have e5 := (zrl_i (zF_lt p 0 6) hg hf).trans (by decide +kernel : zz_at 32 zc_260 19 = 18)
  exact ⟨by unfold zcf; rw [if_pos e0, e5]; decide +kernel, by decide, zA_p (by decide +kernel : zFx 12 = 4294903807) (by decide +kernel : zBa 12 = 18) (by decide) (by decide) (zA_eq (Nat.lt_of_le_of_lt Nat.and_le_left (zz_nI_lt p)) (by decide) (zA_g 26 6 (Or.inl ⟨by decide, e0⟩)) (zA_g 21 5 (Or.inl ⟨by decide, e1⟩)) (zA_g 16 5 (Or.inl ⟨by decide, e2⟩)) (zA_g 11 5 (Or.inr ⟨by decide, by decide⟩)) (zA_g 6 5 (Or.inl ⟨by decide, e4⟩)) (zA_g 0 6 (Or.inl ⟨by decide, e5⟩)))⟩
theorem zK_13 {p : Int32} (h : zcK p 13) : zrK p 21 := by
  have h4 := zA_n h (by decide +kernel : zFx 13 = 4229955583) (by decide +kernel : zBa 13 = 19) (by decide) (by decide)
  have e0 : zF p 26 6 = 0 := zA_f h4 26 6 (by decide)
  have e2 : zF p 16 5 = 0 := zA_f h4 16 5 (by decide)
  have e3 : zF p 11 5 = 0 := zA_f h4 11 5 (by decide)
  have e4 : zF p 6 5 = 0 := zA_f h4 6 5 (by decide)
  have e5 : zF p 0 6 = 19 := zA_f h4 0 6 (by decide)
  exact Or.inl ⟨e0, by decide, by rw [e5]; decide +kernel, ⟨e4, e2, e3⟩⟩
theorem zJ_13 {p : Int32} (h : zrK p 21) : zcK p 13 := by
  rcases h with ⟨e0, hg, hf, ⟨e4, e2, e3⟩⟩ | ⟨e0, h⟩ | ⟨e0, hg, hf, hc⟩
  case inr.inl => exact absurd h (by omega)
  case inr.inr => exact absurd hg (by omega)
  have e5 := (zrl_i (zF_lt p 0 6) hg hf).trans (by decide +kernel : zz_at 32 zc_260 21 = 19)
  exact ⟨by unfold zcf; rw [if_pos e0, e5]; decide +kernel, by decide, zA_p (by decide +kernel : zFx 13 = 4229955583) (by decide +kernel : zBa 13 = 19) (by decide) (by decide) (zA_eq (Nat.lt_of_le_of_lt Nat.and_le_left (zz_nI_lt p)) (by decide) (zA_g 26 6 (Or.inl ⟨by decide, e0⟩)) (zA_g 21 5 (Or.inr ⟨by decide, by decide⟩)) (zA_g 16 5 (Or.inl ⟨by decide, e2⟩)) (zA_g 11 5 (Or.inl ⟨by decide, e3⟩)) (zA_g 6 5 (Or.inl ⟨by decide, e4⟩)) (zA_g 0 6 (Or.inl ⟨by decide, e5⟩)))⟩
theorem zK_14 {p : Int32} (h : zcK p 14) : zrK p 14 := by
  have h4 := zA_n h (by decide +kernel : zFx 14 = 4227923967) (by decide +kernel : zBa 14 = 24) (by decide) (by decide)
  have e0 : zF p 26 6 = 0 := zA_f h4 26 6 (by decide)
  have e3 : zF p 11 5 = 0 := zA_f h4 11 5 (by decide)
  have e4 : zF p 6 5 = 0 := zA_f h4 6 5 (by decide)
  have e5 : zF p 0 6 = 24 := zA_f h4 0 6 (by decide)
  exact Or.inl ⟨e0, by decide, by rw [e5]; decide +kernel, ⟨e4, e3⟩⟩
theorem zJ_14 {p : Int32} (h : zrK p 14) : zcK p 14 := by
  rcases h with ⟨e0, hg, hf, ⟨e4, e3⟩⟩ | ⟨e0, h⟩ | ⟨e0, hg, hf, hc⟩
  case inr.inl => exact absurd h (by omega)
  case inr.inr => exact absurd hg (by omega)
  have e5 := (zrl_i (zF_lt p 0 6) hg hf).trans (by decide +kernel : zz_at 32 zc_260 14 = 24)
  exact ⟨by unfold zcf; rw [if_pos e0, e5]; decide +kernel, by decide, zA_p (by decide +kernel : zFx 14 = 4227923967) (by decide +kernel : zBa 14 = 24) (by decide) (by decide) (zA_eq (Nat.lt_of_le_of_lt Nat.and_le_left (zz_nI_lt p)) (by decide) (zA_g 26 6 (Or.inl ⟨by decide, e0⟩)) (zA_g 21 5 (Or.inr ⟨by decide, by decide⟩)) (zA_g 16 5 (Or.inr ⟨by decide, by decide⟩)) (zA_g 11 5 (Or.inl ⟨by decide, e3⟩)) (zA_g 6 5 (Or.inl ⟨by decide, e4⟩)) (zA_g 0 6 (Or.inl ⟨by decide, e5⟩)))⟩
theorem zK_15 {p : Int32} (h : zcK p 15) : zrK p 15 := by
  have h4 := zA_n h (by decide +kernel : zFx 15 = 4227923967) (by decide +kernel : zBa 15 = 25) (by decide) (by decide)
  have e0 : zF p 26 6 = 0 := zA_f h4 26 6 (by decide)
  have e3 : zF p 11 5 = 0 := zA_f h4 11 5 (by decide)
  have e4 : zF p 6 5 = 0 := zA_f h4 6 5 (by decide)
  have e5 : zF p 0 6 = 25 := zA_f h4 0 6 (by decide)
  exact Or.inl ⟨e0, by decide, by rw [e5]; decide +kernel, ⟨e4, e3⟩⟩
theorem zJ_15 {p : Int32} (h : zrK p 15) : zcK p 15 := by
  rcases h with ⟨e0, hg, hf, ⟨e4, e3⟩⟩ | ⟨e0, h⟩ | ⟨e0, hg, hf, hc⟩
  case inr.inl => exact absurd h (by omega)
  case inr.inr => exact absurd hg (by omega)
  have e5 := (zrl_i (zF_lt p 0 6) hg hf).trans (by decide +kernel : zz_at 32 zc_260 15 = 25)
  exact ⟨by unfold zcf; rw [if_pos e0, e5]; decide +kernel, by decide, zA_p (by decide +kernel : zFx 15 = 4227923967) (by decide +kernel : zBa 15 = 25) (by decide) (by decide) (zA_eq (Nat.lt_of_le_of_lt Nat.and_le_left (zz_nI_lt p)) (by decide) (zA_g 26 6 (Or.inl ⟨by decide, e0⟩)) (zA_g 21 5 (Or.inr ⟨by decide, by decide⟩)) (zA_g 16 5 (Or.inr ⟨by decide, by decide⟩)) (zA_g 11 5 (Or.inl ⟨by decide, e3⟩)) (zA_g 6 5 (Or.inl ⟨by decide, e4⟩)) (zA_g 0 6 (Or.inl ⟨by decide, e5⟩)))⟩
theorem zK_16 {p : Int32} (h : zcK p 16) : zrK p 16 := by
  have h4 := zA_n h (by decide +kernel : zFx 16 = 4227923967) (by decide +kernel : zBa 16 = 26) (by decide) (by decide)
  have e0 : zF p 26 6 = 0 := zA_f h4 26 6 (by decide)
  have e3 : zF p 11 5 = 0 := zA_f h4 11 5 (by decide)
  have e4 : zF p 6 5 = 0 := zA_f h4 6 5 (by decide)
  have e5 : zF p 0 6 = 26 := zA_f h4 0 6 (by decide)
  exact Or.inl ⟨e0, by decide, by rw [e5]; decide +kernel, ⟨e4, e3⟩⟩
theorem zJ_16 {p : Int32} (h : zrK p 16) : zcK p 16 := by
  rcases h with ⟨e0, hg, hf, ⟨e4, e3⟩⟩ | ⟨e0, h⟩ | ⟨e0, hg, hf, hc⟩
  case inr.inl => exact absurd h (by omega)
  case inr.inr => exact absurd hg (by omega)
  have e5 := (zrl_i (zF_lt p 0 6) hg hf).trans (by decide +kernel : zz_at 32 zc_260 16 = 26)
  exact ⟨by unfold zcf; rw [if_pos e0, e5]; decide +kernel, by decide, zA_p (by decide +kernel : zFx 16 = 4227923967) (by decide +kernel : zBa 16 = 26) (by decide) (by decide) (zA_eq (Nat.lt_of_le_of_lt Nat.and_le_left (zz_nI_lt p)) (by decide) (zA_g 26 6 (Or.inl ⟨by decide, e0⟩)) (zA_g 21 5 (Or.inr ⟨by decide, by decide⟩)) (zA_g 16 5 (Or.inr ⟨by decide, by decide⟩)) (zA_g 11 5 (Or.inl ⟨by decide, e3⟩)) (zA_g 6 5 (Or.inl ⟨by decide, e4⟩)) (zA_g 0 6 (Or.inl ⟨by decide, e5⟩)))⟩
theorem zK_17 {p : Int32} (h : zcK p 17) : zrK p 17 := by
  have h4 := zA_n h (by decide +kernel : zFx 17 = 4227923967) (by decide +kernel : zBa 17 = 27) (by decide) (by decide)
  have e0 : zF p 26 6 = 0 := zA_f h4 26 6 (by decide)
  have e3 : zF p 11 5 = 0 := zA_f h4 11 5 (by decide)
  have e4 : zF p 6 5 = 0 := zA_f h4 6 5 (by decide)
  have e5 : zF p 0 6 = 27 := zA_f h4 0 6 (by decide)
  exact Or.inl ⟨e0, by decide, by rw [e5]; decide +kernel, ⟨e4, e3⟩⟩
theorem zJ_17 {p : Int32} (h : zrK p 17) : zcK p 17 := by
  rcases h with ⟨e0, hg, hf, ⟨e4, e3⟩⟩ | ⟨e0, h⟩ | ⟨e0, hg, hf, hc⟩
  case inr.inl => exact absurd h (by omega)
  case inr.inr => exact absurd hg (by omega)
  have e5 := (zrl_i (zF_lt p 0 6) hg hf).trans (by decide +kernel : zz_at 32 zc_260 17 = 27)
  exact ⟨by unfold zcf; rw [if_pos e0, e5]; decide +kernel, by decide, zA_p (by decide +kernel : zFx 17 = 4227923967) (by decide +kernel : zBa 17 = 27) (by decide) (by decide) (zA_eq (Nat.lt_of_le_of_lt Nat.and_le_left (zz_nI_lt p)) (by decide) (zA_g 26 6 (Or.inl ⟨by decide, e0⟩)) (zA_g 21 5 (Or.inr ⟨by decide, by decide⟩)) (zA_g 16 5 (Or.inr ⟨by decide, by decide⟩)) (zA_g 11 5 (Or.inl ⟨by decide, e3⟩)) (zA_g 6 5 (Or.inl ⟨by decide, e4⟩)) (zA_g 0 6 (Or.inl ⟨by decide, e5⟩)))⟩
theorem zK_18 {p : Int32} (h : zcK p 18) : zrK p 0 := by
  have h4 := zA_n h (by decide +kernel : zFx 18 = 4227860479) (by decide +kernel : zBa 18 = 33) (by decide) (by decide)
  have e0 : zF p 26 6 = 0 := zA_f h4 26 6 (by decide)
  have e4 : zF p 6 5 = 0 := zA_f h4 6 5 (by decide)
  have e5 : zF p 0 6 = 33 := zA_f h4 0 6 (by decide)
  exact Or.inl ⟨e0, by decide, by rw [e5]; decide +kernel, e4⟩
theorem zJ_18 {p : Int32} (h : zrK p 0) : zcK p 18 := by
  rcases h with ⟨e0, hg, hf, e4⟩ | ⟨e0, h⟩ | ⟨e0, hg, hf, hc⟩
  case inr.inl => exact absurd h (by omega)
  case inr.inr => exact absurd hg (by omega)
  have e5 := (zrl_i (zF_lt p 0 6) hg hf).trans (by decide +kernel : zz_at 32 zc_260 0 = 33)
  exact ⟨by unfold zcf; rw [if_pos e0, e5]; decide +kernel, by decide, zA_p (by decide +kernel : zFx 18 = 4227860479) (by decide +kernel : zBa 18 = 33) (by decide) (by decide) (zA_eq (Nat.lt_of_le_of_lt Nat.and_le_left (zz_nI_lt p)) (by decide) (zA_g 26 6 (Or.inl ⟨by decide, e0⟩)) (zA_g 21 5 (Or.inr ⟨by decide, by decide⟩)) (zA_g 16 5 (Or.inr ⟨by decide, by decide⟩)) (zA_g 11 5 (Or.inr ⟨by decide, by decide⟩)) (zA_g 6 5 (Or.inl ⟨by decide, e4⟩)) (zA_g 0 6 (Or.inl ⟨by decide, e5⟩)))⟩
theorem zK_19 {p : Int32} (h : zcK p 19) : zrK p 1 := by
  have h4 := zA_n h (by decide +kernel : zFx 19 = 4227860479) (by decide +kernel : zBa 19 = 35) (by decide) (by decide)
  have e0 : zF p 26 6 = 0 := zA_f h4 26 6 (by decide)
  have e4 : zF p 6 5 = 0 := zA_f h4 6 5 (by decide)
  have e5 : zF p 0 6 = 35 := zA_f h4 0 6 (by decide)
  exact Or.inl ⟨e0, by decide, by rw [e5]; decide +kernel, e4⟩
theorem zJ_19 {p : Int32} (h : zrK p 1) : zcK p 19 := by
  rcases h with ⟨e0, hg, hf, e4⟩ | ⟨e0, h⟩ | ⟨e0, hg, hf, hc⟩
  case inr.inl => exact absurd h (by omega)
  case inr.inr => exact absurd hg (by omega)
  have e5 := (zrl_i (zF_lt p 0 6) hg hf).trans (by decide +kernel : zz_at 32 zc_260 1 = 35)
  exact ⟨by unfold zcf; rw [if_pos e0, e5]; decide +kernel, by decide, zA_p (by decide +kernel : zFx 19 = 4227860479) (by decide +kernel : zBa 19 = 35) (by decide) (by decide) (zA_eq (Nat.lt_of_le_of_lt Nat.and_le_left (zz_nI_lt p)) (by decide) (zA_g 26 6 (Or.inl ⟨by decide, e0⟩)) (zA_g 21 5 (Or.inr ⟨by decide, by decide⟩)) (zA_g 16 5 (Or.inr ⟨by decide, by decide⟩)) (zA_g 11 5 (Or.inr ⟨by decide, by decide⟩)) (zA_g 6 5 (Or.inl ⟨by decide, e4⟩)) (zA_g 0 6 (Or.inl ⟨by decide, e5⟩)))⟩
theorem zK_20 {p : Int32} (h : zcK p 20) : zrK p 2 := by
  have h4 := zA_n h (by decide +kernel : zFx 20 = 4227860479) (by decide +kernel : zBa 20 = 36) (by decide) (by decide)
  have e0 : zF p 26 6 = 0 := zA_f h4 26 6 (by decide)
  have e4 : zF p 6 5 = 0 := zA_f h4 6 5 (by decide)
  have e5 : zF p 0 6 = 36 := zA_f h4 0 6 (by decide)
  exact Or.inl ⟨e0, by decide, by rw [e5]; decide +kernel, e4⟩
theorem zJ_20 {p : Int32} (h : zrK p 2) : zcK p 20 := by
  rcases h with ⟨e0, hg, hf, e4⟩ | ⟨e0, h⟩ | ⟨e0, hg, hf, hc⟩
  case inr.inl => exact absurd h (by omega)
  case inr.inr => exact absurd hg (by omega)
  have e5 := (zrl_i (zF_lt p 0 6) hg hf).trans (by decide +kernel : zz_at 32 zc_260 2 = 36)
  exact ⟨by unfold zcf; rw [if_pos e0, e5]; decide +kernel, by decide, zA_p (by decide +kernel : zFx 20 = 4227860479) (by decide +kernel : zBa 20 = 36) (by decide) (by decide) (zA_eq (Nat.lt_of_le_of_lt Nat.and_le_left (zz_nI_lt p)) (by decide) (zA_g 26 6 (Or.inl ⟨by decide, e0⟩)) (zA_g 21 5 (Or.inr ⟨by decide, by decide⟩)) (zA_g 16 5 (Or.inr ⟨by decide, by decide⟩)) (zA_g 11 5 (Or.inr ⟨by decide, by decide⟩)) (zA_g 6 5 (Or.inl ⟨by decide, e4⟩)) (zA_g 0 6 (Or.inl ⟨by decide, e5⟩)))⟩
theorem zK_21 {p : Int32} (h : zcK p 21) : zrK p 3 := by
  have h4 := zA_n h (by decide +kernel : zFx 21 = 4227860479) (by decide +kernel : zBa 21 = 37) (by decide) (by decide)
  have e0 : zF p 26 6 = 0 := zA_f h4 26 6 (by decide)
  have e4 : zF p 6 5 = 0 := zA_f h4 6 5 (by decide)
  have e5 : zF p 0 6 = 37 := zA_f h4 0 6 (by decide)
  exact Or.inl ⟨e0, by decide, by rw [e5]; decide +kernel, e4⟩
theorem zJ_21 {p : Int32} (h : zrK p 3) : zcK p 21 := by
  rcases h with ⟨e0, hg, hf, e4⟩ | ⟨e0, h⟩ | ⟨e0, hg, hf, hc⟩
  case inr.inl => exact absurd h (by omega)
  case inr.inr => exact absurd hg (by omega)
  have e5 := (zrl_i (zF_lt p 0 6) hg hf).trans (by decide +kernel : zz_at 32 zc_260 3 = 37)
  exact ⟨by unfold zcf; rw [if_pos e0, e5]; decide +kernel, by decide, zA_p (by decide +kernel : zFx 21 = 4227860479) (by decide +kernel : zBa 21 = 37) (by decide) (by decide) (zA_eq (Nat.lt_of_le_of_lt Nat.and_le_left (zz_nI_lt p)) (by decide) (zA_g 26 6 (Or.inl ⟨by decide, e0⟩)) (zA_g 21 5 (Or.inr ⟨by decide, by decide⟩)) (zA_g 16 5 (Or.inr ⟨by decide, by decide⟩)) (zA_g 11 5 (Or.inr ⟨by decide, by decide⟩)) (zA_g 6 5 (Or.inl ⟨by decide, e4⟩)) (zA_g 0 6 (Or.inl ⟨by decide, e5⟩)))⟩
theorem zK_22 {p : Int32} (h : zcK p 22) : zrK p 4 := by
  have h4 := zA_n h (by decide +kernel : zFx 22 = 4227860479) (by decide +kernel : zBa 22 = 38) (by decide) (by decide)
  have e0 : zF p 26 6 = 0 := zA_f h4 26 6 (by decide)
  have e4 : zF p 6 5 = 0 := zA_f h4 6 5 (by decide)
  have e5 : zF p 0 6 = 38 := zA_f h4 0 6 (by decide)
  exact Or.inl ⟨e0, by decide, by rw [e5]; decide +kernel, e4⟩
theorem zJ_22 {p : Int32} (h : zrK p 4) : zcK p 22 := by
  rcases h with ⟨e0, hg, hf, e4⟩ | ⟨e0, h⟩ | ⟨e0, hg, hf, hc⟩
  case inr.inl => exact absurd h (by omega)
  case inr.inr => exact absurd hg (by omega)
  have e5 := (zrl_i (zF_lt p 0 6) hg hf).trans (by decide +kernel : zz_at 32 zc_260 4 = 38)
  exact ⟨by unfold zcf; rw [if_pos e0, e5]; decide +kernel, by decide, zA_p (by decide +kernel : zFx 22 = 4227860479) (by decide +kernel : zBa 22 = 38) (by decide) (by decide) (zA_eq (Nat.lt_of_le_of_lt Nat.and_le_left (zz_nI_lt p)) (by decide) (zA_g 26 6 (Or.inl ⟨by decide, e0⟩)) (zA_g 21 5 (Or.inr ⟨by decide, by decide⟩)) (zA_g 16 5 (Or.inr ⟨by decide, by decide⟩)) (zA_g 11 5 (Or.inr ⟨by decide, by decide⟩)) (zA_g 6 5 (Or.inl ⟨by decide, e4⟩)) (zA_g 0 6 (Or.inl ⟨by decide, e5⟩)))⟩
theorem zK_23 {p : Int32} (h : zcK p 23) : zrK p 5 := by
  have h4 := zA_n h (by decide +kernel : zFx 23 = 4227860479) (by decide +kernel : zBa 23 = 39) (by decide) (by decide)
  have e0 : zF p 26 6 = 0 := zA_f h4 26 6 (by decide)
  have e4 : zF p 6 5 = 0 := zA_f h4 6 5 (by decide)
  have e5 : zF p 0 6 = 39 := zA_f h4 0 6 (by decide)
  exact Or.inl ⟨e0, by decide, by rw [e5]; decide +kernel, e4⟩
theorem zJ_23 {p : Int32} (h : zrK p 5) : zcK p 23 := by
  rcases h with ⟨e0, hg, hf, e4⟩ | ⟨e0, h⟩ | ⟨e0, hg, hf, hc⟩
  case inr.inl => exact absurd h (by omega)
  case inr.inr => exact absurd hg (by omega)
  have e5 := (zrl_i (zF_lt p 0 6) hg hf).trans (by decide +kernel : zz_at 32 zc_260 5 = 39)
  exact ⟨by unfold zcf; rw [if_pos e0, e5]; decide +kernel, by decide, zA_p (by decide +kernel : zFx 23 = 4227860479) (by decide +kernel : zBa 23 = 39) (by decide) (by decide) (zA_eq (Nat.lt_of_le_of_lt Nat.and_le_left (zz_nI_lt p)) (by decide) (zA_g 26 6 (Or.inl ⟨by decide, e0⟩)) (zA_g 21 5 (Or.inr ⟨by decide, by decide⟩)) (zA_g 16 5 (Or.inr ⟨by decide, by decide⟩)) (zA_g 11 5 (Or.inr ⟨by decide, by decide⟩)) (zA_g 6 5 (Or.inl ⟨by decide, e4⟩)) (zA_g 0 6 (Or.inl ⟨by decide, e5⟩)))⟩
theorem zK_24 {p : Int32} (h : zcK p 24) : zrK p 6 := by
  have h4 := zA_n h (by decide +kernel : zFx 24 = 4227860479) (by decide +kernel : zBa 24 = 42) (by decide) (by decide)
  have e0 : zF p 26 6 = 0 := zA_f h4 26 6 (by decide)
  have e4 : zF p 6 5 = 0 := zA_f h4 6 5 (by decide)
  have e5 : zF p 0 6 = 42 := zA_f h4 0 6 (by decide)
  exact Or.inl ⟨e0, by decide, by rw [e5]; decide +kernel, e4⟩
theorem zJ_24 {p : Int32} (h : zrK p 6) : zcK p 24 := by
  rcases h with ⟨e0, hg, hf, e4⟩ | ⟨e0, h⟩ | ⟨e0, hg, hf, hc⟩
  case inr.inl => exact absurd h (by omega)
  case inr.inr => exact absurd hg (by omega)
  have e5 := (zrl_i (zF_lt p 0 6) hg hf).trans (by decide +kernel : zz_at 32 zc_260 6 = 42)
  exact ⟨by unfold zcf; rw [if_pos e0, e5]; decide +kernel, by decide, zA_p (by decide +kernel : zFx 24 = 4227860479) (by decide +kernel : zBa 24 = 42) (by decide) (by decide) (zA_eq (Nat.lt_of_le_of_lt Nat.and_le_left (zz_nI_lt p)) (by decide) (zA_g 26 6 (Or.inl ⟨by decide, e0⟩)) (zA_g 21 5 (Or.inr ⟨by decide, by decide⟩)) (zA_g 16 5 (Or.inr ⟨by decide, by decide⟩)) (zA_g 11 5 (Or.inr ⟨by decide, by decide⟩)) (zA_g 6 5 (Or.inl ⟨by decide, e4⟩)) (zA_g 0 6 (Or.inl ⟨by decide, e5⟩)))⟩
theorem zK_25 {p : Int32} (h : zcK p 25) : zrK p 7 := by
  have h4 := zA_n h (by decide +kernel : zFx 25 = 4227860479) (by decide +kernel : zBa 25 = 43) (by decide) (by decide)
  have e0 : zF p 26 6 = 0 := zA_f h4 26 6 (by decide)
  have e4 : zF p 6 5 = 0 := zA_f h4 6 5 (by decide)
  have e5 : zF p 0 6 = 43 := zA_f h4 0 6 (by decide)
  exact Or.inl ⟨e0, by decide, by rw [e5]; decide +kernel, e4⟩
theorem zJ_25 {p : Int32} (h : zrK p 7) : zcK p 25 := by
  rcases h with ⟨e0, hg, hf, e4⟩ | ⟨e0, h⟩ | ⟨e0, hg, hf, hc⟩
  case inr.inl => exact absurd h (by omega)
  case inr.inr => exact absurd hg (by omega)
  have e5 := (zrl_i (zF_lt p 0 6) hg hf).trans (by decide +kernel : zz_at 32 zc_260 7 = 43)
  exact ⟨by unfold zcf; rw [if_pos e0, e5]; decide +kernel, by decide, zA_p (by decide +kernel : zFx 25 = 4227860479) (by decide +kernel : zBa 25 = 43) (by decide) (by decide) (zA_eq (Nat.lt_of_le_of_lt Nat.and_le_left (zz_nI_lt p)) (by decide) (zA_g 26 6 (Or.inl ⟨by decide, e0⟩)) (zA_g 21 5 (Or.inr ⟨by decide, by decide⟩)) (zA_g 16 5 (Or.inr ⟨by decide, by decide⟩)) (zA_g 11 5 (Or.inr ⟨by decide, by decide⟩)) (zA_g 6 5 (Or.inl ⟨by decide, e4⟩)) (zA_g 0 6 (Or.inl ⟨by decide, e5⟩)))⟩
theorem zK_26 {p : Int32} (h : zcK p 26) : zrK p 45 := by
  have h4 := zA_n h (by decide +kernel : zFx 26 = 4229890048) (by decide +kernel : zBa 26 = 67108864) (by decide) (by decide)
  have e0 : zF p 26 6 = 1 := zA_f h4 26 6 (by decide)
  have e2 : zF p 16 5 = 0 := zA_f h4 16 5 (by decide)
  exact Or.inr (Or.inl ⟨e0, Or.inl ⟨e2, rfl⟩⟩)
theorem zJ_26 {p : Int32} (h : zrK p 45) : zcK p 26 := by
  rcases h with ⟨e0, hg, hf, hc⟩ | ⟨e0, h⟩ | ⟨e0, hg, hf, hc⟩
  case inl => exact absurd hg (by omega)
  case inr.inr => exact absurd hg (by omega)
  have e2 : zF p 16 5 = 0 := by omega
  exact ⟨by unfold zcf; rw [if_neg (by omega), if_pos e0, e2]; decide +kernel, by decide, zA_p (by decide +kernel : zFx 26 = 4229890048) (by decide +kernel : zBa 26 = 67108864) (by decide) (by decide) (zA_eq (Nat.lt_of_le_of_lt Nat.and_le_left (zz_nI_lt p)) (by decide) (zA_g 26 6 (Or.inl ⟨by decide, e0⟩)) (zA_g 21 5 (Or.inr ⟨by decide, by decide⟩)) (zA_g 16 5 (Or.inl ⟨by decide, e2⟩)) (zA_g 11 5 (Or.inr ⟨by decide, by decide⟩)) (zA_g 6 5 (Or.inr ⟨by decide, by decide⟩)) (zA_g 0 6 (Or.inr ⟨by decide, by decide⟩)))⟩
theorem zK_27 {p : Int32} (h : zcK p 27) : zrK p 46 := by
  have h4 := zA_n h (by decide +kernel : zFx 27 = 4229890048) (by decide +kernel : zBa 27 = 67174400) (by decide) (by decide)
  have e0 : zF p 26 6 = 1 := zA_f h4 26 6 (by decide)
  have e2 : zF p 16 5 = 1 := zA_f h4 16 5 (by decide)
  exact Or.inr (Or.inl ⟨e0, Or.inr (Or.inl ⟨e2, rfl⟩)⟩)
theorem zJ_27 {p : Int32} (h : zrK p 46) : zcK p 27 := by
  rcases h with ⟨e0, hg, hf, hc⟩ | ⟨e0, h⟩ | ⟨e0, hg, hf, hc⟩
  case inl => exact absurd hg (by omega)
  case inr.inr => exact absurd hg (by omega)
  have e2 : zF p 16 5 = 1 := by omega
  exact ⟨by unfold zcf; rw [if_neg (by omega), if_pos e0, e2]; decide +kernel, by decide, zA_p (by decide +kernel : zFx 27 = 4229890048) (by decide +kernel : zBa 27 = 67174400) (by decide) (by decide) (zA_eq (Nat.lt_of_le_of_lt Nat.and_le_left (zz_nI_lt p)) (by decide) (zA_g 26 6 (Or.inl ⟨by decide, e0⟩)) (zA_g 21 5 (Or.inr ⟨by decide, by decide⟩)) (zA_g 16 5 (Or.inl ⟨by decide, e2⟩)) (zA_g 11 5 (Or.inr ⟨by decide, by decide⟩)) (zA_g 6 5 (Or.inr ⟨by decide, by decide⟩)) (zA_g 0 6 (Or.inr ⟨by decide, by decide⟩)))⟩
theorem zK_28 {p : Int32} (h : zcK p 28) : zrK p 47 := by
  have h4 := zA_n h (by decide +kernel : zFx 28 = 4229890048) (by decide +kernel : zBa 28 = 68157440) (by decide) (by decide)
  have e0 : zF p 26 6 = 1 := zA_f h4 26 6 (by decide)
  have e2 : zF p 16 5 = 16 := zA_f h4 16 5 (by decide)
  exact Or.inr (Or.inl ⟨e0, Or.inr (Or.inr (Or.inl ⟨e2, rfl⟩))⟩)
theorem zJ_28 {p : Int32} (h : zrK p 47) : zcK p 28 := by
  rcases h with ⟨e0, hg, hf, hc⟩ | ⟨e0, h⟩ | ⟨e0, hg, hf, hc⟩
  case inl => exact absurd hg (by omega)
  case inr.inr => exact absurd hg (by omega)
  have e2 : zF p 16 5 = 16 := by omega
  exact ⟨by unfold zcf; rw [if_neg (by omega), if_pos e0, e2]; decide +kernel, by decide, zA_p (by decide +kernel : zFx 28 = 4229890048) (by decide +kernel : zBa 28 = 68157440) (by decide) (by decide) (zA_eq (Nat.lt_of_le_of_lt Nat.and_le_left (zz_nI_lt p)) (by decide) (zA_g 26 6 (Or.inl ⟨by decide, e0⟩)) (zA_g 21 5 (Or.inr ⟨by decide, by decide⟩)) (zA_g 16 5 (Or.inl ⟨by decide, e2⟩)) (zA_g 11 5 (Or.inr ⟨by decide, by decide⟩)) (zA_g 6 5 (Or.inr ⟨by decide, by decide⟩)) (zA_g 0 6 (Or.inr ⟨by decide, by decide⟩)))⟩
theorem zK_29 {p : Int32} (h : zcK p 29) : zrK p 48 := by
  have h4 := zA_n h (by decide +kernel : zFx 29 = 4229890048) (by decide +kernel : zBa 29 = 68222976) (by decide) (by decide)
  have e0 : zF p 26 6 = 1 := zA_f h4 26 6 (by decide)
  have e2 : zF p 16 5 = 17 := zA_f h4 16 5 (by decide)
  exact Or.inr (Or.inl ⟨e0, Or.inr (Or.inr (Or.inr ⟨e2, rfl⟩))⟩)
theorem zJ_29 {p : Int32} (h : zrK p 48) : zcK p 29 := by
  rcases h with ⟨e0, hg, hf, hc⟩ | ⟨e0, h⟩ | ⟨e0, hg, hf, hc⟩
  case inl => exact absurd hg (by omega)
  case inr.inr => exact absurd hg (by omega)
  have e2 : zF p 16 5 = 17 := by omega
  exact ⟨by unfold zcf; rw [if_neg (by omega), if_pos e0, e2]; decide +kernel, by decide, zA_p (by decide +kernel : zFx 29 = 4229890048) (by decide +kernel : zBa 29 = 68222976) (by decide) (by decide) (zA_eq (Nat.lt_of_le_of_lt Nat.and_le_left (zz_nI_lt p)) (by decide) (zA_g 26 6 (Or.inl ⟨by decide, e0⟩)) (zA_g 21 5 (Or.inr ⟨by decide, by decide⟩)) (zA_g 16 5 (Or.inl ⟨by decide, e2⟩)) (zA_g 11 5 (Or.inr ⟨by decide, by decide⟩)) (zA_g 6 5 (Or.inr ⟨by decide, by decide⟩)) (zA_g 0 6 (Or.inr ⟨by decide, by decide⟩)))⟩
theorem zK_30 {p : Int32} (h : zcK p 30) : zrK p 49 := by
  have h4 := zA_n h (by decide +kernel : zFx 30 = 4227858432) (by decide +kernel : zBa 30 = 134217728) (by decide) (by decide)
  have e0 : zF p 26 6 = 2 := zA_f h4 26 6 (by decide)
  exact Or.inr (Or.inr ⟨by rw [e0]; decide, by decide, by rw [e0]; decide +kernel, trivial⟩)
theorem zJ_30 {p : Int32} (h : zrK p 49) : zcK p 30 := by
  rcases h with ⟨e0, hg, hf, hc⟩ | ⟨e0, h⟩ | ⟨e0, hg, hf, -⟩
  case inl => exact absurd hg (by omega)
  case inr.inl => exact absurd h (by omega)
  have e0 := (zrm_i (zF_lt p 26 6) (by decide) hf).trans (by decide +kernel : zz_at 32 zc_260 49 = 2)
  exact ⟨by unfold zcf; rw [if_neg (by omega), if_neg (by omega), e0]; decide +kernel, by decide, zA_p (by decide +kernel : zFx 30 = 4227858432) (by decide +kernel : zBa 30 = 134217728) (by decide) (by decide) (zA_eq (Nat.lt_of_le_of_lt Nat.and_le_left (zz_nI_lt p)) (by decide) (zA_g 26 6 (Or.inl ⟨by decide, e0⟩)) (zA_g 21 5 (Or.inr ⟨by decide, by decide⟩)) (zA_g 16 5 (Or.inr ⟨by decide, by decide⟩)) (zA_g 11 5 (Or.inr ⟨by decide, by decide⟩)) (zA_g 6 5 (Or.inr ⟨by decide, by decide⟩)) (zA_g 0 6 (Or.inr ⟨by decide, by decide⟩)))⟩
theorem zK_31 {p : Int32} (h : zcK p 31) : zrK p 50 := by
  have h4 := zA_n h (by decide +kernel : zFx 31 = 4227858432) (by decide +kernel : zBa 31 = 201326592) (by decide) (by decide)
  have e0 : zF p 26 6 = 3 := zA_f h4 26 6 (by decide)
  exact Or.inr (Or.inr ⟨by rw [e0]; decide, by decide, by rw [e0]; decide +kernel, trivial⟩)
theorem zJ_31 {p : Int32} (h : zrK p 50) : zcK p 31 := by
  rcases h with ⟨e0, hg, hf, hc⟩ | ⟨e0, h⟩ | ⟨e0, hg, hf, -⟩
  case inl => exact absurd hg (by omega)
  case inr.inl => exact absurd h (by omega)
  have e0 := (zrm_i (zF_lt p 26 6) (by decide) hf).trans (by decide +kernel : zz_at 32 zc_260 50 = 3)
  exact ⟨by unfold zcf; rw [if_neg (by omega), if_neg (by omega), e0]; decide +kernel, by decide, zA_p (by decide +kernel : zFx 31 = 4227858432) (by decide +kernel : zBa 31 = 201326592) (by decide) (by decide) (zA_eq (Nat.lt_of_le_of_lt Nat.and_le_left (zz_nI_lt p)) (by decide) (zA_g 26 6 (Or.inl ⟨by decide, e0⟩)) (zA_g 21 5 (Or.inr ⟨by decide, by decide⟩)) (zA_g 16 5 (Or.inr ⟨by decide, by decide⟩)) (zA_g 11 5 (Or.inr ⟨by decide, by decide⟩)) (zA_g 6 5 (Or.inr ⟨by decide, by decide⟩)) (zA_g 0 6 (Or.inr ⟨by decide, by decide⟩)))⟩
theorem zK_32 {p : Int32} (h : zcK p 32) : zrK p 41 := by
  have h4 := zA_n h (by decide +kernel : zFx 32 = 4227858432) (by decide +kernel : zBa 32 = 268435456) (by decide) (by decide)
  have e0 : zF p 26 6 = 4 := zA_f h4 26 6 (by decide)
  exact Or.inr (Or.inr ⟨by rw [e0]; decide, by decide, by rw [e0]; decide +kernel, trivial⟩)
theorem zJ_32 {p : Int32} (h : zrK p 41) : zcK p 32 := by
  rcases h with ⟨e0, hg, hf, hc⟩ | ⟨e0, h⟩ | ⟨e0, hg, hf, -⟩
  case inl => exact absurd hg (by omega)
  case inr.inl => exact absurd h (by omega)
  have e0 := (zrm_i (zF_lt p 26 6) (by decide) hf).trans (by decide +kernel : zz_at 32 zc_260 41 = 4)
  exact ⟨by unfold zcf; rw [if_neg (by omega), if_neg (by omega), e0]; decide +kernel, by decide, zA_p (by decide +kernel : zFx 32 = 4227858432) (by decide +kernel : zBa 32 = 268435456) (by decide) (by decide) (zA_eq (Nat.lt_of_le_of_lt Nat.and_le_left (zz_nI_lt p)) (by decide) (zA_g 26 6 (Or.inl ⟨by decide, e0⟩)) (zA_g 21 5 (Or.inr ⟨by decide, by decide⟩)) (zA_g 16 5 (Or.inr ⟨by decide, by decide⟩)) (zA_g 11 5 (Or.inr ⟨by decide, by decide⟩)) (zA_g 6 5 (Or.inr ⟨by decide, by decide⟩)) (zA_g 0 6 (Or.inr ⟨by decide, by decide⟩)))⟩
theorem zK_33 {p : Int32} (h : zcK p 33) : zrK p 42 := by
  have h4 := zA_n h (by decide +kernel : zFx 33 = 4227858432) (by decide +kernel : zBa 33 = 335544320) (by decide) (by decide)
  have e0 : zF p 26 6 = 5 := zA_f h4 26 6 (by decide)
  exact Or.inr (Or.inr ⟨by rw [e0]; decide, by decide, by rw [e0]; decide +kernel, trivial⟩)
theorem zJ_33 {p : Int32} (h : zrK p 42) : zcK p 33 := by
  rcases h with ⟨e0, hg, hf, hc⟩ | ⟨e0, h⟩ | ⟨e0, hg, hf, -⟩
  case inl => exact absurd hg (by omega)
  case inr.inl => exact absurd h (by omega)
  have e0 := (zrm_i (zF_lt p 26 6) (by decide) hf).trans (by decide +kernel : zz_at 32 zc_260 42 = 5)
  exact ⟨by unfold zcf; rw [if_neg (by omega), if_neg (by omega), e0]; decide +kernel, by decide, zA_p (by decide +kernel : zFx 33 = 4227858432) (by decide +kernel : zBa 33 = 335544320) (by decide) (by decide) (zA_eq (Nat.lt_of_le_of_lt Nat.and_le_left (zz_nI_lt p)) (by decide) (zA_g 26 6 (Or.inl ⟨by decide, e0⟩)) (zA_g 21 5 (Or.inr ⟨by decide, by decide⟩)) (zA_g 16 5 (Or.inr ⟨by decide, by decide⟩)) (zA_g 11 5 (Or.inr ⟨by decide, by decide⟩)) (zA_g 6 5 (Or.inr ⟨by decide, by decide⟩)) (zA_g 0 6 (Or.inr ⟨by decide, by decide⟩)))⟩
theorem zK_34 {p : Int32} (h : zcK p 34) : zrK p 43 := by
  have h4 := zA_n h (by decide +kernel : zFx 34 = 4229890048) (by decide +kernel : zBa 34 = 402653184) (by decide) (by decide)
  have e0 : zF p 26 6 = 6 := zA_f h4 26 6 (by decide)
  have e2 : zF p 16 5 = 0 := zA_f h4 16 5 (by decide)
  exact Or.inr (Or.inr ⟨by rw [e0]; decide, by decide, by rw [e0]; decide +kernel, e2⟩)
theorem zJ_34 {p : Int32} (h : zrK p 43) : zcK p 34 := by
  rcases h with ⟨e0, hg, hf, hc⟩ | ⟨e0, h⟩ | ⟨e0, hg, hf, e2⟩
  case inl => exact absurd hg (by omega)
  case inr.inl => exact absurd h (by omega)
  have e0 := (zrm_i (zF_lt p 26 6) (by decide) hf).trans (by decide +kernel : zz_at 32 zc_260 43 = 6)
  exact ⟨by unfold zcf; rw [if_neg (by omega), if_neg (by omega), e0]; decide +kernel, by decide, zA_p (by decide +kernel : zFx 34 = 4229890048) (by decide +kernel : zBa 34 = 402653184) (by decide) (by decide) (zA_eq (Nat.lt_of_le_of_lt Nat.and_le_left (zz_nI_lt p)) (by decide) (zA_g 26 6 (Or.inl ⟨by decide, e0⟩)) (zA_g 21 5 (Or.inr ⟨by decide, by decide⟩)) (zA_g 16 5 (Or.inl ⟨by decide, e2⟩)) (zA_g 11 5 (Or.inr ⟨by decide, by decide⟩)) (zA_g 6 5 (Or.inr ⟨by decide, by decide⟩)) (zA_g 0 6 (Or.inr ⟨by decide, by decide⟩)))⟩
theorem zK_35 {p : Int32} (h : zcK p 35) : zrK p 44 := by
  have h4 := zA_n h (by decide +kernel : zFx 35 = 4229890048) (by decide +kernel : zBa 35 = 469762048) (by decide) (by decide)
  have e0 : zF p 26 6 = 7 := zA_f h4 26 6 (by decide)
  have e2 : zF p 16 5 = 0 := zA_f h4 16 5 (by decide)
  exact Or.inr (Or.inr ⟨by rw [e0]; decide, by decide, by rw [e0]; decide +kernel, e2⟩)
theorem zJ_35 {p : Int32} (h : zrK p 44) : zcK p 35 := by
  rcases h with ⟨e0, hg, hf, hc⟩ | ⟨e0, h⟩ | ⟨e0, hg, hf, e2⟩
  case inl => exact absurd hg (by omega)
  case inr.inl => exact absurd h (by omega)
  have e0 := (zrm_i (zF_lt p 26 6) (by decide) hf).trans (by decide +kernel : zz_at 32 zc_260 44 = 7)
  exact ⟨by unfold zcf; rw [if_neg (by omega), if_neg (by omega), e0]; decide +kernel, by decide, zA_p (by decide +kernel : zFx 35 = 4229890048) (by decide +kernel : zBa 35 = 469762048) (by decide) (by decide) (zA_eq (Nat.lt_of_le_of_lt Nat.and_le_left (zz_nI_lt p)) (by decide) (zA_g 26 6 (Or.inl ⟨by decide, e0⟩)) (zA_g 21 5 (Or.inr ⟨by decide, by decide⟩)) (zA_g 16 5 (Or.inl ⟨by decide, e2⟩)) (zA_g 11 5 (Or.inr ⟨by decide, by decide⟩)) (zA_g 6 5 (Or.inr ⟨by decide, by decide⟩)) (zA_g 0 6 (Or.inr ⟨by decide, by decide⟩)))⟩
theorem zK_36 {p : Int32} (h : zcK p 36) : zrK p 26 := by
  have h4 := zA_n h (by decide +kernel : zFx 36 = 4227858432) (by decide +kernel : zBa 36 = 603979776) (by decide) (by decide)
  have e0 : zF p 26 6 = 9 := zA_f h4 26 6 (by decide)
  exact Or.inr (Or.inr ⟨by rw [e0]; decide, by decide, by rw [e0]; decide +kernel, trivial⟩)
theorem zJ_36 {p : Int32} (h : zrK p 26) : zcK p 36 := by
  rcases h with ⟨e0, hg, hf, hc⟩ | ⟨e0, h⟩ | ⟨e0, hg, hf, -⟩
  case inl => exact absurd hg (by omega)
  case inr.inl => exact absurd h (by omega)
  have e0 := (zrm_i (zF_lt p 26 6) (by decide) hf).trans (by decide +kernel : zz_at 32 zc_260 26 = 9)
  exact ⟨by unfold zcf; rw [if_neg (by omega), if_neg (by omega), e0]; decide +kernel, by decide, zA_p (by decide +kernel : zFx 36 = 4227858432) (by decide +kernel : zBa 36 = 603979776) (by decide) (by decide) (zA_eq (Nat.lt_of_le_of_lt Nat.and_le_left (zz_nI_lt p)) (by decide) (zA_g 26 6 (Or.inl ⟨by decide, e0⟩)) (zA_g 21 5 (Or.inr ⟨by decide, by decide⟩)) (zA_g 16 5 (Or.inr ⟨by decide, by decide⟩)) (zA_g 11 5 (Or.inr ⟨by decide, by decide⟩)) (zA_g 6 5 (Or.inr ⟨by decide, by decide⟩)) (zA_g 0 6 (Or.inr ⟨by decide, by decide⟩)))⟩
theorem zK_37 {p : Int32} (h : zcK p 37) : zrK p 27 := by
  have h4 := zA_n h (by decide +kernel : zFx 37 = 4227858432) (by decide +kernel : zBa 37 = 671088640) (by decide) (by decide)
  have e0 : zF p 26 6 = 10 := zA_f h4 26 6 (by decide)
  exact Or.inr (Or.inr ⟨by rw [e0]; decide, by decide, by rw [e0]; decide +kernel, trivial⟩)
theorem zJ_37 {p : Int32} (h : zrK p 27) : zcK p 37 := by
  rcases h with ⟨e0, hg, hf, hc⟩ | ⟨e0, h⟩ | ⟨e0, hg, hf, -⟩
  case inl => exact absurd hg (by omega)
  case inr.inl => exact absurd h (by omega)
  have e0 := (zrm_i (zF_lt p 26 6) (by decide) hf).trans (by decide +kernel : zz_at 32 zc_260 27 = 10)
  exact ⟨by unfold zcf; rw [if_neg (by omega), if_neg (by omega), e0]; decide +kernel, by decide, zA_p (by decide +kernel : zFx 37 = 4227858432) (by decide +kernel : zBa 37 = 671088640) (by decide) (by decide) (zA_eq (Nat.lt_of_le_of_lt Nat.and_le_left (zz_nI_lt p)) (by decide) (zA_g 26 6 (Or.inl ⟨by decide, e0⟩)) (zA_g 21 5 (Or.inr ⟨by decide, by decide⟩)) (zA_g 16 5 (Or.inr ⟨by decide, by decide⟩)) (zA_g 11 5 (Or.inr ⟨by decide, by decide⟩)) (zA_g 6 5 (Or.inr ⟨by decide, by decide⟩)) (zA_g 0 6 (Or.inr ⟨by decide, by decide⟩)))⟩
theorem zK_38 {p : Int32} (h : zcK p 38) : zrK p 28 := by
  have h4 := zA_n h (by decide +kernel : zFx 38 = 4227858432) (by decide +kernel : zBa 38 = 738197504) (by decide) (by decide)
  have e0 : zF p 26 6 = 11 := zA_f h4 26 6 (by decide)
  exact Or.inr (Or.inr ⟨by rw [e0]; decide, by decide, by rw [e0]; decide +kernel, trivial⟩)
theorem zJ_38 {p : Int32} (h : zrK p 28) : zcK p 38 := by
  rcases h with ⟨e0, hg, hf, hc⟩ | ⟨e0, h⟩ | ⟨e0, hg, hf, -⟩
  case inl => exact absurd hg (by omega)
  case inr.inl => exact absurd h (by omega)
  have e0 := (zrm_i (zF_lt p 26 6) (by decide) hf).trans (by decide +kernel : zz_at 32 zc_260 28 = 11)
  exact ⟨by unfold zcf; rw [if_neg (by omega), if_neg (by omega), e0]; decide +kernel, by decide, zA_p (by decide +kernel : zFx 38 = 4227858432) (by decide +kernel : zBa 38 = 738197504) (by decide) (by decide) (zA_eq (Nat.lt_of_le_of_lt Nat.and_le_left (zz_nI_lt p)) (by decide) (zA_g 26 6 (Or.inl ⟨by decide, e0⟩)) (zA_g 21 5 (Or.inr ⟨by decide, by decide⟩)) (zA_g 16 5 (Or.inr ⟨by decide, by decide⟩)) (zA_g 11 5 (Or.inr ⟨by decide, by decide⟩)) (zA_g 6 5 (Or.inr ⟨by decide, by decide⟩)) (zA_g 0 6 (Or.inr ⟨by decide, by decide⟩)))⟩
theorem zK_39 {p : Int32} (h : zcK p 39) : zrK p 29 := by
  have h4 := zA_n h (by decide +kernel : zFx 39 = 4227858432) (by decide +kernel : zBa 39 = 805306368) (by decide) (by decide)
  have e0 : zF p 26 6 = 12 := zA_f h4 26 6 (by decide)
  exact Or.inr (Or.inr ⟨by rw [e0]; decide, by decide, by rw [e0]; decide +kernel, trivial⟩)
theorem zJ_39 {p : Int32} (h : zrK p 29) : zcK p 39 := by
  rcases h with ⟨e0, hg, hf, hc⟩ | ⟨e0, h⟩ | ⟨e0, hg, hf, -⟩
  case inl => exact absurd hg (by omega)
  case inr.inl => exact absurd h (by omega)
  have e0 := (zrm_i (zF_lt p 26 6) (by decide) hf).trans (by decide +kernel : zz_at 32 zc_260 29 = 12)
  exact ⟨by unfold zcf; rw [if_neg (by omega), if_neg (by omega), e0]; decide +kernel, by decide, zA_p (by decide +kernel : zFx 39 = 4227858432) (by decide +kernel : zBa 39 = 805306368) (by decide) (by decide) (zA_eq (Nat.lt_of_le_of_lt Nat.and_le_left (zz_nI_lt p)) (by decide) (zA_g 26 6 (Or.inl ⟨by decide, e0⟩)) (zA_g 21 5 (Or.inr ⟨by decide, by decide⟩)) (zA_g 16 5 (Or.inr ⟨by decide, by decide⟩)) (zA_g 11 5 (Or.inr ⟨by decide, by decide⟩)) (zA_g 6 5 (Or.inr ⟨by decide, by decide⟩)) (zA_g 0 6 (Or.inr ⟨by decide, by decide⟩)))⟩
theorem zK_40 {p : Int32} (h : zcK p 40) : zrK p 30 := by
  have h4 := zA_n h (by decide +kernel : zFx 40 = 4227858432) (by decide +kernel : zBa 40 = 872415232) (by decide) (by decide)
  have e0 : zF p 26 6 = 13 := zA_f h4 26 6 (by decide)
  exact Or.inr (Or.inr ⟨by rw [e0]; decide, by decide, by rw [e0]; decide +kernel, trivial⟩)
theorem zJ_40 {p : Int32} (h : zrK p 30) : zcK p 40 := by
  rcases h with ⟨e0, hg, hf, hc⟩ | ⟨e0, h⟩ | ⟨e0, hg, hf, -⟩
  case inl => exact absurd hg (by omega)
  case inr.inl => exact absurd h (by omega)
  have e0 := (zrm_i (zF_lt p 26 6) (by decide) hf).trans (by decide +kernel : zz_at 32 zc_260 30 = 13)
  exact ⟨by unfold zcf; rw [if_neg (by omega), if_neg (by omega), e0]; decide +kernel, by decide, zA_p (by decide +kernel : zFx 40 = 4227858432) (by decide +kernel : zBa 40 = 872415232) (by decide) (by decide) (zA_eq (Nat.lt_of_le_of_lt Nat.and_le_left (zz_nI_lt p)) (by decide) (zA_g 26 6 (Or.inl ⟨by decide, e0⟩)) (zA_g 21 5 (Or.inr ⟨by decide, by decide⟩)) (zA_g 16 5 (Or.inr ⟨by decide, by decide⟩)) (zA_g 11 5 (Or.inr ⟨by decide, by decide⟩)) (zA_g 6 5 (Or.inr ⟨by decide, by decide⟩)) (zA_g 0 6 (Or.inr ⟨by decide, by decide⟩)))⟩
theorem zK_41 {p : Int32} (h : zcK p 41) : zrK p 31 := by
  have h4 := zA_n h (by decide +kernel : zFx 41 = 4227858432) (by decide +kernel : zBa 41 = 939524096) (by decide) (by decide)
  have e0 : zF p 26 6 = 14 := zA_f h4 26 6 (by decide)
  exact Or.inr (Or.inr ⟨by rw [e0]; decide, by decide, by rw [e0]; decide +kernel, trivial⟩)
theorem zJ_41 {p : Int32} (h : zrK p 31) : zcK p 41 := by
  rcases h with ⟨e0, hg, hf, hc⟩ | ⟨e0, h⟩ | ⟨e0, hg, hf, -⟩
  case inl => exact absurd hg (by omega)
  case inr.inl => exact absurd h (by omega)
  have e0 := (zrm_i (zF_lt p 26 6) (by decide) hf).trans (by decide +kernel : zz_at 32 zc_260 31 = 14)
  exact ⟨by unfold zcf; rw [if_neg (by omega), if_neg (by omega), e0]; decide +kernel, by decide, zA_p (by decide +kernel : zFx 41 = 4227858432) (by decide +kernel : zBa 41 = 939524096) (by decide) (by decide) (zA_eq (Nat.lt_of_le_of_lt Nat.and_le_left (zz_nI_lt p)) (by decide) (zA_g 26 6 (Or.inl ⟨by decide, e0⟩)) (zA_g 21 5 (Or.inr ⟨by decide, by decide⟩)) (zA_g 16 5 (Or.inr ⟨by decide, by decide⟩)) (zA_g 11 5 (Or.inr ⟨by decide, by decide⟩)) (zA_g 6 5 (Or.inr ⟨by decide, by decide⟩)) (zA_g 0 6 (Or.inr ⟨by decide, by decide⟩)))⟩
theorem zK_42 {p : Int32} (h : zcK p 42) : zrK p 32 := by
  have h4 := zA_n h (by decide +kernel : zFx 42 = 4292870144) (by decide +kernel : zBa 42 = 1006632960) (by decide) (by decide)
  have e0 : zF p 26 6 = 15 := zA_f h4 26 6 (by decide)
  have e1 : zF p 21 5 = 0 := zA_f h4 21 5 (by decide)
  exact Or.inr (Or.inr ⟨by rw [e0]; decide, by decide, by rw [e0]; decide +kernel, e1⟩)
theorem zJ_42 {p : Int32} (h : zrK p 32) : zcK p 42 := by
  rcases h with ⟨e0, hg, hf, hc⟩ | ⟨e0, h⟩ | ⟨e0, hg, hf, e1⟩
  case inl => exact absurd hg (by omega)
  case inr.inl => exact absurd h (by omega)
  have e0 := (zrm_i (zF_lt p 26 6) (by decide) hf).trans (by decide +kernel : zz_at 32 zc_260 32 = 15)
  exact ⟨by unfold zcf; rw [if_neg (by omega), if_neg (by omega), e0]; decide +kernel, by decide, zA_p (by decide +kernel : zFx 42 = 4292870144) (by decide +kernel : zBa 42 = 1006632960) (by decide) (by decide) (zA_eq (Nat.lt_of_le_of_lt Nat.and_le_left (zz_nI_lt p)) (by decide) (zA_g 26 6 (Or.inl ⟨by decide, e0⟩)) (zA_g 21 5 (Or.inl ⟨by decide, e1⟩)) (zA_g 16 5 (Or.inr ⟨by decide, by decide⟩)) (zA_g 11 5 (Or.inr ⟨by decide, by decide⟩)) (zA_g 6 5 (Or.inr ⟨by decide, by decide⟩)) (zA_g 0 6 (Or.inr ⟨by decide, by decide⟩)))⟩
theorem zK_43 {p : Int32} (h : zcK p 43) : zrK p 33 := by
  have h4 := zA_n h (by decide +kernel : zFx 43 = 4227858432) (by decide +kernel : zBa 43 = 2147483648) (by decide) (by decide)
  have e0 : zF p 26 6 = 32 := zA_f h4 26 6 (by decide)
  exact Or.inr (Or.inr ⟨by rw [e0]; decide, by decide, by rw [e0]; decide +kernel, trivial⟩)
theorem zJ_43 {p : Int32} (h : zrK p 33) : zcK p 43 := by
  rcases h with ⟨e0, hg, hf, hc⟩ | ⟨e0, h⟩ | ⟨e0, hg, hf, -⟩
  case inl => exact absurd hg (by omega)
  case inr.inl => exact absurd h (by omega)
  have e0 := (zrm_i (zF_lt p 26 6) (by decide) hf).trans (by decide +kernel : zz_at 32 zc_260 33 = 32)
  exact ⟨by unfold zcf; rw [if_neg (by omega), if_neg (by omega), e0]; decide +kernel, by decide, zA_p (by decide +kernel : zFx 43 = 4227858432) (by decide +kernel : zBa 43 = 2147483648) (by decide) (by decide) (zA_eq (Nat.lt_of_le_of_lt Nat.and_le_left (zz_nI_lt p)) (by decide) (zA_g 26 6 (Or.inl ⟨by decide, e0⟩)) (zA_g 21 5 (Or.inr ⟨by decide, by decide⟩)) (zA_g 16 5 (Or.inr ⟨by decide, by decide⟩)) (zA_g 11 5 (Or.inr ⟨by decide, by decide⟩)) (zA_g 6 5 (Or.inr ⟨by decide, by decide⟩)) (zA_g 0 6 (Or.inr ⟨by decide, by decide⟩)))⟩
theorem zK_44 {p : Int32} (h : zcK p 44) : zrK p 34 := by
  have h4 := zA_n h (by decide +kernel : zFx 44 = 4227858432) (by decide +kernel : zBa 44 = 2214592512) (by decide) (by decide)
  have e0 : zF p 26 6 = 33 := zA_f h4 26 6 (by decide)
  exact Or.inr (Or.inr ⟨by rw [e0]; decide, by decide, by rw [e0]; decide +kernel, trivial⟩)
theorem zJ_44 {p : Int32} (h : zrK p 34) : zcK p 44 := by
  rcases h with ⟨e0, hg, hf, hc⟩ | ⟨e0, h⟩ | ⟨e0, hg, hf, -⟩
  case inl => exact absurd hg (by omega)
  case inr.inl => exact absurd h (by omega)
  have e0 := (zrm_i (zF_lt p 26 6) (by decide) hf).trans (by decide +kernel : zz_at 32 zc_260 34 = 33)
  exact ⟨by unfold zcf; rw [if_neg (by omega), if_neg (by omega), e0]; decide +kernel, by decide, zA_p (by decide +kernel : zFx 44 = 4227858432) (by decide +kernel : zBa 44 = 2214592512) (by decide) (by decide) (zA_eq (Nat.lt_of_le_of_lt Nat.and_le_left (zz_nI_lt p)) (by decide) (zA_g 26 6 (Or.inl ⟨by decide, e0⟩)) (zA_g 21 5 (Or.inr ⟨by decide, by decide⟩)) (zA_g 16 5 (Or.inr ⟨by decide, by decide⟩)) (zA_g 11 5 (Or.inr ⟨by decide, by decide⟩)) (zA_g 6 5 (Or.inr ⟨by decide, by decide⟩)) (zA_g 0 6 (Or.inr ⟨by decide, by decide⟩)))⟩
theorem zK_45 {p : Int32} (h : zcK p 45) : zrK p 35 := by
  have h4 := zA_n h (by decide +kernel : zFx 45 = 4227858432) (by decide +kernel : zBa 45 = 2348810240) (by decide) (by decide)
  have e0 : zF p 26 6 = 35 := zA_f h4 26 6 (by decide)
  exact Or.inr (Or.inr ⟨by rw [e0]; decide, by decide, by rw [e0]; decide +kernel, trivial⟩)
theorem zJ_45 {p : Int32} (h : zrK p 35) : zcK p 45 := by
  rcases h with ⟨e0, hg, hf, hc⟩ | ⟨e0, h⟩ | ⟨e0, hg, hf, -⟩
  case inl => exact absurd hg (by omega)
  case inr.inl => exact absurd h (by omega)
  have e0 := (zrm_i (zF_lt p 26 6) (by decide) hf).trans (by decide +kernel : zz_at 32 zc_260 35 = 35)
  exact ⟨by unfold zcf; rw [if_neg (by omega), if_neg (by omega), e0]; decide +kernel, by decide, zA_p (by decide +kernel : zFx 45 = 4227858432) (by decide +kernel : zBa 45 = 2348810240) (by decide) (by decide) (zA_eq (Nat.lt_of_le_of_lt Nat.and_le_left (zz_nI_lt p)) (by decide) (zA_g 26 6 (Or.inl ⟨by decide, e0⟩)) (zA_g 21 5 (Or.inr ⟨by decide, by decide⟩)) (zA_g 16 5 (Or.inr ⟨by decide, by decide⟩)) (zA_g 11 5 (Or.inr ⟨by decide, by decide⟩)) (zA_g 6 5 (Or.inr ⟨by decide, by decide⟩)) (zA_g 0 6 (Or.inr ⟨by decide, by decide⟩)))⟩
theorem zK_46 {p : Int32} (h : zcK p 46) : zrK p 36 := by
  have h4 := zA_n h (by decide +kernel : zFx 46 = 4227858432) (by decide +kernel : zBa 46 = 2415919104) (by decide) (by decide)
  have e0 : zF p 26 6 = 36 := zA_f h4 26 6 (by decide)
  exact Or.inr (Or.inr ⟨by rw [e0]; decide, by decide, by rw [e0]; decide +kernel, trivial⟩)
theorem zJ_46 {p : Int32} (h : zrK p 36) : zcK p 46 := by
  rcases h with ⟨e0, hg, hf, hc⟩ | ⟨e0, h⟩ | ⟨e0, hg, hf, -⟩
  case inl => exact absurd hg (by omega)
  case inr.inl => exact absurd h (by omega)
  have e0 := (zrm_i (zF_lt p 26 6) (by decide) hf).trans (by decide +kernel : zz_at 32 zc_260 36 = 36)
  exact ⟨by unfold zcf; rw [if_neg (by omega), if_neg (by omega), e0]; decide +kernel, by decide, zA_p (by decide +kernel : zFx 46 = 4227858432) (by decide +kernel : zBa 46 = 2415919104) (by decide) (by decide) (zA_eq (Nat.lt_of_le_of_lt Nat.and_le_left (zz_nI_lt p)) (by decide) (zA_g 26 6 (Or.inl ⟨by decide, e0⟩)) (zA_g 21 5 (Or.inr ⟨by decide, by decide⟩)) (zA_g 16 5 (Or.inr ⟨by decide, by decide⟩)) (zA_g 11 5 (Or.inr ⟨by decide, by decide⟩)) (zA_g 6 5 (Or.inr ⟨by decide, by decide⟩)) (zA_g 0 6 (Or.inr ⟨by decide, by decide⟩)))⟩
theorem zK_47 {p : Int32} (h : zcK p 47) : zrK p 37 := by
  have h4 := zA_n h (by decide +kernel : zFx 47 = 4227858432) (by decide +kernel : zBa 47 = 2483027968) (by decide) (by decide)
  have e0 : zF p 26 6 = 37 := zA_f h4 26 6 (by decide)
  exact Or.inr (Or.inr ⟨by rw [e0]; decide, by decide, by rw [e0]; decide +kernel, trivial⟩)
theorem zJ_47 {p : Int32} (h : zrK p 37) : zcK p 47 := by
  rcases h with ⟨e0, hg, hf, hc⟩ | ⟨e0, h⟩ | ⟨e0, hg, hf, -⟩
  case inl => exact absurd hg (by omega)
  case inr.inl => exact absurd h (by omega)
  have e0 := (zrm_i (zF_lt p 26 6) (by decide) hf).trans (by decide +kernel : zz_at 32 zc_260 37 = 37)
  exact ⟨by unfold zcf; rw [if_neg (by omega), if_neg (by omega), e0]; decide +kernel, by decide, zA_p (by decide +kernel : zFx 47 = 4227858432) (by decide +kernel : zBa 47 = 2483027968) (by decide) (by decide) (zA_eq (Nat.lt_of_le_of_lt Nat.and_le_left (zz_nI_lt p)) (by decide) (zA_g 26 6 (Or.inl ⟨by decide, e0⟩)) (zA_g 21 5 (Or.inr ⟨by decide, by decide⟩)) (zA_g 16 5 (Or.inr ⟨by decide, by decide⟩)) (zA_g 11 5 (Or.inr ⟨by decide, by decide⟩)) (zA_g 6 5 (Or.inr ⟨by decide, by decide⟩)) (zA_g 0 6 (Or.inr ⟨by decide, by decide⟩)))⟩
theorem zK_48 {p : Int32} (h : zcK p 48) : zrK p 38 := by
  have h4 := zA_n h (by decide +kernel : zFx 48 = 4227858432) (by decide +kernel : zBa 48 = 2684354560) (by decide) (by decide)
  have e0 : zF p 26 6 = 40 := zA_f h4 26 6 (by decide)
  exact Or.inr (Or.inr ⟨by rw [e0]; decide, by decide, by rw [e0]; decide +kernel, trivial⟩)
theorem zJ_48 {p : Int32} (h : zrK p 38) : zcK p 48 := by
  rcases h with ⟨e0, hg, hf, hc⟩ | ⟨e0, h⟩ | ⟨e0, hg, hf, -⟩
  case inl => exact absurd hg (by omega)
  case inr.inl => exact absurd h (by omega)
  have e0 := (zrm_i (zF_lt p 26 6) (by decide) hf).trans (by decide +kernel : zz_at 32 zc_260 38 = 40)
  exact ⟨by unfold zcf; rw [if_neg (by omega), if_neg (by omega), e0]; decide +kernel, by decide, zA_p (by decide +kernel : zFx 48 = 4227858432) (by decide +kernel : zBa 48 = 2684354560) (by decide) (by decide) (zA_eq (Nat.lt_of_le_of_lt Nat.and_le_left (zz_nI_lt p)) (by decide) (zA_g 26 6 (Or.inl ⟨by decide, e0⟩)) (zA_g 21 5 (Or.inr ⟨by decide, by decide⟩)) (zA_g 16 5 (Or.inr ⟨by decide, by decide⟩)) (zA_g 11 5 (Or.inr ⟨by decide, by decide⟩)) (zA_g 6 5 (Or.inr ⟨by decide, by decide⟩)) (zA_g 0 6 (Or.inr ⟨by decide, by decide⟩)))⟩
theorem zK_49 {p : Int32} (h : zcK p 49) : zrK p 39 := by
  have h4 := zA_n h (by decide +kernel : zFx 49 = 4227858432) (by decide +kernel : zBa 49 = 2751463424) (by decide) (by decide)
  have e0 : zF p 26 6 = 41 := zA_f h4 26 6 (by decide)
  exact Or.inr (Or.inr ⟨by rw [e0]; decide, by decide, by rw [e0]; decide +kernel, trivial⟩)
theorem zJ_49 {p : Int32} (h : zrK p 39) : zcK p 49 := by
  rcases h with ⟨e0, hg, hf, hc⟩ | ⟨e0, h⟩ | ⟨e0, hg, hf, -⟩
  case inl => exact absurd hg (by omega)
  case inr.inl => exact absurd h (by omega)
  have e0 := (zrm_i (zF_lt p 26 6) (by decide) hf).trans (by decide +kernel : zz_at 32 zc_260 39 = 41)
  exact ⟨by unfold zcf; rw [if_neg (by omega), if_neg (by omega), e0]; decide +kernel, by decide, zA_p (by decide +kernel : zFx 49 = 4227858432) (by decide +kernel : zBa 49 = 2751463424) (by decide) (by decide) (zA_eq (Nat.lt_of_le_of_lt Nat.and_le_left (zz_nI_lt p)) (by decide) (zA_g 26 6 (Or.inl ⟨by decide, e0⟩)) (zA_g 21 5 (Or.inr ⟨by decide, by decide⟩)) (zA_g 16 5 (Or.inr ⟨by decide, by decide⟩)) (zA_g 11 5 (Or.inr ⟨by decide, by decide⟩)) (zA_g 6 5 (Or.inr ⟨by decide, by decide⟩)) (zA_g 0 6 (Or.inr ⟨by decide, by decide⟩)))⟩
theorem zK_50 {p : Int32} (h : zcK p 50) : zrK p 40 := by
  have h4 := zA_n h (by decide +kernel : zFx 50 = 4227858432) (by decide +kernel : zBa 50 = 2885681152) (by decide) (by decide)
  have e0 : zF p 26 6 = 43 := zA_f h4 26 6 (by decide)
  exact Or.inr (Or.inr ⟨by rw [e0]; decide, by decide, by rw [e0]; decide +kernel, trivial⟩)
theorem zJ_50 {p : Int32} (h : zrK p 40) : zcK p 50 := by
  rcases h with ⟨e0, hg, hf, hc⟩ | ⟨e0, h⟩ | ⟨e0, hg, hf, -⟩
  case inl => exact absurd hg (by omega)
  case inr.inl => exact absurd h (by omega)
  have e0 := (zrm_i (zF_lt p 26 6) (by decide) hf).trans (by decide +kernel : zz_at 32 zc_260 40 = 43)
  exact ⟨by unfold zcf; rw [if_neg (by omega), if_neg (by omega), e0]; decide +kernel, by decide, zA_p (by decide +kernel : zFx 50 = 4227858432) (by decide +kernel : zBa 50 = 2885681152) (by decide) (by decide) (zA_eq (Nat.lt_of_le_of_lt Nat.and_le_left (zz_nI_lt p)) (by decide) (zA_g 26 6 (Or.inl ⟨by decide, e0⟩)) (zA_g 21 5 (Or.inr ⟨by decide, by decide⟩)) (zA_g 16 5 (Or.inr ⟨by decide, by decide⟩)) (zA_g 11 5 (Or.inr ⟨by decide, by decide⟩)) (zA_g 6 5 (Or.inr ⟨by decide, by decide⟩)) (zA_g 0 6 (Or.inr ⟨by decide, by decide⟩)))⟩
/-- the reference's number of the class's instruction f -/
def zgm (f : Nat) : Nat := [8, 9, 10, 11, 12, 13, 22, 23, 24, 25, 18, 20, 19, 21, 14, 15, 16, 17, 0, 1, 2, 3, 4, 5, 6, 7, 45, 46, 47, 48, 49, 50, 41, 42, 43, 44, 26, 27, 28, 29, 30, 31, 32, 33, 34, 35, 36, 37, 38, 39, 40].getD f 0
theorem zK_r {p : Int32} {f : Nat} (h : zcK p f) : zrK p (zgm f) := by
  have h51 := h.2.1
  match f, h51, h with
  | 0, _, h => exact zK_0 h
  | 1, _, h => exact zK_1 h
  | 2, _, h => exact zK_2 h
  | 3, _, h => exact zK_3 h
  | 4, _, h => exact zK_4 h
  | 5, _, h => exact zK_5 h
  | 6, _, h => exact zK_6 h
  | 7, _, h => exact zK_7 h
  | 8, _, h => exact zK_8 h
  | 9, _, h => exact zK_9 h
  | 10, _, h => exact zK_10 h
  | 11, _, h => exact zK_11 h
  | 12, _, h => exact zK_12 h
  | 13, _, h => exact zK_13 h
  | 14, _, h => exact zK_14 h
  | 15, _, h => exact zK_15 h
  | 16, _, h => exact zK_16 h
  | 17, _, h => exact zK_17 h
  | 18, _, h => exact zK_18 h
  | 19, _, h => exact zK_19 h
  | 20, _, h => exact zK_20 h
  | 21, _, h => exact zK_21 h
  | 22, _, h => exact zK_22 h
  | 23, _, h => exact zK_23 h
  | 24, _, h => exact zK_24 h
  | 25, _, h => exact zK_25 h
  | 26, _, h => exact zK_26 h
  | 27, _, h => exact zK_27 h
  | 28, _, h => exact zK_28 h
  | 29, _, h => exact zK_29 h
  | 30, _, h => exact zK_30 h
  | 31, _, h => exact zK_31 h
  | 32, _, h => exact zK_32 h
  | 33, _, h => exact zK_33 h
  | 34, _, h => exact zK_34 h
  | 35, _, h => exact zK_35 h
  | 36, _, h => exact zK_36 h
  | 37, _, h => exact zK_37 h
  | 38, _, h => exact zK_38 h
  | 39, _, h => exact zK_39 h
  | 40, _, h => exact zK_40 h
  | 41, _, h => exact zK_41 h
  | 42, _, h => exact zK_42 h
  | 43, _, h => exact zK_43 h
  | 44, _, h => exact zK_44 h
  | 45, _, h => exact zK_45 h
  | 46, _, h => exact zK_46 h
  | 47, _, h => exact zK_47 h
  | 48, _, h => exact zK_48 h
  | 49, _, h => exact zK_49 h
  | 50, _, h => exact zK_50 h
  | _ + 51, h51, _ => exact absurd h51 (by omega)
theorem zK_c {p : Int32} {g : Nat} (h : zrK p g) : ∃ f, zcK p f := by
  have h51 := zrK_51 h
  match g, h51, h with
  | 0, _, h => exact ⟨_, zJ_18 h⟩
  | 1, _, h => exact ⟨_, zJ_19 h⟩
  | 2, _, h => exact ⟨_, zJ_20 h⟩
  | 3, _, h => exact ⟨_, zJ_21 h⟩
  | 4, _, h => exact ⟨_, zJ_22 h⟩
  | 5, _, h => exact ⟨_, zJ_23 h⟩
  | 6, _, h => exact ⟨_, zJ_24 h⟩
  | 7, _, h => exact ⟨_, zJ_25 h⟩
  | 8, _, h => exact ⟨_, zJ_0 h⟩
  | 9, _, h => exact ⟨_, zJ_1 h⟩
  | 10, _, h => exact ⟨_, zJ_2 h⟩
  | 11, _, h => exact ⟨_, zJ_3 h⟩
  | 12, _, h => exact ⟨_, zJ_4 h⟩
  | 13, _, h => exact ⟨_, zJ_5 h⟩
  | 14, _, h => exact ⟨_, zJ_14 h⟩
  | 15, _, h => exact ⟨_, zJ_15 h⟩
  | 16, _, h => exact ⟨_, zJ_16 h⟩
  | 17, _, h => exact ⟨_, zJ_17 h⟩
  | 18, _, h => exact ⟨_, zJ_10 h⟩
  | 19, _, h => exact ⟨_, zJ_12 h⟩
  | 20, _, h => exact ⟨_, zJ_11 h⟩
  | 21, _, h => exact ⟨_, zJ_13 h⟩
  | 22, _, h => exact ⟨_, zJ_6 h⟩
  | 23, _, h => exact ⟨_, zJ_7 h⟩
  | 24, _, h => exact ⟨_, zJ_8 h⟩
  | 25, _, h => exact ⟨_, zJ_9 h⟩
  | 26, _, h => exact ⟨_, zJ_36 h⟩
  | 27, _, h => exact ⟨_, zJ_37 h⟩
  | 28, _, h => exact ⟨_, zJ_38 h⟩
  | 29, _, h => exact ⟨_, zJ_39 h⟩
  | 30, _, h => exact ⟨_, zJ_40 h⟩
  | 31, _, h => exact ⟨_, zJ_41 h⟩
  | 32, _, h => exact ⟨_, zJ_42 h⟩
  | 33, _, h => exact ⟨_, zJ_43 h⟩
  | 34, _, h => exact ⟨_, zJ_44 h⟩
  | 35, _, h => exact ⟨_, zJ_45 h⟩
  | 36, _, h => exact ⟨_, zJ_46 h⟩
  | 37, _, h => exact ⟨_, zJ_47 h⟩
  | 38, _, h => exact ⟨_, zJ_48 h⟩
  | 39, _, h => exact ⟨_, zJ_49 h⟩
  | 40, _, h => exact ⟨_, zJ_50 h⟩
  | 41, _, h => exact ⟨_, zJ_32 h⟩
  | 42, _, h => exact ⟨_, zJ_33 h⟩
  | 43, _, h => exact ⟨_, zJ_34 h⟩
  | 44, _, h => exact ⟨_, zJ_35 h⟩
  | 45, _, h => exact ⟨_, zJ_26 h⟩
  | 46, _, h => exact ⟨_, zJ_27 h⟩
  | 47, _, h => exact ⟨_, zJ_28 h⟩
  | 48, _, h => exact ⟨_, zJ_29 h⟩
  | 49, _, h => exact ⟨_, zJ_30 h⟩
  | 50, _, h => exact ⟨_, zJ_31 h⟩
  | _ + 51, h51, _ => exact absurd h51 (by omega)
theorem zNm_all : (List.range 51).all (fun f => decide (zNc f = zNr (8 + zgm f)) && decide (zFo f = zgF (zgm f))) = true := by decide +kernel
theorem zNm {f : Nat} (h : f < 51) : zNc f = zNr (8 + zgm f) ∧ zFo f = zgF (zgm f) := by
  obtain ⟨a, b⟩ := zz_and (List.all_eq_true.mp zNm_all f (List.mem_range.mpr h))
  exact ⟨of_decide_eq_true a, of_decide_eq_true b⟩
theorem zNm_77 : zNr 77 ++ [32] = [46, 119, 111, 114, 100, 32] := by decide +kernel
