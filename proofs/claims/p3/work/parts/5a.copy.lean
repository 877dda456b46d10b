/-! COPIES OF ROWS OF INTS -/
/-- k elements of the row N from place i on, laid into the row M from place j on -/
def zz_cp (w N M i j k : Nat) : Nat := M ^^^ ((((M >>> (w * j)) % 2 ^ (w * k)) ^^^ ((N >>> (w * i)) % 2 ^ (w * k))) <<< (w * j))
theorem zz_at_cp {w N M i j k : Nat} (q : Nat) : zz_at w (zz_cp w N M i j k) q = if j ≤ q ∧ q < j + k then zz_at w N (i + (q - j)) else zz_at w M q := by
  apply Nat.eq_of_testBit_eq
  intro b
  have hr : (if j ≤ q ∧ q < j + k then zz_at w N (i + (q - j)) else zz_at w M q).testBit b = (decide (b < w) && (if j ≤ q ∧ q < j + k then N.testBit (w * (i + (q - j)) + b) else M.testBit (w * q + b))) := by
    split
    · rw [zz_at_bit]
    · rw [zz_at_bit]
  rw [hr, zz_at_bit]
  by_cases hb : b < w
  · unfold zz_cp
    rw [Nat.testBit_xor, Nat.testBit_shiftLeft, Nat.testBit_xor, Nat.testBit_mod_two_pow, Nat.testBit_mod_two_pow, Nat.testBit_shiftRight, Nat.testBit_shiftRight]
    by_cases h1 : j ≤ q
    · have e1 : w * j ≤ w * q := Nat.mul_le_mul_left w h1
      have e2 : w * (q - j) = w * q - w * j := Nat.mul_sub w q j
      have e3 : w * j + (w * q + b - w * j) = w * q + b := by omega
      have e4 : w * i + (w * q + b - w * j) = w * (i + (q - j)) + b := by rw [Nat.mul_add, e2]; omega
      have e0 : w * q + b ≥ w * j := by omega
      rw [e3, e4]
      by_cases h2 : q < j + k
      · have e5 : w * (q + 1) ≤ w * (j + k) := Nat.mul_le_mul_left w h2
        rw [Nat.mul_add, Nat.mul_add, Nat.mul_one] at e5
        have e6 : w * q + b - w * j < w * k := by omega
        rw [if_pos ⟨h1, h2⟩]
        simp [hb, e0, e6]
      · have e5 : w * (j + k) ≤ w * q := Nat.mul_le_mul_left w (by omega)
        rw [Nat.mul_add] at e5
        have e6 : ¬ w * q + b - w * j < w * k := by omega
        rw [if_neg (by omega)]
        simp [hb, e6]
    · have e1 : w * (q + 1) ≤ w * j := Nat.mul_le_mul_left w (by omega)
      rw [Nat.mul_add, Nat.mul_one] at e1
      have e0 : ¬ w * q + b ≥ w * j := by omega
      rw [if_neg (by omega)]
      simp [hb, e0]
  · simp [hb]
section ZCP
variable {l : Launch} {Ts : List Cond} {D : va_G} {cl : List vw_C} {fk : Nat → Nat → Nat} {cy : Nat → ClassId} {z0 : Nat} {sp : Nat → Nat} {tys : List (ClassId × FieldType)} {G : State → Prop} {own mn : String} {nL : Nat} {cc : ByteArray} {d : Nat} {K : zz_K} {pc : Nat}
def zz_ik (w : zz_W) (i t j k : Nat) : Bool := Nat.blt i w.1 && (Nat.blt i 1000000 && (Nat.beq (zz_g w i).1 0 && (Nat.beq (zz_g w i).2.1 t && (Nat.ble (j + k) (zz_g w i).2.2.1 && Nat.blt (zz_g w i).2.2.1 2147483648))))
theorem zz_ik_ok {w : zz_W} {i t j k : Nat} (h : zz_ik w i t j k = true) : i < w.1 ∧ i < 1000000 ∧ (zz_g w i).1 = 0 ∧ (zz_g w i).2.1 = t ∧ j + k ≤ (zz_g w i).2.2.1 ∧ (zz_g w i).2.2.1 < 2147483648 := by
  unfold zz_ik at h
  obtain ⟨h1, h⟩ := zz_and h
  obtain ⟨h2, h⟩ := zz_and h
  obtain ⟨h3, h⟩ := zz_and h
  obtain ⟨h4, h⟩ := zz_and h
  obtain ⟨h5, h6⟩ := zz_and h
  exact ⟨zz_blt h1, zz_blt h2, Nat.eq_of_beq_eq_true h3, Nat.eq_of_beq_eq_true h4, zz_ble h5, zz_blt h6⟩
noncomputable def za_copyI (t n : Nat) : zz_A := fun _ f => match f.2.2.1 with
  | .int k :: .int j :: .ref b :: .int i :: .ref a :: r => cond (zz_ik f.2.2.2 a t (zz_nI i) (zz_nI k) && (zz_ik f.2.2.2 b t (zz_nI j) (zz_nI k) && Nat.ble (zz_cs r) 8))
      (zz_fN (zz_cp 32 (zz_g f.2.2.2 a).2.2.2 (zz_g f.2.2.2 b).2.2.2 (zz_nI i) (zz_nI j) (zz_nI k)) (fun N => zz_st f.2.2.2 b (0, t, (zz_g f.2.2.2 b).2.2.1, N) none (fun w' => some (n, f.2.1, r, w')))) none
  | _ => none
theorem zz_i32 {z : Int32} {n : Nat} (h : zz_nI z ≤ n) (hn : n < 2147483648) : ¬ z < 0 ∧ z.toNatClampNeg = zz_nI z ∧ z.toInt = (zz_nI z : Int) := by
  obtain ⟨h1, h2⟩ := zz_idx (j := z) (n := 2147483648) (by omega) (Nat.le_refl _)
  have h0 : ¬ z < 0 := fun h => h1 (Or.inl h)
  refine ⟨h0, h2, ?_⟩
  have hz0 : (0 : Int) ≤ z.toInt := by
    have := Int32.not_lt.mp h0
    simpa using Int32.le_iff_toInt_le.mp this
  have e : z.toInt.toNat = zz_nI z := h2
  omega
theorem zo_copyI {t index : Nat} (hd : decode cc pc = .ok (.invokestatic index, 3)) (ht : tys[t]? = some (cy t, .int)) (hw1 : Cond.methodLink own index arraycopyName ∈ Ts) (hw2 : Cond.native arraycopyName ∈ Ts) (hw3 : Cond.static arraycopyName ∈ Ts) (hw4 : Cond.initialized "java/lang/System" ∈ Ts) : zz_O l Ts D cl fk cy z0 sp tys G own mn nL cc d K pc (za_copyI t (pc + 3)) := by
  refine ⟨fun f f' hf => ?_, ?_⟩
  · unfold za_copyI at hf
    split at hf
    · obtain ⟨-, hf⟩ := zz_cond hf
      rw [zz_fN_eq] at hf
      obtain ⟨w', hk, e1, e2, -⟩ := zz_st_ok hf
      cases hk
      exact ⟨Nat.le_of_eq e1.symm, Nat.le_of_eq e2.symm⟩
    · cases hf
  · intro p e R s m args below meth c X hR1 hR2 H locs n0 s0 Q ls f f' hpc hf hI hS hl hn hs hc1 hc2 kk
    unfold za_copyI at hf
    split at hf
    · rename_i k j b i a r hst
      obtain ⟨hb, hf⟩ := zz_cond hf
      obtain ⟨ha, hb⟩ := zz_and hb
      obtain ⟨hb, hr⟩ := zz_and hb
      obtain ⟨a1, a2, a3, a4, a5, a6⟩ := zz_ik_ok ha
      obtain ⟨b1, b2, b3, b4, b5, b6⟩ := zz_ik_ok hb
      obtain ⟨i1, i2, i3⟩ := zz_i32 (z := i) (n := (zz_g f.2.2.2 a).2.2.1) (by omega) a6
      obtain ⟨j1, j2, j3⟩ := zz_i32 (z := j) (n := (zz_g f.2.2.2 b).2.2.1) (by omega) b6
      obtain ⟨k1, k2, k3⟩ := zz_i32 (z := k) (n := (zz_g f.2.2.2 b).2.2.1) (by omega) b6
      rw [zz_fN_eq] at hf
      obtain ⟨w', hk, e1, e2, hg⟩ := zz_st_ok hf
      cases hk
      have hea := zz_I_at hI a1
      rw [zz_e_i a3 a4] at hea
      have heb := zz_I_at hI b1
      rw [zz_e_i b3 b4] at heb
      rw [hst]
      show W _ _ _ _ _ _ _ _ _ _ _ _ _ _ _ (F0 m pc ls (Value.int k :: Value.int j :: zz_v z0 sp (.ref b) :: Value.int i :: zz_v z0 sp (.ref a) :: zz_sv z0 sp r))
      rw [zz_v_ref a2, zz_v_ref b2]
      intro T hT XX
      obtain ⟨-, k0, hk0, cm0, hkk0⟩ := (X.2.2.2.2.2.1.2 t _ ht).1 (zz_g f.2.2.2 a).2.2.1 (fun q => .int (Int32.ofNat (zz_at 32 (zz_g f.2.2.2 a).2.2.2 q)))
      obtain ⟨-, k4, hk4, cm4, hkk4⟩ := (X.2.2.2.2.2.1.2 t _ ht).1 (zz_g f.2.2.2 b).2.2.1 (fun q => .int (Int32.ofNat (zz_at 32 (zz_g f.2.2.2 b).2.2.2 q)))
      obtain ⟨vm', X', step⟩ := XX.arraycopy X.1 X.2.2.2.1 (X.2.2.2.2.1 _ hw1) (X.2.2.2.2.1 _ hw2) (X.2.2.2.2.1 _ hw3) (X.2.2.2.2.1 _ hw4) (src := zz_ad z0 sp a) (dst := zz_ad z0 sp b) (cs := (vp_cell (cy t) ((zz_g f.2.2.2 a).2.2.1, .inl (fun q => Int32.ofNat (zz_at 32 (zz_g f.2.2.2 a).2.2.2 q))))) (cd := (vp_cell (cy t) ((zz_g f.2.2.2 b).2.2.1, .inl (fun q => Int32.ofNat (zz_at 32 (zz_g f.2.2.2 b).2.2.2 q))))) (srcPos := i) (destPos := j) (n := k) (by rw [hT]; exact hea) (by rw [hT]; exact heb)
        (fun _ h => by cases h) (fun _ h => by cases h) (fun h => by cases h) (fun h => by cases h) hk0 hk4 hkk0 hkk4 (by simp [refKind]) i1 j1 k1
        (by rw [i3, k3]; show ¬ _ > ((arrV _ _ _).slots.size : Int); rw [arrV_size]; omega)
        (by rw [j3, k3]; show ¬ _ > ((arrV _ _ _).slots.size : Int); rw [arrV_size]; omega)
        (fun vm₁ _ q hq => by
          have ee : (vp_cell (cy t) ((zz_g f.2.2.2 a).2.2.1, .inl (fun q => Int32.ofNat (zz_at 32 (zz_g f.2.2.2 a).2.2.2 q)))).slots.getD (i.toNatClampNeg + q) .null = .int (Int32.ofNat (zz_at 32 (zz_g f.2.2.2 a).2.2.2 (i.toNatClampNeg + q))) := by
            show (arrV (cy t) (zz_g f.2.2.2 a).2.2.1 (fun q => .int (Int32.ofNat (zz_at 32 (zz_g f.2.2.2 a).2.2.2 q)))).slots.getD (i.toNatClampNeg + q) .null = _
            rw [Array.getD_eq_getD_getElem?, arrV_read _ _ (by omega)]
            rfl
          refine ⟨?_, ?_⟩
          · rw [ee]
            rfl
          · rw [ee]
            exact trivial)
        (g := F0 m pc ls (.int k :: .int j :: .ref (zz_ad z0 sp b) :: .int i :: .ref (zz_ad z0 sp a) :: zz_sv z0 sp r)) rfl (by rw [X.2.2.1]; exact hl.1) (rest := zz_sv z0 sp r) rfl (by rw [X.2.1]; exact hd) (by omega) (by
          have q2 := zz_ble hr
          have q3 : nativeFrameWords "java/lang/System" "arraycopy" 5 + 11 ≤ 45 := by decide +kernel
          show 2 * 0 + ((zz_sv z0 sp r).map (fun v => v.category)).sum + _ ≤ _
          rw [zz_cs_sv]
          omega)
      have ec : copied (vp_cell (cy t) ((zz_g f.2.2.2 a).2.2.1, .inl (fun q => Int32.ofNat (zz_at 32 (zz_g f.2.2.2 a).2.2.2 q)))) (vp_cell (cy t) ((zz_g f.2.2.2 b).2.2.1, .inl (fun q => Int32.ofNat (zz_at 32 (zz_g f.2.2.2 b).2.2.2 q)))) i j k = vp_cell (cy t) ((zz_g f.2.2.2 b).2.2.1, .inl (fun q => Int32.ofNat (zz_at 32 (zz_cp 32 (zz_g f.2.2.2 a).2.2.2 (zz_g f.2.2.2 b).2.2.2 (zz_nI i) (zz_nI j) (zz_nI k)) q))) := by
        have e0 : copied (vp_cell (cy t) ((zz_g f.2.2.2 a).2.2.1, .inl (fun q => Int32.ofNat (zz_at 32 (zz_g f.2.2.2 a).2.2.2 q)))) (vp_cell (cy t) ((zz_g f.2.2.2 b).2.2.1, .inl (fun q => Int32.ofNat (zz_at 32 (zz_g f.2.2.2 b).2.2.2 q)))) i j k = vp_cell (cy t) ((zz_g f.2.2.2 b).2.2.1, .inl (va_cpy (fun q => Int32.ofNat (zz_at 32 (zz_g f.2.2.2 a).2.2.2 q)) (fun q => Int32.ofNat (zz_at 32 (zz_g f.2.2.2 b).2.2.2 q)) i.toNatClampNeg j.toNatClampNeg k.toNatClampNeg)) := va_copied (fun z => .int z) (cy t) (cy t) (fun q => Int32.ofNat (zz_at 32 (zz_g f.2.2.2 a).2.2.2 q)) (fun q => Int32.ofNat (zz_at 32 (zz_g f.2.2.2 b).2.2.2 q)) (by rw [i2, k2]; exact a5)
        rw [e0]
        congr 3
        funext q
        rw [zz_at_cp, i2, j2, k2]
        unfold va_cpy
        by_cases hq : zz_nI j ≤ q ∧ q < zz_nI j + zz_nI k
        · rw [if_pos hq, if_pos hq]
        · rw [if_neg hq, if_neg hq]
      rw [ec] at X' step
      have hlb : zz_ad z0 sp b < H.size := (Array.getElem?_eq_some_iff.mp heb).1
      have hheap : ((T.setVm vm').setCell (zz_ad z0 sp b) (vp_cell (cy t) ((zz_g f.2.2.2 b).2.2.1, .inl (fun q => Int32.ofNat (zz_at 32 (zz_cp 32 (zz_g f.2.2.2 a).2.2.2 (zz_g f.2.2.2 b).2.2.2 (zz_nI i) (zz_nI j) (zz_nI k)) q))))).heap = H.setIfInBounds (zz_ad z0 sp b) (vp_cell (cy t) ((zz_g f.2.2.2 b).2.2.1, .inl (fun q => Int32.ofNat (zz_at 32 (zz_cp 32 (zz_g f.2.2.2 a).2.2.2 (zz_g f.2.2.2 b).2.2.2 (zz_nI i) (zz_nI j) (zz_nI k)) q)))) := by rw [← hT]; rfl
      have oq : ∀ q : Nat, q ≠ zz_ad z0 sp b → (H.setIfInBounds (zz_ad z0 sp b) (vp_cell (cy t) ((zz_g f.2.2.2 b).2.2.1, .inl (fun q => Int32.ofNat (zz_at 32 (zz_cp 32 (zz_g f.2.2.2 a).2.2.2 (zz_g f.2.2.2 b).2.2.2 (zz_nI i) (zz_nI j) (zz_nI k)) q)))))[q]? = H[q]? := fun q hq => by simp [Array.getElem?_setIfInBounds, Ne.symm hq]
      have hz : (H.setIfInBounds (zz_ad z0 sp b) (vp_cell (cy t) ((zz_g f.2.2.2 b).2.2.1, .inl (fun q => Int32.ofNat (zz_at 32 (zz_cp 32 (zz_g f.2.2.2 a).2.2.2 (zz_g f.2.2.2 b).2.2.2 (zz_nI i) (zz_nI j) (zz_nI k)) q))))).size = H.size := by simp
      have hI1 := zz_I_set hI e1 hg (H1 := H.setIfInBounds (zz_ad z0 sp b) (vp_cell (cy t) ((zz_g f.2.2.2 b).2.2.1, .inl (fun q => Int32.ofNat (zz_at 32 (zz_cp 32 (zz_g f.2.2.2 a).2.2.2 (zz_g f.2.2.2 b).2.2.2 (zz_nI i) (zz_nI j) (zz_nI k)) q))))) (by
        rw [zz_e_i (t := t) rfl rfl]
        show (H.setIfInBounds (zz_ad z0 sp b) _)[zz_ad z0 sp b]? = some (vp_cell _ _)
        simp [Array.getElem?_setIfInBounds, hlb]) hz oq
      have kq := fun (locs1 : List Loc) (hS1 : va_S (fun q : Nat => z0 ≤ q) s.heap _ locs1) => kk _ locs1 ls hI1 hS1 hl
      have q1 : w'.1 - n0 = f.2.2.2.1 - n0 := by rw [e1]
      have q2 : w'.2.1 - s0 = f.2.2.2.2.1 - s0 := by rw [e2]
      have kq2 : ∀ (locs1 : List Loc), va_S (fun q : Nat => z0 ≤ q) s.heap _ locs1 → W p l e R s m args below meth c _ locs1 (w'.1 - n0) (w'.2.1 - s0) Q (F0 m (pc + 3) ls (zz_sv z0 sp r)) := kq
      rw [q1, q2] at kq2
      obtain ⟨t', a1, b1⟩ := kq2 _ ⟨by rw [hz]; exact hS.1, fun q g1 g2 => by
          rw [oq q (fun e => g2 (by rw [e]; exact Nat.le_add_right _ _))]
          exact hS.2.1 q g1 g2, fun q hq => by
          rcases List.mem_append.mp hq with h | h
          · exact hS.2.2 q h
          · obtain ⟨z, -, hz⟩ := List.mem_map.mp h
            rw [← hz]
            exact Nat.le_add_right _ _⟩ _ hheap X'
      exact ⟨t', step t' a1, b1⟩
    · cases hf
end ZCP
