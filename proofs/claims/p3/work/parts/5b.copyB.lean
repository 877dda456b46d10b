/-! COPIES OF ROWS OF BYTES: signs below 128 -/
theorem zz_fb7 : ∀ n, n < 128 → fits .byte (.int (Int32.ofNat n)) = true := by decide
theorem zz_fb8 : ∀ m, m < 128 → fits .byte (.int (Int32.ofNat (4294967168 + m))) = true := by decide +kernel
theorem zz_fb9 {v : Nat} (hv : v < 2 ^ 32) (h : v < 128 ∨ 4294967168 ≤ v) : fits .byte (.int (Int32.ofNat v)) = true := by
  rcases h with h | h
  · exact zz_fb7 v h
  · have := zz_fb8 (v - 4294967168) (by omega)
    rw [show 4294967168 + (v - 4294967168) = v by omega] at this
    exact this
/-- k elements of the row N from place i on are bytes -/
def zz_a7 (N i k : Nat) : Bool := Nat.rec true (fun q ih => (Nat.blt (zz_at 32 N (i + q)) 128 || Nat.ble 4294967168 (zz_at 32 N (i + q))) && ih) k
theorem zz_a7_ok {N i : Nat} : ∀ {k : Nat}, zz_a7 N i k = true → ∀ q, q < k → zz_at 32 N (i + q) < 128 ∨ 4294967168 ≤ zz_at 32 N (i + q)
  | 0, _, q, h => absurd h (Nat.not_lt_zero q)
  | k + 1, h, q, hq => by
    obtain ⟨h1, h2⟩ := zz_and (show ((Nat.blt (zz_at 32 N (i + k)) 128 || Nat.ble 4294967168 (zz_at 32 N (i + k))) && zz_a7 N i k) = true from h)
    by_cases e : q = k
    · rw [e]
      rcases Bool.or_eq_true_iff.mp h1 with h1 | h1
      · exact Or.inl (zz_blt h1)
      · exact Or.inr (zz_ble h1)
    · exact zz_a7_ok h2 q (by omega)
theorem zz_al {N i k j : Nat} (h : zz_a7 N i k = true) (q : Nat) (hq : q < k) (hj : j = i + q) : zz_at 32 N j < 128 ∨ 4294967168 ≤ zz_at 32 N j := by rw [hj]; exact zz_a7_ok h q hq
theorem zz_a7_of {N i : Nat} : ∀ {k : Nat}, (∀ q, q < k → zz_at 32 N (i + q) < 128 ∨ 4294967168 ≤ zz_at 32 N (i + q)) → zz_a7 N i k = true
  | 0, _ => rfl
  | k + 1, h => by
    show ((Nat.blt (zz_at 32 N (i + k)) 128 || Nat.ble 4294967168 (zz_at 32 N (i + k))) && zz_a7 N i k) = true
    rw [zz_a7_of fun q hq => h q (by omega)]
    rcases h k (by omega) with e | e
    · rw [show Nat.blt (zz_at 32 N (i + k)) 128 = true from Nat.ble_eq.mpr e]
      rfl
    · rw [show Nat.ble 4294967168 (zz_at 32 N (i + k)) = true from Nat.ble_eq.mpr e, Bool.or_true]
      rfl
section ZCB
variable {l : Launch} {Ts : List Cond} {D : va_G} {cl : List vw_C} {fk : Nat → Nat → Nat} {cy : Nat → ClassId} {z0 : Nat} {sp : Nat → Nat} {tys : List (ClassId × FieldType)} {G : State → Prop} {own mn : String} {nL : Nat} {cc : ByteArray} {d : Nat} {K : zz_K} {pc : Nat}
noncomputable def za_copyB (t n : Nat) : zz_A := fun _ f => match f.2.2.1 with
  | .int k :: .int j :: .ref b :: .int i :: .ref a :: r => cond (zz_ik f.2.2.2 a t (zz_nI i) (zz_nI k) && (zz_ik f.2.2.2 b t (zz_nI j) (zz_nI k) && (Nat.ble (zz_cs r) 8 && zz_a7 (zz_g f.2.2.2 a).2.2.2 (zz_nI i) (zz_nI k))))
      (zz_fN (zz_cp 32 (zz_g f.2.2.2 a).2.2.2 (zz_g f.2.2.2 b).2.2.2 (zz_nI i) (zz_nI j) (zz_nI k)) (fun N => zz_st f.2.2.2 b (0, t, (zz_g f.2.2.2 b).2.2.1, N) none (fun w' => some (n, f.2.1, r, w')))) none
  | _ => none
theorem zo_copyB {t index : Nat} (hd : decode cc pc = .ok (.invokestatic index, 3)) (ht : tys[t]? = some (cy t, .byte)) (hw1 : Cond.methodLink own index arraycopyName ∈ Ts) (hw2 : Cond.native arraycopyName ∈ Ts) (hw3 : Cond.static arraycopyName ∈ Ts) (hw4 : Cond.initialized "java/lang/System" ∈ Ts) : zz_O l Ts D cl fk cy z0 sp tys G own mn nL cc d K pc (za_copyB t (pc + 3)) := by
  refine ⟨fun f f' hf => ?_, ?_⟩
  · unfold za_copyB at hf
    split at hf
    · obtain ⟨-, hf⟩ := zz_cond hf
      rw [zz_fN_eq] at hf
      obtain ⟨w', hk, e1, e2, -⟩ := zz_st_ok hf
      cases hk
      exact ⟨Nat.le_of_eq e1.symm, Nat.le_of_eq e2.symm⟩
    · cases hf
  · intro p e R s m args below meth c X hR1 hR2 H locs n0 s0 Q ls f f' hpc hf hI hS hl hn hs hc1 hc2 kk
    unfold za_copyB at hf
    split at hf
    · rename_i k j b i a r hst
      obtain ⟨hb, hf⟩ := zz_cond hf
      obtain ⟨ha, hb⟩ := zz_and hb
      obtain ⟨hb, hr⟩ := zz_and hb
      obtain ⟨hr, hall⟩ := zz_and hr
      obtain ⟨a1, a2, a3, a4, a5, a6⟩ := zz_ik_ok ha
      obtain ⟨b1, b2, b3, b4, b5, b6⟩ := zz_ik_ok hb
      obtain ⟨i1, i2, i3⟩ := zz_i32 (z := i) (n := (zz_g f.2.2.2 a).2.2.1) (by omega) a6
      obtain ⟨j1, j2, j3⟩ := zz_i32 (z := j) (n := (zz_g f.2.2.2 b).2.2.1) (by omega) b6
      obtain ⟨k1, k2, k3⟩ := zz_i32 (z := k) (n := (zz_g f.2.2.2 b).2.2.1) (by omega) b6
      rw [zz_fN_eq] at hf
      obtain ⟨w', hk, e1, e2, hg⟩ := zz_st_ok hf
      cases hk
      have hea := zz_I_at hI a1
      rw [zz_e_i a3 a4] at hea
      have heb := zz_I_at hI b1
      rw [zz_e_i b3 b4] at heb
      rw [hst]
      show W _ _ _ _ _ _ _ _ _ _ _ _ _ _ _ (F0 m pc ls (Value.int k :: Value.int j :: zz_v z0 sp (.ref b) :: Value.int i :: zz_v z0 sp (.ref a) :: zz_sv z0 sp r))
      rw [zz_v_ref a2, zz_v_ref b2]
      intro T hT XX
      obtain ⟨-, k0, hk0, cm0, hkk0⟩ := (X.2.2.2.2.2.1.2 t _ ht).1 (zz_g f.2.2.2 a).2.2.1 (fun q => .int (Int32.ofNat (zz_at 32 (zz_g f.2.2.2 a).2.2.2 q)))
      obtain ⟨-, k4, hk4, cm4, hkk4⟩ := (X.2.2.2.2.2.1.2 t _ ht).1 (zz_g f.2.2.2 b).2.2.1 (fun q => .int (Int32.ofNat (zz_at 32 (zz_g f.2.2.2 b).2.2.2 q)))
      obtain ⟨vm', X', step⟩ := XX.arraycopy X.1 X.2.2.2.1 (X.2.2.2.2.1 _ hw1) (X.2.2.2.2.1 _ hw2) (X.2.2.2.2.1 _ hw3) (X.2.2.2.2.1 _ hw4) (src := zz_ad z0 sp a) (dst := zz_ad z0 sp b) (cs := (vp_cell (cy t) ((zz_g f.2.2.2 a).2.2.1, .inl (fun q => Int32.ofNat (zz_at 32 (zz_g f.2.2.2 a).2.2.2 q))))) (cd := (vp_cell (cy t) ((zz_g f.2.2.2 b).2.2.1, .inl (fun q => Int32.ofNat (zz_at 32 (zz_g f.2.2.2 b).2.2.2 q))))) (srcPos := i) (destPos := j) (n := k) (by rw [hT]; exact hea) (by rw [hT]; exact heb)
        (fun _ h => by cases h) (fun _ h => by cases h) (fun h => by cases h) (fun h => by cases h) hk0 hk4 hkk0 hkk4 (by simp [refKind]) i1 j1 k1
        (by rw [i3, k3]; show ¬ _ > ((arrV _ _ _).slots.size : Int); rw [arrV_size]; omega)
        (by rw [j3, k3]; show ¬ _ > ((arrV _ _ _).slots.size : Int); rw [arrV_size]; omega)
        (fun vm₁ _ q hq => by
          have ee : (vp_cell (cy t) ((zz_g f.2.2.2 a).2.2.1, .inl (fun q => Int32.ofNat (zz_at 32 (zz_g f.2.2.2 a).2.2.2 q)))).slots.getD (i.toNatClampNeg + q) .null = .int (Int32.ofNat (zz_at 32 (zz_g f.2.2.2 a).2.2.2 (i.toNatClampNeg + q))) := by
            show (arrV (cy t) (zz_g f.2.2.2 a).2.2.1 (fun q => .int (Int32.ofNat (zz_at 32 (zz_g f.2.2.2 a).2.2.2 q)))).slots.getD (i.toNatClampNeg + q) .null = _
            rw [Array.getD_eq_getD_getElem?, arrV_read _ _ (by omega)]
            rfl
          refine ⟨?_, ?_⟩
          · rw [ee]
            exact zz_fb9 (zz_at_lt 32 _ _) (zz_al hall _ (by rw [k2] at hq; exact hq) (by rw [i2]))
          · rw [ee]
            exact trivial)
        (g := F0 m pc ls (.int k :: .int j :: .ref (zz_ad z0 sp b) :: .int i :: .ref (zz_ad z0 sp a) :: zz_sv z0 sp r)) rfl (by rw [X.2.2.1]; exact hl.1) (rest := zz_sv z0 sp r) rfl (by rw [X.2.1]; exact hd) (by omega) (by
          have q2 := zz_ble hr
          have q3 : nativeFrameWords "java/lang/System" "arraycopy" 5 + 11 ≤ 45 := by decide +kernel
          show 2 * 0 + ((zz_sv z0 sp r).map (fun v => v.category)).sum + _ ≤ _
          rw [zz_cs_sv]
          omega)
      have ec : copied (vp_cell (cy t) ((zz_g f.2.2.2 a).2.2.1, .inl (fun q => Int32.ofNat (zz_at 32 (zz_g f.2.2.2 a).2.2.2 q)))) (vp_cell (cy t) ((zz_g f.2.2.2 b).2.2.1, .inl (fun q => Int32.ofNat (zz_at 32 (zz_g f.2.2.2 b).2.2.2 q)))) i j k = vp_cell (cy t) ((zz_g f.2.2.2 b).2.2.1, .inl (fun q => Int32.ofNat (zz_at 32 (zz_cp 32 (zz_g f.2.2.2 a).2.2.2 (zz_g f.2.2.2 b).2.2.2 (zz_nI i) (zz_nI j) (zz_nI k)) q))) := by
        have e0 : copied (vp_cell (cy t) ((zz_g f.2.2.2 a).2.2.1, .inl (fun q => Int32.ofNat (zz_at 32 (zz_g f.2.2.2 a).2.2.2 q)))) (vp_cell (cy t) ((zz_g f.2.2.2 b).2.2.1, .inl (fun q => Int32.ofNat (zz_at 32 (zz_g f.2.2.2 b).2.2.2 q)))) i j k = vp_cell (cy t) ((zz_g f.2.2.2 b).2.2.1, .inl (va_cpy (fun q => Int32.ofNat (zz_at 32 (zz_g f.2.2.2 a).2.2.2 q)) (fun q => Int32.ofNat (zz_at 32 (zz_g f.2.2.2 b).2.2.2 q)) i.toNatClampNeg j.toNatClampNeg k.toNatClampNeg)) := va_copied (fun z => .int z) (cy t) (cy t) (fun q => Int32.ofNat (zz_at 32 (zz_g f.2.2.2 a).2.2.2 q)) (fun q => Int32.ofNat (zz_at 32 (zz_g f.2.2.2 b).2.2.2 q)) (by rw [i2, k2]; exact a5)
        rw [e0]
        congr 3
        funext q
        rw [zz_at_cp, i2, j2, k2]
        unfold va_cpy
        by_cases hq : zz_nI j ≤ q ∧ q < zz_nI j + zz_nI k
        · rw [if_pos hq, if_pos hq]
        · rw [if_neg hq, if_neg hq]
      rw [ec] at X' step
      have hlb : zz_ad z0 sp b < H.size := (Array.getElem?_eq_some_iff.mp heb).1
      have hheap : ((T.setVm vm').setCell (zz_ad z0 sp b) (vp_cell (cy t) ((zz_g f.2.2.2 b).2.2.1, .inl (fun q => Int32.ofNat (zz_at 32 (zz_cp 32 (zz_g f.2.2.2 a).2.2.2 (zz_g f.2.2.2 b).2.2.2 (zz_nI i) (zz_nI j) (zz_nI k)) q))))).heap = H.setIfInBounds (zz_ad z0 sp b) (vp_cell (cy t) ((zz_g f.2.2.2 b).2.2.1, .inl (fun q => Int32.ofNat (zz_at 32 (zz_cp 32 (zz_g f.2.2.2 a).2.2.2 (zz_g f.2.2.2 b).2.2.2 (zz_nI i) (zz_nI j) (zz_nI k)) q)))) := by rw [← hT]; rfl
      have oq : ∀ q : Nat, q ≠ zz_ad z0 sp b → (H.setIfInBounds (zz_ad z0 sp b) (vp_cell (cy t) ((zz_g f.2.2.2 b).2.2.1, .inl (fun q => Int32.ofNat (zz_at 32 (zz_cp 32 (zz_g f.2.2.2 a).2.2.2 (zz_g f.2.2.2 b).2.2.2 (zz_nI i) (zz_nI j) (zz_nI k)) q)))))[q]? = H[q]? := fun q hq => by simp [Array.getElem?_setIfInBounds, Ne.symm hq]
      have hz : (H.setIfInBounds (zz_ad z0 sp b) (vp_cell (cy t) ((zz_g f.2.2.2 b).2.2.1, .inl (fun q => Int32.ofNat (zz_at 32 (zz_cp 32 (zz_g f.2.2.2 a).2.2.2 (zz_g f.2.2.2 b).2.2.2 (zz_nI i) (zz_nI j) (zz_nI k)) q))))).size = H.size := by simp
      have hI1 := zz_I_set hI e1 hg (H1 := H.setIfInBounds (zz_ad z0 sp b) (vp_cell (cy t) ((zz_g f.2.2.2 b).2.2.1, .inl (fun q => Int32.ofNat (zz_at 32 (zz_cp 32 (zz_g f.2.2.2 a).2.2.2 (zz_g f.2.2.2 b).2.2.2 (zz_nI i) (zz_nI j) (zz_nI k)) q))))) (by
        rw [zz_e_i (t := t) rfl rfl]
        show (H.setIfInBounds (zz_ad z0 sp b) _)[zz_ad z0 sp b]? = some (vp_cell _ _)
        simp [Array.getElem?_setIfInBounds, hlb]) hz oq
      have kq := fun (locs1 : List Loc) (hS1 : va_S (fun q : Nat => z0 ≤ q) s.heap _ locs1) => kk _ locs1 ls hI1 hS1 hl
      have q1 : w'.1 - n0 = f.2.2.2.1 - n0 := by rw [e1]
      have q2 : w'.2.1 - s0 = f.2.2.2.2.1 - s0 := by rw [e2]
      have kq2 : ∀ (locs1 : List Loc), va_S (fun q : Nat => z0 ≤ q) s.heap _ locs1 → W p l e R s m args below meth c _ locs1 (w'.1 - n0) (w'.2.1 - s0) Q (F0 m (pc + 3) ls (zz_sv z0 sp r)) := kq
      rw [q1, q2] at kq2
      obtain ⟨t', a1, b1⟩ := kq2 _ ⟨by rw [hz]; exact hS.1, fun q g1 g2 => by
          rw [oq q (fun e => g2 (by rw [e]; exact Nat.le_add_right _ _))]
          exact hS.2.1 q g1 g2, fun q hq => by
          rcases List.mem_append.mp hq with h | h
          · exact hS.2.2 q h
          · obtain ⟨z, -, hz⟩ := List.mem_map.mp h
            rw [← hz]
            exact Nat.le_add_right _ _⟩ _ hheap X'
      exact ⟨t', step t' a1, b1⟩
    · cases hf
/-- a row's first k elements out of a table -/
def zz_kN (g : Nat → Nat → Option Nat) (a i k : Nat) : Nat := Nat.rec 0 (fun q ih => zz_to 32 ih q ((g a (i + q)).getD 0)) k
/-- .. all there, below 128 -/
def zz_k7 (g : Nat → Nat → Option Nat) (a i k : Nat) : Bool := Nat.rec true (fun q ih => (match g a (i + q) with | some v => Nat.blt v 128 | none => false) && ih) k
theorem zz_k7_ok {g : Nat → Nat → Option Nat} {a i : Nat} : ∀ {k : Nat}, zz_k7 g a i k = true → ∀ q, q < k → ∃ v, g a (i + q) = some v ∧ v < 128
  | 0, _, q, h => absurd h (Nat.not_lt_zero q)
  | k + 1, h, q, hq => by
    obtain ⟨h1, h2⟩ := zz_and (show ((match g a (i + k) with | some v => Nat.blt v 128 | none => false) && zz_k7 g a i k) = true from h)
    by_cases e : q = k
    · rw [e]
      split at h1
      · rename_i v hv
        exact ⟨v, hv, zz_blt h1⟩
      · cases h1
    · exact zz_k7_ok h2 q (by omega)
theorem zz_kN_at {g : Nat → Nat → Option Nat} {a i : Nat} : ∀ {k : Nat}, zz_k7 g a i k = true → ∀ q, q < k → zz_at 32 (zz_kN g a i k) q = (g a (i + q)).getD 0
  | 0, _, q, h => absurd h (Nat.not_lt_zero q)
  | k + 1, h, q, hq => by
    obtain ⟨v, hv, hlt⟩ := zz_k7_ok h k (by omega)
    obtain ⟨-, h2⟩ := zz_and (show ((match g a (i + k) with | some v => Nat.blt v 128 | none => false) && zz_k7 g a i k) = true from h)
    show zz_at 32 (zz_to 32 (zz_kN g a i k) k ((g a (i + k)).getD 0)) q = _
    rw [zz_at_to (by rw [hv]; show v < 2 ^ 32; omega)]
    by_cases e : q = k
    · rw [if_pos e, e]
    · rw [if_neg e]
      exact zz_kN_at h2 q (by omega)
noncomputable def za_copyK (ge : Nat → Nat → Option Nat) (t n : Nat) : zz_A := fun _ f => match f.2.2.1 with
  | .int k :: .int j :: .ref b :: .int i :: .ref a :: r => cond (zz_k7 ge a (zz_nI i) (zz_nI k) && (zz_ik f.2.2.2 b t (zz_nI j) (zz_nI k) && (Nat.ble (zz_cs r) 8 && (Nat.blt 0 (zz_nI k) && Nat.beq (zz_nI i) 0))))
      (zz_fN (zz_cp 32 (zz_kN ge a (zz_nI i) (zz_nI k)) (zz_g f.2.2.2 b).2.2.2 0 (zz_nI j) (zz_nI k)) (fun N => zz_st f.2.2.2 b (0, t, (zz_g f.2.2.2 b).2.2.1, N) none (fun w' => some (n, f.2.1, r, w')))) none
  | _ => none
theorem zo_copyK {t index : Nat} {ge : Nat → Nat → Option Nat} (hge : zz_KR G z0 sp .byte ge) (hd : decode cc pc = .ok (.invokestatic index, 3)) (ht : tys[t]? = some (cy t, .byte)) (hw1 : Cond.methodLink own index arraycopyName ∈ Ts) (hw2 : Cond.native arraycopyName ∈ Ts) (hw3 : Cond.static arraycopyName ∈ Ts) (hw4 : Cond.initialized "java/lang/System" ∈ Ts) : zz_O l Ts D cl fk cy z0 sp tys G own mn nL cc d K pc (za_copyK ge t (pc + 3)) := by
  refine ⟨fun f f' hf => ?_, ?_⟩
  · unfold za_copyK at hf
    split at hf
    · obtain ⟨-, hf⟩ := zz_cond hf
      rw [zz_fN_eq] at hf
      obtain ⟨w', hk, e1, e2, -⟩ := zz_st_ok hf
      cases hk
      exact ⟨Nat.le_of_eq e1.symm, Nat.le_of_eq e2.symm⟩
    · cases hf
  · intro p e R s m args below meth c X hR1 hR2 H locs n0 s0 Q ls f f' hpc hf hI hS hl hn hs hc1 hc2 kk
    unfold za_copyK at hf
    split at hf
    · rename_i k j b i a r hst
      obtain ⟨hb, hf⟩ := zz_cond hf
      obtain ⟨ha, hb⟩ := zz_and hb
      obtain ⟨hb, hr⟩ := zz_and hb
      obtain ⟨hr, hk0⟩ := zz_and hr
      obtain ⟨hk0, hi9⟩ := zz_and hk0
      have hk0 := zz_blt hk0
      have hi9 : zz_nI i = 0 := Nat.eq_of_beq_eq_true hi9
      obtain ⟨b1, b2, b3, b4, b5, b6⟩ := zz_ik_ok hb
      obtain ⟨i1, i2, i3⟩ := zz_i32 (z := i) (n := 100000) (by omega) (by decide)
      obtain ⟨j1, j2, j3⟩ := zz_i32 (z := j) (n := (zz_g f.2.2.2 b).2.2.1) (by omega) b6
      obtain ⟨k1, k2, k3⟩ := zz_i32 (z := k) (n := (zz_g f.2.2.2 b).2.2.1) (by omega) b6
      rw [zz_fN_eq] at hf
      obtain ⟨w', hk, e1, e2, hg⟩ := zz_st_ok hf
      cases hk
      -- the source: one cell, whatever place is looked at
      have hgs := X.2.2.2.2.2.2.2.2
      obtain ⟨v0, hv0, -⟩ := zz_k7_ok ha 0 hk0
      obtain ⟨N0, h0, hT0, -, -, -⟩ := hge _ _ _ hv0
      obtain ⟨scr, hs1, hs2, hs3, -, -, -, hs7⟩ := hT0 s hgs
      have hslot : ∀ q, q < zz_nI k → ∃ v, ge a (zz_nI i + q) = some v ∧ v < 128 ∧ scr.slots[zz_nI i + q]? = some (.int (Int32.ofNat v)) := by
        intro q hq
        obtain ⟨v, hv, hlt⟩ := zz_k7_ok ha q hq
        obtain ⟨N1, h1, hT1, hj1, -, e9⟩ := hge _ _ _ hv
        obtain ⟨scr1, g1, -, -, -, -, g6, -⟩ := hT1 s hgs
        cases Option.some.inj (hs1.symm.trans g1)
        exact ⟨v, hv, hlt, by rw [g6 _ hj1, e9]⟩
      have hsz : zz_nI i + zz_nI k ≤ scr.slots.size := by
        obtain ⟨v, -, -, h9⟩ := hslot (zz_nI k - 1) (by omega)
        have := (Array.getElem?_eq_some_iff.mp h9).1
        omega
      have hea : H[zz_r z0 sp a]? = some scr := by rw [hS.2.1 _ (Array.getElem?_eq_some_iff.mp hs1).1 hs7]; exact hs1
      have heb := zz_I_at hI b1
      rw [zz_e_i b3 b4] at heb
      rw [hst]
      show W _ _ _ _ _ _ _ _ _ _ _ _ _ _ _ (F0 m pc ls (Value.int k :: Value.int j :: zz_v z0 sp (.ref b) :: Value.int i :: Value.ref (zz_r z0 sp a) :: zz_sv z0 sp r))
      rw [zz_v_ref b2]
      intro T hT XX
      obtain ⟨hs6, k0, hk0', cm0, hkk0⟩ := hs2
      obtain ⟨-, k4, hk4, cm4, hkk4⟩ := (X.2.2.2.2.2.1.2 t _ ht).1 (zz_g f.2.2.2 b).2.2.1 (fun q => .int (Int32.ofNat (zz_at 32 (zz_g f.2.2.2 b).2.2.2 q)))
      obtain ⟨vm', X', step⟩ := XX.arraycopy X.1 X.2.2.2.1 (X.2.2.2.2.1 _ hw1) (X.2.2.2.2.1 _ hw2) (X.2.2.2.2.1 _ hw3) (X.2.2.2.2.1 _ hw4) (src := zz_r z0 sp a) (dst := zz_ad z0 sp b) (cs := scr) (cd := (vp_cell (cy t) ((zz_g f.2.2.2 b).2.2.1, .inl (fun q => Int32.ofNat (zz_at 32 (zz_g f.2.2.2 b).2.2.2 q))))) (srcPos := i) (destPos := j) (n := k) (by rw [hT]; exact hea) (by rw [hT]; exact heb)
        hs6 (fun _ h => by cases h) hs3 (fun h => by cases h) hk0' hk4 hkk0 hkk4 (by simp [refKind]) i1 j1 k1
        (by rw [i3, k3]; omega)
        (by rw [j3, k3]; show ¬ _ > ((arrV _ _ _).slots.size : Int); rw [arrV_size]; omega)
        (fun vm₁ _ q hq => by
          obtain ⟨v, -, hlt, h9⟩ := hslot q (by rw [k2] at hq; exact hq)
          have ee : scr.slots.getD (i.toNatClampNeg + q) .null = .int (Int32.ofNat v) := by
            rw [Array.getD_eq_getD_getElem?, i2, h9]
            rfl
          refine ⟨?_, ?_⟩
          · rw [ee]
            exact zz_fb7 _ hlt
          · rw [ee]
            exact trivial)
        (g := F0 m pc ls (.int k :: .int j :: .ref (zz_ad z0 sp b) :: .int i :: .ref (zz_r z0 sp a) :: zz_sv z0 sp r)) rfl (by rw [X.2.2.1]; exact hl.1) (rest := zz_sv z0 sp r) rfl (by rw [X.2.1]; exact hd) (by omega) (by
          have q2 := zz_ble hr
          have q3 : nativeFrameWords "java/lang/System" "arraycopy" 5 + 11 ≤ 45 := by decide +kernel
          show 2 * 0 + ((zz_sv z0 sp r).map (fun v => v.category)).sum + _ ≤ _
          rw [zz_cs_sv]
          omega)
      have ec : copied scr (vp_cell (cy t) ((zz_g f.2.2.2 b).2.2.1, .inl (fun q => Int32.ofNat (zz_at 32 (zz_g f.2.2.2 b).2.2.2 q)))) i j k = vp_cell (cy t) ((zz_g f.2.2.2 b).2.2.1, .inl (fun q => Int32.ofNat (zz_at 32 (zz_cp 32 (zz_kN ge a (zz_nI i) (zz_nI k)) (zz_g f.2.2.2 b).2.2.2 0 (zz_nI j) (zz_nI k)) q))) := by
        have e0 : copied scr (vp_cell (cy t) ((zz_g f.2.2.2 b).2.2.1, .inl (fun q => Int32.ofNat (zz_at 32 (zz_g f.2.2.2 b).2.2.2 q)))) i j k = vp_cell (cy t) ((zz_g f.2.2.2 b).2.2.1, .inl (va_cpy (fun q => Int32.ofNat ((ge a q).getD 0)) (fun q => Int32.ofNat (zz_at 32 (zz_g f.2.2.2 b).2.2.2 q)) i.toNatClampNeg j.toNatClampNeg k.toNatClampNeg)) := va_copiedX (fun z => .int z) scr (cy t) (n0 := zz_nI k) (fun q => Int32.ofNat ((ge a q).getD 0)) (fun q => Int32.ofNat (zz_at 32 (zz_g f.2.2.2 b).2.2.2 q)) (fun q hq => by
          obtain ⟨v, hv, -, h9⟩ := hslot q hq
          rw [hi9, Nat.zero_add] at h9 hv
          rw [h9, hv]
          rfl) (by rw [i2, k2, hi9]; omega)
        rw [e0]
        congr 3
        funext q
        rw [zz_at_cp, i2, j2, k2]
        unfold va_cpy
        by_cases hq : zz_nI j ≤ q ∧ q < zz_nI j + zz_nI k
        · rw [if_pos hq, if_pos hq, Nat.zero_add, zz_kN_at ha _ (by omega)]
        · rw [if_neg hq, if_neg hq]
      rw [ec] at X' step
      have hlb : zz_ad z0 sp b < H.size := (Array.getElem?_eq_some_iff.mp heb).1
      have hheap : ((T.setVm vm').setCell (zz_ad z0 sp b) (vp_cell (cy t) ((zz_g f.2.2.2 b).2.2.1, .inl (fun q => Int32.ofNat (zz_at 32 (zz_cp 32 (zz_kN ge a (zz_nI i) (zz_nI k)) (zz_g f.2.2.2 b).2.2.2 0 (zz_nI j) (zz_nI k)) q))))).heap = H.setIfInBounds (zz_ad z0 sp b) (vp_cell (cy t) ((zz_g f.2.2.2 b).2.2.1, .inl (fun q => Int32.ofNat (zz_at 32 (zz_cp 32 (zz_kN ge a (zz_nI i) (zz_nI k)) (zz_g f.2.2.2 b).2.2.2 0 (zz_nI j) (zz_nI k)) q)))) := by rw [← hT]; rfl
      have oq : ∀ q : Nat, q ≠ zz_ad z0 sp b → (H.setIfInBounds (zz_ad z0 sp b) (vp_cell (cy t) ((zz_g f.2.2.2 b).2.2.1, .inl (fun q => Int32.ofNat (zz_at 32 (zz_cp 32 (zz_kN ge a (zz_nI i) (zz_nI k)) (zz_g f.2.2.2 b).2.2.2 0 (zz_nI j) (zz_nI k)) q)))))[q]? = H[q]? := fun q hq => by simp [Array.getElem?_setIfInBounds, Ne.symm hq]
      have hz : (H.setIfInBounds (zz_ad z0 sp b) (vp_cell (cy t) ((zz_g f.2.2.2 b).2.2.1, .inl (fun q => Int32.ofNat (zz_at 32 (zz_cp 32 (zz_kN ge a (zz_nI i) (zz_nI k)) (zz_g f.2.2.2 b).2.2.2 0 (zz_nI j) (zz_nI k)) q))))).size = H.size := by simp
      have hI1 := zz_I_set hI e1 hg (H1 := H.setIfInBounds (zz_ad z0 sp b) (vp_cell (cy t) ((zz_g f.2.2.2 b).2.2.1, .inl (fun q => Int32.ofNat (zz_at 32 (zz_cp 32 (zz_kN ge a (zz_nI i) (zz_nI k)) (zz_g f.2.2.2 b).2.2.2 0 (zz_nI j) (zz_nI k)) q))))) (by
        rw [zz_e_i (t := t) rfl rfl]
        show (H.setIfInBounds (zz_ad z0 sp b) _)[zz_ad z0 sp b]? = some (vp_cell _ _)
        simp [Array.getElem?_setIfInBounds, hlb]) hz oq
      have kq := fun (locs1 : List Loc) (hS1 : va_S (fun q : Nat => z0 ≤ q) s.heap _ locs1) => kk _ locs1 ls hI1 hS1 hl
      have q1 : w'.1 - n0 = f.2.2.2.1 - n0 := by rw [e1]
      have q2 : w'.2.1 - s0 = f.2.2.2.2.1 - s0 := by rw [e2]
      have kq2 : ∀ (locs1 : List Loc), va_S (fun q : Nat => z0 ≤ q) s.heap _ locs1 → W p l e R s m args below meth c _ locs1 (w'.1 - n0) (w'.2.1 - s0) Q (F0 m (pc + 3) ls (zz_sv z0 sp r)) := kq
      rw [q1, q2] at kq2
      obtain ⟨t', a1, b1⟩ := kq2 _ ⟨by rw [hz]; exact hS.1, fun q g1 g2 => by
          rw [oq q (fun e => g2 (by rw [e]; exact Nat.le_add_right _ _))]
          exact hS.2.1 q g1 g2, fun q hq => by
          rcases List.mem_append.mp hq with h | h
          · exact hS.2.2 q h
          · obtain ⟨z, -, hz⟩ := List.mem_map.mp h
            rw [← hz]
            exact Nat.le_add_right _ _⟩ _ hheap X'
      exact ⟨t', step t' a1, b1⟩
    · cases hf
variable {n p : Nat} {lv : List (Nat × Value)} {r : List Value} {w : zz_W}
end ZCB
