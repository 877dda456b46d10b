/-! WHAT STOOD THERE BEFORE: texts, constant rows, statics; rows of references -/
section ZK
variable {l : Launch} {Ts : List Cond} {D : va_G} {cl : List vw_C} {fk : Nat → Nat → Nat} {cy : Nat → ClassId} {z0 : Nat} {sp : Nat → Nat} {tys : List (ClassId × FieldType)} {G : State → Prop} {own mn : String} {nL : Nat} {cc : ByteArray} {d : Nat} {K : zz_K} {pc : Nat}
theorem zo_ldcS {index k : Nat} {tx : String} (hd : decode cc pc = .ok (.ldc index, 2)) (hR : ∀ U, G U → vk_R own index tx (sp k) U) : zz_O l Ts D cl fk cy z0 sp tys G own mn nL cc d K pc (za_const (.ref (1000000 + k)) (pc + 2)) :=
  zo_still (fun f f' _ hf => by
    cases hf
    refine ⟨rfl, fun p e R s m args below meth c H locs cells slots Q ls X hS hl kk => ?_⟩
    have k1 := kk ls hl
    have e1 : zz_sv z0 sp (Value.ref (1000000 + k) :: f.2.2.1) = .ref (sp k) :: zz_sv z0 sp f.2.2.1 := by
      show Value.ref (zz_r z0 sp (1000000 + k)) :: _ = _
      rw [zz_r, if_neg (by omega), show 1000000 + k - 1000000 = k by omega]
      rfl
    rw [e1] at k1
    exact va_ldcS X.1 X.2.1 X.2.2.2.1 (hR s X.2.2.2.2.2.2.2.2) hd k1) (fun f f' hf => by cases hf; rfl)
/-- getstatic of what is known -/
theorem zo_gets {index : Nat} {C n ds : String} {v : Value} (hd : decode cc pc = .ok (.getstatic index, 3)) (hw : Cond.fieldLink own index C n ds ∈ Ts) (hZ : ∀ U, G U → va_Z C n ds (zz_v z0 sp v) (fun q : Nat => z0 ≤ q) U U.heap) : zz_O l Ts D cl fk cy z0 sp tys G own mn nL cc d K pc (za_const v (pc + 3)) :=
  zo_still (fun f f' _ hf => by
    cases hf
    refine ⟨rfl, fun p e R s m args below meth c H locs cells slots Q ls X hS hl kk => ?_⟩
    exact va_gets X.1 X.2.1 (hZ s X.2.2.2.2.2.2.2.2) hS X.2.2.2.1 (X.2.2.2.2.1 _ hw) (fun _ h => h) hd (kk ls hl)) (fun f f' hf => by cases hf; rfl)
theorem zo_getsN {index : Nat} {C n ds host : String} {v : Value} (hd : decode cc pc = .ok (.getstatic index, 3)) (hw : ∀ U, G U → va_Nw (.fieldLinkNest own index C n ds host) U) (hZ : ∀ U, G U → va_Z C n ds (zz_v z0 sp v) (fun q : Nat => z0 ≤ q) U U.heap) : zz_O l Ts D cl fk cy z0 sp tys G own mn nL cc d K pc (za_const v (pc + 3)) :=
  zo_still (fun f f' _ hf => by
    cases hf
    refine ⟨rfl, fun p e R s m args below meth c H locs cells slots Q ls X hS hl kk => ?_⟩
    exact va_getsN X.1 X.2.1 (hZ s X.2.2.2.2.2.2.2.2) hS X.2.2.2.1 (va_Nw.use rfl (hw s X.2.2.2.2.2.2.2.2)) (fun _ h => h) hd (kk ls hl)) (fun f f' hf => by cases hf; rfl)
/-- a field of a thing that stood there before -/
def za_kf (g : Nat → Option Value) (n : Nat) : zz_A := fun _ f => match f.2.2.1 with
  | .ref i :: r => match g i with
    | some v => some (n, f.2.1, v :: r, f.2.2.2)
    | none => none
  | _ => none
theorem zo_kf {g : Nat → Option Value} {index : Nat} {o n ds : String} (hd : decode cc pc = .ok (.getfield index, 3)) (hw : Cond.fieldLink own index o n ds ∈ Ts) (hg : ∀ i v, g i = some v → ∀ U, G U → va_OF o n ds (zz_v z0 sp v) (zz_r z0 sp i) (fun q : Nat => z0 ≤ q) U U.heap) : zz_O l Ts D cl fk cy z0 sp tys G own mn nL cc d K pc (za_kf g (pc + 3)) :=
  zo_still (fun f f' _ hf => by
    unfold za_kf at hf
    split at hf
    · rename_i i r hst
      split at hf
      · rename_i v hv
        cases hf
        refine ⟨rfl, fun p e R s m args below meth c H locs cells slots Q ls X hS hl kk => ?_⟩
        rw [hst]
        exact vk_getf X.1 X.2.1 (hg i v hv s X.2.2.2.2.2.2.2.2) hS X.2.2.2.1 (X.2.2.2.2.1 _ hw) (fun _ h => h) hd (kk ls hl)
      · cases hf
    · cases hf) (fun f f' hf => by
    unfold za_kf at hf
    split at hf
    · split at hf
      · cases hf
        rfl
      · cases hf
    · cases hf)
/-- a place of a constant row -/
noncomputable def za_kl (g : Nat → Nat → Option Nat) (n : Nat) : zz_A := fun _ f => match f.2.2.1 with
  | .int j :: .ref i :: r => match g i (zz_nI j) with
    | some v => zz_fN v (fun v => some (n, f.2.1, .int (Int32.ofNat v) :: r, f.2.2.2))
    | none => none
  | _ => none
/-- what is known of a constant row of elements ty, by its numbers -/
def zz_KR (G : State → Prop) (z0 : Nat) (sp : Nat → Nat) (ty : FieldType) (g : Nat → Nat → Option Nat) : Prop := ∀ i j v, g i j = some v → ∃ (N : Nat) (h : Nat → Value), (∀ U, G U → va_T ty (zz_r z0 sp i) N h (fun q : Nat => z0 ≤ q) U U.heap) ∧ j < N ∧ N ≤ 2147483648 ∧ h j = .int (Int32.ofNat v)
theorem zo_kli {g : Nat → Nat → Option Nat} (hd : decode cc pc = .ok (.iaload, 1)) (hg : zz_KR G z0 sp .int g) : zz_O l Ts D cl fk cy z0 sp tys G own mn nL cc d K pc (za_kl g (pc + 1)) :=
  zo_still (fun f f' _ hf => by
    unfold za_kl at hf
    split at hf
    · rename_i j i r hst
      split at hf
      · rename_i v hv
        rw [zz_fN_eq] at hf
        cases hf
        refine ⟨rfl, fun p e R s m args below meth c H locs cells slots Q ls X hS hl kk => ?_⟩
        obtain ⟨N, h, h1, h2, h3, h4⟩ := hg _ _ _ hv
        obtain ⟨hin, hcl⟩ := zz_idx h2 h3
        rw [hst]
        exact va_ti X.1 X.2.1 (h1 s X.2.2.2.2.2.2.2.2) hS hin (v := .int (Int32.ofNat v)) (by rw [hcl]; exact h4) hd (kk ls hl)
      · cases hf
    · cases hf) (fun f f' hf => by
    unfold za_kl at hf
    split at hf
    · split at hf
      · rw [zz_fN_eq] at hf
        cases hf
        rfl
      · cases hf
    · cases hf)
theorem zo_klb {g : Nat → Nat → Option Nat} (hd : decode cc pc = .ok (.baload, 1)) (hg : zz_KR G z0 sp .byte g) : zz_O l Ts D cl fk cy z0 sp tys G own mn nL cc d K pc (za_kl g (pc + 1)) :=
  zo_still (fun f f' _ hf => by
    unfold za_kl at hf
    split at hf
    · rename_i j i r hst
      split at hf
      · rename_i v hv
        rw [zz_fN_eq] at hf
        cases hf
        refine ⟨rfl, fun p e R s m args below meth c H locs cells slots Q ls X hS hl kk => ?_⟩
        obtain ⟨N, h, h1, h2, h3, h4⟩ := hg _ _ _ hv
        obtain ⟨hin, hcl⟩ := zz_idx h2 h3
        rw [hst]
        exact va_tb X.1 X.2.1 (h1 s X.2.2.2.2.2.2.2.2) hS hin (v := .int (Int32.ofNat v)) (by rw [hcl]; exact h4) hd (kk ls hl)
      · cases hf
    · cases hf) (fun f f' hf => by
    unfold za_kl at hf
    split at hf
    · split at hf
      · rw [zz_fN_eq] at hf
        cases hf
        rfl
      · cases hf
    · cases hf)
/-- a constant row's length -/
noncomputable def za_kn (g : Nat → Option Nat) (n : Nat) : zz_A := fun _ f => match f.2.2.1 with
  | .ref i :: r => match g i with
    | some v => zz_fN v (fun v => some (n, f.2.1, .int (Int32.ofNat v) :: r, f.2.2.2))
    | none => none
  | _ => none
theorem zo_kn {g : Nat → Option Nat} (hd : decode cc pc = .ok (.arraylength, 1)) (hg : ∀ i v, g i = some v → ∃ (ty : FieldType) (h : Nat → Value), ∀ U, G U → va_T ty (zz_r z0 sp i) v h (fun q : Nat => z0 ≤ q) U U.heap) : zz_O l Ts D cl fk cy z0 sp tys G own mn nL cc d K pc (za_kn g (pc + 1)) :=
  zo_still (fun f f' _ hf => by
    unfold za_kn at hf
    split at hf
    · rename_i i r hst
      split at hf
      · rename_i v hv
        rw [zz_fN_eq] at hf
        cases hf
        refine ⟨rfl, fun p e R s m args below meth c H locs cells slots Q ls X hS hl kk => ?_⟩
        obtain ⟨ty, h, h1⟩ := hg _ _ hv
        rw [hst]
        exact va_tlen X.1 X.2.1 (h1 s X.2.2.2.2.2.2.2.2) hS rfl hd (kk ls hl)
      · cases hf
    · cases hf) (fun f f' hf => by
    unfold za_kn at hf
    split at hf
    · split at hf
      · rw [zz_fN_eq] at hf
        cases hf
        rfl
      · cases hf
    · cases hf)
/-- a new row of references -/
noncomputable def za_newq (t n : Nat) : zz_A := fun _ f => match f.2.2.1 with
  | .int x :: r => zz_fN (zz_nI x) (fun N => cond (Nat.ble N 1000000) (zz_nw f.2.2.2 (2, t, N, 0) N (fun w => some (n, f.2.1, .ref f.2.2.2.1 :: r, w))) none)
  | _ => none
theorem zo_newq (hsp0 : sp 18446744073709551616 = 0) {t index : Nat} {C : String} (hd : decode cc pc = .ok (.anewarray index, 3)) (hw1 : Cond.classLink own index C ∈ Ts) (hao : ∀ U, G U → va_AO C U) (ht : tys[t]? = some (cy t, .object C)) : zz_O l Ts D cl fk cy z0 sp tys G own mn nL cc d K pc (za_newq t (pc + 3)) := by
  refine zo_born hsp0 (fun f f' _ hf => ?_) (fun f f' hf => ?_)
  · unfold za_newq at hf
    split at hf
    · rename_i x r hst
      rw [zz_fN_eq] at hf
      obtain ⟨hx, hf⟩ := zz_cond hf
      have hx := zz_ble hx
      obtain ⟨hn, w', hk1, e1, e2, hg⟩ := zz_nw_ok hf
      cases hk1
      refine ⟨_, _, e1, e2, rfl, hg, fun p e R s m args below meth c H locs cells slots Q ls X hI hc1 hc2 kk => ?_⟩
      have h1 : zz_nI x < 1000001 := by omega
      obtain ⟨hin, hcl2⟩ := zz_idx h1 (by decide)
      rw [hst]
      show W _ _ _ _ _ _ _ _ _ _ _ _ _ _ _ (F0 m pc ls (Value.int x :: zz_sv z0 sp r))
      refine W.anew X.1 X.2.1 X.2.2.2.1 (X.2.2.2.2.1 _ hw1) (va_AO.use (hao s X.2.2.2.2.2.2.2.2)) rfl hd rfl (fun q => hin (Or.inl q)) (by rw [hcl2]; omega) hc1 (by rw [hcl2]; exact hc2) fun cA kA comp f1 f2 f3 f4 => ?_
      obtain ⟨kA', comp', k1, k2, k3, k4⟩ := (X.2.2.2.2.2.1.2 t _ ht).2
      have hcA : cA = cy t := Option.some.inj (f1.symm.trans k4)
      subst hcA
      rw [hcl2]
      generalize hH1 : H.push ({ cls := cy t, slots := Array.replicate (zz_nI x) .null, vm := .none } : Cell) = H1
      have z1 : H1.size = H.size + 1 := by rw [← hH1, Array.size_push]
      have g1 : H1[H.size]? = some (arrV (cy t) (zz_nI x) (fun _ => .null)) := by rw [← hH1, Array.getElem?_push_size, ← arrV_new]
      have o1 : ∀ q : Nat, q < H.size → H1[q]? = H[q]? := fun q hq => by rw [← hH1, Array.getElem?_push, if_neg (Nat.ne_of_lt hq)]
      have k5 := kk H1 z1 o1 (by
        rw [zz_e_q (t := t) rfl rfl, ← hI.1]
        show H1[H.size]? = some (vp_cell _ _)
        rw [g1, vp_cell_q]
        congr 2
        funext q
        rw [zz_at_0]
        rfl)
      have hv : zz_sv z0 sp (Value.ref f.2.2.2.1 :: r) = Value.ref H.size :: zz_sv z0 sp r := by
        show zz_v z0 sp (Value.ref f.2.2.2.1) :: zz_sv z0 sp r = _
        rw [zz_v_ref hn, zz_ad_0 hsp0, hI.1]
      have k6 : W p l e R s m args below meth c H1 locs (cells + 1) (slots + zz_nI x) Q (F0 m (pc + 3) ls (zz_sv z0 sp (Value.ref f.2.2.2.1 :: r))) := k5
      rw [hv] at k6
      exact k6
    · cases hf
  · unfold za_newq at hf
    split at hf
    · rw [zz_fN_eq] at hf
      obtain ⟨hx, hf⟩ := zz_cond hf
      obtain ⟨hn, w', hk1, e1, e2, hg⟩ := zz_nw_ok hf
      cases hk1
      show _ ≤ w'.1 ∧ _ ≤ w'.2.1
      rw [e1, e2]
      exact ⟨Nat.le_succ _, Nat.le_add_right _ _⟩
    · cases hf
/-- a store of an object of class ci into a row of references -/
noncomputable def za_astA (t ci n : Nat) : zz_A := fun _ f => match f.2.2.1 with
  | .ref v :: .int j :: .ref i :: r => cond (zz_ic f.2.2.2 v ci) (zz_pr f.2.2.2 i 2 t 32 (zz_nI j) (v + 1) (fun w => some (n, f.2.1, r, w))) none
  | _ => none
theorem zo_aastore {t ci N : Nat} {C : String} {T : u_T} (hd : decode cc pc = .ok (.aastore, 1)) (ht : tys[t]? = some (cy t, .object C)) (hc : cl[ci]? = some (C, T, N)) : zz_O l Ts D cl fk cy z0 sp tys G own mn nL cc d K pc (za_astA t ci (pc + 1)) :=
  zo_write (fun f f' _ hf => by
    unfold za_astA at hf
    split at hf
    · rename_i v j i r hst
      obtain ⟨hv, hf⟩ := zz_cond hf
      obtain ⟨v1, v2, v3, v4⟩ := zz_ic_ok hv
      obtain ⟨hi, w', hk1, e1, e2, hg⟩ := zz_pr_ok hf
      obtain ⟨h1, h2, h3, h4, h5, h6⟩ := zz_ir_ok hi
      obtain ⟨hin, hcl⟩ := zz_idx h5 h6
      cases hk1
      refine ⟨e1, e2, rfl, fun p e R s m args below meth c H locs cells slots Q ls X hI kk => ?_⟩
      have he := zz_I_at hI h1
      rw [zz_e_q h3 h4] at he
      have hev := zz_I_at hI v1
      rw [zz_e_o v3 v4] at hev
      obtain ⟨r', hr', cellV, g1, g2, g3, -⟩ := hev
      have hcls := (X.2.2.2.2.2.1.1 ci _ hc).2
      obtain ⟨kA, comp, k1, k2, k3, -⟩ := (X.2.2.2.2.2.1.2 t _ ht).2
      have hcomp : comp = D.1 ci := Option.some.inj (k3.symm.trans hcls.1)
      subst hcomp
      obtain ⟨kC, hkC, hkind⟩ := hcls.2
      have hlt : j.toNatClampNeg < (zz_g f.2.2.2 i).2.2.1 := by rw [hcl]; exact h5
      rw [hst]
      show W _ _ _ _ _ _ _ _ _ _ _ _ _ _ _ (F0 m pc ls (zz_v z0 sp (.ref v) :: Value.int j :: zz_v z0 sp (.ref i) :: zz_sv z0 sp r))
      rw [zz_v_ref h2, zz_v_ref v2]
      refine W.aast X.1 X.2.1 he (fun q h => by cases h) (fun h => by cases h) k1 k2 rfl hkC ⟨fun q => hin (Or.inl q), by show _ < (arrV _ _ _).slots.size; rw [arrV_size]; exact hlt⟩ g1 (fun q h => by rw [g3] at h; cases h) (by rw [g2]; exact hkC) (by rw [g2]; exact va_assign hcls) rfl rfl hd fun H1 g1 z1 o1 => ?_
      refine kk H1 (zz_ad z0 sp i) _ (Nat.le_add_right _ _) z1 o1 (zz_I_set hI e1 hg ?_ z1 o1)
      rw [zz_e_q (t := t) rfl rfl]
      show H1[zz_ad z0 sp i]? = some (vp_cell _ _)
      rw [g1]
      show some ((vp_cell (cy t) _).setSlot _ _) = _
      rw [vp_cell_q, vp_cell_q, arrV_store]
      congr 2
      funext q
      have hv32 : v + 1 < 2 ^ 32 := Nat.lt_of_le_of_lt (Nat.succ_le_of_lt v2) (by decide)
      by_cases hq : q = j.toNatClampNeg
      · subst hq
        rw [hcl, zz_at_to hv32, if_pos rfl]
        have e5 : zz_o z0 sp (v + 1) = some (zz_ad z0 sp v) := by
          unfold zz_o
          rw [if_neg (Nat.succ_ne_zero v)]
          show some (zz_r z0 sp v) = _
          rw [zz_rm v2]
        rw [e5]
        simp [updV, va_rf]
      · rw [zz_at_to hv32, if_neg (by rw [← hcl]; exact hq)]
        simp [updV, hq]
    · cases hf) (fun f f' hf => by
    unfold za_astA at hf
    split at hf
    · obtain ⟨hv, hf⟩ := zz_cond hf
      obtain ⟨hi, w', hk1, e1, e2, hg⟩ := zz_pr_ok hf
      cases hk1
      exact ⟨e1, e2⟩
    · cases hf)
end ZK
