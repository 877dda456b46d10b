/-! ROWS, NEW CELLS -/
section ZRW
variable {l : Launch} {Ts : List Cond} {D : va_G} {cl : List vw_C} {fk : Nat → Nat → Nat} {cy : Nat → ClassId} {z0 : Nat} {sp : Nat → Nat} {tys : List (ClassId × FieldType)} {G : State → Prop} {own mn : String} {nL : Nat} {cc : ByteArray} {d : Nat} {K : zz_K} {pc : Nat}
noncomputable def za_aldI (t n : Nat) : zz_A := fun _ f => match f.2.2.1 with
  | .int j :: .ref i :: r => cond (zz_ir f.2.2.2 i 0 t (zz_nI j)) (zz_fN (zz_at 32 (zz_g f.2.2.2 i).2.2.2 (zz_nI j)) (fun v => some (n, f.2.1, .int (Int32.ofNat v) :: r, f.2.2.2))) none
  | _ => none
noncomputable def za_aldL (t n : Nat) : zz_A := fun _ f => match f.2.2.1 with
  | .int j :: .ref i :: r => cond (zz_ir f.2.2.2 i 1 t (zz_nI j)) (zz_fN (zz_at 64 (zz_g f.2.2.2 i).2.2.2 (zz_nI j)) (fun v => some (n, f.2.1, .long (Int64.ofNat v) :: r, f.2.2.2))) none
  | _ => none
noncomputable def za_aldA (t n : Nat) : zz_A := fun _ f => match f.2.2.1 with
  | .int j :: .ref i :: r => cond (zz_ir f.2.2.2 i 2 t (zz_nI j)) (Nat.casesOn (zz_at 32 (zz_g f.2.2.2 i).2.2.2 (zz_nI j)) (some (n, f.2.1, .null :: r, f.2.2.2)) (fun v => some (n, f.2.1, .ref v :: r, f.2.2.2))) none
  | _ => none
theorem zo_iaload {t : Nat} (hd : decode cc pc = .ok (.iaload, 1)) (ht : tys[t]? = some (cy t, .int)) : zz_O l Ts D cl fk cy z0 sp tys G own mn nL cc d K pc (za_aldI t (pc + 1)) :=
  zo_read (fun f f' _ hf => by
    unfold za_aldI at hf
    split at hf
    · rename_i j i r hst
      obtain ⟨hi, hf⟩ := zz_cond hf
      obtain ⟨h1, h2, h3, h4, h5, h6⟩ := zz_ir_ok hi
      obtain ⟨hin, hcl⟩ := zz_idx h5 h6
      rw [zz_fN_eq] at hf
      cases hf
      refine ⟨rfl, fun p e R s m args below meth c H locs cells slots Q ls X hI hS hl kk => ?_⟩
      have he := zz_ws_get (fk := fk) (cy := cy) (z0 := z0) (sp := sp) h1
      rw [zz_e_i h3 h4] at he
      rw [hst]
      show W _ _ _ _ _ _ _ _ _ _ _ _ _ _ _ (F0 m pc ls (Value.int j :: zz_v z0 sp (.ref i) :: zz_sv z0 sp r))
      rw [zz_v_ref h2]
      refine va_iald X.1 X.2.1 X.2.2.2.2.2.1 hI.2 i t he ht hin hd ?_
      rw [hcl]
      exact kk ls hl
    · cases hf) (fun f f' hf => by
    unfold za_aldI at hf
    split at hf
    · obtain ⟨hi, hf⟩ := zz_cond hf
      rw [zz_fN_eq] at hf
      cases hf
      rfl
    · cases hf)
theorem zo_baload {t : Nat} (hd : decode cc pc = .ok (.baload, 1)) (ht : tys[t]? = some (cy t, .byte)) : zz_O l Ts D cl fk cy z0 sp tys G own mn nL cc d K pc (za_aldI t (pc + 1)) :=
  zo_read (fun f f' _ hf => by
    unfold za_aldI at hf
    split at hf
    · rename_i j i r hst
      obtain ⟨hi, hf⟩ := zz_cond hf
      obtain ⟨h1, h2, h3, h4, h5, h6⟩ := zz_ir_ok hi
      obtain ⟨hin, hcl⟩ := zz_idx h5 h6
      rw [zz_fN_eq] at hf
      cases hf
      refine ⟨rfl, fun p e R s m args below meth c H locs cells slots Q ls X hI hS hl kk => ?_⟩
      have he := zz_ws_get (fk := fk) (cy := cy) (z0 := z0) (sp := sp) h1
      rw [zz_e_i h3 h4] at he
      rw [hst]
      show W _ _ _ _ _ _ _ _ _ _ _ _ _ _ _ (F0 m pc ls (Value.int j :: zz_v z0 sp (.ref i) :: zz_sv z0 sp r))
      rw [zz_v_ref h2]
      refine va_bald X.1 X.2.1 X.2.2.2.2.2.1 hI.2 i t he ht hin hd ?_
      rw [hcl]
      exact kk ls hl
    · cases hf) (fun f f' hf => by
    unfold za_aldI at hf
    split at hf
    · obtain ⟨hi, hf⟩ := zz_cond hf
      rw [zz_fN_eq] at hf
      cases hf
      rfl
    · cases hf)
theorem zo_zaload {t : Nat} (hd : decode cc pc = .ok (.baload, 1)) (ht : tys[t]? = some (cy t, .boolean)) : zz_O l Ts D cl fk cy z0 sp tys G own mn nL cc d K pc (za_aldI t (pc + 1)) :=
  zo_read (fun f f' _ hf => by
    unfold za_aldI at hf
    split at hf
    · rename_i j i r hst
      obtain ⟨hi, hf⟩ := zz_cond hf
      obtain ⟨h1, h2, h3, h4, h5, h6⟩ := zz_ir_ok hi
      obtain ⟨hin, hcl⟩ := zz_idx h5 h6
      rw [zz_fN_eq] at hf
      cases hf
      refine ⟨rfl, fun p e R s m args below meth c H locs cells slots Q ls X hI hS hl kk => ?_⟩
      have he := zz_ws_get (fk := fk) (cy := cy) (z0 := z0) (sp := sp) h1
      rw [zz_e_i h3 h4] at he
      rw [hst]
      show W _ _ _ _ _ _ _ _ _ _ _ _ _ _ _ (F0 m pc ls (Value.int j :: zz_v z0 sp (.ref i) :: zz_sv z0 sp r))
      rw [zz_v_ref h2]
      refine va_zald X.1 X.2.1 X.2.2.2.2.2.1 hI.2 i t he ht hin hd ?_
      rw [hcl]
      exact kk ls hl
    · cases hf) (fun f f' hf => by
    unfold za_aldI at hf
    split at hf
    · obtain ⟨hi, hf⟩ := zz_cond hf
      rw [zz_fN_eq] at hf
      cases hf
      rfl
    · cases hf)
theorem zo_laload {t : Nat} (hd : decode cc pc = .ok (.laload, 1)) (ht : tys[t]? = some (cy t, .long)) : zz_O l Ts D cl fk cy z0 sp tys G own mn nL cc d K pc (za_aldL t (pc + 1)) :=
  zo_read (fun f f' _ hf => by
    unfold za_aldL at hf
    split at hf
    · rename_i j i r hst
      obtain ⟨hi, hf⟩ := zz_cond hf
      obtain ⟨h1, h2, h3, h4, h5, h6⟩ := zz_ir_ok hi
      obtain ⟨hin, hcl⟩ := zz_idx h5 h6
      rw [zz_fN_eq] at hf
      cases hf
      refine ⟨rfl, fun p e R s m args below meth c H locs cells slots Q ls X hI hS hl kk => ?_⟩
      have he := zz_ws_get (fk := fk) (cy := cy) (z0 := z0) (sp := sp) h1
      rw [zz_e_l h3 h4] at he
      rw [hst]
      show W _ _ _ _ _ _ _ _ _ _ _ _ _ _ _ (F0 m pc ls (Value.int j :: zz_v z0 sp (.ref i) :: zz_sv z0 sp r))
      rw [zz_v_ref h2]
      refine va_lald X.1 X.2.1 X.2.2.2.2.2.1 hI.2 i t he ht hin hd ?_
      rw [hcl]
      exact kk ls hl
    · cases hf) (fun f f' hf => by
    unfold za_aldL at hf
    split at hf
    · obtain ⟨hi, hf⟩ := zz_cond hf
      rw [zz_fN_eq] at hf
      cases hf
      rfl
    · cases hf)
theorem zo_aaload {t : Nat} {C : String} (hd : decode cc pc = .ok (.aaload, 1)) (ht : tys[t]? = some (cy t, .object C)) : zz_O l Ts D cl fk cy z0 sp tys G own mn nL cc d K pc (za_aldA t (pc + 1)) := by
  refine zo_read (fun f f' _ hf => ?_) (fun f f' hf => ?_)
  · unfold za_aldA at hf
    split at hf
    · rename_i j i r hst
      obtain ⟨hi, hf⟩ := zz_cond hf
      obtain ⟨h1, h2, h3, h4, h5, h6⟩ := zz_ir_ok hi
      obtain ⟨hin, hcl⟩ := zz_idx h5 h6
      have he := zz_ws_get (fk := fk) (cy := cy) (z0 := z0) (sp := sp) h1
      rw [zz_e_q h3 h4] at he
      cases hv : zz_at 32 (zz_g f.2.2.2 i).2.2.2 (zz_nI j) with
      | zero =>
        rw [hv] at hf
        cases hf
        refine ⟨rfl, fun p e R s m args below meth c H locs cells slots Q ls X hI hS hl kk => ?_⟩
        rw [hst]
        show W _ _ _ _ _ _ _ _ _ _ _ _ _ _ _ (F0 m pc ls (Value.int j :: zz_v z0 sp (.ref i) :: zz_sv z0 sp r))
        rw [zz_v_ref h2]
        refine va_aldq X.1 X.2.1 X.2.2.2.2.2.1 hI.2 i t he ht hin hd ?_
        rw [hcl, hv]
        exact kk ls hl
      | succ v =>
        rw [hv] at hf
        cases hf
        refine ⟨rfl, fun p e R s m args below meth c H locs cells slots Q ls X hI hS hl kk => ?_⟩
        rw [hst]
        show W _ _ _ _ _ _ _ _ _ _ _ _ _ _ _ (F0 m pc ls (Value.int j :: zz_v z0 sp (.ref i) :: zz_sv z0 sp r))
        rw [zz_v_ref h2]
        refine va_aldq X.1 X.2.1 X.2.2.2.2.2.1 hI.2 i t he ht hin hd ?_
        rw [hcl, hv]
        exact kk ls hl
    · cases hf
  · unfold za_aldA at hf
    split at hf
    · rename_i j i r hst
      obtain ⟨hi, hf⟩ := zz_cond hf
      cases hv : zz_at 32 (zz_g f.2.2.2 i).2.2.2 (zz_nI j) with
      | zero =>
        rw [hv] at hf
        cases hf
        rfl
      | succ v =>
        rw [hv] at hf
        cases hf
        rfl
    · cases hf
noncomputable def za_alen (t n : Nat) : zz_A := fun _ f => match f.2.2.1 with
  | .ref i :: r => cond (Nat.blt i f.2.2.2.1 && (Nat.blt i 1000000 && (Nat.blt (zz_g f.2.2.2 i).1 3 && Nat.beq (zz_g f.2.2.2 i).2.1 t))) (zz_fN (zz_g f.2.2.2 i).2.2.1 (fun v => some (n, f.2.1, .int (Int32.ofNat v) :: r, f.2.2.2))) none
  | _ => none
theorem zo_alen {t : Nat} {ty : FieldType} (hd : decode cc pc = .ok (.arraylength, 1)) (ht : tys[t]? = some (cy t, ty)) : zz_O l Ts D cl fk cy z0 sp tys G own mn nL cc d K pc (za_alen t (pc + 1)) :=
  zo_read (fun f f' _ hf => by
    unfold za_alen at hf
    split at hf
    · rename_i i r hst
      obtain ⟨hi, hf⟩ := zz_cond hf
      obtain ⟨h1, hi⟩ := zz_and hi
      obtain ⟨h2, hi⟩ := zz_and hi
      obtain ⟨h3, h4⟩ := zz_and hi
      have h1 := zz_blt h1
      have h2 := zz_blt h2
      have h3 := zz_blt h3
      have h4 := zz_beq h4
      rw [zz_fN_eq] at hf
      cases hf
      refine ⟨rfl, fun p e R s m args below meth c H locs cells slots Q ls X hI hS hl kk => ?_⟩
      have he := zz_ws_get (fk := fk) (cy := cy) (z0 := z0) (sp := sp) h1
      have he2 : ∃ x : vp_A, x.1 = (zz_g f.2.2.2 i).2.2.1 ∧ (zz_ws fk cy z0 sp f.2.2.2)[i]? = some (zz_ad z0 sp i, .inl (cy t, x)) := by
        by_cases g0 : (zz_g f.2.2.2 i).1 = 0
        · exact ⟨(_, _), rfl, by rw [he, zz_e_i g0 h4]⟩
        · by_cases g1 : (zz_g f.2.2.2 i).1 = 1
          · exact ⟨(_, _), rfl, by rw [he, zz_e_l g1 h4]⟩
          · exact ⟨(_, _), rfl, by rw [he, zz_e_q (by omega) h4]⟩
      obtain ⟨x, hx, he3⟩ := he2
      rw [hst]
      show W _ _ _ _ _ _ _ _ _ _ _ _ _ _ _ (F0 m pc ls (zz_v z0 sp (.ref i) :: zz_sv z0 sp r))
      rw [zz_v_ref h2]
      exact va_alen X.1 X.2.1 X.2.2.2.2.2.1 hI.2 i t he3 ht (by rw [hx]) hd (kk ls hl)
    · cases hf) (fun f f' hf => by
    unfold za_alen at hf
    split at hf
    · obtain ⟨hi, hf⟩ := zz_cond hf
      rw [zz_fN_eq] at hf
      cases hf
      rfl
    · cases hf)
noncomputable def zz_pr (w : zz_W) (i kd t b j x : Nat) (kk : zz_W → Option zz_F) : Option zz_F :=
  cond (zz_ir w i kd t j) (zz_fN (zz_to b (zz_g w i).2.2.2 j x) (fun N => zz_st w i (kd, t, (zz_g w i).2.2.1, N) none kk)) none
theorem zz_pr_ok {w : zz_W} {i kd t b j x : Nat} {kk : zz_W → Option zz_F} {f' : zz_F} (h : zz_pr w i kd t b j x kk = some f') : zz_ir w i kd t j = true ∧ ∃ w' : zz_W, kk w' = some f' ∧ w'.1 = w.1 ∧ w'.2.1 = w.2.1 ∧ ∀ q, zz_g w' q = if q = i then (kd, t, (zz_g w i).2.2.1, zz_to b (zz_g w i).2.2.2 j x) else zz_g w q := by
  unfold zz_pr at h
  obtain ⟨hi, h⟩ := zz_cond h
  rw [zz_fN_eq] at h
  exact ⟨hi, zz_st_ok h⟩
noncomputable def za_astI (t n : Nat) : zz_A := fun _ f => match f.2.2.1 with
  | .int x :: .int j :: .ref i :: r => zz_pr f.2.2.2 i 0 t 32 (zz_nI j) (zz_nI x) (fun w => some (n, f.2.1, r, w))
  | _ => none
noncomputable def za_astB (t n : Nat) : zz_A := fun _ f => match f.2.2.1 with
  | .int x :: .int j :: .ref i :: r => zz_pr f.2.2.2 i 0 t 32 (zz_nI j) (zz_nI x.toInt8.toInt32) (fun w => some (n, f.2.1, r, w))
  | _ => none
noncomputable def za_astZ (t n : Nat) : zz_A := fun _ f => match f.2.2.1 with
  | .int x :: .int j :: .ref i :: r => cond (Nat.blt (zz_nI x) 2) (zz_pr f.2.2.2 i 0 t 32 (zz_nI j) (zz_nI x) (fun w => some (n, f.2.1, r, w))) none
  | _ => none
noncomputable def za_astL (t n : Nat) : zz_A := fun _ f => match f.2.2.1 with
  | .long x :: .int j :: .ref i :: r => zz_pr f.2.2.2 i 1 t 64 (zz_nI j) (zz_nL x) (fun w => some (n, f.2.1, r, w))
  | _ => none
theorem zo_iastore {t : Nat} (hd : decode cc pc = .ok (.iastore, 1)) (ht : tys[t]? = some (cy t, .int)) : zz_O l Ts D cl fk cy z0 sp tys G own mn nL cc d K pc (za_astI t (pc + 1)) :=
  zo_write (fun f f' _ hf => by
    unfold za_astI at hf
    split at hf
    · rename_i x j i r hst
      obtain ⟨hi, w', hk1, e1, e2, hg⟩ := zz_pr_ok hf
      obtain ⟨h1, h2, h3, h4, h5, h6⟩ := zz_ir_ok hi
      obtain ⟨hin, hcl⟩ := zz_idx h5 h6
      cases hk1
      refine ⟨e1, e2, rfl, fun p e R s m args below meth c H locs cells slots Q ls X hI kk => ?_⟩
      have he := zz_I_at hI h1
      rw [zz_e_i h3 h4] at he
      rw [hst]
      show W _ _ _ _ _ _ _ _ _ _ _ _ _ _ _ (F0 m pc ls (Value.int x :: Value.int j :: zz_v z0 sp (.ref i) :: zz_sv z0 sp r))
      rw [zz_v_ref h2]
      refine W.iast X.1 X.2.1 he ((X.2.2.2.2.2.1.2 t _ ht).1 _ _) (fun q => by cases q) (by show ¬ (j < 0 ∨ (arrV _ _ _).slots.size ≤ _); rw [arrV_size]; exact hin) rfl rfl hd fun H1 g1 z1 o1 => ?_
      refine kk H1 (zz_ad z0 sp i) _ (Nat.le_add_right _ _) z1 o1 (zz_I_set hI e1 hg ?_ z1 o1)
      rw [zz_e_i (t := t) rfl rfl]
      show H1[zz_ad z0 sp i]? = some (vp_cell _ _)
      rw [g1]
      show some ((vp_cell (cy t) _).setSlot _ _) = _
      rw [vp_cell_i, vp_cell_i, arrV_store]
      congr 2
      funext q
      by_cases hq : q = j.toNatClampNeg
      · subst hq
        rw [hcl, zz_at_to (zz_nI_lt _), if_pos rfl, zz_nI_of]
        simp [updV]
      · rw [zz_at_to (zz_nI_lt _), if_neg (by rw [← hcl]; exact hq)]
        simp [updV, hq]
    · cases hf) (fun f f' hf => by
    unfold za_astI at hf
    split at hf
    · obtain ⟨hi, w', hk1, e1, e2, hg⟩ := zz_pr_ok hf
      cases hk1
      exact ⟨e1, e2⟩
    · cases hf)
theorem zo_bastore {t : Nat} (hd : decode cc pc = .ok (.bastore, 1)) (ht : tys[t]? = some (cy t, .byte)) : zz_O l Ts D cl fk cy z0 sp tys G own mn nL cc d K pc (za_astB t (pc + 1)) :=
  zo_write (fun f f' _ hf => by
    unfold za_astB at hf
    split at hf
    · rename_i x j i r hst
      obtain ⟨hi, w', hk1, e1, e2, hg⟩ := zz_pr_ok hf
      obtain ⟨h1, h2, h3, h4, h5, h6⟩ := zz_ir_ok hi
      obtain ⟨hin, hcl⟩ := zz_idx h5 h6
      cases hk1
      refine ⟨e1, e2, rfl, fun p e R s m args below meth c H locs cells slots Q ls X hI kk => ?_⟩
      have he := zz_I_at hI h1
      rw [zz_e_i h3 h4] at he
      rw [hst]
      show W _ _ _ _ _ _ _ _ _ _ _ _ _ _ _ (F0 m pc ls (Value.int x :: Value.int j :: zz_v z0 sp (.ref i) :: zz_sv z0 sp r))
      rw [zz_v_ref h2]
      refine W.bast X.1 X.2.1 he ((X.2.2.2.2.2.1.2 t _ ht).1 _ _) (fun q => by cases q) (by show ¬ (j < 0 ∨ (arrV _ _ _).slots.size ≤ _); rw [arrV_size]; exact hin) rfl rfl hd fun H1 g1 z1 o1 => ?_
      refine kk H1 (zz_ad z0 sp i) _ (Nat.le_add_right _ _) z1 o1 (zz_I_set hI e1 hg ?_ z1 o1)
      rw [zz_e_i (t := t) rfl rfl]
      show H1[zz_ad z0 sp i]? = some (vp_cell _ _)
      rw [g1]
      show some ((vp_cell (cy t) _).setSlot _ _) = _
      rw [vp_cell_i, vp_cell_i, arrV_store]
      congr 2
      funext q
      by_cases hq : q = j.toNatClampNeg
      · subst hq
        rw [hcl, zz_at_to (zz_nI_lt _), if_pos rfl, zz_nI_of]
        simp [updV, narrow]
      · rw [zz_at_to (zz_nI_lt _), if_neg (by rw [← hcl]; exact hq)]
        simp [updV, hq]
    · cases hf) (fun f f' hf => by
    unfold za_astB at hf
    split at hf
    · obtain ⟨hi, w', hk1, e1, e2, hg⟩ := zz_pr_ok hf
      cases hk1
      exact ⟨e1, e2⟩
    · cases hf)
theorem zo_zastore {t : Nat} (hd : decode cc pc = .ok (.bastore, 1)) (ht : tys[t]? = some (cy t, .boolean)) : zz_O l Ts D cl fk cy z0 sp tys G own mn nL cc d K pc (za_astZ t (pc + 1)) :=
  zo_write (fun f f' _ hf => by
    unfold za_astZ at hf
    split at hf
    · rename_i x j i r hst
      obtain ⟨hx, hf⟩ := zz_cond hf
      have h01 := zz_b01 (zz_blt hx)
      obtain ⟨hi, w', hk1, e1, e2, hg⟩ := zz_pr_ok hf
      obtain ⟨h1, h2, h3, h4, h5, h6⟩ := zz_ir_ok hi
      obtain ⟨hin, hcl⟩ := zz_idx h5 h6
      cases hk1
      refine ⟨e1, e2, rfl, fun p e R s m args below meth c H locs cells slots Q ls X hI kk => ?_⟩
      have he := zz_I_at hI h1
      rw [zz_e_i h3 h4] at he
      rw [hst]
      show W _ _ _ _ _ _ _ _ _ _ _ _ _ _ _ (F0 m pc ls (Value.int x :: Value.int j :: zz_v z0 sp (.ref i) :: zz_sv z0 sp r))
      rw [zz_v_ref h2]
      refine W.zast X.1 X.2.1 he ((X.2.2.2.2.2.1.2 t _ ht).1 _ _) (fun q => by cases q) (by show ¬ (j < 0 ∨ (arrV _ _ _).slots.size ≤ _); rw [arrV_size]; exact hin) rfl rfl hd fun H1 g1 z1 o1 => ?_
      refine kk H1 (zz_ad z0 sp i) _ (Nat.le_add_right _ _) z1 o1 (zz_I_set hI e1 hg ?_ z1 o1)
      rw [zz_e_i (t := t) rfl rfl]
      show H1[zz_ad z0 sp i]? = some (vp_cell _ _)
      rw [g1]
      show some ((vp_cell (cy t) _).setSlot _ _) = _
      rw [vp_cell_i, vp_cell_i, arrV_store]
      congr 2
      funext q
      by_cases hq : q = j.toNatClampNeg
      · subst hq
        rw [hcl, zz_at_to (zz_nI_lt _), if_pos rfl, zz_nI_of]
        simp [updV, narrow]
        rcases h01 with rfl | rfl <;> rfl
      · rw [zz_at_to (zz_nI_lt _), if_neg (by rw [← hcl]; exact hq)]
        simp [updV, hq]
    · cases hf) (fun f f' hf => by
    unfold za_astZ at hf
    split at hf
    · obtain ⟨hx, hf⟩ := zz_cond hf
      obtain ⟨hi, w', hk1, e1, e2, hg⟩ := zz_pr_ok hf
      cases hk1
      exact ⟨e1, e2⟩
    · cases hf)
theorem zo_lastore {t : Nat} (hd : decode cc pc = .ok (.lastore, 1)) (ht : tys[t]? = some (cy t, .long)) : zz_O l Ts D cl fk cy z0 sp tys G own mn nL cc d K pc (za_astL t (pc + 1)) :=
  zo_write (fun f f' _ hf => by
    unfold za_astL at hf
    split at hf
    · rename_i x j i r hst
      obtain ⟨hi, w', hk1, e1, e2, hg⟩ := zz_pr_ok hf
      obtain ⟨h1, h2, h3, h4, h5, h6⟩ := zz_ir_ok hi
      obtain ⟨hin, hcl⟩ := zz_idx h5 h6
      cases hk1
      refine ⟨e1, e2, rfl, fun p e R s m args below meth c H locs cells slots Q ls X hI kk => ?_⟩
      have he := zz_I_at hI h1
      rw [zz_e_l h3 h4] at he
      rw [hst]
      show W _ _ _ _ _ _ _ _ _ _ _ _ _ _ _ (F0 m pc ls (Value.long x :: Value.int j :: zz_v z0 sp (.ref i) :: zz_sv z0 sp r))
      rw [zz_v_ref h2]
      refine W.last X.1 X.2.1 he ((X.2.2.2.2.2.1.2 t _ ht).1 _ _) (fun q => by cases q) (by show ¬ (j < 0 ∨ (arrV _ _ _).slots.size ≤ _); rw [arrV_size]; exact hin) rfl rfl hd fun H1 g1 z1 o1 => ?_
      refine kk H1 (zz_ad z0 sp i) _ (Nat.le_add_right _ _) z1 o1 (zz_I_set hI e1 hg ?_ z1 o1)
      rw [zz_e_l (t := t) rfl rfl]
      show H1[zz_ad z0 sp i]? = some (vp_cell _ _)
      rw [g1]
      show some ((vp_cell (cy t) _).setSlot _ _) = _
      rw [vp_cell_l, vp_cell_l, arrV_store]
      congr 2
      funext q
      by_cases hq : q = j.toNatClampNeg
      · subst hq
        rw [hcl, zz_at_to (zz_nL_lt _), if_pos rfl, zz_nL_of]
        simp [updV]
      · rw [zz_at_to (zz_nL_lt _), if_neg (by rw [← hcl]; exact hq)]
        simp [updV, hq]
    · cases hf) (fun f f' hf => by
    unfold za_astL at hf
    split at hf
    · obtain ⟨hi, w', hk1, e1, e2, hg⟩ := zz_pr_ok hf
      cases hk1
      exact ⟨e1, e2⟩
    · cases hf)
end ZRW
