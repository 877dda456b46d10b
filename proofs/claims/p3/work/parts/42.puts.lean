/-! PUTFIELD, ROWS, NEW -/
section ZP
variable {p : Program} {l : Launch} {e : Env} {R : Room} {s : State} {m : MethodId} {args : Array Value} {below : List Frame} {meth : Method} {c : Code} {H : Heap} {locs : List Loc} {cells slots : Nat} {Q : State → Prop}
variable {cc : ByteArray} {pc : Nat} {ls : Array Slot} {rest : List Value} {D : va_G} {cl : List vw_C} {a : Nat} {tys : List (ClassId × FieldType)}
/-- putfield, with the heap's size kept -/
theorem zv_put (hexec : p.tables.exec = Jvm.exec) (hb : c.code = cc) {own C : String} {T : u_T} {N ci index : Nat} {Ts : List Cond} (hts : ∀ w ∈ Ts, w.before args s = true) (hin : ∀ w ∈ u_ws C T N, w ∈ Ts) (ty0 : Nat → FieldType) (hty : ∀ k, k < N → parseFieldDescriptor (T k).2.2.1 = some (ty0 k)) (hnm : ∀ a, a < N → ∀ b, b < N → a ≠ b → (T a).2.1 ≠ (T b).2.1) (hown : s.vm.findClass own = some m.cls) (hK : va_K D cl tys s) {fs : List Value} (he : va_at D cl (a, .inr (ci, fs)) H) (hc : cl[ci]? = some (C, T, N)) (k : Nat) (hk : k < N) (hlink : (Cond.fieldLink own index (T k).1 (T k).2.1 (T k).2.2.1).before args s = true) (hfin : (T k).2.2.2 = false ∨ ((T k).2.2.2 = true ∧ meth.name = "<init>" ∧ (T k).1 = own)) {ty : FieldType} {v : Value} (hd : parseFieldDescriptor (T k).2.2.1 = some ty) (hn : narrow ty v = v) (hfit : fits ty v = true) (hl : k < fs.length)
    (hdg : decode cc pc = .ok (.putfield index, 3)) (kk : ∀ (H1 : Heap) (j : Nat), va_at D cl (a, .inr (ci, fs.set k v)) H1 → H1.size = H.size → (∀ q : Nat, q ≠ a → H1[q]? = H[q]?) → W p l e R s m args below meth c H1 (locs ++ [⟨a, j⟩]) cells slots Q (F0 m (pc + 3) ls rest)) : W p l e R s m args below meth c H locs cells slots Q (F0 m pc ls (v :: .ref a :: rest)) := by
  have hap := va_apart (own := own) hts hin ty0 hty hnm hK hc
  obtain ⟨r, h1, cell, q1, q2, q3, q4⟩ := he
  have hr : r = (C, T, N) := Option.some.inj (h1.symm.trans hc)
  subst hr
  obtain ⟨hS, hfc, kC, hkC, hkind⟩ := hK.1 ci _ hc
  obtain ⟨cf, kf, fi, f, hi, hsl⟩ := hS k hk
  have hlay := hts _ (hin _ (u_in_lay hk))
  unfold u_lay at hlay
  have hst := (u_facts hfc hkC (u_lays hts hin hk) hi).1
  rcases hfin with hfin | ⟨hfin, hin2, hdecl⟩
  · rw [if_neg (by rw [hfin]; decide)] at hlay
    have h6 := u_store hfc hkC hkind hlay hi hd hn hfit
    refine W.putK hexec hb (f := f) ⟨hown, hlink, ⟨_, _, _, hi⟩, hst⟩ (by rw [q2]; exact h6) q1 q3 (by rw [hsl]; exact k2_hasslot (q4 k hk)) rfl rfl hdg fun H' e1 e2 e3 => ?_
    rw [hsl] at e1
    exact kk H' _ ⟨_, hc, t_OB.to (V := updV (vp_V fs) k v) ⟨_, e1, q2, q3, t_set q4 hap hk v⟩ (fun j _ => vp_updV_set hl v j)⟩ e2 e3
  · rw [if_pos hfin] at hlay
    have hcf : m.cls = cf := by
      obtain ⟨_, _, c', _, _, _, -, -, hf', -, -, -, hown2, -⟩ := Cond.laysFinal_spec hlay
      have e1 : c' = cf := by have := hi.symm.trans hf'; simp at this; exact this.1.symm
      rw [hdecl] at hown2
      rw [← e1]; exact Option.some.inj (hown.symm.trans hown2)
    have h6 := u_fits hfc hkC hkind (Or.inr hlay) hi hd hn hfit
    refine W.putFinK hexec hb hown hlink hi hst hcf hin2 (by rw [q2]; exact h6) q1 q3 (by rw [hsl]; exact k2_hasslot (q4 k hk)) rfl rfl hdg fun H' e1 e2 e3 => ?_
    rw [hsl] at e1
    exact kk H' _ ⟨_, hc, t_OB.to (V := updV (vp_V fs) k v) ⟨_, e1, q2, q3, t_set q4 hap hk v⟩ (fun j _ => vp_updV_set hl v j)⟩ e2 e3
end ZP
section ZQ
variable {l : Launch} {Ts : List Cond} {D : va_G} {cl : List vw_C} {fk : Nat → Nat → Nat} {cy : Nat → ClassId} {z0 : Nat} {sp : Nat → Nat} {tys : List (ClassId × FieldType)} {G : State → Prop} {own mn : String} {nL : Nat} {cc : ByteArray} {d : Nat} {K : zz_K} {pc : Nat}
noncomputable def zz_pf (w : zz_W) (i ci k x : Nat) (kk : zz_W → Option zz_F) : Option zz_F :=
  cond (zz_io w i ci k) (zz_fN (zz_to 64 (zz_g w i).2.2.2 k x) (fun N => zz_st w i (3, ci, (zz_g w i).2.2.1, N) none kk)) none
noncomputable def za_putI (ci k n : Nat) : zz_A := fun _ f => match f.2.2.1 with
  | .int x :: .ref i :: r => zz_pf f.2.2.2 i ci k (zz_nI x) (fun w => some (n, f.2.1, r, w))
  | _ => none
noncomputable def za_putZ (ci k n : Nat) : zz_A := fun _ f => match f.2.2.1 with
  | .int x :: .ref i :: r => cond (Nat.blt (zz_nI x) 2) (zz_pf f.2.2.2 i ci k (zz_nI x) (fun w => some (n, f.2.1, r, w))) none
  | _ => none
noncomputable def za_putL (ci k n : Nat) : zz_A := fun _ f => match f.2.2.1 with
  | .long x :: .ref i :: r => zz_pf f.2.2.2 i ci k (zz_nL x) (fun w => some (n, f.2.1, r, w))
  | _ => none
noncomputable def za_putA (ci k n : Nat) : zz_A := fun _ f => match f.2.2.1 with
  | .ref x :: .ref i :: r => cond (Nat.blt x 4000000) (zz_pf f.2.2.2 i ci k (x + 1) (fun w => some (n, f.2.1, r, w))) none
  | .null :: .ref i :: r => zz_pf f.2.2.2 i ci k 0 (fun w => some (n, f.2.1, r, w))
  | _ => none
theorem zz_pf_ok {w : zz_W} {i ci k x : Nat} {kk : zz_W → Option zz_F} {f' : zz_F} (h : zz_pf w i ci k x kk = some f') : zz_io w i ci k = true ∧ ∃ w' : zz_W, kk w' = some f' ∧ w'.1 = w.1 ∧ w'.2.1 = w.2.1 ∧ ∀ j, zz_g w' j = if j = i then (3, ci, (zz_g w i).2.2.1, zz_to 64 (zz_g w i).2.2.2 k x) else zz_g w j := by
  unfold zz_pf at h
  obtain ⟨hi, h⟩ := zz_cond h
  rw [zz_fN_eq] at h
  exact ⟨hi, zz_st_ok h⟩
/-- the road of a putfield -/
theorem zz_put_row {C : String} {T : u_T} {N ci k index x : Nat} {ty0 : Nat → FieldType} (hc : cl[ci]? = some (C, T, N)) (hk : k < N) (hu : ∀ w ∈ u_ws C T N, w ∈ Ts) (hty : ∀ k, k < N → parseFieldDescriptor (T k).2.2.1 = some (ty0 k)) (hnm : ∀ a, a < N → ∀ b, b < N → a ≠ b → (T a).2.1 ≠ (T b).2.1) (hw : Cond.fieldLink own index (T k).1 (T k).2.1 (T k).2.2.1 ∈ Ts) (hfin : (T k).2.2.2 = false ∨ ((T k).2.2.2 = true ∧ mn = "<init>" ∧ (T k).1 = own)) (hd : decode cc pc = .ok (.putfield index, 3))
    {w w' : zz_W} {i : Nat} (hi : zz_io w i ci k = true) (hw1 : w'.1 = w.1) (hg : ∀ j, zz_g w' j = if j = i then (3, ci, (zz_g w i).2.2.1, zz_to 64 (zz_g w i).2.2.2 k x) else zz_g w j) {v : Value} (hx : x < 2 ^ 64) (hv : zz_av (fk ci k) x = v) {ty : FieldType} (hdt : parseFieldDescriptor (T k).2.2.1 = some ty) (hn : narrow ty (zz_v z0 sp v) = zz_v z0 sp v) (hfit : fits ty (zz_v z0 sp v) = true)
    {p : Program} {e : Env} {R : Room} {s : State} {m : MethodId} {args : Array Value} {below : List Frame} {meth : Method} {c : Code} {H : Heap} {locs : List Loc} {cells slots : Nat} {Q : State → Prop} {ls : Array Slot} {rest : List Value}
    (X : zz_X Ts D cl tys G own mn nL cc p s m args meth c) (hI : zz_I D cl fk cy z0 sp w H)
    (kk : ∀ (H1 : Heap) (a k : Nat), z0 ≤ a → H1.size = H.size → (∀ q : Nat, q ≠ a → H1[q]? = H[q]?) → zz_I D cl fk cy z0 sp w' H1 → W p l e R s m args below meth c H1 (locs ++ [⟨a, k⟩]) cells slots Q (F0 m (pc + 3) ls rest)) : W p l e R s m args below meth c H locs cells slots Q (F0 m pc ls (zz_v z0 sp v :: zz_v z0 sp (.ref i) :: rest)) := by
  obtain ⟨h1, h2, h3, h4, h5⟩ := zz_io_ok hi
  rw [zz_v_ref h2]
  have he := zz_I_at hI h1
  rw [zz_e_o h3 h4] at he
  refine zv_put X.1 X.2.1 X.2.2.2.2.1 hu ty0 hty hnm X.2.2.2.1 X.2.2.2.2.2.1 he hc k hk (X.2.2.2.2.1 _ hw) (hfin.imp id (fun h => ⟨h.1, by rw [X.2.2.2.2.2.2.2.1]; exact h.2.1, h.2.2⟩)) hdt hn hfit (by simpa using h5) hd fun H1 j hat hz ho => ?_
  refine kk H1 (zz_ad z0 sp i) j (Nat.le_add_right _ _) hz ho (zz_I_set hI hw1 hg ?_ hz ho)
  rw [zz_e_o (ci := ci) rfl rfl]
  have e1 : zz_v z0 sp (zz_av (fk ci k) (zz_at 64 (zz_to 64 (zz_g w i).2.2.2 k x) k)) = zz_v z0 sp v := by
    rw [zz_at_to hx, if_pos rfl, hv]
  have e2 := zz_rng_set (n := (zz_g w i).2.2.1) (k := k) (g := fun j => zz_v z0 sp (zz_av (fk ci j) (zz_at 64 (zz_g w i).2.2.2 j))) (g' := fun j => zz_v z0 sp (zz_av (fk ci j) (zz_at 64 (zz_to 64 (zz_g w i).2.2.2 k x) j))) (fun j hj => by
    show zz_v z0 sp (zz_av (fk ci j) (zz_at 64 (zz_to 64 (zz_g w i).2.2.2 k x) j)) = _
    rw [zz_at_to hx, if_neg hj])
  rw [e1] at e2
  show va_at D cl (zz_ad z0 sp i, .inr (ci, (List.range (zz_g w i).2.2.1).map (fun j => zz_v z0 sp (zz_av (fk ci j) (zz_at 64 (zz_to 64 (zz_g w i).2.2.2 k x) j))))) H1
  rw [e2]
  exact hat
theorem zo_putI {C : String} {T : u_T} {N ci k index : Nat} {ty0 : Nat → FieldType} (hd : decode cc pc = .ok (.putfield index, 3)) (hf0 : fk ci k = 0) (hc : cl[ci]? = some (C, T, N)) (hk : k < N) (hu : ∀ w ∈ u_ws C T N, w ∈ Ts) (hty : ∀ k, k < N → parseFieldDescriptor (T k).2.2.1 = some (ty0 k)) (hnm : ∀ a, a < N → ∀ b, b < N → a ≠ b → (T a).2.1 ≠ (T b).2.1) (hw : Cond.fieldLink own index (T k).1 (T k).2.1 (T k).2.2.1 ∈ Ts) (hfin : (T k).2.2.2 = false ∨ ((T k).2.2.2 = true ∧ mn = "<init>" ∧ (T k).1 = own)) (hdt : ty0 k = .int) : zz_O l Ts D cl fk cy z0 sp tys G own mn nL cc d K pc (za_putI ci k (pc + 3)) :=
  zo_write (fun f f' _ hf => by
    unfold za_putI at hf
    split at hf
    · rename_i x i r hst
      obtain ⟨hi, w', hk1, e1, e2, hg⟩ := zz_pf_ok hf
      cases hk1
      refine ⟨e1, e2, rfl, fun p e R s m args below meth c H locs cells slots Q ls X hI kk => ?_⟩
      rw [hst]
      exact zz_put_row (fk := fk) (cy := cy) (v := .int x) hc hk hu hty hnm hw hfin hd hi e1 hg (Nat.lt_of_lt_of_le (zz_nI_lt x) (by decide)) (by rw [hf0, zz_av, if_pos rfl, zz_nI_of]) (by rw [hty k hk, hdt]) rfl rfl X hI kk
    · cases hf) (fun f f' hf => by
    unfold za_putI at hf
    split at hf
    · obtain ⟨hi, w', hk1, e1, e2, hg⟩ := zz_pf_ok hf
      cases hk1
      exact ⟨e1, e2⟩
    · cases hf)
theorem zz_b01 {x : Int32} (h : zz_nI x < 2) : x = 0 ∨ x = 1 := by
  have e : x = Int32.ofNat (zz_nI x) := (zz_nI_of x).symm
  rcases Nat.lt_or_ge (zz_nI x) 1 with q | q
  · left
    rw [e, show zz_nI x = 0 by omega]
    rfl
  · right
    rw [e, show zz_nI x = 1 by omega]
    rfl
theorem zo_putZ {C : String} {T : u_T} {N ci k index : Nat} {ty0 : Nat → FieldType} (hd : decode cc pc = .ok (.putfield index, 3)) (hf0 : fk ci k = 0) (hc : cl[ci]? = some (C, T, N)) (hk : k < N) (hu : ∀ w ∈ u_ws C T N, w ∈ Ts) (hty : ∀ k, k < N → parseFieldDescriptor (T k).2.2.1 = some (ty0 k)) (hnm : ∀ a, a < N → ∀ b, b < N → a ≠ b → (T a).2.1 ≠ (T b).2.1) (hw : Cond.fieldLink own index (T k).1 (T k).2.1 (T k).2.2.1 ∈ Ts) (hfin : (T k).2.2.2 = false ∨ ((T k).2.2.2 = true ∧ mn = "<init>" ∧ (T k).1 = own)) (hdt : ty0 k = .boolean) : zz_O l Ts D cl fk cy z0 sp tys G own mn nL cc d K pc (za_putZ ci k (pc + 3)) :=
  zo_write (fun f f' _ hf => by
    unfold za_putZ at hf
    split at hf
    · rename_i x i r hst
      obtain ⟨hx, hf⟩ := zz_cond hf
      have h01 := zz_b01 (zz_blt hx)
      obtain ⟨hi, w', hk1, e1, e2, hg⟩ := zz_pf_ok hf
      cases hk1
      refine ⟨e1, e2, rfl, fun p e R s m args below meth c H locs cells slots Q ls X hI kk => ?_⟩
      rw [hst]
      exact zz_put_row (fk := fk) (cy := cy) (v := .int x) hc hk hu hty hnm hw hfin hd hi e1 hg (Nat.lt_of_lt_of_le (zz_nI_lt x) (by decide)) (by rw [hf0, zz_av, if_pos rfl, zz_nI_of]) (by rw [hty k hk, hdt]) (by rcases h01 with rfl | rfl <;> rfl) (by rcases h01 with rfl | rfl <;> rfl) X hI kk
    · cases hf) (fun f f' hf => by
    unfold za_putZ at hf
    split at hf
    · obtain ⟨hx, hf⟩ := zz_cond hf
      obtain ⟨hi, w', hk1, e1, e2, hg⟩ := zz_pf_ok hf
      cases hk1
      exact ⟨e1, e2⟩
    · cases hf)
theorem zo_putL {C : String} {T : u_T} {N ci k index : Nat} {ty0 : Nat → FieldType} (hd : decode cc pc = .ok (.putfield index, 3)) (hf0 : fk ci k = 1) (hc : cl[ci]? = some (C, T, N)) (hk : k < N) (hu : ∀ w ∈ u_ws C T N, w ∈ Ts) (hty : ∀ k, k < N → parseFieldDescriptor (T k).2.2.1 = some (ty0 k)) (hnm : ∀ a, a < N → ∀ b, b < N → a ≠ b → (T a).2.1 ≠ (T b).2.1) (hw : Cond.fieldLink own index (T k).1 (T k).2.1 (T k).2.2.1 ∈ Ts) (hfin : (T k).2.2.2 = false ∨ ((T k).2.2.2 = true ∧ mn = "<init>" ∧ (T k).1 = own)) (hdt : ty0 k = .long) : zz_O l Ts D cl fk cy z0 sp tys G own mn nL cc d K pc (za_putL ci k (pc + 3)) :=
  zo_write (fun f f' _ hf => by
    unfold za_putL at hf
    split at hf
    · rename_i x i r hst
      obtain ⟨hi, w', hk1, e1, e2, hg⟩ := zz_pf_ok hf
      cases hk1
      refine ⟨e1, e2, rfl, fun p e R s m args below meth c H locs cells slots Q ls X hI kk => ?_⟩
      rw [hst]
      exact zz_put_row (fk := fk) (cy := cy) (v := .long x) hc hk hu hty hnm hw hfin hd hi e1 hg (zz_nL_lt x) (by rw [hf0, zz_av, if_neg (by decide), if_pos rfl, zz_nL_of]) (by rw [hty k hk, hdt]) rfl rfl X hI kk
    · cases hf) (fun f f' hf => by
    unfold za_putL at hf
    split at hf
    · obtain ⟨hi, w', hk1, e1, e2, hg⟩ := zz_pf_ok hf
      cases hk1
      exact ⟨e1, e2⟩
    · cases hf)
def zz_isR (ty : FieldType) : Bool := match ty with
  | .object _ => true
  | .array _ => true
  | _ => false
theorem zo_putA {C : String} {T : u_T} {N ci k index : Nat} {ty0 : Nat → FieldType} (hd : decode cc pc = .ok (.putfield index, 3)) (hf0 : fk ci k = 2) (hc : cl[ci]? = some (C, T, N)) (hk : k < N) (hu : ∀ w ∈ u_ws C T N, w ∈ Ts) (hty : ∀ k, k < N → parseFieldDescriptor (T k).2.2.1 = some (ty0 k)) (hnm : ∀ a, a < N → ∀ b, b < N → a ≠ b → (T a).2.1 ≠ (T b).2.1) (hw : Cond.fieldLink own index (T k).1 (T k).2.1 (T k).2.2.1 ∈ Ts) (hfin : (T k).2.2.2 = false ∨ ((T k).2.2.2 = true ∧ mn = "<init>" ∧ (T k).1 = own)) (hdt : zz_isR (ty0 k) = true) : zz_O l Ts D cl fk cy z0 sp tys G own mn nL cc d K pc (za_putA ci k (pc + 3)) := by
  have hT : ∀ v : Value, (∃ i, v = .ref i) ∨ v = .null → narrow (ty0 k) v = v ∧ fits (ty0 k) v = true := by
    intro v hv
    generalize ty0 k = t at hdt ⊢
    cases t with
    | object _ => rcases hv with ⟨i, rfl⟩ | rfl <;> exact ⟨rfl, rfl⟩
    | array _ => rcases hv with ⟨i, rfl⟩ | rfl <;> exact ⟨rfl, rfl⟩
    | _ => cases hdt
  refine zo_write (fun f f' _ hf => ?_) (fun f f' hf => ?_)
  · unfold za_putA at hf
    split at hf
    · rename_i x i r hst
      obtain ⟨hx, hf⟩ := zz_cond hf
      have hx := zz_blt hx
      obtain ⟨hi, w', hk1, e1, e2, hg⟩ := zz_pf_ok hf
      cases hk1
      refine ⟨e1, e2, rfl, fun p e R s m args below meth c H locs cells slots Q ls X hI kk => ?_⟩
      rw [hst]
      exact zz_put_row (fk := fk) (cy := cy) (v := .ref x) hc hk hu hty hnm hw hfin hd hi e1 hg (Nat.lt_of_le_of_lt (Nat.succ_le_of_lt hx) (by decide)) (by rw [hf0]; rfl) (hty k hk) (hT _ (Or.inl ⟨_, rfl⟩)).1 (hT _ (Or.inl ⟨_, rfl⟩)).2 X hI kk
    · rename_i i r hst
      obtain ⟨hi, w', hk1, e1, e2, hg⟩ := zz_pf_ok hf
      cases hk1
      refine ⟨e1, e2, rfl, fun p e R s m args below meth c H locs cells slots Q ls X hI kk => ?_⟩
      rw [hst]
      exact zz_put_row (fk := fk) (cy := cy) (v := .null) hc hk hu hty hnm hw hfin hd hi e1 hg (by decide) (by rw [hf0]; rfl) (hty k hk) (hT _ (Or.inr rfl)).1 (hT _ (Or.inr rfl)).2 X hI kk
    · cases hf
  · unfold za_putA at hf
    split at hf
    · obtain ⟨hx, hf⟩ := zz_cond hf
      obtain ⟨hi, w', hk1, e1, e2, hg⟩ := zz_pf_ok hf
      cases hk1
      exact ⟨e1, e2⟩
    · obtain ⟨hi, w', hk1, e1, e2, hg⟩ := zz_pf_ok hf
      cases hk1
      exact ⟨e1, e2⟩
    · cases hf
end ZQ
