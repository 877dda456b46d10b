/-! NEW CELLS, Object's constructor, switches -/
section ZB
variable {l : Launch} {Ts : List Cond} {D : va_G} {cl : List vw_C} {fk : Nat → Nat → Nat} {cy : Nat → ClassId} {z0 : Nat} {sp : Nat → Nat} {tys : List (ClassId × FieldType)} {G : State → Prop} {own mn : String} {nL : Nat} {cc : ByteArray} {d : Nat} {K : zz_K} {pc : Nat}
/-- an instruction that makes one cell c of N slots -/
theorem zo_born {act : zz_A} (hsp0 : sp 18446744073709551616 = 0) (h : ∀ f f' : zz_F, f.1 = pc → act K f = some f' → ∃ (cl0 : zz_C) (N : Nat), f'.2.2.2.1 = f.2.2.2.1 + 1 ∧ f'.2.2.2.2.1 = f.2.2.2.2.1 + N ∧ f'.2.1 = f.2.1 ∧ (∀ j, zz_g f'.2.2.2 j = if j = f.2.2.2.1 then cl0 else zz_g f.2.2.2 j) ∧ ∀ (p : Program) (e : Env) (R : Room) (s : State) (m : MethodId) (args : Array Value) (below : List Frame) (meth : Method) (c : Code) (H : Heap) (locs : List Loc) (cells slots : Nat) (Q : State → Prop) (ls : Array Slot),
      zz_X Ts D cl tys G own mn nL cc p s m args meth c → zz_I D cl fk cy z0 sp f.2.2.2 H → cells + 1 ≤ R.cells → slots + N ≤ R.slots → (∀ H1 : Heap, H1.size = H.size + 1 → (∀ q : Nat, q < H.size → H1[q]? = H[q]?) → va_at D cl (z0 + f.2.2.2.1, zz_e fk cy z0 sp cl0) H1 → W p l e R s m args below meth c H1 locs (cells + 1) (slots + N) Q (F0 m f'.1 ls (zz_sv z0 sp f'.2.2.1))) → W p l e R s m args below meth c H locs cells slots Q (F0 m pc ls (zz_sv z0 sp f.2.2.1)))
    (h2 : ∀ f f' : zz_F, act K f = some f' → f.2.2.2.1 ≤ f'.2.2.2.1 ∧ f.2.2.2.2.1 ≤ f'.2.2.2.2.1) : zz_O l Ts D cl fk cy z0 sp tys G own mn nL cc d K pc act := by
  refine ⟨h2, ?_⟩
  intro p e R s m args below meth c X _ _ H locs n0 s0 Q ls f f' hpc hf hI hS hl hn hs hc1 hc2 kk
  obtain ⟨cl0, N, e1, e2, e3, hg, h1⟩ := h f f' hpc hf
  rw [e1] at hc1
  rw [e2] at hc2
  refine h1 p e R s m args below meth c H locs _ _ Q ls X hI (by omega) (by omega) fun H1 z1 o1 hat => ?_
  have k1 := kk H1 locs ls (zz_I_push hsp0 hI e1 hg hat z1 o1) (zz_S_new hS z1 o1) (by rw [e3]; exact hl)
  rw [e1, e2, show f.2.2.2.1 + 1 - n0 = f.2.2.2.1 - n0 + 1 by omega, show f.2.2.2.2.1 + N - s0 = f.2.2.2.2.1 - s0 + N by omega] at k1
  exact k1
noncomputable def zz_nw (w : zz_W) (c : zz_C) (N : Nat) (kk : zz_W → Option zz_F) : Option zz_F :=
  cond (Nat.blt w.1 1000000) (zz_st w w.1 c none (fun w1 => zz_fN (w.1 + 1) (fun a => zz_fN (w.2.1 + N) (fun b => kk (a, b, w1.2.2))))) none
theorem zz_nw_ok {w : zz_W} {c : zz_C} {N : Nat} {kk : zz_W → Option zz_F} {f' : zz_F} (h : zz_nw w c N kk = some f') : w.1 < 1000000 ∧ ∃ w' : zz_W, kk w' = some f' ∧ w'.1 = w.1 + 1 ∧ w'.2.1 = w.2.1 + N ∧ ∀ j, zz_g w' j = if j = w.1 then c else zz_g w j := by
  unfold zz_nw at h
  obtain ⟨h1, h⟩ := zz_cond h
  obtain ⟨w1, hk, e1, e2, hg⟩ := zz_st_ok h
  rw [zz_fN_eq, zz_fN_eq] at hk
  exact ⟨zz_blt h1, _, hk, rfl, rfl, hg⟩
noncomputable def za_newa (kd t n : Nat) : zz_A := fun _ f => match f.2.2.1 with
  | .int x :: r => zz_fN (zz_nI x) (fun N => cond (Nat.ble N 1000000) (zz_nw f.2.2.2 (kd, t, N, 0) N (fun w => some (n, f.2.1, .ref f.2.2.2.1 :: r, w))) none)
  | _ => none
theorem zz_newa_row (hsp0 : sp 18446744073709551616 = 0) {at0 : ArrayType} {ty : FieldType} {t : Nat} (hd : decode cc pc = .ok (.newarray at0, 2)) (hty : newarray.typeOf at0 = ty) (hw : Cond.arrayClass ty ∈ Ts) (ht : tys[t]? = some (cy t, ty)) (hcl : ∀ s : State, va_RA s (cy t) ty → s.vm.findClass ("[" ++ ty.toString) = some (cy t)) (hcb : componentBytes ty ≤ 8) {x : Int32} (hx : zz_nI x ≤ 1000000) {n : Nat} (hn : n < 1000000)
    {p : Program} {e : Env} {R : Room} {s : State} {m : MethodId} {args : Array Value} {below : List Frame} {meth : Method} {c : Code} {H : Heap} {locs : List Loc} {cells slots : Nat} {Q : State → Prop} {ls : Array Slot} {rest : List Value}
    (X : zz_X Ts D cl tys G own mn nL cc p s m args meth c) (hz : H.size = z0 + n) (hc1 : cells + 1 ≤ R.cells) (hc2 : slots + zz_nI x ≤ R.slots)
    (kk : ∀ H1 : Heap, H1.size = H.size + 1 → (∀ q : Nat, q < H.size → H1[q]? = H[q]?) → H1[z0 + n]? = some (arrV (cy t) (zz_nI x) (fun _ => defaultValue ty)) → W p l e R s m args below meth c H1 locs (cells + 1) (slots + zz_nI x) Q (F0 m (pc + 2) ls (zz_v z0 sp (.ref n) :: rest))) : W p l e R s m args below meth c H locs cells slots Q (F0 m pc ls (.int x :: rest)) := by
  subst hty
  have h1 : zz_nI x < 1000001 := by omega
  obtain ⟨hin, hcl2⟩ := zz_idx h1 (by decide)
  have hb : zz_nI x * componentBytes (newarray.typeOf at0) ≤ 536870912 := Nat.le_trans (Nat.mul_le_mul hx hcb) (by decide)
  refine va_newaK X.1 X.2.1 (X.2.2.2.2.1 _ hw) rfl hd rfl (fun q => hin (Or.inl q)) hcl2 hb hc1 hc2 rfl fun H1 cA g1 z1 o1 hA hF => ?_
  have hcA : cA = cy t := Option.some.inj (hF.symm.trans (hcl s (X.2.2.2.2.2.1.2 t _ ht).2))
  subst hcA
  have k1 := kk H1 z1 o1 (by rw [← hz]; exact g1)
  rw [zz_v_ref hn, zz_ad_0 hsp0, ← hz] at k1
  exact k1
theorem zo_newI (hsp0 : sp 18446744073709551616 = 0) {t : Nat} (hd : decode cc pc = .ok (.newarray .int, 2)) (hw : Cond.arrayClass .int ∈ Ts) (ht : tys[t]? = some (cy t, .int)) : zz_O l Ts D cl fk cy z0 sp tys G own mn nL cc d K pc (za_newa 0 t (pc + 2)) := by
  refine zo_born hsp0 (fun f f' _ hf => ?_) (fun f f' hf => ?_)
  · unfold za_newa at hf
    split at hf
    · rename_i x r hst
      rw [zz_fN_eq] at hf
      obtain ⟨hx, hf⟩ := zz_cond hf
      obtain ⟨hn, w', hk1, e1, e2, hg⟩ := zz_nw_ok hf
      cases hk1
      refine ⟨_, _, e1, e2, rfl, hg, fun p e R s m args below meth c H locs cells slots Q ls X hI hc1 hc2 kk => ?_⟩
      rw [hst]
      refine zz_newa_row hsp0 (cl := cl) (D := D) (sp := sp) hd rfl hw ht (fun s h => h) (by decide) (zz_ble hx) hn X hI.1 hc1 hc2 fun H1 z1 o1 g1 => ?_
      refine kk H1 z1 o1 ?_
      rw [zz_e_i (t := t) rfl rfl]
      show H1[z0 + f.2.2.2.1]? = some (vp_cell _ _)
      rw [g1, vp_cell_i]
      congr 2
      funext q
      rw [zz_at_0]
      rfl
    · cases hf
  · unfold za_newa at hf
    split at hf
    · rw [zz_fN_eq] at hf
      obtain ⟨hx, hf⟩ := zz_cond hf
      obtain ⟨hn, w', hk1, e1, e2, hg⟩ := zz_nw_ok hf
      cases hk1
      show _ ≤ w'.1 ∧ _ ≤ w'.2.1
      rw [e1, e2]
      exact ⟨Nat.le_succ _, Nat.le_add_right _ _⟩
    · cases hf
theorem zo_newB (hsp0 : sp 18446744073709551616 = 0) {t : Nat} (hd : decode cc pc = .ok (.newarray .byte, 2)) (hw : Cond.arrayClass .byte ∈ Ts) (ht : tys[t]? = some (cy t, .byte)) : zz_O l Ts D cl fk cy z0 sp tys G own mn nL cc d K pc (za_newa 0 t (pc + 2)) := by
  refine zo_born hsp0 (fun f f' _ hf => ?_) (fun f f' hf => ?_)
  · unfold za_newa at hf
    split at hf
    · rename_i x r hst
      rw [zz_fN_eq] at hf
      obtain ⟨hx, hf⟩ := zz_cond hf
      obtain ⟨hn, w', hk1, e1, e2, hg⟩ := zz_nw_ok hf
      cases hk1
      refine ⟨_, _, e1, e2, rfl, hg, fun p e R s m args below meth c H locs cells slots Q ls X hI hc1 hc2 kk => ?_⟩
      rw [hst]
      refine zz_newa_row hsp0 (cl := cl) (D := D) (sp := sp) hd rfl hw ht (fun s h => h) (by decide) (zz_ble hx) hn X hI.1 hc1 hc2 fun H1 z1 o1 g1 => ?_
      refine kk H1 z1 o1 ?_
      rw [zz_e_i (t := t) rfl rfl]
      show H1[z0 + f.2.2.2.1]? = some (vp_cell _ _)
      rw [g1, vp_cell_i]
      congr 2
      funext q
      rw [zz_at_0]
      rfl
    · cases hf
  · unfold za_newa at hf
    split at hf
    · rw [zz_fN_eq] at hf
      obtain ⟨hx, hf⟩ := zz_cond hf
      obtain ⟨hn, w', hk1, e1, e2, hg⟩ := zz_nw_ok hf
      cases hk1
      show _ ≤ w'.1 ∧ _ ≤ w'.2.1
      rw [e1, e2]
      exact ⟨Nat.le_succ _, Nat.le_add_right _ _⟩
    · cases hf
theorem zo_newZ (hsp0 : sp 18446744073709551616 = 0) {t : Nat} (hd : decode cc pc = .ok (.newarray .boolean, 2)) (hw : Cond.arrayClass .boolean ∈ Ts) (ht : tys[t]? = some (cy t, .boolean)) : zz_O l Ts D cl fk cy z0 sp tys G own mn nL cc d K pc (za_newa 0 t (pc + 2)) := by
  refine zo_born hsp0 (fun f f' _ hf => ?_) (fun f f' hf => ?_)
  · unfold za_newa at hf
    split at hf
    · rename_i x r hst
      rw [zz_fN_eq] at hf
      obtain ⟨hx, hf⟩ := zz_cond hf
      obtain ⟨hn, w', hk1, e1, e2, hg⟩ := zz_nw_ok hf
      cases hk1
      refine ⟨_, _, e1, e2, rfl, hg, fun p e R s m args below meth c H locs cells slots Q ls X hI hc1 hc2 kk => ?_⟩
      rw [hst]
      refine zz_newa_row hsp0 (cl := cl) (D := D) (sp := sp) hd rfl hw ht (fun s h => h) (by decide) (zz_ble hx) hn X hI.1 hc1 hc2 fun H1 z1 o1 g1 => ?_
      refine kk H1 z1 o1 ?_
      rw [zz_e_i (t := t) rfl rfl]
      show H1[z0 + f.2.2.2.1]? = some (vp_cell _ _)
      rw [g1, vp_cell_i]
      congr 2
      funext q
      rw [zz_at_0]
      rfl
    · cases hf
  · unfold za_newa at hf
    split at hf
    · rw [zz_fN_eq] at hf
      obtain ⟨hx, hf⟩ := zz_cond hf
      obtain ⟨hn, w', hk1, e1, e2, hg⟩ := zz_nw_ok hf
      cases hk1
      show _ ≤ w'.1 ∧ _ ≤ w'.2.1
      rw [e1, e2]
      exact ⟨Nat.le_succ _, Nat.le_add_right _ _⟩
    · cases hf
theorem zo_newL (hsp0 : sp 18446744073709551616 = 0) {t : Nat} (hd : decode cc pc = .ok (.newarray .long, 2)) (hw : Cond.arrayClass .long ∈ Ts) (ht : tys[t]? = some (cy t, .long)) : zz_O l Ts D cl fk cy z0 sp tys G own mn nL cc d K pc (za_newa 1 t (pc + 2)) := by
  refine zo_born hsp0 (fun f f' _ hf => ?_) (fun f f' hf => ?_)
  · unfold za_newa at hf
    split at hf
    · rename_i x r hst
      rw [zz_fN_eq] at hf
      obtain ⟨hx, hf⟩ := zz_cond hf
      obtain ⟨hn, w', hk1, e1, e2, hg⟩ := zz_nw_ok hf
      cases hk1
      refine ⟨_, _, e1, e2, rfl, hg, fun p e R s m args below meth c H locs cells slots Q ls X hI hc1 hc2 kk => ?_⟩
      rw [hst]
      refine zz_newa_row hsp0 (cl := cl) (D := D) (sp := sp) hd rfl hw ht (fun s h => h) (by decide) (zz_ble hx) hn X hI.1 hc1 hc2 fun H1 z1 o1 g1 => ?_
      refine kk H1 z1 o1 ?_
      rw [zz_e_l (t := t) rfl rfl]
      show H1[z0 + f.2.2.2.1]? = some (vp_cell _ _)
      rw [g1, vp_cell_l]
      congr 2
      funext q
      rw [zz_at_0]
      rfl
    · cases hf
  · unfold za_newa at hf
    split at hf
    · rw [zz_fN_eq] at hf
      obtain ⟨hx, hf⟩ := zz_cond hf
      obtain ⟨hn, w', hk1, e1, e2, hg⟩ := zz_nw_ok hf
      cases hk1
      show _ ≤ w'.1 ∧ _ ≤ w'.2.1
      rw [e1, e2]
      exact ⟨Nat.le_succ _, Nat.le_add_right _ _⟩
    · cases hf
/-- new: an object of class ci with N fields -/
noncomputable def za_new (ci N n : Nat) : zz_A := fun _ f => zz_nw f.2.2.2 (3, ci, N, 0) N (fun w => some (n, f.2.1, .ref f.2.2.2.1 :: f.2.2.1, w))
theorem zo_new (hsp0 : sp 18446744073709551616 = 0) {C : String} {T : u_T} {N ci index : Nat} {ty0 : Nat → FieldType} (hd : decode cc pc = .ok (.new index, 3)) (hc : cl[ci]? = some (C, T, N)) (hu : ∀ w ∈ u_ws C T N, w ∈ Ts) (hty : ∀ k, k < N → parseFieldDescriptor (T k).2.2.1 = some (ty0 k)) (hdf : ∀ k, k < N → (fk ci k = 0 ∧ defaultValue (ty0 k) = .int 0) ∨ (fk ci k = 1 ∧ defaultValue (ty0 k) = .long 0) ∨ (fk ci k = 2 ∧ defaultValue (ty0 k) = .null))
    (hw1 : Cond.classLink own index C ∈ Ts) (hw2 : Cond.instantiable C N ∈ Ts) (hw3 : Cond.initialized C ∈ Ts) : zz_O l Ts D cl fk cy z0 sp tys G own mn nL cc d K pc (za_new ci N (pc + 3)) := by
  refine zo_born hsp0 (fun f f' _ hf => ?_) (fun f f' hf => ?_)
  · unfold za_new at hf
    obtain ⟨hn, w', hk1, e1, e2, hg⟩ := zz_nw_ok hf
    cases hk1
    refine ⟨_, _, e1, e2, rfl, hg, fun p e R s m args below meth c H locs cells slots Q ls X hI hc1 hc2 kk => ?_⟩
    have hKn := X.2.2.2.2.2.1.1 ci _ hc
    refine W.newcK X.1 X.2.1 X.2.2.2.1 (X.2.2.2.2.1 _ hw1) (X.2.2.2.2.1 _ hw2) (X.2.2.2.2.1 _ hw3) rfl hd hc1 hc2 hKn.2.1 rfl fun H1 kC hkC g1 z1 o1 => ?_
    have k1 := kk H1 z1 o1 (by
      rw [zz_e_o (ci := ci) rfl rfl, ← hI.1]
      refine ⟨_, hc, (u_born ty0 X.2.2.2.2.1 hu hKn hkC g1 hty).to (fun j hj => ?_)⟩
      have e3 : vp_V ((List.range N).map (fun k => zz_v z0 sp (zz_av (fk ci k) (zz_at 64 0 k)))) j = zz_v z0 sp (zz_av (fk ci j) 0) := by
        unfold vp_V
        rw [List.getD_eq_getElem?_getD, zz_rng_get hj, zz_at_0]
        rfl
      show defaultValue (ty0 j) = vp_V ((List.range N).map (fun k => zz_v z0 sp (zz_av (fk ci k) (zz_at 64 0 k)))) j
      rw [e3]
      rcases hdf j hj with ⟨q1, q2⟩ | ⟨q1, q2⟩ | ⟨q1, q2⟩
      · rw [q1, q2]; rfl
      · rw [q1, q2]; rfl
      · rw [q1, q2]; rfl)
    have hv : zz_sv z0 sp (Value.ref f.2.2.2.1 :: f.2.2.1) = Value.ref H.size :: zz_sv z0 sp f.2.2.1 := by
      show zz_v z0 sp (Value.ref f.2.2.2.1) :: zz_sv z0 sp f.2.2.1 = _
      rw [zz_v_ref hn, zz_ad_0 hsp0, hI.1]
    have k2 : W p l e R s m args below meth c H1 locs (cells + 1) (slots + N) Q (F0 m (pc + 3) ls (zz_sv z0 sp (Value.ref f.2.2.2.1 :: f.2.2.1))) := k1
    rw [hv] at k2
    exact k2
  · unfold za_new at hf
    obtain ⟨hn, w', hk1, e1, e2, hg⟩ := zz_nw_ok hf
    cases hk1
    show _ ≤ w'.1 ∧ _ ≤ w'.2.1
    rw [e1, e2]
    exact ⟨Nat.le_succ _, Nat.le_add_right _ _⟩
/-- the constructor of java.lang.Object -/
def zz_cs (l : List Value) : Nat := (l.map fun v => v.category).sum
theorem zz_cs_sv (l : List Value) : ((zz_sv z0 sp l).map fun v => v.category).sum = zz_cs l := by
  unfold zz_sv zz_cs
  rw [List.map_map]
  congr 1
  apply List.map_congr_left
  intro v _
  exact zz_v_cat z0 sp v
noncomputable def za_oinit (n : Nat) : zz_A := fun _ f => match f.2.2.1 with
  | .ref _ :: r => cond (Nat.ble (zz_cs r) 8) (some (n, f.2.1, r, f.2.2.2)) none
  | _ => none
theorem zo_oinit {index : Nat} (hd : decode cc pc = .ok (.invokespecial index, 3)) (hw1 : Cond.methodLink own index Lib.objectInit ∈ Ts) (hw2 : Cond.instanceMethod Lib.objectInit ∈ Ts) (hw3 : Cond.code Lib.objectInit ⟨#[0xb1]⟩ 1 none ∈ Ts) : zz_O l Ts D cl fk cy z0 sp tys G own mn nL cc d K pc (za_oinit (pc + 3)) := by
  refine ⟨fun f f' hf => ?_, ?_⟩
  · unfold za_oinit at hf
    split at hf
    · obtain ⟨_, hf⟩ := zz_cond hf
      cases hf
      exact ⟨Nat.le_refl _, Nat.le_refl _⟩
    · cases hf
  · intro p e R s m args below meth c X hR1 hR2 H locs n0 s0 Q ls f f' hpc hf hI hS hl _ _ _ _ kk
    unfold za_oinit at hf
    split at hf
    · rename_i i r hst
      obtain ⟨hb, hf⟩ := zz_cond hf
      cases hf
      rw [hst]
      have hr := lv_room (m := m) (pc := pc) (ls := ls) (rest := zz_sv z0 sp (Value.ref i :: r)) (st := zz_sv z0 sp r) (by rw [zz_cs_sv]; exact zz_ble hb)
      refine W.objInit (rest := zz_sv z0 sp r) X.1 X.2.1 X.2.2.2.1 (X.2.2.2.2.1 _ hw1) (X.2.2.2.2.1 _ hw2) (X.2.2.2.2.1 _ hw3) rfl (hl.1.trans X.2.2.1.symm) rfl hd (by omega) (by omega) ?_
      exact kk H locs ls hI hS hl
    · cases hf
/-- a switch by a table, which the abstract machine reads off -/
noncomputable def za_tsw (lo hi : Int) (dt : Nat) (ts : List Nat) : zz_A := fun _ f => match f.2.2.1 with
  | .int x :: r => if x.toInt < lo ∨ hi < x.toInt then some (dt, f.2.1, r, f.2.2.2) else match ts[(x.toInt - lo).toNat]? with
    | some t => some (t, f.2.1, r, f.2.2.2)
    | none => none
  | _ => none
theorem zo_tsw {dflt lo hi : Int} {offs : Array Int} {len dt : Nat} {ts : List Nat} (hd : decode cc pc = .ok (.tableswitch dflt lo hi offs, len)) (hdt : (pc : Int) + dflt = (dt : Int)) (hts : offs.toList.map (fun o => (pc : Int) + o) = ts.map (fun t : Nat => (t : Int))) : zz_O l Ts D cl fk cy z0 sp tys G own mn nL cc d K pc (za_tsw lo hi dt ts) := by
  refine zo_still (fun f f' _ hf => ?_) (fun f f' hf => ?_)
  · unfold za_tsw at hf
    split at hf
    · rename_i x r hst
      split at hf
      · rename_i hc
        cases hf
        refine ⟨rfl, fun p e R s m args below meth c H locs cells slots Q ls X hS hl kk => ?_⟩
        rw [hst]
        exact lv_tableOut X.1 X.2.1 hd hc hdt (kk ls hl)
      · rename_i hc
        split at hf
        · rename_i t ht
          cases hf
          refine ⟨rfl, fun p e R s m args below meth c H locs cells slots Q ls X hS hl kk => ?_⟩
          rw [hst]
          have h1 : (ts.map (fun t : Nat => (t : Int)))[(x.toInt - lo).toNat]? = some (t : Int) := by rw [List.getElem?_map, ht]; rfl
          rw [← hts, List.getElem?_map] at h1
          cases ho : offs.toList[(x.toInt - lo).toNat]? with
          | none => rw [ho] at h1; cases h1
          | some o =>
            rw [ho] at h1
            have h2 : (pc : Int) + o = (t : Int) := Option.some.inj h1
            exact lv_tableIn X.1 X.2.1 hd (fun q => hc (Or.inl q)) (fun q => hc (Or.inr q)) (by rw [← Array.getElem?_toList]; exact ho) h2 (kk ls hl)
        · cases hf
    · cases hf
  · unfold za_tsw at hf
    split at hf
    · split at hf
      · cases hf
        rfl
      · split at hf
        · cases hf
          rfl
        · cases hf
    · cases hf
noncomputable def za_lsw (g : Int → Option Nat) : zz_A := fun _ f => match f.2.2.1 with
  | .int x :: r => match g x.toInt with
    | some t => some (t, f.2.1, r, f.2.2.2)
    | none => none
  | _ => none
theorem zo_lsw {dflt : Int} {ps : Array (Int × Int)} {len : Nat} {g : Int → Option Nat} (hd : decode cc pc = .ok (.lookupswitch dflt ps, len)) (hp : (ps.toList.zip (ps.toList.drop 1)).all (fun (a, next) => a.1 < next.1) = true) (hg : ∀ x t, g x = some t → (pc : Int) + Op.lookupswitch.offset ps.toList dflt x = (t : Int)) : zz_O l Ts D cl fk cy z0 sp tys G own mn nL cc d K pc (za_lsw g) := by
  refine zo_still (fun f f' _ hf => ?_) (fun f f' hf => ?_)
  · unfold za_lsw at hf
    split at hf
    · rename_i x r hst
      split at hf
      · rename_i t ht
        cases hf
        refine ⟨rfl, fun p e R s m args below meth c H locs cells slots Q ls X hS hl kk => ?_⟩
        rw [hst]
        exact lv_lookup X.1 X.2.1 hd hp rfl (hg _ _ ht) (kk ls hl)
      · cases hf
    · cases hf
  · unfold za_lsw at hf
    split at hf
    · split at hf
      · cases hf
        rfl
      · cases hf
    · cases hf
end ZB
