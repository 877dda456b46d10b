/-! PUTFIELD OF A BYTE -/
section ZPB
variable {l : Launch} {Ts : List Cond} {D : va_G} {cl : List vw_C} {fk : Nat → Nat → Nat} {cy : Nat → ClassId} {z0 : Nat} {sp : Nat → Nat} {tys : List (ClassId × FieldType)} {G : State → Prop} {own mn : String} {nL : Nat} {cc : ByteArray} {d : Nat} {K : zz_K} {pc : Nat}
noncomputable def za_putB (ci k n : Nat) : zz_A := fun _ f => match f.2.2.1 with
  | .int x :: .ref i :: r => cond (Nat.blt (zz_nI x) 128) (zz_pf f.2.2.2 i ci k (zz_nI x) (fun w => some (n, f.2.1, r, w))) none
  | _ => none
theorem zz_fb : ∀ n, n < 128 → fits .byte (.int (Int32.ofNat n)) = true := by decide
theorem zo_putB {C : String} {T : u_T} {N ci k index : Nat} {ty0 : Nat → FieldType} (hd : decode cc pc = .ok (.putfield index, 3)) (hf0 : fk ci k = 0) (hc : cl[ci]? = some (C, T, N)) (hk : k < N) (hu : ∀ w ∈ u_ws C T N, w ∈ Ts) (hty : ∀ k, k < N → parseFieldDescriptor (T k).2.2.1 = some (ty0 k)) (hnm : ∀ a, a < N → ∀ b, b < N → a ≠ b → (T a).2.1 ≠ (T b).2.1) (hw : Cond.fieldLink own index (T k).1 (T k).2.1 (T k).2.2.1 ∈ Ts) (hfin : (T k).2.2.2 = false ∨ ((T k).2.2.2 = true ∧ mn = "<init>" ∧ (T k).1 = own)) (hdt : ty0 k = .byte) : zz_O l Ts D cl fk cy z0 sp tys G own mn nL cc d K pc (za_putB ci k (pc + 3)) :=
  zo_write (fun f f' _ hf => by
    unfold za_putB at hf
    split at hf
    · rename_i x i r hst
      obtain ⟨hx, hf⟩ := zz_cond hf
      obtain ⟨hi, w', hk1, e1, e2, hg⟩ := zz_pf_ok hf
      cases hk1
      refine ⟨e1, e2, rfl, fun p e R s m args below meth c H locs cells slots Q ls X hI kk => ?_⟩
      rw [hst]
      exact zz_put_row (fk := fk) (cy := cy) (v := .int x) hc hk hu hty hnm hw hfin hd hi e1 hg (Nat.lt_of_lt_of_le (zz_nI_lt x) (by decide)) (by rw [hf0, zz_av, if_pos rfl, zz_nI_of]) (by rw [hty k hk, hdt]) (by
        show narrow .byte (.int x) = .int x
        rw [← zz_nI_of x]
        exact zz_nb _ (zz_blt hx)) (by
        show fits .byte (.int x) = true
        rw [← zz_nI_of x]
        exact zz_fb _ (zz_blt hx)) X hI kk
    · cases hf) (fun f f' hf => by
    unfold za_putB at hf
    split at hf
    · obtain ⟨hx, hf⟩ := zz_cond hf
      obtain ⟨hi, w', hk1, e1, e2, hg⟩ := zz_pf_ok hf
      cases hk1
      exact ⟨e1, e2⟩
    · cases hf)
end ZPB
