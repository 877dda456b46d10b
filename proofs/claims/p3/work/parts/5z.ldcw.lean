/-! a text by a wide index -/
section ZLW1
variable {p : Program} {l : Launch} {e : Env} {R : Room} {s : State} {m : MethodId} {args : Array Value} {below : List Frame} {meth : Method} {c : Code} {H : Heap} {locs : List Loc} {cells slots : Nat} {Q : State → Prop}
theorem zo_vldcSW {cc : ByteArray} {pc : Nat} {ls : Array Slot} {rest : List Value} (hexec : p.tables.exec = Jvm.exec) (hb : c.code = cc) {own tx : String} {index q : Nat} (hown : s.vm.findClass own = some m.cls) (hZ : vk_R own index tx q s) (hdg : decode cc pc = .ok (.ldc_w index, 3))
    (k : W p l e R s m args below meth c H locs cells slots Q (F0 m (pc + 3) ls (.ref q :: rest))) : W p l e R s m args below meth c H locs cells slots Q (F0 m pc ls rest) := by
  intro T hT X
  obtain ⟨t, a1, b1⟩ := k T hT X
  exact ⟨t, X.ldcStringW hexec hown (text := tx) (a := q) hZ.1 hZ.2 (g := F0 m pc ls rest) rfl (by rw [hb]; exact hdg) t a1, b1⟩
end ZLW1
section ZLW2
variable {l : Launch} {Ts : List Cond} {D : va_G} {cl : List vw_C} {fk : Nat → Nat → Nat} {cy : Nat → ClassId} {z0 : Nat} {sp : Nat → Nat} {tys : List (ClassId × FieldType)} {G : State → Prop} {own mn : String} {nL : Nat} {cc : ByteArray} {d : Nat} {K : zz_K} {pc : Nat}
theorem zo_ldcSW {index k : Nat} {tx : String} (hd : decode cc pc = .ok (.ldc_w index, 3)) (hR : ∀ U, G U → vk_R own index tx (sp k) U) : zz_O l Ts D cl fk cy z0 sp tys G own mn nL cc d K pc (za_const (.ref (1000000 + k)) (pc + 3)) :=
  zo_still (fun f f' _ hf => by
    cases hf
    refine ⟨rfl, fun p e R s m args below meth c H locs cells slots Q ls X hS hl kk => ?_⟩
    have k1 := kk ls hl
    have e1 : zz_sv z0 sp (Value.ref (1000000 + k) :: f.2.2.1) = .ref (sp k) :: zz_sv z0 sp f.2.2.1 := by
      show Value.ref (zz_r z0 sp (1000000 + k)) :: _ = _
      rw [zz_r, if_neg (by omega), show 1000000 + k - 1000000 = k by omega]
      rfl
    rw [e1] at k1
    exact zo_vldcSW X.1 X.2.1 X.2.2.2.1 (hR s X.2.2.2.2.2.2.2.2) hd k1) (fun f f' hf => by cases hf; rfl)
end ZLW2
