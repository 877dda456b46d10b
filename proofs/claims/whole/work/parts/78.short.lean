/-! THE LAW ON A SCRIPT THAT IS TOO SHORT FOR A CALL -/
theorem zz_GF_and {z0 : Nat} {G : State → Prop} {ty : FieldType} {t N : Nat} {h : Nat → Value} (hG : zz_GF z0 G) : zz_GF z0 (fun U => G U ∧ va_T ty t N h (fun q : Nat => z0 ≤ q) U U.heap) := by
  refine ⟨fun U V hW hz hq g => ⟨hG.1 U V hW hz hq g.1, (va_T.moved hW.alike g.2).kept (fun a _ ha => hq a (by omega))⟩, fun U V hv hh g => ⟨hG.2.1 U V hv hh g.1, ?_⟩, fun U g => hG.2.2 U g.1⟩
  rw [hh]
  exact va_T.moved (by rw [hv]; exact Vm.Alike.refl _) g.2
set_option maxHeartbeats 4000000 in
theorem zLaw_lt4 {p : Program} {e : Env} {s : State} {m : MethodId} {below : List Frame} {meth : Method} {c : Code} (l : Launch) {b L : Nat} {xs : Nat → Int32} (hL : L < 4) (C0 : lw_At p s m meth c b L xs) : W p l e room_1 s m #[Value.ref b] below meth c s.heap [] 0 0 (lw_Z below #[Value.ref b] s) (entryFrame m ([Value.ref b] : List Value).toArray 7) := by
  obtain ⟨hx, hb, hr, hml, hown, hts, hX, hbl, hlocks, hgv⟩ := id C0
  obtain ⟨sp, hsp, hGD⟩ := zG_at b hts hgv
  obtain ⟨D, cy, hK⟩ := zK_at hts
  have hT : va_T .int b L (fun j => .int (xs j)) (fun q : Nat => s.heap.size ≤ q) s s.heap := by
    obtain ⟨scr, hcb, hof, hkn, hsz, hval⟩ := hX
    exact ⟨scr, hcb, hof, hkn, Nat.le_of_eq hsz.symm, by rw [hsz], hval, Nat.not_le.mpr hbl⟩
  have hGF : zz_GF s.heap.size (fun U => zz_GD zS zS2 zLg s.heap.size sp U ∧ va_T .int b L (fun j => .int (xs j)) (fun q : Nat => s.heap.size ≤ q) U U.heap) := zz_GF_and zz_GD_GF
  have hP : ∀ U, (zz_GD zS zS2 zLg s.heap.size sp U ∧ va_T .int b L (fun j => .int (xs j)) (fun q : Nat => s.heap.size ≤ q) U U.heap) → zz_GD zS zS2 zLg s.heap.size sp U := fun U h => h.1
  have hXX : ∀ U, (zz_GD zS zS2 zLg s.heap.size sp U ∧ va_T .int b L (fun j => .int (xs j)) (fun q : Nat => s.heap.size ≤ q) U U.heap) → va_T .int (sp 999999) L (fun j => .int (xs j)) (fun q : Nat => s.heap.size ≤ q) U U.heap := fun U h => by rw [hsp]; exact h.2
  have KS := zKS (l := l) (D := D) (cy := cy) (z0 := s.heap.size) (sp := sp) hGF hP 16
  have hlt : Int32.ofNat L - Int32.ofNat 4 < Int32.ofNat 0 := by
    rcases (show L = 0 ∨ L = 1 ∨ L = 2 ∨ L = 3 by omega) with rfl | rfl | rfl | rfl <;> decide
  have B := zz_B_tr (zLaw_pre (mn := meth.name) KS hGF hP zR1 zR2) (zLaw_out (L := L) (xs := xs) KS hGF hP hXX hlt)
  have X : zz_X zTs D zcl (zTys cy) (fun U => zz_GD zS zS2 zLg s.heap.size sp U ∧ va_T .int b L (fun j => .int (xs j)) (fun q : Nat => s.heap.size ≤ q) U U.heap) "ToolMillLaw" meth.name 7 code p s m #[Value.ref b] meth c := ⟨hx, hb, hml, hown, fun w hw => hts w (zTs_in w hw), hK, hlocks, rfl, hGD, hT⟩
  have hl := lv_entry ([.ref b]) (n := 7) (Nat.le_of_ble_eq_true rfl)
  rw [lg_entry_eq]
  generalize (lg_sl ([.ref b]) ++ List.replicate (7 - (lg_sl ([.ref b])).length) Slot.unset).toArray = ls at hl ⊢
  have hl : lv_has ls 7 (zz_lv s.heap.size sp [(0, .ref 1999999)]) := by
    have e : zz_lv s.heap.size sp [(0, .ref 1999999)] = [(0, .ref b)] := by
      show [((0 : Nat), Value.ref (zz_r s.heap.size sp 1999999))] = _
      rw [zz_r_s, hsp]
    rw [e]
    exact hl
  refine B.2 p e room_1 s m #[Value.ref b] below meth c X (by decide) (by decide) s.heap [] 0 0 (lw_Z below #[Value.ref b] s) ls ⟨rfl, fun k q h => absurd (zz_ws_at h).1 (Nat.not_lt_zero _)⟩ va_S.rf hl (Nat.le_refl _) (Nat.le_refl _) (Nat.le_of_ble_eq_true rfl) (Nat.le_of_ble_eq_true rfl) fun H' locs' ls' hI' hS' hl' => ?_
  refine va_forget hS'.2.2 (W.widen (k := 601024) (n := 7293034) (Nat.le_of_ble_eq_true rfl) (Nat.le_of_ble_eq_true rfl) ?_)
  exact lw_ret hx hb hr hlocks zd_900_1494
