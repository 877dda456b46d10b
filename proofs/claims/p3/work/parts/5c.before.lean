/-! WHAT STOOD THERE BEFORE, AS LISTS: it stays while cells above z0 alone change. Text k: the thing at sp (2 k), its row at sp (2 k + 1); constant row k of ints: at sp (1000000 + k). -/
/-- texts (length, signs of 8 bits); rows (length, ints of 32 bits) -/
abbrev zz_Lr : Type := List (Nat × Nat)
/-- places of texts; statics; nest words of fields and of methods; classes of rows of references -/
abbrev zz_Lg : Type := List (String × Nat × String × Nat) × List (String × String × String × Value) × List (String × Nat × String × String × String × String) × List (String × Nat × MethodName × String) × List String
/-- what a constant row holds: bytes if a 1 stands behind its last place -/
def zz_ty (q : Nat × Nat) : FieldType := bif Nat.beq (zz_at 32 q.2 q.1) 1 then .byte else .int
section ZGD
variable {z0 : Nat} {sp : Nat → Nat} {S S2 : zz_Lr} {L : zz_Lg}
def zz_St (z0 : Nat) (sp : Nat → Nat) (k : Nat) (q : Nat × Nat) (U : State) : Prop :=
  va_O "java/lang/String" (sp (2 * k)) (fun a : Nat => z0 ≤ a) U U.heap ∧ va_OF "java/lang/String" "coder" "B" (.int 0) (sp (2 * k)) (fun a : Nat => z0 ≤ a) U U.heap ∧ va_OF "java/lang/String" "value" "[B" (.ref (sp (2 * k + 1))) (sp (2 * k)) (fun a : Nat => z0 ≤ a) U U.heap ∧ va_T .byte (sp (2 * k + 1)) q.1 (fun j => .int (Int32.ofNat (zz_at 8 q.2 j))) (fun a : Nat => z0 ≤ a) U U.heap
def zz_GD (S S2 : zz_Lr) (L : zz_Lg) (z0 : Nat) (sp : Nat → Nat) (U : State) : Prop :=
  z0 ≤ U.heap.size ∧ (∀ (k : Nat) (q : Nat × Nat), S[k]? = some q → zz_St z0 sp k q U) ∧ (∀ (k : Nat) (q : Nat × Nat), S2[k]? = some q → va_T (zz_ty q) (sp (1000000 + k)) q.1 (fun j => .int (Int32.ofNat (zz_at 32 q.2 j))) (fun a : Nat => z0 ≤ a) U U.heap) ∧
  (∀ q ∈ L.1, vk_R q.1 q.2.1 q.2.2.1 (sp q.2.2.2) U) ∧ (∀ q ∈ L.2.1, va_Z q.1 q.2.1 q.2.2.1 (zz_v z0 sp q.2.2.2) (fun a : Nat => z0 ≤ a) U U.heap) ∧
  (∀ q ∈ L.2.2.1, va_Nw (.fieldLinkNest q.1 q.2.1 q.2.2.1 q.2.2.2.1 q.2.2.2.2.1 q.2.2.2.2.2) U) ∧ (∀ q ∈ L.2.2.2.1, va_Nw (.methodLinkNest q.1 q.2.1 q.2.2.1 q.2.2.2) U) ∧ ∀ C ∈ L.2.2.2.2, va_AO C U
theorem zz_GD_GF : zz_GF z0 (zz_GD S S2 L z0 sp) := by
  refine ⟨fun U V hW hz hq h => ?_, fun U V hv hh h => ?_, fun U h => h.1⟩
  · obtain ⟨h0, h1, h2, h3, h4, h5, h6, h7⟩ := h
    have hk : ∀ a : Nat, a < U.heap.size → ¬ z0 ≤ a → V.heap[a]? = U.heap[a]? := fun a _ ha => hq a (by omega)
    have hm := hW.alike
    refine ⟨?_, fun k q e => ?_, fun k q e => ?_, fun q e => vk_R.warm hW (h3 q e), fun q e => (va_Z.moved hm (h4 q e)).kept hk, fun q e => va_Nw.warmF hW (h5 q e), fun q e => va_Nw.warmM hW (h6 q e), fun C e => va_AO.moved hm (h7 C e)⟩
    · rcases Nat.eq_zero_or_pos z0 with e | e
      · omega
      · have e1 := hq (z0 - 1) (by omega)
        rw [Array.getElem?_eq_getElem (by omega : z0 - 1 < U.heap.size)] at e1
        have := (Array.getElem?_eq_some_iff.mp e1).1
        omega
    · obtain ⟨a, b, c, d⟩ := h1 k q e
      exact ⟨(va_O.moved hm a).kept hk, (va_OF.moved hm b).kept hk, (va_OF.moved hm c).kept hk, (va_T.moved hm d).kept hk⟩
    · exact (va_T.moved hm (h2 k q e)).kept hk
  · obtain ⟨h0, h1, h2, h3, h4, h5, h6, h7⟩ := h
    have hm : U.vm.Alike V.vm := by rw [hv]; exact Vm.Alike.refl _
    refine ⟨by rw [hh]; exact h0, fun k q e => ?_, fun k q e => by rw [hh]; exact va_T.moved hm (h2 k q e), fun q e => vk_R.same hv (h3 q e), fun q e => by rw [hh]; exact va_Z.moved hm (h4 q e), fun q e => va_Nw.same rfl hv.symm (h5 q e), fun q e => va_Nw.same rfl hv.symm (h6 q e), fun C e => va_AO.moved hm (h7 C e)⟩
    obtain ⟨a, b, c, d⟩ := h1 k q e
    unfold zz_St
    rw [hh]
    exact ⟨va_O.moved hm a, va_OF.moved hm b, va_OF.moved hm c, va_T.moved hm d⟩
/-- the text whose thing (p = 0) or row (p = 1) the number i is -/
def zz_kt (S : zz_Lr) (p i : Nat) : Option (Nat × Nat) := cond (Nat.ble 1000000 i && (Nat.blt i 2000000 && Nat.beq ((i - 1000000) % 2) p)) (S[(i - 1000000) / 2]?) none
theorem zz_kt_ok {p i : Nat} {q : Nat × Nat} (h : zz_kt S p i = some q) : ∃ k, i = 1000000 + (2 * k + p) ∧ S[k]? = some q := by
  unfold zz_kt at h
  obtain ⟨h1, h2⟩ := zz_cond h
  obtain ⟨a, h1⟩ := zz_and h1
  obtain ⟨b, c⟩ := zz_and h1
  have a := zz_ble a
  have c := Nat.eq_of_beq_eq_true c
  exact ⟨_, by omega, h2⟩
theorem zz_kr {k : Nat} : zz_r z0 sp (1000000 + k) = sp k := by
  unfold zz_r
  rw [if_neg (by omega), show 1000000 + k - 1000000 = k by omega]
def zz_kv (S : zz_Lr) (i : Nat) : Option Value := match zz_kt S 0 i with
  | some _ => some (.ref (i + 1))
  | none => none
def zz_kc (S : zz_Lr) (i : Nat) : Option Value := match zz_kt S 0 i with
  | some _ => some (.int (Int32.ofNat 0))
  | none => none
def zz_kg (S : zz_Lr) (i : Nat) : Bool := match zz_kt S 0 i with
  | some _ => true
  | none => false
def zz_kb (S : zz_Lr) (i j : Nat) : Option Nat := match zz_kt S 1 i with
  | some q => cond (Nat.blt j q.1 && Nat.blt q.1 2147483648) (some (zz_at 8 q.2 j)) none
  | none => none
def zz_k2 (S2 : zz_Lr) (i : Nat) : Option (Nat × Nat) := cond (Nat.ble 2000000 i) (S2[i - 2000000]?) none
def zz_ki (S2 : zz_Lr) (i j : Nat) : Option Nat := match zz_k2 S2 i with
  | some q => cond (Nat.blt j q.1 && Nat.blt q.1 2147483648 && not (Nat.beq (zz_at 32 q.2 q.1) 1)) (some (zz_at 32 q.2 j)) none
  | none => none
def zz_kB (S2 : zz_Lr) (i j : Nat) : Option Nat := match zz_k2 S2 i with
  | some q => cond (Nat.blt j q.1 && Nat.blt q.1 2147483648 && Nat.beq (zz_at 32 q.2 q.1) 1) (some (zz_at 32 q.2 j)) none
  | none => none
def zz_kn (S S2 : zz_Lr) (i : Nat) : Option Nat := match zz_kt S 1 i with
  | some q => some q.1
  | none => match zz_k2 S2 i with
    | some q => some q.1
    | none => none
variable {G : State → Prop}
theorem zz_kv_ok (hP : ∀ U, G U → zz_GD S S2 L z0 sp U) : ∀ i v, zz_kv S i = some v → ∀ U, G U → va_OF "java/lang/String" "value" "[B" (zz_v z0 sp v) (zz_r z0 sp i) (fun q : Nat => z0 ≤ q) U U.heap := by
  intro i v h U hU
  unfold zz_kv at h
  split at h
  · rename_i q hq
    cases h
    obtain ⟨k, rfl, hk⟩ := zz_kt_ok hq
    have := ((hP U hU).2.1 k q hk).2.2.1
    show va_OF _ _ _ (.ref (zz_r z0 sp (1000000 + (2 * k + 0) + 1))) _ _ _ _
    rw [show 1000000 + (2 * k + 0) + 1 = 1000000 + (2 * k + 1) by omega, zz_kr, zz_kr]
    exact this
  · cases h
theorem zz_kc_ok (hP : ∀ U, G U → zz_GD S S2 L z0 sp U) : ∀ i v, zz_kc S i = some v → ∀ U, G U → va_OF "java/lang/String" "coder" "B" (zz_v z0 sp v) (zz_r z0 sp i) (fun q : Nat => z0 ≤ q) U U.heap := by
  intro i v h U hU
  unfold zz_kc at h
  split at h
  · rename_i q hq
    cases h
    obtain ⟨k, rfl, hk⟩ := zz_kt_ok hq
    have := ((hP U hU).2.1 k q hk).2.1
    rw [zz_kr]
    exact this
  · cases h
theorem zz_kg_ok (hP : ∀ U, G U → zz_GD S S2 L z0 sp U) : ∀ i, zz_kg S i = true → ∀ U, G U → va_O "java/lang/String" (zz_r z0 sp i) (fun q : Nat => z0 ≤ q) U U.heap := by
  intro i h U hU
  unfold zz_kg at h
  split at h
  · rename_i q hq
    obtain ⟨k, rfl, hk⟩ := zz_kt_ok hq
    have := ((hP U hU).2.1 k q hk).1
    rw [zz_kr]
    exact this
  · cases h
theorem zz_kb_ok (hP : ∀ U, G U → zz_GD S S2 L z0 sp U) : zz_KR G z0 sp .byte (zz_kb S) := by
  intro i j v h
  unfold zz_kb at h
  split at h
  · rename_i q hq
    obtain ⟨h1, h2⟩ := zz_cond h
    obtain ⟨h3, h4⟩ := zz_and h1
    cases h2
    obtain ⟨k, rfl, hk⟩ := zz_kt_ok hq
    refine ⟨q.1, fun j => .int (Int32.ofNat (zz_at 8 q.2 j)), fun U hU => ?_, zz_blt h3, Nat.le_of_lt (zz_blt h4), rfl⟩
    rw [zz_kr]
    exact ((hP U hU).2.1 k q hk).2.2.2
  · cases h
theorem zz_k2_ok {i : Nat} {q : Nat × Nat} (h : zz_k2 S2 i = some q) : ∃ k, i = 1000000 + (1000000 + k) ∧ S2[k]? = some q := by
  unfold zz_k2 at h
  obtain ⟨h1, h2⟩ := zz_cond h
  have h1 := zz_ble h1
  exact ⟨_, by omega, h2⟩
theorem zz_ki_ok (hP : ∀ U, G U → zz_GD S S2 L z0 sp U) : zz_KR G z0 sp .int (zz_ki S2) := by
  intro i j v h
  unfold zz_ki at h
  split at h
  · rename_i q hq
    obtain ⟨h1, h2⟩ := zz_cond h
    obtain ⟨h1, h5⟩ := zz_and h1
    obtain ⟨h3, h4⟩ := zz_and h1
    cases h2
    have h5 : Nat.beq (zz_at 32 q.2 q.1) 1 = false := by
      cases hb : Nat.beq (zz_at 32 q.2 q.1) 1 with
      | true => rw [hb] at h5; cases h5
      | false => rfl
    obtain ⟨k, rfl, hk⟩ := zz_k2_ok hq
    refine ⟨q.1, fun j => .int (Int32.ofNat (zz_at 32 q.2 j)), fun U hU => ?_, zz_blt h3, Nat.le_of_lt (zz_blt h4), rfl⟩
    rw [zz_kr]
    have e1 := (hP U hU).2.2.1 k q hk
    unfold zz_ty at e1
    rw [h5] at e1
    exact e1
  · cases h
theorem zz_kB_ok (hP : ∀ U, G U → zz_GD S S2 L z0 sp U) : zz_KR G z0 sp .byte (zz_kB S2) := by
  intro i j v h
  unfold zz_kB at h
  split at h
  · rename_i q hq
    obtain ⟨h1, h2⟩ := zz_cond h
    obtain ⟨h1, h5⟩ := zz_and h1
    obtain ⟨h3, h4⟩ := zz_and h1
    cases h2
    obtain ⟨k, rfl, hk⟩ := zz_k2_ok hq
    refine ⟨q.1, fun j => .int (Int32.ofNat (zz_at 32 q.2 j)), fun U hU => ?_, zz_blt h3, Nat.le_of_lt (zz_blt h4), rfl⟩
    rw [zz_kr]
    have e1 := (hP U hU).2.2.1 k q hk
    unfold zz_ty at e1
    rw [h5] at e1
    exact e1
  · cases h
theorem zz_kn_ok (hP : ∀ U, G U → zz_GD S S2 L z0 sp U) : ∀ i v, zz_kn S S2 i = some v → ∃ (ty : FieldType) (h : Nat → Value), ∀ U, G U → va_T ty (zz_r z0 sp i) v h (fun q : Nat => z0 ≤ q) U U.heap := by
  intro i v h
  unfold zz_kn at h
  split at h
  · rename_i q hq
    cases h
    obtain ⟨k, rfl, hk⟩ := zz_kt_ok hq
    refine ⟨.byte, fun j => .int (Int32.ofNat (zz_at 8 q.2 j)), fun U hU => ?_⟩
    rw [zz_kr]
    exact ((hP U hU).2.1 k q hk).2.2.2
  · split at h
    · rename_i q hq
      cases h
      obtain ⟨k, rfl, hk⟩ := zz_k2_ok hq
      refine ⟨zz_ty q, fun j => .int (Int32.ofNat (zz_at 32 q.2 j)), fun U hU => ?_⟩
      rw [zz_kr]
      exact (hP U hU).2.2.1 k q hk
    · cases h
end ZGD
