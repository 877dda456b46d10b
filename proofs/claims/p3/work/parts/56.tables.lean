/-! TABLES: their instructions one by one -/
section ZTB
variable {l : Launch} {Ts : List Cond} {D : va_G} {cl : List vw_C} {fk : Nat → Nat → Nat} {cy : Nat → ClassId} {z0 : Nat} {sp : Nat → Nat} {tys : List (ClassId × FieldType)} {G : State → Prop} {own mn : String} {nL : Nat} {cc : ByteArray} {d : Nat} {K : zz_K}
/-- a chunk's instructions from pc on, by a property of place and instruction -/
def zz_CO (Pr : Nat → zz_A → Prop) : Nat → List (Nat × zz_A) → Prop
  | _, [] => True
  | pc, e :: r => (e.1 = 0 → Pr pc e.2) ∧ zz_CO Pr (pc + 1) r
def zz_TC (Pr : Nat → zz_A → Prop) : Nat → zz_T → Prop
  | _, [] => True
  | i, ch :: r => zz_CO Pr (16 * i) ch ∧ zz_TC Pr (i + 1) r
theorem zz_CO_at {Pr : Nat → zz_A → Prop} : ∀ (pc : Nat) (ch : List (Nat × zz_A)), zz_CO Pr pc ch → ∀ j e, ch[j]? = some e → e.1 = 0 → Pr (pc + j) e.2
  | _, [], _, j, e, he, _ => by cases he
  | pc, x :: r, h, 0, e, he, h0 => by
    cases he
    exact h.1 h0
  | pc, x :: r, h, j + 1, e, he, h0 => by
    have := zz_CO_at (pc + 1) r h.2 j e he h0
    rw [show pc + 1 + j = pc + (j + 1) by omega] at this
    exact this
theorem zz_TC_at {Pr : Nat → zz_A → Prop} : ∀ (i : Nat) (T : zz_T), zz_TC Pr i T → ∀ k ch, T[k]? = some ch → zz_CO Pr (16 * (i + k)) ch
  | _, [], _, k, ch, he => by cases he
  | i, x :: r, h, 0, ch, he => by
    cases he
    exact h.1
  | i, x :: r, h, k + 1, ch, he => by
    have := zz_TC_at (i + 1) r h.2 k ch he
    rw [show i + 1 + k = i + (k + 1) by omega] at this
    exact this
theorem zz_ent_at {Pr : Nat → zz_A → Prop} {T : zz_T} (h : zz_TC Pr 0 T) (pc : Nat) (h0 : (zz_ent T pc).1 = 0) : Pr pc (zz_ent T pc).2 := by
  unfold zz_ent at h0 ⊢
  cases hc : T[pc / 16]? with
  | none =>
    have e1 : T.getD (pc / 16) [] = [] := by rw [List.getD_eq_getElem?_getD, hc]; rfl
    rw [e1] at h0
    simp [zz_en0] at h0
  | some ch =>
    have e1 : T.getD (pc / 16) [] = ch := by rw [List.getD_eq_getElem?_getD, hc]; rfl
    rw [e1] at h0 ⊢
    cases he : ch[pc % 16]? with
    | none =>
      have e2 : ch.getD (pc % 16) zz_en0 = zz_en0 := by rw [List.getD_eq_getElem?_getD, he]; rfl
      rw [e2] at h0
      cases h0
    | some e =>
      have e2 : ch.getD (pc % 16) zz_en0 = e := by rw [List.getD_eq_getElem?_getD, he]; rfl
      rw [e2] at h0 ⊢
      have h1 := zz_CO_at _ _ (zz_TC_at 0 T h (pc / 16) ch hc) (pc % 16) e he h0
      rw [show 16 * (0 + pc / 16) + pc % 16 = pc by omega] at h1
      exact h1
theorem zz_TO_of {T : zz_T} (h : zz_TC (fun pc act => zz_O l Ts D cl fk cy z0 sp tys G own mn nL cc d K pc act) 0 T) : zz_TO l Ts D cl fk cy z0 sp tys G own mn nL cc d K T := fun pc h0 => zz_ent_at h pc h0
/-- returns, read off a table by a program -/
def zz_rk (f : Nat → Nat → Bool) : Nat → List (Nat × zz_A) → Bool
  | _, [] => true
  | pc, e :: r => f pc e.1 && zz_rk f (pc + 1) r
def zz_rkT (f : Nat → Nat → Bool) : Nat → zz_T → Bool
  | _, [] => true
  | i, ch :: r => zz_rk f (16 * i) ch && zz_rkT f (i + 1) r
theorem zz_rk_at {f : Nat → Nat → Bool} : ∀ (pc : Nat) (ch : List (Nat × zz_A)), zz_rk f pc ch = true → ∀ j e, ch[j]? = some e → f (pc + j) e.1 = true
  | _, [], _, j, e, he => by cases he
  | pc, x :: r, h, 0, e, he => by
    cases he
    exact (zz_and h).1
  | pc, x :: r, h, j + 1, e, he => by
    have := zz_rk_at (pc + 1) r (zz_and h).2 j e he
    rw [show pc + 1 + j = pc + (j + 1) by omega] at this
    exact this
theorem zz_rkT_at {f : Nat → Nat → Bool} : ∀ (i : Nat) (T : zz_T), zz_rkT f i T = true → ∀ k ch, T[k]? = some ch → zz_rk f (16 * (i + k)) ch = true
  | _, [], _, k, ch, he => by cases he
  | i, x :: r, h, 0, ch, he => by
    cases he
    exact (zz_and h).1
  | i, x :: r, h, k + 1, ch, he => by
    have := zz_rkT_at (i + 1) r (zz_and h).2 k ch he
    rw [show i + 1 + k = i + (k + 1) by omega] at this
    exact this
theorem zz_rk_ent {f : Nat → Nat → Bool} {T : zz_T} (h : zz_rkT f 0 T = true) (h9 : ∀ pc, f pc 9 = true) (pc : Nat) : f pc (zz_ent T pc).1 = true := by
  unfold zz_ent
  cases hc : T[pc / 16]? with
  | none =>
    have e1 : T.getD (pc / 16) [] = [] := by rw [List.getD_eq_getElem?_getD, hc]; rfl
    rw [e1]
    exact h9 pc
  | some ch =>
    have e1 : T.getD (pc / 16) [] = ch := by rw [List.getD_eq_getElem?_getD, hc]; rfl
    rw [e1]
    cases he : ch[pc % 16]? with
    | none =>
      have e2 : ch.getD (pc % 16) zz_en0 = zz_en0 := by rw [List.getD_eq_getElem?_getD, he]; rfl
      rw [e2]
      exact h9 pc
    | some e =>
      have e2 : ch.getD (pc % 16) zz_en0 = e := by rw [List.getD_eq_getElem?_getD, he]; rfl
      rw [e2]
      have h1 := zz_rk_at _ _ (zz_rkT_at 0 T h (pc / 16) ch hc) (pc % 16) e he
      rw [show 16 * (0 + pc / 16) + pc % 16 = pc by omega] at h1
      exact h1
def zz_isRef (rt : Option FieldType) : Bool := match rt with
  | some t => zz_isR t
  | none => false
def zz_rf (cc : ByteArray) (rt : Option FieldType) (pc k : Nat) : Bool := match k with
  | 1 => decide (decode cc pc = .ok (.return_, 1)) && decide (rt = none)
  | 2 => decide (decode cc pc = .ok (.ireturn, 1)) && decide (rt = some .int)
  | 3 => decide (decode cc pc = .ok (.ireturn, 1)) && decide (rt = some .boolean)
  | 4 => decide (decode cc pc = .ok (.lreturn, 1)) && decide (rt = some .long)
  | 5 => decide (decode cc pc = .ok (.areturn, 1)) && zz_isRef rt
  | 6 => decide (decode cc pc = .ok (.ireturn, 1)) && decide (rt = some .char)
  | 7 => decide (decode cc pc = .ok (.ireturn, 1)) && decide (rt = some .byte)
  | _ => true
theorem zz_RO_of {cc : ByteArray} {rt : Option FieldType} {T : zz_T} (h : zz_rkT (zz_rf cc rt) 0 T = true) : zz_RO cc rt T := by
  have h1 : ∀ pc, zz_rf cc rt pc (zz_ent T pc).1 = true := zz_rk_ent h (fun _ => rfl)
  refine ⟨fun pc hk => ?_, fun pc hk => ?_, fun pc hk => ?_, fun pc hk => ?_, fun pc hk => ?_, fun pc hk => ?_, fun pc hk => ?_⟩
  all_goals
    have h2 := h1 pc
    rw [hk] at h2
    obtain ⟨a, b⟩ := zz_and h2
    refine ⟨of_decide_eq_true a, ?_⟩
  · exact of_decide_eq_true b
  · exact of_decide_eq_true b
  · exact of_decide_eq_true b
  · exact of_decide_eq_true b
  · cases rt with
    | none => cases b
    | some t =>
      refine ⟨t, rfl, ?_⟩
      cases t with
      | object n => exact Or.inl ⟨n, rfl⟩
      | array u => exact Or.inr ⟨u, rfl⟩
      | _ => cases b
  · exact of_decide_eq_true b
  · exact of_decide_eq_true b
end ZTB
