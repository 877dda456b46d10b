/-! DECODING by shift: an instruction is read alike from a window of the code; one kernel check for a method (wip/gen/dec.py prints the rows) -/
def zsh {α : Type} (r r' : Decoder α) : Prop := ∀ (A B : ByteArray) (k : Nat), k % 4 = 0 → (∃ hs : k + B.size ≤ A.size, ∀ i (h : i < B.size), A[k + i]'(by omega) = B[i]) → ∀ (p : Nat) (a : α) (q : Nat), r.runAt B p = .ok (a, q) → r'.runAt A (k + p) = .ok (a, k + q)
theorem zsh_pure {α : Type} (a : α) : zsh (pure a : Decoder α) (pure a) := by
  intro A B k _ _ p a' q h
  have h : (Except.ok (a, p) : Except DecodeError (α × Nat)) = .ok (a', q) := h
  cases h
  rfl
theorem zsh_rb {α β : Type} (m : Decoder α) (f : α → Decoder β) (B : ByteArray) (p : Nat) : (m >>= f).runAt B p = Except.bind (m.runAt B p) (fun x => (f x.1).runAt B x.2) := rfl
theorem zsh_bind {α β : Type} {m m' : Decoder α} {f f' : α → Decoder β} (h1 : zsh m m') (h2 : ∀ a, zsh (f a) (f' a)) : zsh (m >>= f) (m' >>= f') := by
  intro A B k hk hb p a q h
  rw [zsh_rb] at h
  rw [zsh_rb]
  cases hm : m.runAt B p with
  | error e => rw [hm] at h; cases h
  | ok x =>
    rw [hm] at h
    rw [h1 A B k hk hb p x.1 x.2 hm]
    exact h2 x.1 A B k hk hb x.2 a q h
theorem zsh_map {α β : Type} {m m' : Decoder α} {g : α → β} (h1 : zsh m m') : zsh (g <$> m) (g <$> m') := zsh_bind h1 (fun a => zsh_pure (g a))
theorem zsh_throw {α : Type} {e : DecodeError} {r : Decoder α} : zsh (throw e) r := by
  intro A B k _ _ p a q h
  have h : (Except.error e : Except DecodeError (α × Nat)) = .ok (a, q) := h
  cases h
theorem zsh_r1 (B : ByteArray) (p : Nat) : (Reader.u1 : Decoder Nat).runAt B p = if h : p < B.size then .ok (B[p].toNat, p + 1) else .error (HasTruncated.truncated p) := by
  unfold Reader.u1
  rw [zsh_rb]
  show Except.bind (.ok (B, p)) _ = _
  show (Reader.runAt (get >>= _ : Decoder Nat) B p) = _
  rw [zsh_rb]
  show (Reader.runAt (dite (p < B.size) _ _ : Decoder Nat) B p) = _
  by_cases h : p < B.size
  · rw [dif_pos h, dif_pos h]
    rfl
  · rw [dif_neg h, dif_neg h]
    rfl
theorem zsh_u1 : zsh Reader.u1 Reader.u1 := by
  intro A B k _ hb p a q h
  rw [zsh_r1] at h
  rw [zsh_r1]
  split at h
  · rename_i hp
    obtain ⟨hs, e⟩ := hb
    cases h
    rw [dif_pos (by omega), e p hp]
    rfl
  · cases h
theorem zsh_u2 : zsh Reader.u2 Reader.u2 := zsh_bind zsh_u1 fun _ => zsh_bind zsh_u1 fun _ => zsh_pure _
theorem zsh_u4 : zsh Reader.u4 Reader.u4 := zsh_bind zsh_u2 fun _ => zsh_bind zsh_u2 fun _ => zsh_pure _
theorem zsh_s1 : zsh Reader.s1 Reader.s1 := zsh_map zsh_u1
theorem zsh_s2 : zsh Reader.s2 Reader.s2 := zsh_map zsh_u2
theorem zsh_s4 : zsh Reader.s4 Reader.s4 := zsh_map zsh_u4
theorem zsh_go {α : Type} {r : Decoder α} (h : zsh r r) : ∀ (n : Nat) (acc : Array α), zsh (Reader.times.go r n acc) (Reader.times.go r n acc)
  | 0, acc => zsh_pure acc
  | n + 1, acc => zsh_bind h fun a => zsh_go h n _
theorem zsh_times {α : Type} {r : Decoder α} (h : zsh r r) (n : Nat) : zsh (Reader.times n r) (Reader.times n r) := zsh_go h n #[]
theorem zsh_rp (B : ByteArray) (p : Nat) : (Decoder.padding).runAt B p = if p + (4 - p % 4) % 4 ≤ B.size then .ok ((), p + (4 - p % 4) % 4) else .error (HasTruncated.truncated B.size) := by
  unfold Decoder.padding
  rw [zsh_rb]
  show (Reader.runAt (Reader.bytes ((4 - p % 4) % 4) >>= _ : Decoder Unit) B p) = _
  rw [zsh_rb]
  have e : (Reader.bytes ((4 - p % 4) % 4) : Decoder ByteArray).runAt B p = if p + (4 - p % 4) % 4 ≤ B.size then .ok (B.extract p (p + (4 - p % 4) % 4), p + (4 - p % 4) % 4) else .error (HasTruncated.truncated B.size) := by
    unfold Reader.bytes
    rw [zsh_rb]
    show (Reader.runAt (get >>= _ : Decoder ByteArray) B p) = _
    rw [zsh_rb]
    show (Reader.runAt (ite (p + (4 - p % 4) % 4 ≤ B.size) _ _ : Decoder ByteArray) B p) = _
    by_cases h : p + (4 - p % 4) % 4 ≤ B.size
    · rw [if_pos h, if_pos h]
      rfl
    · rw [if_neg h, if_neg h]
      rfl
  rw [e]
  by_cases h : p + (4 - p % 4) % 4 ≤ B.size
  · rw [if_pos h, if_pos h]
    rfl
  · rw [if_neg h, if_neg h]
    rfl
theorem zsh_pad : zsh Decoder.padding Decoder.padding := by
  intro A B k hk hb p a q h
  rw [zsh_rp] at h
  rw [zsh_rp]
  have e : (k + p) % 4 = p % 4 := by omega
  rw [e]
  split at h
  · rename_i hp
    cases h
    rw [if_pos]
    · rw [Nat.add_assoc]
    · obtain ⟨hs, -⟩ := hb
      omega
  · cases h
theorem zsh_unless {c : Prop} [Decidable c] {e e' : DecodeError} {β : Type} {f f' : PUnit → Decoder β} (h : zsh (f ⟨⟩) (f' ⟨⟩)) : zsh ((unless c do throw e : Decoder PUnit) >>= f) ((unless c do throw e' : Decoder PUnit) >>= f') := by
  by_cases hc : c
  · simp only [hc, if_true]
    exact zsh_bind (zsh_pure _) (fun _ => h)
  · simp only [hc, if_false]
    exact zsh_bind zsh_throw (fun _ => h)
theorem zsh_ite {c : Prop} [Decidable c] {α : Type} {a a' b b' : Decoder α} (h1 : zsh a a') (h2 : zsh b b') : zsh (if c then a else b) (if c then a' else b') := by
  by_cases hc : c
  · rw [if_pos hc, if_pos hc]; exact h1
  · rw [if_neg hc, if_neg hc]; exact h2
theorem zsh_ts (k : Nat) : zsh (Decoder.tableswitch 0) (Decoder.tableswitch k) := by
  unfold Decoder.tableswitch
  refine zsh_bind zsh_pad fun _ => zsh_bind zsh_s4 fun _ => zsh_bind zsh_s4 fun _ => zsh_bind zsh_s4 fun _ => ?_
  refine zsh_ite ?_ ?_
  · exact zsh_bind (zsh_times zsh_s4 _) fun _ => zsh_pure _
  · exact zsh_bind zsh_throw fun _ => zsh_bind (zsh_times zsh_s4 _) fun _ => zsh_pure _
theorem zsh_ls (k : Nat) : zsh (Decoder.lookupswitch 0) (Decoder.lookupswitch k) := by
  unfold Decoder.lookupswitch
  refine zsh_bind zsh_pad fun _ => zsh_bind zsh_s4 fun _ => zsh_bind zsh_s4 fun _ => ?_
  have ht : ∀ n, zsh (Reader.times n (do pure (← Reader.s4, ← Reader.s4) : Decoder (Int × Int))) (Reader.times n (do pure (← Reader.s4, ← Reader.s4))) := fun n => zsh_times (zsh_bind zsh_s4 fun _ => zsh_bind zsh_s4 fun _ => zsh_pure _) n
  refine zsh_ite ?_ ?_
  · refine zsh_bind (ht _) fun _ => zsh_ite (zsh_pure _) (zsh_bind zsh_throw fun _ => zsh_pure _)
  · refine zsh_bind zsh_throw fun _ => zsh_bind (ht _) fun _ => zsh_ite (zsh_pure _) (zsh_bind zsh_throw fun _ => zsh_pure _)
theorem zsh_na (k : Nat) : zsh (Decoder.newarray 0) (Decoder.newarray k) := by
  unfold Decoder.newarray
  refine zsh_bind zsh_u1 fun op => ?_
  split <;> first | exact zsh_pure _ | exact zsh_throw
theorem zsh_wi (k : Nat) : zsh (Decoder.wide 0) (Decoder.wide k) := by
  unfold Decoder.wide
  refine zsh_bind zsh_u1 fun op => ?_
  split <;> first | exact zsh_throw | exact zsh_bind zsh_u2 fun _ => zsh_pure _ | exact zsh_bind zsh_u2 fun _ => zsh_bind zsh_s2 fun _ => zsh_pure _
theorem zsh_ma (k : Nat) : zsh (Decoder.multianewarray 0) (Decoder.multianewarray k) := by
  unfold Decoder.multianewarray
  exact zsh_bind zsh_u2 fun _ => zsh_bind zsh_u1 fun _ => zsh_ite (zsh_pure _) (zsh_bind zsh_throw fun _ => zsh_pure _)
theorem zsh_id (k : Nat) : zsh (Decoder.invokedynamic 0) (Decoder.invokedynamic k) := by
  unfold Decoder.invokedynamic
  exact zsh_bind zsh_u2 fun _ => zsh_bind zsh_u2 fun _ => zsh_ite (zsh_pure _) (zsh_bind zsh_throw fun _ => zsh_pure _)
theorem zsh_ii (k : Nat) : zsh (Decoder.invokeinterface 0) (Decoder.invokeinterface k) := by
  unfold Decoder.invokeinterface
  refine zsh_bind zsh_u2 fun _ => zsh_bind zsh_u1 fun _ => zsh_bind zsh_u1 fun _ => ?_
  exact zsh_ite (zsh_pure _) (zsh_bind zsh_throw fun _ => zsh_pure _)
set_option maxRecDepth 16384 in
theorem zsh_instr (k : Nat) : zsh (Decoder.instr 0) (Decoder.instr k) := by
  unfold Decoder.instr
  refine zsh_bind zsh_u1 fun op => ?_
  split <;> first | exact zsh_pure _ | exact zsh_throw | exact zsh_bind zsh_u1 fun _ => zsh_pure _ | exact zsh_bind zsh_s1 fun _ => zsh_pure _ | exact zsh_bind zsh_u2 fun _ => zsh_pure _ | exact zsh_bind zsh_s2 fun _ => zsh_pure _ | exact zsh_bind zsh_s4 fun _ => zsh_pure _ | exact zsh_bind zsh_u1 fun _ => zsh_bind zsh_s1 fun _ => zsh_pure _ | exact zsh_ts _ | exact zsh_ls _ | exact zsh_na _ | exact zsh_wi _ | exact zsh_ma _ | exact zsh_id _ | exact zsh_ii _
theorem zsh_decode {A B : ByteArray} {k p n : Nat} {i : Instr} (hk : k % 4 = 0) (hs : k + B.size ≤ A.size) (hb : ∀ j (h : j < B.size), A[k + j]'(by omega) = B[j]) (h : (Decoder.instr 0).runAt B p = .ok (i, p + n)) : decode A (k + p) = .ok (i, n) := by
  have h2 := zsh_instr (k + p) A B k hk ⟨hs, hb⟩ p i (p + n) h
  unfold decode
  rw [h2]
  show Except.ok (i, k + (p + n) - (k + p)) = _
  rw [show k + (p + n) - (k + p) = n by omega]
/-- a row of a code: at its place p (from k on) the instruction i of n Reader.bytes -/
def zsh_ok (B : List UInt8) (q : Nat × Instr × Nat) : Bool := match (Decoder.instr 0).runAt ⟨B.toArray⟩ q.1 with
  | .ok x => decide (x.1 = q.2.1) && Nat.beq x.2 (q.1 + q.2.2)
  | .error _ => false
theorem zsh_ok_ok {B : List UInt8} {q : Nat × Instr × Nat} (h : zsh_ok B q = true) : (Decoder.instr 0).runAt ⟨B.toArray⟩ q.1 = .ok (q.2.1, q.1 + q.2.2) := by
  unfold zsh_ok at h
  split at h
  · rename_i x e
    obtain ⟨h1, h2⟩ := Bool.and_eq_true_iff.mp h
    rw [e, ← of_decide_eq_true h1, ← Nat.eq_of_beq_eq_true h2]
  · cases h
/-- the Reader.bytes from k on, four by four: each group of rows against the m Reader.bytes that it may need -/
def zsh_all (m : Nat) : List (List (Nat × Instr × Nat)) → List UInt8 → Bool
  | [], _ => true
  | g :: gs, L => g.all (fun q => zsh_ok (L.take m) q) && match L with
    | _ :: _ :: _ :: _ :: L' => zsh_all m gs L'
    | _ => gs.isEmpty
theorem zsh_all_ok {m : Nat} {A : ByteArray} : ∀ {gs : List (List (Nat × Instr × Nat))} {L : List UInt8} {k : Nat}, k % 4 = 0 → (hl : k + L.length ≤ A.size) → (∀ j (h : j < L.length), A[k + j]'(by omega) = L[j]) → zsh_all m gs L = true → ∀ (r : Nat) (g : List (Nat × Instr × Nat)), gs[r]? = some g → ∀ q ∈ g, decode A (k + 4 * r + q.1) = .ok (q.2.1, q.2.2)
  | [], L, k, _, _, _, _, r, g, hr, _, _ => by simp at hr
  | g0 :: gs, L, k, hk, hl, hb, h, r, g, hr, q, hq => by
    unfold zsh_all at h
    obtain ⟨h1, h2⟩ := Bool.and_eq_true_iff.mp h
    cases r with
    | zero =>
      have e : g0 = g := by simpa using hr
      subst e
      have h3 := zsh_ok_ok (List.all_eq_true.mp h1 q hq)
      have hz : (⟨(L.take m).toArray⟩ : ByteArray).size = (L.take m).length := rfl
      refine zsh_decode (B := ⟨(L.take m).toArray⟩) (k := k) hk ?_ ?_ h3
      · rw [hz, List.length_take]; omega
      · intro j hj
        rw [hz, List.length_take] at hj
        rw [hb j (by omega)]
        show _ = (L.take m)[j]'_
        rw [List.getElem_take]
    | succ r =>
      have hr2 : gs[r]? = some g := by simpa using hr
      split at h2
      · rename_i a b c d L'
        have hl2 : k + (L'.length + 1 + 1 + 1 + 1) ≤ A.size := hl
        have h5 := zsh_all_ok (m := m) (A := A) (gs := gs) (L := L') (k := k + 4) (by omega) (by omega) (fun j hj => ?_) h2 r g hr2 q hq
        · rw [show k + 4 * (r + 1) + q.1 = k + 4 + 4 * r + q.1 by omega]
          exact h5
        · have h6 := hb (4 + j) (by show 4 + j < L'.length + 1 + 1 + 1 + 1; omega)
          have e1 : (a :: b :: c :: d :: L')[4 + j]'(by show 4 + j < L'.length + 1 + 1 + 1 + 1; omega) = L'[j] := by
            simp only [show 4 + j = j + 1 + 1 + 1 + 1 by omega, List.getElem_cons_succ]
          rw [← e1, ← h6]
          congr 1
          omega
      · have : gs = [] := List.isEmpty_iff.mp h2
        subst this
        simp at hr2
theorem zsh_all_at {m : Nat} {L : List UInt8} {gs : List (List (Nat × Instr × Nat))} (h : zsh_all m gs L = true) (r : Nat) (g : List (Nat × Instr × Nat)) (hr : gs[r]? = some g) (q : Nat × Instr × Nat) (hq : q ∈ g) : decode ⟨L.toArray⟩ (4 * r + q.1) = .ok (q.2.1, q.2.2) := by
  have := zsh_all_ok (A := ⟨L.toArray⟩) (k := 0) rfl (Nat.le_of_eq (Nat.zero_add _)) (fun j hj => by
    show (L.toArray)[0 + j]'_ = _
    simp) h r g hr q hq
  rw [Nat.zero_add] at this
  exact this

theorem zsh_g {m : Nat} {cc : ByteArray} {gs : List (List (Nat × Instr × Nat))} (h : zsh_all m gs cc.data.toList = true) {r k p n : Nat} {i : Instr} {g : List (Nat × Instr × Nat)} (hr : gs[r]? = some g) (hk : g[k]? = some (p, i, n)) {pc : Nat} (hp : 4 * r + p = pc) : decode cc pc = .ok (i, n) := by
  subst hp
  exact zsh_all_at h r g hr (p, i, n) (List.mem_of_getElem? hk)

