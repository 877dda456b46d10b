/-! NAMING: the cells 58 to 74 change names with those 17 k on; a contract that was shown for the first unit holds for all -/
noncomputable section
theorem zz_Met_mono {l : Launch} {y : MethodName} {ws : List Cond} {rm : Room} {Pc Pc' : Array Value → State → Prop} {Qc Qc' : Array Value → State → Outcome → State → Prop} {mc ms : Nat} {free : Addr → Prop} (h : Met l y ws rm Pc Qc mc ms free) (hp : ∀ a s, Pc' a s → Pc a s) (hq : ∀ a s o t, Qc a s o t → Qc' a s o t) : Met l y ws rm Pc' Qc' mc ms free := by
  intro p e ha hc hk s m args below hf happ hP hK
  obtain ⟨n, o, h1, h2, h3, h4⟩ := h p e ha hc hk s m args below hf happ (hp _ _ hP) hK
  exact ⟨n, o, h1, h2, h3, hq _ _ _ _ h4.1, h4.2⟩
def zz_spk (k : Nat) (sp : Nat → Nat) : Nat → Nat := fun i => if i = 18446744073709551616 then k else sp i
theorem zz_spk_k {k : Nat} {sp : Nat → Nat} : zz_spk k sp 18446744073709551616 = k := if_pos rfl
theorem zz_spk_o {k i : Nat} {sp : Nat → Nat} (h : i ≠ 18446744073709551616) : zz_spk k sp i = sp i := if_neg h
/-- two namings, k apart -/
def zz_nm (k : Nat) (sp1 sp2 : Nat → Nat) : Prop := (∀ i, zz_sw (sp2 18446744073709551616) (zz_sw k i) = zz_sw (sp1 18446744073709551616) i) ∧ ∀ i, i ≠ 18446744073709551616 → sp2 i = sp1 i
theorem zz_nm_1 {k : Nat} {sp : Nat → Nat} (h : sp 18446744073709551616 = 0) : zz_nm k sp (zz_spk k sp) := ⟨fun i => by rw [zz_spk_k, h, zz_sw_sw, zz_sw_0], fun i hi => zz_spk_o hi⟩
theorem zz_nm_2 {k : Nat} {sp : Nat → Nat} (h : sp 18446744073709551616 = 0) : zz_nm k (zz_spk k sp) sp := ⟨fun i => by rw [zz_spk_k, h, zz_sw_0], fun i hi => (zz_spk_o hi).symm⟩
theorem zz_sw_lt {k i n : Nat} (hk : k ≤ 5) (hn : 160 ≤ n) (h : i < n) : zz_sw k i < n := by
  by_cases h1 : 58 ≤ i ∧ i < 75
  · rw [zz_sw_a h1]
    omega
  · by_cases h2 : 58 + 17 * k ≤ i ∧ i < 75 + 17 * k
    · rw [zz_sw_b h1 h2]
      omega
    · rw [zz_sw_c h1 h2]
      exact h
/-- a reference by the other naming; a number that stands for one -/
def zz_ri (k i : Nat) : Nat := if i < 1000000 then zz_sw k i else i
theorem zz_ri_ri {k i : Nat} (hk : k ≤ 5) : zz_ri k (zz_ri k i) = i := by
  by_cases h : i < 1000000
  · have e : zz_ri k i = zz_sw k i := if_pos h
    have h2 := zz_sw_lt hk (n := 1000000) (by decide) h
    have e2 : zz_ri k (zz_sw k i) = zz_sw k (zz_sw k i) := if_pos h2
    rw [e, e2, zz_sw_sw]
  · have e : zz_ri k i = i := if_neg h
    rw [e, e]
theorem zz_ri_lt {k i M : Nat} (hk : k ≤ 5) (hM : 1000000 ≤ M) (h : i < M) : zz_ri k i < M := by
  by_cases h1 : i < 1000000
  · have e : zz_ri k i = zz_sw k i := if_pos h1
    have h2 := zz_sw_lt hk (n := 1000000) (by decide) h1
    rw [e]
    omega
  · have e : zz_ri k i = i := if_neg h1
    rw [e]
    exact h
theorem zz_r_ri {k z0 i : Nat} {sp1 sp2 : Nat → Nat} (hk : k ≤ 5) (hn : zz_nm k sp1 sp2) (hi : i < 18446744073709551616) : zz_r z0 sp2 (zz_ri k i) = zz_r z0 sp1 i := by
  by_cases h : i < 1000000
  · have e : zz_ri k i = zz_sw k i := if_pos h
    have h2 := zz_sw_lt hk (n := 1000000) (by decide) h
    rw [e, zz_rm h2, zz_rm h]
    show z0 + zz_sw (sp2 18446744073709551616) (zz_sw k i) = z0 + zz_sw (sp1 18446744073709551616) i
    rw [hn.1]
  · have e : zz_ri k i = i := if_neg h
    rw [e]
    unfold zz_r
    rw [if_neg h, if_neg h, hn.2 _ (by omega)]
def zz_rfn (k n : Nat) : Nat := if n = 0 then 0 else zz_ri k (n - 1) + 1
theorem zz_rfn_0 {k : Nat} : zz_rfn k 0 = 0 := if_pos rfl
theorem zz_rfn_s {k n : Nat} : zz_rfn k (n + 1) = zz_ri k n + 1 := if_neg (Nat.succ_ne_zero n)
theorem zz_rfn_rf {k n : Nat} (hk : k ≤ 5) : zz_rfn k (zz_rfn k n) = n := by
  cases n with
  | zero => rw [zz_rfn_0, zz_rfn_0]
  | succ n => rw [zz_rfn_s, zz_rfn_s, zz_ri_ri hk]
theorem zz_rfn_lt {k n M : Nat} (hk : k ≤ 5) (hM : 1000000 < M) (h : n < M) : zz_rfn k n < M := by
  cases n with
  | zero =>
    rw [zz_rfn_0]
    omega
  | succ n =>
    rw [zz_rfn_s]
    have := zz_ri_lt (k := k) (i := n) (M := M - 1) hk (by omega) (by omega)
    omega
theorem zz_o_rfn {k z0 n : Nat} {sp1 sp2 : Nat → Nat} (hk : k ≤ 5) (hn : zz_nm k sp1 sp2) (h : n < 18446744073709551616) : zz_o z0 sp2 (zz_rfn k n) = zz_o z0 sp1 n := by
  cases n with
  | zero =>
    rw [zz_rfn_0]
    rfl
  | succ n =>
    rw [zz_rfn_s]
    unfold zz_o
    rw [if_neg (Nat.succ_ne_zero _), if_neg (Nat.succ_ne_zero _)]
    show some (zz_r z0 sp2 (zz_ri k n)) = some (zz_r z0 sp1 n)
    rw [zz_r_ri hk hn (by omega)]
/-- values -/
def zz_rv (k : Nat) (v : Value) : Value := match v with
  | .ref i => .ref (zz_ri k i)
  | x => x
theorem zz_v_rv {k z0 : Nat} {sp1 sp2 : Nat → Nat} (hk : k ≤ 5) (hn : zz_nm k sp1 sp2) {v : Value} (hv : ∀ i, v = .ref i → i < 18446744073709551616) : zz_v z0 sp2 (zz_rv k v) = zz_v z0 sp1 v := by
  cases v with
  | ref i =>
    show Value.ref (zz_r z0 sp2 (zz_ri k i)) = Value.ref (zz_r z0 sp1 i)
    rw [zz_r_ri hk hn (hv i rfl)]
  | retAddr n =>
    show (if sp2 2000000 = 0 then Value.null else .ref (sp2 2000000 - 1)) = (if sp1 2000000 = 0 then Value.null else .ref (sp1 2000000 - 1))
    rw [hn.2 2000000 (by decide)]
  | _ => rfl
def zz_g3 (fk : Nat → Nat → Nat) (k ci j x : Nat) : Nat := if fk ci j = 0 ∨ fk ci j = 1 then x else zz_rfn k x
theorem zz_g3_0 {fk : Nat → Nat → Nat} {k ci j : Nat} : zz_g3 fk k ci j 0 = 0 := by
  unfold zz_g3
  split
  · rfl
  · exact zz_rfn_0
theorem zz_g3_g3 {fk : Nat → Nat → Nat} {k ci j x : Nat} (hk : k ≤ 5) : zz_g3 fk k ci j (zz_g3 fk k ci j x) = x := by
  unfold zz_g3
  by_cases h : fk ci j = 0 ∨ fk ci j = 1
  · rw [if_pos h, if_pos h]
  · rw [if_neg h, if_neg h, zz_rfn_rf hk]
theorem zz_g3_lt {fk : Nat → Nat → Nat} {k ci j x : Nat} (hk : k ≤ 5) (hx : x < 2 ^ 64) : zz_g3 fk k ci j x < 2 ^ 64 := by
  unfold zz_g3
  split
  · exact hx
  · exact zz_rfn_lt hk (by decide) hx
theorem zz_v_g3 {fk : Nat → Nat → Nat} {k z0 ci j x : Nat} {sp1 sp2 : Nat → Nat} (hk : k ≤ 5) (hn : zz_nm k sp1 sp2) (hx : x < 2 ^ 64) : zz_v z0 sp2 (zz_av (fk ci j) (zz_g3 fk k ci j x)) = zz_v z0 sp1 (zz_av (fk ci j) x) := by
  unfold zz_g3 zz_av
  by_cases h0 : fk ci j = 0
  · rw [if_pos (Or.inl h0), if_pos h0]
    rfl
  · by_cases h1 : fk ci j = 1
    · rw [if_pos (Or.inr h1), if_neg h0, if_pos h1]
      rfl
    · have hh : ¬ (fk ci j = 0 ∨ fk ci j = 1) := fun h => Or.elim h h0 h1
      rw [if_neg hh, if_neg h0, if_neg h1, if_neg h0, if_neg h1]
      cases x with
      | zero =>
        rw [zz_rfn_0, if_pos rfl]
        rfl
      | succ x =>
        rw [zz_rfn_s, if_neg (Nat.succ_ne_zero _), if_neg (Nat.succ_ne_zero _)]
        exact zz_v_rv (v := .ref x) hk hn (fun i hi => by
          have h9 : x < 18446744073709551616 := by omega
          injection hi with hi
          rw [← hi]
          exact h9)
/-- each slot of a number by g -/
def zz_mpn (b : Nat) (g : Nat → Nat → Nat) (N : Nat) : Nat → Nat
  | 0 => N
  | n + 1 => zz_to b (zz_mpn b g N n) n (g n (zz_at b N n))
def zz_mp (b : Nat) (g : Nat → Nat → Nat) (N : Nat) : Nat := zz_mpn b g N (N + 1)
theorem zz_at_mpn {b N : Nat} {g : Nat → Nat → Nat} (hg : ∀ j x, x < 2 ^ b → g j x < 2 ^ b) (j : Nat) : ∀ n, zz_at b (zz_mpn b g N n) j = if j < n then g j (zz_at b N j) else zz_at b N j
  | 0 => by
    rw [if_neg (Nat.not_lt_zero _)]
    rfl
  | n + 1 => by
    show zz_at b (zz_to b (zz_mpn b g N n) n (g n (zz_at b N n))) j = _
    rw [zz_at_to (hg _ _ (zz_at_lt _ _ _)), zz_at_mpn hg j n]
    by_cases h : j = n
    · rw [if_pos h, if_pos (by omega), h]
    · rw [if_neg h]
      by_cases h2 : j < n
      · rw [if_pos h2, if_pos (by omega)]
      · rw [if_neg h2, if_neg (by omega)]
theorem zz_at_big {b N j : Nat} (hb : 0 < b) (h : N < j) : zz_at b N j = 0 := by
  have h1 : N < 2 ^ (b * j) := Nat.lt_of_lt_of_le (Nat.lt_two_pow_self) (Nat.pow_le_pow_right (by decide) (Nat.le_trans (Nat.le_of_lt h) (Nat.le_mul_of_pos_left j hb)))
  unfold zz_at
  rw [Nat.shiftRight_eq_div_pow, Nat.div_eq_of_lt h1, Nat.zero_mod]
theorem zz_at_mp {b N : Nat} {g : Nat → Nat → Nat} (hb : 0 < b) (hg : ∀ j x, x < 2 ^ b → g j x < 2 ^ b) (h0 : ∀ j, g j 0 = 0) (j : Nat) : zz_at b (zz_mp b g N) j = g j (zz_at b N j) := by
  unfold zz_mp
  rw [zz_at_mpn hg]
  by_cases h : j < N + 1
  · rw [if_pos h]
  · rw [if_neg h, zz_at_big hb (by omega), h0]
theorem zz_at_ext {b N M : Nat} (hb : 0 < b) (h : ∀ j, zz_at b N j = zz_at b M j) : N = M := by
  refine Nat.eq_of_testBit_eq (fun t => ?_)
  have h1 := congrArg (fun x => x.testBit (t % b)) (h (t / b))
  have h1 : (zz_at b N (t / b)).testBit (t % b) = (zz_at b M (t / b)).testBit (t % b) := h1
  rw [zz_at_bit, zz_at_bit, decide_eq_true (Nat.mod_lt t hb), Nat.div_add_mod] at h1
  exact h1
theorem zz_mp_mp {b N : Nat} {g : Nat → Nat → Nat} (hb : 0 < b) (hg : ∀ j x, x < 2 ^ b → g j x < 2 ^ b) (h0 : ∀ j, g j 0 = 0) (hi : ∀ j x, g j (g j x) = x) : zz_mp b g (zz_mp b g N) = N :=
  zz_at_ext hb (fun j => by rw [zz_at_mp hb hg h0, zz_at_mp hb hg h0, hi])
/-- cells -/
def zz_rc (fk : Nat → Nat → Nat) (k : Nat) (c : zz_C) : zz_C := if c.1 = 0 then c else if c.1 = 1 then c else if c.1 = 2 then (c.1, c.2.1, c.2.2.1, zz_mp 32 (fun _ => zz_rfn k) c.2.2.2) else (c.1, c.2.1, c.2.2.1, zz_mp 64 (zz_g3 fk k c.2.1) c.2.2.2)
theorem zz_rc_k {fk : Nat → Nat → Nat} {k : Nat} {c : zz_C} (h : c.1 < 2) : zz_rc fk k c = c := by
  unfold zz_rc
  by_cases h0 : c.1 = 0
  · rw [if_pos h0]
  · rw [if_neg h0, if_pos (by omega)]
theorem zz_rc_2 {fk : Nat → Nat → Nat} {k : Nat} {c : zz_C} (h : c.1 = 2) : zz_rc fk k c = (c.1, c.2.1, c.2.2.1, zz_mp 32 (fun _ => zz_rfn k) c.2.2.2) := by
  unfold zz_rc
  rw [if_neg (by omega), if_neg (by omega), if_pos h]
theorem zz_rc_3 {fk : Nat → Nat → Nat} {k : Nat} {c : zz_C} (h : 2 < c.1) : zz_rc fk k c = (c.1, c.2.1, c.2.2.1, zz_mp 64 (zz_g3 fk k c.2.1) c.2.2.2) := by
  unfold zz_rc
  rw [if_neg (by omega), if_neg (by omega), if_neg (by omega)]
theorem zz_rc_k3 {fk : Nat → Nat → Nat} {k : Nat} {c : zz_C} : zk_k3 (zz_rc fk k c) = zk_k3 c := by
  rcases (show c.1 < 2 ∨ c.1 = 2 ∨ 2 < c.1 by omega) with h | h | h
  · rw [zz_rc_k h]
  · rw [zz_rc_2 h]
    rfl
  · rw [zz_rc_3 h]
    rfl
theorem zz_f32 {k : Nat} (hk : k ≤ 5) : ∀ j x : Nat, x < 2 ^ 32 → (fun _ => zz_rfn k : Nat → Nat → Nat) j x < 2 ^ 32 := fun _ _ hx => zz_rfn_lt hk (by decide) hx
theorem zz_rc_rc {fk : Nat → Nat → Nat} {k : Nat} {c : zz_C} (hk : k ≤ 5) : zz_rc fk k (zz_rc fk k c) = c := by
  rcases (show c.1 < 2 ∨ c.1 = 2 ∨ 2 < c.1 by omega) with h | h | h
  · rw [zz_rc_k h, zz_rc_k h]
  · rw [zz_rc_2 h, zz_rc_2 (show (c.1, c.2.1, c.2.2.1, zz_mp 32 (fun _ => zz_rfn k) c.2.2.2).1 = 2 from h)]
    show (c.1, c.2.1, c.2.2.1, zz_mp 32 (fun _ => zz_rfn k) (zz_mp 32 (fun _ => zz_rfn k) c.2.2.2)) = c
    rw [zz_mp_mp (by decide) (zz_f32 hk) (fun _ => zz_rfn_0) (fun _ _ => zz_rfn_rf hk)]
  · rw [zz_rc_3 h, zz_rc_3 (show 2 < (c.1, c.2.1, c.2.2.1, zz_mp 64 (zz_g3 fk k c.2.1) c.2.2.2).1 from h)]
    show (c.1, c.2.1, c.2.2.1, zz_mp 64 (zz_g3 fk k c.2.1) (zz_mp 64 (zz_g3 fk k c.2.1) c.2.2.2)) = c
    rw [zz_mp_mp (g := zz_g3 fk k c.2.1) (by decide) (fun _ _ hx => zz_g3_lt hk hx) (fun _ => zz_g3_0) (fun _ _ => zz_g3_g3 hk)]
theorem zz_e_rc {fk : Nat → Nat → Nat} {cy : Nat → ClassId} {k z0 : Nat} {sp1 sp2 : Nat → Nat} (hk : k ≤ 5) (hn : zz_nm k sp1 sp2) (c : zz_C) : zz_e fk cy z0 sp2 (zz_rc fk k c) = zz_e fk cy z0 sp1 c := by
  rcases (show c.1 = 0 ∨ c.1 = 1 ∨ c.1 = 2 ∨ 2 < c.1 by omega) with h | h | h | h
  · rw [zz_rc_k (by omega)]
    unfold zz_e
    rw [if_pos h, if_pos h]
  · rw [zz_rc_k (by omega)]
    unfold zz_e
    rw [if_neg (by omega), if_pos h, if_neg (by omega), if_pos h]
  · rw [zz_rc_2 h]
    unfold zz_e
    rw [if_neg (show ¬ (c.1, c.2.1, c.2.2.1, zz_mp 32 (fun _ => zz_rfn k) c.2.2.2).1 = 0 by show ¬ c.1 = 0; omega), if_neg (show ¬ (c.1, c.2.1, c.2.2.1, zz_mp 32 (fun _ => zz_rfn k) c.2.2.2).1 = 1 by show ¬ c.1 = 1; omega), if_pos (show (c.1, c.2.1, c.2.2.1, zz_mp 32 (fun _ => zz_rfn k) c.2.2.2).1 = 2 from h), if_neg (show ¬ c.1 = 0 by omega), if_neg (show ¬ c.1 = 1 by omega), if_pos h]
    have e : (fun j => zz_o z0 sp2 (zz_at 32 (zz_mp 32 (fun _ => zz_rfn k) c.2.2.2) j)) = fun j => zz_o z0 sp1 (zz_at 32 c.2.2.2 j) := by
      funext j
      rw [zz_at_mp (by decide) (zz_f32 hk) (fun _ => zz_rfn_0), zz_o_rfn hk hn (Nat.lt_of_lt_of_le (zz_at_lt 32 _ _) (by decide))]
    show (Sum.inl (cy c.2.1, c.2.2.1, .inr (.inr (.inr (.inr (fun j => zz_o z0 sp2 (zz_at 32 (zz_mp 32 (fun _ => zz_rfn k) c.2.2.2) j)))))) : va_E) = _
    rw [e]
  · rw [zz_rc_3 h]
    unfold zz_e
    rw [if_neg (show ¬ (c.1, c.2.1, c.2.2.1, zz_mp 64 (zz_g3 fk k c.2.1) c.2.2.2).1 = 0 by show ¬ c.1 = 0; omega), if_neg (show ¬ (c.1, c.2.1, c.2.2.1, zz_mp 64 (zz_g3 fk k c.2.1) c.2.2.2).1 = 1 by show ¬ c.1 = 1; omega), if_neg (show ¬ (c.1, c.2.1, c.2.2.1, zz_mp 64 (zz_g3 fk k c.2.1) c.2.2.2).1 = 2 by show ¬ c.1 = 2; omega), if_neg (show ¬ c.1 = 0 by omega), if_neg (show ¬ c.1 = 1 by omega), if_neg (show ¬ c.1 = 2 by omega)]
    have e : (fun j => zz_v z0 sp2 (zz_av (fk c.2.1 j) (zz_at 64 (zz_mp 64 (zz_g3 fk k c.2.1) c.2.2.2) j))) = fun j => zz_v z0 sp1 (zz_av (fk c.2.1 j) (zz_at 64 c.2.2.2 j)) := by
      funext j
      rw [zz_at_mp (by decide) (fun _ _ hx => zz_g3_lt hk hx) (fun _ => zz_g3_0), zz_v_g3 hk hn (zz_at_lt 64 _ _)]
    show (Sum.inr (c.2.1, (List.range c.2.2.1).map (fun j => zz_v z0 sp2 (zz_av (fk c.2.1 j) (zz_at 64 (zz_mp 64 (zz_g3 fk k c.2.1) c.2.2.2) j)))) : va_E) = _
    rw [e]
/-- worlds -/
def zz_rw (fk : Nat → Nat → Nat) (k : Nat) (w : zz_W) : zz_W := (w.1, w.2.1, (List.range 64).map (fun a => (List.range 16).map (fun b => zz_rc fk k (zz_g w (zz_sw k (16 * a + b))))))
theorem zz_rw_g {fk : Nat → Nat → Nat} {k : Nat} {w : zz_W} {i : Nat} (h : i < 1024) : zz_g (zz_rw fk k w) i = zz_rc fk k (zz_g w (zz_sw k i)) := by
  have e : ((List.range 64).map (fun a => (List.range 16).map (fun b => zz_rc fk k (zz_g w (zz_sw k (16 * a + b)))))).getD (i / 16) [] = (List.range 16).map (fun b => zz_rc fk k (zz_g w (zz_sw k (16 * (i / 16) + b)))) := by
    rw [List.getD_eq_getElem?_getD, List.getElem?_map, List.getElem?_range (by omega)]
    rfl
  show (((List.range 64).map (fun a => (List.range 16).map (fun b => zz_rc fk k (zz_g w (zz_sw k (16 * a + b)))))).getD (i / 16) []).getD (i % 16) zz_c0 = _
  rw [e]
  rw [List.getD_eq_getElem?_getD, List.getElem?_map, List.getElem?_range (by omega)]
  show zz_rc fk k (zz_g w (zz_sw k (16 * (i / 16) + i % 16))) = _
  rw [Nat.div_add_mod]
theorem zz_rw_sh {fk : Nat → Nat → Nat} {k : Nat} {w : zz_W} : zk_sh 64 (zz_rw fk k w) := by
  refine ⟨?_, fun i hi => ?_⟩
  · show ((List.range 64).map _).length = 64
    rw [List.length_map, List.length_range]
  · show (((List.range 64).map (fun a => (List.range 16).map (fun b => zz_rc fk k (zz_g w (zz_sw k (16 * a + b)))))).getD i []).length = 16
    rw [List.getD_eq_getElem?_getD, List.getElem?_map, List.getElem?_range hi]
    show ((List.range 16).map _).length = 16
    rw [List.length_map, List.length_range]
theorem zz_I_rw {D : va_G} {cl : List vw_C} {fk : Nat → Nat → Nat} {cy : Nat → ClassId} {k z0 : Nat} {sp1 sp2 : Nat → Nat} {w : zz_W} {H : Heap} (hk : k ≤ 5) (hn : zz_nm k sp1 sp2) (h1 : 160 ≤ w.1) (h2 : w.1 ≤ 1024) (hI : zz_I D cl fk cy z0 sp1 w H) : zz_I D cl fk cy z0 sp2 (zz_rw fk k w) H := by
  refine ⟨hI.1, fun i q hq => ?_⟩
  obtain ⟨hl, rfl⟩ := zz_ws_at hq
  have hl : i < w.1 := hl
  have h3 := zz_I_at hI (i := zz_sw k i) (zz_sw_lt hk h1 hl)
  have e : zz_ad z0 sp2 i = zz_ad z0 sp1 (zz_sw k i) := by
    show z0 + zz_sw (sp2 18446744073709551616) i = z0 + zz_sw (sp1 18446744073709551616) (zz_sw k i)
    rw [← hn.1 (zz_sw k i), zz_sw_sw]
  rw [zz_rw_g (by omega), zz_e_rc hk hn, e]
  exact h3
end
