/-! LAWS BY HAND with conditions: what is not so is a case of its own, which the check finds to be impossible -/
noncomputable section
def zx_ne (es : List zl_E) : List zx_Ca := es.flatMap (fun e => [([], [zl_sub e (zl_con 1)], [], []), ([], [zl_sub (zl_con (-1)) e], [], [])])
def zx_ng (es : List zl_E) : List zx_Ca := es.map (fun e => ([], [zl_sub (zl_con (-1)) e], [], []))
/-- tokens, inputs, rows, fields; sums that are 0; sums that are not below 0; cases -/
def zx_Lc (tk : List Nat) (n : Nat) (rs fs : List (Nat × Nat)) (eqs ges : List zl_E) (ca : List zx_Ca) : zx_L := (tk, n, rs, fs, ca ++ (zx_ne eqs ++ zx_ng ges))
theorem zx_getD_nil (l : List Int) (m : Nat) : (l ++ ([] : List Int)).getD m 0 = l.getD m 0 := by rw [List.append_nil]
theorem zx_Lc_ok {c : Nat} {HT : List (List zk_H)} {PT : Nat → zz_W → Prop} {tk : List Nat} {n : Nat} {rs fs : List (Nat × Nat)} {eqs ges : List zl_E} {ca : List zx_Ca}
    (h : ∀ w, zk_I c HT w → (∀ t ∈ tk, PT t w) → ∀ ins : List Int, ins.length = n → (∀ q ∈ rs, 0 ≤ ins.getD q.2 0) → (∀ e ∈ eqs, zl_ev (fun m => (zx_vl w (tk, n, rs, fs, ca) ins).getD m 0) e = 0) → (∀ e ∈ ges, 0 ≤ zl_ev (fun m => (zx_vl w (tk, n, rs, fs, ca) ins).getD m 0) e) →
      ∃ d ∈ ca, ∃ nw : List Int, nw.length = d.1.length ∧ (∀ (k : Nat) (q : Int × Int), d.1[k]? = some q → q.1 ≤ nw.getD k 0 ∧ nw.getD k 0 ≤ q.2) ∧ zk_cs (fun m => (zx_vl w (tk, n, rs, fs, ca) ins ++ nw).getD m 0) d.2.1 ∧ zk_eF (fun m => (zx_vl w (tk, n, rs, fs, ca) ins ++ nw).getD m 0) d.2.2.1 w ∧ ∀ t ∈ d.2.2.2, PT t w) : zx_Lok c HT PT (zx_Lc tk n rs fs eqs ges ca) := by
  intro w hI hK ins hl hr
  have hr : ∀ q ∈ rs, 0 ≤ ins.getD q.2 0 := fun q hq => (hr q hq).1
  have hvl : zx_vl w (zx_Lc tk n rs fs eqs ges ca) ins = zx_vl w (tk, n, rs, fs, ca) ins := rfl
  rw [hvl]
  have triv : ∀ e1 : zl_E, 0 ≤ zl_ev (fun m => (zx_vl w (tk, n, rs, fs, ca) ins).getD m 0) e1 → ∀ d : zx_Ca, d = ([], [e1], [], []) → ∃ nw : List Int, nw.length = d.1.length ∧ (∀ (k : Nat) (q : Int × Int), d.1[k]? = some q → q.1 ≤ nw.getD k 0 ∧ nw.getD k 0 ≤ q.2) ∧ zk_cs (fun m => (zx_vl w (tk, n, rs, fs, ca) ins ++ nw).getD m 0) d.2.1 ∧ zk_eF (fun m => (zx_vl w (tk, n, rs, fs, ca) ins ++ nw).getD m 0) d.2.2.1 w ∧ ∀ t ∈ d.2.2.2, PT t w := by
    intro e1 h1 d hd
    subst hd
    refine ⟨[], rfl, fun k q hq => ?_, fun c0 hc => ?_, fun y hy => ?_, fun t ht => ?_⟩
    · cases hq
    · rw [List.mem_singleton.mp hc, show (fun m => (zx_vl w (tk, n, rs, fs, ca) ins ++ ([] : List Int)).getD m 0) = (fun m => (zx_vl w (tk, n, rs, fs, ca) ins).getD m 0) from funext (fun m => zx_getD_nil _ m)]
      exact h1
    · cases hy
    · cases ht
  by_cases he : ∀ e ∈ eqs, zl_ev (fun m => (zx_vl w (tk, n, rs, fs, ca) ins).getD m 0) e = 0
  · by_cases hg : ∀ e ∈ ges, 0 ≤ zl_ev (fun m => (zx_vl w (tk, n, rs, fs, ca) ins).getD m 0) e
    · obtain ⟨d, d1, d2⟩ := h w hI hK ins hl hr he hg
      exact ⟨d, List.mem_append_left _ d1, d2⟩
    · obtain ⟨e, e1, e2⟩ : ∃ e, e ∈ ges ∧ ¬ 0 ≤ zl_ev (fun m => (zx_vl w (tk, n, rs, fs, ca) ins).getD m 0) e := Classical.byContradiction (fun hn => hg (fun e he => Classical.byContradiction (fun h2 => hn ⟨e, he, h2⟩)))
      exact ⟨_, List.mem_append_right _ (List.mem_append_right _ (List.mem_map.mpr ⟨e, e1, rfl⟩)), triv (zl_sub (zl_con (-1)) e) (by rw [zl_sub_ev, zl_con_ev]; omega) _ rfl⟩
  · obtain ⟨e, e1, e2⟩ : ∃ e, e ∈ eqs ∧ ¬ zl_ev (fun m => (zx_vl w (tk, n, rs, fs, ca) ins).getD m 0) e = 0 := Classical.byContradiction (fun hn => he (fun e he => Classical.byContradiction (fun h2 => hn ⟨e, he, h2⟩)))
    by_cases hp : 0 < zl_ev (fun m => (zx_vl w (tk, n, rs, fs, ca) ins).getD m 0) e
    · exact ⟨_, List.mem_append_right _ (List.mem_append_left _ (List.mem_flatMap.mpr ⟨e, e1, List.mem_cons_self⟩)), triv (zl_sub e (zl_con 1)) (by rw [zl_sub_ev, zl_con_ev]; omega) _ rfl⟩
    · exact ⟨_, List.mem_append_right _ (List.mem_append_left _ (List.mem_flatMap.mpr ⟨e, e1, List.mem_cons_of_mem _ List.mem_cons_self⟩)), triv (zl_sub (zl_con (-1)) e) (by rw [zl_sub_ev, zl_con_ev]; omega) _ rfl⟩
/-- one case without new numbers -/
theorem zx_one {PT : Nat → zz_W → Prop} {w : zz_W} {l : List Int} {ca : List zx_Ca} (d : zx_Ca) (hd : d ∈ ca) (h0 : d.1 = []) (hc : zk_cs (fun m => l.getD m 0) d.2.1) (hE : zk_eF (fun m => l.getD m 0) d.2.2.1 w) (hK : ∀ t ∈ d.2.2.2, PT t w) : ∃ d ∈ ca, ∃ nw : List Int, nw.length = d.1.length ∧ (∀ (k : Nat) (q : Int × Int), d.1[k]? = some q → q.1 ≤ nw.getD k 0 ∧ nw.getD k 0 ≤ q.2) ∧ zk_cs (fun m => (l ++ nw).getD m 0) d.2.1 ∧ zk_eF (fun m => (l ++ nw).getD m 0) d.2.2.1 w ∧ ∀ t ∈ d.2.2.2, PT t w := by
  refine ⟨d, hd, [], by rw [h0]; rfl, fun k q hq => ?_, ?_, ?_, hK⟩
  · rw [h0] at hq
    cases hq
  · rw [List.append_nil]
    exact hc
  · rw [List.append_nil]
    exact hE
theorem zx_cs0 {s : Nat → Int} : zk_cs s [] := fun _ h => by cases h
theorem zx_eF0 {s : Nat → Int} {w : zz_W} : zk_eF s [] w := fun _ h => by cases h
theorem zx_eF1 {s : Nat → Int} {w : zz_W} {x : zk_E1} {E : List zk_E1} (h0 : 0 ≤ zl_ev s x.2.1) (h1 : zk_xe w x.1 (zl_ev s x.2.1) = zl_ev s x.2.2) (hE : zk_eF s E w) : zk_eF s (x :: E) w := fun y hy => by
  rcases List.mem_cons.mp hy with e | hy
  · subst e
    exact ⟨h0, h1⟩
  · exact hE y hy
theorem zx_k0 {PT : Nat → zz_W → Prop} {w : zz_W} : ∀ t ∈ ([] : List Nat), PT t w := fun _ h => by cases h
/-! names that are told (globalNames, kindNames): x stands there; how many there are at most -/
theorem zh_in_s {f : Nat → Int} {n : Nat} {x : Int} : zh_in f (n + 1) x ↔ zh_in f n x ∨ f n = x := by
  constructor
  · rintro ⟨i, i1, i2⟩
    by_cases hi : i = n
    · subst hi
      exact Or.inr i2
    · exact Or.inl ⟨i, by omega, i2⟩
  · rintro (⟨i, i1, i2⟩ | h)
    · exact ⟨i, by omega, i2⟩
    · exact ⟨n, by omega, h⟩
theorem zh_in_eq {f f' : Nat → Int} {n : Nat} {x : Int} (h : ∀ i, i < n → f' i = f i) : zh_in f' n x ↔ zh_in f n x := by
  constructor
  · rintro ⟨i, i1, i2⟩
    exact ⟨i, i1, by rw [← h i i1]; exact i2⟩
  · rintro ⟨i, i1, i2⟩
    exact ⟨i, i1, by rw [h i i1]; exact i2⟩
theorem zh_cn_p {f : Nat → Int} {a : Nat} {g : Nat → Int} {n : Nat} (h : zh_in f a (g n)) : zh_cn f a g (n + 1) = zh_cn f a g n := by
  show zh_cn f a g n + @ite Nat (zh_in f a (g n)) (Classical.propDecidable _) 0 1 = _
  rw [if_pos h, Nat.add_zero]
theorem zh_cn_n {f : Nat → Int} {a : Nat} {g : Nat → Int} {n : Nat} (h : ¬ zh_in f a (g n)) : zh_cn f a g (n + 1) = zh_cn f a g n + 1 := by
  show zh_cn f a g n + @ite Nat (zh_in f a (g n)) (Classical.propDecidable _) 0 1 = _
  rw [if_neg h]
theorem zh_cn_le {f : Nat → Int} {a : Nat} {g : Nat → Int} {n : Nat} : zh_cn f a g (n + 1) ≤ zh_cn f a g n + 1 := by
  by_cases h : zh_in f a (g n)
  · rw [zh_cn_p h]; omega
  · rw [zh_cn_n h]; omega
/-- more stand in f: not more are counted -/
theorem zh_cn_mono {f f' : Nat → Int} {a a' : Nat} {g g' : Nat → Int} : ∀ {n : Nat}, (∀ i, i < n → g' i = g i) → (∀ x, zh_in f a x → zh_in f' a' x) → zh_cn f' a' g' n ≤ zh_cn f a g n
  | 0, _, _ => Nat.le_refl _
  | n + 1, hg, h => by
    have ih := zh_cn_mono (n := n) (fun i hi => hg i (by omega)) h
    by_cases h1 : zh_in f a (g n)
    · rw [zh_cn_p h1, zh_cn_p (by rw [hg n (by omega)]; exact h _ h1)]
      exact ih
    · rw [zh_cn_n h1]
      have := zh_cn_le (f := f') (a := a') (g := g') (n := n)
      omega
/-- x is new in f and stands in g: one less is counted -/
theorem zh_cn_less {f f' : Nat → Int} {a a' : Nat} {g g' : Nat → Int} {x : Int} : ∀ {n : Nat}, (∀ i, i < n → g' i = g i) → (∀ y, zh_in f a y → zh_in f' a' y) → ¬ zh_in f a x → zh_in f' a' x → zh_in g n x → zh_cn f' a' g' n + 1 ≤ zh_cn f a g n
  | 0, _, _, _, _, hx => by
    obtain ⟨i, i1, _⟩ := hx
    omega
  | n + 1, hg, h, h0, h1, hx => by
    by_cases hn : g n = x
    · have ih := zh_cn_mono (n := n) (fun i hi => hg i (by omega)) h
      have a1 := zh_cn_n (f := f) (a := a) (g := g) (n := n) (by rw [hn]; exact h0)
      have a2 := zh_cn_p (f := f') (a := a') (g := g') (n := n) (by rw [hg n (by omega), hn]; exact h1)
      omega
    · have hx : zh_in g n x := (zh_in_s.mp hx).resolve_right hn
      have ih := zh_cn_less (n := n) (fun i hi => hg i (by omega)) h h0 h1 hx
      by_cases h2 : zh_in f a (g n)
      · rw [zh_cn_p h2, zh_cn_p (by rw [hg n (by omega)]; exact h _ h2)]
        exact ih
      · rw [zh_cn_n h2]
        have := zh_cn_le (f := f') (a := a') (g := g') (n := n)
        omega
theorem zh_cn_one {f : Nat → Int} {a : Nat} {g : Nat → Int} {x : Int} : ∀ {n : Nat}, ¬ zh_in f a x → zh_in g n x → 1 ≤ zh_cn f a g n
  | 0, _, hx => by
    obtain ⟨i, i1, _⟩ := hx
    omega
  | n + 1, h0, hx => by
    by_cases hn : g n = x
    · rw [zh_cn_n (by rw [hn]; exact h0)]
      omega
    · have ih := zh_cn_one (n := n) h0 ((zh_in_s.mp hx).resolve_right hn)
      by_cases h2 : zh_in f a (g n)
      · rw [zh_cn_p h2]
        exact ih
      · rw [zh_cn_n h2]
        omega
theorem zh_d2 {j a b : Int} (h : j = a + 1048576 * b) (h0 : 0 ≤ a) (h1 : a < 1048576) : j % 1048576 = a ∧ j / 1048576 = b := by omega
theorem zh_d3 {j a b c : Int} (h : j = a + 1048576 * b + 1099511627776 * c) (h0 : 0 ≤ a) (h1 : a < 1048576) (h2 : 0 ≤ b) (h3 : b < 1048576) : j % 1048576 = a ∧ j / 1048576 % 1048576 = b ∧ j / 1048576 / 1048576 = c := by omega
theorem zh_H0 {w : zz_W} {j n x : Int} (h : j = n + 1048576 * x) (h0 : 0 ≤ n) (h1 : n < 1048576) : zk_xe w 2000000 j = zh_b (zh_in (zh_f w 286) n.toNat x) := by
  obtain ⟨a, b⟩ := zh_d2 h h0 h1
  rw [show (2000000 : Nat) = 2000000 + 0 from rfl, zk_xe_h]
  show zh_b (zh_in (zh_f w 286) (j % 1048576).toNat (j / 1048576)) = _
  rw [a, b]
theorem zh_H1 {w : zz_W} {j n x : Int} (h : j = n + 1048576 * x) (h0 : 0 ≤ n) (h1 : n < 1048576) : zk_xe w 2000001 j = zh_b (zh_in (zh_f w 287) n.toNat x) := by
  obtain ⟨a, b⟩ := zh_d2 h h0 h1
  rw [show (2000001 : Nat) = 2000000 + 1 from rfl, zk_xe_h]
  show zh_b (zh_in (zh_f w 287) (j % 1048576).toNat (j / 1048576)) = _
  rw [a, b]
theorem zh_H2 {w : zz_W} {j g k m : Int} (h : j = g + 1048576 * k + 1099511627776 * m) (h0 : 0 ≤ g) (h1 : g < 1048576) (h2 : 0 ≤ k) (h3 : k < 1048576) : zk_xe w 2000002 j = zh_b (g + (zh_cn (zh_f w 286) g.toNat (zh_f w 287) k.toNat : Int) ≤ m) := by
  obtain ⟨a, b, c⟩ := zh_d3 h h0 h1 h2 h3
  rw [show (2000002 : Nat) = 2000000 + 2 from rfl, zk_xe_h]
  show zh_b (j % 1048576 + (zh_cn (zh_f w 286) (j % 1048576).toNat (zh_f w 287) (j / 1048576 % 1048576).toNat : Int) ≤ j / 1048576 / 1048576) = _
  rw [a, b, c]
theorem zh_H3 {w : zz_W} {j g k m : Int} (h : j = g + 1048576 * k + 1099511627776 * m) (h0 : 0 ≤ g) (h1 : g < 1048576) (h2 : 0 ≤ k) (h3 : k < 1048576) : zk_xe w 2000003 j = zh_b (k + (zh_cn (zh_f w 287) k.toNat (zh_f w 286) g.toNat : Int) ≤ m) := by
  obtain ⟨a, b, c⟩ := zh_d3 h h0 h1 h2 h3
  rw [show (2000003 : Nat) = 2000000 + 3 from rfl, zk_xe_h]
  show zh_b (j / 1048576 % 1048576 + (zh_cn (zh_f w 287) (j / 1048576 % 1048576).toNat (zh_f w 286) (j % 1048576).toNat : Int) ≤ j / 1048576 / 1048576) = _
  rw [a, b, c]
end
/-! LAWS of names that are told -/
noncomputable section
def zx_es (es : List zl_E) : List zl_E := es.flatMap (fun e => [e, zl_sub (zl_con 0) e])
def zx_Vc (r : Nat) (tk : List Nat) (n : Nat) (rs : List (Nat × Nat)) (eqs ges : List zl_E) (ee : List zk_E1) : zx_V := (r, tk, n, rs, zx_es eqs ++ ges, ee)
theorem zx_Vc_ok {c : Nat} {HT : List (List zk_H)} {PT : Nat → zz_W → Prop} {r : Nat} {tk : List Nat} {n : Nat} {rs : List (Nat × Nat)} {eqs ges : List zl_E} {ee : List zk_E1}
    (h : ∀ w w' (j : Int) (ins : List Int), zk_I c HT w → zk_I c HT w' → 0 ≤ j → zk_rR r j w w' → (∀ t ∈ tk, PT t w) → ins.length = n → (∀ e ∈ eqs, zl_ev (fun m => (zx_vv w w' (r, tk, n, rs, ges, ee) j ins).getD m 0) e = 0) → (∀ e ∈ ges, 0 ≤ zl_ev (fun m => (zx_vv w w' (r, tk, n, rs, ges, ee) j ins).getD m 0) e) → zk_eF (fun m => (zx_vv w w' (r, tk, n, rs, ges, ee) j ins).getD m 0) ee w') : zx_Vok c HT PT (zx_Vc r tk n rs eqs ges ee) := by
  intro w w' j ins hI hI' h0 hw hK hl hc
  have hvl : zx_vv w w' (zx_Vc r tk n rs eqs ges ee) j ins = zx_vv w w' (r, tk, n, rs, ges, ee) j ins := rfl
  rw [hvl] at hc ⊢
  refine h w w' j ins hI hI' h0 hw hK hl (fun e he => ?_) (fun e he => hc e (List.mem_append_right _ he))
  have h1 := hc e (List.mem_append_left _ (List.mem_flatMap.mpr ⟨e, he, List.mem_cons_self⟩))
  have h2 := hc (zl_sub (zl_con 0) e) (List.mem_append_left _ (List.mem_flatMap.mpr ⟨e, he, List.mem_cons_of_mem _ List.mem_cons_self⟩))
  rw [zl_sub_ev, zl_con_ev] at h2
  omega
theorem zx_i1 {l : List Int} (h : l.length = 1) : ∃ a, l = [a] := by
  match l, h with
  | [a], _ => exact ⟨a, rfl⟩
theorem zx_i2 {l : List Int} (h : l.length = 2) : ∃ a b, l = [a, b] := by
  match l, h with
  | [a, b], _ => exact ⟨a, b, rfl⟩
theorem zx_i3 {l : List Int} (h : l.length = 3) : ∃ a b c, l = [a, b, c] := by
  match l, h with
  | [a, b, c], _ => exact ⟨a, b, c, rfl⟩
theorem zx_i4 {l : List Int} (h : l.length = 4) : ∃ a b c d, l = [a, b, c, d] := by
  match l, h with
  | [a, b, c, d], _ => exact ⟨a, b, c, d, rfl⟩
theorem zx_i7 {l : List Int} (h : l.length = 7) : ∃ a b c d e f g, l = [a, b, c, d, e, f, g] := by
  match l, h with
  | [a, b, c, d, e, f, g], _ => exact ⟨a, b, c, d, e, f, g, rfl⟩
/-- what a function 'x stands among the first n of the row C' is -/
def zh_Is (R C : Nat) : Prop := ∀ (w : zz_W) (j n x : Int), j = n + 1048576 * x → 0 ≤ n → n < 1048576 → zk_xe w R j = zh_b (zh_in (zh_f w C) n.toNat x)
/-- one place on: inputs code, k, x -/
def zx_S (R C : Nat) : zx_L := zx_Lc [] 3 [(R, 0), (C, 1)] [] [zl_sub (zl_sym 0) (zl_add (zl_sym 1) (zl_mul 1048576 (zl_sym 2)))] [zl_sym 1, zl_sub (zl_con 1048574) (zl_sym 1), zl_sym 2]
  [([], [zl_sub (zl_sym 4) (zl_sym 2), zl_sub (zl_sym 2) (zl_sym 4)], [(R, zl_add (zl_sym 0) (zl_con 1), zl_con 1)], []),
   ([], [zl_sub (zl_sub (zl_sym 4) (zl_sym 2)) (zl_con 1)], [(R, zl_add (zl_sym 0) (zl_con 1), zl_sym 3)], []),
   ([], [zl_sub (zl_sub (zl_sym 2) (zl_sym 4)) (zl_con 1)], [(R, zl_add (zl_sym 0) (zl_con 1), zl_sym 3)], [])]
theorem zx_S_ok {PT : Nat → zz_W → Prop} {R C : Nat} (hC : Nat.blt C 1000000 = true) (hR : zh_Is R C) : zx_Lok 64 zHT PT (zx_S R C) := by
  refine zx_Lc_ok (fun w _ _ ins hl _ he hg => ?_)
  obtain ⟨j, k, x, rfl⟩ := zx_i3 hl
  have e1 := he _ List.mem_cons_self
  rw [zl_sub_ev, zl_add_ev, zl_mul_ev, zl_sym_ev, zl_sym_ev, zl_sym_ev] at e1
  have e1 : j - (k + 1048576 * x) = 0 := e1
  have g1 := hg _ List.mem_cons_self
  have g2 := hg _ (List.mem_cons_of_mem _ List.mem_cons_self)
  have g3 := hg _ (List.mem_cons_of_mem _ (List.mem_cons_of_mem _ List.mem_cons_self))
  rw [zl_sym_ev] at g1 g3
  rw [zl_sub_ev, zl_con_ev, zl_sym_ev] at g2
  have g1 : 0 ≤ k := g1
  have g2 : 0 ≤ 1048574 - k := g2
  have g3 : 0 ≤ x := g3
  have hv := hR w j k x (by omega) g1 (by omega)
  have hn := hR w (j + 1) (k + 1) x (by omega) (by omega) (by omega)
  rw [show (k + 1).toNat = k.toNat + 1 by omega] at hn
  have hel : zh_f w C k.toNat = zk_xe w C k := by
    rw [zk_xe_r hC]
    unfold zh_f
    rw [show ((k.toNat : Nat) : Int) = k by omega]
  have hst : ∀ v : Int, zk_xe w R (j + 1) = v → ∀ e2 : zl_E, zl_ev (fun m => ([j, k, x] ++ ([zk_xe w R j, zk_xe w C k] ++ ([] : List Int))).getD m 0) e2 = v → zk_eF (fun m => ([j, k, x] ++ ([zk_xe w R j, zk_xe w C k] ++ ([] : List Int))).getD m 0) [(R, zl_add (zl_sym 0) (zl_con 1), e2)] w := by
    intro v hv2 e2 h2
    have h3 : zl_ev (fun m => ([j, k, x] ++ ([zk_xe w R j, zk_xe w C k] ++ ([] : List Int))).getD m 0) (zl_add (zl_sym 0) (zl_con 1)) = j + 1 := by
      rw [zl_add_ev, zl_sym_ev, zl_con_ev]
      rfl
    refine zx_eF1 ?_ ?_ zx_eF0
    · show 0 ≤ zl_ev _ (zl_add (zl_sym 0) (zl_con 1))
      rw [h3]
      omega
    · show zk_xe w R (zl_ev _ (zl_add (zl_sym 0) (zl_con 1))) = zl_ev _ e2
      rw [h3, h2]
      exact hv2
  by_cases hx : zk_xe w C k = x
  · refine zx_one (l := [j, k, x] ++ ([zk_xe w R j, zk_xe w C k] ++ ([] : List Int))) _ List.mem_cons_self rfl (fun c hc => ?_) (hst 1 ?_ _ (zl_con_ev _ _)) zx_k0
    · rcases List.mem_cons.mp hc with hc | hc
      · rw [hc, zl_sub_ev, zl_sym_ev, zl_sym_ev]
        show 0 ≤ zk_xe w C k - x
        omega
      · rw [List.mem_singleton.mp hc, zl_sub_ev, zl_sym_ev, zl_sym_ev]
        show 0 ≤ x - zk_xe w C k
        omega
    · rw [hn]
      exact zh_b1 (zh_in_s.mpr (Or.inr (by rw [hel]; exact hx)))
  · have hsame : zk_xe w R (j + 1) = zk_xe w R j := by
      rw [hn, hv]
      by_cases h2 : zh_in (zh_f w C) k.toNat x
      · rw [zh_b1 h2, zh_b1 (zh_in_s.mpr (Or.inl h2))]
      · rw [zh_b0 h2, zh_b0 (fun h3 => (zh_in_s.mp h3).elim h2 (fun h4 => hx (by rw [← hel]; exact h4)))]
    by_cases hlt : x < zk_xe w C k
    · refine zx_one (l := [j, k, x] ++ ([zk_xe w R j, zk_xe w C k] ++ ([] : List Int))) _ (List.mem_cons_of_mem _ List.mem_cons_self) rfl (fun c hc => ?_) (hst _ hsame _ (zl_sym_ev _ _)) zx_k0
      rw [List.mem_singleton.mp hc, zl_sub_ev, zl_sub_ev, zl_sym_ev, zl_sym_ev, zl_con_ev]
      show 0 ≤ zk_xe w C k - x - 1
      omega
    · refine zx_one (l := [j, k, x] ++ ([zk_xe w R j, zk_xe w C k] ++ ([] : List Int))) _ (List.mem_cons_of_mem _ (List.mem_cons_of_mem _ List.mem_cons_self)) rfl (fun c hc => ?_) (hst _ hsame _ (zl_sym_ev _ _)) zx_k0
      rw [List.mem_singleton.mp hc, zl_sub_ev, zl_sub_ev, zl_sym_ev, zl_sym_ev, zl_con_ev]
      show 0 ≤ x - zk_xe w C k - 1
      omega
/-- none stands among the first 0: input x -/
def zx_Z (R : Nat) : zx_L := zx_Lc [] 1 [] [] [] [zl_sym 0] [([], [], [(R, zl_mul 1048576 (zl_sym 0), zl_con 0)], [])]
theorem zx_Z_ok {PT : Nat → zz_W → Prop} {R C : Nat} (hR : zh_Is R C) : zx_Lok 64 zHT PT (zx_Z R) := by
  refine zx_Lc_ok (fun w _ _ ins hl _ he hg => ?_)
  obtain ⟨x, rfl⟩ := zx_i1 hl
  have g1 := hg _ List.mem_cons_self
  rw [zl_sym_ev] at g1
  have g1 : 0 ≤ x := g1
  have hv := hR w (1048576 * x) 0 x (by omega) (by omega) (by omega)
  refine zx_one (l := [x] ++ (([] : List Int) ++ ([] : List Int))) _ List.mem_cons_self rfl zx_cs0 (zx_eF1 ?_ ?_ zx_eF0) zx_k0
  · show 0 ≤ zl_ev _ (zl_mul 1048576 (zl_sym 0))
    rw [zl_mul_ev, zl_sym_ev]
    show 0 ≤ 1048576 * x
    omega
  · show zk_xe w R (zl_ev _ (zl_mul 1048576 (zl_sym 0))) = zl_ev _ (zl_con 0)
    rw [zl_mul_ev, zl_sym_ev, zl_con_ev]
    show zk_xe w R (1048576 * x) = 0
    rw [hv]
    exact zh_b0 (fun ⟨i, i1, _⟩ => by
      have : (0 : Int).toNat = 0 := rfl
      omega)
/-- the same place, said otherwise: inputs old, new -/
def zx_M (R : Nat) : zx_L := zx_Lc [] 2 [(R, 0)] [] [zl_sub (zl_sym 0) (zl_sym 1)] [] [([], [], [(R, zl_sym 1, zl_sym 2)], [])]
theorem zx_M_ok {PT : Nat → zz_W → Prop} {R : Nat} : zx_Lok 64 zHT PT (zx_M R) := by
  refine zx_Lc_ok (fun w _ _ ins hl hr he hg => ?_)
  obtain ⟨a, b, rfl⟩ := zx_i2 hl
  have e1 := he _ List.mem_cons_self
  rw [zl_sub_ev, zl_sym_ev, zl_sym_ev] at e1
  have e1 : a - b = 0 := e1
  have h0 : 0 ≤ a := hr (R, 0) List.mem_cons_self
  have hab : a = b := by omega
  subst hab
  refine zx_one (l := [a, a] ++ ([zk_xe w R a] ++ ([] : List Int))) _ List.mem_cons_self rfl zx_cs0 (zx_eF1 ?_ ?_ zx_eF0) zx_k0
  · show 0 ≤ zl_ev _ (zl_sym 1)
    rw [zl_sym_ev]
    exact h0
  · show zk_xe w R (zl_ev _ (zl_sym 1)) = zl_ev _ (zl_sym 2)
    rw [zl_sym_ev, zl_sym_ev]
    rfl
def zn_fd (w : zz_W) (k : Nat) : Int := (Int32.ofNat (zk_fd w (171, k))).toInt
/-- the token: globals, kinds and marks -/
def zh_T (w : zz_W) : Prop := (zn_fd w 160 + (zh_cn (zh_f w 286) (zn_fd w 160).toNat (zh_f w 287) (zn_fd w 163).toNat : Int) ≤ zn_fd w 158) ∧ (zn_fd w 163 + (zh_cn (zh_f w 287) (zn_fd w 163).toNat (zh_f w 286) (zn_fd w 160).toNat : Int) ≤ zn_fd w 158)
/-- from the token to what is known -/
def zx_T1 : zx_L := zx_Lc [203] 0 [] [(171, 160), (171, 163), (171, 158)] [] [zl_sym 0, zl_sub (zl_con 1048575) (zl_sym 0), zl_sym 1, zl_sub (zl_con 1048575) (zl_sym 1), zl_sym 2]
  [([], [], [(2000002, zl_add (zl_add (zl_sym 0) (zl_mul 1048576 (zl_sym 1))) (zl_mul 1099511627776 (zl_sym 2)), zl_con 1), (2000003, zl_add (zl_add (zl_sym 0) (zl_mul 1048576 (zl_sym 1))) (zl_mul 1099511627776 (zl_sym 2)), zl_con 1)], [])]
theorem zx_T1_ok {PT : Nat → zz_W → Prop} (hT : ∀ w, PT 203 w → zh_T w) : zx_Lok 64 zHT PT zx_T1 := by
  refine zx_Lc_ok (fun w _ hK ins hl hr he hg => ?_)
  have hi : ins = [] := List.length_eq_zero_iff.mp hl
  subst hi
  have h1 := hT w (hK 203 List.mem_cons_self)
  have g0 := hg _ List.mem_cons_self
  have g1 := hg _ (List.mem_cons_of_mem _ List.mem_cons_self)
  have g2 := hg _ (List.mem_cons_of_mem _ (List.mem_cons_of_mem _ List.mem_cons_self))
  have g3 := hg _ (List.mem_cons_of_mem _ (List.mem_cons_of_mem _ (List.mem_cons_of_mem _ List.mem_cons_self)))
  have g4 := hg _ (List.mem_cons_of_mem _ (List.mem_cons_of_mem _ (List.mem_cons_of_mem _ (List.mem_cons_of_mem _ List.mem_cons_self))))
  rw [zl_sym_ev] at g0 g2 g4
  rw [zl_sub_ev, zl_con_ev, zl_sym_ev] at g1 g3
  have g0 : 0 ≤ zn_fd w 160 := g0
  have g1 : 0 ≤ 1048575 - zn_fd w 160 := g1
  have g2 : 0 ≤ zn_fd w 163 := g2
  have g3 : 0 ≤ 1048575 - zn_fd w 163 := g3
  have g4 : 0 ≤ zn_fd w 158 := g4
  have hp : zl_ev (fun m => (([] : List Int) ++ (([] : List Int) ++ [zn_fd w 160, zn_fd w 163, zn_fd w 158])).getD m 0) (zl_add (zl_add (zl_sym 0) (zl_mul 1048576 (zl_sym 1))) (zl_mul 1099511627776 (zl_sym 2))) = zn_fd w 160 + 1048576 * zn_fd w 163 + 1099511627776 * zn_fd w 158 := by
    rw [zl_add_ev, zl_add_ev, zl_mul_ev, zl_mul_ev, zl_sym_ev, zl_sym_ev, zl_sym_ev]
    rfl
  refine zx_one (l := ([] : List Int) ++ (([] : List Int) ++ [zn_fd w 160, zn_fd w 163, zn_fd w 158])) _ List.mem_cons_self rfl zx_cs0 (zx_eF1 ?_ ?_ (zx_eF1 ?_ ?_ zx_eF0)) zx_k0
  · show 0 ≤ zl_ev _ (zl_add (zl_add (zl_sym 0) (zl_mul 1048576 (zl_sym 1))) (zl_mul 1099511627776 (zl_sym 2)))
    rw [hp]
    omega
  · show zk_xe w 2000002 (zl_ev _ (zl_add (zl_add (zl_sym 0) (zl_mul 1048576 (zl_sym 1))) (zl_mul 1099511627776 (zl_sym 2)))) = zl_ev _ (zl_con 1)
    rw [hp, zl_con_ev, zh_H2 rfl g0 (by omega) g2 (by omega)]
    exact zh_b1 h1.1
  · show 0 ≤ zl_ev _ (zl_add (zl_add (zl_sym 0) (zl_mul 1048576 (zl_sym 1))) (zl_mul 1099511627776 (zl_sym 2)))
    rw [hp]
    omega
  · show zk_xe w 2000003 (zl_ev _ (zl_add (zl_add (zl_sym 0) (zl_mul 1048576 (zl_sym 1))) (zl_mul 1099511627776 (zl_sym 2)))) = zl_ev _ (zl_con 1)
    rw [hp, zl_con_ev, zh_H3 rfl g0 (by omega) g2 (by omega)]
    exact zh_b1 h1.2
/-- and back: input the place -/
def zx_T2 : zx_L := zx_Lc [] 1 [(2000002, 0), (2000003, 0)] [(171, 160), (171, 163), (171, 158)] [zl_sub (zl_sym 0) (zl_add (zl_add (zl_sym 3) (zl_mul 1048576 (zl_sym 4))) (zl_mul 1099511627776 (zl_sym 5))), zl_sub (zl_sym 1) (zl_con 1), zl_sub (zl_sym 2) (zl_con 1)] [zl_sym 3, zl_sub (zl_con 1048575) (zl_sym 3), zl_sym 4, zl_sub (zl_con 1048575) (zl_sym 4)]
  [([], [], [], [203])]
theorem zx_T2_ok {PT : Nat → zz_W → Prop} (hT : ∀ w, zh_T w → PT 203 w) : zx_Lok 64 zHT PT zx_T2 := by
  refine zx_Lc_ok (fun w _ _ ins hl hr he hg => ?_)
  obtain ⟨p, rfl⟩ := zx_i1 hl
  have e0 := he _ List.mem_cons_self
  have e1 := he _ (List.mem_cons_of_mem _ List.mem_cons_self)
  have e2 := he _ (List.mem_cons_of_mem _ (List.mem_cons_of_mem _ List.mem_cons_self))
  rw [zl_sub_ev, zl_add_ev, zl_add_ev, zl_mul_ev, zl_mul_ev, zl_sym_ev, zl_sym_ev, zl_sym_ev, zl_sym_ev] at e0
  rw [zl_sub_ev, zl_con_ev, zl_sym_ev] at e1 e2
  have e0 : p - (zn_fd w 160 + 1048576 * zn_fd w 163 + 1099511627776 * zn_fd w 158) = 0 := e0
  have e1 : zk_xe w 2000002 p - 1 = 0 := e1
  have e2 : zk_xe w 2000003 p - 1 = 0 := e2
  have g0 := hg _ List.mem_cons_self
  have g1 := hg _ (List.mem_cons_of_mem _ List.mem_cons_self)
  have g2 := hg _ (List.mem_cons_of_mem _ (List.mem_cons_of_mem _ List.mem_cons_self))
  have g3 := hg _ (List.mem_cons_of_mem _ (List.mem_cons_of_mem _ (List.mem_cons_of_mem _ List.mem_cons_self)))
  rw [zl_sym_ev] at g0 g2
  rw [zl_sub_ev, zl_con_ev, zl_sym_ev] at g1 g3
  have g0 : 0 ≤ zn_fd w 160 := g0
  have g1 : 0 ≤ 1048575 - zn_fd w 160 := g1
  have g2 : 0 ≤ zn_fd w 163 := g2
  have g3 : 0 ≤ 1048575 - zn_fd w 163 := g3
  refine zx_one (l := zx_vl w ([], 1, [(2000002, 0), (2000003, 0)], [(171, 160), (171, 163), (171, 158)], []) [p]) _ List.mem_cons_self rfl zx_cs0 zx_eF0 (fun t ht => ?_)
  rw [List.mem_singleton.mp ht]
  refine hT w ⟨?_, ?_⟩
  · rw [zh_H2 (g := zn_fd w 160) (k := zn_fd w 163) (m := zn_fd w 158) (by omega) g0 (by omega) g2 (by omega)] at e1
    exact zh_b1' (by omega)
  · rw [zh_H3 (g := zn_fd w 160) (k := zn_fd w 163) (m := zn_fd w 158) (by omega) g0 (by omega) g2 (by omega)] at e2
    exact zh_b1' (by omega)
/-- none are told yet -/
def zx_T0 : zx_L := zx_Lc [] 0 [] [(171, 160), (171, 163), (171, 158)] [zl_sym 0, zl_sym 1] [zl_sym 2] [([], [], [], [203])]
theorem zx_T0_ok {PT : Nat → zz_W → Prop} (hT : ∀ w, zh_T w → PT 203 w) : zx_Lok 64 zHT PT zx_T0 := by
  refine zx_Lc_ok (fun w _ _ ins hl hr he hg => ?_)
  have hi : ins = [] := List.length_eq_zero_iff.mp hl
  subst hi
  have e0 := he _ List.mem_cons_self
  have e1 := he _ (List.mem_cons_of_mem _ List.mem_cons_self)
  have g0 := hg _ List.mem_cons_self
  rw [zl_sym_ev] at e0 e1 g0
  have e0 : zn_fd w 160 = 0 := e0
  have e1 : zn_fd w 163 = 0 := e1
  have g0 : 0 ≤ zn_fd w 158 := g0
  refine zx_one (l := zx_vl w ([], 0, [], [(171, 160), (171, 163), (171, 158)], []) []) _ List.mem_cons_self rfl zx_cs0 zx_eF0 (fun t ht => ?_)
  rw [List.mem_singleton.mp ht]
  refine hT w ?_
  unfold zh_T
  rw [e0, e1]
  exact ⟨by show (0 : Int) + ((0 : Nat) : Int) ≤ _; omega, by show (0 : Int) + ((0 : Nat) : Int) ≤ _; omega⟩
/-- room for one more (inputs: place, places of x among the globals, among the kinds, globals, kinds, marks, x) -/
def zx_codes : List zl_E := [zl_sub (zl_sym 0) (zl_add (zl_add (zl_sym 3) (zl_mul 1048576 (zl_sym 4))) (zl_mul 1099511627776 (zl_sym 5))), zl_sub (zl_sym 1) (zl_add (zl_sym 3) (zl_mul 1048576 (zl_sym 6))), zl_sub (zl_sym 2) (zl_add (zl_sym 4) (zl_mul 1048576 (zl_sym 6)))]
def zx_rng : List zl_E := [zl_sym 3, zl_sub (zl_con 1048574) (zl_sym 3), zl_sym 4, zl_sub (zl_con 1048574) (zl_sym 4)]
/-- globals: x stands among the kinds, not among the globals -/
def zx_R1 : zx_L := zx_Lc [] 7 [(2000002, 0), (2000000, 1), (2000001, 2)] [] (zx_codes ++ [zl_sub (zl_sym 7) (zl_con 1), zl_sym 8, zl_sub (zl_sym 9) (zl_con 1)]) zx_rng [([], [zl_sub (zl_sub (zl_sym 5) (zl_sym 3)) (zl_con 1)], [], [])]
theorem zx_codes_ok {w : zz_W} {x : zx_L} {p a b g k m y : Int} {l : List zl_E} (he : ∀ e ∈ zx_codes ++ l, zl_ev (fun i => (zx_vl w x [p, a, b, g, k, m, y]).getD i 0) e = 0) (hg : ∀ e ∈ zx_rng, 0 ≤ zl_ev (fun i => (zx_vl w x [p, a, b, g, k, m, y]).getD i 0) e) : (p = g + 1048576 * k + 1099511627776 * m ∧ a = g + 1048576 * y ∧ b = k + 1048576 * y) ∧ (0 ≤ g ∧ g < 1048576 ∧ 0 ≤ k ∧ k < 1048576) := by
  have e0 := he _ (List.mem_append_left _ List.mem_cons_self)
  have e1 := he _ (List.mem_append_left _ (List.mem_cons_of_mem _ List.mem_cons_self))
  have e2 := he _ (List.mem_append_left _ (List.mem_cons_of_mem _ (List.mem_cons_of_mem _ List.mem_cons_self)))
  rw [zl_sub_ev, zl_add_ev, zl_add_ev, zl_mul_ev, zl_mul_ev, zl_sym_ev, zl_sym_ev, zl_sym_ev, zl_sym_ev] at e0
  rw [zl_sub_ev, zl_add_ev, zl_mul_ev, zl_sym_ev, zl_sym_ev, zl_sym_ev] at e1 e2
  have e0 : p - (g + 1048576 * k + 1099511627776 * m) = 0 := e0
  have e1 : a - (g + 1048576 * y) = 0 := e1
  have e2 : b - (k + 1048576 * y) = 0 := e2
  have g0 := hg _ List.mem_cons_self
  have g1 := hg _ (List.mem_cons_of_mem _ List.mem_cons_self)
  have g2 := hg _ (List.mem_cons_of_mem _ (List.mem_cons_of_mem _ List.mem_cons_self))
  have g3 := hg _ (List.mem_cons_of_mem _ (List.mem_cons_of_mem _ (List.mem_cons_of_mem _ List.mem_cons_self)))
  rw [zl_sym_ev] at g0 g2
  rw [zl_sub_ev, zl_con_ev, zl_sym_ev] at g1 g3
  have g0 : 0 ≤ g := g0
  have g1 : 0 ≤ 1048574 - g := g1
  have g2 : 0 ≤ k := g2
  have g3 : 0 ≤ 1048574 - k := g3
  exact ⟨⟨by omega, by omega, by omega⟩, by omega, by omega, by omega, by omega⟩
theorem zx_R1_ok {PT : Nat → zz_W → Prop} : zx_Lok 64 zHT PT zx_R1 := by
  refine zx_Lc_ok (fun w _ _ ins hl hr he hg => ?_)
  obtain ⟨p, a, b, g, k, m, x, rfl⟩ := zx_i7 hl
  obtain ⟨⟨p1, p2, p3⟩, r1, r2, r3, r4⟩ := zx_codes_ok he hg
  have e0 := he _ (List.mem_append_right _ List.mem_cons_self)
  have e1 := he _ (List.mem_append_right _ (List.mem_cons_of_mem _ List.mem_cons_self))
  have e2 := he _ (List.mem_append_right _ (List.mem_cons_of_mem _ (List.mem_cons_of_mem _ List.mem_cons_self)))
  rw [zl_sub_ev, zl_con_ev, zl_sym_ev] at e0 e2
  rw [zl_sym_ev] at e1
  have e0 : zk_xe w 2000002 p - 1 = 0 := e0
  have e1 : zk_xe w 2000000 a = 0 := e1
  have e2 : zk_xe w 2000001 b - 1 = 0 := e2
  rw [zh_H2 p1 r1 r2 r3 r4] at e0
  rw [zh_H0 p2 r1 r2] at e1
  rw [zh_H1 p3 r3 r4] at e2
  have h0 := zh_b1' (Int.sub_eq_zero.mp e0)
  have h1 := zh_b0' e1
  have h2 := zh_b1' (Int.sub_eq_zero.mp e2)
  have h3 := zh_cn_one (g := zh_f w 287) h1 h2
  refine zx_one (l := zx_vl w ([], 7, [(2000002, 0), (2000000, 1), (2000001, 2)], [], []) [p, a, b, g, k, m, x]) _ List.mem_cons_self rfl (fun c hc => ?_) zx_eF0 zx_k0
  rw [List.mem_singleton.mp hc, zl_sub_ev, zl_sub_ev, zl_sym_ev, zl_sym_ev, zl_con_ev]
  show 0 ≤ m - g - 1
  omega
def zx_R2 : zx_L := zx_Lc [] 7 [(2000002, 0)] [] (zx_codes ++ [zl_sub (zl_sym 7) (zl_con 1)]) zx_rng [([], [zl_sub (zl_sym 5) (zl_sym 3)], [], [])]
theorem zx_R2_ok {PT : Nat → zz_W → Prop} : zx_Lok 64 zHT PT zx_R2 := by
  refine zx_Lc_ok (fun w _ _ ins hl hr he hg => ?_)
  obtain ⟨p, a, b, g, k, m, x, rfl⟩ := zx_i7 hl
  obtain ⟨⟨p1, p2, p3⟩, r1, r2, r3, r4⟩ := zx_codes_ok he hg
  have e0 := he _ (List.mem_append_right _ List.mem_cons_self)
  rw [zl_sub_ev, zl_con_ev, zl_sym_ev] at e0
  have e0 : zk_xe w 2000002 p - 1 = 0 := e0
  rw [zh_H2 p1 r1 r2 r3 r4] at e0
  have h0 := zh_b1' (Int.sub_eq_zero.mp e0)
  refine zx_one (l := zx_vl w ([], 7, [(2000002, 0)], [], []) [p, a, b, g, k, m, x]) _ List.mem_cons_self rfl (fun c hc => ?_) zx_eF0 zx_k0
  rw [List.mem_singleton.mp hc, zl_sub_ev, zl_sym_ev, zl_sym_ev]
  show 0 ≤ m - g
  omega
/-- kinds: x stands among the globals, not among the kinds -/
def zx_R3 : zx_L := zx_Lc [] 7 [(2000003, 0), (2000000, 1), (2000001, 2)] [] (zx_codes ++ [zl_sub (zl_sym 7) (zl_con 1), zl_sub (zl_sym 8) (zl_con 1), zl_sym 9]) zx_rng [([], [zl_sub (zl_sub (zl_sym 5) (zl_sym 4)) (zl_con 1)], [], [])]
theorem zx_R3_ok {PT : Nat → zz_W → Prop} : zx_Lok 64 zHT PT zx_R3 := by
  refine zx_Lc_ok (fun w _ _ ins hl hr he hg => ?_)
  obtain ⟨p, a, b, g, k, m, x, rfl⟩ := zx_i7 hl
  obtain ⟨⟨p1, p2, p3⟩, r1, r2, r3, r4⟩ := zx_codes_ok he hg
  have e0 := he _ (List.mem_append_right _ List.mem_cons_self)
  have e1 := he _ (List.mem_append_right _ (List.mem_cons_of_mem _ List.mem_cons_self))
  have e2 := he _ (List.mem_append_right _ (List.mem_cons_of_mem _ (List.mem_cons_of_mem _ List.mem_cons_self)))
  rw [zl_sub_ev, zl_con_ev, zl_sym_ev] at e0 e1
  rw [zl_sym_ev] at e2
  have e0 : zk_xe w 2000003 p - 1 = 0 := e0
  have e1 : zk_xe w 2000000 a - 1 = 0 := e1
  have e2 : zk_xe w 2000001 b = 0 := e2
  rw [zh_H3 p1 r1 r2 r3 r4] at e0
  rw [zh_H0 p2 r1 r2] at e1
  rw [zh_H1 p3 r3 r4] at e2
  have h0 := zh_b1' (Int.sub_eq_zero.mp e0)
  have h1 := zh_b1' (Int.sub_eq_zero.mp e1)
  have h2 := zh_b0' e2
  have h3 := zh_cn_one (g := zh_f w 286) h2 h1
  refine zx_one (l := zx_vl w ([], 7, [(2000003, 0), (2000000, 1), (2000001, 2)], [], []) [p, a, b, g, k, m, x]) _ List.mem_cons_self rfl (fun c hc => ?_) zx_eF0 zx_k0
  rw [List.mem_singleton.mp hc, zl_sub_ev, zl_sub_ev, zl_sym_ev, zl_sym_ev, zl_con_ev]
  show 0 ≤ m - k - 1
  omega
def zx_R4 : zx_L := zx_Lc [] 7 [(2000003, 0)] [] (zx_codes ++ [zl_sub (zl_sym 7) (zl_con 1)]) zx_rng [([], [zl_sub (zl_sym 5) (zl_sym 4)], [], [])]
theorem zx_R4_ok {PT : Nat → zz_W → Prop} : zx_Lok 64 zHT PT zx_R4 := by
  refine zx_Lc_ok (fun w _ _ ins hl hr he hg => ?_)
  obtain ⟨p, a, b, g, k, m, x, rfl⟩ := zx_i7 hl
  obtain ⟨⟨p1, p2, p3⟩, r1, r2, r3, r4⟩ := zx_codes_ok he hg
  have e0 := he _ (List.mem_append_right _ List.mem_cons_self)
  rw [zl_sub_ev, zl_con_ev, zl_sym_ev] at e0
  have e0 : zk_xe w 2000003 p - 1 = 0 := e0
  rw [zh_H3 p1 r1 r2 r3 r4] at e0
  have h0 := zh_b1' (Int.sub_eq_zero.mp e0)
  refine zx_one (l := zx_vl w ([], 7, [(2000003, 0)], [], []) [p, a, b, g, k, m, x]) _ List.mem_cons_self rfl (fun c hc => ?_) zx_eF0 zx_k0
  rw [List.mem_singleton.mp hc, zl_sub_ev, zl_sym_ev, zl_sym_ev]
  show 0 ≤ m - k
  omega
end
/-! LAWS OF WRITES of names that are told: inputs: place, places of x among the globals, among the kinds, globals, kinds, marks, x -/
noncomputable section
theorem zh_wf {w w' : zz_W} {r : Nat} {j : Int} (h : zk_rR r j w w') : ∀ i : Nat, (i : Int) ≠ j → zh_f w' r i = zh_f w r i := fun i hi => h.2 (i : Int) (Int.natCast_nonneg i) hi
theorem zh_wg {w w' : zz_W} {r r' : Nat} {j : Int} (h : zk_rR r j w w') (hr : r' ≠ r) : zh_f w' r' = zh_f w r' := zh_f_g (h.1 r' hr)
def zx_vcod : List zl_E := [zl_sub (zl_sym 2) (zl_add (zl_add (zl_sym 5) (zl_mul 1048576 (zl_sym 6))) (zl_mul 1099511627776 (zl_sym 7))), zl_sub (zl_sym 3) (zl_add (zl_sym 5) (zl_mul 1048576 (zl_sym 8))), zl_sub (zl_sym 4) (zl_add (zl_sym 6) (zl_mul 1048576 (zl_sym 8))), zl_sub (zl_sym 1) (zl_sym 8), zl_sub (zl_sym 9) (zl_con 1), zl_sub (zl_sym 10) (zl_con 1)]
def zx_vrng : List zl_E := [zl_sym 5, zl_sub (zl_con 1048574) (zl_sym 5), zl_sym 6, zl_sub (zl_con 1048574) (zl_sym 6), zl_sym 2]
theorem zx_vcod_ok {w w' : zz_W} {r : Nat} {rs : List (Nat × Nat)} {ges : List zl_E} {ee : List zk_E1} {j p a b g k m x : Int} {l : List zl_E} (he : ∀ e ∈ zx_vcod ++ l, zl_ev (fun i => (zx_vv w w' (r, [], 7, (2000002, 0) :: (2000003, 0) :: rs, ges, ee) j [p, a, b, g, k, m, x]).getD i 0) e = 0) (hg : ∀ e ∈ zx_vrng, 0 ≤ zl_ev (fun i => (zx_vv w w' (r, [], 7, (2000002, 0) :: (2000003, 0) :: rs, ges, ee) j [p, a, b, g, k, m, x]).getD i 0) e) : (p = g + 1048576 * k + 1099511627776 * m ∧ a = g + 1048576 * x ∧ b = k + 1048576 * x) ∧ (0 ≤ g ∧ g < 1048575 ∧ 0 ≤ k ∧ k < 1048575 ∧ 0 ≤ p) ∧ zk_el w' r j = x ∧ (g + (zh_cn (zh_f w 286) g.toNat (zh_f w 287) k.toNat : Int) ≤ m) ∧ (k + (zh_cn (zh_f w 287) k.toNat (zh_f w 286) g.toNat : Int) ≤ m) := by
  have e0 := he _ (List.mem_append_left _ List.mem_cons_self)
  have e1 := he _ (List.mem_append_left _ (List.mem_cons_of_mem _ List.mem_cons_self))
  have e2 := he _ (List.mem_append_left _ (List.mem_cons_of_mem _ (List.mem_cons_of_mem _ List.mem_cons_self)))
  have e3 := he _ (List.mem_append_left _ (List.mem_cons_of_mem _ (List.mem_cons_of_mem _ (List.mem_cons_of_mem _ List.mem_cons_self))))
  have e4 := he _ (List.mem_append_left _ (List.mem_cons_of_mem _ (List.mem_cons_of_mem _ (List.mem_cons_of_mem _ (List.mem_cons_of_mem _ List.mem_cons_self)))))
  have e5 := he _ (List.mem_append_left _ (List.mem_cons_of_mem _ (List.mem_cons_of_mem _ (List.mem_cons_of_mem _ (List.mem_cons_of_mem _ (List.mem_cons_of_mem _ List.mem_cons_self))))))
  rw [zl_sub_ev, zl_add_ev, zl_add_ev, zl_mul_ev, zl_mul_ev, zl_sym_ev, zl_sym_ev, zl_sym_ev, zl_sym_ev] at e0
  rw [zl_sub_ev, zl_add_ev, zl_mul_ev, zl_sym_ev, zl_sym_ev, zl_sym_ev] at e1 e2
  rw [zl_sub_ev, zl_sym_ev, zl_sym_ev] at e3
  rw [zl_sub_ev, zl_con_ev, zl_sym_ev] at e4 e5
  have e0 : p - (g + 1048576 * k + 1099511627776 * m) = 0 := e0
  have e1 : a - (g + 1048576 * x) = 0 := e1
  have e2 : b - (k + 1048576 * x) = 0 := e2
  have e3 : zk_el w' r j - x = 0 := e3
  have e4 : zk_xe w 2000002 p - 1 = 0 := e4
  have e5 : zk_xe w 2000003 p - 1 = 0 := e5
  have g0 := hg _ List.mem_cons_self
  have g1 := hg _ (List.mem_cons_of_mem _ List.mem_cons_self)
  have g2 := hg _ (List.mem_cons_of_mem _ (List.mem_cons_of_mem _ List.mem_cons_self))
  have g3 := hg _ (List.mem_cons_of_mem _ (List.mem_cons_of_mem _ (List.mem_cons_of_mem _ List.mem_cons_self)))
  have g4 := hg _ (List.mem_cons_of_mem _ (List.mem_cons_of_mem _ (List.mem_cons_of_mem _ (List.mem_cons_of_mem _ List.mem_cons_self))))
  rw [zl_sym_ev] at g0 g2 g4
  rw [zl_sub_ev, zl_con_ev, zl_sym_ev] at g1 g3
  have g0 : 0 ≤ g := g0
  have g1 : 0 ≤ 1048574 - g := g1
  have g2 : 0 ≤ k := g2
  have g3 : 0 ≤ 1048574 - k := g3
  have g4 : 0 ≤ p := g4
  rw [zh_H2 (g := g) (k := k) (m := m) (by omega) g0 (by omega) g2 (by omega)] at e4
  rw [zh_H3 (g := g) (k := k) (m := m) (by omega) g0 (by omega) g2 (by omega)] at e5
  exact ⟨⟨by omega, by omega, by omega⟩, ⟨by omega, by omega, by omega, by omega, g4⟩, by omega, zh_b1' (Int.sub_eq_zero.mp e4), zh_b1' (Int.sub_eq_zero.mp e5)⟩
/-- two known things behind -/
theorem zx_ee {s : Nat → Int} {w : zz_W} {e : zl_E} {q : Int} (hq : zl_ev s e = q) (h0 : 0 ≤ q) (h2 : zk_xe w 2000002 q = 1) (h3 : zk_xe w 2000003 q = 1) : zk_eF s [(2000002, e, zl_con 1), (2000003, e, zl_con 1)] w := by
  refine zx_eF1 ?_ ?_ (zx_eF1 ?_ ?_ zx_eF0)
  · show 0 ≤ zl_ev s e
    rw [hq]
    exact h0
  · show zk_xe w 2000002 (zl_ev s e) = zl_ev s (zl_con 1)
    rw [hq, zl_con_ev]
    exact h2
  · show 0 ≤ zl_ev s e
    rw [hq]
    exact h0
  · show zk_xe w 2000003 (zl_ev s e) = zl_ev s (zl_con 1)
    rw [hq, zl_con_ev]
    exact h3
/-- x stands among the kinds: one more global -/
def zx_V0 : zx_V := zx_Vc 286 [] 7 [(2000002, 0), (2000003, 0), (2000000, 1), (2000001, 2)] (zx_vcod ++ [zl_sub (zl_sym 0) (zl_sym 5), zl_sym 11, zl_sub (zl_sym 12) (zl_con 1)]) zx_vrng [(2000002, zl_add (zl_sym 2) (zl_con 1), zl_con 1), (2000003, zl_add (zl_sym 2) (zl_con 1), zl_con 1)]
theorem zx_V0_ok {PT : Nat → zz_W → Prop} : zx_Vok 64 zHT PT zx_V0 := by
  refine zx_Vc_ok (fun w w' j ins _ _ h0 hw _ hl he hg => ?_)
  obtain ⟨p, a, b, g, k, m, x, rfl⟩ := zx_i7 hl
  obtain ⟨⟨p1, p2, p3⟩, ⟨r1, r2, r3, r4, r5⟩, hx, i2, i3⟩ := zx_vcod_ok he hg
  have ep := he _ (List.mem_append_right _ List.mem_cons_self)
  rw [zl_sub_ev, zl_sym_ev, zl_sym_ev] at ep
  have ep : j - g = 0 := ep
  have ej : j = g := by omega
  subst ej
  have eh := he _ (List.mem_append_right _ (List.mem_cons_of_mem _ List.mem_cons_self))
  have ek := he _ (List.mem_append_right _ (List.mem_cons_of_mem _ (List.mem_cons_of_mem _ List.mem_cons_self)))
  rw [zl_sym_ev] at eh
  rw [zl_sub_ev, zl_con_ev, zl_sym_ev] at ek
  have eh : zk_xe w 2000000 a = 0 := eh
  have ek : zk_xe w 2000001 b - 1 = 0 := ek
  rw [zh_H0 p2 r1 (by omega)] at eh
  rw [zh_H1 p3 r3 (by omega)] at ek
  have n0 := zh_b0' eh
  have n1 := zh_b1' (Int.sub_eq_zero.mp ek)
  have hf : ∀ i, i < j.toNat → zh_f w' 286 i = zh_f w 286 i := fun i hi => zh_wf hw i (by omega)
  have hk := zh_wg hw (show 287 ≠ 286 by decide)
  have hfx : zh_f w' 286 j.toNat = x := by
    unfold zh_f
    rw [show ((j.toNat : Nat) : Int) = j by omega]
    exact hx
  have c2 := zh_cn_less (f := zh_f w 286) (f' := zh_f w' 286) (a := j.toNat) (a' := j.toNat + 1) (g := zh_f w 287) (g' := zh_f w 287) (n := k.toNat) (fun _ _ => rfl) (fun y hy => zh_in_s.mpr (Or.inl ((zh_in_eq hf).mpr hy))) n0 (zh_in_s.mpr (Or.inr hfx)) n1
  have c3 := zh_cn_mono (f := zh_f w 287) (f' := zh_f w 287) (a := k.toNat) (a' := k.toNat) (g := zh_f w 286) (g' := zh_f w' 286) (n := j.toNat) hf (fun _ h => h)
  have c4 := zh_cn_p (f := zh_f w 287) (a := k.toNat) (g := zh_f w' 286) (n := j.toNat) (by rw [hfx]; exact n1)
  refine zx_ee (q := p + 1) ?_ (by omega) ?_ ?_
  · rw [zl_add_ev, zl_sym_ev, zl_con_ev]
    rfl
  · rw [zh_H2 (g := j + 1) (k := k) (m := m) (by omega) (by omega) (by omega) r3 (by omega), hk, show (j + 1).toNat = j.toNat + 1 by omega]
    exact zh_b1 (by omega)
  · rw [zh_H3 (g := j + 1) (k := k) (m := m) (by omega) (by omega) (by omega) r3 (by omega), hk, show (j + 1).toNat = j.toNat + 1 by omega]
    exact zh_b1 (by omega)
/-- one more global, one more mark -/
def zx_V1 : zx_V := zx_Vc 286 [] 7 [(2000002, 0), (2000003, 0)] (zx_vcod ++ [zl_sub (zl_sym 0) (zl_sym 5)]) zx_vrng [(2000002, zl_add (zl_sym 2) (zl_con 1099511627777), zl_con 1), (2000003, zl_add (zl_sym 2) (zl_con 1099511627777), zl_con 1)]
theorem zx_V1_ok {PT : Nat → zz_W → Prop} : zx_Vok 64 zHT PT zx_V1 := by
  refine zx_Vc_ok (fun w w' j ins _ _ h0 hw _ hl he hg => ?_)
  obtain ⟨p, a, b, g, k, m, x, rfl⟩ := zx_i7 hl
  obtain ⟨⟨p1, p2, p3⟩, ⟨r1, r2, r3, r4, r5⟩, hx, i2, i3⟩ := zx_vcod_ok he hg
  have ep := he _ (List.mem_append_right _ List.mem_cons_self)
  rw [zl_sub_ev, zl_sym_ev, zl_sym_ev] at ep
  have ep : j - g = 0 := ep
  have ej : j = g := by omega
  subst ej
  have hf : ∀ i, i < j.toNat → zh_f w' 286 i = zh_f w 286 i := fun i hi => zh_wf hw i (by omega)
  have hk := zh_wg hw (show 287 ≠ 286 by decide)
  have c2 := zh_cn_mono (f := zh_f w 286) (f' := zh_f w' 286) (a := j.toNat) (a' := j.toNat + 1) (g := zh_f w 287) (g' := zh_f w 287) (n := k.toNat) (fun _ _ => rfl) (fun y hy => zh_in_s.mpr (Or.inl ((zh_in_eq hf).mpr hy)))
  have c3 := zh_cn_mono (f := zh_f w 287) (f' := zh_f w 287) (a := k.toNat) (a' := k.toNat) (g := zh_f w 286) (g' := zh_f w' 286) (n := j.toNat) hf (fun _ h => h)
  have c4 := zh_cn_le (f := zh_f w 287) (a := k.toNat) (g := zh_f w' 286) (n := j.toNat)
  refine zx_ee (q := p + 1099511627777) ?_ (by omega) ?_ ?_
  · rw [zl_add_ev, zl_sym_ev, zl_con_ev]
    rfl
  · rw [zh_H2 (g := j + 1) (k := k) (m := m + 1) (by omega) (by omega) (by omega) r3 (by omega), hk, show (j + 1).toNat = j.toNat + 1 by omega]
    exact zh_b1 (by omega)
  · rw [zh_H3 (g := j + 1) (k := k) (m := m + 1) (by omega) (by omega) (by omega) r3 (by omega), hk, show (j + 1).toNat = j.toNat + 1 by omega]
    exact zh_b1 (by omega)
/-- x stands among the globals: one more kind -/
def zx_V2 : zx_V := zx_Vc 287 [] 7 [(2000002, 0), (2000003, 0), (2000000, 1), (2000001, 2)] (zx_vcod ++ [zl_sub (zl_sym 0) (zl_sym 6), zl_sub (zl_sym 11) (zl_con 1), zl_sym 12]) zx_vrng [(2000002, zl_add (zl_sym 2) (zl_con 1048576), zl_con 1), (2000003, zl_add (zl_sym 2) (zl_con 1048576), zl_con 1)]
theorem zx_V2_ok {PT : Nat → zz_W → Prop} : zx_Vok 64 zHT PT zx_V2 := by
  refine zx_Vc_ok (fun w w' j ins _ _ h0 hw _ hl he hg => ?_)
  obtain ⟨p, a, b, g, k, m, x, rfl⟩ := zx_i7 hl
  obtain ⟨⟨p1, p2, p3⟩, ⟨r1, r2, r3, r4, r5⟩, hx, i2, i3⟩ := zx_vcod_ok he hg
  have ep := he _ (List.mem_append_right _ List.mem_cons_self)
  rw [zl_sub_ev, zl_sym_ev, zl_sym_ev] at ep
  have ep : j - k = 0 := ep
  have ej : j = k := by omega
  subst ej
  have eh := he _ (List.mem_append_right _ (List.mem_cons_of_mem _ List.mem_cons_self))
  have ek := he _ (List.mem_append_right _ (List.mem_cons_of_mem _ (List.mem_cons_of_mem _ List.mem_cons_self)))
  rw [zl_sym_ev] at ek
  rw [zl_sub_ev, zl_con_ev, zl_sym_ev] at eh
  have eh : zk_xe w 2000000 a - 1 = 0 := eh
  have ek : zk_xe w 2000001 b = 0 := ek
  rw [zh_H0 p2 r1 (by omega)] at eh
  rw [zh_H1 p3 r3 (by omega)] at ek
  have n0 := zh_b1' (Int.sub_eq_zero.mp eh)
  have n1 := zh_b0' ek
  have hf : ∀ i, i < j.toNat → zh_f w' 287 i = zh_f w 287 i := fun i hi => zh_wf hw i (by omega)
  have hk := zh_wg hw (show 286 ≠ 287 by decide)
  have hfx : zh_f w' 287 j.toNat = x := by
    unfold zh_f
    rw [show ((j.toNat : Nat) : Int) = j by omega]
    exact hx
  have c2 := zh_cn_less (f := zh_f w 287) (f' := zh_f w' 287) (a := j.toNat) (a' := j.toNat + 1) (g := zh_f w 286) (g' := zh_f w 286) (n := g.toNat) (fun _ _ => rfl) (fun y hy => zh_in_s.mpr (Or.inl ((zh_in_eq hf).mpr hy))) n1 (zh_in_s.mpr (Or.inr hfx)) n0
  have c3 := zh_cn_mono (f := zh_f w 286) (f' := zh_f w 286) (a := g.toNat) (a' := g.toNat) (g := zh_f w 287) (g' := zh_f w' 287) (n := j.toNat) hf (fun _ h => h)
  have c4 := zh_cn_p (f := zh_f w 286) (a := g.toNat) (g := zh_f w' 287) (n := j.toNat) (by rw [hfx]; exact n0)
  refine zx_ee (q := p + 1048576) ?_ (by omega) ?_ ?_
  · rw [zl_add_ev, zl_sym_ev, zl_con_ev]
    rfl
  · rw [zh_H2 (g := g) (k := j + 1) (m := m) (by omega) r1 (by omega) (by omega) (by omega), hk, show (j + 1).toNat = j.toNat + 1 by omega]
    exact zh_b1 (by omega)
  · rw [zh_H3 (g := g) (k := j + 1) (m := m) (by omega) r1 (by omega) (by omega) (by omega), hk, show (j + 1).toNat = j.toNat + 1 by omega]
    exact zh_b1 (by omega)
/-- one more kind, one more mark -/
def zx_V3 : zx_V := zx_Vc 287 [] 7 [(2000002, 0), (2000003, 0)] (zx_vcod ++ [zl_sub (zl_sym 0) (zl_sym 6)]) zx_vrng [(2000002, zl_add (zl_sym 2) (zl_con 1099512676352), zl_con 1), (2000003, zl_add (zl_sym 2) (zl_con 1099512676352), zl_con 1)]
theorem zx_V3_ok {PT : Nat → zz_W → Prop} : zx_Vok 64 zHT PT zx_V3 := by
  refine zx_Vc_ok (fun w w' j ins _ _ h0 hw _ hl he hg => ?_)
  obtain ⟨p, a, b, g, k, m, x, rfl⟩ := zx_i7 hl
  obtain ⟨⟨p1, p2, p3⟩, ⟨r1, r2, r3, r4, r5⟩, hx, i2, i3⟩ := zx_vcod_ok he hg
  have ep := he _ (List.mem_append_right _ List.mem_cons_self)
  rw [zl_sub_ev, zl_sym_ev, zl_sym_ev] at ep
  have ep : j - k = 0 := ep
  have ej : j = k := by omega
  subst ej
  have hf : ∀ i, i < j.toNat → zh_f w' 287 i = zh_f w 287 i := fun i hi => zh_wf hw i (by omega)
  have hk := zh_wg hw (show 286 ≠ 287 by decide)
  have c2 := zh_cn_mono (f := zh_f w 287) (f' := zh_f w' 287) (a := j.toNat) (a' := j.toNat + 1) (g := zh_f w 286) (g' := zh_f w 286) (n := g.toNat) (fun _ _ => rfl) (fun y hy => zh_in_s.mpr (Or.inl ((zh_in_eq hf).mpr hy)))
  have c3 := zh_cn_mono (f := zh_f w 286) (f' := zh_f w 286) (a := g.toNat) (a' := g.toNat) (g := zh_f w 287) (g' := zh_f w' 287) (n := j.toNat) hf (fun _ h => h)
  have c4 := zh_cn_le (f := zh_f w 286) (a := g.toNat) (g := zh_f w' 287) (n := j.toNat)
  refine zx_ee (q := p + 1099512676352) ?_ (by omega) ?_ ?_
  · rw [zl_add_ev, zl_sym_ev, zl_con_ev]
    rfl
  · rw [zh_H2 (g := g) (k := j + 1) (m := m + 1) (by omega) r1 (by omega) (by omega) (by omega), hk, show (j + 1).toNat = j.toNat + 1 by omega]
    exact zh_b1 (by omega)
  · rw [zh_H3 (g := g) (k := j + 1) (m := m + 1) (by omega) r1 (by omega) (by omega) (by omega), hk, show (j + 1).toNat = j.toNat + 1 by omega]
    exact zh_b1 (by omega)
end
/-! LAWS of what may be moved into a delay slot -/
noncomputable section
def zh_Ok (w : zz_W) (i : Nat) : Prop := zk_el w 292 (i : Int) ≤ 0 ∨ (0 ≤ zk_el w 293 (i : Int) ∧ zk_el w 293 (i : Int) ≤ 16380)
theorem zh_H4 {w : zz_W} {j : Int} : zk_xe w 2000004 j = zh_b (∀ i : Nat, (i : Int) < j → (zh_f w 292 i ≤ 0 ∨ (0 ≤ zh_f w 293 i ∧ zh_f w 293 i ≤ 16380))) := by
  rw [show (2000004 : Nat) = 2000000 + 4 from rfl, zk_xe_h]
  rfl
theorem zn_hLM : (zk_h zHT 292).2.2.1 = 64 ∧ (zk_h zHT 293).2.2.1 = 64 ∧ (zk_h zHT 179).2.2.1 = 7 := by decide +kernel
theorem zx_P102 {w : zz_W} (h : zk_P2 zHT zP102 w) (i u : Nat) (hi : i < 64) (hu : u < 7) : zn_fd w 117 ≠ (u : Int) ∨ zk_el w 179 (u : Int) ≤ (i : Int) ∨ zk_el w 292 (i : Int) ≤ 0 ∨ (0 ≤ zk_el w 293 (i : Int) ∧ zk_el w 293 (i : Int) ≤ 16380) ∨ 1 ≤ zn_fd w 122 := by
  obtain ⟨d, d1, d2⟩ := h i u (fun r hr => by
    have hr : r ∈ [292, 293] := hr
    rcases List.mem_cons.mp hr with e | hr
    · rw [e, zn_hLM.1]
      exact hi
    · rw [List.mem_singleton.mp hr, zn_hLM.2.1]
      exact hi) (fun r hr => by
    have hr : r ∈ [179] := hr
    rw [List.mem_singleton.mp hr, zn_hLM.2.2]
    exact hu)
  rcases List.mem_cons.mp d1 with e | d1
  · subst e
    have t := d2 _ List.mem_cons_self
    rw [zl_sub_ev, zl_sub_ev, zl_sym_ev, zl_sym_ev, zl_con_ev] at t
    have t : 0 ≤ zn_fd w 117 - (u : Int) - 1 := t
    exact Or.inl (by omega)
  rcases List.mem_cons.mp d1 with e | d1
  · subst e
    have t := d2 _ List.mem_cons_self
    rw [zl_sub_ev, zl_sub_ev, zl_sym_ev, zl_sym_ev, zl_con_ev] at t
    have t : 0 ≤ (u : Int) - zn_fd w 117 - 1 := t
    exact Or.inl (by omega)
  rcases List.mem_cons.mp d1 with e | d1
  · subst e
    have t := d2 _ List.mem_cons_self
    rw [zl_sub_ev, zl_sym_ev, zl_sym_ev] at t
    have t : 0 ≤ (i : Int) - zk_el w 179 (u : Int) := t
    exact Or.inr (Or.inl (by omega))
  rcases List.mem_cons.mp d1 with e | d1
  · subst e
    have t := d2 _ List.mem_cons_self
    rw [zl_sub_ev, zl_sym_ev, zl_con_ev] at t
    have t : 0 ≤ 0 - zk_el w 292 (i : Int) := t
    exact Or.inr (Or.inr (Or.inl (by omega)))
  rcases List.mem_cons.mp d1 with e | d1
  · subst e
    have t := d2 _ List.mem_cons_self
    have t2 := d2 _ (List.mem_cons_of_mem _ List.mem_cons_self)
    rw [zl_sub_ev, zl_sym_ev, zl_con_ev] at t
    rw [zl_sym_ev] at t2
    have t : 0 ≤ 16380 - zk_el w 293 (i : Int) := t
    have t2 : 0 ≤ zk_el w 293 (i : Int) := t2
    exact Or.inr (Or.inr (Or.inr (Or.inl ⟨t2, by omega⟩)))
  · rw [List.mem_singleton.mp d1] at d2
    have t := d2 _ List.mem_cons_self
    rw [zl_sub_ev, zl_sym_ev, zl_con_ev] at t
    have t : 0 ≤ zn_fd w 122 - 1 := t
    exact Or.inr (Or.inr (Or.inr (Or.inr (by omega))))
theorem zx_P102' {w : zz_W} (h : ∀ i u : Nat, i < 64 → u < 7 → (zn_fd w 117 ≠ (u : Int) ∨ zk_el w 179 (u : Int) ≤ (i : Int) ∨ zk_el w 292 (i : Int) ≤ 0 ∨ (0 ≤ zk_el w 293 (i : Int) ∧ zk_el w 293 (i : Int) ≤ 16380))) : zk_P2 zHT zP102 w := by
  intro i u hi hu
  have hi : i < 64 := by
    have := hi 292 (show 292 ∈ [292, 293] from List.mem_cons_self)
    rw [zn_hLM.1] at this
    exact this
  have hu : u < 7 := by
    have := hu 179 (show 179 ∈ [179] from List.mem_cons_self)
    rw [zn_hLM.2.2] at this
    exact this
  have m0 : ∀ {d : List zl_E}, d ∈ zP102.2.2 → d ∈ zP102.2.2 := fun h => h
  rcases h i u hi hu with h | h | h | h
  · by_cases hlt : (u : Int) < zn_fd w 117
    · refine ⟨_, List.mem_cons_self, fun c hc => ?_⟩
      rw [List.mem_singleton.mp hc, zl_sub_ev, zl_sub_ev, zl_sym_ev, zl_sym_ev, zl_con_ev]
      show 0 ≤ zn_fd w 117 - (u : Int) - 1
      omega
    · refine ⟨_, List.mem_cons_of_mem _ List.mem_cons_self, fun c hc => ?_⟩
      rw [List.mem_singleton.mp hc, zl_sub_ev, zl_sub_ev, zl_sym_ev, zl_sym_ev, zl_con_ev]
      show 0 ≤ (u : Int) - zn_fd w 117 - 1
      omega
  · refine ⟨_, List.mem_cons_of_mem _ (List.mem_cons_of_mem _ List.mem_cons_self), fun c hc => ?_⟩
    rw [List.mem_singleton.mp hc, zl_sub_ev, zl_sym_ev, zl_sym_ev]
    show 0 ≤ (i : Int) - zk_el w 179 (u : Int)
    omega
  · refine ⟨_, List.mem_cons_of_mem _ (List.mem_cons_of_mem _ (List.mem_cons_of_mem _ List.mem_cons_self)), fun c hc => ?_⟩
    rw [List.mem_singleton.mp hc, zl_sub_ev, zl_sym_ev, zl_con_ev]
    show 0 ≤ 0 - zk_el w 292 (i : Int)
    omega
  · refine ⟨_, List.mem_cons_of_mem _ (List.mem_cons_of_mem _ (List.mem_cons_of_mem _ (List.mem_cons_of_mem _ List.mem_cons_self))), fun c hc => ?_⟩
    rcases List.mem_cons.mp hc with hc | hc
    · rw [hc, zl_sub_ev, zl_sym_ev, zl_con_ev]
      show 0 ≤ 16380 - zk_el w 293 (i : Int)
      omega
    · rw [List.mem_singleton.mp hc, zl_sym_ev]
      exact h.1
/-- from the token, where there is no fault: input the unit -/
def zx_A1 : zx_L := zx_Lc [102] 1 [(179, 0)] [(171, 117), (171, 122)] [zl_sub (zl_sym 0) (zl_sym 2)] [zl_sub (zl_con 0) (zl_sym 3), zl_sub (zl_con 64) (zl_sym 1), zl_sym 1, zl_sub (zl_con 6) (zl_sym 0)] [([], [], [(2000004, zl_sym 1, zl_con 1)], [])]
theorem zx_A1_ok {PT : Nat → zz_W → Prop} (hP : ∀ w, PT 102 w → zk_P2 zHT zP102 w) : zx_Lok 64 zHT PT zx_A1 := by
  refine zx_Lc_ok (fun w _ hK ins hl hr he hg => ?_)
  obtain ⟨u, rfl⟩ := zx_i1 hl
  have hu0 : 0 ≤ u := hr (179, 0) List.mem_cons_self
  have h1 := hP w (hK 102 List.mem_cons_self)
  have e0 := he _ List.mem_cons_self
  rw [zl_sub_ev, zl_sym_ev, zl_sym_ev] at e0
  have e0 : u - zn_fd w 117 = 0 := e0
  have g0 := hg _ List.mem_cons_self
  have g1 := hg _ (List.mem_cons_of_mem _ List.mem_cons_self)
  have g2 := hg _ (List.mem_cons_of_mem _ (List.mem_cons_of_mem _ List.mem_cons_self))
  have g3 := hg _ (List.mem_cons_of_mem _ (List.mem_cons_of_mem _ (List.mem_cons_of_mem _ List.mem_cons_self)))
  rw [zl_sub_ev, zl_con_ev, zl_sym_ev] at g0 g1 g3
  rw [zl_sym_ev] at g2
  have g0 : 0 ≤ 0 - zn_fd w 122 := g0
  have g1 : 0 ≤ 64 - zk_xe w 179 u := g1
  have g2 : 0 ≤ zk_xe w 179 u := g2
  have g3 : 0 ≤ 6 - u := g3
  have hx : zk_xe w 179 u = zk_el w 179 u := zk_xe_r (by decide)
  refine zx_one (l := zx_vl w ([], 1, [(179, 0)], [(171, 117), (171, 122)], []) [u]) _ List.mem_cons_self rfl zx_cs0 (zx_eF1 ?_ ?_ zx_eF0) zx_k0
  · show 0 ≤ zl_ev _ (zl_sym 1)
    rw [zl_sym_ev]
    exact g2
  · show zk_xe w 2000004 (zl_ev _ (zl_sym 1)) = zl_ev _ (zl_con 1)
    rw [zl_sym_ev, zl_con_ev]
    show zk_xe w 2000004 (zk_xe w 179 u) = 1
    rw [zh_H4]
    refine zh_b1 (fun i hi => ?_)
    rcases zx_P102 h1 i u.toNat (by omega) (by omega) with h | h | h | h | h
    · exact absurd (by omega) h
    · rw [show ((u.toNat : Nat) : Int) = u by omega] at h
      omega
    · exact Or.inl h
    · exact Or.inr h
    · omega
/-- and back: inputs the unit, how many sections -/
def zx_A2 : zx_L := zx_Lc [] 2 [(179, 0), (2000004, 1)] [(171, 117), (171, 122)] [zl_sub (zl_sym 0) (zl_sym 4), zl_sub (zl_sym 2) (zl_sym 1), zl_sub (zl_sym 3) (zl_con 1)] [] [([], [], [], [102])]
theorem zx_A2_ok {PT : Nat → zz_W → Prop} (hP : ∀ w, zk_P2 zHT zP102 w → PT 102 w) : zx_Lok 64 zHT PT zx_A2 := by
  refine zx_Lc_ok (fun w _ hK ins hl hr he hg => ?_)
  obtain ⟨u, n, rfl⟩ := zx_i2 hl
  have hu0 : 0 ≤ u := hr (179, 0) List.mem_cons_self
  have e0 := he _ List.mem_cons_self
  have e1 := he _ (List.mem_cons_of_mem _ List.mem_cons_self)
  have e2 := he _ (List.mem_cons_of_mem _ (List.mem_cons_of_mem _ List.mem_cons_self))
  rw [zl_sub_ev, zl_sym_ev, zl_sym_ev] at e0 e1
  rw [zl_sub_ev, zl_sym_ev, zl_con_ev] at e2
  have e0 : u - zn_fd w 117 = 0 := e0
  have e1 : zk_xe w 179 u - n = 0 := e1
  have e2 : zk_xe w 2000004 n - 1 = 0 := e2
  rw [zh_H4] at e2
  have h2 := zh_b1' (Int.sub_eq_zero.mp e2)
  have hx : zk_xe w 179 u = zk_el w 179 u := zk_xe_r (by decide)
  refine zx_one (l := zx_vl w ([], 2, [(179, 0), (2000004, 1)], [(171, 117), (171, 122)], []) [u, n]) _ List.mem_cons_self rfl zx_cs0 zx_eF0 (fun t ht => ?_)
  rw [List.mem_singleton.mp ht]
  refine hP w (zx_P102' (fun i v hi hv => ?_))
  by_cases hv2 : zn_fd w 117 = (v : Int)
  · have hvu : u = (v : Int) := by omega
    subst hvu
    by_cases hi2 : (i : Int) < n
    · rcases h2 i hi2 with h | h
      · exact Or.inr (Or.inr (Or.inl h))
      · exact Or.inr (Or.inr (Or.inr h))
    · exact Or.inr (Or.inl (by omega))
  · exact Or.inl hv2
/-- one more section: nothing of it may be moved yet; input how many there are -/
def zx_V4 : zx_V := zx_Vc 292 [] 1 [(2000004, 0)] [zl_sub (zl_sym 0) (zl_sym 2), zl_sub (zl_sym 3) (zl_con 1)] [zl_sub (zl_con 0) (zl_sym 1), zl_sym 2] [(2000004, zl_add (zl_sym 2) (zl_con 1), zl_con 1)]
theorem zx_V4_ok {PT : Nat → zz_W → Prop} : zx_Vok 64 zHT PT zx_V4 := by
  refine zx_Vc_ok (fun w w' j ins _ _ h0 hw _ hl he hg => ?_)
  obtain ⟨n, rfl⟩ := zx_i1 hl
  have e0 := he _ List.mem_cons_self
  have e1 := he _ (List.mem_cons_of_mem _ List.mem_cons_self)
  rw [zl_sub_ev, zl_sym_ev, zl_sym_ev] at e0
  rw [zl_sub_ev, zl_sym_ev, zl_con_ev] at e1
  have e0 : j - n = 0 := e0
  have e1 : zk_xe w 2000004 n - 1 = 0 := e1
  have g0 := hg _ List.mem_cons_self
  have g1 := hg _ (List.mem_cons_of_mem _ List.mem_cons_self)
  rw [zl_sub_ev, zl_con_ev, zl_sym_ev] at g0
  rw [zl_sym_ev] at g1
  have g0 : 0 ≤ 0 - zk_el w' 292 j := g0
  have g1 : 0 ≤ n := g1
  rw [zh_H4] at e1
  have h2 := zh_b1' (Int.sub_eq_zero.mp e1)
  have hLA := zh_wg hw (show 293 ≠ 292 by decide)
  refine zx_eF1 ?_ ?_ zx_eF0
  · show 0 ≤ zl_ev _ (zl_add (zl_sym 2) (zl_con 1))
    rw [zl_add_ev, zl_sym_ev, zl_con_ev]
    show 0 ≤ n + 1
    omega
  · show zk_xe w' 2000004 (zl_ev _ (zl_add (zl_sym 2) (zl_con 1))) = zl_ev _ (zl_con 1)
    rw [zl_add_ev, zl_sym_ev, zl_con_ev]
    show zk_xe w' 2000004 (n + 1) = 1
    rw [zh_H4]
    refine zh_b1 (fun i hi => ?_)
    by_cases hin : (i : Int) = j
    · left
      show zk_el w' 292 (i : Int) ≤ 0
      rw [hin]
      omega
    · rw [hLA, zh_wf hw i hin]
      exact h2 i (by omega)
end
/-! LAWS of how many sections are reached -/
noncomputable section
theorem zh_H5 {w : zz_W} {j : Int} : zk_xe w 2000005 j = (zh_nz (zh_f w 186) 448 : Int) := by
  rw [show (2000005 : Nat) = 2000000 + 5 from rfl, zk_xe_h]
  rfl
theorem zh_nz_le {f : Nat → Int} : ∀ n : Nat, zh_nz f n ≤ n
  | 0 => Nat.le_refl _
  | n + 1 => by
    have ih := zh_nz_le (f := f) n
    show zh_nz f n + (if f n = 0 then 0 else 1) ≤ n + 1
    split <;> omega
theorem zh_nz_eq {f g : Nat → Int} : ∀ {n : Nat}, (∀ i, i < n → g i = f i) → zh_nz g n = zh_nz f n
  | 0, _ => rfl
  | n + 1, h => by
    show zh_nz g n + (if g n = 0 then 0 else 1) = zh_nz f n + (if f n = 0 then 0 else 1)
    rw [zh_nz_eq (fun i hi => h i (by omega)), h n (by omega)]
theorem zh_nz_set {f g : Nat → Int} {k : Nat} (h : ∀ i, i ≠ k → g i = f i) (h0 : f k = 0) (h1 : g k ≠ 0) : ∀ {n : Nat}, k < n → zh_nz g n = zh_nz f n + 1
  | 0, hk => absurd hk (Nat.not_lt_zero k)
  | n + 1, hk => by
    show zh_nz g n + (if g n = 0 then 0 else 1) = zh_nz f n + (if f n = 0 then 0 else 1) + 1
    by_cases hn : n = k
    · subst hn
      rw [zh_nz_eq (fun i hi => h i (by omega)), if_neg h1, if_pos h0]
    · rw [zh_nz_set h h0 h1 (by omega), h n hn]
      omega
def zx_N1 : zx_L := ([], 0, [], [], [([(0, 448)], [], [(2000005, zl_con 0, zl_sym 0)], [])])
theorem zx_N1_ok {PT : Nat → zz_W → Prop} : zx_Lok 64 zHT PT zx_N1 := by
  intro w _ _ ins hins _
  have hi : ins = [] := List.length_eq_zero_iff.mp hins
  subst hi
  have hle := zh_nz_le (f := zh_f w 186) 448
  refine ⟨_, List.mem_cons_self, [(zh_nz (zh_f w 186) 448 : Int)], rfl, fun k q hq => ?_, fun c hc => absurd hc List.not_mem_nil, fun x hx => ?_, fun t ht => absurd ht List.not_mem_nil⟩
  · match k, hq with
    | 0, hq =>
      cases hq
      show (0 : Int) ≤ (zh_nz (zh_f w 186) 448 : Int) ∧ (zh_nz (zh_f w 186) 448 : Int) ≤ 448
      omega
    | k + 1, hq => cases hq
  · rw [List.mem_singleton.mp hx]
    show 0 ≤ zl_ev _ (zl_con 0) ∧ zk_xe w 2000005 (zl_ev _ (zl_con 0)) = zl_ev _ (zl_sym 0)
    rw [zl_con_ev, zl_sym_ev, zh_H5]
    exact ⟨Int.le_refl _, rfl⟩
def zx_N2 : zx_L := zx_Lc [] 1 [(2000005, 0)] [] [] [] [([], [zl_sub (zl_con 448) (zl_sym 1)], [], [])]
theorem zx_N2_ok {PT : Nat → zz_W → Prop} : zx_Lok 64 zHT PT zx_N2 := by
  refine zx_Lc_ok (fun w _ _ ins hl _ he hg => ?_)
  obtain ⟨a, rfl⟩ := zx_i1 hl
  have hle := zh_nz_le (f := zh_f w 186) 448
  refine zx_one (l := [a] ++ ([zk_xe w 2000005 a] ++ ([] : List Int))) _ List.mem_cons_self rfl (fun c hc => ?_) zx_eF0 zx_k0
  rw [List.mem_singleton.mp hc, zl_sub_ev, zl_con_ev, zl_sym_ev]
  show 0 ≤ 448 - zk_xe w 2000005 a
  rw [zh_H5]
  omega
/-- one more is reached: inputs its place, 0 -/
def zx_V5 : zx_V := zx_Vc 186 [] 2 [(186, 0), (2000005, 1)] [zl_sub (zl_sym 0) (zl_sym 2), zl_sym 3, zl_sym 4, zl_sub (zl_sym 1) (zl_con 1)] [zl_sub (zl_con 447) (zl_sym 0)] [(2000005, zl_sym 3, zl_add (zl_sym 5) (zl_con 1))]
theorem zx_V5_ok {PT : Nat → zz_W → Prop} : zx_Vok 64 zHT PT zx_V5 := by
  refine zx_Vc_ok (fun w w' j ins _ _ h0 hw _ hl he hg => ?_)
  obtain ⟨a, b, rfl⟩ := zx_i2 hl
  have e0 := he _ List.mem_cons_self
  have e1 := he _ (List.mem_cons_of_mem _ List.mem_cons_self)
  have e2 := he _ (List.mem_cons_of_mem _ (List.mem_cons_of_mem _ List.mem_cons_self))
  have e3 := he _ (List.mem_cons_of_mem _ (List.mem_cons_of_mem _ (List.mem_cons_of_mem _ List.mem_cons_self)))
  rw [zl_sub_ev, zl_sym_ev, zl_sym_ev] at e0
  rw [zl_sym_ev] at e1 e2
  rw [zl_sub_ev, zl_sym_ev, zl_con_ev] at e3
  have e0 : j - a = 0 := e0
  have e1 : b = 0 := e1
  have e2 : zk_xe w 186 a = 0 := e2
  have e3 : zk_el w' 186 j - 1 = 0 := e3
  have g0 := hg _ List.mem_cons_self
  rw [zl_sub_ev, zl_con_ev, zl_sym_ev] at g0
  have g0 : 0 ≤ 447 - j := g0
  have f2 : zk_el w 186 a = 0 := (zk_xe_r (w := w) (i := 186) (j := a) (by decide)).symm.trans e2
  have f3 : zk_el w' 186 j = 1 := by omega
  have ea : a = j := by omega
  subst ea
  have hc := zh_nz_set (f := zh_f w 186) (g := zh_f w' 186) (k := a.toNat) (fun i hi => zh_wf hw i (by omega)) (by
    show zk_el w 186 ((a.toNat : Nat) : Int) = 0
    rw [show ((a.toNat : Nat) : Int) = a by omega]
    exact f2) (by
    show zk_el w' 186 ((a.toNat : Nat) : Int) ≠ 0
    rw [show ((a.toNat : Nat) : Int) = a by omega]
    rw [f3]
    decide) (n := 448) (by omega)
  refine zx_eF1 ?_ ?_ zx_eF0
  · show 0 ≤ zl_ev _ (zl_sym 3)
    rw [zl_sym_ev]
    show 0 ≤ b
    omega
  · show zk_xe w' 2000005 (zl_ev _ (zl_sym 3)) = zl_ev _ (zl_add (zl_sym 5) (zl_con 1))
    rw [zl_add_ev, zl_sym_ev, zl_sym_ev, zl_con_ev, zh_H5, hc]
    show ((zh_nz (zh_f w 186) 448 + 1 : Nat) : Int) = zk_xe w 2000005 b + 1
    rw [zh_H5]
    rfl
end
/-! LAWS of macros' parameters: newParam and macroParam hold names (token 204: those of all macros) -/
noncomputable section
/-- all of the first k are below n -/
def zh_al (f : Nat → Int) (k : Nat) (n : Int) : Prop := ∀ i, i < k → f i < n
theorem zh_al_s {f g : Nat → Int} {k : Nat} {n : Int} (h : zh_al f k n) (hf : ∀ i, i < k → g i = f i) (hk : g k < n) : zh_al g (k + 1) n := fun i hi => by
  by_cases h1 : i = k
  · rw [h1]
    exact hk
  · rw [hf i (by omega)]
    exact h i (by omega)
theorem zh_H6 {w : zz_W} {j k n : Int} (h : j = k + 1048576 * n) (h0 : 0 ≤ k) (h1 : k < 1048576) : zk_xe w 2000006 j = zh_b (zh_al (zh_f w 311) (min k.toNat 4) n) := by
  obtain ⟨a, b⟩ := zh_d2 h h0 h1
  rw [show (2000006 : Nat) = 2000000 + 6 from rfl, zk_xe_h]
  show zh_b (∀ i, i < min (j % 1048576).toNat 4 → zh_f w 311 i < j / 1048576) = _
  rw [a, b]
  rfl
theorem zh_H7 {w : zz_W} {j k n : Int} (h : j = k + 1048576 * n) (h0 : 0 ≤ k) (h1 : k < 1048576) : zk_xe w 2000007 j = zh_b (zh_al (zh_f w 279) k.toNat n) := by
  obtain ⟨a, b⟩ := zh_d2 h h0 h1
  rw [show (2000007 : Nat) = 2000000 + 7 from rfl, zk_xe_h]
  show zh_b (∀ i, i < (j % 1048576).toNat → zh_f w 279 i < j / 1048576) = _
  rw [a, b]
  rfl
/-- newParam: none yet; input n -/
def zx_Q0 : zx_L := zx_Lc [] 1 [] [] [] [zl_sym 0] [([], [], [(2000006, zl_mul 1048576 (zl_sym 0), zl_con 1)], [])]
theorem zx_Q0_ok {PT : Nat → zz_W → Prop} : zx_Lok 64 zHT PT zx_Q0 := by
  refine zx_Lc_ok (fun w _ _ ins hl _ he hg => ?_)
  obtain ⟨n, rfl⟩ := zx_i1 hl
  have g1 := hg _ List.mem_cons_self
  rw [zl_sym_ev] at g1
  have g1 : 0 ≤ n := g1
  refine zx_one (l := [n] ++ (([] : List Int) ++ ([] : List Int))) _ List.mem_cons_self rfl zx_cs0 (zx_eF1 ?_ ?_ zx_eF0) zx_k0
  · show 0 ≤ zl_ev _ (zl_mul 1048576 (zl_sym 0))
    rw [zl_mul_ev, zl_sym_ev]
    show 0 ≤ 1048576 * n
    omega
  · show zk_xe w 2000006 (zl_ev _ (zl_mul 1048576 (zl_sym 0))) = zl_ev _ (zl_con 1)
    rw [zl_mul_ev, zl_sym_ev, zl_con_ev]
    show zk_xe w 2000006 (1048576 * n) = 1
    rw [zh_H6 (k := 0) (n := n) (by omega) (by omega) (by omega)]
    exact zh_b1 (fun i hi => by
      have : (0 : Int).toNat = 0 := rfl
      omega)
/-- the place p is k, n: inputs p, k, n, and one more; the function's value is the next number (symbol 4) -/
def zx_qeq : List zl_E := [zl_sub (zl_sym 0) (zl_add (zl_sym 1) (zl_mul 1048576 (zl_sym 2))), zl_sub (zl_sym 4) (zl_con 1)]
def zx_qge : List zl_E := [zl_sym 1, zl_sub (zl_con 1048574) (zl_sym 1), zl_sym 2]
theorem zx_q_ok {w : zz_W} {tk : List Nat} {R : Nat} {rs fs : List (Nat × Nat)} {ca : List zx_Ca} {p k n x : Int} {l m : List zl_E} (he : ∀ e ∈ zx_qeq ++ l, zl_ev (fun i => (zx_vl w (tk, 4, (R, 0) :: rs, fs, ca) [p, k, n, x]).getD i 0) e = 0) (hg : ∀ e ∈ zx_qge ++ m, 0 ≤ zl_ev (fun i => (zx_vl w (tk, 4, (R, 0) :: rs, fs, ca) [p, k, n, x]).getD i 0) e) : p = k + 1048576 * n ∧ zk_xe w R p = 1 ∧ 0 ≤ k ∧ k < 1048575 ∧ 0 ≤ n := by
  have e0 := he _ (List.mem_append_left _ List.mem_cons_self)
  have e1 := he _ (List.mem_append_left _ (List.mem_cons_of_mem _ List.mem_cons_self))
  rw [zl_sub_ev, zl_add_ev, zl_mul_ev, zl_sym_ev, zl_sym_ev, zl_sym_ev] at e0
  rw [zl_sub_ev, zl_con_ev, zl_sym_ev] at e1
  have e0 : p - (k + 1048576 * n) = 0 := e0
  have e1 : zk_xe w R p - 1 = 0 := e1
  have g0 := hg _ (List.mem_append_left _ List.mem_cons_self)
  have g1 := hg _ (List.mem_append_left _ (List.mem_cons_of_mem _ List.mem_cons_self))
  have g2 := hg _ (List.mem_append_left _ (List.mem_cons_of_mem _ (List.mem_cons_of_mem _ List.mem_cons_self)))
  rw [zl_sym_ev] at g0 g2
  rw [zl_sub_ev, zl_con_ev, zl_sym_ev] at g1
  have g0 : 0 ≤ k := g0
  have g1 : 0 ≤ 1048574 - k := g1
  have g2 : 0 ≤ n := g2
  exact ⟨by omega, by omega, g0, by omega, g2⟩
/-- more names: input the new number -/
def zx_Q1 : zx_L := zx_Lc [] 4 [(2000006, 0)] [] (zx_qeq ++ []) (zx_qge ++ [zl_sub (zl_sym 3) (zl_sym 2)]) [([], [], [(2000006, zl_add (zl_sym 1) (zl_mul 1048576 (zl_sym 3)), zl_con 1)], [])]
theorem zx_Q1_ok {PT : Nat → zz_W → Prop} : zx_Lok 64 zHT PT zx_Q1 := by
  refine zx_Lc_ok (fun w _ _ ins hl _ he hg => ?_)
  obtain ⟨p, k, n, x, rfl⟩ := zx_i4 hl
  obtain ⟨p1, p2, p3, p4, p5⟩ := zx_q_ok he hg
  have g := hg _ (List.mem_append_right _ List.mem_cons_self)
  rw [zl_sub_ev, zl_sym_ev, zl_sym_ev] at g
  have g : 0 ≤ x - n := g
  rw [zh_H6 p1 p3 (by omega)] at p2
  have h := zh_b1' p2
  have hp : zl_ev (fun i => (zx_vl w ([], 4, [(2000006, 0)], [], []) [p, k, n, x]).getD i 0) (zl_add (zl_sym 1) (zl_mul 1048576 (zl_sym 3))) = k + 1048576 * x := by
    rw [zl_add_ev, zl_mul_ev, zl_sym_ev, zl_sym_ev]
    rfl
  refine zx_one (l := zx_vl w ([], 4, [(2000006, 0)], [], []) [p, k, n, x]) _ List.mem_cons_self rfl zx_cs0 (zx_eF1 ?_ ?_ zx_eF0) zx_k0
  · show 0 ≤ zl_ev _ (zl_add (zl_sym 1) (zl_mul 1048576 (zl_sym 3)))
    rw [hp]
    omega
  · show zk_xe w 2000006 (zl_ev _ (zl_add (zl_sym 1) (zl_mul 1048576 (zl_sym 3)))) = zl_ev _ (zl_con 1)
    rw [hp, zl_con_ev, zh_H6 rfl p3 (by omega)]
    exact zh_b1 (fun i hi => by
      have := h i hi
      omega)
/-- what a place of it holds: input the place -/
def zx_Q2 : zx_L := zx_Lc [] 4 [(2000006, 0), (311, 3)] [] (zx_qeq ++ []) (zx_qge ++ [zl_sub (zl_sub (zl_sym 1) (zl_con 1)) (zl_sym 3), zl_sub (zl_con 3) (zl_sym 3)]) [([], [zl_sub (zl_sub (zl_sym 2) (zl_con 1)) (zl_sym 5)], [], [])]
theorem zx_Q2_ok {PT : Nat → zz_W → Prop} : zx_Lok 64 zHT PT zx_Q2 := by
  refine zx_Lc_ok (fun w _ _ ins hl hr he hg => ?_)
  obtain ⟨p, k, n, x, rfl⟩ := zx_i4 hl
  obtain ⟨p1, p2, p3, p4, p5⟩ := zx_q_ok he hg
  have x0 : 0 ≤ x := hr (311, 3) (List.mem_cons_of_mem _ List.mem_cons_self)
  have g := hg _ (List.mem_append_right _ List.mem_cons_self)
  have g' := hg _ (List.mem_append_right _ (List.mem_cons_of_mem _ List.mem_cons_self))
  rw [zl_sub_ev, zl_sub_ev, zl_sym_ev, zl_sym_ev, zl_con_ev] at g
  rw [zl_sub_ev, zl_sym_ev, zl_con_ev] at g'
  have g : 0 ≤ k - 1 - x := g
  have g' : 0 ≤ 3 - x := g'
  rw [zh_H6 p1 p3 (by omega)] at p2
  have h : zh_f w 311 x.toNat < n := zh_b1' p2 x.toNat (by omega)
  have hx : zk_xe w 311 x = zh_f w 311 x.toNat := by
    rw [zk_xe_r (w := w) (i := 311) (j := x) (by decide)]
    unfold zh_f
    rw [show ((x.toNat : Nat) : Int) = x by omega]
  refine zx_one (l := zx_vl w ([], 4, [(2000006, 0), (311, 3)], [], []) [p, k, n, x]) _ List.mem_cons_self rfl (fun c hc => ?_) zx_eF0 zx_k0
  rw [List.mem_singleton.mp hc, zl_sub_ev, zl_sub_ev, zl_sym_ev, zl_sym_ev, zl_con_ev]
  show 0 ≤ n - 1 - zk_xe w 311 x
  omega
/-- beyond the fourth -/
def zx_Q3 : zx_L := zx_Lc [] 4 [(2000006, 0)] [] (zx_qeq ++ []) (zx_qge ++ [zl_sub (zl_sym 1) (zl_con 4)]) [([], [], [(2000006, zl_add (zl_sym 0) (zl_con 1), zl_con 1)], [])]
theorem zx_Q3_ok {PT : Nat → zz_W → Prop} : zx_Lok 64 zHT PT zx_Q3 := by
  refine zx_Lc_ok (fun w _ _ ins hl _ he hg => ?_)
  obtain ⟨p, k, n, x, rfl⟩ := zx_i4 hl
  obtain ⟨p1, p2, p3, p4, p5⟩ := zx_q_ok he hg
  have g := hg _ (List.mem_append_right _ List.mem_cons_self)
  rw [zl_sub_ev, zl_sym_ev, zl_con_ev] at g
  have g : 0 ≤ k - 4 := g
  rw [zh_H6 p1 p3 (by omega)] at p2
  have h := zh_b1' p2
  have hp : zl_ev (fun i => (zx_vl w ([], 4, [(2000006, 0)], [], []) [p, k, n, x]).getD i 0) (zl_add (zl_sym 0) (zl_con 1)) = p + 1 := by
    rw [zl_add_ev, zl_sym_ev, zl_con_ev]
    rfl
  refine zx_one (l := zx_vl w ([], 4, [(2000006, 0)], [], []) [p, k, n, x]) _ List.mem_cons_self rfl zx_cs0 (zx_eF1 ?_ ?_ zx_eF0) zx_k0
  · show 0 ≤ zl_ev _ (zl_add (zl_sym 0) (zl_con 1))
    rw [hp]
    omega
  · show zk_xe w 2000006 (zl_ev _ (zl_add (zl_sym 0) (zl_con 1))) = zl_ev _ (zl_con 1)
    rw [hp, zl_con_ev, zh_H6 (k := k + 1) (n := n) (by omega) (by omega) (by omega)]
    exact zh_b1 (fun i hi => h i (by omega))
/-- macroParam: what a place of it holds -/
def zx_Q4 : zx_L := zx_Lc [] 4 [(2000007, 0), (279, 3)] [] (zx_qeq ++ []) (zx_qge ++ [zl_sub (zl_sub (zl_sym 1) (zl_con 1)) (zl_sym 3)]) [([], [zl_sub (zl_sub (zl_sym 2) (zl_con 1)) (zl_sym 5)], [], [])]
theorem zx_Q4_ok {PT : Nat → zz_W → Prop} : zx_Lok 64 zHT PT zx_Q4 := by
  refine zx_Lc_ok (fun w _ _ ins hl hr he hg => ?_)
  obtain ⟨p, k, n, x, rfl⟩ := zx_i4 hl
  obtain ⟨p1, p2, p3, p4, p5⟩ := zx_q_ok he hg
  have x0 : 0 ≤ x := hr (279, 3) (List.mem_cons_of_mem _ List.mem_cons_self)
  have g := hg _ (List.mem_append_right _ List.mem_cons_self)
  rw [zl_sub_ev, zl_sub_ev, zl_sym_ev, zl_sym_ev, zl_con_ev] at g
  have g : 0 ≤ k - 1 - x := g
  rw [zh_H7 p1 p3 (by omega)] at p2
  have h : zh_f w 279 x.toNat < n := zh_b1' p2 x.toNat (by omega)
  have hx : zk_xe w 279 x = zh_f w 279 x.toNat := by
    rw [zk_xe_r (w := w) (i := 279) (j := x) (by decide)]
    unfold zh_f
    rw [show ((x.toNat : Nat) : Int) = x by omega]
  refine zx_one (l := zx_vl w ([], 4, [(2000007, 0), (279, 3)], [], []) [p, k, n, x]) _ List.mem_cons_self rfl (fun c hc => ?_) zx_eF0 zx_k0
  rw [List.mem_singleton.mp hc, zl_sub_ev, zl_sub_ev, zl_sym_ev, zl_sym_ev, zl_con_ev]
  show 0 ≤ n - 1 - zk_xe w 279 x
  omega
/-- the token: all parameters of all macros are names -/
def zh_T4 (w : zz_W) : Prop := zh_al (zh_f w 279) (4 * zn_fd w 144).toNat (zn_fd w 3)
def zx_Q5 : zx_L := zx_Lc [204] 0 [] [(171, 144), (171, 3)] [] [zl_sym 0, zl_sub (zl_con 12) (zl_sym 0), zl_sym 1] [([], [], [(2000007, zl_add (zl_mul 4 (zl_sym 0)) (zl_mul 1048576 (zl_sym 1)), zl_con 1)], [])]
theorem zx_Q5_ok {PT : Nat → zz_W → Prop} (hT : ∀ w, PT 204 w → zh_T4 w) : zx_Lok 64 zHT PT zx_Q5 := by
  refine zx_Lc_ok (fun w _ hK ins hl _ he hg => ?_)
  have hi : ins = [] := List.length_eq_zero_iff.mp hl
  subst hi
  have h1 := hT w (hK 204 List.mem_cons_self)
  have g0 := hg _ List.mem_cons_self
  have g1 := hg _ (List.mem_cons_of_mem _ List.mem_cons_self)
  have g2 := hg _ (List.mem_cons_of_mem _ (List.mem_cons_of_mem _ List.mem_cons_self))
  rw [zl_sym_ev] at g0 g2
  rw [zl_sub_ev, zl_con_ev, zl_sym_ev] at g1
  have g0 : 0 ≤ zn_fd w 144 := g0
  have g1 : 0 ≤ 12 - zn_fd w 144 := g1
  have g2 : 0 ≤ zn_fd w 3 := g2
  have hp : zl_ev (fun i => (zx_vl w ([204], 0, [], [(171, 144), (171, 3)], []) []).getD i 0) (zl_add (zl_mul 4 (zl_sym 0)) (zl_mul 1048576 (zl_sym 1))) = 4 * zn_fd w 144 + 1048576 * zn_fd w 3 := by
    rw [zl_add_ev, zl_mul_ev, zl_mul_ev, zl_sym_ev, zl_sym_ev]
    rfl
  refine zx_one (l := zx_vl w ([204], 0, [], [(171, 144), (171, 3)], []) []) _ List.mem_cons_self rfl zx_cs0 (zx_eF1 ?_ ?_ zx_eF0) zx_k0
  · show 0 ≤ zl_ev _ (zl_add (zl_mul 4 (zl_sym 0)) (zl_mul 1048576 (zl_sym 1)))
    rw [hp]
    omega
  · show zk_xe w 2000007 (zl_ev _ (zl_add (zl_mul 4 (zl_sym 0)) (zl_mul 1048576 (zl_sym 1)))) = zl_ev _ (zl_con 1)
    rw [hp, zl_con_ev, zh_H7 rfl (by omega) (by omega)]
    exact zh_b1 h1
/-- and back: input the place -/
def zx_Q6 : zx_L := zx_Lc [] 1 [(2000007, 0)] [(171, 144), (171, 3)] [zl_sub (zl_sym 0) (zl_add (zl_mul 4 (zl_sym 2)) (zl_mul 1048576 (zl_sym 3))), zl_sub (zl_sym 1) (zl_con 1)] [zl_sym 2, zl_sub (zl_con 12) (zl_sym 2)] [([], [], [], [204])]
theorem zx_Q6_ok {PT : Nat → zz_W → Prop} (hT : ∀ w, zh_T4 w → PT 204 w) : zx_Lok 64 zHT PT zx_Q6 := by
  refine zx_Lc_ok (fun w _ _ ins hl hr he hg => ?_)
  obtain ⟨p, rfl⟩ := zx_i1 hl
  have e0 := he _ List.mem_cons_self
  have e1 := he _ (List.mem_cons_of_mem _ List.mem_cons_self)
  rw [zl_sub_ev, zl_add_ev, zl_mul_ev, zl_mul_ev, zl_sym_ev, zl_sym_ev, zl_sym_ev] at e0
  rw [zl_sub_ev, zl_con_ev, zl_sym_ev] at e1
  have e0 : p - (4 * zn_fd w 144 + 1048576 * zn_fd w 3) = 0 := e0
  have e1 : zk_xe w 2000007 p - 1 = 0 := e1
  have g0 := hg _ List.mem_cons_self
  have g1 := hg _ (List.mem_cons_of_mem _ List.mem_cons_self)
  rw [zl_sym_ev] at g0
  rw [zl_sub_ev, zl_con_ev, zl_sym_ev] at g1
  have g0 : 0 ≤ zn_fd w 144 := g0
  have g1 : 0 ≤ 12 - zn_fd w 144 := g1
  refine zx_one (l := zx_vl w ([], 1, [(2000007, 0)], [(171, 144), (171, 3)], []) [p]) _ List.mem_cons_self rfl zx_cs0 zx_eF0 (fun t ht => ?_)
  rw [List.mem_singleton.mp ht]
  rw [zh_H7 (k := 4 * zn_fd w 144) (n := zn_fd w 3) (by omega) (by omega) (by omega)] at e1
  exact hT w (zh_b1' (Int.sub_eq_zero.mp e1))
/-- no macros yet -/
def zx_Q7 : zx_L := zx_Lc [] 0 [] [(171, 144), (171, 3)] [zl_sym 0] [] [([], [], [], [204])]
theorem zx_Q7_ok {PT : Nat → zz_W → Prop} (hT : ∀ w, zh_T4 w → PT 204 w) : zx_Lok 64 zHT PT zx_Q7 := by
  refine zx_Lc_ok (fun w _ _ ins hl hr he hg => ?_)
  have hi : ins = [] := List.length_eq_zero_iff.mp hl
  subst hi
  have e0 := he _ List.mem_cons_self
  rw [zl_sym_ev] at e0
  have e0 : zn_fd w 144 = 0 := e0
  refine zx_one (l := zx_vl w ([], 0, [], [(171, 144), (171, 3)], []) []) _ List.mem_cons_self rfl zx_cs0 zx_eF0 (fun t ht => ?_)
  rw [List.mem_singleton.mp ht]
  refine hT w (fun i hi => ?_)
  rw [e0] at hi
  have : (4 * (0 : Int)).toNat = 0 := rfl
  omega
/-- one more parameter of either: inputs p, k, n; symbols: place, value, p, k, n, the function's value -/
def zx_veq : List zl_E := [zl_sub (zl_sym 2) (zl_add (zl_sym 3) (zl_mul 1048576 (zl_sym 4))), zl_sub (zl_sym 5) (zl_con 1), zl_sub (zl_sym 0) (zl_sym 3)]
def zx_vge : List zl_E := [zl_sym 3, zl_sub (zl_con 1048574) (zl_sym 3), zl_sym 4, zl_sub (zl_sub (zl_sym 4) (zl_con 1)) (zl_sym 1)]
theorem zx_v_ok {w w' : zz_W} {r R : Nat} {ges : List zl_E} {ee : List zk_E1} {j p k n : Int} (he : ∀ e ∈ zx_veq, zl_ev (fun i => (zx_vv w w' (r, [], 3, [(R, 0)], ges, ee) j [p, k, n]).getD i 0) e = 0) (hg : ∀ e ∈ zx_vge, 0 ≤ zl_ev (fun i => (zx_vv w w' (r, [], 3, [(R, 0)], ges, ee) j [p, k, n]).getD i 0) e) : p = k + 1048576 * n ∧ zk_xe w R p = 1 ∧ j = k ∧ 0 ≤ k ∧ k < 1048575 ∧ 0 ≤ n ∧ zk_el w' r j < n := by
  have e0 := he _ List.mem_cons_self
  have e1 := he _ (List.mem_cons_of_mem _ List.mem_cons_self)
  have e2 := he _ (List.mem_cons_of_mem _ (List.mem_cons_of_mem _ List.mem_cons_self))
  rw [zl_sub_ev, zl_add_ev, zl_mul_ev, zl_sym_ev, zl_sym_ev, zl_sym_ev] at e0
  rw [zl_sub_ev, zl_con_ev, zl_sym_ev] at e1
  rw [zl_sub_ev, zl_sym_ev, zl_sym_ev] at e2
  have e0 : p - (k + 1048576 * n) = 0 := e0
  have e1 : zk_xe w R p - 1 = 0 := e1
  have e2 : j - k = 0 := e2
  have g0 := hg _ List.mem_cons_self
  have g1 := hg _ (List.mem_cons_of_mem _ List.mem_cons_self)
  have g2 := hg _ (List.mem_cons_of_mem _ (List.mem_cons_of_mem _ List.mem_cons_self))
  have g3 := hg _ (List.mem_cons_of_mem _ (List.mem_cons_of_mem _ (List.mem_cons_of_mem _ List.mem_cons_self)))
  rw [zl_sym_ev] at g0 g2
  rw [zl_sub_ev, zl_con_ev, zl_sym_ev] at g1
  rw [zl_sub_ev, zl_sub_ev, zl_sym_ev, zl_sym_ev, zl_con_ev] at g3
  have g0 : 0 ≤ k := g0
  have g1 : 0 ≤ 1048574 - k := g1
  have g2 : 0 ≤ n := g2
  have g3 : 0 ≤ n - 1 - zk_el w' r j := g3
  exact ⟨by omega, by omega, by omega, g0, by omega, g2, by omega⟩
theorem zx_e1 {s : Nat → Int} {w : zz_W} {R : Nat} {e : zl_E} {q : Int} (hq : zl_ev s e = q) (h0 : 0 ≤ q) (h2 : zk_xe w R q = 1) : zk_eF s [(R, e, zl_con 1)] w := by
  refine zx_eF1 ?_ ?_ zx_eF0
  · show 0 ≤ zl_ev s e
    rw [hq]
    exact h0
  · show zk_xe w R (zl_ev s e) = zl_ev s (zl_con 1)
    rw [hq, zl_con_ev]
    exact h2
def zx_V6 : zx_V := zx_Vc 311 [] 3 [(2000006, 0)] zx_veq zx_vge [(2000006, zl_add (zl_sym 2) (zl_con 1), zl_con 1)]
theorem zx_V6_ok {PT : Nat → zz_W → Prop} : zx_Vok 64 zHT PT zx_V6 := by
  refine zx_Vc_ok (fun w w' j ins _ _ h0 hw _ hl he hg => ?_)
  obtain ⟨p, k, n, rfl⟩ := zx_i3 hl
  obtain ⟨p1, p2, p3, p4, p5, p6, p7⟩ := zx_v_ok he hg
  subst p3
  rw [zh_H6 p1 p4 (by omega)] at p2
  have h := zh_b1' p2
  refine zx_e1 (q := p + 1) ?_ (by omega) ?_
  · rw [zl_add_ev, zl_sym_ev, zl_con_ev]
    rfl
  · rw [zh_H6 (k := j + 1) (n := n) (by omega) (by omega) (by omega)]
    refine zh_b1 (fun i hi => ?_)
    by_cases hij : (i : Int) = j
    · show zk_el w' 311 (i : Int) < n
      rw [hij]
      exact p7
    · rw [zh_wf hw i hij]
      exact h i (by omega)
def zx_V7 : zx_V := zx_Vc 279 [] 3 [(2000007, 0)] zx_veq zx_vge [(2000007, zl_add (zl_sym 2) (zl_con 1), zl_con 1)]
theorem zx_V7_ok {PT : Nat → zz_W → Prop} : zx_Vok 64 zHT PT zx_V7 := by
  refine zx_Vc_ok (fun w w' j ins _ _ h0 hw _ hl he hg => ?_)
  obtain ⟨p, k, n, rfl⟩ := zx_i3 hl
  obtain ⟨p1, p2, p3, p4, p5, p6, p7⟩ := zx_v_ok he hg
  subst p3
  rw [zh_H7 p1 p4 (by omega)] at p2
  have h := zh_b1' p2
  refine zx_e1 (q := p + 1) ?_ (by omega) ?_
  · rw [zl_add_ev, zl_sym_ev, zl_con_ev]
    rfl
  · rw [zh_H7 (k := j + 1) (n := n) (by omega) (by omega) (by omega)]
    refine zh_b1 (fun i hi => ?_)
    by_cases hij : (i : Int) = j
    · show zk_el w' 279 (i : Int) < n
      rw [hij]
      exact p7
    · rw [zh_wf hw i hij]
      exact h i (by omega)
end
/-! LAWS OF ROWS WITH PARAMETERS (functions 100 ..): told at a place, from one to another, through a write: each checked once -/
noncomputable section
theorem zq_xe {w : zz_W} {t : Nat} {j : Int} (ht : t < 100) : zk_xe w (2000100 + t) j = zh_b (zq_P (zq_T t) w (zq_dec (zq_T t).2.2.1 j)) := by
  rw [show 2000100 + t = 2000000 + (100 + t) by omega, zk_xe_h]
  exact zv_H_q ht
theorem zq_gl {a b : List Int} {k : Nat} (h : k < a.length) : (a ++ b).getD k 0 = a.getD k 0 := by
  rw [List.getD_eq_getElem?_getD, List.getD_eq_getElem?_getD, List.getElem?_append_left h]
theorem zq_gr {a b : List Int} {k n : Nat} (h : n = a.length + k) : (a ++ b).getD n 0 = b.getD k 0 := by
  subst h
  rw [List.getD_eq_getElem?_getD, List.getD_eq_getElem?_getD, List.getElem?_append_right (by omega), Nat.add_sub_cancel_left]
theorem zq_spl {l : List Int} {m n : Nat} (h : l.length = m + n) : ∃ a b, l = a ++ b ∧ a.length = m ∧ b.length = n := ⟨l.take m, l.drop m, (List.take_append_drop m l).symm, by rw [List.length_take]; omega, by rw [List.length_drop]; omega⟩
theorem zq_spl1 {l : List Int} {n : Nat} (h : l.length = 1 + n) : ∃ a b, l = a :: b ∧ b.length = n := by
  match l, h with
  | [], h => exact absurd h (by simp; omega)
  | a :: b, h => exact ⟨a, b, rfl, by rw [List.length_cons] at h; omega⟩
/-- the place that codes the parameters -/
def zq_cd : List Int → Int
  | [] => 0
  | p :: ps => p + 4294967296 * zq_cd ps
theorem zq_dec_cd : ∀ {ps : List Int}, (∀ p ∈ ps, 0 ≤ p ∧ p < 4294967296) → zq_dec ps.length (zq_cd ps) = ps
  | [], _ => rfl
  | p :: ps, h => by
    have h1 := h p List.mem_cons_self
    have ih := zq_dec_cd (ps := ps) (fun q hq => h q (List.mem_cons_of_mem _ hq))
    show (p + 4294967296 * zq_cd ps) % 4294967296 :: zq_dec ps.length ((p + 4294967296 * zq_cd ps) / 4294967296) = p :: ps
    rw [show (p + 4294967296 * zq_cd ps) % 4294967296 = p by omega, show (p + 4294967296 * zq_cd ps) / 4294967296 = zq_cd ps by omega, ih]
theorem zq_cd_nn : ∀ {ps : List Int}, (∀ p ∈ ps, 0 ≤ p ∧ p < 4294967296) → 0 ≤ zq_cd ps
  | [], _ => Int.le_refl _
  | p :: ps, h => by
    have h1 := h p List.mem_cons_self
    have ih := zq_cd_nn (ps := ps) (fun q hq => h q (List.mem_cons_of_mem _ hq))
    show 0 ≤ p + 4294967296 * zq_cd ps
    omega
/-- its sum: m parameters from the symbol a on -/
def zq_cs : Nat → Nat → zl_E
  | 0, _ => zl_con 0
  | m + 1, a => zl_add (zl_sym a) (zl_mul 4294967296 (zq_cs m (a + 1)))
theorem zq_tl {s : Nat → Int} {a m : Nat} {p : Int} {ps : List Int} (h : ∀ k, k < m + 1 → s (a + k) = (p :: ps).getD k 0) : ∀ k, k < m → s (a + 1 + k) = ps.getD k 0 := fun k hk => by
  have := h (k + 1) (by omega)
  rw [show a + 1 + k = a + (k + 1) by omega, this]
  rfl
theorem zq_cs_ev {s : Nat → Int} : ∀ {m a : Nat} {ps : List Int}, ps.length = m → (∀ k, k < m → s (a + k) = ps.getD k 0) → zl_ev s (zq_cs m a) = zq_cd ps
  | 0, a, [], _, _ => by
    show zl_ev s (zl_con 0) = 0
    rw [zl_con_ev]
  | 0, _, _ :: _, hl, _ => by cases hl
  | m + 1, _, [], hl, _ => by cases hl
  | m + 1, a, p :: ps, hl, h => by
    have h0 : s a = p := h 0 (by omega)
    show zl_ev s (zl_add (zl_sym a) (zl_mul 4294967296 (zq_cs m (a + 1)))) = p + 4294967296 * zq_cd ps
    rw [zl_add_ev, zl_mul_ev, zl_sym_ev, zq_cs_ev (ps := ps) (Nat.succ.inj hl) (zq_tl h), h0]
def zq_rg : Nat → Nat → List zl_E
  | 0, _ => []
  | m + 1, a => zl_sym a :: zl_sub (zl_con 4294967295) (zl_sym a) :: zq_rg m (a + 1)
theorem zq_rg_ok {s : Nat → Int} : ∀ {m a : Nat} {ps : List Int}, ps.length = m → (∀ k, k < m → s (a + k) = ps.getD k 0) → (∀ e ∈ zq_rg m a, 0 ≤ zl_ev s e) → ∀ p ∈ ps, 0 ≤ p ∧ p < 4294967296
  | 0, _, [], _, _, _, p, hp => by cases hp
  | 0, _, _ :: _, hl, _, _, _, _ => by cases hl
  | m + 1, _, [], hl, _, _, _, _ => by cases hl
  | m + 1, a, q :: ps, hl, h, hg, p, hp => by
    have h0 : s a = q := h 0 (by omega)
    rcases List.mem_cons.mp hp with e | hp
    · subst e
      have g1 := hg _ List.mem_cons_self
      have g2 := hg _ (List.mem_cons_of_mem _ List.mem_cons_self)
      rw [zl_sym_ev, h0] at g1
      rw [zl_sub_ev, zl_con_ev, zl_sym_ev, h0] at g2
      omega
    · exact zq_rg_ok (ps := ps) (Nat.succ.inj hl) (zq_tl h) (fun e he => hg e (List.mem_cons_of_mem _ (List.mem_cons_of_mem _ he))) p hp
/-- numbers within bounds -/
def zq_in (L : List Int) (B : List (Int × Int)) : Prop := L.length = B.length ∧ ∀ (k : Nat) (q : Int × Int), B[k]? = some q → q.1 ≤ L.getD k 0 ∧ L.getD k 0 ≤ q.2
theorem zq_in_nil : zq_in [] [] := ⟨rfl, fun k q h => by cases h⟩
theorem zq_in_cons {x : Int} {q : Int × Int} {L : List Int} {B : List (Int × Int)} (h : q.1 ≤ x ∧ x ≤ q.2) (h2 : zq_in L B) : zq_in (x :: L) (q :: B) := by
  refine ⟨by rw [List.length_cons, List.length_cons, h2.1], fun k p hp => ?_⟩
  cases k with
  | zero =>
    cases hp
    exact h
  | succ k => exact h2.2 k p hp
theorem zq_in_app : ∀ {L : List Int} {B : List (Int × Int)} {L2 : List Int} {B2 : List (Int × Int)}, zq_in L B → zq_in L2 B2 → zq_in (L ++ L2) (B ++ B2)
  | [], [], _, _, _, h2 => h2
  | [], _ :: _, _, _, h, _ => by cases h.1
  | _ :: _, [], _, _, h, _ => by cases h.1
  | x :: L, q :: B, L2, B2, h, h2 => zq_in_cons (h.2 0 q rfl) (zq_in_app ⟨Nat.succ.inj h.1, fun k p hp => h.2 (k + 1) p hp⟩ h2)
theorem zq_in_rep : ∀ {ps : List Int} {m : Nat}, ps.length = m → (∀ p ∈ ps, 0 ≤ p ∧ p < 4294967296) → zq_in ps (List.replicate m (0, 4294967295))
  | [], 0, _, _ => zq_in_nil
  | [], _ + 1, h, _ => by cases h
  | _ :: _, 0, h, _ => by cases h
  | p :: ps, m + 1, h, hp => by
    rw [List.replicate_succ]
    refine zq_in_cons ?_ (zq_in_rep (Nat.succ.inj h) (fun q hq => hp q (List.mem_cons_of_mem _ hq)))
    have := hp p List.mem_cons_self
    show (0 : Int) ≤ p ∧ p ≤ 4294967295
    omega
def zq_rb (HT : List (List zk_H)) (rows : List Nat) : List (Int × Int) := rows.map (fun r => ((zk_h HT r).2.2.2.1, (zk_h HT r).2.2.2.2.1))
/-- the rows are rows of ints, and long enough -/
def zq_rk (HT : List (List zk_H)) (N : Nat) (rows : List Nat) : Bool := rows.all (fun r => Nat.blt r 1000000 && (Nat.beq (zk_h HT r).1 0 && Nat.ble N (zk_h HT r).2.2.1))
theorem zq_el_in {c : Nat} {HT : List (List zk_H)} {w : zz_W} (hI : zk_I c HT w) {N i : Nat} (hi : i < N) : ∀ {rows : List Nat}, zq_rk HT N rows = true → zq_in (rows.map (fun r => zk_el w r (i : Int))) (zq_rb HT rows)
  | [], _ => zq_in_nil
  | r :: rs, h => by
    unfold zq_rk at h
    rw [List.all_cons] at h
    obtain ⟨h1, h2⟩ := zz_and h
    obtain ⟨-, h1⟩ := zz_and h1
    obtain ⟨b1, b2⟩ := zz_and h1
    refine zq_in_cons ?_ (zq_el_in hI hi (rows := rs) h2)
    obtain ⟨-, -, -, -, h0, -⟩ := hI.2.2.2 r (by have := zz_beq b1; omega)
    have := (h0 (zz_beq b1) i (by have := zz_ble b2; omega)).1
    unfold zk_el
    exact this
def zq_B (HT : List (List zk_H)) (N : Nat) (rows : List Nat) (m0 m1 : Nat) (BX : List (Int × Int)) : List (Int × Int) := List.replicate m0 (0, 4294967295) ++ (List.replicate m1 (0, 4294967295) ++ (BX ++ ((0, (N : Int) - 1) :: zq_rb HT rows)))
def zq_t0 (n m0 m1 x : Nat) : List zl_E := zl_sym (m0 + m1 + x) :: (zk_syms (m0 + m1 + x + 1) n ++ zk_syms 0 m0)
def zq_t1 (n m0 m1 x : Nat) : List zl_E := zl_sym (m0 + m1 + x) :: (zk_syms (m0 + m1 + x + 1) n ++ zk_syms m0 m1)
theorem zq_core {HT : List (List zk_H)} {N : Nat} {rows : List Nat} {m0 m1 : Nat} {BX : List (Int × Int)} {C : List zl_E} {ds0 ds1 : List (List zl_E)} {hs : List zk_Gh} (h : zk_gls (zq_B HT N rows m0 m1 BX) C (zq_t0 rows.length m0 m1 BX.length) (zq_t1 rows.length m0 m1 BX.length) ds1 ds0 hs = true)
    {ps qs xs el : List Int} {i : Nat} (hp : zq_in ps (List.replicate m0 (0, 4294967295))) (hq : zq_in qs (List.replicate m1 (0, 4294967295))) (hx : zq_in xs BX) (hi : i < N) (he : zq_in el (zq_rb HT rows)) (hC : zk_cs (fun m => (ps ++ (qs ++ (xs ++ ((i : Int) :: el)))).getD m 0) C)
    {d : List zl_E} (hd : d ∈ ds0) (hd2 : zk_cs (fun m => ((i : Int) :: (el ++ ps)).getD m 0) d) : ∃ d ∈ ds1, zk_cs (fun m => ((i : Int) :: (el ++ qs)).getD m 0) d := by
  have lp : ps.length = m0 := by rw [hp.1, List.length_replicate]
  have lq : qs.length = m1 := by rw [hq.1, List.length_replicate]
  have lx : xs.length = BX.length := hx.1
  have le : el.length = rows.length := by
    rw [he.1]
    unfold zq_rb
    rw [List.length_map]
  have hB := zq_in_app hp (zq_in_app hq (zq_in_app hx (zq_in_cons (x := (i : Int)) (q := (0, (N : Int) - 1)) (by show (0 : Int) ≤ (i : Int) ∧ (i : Int) ≤ (N : Int) - 1; omega) he)))
  have gp : ∀ m, m < m0 → (ps ++ (qs ++ (xs ++ ((i : Int) :: el)))).getD (0 + m) 0 = ps.getD m 0 := fun m hm => by
    rw [Nat.zero_add, zq_gl (by omega)]
  have gq : ∀ m, m < m1 → (ps ++ (qs ++ (xs ++ ((i : Int) :: el)))).getD (m0 + m) 0 = qs.getD m 0 := fun m hm => by
    rw [zq_gr (k := m) (by omega), zq_gl (by omega)]
  have gi : ∀ m, (ps ++ (qs ++ (xs ++ ((i : Int) :: el)))).getD (m0 + m1 + BX.length + m) 0 = ((i : Int) :: el).getD m 0 := fun m => by
    rw [zq_gr (k := m1 + BX.length + m) (by omega), zq_gr (k := BX.length + m) (by omega), zq_gr (k := m) (by omega)]
  generalize hL : ps ++ (qs ++ (xs ++ ((i : Int) :: el))) = L at hB hC gp gq gi
  have hsi : (i : Int) = zl_ev (fun m => L.getD m 0) (zl_sym (m0 + m1 + BX.length)) := by
    rw [zl_sym_ev]
    exact (gi 0).symm
  have hse : zk_sl2 (fun m => L.getD m 0) (zk_syms (m0 + m1 + BX.length + 1) rows.length) el := by
    rw [← le]
    refine zk_sl2_sy (fun m _ => ?_)
    have := gi (m + 1)
    show L.getD (m0 + m1 + BX.length + 1 + m) 0 = _
    rw [show m0 + m1 + BX.length + 1 + m = m0 + m1 + BX.length + (m + 1) by omega, this]
    rfl
  have hsp : zk_sl2 (fun m => L.getD m 0) (zk_syms 0 m0) ps := by
    rw [← lp]
    exact zk_sl2_sy (fun m hm => gp m (by omega))
  have hsq : zk_sl2 (fun m => L.getD m 0) (zk_syms m0 m1) qs := by
    rw [← lq]
    exact zk_sl2_sy (fun m hm => gq m (by omega))
  have s0 := zk_sl2_cons hsi (zk_sl2_app hse hsp)
  have s1 := zk_sl2_cons hsi (zk_sl2_app hse hsq)
  obtain ⟨d', e1, e2⟩ := zk_gls_ok (s := fun m => L.getD m 0) hB.2 hC h d hd (by
    show zk_cs (zk_u _ (zq_t0 _ _ _ _)) d
    rw [show zk_u (fun m => L.getD m 0) (zq_t0 rows.length m0 m1 BX.length) = _ from zk_sl2_u s0]
    exact hd2)
  refine ⟨d', e1, ?_⟩
  rw [show zk_u (fun m => L.getD m 0) (zq_t1 rows.length m0 m1 BX.length) = _ from zk_sl2_u s1] at e2
  exact e2
/-- shifted sums -/
theorem zq_sh {s : Nat → Int} {a n : Nat} {l : List Int} (hl : l.length = n) (h : ∀ k, k < n → s (a + k) = l.getD k 0) {C : List zl_E} (hC : C.all (fun c => Nat.ble (zl_mx c.2) n) = true) (hc : ∀ e ∈ C.map (zl_subst (zk_syms a n)), 0 ≤ zl_ev s e) : ∀ c ∈ C, 0 ≤ zl_ev (fun m => l.getD m 0) c := fun c hm => by
  have h1 := hc _ (List.mem_map.mpr ⟨c, hm, rfl⟩)
  have h2 : zk_sl2 s (zk_syms a n) l := by
    subst hl
    exact zk_sl2_sy h
  rw [zl_subst_ev (u := fun m => l.getD m 0) (by rw [h2.1, hl]; exact zz_ble (List.all_eq_true.mp hC c hm)) h2.2] at h1
  exact h1
theorem zq_wide {l r : List Int} {c : zl_E} (h : zl_mx c.2 ≤ l.length) : zl_ev (fun m => (l ++ r).getD m 0) c = zl_ev (fun m => l.getD m 0) c := zl_ev_eq (n := l.length) h (fun j hj => zq_gl hj)
theorem zq_P_of {w : zz_W} {t : Nat} (ht : t < 100) {P : Int} {ps : List Int} (hl : ps.length = (zq_T t).2.2.1) (hr : ∀ p ∈ ps, 0 ≤ p ∧ p < 4294967296) (hP : P = zq_cd ps) (h : zk_xe w (2000100 + t) P = 1) : zq_P (zq_T t) w ps := by
  rw [hP, zq_xe ht, ← hl, zq_dec_cd hr] at h
  exact zh_b1' h
/-- from nothing: inputs the parameters -/
def zq_Li (t : Nat) (C : List zl_E) : zx_L := zx_Lc [] (zq_T t).2.2.1 [] [] [] (zq_rg (zq_T t).2.2.1 0 ++ C.map (zl_subst (zk_syms 0 (zq_T t).2.2.1))) [([], [], [(2000100 + t, zq_cs (zq_T t).2.2.1 0, zl_con 1)], [])]
def zq_Lik (HT : List (List zk_H)) (t : Nat) (C : List zl_E) (e : zl_E) (h1 h2 : List zk_Gh) : Bool := (zq_rk HT (zq_T t).2.1 (zq_T t).1 && C.all (fun c => Nat.ble (zl_mx c.2) (zq_T t).2.2.1)) && (zk_gls (zq_B HT (zq_T t).2.1 (zq_T t).1 0 (zq_T t).2.2.1 []) (e :: C) (zq_t0 (zq_T t).1.length 0 (zq_T t).2.2.1 0) (zq_t1 (zq_T t).1.length 0 (zq_T t).2.2.1 0) (zq_T t).2.2.2 [[]] h1 && zk_gls (zq_B HT (zq_T t).2.1 (zq_T t).1 0 (zq_T t).2.2.1 []) (zl_sub (zl_con (-1)) e :: C) (zq_t0 (zq_T t).1.length 0 (zq_T t).2.2.1 0) (zq_t1 (zq_T t).1.length 0 (zq_T t).2.2.1 0) (zq_T t).2.2.2 [[]] h2)
theorem zq_one {s : Nat → Int} {w : zz_W} {t a : Nat} (ht : t < 100) {qs : List Int} (hl : qs.length = (zq_T t).2.2.1) (h : ∀ k, k < (zq_T t).2.2.1 → s (a + k) = qs.getD k 0) (hr : ∀ p ∈ qs, 0 ≤ p ∧ p < 4294967296) (hP : zq_P (zq_T t) w qs) : zk_eF s [(2000100 + t, zq_cs (zq_T t).2.2.1 a, zl_con 1)] w := by
  refine zx_eF1 ?_ ?_ zx_eF0
  · show 0 ≤ zl_ev s (zq_cs (zq_T t).2.2.1 a)
    rw [zq_cs_ev hl h]
    exact zq_cd_nn hr
  · show zk_xe w (2000100 + t) (zl_ev s (zq_cs (zq_T t).2.2.1 a)) = zl_ev s (zl_con 1)
    rw [zq_cs_ev hl h, zl_con_ev, zq_xe ht, ← hl, zq_dec_cd hr]
    exact zh_b1 hP
theorem zq_Li_ok {t : Nat} (ht : t < 100) {C : List zl_E} {e : zl_E} {k1 k2 : List zk_Gh} {PT : Nat → zz_W → Prop} (h : zq_Lik zHT t C e k1 k2 = true) : zx_Lok 64 zHT PT (zq_Li t C) := by
  unfold zq_Lik at h
  obtain ⟨h1, h2⟩ := zz_and h
  obtain ⟨h2, h3⟩ := zz_and h2
  obtain ⟨b1, b2⟩ := zz_and h1
  refine zx_Lc_ok (fun w hI _ qs hl _ he hg => ?_)
  have hvl : ∀ ca : List zx_Ca, zx_vl w ([], (zq_T t).2.2.1, [], [], ca) qs = qs ++ [] := fun ca => rfl
  rw [hvl] at hg ⊢
  have hs0 : ∀ k, k < (zq_T t).2.2.1 → (qs ++ []).getD (0 + k) 0 = qs.getD k 0 := fun k hk => by
    rw [Nat.zero_add]
    exact zq_gl (by omega)
  have hr := zq_rg_ok hl hs0 (fun e he => hg e (List.mem_append_left _ he))
  have hc := zq_sh hl hs0 b2 (fun e he => hg e (List.mem_append_right _ he))
  refine zx_one (l := qs ++ []) _ List.mem_cons_self rfl zx_cs0 (zq_one ht hl hs0 hr (fun i hi => ?_)) zx_k0
  have hcc : ∀ el : List Int, ∀ c ∈ C, 0 ≤ zl_ev (fun m => (([] : List Int) ++ (qs ++ (([] : List Int) ++ ((i : Int) :: el)))).getD m 0) c := fun el c hm => by
    rw [List.nil_append, List.nil_append, zq_wide (by rw [hl]; exact zz_ble (List.all_eq_true.mp b2 c hm))]
    exact hc c hm
  by_cases hs : 0 ≤ zl_ev (fun m => (([] : List Int) ++ (qs ++ (([] : List Int) ++ ((i : Int) :: (zq_T t).1.map (fun r => zk_el w r (i : Int)))))).getD m 0) e
  · refine zq_core (ps := []) (xs := []) (BX := []) h2 zq_in_nil (zq_in_rep hl hr) zq_in_nil hi (zq_el_in hI hi b1) (fun c hm => ?_) (d := []) List.mem_cons_self (fun c hm => by cases hm)
    rcases List.mem_cons.mp hm with e1 | hm
    · rw [e1]
      exact hs
    · exact hcc _ c hm
  · refine zq_core (ps := []) (xs := []) (BX := []) h3 zq_in_nil (zq_in_rep hl hr) zq_in_nil hi (zq_el_in hI hi b1) (fun c hm => ?_) (d := []) List.mem_cons_self (fun c hm => by cases hm)
    rcases List.mem_cons.mp hm with e1 | hm
    · rw [e1, zl_sub_ev, zl_con_ev]
      omega
    · exact hcc _ c hm
/-- from one to another: inputs the place, its parameters, the new parameters -/
def zq_Lv (t0 t1 : Nat) (C : List zl_E) : zx_L := zx_Lc [] (1 + ((zq_T t0).2.2.1 + (zq_T t1).2.2.1)) [(2000100 + t0, 0)] [] [zl_sub (zl_sym 0) (zq_cs (zq_T t0).2.2.1 1), zl_sub (zl_sym (1 + ((zq_T t0).2.2.1 + (zq_T t1).2.2.1))) (zl_con 1)] (zq_rg ((zq_T t0).2.2.1 + (zq_T t1).2.2.1) 1 ++ C.map (zl_subst (zk_syms 1 ((zq_T t0).2.2.1 + (zq_T t1).2.2.1)))) [([], [], [(2000100 + t1, zq_cs (zq_T t1).2.2.1 (1 + (zq_T t0).2.2.1), zl_con 1)], [])]
def zq_Lvk (HT : List (List zk_H)) (t0 t1 : Nat) (C : List zl_E) (hs : List zk_Gh) : Bool := (((zk_leN (zq_T t0).1 (zq_T t1).1 && Nat.ble (zq_T t1).2.1 (zq_T t0).2.1) && zq_rk HT (zq_T t1).2.1 (zq_T t1).1) && C.all (fun c => Nat.ble (zl_mx c.2) ((zq_T t0).2.2.1 + (zq_T t1).2.2.1))) && zk_gls (zq_B HT (zq_T t1).2.1 (zq_T t1).1 (zq_T t0).2.2.1 (zq_T t1).2.2.1 []) C (zq_t0 (zq_T t1).1.length (zq_T t0).2.2.1 (zq_T t1).2.2.1 0) (zq_t1 (zq_T t1).1.length (zq_T t0).2.2.1 (zq_T t1).2.2.1 0) (zq_T t1).2.2.2 (zq_T t0).2.2.2 hs
theorem zq_Lv_ok {t0 t1 : Nat} (ht0 : t0 < 100) (ht1 : t1 < 100) {C : List zl_E} {hs : List zk_Gh} {PT : Nat → zz_W → Prop} (h : zq_Lvk zHT t0 t1 C hs = true) : zx_Lok 64 zHT PT (zq_Lv t0 t1 C) := by
  unfold zq_Lvk at h
  obtain ⟨h1, h2⟩ := zz_and h
  obtain ⟨h1, b3⟩ := zz_and h1
  obtain ⟨h1, b2⟩ := zz_and h1
  obtain ⟨b0, b1⟩ := zz_and h1
  refine zx_Lc_ok (fun w hI _ ins hl _ he hg => ?_)
  obtain ⟨P, pq, rfl, hpq⟩ := zq_spl1 hl
  obtain ⟨ps, qs, rfl, hp, hq⟩ := zq_spl hpq
  have hvl : ∀ ca : List zx_Ca, zx_vl w ([], 1 + ((zq_T t0).2.2.1 + (zq_T t1).2.2.1), [(2000100 + t0, 0)], [], ca) (P :: (ps ++ qs)) = P :: ((ps ++ qs) ++ [zk_xe w (2000100 + t0) P]) := fun ca => by
    show (P :: (ps ++ qs)) ++ ([zk_xe w (2000100 + t0) P] ++ ([] : List Int)) = _
    rw [List.append_nil]
    rfl
  rw [hvl] at he hg ⊢
  have lpq : (ps ++ qs).length = (zq_T t0).2.2.1 + (zq_T t1).2.2.1 := by rw [List.length_append, hp, hq]
  have gA : ∀ k, k < (zq_T t0).2.2.1 + (zq_T t1).2.2.1 → (P :: ((ps ++ qs) ++ [zk_xe w (2000100 + t0) P])).getD (1 + k) 0 = (ps ++ qs).getD k 0 := fun k hk => by
    rw [show 1 + k = k + 1 by omega]
    show ((ps ++ qs) ++ [zk_xe w (2000100 + t0) P]).getD k 0 = _
    exact zq_gl (by omega)
  have gp : ∀ k, k < (zq_T t0).2.2.1 → (P :: ((ps ++ qs) ++ [zk_xe w (2000100 + t0) P])).getD (1 + k) 0 = ps.getD k 0 := fun k hk => by
    rw [gA k (by omega), zq_gl (by omega)]
  have gq : ∀ k, k < (zq_T t1).2.2.1 → (P :: ((ps ++ qs) ++ [zk_xe w (2000100 + t0) P])).getD (1 + (zq_T t0).2.2.1 + k) 0 = qs.getD k 0 := fun k hk => by
    rw [show 1 + (zq_T t0).2.2.1 + k = 1 + ((zq_T t0).2.2.1 + k) by omega, gA _ (by omega), zq_gr (k := k) (by omega)]
  have hr := zq_rg_ok lpq gA (fun e he => hg e (List.mem_append_left _ he))
  have hc := zq_sh lpq gA b3 (fun e he => hg e (List.mem_append_right _ he))
  have hrp : ∀ p ∈ ps, 0 ≤ p ∧ p < 4294967296 := fun p hm => hr p (List.mem_append_left _ hm)
  have hrq : ∀ p ∈ qs, 0 ≤ p ∧ p < 4294967296 := fun p hm => hr p (List.mem_append_right _ hm)
  have e0 := he _ List.mem_cons_self
  have e1 := he _ (List.mem_cons_of_mem _ List.mem_cons_self)
  rw [zl_sub_ev, zl_sym_ev, zq_cs_ev hp gp] at e0
  rw [zl_sub_ev, zl_sym_ev, zl_con_ev] at e1
  have e0 : P - zq_cd ps = 0 := e0
  have ev : (P :: ((ps ++ qs) ++ [zk_xe w (2000100 + t0) P])).getD (1 + ((zq_T t0).2.2.1 + (zq_T t1).2.2.1)) 0 = zk_xe w (2000100 + t0) P := by
    rw [show 1 + ((zq_T t0).2.2.1 + (zq_T t1).2.2.1) = ((zq_T t0).2.2.1 + (zq_T t1).2.2.1) + 1 by omega]
    show ((ps ++ qs) ++ [zk_xe w (2000100 + t0) P]).getD ((zq_T t0).2.2.1 + (zq_T t1).2.2.1) 0 = _
    rw [zq_gr (k := 0) (by omega)]
    rfl
  have hP := zq_P_of ht0 hp hrp (show P = zq_cd ps by omega) (show zk_xe w (2000100 + t0) P = 1 from by
    have e1 : (P :: ((ps ++ qs) ++ [zk_xe w (2000100 + t0) P])).getD (1 + ((zq_T t0).2.2.1 + (zq_T t1).2.2.1)) 0 - 1 = 0 := e1
    rw [ev] at e1
    omega)
  have hrows := zk_leN_ok b0
  refine zx_one (l := P :: ((ps ++ qs) ++ [zk_xe w (2000100 + t0) P])) _ List.mem_cons_self rfl zx_cs0 (zq_one ht1 hq gq hrq (fun i hi => ?_)) zx_k0
  obtain ⟨d, d1, d2⟩ := hP i (by have := zz_ble b1; omega)
  rw [hrows] at d2
  refine zq_core (xs := []) (BX := []) h2 (zq_in_rep hp hrp) (zq_in_rep hq hrq) zq_in_nil hi (zq_el_in hI hi b2) (fun c hm => ?_) d1 d2
  rw [List.nil_append, ← List.append_assoc, zq_wide (by rw [lpq]; exact zz_ble (List.all_eq_true.mp b3 c hm))]
  exact hc c hm
/-- told at a place: inputs the coded place, its parameters, the place -/
def zq_Ln (t : Nat) : zx_L := zx_Lc [] (1 + ((zq_T t).2.2.1 + 1)) ((2000100 + t, 0) :: (zq_T t).1.map (fun r => (r, 1 + (zq_T t).2.2.1))) [] [zl_sub (zl_sym 0) (zq_cs (zq_T t).2.2.1 1), zl_sub (zl_sym (1 + ((zq_T t).2.2.1 + 1))) (zl_con 1)] (zq_rg (zq_T t).2.2.1 1 ++ [zl_sym (1 + (zq_T t).2.2.1), zl_sub (zl_con ((zq_T t).2.1 - 1)) (zl_sym (1 + (zq_T t).2.2.1))])
  ((zq_T t).2.2.2.map (fun d => ([], d.map (zl_subst (zl_sym (1 + (zq_T t).2.2.1) :: (zk_syms (3 + (zq_T t).2.2.1) (zq_T t).1.length ++ zk_syms 1 (zq_T t).2.2.1))), [], [])))
def zq_Lnk (t : Nat) : Bool := (zq_T t).1.all (fun r => Nat.blt r 1000000) && (zq_T t).2.2.2.all (fun d => d.all (fun c => Nat.ble (zl_mx c.2) (1 + ((zq_T t).1.length + (zq_T t).2.2.1))))
theorem zq_Ln_ok {t : Nat} (ht : t < 100) {PT : Nat → zz_W → Prop} (h : zq_Lnk t = true) : zx_Lok 64 zHT PT (zq_Ln t) := by
  unfold zq_Lnk at h
  obtain ⟨b1, b2⟩ := zz_and h
  refine zx_Lc_ok (fun w hI _ ins hl _ he hg => ?_)
  obtain ⟨P, pq, rfl, hpq⟩ := zq_spl1 hl
  obtain ⟨ps, qs, rfl, hp, hq⟩ := zq_spl hpq
  obtain ⟨x, rfl⟩ := zx_i1 hq
  have hpl : (P :: (ps ++ [x])).getD (1 + (zq_T t).2.2.1) 0 = x := by
    rw [show 1 + (zq_T t).2.2.1 = (zq_T t).2.2.1 + 1 by omega]
    show (ps ++ [x]).getD (zq_T t).2.2.1 0 = x
    rw [zq_gr (k := 0) (by omega)]
    rfl
  have hel : (zq_T t).1.map (fun r => zk_xe w r x) = (zq_T t).1.map (fun r => zk_el w r x) := List.map_congr_left (fun r hr => zk_xe_r (List.all_eq_true.mp b1 r hr))
  have hvl : ∀ ca : List zx_Ca, zx_vl w ([], 1 + ((zq_T t).2.2.1 + 1), (2000100 + t, 0) :: (zq_T t).1.map (fun r => (r, 1 + (zq_T t).2.2.1)), [], ca) (P :: (ps ++ [x])) = P :: (ps ++ (x :: zk_xe w (2000100 + t) P :: (zq_T t).1.map (fun r => zk_el w r x))) := fun ca => by
    show (P :: (ps ++ [x])) ++ ((zk_xe w (2000100 + t) P :: ((zq_T t).1.map (fun r => (r, 1 + (zq_T t).2.2.1))).map (fun q => zk_xe w q.1 ((P :: (ps ++ [x])).getD q.2 0))) ++ ([] : List Int)) = _
    rw [List.map_map, List.append_nil]
    rw [show ((fun q : Nat × Nat => zk_xe w q.1 ((P :: (ps ++ [x])).getD q.2 0)) ∘ fun r => (r, 1 + (zq_T t).2.2.1)) = (fun r => zk_xe w r x) from funext (fun r => by
      show zk_xe w r ((P :: (ps ++ [x])).getD (1 + (zq_T t).2.2.1) 0) = _
      rw [hpl]), hel, List.cons_append, List.append_assoc]
    rfl
  rw [hvl] at he hg ⊢
  generalize hR : x :: zk_xe w (2000100 + t) P :: (zq_T t).1.map (fun r => zk_el w r x) = R at he hg ⊢
  have gA : ∀ k, k < (zq_T t).2.2.1 → (P :: (ps ++ R)).getD (1 + k) 0 = ps.getD k 0 := fun k hk => by
    rw [show 1 + k = k + 1 by omega]
    show (ps ++ R).getD k 0 = _
    exact zq_gl (by omega)
  have gR : ∀ k n, n = 1 + (zq_T t).2.2.1 + k → (P :: (ps ++ R)).getD n 0 = (x :: zk_xe w (2000100 + t) P :: (zq_T t).1.map (fun r => zk_el w r x)).getD k 0 := fun k n hn => by
    rw [hR, show n = ((zq_T t).2.2.1 + k) + 1 by omega]
    show (ps ++ R).getD ((zq_T t).2.2.1 + k) 0 = _
    rw [zq_gr (k := k) (by omega)]
  have hr := zq_rg_ok hp gA (fun e he => hg e (List.mem_append_left _ he))
  have hN0 := hg _ (List.mem_append_right _ List.mem_cons_self)
  have hN := hg _ (List.mem_append_right _ (List.mem_cons_of_mem _ List.mem_cons_self))
  have e0 := he _ List.mem_cons_self
  have e1 := he _ (List.mem_cons_of_mem _ List.mem_cons_self)
  rw [zl_sub_ev, zl_sym_ev, zq_cs_ev hp gA] at e0
  rw [zl_sub_ev, zl_sym_ev, zl_con_ev] at e1
  rw [zl_sub_ev, zl_sym_ev, zl_con_ev] at hN
  rw [zl_sym_ev] at hN0
  have r0 : (P :: (ps ++ R)).getD (1 + (zq_T t).2.2.1) 0 = x := gR 0 _ rfl
  have r1 : (P :: (ps ++ R)).getD (1 + ((zq_T t).2.2.1 + 1)) 0 = zk_xe w (2000100 + t) P := gR 1 _ (by omega)
  have hN : 0 ≤ (((zq_T t).2.1 : Int) - 1) - (P :: (ps ++ R)).getD (1 + (zq_T t).2.2.1) 0 := hN
  have hN0 : 0 ≤ (P :: (ps ++ R)).getD (1 + (zq_T t).2.2.1) 0 := hN0
  rw [r0] at hN hN0
  have e1 : (P :: (ps ++ R)).getD (1 + ((zq_T t).2.2.1 + 1)) 0 - 1 = 0 := e1
  have e0 : P - zq_cd ps = 0 := e0
  rw [r1] at e1
  have hP := zq_P_of ht hp hr (show P = zq_cd ps by omega) (show zk_xe w (2000100 + t) P = 1 by omega)
  obtain ⟨d, d1, d2⟩ := hP x.toNat (by omega)
  rw [show ((x.toNat : Nat) : Int) = x by omega] at d2
  refine zx_one (l := P :: (ps ++ R)) _ (List.mem_map.mpr ⟨d, d1, rfl⟩) rfl (fun c hc => ?_) zx_eF0 zx_k0
  obtain ⟨c0, c1, c2⟩ := List.mem_map.mp hc
  subst c2
  have hs2 : zk_sl2 (fun m => (P :: (ps ++ R)).getD m 0) (zl_sym (1 + (zq_T t).2.2.1) :: (zk_syms (3 + (zq_T t).2.2.1) (zq_T t).1.length ++ zk_syms 1 (zq_T t).2.2.1)) (x :: ((zq_T t).1.map (fun r => zk_el w r x) ++ ps)) := by
    refine zk_sl2_cons ?_ (zk_sl2_app ?_ ?_)
    · rw [zl_sym_ev]
      exact r0.symm
    · have := zk_sl2_sy (s := fun m => (P :: (ps ++ R)).getD m 0) (l := (zq_T t).1.map (fun r => zk_el w r x)) (n := 3 + (zq_T t).2.2.1) (fun m _ => gR (m + 2) _ (by omega))
      rw [List.length_map] at this
      exact this
    · have := zk_sl2_sy (s := fun m => (P :: (ps ++ R)).getD m 0) (l := ps) (n := 1) (fun m hm => gA m (by omega))
      rw [hp] at this
      exact this
  rw [zl_subst_ev (u := fun m => (x :: ((zq_T t).1.map (fun r => zk_el w r x) ++ ps)).getD m 0) (by
    have h1 := zz_ble (List.all_eq_true.mp (List.all_eq_true.mp b2 d d1) c0 c1)
    have h2 := hs2.1
    rw [List.length_cons (a := x), List.length_append, List.length_map, hp] at h2
    omega) hs2.2]
  exact d2 c0 c1
/-- through a write of the row r at j: inputs the coded place, its parameters, the new ones, the place -/
def zq_oth (r : Nat) (l : List Nat) : List Nat := l.filter (fun a => !(Nat.beq a r))
def zq_eqs (r v : Nat) : List Nat → Nat → Nat → List zl_E
  | [], _, _ => []
  | a :: l, e, o => cond (Nat.beq a r) (zl_sub (zl_sym e) (zl_sym v) :: zl_sub (zl_sym v) (zl_sym e) :: zq_eqs r v l (e + 1) o) (zl_sub (zl_sym e) (zl_sym o) :: zl_sub (zl_sym o) (zl_sym e) :: zq_eqs r v l (e + 1) (o + 1))
theorem zq_eqs_ok {s : Nat → Int} {r v : Nat} {g : Nat → Int} (hv : s v = g r) : ∀ {l : List Nat} {e o : Nat}, (∀ k, k < l.length → s (e + k) = (l.map g).getD k 0) → (∀ k, k < (zq_oth r l).length → s (o + k) = ((zq_oth r l).map g).getD k 0) → zk_cs s (zq_eqs r v l e o)
  | [], _, _, _, _ => fun c hc => by cases hc
  | a :: l, e, o, h1, h2 => by
    have e0 : s e = g a := h1 0 (by simp)
    have h1' : ∀ k, k < l.length → s (e + 1 + k) = (l.map g).getD k 0 := fun k hk => by
      have := h1 (k + 1) (by simpa using hk)
      rw [show e + 1 + k = e + (k + 1) by omega, this]
      rfl
    unfold zq_eqs
    cases hb : Nat.beq a r with
    | true =>
      have ho : zq_oth r (a :: l) = zq_oth r l := by
        unfold zq_oth
        rw [List.filter_cons, hb]
        rfl
      rw [ho] at h2
      have ih := zq_eqs_ok hv (l := l) (e := e + 1) (o := o) h1' h2
      have ha := zz_beq hb
      subst ha
      intro c hc
      rcases List.mem_cons.mp hc with hc | hc
      · rw [hc, zl_sub_ev, zl_sym_ev, zl_sym_ev]; omega
      · rcases List.mem_cons.mp hc with hc | hc
        · rw [hc, zl_sub_ev, zl_sym_ev, zl_sym_ev]; omega
        · exact ih c hc
    | false =>
      have ho : zq_oth r (a :: l) = a :: zq_oth r l := by
        unfold zq_oth
        rw [List.filter_cons, hb]
        rfl
      rw [ho] at h2
      have o0 : s o = g a := h2 0 (by simp)
      have ih := zq_eqs_ok hv (l := l) (e := e + 1) (o := o + 1) h1' (fun k hk => by
        have := h2 (k + 1) (by simpa using hk)
        rw [show o + 1 + k = o + (k + 1) by omega, this]
        rfl)
      intro c hc
      rcases List.mem_cons.mp hc with hc | hc
      · rw [hc, zl_sub_ev, zl_sym_ev, zl_sym_ev]; omega
      · rcases List.mem_cons.mp hc with hc | hc
        · rw [hc, zl_sub_ev, zl_sym_ev, zl_sym_ev]; omega
        · exact ih c hc
def zq_BX (n : Nat) : List (Int × Int) := (0, 4294967295) :: List.replicate (1 + n) (-2147483648, 2147483647)
def zq_sb (m n : Nat) : List zl_E := zk_syms 3 m ++ (zl_sym 0 :: zl_sym 1 :: zk_syms (5 + m) n)
def zq_Vw (r t0 t1 : Nat) (C : List zl_E) : zx_V := zx_Vc r [] (1 + (((zq_T t0).2.2.1 + (zq_T t1).2.2.1) + 1)) ((2000100 + t0, 0) :: (zq_oth r (zq_T t1).1).map (fun a => (a, 1 + ((zq_T t0).2.2.1 + (zq_T t1).2.2.1)))) [zl_sub (zl_sym 2) (zq_cs (zq_T t0).2.2.1 3), zl_sub (zl_sym (4 + ((zq_T t0).2.2.1 + (zq_T t1).2.2.1))) (zl_con 1), zl_sub (zl_sym 0) (zl_sym (3 + ((zq_T t0).2.2.1 + (zq_T t1).2.2.1)))]
  (zq_rg ((zq_T t0).2.2.1 + (zq_T t1).2.2.1) 3 ++ (zl_sub (zl_con 4294967295) (zl_sym 0) :: C.map (zl_subst (zq_sb ((zq_T t0).2.2.1 + (zq_T t1).2.2.1) (zq_oth r (zq_T t1).1).length)))) [(2000100 + t1, zq_cs (zq_T t1).2.2.1 (3 + (zq_T t0).2.2.1), zl_con 1)]
def zq_Vwk (HT : List (List zk_H)) (r t0 t1 : Nat) (C : List zl_E) (h1 h2 h3 : List zk_Gh) : Bool :=
  ((((zk_leN (zq_T t0).1 (zq_T t1).1 && Nat.ble (zq_T t1).2.1 (zq_T t0).2.1) && (zq_rk HT (zq_T t1).2.1 (zq_T t1).1 && Nat.blt r 1000000)) && C.all (fun c => Nat.ble (zl_mx c.2) ((zq_T t0).2.2.1 + (zq_T t1).2.2.1 + (2 + (zq_oth r (zq_T t1).1).length)))) &&
  zk_gls (zq_B HT (zq_T t1).2.1 (zq_T t1).1 (zq_T t0).2.2.1 (zq_T t1).2.2.1 (zq_BX (zq_oth r (zq_T t1).1).length)) (zl_sub (zl_sub (zl_sym ((zq_T t0).2.2.1 + (zq_T t1).2.2.1)) (zl_sym ((zq_T t0).2.2.1 + (zq_T t1).2.2.1 + (zq_BX (zq_oth r (zq_T t1).1).length).length))) (zl_con 1) :: C) (zq_t0 (zq_T t1).1.length (zq_T t0).2.2.1 (zq_T t1).2.2.1 (zq_BX (zq_oth r (zq_T t1).1).length).length) (zq_t1 (zq_T t1).1.length (zq_T t0).2.2.1 (zq_T t1).2.2.1 (zq_BX (zq_oth r (zq_T t1).1).length).length) (zq_T t1).2.2.2 (zq_T t0).2.2.2 h1) &&
  (zk_gls (zq_B HT (zq_T t1).2.1 (zq_T t1).1 (zq_T t0).2.2.1 (zq_T t1).2.2.1 (zq_BX (zq_oth r (zq_T t1).1).length)) (zl_sub (zl_sub (zl_sym ((zq_T t0).2.2.1 + (zq_T t1).2.2.1 + (zq_BX (zq_oth r (zq_T t1).1).length).length)) (zl_sym ((zq_T t0).2.2.1 + (zq_T t1).2.2.1))) (zl_con 1) :: C) (zq_t0 (zq_T t1).1.length (zq_T t0).2.2.1 (zq_T t1).2.2.1 (zq_BX (zq_oth r (zq_T t1).1).length).length) (zq_t1 (zq_T t1).1.length (zq_T t0).2.2.1 (zq_T t1).2.2.1 (zq_BX (zq_oth r (zq_T t1).1).length).length) (zq_T t1).2.2.2 (zq_T t0).2.2.2 h2 &&
  zk_gls (zq_B HT (zq_T t1).2.1 (zq_T t1).1 (zq_T t0).2.2.1 (zq_T t1).2.2.1 (zq_BX (zq_oth r (zq_T t1).1).length)) (zl_sub (zl_sym ((zq_T t0).2.2.1 + (zq_T t1).2.2.1)) (zl_sym ((zq_T t0).2.2.1 + (zq_T t1).2.2.1 + (zq_BX (zq_oth r (zq_T t1).1).length).length)) :: zl_sub (zl_sym ((zq_T t0).2.2.1 + (zq_T t1).2.2.1 + (zq_BX (zq_oth r (zq_T t1).1).length).length)) (zl_sym ((zq_T t0).2.2.1 + (zq_T t1).2.2.1)) :: (zq_eqs r ((zq_T t0).2.2.1 + (zq_T t1).2.2.1 + 1) (zq_T t1).1 ((zq_T t0).2.2.1 + (zq_T t1).2.2.1 + (zq_BX (zq_oth r (zq_T t1).1).length).length + 1) ((zq_T t0).2.2.1 + (zq_T t1).2.2.1 + 2) ++ C)) (zq_t0 (zq_T t1).1.length (zq_T t0).2.2.1 (zq_T t1).2.2.1 (zq_BX (zq_oth r (zq_T t1).1).length).length) (zq_t1 (zq_T t1).1.length (zq_T t0).2.2.1 (zq_T t1).2.2.1 (zq_BX (zq_oth r (zq_T t1).1).length).length) (zq_T t1).2.2.2 [[]] h3)
theorem zq_in_i32 {g : Nat → Int} (hg : ∀ a, -2147483648 ≤ g a ∧ g a ≤ 2147483647) : ∀ {l : List Nat}, zq_in (l.map g) (List.replicate l.length (-2147483648, 2147483647))
  | [] => zq_in_nil
  | a :: l => zq_in_cons (hg a) (zq_in_i32 hg)
theorem zq_el32 (w : zz_W) (r : Nat) (j : Int) : -2147483648 ≤ zk_el w r j ∧ zk_el w r j ≤ 2147483647 := ⟨zk_lo _, zk_hi _⟩
theorem zq_Vw_ok {r t0 t1 : Nat} (ht0 : t0 < 100) (ht1 : t1 < 100) {C : List zl_E} {h1 h2 h3 : List zk_Gh} {PT : Nat → zz_W → Prop} (h : zq_Vwk zHT r t0 t1 C h1 h2 h3 = true) : zx_Vok 64 zHT PT (zq_Vw r t0 t1 C) := by
  unfold zq_Vwk at h
  obtain ⟨h, k23⟩ := zz_and h
  obtain ⟨k2, k3⟩ := zz_and k23
  obtain ⟨h, k1⟩ := zz_and h
  obtain ⟨h, b3⟩ := zz_and h
  obtain ⟨hA, hB⟩ := zz_and h
  obtain ⟨b0, b1⟩ := zz_and hA
  obtain ⟨b2, br⟩ := zz_and hB
  refine zx_Vc_ok (fun w w' j ins hI hI' hj0 hw _ hl he hg => ?_)
  obtain ⟨P, pq, rfl, hpq⟩ := zq_spl1 hl
  obtain ⟨pq2, J1, rfl, hpq2, hJ⟩ := zq_spl hpq
  obtain ⟨J, rfl⟩ := zx_i1 hJ
  obtain ⟨ps, qs, rfl, hp, hq⟩ := zq_spl hpq2
  have hob : ∀ a ∈ zq_oth r (zq_T t1).1, Nat.blt a 1000000 = true ∧ a ≠ r := fun a ha => by
    obtain ⟨a1, a2⟩ := List.mem_filter.mp ha
    refine ⟨(zz_and (List.all_eq_true.mp b2 a a1)).1, fun e => ?_⟩
    rw [e, Nat.beq_refl] at a2
    cases a2
  have hJl : (P :: ((ps ++ qs) ++ [J])).getD (1 + ((zq_T t0).2.2.1 + (zq_T t1).2.2.1)) 0 = J := by
    rw [show 1 + ((zq_T t0).2.2.1 + (zq_T t1).2.2.1) = ((zq_T t0).2.2.1 + (zq_T t1).2.2.1) + 1 by omega]
    show ((ps ++ qs) ++ [J]).getD ((zq_T t0).2.2.1 + (zq_T t1).2.2.1) 0 = J
    rw [zq_gr (k := 0) (by omega)]
    rfl
  have hvl : ∀ (ges : List zl_E) (ee : List zk_E1), zx_vv w w' (r, [], 1 + (((zq_T t0).2.2.1 + (zq_T t1).2.2.1) + 1), (2000100 + t0, 0) :: (zq_oth r (zq_T t1).1).map (fun a => (a, 1 + ((zq_T t0).2.2.1 + (zq_T t1).2.2.1))), ges, ee) j (P :: ((ps ++ qs) ++ [J])) = j :: zk_el w' r j :: P :: ((ps ++ qs) ++ (J :: zk_xe w (2000100 + t0) P :: (zq_oth r (zq_T t1).1).map (fun a => zk_el w a J))) := fun ges ee => by
    show j :: zk_el w' r j :: ((P :: ((ps ++ qs) ++ [J])) ++ (zk_xe w (2000100 + t0) P :: ((zq_oth r (zq_T t1).1).map (fun a => (a, 1 + ((zq_T t0).2.2.1 + (zq_T t1).2.2.1)))).map (fun q => zk_xe w q.1 ((P :: ((ps ++ qs) ++ [J])).getD q.2 0)))) = _
    rw [List.map_map]
    rw [show (zq_oth r (zq_T t1).1).map ((fun q : Nat × Nat => zk_xe w q.1 ((P :: ((ps ++ qs) ++ [J])).getD q.2 0)) ∘ fun a => (a, 1 + ((zq_T t0).2.2.1 + (zq_T t1).2.2.1))) = (zq_oth r (zq_T t1).1).map (fun a => zk_el w a J) from List.map_congr_left (fun a ha => by
      show zk_xe w a ((P :: ((ps ++ qs) ++ [J])).getD (1 + ((zq_T t0).2.2.1 + (zq_T t1).2.2.1)) 0) = _
      rw [hJl, zk_xe_r (hob a ha).1]), List.cons_append, List.append_assoc (ps ++ qs)]
    rfl
  rw [hvl] at he hg ⊢
  have lpq : (ps ++ qs).length = (zq_T t0).2.2.1 + (zq_T t1).2.2.1 := by rw [List.length_append, hp, hq]
  generalize hR : J :: zk_xe w (2000100 + t0) P :: (zq_oth r (zq_T t1).1).map (fun a => zk_el w a J) = R at he hg ⊢
  have gA : ∀ k, k < (zq_T t0).2.2.1 + (zq_T t1).2.2.1 → (j :: zk_el w' r j :: P :: ((ps ++ qs) ++ R)).getD (3 + k) 0 = (ps ++ qs).getD k 0 := fun k hk => by
    rw [show 3 + k = k + 1 + 1 + 1 by omega]
    show ((ps ++ qs) ++ R).getD k 0 = _
    exact zq_gl (by omega)
  have gR : ∀ k n, n = 3 + ((zq_T t0).2.2.1 + (zq_T t1).2.2.1) + k → (j :: zk_el w' r j :: P :: ((ps ++ qs) ++ R)).getD n 0 = (J :: zk_xe w (2000100 + t0) P :: (zq_oth r (zq_T t1).1).map (fun a => zk_el w a J)).getD k 0 := fun k n hn => by
    rw [hR, show n = ((zq_T t0).2.2.1 + (zq_T t1).2.2.1 + k) + 1 + 1 + 1 by omega]
    show ((ps ++ qs) ++ R).getD ((zq_T t0).2.2.1 + (zq_T t1).2.2.1 + k) 0 = _
    rw [zq_gr (k := k) (by omega)]
  have gp : ∀ k, k < (zq_T t0).2.2.1 → (j :: zk_el w' r j :: P :: ((ps ++ qs) ++ R)).getD (3 + k) 0 = ps.getD k 0 := fun k hk => by
    rw [gA k (by omega), zq_gl (by omega)]
  have gq : ∀ k, k < (zq_T t1).2.2.1 → (j :: zk_el w' r j :: P :: ((ps ++ qs) ++ R)).getD (3 + (zq_T t0).2.2.1 + k) 0 = qs.getD k 0 := fun k hk => by
    rw [show 3 + (zq_T t0).2.2.1 + k = 3 + ((zq_T t0).2.2.1 + k) by omega, gA _ (by omega), zq_gr (k := k) (by omega)]
  have hr := zq_rg_ok lpq gA (fun e he => hg e (List.mem_append_left _ he))
  have hj1 := hg _ (List.mem_append_right _ List.mem_cons_self)
  rw [zl_sub_ev, zl_con_ev, zl_sym_ev] at hj1
  have hj1 : 0 ≤ 4294967295 - j := hj1
  have hrp : ∀ p ∈ ps, 0 ≤ p ∧ p < 4294967296 := fun p hm => hr p (List.mem_append_left _ hm)
  have hrq : ∀ p ∈ qs, 0 ≤ p ∧ p < 4294967296 := fun p hm => hr p (List.mem_append_right _ hm)
  have e0 := he _ List.mem_cons_self
  have e1 := he _ (List.mem_cons_of_mem _ List.mem_cons_self)
  have e2 := he _ (List.mem_cons_of_mem _ (List.mem_cons_of_mem _ List.mem_cons_self))
  rw [zl_sub_ev, zl_sym_ev, zq_cs_ev hp gp] at e0
  rw [zl_sub_ev, zl_sym_ev, zl_con_ev] at e1
  rw [zl_sub_ev, zl_sym_ev, zl_sym_ev] at e2
  have e0 : P - zq_cd ps = 0 := e0
  have r0 : (j :: zk_el w' r j :: P :: ((ps ++ qs) ++ R)).getD (3 + ((zq_T t0).2.2.1 + (zq_T t1).2.2.1)) 0 = J := gR 0 _ rfl
  have r1 : (j :: zk_el w' r j :: P :: ((ps ++ qs) ++ R)).getD (4 + ((zq_T t0).2.2.1 + (zq_T t1).2.2.1)) 0 = zk_xe w (2000100 + t0) P := gR 1 _ (by omega)
  have e1 : (j :: zk_el w' r j :: P :: ((ps ++ qs) ++ R)).getD (4 + ((zq_T t0).2.2.1 + (zq_T t1).2.2.1)) 0 - 1 = 0 := e1
  have e2 : j - (j :: zk_el w' r j :: P :: ((ps ++ qs) ++ R)).getD (3 + ((zq_T t0).2.2.1 + (zq_T t1).2.2.1)) 0 = 0 := e2
  rw [r1] at e1
  rw [r0] at e2
  have eJ : J = j := by omega
  subst eJ
  have hP := zq_P_of ht0 hp hrp (show P = zq_cd ps by omega) (show zk_xe w (2000100 + t0) P = 1 by omega)
  have hrows := zk_leN_ok b0
  -- the conditions
  have hcond : ∀ c ∈ C, 0 ≤ zl_ev (fun m => ((ps ++ qs) ++ (J :: zk_el w' r J :: (zq_oth r (zq_T t1).1).map (fun a => zk_el w a J))).getD m 0) c := fun c hm => by
    have hc := hg _ (List.mem_append_right _ (List.mem_cons_of_mem _ (List.mem_map.mpr ⟨c, hm, rfl⟩)))
    have hs2 : zk_sl2 (fun m => (J :: zk_el w' r J :: P :: ((ps ++ qs) ++ R)).getD m 0) (zq_sb ((zq_T t0).2.2.1 + (zq_T t1).2.2.1) (zq_oth r (zq_T t1).1).length) ((ps ++ qs) ++ (J :: zk_el w' r J :: (zq_oth r (zq_T t1).1).map (fun a => zk_el w a J))) := by
      refine zk_sl2_app ?_ (zk_sl2_cons ?_ (zk_sl2_cons ?_ ?_))
      · have := zk_sl2_sy (s := fun m => (J :: zk_el w' r J :: P :: ((ps ++ qs) ++ R)).getD m 0) (l := ps ++ qs) (n := 3) (fun m hm => gA m (by omega))
        rw [lpq] at this
        exact this
      · rw [zl_sym_ev]
        rfl
      · rw [zl_sym_ev]
        rfl
      · have := zk_sl2_sy (s := fun m => (J :: zk_el w' r J :: P :: ((ps ++ qs) ++ R)).getD m 0) (l := (zq_oth r (zq_T t1).1).map (fun a => zk_el w a J)) (n := 5 + ((zq_T t0).2.2.1 + (zq_T t1).2.2.1)) (fun m _ => gR (m + 2) _ (by omega))
        rw [List.length_map] at this
        exact this
    rw [zl_subst_ev (u := fun m => ((ps ++ qs) ++ (J :: zk_el w' r J :: (zq_oth r (zq_T t1).1).map (fun a => zk_el w a J))).getD m 0) (by
      have h1 := zz_ble (List.all_eq_true.mp b3 c hm)
      have h2 := hs2.1
      rw [List.length_append (as := ps ++ qs), lpq, List.length_cons, List.length_cons, List.length_map] at h2
      omega) hs2.2] at hc
    exact hc
  have hoth : (zq_oth r (zq_T t1).1).map (fun a => zk_el w a J) = (zq_oth r (zq_T t1).1).map (fun a => zk_el w' a J) := List.map_congr_left (fun a ha => by
    unfold zk_el
    rw [hw.1 a (hob a ha).2])
  have hxs : zq_in (J :: zk_el w' r J :: (zq_oth r (zq_T t1).1).map (fun a => zk_el w a J)) (zq_BX (zq_oth r (zq_T t1).1).length) := by
    unfold zq_BX
    rw [show 1 + (zq_oth r (zq_T t1).1).length = (zq_oth r (zq_T t1).1).length + 1 by omega, List.replicate_succ]
    refine zq_in_cons ?_ (zq_in_cons (zq_el32 w' r J) (zq_in_i32 (fun a => zq_el32 w a J)))
    show (0 : Int) ≤ J ∧ J ≤ 4294967295
    omega
  have lx : (J :: zk_el w' r J :: (zq_oth r (zq_T t1).1).map (fun a => zk_el w a J)).length = (zq_BX (zq_oth r (zq_T t1).1).length).length := hxs.1
  have hwide : ∀ (i : Nat) (el : List Int), ∀ c ∈ C, 0 ≤ zl_ev (fun m => (ps ++ (qs ++ ((J :: zk_el w' r J :: (zq_oth r (zq_T t1).1).map (fun a => zk_el w a J)) ++ ((i : Int) :: el)))).getD m 0) c := fun i el c hm => by
    rw [← List.append_assoc ps, ← List.append_assoc (ps ++ qs), zq_wide (by
      have h1 := zz_ble (List.all_eq_true.mp b3 c hm)
      rw [List.length_append (as := ps ++ qs), lpq, List.length_cons, List.length_cons, List.length_map]
      omega)]
    exact hcond c hm
  have hsj : ∀ (i : Nat) (el : List Int), (ps ++ (qs ++ ((J :: zk_el w' r J :: (zq_oth r (zq_T t1).1).map (fun a => zk_el w a J)) ++ ((i : Int) :: el)))).getD ((zq_T t0).2.2.1 + (zq_T t1).2.2.1) 0 = J := fun i el => by
    rw [← List.append_assoc ps, zq_gr (k := 0) (by omega)]
    rfl
  have hsv : ∀ (i : Nat) (el : List Int), (ps ++ (qs ++ ((J :: zk_el w' r J :: (zq_oth r (zq_T t1).1).map (fun a => zk_el w a J)) ++ ((i : Int) :: el)))).getD ((zq_T t0).2.2.1 + (zq_T t1).2.2.1 + 1) 0 = zk_el w' r J := fun i el => by
    rw [← List.append_assoc ps, zq_gr (k := 1) (by omega)]
    rfl
  have hso : ∀ (i : Nat) (el : List Int) (k : Nat), k < (zq_oth r (zq_T t1).1).length → (ps ++ (qs ++ ((J :: zk_el w' r J :: (zq_oth r (zq_T t1).1).map (fun a => zk_el w a J)) ++ ((i : Int) :: el)))).getD ((zq_T t0).2.2.1 + (zq_T t1).2.2.1 + 2 + k) 0 = ((zq_oth r (zq_T t1).1).map (fun a => zk_el w a J)).getD k 0 := fun i el k hk => by
    rw [← List.append_assoc ps, zq_gr (k := 2 + k) (by omega), zq_gl (by rw [List.length_cons, List.length_cons, List.length_map]; omega), show 2 + k = k + 1 + 1 by omega]
    rfl
  have hsi : ∀ (i : Nat) (el : List Int) (k n : Nat), n = (zq_T t0).2.2.1 + (zq_T t1).2.2.1 + (zq_BX (zq_oth r (zq_T t1).1).length).length + k → (ps ++ (qs ++ ((J :: zk_el w' r J :: (zq_oth r (zq_T t1).1).map (fun a => zk_el w a J)) ++ ((i : Int) :: el)))).getD n 0 = ((i : Int) :: el).getD k 0 := fun i el k n hn => by
    rw [← List.append_assoc ps, zq_gr (k := (zq_BX (zq_oth r (zq_T t1).1).length).length + k) (by omega), zq_gr (k := k) (by omega)]
  refine zq_one ht1 hq gq hrq (fun i hi => ?_)
  have hel := zq_el_in hI' hi b2
  by_cases hlt : (i : Int) = J
  · refine zq_core k3 (zq_in_rep hp hrp) (zq_in_rep hq hrq) hxs hi hel (fun c hc => ?_) (d := []) List.mem_cons_self (fun c hm => by cases hm)
    rcases List.mem_cons.mp hc with hc | hc
    · rw [hc, zl_sub_ev, zl_sym_ev, zl_sym_ev]
      have a1 := hsj i ((zq_T t1).1.map (fun r => zk_el w' r (i : Int)))
      have a2 := hsi i ((zq_T t1).1.map (fun r => zk_el w' r (i : Int))) 0 ((zq_T t0).2.2.1 + (zq_T t1).2.2.1 + (zq_BX (zq_oth r (zq_T t1).1).length).length) (by omega)
      have a2 : _ = (i : Int) := a2
      rw [a1, a2]
      omega
    · rcases List.mem_cons.mp hc with hc | hc
      · rw [hc, zl_sub_ev, zl_sym_ev, zl_sym_ev]
        have a1 := hsj i ((zq_T t1).1.map (fun r => zk_el w' r (i : Int)))
        have a2 := hsi i ((zq_T t1).1.map (fun r => zk_el w' r (i : Int))) 0 ((zq_T t0).2.2.1 + (zq_T t1).2.2.1 + (zq_BX (zq_oth r (zq_T t1).1).length).length) (by omega)
        have a2 : _ = (i : Int) := a2
        rw [a1, a2]
        omega
      · rcases List.mem_append.mp hc with hc | hc
        · refine zq_eqs_ok (g := fun a => zk_el w' a J) ?_ ?_ ?_ c hc
          · exact hsv i _
          · intro k hk
            have := hsi i ((zq_T t1).1.map (fun r => zk_el w' r (i : Int))) (k + 1) ((zq_T t0).2.2.1 + (zq_T t1).2.2.1 + (zq_BX (zq_oth r (zq_T t1).1).length).length + 1 + k) (by omega)
            rw [show (zq_T t1).1.map (fun a => zk_el w' a J) = (zq_T t1).1.map (fun a => zk_el w' a (i : Int)) by rw [hlt]]
            exact this
          · intro k hk
            rw [← hoth]
            exact hso i _ k hk
        · exact hwide i _ c hc
  · obtain ⟨d, d1, d2⟩ := hP i (by have := zz_ble b1; omega)
    rw [hrows] at d2
    have hsame : (zq_T t1).1.map (fun r => zk_el w r (i : Int)) = (zq_T t1).1.map (fun r => zk_el w' r (i : Int)) := List.map_congr_left (fun a _ => by
      by_cases ha : a = r
      · rw [ha]
        exact (hw.2 (i : Int) (by omega) hlt).symm
      · unfold zk_el
        rw [hw.1 a ha])
    rw [hsame] at d2
    have a1 := hsj i ((zq_T t1).1.map (fun r => zk_el w' r (i : Int)))
    have a2 := hsi i ((zq_T t1).1.map (fun r => zk_el w' r (i : Int))) 0 ((zq_T t0).2.2.1 + (zq_T t1).2.2.1 + (zq_BX (zq_oth r (zq_T t1).1).length).length) (by omega)
    have a2 : _ = (i : Int) := a2
    by_cases hlt2 : (i : Int) < J
    · refine zq_core k1 (zq_in_rep hp hrp) (zq_in_rep hq hrq) hxs hi hel (fun c hc => ?_) d1 d2
      rcases List.mem_cons.mp hc with hc | hc
      · rw [hc, zl_sub_ev, zl_sub_ev, zl_sym_ev, zl_sym_ev, zl_con_ev, a1, a2]
        omega
      · exact hwide i _ c hc
    · refine zq_core k2 (zq_in_rep hp hrp) (zq_in_rep hq hrq) hxs hi hel (fun c hc => ?_) d1 d2
      rcases List.mem_cons.mp hc with hc | hc
      · rw [hc, zl_sub_ev, zl_sub_ev, zl_sym_ev, zl_sym_ev, zl_con_ev, a1, a2]
        omega
      · exact hwide i _ c hc
end
/-! LAWS of sizes: how many bytes the sections of a unit have (function 8: all that are counted; 9: the first n) -/
noncomputable section
theorem zh_sm_eq {f g : Nat → Int} {a : Nat} : ∀ {n : Nat}, (∀ i, a ≤ i → i < a + n → g i = f i) → zh_sm g a n = zh_sm f a n
  | 0, _ => rfl
  | n + 1, h => by
    show zh_sm g a n + g (a + n) = zh_sm f a n + f (a + n)
    rw [zh_sm_eq (fun i h1 h2 => h i h1 (by omega)), h (a + n) (by omega) (by omega)]
theorem zh_sm_set {f g : Nat → Int} {a p : Nat} (h : ∀ i, i ≠ p → g i = f i) : ∀ {n : Nat}, a ≤ p → p < a + n → zh_sm g a n = zh_sm f a n + g p - f p
  | 0, h1, h2 => absurd h2 (by omega)
  | n + 1, h1, h2 => by
    show zh_sm g a n + g (a + n) = zh_sm f a n + f (a + n) + g p - f p
    by_cases hp : p = a + n
    · rw [zh_sm_eq (fun i _ i2 => h i (by omega)), hp]
      omega
    · rw [zh_sm_set h h1 (by omega), h (a + n) (by omega)]
      omega
theorem zh_sm_nn {f : Nat → Int} {a : Nat} : ∀ {n : Nat}, (∀ i, a ≤ i → i < a + n → 0 ≤ f i) → 0 ≤ zh_sm f a n
  | 0, _ => Int.le_refl _
  | n + 1, h => by
    have h1 := zh_sm_nn (n := n) (fun i h1 h2 => h i h1 (by omega))
    have h2 := h (a + n) (by omega) (by omega)
    show 0 ≤ zh_sm f a n + f (a + n)
    omega
theorem zh_sm_le {f : Nat → Int} {a p : Nat} : ∀ {n : Nat}, (∀ i, a ≤ i → i < a + n → 0 ≤ f i) → a ≤ p → p < a + n → f p ≤ zh_sm f a n
  | 0, _, _, h2 => absurd h2 (by omega)
  | n + 1, h, h1, h2 => by
    have g1 := zh_sm_nn (n := n) (fun i h1 h2 => h i h1 (by omega))
    have g2 := h (a + n) (by omega) (by omega)
    show f p ≤ zh_sm f a n + f (a + n)
    by_cases hp : p = a + n
    · rw [hp]
      omega
    · have := zh_sm_le (n := n) (fun i h1 h2 => h i h1 (by omega)) h1 (show p < a + n by omega)
      omega
theorem zh_sm_mono {f : Nat → Int} {a n : Nat} : ∀ {k : Nat}, (∀ i, a ≤ i → i < a + (n + k) → 0 ≤ f i) → zh_sm f a n ≤ zh_sm f a (n + k)
  | 0, _ => Int.le_refl _
  | k + 1, h => by
    have g1 := zh_sm_mono (n := n) (k := k) (fun i h1 h2 => h i h1 (by omega))
    have g2 := h (a + (n + k)) (by omega) (by omega)
    show zh_sm f a n ≤ zh_sm f a (n + k) + f (a + (n + k))
    omega
theorem zh_H8 {w : zz_W} {t : Int} : zk_xe w 2000008 t = zh_sm (zh_f w 182) (64 * t.toNat) (zh_f w 179 t.toNat).toNat := by
  rw [show (2000008 : Nat) = 2000000 + 8 from rfl, zk_xe_h]
  rfl
theorem zh_H9 {w : zz_W} {j n t : Int} (h : j = n + 1048576 * t) (h0 : 0 ≤ n) (h1 : n < 1048576) : zk_xe w 2000009 j = zh_sm (zh_f w 182) (64 * t.toNat) n.toNat := by
  obtain ⟨a, b⟩ := zh_d2 h h0 h1
  rw [show (2000009 : Nat) = 2000000 + 9 from rfl, zk_xe_h]
  show zh_sm (zh_f w 182) (64 * (j / 1048576).toNat) (j % 1048576).toNat = _
  rw [a, b]
theorem zh_fx {w : zz_W} {r : Nat} {x : Int} (hr : Nat.blt r 1000000 = true) (h0 : 0 ≤ x) : zh_f w r x.toNat = zk_xe w r x := by
  rw [zk_xe_r hr]
  unfold zh_f
  rw [show ((x.toNat : Nat) : Int) = x by omega]
theorem zh_fx' {w : zz_W} {r : Nat} {x : Int} (h0 : 0 ≤ x) : zh_f w r x.toNat = zk_el w r x := by
  unfold zh_f
  rw [show ((x.toNat : Nat) : Int) = x by omega]
/-- another row is written -/
theorem zh_fo {w w' : zz_W} {r a : Nat} {j : Int} (hw : zk_rR a j w w') (h : r ≠ a) : zh_f w' r = zh_f w r := zh_f_g (hw.1 r h)
theorem zh_SSn {w : zz_W} (hI : zk_I 64 zHT w) (i : Nat) (hi : i < 448) : 0 ≤ zh_f w 182 i := by
  have h := (zq_el_in (N := 448) hI hi (rows := [182]) (by decide +kernel)).2 0 ((zk_h zHT 182).2.2.2.1, (zk_h zHT 182).2.2.2.2.1) rfl
  have h2 : (zk_h zHT 182).2.2.2.1 = 0 := by decide +kernel
  have h3 : (zk_h zHT 182).2.2.2.1 ≤ zk_el w 182 (i : Int) := h.1
  rw [h2] at h3
  exact h3
/-- a unit begins: no sections; input the unit -/
def zx_V8 : zx_V := zx_Vc 179 [] 1 [] [zl_sub (zl_sym 0) (zl_sym 2), zl_sym 1] [] [(2000008, zl_sym 2, zl_con 0)]
theorem zx_V8_ok {PT : Nat → zz_W → Prop} : zx_Vok 64 zHT PT zx_V8 := by
  refine zx_Vc_ok (fun w w' j ins _ _ h0 hw _ hl he hg => ?_)
  obtain ⟨u, rfl⟩ := zx_i1 hl
  have e0 := he _ List.mem_cons_self
  have e1 := he _ (List.mem_cons_of_mem _ List.mem_cons_self)
  rw [zl_sub_ev, zl_sym_ev, zl_sym_ev] at e0
  rw [zl_sym_ev] at e1
  have e0 : j - u = 0 := e0
  have e1 : zk_el w' 179 j = 0 := e1
  have eu : u = j := by omega
  subst eu
  refine zx_eF1 ?_ ?_ zx_eF0
  · show 0 ≤ zl_ev _ (zl_sym 2)
    rw [zl_sym_ev]
    exact h0
  · show zk_xe w' 2000008 (zl_ev _ (zl_sym 2)) = zl_ev _ (zl_con 0)
    rw [zl_sym_ev, zl_con_ev]
    show zk_xe w' 2000008 u = 0
    rw [zh_H8, zh_fx' h0, e1]
    rfl
/-- a size that is not counted yet: input the unit -/
def zx_V9 : zx_V := zx_Vc 182 [] 1 [(179, 0), (2000008, 0)] [zl_sub (zl_sym 0) (zl_add (zl_mul 64 (zl_sym 2)) (zl_sym 3))] [zl_sym 2, zl_sym 3] [(2000008, zl_sym 2, zl_sym 4)]
theorem zx_V9_ok {PT : Nat → zz_W → Prop} : zx_Vok 64 zHT PT zx_V9 := by
  refine zx_Vc_ok (fun w w' j ins _ _ h0 hw _ hl he hg => ?_)
  obtain ⟨t, rfl⟩ := zx_i1 hl
  have e0 := he _ List.mem_cons_self
  rw [zl_sub_ev, zl_add_ev, zl_mul_ev, zl_sym_ev, zl_sym_ev, zl_sym_ev] at e0
  have e0 : j - (64 * t + zk_xe w 179 t) = 0 := e0
  have g0 := hg _ List.mem_cons_self
  have g1 := hg _ (List.mem_cons_of_mem _ List.mem_cons_self)
  rw [zl_sym_ev] at g0 g1
  have g0 : 0 ≤ t := g0
  have g1 : 0 ≤ zk_xe w 179 t := g1
  refine zx_eF1 ?_ ?_ zx_eF0
  · show 0 ≤ zl_ev _ (zl_sym 2)
    rw [zl_sym_ev]
    exact g0
  · show zk_xe w' 2000008 (zl_ev _ (zl_sym 2)) = zl_ev _ (zl_sym 4)
    rw [zl_sym_ev, zl_sym_ev]
    show zk_xe w' 2000008 t = zk_xe w 2000008 t
    rw [zh_H8, zh_H8, zh_fo hw (r := 179) (by decide)]
    refine zh_sm_eq (fun i i1 i2 => ?_)
    rw [zh_fx (w := w) (r := 179) (by decide) g0] at i2
    exact hw.2 (i : Int) (by omega) (by omega)
/-- one more section: inputs the unit, the section's place -/
def zx_V10 : zx_V := zx_Vc 179 [] 2 [(179, 0), (2000008, 0), (182, 1)] [zl_sub (zl_sym 0) (zl_sym 2), zl_sub (zl_sym 1) (zl_add (zl_sym 4) (zl_con 1)), zl_sub (zl_sym 3) (zl_add (zl_mul 64 (zl_sym 2)) (zl_sym 4))] [zl_sym 4] [(2000008, zl_sym 2, zl_add (zl_sym 5) (zl_sym 6))]
theorem zx_V10_ok {PT : Nat → zz_W → Prop} : zx_Vok 64 zHT PT zx_V10 := by
  refine zx_Vc_ok (fun w w' j ins _ _ h0 hw _ hl he hg => ?_)
  obtain ⟨t, k, rfl⟩ := zx_i2 hl
  have e0 := he _ List.mem_cons_self
  have e1 := he _ (List.mem_cons_of_mem _ List.mem_cons_self)
  have e2 := he _ (List.mem_cons_of_mem _ (List.mem_cons_of_mem _ List.mem_cons_self))
  rw [zl_sub_ev, zl_sym_ev, zl_sym_ev] at e0
  rw [zl_sub_ev, zl_add_ev, zl_sym_ev, zl_sym_ev, zl_con_ev] at e1
  rw [zl_sub_ev, zl_add_ev, zl_mul_ev, zl_sym_ev, zl_sym_ev, zl_sym_ev] at e2
  have e0 : j - t = 0 := e0
  have e1 : zk_el w' 179 j - (zk_xe w 179 t + 1) = 0 := e1
  have e2 : k - (64 * t + zk_xe w 179 t) = 0 := e2
  have g1 := hg _ List.mem_cons_self
  rw [zl_sym_ev] at g1
  have g1 : 0 ≤ zk_xe w 179 t := g1
  have eu : t = j := by omega
  subst eu
  refine zx_eF1 ?_ ?_ zx_eF0
  · show 0 ≤ zl_ev _ (zl_sym 2)
    rw [zl_sym_ev]
    exact h0
  · show zk_xe w' 2000008 (zl_ev _ (zl_sym 2)) = zl_ev _ (zl_add (zl_sym 5) (zl_sym 6))
    rw [zl_sym_ev, zl_add_ev, zl_sym_ev, zl_sym_ev]
    show zk_xe w' 2000008 t = zk_xe w 2000008 t + zk_xe w 182 k
    rw [zh_H8, zh_H8, zh_fo hw (r := 182) (by decide), zh_fx' h0, zh_fx (r := 179) (by decide) h0, show zk_el w' 179 t = zk_xe w 179 t + 1 by omega, show (zk_xe w 179 t + 1).toNat = (zk_xe w 179 t).toNat + 1 by omega]
    show zh_sm (zh_f w 182) (64 * t.toNat) (zk_xe w 179 t).toNat + zh_f w 182 (64 * t.toNat + (zk_xe w 179 t).toNat) = _
    rw [← zh_fx (w := w) (r := 182) (x := k) (by decide) (by omega), show 64 * t.toNat + (zk_xe w 179 t).toNat = k.toNat by omega]
/-- a size that is counted changes: inputs the unit, the section's place -/
def zx_V11 : zx_V := zx_Vc 182 [] 2 [(179, 0), (2000008, 0), (182, 1)] [zl_sub (zl_sym 0) (zl_sym 3)] [zl_sym 2, zl_sub (zl_sym 3) (zl_mul 64 (zl_sym 2)), zl_sub (zl_sub (zl_add (zl_mul 64 (zl_sym 2)) (zl_sym 4)) (zl_sym 3)) (zl_con 1)] [(2000008, zl_sym 2, zl_sub (zl_add (zl_sym 5) (zl_sym 1)) (zl_sym 6))]
theorem zx_V11_ok {PT : Nat → zz_W → Prop} : zx_Vok 64 zHT PT zx_V11 := by
  refine zx_Vc_ok (fun w w' j ins _ _ h0 hw _ hl he hg => ?_)
  obtain ⟨t, k, rfl⟩ := zx_i2 hl
  have e0 := he _ List.mem_cons_self
  rw [zl_sub_ev, zl_sym_ev, zl_sym_ev] at e0
  have e0 : j - k = 0 := e0
  have g0 := hg _ List.mem_cons_self
  have g1 := hg _ (List.mem_cons_of_mem _ List.mem_cons_self)
  have g2 := hg _ (List.mem_cons_of_mem _ (List.mem_cons_of_mem _ List.mem_cons_self))
  rw [zl_sym_ev] at g0
  rw [zl_sub_ev, zl_mul_ev, zl_sym_ev, zl_sym_ev] at g1
  rw [zl_sub_ev, zl_sub_ev, zl_add_ev, zl_mul_ev, zl_sym_ev, zl_sym_ev, zl_sym_ev, zl_con_ev] at g2
  have g0 : 0 ≤ t := g0
  have g1 : 0 ≤ k - 64 * t := g1
  have g2 : 0 ≤ 64 * t + zk_xe w 179 t - k - 1 := g2
  have eu : k = j := by omega
  subst eu
  refine zx_eF1 ?_ ?_ zx_eF0
  · show 0 ≤ zl_ev _ (zl_sym 2)
    rw [zl_sym_ev]
    exact g0
  · show zk_xe w' 2000008 (zl_ev _ (zl_sym 2)) = zl_ev _ (zl_sub (zl_add (zl_sym 5) (zl_sym 1)) (zl_sym 6))
    rw [zl_sym_ev, zl_sub_ev, zl_add_ev, zl_sym_ev, zl_sym_ev, zl_sym_ev]
    show zk_xe w' 2000008 t = zk_xe w 2000008 t + zk_el w' 182 k - zk_xe w 182 k
    have hs := zh_sm_set (f := zh_f w 182) (g := zh_f w' 182) (a := 64 * t.toNat) (p := k.toNat) (fun i hi => hw.2 (i : Int) (by omega) (by omega)) (n := (zh_f w 179 t.toNat).toNat) (by omega) (by
      rw [zh_fx (w := w) (r := 179) (x := t) (by decide) (by omega)]
      omega)
    rw [zh_H8, zh_H8, zh_fo hw (r := 179) (by decide), hs, zh_fx' h0, zh_fx (r := 182) (by decide) h0]
/-- no size is more than all: inputs the unit, the section's place -/
def zx_S27 : zx_L := zx_Lc [] 2 [(179, 0), (2000008, 0), (182, 1)] [] [] [zl_sym 0, zl_sub (zl_con 6) (zl_sym 0), zl_sub (zl_con 64) (zl_sym 2), zl_sub (zl_sym 1) (zl_mul 64 (zl_sym 0)), zl_sub (zl_sub (zl_add (zl_mul 64 (zl_sym 0)) (zl_sym 2)) (zl_sym 1)) (zl_con 1)] [([], [zl_sub (zl_sym 3) (zl_sym 4)], [], [])]
theorem zx_S27_ok {PT : Nat → zz_W → Prop} : zx_Lok 64 zHT PT zx_S27 := by
  refine zx_Lc_ok (fun w hI _ ins hl _ he hg => ?_)
  obtain ⟨t, k, rfl⟩ := zx_i2 hl
  have g0 := hg _ List.mem_cons_self
  have g1 := hg _ (List.mem_cons_of_mem _ List.mem_cons_self)
  have g2 := hg _ (List.mem_cons_of_mem _ (List.mem_cons_of_mem _ List.mem_cons_self))
  have g3 := hg _ (List.mem_cons_of_mem _ (List.mem_cons_of_mem _ (List.mem_cons_of_mem _ List.mem_cons_self)))
  have g4 := hg _ (List.mem_cons_of_mem _ (List.mem_cons_of_mem _ (List.mem_cons_of_mem _ (List.mem_cons_of_mem _ List.mem_cons_self))))
  rw [zl_sym_ev] at g0
  rw [zl_sub_ev, zl_con_ev, zl_sym_ev] at g1 g2
  rw [zl_sub_ev, zl_mul_ev, zl_sym_ev, zl_sym_ev] at g3
  rw [zl_sub_ev, zl_sub_ev, zl_add_ev, zl_mul_ev, zl_sym_ev, zl_sym_ev, zl_sym_ev, zl_con_ev] at g4
  have g0 : 0 ≤ t := g0
  have g1 : 0 ≤ 6 - t := g1
  have g2 : 0 ≤ 64 - zk_xe w 179 t := g2
  have g3 : 0 ≤ k - 64 * t := g3
  have g4 : 0 ≤ 64 * t + zk_xe w 179 t - k - 1 := g4
  refine zx_one (l := [t, k] ++ ([zk_xe w 179 t, zk_xe w 2000008 t, zk_xe w 182 k] ++ ([] : List Int))) _ List.mem_cons_self rfl (fun c hc => ?_) zx_eF0 zx_k0
  rw [List.mem_singleton.mp hc, zl_sub_ev, zl_sym_ev, zl_sym_ev]
  show 0 ≤ zk_xe w 2000008 t - zk_xe w 182 k
  rw [zh_H8, ← zh_fx (w := w) (r := 182) (x := k) (by decide) (by omega)]
  have hsc := zh_fx (w := w) (r := 179) (x := t) (by decide) g0
  have := zh_sm_le (f := zh_f w 182) (a := 64 * t.toNat) (p := k.toNat) (n := (zh_f w 179 t.toNat).toNat) (fun i i1 i2 => zh_SSn hI i (by rw [hsc] at i2; omega)) (by omega) (by rw [hsc]; omega)
  omega
/-- the first ones: none; input the unit -/
def zx_S28 : zx_L := zx_Lc [] 1 [] [] [] [zl_sym 0] [([], [], [(2000009, zl_mul 1048576 (zl_sym 0), zl_con 0)], [])]
theorem zx_S28_ok {PT : Nat → zz_W → Prop} : zx_Lok 64 zHT PT zx_S28 := by
  refine zx_Lc_ok (fun w _ _ ins hl _ he hg => ?_)
  obtain ⟨t, rfl⟩ := zx_i1 hl
  have g0 := hg _ List.mem_cons_self
  rw [zl_sym_ev] at g0
  have g0 : 0 ≤ t := g0
  refine zx_one (l := [t] ++ (([] : List Int) ++ ([] : List Int))) _ List.mem_cons_self rfl zx_cs0 (zx_eF1 ?_ ?_ zx_eF0) zx_k0
  · show 0 ≤ zl_ev _ (zl_mul 1048576 (zl_sym 0))
    rw [zl_mul_ev, zl_sym_ev]
    show 0 ≤ 1048576 * t
    omega
  · show zk_xe w 2000009 (zl_ev _ (zl_mul 1048576 (zl_sym 0))) = zl_ev _ (zl_con 0)
    rw [zl_mul_ev, zl_sym_ev, zl_con_ev]
    show zk_xe w 2000009 (1048576 * t) = 0
    rw [zh_H9 (n := 0) (t := t) (by omega) (by omega) (by omega)]
    rfl
/-- one more of the first ones: inputs the coded place, n, the unit, the section's place -/
def zx_S29 : zx_L := zx_Lc [] 4 [(2000009, 0), (182, 3)] [] [zl_sub (zl_sym 0) (zl_add (zl_sym 1) (zl_mul 1048576 (zl_sym 2))), zl_sub (zl_sym 3) (zl_add (zl_mul 64 (zl_sym 2)) (zl_sym 1))] [zl_sym 1, zl_sub (zl_con 1048574) (zl_sym 1), zl_sym 2] [([], [], [(2000009, zl_add (zl_sym 0) (zl_con 1), zl_add (zl_sym 4) (zl_sym 5))], [])]
theorem zx_S29_ok {PT : Nat → zz_W → Prop} : zx_Lok 64 zHT PT zx_S29 := by
  refine zx_Lc_ok (fun w _ _ ins hl _ he hg => ?_)
  obtain ⟨P, n, t, k, rfl⟩ := zx_i4 hl
  have e0 := he _ List.mem_cons_self
  have e1 := he _ (List.mem_cons_of_mem _ List.mem_cons_self)
  rw [zl_sub_ev, zl_add_ev, zl_mul_ev, zl_sym_ev, zl_sym_ev, zl_sym_ev] at e0 e1
  have e0 : P - (n + 1048576 * t) = 0 := e0
  have e1 : k - (64 * t + n) = 0 := e1
  have g0 := hg _ List.mem_cons_self
  have g1 := hg _ (List.mem_cons_of_mem _ List.mem_cons_self)
  have g2 := hg _ (List.mem_cons_of_mem _ (List.mem_cons_of_mem _ List.mem_cons_self))
  rw [zl_sym_ev] at g0 g2
  rw [zl_sub_ev, zl_con_ev, zl_sym_ev] at g1
  have g0 : 0 ≤ n := g0
  have g1 : 0 ≤ 1048574 - n := g1
  have g2 : 0 ≤ t := g2
  refine zx_one (l := [P, n, t, k] ++ ([zk_xe w 2000009 P, zk_xe w 182 k] ++ ([] : List Int))) _ List.mem_cons_self rfl zx_cs0 (zx_eF1 ?_ ?_ zx_eF0) zx_k0
  · show 0 ≤ zl_ev _ (zl_add (zl_sym 0) (zl_con 1))
    rw [zl_add_ev, zl_sym_ev, zl_con_ev]
    show 0 ≤ P + 1
    omega
  · show zk_xe w 2000009 (zl_ev _ (zl_add (zl_sym 0) (zl_con 1))) = zl_ev _ (zl_add (zl_sym 4) (zl_sym 5))
    rw [zl_add_ev, zl_add_ev, zl_sym_ev, zl_sym_ev, zl_sym_ev, zl_con_ev]
    show zk_xe w 2000009 (P + 1) = zk_xe w 2000009 P + zk_xe w 182 k
    rw [zh_H9 (n := n + 1) (t := t) (by omega) (by omega) (by omega), zh_H9 (n := n) (t := t) (by omega) g0 (by omega), show (n + 1).toNat = n.toNat + 1 by omega]
    show zh_sm (zh_f w 182) (64 * t.toNat) n.toNat + zh_f w 182 (64 * t.toNat + n.toNat) = _
    rw [← zh_fx (w := w) (r := 182) (x := k) (by decide) (by omega), show 64 * t.toNat + n.toNat = k.toNat by omega]
/-- the first ones are not more than all: inputs the coded place, n, the unit -/
def zx_S30 : zx_L := zx_Lc [] 3 [(2000009, 0), (179, 2), (2000008, 2)] [] [zl_sub (zl_sym 0) (zl_add (zl_sym 1) (zl_mul 1048576 (zl_sym 2)))] [zl_sym 1, zl_sym 2, zl_sub (zl_con 6) (zl_sym 2), zl_sub (zl_con 64) (zl_sym 4), zl_sub (zl_sym 4) (zl_sym 1)] [([], [zl_sub (zl_sym 5) (zl_sym 3), zl_sym 3], [], [])]
theorem zx_S30_ok {PT : Nat → zz_W → Prop} : zx_Lok 64 zHT PT zx_S30 := by
  refine zx_Lc_ok (fun w hI _ ins hl _ he hg => ?_)
  obtain ⟨P, n, t, rfl⟩ := zx_i3 hl
  have e0 := he _ List.mem_cons_self
  rw [zl_sub_ev, zl_add_ev, zl_mul_ev, zl_sym_ev, zl_sym_ev, zl_sym_ev] at e0
  have e0 : P - (n + 1048576 * t) = 0 := e0
  have g0 := hg _ List.mem_cons_self
  have g1 := hg _ (List.mem_cons_of_mem _ List.mem_cons_self)
  have g2 := hg _ (List.mem_cons_of_mem _ (List.mem_cons_of_mem _ List.mem_cons_self))
  have g3 := hg _ (List.mem_cons_of_mem _ (List.mem_cons_of_mem _ (List.mem_cons_of_mem _ List.mem_cons_self)))
  have g4 := hg _ (List.mem_cons_of_mem _ (List.mem_cons_of_mem _ (List.mem_cons_of_mem _ (List.mem_cons_of_mem _ List.mem_cons_self))))
  rw [zl_sym_ev] at g0 g1
  rw [zl_sub_ev, zl_con_ev, zl_sym_ev] at g2 g3
  rw [zl_sub_ev, zl_sym_ev, zl_sym_ev] at g4
  have g0 : 0 ≤ n := g0
  have g1 : 0 ≤ t := g1
  have g2 : 0 ≤ 6 - t := g2
  have g3 : 0 ≤ 64 - zk_xe w 179 t := g3
  have g4 : 0 ≤ zk_xe w 179 t - n := g4
  have hsc := zh_fx (w := w) (r := 179) (x := t) (by decide) g1
  have h9 := zh_H9 (w := w) (j := P) (n := n) (t := t) (by omega) g0 (by omega)
  have hm := zh_sm_mono (f := zh_f w 182) (a := 64 * t.toNat) (n := n.toNat) (k := (zh_f w 179 t.toNat).toNat - n.toNat) (fun i i1 i2 => zh_SSn hI i (by rw [hsc] at i2; omega))
  have hn := zh_sm_nn (f := zh_f w 182) (a := 64 * t.toNat) (n := n.toNat) (fun i i1 i2 => zh_SSn hI i (by omega))
  rw [show n.toNat + ((zh_f w 179 t.toNat).toNat - n.toNat) = (zh_f w 179 t.toNat).toNat by rw [hsc]; omega] at hm
  refine zx_one (l := [P, n, t] ++ ([zk_xe w 2000009 P, zk_xe w 179 t, zk_xe w 2000008 t] ++ ([] : List Int))) _ List.mem_cons_self rfl (fun c hc => ?_) zx_eF0 zx_k0
  rcases List.mem_cons.mp hc with hc | hc
  · rw [hc, zl_sub_ev, zl_sym_ev, zl_sym_ev]
    show 0 ≤ zk_xe w 2000008 t - zk_xe w 2000009 P
    rw [zh_H8, h9]
    omega
  · rw [List.mem_singleton.mp hc, zl_sym_ev]
    show 0 ≤ zk_xe w 2000009 P
    rw [h9]
    exact hn
end
/-! the next multiple of a number: input what is there -/
noncomputable section
theorem zx_Yq {PT : Nat → zz_W → Prop} {w : zz_W} {a q c d : Int} (h0 : 0 ≤ q) (h1 : q ≤ 1000000000) (h2 : 0 ≤ c * q - a) (h3 : 0 ≤ a + d - c * q) : ∃ x ∈ [(([(0, 1000000000)], [zl_sub (zl_mul c (zl_sym 1)) (zl_sym 0), zl_sub (zl_add (zl_sym 0) (zl_con d)) (zl_mul c (zl_sym 1))], [], []) : zx_Ca)], ∃ nw : List Int, nw.length = x.1.length ∧ (∀ (k : Nat) (q : Int × Int), x.1[k]? = some q → q.1 ≤ nw.getD k 0 ∧ nw.getD k 0 ≤ q.2) ∧ zk_cs (fun m => (([a] ++ (([] : List Int) ++ ([] : List Int))) ++ nw).getD m 0) x.2.1 ∧ zk_eF (fun m => (([a] ++ (([] : List Int) ++ ([] : List Int))) ++ nw).getD m 0) x.2.2.1 w ∧ ∀ t ∈ x.2.2.2, PT t w := by
  refine ⟨_, List.mem_cons_self, [q], rfl, fun k p hp => ?_, fun e he => ?_, zx_eF0, zx_k0⟩
  · match k, hp with
    | 0, hp =>
      cases hp
      exact ⟨h0, h1⟩
    | k + 1, hp => cases hp
  · rcases List.mem_cons.mp he with he | he
    · rw [he, zl_sub_ev, zl_mul_ev, zl_sym_ev, zl_sym_ev]
      exact h2
    · rw [List.mem_singleton.mp he, zl_sub_ev, zl_add_ev, zl_mul_ev, zl_sym_ev, zl_sym_ev, zl_con_ev]
      exact h3
def zx_Y1 : zx_L := zx_Lc [] 1 [] [] [] [zl_sym 0, zl_sub (zl_con 1000000000) (zl_sym 0)] [([(0, 1000000000)], [zl_sub (zl_mul 1 (zl_sym 1)) (zl_sym 0), zl_sub (zl_add (zl_sym 0) (zl_con 0)) (zl_mul 1 (zl_sym 1))], [], [])]
theorem zx_Y1_ok {PT : Nat → zz_W → Prop} : zx_Lok 64 zHT PT zx_Y1 := by
  refine zx_Lc_ok (fun w _ _ ins hl _ he hg => ?_)
  obtain ⟨a, rfl⟩ := zx_i1 hl
  have g0 := hg _ List.mem_cons_self
  have g1 := hg _ (List.mem_cons_of_mem _ List.mem_cons_self)
  rw [zl_sym_ev] at g0
  rw [zl_sub_ev, zl_con_ev, zl_sym_ev] at g1
  have g0 : 0 ≤ a := g0
  have g1 : 0 ≤ 1000000000 - a := g1
  exact zx_Yq (q := (a + 0) / 1) (by omega) (by omega) (by omega) (by omega)
def zx_Y2 : zx_L := zx_Lc [] 1 [] [] [] [zl_sym 0, zl_sub (zl_con 1000000000) (zl_sym 0)] [([(0, 1000000000)], [zl_sub (zl_mul 2 (zl_sym 1)) (zl_sym 0), zl_sub (zl_add (zl_sym 0) (zl_con 1)) (zl_mul 2 (zl_sym 1))], [], [])]
theorem zx_Y2_ok {PT : Nat → zz_W → Prop} : zx_Lok 64 zHT PT zx_Y2 := by
  refine zx_Lc_ok (fun w _ _ ins hl _ he hg => ?_)
  obtain ⟨a, rfl⟩ := zx_i1 hl
  have g0 := hg _ List.mem_cons_self
  have g1 := hg _ (List.mem_cons_of_mem _ List.mem_cons_self)
  rw [zl_sym_ev] at g0
  rw [zl_sub_ev, zl_con_ev, zl_sym_ev] at g1
  have g0 : 0 ≤ a := g0
  have g1 : 0 ≤ 1000000000 - a := g1
  exact zx_Yq (q := (a + 1) / 2) (by omega) (by omega) (by omega) (by omega)
def zx_Y4 : zx_L := zx_Lc [] 1 [] [] [] [zl_sym 0, zl_sub (zl_con 1000000000) (zl_sym 0)] [([(0, 1000000000)], [zl_sub (zl_mul 4 (zl_sym 1)) (zl_sym 0), zl_sub (zl_add (zl_sym 0) (zl_con 3)) (zl_mul 4 (zl_sym 1))], [], [])]
theorem zx_Y4_ok {PT : Nat → zz_W → Prop} : zx_Lok 64 zHT PT zx_Y4 := by
  refine zx_Lc_ok (fun w _ _ ins hl _ he hg => ?_)
  obtain ⟨a, rfl⟩ := zx_i1 hl
  have g0 := hg _ List.mem_cons_self
  have g1 := hg _ (List.mem_cons_of_mem _ List.mem_cons_self)
  rw [zl_sym_ev] at g0
  rw [zl_sub_ev, zl_con_ev, zl_sym_ev] at g1
  have g0 : 0 ≤ a := g0
  have g1 : 0 ≤ 1000000000 - a := g1
  exact zx_Yq (q := (a + 3) / 4) (by omega) (by omega) (by omega) (by omega)
def zx_Y8 : zx_L := zx_Lc [] 1 [] [] [] [zl_sym 0, zl_sub (zl_con 1000000000) (zl_sym 0)] [([(0, 1000000000)], [zl_sub (zl_mul 8 (zl_sym 1)) (zl_sym 0), zl_sub (zl_add (zl_sym 0) (zl_con 7)) (zl_mul 8 (zl_sym 1))], [], [])]
theorem zx_Y8_ok {PT : Nat → zz_W → Prop} : zx_Lok 64 zHT PT zx_Y8 := by
  refine zx_Lc_ok (fun w _ _ ins hl _ he hg => ?_)
  obtain ⟨a, rfl⟩ := zx_i1 hl
  have g0 := hg _ List.mem_cons_self
  have g1 := hg _ (List.mem_cons_of_mem _ List.mem_cons_self)
  rw [zl_sym_ev] at g0
  rw [zl_sub_ev, zl_con_ev, zl_sym_ev] at g1
  have g0 : 0 ≤ a := g0
  have g1 : 0 ≤ 1000000000 - a := g1
  exact zx_Yq (q := (a + 7) / 8) (by omega) (by omega) (by omega) (by omega)
def zx_Y16 : zx_L := zx_Lc [] 1 [] [] [] [zl_sym 0, zl_sub (zl_con 1000000000) (zl_sym 0)] [([(0, 1000000000)], [zl_sub (zl_mul 16 (zl_sym 1)) (zl_sym 0), zl_sub (zl_add (zl_sym 0) (zl_con 15)) (zl_mul 16 (zl_sym 1))], [], [])]
theorem zx_Y16_ok {PT : Nat → zz_W → Prop} : zx_Lok 64 zHT PT zx_Y16 := by
  refine zx_Lc_ok (fun w _ _ ins hl _ he hg => ?_)
  obtain ⟨a, rfl⟩ := zx_i1 hl
  have g0 := hg _ List.mem_cons_self
  have g1 := hg _ (List.mem_cons_of_mem _ List.mem_cons_self)
  rw [zl_sym_ev] at g0
  rw [zl_sub_ev, zl_con_ev, zl_sym_ev] at g1
  have g0 : 0 ≤ a := g0
  have g1 : 0 ≤ 1000000000 - a := g1
  exact zx_Yq (q := (a + 15) / 16) (by omega) (by omega) (by omega) (by omega)
end
/-! LAWS OF ROWS WITH PARAMETERS whose places may depend on parameters and on elements (functions 200 ..) -/
noncomputable section
theorem zu_xe {w : zz_W} {t : Nat} {j : Int} : zk_xe w (2000200 + t) j = zh_b (zu_P (zu_T t) w (zq_dec (zu_T t).2.2.1 j)) := by
  rw [show 2000200 + t = 2000000 + (200 + t) by omega, zk_xe_h]
  exact zv_H_u
/-- rows, places, symbols of elements -/
abbrev zu_Tb : Type := List (Nat × zl_E × Nat)
def zu_tb : List (Nat × zl_E) → List zl_E → Nat → zu_Tb
  | [], _, _ => []
  | q :: s, mp, k => (q.1, zl_subst mp q.2, k) :: zu_tb s (mp ++ [zl_sym k]) (k + 1)
def zu_wf : List (Nat × zl_E) → Nat → Bool
  | [], _ => true
  | q :: s, n => Nat.ble (zl_mx q.2.2) n && zu_wf s (n + 1)
theorem zu_ex_pre {w : zz_W} : ∀ {S : List (Nat × zl_E)} {l : List Int} {m : Nat}, m < l.length → (zu_ex w S l).getD m 0 = l.getD m 0
  | [], _, _, _ => rfl
  | q :: S, l, m, h => by
    show (zu_ex w S (l ++ [zk_el w q.1 (zl_ev (fun m => l.getD m 0) q.2)])).getD m 0 = _
    rw [zu_ex_pre (by rw [List.length_append]; omega), zq_gl h]
theorem zu_ex_len {w : zz_W} : ∀ {S : List (Nat × zl_E)} {l : List Int}, (zu_ex w S l).length = l.length + S.length
  | [], _ => rfl
  | q :: S, l => by
    show (zu_ex w S (l ++ [zk_el w q.1 (zl_ev (fun m => l.getD m 0) q.2)])).length = _
    rw [zu_ex_len, List.length_append, List.length_cons, List.length_cons, List.length_nil]
    omega
theorem zu_tb_ok {w : zz_W} {s : Nat → Int} : ∀ {S : List (Nat × zl_E)} {mp : List zl_E} {l : List Int} {k : Nat}, zu_wf S mp.length = true → zk_sl2 s mp l → (∀ m, m < S.length → s (k + m) = (zu_ex w S l).getD (l.length + m) 0) → (∀ x ∈ zu_tb S mp k, s x.2.2 = zk_el w x.1 (zl_ev s x.2.1)) ∧ zk_sl2 s (mp ++ zk_syms k S.length) (zu_ex w S l)
  | [], mp, l, k, _, hl, _ => ⟨fun x hx => absurd hx List.not_mem_nil, by
      show zk_sl2 s (mp ++ []) l
      rw [List.append_nil]
      exact hl⟩
  | q :: S, mp, l, k, hw, hl, hs => by
    obtain ⟨w1, w2⟩ := zz_and hw
    generalize hx : zk_el w q.1 (zl_ev (fun m => l.getD m 0) q.2) = x
    have hex : zu_ex w (q :: S) l = zu_ex w S (l ++ [x]) := by
      rw [← hx]
      rfl
    have hk : s k = x := by
      have h0 := hs 0 (by simp)
      rw [hex, zu_ex_pre (by simp)] at h0
      have h1 : (l ++ [x]).getD (l.length + 0) 0 = x := by
        rw [zq_gr (k := 0) rfl]
        rfl
      rw [h1] at h0
      exact h0
    have hpl : zl_ev s (zl_subst mp q.2) = zl_ev (fun m => l.getD m 0) q.2 := zl_subst_ev (zz_ble w1) hl.2
    have ll : (l ++ [x]).length = l.length + 1 := by simp
    obtain ⟨i1, i2⟩ := zu_tb_ok (w := w) (s := s) (S := S) (mp := mp ++ [zl_sym k]) (l := l ++ [x]) (k := k + 1) (by
      rw [show (mp ++ [zl_sym k]).length = mp.length + 1 by simp]
      exact w2) (zk_sl2_app hl (zk_sl2_cons (by rw [zl_sym_ev]; exact hk.symm) zk_sl2_nil)) (fun m hm => by
      have h1 := hs (m + 1) (by simpa using hm)
      rw [hex] at h1
      rw [ll, show k + 1 + m = k + (m + 1) by omega, show l.length + 1 + m = l.length + (m + 1) by omega]
      exact h1)
    refine ⟨fun y hy => ?_, ?_⟩
    · rcases List.mem_cons.mp hy with e | hy
      · subst e
        show s k = zk_el w q.1 (zl_ev s (zl_subst mp q.2))
        rw [hpl, hk, hx]
      · exact i1 y hy
    · rw [hex]
      rw [List.append_assoc] at i2
      exact i2
/-- hints: what; numbers; hints of sums; a sum -/
abbrev zu_Hn : Type := Nat × List Nat × List (List Nat) × zl_E
/-- two elements are the same: the first number 0 both of the world ahead, 1 both of the one behind, 2 one of each, of another row, 3 (4) the place is below (above) the one that is written -/
def zu_lk (B : List (Int × Int)) (C : List zl_E) (T0 T1 : zu_Tb) (r : Nat) (j : zl_E) (h : zu_Hn) : Option (List zl_E) :=
  match (cond (Nat.beq (h.2.1.getD 0 0) 1) T1 T0)[h.2.1.getD 1 0]?, (cond (Nat.beq (h.2.1.getD 0 0) 0) T0 T1)[h.2.1.getD 2 0]? with
  | some x, some y => cond ((Nat.beq x.1 y.1 && (zl_en B C (h.2.2.1.getD 0 []) (zl_sub x.2.1 y.2.1) && zl_en B C (h.2.2.1.getD 1 []) (zl_sub y.2.1 x.2.1))) && cond (Nat.ble (h.2.1.getD 0 0) 1) true (cond (Nat.beq (h.2.1.getD 0 0) 2) (!(Nat.beq x.1 r)) (zl_en B C (h.2.2.1.getD 2 []) x.2.1 && cond (Nat.beq (h.2.1.getD 0 0) 3) (zl_en B C (h.2.2.1.getD 3 []) (zl_sub (zl_sub j x.2.1) (zl_con 1))) (zl_en B C (h.2.2.1.getD 3 []) (zl_sub (zl_sub x.2.1 j) (zl_con 1)))))) (some [zl_sub (zl_sym x.2.2) (zl_sym y.2.2), zl_sub (zl_sym y.2.2) (zl_sym x.2.2)]) none
  | _, _ => none
theorem zu_lk_ok {B : List (Int × Int)} {C : List zl_E} {T0 T1 : zu_Tb} {r : Nat} {j : zl_E} {h : zu_Hn} {cs : List zl_E} {s : Nat → Int} {w w' : zz_W} (hh : zu_lk B C T0 T1 r j h = some cs) (hB : zl_in s B) (hC : zk_cs s C) (h0 : ∀ x ∈ T0, s x.2.2 = zk_el w x.1 (zl_ev s x.2.1)) (h1 : ∀ x ∈ T1, s x.2.2 = zk_el w' x.1 (zl_ev s x.2.1)) (hw : ∀ (a : Nat) (x : Int), (a ≠ r ∨ (0 ≤ x ∧ x ≠ zl_ev s j)) → zk_el w' a x = zk_el w a x) : zk_cs s cs := by
  unfold zu_lk at hh
  split at hh
  · rename_i x y hx hy
    obtain ⟨hb, hh⟩ := zz_cond hh
    cases hh
    obtain ⟨hb, hc⟩ := zz_and hb
    obtain ⟨b1, hb⟩ := zz_and hb
    obtain ⟨b2, b3⟩ := zz_and hb
    have c2 := zl_en_ok hB hC b2
    have c3 := zl_en_ok hB hC b3
    rw [zl_sub_ev] at c2 c3
    have hpl : zl_ev s x.2.1 = zl_ev s y.2.1 := by omega
    have hrow : x.1 = y.1 := zz_beq b1
    have key : s x.2.2 = s y.2.2 := by
      cases m1 : Nat.beq (h.2.1.getD 0 0) 1 with
      | true =>
        rw [m1] at hx
        have m0 : Nat.beq (h.2.1.getD 0 0) 0 = false := by rw [zz_beq m1]; rfl
        rw [m0] at hy
        rw [h1 x (List.mem_of_getElem? hx), h1 y (List.mem_of_getElem? hy), hrow, hpl]
      | false =>
        rw [m1] at hx
        have hx := h0 x (List.mem_of_getElem? hx)
        cases m0 : Nat.beq (h.2.1.getD 0 0) 0 with
        | true =>
          rw [m0] at hy
          rw [hx, h0 y (List.mem_of_getElem? hy), hrow, hpl]
        | false =>
          rw [m0] at hy
          rw [hx, h1 y (List.mem_of_getElem? hy), ← hrow, ← hpl]
          refine (hw x.1 (zl_ev s x.2.1) ?_).symm
          have hle : Nat.ble (h.2.1.getD 0 0) 1 = false := by
            cases hb2 : Nat.ble (h.2.1.getD 0 0) 1 with
            | false => rfl
            | true =>
              have := zz_ble hb2
              have n0 : h.2.1.getD 0 0 ≠ 0 := fun e => by rw [e] at m0; exact absurd m0 (by decide)
              have n1 : h.2.1.getD 0 0 ≠ 1 := fun e => by rw [e] at m1; exact absurd m1 (by decide)
              omega
          rw [hle] at hc
          have hc : cond (Nat.beq (h.2.1.getD 0 0) 2) (!(Nat.beq x.1 r)) (zl_en B C (h.2.2.1.getD 2 []) x.2.1 && cond (Nat.beq (h.2.1.getD 0 0) 3) (zl_en B C (h.2.2.1.getD 3 []) (zl_sub (zl_sub j x.2.1) (zl_con 1))) (zl_en B C (h.2.2.1.getD 3 []) (zl_sub (zl_sub x.2.1 j) (zl_con 1)))) = true := hc
          cases m2 : Nat.beq (h.2.1.getD 0 0) 2 with
          | true =>
            rw [m2] at hc
            refine Or.inl (fun e => ?_)
            rw [e, Nat.beq_refl] at hc
            cases hc
          | false =>
            rw [m2] at hc
            obtain ⟨d1, d2⟩ := zz_and (show (zl_en B C (h.2.2.1.getD 2 []) x.2.1 && cond (Nat.beq (h.2.1.getD 0 0) 3) (zl_en B C (h.2.2.1.getD 3 []) (zl_sub (zl_sub j x.2.1) (zl_con 1))) (zl_en B C (h.2.2.1.getD 3 []) (zl_sub (zl_sub x.2.1 j) (zl_con 1)))) = true from hc)
            have d1 := zl_en_ok hB hC d1
            refine Or.inr ⟨d1, fun e => ?_⟩
            cases m3 : Nat.beq (h.2.1.getD 0 0) 3 with
            | true =>
              rw [m3] at d2
              have d2 := zl_en_ok hB hC (show zl_en B C (h.2.2.1.getD 3 []) (zl_sub (zl_sub j x.2.1) (zl_con 1)) = true from d2)
              rw [zl_sub_ev, zl_sub_ev, zl_con_ev] at d2
              omega
            | false =>
              rw [m3] at d2
              have d2 := zl_en_ok hB hC (show zl_en B C (h.2.2.1.getD 3 []) (zl_sub (zl_sub x.2.1 j) (zl_con 1)) = true from d2)
              rw [zl_sub_ev, zl_sub_ev, zl_con_ev] at d2
              omega
    intro c hc2
    rcases List.mem_cons.mp hc2 with e | hc2
    · rw [e, zl_sub_ev, zl_sym_ev, zl_sym_ev]
      omega
    · rw [List.mem_singleton.mp hc2, zl_sub_ev, zl_sym_ev, zl_sym_ev]
      omega
  · cases hh
/-- goes on by hints: 0 the end, 1 a sum's sign, 2 two elements are the same, else the cases of the law that is there -/
def zu_go (B : List (Int × Int)) (T0 T1 : zu_Tb) (r : Nat) (j : zl_E) (ds0 ds1 : List (List zl_E)) (t0 t1 : List zl_E) : Nat → List zl_E → List zu_Hn → Option (List zu_Hn)
  | 0, _, _ => none
  | _ + 1, _, [] => none
  | f + 1, C, h :: hs => cond (Nat.beq h.1 0) (cond (zk_gl B C t1 ds1 (h.2.1.getD 0 0, h.2.2.1)) (some hs) none)
      (cond (Nat.beq h.1 1) (match zu_go B T0 T1 r j ds0 ds1 t0 t1 f (h.2.2.2 :: C) hs with
        | some hs' => zu_go B T0 T1 r j ds0 ds1 t0 t1 f (zl_sub (zl_con (-1)) h.2.2.2 :: C) hs'
        | none => none)
      (cond (Nat.beq h.1 2) (match zu_lk B C T0 T1 r j h with
        | some cs => zu_go B T0 T1 r j ds0 ds1 t0 t1 f (cs ++ C) hs
        | none => none)
      (ds0.foldl (fun o d => o.bind (fun hs' => zu_go B T0 T1 r j ds0 ds1 t0 t1 f (d.map (zl_subst t0) ++ C) hs')) (some hs))))
theorem zu_fold0 {α β : Type} {G : α → β → Option β} : ∀ (l : List α), l.foldl (fun o d => o.bind (G d)) (none : Option β) = none
  | [] => rfl
  | _ :: l => zu_fold0 l
theorem zu_fold {α β : Type} {G : α → β → Option β} : ∀ {ds : List α} {o : Option β} {z : β}, ds.foldl (fun o d => o.bind (G d)) o = some z → ∀ d ∈ ds, ∃ a b, G d a = some b
  | [], _, _, _, d, hd => absurd hd List.not_mem_nil
  | d0 :: ds, o, z, h, d, hd => by
    rcases List.mem_cons.mp hd with e | hd
    · subst e
      cases o with
      | none =>
        have h : (none : Option β) = some z := (zu_fold0 (G := G) ds).symm.trans h
        cases h
      | some a =>
        cases hg : G d a with
        | some b => exact ⟨a, b, hg⟩
        | none =>
          have h : ds.foldl (fun o d => o.bind (G d)) (G d a) = some z := h
          rw [hg, zu_fold0] at h
          cases h
    · exact zu_fold (ds := ds) h d hd
theorem zu_go_ok {B : List (Int × Int)} {T0 T1 : zu_Tb} {r : Nat} {j : zl_E} {ds0 ds1 : List (List zl_E)} {t0 t1 : List zl_E} {s : Nat → Int} {w w' : zz_W} (hB : zl_in s B) (h0 : ∀ x ∈ T0, s x.2.2 = zk_el w x.1 (zl_ev s x.2.1)) (h1 : ∀ x ∈ T1, s x.2.2 = zk_el w' x.1 (zl_ev s x.2.1)) (hw : ∀ (a : Nat) (x : Int), (a ≠ r ∨ (0 ≤ x ∧ x ≠ zl_ev s j)) → zk_el w' a x = zk_el w a x) (wd : ds0.all (fun d => d.all (fun c => Nat.ble (zl_mx c.2) t0.length)) = true) (hd : ∃ d ∈ ds0, zk_cs (zk_u s t0) d) :
    ∀ {f : Nat} {C : List zl_E} {hs hs' : List zu_Hn}, zu_go B T0 T1 r j ds0 ds1 t0 t1 f C hs = some hs' → zk_cs s C → ∃ d ∈ ds1, zk_cs (zk_u s t1) d
  | 0, _, _, _, h, _ => by cases h
  | _ + 1, _, [], _, h, _ => by cases h
  | f + 1, C, x :: hs, hs', h, hC => by
    rw [zu_go] at h
    cases b0 : Nat.beq x.1 0 with
    | true =>
      rw [b0] at h
      obtain ⟨hg, -⟩ := zz_cond (show cond (zk_gl B C t1 ds1 (x.2.1.getD 0 0, x.2.2.1)) (some hs) none = some hs' from h)
      exact zk_gl_ok hB hC hg
    | false =>
      rw [b0] at h
      cases b1 : Nat.beq x.1 1 with
      | true =>
        rw [b1] at h
        have h : (match zu_go B T0 T1 r j ds0 ds1 t0 t1 f (x.2.2.2 :: C) hs with
          | some hs' => zu_go B T0 T1 r j ds0 ds1 t0 t1 f (zl_sub (zl_con (-1)) x.2.2.2 :: C) hs'
          | none => none) = some hs' := h
        split at h
        · rename_i hs2 hg
          by_cases hsg : 0 ≤ zl_ev s x.2.2.2
          · refine zu_go_ok hB h0 h1 hw wd hd hg (fun c hc => ?_)
            rcases List.mem_cons.mp hc with e | hc
            · rw [e]
              exact hsg
            · exact hC c hc
          · refine zu_go_ok hB h0 h1 hw wd hd h (fun c hc => ?_)
            rcases List.mem_cons.mp hc with e | hc
            · rw [e, zl_sub_ev, zl_con_ev]
              omega
            · exact hC c hc
        · cases h
      | false =>
        rw [b1] at h
        cases b2 : Nat.beq x.1 2 with
        | true =>
          rw [b2] at h
          have h : (match zu_lk B C T0 T1 r j x with
            | some cs => zu_go B T0 T1 r j ds0 ds1 t0 t1 f (cs ++ C) hs
            | none => none) = some hs' := h
          split at h
          · rename_i cs hg
            have hcs := zu_lk_ok hg hB hC h0 h1 hw
            refine zu_go_ok hB h0 h1 hw wd hd h (fun c hc => ?_)
            rcases List.mem_append.mp hc with hc | hc
            · exact hcs c hc
            · exact hC c hc
          · cases h
        | false =>
          rw [b2] at h
          have h : ds0.foldl (fun o d => o.bind (fun hs' => zu_go B T0 T1 r j ds0 ds1 t0 t1 f (d.map (zl_subst t0) ++ C) hs')) (some hs) = some hs' := h
          obtain ⟨d, d1, d2⟩ := hd
          obtain ⟨a, b, hab⟩ := zu_fold (G := fun d hs' => zu_go B T0 T1 r j ds0 ds1 t0 t1 f (d.map (zl_subst t0) ++ C) hs') h d d1
          refine zu_go_ok hB h0 h1 hw wd ⟨d, d1, d2⟩ hab (fun c hc => ?_)
          rcases List.mem_append.mp hc with hc | hc
          · obtain ⟨c0, c1, c2⟩ := List.mem_map.mp hc
            subst c2
            rw [zl_subst_ev (u := zk_u s t0) (zz_ble (List.all_eq_true.mp (List.all_eq_true.mp wd d d1) c0 c1)) zk_u_at]
            exact d2 c0 c1
          · exact hC c hc
def zu_i32 (n : Nat) : List (Int × Int) := List.replicate n (-2147483648, 2147483647)
def zu_nb (Ns : List Nat) : List (Int × Int) := Ns.map (fun (N : Nat) => ((0 : Int), (N : Int) - 1))
theorem zu_ix_in : ∀ {Ns : List Nat} {ix : List Int}, zu_ix Ns ix → zq_in ix (zu_nb Ns)
  | [], [], _ => zq_in_nil
  | [], _ :: _, h => by cases h.1
  | _ :: _, [], h => by cases h.1
  | N :: Ns, x :: ix, h => by
    refine zq_in_cons ?_ (zu_ix_in ⟨Nat.succ.inj h.1, fun k N hk => h.2 (k + 1) N hk⟩)
    have h0 : 0 ≤ x ∧ x < (N : Int) := h.2 0 N rfl
    show (0 : Int) ≤ x ∧ x ≤ (N : Int) - 1
    omega
def zu_nle : List Nat → List Nat → Bool
  | [], [] => true
  | a :: l, b :: m => Nat.ble a b && zu_nle l m
  | _, _ => false
theorem zu_nle_ok : ∀ {A B : List Nat} {ix : List Int}, zu_nle A B = true → zu_ix A ix → zu_ix B ix
  | [], [], _, _, h => h
  | [], _ :: _, _, h, _ => by cases h
  | _ :: _, [], _, h, _ => by cases h
  | a :: l, b :: m, [], _, h => by cases h.1
  | a :: l, b :: m, x :: ix, hb, h => by
    obtain ⟨b1, b2⟩ := zz_and hb
    have ih := zu_nle_ok (ix := ix) b2 ⟨Nat.succ.inj h.1, fun k N hk => h.2 (k + 1) N hk⟩
    refine ⟨by rw [List.length_cons, List.length_cons, ih.1], fun k N hk => ?_⟩
    cases k with
    | zero =>
      cases hk
      have h0 : 0 ≤ x ∧ x < (a : Int) := h.2 0 a rfl
      have := zz_ble b1
      show 0 ≤ x ∧ x < (b : Int)
      omega
    | succ k => exact ih.2 k N hk
def zu_B (Ns : List Nat) (n0 n1 m0 m1 : Nat) (BX : List (Int × Int)) : List (Int × Int) := List.replicate m0 (0, 4294967295) ++ (List.replicate m1 (0, 4294967295) ++ (BX ++ (zu_nb Ns ++ (zu_i32 n0 ++ zu_i32 n1))))
def zu_m0 (ni m0 m1 x : Nat) : List zl_E := zk_syms (m0 + m1 + x) ni ++ zk_syms 0 m0
def zu_m1 (ni m0 m1 x : Nat) : List zl_E := zk_syms (m0 + m1 + x) ni ++ zk_syms m0 m1
theorem zu_exi {w : zz_W} : ∀ {S : List (Nat × zl_E)} {l : List Int} {a : Nat}, a = l.length → zq_in ((zu_ex w S l).drop a) (zu_i32 S.length)
  | [], l, a, h => by
    subst h
    show zq_in (l.drop l.length) []
    rw [List.drop_length]
    exact zq_in_nil
  | q :: S, l, a, h => by
    subst h
    show zq_in ((zu_ex w S (l ++ [zk_el w q.1 (zl_ev (fun m => l.getD m 0) q.2)])).drop l.length) (zu_i32 (S.length + 1))
    have hl : l.length < (zu_ex w S (l ++ [zk_el w q.1 (zl_ev (fun m => l.getD m 0) q.2)])).length := by
      rw [zu_ex_len]
      simp
      omega
    rw [List.drop_eq_getElem_cons hl]
    unfold zu_i32
    rw [List.replicate_succ]
    refine zq_in_cons ?_ ?_
    · have e : (zu_ex w S (l ++ [zk_el w q.1 (zl_ev (fun m => l.getD m 0) q.2)])).getD l.length 0 = zk_el w q.1 (zl_ev (fun m => l.getD m 0) q.2) := by
        rw [zu_ex_pre (by simp), zq_gr (k := 0) (n := l.length) rfl]
        rfl
      rw [List.getD_eq_getElem?_getD, List.getElem?_eq_getElem hl] at e
      have e : (zu_ex w S (l ++ [zk_el w q.1 (zl_ev (fun m => l.getD m 0) q.2)]))[l.length] = zk_el w q.1 (zl_ev (fun m => l.getD m 0) q.2) := e
      rw [e]
      exact zq_el32 w _ _
    · exact zu_exi (w := w) (S := S) (l := l ++ [zk_el w q.1 (zl_ev (fun m => l.getD m 0) q.2)]) (a := l.length + 1) (by simp)
theorem zu_core {S0 S1 : List (Nat × zl_E)} {m0 m1 f : Nat} {Ns : List Nat} {BX : List (Int × Int)} {X0 X1 : zu_Tb} {r : Nat} {j : zl_E} {C : List zl_E} {ds0 ds1 : List (List zl_E)} {hs hs' : List zu_Hn}
    (hg : zu_go (zu_B Ns S0.length S1.length m0 m1 BX) (zu_tb S0 (zu_m0 Ns.length m0 m1 BX.length) (m0 + m1 + BX.length + Ns.length) ++ X0) (zu_tb S1 (zu_m1 Ns.length m0 m1 BX.length) (m0 + m1 + BX.length + Ns.length + S0.length) ++ X1) r j ds0 ds1 (zu_m0 Ns.length m0 m1 BX.length ++ zk_syms (m0 + m1 + BX.length + Ns.length) S0.length) (zu_m1 Ns.length m0 m1 BX.length ++ zk_syms (m0 + m1 + BX.length + Ns.length + S0.length) S1.length) f C hs = some hs')
    (wf0 : zu_wf S0 (Ns.length + m0) = true) (wf1 : zu_wf S1 (Ns.length + m1) = true) (wd : ds0.all (fun d => d.all (fun c => Nat.ble (zl_mx c.2) (Ns.length + m0 + S0.length))) = true)
    {ps qs xs ix : List Int} {w w' : zz_W} (hp : zq_in ps (List.replicate m0 (0, 4294967295))) (hq : zq_in qs (List.replicate m1 (0, 4294967295))) (hx : zq_in xs BX) (hi : zu_ix Ns ix)
    (h0 : ∀ y ∈ X0, (ps ++ (qs ++ (xs ++ (ix ++ ((zu_ex w S0 (ix ++ ps)).drop (Ns.length + m0) ++ (zu_ex w' S1 (ix ++ qs)).drop (Ns.length + m1)))))).getD y.2.2 0 = zk_el w y.1 (zl_ev (fun m => (ps ++ (qs ++ (xs ++ (ix ++ ((zu_ex w S0 (ix ++ ps)).drop (Ns.length + m0) ++ (zu_ex w' S1 (ix ++ qs)).drop (Ns.length + m1)))))).getD m 0) y.2.1))
    (h1 : ∀ y ∈ X1, (ps ++ (qs ++ (xs ++ (ix ++ ((zu_ex w S0 (ix ++ ps)).drop (Ns.length + m0) ++ (zu_ex w' S1 (ix ++ qs)).drop (Ns.length + m1)))))).getD y.2.2 0 = zk_el w' y.1 (zl_ev (fun m => (ps ++ (qs ++ (xs ++ (ix ++ ((zu_ex w S0 (ix ++ ps)).drop (Ns.length + m0) ++ (zu_ex w' S1 (ix ++ qs)).drop (Ns.length + m1)))))).getD m 0) y.2.1))
    (hw : ∀ (a : Nat) (x : Int), (a ≠ r ∨ (0 ≤ x ∧ x ≠ zl_ev (fun m => (ps ++ (qs ++ (xs ++ (ix ++ ((zu_ex w S0 (ix ++ ps)).drop (Ns.length + m0) ++ (zu_ex w' S1 (ix ++ qs)).drop (Ns.length + m1)))))).getD m 0) j)) → zk_el w' a x = zk_el w a x)
    (hC : zk_cs (fun m => (ps ++ (qs ++ (xs ++ (ix ++ ((zu_ex w S0 (ix ++ ps)).drop (Ns.length + m0) ++ (zu_ex w' S1 (ix ++ qs)).drop (Ns.length + m1)))))).getD m 0) C)
    (hd : ∃ d ∈ ds0, zk_cs (fun m => (zu_ex w S0 (ix ++ ps)).getD m 0) d) : ∃ d ∈ ds1, zk_cs (fun m => (zu_ex w' S1 (ix ++ qs)).getD m 0) d := by
  have lp : ps.length = m0 := by rw [hp.1, List.length_replicate]
  have lq : qs.length = m1 := by rw [hq.1, List.length_replicate]
  have lx : xs.length = BX.length := hx.1
  have hin := zu_ix_in hi
  have lix : ix.length = Ns.length := hi.1
  have e0 := zu_exi (w := w) (S := S0) (l := ix ++ ps) (a := Ns.length + m0) (by rw [List.length_append, lp, lix])
  have e1 := zu_exi (w := w') (S := S1) (l := ix ++ qs) (a := Ns.length + m1) (by rw [List.length_append, lq, lix])
  have l0 : ((zu_ex w S0 (ix ++ ps)).drop (Ns.length + m0)).length = S0.length := by
    rw [List.length_drop, zu_ex_len, List.length_append, lp, lix]
    omega
  have g0 : ∀ k, (zu_ex w S0 (ix ++ ps)).getD ((ix ++ ps).length + k) 0 = ((zu_ex w S0 (ix ++ ps)).drop (Ns.length + m0)).getD k 0 := fun k => by
    rw [List.getD_eq_getElem?_getD, List.getD_eq_getElem?_getD, List.getElem?_drop, List.length_append, lp, lix]
  have g1 : ∀ k, (zu_ex w' S1 (ix ++ qs)).getD ((ix ++ qs).length + k) 0 = ((zu_ex w' S1 (ix ++ qs)).drop (Ns.length + m1)).getD k 0 := fun k => by
    rw [List.getD_eq_getElem?_getD, List.getD_eq_getElem?_getD, List.getElem?_drop, List.length_append, lq, lix]
  generalize (zu_ex w S0 (ix ++ ps)).drop (Ns.length + m0) = el0 at *
  generalize (zu_ex w' S1 (ix ++ qs)).drop (Ns.length + m1) = el1 at *
  have hB := zq_in_app hp (zq_in_app hq (zq_in_app hx (zq_in_app hin (zq_in_app e0 e1))))
  have gp : ∀ m, m < m0 → (ps ++ (qs ++ (xs ++ (ix ++ (el0 ++ el1))))).getD (0 + m) 0 = ps.getD m 0 := fun m hm => by
    rw [Nat.zero_add, zq_gl (by omega)]
  have gq : ∀ m, m < m1 → (ps ++ (qs ++ (xs ++ (ix ++ (el0 ++ el1))))).getD (m0 + m) 0 = qs.getD m 0 := fun m hm => by
    rw [zq_gr (k := m) (by omega), zq_gl (by omega)]
  have gi : ∀ m n, n = m0 + m1 + BX.length + m → (ps ++ (qs ++ (xs ++ (ix ++ (el0 ++ el1))))).getD n 0 = (ix ++ (el0 ++ el1)).getD m 0 := fun m n hn => by
    rw [zq_gr (k := m1 + BX.length + m) (by omega), zq_gr (k := BX.length + m) (by omega), zq_gr (k := m) (by omega)]
  generalize hL : ps ++ (qs ++ (xs ++ (ix ++ (el0 ++ el1)))) = L at *
  have sx : zk_sl2 (fun m => L.getD m 0) (zk_syms (m0 + m1 + BX.length) Ns.length) ix := by
    have := zk_sl2_sy (s := fun m => L.getD m 0) (l := ix) (n := m0 + m1 + BX.length) (fun m hm => by
      show L.getD (m0 + m1 + BX.length + m) 0 = _
      rw [gi m _ rfl]
      exact zq_gl hm)
    rw [lix] at this
    exact this
  have s0 : zk_sl2 (fun m => L.getD m 0) (zu_m0 Ns.length m0 m1 BX.length) (ix ++ ps) := by
    refine zk_sl2_app sx ?_
    rw [← lp]
    exact zk_sl2_sy (fun m hm => gp m (by omega))
  have s1 : zk_sl2 (fun m => L.getD m 0) (zu_m1 Ns.length m0 m1 BX.length) (ix ++ qs) := by
    refine zk_sl2_app sx ?_
    rw [← lq]
    exact zk_sl2_sy (fun m hm => gq m (by omega))
  obtain ⟨t0, u0⟩ := zu_tb_ok (w := w) (s := fun m => L.getD m 0) (S := S0) (k := m0 + m1 + BX.length + Ns.length) (by rw [s0.1, List.length_append, lp, lix]; exact wf0) s0 (fun m hm => by
    rw [g0 m]
    show L.getD (m0 + m1 + BX.length + Ns.length + m) 0 = _
    rw [gi (Ns.length + m) _ (by omega), zq_gr (k := m) (by omega)]
    exact zq_gl (by omega))
  obtain ⟨t1, u1⟩ := zu_tb_ok (w := w') (s := fun m => L.getD m 0) (S := S1) (k := m0 + m1 + BX.length + Ns.length + S0.length) (by rw [s1.1, List.length_append, lq, lix]; exact wf1) s1 (fun m hm => by
    rw [g1 m]
    show L.getD (m0 + m1 + BX.length + Ns.length + S0.length + m) 0 = _
    rw [gi (Ns.length + (S0.length + m)) _ (by omega), zq_gr (k := S0.length + m) (by omega)]
    exact zq_gr (by omega))
  have r1 := zu_go_ok (s := fun m => L.getD m 0) (w := w) (w' := w') hB.2 (fun y hy => by
    rcases List.mem_append.mp hy with hy | hy
    · exact t0 y hy
    · exact h0 y hy) (fun y hy => by
    rcases List.mem_append.mp hy with hy | hy
    · exact t1 y hy
    · exact h1 y hy) hw (by
    rw [u0.1, zu_ex_len, List.length_append, lp, lix]
    exact wd) (by
    obtain ⟨d, d1, d2⟩ := hd
    refine ⟨d, d1, ?_⟩
    rw [zk_sl2_u u0]
    exact d2) hg hC
  obtain ⟨d, d1, d2⟩ := r1
  rw [zk_sl2_u u1] at d2
  exact ⟨d, d1, d2⟩
theorem zu_P_of {w : zz_W} {t : Nat} {P : Int} {ps : List Int} (hl : ps.length = (zu_T t).2.2.1) (hr : ∀ p ∈ ps, 0 ≤ p ∧ p < 4294967296) (hP : P = zq_cd ps) (h : zk_xe w (2000200 + t) P = 1) : zu_P (zu_T t) w ps := by
  rw [hP, zu_xe, ← hl, zq_dec_cd hr] at h
  exact zh_b1' h
theorem zu_one {s : Nat → Int} {w : zz_W} {t a : Nat} {qs : List Int} (hl : qs.length = (zu_T t).2.2.1) (h : ∀ k, k < (zu_T t).2.2.1 → s (a + k) = qs.getD k 0) (hr : ∀ p ∈ qs, 0 ≤ p ∧ p < 4294967296) (hP : zu_P (zu_T t) w qs) : zk_eF s [(2000200 + t, zq_cs (zu_T t).2.2.1 a, zl_con 1)] w := by
  refine zx_eF1 ?_ ?_ zx_eF0
  · show 0 ≤ zl_ev s (zq_cs (zu_T t).2.2.1 a)
    rw [zq_cs_ev hl h]
    exact zq_cd_nn hr
  · show zk_xe w (2000200 + t) (zl_ev s (zq_cs (zu_T t).2.2.1 a)) = zl_ev s (zl_con 1)
    rw [zq_cs_ev hl h, zl_con_ev, zu_xe, ← hl, zq_dec_cd hr]
    exact zh_b1 hP
/-- from nothing, or from one to another -/
def zu_Li (t : Nat) (C : List zl_E) : zx_L := zx_Lc [] (zu_T t).2.2.1 [] [] [] (zq_rg (zu_T t).2.2.1 0 ++ C.map (zl_subst (zk_syms 0 (zu_T t).2.2.1))) [([], [], [(2000200 + t, zq_cs (zu_T t).2.2.1 0, zl_con 1)], [])]
def zu_Lik (t : Nat) (C : List zl_E) (hs : List zu_Hn) : Bool := (zu_wf (zu_T t).1 ((zu_T t).2.1.length + (zu_T t).2.2.1) && C.all (fun c => Nat.ble (zl_mx c.2) (zu_T t).2.2.1)) && (zu_go (zu_B (zu_T t).2.1 0 (zu_T t).1.length 0 (zu_T t).2.2.1 []) (zu_tb [] (zu_m0 (zu_T t).2.1.length 0 (zu_T t).2.2.1 0) (0 + (zu_T t).2.2.1 + 0 + (zu_T t).2.1.length) ++ []) (zu_tb (zu_T t).1 (zu_m1 (zu_T t).2.1.length 0 (zu_T t).2.2.1 0) (0 + (zu_T t).2.2.1 + 0 + (zu_T t).2.1.length + 0) ++ []) 1000000 (zl_con 0) [[]] (zu_T t).2.2.2 (zu_m0 (zu_T t).2.1.length 0 (zu_T t).2.2.1 0 ++ zk_syms (0 + (zu_T t).2.2.1 + 0 + (zu_T t).2.1.length) 0) (zu_m1 (zu_T t).2.1.length 0 (zu_T t).2.2.1 0 ++ zk_syms (0 + (zu_T t).2.2.1 + 0 + (zu_T t).2.1.length + 0) (zu_T t).1.length) 400 C hs).isSome
theorem zu_Li_ok {t : Nat} {C : List zl_E} {hs : List zu_Hn} {PT : Nat → zz_W → Prop} (h : zu_Lik t C hs = true) : zx_Lok 64 zHT PT (zu_Li t C) := by
  unfold zu_Lik at h
  obtain ⟨h1, h2⟩ := zz_and h
  obtain ⟨b1, b2⟩ := zz_and h1
  obtain ⟨hs', h2⟩ := Option.isSome_iff_exists.mp h2
  refine zx_Lc_ok (fun w hI _ qs hl _ he hg => ?_)
  have hvl : ∀ ca : List zx_Ca, zx_vl w ([], (zu_T t).2.2.1, [], [], ca) qs = qs ++ [] := fun ca => rfl
  rw [hvl] at hg ⊢
  have hs0 : ∀ k, k < (zu_T t).2.2.1 → (qs ++ []).getD (0 + k) 0 = qs.getD k 0 := fun k hk => by
    rw [Nat.zero_add]
    exact zq_gl (by omega)
  have hr := zq_rg_ok hl hs0 (fun e he => hg e (List.mem_append_left _ he))
  have hc := zq_sh hl hs0 b2 (fun e he => hg e (List.mem_append_right _ he))
  refine zx_one (l := qs ++ []) _ List.mem_cons_self rfl zx_cs0 (zu_one hl hs0 hr (fun i hi => ?_)) zx_k0
  refine zu_core (S0 := []) (m0 := 0) (ps := []) (xs := []) (BX := []) (X0 := []) (X1 := []) (w := w) (w' := w) h2 rfl b1 rfl zq_in_nil (zq_in_rep hl hr) zq_in_nil hi (fun y hy => absurd hy List.not_mem_nil) (fun y hy => absurd hy List.not_mem_nil) (fun _ _ _ => rfl) (fun c hm => ?_) ⟨[], List.mem_cons_self, fun c hm => by cases hm⟩
  rw [List.nil_append, List.nil_append, zq_wide (by rw [hl]; exact zz_ble (List.all_eq_true.mp b2 c hm))]
  exact hc c hm
def zu_Lv (t0 t1 : Nat) (C : List zl_E) : zx_L := zx_Lc [] (1 + ((zu_T t0).2.2.1 + (zu_T t1).2.2.1)) [(2000200 + t0, 0)] [] [zl_sub (zl_sym 0) (zq_cs (zu_T t0).2.2.1 1), zl_sub (zl_sym (1 + ((zu_T t0).2.2.1 + (zu_T t1).2.2.1))) (zl_con 1)] (zq_rg ((zu_T t0).2.2.1 + (zu_T t1).2.2.1) 1 ++ C.map (zl_subst (zk_syms 1 ((zu_T t0).2.2.1 + (zu_T t1).2.2.1)))) [([], [], [(2000200 + t1, zq_cs (zu_T t1).2.2.1 (1 + (zu_T t0).2.2.1), zl_con 1)], [])]
def zu_Lvk (t0 t1 : Nat) (C : List zl_E) (hs : List zu_Hn) : Bool := ((zu_nle (zu_T t1).2.1 (zu_T t0).2.1 && zu_wf (zu_T t0).1 ((zu_T t1).2.1.length + (zu_T t0).2.2.1)) && (zu_wf (zu_T t1).1 ((zu_T t1).2.1.length + (zu_T t1).2.2.1) && ((zu_T t0).2.2.2.all (fun d => d.all (fun c => Nat.ble (zl_mx c.2) ((zu_T t1).2.1.length + (zu_T t0).2.2.1 + (zu_T t0).1.length))) && C.all (fun c => Nat.ble (zl_mx c.2) ((zu_T t0).2.2.1 + (zu_T t1).2.2.1))))) &&
  (zu_go (zu_B (zu_T t1).2.1 (zu_T t0).1.length (zu_T t1).1.length (zu_T t0).2.2.1 (zu_T t1).2.2.1 []) (zu_tb (zu_T t0).1 (zu_m0 (zu_T t1).2.1.length (zu_T t0).2.2.1 (zu_T t1).2.2.1 0) ((zu_T t0).2.2.1 + (zu_T t1).2.2.1 + 0 + (zu_T t1).2.1.length) ++ []) (zu_tb (zu_T t1).1 (zu_m1 (zu_T t1).2.1.length (zu_T t0).2.2.1 (zu_T t1).2.2.1 0) ((zu_T t0).2.2.1 + (zu_T t1).2.2.1 + 0 + (zu_T t1).2.1.length + (zu_T t0).1.length) ++ []) 1000000 (zl_con 0) (zu_T t0).2.2.2 (zu_T t1).2.2.2 (zu_m0 (zu_T t1).2.1.length (zu_T t0).2.2.1 (zu_T t1).2.2.1 0 ++ zk_syms ((zu_T t0).2.2.1 + (zu_T t1).2.2.1 + 0 + (zu_T t1).2.1.length) (zu_T t0).1.length) (zu_m1 (zu_T t1).2.1.length (zu_T t0).2.2.1 (zu_T t1).2.2.1 0 ++ zk_syms ((zu_T t0).2.2.1 + (zu_T t1).2.2.1 + 0 + (zu_T t1).2.1.length + (zu_T t0).1.length) (zu_T t1).1.length) 400 C hs).isSome
theorem zu_Lv_ok {t0 t1 : Nat} {C : List zl_E} {hs : List zu_Hn} {PT : Nat → zz_W → Prop} (h : zu_Lvk t0 t1 C hs = true) : zx_Lok 64 zHT PT (zu_Lv t0 t1 C) := by
  unfold zu_Lvk at h
  obtain ⟨h1, h2⟩ := zz_and h
  obtain ⟨hs', h2⟩ := Option.isSome_iff_exists.mp h2
  obtain ⟨hA, hB⟩ := zz_and h1
  obtain ⟨b1, w0⟩ := zz_and hA
  obtain ⟨w1, hB⟩ := zz_and hB
  obtain ⟨wd, b3⟩ := zz_and hB
  refine zx_Lc_ok (fun w hI _ ins hl _ he hg => ?_)
  obtain ⟨P, pq, rfl, hpq⟩ := zq_spl1 hl
  obtain ⟨ps, qs, rfl, hp, hq⟩ := zq_spl hpq
  have hvl : ∀ ca : List zx_Ca, zx_vl w ([], 1 + ((zu_T t0).2.2.1 + (zu_T t1).2.2.1), [(2000200 + t0, 0)], [], ca) (P :: (ps ++ qs)) = P :: ((ps ++ qs) ++ [zk_xe w (2000200 + t0) P]) := fun ca => by
    show (P :: (ps ++ qs)) ++ ([zk_xe w (2000200 + t0) P] ++ ([] : List Int)) = _
    rw [List.append_nil]
    rfl
  rw [hvl] at he hg ⊢
  have lpq : (ps ++ qs).length = (zu_T t0).2.2.1 + (zu_T t1).2.2.1 := by rw [List.length_append, hp, hq]
  have gA : ∀ k, k < (zu_T t0).2.2.1 + (zu_T t1).2.2.1 → (P :: ((ps ++ qs) ++ [zk_xe w (2000200 + t0) P])).getD (1 + k) 0 = (ps ++ qs).getD k 0 := fun k hk => by
    rw [show 1 + k = k + 1 by omega]
    show ((ps ++ qs) ++ [zk_xe w (2000200 + t0) P]).getD k 0 = _
    exact zq_gl (by omega)
  have gp : ∀ k, k < (zu_T t0).2.2.1 → (P :: ((ps ++ qs) ++ [zk_xe w (2000200 + t0) P])).getD (1 + k) 0 = ps.getD k 0 := fun k hk => by
    rw [gA k (by omega), zq_gl (by omega)]
  have gq : ∀ k, k < (zu_T t1).2.2.1 → (P :: ((ps ++ qs) ++ [zk_xe w (2000200 + t0) P])).getD (1 + (zu_T t0).2.2.1 + k) 0 = qs.getD k 0 := fun k hk => by
    rw [show 1 + (zu_T t0).2.2.1 + k = 1 + ((zu_T t0).2.2.1 + k) by omega, gA _ (by omega), zq_gr (k := k) (by omega)]
  have hr := zq_rg_ok lpq gA (fun e he => hg e (List.mem_append_left _ he))
  have hc := zq_sh lpq gA b3 (fun e he => hg e (List.mem_append_right _ he))
  have hrp : ∀ p ∈ ps, 0 ≤ p ∧ p < 4294967296 := fun p hm => hr p (List.mem_append_left _ hm)
  have hrq : ∀ p ∈ qs, 0 ≤ p ∧ p < 4294967296 := fun p hm => hr p (List.mem_append_right _ hm)
  have e0 := he _ List.mem_cons_self
  have e1 := he _ (List.mem_cons_of_mem _ List.mem_cons_self)
  rw [zl_sub_ev, zl_sym_ev, zq_cs_ev hp gp] at e0
  rw [zl_sub_ev, zl_sym_ev, zl_con_ev] at e1
  have e0 : P - zq_cd ps = 0 := e0
  have ev : (P :: ((ps ++ qs) ++ [zk_xe w (2000200 + t0) P])).getD (1 + ((zu_T t0).2.2.1 + (zu_T t1).2.2.1)) 0 = zk_xe w (2000200 + t0) P := by
    rw [show 1 + ((zu_T t0).2.2.1 + (zu_T t1).2.2.1) = ((zu_T t0).2.2.1 + (zu_T t1).2.2.1) + 1 by omega]
    show ((ps ++ qs) ++ [zk_xe w (2000200 + t0) P]).getD ((zu_T t0).2.2.1 + (zu_T t1).2.2.1) 0 = _
    rw [zq_gr (k := 0) (by omega)]
    rfl
  have hP := zu_P_of hp hrp (show P = zq_cd ps by omega) (show zk_xe w (2000200 + t0) P = 1 from by
    have e1 : (P :: ((ps ++ qs) ++ [zk_xe w (2000200 + t0) P])).getD (1 + ((zu_T t0).2.2.1 + (zu_T t1).2.2.1)) 0 - 1 = 0 := e1
    rw [ev] at e1
    omega)
  refine zx_one (l := P :: ((ps ++ qs) ++ [zk_xe w (2000200 + t0) P])) _ List.mem_cons_self rfl zx_cs0 (zu_one hq gq hrq (fun i hi => ?_)) zx_k0
  refine zu_core (xs := []) (BX := []) (X0 := []) (X1 := []) (w := w) (w' := w) h2 w0 w1 wd (zq_in_rep hp hrp) (zq_in_rep hq hrq) zq_in_nil hi (fun y hy => absurd hy List.not_mem_nil) (fun y hy => absurd hy List.not_mem_nil) (fun _ _ _ => rfl) (fun c hm => ?_) (hP i (zu_nle_ok b1 hi))
  rw [List.nil_append, ← List.append_assoc, zq_wide (by rw [lpq]; exact zz_ble (List.all_eq_true.mp b3 c hm))]
  exact hc c hm
/-- through a write of the row r: inputs the coded place, its parameters, the new ones, the place, places of known elements of the rows ex -/
def zu_xr : List Nat → Nat → List (Nat × Nat)
  | [], _ => []
  | a :: l, k => (a, k) :: zu_xr l (k + 1)
def zu_xt : List Nat → Nat → Nat → zu_Tb
  | [], _, _ => []
  | a :: l, x, k => (a, zl_sym x, k) :: zu_xt l (x + 1) (k + 1)
def zu_xv (w : zz_W) : List Nat → List Int → List Int
  | [], _ => []
  | a :: l, Y => zk_el w a (Y.getD 0 0) :: zu_xv w l (Y.drop 1)
theorem zu_xv_len {w : zz_W} : ∀ {l : List Nat} {Y : List Int}, (zu_xv w l Y).length = l.length
  | [], _ => rfl
  | a :: l, Y => by
    show (zu_xv w l (Y.drop 1)).length + 1 = l.length + 1
    rw [zu_xv_len]
theorem zu_xt_ok {w : zz_W} {s : Nat → Int} : ∀ {l : List Nat} {Y : List Int} {x k : Nat}, (∀ m, m < l.length → s (x + m) = Y.getD m 0) → (∀ m, m < l.length → s (k + m) = (zu_xv w l Y).getD m 0) → ∀ y ∈ zu_xt l x k, s y.2.2 = zk_el w y.1 (zl_ev s y.2.1)
  | [], _, _, _, _, _, y, hy => absurd hy List.not_mem_nil
  | a :: l, Y, x, k, h1, h2, y, hy => by
    rcases List.mem_cons.mp hy with e | hy
    · subst e
      have a1 : s x = Y.getD 0 0 := h1 0 (by simp)
      have a2 : s k = zk_el w a (Y.getD 0 0) := h2 0 (by simp)
      show s k = zk_el w a (zl_ev s (zl_sym x))
      rw [zl_sym_ev, a1, a2]
    · refine zu_xt_ok (Y := Y.drop 1) (fun m hm => ?_) (fun m hm => ?_) y hy
      · have := h1 (m + 1) (by simpa using hm)
        rw [show x + 1 + m = x + (m + 1) by omega, this, List.getD_eq_getElem?_getD, List.getD_eq_getElem?_getD, List.getElem?_drop, show 1 + m = m + 1 by omega]
      · have := h2 (m + 1) (by simpa using hm)
        rw [show k + 1 + m = k + (m + 1) by omega, this]
        rfl
theorem zu_xr_ok {w : zz_W} {I : List Int} : ∀ {l : List Nat} {Y : List Int} {k : Nat}, (l.all (fun a => Nat.blt a 1000000)) = true → (∀ m, m < l.length → I.getD (k + m) 0 = Y.getD m 0) → (zu_xr l k).map (fun q => zk_xe w q.1 (I.getD q.2 0)) = zu_xv w l Y
  | [], _, _, _, _ => rfl
  | a :: l, Y, k, hb, h => by
    rw [List.all_cons] at hb
    obtain ⟨b1, b2⟩ := zz_and hb
    have a1 : I.getD k 0 = Y.getD 0 0 := h 0 (by simp)
    show zk_xe w a (I.getD k 0) :: (zu_xr l (k + 1)).map (fun q => zk_xe w q.1 (I.getD q.2 0)) = zk_el w a (Y.getD 0 0) :: zu_xv w l (Y.drop 1)
    rw [zk_xe_r b1, a1, zu_xr_ok (Y := Y.drop 1) b2 (fun m hm => ?_)]
    have := h (m + 1) (by simpa using hm)
    rw [show k + 1 + m = k + (m + 1) by omega, this, List.getD_eq_getElem?_getD, List.getD_eq_getElem?_getD, List.getElem?_drop, show 1 + m = m + 1 by omega]
theorem zu_xv_in {w : zz_W} : ∀ {l : List Nat} {Y : List Int}, zq_in (zu_xv w l Y) (zu_i32 l.length)
  | [], _ => zq_in_nil
  | a :: l, Y => by
    show zq_in (zk_el w a (Y.getD 0 0) :: zu_xv w l (Y.drop 1)) (List.replicate (l.length + 1) (-2147483648, 2147483647))
    rw [List.replicate_succ]
    exact zq_in_cons (zq_el32 w _ _) zu_xv_in
def zu_BX (e : Nat) : List (Int × Int) := (0, 4294967295) :: (-2147483648, 2147483647) :: (List.replicate e (0, 4294967295) ++ zu_i32 e)
theorem zu_BX_len (e : Nat) : (zu_BX e).length = 2 + (e + e) := by
  unfold zu_BX zu_i32
  simp
  omega
def zu_sb (m e : Nat) : List zl_E := zk_syms 3 m ++ (zl_sym 0 :: zl_sym 1 :: (zk_syms (4 + m) e ++ zk_syms (5 + m + e) e))
def zu_Vw (r t0 t1 : Nat) (ex : List Nat) (C : List zl_E) : zx_V := zx_Vc r [] (1 + (((zu_T t0).2.2.1 + (zu_T t1).2.2.1) + (1 + ex.length))) ((2000200 + t0, 0) :: zu_xr ex (2 + ((zu_T t0).2.2.1 + (zu_T t1).2.2.1))) [zl_sub (zl_sym 2) (zq_cs (zu_T t0).2.2.1 3), zl_sub (zl_sym (4 + ((zu_T t0).2.2.1 + (zu_T t1).2.2.1) + ex.length)) (zl_con 1), zl_sub (zl_sym 0) (zl_sym (3 + ((zu_T t0).2.2.1 + (zu_T t1).2.2.1)))]
  (zq_rg (((zu_T t0).2.2.1 + (zu_T t1).2.2.1) + (1 + ex.length)) 3 ++ C.map (zl_subst (zu_sb ((zu_T t0).2.2.1 + (zu_T t1).2.2.1) ex.length))) [(2000200 + t1, zq_cs (zu_T t1).2.2.1 (3 + (zu_T t0).2.2.1), zl_con 1)]
def zu_Vwk (r t0 t1 : Nat) (ex : List Nat) (C : List zl_E) (hs : List zu_Hn) : Bool :=
  ((zu_nle (zu_T t1).2.1 (zu_T t0).2.1 && (zu_wf (zu_T t0).1 ((zu_T t1).2.1.length + (zu_T t0).2.2.1) && (Nat.blt r 1000000 && ex.all (fun a => Nat.blt a 1000000)))) && (zu_wf (zu_T t1).1 ((zu_T t1).2.1.length + (zu_T t1).2.2.1) && ((zu_T t0).2.2.2.all (fun d => d.all (fun c => Nat.ble (zl_mx c.2) ((zu_T t1).2.1.length + (zu_T t0).2.2.1 + (zu_T t0).1.length))) && C.all (fun c => Nat.ble (zl_mx c.2) ((zu_T t0).2.2.1 + (zu_T t1).2.2.1 + (2 + (ex.length + ex.length))))))) &&
  (zu_go (zu_B (zu_T t1).2.1 (zu_T t0).1.length (zu_T t1).1.length (zu_T t0).2.2.1 (zu_T t1).2.2.1 (zu_BX ex.length)) (zu_tb (zu_T t0).1 (zu_m0 (zu_T t1).2.1.length (zu_T t0).2.2.1 (zu_T t1).2.2.1 (zu_BX ex.length).length) ((zu_T t0).2.2.1 + (zu_T t1).2.2.1 + (zu_BX ex.length).length + (zu_T t1).2.1.length) ++ zu_xt ex ((zu_T t0).2.2.1 + (zu_T t1).2.2.1 + 2) ((zu_T t0).2.2.1 + (zu_T t1).2.2.1 + 2 + ex.length)) (zu_tb (zu_T t1).1 (zu_m1 (zu_T t1).2.1.length (zu_T t0).2.2.1 (zu_T t1).2.2.1 (zu_BX ex.length).length) ((zu_T t0).2.2.1 + (zu_T t1).2.2.1 + (zu_BX ex.length).length + (zu_T t1).2.1.length + (zu_T t0).1.length) ++ [(r, zl_sym ((zu_T t0).2.2.1 + (zu_T t1).2.2.1), (zu_T t0).2.2.1 + (zu_T t1).2.2.1 + 1)]) r (zl_sym ((zu_T t0).2.2.1 + (zu_T t1).2.2.1)) (zu_T t0).2.2.2 (zu_T t1).2.2.2 (zu_m0 (zu_T t1).2.1.length (zu_T t0).2.2.1 (zu_T t1).2.2.1 (zu_BX ex.length).length ++ zk_syms ((zu_T t0).2.2.1 + (zu_T t1).2.2.1 + (zu_BX ex.length).length + (zu_T t1).2.1.length) (zu_T t0).1.length) (zu_m1 (zu_T t1).2.1.length (zu_T t0).2.2.1 (zu_T t1).2.2.1 (zu_BX ex.length).length ++ zk_syms ((zu_T t0).2.2.1 + (zu_T t1).2.2.1 + (zu_BX ex.length).length + (zu_T t1).2.1.length + (zu_T t0).1.length) (zu_T t1).1.length) 400 C hs).isSome
theorem zu_Vw_ok {r t0 t1 : Nat} {ex : List Nat} {C : List zl_E} {hs : List zu_Hn} {PT : Nat → zz_W → Prop} (h : zu_Vwk r t0 t1 ex C hs = true) : zx_Vok 64 zHT PT (zu_Vw r t0 t1 ex C) := by
  unfold zu_Vwk at h
  obtain ⟨h1, h2⟩ := zz_and h
  obtain ⟨hs', h2⟩ := Option.isSome_iff_exists.mp h2
  obtain ⟨hA, hB⟩ := zz_and h1
  obtain ⟨b1, hA⟩ := zz_and hA
  obtain ⟨w0, hA⟩ := zz_and hA
  obtain ⟨br, be⟩ := zz_and hA
  obtain ⟨w1, hB⟩ := zz_and hB
  obtain ⟨wd, b3⟩ := zz_and hB
  refine zx_Vc_ok (fun w w' j ins hI hI' hj0 hw _ hl he hg => ?_)
  obtain ⟨P, pq, rfl, hpq⟩ := zq_spl1 hl
  obtain ⟨pq2, JX, rfl, hpq2, hJX⟩ := zq_spl hpq
  obtain ⟨J, Xs, rfl, hXs⟩ := zq_spl1 hJX
  obtain ⟨ps, qs, rfl, hp, hq⟩ := zq_spl hpq2
  have lpq : (ps ++ qs).length = (zu_T t0).2.2.1 + (zu_T t1).2.2.1 := by rw [List.length_append, hp, hq]
  have hvl : ∀ (ges : List zl_E) (ee : List zk_E1), zx_vv w w' (r, [], 1 + (((zu_T t0).2.2.1 + (zu_T t1).2.2.1) + (1 + ex.length)), (2000200 + t0, 0) :: zu_xr ex (2 + ((zu_T t0).2.2.1 + (zu_T t1).2.2.1)), ges, ee) j (P :: ((ps ++ qs) ++ (J :: Xs))) = j :: zk_el w' r j :: P :: (((ps ++ qs) ++ (J :: Xs)) ++ (zk_xe w (2000200 + t0) P :: zu_xv w ex Xs)) := fun ges ee => by
    show j :: zk_el w' r j :: ((P :: ((ps ++ qs) ++ (J :: Xs))) ++ (zk_xe w (2000200 + t0) P :: (zu_xr ex (2 + ((zu_T t0).2.2.1 + (zu_T t1).2.2.1))).map (fun q => zk_xe w q.1 ((P :: ((ps ++ qs) ++ (J :: Xs))).getD q.2 0)))) = _
    rw [zu_xr_ok (Y := Xs) be (fun m hm => ?_)]
    · rfl
    · rw [show 2 + ((zu_T t0).2.2.1 + (zu_T t1).2.2.1) + m = ((zu_T t0).2.2.1 + (zu_T t1).2.2.1 + (m + 1)) + 1 by omega]
      show ((ps ++ qs) ++ (J :: Xs)).getD ((zu_T t0).2.2.1 + (zu_T t1).2.2.1 + (m + 1)) 0 = _
      rw [zq_gr (k := m + 1) (by omega)]
      rfl
  rw [hvl] at he hg ⊢
  have lA : ((ps ++ qs) ++ (J :: Xs)).length = (zu_T t0).2.2.1 + (zu_T t1).2.2.1 + (1 + ex.length) := by
    rw [List.length_append, lpq, List.length_cons, hXs]
    omega
  have gA : ∀ k, k < (zu_T t0).2.2.1 + (zu_T t1).2.2.1 + (1 + ex.length) → (j :: zk_el w' r j :: P :: (((ps ++ qs) ++ (J :: Xs)) ++ (zk_xe w (2000200 + t0) P :: zu_xv w ex Xs))).getD (3 + k) 0 = ((ps ++ qs) ++ (J :: Xs)).getD k 0 := fun k hk => by
    rw [show 3 + k = k + 1 + 1 + 1 by omega]
    show (((ps ++ qs) ++ (J :: Xs)) ++ (zk_xe w (2000200 + t0) P :: zu_xv w ex Xs)).getD k 0 = _
    exact zq_gl (by omega)
  have gR : ∀ k n, n = 3 + ((zu_T t0).2.2.1 + (zu_T t1).2.2.1 + (1 + ex.length)) + k → (j :: zk_el w' r j :: P :: (((ps ++ qs) ++ (J :: Xs)) ++ (zk_xe w (2000200 + t0) P :: zu_xv w ex Xs))).getD n 0 = (zk_xe w (2000200 + t0) P :: zu_xv w ex Xs).getD k 0 := fun k n hn => by
    rw [show n = ((zu_T t0).2.2.1 + (zu_T t1).2.2.1 + (1 + ex.length) + k) + 1 + 1 + 1 by omega]
    show (((ps ++ qs) ++ (J :: Xs)) ++ (zk_xe w (2000200 + t0) P :: zu_xv w ex Xs)).getD ((zu_T t0).2.2.1 + (zu_T t1).2.2.1 + (1 + ex.length) + k) 0 = _
    rw [zq_gr (k := k) (by omega)]
  have gp : ∀ k, k < (zu_T t0).2.2.1 → (j :: zk_el w' r j :: P :: (((ps ++ qs) ++ (J :: Xs)) ++ (zk_xe w (2000200 + t0) P :: zu_xv w ex Xs))).getD (3 + k) 0 = ps.getD k 0 := fun k hk => by
    rw [gA k (by omega), zq_gl (by omega), zq_gl (by omega)]
  have gq : ∀ k, k < (zu_T t1).2.2.1 → (j :: zk_el w' r j :: P :: (((ps ++ qs) ++ (J :: Xs)) ++ (zk_xe w (2000200 + t0) P :: zu_xv w ex Xs))).getD (3 + (zu_T t0).2.2.1 + k) 0 = qs.getD k 0 := fun k hk => by
    rw [show 3 + (zu_T t0).2.2.1 + k = 3 + ((zu_T t0).2.2.1 + k) by omega, gA _ (by omega), zq_gl (by omega), zq_gr (k := k) (by omega)]
  have gJ : (j :: zk_el w' r j :: P :: (((ps ++ qs) ++ (J :: Xs)) ++ (zk_xe w (2000200 + t0) P :: zu_xv w ex Xs))).getD (3 + ((zu_T t0).2.2.1 + (zu_T t1).2.2.1)) 0 = J := by
    rw [gA _ (by omega), zq_gr (k := 0) (by omega)]
    rfl
  have hr := zq_rg_ok lA gA (fun e he => hg e (List.mem_append_left _ he))
  have hrp : ∀ p ∈ ps, 0 ≤ p ∧ p < 4294967296 := fun p hm => hr p (List.mem_append_left _ (List.mem_append_left _ hm))
  have hrq : ∀ p ∈ qs, 0 ≤ p ∧ p < 4294967296 := fun p hm => hr p (List.mem_append_left _ (List.mem_append_right _ hm))
  have hrJ : 0 ≤ J ∧ J < 4294967296 := hr J (List.mem_append_right _ List.mem_cons_self)
  have hrX : ∀ p ∈ Xs, 0 ≤ p ∧ p < 4294967296 := fun p hm => hr p (List.mem_append_right _ (List.mem_cons_of_mem _ hm))
  have e0 := he _ List.mem_cons_self
  have e1 := he _ (List.mem_cons_of_mem _ List.mem_cons_self)
  have e2 := he _ (List.mem_cons_of_mem _ (List.mem_cons_of_mem _ List.mem_cons_self))
  rw [zl_sub_ev, zl_sym_ev, zq_cs_ev hp gp] at e0
  rw [zl_sub_ev, zl_sym_ev, zl_con_ev] at e1
  rw [zl_sub_ev, zl_sym_ev, zl_sym_ev] at e2
  have e0 : P - zq_cd ps = 0 := e0
  have r1 : (j :: zk_el w' r j :: P :: (((ps ++ qs) ++ (J :: Xs)) ++ (zk_xe w (2000200 + t0) P :: zu_xv w ex Xs))).getD (4 + ((zu_T t0).2.2.1 + (zu_T t1).2.2.1) + ex.length) 0 = zk_xe w (2000200 + t0) P := gR 0 _ (by omega)
  have e1 : (j :: zk_el w' r j :: P :: (((ps ++ qs) ++ (J :: Xs)) ++ (zk_xe w (2000200 + t0) P :: zu_xv w ex Xs))).getD (4 + ((zu_T t0).2.2.1 + (zu_T t1).2.2.1) + ex.length) 0 - 1 = 0 := e1
  have e2 : j - (j :: zk_el w' r j :: P :: (((ps ++ qs) ++ (J :: Xs)) ++ (zk_xe w (2000200 + t0) P :: zu_xv w ex Xs))).getD (3 + ((zu_T t0).2.2.1 + (zu_T t1).2.2.1)) 0 = 0 := e2
  rw [r1] at e1
  rw [gJ] at e2
  have eJ : J = j := by omega
  subst eJ
  have hP := zu_P_of hp hrp (show P = zq_cd ps by omega) (show zk_xe w (2000200 + t0) P = 1 by omega)
  have lX : (zu_xv w ex Xs).length = ex.length := zu_xv_len
  have hcond : ∀ c ∈ C, 0 ≤ zl_ev (fun m => ((ps ++ qs) ++ (J :: zk_el w' r J :: (Xs ++ zu_xv w ex Xs))).getD m 0) c := fun c hm => by
    have hc := hg _ (List.mem_append_right _ (List.mem_map.mpr ⟨c, hm, rfl⟩))
    have hs2 : zk_sl2 (fun m => (J :: zk_el w' r J :: P :: (((ps ++ qs) ++ (J :: Xs)) ++ (zk_xe w (2000200 + t0) P :: zu_xv w ex Xs))).getD m 0) (zu_sb ((zu_T t0).2.2.1 + (zu_T t1).2.2.1) ex.length) ((ps ++ qs) ++ (J :: zk_el w' r J :: (Xs ++ zu_xv w ex Xs))) := by
      refine zk_sl2_app ?_ (zk_sl2_cons ?_ (zk_sl2_cons ?_ (zk_sl2_app ?_ ?_)))
      · have := zk_sl2_sy (s := fun m => (J :: zk_el w' r J :: P :: (((ps ++ qs) ++ (J :: Xs)) ++ (zk_xe w (2000200 + t0) P :: zu_xv w ex Xs))).getD m 0) (l := ps ++ qs) (n := 3) (fun m hm => by
          show (J :: zk_el w' r J :: P :: (((ps ++ qs) ++ (J :: Xs)) ++ (zk_xe w (2000200 + t0) P :: zu_xv w ex Xs))).getD (3 + m) 0 = _
          rw [gA m (by omega), zq_gl hm])
        rw [lpq] at this
        exact this
      · rw [zl_sym_ev]
        rfl
      · rw [zl_sym_ev]
        rfl
      · have := zk_sl2_sy (s := fun m => (J :: zk_el w' r J :: P :: (((ps ++ qs) ++ (J :: Xs)) ++ (zk_xe w (2000200 + t0) P :: zu_xv w ex Xs))).getD m 0) (l := Xs) (n := 4 + ((zu_T t0).2.2.1 + (zu_T t1).2.2.1)) (fun m hm => by
          show (J :: zk_el w' r J :: P :: (((ps ++ qs) ++ (J :: Xs)) ++ (zk_xe w (2000200 + t0) P :: zu_xv w ex Xs))).getD (4 + ((zu_T t0).2.2.1 + (zu_T t1).2.2.1) + m) 0 = _
          rw [show 4 + ((zu_T t0).2.2.1 + (zu_T t1).2.2.1) + m = 3 + ((zu_T t0).2.2.1 + (zu_T t1).2.2.1 + (m + 1)) by omega, gA _ (by omega), zq_gr (k := m + 1) (by omega)]
          rfl)
        rw [hXs] at this
        exact this
      · have := zk_sl2_sy (s := fun m => (J :: zk_el w' r J :: P :: (((ps ++ qs) ++ (J :: Xs)) ++ (zk_xe w (2000200 + t0) P :: zu_xv w ex Xs))).getD m 0) (l := zu_xv w ex Xs) (n := 5 + ((zu_T t0).2.2.1 + (zu_T t1).2.2.1) + ex.length) (fun m _ => gR (m + 1) _ (by omega))
        rw [lX] at this
        exact this
    rw [zl_subst_ev (u := fun m => ((ps ++ qs) ++ (J :: zk_el w' r J :: (Xs ++ zu_xv w ex Xs))).getD m 0) (by
      have h1 := zz_ble (List.all_eq_true.mp b3 c hm)
      have h2 := hs2.1
      rw [List.length_append (as := ps ++ qs), lpq, List.length_cons, List.length_cons, List.length_append, hXs, lX] at h2
      omega) hs2.2] at hc
    exact hc
  have hxs : zq_in (J :: zk_el w' r J :: (Xs ++ zu_xv w ex Xs)) (zu_BX ex.length) := by
    unfold zu_BX
    refine zq_in_cons ?_ (zq_in_cons (zq_el32 w' r J) (zq_in_app (zq_in_rep hXs hrX) zu_xv_in))
    show (0 : Int) ≤ J ∧ J ≤ 4294967295
    omega
  have lx : (J :: zk_el w' r J :: (Xs ++ zu_xv w ex Xs)).length = 2 + (ex.length + ex.length) := by
    rw [hxs.1, zu_BX_len]
  have hsx : ∀ (R : List Int) (k n : Nat), k < 2 + (ex.length + ex.length) → n = (zu_T t0).2.2.1 + (zu_T t1).2.2.1 + k → (ps ++ (qs ++ ((J :: zk_el w' r J :: (Xs ++ zu_xv w ex Xs)) ++ R))).getD n 0 = (J :: zk_el w' r J :: (Xs ++ zu_xv w ex Xs)).getD k 0 := fun R k n hk hn => by
    rw [← List.append_assoc ps, zq_gr (k := k) (by omega), zq_gl (by omega)]
  refine zu_one hq gq hrq (fun i hi => ?_)
  refine zu_core (w := w) (w' := w') h2 w0 w1 wd (zq_in_rep hp hrp) (zq_in_rep hq hrq) hxs hi ?_ ?_ ?_ (fun c hm => ?_) (hP i (zu_nle_ok b1 hi))
  · refine zu_xt_ok (w := w) (s := fun m => (ps ++ (qs ++ ((J :: zk_el w' r J :: (Xs ++ zu_xv w ex Xs)) ++ (i ++ ((zu_ex w (zu_T t0).1 (i ++ ps)).drop ((zu_T t1).2.1.length + (zu_T t0).2.2.1) ++ (zu_ex w' (zu_T t1).1 (i ++ qs)).drop ((zu_T t1).2.1.length + (zu_T t1).2.2.1)))))).getD m 0) (Y := Xs) (fun m hm => ?_) (fun m hm => ?_)
    · show (ps ++ (qs ++ ((J :: zk_el w' r J :: (Xs ++ zu_xv w ex Xs)) ++ _))).getD _ 0 = _
      rw [hsx _ (m + 2) _ (by omega) (by omega)]
      show (Xs ++ zu_xv w ex Xs).getD m 0 = _
      exact zq_gl (by omega)
    · show (ps ++ (qs ++ ((J :: zk_el w' r J :: (Xs ++ zu_xv w ex Xs)) ++ _))).getD _ 0 = _
      rw [hsx _ (ex.length + m + 2) _ (by omega) (by omega)]
      show (Xs ++ zu_xv w ex Xs).getD (ex.length + m) 0 = _
      exact zq_gr (by omega)
  · intro y hy
    rw [List.mem_singleton.mp hy]
    show (ps ++ (qs ++ ((J :: zk_el w' r J :: (Xs ++ zu_xv w ex Xs)) ++ _))).getD _ 0 = zk_el w' r (zl_ev _ (zl_sym _))
    rw [zl_sym_ev, hsx _ 1 _ (by omega) rfl]
    show zk_el w' r J = zk_el w' r ((ps ++ (qs ++ ((J :: zk_el w' r J :: (Xs ++ zu_xv w ex Xs)) ++ _))).getD _ 0)
    rw [hsx _ 0 ((zu_T t0).2.2.1 + (zu_T t1).2.2.1) (by omega) (by omega)]
    rfl
  · intro a x hax
    by_cases ha : a = r
    · rcases hax with hax | ⟨x0, hax⟩
      · exact absurd ha hax
      · rw [zl_sym_ev] at hax
        have hj : (ps ++ (qs ++ ((J :: zk_el w' r J :: (Xs ++ zu_xv w ex Xs)) ++ (i ++ ((zu_ex w (zu_T t0).1 (i ++ ps)).drop ((zu_T t1).2.1.length + (zu_T t0).2.2.1) ++ (zu_ex w' (zu_T t1).1 (i ++ qs)).drop ((zu_T t1).2.1.length + (zu_T t1).2.2.1)))))).getD ((zu_T t0).2.2.1 + (zu_T t1).2.2.1) 0 = J := by
          rw [hsx _ 0 ((zu_T t0).2.2.1 + (zu_T t1).2.2.1) (by omega) (by omega)]
          rfl
        have hax : x ≠ J := fun e => hax (e.trans hj.symm)
        rw [ha]
        exact hw.2 x x0 hax
    · unfold zk_el
      rw [hw.1 a ha]
  · rw [← List.append_assoc ps, ← List.append_assoc (ps ++ qs), zq_wide (by
      have h1 := zz_ble (List.all_eq_true.mp b3 c hm)
      rw [List.length_append (as := ps ++ qs), lpq, lx]
      omega)]
    exact hcond c hm
/-- from one to another, with known elements of the rows ex at places: inputs the coded place, its parameters, the new ones, these places -/
def zu_BY (e : Nat) : List (Int × Int) := List.replicate e (0, 4294967295) ++ zu_i32 e
theorem zu_BY_len (e : Nat) : (zu_BY e).length = e + e := by
  unfold zu_BY zu_i32
  simp
def zu_sy (m e : Nat) : List zl_E := zk_syms 1 m ++ (zk_syms (1 + m) e ++ zk_syms (2 + m + e) e)
def zu_Lx (t0 t1 : Nat) (ex : List Nat) (C : List zl_E) : zx_L := zx_Lc [] (1 + (((zu_T t0).2.2.1 + (zu_T t1).2.2.1) + ex.length)) ((2000200 + t0, 0) :: zu_xr ex (1 + ((zu_T t0).2.2.1 + (zu_T t1).2.2.1))) [] [zl_sub (zl_sym 0) (zq_cs (zu_T t0).2.2.1 1), zl_sub (zl_sym (1 + ((zu_T t0).2.2.1 + (zu_T t1).2.2.1) + ex.length)) (zl_con 1)] (zq_rg (((zu_T t0).2.2.1 + (zu_T t1).2.2.1) + ex.length) 1 ++ C.map (zl_subst (zu_sy ((zu_T t0).2.2.1 + (zu_T t1).2.2.1) ex.length))) [([], [], [(2000200 + t1, zq_cs (zu_T t1).2.2.1 (1 + (zu_T t0).2.2.1), zl_con 1)], [])]
def zu_Lxk (t0 t1 : Nat) (ex : List Nat) (C : List zl_E) (hs : List zu_Hn) : Bool :=
  ((zu_nle (zu_T t1).2.1 (zu_T t0).2.1 && (zu_wf (zu_T t0).1 ((zu_T t1).2.1.length + (zu_T t0).2.2.1) && ex.all (fun a => Nat.blt a 1000000))) && (zu_wf (zu_T t1).1 ((zu_T t1).2.1.length + (zu_T t1).2.2.1) && ((zu_T t0).2.2.2.all (fun d => d.all (fun c => Nat.ble (zl_mx c.2) ((zu_T t1).2.1.length + (zu_T t0).2.2.1 + (zu_T t0).1.length))) && C.all (fun c => Nat.ble (zl_mx c.2) ((zu_T t0).2.2.1 + (zu_T t1).2.2.1 + (ex.length + ex.length)))))) &&
  (zu_go (zu_B (zu_T t1).2.1 (zu_T t0).1.length (zu_T t1).1.length (zu_T t0).2.2.1 (zu_T t1).2.2.1 (zu_BY ex.length)) (zu_tb (zu_T t0).1 (zu_m0 (zu_T t1).2.1.length (zu_T t0).2.2.1 (zu_T t1).2.2.1 (zu_BY ex.length).length) ((zu_T t0).2.2.1 + (zu_T t1).2.2.1 + (zu_BY ex.length).length + (zu_T t1).2.1.length) ++ zu_xt ex ((zu_T t0).2.2.1 + (zu_T t1).2.2.1) ((zu_T t0).2.2.1 + (zu_T t1).2.2.1 + ex.length)) (zu_tb (zu_T t1).1 (zu_m1 (zu_T t1).2.1.length (zu_T t0).2.2.1 (zu_T t1).2.2.1 (zu_BY ex.length).length) ((zu_T t0).2.2.1 + (zu_T t1).2.2.1 + (zu_BY ex.length).length + (zu_T t1).2.1.length + (zu_T t0).1.length) ++ []) 1000000 (zl_con 0) (zu_T t0).2.2.2 (zu_T t1).2.2.2 (zu_m0 (zu_T t1).2.1.length (zu_T t0).2.2.1 (zu_T t1).2.2.1 (zu_BY ex.length).length ++ zk_syms ((zu_T t0).2.2.1 + (zu_T t1).2.2.1 + (zu_BY ex.length).length + (zu_T t1).2.1.length) (zu_T t0).1.length) (zu_m1 (zu_T t1).2.1.length (zu_T t0).2.2.1 (zu_T t1).2.2.1 (zu_BY ex.length).length ++ zk_syms ((zu_T t0).2.2.1 + (zu_T t1).2.2.1 + (zu_BY ex.length).length + (zu_T t1).2.1.length + (zu_T t0).1.length) (zu_T t1).1.length) 400 C hs).isSome
theorem zu_Lx_ok {t0 t1 : Nat} {ex : List Nat} {C : List zl_E} {hs : List zu_Hn} {PT : Nat → zz_W → Prop} (h : zu_Lxk t0 t1 ex C hs = true) : zx_Lok 64 zHT PT (zu_Lx t0 t1 ex C) := by
  unfold zu_Lxk at h
  obtain ⟨h1, h2⟩ := zz_and h
  obtain ⟨hs', h2⟩ := Option.isSome_iff_exists.mp h2
  obtain ⟨hA, hB⟩ := zz_and h1
  obtain ⟨b1, hA⟩ := zz_and hA
  obtain ⟨w0, be⟩ := zz_and hA
  obtain ⟨w1, hB⟩ := zz_and hB
  obtain ⟨wd, b3⟩ := zz_and hB
  refine zx_Lc_ok (fun w hI _ ins hl _ he hg => ?_)
  obtain ⟨P, pq, rfl, hpq⟩ := zq_spl1 hl
  obtain ⟨pq2, Xs, rfl, hpq2, hXs⟩ := zq_spl hpq
  obtain ⟨ps, qs, rfl, hp, hq⟩ := zq_spl hpq2
  have lpq : (ps ++ qs).length = (zu_T t0).2.2.1 + (zu_T t1).2.2.1 := by rw [List.length_append, hp, hq]
  have hvl : ∀ ca : List zx_Ca, zx_vl w ([], 1 + (((zu_T t0).2.2.1 + (zu_T t1).2.2.1) + ex.length), (2000200 + t0, 0) :: zu_xr ex (1 + ((zu_T t0).2.2.1 + (zu_T t1).2.2.1)), [], ca) (P :: ((ps ++ qs) ++ Xs)) = P :: (((ps ++ qs) ++ Xs) ++ (zk_xe w (2000200 + t0) P :: zu_xv w ex Xs)) := fun ca => by
    show (P :: ((ps ++ qs) ++ Xs)) ++ ((zk_xe w (2000200 + t0) P :: (zu_xr ex (1 + ((zu_T t0).2.2.1 + (zu_T t1).2.2.1))).map (fun q => zk_xe w q.1 ((P :: ((ps ++ qs) ++ Xs)).getD q.2 0))) ++ ([] : List Int)) = _
    rw [zu_xr_ok (Y := Xs) be (fun m hm => ?_), List.append_nil]
    · rfl
    · rw [show 1 + ((zu_T t0).2.2.1 + (zu_T t1).2.2.1) + m = ((zu_T t0).2.2.1 + (zu_T t1).2.2.1 + m) + 1 by omega]
      show ((ps ++ qs) ++ Xs).getD ((zu_T t0).2.2.1 + (zu_T t1).2.2.1 + m) 0 = _
      rw [zq_gr (k := m) (by omega)]
  rw [hvl] at he hg ⊢
  have lA : ((ps ++ qs) ++ Xs).length = (zu_T t0).2.2.1 + (zu_T t1).2.2.1 + ex.length := by rw [List.length_append, lpq, hXs]
  have gA : ∀ k, k < (zu_T t0).2.2.1 + (zu_T t1).2.2.1 + ex.length → (P :: (((ps ++ qs) ++ Xs) ++ (zk_xe w (2000200 + t0) P :: zu_xv w ex Xs))).getD (1 + k) 0 = ((ps ++ qs) ++ Xs).getD k 0 := fun k hk => by
    rw [show 1 + k = k + 1 by omega]
    show (((ps ++ qs) ++ Xs) ++ (zk_xe w (2000200 + t0) P :: zu_xv w ex Xs)).getD k 0 = _
    exact zq_gl (by omega)
  have gR : ∀ k n, n = 1 + ((zu_T t0).2.2.1 + (zu_T t1).2.2.1 + ex.length) + k → (P :: (((ps ++ qs) ++ Xs) ++ (zk_xe w (2000200 + t0) P :: zu_xv w ex Xs))).getD n 0 = (zk_xe w (2000200 + t0) P :: zu_xv w ex Xs).getD k 0 := fun k n hn => by
    rw [show n = ((zu_T t0).2.2.1 + (zu_T t1).2.2.1 + ex.length + k) + 1 by omega]
    show (((ps ++ qs) ++ Xs) ++ (zk_xe w (2000200 + t0) P :: zu_xv w ex Xs)).getD ((zu_T t0).2.2.1 + (zu_T t1).2.2.1 + ex.length + k) 0 = _
    rw [zq_gr (k := k) (by omega)]
  have gp : ∀ k, k < (zu_T t0).2.2.1 → (P :: (((ps ++ qs) ++ Xs) ++ (zk_xe w (2000200 + t0) P :: zu_xv w ex Xs))).getD (1 + k) 0 = ps.getD k 0 := fun k hk => by
    rw [gA k (by omega), zq_gl (by omega), zq_gl (by omega)]
  have gq : ∀ k, k < (zu_T t1).2.2.1 → (P :: (((ps ++ qs) ++ Xs) ++ (zk_xe w (2000200 + t0) P :: zu_xv w ex Xs))).getD (1 + (zu_T t0).2.2.1 + k) 0 = qs.getD k 0 := fun k hk => by
    rw [show 1 + (zu_T t0).2.2.1 + k = 1 + ((zu_T t0).2.2.1 + k) by omega, gA _ (by omega), zq_gl (by omega), zq_gr (k := k) (by omega)]
  have hr := zq_rg_ok lA gA (fun e he => hg e (List.mem_append_left _ he))
  have hrp : ∀ p ∈ ps, 0 ≤ p ∧ p < 4294967296 := fun p hm => hr p (List.mem_append_left _ (List.mem_append_left _ hm))
  have hrq : ∀ p ∈ qs, 0 ≤ p ∧ p < 4294967296 := fun p hm => hr p (List.mem_append_left _ (List.mem_append_right _ hm))
  have hrX : ∀ p ∈ Xs, 0 ≤ p ∧ p < 4294967296 := fun p hm => hr p (List.mem_append_right _ hm)
  have e0 := he _ List.mem_cons_self
  have e1 := he _ (List.mem_cons_of_mem _ List.mem_cons_self)
  rw [zl_sub_ev, zl_sym_ev, zq_cs_ev hp gp] at e0
  rw [zl_sub_ev, zl_sym_ev, zl_con_ev] at e1
  have e0 : P - zq_cd ps = 0 := e0
  have r1 : (P :: (((ps ++ qs) ++ Xs) ++ (zk_xe w (2000200 + t0) P :: zu_xv w ex Xs))).getD (1 + ((zu_T t0).2.2.1 + (zu_T t1).2.2.1) + ex.length) 0 = zk_xe w (2000200 + t0) P := gR 0 _ (by omega)
  have e1 : (P :: (((ps ++ qs) ++ Xs) ++ (zk_xe w (2000200 + t0) P :: zu_xv w ex Xs))).getD (1 + ((zu_T t0).2.2.1 + (zu_T t1).2.2.1) + ex.length) 0 - 1 = 0 := e1
  rw [r1] at e1
  have hP := zu_P_of hp hrp (show P = zq_cd ps by omega) (show zk_xe w (2000200 + t0) P = 1 by omega)
  have lX : (zu_xv w ex Xs).length = ex.length := zu_xv_len
  have hcond : ∀ c ∈ C, 0 ≤ zl_ev (fun m => ((ps ++ qs) ++ (Xs ++ zu_xv w ex Xs)).getD m 0) c := fun c hm => by
    have hc := hg _ (List.mem_append_right _ (List.mem_map.mpr ⟨c, hm, rfl⟩))
    have hs2 : zk_sl2 (fun m => (P :: (((ps ++ qs) ++ Xs) ++ (zk_xe w (2000200 + t0) P :: zu_xv w ex Xs))).getD m 0) (zu_sy ((zu_T t0).2.2.1 + (zu_T t1).2.2.1) ex.length) ((ps ++ qs) ++ (Xs ++ zu_xv w ex Xs)) := by
      refine zk_sl2_app ?_ (zk_sl2_app ?_ ?_)
      · have := zk_sl2_sy (s := fun m => (P :: (((ps ++ qs) ++ Xs) ++ (zk_xe w (2000200 + t0) P :: zu_xv w ex Xs))).getD m 0) (l := ps ++ qs) (n := 1) (fun m hm => by
          show (P :: (((ps ++ qs) ++ Xs) ++ (zk_xe w (2000200 + t0) P :: zu_xv w ex Xs))).getD (1 + m) 0 = _
          rw [gA m (by omega), zq_gl hm])
        rw [lpq] at this
        exact this
      · have := zk_sl2_sy (s := fun m => (P :: (((ps ++ qs) ++ Xs) ++ (zk_xe w (2000200 + t0) P :: zu_xv w ex Xs))).getD m 0) (l := Xs) (n := 1 + ((zu_T t0).2.2.1 + (zu_T t1).2.2.1)) (fun m hm => by
          show (P :: (((ps ++ qs) ++ Xs) ++ (zk_xe w (2000200 + t0) P :: zu_xv w ex Xs))).getD (1 + ((zu_T t0).2.2.1 + (zu_T t1).2.2.1) + m) 0 = _
          rw [show 1 + ((zu_T t0).2.2.1 + (zu_T t1).2.2.1) + m = 1 + ((zu_T t0).2.2.1 + (zu_T t1).2.2.1 + m) by omega, gA _ (by omega), zq_gr (k := m) (by omega)])
        rw [hXs] at this
        exact this
      · have := zk_sl2_sy (s := fun m => (P :: (((ps ++ qs) ++ Xs) ++ (zk_xe w (2000200 + t0) P :: zu_xv w ex Xs))).getD m 0) (l := zu_xv w ex Xs) (n := 2 + ((zu_T t0).2.2.1 + (zu_T t1).2.2.1) + ex.length) (fun m _ => gR (m + 1) _ (by omega))
        rw [lX] at this
        exact this
    rw [zl_subst_ev (u := fun m => ((ps ++ qs) ++ (Xs ++ zu_xv w ex Xs)).getD m 0) (by
      have h1 := zz_ble (List.all_eq_true.mp b3 c hm)
      have h2 := hs2.1
      rw [List.length_append (as := ps ++ qs), lpq, List.length_append, hXs, lX] at h2
      omega) hs2.2] at hc
    exact hc
  have hxs : zq_in (Xs ++ zu_xv w ex Xs) (zu_BY ex.length) := by
    unfold zu_BY
    exact zq_in_app (zq_in_rep hXs hrX) zu_xv_in
  have lx : (Xs ++ zu_xv w ex Xs).length = ex.length + ex.length := by
    rw [hxs.1, zu_BY_len]
  have hsx : ∀ (R : List Int) (k n : Nat), k < ex.length + ex.length → n = (zu_T t0).2.2.1 + (zu_T t1).2.2.1 + k → (ps ++ (qs ++ ((Xs ++ zu_xv w ex Xs) ++ R))).getD n 0 = (Xs ++ zu_xv w ex Xs).getD k 0 := fun R k n hk hn => by
    rw [← List.append_assoc ps, zq_gr (k := k) (by omega), zq_gl (by omega)]
  refine zx_one (l := (P :: (((ps ++ qs) ++ Xs) ++ (zk_xe w (2000200 + t0) P :: zu_xv w ex Xs)))) _ List.mem_cons_self rfl zx_cs0 (zu_one hq gq hrq (fun i hi => ?_)) zx_k0
  refine zu_core (X1 := []) (w := w) (w' := w) h2 w0 w1 wd (zq_in_rep hp hrp) (zq_in_rep hq hrq) hxs hi ?_ (fun y hy => absurd hy List.not_mem_nil) (fun _ _ _ => rfl) (fun c hm => ?_) (hP i (zu_nle_ok b1 hi))
  · refine zu_xt_ok (w := w) (s := fun m => (ps ++ (qs ++ ((Xs ++ zu_xv w ex Xs) ++ (i ++ ((zu_ex w (zu_T t0).1 (i ++ ps)).drop ((zu_T t1).2.1.length + (zu_T t0).2.2.1) ++ (zu_ex w (zu_T t1).1 (i ++ qs)).drop ((zu_T t1).2.1.length + (zu_T t1).2.2.1)))))).getD m 0) (Y := Xs) (fun m hm => ?_) (fun m hm => ?_)
    · show (ps ++ (qs ++ ((Xs ++ zu_xv w ex Xs) ++ _))).getD _ 0 = _
      rw [hsx _ m _ (by omega) (by omega)]
      exact zq_gl (by omega)
    · show (ps ++ (qs ++ ((Xs ++ zu_xv w ex Xs) ++ _))).getD _ 0 = _
      rw [hsx _ (ex.length + m) _ (by omega) (by omega)]
      exact zq_gr (by omega)
  · rw [← List.append_assoc ps, ← List.append_assoc (ps ++ qs), zq_wide (by
      have h1 := zz_ble (List.all_eq_true.mp b3 c hm)
      rw [List.length_append (as := ps ++ qs), lpq, lx]
      omega)]
    exact hcond c hm
/-- told at a place: inputs the coded place, its parameters, the place, the elements' places -/
def zu_eqs : zu_Tb → Nat → List zl_E
  | [], _ => []
  | x :: l, y => zl_sub (zl_sym y) x.2.1 :: zu_eqs l (y + 1)
def zu_yr : List (Nat × zl_E) → Nat → List (Nat × Nat)
  | [], _ => []
  | q :: s, k => (q.1, k) :: zu_yr s (k + 1)
def zu_ig : List Nat → Nat → List zl_E
  | [], _ => []
  | N :: l, a => zl_sym a :: zl_sub (zl_con ((N : Int) - 1)) (zl_sym a) :: zu_ig l (a + 1)
theorem zu_ig_ok {s : Nat → Int} : ∀ {Ns : List Nat} {a : Nat} {ix : List Int}, ix.length = Ns.length → (∀ k, k < Ns.length → s (a + k) = ix.getD k 0) → (∀ e ∈ zu_ig Ns a, 0 ≤ zl_ev s e) → zu_ix Ns ix
  | [], _, [], _, _, _ => ⟨rfl, fun k N h => by cases h⟩
  | [], _, _ :: _, hl, _, _ => by cases hl
  | _ :: _, _, [], hl, _, _ => by cases hl
  | N :: Ns, a, x :: ix, hl, h, hg => by
    have h0 : s a = x := h 0 (by simp)
    have g1 := hg _ List.mem_cons_self
    have g2 := hg _ (List.mem_cons_of_mem _ List.mem_cons_self)
    rw [zl_sym_ev, h0] at g1
    rw [zl_sub_ev, zl_con_ev, zl_sym_ev, h0] at g2
    have ih := zu_ig_ok (Ns := Ns) (a := a + 1) (ix := ix) (Nat.succ.inj hl) (zq_tl (fun k hk => h k (by simpa using hk))) (fun e he => hg e (List.mem_cons_of_mem _ (List.mem_cons_of_mem _ he)))
    refine ⟨hl, fun k M hk => ?_⟩
    cases k with
    | zero =>
      cases hk
      show 0 ≤ x ∧ x < (N : Int)
      omega
    | succ k => exact ih.2 k M hk
def zu_Ln (t : Nat) : zx_L := zx_Lc [] (1 + ((zu_T t).2.2.1 + ((zu_T t).2.1.length + (zu_T t).1.length))) ((2000200 + t, 0) :: zu_yr (zu_T t).1 (1 + (zu_T t).2.2.1 + (zu_T t).2.1.length)) [] ([zl_sub (zl_sym 0) (zq_cs (zu_T t).2.2.1 1), zl_sub (zl_sym (1 + (zu_T t).2.2.1 + (zu_T t).2.1.length + (zu_T t).1.length)) (zl_con 1)] ++ zu_eqs (zu_tb (zu_T t).1 (zk_syms (1 + (zu_T t).2.2.1) (zu_T t).2.1.length ++ zk_syms 1 (zu_T t).2.2.1) (2 + (zu_T t).2.2.1 + (zu_T t).2.1.length + (zu_T t).1.length)) (1 + (zu_T t).2.2.1 + (zu_T t).2.1.length)) (zq_rg (zu_T t).2.2.1 1 ++ zu_ig (zu_T t).2.1 (1 + (zu_T t).2.2.1))
  ((zu_T t).2.2.2.map (fun d => ([], d.map (zl_subst ((zk_syms (1 + (zu_T t).2.2.1) (zu_T t).2.1.length ++ zk_syms 1 (zu_T t).2.2.1) ++ zk_syms (2 + (zu_T t).2.2.1 + (zu_T t).2.1.length + (zu_T t).1.length) (zu_T t).1.length)), [], [])))
def zu_Lnk (t : Nat) : Bool := ((zu_T t).1.all (fun q => Nat.blt q.1 1000000) && zu_wf (zu_T t).1 ((zu_T t).2.1.length + (zu_T t).2.2.1)) && (zu_T t).2.2.2.all (fun d => d.all (fun c => Nat.ble (zl_mx c.2) ((zu_T t).2.1.length + (zu_T t).2.2.1 + (zu_T t).1.length)))
theorem zu_yr_ok {w : zz_W} {I : List Int} : ∀ {S : List (Nat × zl_E)} {Y : List Int} {k : Nat}, S.all (fun q => Nat.blt q.1 1000000) = true → (∀ m, m < S.length → I.getD (k + m) 0 = Y.getD m 0) → (zu_yr S k).map (fun q => zk_xe w q.1 (I.getD q.2 0)) = zu_xv w (S.map (fun q => q.1)) Y
  | [], _, _, _, _ => rfl
  | a :: l, Y, k, hb, h => by
    rw [List.all_cons] at hb
    obtain ⟨b1, b2⟩ := zz_and hb
    have a1 : I.getD k 0 = Y.getD 0 0 := h 0 (by simp)
    show zk_xe w a.1 (I.getD k 0) :: (zu_yr l (k + 1)).map (fun q => zk_xe w q.1 (I.getD q.2 0)) = zk_el w a.1 (Y.getD 0 0) :: zu_xv w (l.map (fun q => q.1)) (Y.drop 1)
    rw [zk_xe_r b1, a1, zu_yr_ok (Y := Y.drop 1) b2 (fun m hm => ?_)]
    have := h (m + 1) (by simpa using hm)
    rw [show k + 1 + m = k + (m + 1) by omega, this, List.getD_eq_getElem?_getD, List.getD_eq_getElem?_getD, List.getElem?_drop, show 1 + m = m + 1 by omega]
theorem zu_ex_eq {w : zz_W} {s : Nat → Int} : ∀ {S : List (Nat × zl_E)} {mp : List zl_E} {l Y : List Int} {k y : Nat}, zu_wf S mp.length = true → zk_sl2 s mp l → (∀ m, m < S.length → s (k + m) = (zu_xv w (S.map (fun q => q.1)) Y).getD m 0) → (∀ m, m < S.length → s (y + m) = Y.getD m 0) → (∀ e ∈ zu_eqs (zu_tb S mp k) y, zl_ev s e = 0) → zu_ex w S l = l ++ zu_xv w (S.map (fun q => q.1)) Y
  | [], mp, l, Y, k, y, _, _, _, _, _ => by
    show l = l ++ []
    rw [List.append_nil]
  | q :: S, mp, l, Y, k, y, hw, hl, hs, hy, he => by
    obtain ⟨w1, w2⟩ := zz_and hw
    have e0 := he _ List.mem_cons_self
    rw [zl_sub_ev, zl_sym_ev] at e0
    have e0 : s y - zl_ev s (zl_subst mp q.2) = 0 := e0
    have y0 : s y = Y.getD 0 0 := hy 0 (by simp)
    have k0 : s k = zk_el w q.1 (Y.getD 0 0) := hs 0 (by simp)
    have hpl : zl_ev s (zl_subst mp q.2) = zl_ev (fun m => l.getD m 0) q.2 := zl_subst_ev (zz_ble w1) hl.2
    have hpY : zl_ev (fun m => l.getD m 0) q.2 = Y.getD 0 0 := by omega
    show zu_ex w S (l ++ [zk_el w q.1 (zl_ev (fun m => l.getD m 0) q.2)]) = l ++ (zk_el w q.1 (Y.getD 0 0) :: zu_xv w (S.map (fun q => q.1)) (Y.drop 1))
    rw [hpY]
    rw [zu_ex_eq (s := s) (S := S) (mp := mp ++ [zl_sym k]) (l := l ++ [zk_el w q.1 (Y.getD 0 0)]) (Y := Y.drop 1) (k := k + 1) (y := y + 1) (by
      rw [show (mp ++ [zl_sym k]).length = mp.length + 1 by simp]
      exact w2) (zk_sl2_app hl (zk_sl2_cons (by rw [zl_sym_ev]; exact k0.symm) zk_sl2_nil)) (fun m hm => by
      have h1 := hs (m + 1) (by simpa using hm)
      rw [show k + 1 + m = k + (m + 1) by omega, h1]
      rfl) (fun m hm => by
      have h1 := hy (m + 1) (by simpa using hm)
      rw [show y + 1 + m = y + (m + 1) by omega, h1, List.getD_eq_getElem?_getD, List.getD_eq_getElem?_getD, List.getElem?_drop, show 1 + m = m + 1 by omega]) (fun e hm => he e (List.mem_cons_of_mem _ hm))]
    rw [List.append_assoc]
    rfl
theorem zu_Ln_ok {t : Nat} {PT : Nat → zz_W → Prop} (h : zu_Lnk t = true) : zx_Lok 64 zHT PT (zu_Ln t) := by
  unfold zu_Lnk at h
  obtain ⟨h1, b2⟩ := zz_and h
  obtain ⟨b1, bw⟩ := zz_and h1
  refine zx_Lc_ok (fun w hI _ ins hl _ he hg => ?_)
  obtain ⟨P, pq, rfl, hpq⟩ := zq_spl1 hl
  obtain ⟨ps, xY, rfl, hp, hxY⟩ := zq_spl hpq
  obtain ⟨ix, Y, rfl, hx, hY⟩ := zq_spl hxY
  have hvl : ∀ ca : List zx_Ca, zx_vl w ([], 1 + ((zu_T t).2.2.1 + ((zu_T t).2.1.length + (zu_T t).1.length)), (2000200 + t, 0) :: zu_yr (zu_T t).1 (1 + (zu_T t).2.2.1 + (zu_T t).2.1.length), [], ca) (P :: (ps ++ (ix ++ Y))) = P :: (ps ++ (ix ++ (Y ++ (zk_xe w (2000200 + t) P :: zu_xv w ((zu_T t).1.map (fun q => q.1)) Y)))) := fun ca => by
    show (P :: (ps ++ (ix ++ Y))) ++ ((zk_xe w (2000200 + t) P :: (zu_yr (zu_T t).1 (1 + (zu_T t).2.2.1 + (zu_T t).2.1.length)).map (fun q => zk_xe w q.1 ((P :: (ps ++ (ix ++ Y))).getD q.2 0))) ++ ([] : List Int)) = _
    rw [zu_yr_ok (Y := Y) b1 (fun m hm => ?_), List.append_nil, List.cons_append, List.append_assoc, List.append_assoc]
    rw [show 1 + (zu_T t).2.2.1 + (zu_T t).2.1.length + m = ((zu_T t).2.2.1 + ((zu_T t).2.1.length + m)) + 1 by omega]
    show (ps ++ (ix ++ Y)).getD ((zu_T t).2.2.1 + ((zu_T t).2.1.length + m)) 0 = _
    rw [zq_gr (k := (zu_T t).2.1.length + m) (by omega), zq_gr (k := m) (by omega)]
  rw [hvl] at he hg ⊢
  generalize hR : ix ++ (Y ++ (zk_xe w (2000200 + t) P :: zu_xv w ((zu_T t).1.map (fun q => q.1)) Y)) = R at he hg ⊢
  have gA : ∀ k, k < (zu_T t).2.2.1 → (P :: (ps ++ R)).getD (1 + k) 0 = ps.getD k 0 := fun k hk => by
    rw [show 1 + k = k + 1 by omega]
    show (ps ++ R).getD k 0 = _
    exact zq_gl (by omega)
  have gR : ∀ k n, n = 1 + (zu_T t).2.2.1 + k → (P :: (ps ++ R)).getD n 0 = (ix ++ (Y ++ (zk_xe w (2000200 + t) P :: zu_xv w ((zu_T t).1.map (fun q => q.1)) Y))).getD k 0 := fun k n hn => by
    rw [hR, show n = ((zu_T t).2.2.1 + k) + 1 by omega]
    show (ps ++ R).getD ((zu_T t).2.2.1 + k) 0 = _
    rw [zq_gr (k := k) (by omega)]
  have gX : ∀ k, k < (zu_T t).2.1.length → (P :: (ps ++ R)).getD (1 + (zu_T t).2.2.1 + k) 0 = ix.getD k 0 := fun k hk => by
    rw [gR k _ rfl, zq_gl (by omega)]
  have hr := zq_rg_ok hp gA (fun e he => hg e (List.mem_append_left _ he))
  have hix := zu_ig_ok hx gX (fun e he => hg e (List.mem_append_right _ he))
  have e0 := he _ (List.mem_append_left _ List.mem_cons_self)
  have e1 := he _ (List.mem_append_left _ (List.mem_cons_of_mem _ List.mem_cons_self))
  rw [zl_sub_ev, zl_sym_ev, zq_cs_ev hp gA] at e0
  rw [zl_sub_ev, zl_sym_ev, zl_con_ev] at e1
  have r1 : (P :: (ps ++ R)).getD (1 + (zu_T t).2.2.1 + (zu_T t).2.1.length + (zu_T t).1.length) 0 = zk_xe w (2000200 + t) P := by
    rw [gR ((zu_T t).2.1.length + (zu_T t).1.length) _ (by omega), zq_gr (k := (zu_T t).1.length) (by omega), zq_gr (k := 0) (by omega)]
    rfl
  have e1 : (P :: (ps ++ R)).getD (1 + (zu_T t).2.2.1 + (zu_T t).2.1.length + (zu_T t).1.length) 0 - 1 = 0 := e1
  have e0 : P - zq_cd ps = 0 := e0
  rw [r1] at e1
  have hP := zu_P_of hp hr (show P = zq_cd ps by omega) (show zk_xe w (2000200 + t) P = 1 by omega)
  have sm : zk_sl2 (fun m => (P :: (ps ++ R)).getD m 0) (zk_syms (1 + (zu_T t).2.2.1) (zu_T t).2.1.length ++ zk_syms 1 (zu_T t).2.2.1) (ix ++ ps) := by
    refine zk_sl2_app ?_ ?_
    · have := zk_sl2_sy (s := fun m => (P :: (ps ++ R)).getD m 0) (l := ix) (n := 1 + (zu_T t).2.2.1) (fun m hm => gX m (by omega))
      rw [hx] at this
      exact this
    · have := zk_sl2_sy (s := fun m => (P :: (ps ++ R)).getD m 0) (l := ps) (n := 1) (fun m hm => gA m (by omega))
      rw [hp] at this
      exact this
  have lv : (zu_xv w ((zu_T t).1.map (fun q => q.1)) Y).length = (zu_T t).1.length := by rw [zu_xv_len, List.length_map]
  have gE : ∀ m, m < (zu_T t).1.length → (P :: (ps ++ R)).getD (2 + (zu_T t).2.2.1 + (zu_T t).2.1.length + (zu_T t).1.length + m) 0 = (zu_xv w ((zu_T t).1.map (fun q => q.1)) Y).getD m 0 := fun m hm => by
    rw [gR ((zu_T t).2.1.length + ((zu_T t).1.length + (m + 1))) _ (by omega), zq_gr (k := (zu_T t).1.length + (m + 1)) (by omega), zq_gr (k := m + 1) (by omega)]
    rfl
  have hex := zu_ex_eq (w := w) (s := fun m => (P :: (ps ++ R)).getD m 0) (S := (zu_T t).1) (l := ix ++ ps) (Y := Y) (k := 2 + (zu_T t).2.2.1 + (zu_T t).2.1.length + (zu_T t).1.length) (y := 1 + (zu_T t).2.2.1 + (zu_T t).2.1.length) (by rw [sm.1, List.length_append, hx, hp]; exact bw) sm gE (fun m hm => by
    show (P :: (ps ++ R)).getD (1 + (zu_T t).2.2.1 + (zu_T t).2.1.length + m) 0 = _
    rw [gR ((zu_T t).2.1.length + m) _ (by omega), zq_gr (k := m) (by omega)]
    exact zq_gl (by omega)) (fun e hm => he e (List.mem_append_right _ hm))
  obtain ⟨d, d1, d2⟩ := hP ix hix
  rw [hex] at d2
  refine zx_one (l := P :: (ps ++ R)) _ (List.mem_map.mpr ⟨d, d1, rfl⟩) rfl (fun c hc => ?_) zx_eF0 zx_k0
  obtain ⟨c0, c1, c2⟩ := List.mem_map.mp hc
  subst c2
  have hs2 : zk_sl2 (fun m => (P :: (ps ++ R)).getD m 0) ((zk_syms (1 + (zu_T t).2.2.1) (zu_T t).2.1.length ++ zk_syms 1 (zu_T t).2.2.1) ++ zk_syms (2 + (zu_T t).2.2.1 + (zu_T t).2.1.length + (zu_T t).1.length) (zu_T t).1.length) ((ix ++ ps) ++ zu_xv w ((zu_T t).1.map (fun q => q.1)) Y) := by
    refine zk_sl2_app sm ?_
    have := zk_sl2_sy (s := fun m => (P :: (ps ++ R)).getD m 0) (l := zu_xv w ((zu_T t).1.map (fun q => q.1)) Y) (n := 2 + (zu_T t).2.2.1 + (zu_T t).2.1.length + (zu_T t).1.length) (fun m hm => gE m (by omega))
    rw [lv] at this
    exact this
  rw [zl_subst_ev (u := fun m => ((ix ++ ps) ++ zu_xv w ((zu_T t).1.map (fun q => q.1)) Y).getD m 0) (by
    have h1 := zz_ble (List.all_eq_true.mp (List.all_eq_true.mp b2 d d1) c0 c1)
    have h2 := hs2.1
    rw [List.length_append (as := ix ++ ps), List.length_append (as := ix), hx, hp, lv] at h2
    omega) hs2.2]
  exact d2 c0 c1
/-- its value is 0 or 1: input the place -/
def zu_L1 (t : Nat) : zx_L := zx_Lc [] 1 [] [] [] [zl_sym 0] [([(0, 1)], [], [(2000200 + t, zl_sym 0, zl_sym 1)], [])]
theorem zu_L1_ok {t : Nat} {PT : Nat → zz_W → Prop} : zx_Lok 64 zHT PT (zu_L1 t) := by
  refine zx_Lc_ok (fun w _ _ ins hl _ he hg => ?_)
  obtain ⟨p, rfl⟩ := zx_i1 hl
  have g0 := hg _ List.mem_cons_self
  rw [zl_sym_ev] at g0
  have g0 : 0 ≤ p := g0
  have hb : zk_xe w (2000200 + t) p = 0 ∨ zk_xe w (2000200 + t) p = 1 := by
    rw [zu_xe]
    by_cases h : zu_P (zu_T t) w (zq_dec (zu_T t).2.2.1 p)
    · exact Or.inr (zh_b1 h)
    · exact Or.inl (zh_b0 h)
  refine ⟨_, List.mem_cons_self, [zk_xe w (2000200 + t) p], rfl, fun k q hq => ?_, zx_cs0, fun x hx => ?_, zx_k0⟩
  · match k, hq with
    | 0, hq =>
      cases hq
      show (0 : Int) ≤ zk_xe w (2000200 + t) p ∧ zk_xe w (2000200 + t) p ≤ 1
      omega
    | k + 1, hq => cases hq
  · rw [List.mem_singleton.mp hx]
    show 0 ≤ zl_ev _ (zl_sym 0) ∧ zk_xe w (2000200 + t) (zl_ev _ (zl_sym 0)) = zl_ev _ (zl_sym 1)
    rw [zl_sym_ev, zl_sym_ev]
    exact ⟨g0, rfl⟩
end
/-! laws of rows with parameters of this program -/
noncomputable section
theorem zx_gl40_ok {PT : Nat → zz_W → Prop} : zx_Lok 64 zHT PT (zq_Ln 0) := zq_Ln_ok (by decide) (by decide +kernel)
theorem zx_gl41_ok {PT : Nat → zz_W → Prop} : zx_Lok 64 zHT PT (zq_Li 0 [((0, 0), [(0, 0, 1)])]) := zq_Li_ok (by decide) (e := ((0, 0), [])) (k1 := [(1, [[0, 1]])]) (k2 := [(0, [[1]])]) (by decide +kernel)
theorem zx_gl42_ok {PT : Nat → zz_W → Prop} : zx_Lok 64 zHT PT (zq_Lv 0 0 [((0, 0), [(0, 1, 0), (2, 0, 1)]), ((0, 0), [(1, 0, 1), (3, 1, 0)])]) := zq_Lv_ok (by decide) (by decide) (hs := [(1, [[1, 1]]), (2, [[1, 0, 1]])]) (by decide +kernel)
theorem zx_gl43_ok {PT : Nat → zz_W → Prop} : zx_Lok 64 zHT PT (zq_Ln 1) := zq_Ln_ok (by decide) (by decide +kernel)
theorem zx_gl44_ok {PT : Nat → zz_W → Prop} : zx_Lok 64 zHT PT (zq_Li 1 [((0, 0), [(0, 1, 0), (1, 0, 1)])]) := zq_Li_ok (by decide) (e := ((0, 1), [(0, 1, 0), (2, 0, 1)])) (k1 := [(1, [[1]])]) (k2 := [(2, [[1, 1]])]) (by decide +kernel)
theorem zx_gl45_ok {PT : Nat → zz_W → Prop} : zx_Lok 64 zHT PT (zq_Lv 1 1 [((0, 0), [(0, 0, 1), (2, 1, 0)]), ((0, 0), [(1, 1, 0), (3, 0, 1)])]) := zq_Lv_ok (by decide) (by decide) (hs := [(1, [[1, 1]]), (2, [[1, 0, 1]]), (3, [[1]])]) (by decide +kernel)
theorem zx_gl50_ok {PT : Nat → zz_W → Prop} : zx_Lok 64 zHT PT (zu_Ln 0) := zu_Ln_ok (by decide +kernel)
theorem zx_gl51_ok {PT : Nat → zz_W → Prop} : zx_Lok 64 zHT PT (zu_Li 0 [((0, 0), [(0, 0, 1)])]) := zu_Li_ok (hs := [(0, [1], [[1]], ((0, 0), []))]) (by decide +kernel)
theorem zx_gl52_ok {PT : Nat → zz_W → Prop} : zx_Lok 64 zHT PT (zu_Li 2 []) := zu_Li_ok (hs := [(0, [1], [], ((0, 0), []))]) (by decide +kernel)
theorem zx_gl53_ok {PT : Nat → zz_W → Prop} : zx_Lok 64 zHT PT (zu_Ln 1) := zu_Ln_ok (by decide +kernel)
theorem zx_gl54_ok {PT : Nat → zz_W → Prop} : zx_Lok 64 zHT PT (zu_L1 1) := zu_L1_ok
theorem zx_gl70_ok {PT : Nat → zz_W → Prop} : zx_Lok 64 zHT PT (zu_Ln 10) := zu_Ln_ok (by decide +kernel)
theorem zx_gl80_ok {PT : Nat → zz_W → Prop} : zx_Lok 64 zHT PT (zu_Lv 10 10 [((0, 0), [(0, 1, 0), (3, 0, 1)]), ((0, 0), [(0, 0, 1), (3, 1, 0)]), ((0, 0), [(1, 0, 1), (4, 1, 0)]), ((0, 0), [(2, 0, 1), (5, 1, 0)])]) := zu_Lv_ok (hs := [(2, [2, 0, 0], [[], []], ((0, 0), [])), (2, [2, 1, 1], [[], []], ((0, 0), [])), (2, [2, 2, 2], [[1], [0, 1]], ((0, 0), [])), (3, [], [], ((0, 0), [])), (0, [1], [[1, 0, 0, 0, 0, 1]], ((0, 0), [])), (0, [2], [[1, 0, 0, 0, 0, 0, 0, 0, 0, 1]], ((0, 0), [])), (0, [3], [[1, 0, 0, 0, 0, 0, 0, 0, 0, 0, 1], [0, 1, 0, 0, 0, 0, 0, 0, 0, 0, 0, 1]], ((0, 0), [])), (0, [4], [[1], [0, 1, 0, 0, 0, 0, 0, 0, 1]], ((0, 0), [])), (0, [5], [[1, 0, 1]], ((0, 0), []))]) (by decide +kernel)
theorem zx_gl71_ok {PT : Nat → zz_W → Prop} : zx_Lok 64 zHT PT (zu_Ln 11) := zu_Ln_ok (by decide +kernel)
theorem zx_gl81_ok {PT : Nat → zz_W → Prop} : zx_Lok 64 zHT PT (zu_Lv 11 11 [((0, 0), [(0, 1, 0), (3, 0, 1)]), ((0, 0), [(0, 0, 1), (3, 1, 0)]), ((0, 0), [(1, 0, 1), (4, 1, 0)]), ((0, 0), [(2, 0, 1), (5, 1, 0)])]) := zu_Lv_ok (hs := [(2, [2, 0, 0], [[], []], ((0, 0), [])), (2, [2, 1, 1], [[], []], ((0, 0), [])), (2, [2, 2, 2], [[1], [0, 1]], ((0, 0), [])), (3, [], [], ((0, 0), [])), (0, [1], [[1, 0, 0, 0, 0, 1]], ((0, 0), [])), (0, [2], [[1, 0, 0, 0, 0, 0, 0, 0, 0, 1]], ((0, 0), [])), (0, [3], [[1, 0, 0, 0, 0, 0, 0, 0, 0, 0, 1], [0, 1, 0, 0, 0, 0, 0, 0, 0, 0, 0, 1]], ((0, 0), [])), (0, [4], [[1], [0, 1, 0, 0, 0, 0, 0, 0, 1]], ((0, 0), [])), (0, [5], [[1, 0, 1]], ((0, 0), []))]) (by decide +kernel)
theorem zx_gl72_ok {PT : Nat → zz_W → Prop} : zx_Lok 64 zHT PT (zu_Ln 12) := zu_Ln_ok (by decide +kernel)
theorem zx_gl82_ok {PT : Nat → zz_W → Prop} : zx_Lok 64 zHT PT (zu_Lv 12 12 [((0, 0), [(0, 1, 0), (3, 0, 1)]), ((0, 0), [(0, 0, 1), (3, 1, 0)]), ((0, 0), [(1, 0, 1), (4, 1, 0)]), ((0, 0), [(2, 0, 1), (5, 1, 0)])]) := zu_Lv_ok (hs := [(2, [2, 0, 0], [[], []], ((0, 0), [])), (2, [2, 1, 1], [[], []], ((0, 0), [])), (2, [2, 2, 2], [[1], [0, 1]], ((0, 0), [])), (3, [], [], ((0, 0), [])), (0, [1], [[1, 0, 0, 0, 0, 1]], ((0, 0), [])), (0, [2], [[1, 0, 0, 0, 0, 0, 0, 0, 0, 1]], ((0, 0), [])), (0, [3], [[1, 0, 0, 0, 0, 0, 0, 0, 0, 0, 1], [0, 1, 0, 0, 0, 0, 0, 0, 0, 0, 0, 1]], ((0, 0), [])), (0, [4], [[1], [0, 1, 0, 0, 0, 0, 0, 0, 1]], ((0, 0), [])), (0, [5], [[1, 0, 1]], ((0, 0), [])), (0, [6], [[1, 0, 0, 1]], ((0, 0), []))]) (by decide +kernel)
theorem zx_gl73_ok {PT : Nat → zz_W → Prop} : zx_Lok 64 zHT PT (zu_Ln 13) := zu_Ln_ok (by decide +kernel)
theorem zx_gl83_ok {PT : Nat → zz_W → Prop} : zx_Lok 64 zHT PT (zu_Lv 13 13 [((0, 0), [(0, 1, 0), (3, 0, 1)]), ((0, 0), [(0, 0, 1), (3, 1, 0)]), ((0, 0), [(1, 0, 1), (4, 1, 0)]), ((0, 0), [(2, 0, 1), (5, 1, 0)])]) := zu_Lv_ok (hs := [(2, [2, 0, 0], [[], []], ((0, 0), [])), (2, [2, 1, 1], [[], []], ((0, 0), [])), (2, [2, 2, 2], [[1], [0, 1]], ((0, 0), [])), (3, [], [], ((0, 0), [])), (0, [1], [[1, 0, 0, 0, 0, 1]], ((0, 0), [])), (0, [2], [[1, 0, 0, 0, 0, 0, 0, 0, 0, 1]], ((0, 0), [])), (0, [3], [[1, 0, 0, 0, 0, 0, 0, 0, 0, 0, 1], [0, 1, 0, 0, 0, 0, 0, 0, 0, 0, 0, 1]], ((0, 0), [])), (0, [4], [[1], [0, 1, 0, 0, 0, 0, 0, 0, 1]], ((0, 0), [])), (0, [5], [[1, 0, 1]], ((0, 0), []))]) (by decide +kernel)
theorem zx_gl74_ok {PT : Nat → zz_W → Prop} : zx_Lok 64 zHT PT (zu_Ln 14) := zu_Ln_ok (by decide +kernel)
theorem zx_gl84_ok {PT : Nat → zz_W → Prop} : zx_Lok 64 zHT PT (zu_Lv 14 14 [((0, 0), [(0, 1, 0), (3, 0, 1)]), ((0, 0), [(0, 0, 1), (3, 1, 0)]), ((0, 0), [(1, 0, 1), (4, 1, 0)]), ((0, 0), [(2, 0, 1), (5, 1, 0)])]) := zu_Lv_ok (hs := [(2, [2, 0, 0], [[], []], ((0, 0), [])), (2, [2, 1, 1], [[], []], ((0, 0), [])), (2, [2, 2, 2], [[1], [0, 1]], ((0, 0), [])), (3, [], [], ((0, 0), [])), (0, [1], [[1, 0, 0, 0, 0, 1]], ((0, 0), [])), (0, [2], [[1, 0, 0, 0, 0, 0, 0, 0, 0, 1]], ((0, 0), [])), (0, [3], [[1, 0, 0, 0, 0, 0, 0, 0, 0, 0, 1], [0, 1, 0, 0, 0, 0, 0, 0, 0, 0, 0, 1]], ((0, 0), [])), (0, [4], [[], [0, 1, 0, 0, 0, 0, 0, 0, 1]], ((0, 0), [])), (0, [5], [[1, 0, 1]], ((0, 0), []))]) (by decide +kernel)
theorem zx_gl75_ok {PT : Nat → zz_W → Prop} : zx_Lok 64 zHT PT (zu_Ln 15) := zu_Ln_ok (by decide +kernel)
theorem zx_gl85_ok {PT : Nat → zz_W → Prop} : zx_Lok 64 zHT PT (zu_Lv 15 15 [((0, 0), [(0, 1, 0), (3, 0, 1)]), ((0, 0), [(0, 0, 1), (3, 1, 0)]), ((0, 0), [(1, 0, 1), (4, 1, 0)]), ((0, 0), [(2, 0, 1), (5, 1, 0)])]) := zu_Lv_ok (hs := [(2, [2, 0, 0], [[], []], ((0, 0), [])), (2, [2, 1, 1], [[], []], ((0, 0), [])), (2, [2, 2, 2], [[], []], ((0, 0), [])), (2, [2, 3, 3], [[1], [0, 1]], ((0, 0), [])), (2, [2, 4, 4], [[], []], ((0, 0), [])), (3, [], [], ((0, 0), [])), (0, [1], [[1, 0, 0, 0, 0, 0, 0, 0, 0, 1]], ((0, 0), [])), (0, [2], [[1, 0, 0, 0, 0, 0, 0, 0, 0, 0, 0, 0, 0, 1]], ((0, 0), [])), (0, [3], [[1, 0, 0, 0, 0, 0, 0, 0, 0, 0, 0, 0, 0, 0, 1], [0, 1, 0, 0, 0, 0, 0, 0, 0, 0, 0, 0, 0, 0, 0, 1]], ((0, 0), [])), (0, [4], [[], [0, 1, 0, 0, 0, 0, 0, 0, 0, 0, 0, 0, 1]], ((0, 0), [])), (0, [5], [[1, 0, 0, 0, 0, 0, 0, 1]], ((0, 0), [])), (0, [6], [[1, 0, 0, 0, 0, 0, 0, 0, 0, 1], [0, 1, 0, 0, 0, 0, 0, 0, 1]], ((0, 0), [])), (0, [7], [[1, 0, 0, 0, 0, 0, 0, 0, 1]], ((0, 0), [])), (0, [8], [[1, 1]], ((0, 0), [])), (0, [9], [[1, 0, 0, 0, 1]], ((0, 0), []))]) (by decide +kernel)
theorem zx_gl76_ok {PT : Nat → zz_W → Prop} : zx_Lok 64 zHT PT (zu_Ln 16) := zu_Ln_ok (by decide +kernel)
theorem zx_gl90_ok {PT : Nat → zz_W → Prop} : zx_Lok 64 zHT PT (zu_Li 20 [((0, 0), [(1, 0, 1)]), ((0, 0), [(2, 0, 1)])]) := zu_Li_ok (hs := [(0, [3], [[1], [0, 1]], ((0, 0), []))]) (by decide +kernel)
theorem zx_gl100_ok {PT : Nat → zz_W → Prop} : zx_Lok 64 zHT PT (zu_Lx 20 20 [180, 220] [((0, 0), [(0, 1, 0), (3, 0, 1)]), ((0, 0), [(0, 0, 1), (3, 1, 0)]), ((0, 0), [(1, 1, 0), (4, 0, 1)]), ((0, 0), [(1, 0, 1), (4, 1, 0)]), ((0, 1), [(2, 0, 1), (5, 1, 0)]), ((1, 0), [(2, 1, 0), (5, 0, 1)]), ((0, 0), [(2, 0, 1), (6, 1, 0)]), ((0, 0), [(2, 1, 0), (6, 0, 1)]), ((0, 0), [(7, 1, 0), (8, 0, 1)]), ((0, 0), [(7, 0, 1), (8, 1, 0)]), ((0, 1), [(9, 1, 0)]), ((1, 0), [(9, 0, 1)]), ((0, 0), [(8, 1, 0)]), ((0, 0), [(1, 0, 64), (2, 1, 0)]), ((63, 0), [(1, 64, 0), (2, 0, 1)])]) := zu_Lx_ok (hs := [(2, [2, 0, 0], [[], []], ((0, 0), [])), (2, [2, 1, 1], [[], []], ((0, 0), [])), (2, [2, 2, 2], [[1], [0, 1]], ((0, 0), [])), (3, [], [], ((0, 0), [])), (0, [1], [[1, 0, 0, 0, 0, 1]], ((0, 0), [])), (0, [2], [[1, 0, 0, 0, 0, 0, 0, 0, 0, 1]], ((0, 0), [])), (1, [], [], ((0, 1), [(1, 0, 1), (10, 1, 0)])), (0, [2], [[1, 0, 0, 0, 0, 0, 0, 0, 0, 0, 0, 1]], ((0, 0), [])), (1, [], [], ((0, 1), [(2, 0, 1), (10, 64, 0), (11, 1, 0)])), (0, [3], [[0, 0, 1, 0, 0, 0, 0, 0, 0, 0, 0, 0, 1], [1, 0, 0, 0, 0, 0, 0, 0, 0, 0, 0, 0, 0, 0, 0, 1]], ((0, 0), [])), (2, [2, 3, 1], [[1, 0, 0, 0, 0, 0, 0, 0, 0, 0, 0, 0, 0, 0, 0, 0, 1], [0, 0, 0, 1, 0, 0, 0, 0, 0, 0, 0, 0, 0, 0, 0, 0, 0, 1]], ((0, 0), [])), (2, [2, 4, 2], [[1, 0, 0, 0, 0, 0, 0, 0, 0, 0, 0, 0, 0, 0, 0, 0, 0, 0, 0, 0, 1], [0, 1, 0, 0, 0, 0, 0, 0, 0, 0, 0, 0, 0, 0, 0, 0, 0, 0, 0, 0, 0, 1]], ((0, 0), [])), (0, [5], [[0, 1, 0, 0, 0, 0, 0, 0, 0, 0, 0, 0, 0, 0, 0, 0, 0, 0, 0, 0, 0, 0, 0, 0, 1], [1, 0, 0, 0, 0, 0, 0, 0, 0, 0, 0, 0, 0, 0, 0, 0, 0, 0, 0, 0, 0, 0, 0, 0, 0, 1], [0, 0, 0, 1, 0, 0, 0, 0, 0, 0, 0, 0, 0, 0, 0, 0, 0, 0, 0, 0, 0, 0, 0, 0, 0, 0, 1]], ((0, 0), [])), (0, [4], [[1], [0, 1, 0, 0, 0, 0, 0, 0, 1]], ((0, 0), [])), (0, [5], [[1, 0, 0, 0, 1], [0, 1, 0, 1], [0, 0, 1, 0, 0, 0, 1]], ((0, 0), []))]) (by decide +kernel)
theorem zx_gl110_ok {PT : Nat → zz_W → Prop} : zx_Lok 64 zHT PT (zu_Lx 20 20 [179] [((0, 0), [(0, 1, 0), (3, 0, 1)]), ((0, 0), [(0, 0, 1), (3, 1, 0)]), ((0, 1), [(1, 0, 1), (4, 1, 0)]), ((1, 0), [(1, 1, 0), (4, 0, 1)]), ((0, 64), [(1, 0, 64), (5, 1, 0)]), ((64, 0), [(1, 64, 0), (5, 0, 1)]), ((0, 0), [(1, 0, 1), (6, 1, 0)]), ((0, 0), [(1, 1, 0), (6, 0, 1)]), ((0, 0), [(1, 0, 64), (2, 1, 0), (7, 0, 1)])]) := zu_Lx_ok (hs := [(2, [2, 0, 0], [[], []], ((0, 0), [])), (2, [2, 1, 1], [[], []], ((0, 0), [])), (2, [2, 2, 2], [[1], [0, 1]], ((0, 0), [])), (3, [], [], ((0, 0), [])), (0, [1], [[1, 0, 0, 0, 0, 1]], ((0, 0), [])), (0, [3], [[1, 0, 0, 0, 0, 0, 0, 0, 0, 0, 1], [64, 0, 0, 0, 0, 0, 0, 0, 0, 0, 0, 99999, 100000]], ((0, 0), [])), (1, [], [], ((0, 1), [(1, 0, 1), (8, 1, 0)])), (0, [3], [[1, 0, 0, 0, 0, 0, 0, 0, 0, 0, 0, 0, 1], [64, 0, 0, 0, 0, 0, 0, 0, 0, 0, 0, 0, 0, 99999, 100000]], ((0, 0), [])), (2, [2, 3, 0], [[1, 0, 0, 0, 0, 0, 0, 0, 0, 0, 0, 0, 0, 0, 0, 1], [0, 1, 0, 0, 0, 0, 0, 0, 0, 0, 0, 0, 0, 0, 0, 0, 1]], ((0, 0), [])), (0, [1], [[1, 0, 64, 0, 1, 0, 0, 0, 0, 0, 0, 0, 0, 0, 0, 0, 0, 0, 0, 1]], ((0, 0), [])), (0, [4], [[1], [0, 1, 0, 0, 0, 0, 0, 0, 1]], ((0, 0), [])), (0, [5], [[1, 0, 0, 0, 1], [0, 1, 0, 1], [0, 0, 1, 0, 0, 0, 1]], ((0, 0), []))]) (by decide +kernel)
theorem zx_gl91_ok {PT : Nat → zz_W → Prop} : zx_Lok 64 zHT PT (zu_Li 21 [((0, 0), [(1, 0, 1)]), ((0, 0), [(2, 0, 1)])]) := zu_Li_ok (hs := [(0, [3], [[1], [0, 1]], ((0, 0), []))]) (by decide +kernel)
theorem zx_gl101_ok {PT : Nat → zz_W → Prop} : zx_Lok 64 zHT PT (zu_Lx 21 21 [189, 220] [((0, 0), [(0, 1, 0), (3, 0, 1)]), ((0, 0), [(0, 0, 1), (3, 1, 0)]), ((0, 0), [(1, 1, 0), (4, 0, 1)]), ((0, 0), [(1, 0, 1), (4, 1, 0)]), ((0, 1), [(2, 0, 1), (5, 1, 0)]), ((1, 0), [(2, 1, 0), (5, 0, 1)]), ((0, 0), [(2, 0, 1), (6, 1, 0)]), ((0, 0), [(2, 1, 0), (6, 0, 1)]), ((0, 0), [(7, 1, 0), (8, 0, 1)]), ((0, 0), [(7, 0, 1), (8, 1, 0)]), ((0, 1), [(9, 1, 0)]), ((1, 0), [(9, 0, 1)]), ((0, 0), [(8, 1, 0)]), ((0, 0), [(1, 0, 600), (2, 1, 0)]), ((599, 0), [(1, 600, 0), (2, 0, 1)])]) := zu_Lx_ok (hs := [(2, [2, 0, 0], [[], []], ((0, 0), [])), (2, [2, 1, 1], [[], []], ((0, 0), [])), (2, [2, 2, 2], [[1], [0, 1]], ((0, 0), [])), (3, [], [], ((0, 0), [])), (0, [1], [[1, 0, 0, 0, 0, 1]], ((0, 0), [])), (0, [2], [[1, 0, 0, 0, 0, 0, 0, 0, 0, 1]], ((0, 0), [])), (1, [], [], ((0, 1), [(1, 0, 1), (10, 1, 0)])), (0, [2], [[1, 0, 0, 0, 0, 0, 0, 0, 0, 0, 0, 1]], ((0, 0), [])), (1, [], [], ((0, 1), [(2, 0, 1), (10, 600, 0), (11, 1, 0)])), (0, [3], [[0, 0, 1, 0, 0, 0, 0, 0, 0, 0, 0, 0, 1], [1, 0, 0, 0, 0, 0, 0, 0, 0, 0, 0, 0, 0, 0, 0, 1]], ((0, 0), [])), (2, [2, 3, 1], [[1, 0, 0, 0, 0, 0, 0, 0, 0, 0, 0, 0, 0, 0, 0, 0, 1], [0, 0, 0, 1, 0, 0, 0, 0, 0, 0, 0, 0, 0, 0, 0, 0, 0, 1]], ((0, 0), [])), (2, [2, 4, 2], [[1, 0, 0, 0, 0, 0, 0, 0, 0, 0, 0, 0, 0, 0, 0, 0, 0, 0, 0, 0, 1], [0, 1, 0, 0, 0, 0, 0, 0, 0, 0, 0, 0, 0, 0, 0, 0, 0, 0, 0, 0, 0, 1]], ((0, 0), [])), (0, [5], [[0, 1, 0, 0, 0, 0, 0, 0, 0, 0, 0, 0, 0, 0, 0, 0, 0, 0, 0, 0, 0, 0, 0, 0, 1], [1, 0, 0, 0, 0, 0, 0, 0, 0, 0, 0, 0, 0, 0, 0, 0, 0, 0, 0, 0, 0, 0, 0, 0, 0, 1], [0, 0, 0, 1, 0, 0, 0, 0, 0, 0, 0, 0, 0, 0, 0, 0, 0, 0, 0, 0, 0, 0, 0, 0, 0, 0, 1]], ((0, 0), [])), (0, [4], [[1], [0, 1, 0, 0, 0, 0, 0, 0, 1]], ((0, 0), [])), (0, [5], [[1, 0, 0, 0, 1], [0, 1, 0, 1], [0, 0, 1, 0, 0, 0, 1]], ((0, 0), []))]) (by decide +kernel)
theorem zx_gl111_ok {PT : Nat → zz_W → Prop} : zx_Lok 64 zHT PT (zu_Lx 21 21 [188] [((0, 0), [(0, 1, 0), (3, 0, 1)]), ((0, 0), [(0, 0, 1), (3, 1, 0)]), ((0, 1), [(1, 0, 1), (4, 1, 0)]), ((1, 0), [(1, 1, 0), (4, 0, 1)]), ((0, 600), [(1, 0, 600), (5, 1, 0)]), ((600, 0), [(1, 600, 0), (5, 0, 1)]), ((0, 0), [(1, 0, 1), (6, 1, 0)]), ((0, 0), [(1, 1, 0), (6, 0, 1)]), ((0, 0), [(1, 0, 600), (2, 1, 0), (7, 0, 1)])]) := zu_Lx_ok (hs := [(2, [2, 0, 0], [[], []], ((0, 0), [])), (2, [2, 1, 1], [[], []], ((0, 0), [])), (2, [2, 2, 2], [[1], [0, 1]], ((0, 0), [])), (3, [], [], ((0, 0), [])), (0, [1], [[1, 0, 0, 0, 0, 1]], ((0, 0), [])), (0, [3], [[1, 0, 0, 0, 0, 0, 0, 0, 0, 0, 1], [600, 0, 0, 0, 0, 0, 0, 0, 0, 0, 0, 99999, 100000]], ((0, 0), [])), (1, [], [], ((0, 1), [(1, 0, 1), (8, 1, 0)])), (0, [3], [[1, 0, 0, 0, 0, 0, 0, 0, 0, 0, 0, 0, 1], [600, 0, 0, 0, 0, 0, 0, 0, 0, 0, 0, 0, 0, 99999, 100000]], ((0, 0), [])), (2, [2, 3, 0], [[1, 0, 0, 0, 0, 0, 0, 0, 0, 0, 0, 0, 0, 0, 0, 1], [0, 1, 0, 0, 0, 0, 0, 0, 0, 0, 0, 0, 0, 0, 0, 0, 1]], ((0, 0), [])), (0, [1], [[1, 0, 600, 0, 1, 0, 0, 0, 0, 0, 0, 0, 0, 0, 0, 0, 0, 0, 0, 1]], ((0, 0), [])), (0, [4], [[1], [0, 1, 0, 0, 0, 0, 0, 0, 1]], ((0, 0), [])), (0, [5], [[1, 0, 0, 0, 1], [0, 1, 0, 1], [0, 0, 1, 0, 0, 0, 1]], ((0, 0), []))]) (by decide +kernel)
theorem zx_gl92_ok {PT : Nat → zz_W → Prop} : zx_Lok 64 zHT PT (zu_Li 22 [((0, 0), [(1, 0, 1)]), ((0, 0), [(2, 0, 1)])]) := zu_Li_ok (hs := [(0, [3], [[1], [0, 1]], ((0, 0), []))]) (by decide +kernel)
theorem zx_gl102_ok {PT : Nat → zz_W → Prop} : zx_Lok 64 zHT PT (zu_Lx 22 22 [201, 220] [((0, 0), [(0, 1, 0), (3, 0, 1)]), ((0, 0), [(0, 0, 1), (3, 1, 0)]), ((0, 0), [(1, 1, 0), (4, 0, 1)]), ((0, 0), [(1, 0, 1), (4, 1, 0)]), ((0, 1), [(2, 0, 1), (5, 1, 0)]), ((1, 0), [(2, 1, 0), (5, 0, 1)]), ((0, 0), [(2, 0, 1), (6, 1, 0)]), ((0, 0), [(2, 1, 0), (6, 0, 1)]), ((0, 0), [(7, 1, 0), (8, 0, 1)]), ((0, 0), [(7, 0, 1), (8, 1, 0)]), ((0, 1), [(9, 1, 0)]), ((1, 0), [(9, 0, 1)]), ((0, 0), [(8, 1, 0)]), ((0, 0), [(1, 0, 3000), (2, 1, 0)]), ((2999, 0), [(1, 3000, 0), (2, 0, 1)])]) := zu_Lx_ok (hs := [(2, [2, 0, 0], [[], []], ((0, 0), [])), (2, [2, 1, 1], [[], []], ((0, 0), [])), (2, [2, 2, 2], [[1], [0, 1]], ((0, 0), [])), (3, [], [], ((0, 0), [])), (0, [1], [[1, 0, 0, 0, 0, 1]], ((0, 0), [])), (0, [2], [[1, 0, 0, 0, 0, 0, 0, 0, 0, 1]], ((0, 0), [])), (1, [], [], ((0, 1), [(1, 0, 1), (10, 1, 0)])), (0, [2], [[1, 0, 0, 0, 0, 0, 0, 0, 0, 0, 0, 1]], ((0, 0), [])), (1, [], [], ((0, 1), [(2, 0, 1), (10, 3000, 0), (11, 1, 0)])), (0, [3], [[0, 0, 1, 0, 0, 0, 0, 0, 0, 0, 0, 0, 1], [1, 0, 0, 0, 0, 0, 0, 0, 0, 0, 0, 0, 0, 0, 0, 1]], ((0, 0), [])), (2, [2, 3, 1], [[1, 0, 0, 0, 0, 0, 0, 0, 0, 0, 0, 0, 0, 0, 0, 0, 1], [0, 0, 0, 1, 0, 0, 0, 0, 0, 0, 0, 0, 0, 0, 0, 0, 0, 1]], ((0, 0), [])), (2, [2, 4, 2], [[1, 0, 0, 0, 0, 0, 0, 0, 0, 0, 0, 0, 0, 0, 0, 0, 0, 0, 0, 0, 1], [0, 1, 0, 0, 0, 0, 0, 0, 0, 0, 0, 0, 0, 0, 0, 0, 0, 0, 0, 0, 0, 1]], ((0, 0), [])), (0, [5], [[0, 1, 0, 0, 0, 0, 0, 0, 0, 0, 0, 0, 0, 0, 0, 0, 0, 0, 0, 0, 0, 0, 0, 0, 1], [1, 0, 0, 0, 0, 0, 0, 0, 0, 0, 0, 0, 0, 0, 0, 0, 0, 0, 0, 0, 0, 0, 0, 0, 0, 1], [0, 0, 0, 1, 0, 0, 0, 0, 0, 0, 0, 0, 0, 0, 0, 0, 0, 0, 0, 0, 0, 0, 0, 0, 0, 0, 1]], ((0, 0), [])), (0, [4], [[1], [0, 1, 0, 0, 0, 0, 0, 0, 1]], ((0, 0), [])), (0, [5], [[1, 0, 0, 0, 1], [0, 1, 0, 1], [0, 0, 1, 0, 0, 0, 1]], ((0, 0), [])), (0, [6], [[1, 0, 0, 1]], ((0, 0), []))]) (by decide +kernel)
theorem zx_gl112_ok {PT : Nat → zz_W → Prop} : zx_Lok 64 zHT PT (zu_Lx 22 22 [195] [((0, 0), [(0, 1, 0), (3, 0, 1)]), ((0, 0), [(0, 0, 1), (3, 1, 0)]), ((0, 1), [(1, 0, 1), (4, 1, 0)]), ((1, 0), [(1, 1, 0), (4, 0, 1)]), ((0, 3000), [(1, 0, 3000), (5, 1, 0)]), ((3000, 0), [(1, 3000, 0), (5, 0, 1)]), ((0, 0), [(1, 0, 1), (6, 1, 0)]), ((0, 0), [(1, 1, 0), (6, 0, 1)]), ((0, 0), [(1, 0, 3000), (2, 1, 0), (7, 0, 1)])]) := zu_Lx_ok (hs := [(2, [2, 0, 0], [[], []], ((0, 0), [])), (2, [2, 1, 1], [[], []], ((0, 0), [])), (2, [2, 2, 2], [[1], [0, 1]], ((0, 0), [])), (3, [], [], ((0, 0), [])), (0, [1], [[1, 0, 0, 0, 0, 1]], ((0, 0), [])), (0, [3], [[1, 0, 0, 0, 0, 0, 0, 0, 0, 0, 1], [3000, 0, 0, 0, 0, 0, 0, 0, 0, 0, 0, 99999, 100000]], ((0, 0), [])), (1, [], [], ((0, 1), [(1, 0, 1), (8, 1, 0)])), (0, [3], [[1, 0, 0, 0, 0, 0, 0, 0, 0, 0, 0, 0, 1], [3000, 0, 0, 0, 0, 0, 0, 0, 0, 0, 0, 0, 0, 99999, 100000]], ((0, 0), [])), (2, [2, 3, 0], [[1, 0, 0, 0, 0, 0, 0, 0, 0, 0, 0, 0, 0, 0, 0, 1], [0, 1, 0, 0, 0, 0, 0, 0, 0, 0, 0, 0, 0, 0, 0, 0, 1]], ((0, 0), [])), (0, [1], [[1, 0, 3000, 0, 1, 0, 0, 0, 0, 0, 0, 0, 0, 0, 0, 0, 0, 0, 0, 1]], ((0, 0), [])), (0, [4], [[1], [0, 1, 0, 0, 0, 0, 0, 0, 1]], ((0, 0), [])), (0, [5], [[1, 0, 0, 0, 1], [0, 1, 0, 1], [0, 0, 1, 0, 0, 0, 1]], ((0, 0), [])), (0, [6], [[1, 0, 0, 1]], ((0, 0), []))]) (by decide +kernel)
theorem zx_gl93_ok {PT : Nat → zz_W → Prop} : zx_Lok 64 zHT PT (zu_Li 23 [((0, 0), [(1, 0, 1)]), ((0, 0), [(2, 0, 1)])]) := zu_Li_ok (hs := [(0, [3], [[1], [0, 1]], ((0, 0), []))]) (by decide +kernel)
theorem zx_gl103_ok {PT : Nat → zz_W → Prop} : zx_Lok 64 zHT PT (zu_Lx 23 23 [204, 220] [((0, 0), [(0, 1, 0), (3, 0, 1)]), ((0, 0), [(0, 0, 1), (3, 1, 0)]), ((0, 0), [(1, 1, 0), (4, 0, 1)]), ((0, 0), [(1, 0, 1), (4, 1, 0)]), ((0, 1), [(2, 0, 1), (5, 1, 0)]), ((1, 0), [(2, 1, 0), (5, 0, 1)]), ((0, 0), [(2, 0, 1), (6, 1, 0)]), ((0, 0), [(2, 1, 0), (6, 0, 1)]), ((0, 0), [(7, 1, 0), (8, 0, 1)]), ((0, 0), [(7, 0, 1), (8, 1, 0)]), ((0, 1), [(9, 1, 0)]), ((1, 0), [(9, 0, 1)]), ((0, 0), [(8, 1, 0)]), ((0, 0), [(1, 0, 600), (2, 1, 0)]), ((599, 0), [(1, 600, 0), (2, 0, 1)])]) := zu_Lx_ok (hs := [(2, [2, 0, 0], [[], []], ((0, 0), [])), (2, [2, 1, 1], [[], []], ((0, 0), [])), (2, [2, 2, 2], [[1], [0, 1]], ((0, 0), [])), (3, [], [], ((0, 0), [])), (0, [1], [[1, 0, 0, 0, 0, 1]], ((0, 0), [])), (0, [2], [[1, 0, 0, 0, 0, 0, 0, 0, 0, 1]], ((0, 0), [])), (1, [], [], ((0, 1), [(1, 0, 1), (10, 1, 0)])), (0, [2], [[1, 0, 0, 0, 0, 0, 0, 0, 0, 0, 0, 1]], ((0, 0), [])), (1, [], [], ((0, 1), [(2, 0, 1), (10, 600, 0), (11, 1, 0)])), (0, [3], [[0, 0, 1, 0, 0, 0, 0, 0, 0, 0, 0, 0, 1], [1, 0, 0, 0, 0, 0, 0, 0, 0, 0, 0, 0, 0, 0, 0, 1]], ((0, 0), [])), (2, [2, 3, 1], [[1, 0, 0, 0, 0, 0, 0, 0, 0, 0, 0, 0, 0, 0, 0, 0, 1], [0, 0, 0, 1, 0, 0, 0, 0, 0, 0, 0, 0, 0, 0, 0, 0, 0, 1]], ((0, 0), [])), (2, [2, 4, 2], [[1, 0, 0, 0, 0, 0, 0, 0, 0, 0, 0, 0, 0, 0, 0, 0, 0, 0, 0, 0, 1], [0, 1, 0, 0, 0, 0, 0, 0, 0, 0, 0, 0, 0, 0, 0, 0, 0, 0, 0, 0, 0, 1]], ((0, 0), [])), (0, [5], [[0, 1, 0, 0, 0, 0, 0, 0, 0, 0, 0, 0, 0, 0, 0, 0, 0, 0, 0, 0, 0, 0, 0, 0, 1], [1, 0, 0, 0, 0, 0, 0, 0, 0, 0, 0, 0, 0, 0, 0, 0, 0, 0, 0, 0, 0, 0, 0, 0, 0, 1], [0, 0, 0, 1, 0, 0, 0, 0, 0, 0, 0, 0, 0, 0, 0, 0, 0, 0, 0, 0, 0, 0, 0, 0, 0, 0, 1]], ((0, 0), [])), (0, [4], [[1], [0, 1, 0, 0, 0, 0, 0, 0, 1]], ((0, 0), [])), (0, [5], [[1, 0, 0, 0, 1], [0, 1, 0, 1], [0, 0, 1, 0, 0, 0, 1]], ((0, 0), []))]) (by decide +kernel)
theorem zx_gl113_ok {PT : Nat → zz_W → Prop} : zx_Lok 64 zHT PT (zu_Lx 23 23 [203] [((0, 0), [(0, 1, 0), (3, 0, 1)]), ((0, 0), [(0, 0, 1), (3, 1, 0)]), ((0, 1), [(1, 0, 1), (4, 1, 0)]), ((1, 0), [(1, 1, 0), (4, 0, 1)]), ((0, 600), [(1, 0, 600), (5, 1, 0)]), ((600, 0), [(1, 600, 0), (5, 0, 1)]), ((0, 0), [(1, 0, 1), (6, 1, 0)]), ((0, 0), [(1, 1, 0), (6, 0, 1)]), ((0, 0), [(1, 0, 600), (2, 1, 0), (7, 0, 1)])]) := zu_Lx_ok (hs := [(2, [2, 0, 0], [[], []], ((0, 0), [])), (2, [2, 1, 1], [[], []], ((0, 0), [])), (2, [2, 2, 2], [[1], [0, 1]], ((0, 0), [])), (3, [], [], ((0, 0), [])), (0, [1], [[1, 0, 0, 0, 0, 1]], ((0, 0), [])), (0, [3], [[1, 0, 0, 0, 0, 0, 0, 0, 0, 0, 1], [600, 0, 0, 0, 0, 0, 0, 0, 0, 0, 0, 99999, 100000]], ((0, 0), [])), (1, [], [], ((0, 1), [(1, 0, 1), (8, 1, 0)])), (0, [3], [[1, 0, 0, 0, 0, 0, 0, 0, 0, 0, 0, 0, 1], [600, 0, 0, 0, 0, 0, 0, 0, 0, 0, 0, 0, 0, 99999, 100000]], ((0, 0), [])), (2, [2, 3, 0], [[1, 0, 0, 0, 0, 0, 0, 0, 0, 0, 0, 0, 0, 0, 0, 1], [0, 1, 0, 0, 0, 0, 0, 0, 0, 0, 0, 0, 0, 0, 0, 0, 1]], ((0, 0), [])), (0, [1], [[1, 0, 600, 0, 1, 0, 0, 0, 0, 0, 0, 0, 0, 0, 0, 0, 0, 0, 0, 1]], ((0, 0), [])), (0, [4], [[1], [0, 1, 0, 0, 0, 0, 0, 0, 1]], ((0, 0), [])), (0, [5], [[1, 0, 0, 0, 1], [0, 1, 0, 1], [0, 0, 1, 0, 0, 0, 1]], ((0, 0), []))]) (by decide +kernel)
theorem zx_gl94_ok {PT : Nat → zz_W → Prop} : zx_Lok 64 zHT PT (zu_Li 24 [((0, 0), [(1, 0, 1)]), ((0, 0), [(2, 0, 1)])]) := zu_Li_ok (hs := [(0, [3], [[1], [0, 1]], ((0, 0), []))]) (by decide +kernel)
theorem zx_gl104_ok {PT : Nat → zz_W → Prop} : zx_Lok 64 zHT PT (zu_Lx 24 24 [214, 220] [((0, 0), [(0, 1, 0), (3, 0, 1)]), ((0, 0), [(0, 0, 1), (3, 1, 0)]), ((0, 0), [(1, 1, 0), (4, 0, 1)]), ((0, 0), [(1, 0, 1), (4, 1, 0)]), ((0, 1), [(2, 0, 1), (5, 1, 0)]), ((1, 0), [(2, 1, 0), (5, 0, 1)]), ((0, 0), [(2, 0, 1), (6, 1, 0)]), ((0, 0), [(2, 1, 0), (6, 0, 1)]), ((0, 0), [(7, 1, 0), (8, 0, 1)]), ((0, 0), [(7, 0, 1), (8, 1, 0)]), ((0, 1), [(9, 1, 0)]), ((1, 0), [(9, 0, 1)]), ((0, 0), [(8, 1, 0)]), ((0, 0), [(1, 0, 64), (2, 1, 0)]), ((63, 0), [(1, 64, 0), (2, 0, 1)])]) := zu_Lx_ok (hs := [(2, [2, 0, 0], [[], []], ((0, 0), [])), (2, [2, 1, 1], [[], []], ((0, 0), [])), (2, [2, 2, 2], [[1], [0, 1]], ((0, 0), [])), (3, [], [], ((0, 0), [])), (0, [1], [[1, 0, 0, 0, 0, 1]], ((0, 0), [])), (0, [2], [[1, 0, 0, 0, 0, 0, 0, 0, 0, 1]], ((0, 0), [])), (1, [], [], ((0, 1), [(1, 0, 1), (10, 1, 0)])), (0, [2], [[1, 0, 0, 0, 0, 0, 0, 0, 0, 0, 0, 1]], ((0, 0), [])), (1, [], [], ((0, 1), [(2, 0, 1), (10, 64, 0), (11, 1, 0)])), (0, [3], [[0, 0, 1, 0, 0, 0, 0, 0, 0, 0, 0, 0, 1], [1, 0, 0, 0, 0, 0, 0, 0, 0, 0, 0, 0, 0, 0, 0, 1]], ((0, 0), [])), (2, [2, 3, 1], [[1, 0, 0, 0, 0, 0, 0, 0, 0, 0, 0, 0, 0, 0, 0, 0, 1], [0, 0, 0, 1, 0, 0, 0, 0, 0, 0, 0, 0, 0, 0, 0, 0, 0, 1]], ((0, 0), [])), (2, [2, 4, 2], [[1, 0, 0, 0, 0, 0, 0, 0, 0, 0, 0, 0, 0, 0, 0, 0, 0, 0, 0, 0, 1], [0, 1, 0, 0, 0, 0, 0, 0, 0, 0, 0, 0, 0, 0, 0, 0, 0, 0, 0, 0, 0, 1]], ((0, 0), [])), (0, [5], [[0, 1, 0, 0, 0, 0, 0, 0, 0, 0, 0, 0, 0, 0, 0, 0, 0, 0, 0, 0, 0, 0, 0, 0, 1], [1, 0, 0, 0, 0, 0, 0, 0, 0, 0, 0, 0, 0, 0, 0, 0, 0, 0, 0, 0, 0, 0, 0, 0, 0, 1], [0, 0, 0, 1, 0, 0, 0, 0, 0, 0, 0, 0, 0, 0, 0, 0, 0, 0, 0, 0, 0, 0, 0, 0, 0, 0, 1]], ((0, 0), [])), (0, [4], [[], [0, 1, 0, 0, 0, 0, 0, 0, 1]], ((0, 0), [])), (0, [5], [[1, 0, 0, 0, 1], [0, 1, 0, 1], [0, 0, 1, 0, 0, 0, 1]], ((0, 0), []))]) (by decide +kernel)
theorem zx_gl114_ok {PT : Nat → zz_W → Prop} : zx_Lok 64 zHT PT (zu_Lx 24 24 [213] [((0, 0), [(0, 1, 0), (3, 0, 1)]), ((0, 0), [(0, 0, 1), (3, 1, 0)]), ((0, 1), [(1, 0, 1), (4, 1, 0)]), ((1, 0), [(1, 1, 0), (4, 0, 1)]), ((0, 64), [(1, 0, 64), (5, 1, 0)]), ((64, 0), [(1, 64, 0), (5, 0, 1)]), ((0, 0), [(1, 0, 1), (6, 1, 0)]), ((0, 0), [(1, 1, 0), (6, 0, 1)]), ((0, 0), [(1, 0, 64), (2, 1, 0), (7, 0, 1)])]) := zu_Lx_ok (hs := [(2, [2, 0, 0], [[], []], ((0, 0), [])), (2, [2, 1, 1], [[], []], ((0, 0), [])), (2, [2, 2, 2], [[1], [0, 1]], ((0, 0), [])), (3, [], [], ((0, 0), [])), (0, [1], [[1, 0, 0, 0, 0, 1]], ((0, 0), [])), (0, [3], [[1, 0, 0, 0, 0, 0, 0, 0, 0, 0, 1], [64, 0, 0, 0, 0, 0, 0, 0, 0, 0, 0, 99999, 100000]], ((0, 0), [])), (1, [], [], ((0, 1), [(1, 0, 1), (8, 1, 0)])), (0, [3], [[1, 0, 0, 0, 0, 0, 0, 0, 0, 0, 0, 0, 1], [64, 0, 0, 0, 0, 0, 0, 0, 0, 0, 0, 0, 0, 99999, 100000]], ((0, 0), [])), (2, [2, 3, 0], [[1, 0, 0, 0, 0, 0, 0, 0, 0, 0, 0, 0, 0, 0, 0, 1], [0, 1, 0, 0, 0, 0, 0, 0, 0, 0, 0, 0, 0, 0, 0, 0, 1]], ((0, 0), [])), (0, [1], [[1, 0, 64, 0, 1, 0, 0, 0, 0, 0, 0, 0, 0, 0, 0, 0, 0, 0, 0, 1]], ((0, 0), [])), (0, [4], [[], [0, 1, 0, 0, 0, 0, 0, 0, 1]], ((0, 0), [])), (0, [5], [[1, 0, 0, 0, 1], [0, 1, 0, 1], [0, 0, 1, 0, 0, 0, 1]], ((0, 0), []))]) (by decide +kernel)
theorem zx_gl95_ok {PT : Nat → zz_W → Prop} : zx_Lok 64 zHT PT (zu_Li 25 [((0, 0), [(1, 0, 1)]), ((0, 0), [(2, 0, 1)])]) := zu_Li_ok (hs := [(0, [3], [[1], [0, 1]], ((0, 0), []))]) (by decide +kernel)
theorem zx_gl105_ok {PT : Nat → zz_W → Prop} : zx_Lok 64 zHT PT (zu_Lx 25 25 [209, 220] [((0, 0), [(0, 1, 0), (3, 0, 1)]), ((0, 0), [(0, 0, 1), (3, 1, 0)]), ((0, 0), [(1, 1, 0), (4, 0, 1)]), ((0, 0), [(1, 0, 1), (4, 1, 0)]), ((0, 1), [(2, 0, 1), (5, 1, 0)]), ((1, 0), [(2, 1, 0), (5, 0, 1)]), ((0, 0), [(2, 0, 1), (6, 1, 0)]), ((0, 0), [(2, 1, 0), (6, 0, 1)]), ((0, 0), [(7, 1, 0), (8, 0, 1)]), ((0, 0), [(7, 0, 1), (8, 1, 0)]), ((0, 1), [(9, 1, 0)]), ((1, 0), [(9, 0, 1)]), ((0, 0), [(8, 1, 0)]), ((0, 0), [(1, 0, 8000), (2, 1, 0)]), ((7999, 0), [(1, 8000, 0), (2, 0, 1)])]) := zu_Lx_ok (hs := [(2, [2, 0, 0], [[], []], ((0, 0), [])), (2, [2, 1, 1], [[], []], ((0, 0), [])), (2, [2, 2, 2], [[], []], ((0, 0), [])), (2, [2, 3, 3], [[1], [0, 1]], ((0, 0), [])), (2, [2, 4, 4], [[], []], ((0, 0), [])), (3, [], [], ((0, 0), [])), (0, [1], [[1, 0, 0, 0, 0, 0, 0, 0, 0, 1]], ((0, 0), [])), (0, [2], [[1, 0, 0, 0, 0, 0, 0, 0, 0, 0, 0, 0, 0, 1]], ((0, 0), [])), (1, [], [], ((0, 1), [(1, 0, 1), (10, 1, 0)])), (0, [2], [[1, 0, 0, 0, 0, 0, 0, 0, 0, 0, 0, 0, 0, 0, 0, 1]], ((0, 0), [])), (1, [], [], ((0, 1), [(2, 0, 1), (10, 8000, 0), (11, 1, 0)])), (0, [3], [[0, 0, 1, 0, 0, 0, 0, 0, 0, 0, 0, 0, 0, 0, 0, 0, 1], [1, 0, 0, 0, 0, 0, 0, 0, 0, 0, 0, 0, 0, 0, 0, 0, 0, 0, 0, 1]], ((0, 0), [])), (2, [2, 5, 2], [[1, 0, 0, 0, 0, 0, 0, 0, 0, 0, 0, 0, 0, 0, 0, 0, 0, 0, 0, 0, 1], [0, 0, 0, 1, 0, 0, 0, 0, 0, 0, 0, 0, 0, 0, 0, 0, 0, 0, 0, 0, 0, 1]], ((0, 0), [])), (2, [2, 6, 3], [[1, 0, 0, 0, 0, 0, 0, 0, 0, 0, 0, 0, 0, 0, 0, 0, 0, 0, 0, 0, 0, 0, 0, 0, 1], [0, 1, 0, 0, 0, 0, 0, 0, 0, 0, 0, 0, 0, 0, 0, 0, 0, 0, 0, 0, 0, 0, 0, 0, 0, 1]], ((0, 0), [])), (0, [9], [[0, 1, 0, 0, 0, 0, 0, 0, 0, 0, 0, 0, 0, 0, 0, 0, 0, 0, 0, 0, 0, 0, 0, 0, 0, 0, 0, 0, 1], [1, 0, 0, 0, 0, 0, 0, 0, 0, 0, 0, 0, 0, 0, 0, 0, 0, 0, 0, 0, 0, 0, 0, 0, 0, 0, 0, 0, 0, 1], [0, 0, 0, 1, 0, 0, 0, 0, 0, 0, 0, 0, 0, 0, 0, 0, 0, 0, 0, 0, 0, 0, 0, 0, 0, 0, 0, 0, 0, 0, 1]], ((0, 0), [])), (0, [4], [[], [0, 1, 0, 0, 0, 0, 0, 0, 0, 0, 0, 0, 1]], ((0, 0), [])), (0, [5], [[1, 0, 0, 0, 0, 0, 0, 1]], ((0, 0), [])), (0, [6], [[1, 0, 0, 0, 0, 0, 0, 0, 0, 1], [0, 1, 0, 0, 0, 0, 0, 0, 1]], ((0, 0), [])), (0, [7], [[1, 0, 0, 0, 0, 0, 0, 0, 1]], ((0, 0), [])), (0, [8], [[1, 1]], ((0, 0), [])), (0, [9], [[1, 0, 0, 0, 0, 0, 1], [0, 1, 0, 0, 0, 1], [0, 0, 1, 0, 0, 0, 0, 0, 1]], ((0, 0), []))]) (by decide +kernel)
theorem zx_gl120_ok {PT : Nat → zz_W → Prop} : zx_Lok 64 zHT PT (zu_Lx 25 25 [208] [((0, 0), [(0, 1, 0), (3, 0, 1)]), ((0, 0), [(0, 0, 1), (3, 1, 0)]), ((0, 0), [(1, 1, 0), (4, 0, 1)]), ((0, 0), [(1, 0, 1), (4, 1, 0)]), ((0, 1), [(2, 0, 1), (5, 1, 0)]), ((1, 0), [(2, 1, 0), (5, 0, 1)]), ((0, 0), [(2, 0, 1), (6, 1, 0)]), ((0, 0), [(2, 1, 0), (6, 0, 1)]), ((4, 0), [(7, 0, 1)]), ((0, 0), [(1, 0, 8000), (2, 1, 0)]), ((7999, 0), [(1, 8000, 0), (2, 0, 1)])]) := zu_Lx_ok (hs := [(2, [2, 0, 0], [[], []], ((0, 0), [])), (2, [2, 1, 1], [[], []], ((0, 0), [])), (2, [2, 2, 2], [[], []], ((0, 0), [])), (2, [2, 3, 3], [[1], [0, 1]], ((0, 0), [])), (2, [2, 4, 4], [[], []], ((0, 0), [])), (3, [], [], ((0, 0), [])), (0, [1], [[1, 0, 0, 0, 0, 0, 0, 0, 0, 1]], ((0, 0), [])), (0, [2], [[1, 0, 0, 0, 0, 0, 0, 0, 0, 0, 0, 0, 0, 1]], ((0, 0), [])), (1, [], [], ((0, 1), [(1, 0, 1), (8, 1, 0)])), (0, [2], [[1, 0, 0, 0, 0, 0, 0, 0, 0, 0, 0, 0, 0, 0, 0, 1]], ((0, 0), [])), (1, [], [], ((0, 1), [(2, 0, 1), (8, 8000, 0), (9, 1, 0)])), (0, [3], [[0, 0, 1, 0, 0, 0, 0, 0, 0, 0, 0, 0, 0, 0, 0, 0, 1], [1, 0, 0, 0, 0, 0, 0, 0, 0, 0, 0, 0, 0, 0, 0, 0, 0, 0, 0, 1]], ((0, 0), [])), (2, [2, 5, 1], [[1, 0, 0, 0, 0, 0, 0, 0, 0, 0, 0, 0, 0, 0, 0, 0, 0, 0, 0, 0, 1], [0, 0, 0, 1, 0, 0, 0, 0, 0, 0, 0, 0, 0, 0, 0, 0, 0, 0, 0, 0, 0, 1]], ((0, 0), [])), (0, [5], [[1, 0, 0, 0, 0, 0, 0, 0, 0, 0, 0, 0, 0, 0, 0, 0, 0, 0, 0, 0, 0, 0, 0, 0, 1]], ((0, 0), [])), (0, [4], [[], [0, 1, 0, 0, 0, 0, 0, 0, 0, 0, 0, 0, 1]], ((0, 0), [])), (0, [5], [[1, 0, 0, 0, 0, 0, 0, 1]], ((0, 0), [])), (0, [6], [[1, 0, 0, 0, 0, 0, 0, 0, 0, 1], [0, 1, 0, 0, 0, 0, 0, 0, 1]], ((0, 0), [])), (0, [7], [[1, 0, 0, 0, 0, 0, 0, 0, 1]], ((0, 0), [])), (0, [8], [[1, 1]], ((0, 0), [])), (0, [9], [[1, 0, 0, 0, 0, 0, 1], [0, 1, 0, 0, 0, 1], [0, 0, 1, 0, 0, 0, 0, 0, 1]], ((0, 0), []))]) (by decide +kernel)
theorem zx_gl121_ok {PT : Nat → zz_W → Prop} : zx_Lok 64 zHT PT (zu_Lx 25 25 [208] [((0, 0), [(0, 1, 0), (3, 0, 1)]), ((0, 0), [(0, 0, 1), (3, 1, 0)]), ((0, 0), [(1, 1, 0), (4, 0, 1)]), ((0, 0), [(1, 0, 1), (4, 1, 0)]), ((0, 1), [(2, 0, 1), (5, 1, 0)]), ((1, 0), [(2, 1, 0), (5, 0, 1)]), ((0, 0), [(2, 0, 1), (6, 1, 0)]), ((0, 0), [(2, 1, 0), (6, 0, 1)]), ((0, 9), [(7, 1, 0)]), ((10, 0), [(7, 0, 1)]), ((0, 0), [(1, 0, 8000), (2, 1, 0)]), ((7999, 0), [(1, 8000, 0), (2, 0, 1)])]) := zu_Lx_ok (hs := [(2, [2, 0, 0], [[], []], ((0, 0), [])), (2, [2, 1, 1], [[], []], ((0, 0), [])), (2, [2, 2, 2], [[], []], ((0, 0), [])), (2, [2, 3, 3], [[1], [0, 1]], ((0, 0), [])), (2, [2, 4, 4], [[], []], ((0, 0), [])), (3, [], [], ((0, 0), [])), (0, [1], [[1, 0, 0, 0, 0, 0, 0, 0, 0, 1]], ((0, 0), [])), (0, [2], [[1, 0, 0, 0, 0, 0, 0, 0, 0, 0, 0, 0, 0, 1]], ((0, 0), [])), (1, [], [], ((0, 1), [(1, 0, 1), (8, 1, 0)])), (0, [2], [[1, 0, 0, 0, 0, 0, 0, 0, 0, 0, 0, 0, 0, 0, 0, 1]], ((0, 0), [])), (1, [], [], ((0, 1), [(2, 0, 1), (8, 8000, 0), (9, 1, 0)])), (0, [3], [[0, 0, 1, 0, 0, 0, 0, 0, 0, 0, 0, 0, 0, 0, 0, 0, 1], [1, 0, 0, 0, 0, 0, 0, 0, 0, 0, 0, 0, 0, 0, 0, 0, 0, 0, 0, 1]], ((0, 0), [])), (2, [2, 5, 1], [[1, 0, 0, 0, 0, 0, 0, 0, 0, 0, 0, 0, 0, 0, 0, 0, 0, 0, 0, 0, 1], [0, 0, 0, 1, 0, 0, 0, 0, 0, 0, 0, 0, 0, 0, 0, 0, 0, 0, 0, 0, 0, 1]], ((0, 0), [])), (0, [6], [[0, 1, 0, 0, 0, 0, 0, 0, 0, 0, 0, 0, 0, 0, 0, 0, 0, 0, 0, 0, 0, 0, 0, 0, 1], [1, 0, 0, 0, 0, 0, 0, 0, 0, 0, 0, 0, 0, 0, 0, 0, 0, 0, 0, 0, 0, 0, 0, 0, 0, 1]], ((0, 0), [])), (0, [4], [[], [0, 1, 0, 0, 0, 0, 0, 0, 0, 0, 0, 0, 1]], ((0, 0), [])), (0, [5], [[1, 0, 0, 0, 0, 0, 0, 1]], ((0, 0), [])), (0, [6], [[1, 0, 0, 0, 0, 0, 0, 0, 0, 1], [0, 1, 0, 0, 0, 0, 0, 0, 1]], ((0, 0), [])), (0, [7], [[1, 0, 0, 0, 0, 0, 0, 0, 1]], ((0, 0), [])), (0, [8], [[1, 1]], ((0, 0), [])), (0, [9], [[1, 0, 0, 0, 0, 0, 1], [0, 1, 0, 0, 0, 1], [0, 0, 1, 0, 0, 0, 0, 0, 1]], ((0, 0), []))]) (by decide +kernel)
theorem zx_gl122_ok {PT : Nat → zz_W → Prop} : zx_Lok 64 zHT PT (zu_Lx 25 25 [208] [((0, 0), [(0, 1, 0), (3, 0, 1)]), ((0, 0), [(0, 0, 1), (3, 1, 0)]), ((0, 0), [(1, 1, 0), (4, 0, 1)]), ((0, 0), [(1, 0, 1), (4, 1, 0)]), ((0, 1), [(2, 0, 1), (5, 1, 0)]), ((1, 0), [(2, 1, 0), (5, 0, 1)]), ((0, 0), [(2, 0, 1), (6, 1, 0)]), ((0, 0), [(2, 1, 0), (6, 0, 1)]), ((0, 13), [(7, 1, 0)]), ((0, 0), [(1, 0, 8000), (2, 1, 0)]), ((7999, 0), [(1, 8000, 0), (2, 0, 1)])]) := zu_Lx_ok (hs := [(2, [2, 0, 0], [[], []], ((0, 0), [])), (2, [2, 1, 1], [[], []], ((0, 0), [])), (2, [2, 2, 2], [[], []], ((0, 0), [])), (2, [2, 3, 3], [[1], [0, 1]], ((0, 0), [])), (2, [2, 4, 4], [[], []], ((0, 0), [])), (3, [], [], ((0, 0), [])), (0, [1], [[1, 0, 0, 0, 0, 0, 0, 0, 0, 1]], ((0, 0), [])), (0, [2], [[1, 0, 0, 0, 0, 0, 0, 0, 0, 0, 0, 0, 0, 1]], ((0, 0), [])), (1, [], [], ((0, 1), [(1, 0, 1), (8, 1, 0)])), (0, [2], [[1, 0, 0, 0, 0, 0, 0, 0, 0, 0, 0, 0, 0, 0, 0, 1]], ((0, 0), [])), (1, [], [], ((0, 1), [(2, 0, 1), (8, 8000, 0), (9, 1, 0)])), (0, [3], [[0, 0, 1, 0, 0, 0, 0, 0, 0, 0, 0, 0, 0, 0, 0, 0, 1], [1, 0, 0, 0, 0, 0, 0, 0, 0, 0, 0, 0, 0, 0, 0, 0, 0, 0, 0, 1]], ((0, 0), [])), (2, [2, 5, 1], [[1, 0, 0, 0, 0, 0, 0, 0, 0, 0, 0, 0, 0, 0, 0, 0, 0, 0, 0, 0, 1], [0, 0, 0, 1, 0, 0, 0, 0, 0, 0, 0, 0, 0, 0, 0, 0, 0, 0, 0, 0, 0, 1]], ((0, 0), [])), (0, [7], [[0, 1, 0, 0, 0, 0, 0, 0, 0, 0, 0, 0, 0, 0, 0, 0, 0, 0, 0, 0, 0, 0, 0, 0, 1]], ((0, 0), [])), (0, [4], [[], [0, 1, 0, 0, 0, 0, 0, 0, 0, 0, 0, 0, 1]], ((0, 0), [])), (0, [5], [[1, 0, 0, 0, 0, 0, 0, 1]], ((0, 0), [])), (0, [6], [[1, 0, 0, 0, 0, 0, 0, 0, 0, 1], [0, 1, 0, 0, 0, 0, 0, 0, 1]], ((0, 0), [])), (0, [7], [[1, 0, 0, 0, 0, 0, 0, 0, 1]], ((0, 0), [])), (0, [8], [[1, 1]], ((0, 0), [])), (0, [9], [[1, 0, 0, 0, 0, 0, 1], [0, 1, 0, 0, 0, 1], [0, 0, 1, 0, 0, 0, 0, 0, 1]], ((0, 0), []))]) (by decide +kernel)
theorem zx_gl115_ok {PT : Nat → zz_W → Prop} : zx_Lok 64 zHT PT (zu_Lx 25 25 [207] [((0, 0), [(0, 1, 0), (3, 0, 1)]), ((0, 0), [(0, 0, 1), (3, 1, 0)]), ((0, 1), [(1, 0, 1), (4, 1, 0)]), ((1, 0), [(1, 1, 0), (4, 0, 1)]), ((0, 8000), [(1, 0, 8000), (5, 1, 0)]), ((8000, 0), [(1, 8000, 0), (5, 0, 1)]), ((0, 0), [(1, 0, 1), (6, 1, 0)]), ((0, 0), [(1, 1, 0), (6, 0, 1)]), ((0, 0), [(1, 0, 8000), (2, 1, 0), (7, 0, 1)])]) := zu_Lx_ok (hs := [(2, [2, 0, 0], [[], []], ((0, 0), [])), (2, [2, 1, 1], [[], []], ((0, 0), [])), (2, [2, 2, 2], [[], []], ((0, 0), [])), (2, [2, 3, 3], [[1], [0, 1]], ((0, 0), [])), (2, [2, 4, 4], [[], []], ((0, 0), [])), (3, [], [], ((0, 0), [])), (0, [1], [[1, 0, 0, 0, 0, 0, 0, 0, 0, 1]], ((0, 0), [])), (0, [3], [[1, 0, 0, 0, 0, 0, 0, 0, 0, 0, 0, 0, 0, 0, 1], [8000, 0, 0, 0, 0, 0, 0, 0, 0, 0, 0, 0, 0, 0, 0, 99999, 100000]], ((0, 0), [])), (1, [], [], ((0, 1), [(1, 0, 1), (8, 1, 0)])), (0, [3], [[1, 0, 0, 0, 0, 0, 0, 0, 0, 0, 0, 0, 0, 0, 0, 0, 1], [8000, 0, 0, 0, 0, 0, 0, 0, 0, 0, 0, 0, 0, 0, 0, 0, 0, 99999, 100000]], ((0, 0), [])), (2, [2, 5, 0], [[1, 0, 0, 0, 0, 0, 0, 0, 0, 0, 0, 0, 0, 0, 0, 0, 0, 0, 0, 1], [0, 1, 0, 0, 0, 0, 0, 0, 0, 0, 0, 0, 0, 0, 0, 0, 0, 0, 0, 0, 1]], ((0, 0), [])), (0, [1], [[1, 0, 8000, 0, 1, 0, 0, 0, 0, 0, 0, 0, 0, 0, 0, 0, 0, 0, 0, 0, 0, 0, 0, 1]], ((0, 0), [])), (0, [4], [[], [0, 1, 0, 0, 0, 0, 0, 0, 0, 0, 0, 0, 1]], ((0, 0), [])), (0, [5], [[1, 0, 0, 0, 0, 0, 0, 1]], ((0, 0), [])), (0, [6], [[1, 0, 0, 0, 0, 0, 0, 0, 0, 1], [0, 1, 0, 0, 0, 0, 0, 0, 1]], ((0, 0), [])), (0, [7], [[1, 0, 0, 0, 0, 0, 0, 0, 1]], ((0, 0), [])), (0, [8], [[1, 1]], ((0, 0), [])), (0, [9], [[1, 0, 0, 0, 0, 0, 1], [0, 1, 0, 0, 0, 1], [0, 0, 1, 0, 0, 0, 0, 0, 1]], ((0, 0), []))]) (by decide +kernel)
theorem zx_gl116_ok {PT : Nat → zz_W → Prop} : zx_Lok 64 zHT PT (zu_Lx 25 25 [176] [((0, 0), [(0, 1, 0), (3, 0, 1)]), ((0, 0), [(0, 0, 1), (3, 1, 0)]), ((0, 1), [(1, 0, 1), (4, 1, 0)]), ((1, 0), [(1, 1, 0), (4, 0, 1)]), ((0, 8000), [(1, 0, 8000), (5, 1, 0)]), ((8000, 0), [(1, 8000, 0), (5, 0, 1)]), ((0, 0), [(1, 0, 1), (6, 1, 0)]), ((0, 0), [(1, 1, 0), (6, 0, 1)]), ((0, 0), [(7, 0, 1)])]) := zu_Lx_ok (hs := [(2, [2, 0, 0], [[], []], ((0, 0), [])), (2, [2, 1, 1], [[], []], ((0, 0), [])), (2, [2, 2, 2], [[], []], ((0, 0), [])), (2, [2, 3, 3], [[1], [0, 1]], ((0, 0), [])), (2, [2, 4, 4], [[], []], ((0, 0), [])), (3, [], [], ((0, 0), [])), (0, [1], [[1, 0, 0, 0, 0, 0, 0, 0, 0, 1]], ((0, 0), [])), (0, [3], [[1, 0, 0, 0, 0, 0, 0, 0, 0, 0, 0, 0, 0, 0, 1], [8000, 0, 0, 0, 0, 0, 0, 0, 0, 0, 0, 0, 0, 0, 0, 99999, 100000]], ((0, 0), [])), (1, [], [], ((0, 1), [(1, 0, 1), (8, 1, 0)])), (0, [3], [[1, 0, 0, 0, 0, 0, 0, 0, 0, 0, 0, 0, 0, 0, 0, 0, 1], [8000, 0, 0, 0, 0, 0, 0, 0, 0, 0, 0, 0, 0, 0, 0, 0, 0, 99999, 100000]], ((0, 0), [])), (2, [2, 5, 4], [[1, 0, 0, 0, 0, 0, 0, 0, 0, 0, 0, 0, 0, 0, 0, 0, 0, 0, 0, 1], [0, 1, 0, 0, 0, 0, 0, 0, 0, 0, 0, 0, 0, 0, 0, 0, 0, 0, 0, 0, 1]], ((0, 0), [])), (0, [8], [[1, 0, 0, 0, 0, 0, 0, 0, 0, 0, 0, 0, 0, 0, 0, 0, 0, 0, 0, 0, 0, 0, 0, 1]], ((0, 0), [])), (0, [4], [[], [0, 1, 0, 0, 0, 0, 0, 0, 0, 0, 0, 0, 1]], ((0, 0), [])), (0, [5], [[1, 0, 0, 0, 0, 0, 0, 1]], ((0, 0), [])), (0, [6], [[1, 0, 0, 0, 0, 0, 0, 0, 0, 1], [0, 1, 0, 0, 0, 0, 0, 0, 1]], ((0, 0), [])), (0, [7], [[1, 0, 0, 0, 0, 0, 0, 0, 1]], ((0, 0), [])), (0, [8], [[1, 1]], ((0, 0), [])), (0, [9], [[1, 0, 0, 0, 0, 0, 1], [0, 1, 0, 0, 0, 1], [0, 0, 1, 0, 0, 0, 0, 0, 1]], ((0, 0), []))]) (by decide +kernel)
theorem zx_gl117_ok {PT : Nat → zz_W → Prop} : zx_Lok 64 zHT PT (zu_Lx 22 22 [201] [((0, 0), [(0, 1, 0), (3, 0, 1)]), ((0, 0), [(0, 0, 1), (3, 1, 0)]), ((0, 0), [(1, 1, 0), (4, 0, 1)]), ((0, 0), [(1, 0, 1), (4, 1, 0)]), ((0, 1), [(2, 0, 1), (5, 1, 0)]), ((1, 0), [(2, 1, 0), (5, 0, 1)]), ((0, 0), [(2, 0, 1), (6, 1, 0)]), ((0, 0), [(2, 1, 0), (6, 0, 1)]), ((0, 1), [(7, 0, 1)]), ((0, 0), [(1, 0, 3000), (2, 1, 0)]), ((2999, 0), [(1, 3000, 0), (2, 0, 1)])]) := zu_Lx_ok (hs := [(2, [2, 0, 0], [[], []], ((0, 0), [])), (2, [2, 1, 1], [[], []], ((0, 0), [])), (2, [2, 2, 2], [[1], [0, 1]], ((0, 0), [])), (3, [], [], ((0, 0), [])), (0, [1], [[1, 0, 0, 0, 0, 1]], ((0, 0), [])), (0, [2], [[1, 0, 0, 0, 0, 0, 0, 0, 0, 1]], ((0, 0), [])), (1, [], [], ((0, 1), [(1, 0, 1), (8, 1, 0)])), (0, [2], [[1, 0, 0, 0, 0, 0, 0, 0, 0, 0, 0, 1]], ((0, 0), [])), (1, [], [], ((0, 1), [(2, 0, 1), (8, 3000, 0), (9, 1, 0)])), (0, [3], [[0, 0, 1, 0, 0, 0, 0, 0, 0, 0, 0, 0, 1], [1, 0, 0, 0, 0, 0, 0, 0, 0, 0, 0, 0, 0, 0, 0, 1]], ((0, 0), [])), (2, [2, 3, 1], [[1, 0, 0, 0, 0, 0, 0, 0, 0, 0, 0, 0, 0, 0, 0, 0, 1], [0, 0, 0, 1, 0, 0, 0, 0, 0, 0, 0, 0, 0, 0, 0, 0, 0, 1]], ((0, 0), [])), (0, [6], [[1, 0, 0, 0, 0, 0, 0, 0, 0, 0, 0, 0, 0, 0, 0, 0, 0, 0, 0, 0, 1]], ((0, 0), [])), (0, [4], [[1], [0, 1, 0, 0, 0, 0, 0, 0, 1]], ((0, 0), [])), (0, [5], [[1, 0, 0, 0, 1], [0, 1, 0, 1], [0, 0, 1, 0, 0, 0, 1]], ((0, 0), [])), (0, [6], [[1, 0, 0, 1]], ((0, 0), []))]) (by decide +kernel)
theorem zx_gl130_ok {PT : Nat → zz_W → Prop} : zx_Lok 64 zHT PT (zu_Lv 20 20 [((0, 0), [(0, 1, 0), (3, 0, 1)]), ((0, 0), [(0, 0, 1), (3, 1, 0)]), ((0, 0), [(0, 0, 1), (1, 1, 0)]), ((0, 0), [(1, 0, 64), (2, 1, 0)]), ((0, 0), [(1, 64, 0), (2, 0, 1)]), ((0, 6), [(4, 1, 0)]), ((6, 0), [(4, 0, 1)]), ((0, 384), [(5, 1, 0)]), ((384, 0), [(5, 0, 1)]), ((6, 0), [(1, 0, 1)])]) := zu_Lv_ok (hs := [(2, [2, 0, 0], [[], []], ((0, 0), [])), (2, [2, 1, 1], [[], []], ((0, 0), [])), (2, [2, 2, 2], [[1], [0, 1]], ((0, 0), [])), (3, [], [], ((0, 0), [])), (0, [1], [[1, 0, 0, 0, 0, 1]], ((0, 0), [])), (1, [], [], ((5, 0), [(6, 0, 1)])), (0, [4], [[1], [0, 1, 0, 0, 0, 0, 0, 0, 1, 0, 1, 0, 0, 100000, 100000, 100000, 100000]], ((0, 0), [])), (0, [3], [[1, 0, 0, 0, 0, 0, 0, 0, 0, 0, 0, 0, 0, 0, 1], [64, 0, 0, 0, 0, 0, 0, 0, 0, 0, 0, 0, 0, 0, 0, 0, 1]], ((0, 0), [])), (1, [], [], ((5, 0), [(6, 0, 1)])), (0, [4], [[1], [0, 1, 0, 0, 0, 0, 0, 0, 0, 1, 0, 1, 0, 0, 100000, 100000, 100000, 100000]], ((0, 0), [])), (0, [3], [[1, 0, 0, 0, 0, 0, 0, 0, 0, 0, 0, 0, 0, 0, 0, 1], [64, 0, 0, 0, 0, 0, 0, 0, 0, 0, 0, 0, 0, 0, 0, 0, 0, 1]], ((0, 0), [])), (0, [4], [[1], [0, 1, 0, 0, 0, 0, 0, 0, 1]], ((0, 0), [])), (0, [5], [[1, 0, 0, 0, 1], [0, 1, 0, 1], [0, 0, 1, 0, 0, 0, 1]], ((0, 0), []))]) (by decide +kernel)
theorem zx_gl131_ok {PT : Nat → zz_W → Prop} : zx_Lok 64 zHT PT (zu_Lv 21 21 [((0, 0), [(0, 1, 0), (3, 0, 1)]), ((0, 0), [(0, 0, 1), (3, 1, 0)]), ((0, 0), [(0, 0, 1), (1, 1, 0)]), ((0, 0), [(1, 0, 600), (2, 1, 0)]), ((0, 0), [(1, 600, 0), (2, 0, 1)]), ((0, 6), [(4, 1, 0)]), ((6, 0), [(4, 0, 1)]), ((0, 3600), [(5, 1, 0)]), ((3600, 0), [(5, 0, 1)]), ((6, 0), [(1, 0, 1)])]) := zu_Lv_ok (hs := [(2, [2, 0, 0], [[], []], ((0, 0), [])), (2, [2, 1, 1], [[], []], ((0, 0), [])), (2, [2, 2, 2], [[1], [0, 1]], ((0, 0), [])), (3, [], [], ((0, 0), [])), (0, [1], [[1, 0, 0, 0, 0, 1]], ((0, 0), [])), (1, [], [], ((5, 0), [(6, 0, 1)])), (0, [4], [[1], [0, 1, 0, 0, 0, 0, 0, 0, 1, 0, 1, 0, 0, 100000, 100000, 100000, 100000]], ((0, 0), [])), (0, [3], [[1, 0, 0, 0, 0, 0, 0, 0, 0, 0, 0, 0, 0, 0, 1], [600, 0, 0, 0, 0, 0, 0, 0, 0, 0, 0, 0, 0, 0, 0, 0, 1]], ((0, 0), [])), (1, [], [], ((5, 0), [(6, 0, 1)])), (0, [4], [[1], [0, 1, 0, 0, 0, 0, 0, 0, 0, 1, 0, 1, 0, 0, 100000, 100000, 100000, 100000]], ((0, 0), [])), (0, [3], [[1, 0, 0, 0, 0, 0, 0, 0, 0, 0, 0, 0, 0, 0, 0, 1], [600, 0, 0, 0, 0, 0, 0, 0, 0, 0, 0, 0, 0, 0, 0, 0, 0, 1]], ((0, 0), [])), (0, [4], [[1], [0, 1, 0, 0, 0, 0, 0, 0, 1]], ((0, 0), [])), (0, [5], [[1, 0, 0, 0, 1], [0, 1, 0, 1], [0, 0, 1, 0, 0, 0, 1]], ((0, 0), []))]) (by decide +kernel)
theorem zx_gl132_ok {PT : Nat → zz_W → Prop} : zx_Lok 64 zHT PT (zu_Lv 22 22 [((0, 0), [(0, 1, 0), (3, 0, 1)]), ((0, 0), [(0, 0, 1), (3, 1, 0)]), ((0, 0), [(0, 0, 1), (1, 1, 0)]), ((0, 0), [(1, 0, 3000), (2, 1, 0)]), ((0, 0), [(1, 3000, 0), (2, 0, 1)]), ((0, 6), [(4, 1, 0)]), ((6, 0), [(4, 0, 1)]), ((0, 18000), [(5, 1, 0)]), ((18000, 0), [(5, 0, 1)]), ((6, 0), [(1, 0, 1)])]) := zu_Lv_ok (hs := [(2, [2, 0, 0], [[], []], ((0, 0), [])), (2, [2, 1, 1], [[], []], ((0, 0), [])), (2, [2, 2, 2], [[1], [0, 1]], ((0, 0), [])), (3, [], [], ((0, 0), [])), (0, [1], [[1, 0, 0, 0, 0, 1]], ((0, 0), [])), (1, [], [], ((5, 0), [(6, 0, 1)])), (0, [4], [[1], [0, 1, 0, 0, 0, 0, 0, 0, 1, 0, 1, 0, 0, 100000, 100000, 100000, 100000]], ((0, 0), [])), (0, [3], [[1, 0, 0, 0, 0, 0, 0, 0, 0, 0, 0, 0, 0, 0, 1], [3000, 0, 0, 0, 0, 0, 0, 0, 0, 0, 0, 0, 0, 0, 0, 0, 1]], ((0, 0), [])), (1, [], [], ((5, 0), [(6, 0, 1)])), (0, [4], [[1], [0, 1, 0, 0, 0, 0, 0, 0, 0, 1, 0, 1, 0, 0, 100000, 100000, 100000, 100000]], ((0, 0), [])), (0, [3], [[1, 0, 0, 0, 0, 0, 0, 0, 0, 0, 0, 0, 0, 0, 0, 1], [3000, 0, 0, 0, 0, 0, 0, 0, 0, 0, 0, 0, 0, 0, 0, 0, 0, 1]], ((0, 0), [])), (0, [4], [[1], [0, 1, 0, 0, 0, 0, 0, 0, 1]], ((0, 0), [])), (0, [5], [[1, 0, 0, 0, 1], [0, 1, 0, 1], [0, 0, 1, 0, 0, 0, 1]], ((0, 0), [])), (0, [6], [[1, 0, 0, 1]], ((0, 0), []))]) (by decide +kernel)
theorem zx_gl133_ok {PT : Nat → zz_W → Prop} : zx_Lok 64 zHT PT (zu_Lv 23 23 [((0, 0), [(0, 1, 0), (3, 0, 1)]), ((0, 0), [(0, 0, 1), (3, 1, 0)]), ((0, 0), [(0, 0, 1), (1, 1, 0)]), ((0, 0), [(1, 0, 600), (2, 1, 0)]), ((0, 0), [(1, 600, 0), (2, 0, 1)]), ((0, 6), [(4, 1, 0)]), ((6, 0), [(4, 0, 1)]), ((0, 3600), [(5, 1, 0)]), ((3600, 0), [(5, 0, 1)]), ((6, 0), [(1, 0, 1)])]) := zu_Lv_ok (hs := [(2, [2, 0, 0], [[], []], ((0, 0), [])), (2, [2, 1, 1], [[], []], ((0, 0), [])), (2, [2, 2, 2], [[1], [0, 1]], ((0, 0), [])), (3, [], [], ((0, 0), [])), (0, [1], [[1, 0, 0, 0, 0, 1]], ((0, 0), [])), (1, [], [], ((5, 0), [(6, 0, 1)])), (0, [4], [[1], [0, 1, 0, 0, 0, 0, 0, 0, 1, 0, 1, 0, 0, 100000, 100000, 100000, 100000]], ((0, 0), [])), (0, [3], [[1, 0, 0, 0, 0, 0, 0, 0, 0, 0, 0, 0, 0, 0, 1], [600, 0, 0, 0, 0, 0, 0, 0, 0, 0, 0, 0, 0, 0, 0, 0, 1]], ((0, 0), [])), (1, [], [], ((5, 0), [(6, 0, 1)])), (0, [4], [[1], [0, 1, 0, 0, 0, 0, 0, 0, 0, 1, 0, 1, 0, 0, 100000, 100000, 100000, 100000]], ((0, 0), [])), (0, [3], [[1, 0, 0, 0, 0, 0, 0, 0, 0, 0, 0, 0, 0, 0, 0, 1], [600, 0, 0, 0, 0, 0, 0, 0, 0, 0, 0, 0, 0, 0, 0, 0, 0, 1]], ((0, 0), [])), (0, [4], [[1], [0, 1, 0, 0, 0, 0, 0, 0, 1]], ((0, 0), [])), (0, [5], [[1, 0, 0, 0, 1], [0, 1, 0, 1], [0, 0, 1, 0, 0, 0, 1]], ((0, 0), []))]) (by decide +kernel)
theorem zx_gl134_ok {PT : Nat → zz_W → Prop} : zx_Lok 64 zHT PT (zu_Lv 24 24 [((0, 0), [(0, 1, 0), (3, 0, 1)]), ((0, 0), [(0, 0, 1), (3, 1, 0)]), ((0, 0), [(0, 0, 1), (1, 1, 0)]), ((0, 0), [(1, 0, 64), (2, 1, 0)]), ((0, 0), [(1, 64, 0), (2, 0, 1)]), ((0, 6), [(4, 1, 0)]), ((6, 0), [(4, 0, 1)]), ((0, 384), [(5, 1, 0)]), ((384, 0), [(5, 0, 1)]), ((6, 0), [(1, 0, 1)])]) := zu_Lv_ok (hs := [(2, [2, 0, 0], [[], []], ((0, 0), [])), (2, [2, 1, 1], [[], []], ((0, 0), [])), (2, [2, 2, 2], [[1], [0, 1]], ((0, 0), [])), (3, [], [], ((0, 0), [])), (0, [1], [[1, 0, 0, 0, 0, 1]], ((0, 0), [])), (0, [4], [[], [1, 0, 0, 0, 0, 0, 0, 1, 0, 1, 0, 0, 100000, 100000, 100000, 100000]], ((0, 0), [])), (0, [4], [[], [1, 0, 0, 0, 0, 0, 0, 0, 1, 0, 1, 0, 0, 100000, 100000, 100000, 100000]], ((0, 0), [])), (0, [4], [[], [0, 1, 0, 0, 0, 0, 0, 0, 1]], ((0, 0), [])), (0, [5], [[1, 0, 0, 0, 1], [0, 1, 0, 1], [0, 0, 1, 0, 0, 0, 1]], ((0, 0), []))]) (by decide +kernel)
theorem zx_gl135_ok {PT : Nat → zz_W → Prop} : zx_Lok 64 zHT PT (zu_Lv 25 25 [((0, 0), [(0, 1, 0), (3, 0, 1)]), ((0, 0), [(0, 0, 1), (3, 1, 0)]), ((0, 0), [(0, 0, 1), (1, 1, 0)]), ((0, 0), [(1, 0, 8000), (2, 1, 0)]), ((0, 0), [(1, 8000, 0), (2, 0, 1)]), ((0, 6), [(4, 1, 0)]), ((6, 0), [(4, 0, 1)]), ((0, 48000), [(5, 1, 0)]), ((48000, 0), [(5, 0, 1)]), ((6, 0), [(1, 0, 1)])]) := zu_Lv_ok (hs := [(2, [2, 0, 0], [[], []], ((0, 0), [])), (2, [2, 1, 1], [[], []], ((0, 0), [])), (2, [2, 2, 2], [[], []], ((0, 0), [])), (2, [2, 3, 3], [[1], [0, 1]], ((0, 0), [])), (2, [2, 4, 4], [[], []], ((0, 0), [])), (3, [], [], ((0, 0), [])), (0, [1], [[1, 0, 0, 0, 0, 0, 0, 0, 0, 1]], ((0, 0), [])), (0, [4], [[], [1, 0, 0, 0, 0, 0, 0, 0, 0, 0, 0, 1, 0, 1, 0, 0, 100000, 100000, 100000, 100000]], ((0, 0), [])), (0, [4], [[], [1, 0, 0, 0, 0, 0, 0, 0, 0, 0, 0, 0, 1, 0, 1, 0, 0, 100000, 100000, 100000, 100000]], ((0, 0), [])), (0, [4], [[], [0, 1, 0, 0, 0, 0, 0, 0, 0, 0, 0, 0, 1]], ((0, 0), [])), (0, [5], [[1, 0, 0, 0, 0, 0, 0, 1]], ((0, 0), [])), (0, [6], [[1, 0, 0, 0, 0, 0, 0, 0, 0, 1], [0, 1, 0, 0, 0, 0, 0, 0, 1]], ((0, 0), [])), (0, [7], [[1, 0, 0, 0, 0, 0, 0, 0, 1]], ((0, 0), [])), (0, [8], [[1, 1]], ((0, 0), [])), (0, [9], [[1, 0, 0, 0, 0, 0, 1], [0, 1, 0, 0, 0, 1], [0, 0, 1, 0, 0, 0, 0, 0, 1]], ((0, 0), []))]) (by decide +kernel)
theorem zx_gl140_ok {PT : Nat → zz_W → Prop} : zx_Lok 64 zHT PT (zu_Lv 20 30 [((0, 0), [(0, 1, 0), (3, 0, 1)]), ((0, 0), [(0, 0, 1), (3, 1, 0)]), ((0, 7), [(1, 1, 0)]), ((0, 0), [(4, 0, 1)])]) := zu_Lv_ok (hs := [(2, [2, 0, 0], [[], []], ((0, 0), [])), (2, [2, 1, 1], [[], []], ((0, 0), [])), (2, [2, 2, 2], [[1], [0, 1]], ((0, 0), [])), (3, [], [], ((0, 0), [])), (0, [1], [[1, 0, 0, 0, 0, 1]], ((0, 0), [])), (0, [0], [[1, 0, 0, 0, 0, 0, 0, 0, 0, 1]], ((0, 0), [])), (0, [0], [[1, 0, 0, 0, 0, 0, 0, 0, 0, 0, 1]], ((0, 0), [])), (0, [2], [[1], [0, 1, 0, 0, 0, 0, 0, 0, 1]], ((0, 0), [])), (0, [4], [[0, 0, 1, 0, 0, 0, 1], [0, 0, 1, 0, 0, 0, 1, 0, 0, 0, 0, 0, 1], [1, 0, 0, 0, 1], [0, 1, 0, 1]], ((0, 0), []))]) (by decide +kernel)
theorem zx_gl150_ok {PT : Nat → zz_W → Prop} : zx_Lok 64 zHT PT (zu_Lv 30 10 [((0, 0), [(0, 1, 0), (2, 0, 1)]), ((0, 0), [(0, 0, 1), (2, 1, 0)]), ((0, 0), [(3, 0, 1)]), ((0, 0), [(4, 0, 1)])]) := zu_Lv_ok (hs := [(2, [2, 0, 0], [[], []], ((0, 0), [])), (2, [2, 1, 1], [[], []], ((0, 0), [])), (2, [2, 2, 2], [[1], [0, 1]], ((0, 0), [])), (3, [], [], ((0, 0), [])), (0, [1], [[1, 0, 0, 0, 0, 1]], ((0, 0), [])), (0, [4], [[1], [0, 1, 0, 0, 0, 0, 0, 0, 1]], ((0, 0), [])), (0, [5], [[0, 0, 1, 0, 1]], ((0, 0), [])), (0, [5], [[0, 0, 1, 0, 0, 1]], ((0, 0), []))]) (by decide +kernel)
theorem zx_gl141_ok {PT : Nat → zz_W → Prop} : zx_Lok 64 zHT PT (zu_Lv 21 31 [((0, 0), [(0, 1, 0), (3, 0, 1)]), ((0, 0), [(0, 0, 1), (3, 1, 0)]), ((0, 7), [(1, 1, 0)]), ((0, 0), [(4, 0, 1)])]) := zu_Lv_ok (hs := [(2, [2, 0, 0], [[], []], ((0, 0), [])), (2, [2, 1, 1], [[], []], ((0, 0), [])), (2, [2, 2, 2], [[1], [0, 1]], ((0, 0), [])), (3, [], [], ((0, 0), [])), (0, [1], [[1, 0, 0, 0, 0, 1]], ((0, 0), [])), (0, [0], [[1, 0, 0, 0, 0, 0, 0, 0, 0, 1]], ((0, 0), [])), (0, [0], [[1, 0, 0, 0, 0, 0, 0, 0, 0, 0, 1]], ((0, 0), [])), (0, [2], [[1], [0, 1, 0, 0, 0, 0, 0, 0, 1]], ((0, 0), [])), (0, [4], [[0, 0, 1, 0, 0, 0, 1], [0, 0, 1, 0, 0, 0, 1, 0, 0, 0, 0, 0, 1], [1, 0, 0, 0, 1], [0, 1, 0, 1]], ((0, 0), []))]) (by decide +kernel)
theorem zx_gl151_ok {PT : Nat → zz_W → Prop} : zx_Lok 64 zHT PT (zu_Lv 31 11 [((0, 0), [(0, 1, 0), (2, 0, 1)]), ((0, 0), [(0, 0, 1), (2, 1, 0)]), ((0, 0), [(3, 0, 1)]), ((0, 0), [(4, 0, 1)])]) := zu_Lv_ok (hs := [(2, [2, 0, 0], [[], []], ((0, 0), [])), (2, [2, 1, 1], [[], []], ((0, 0), [])), (2, [2, 2, 2], [[1], [0, 1]], ((0, 0), [])), (3, [], [], ((0, 0), [])), (0, [1], [[1, 0, 0, 0, 0, 1]], ((0, 0), [])), (0, [4], [[1], [0, 1, 0, 0, 0, 0, 0, 0, 1]], ((0, 0), [])), (0, [5], [[0, 0, 1, 0, 1]], ((0, 0), [])), (0, [5], [[0, 0, 1, 0, 0, 1]], ((0, 0), []))]) (by decide +kernel)
theorem zx_gl142_ok {PT : Nat → zz_W → Prop} : zx_Lok 64 zHT PT (zu_Lv 22 32 [((0, 0), [(0, 1, 0), (3, 0, 1)]), ((0, 0), [(0, 0, 1), (3, 1, 0)]), ((0, 7), [(1, 1, 0)]), ((0, 0), [(4, 0, 1)])]) := zu_Lv_ok (hs := [(2, [2, 0, 0], [[], []], ((0, 0), [])), (2, [2, 1, 1], [[], []], ((0, 0), [])), (2, [2, 2, 2], [[1], [0, 1]], ((0, 0), [])), (3, [], [], ((0, 0), [])), (0, [1], [[1, 0, 0, 0, 0, 1]], ((0, 0), [])), (0, [0], [[1, 0, 0, 0, 0, 0, 0, 0, 0, 1]], ((0, 0), [])), (0, [0], [[1, 0, 0, 0, 0, 0, 0, 0, 0, 0, 1]], ((0, 0), [])), (0, [2], [[1], [0, 1, 0, 0, 0, 0, 0, 0, 1]], ((0, 0), [])), (0, [5], [[0, 0, 1, 0, 0, 0, 1], [0, 0, 1, 0, 0, 0, 1, 0, 0, 0, 0, 0, 1], [1, 0, 0, 0, 1], [0, 1, 0, 1]], ((0, 0), [])), (0, [3], [[1, 0, 0, 1]], ((0, 0), []))]) (by decide +kernel)
theorem zx_gl152_ok {PT : Nat → zz_W → Prop} : zx_Lok 64 zHT PT (zu_Lv 32 12 [((0, 0), [(0, 1, 0), (2, 0, 1)]), ((0, 0), [(0, 0, 1), (2, 1, 0)]), ((0, 0), [(3, 0, 1)]), ((0, 0), [(4, 0, 1)])]) := zu_Lv_ok (hs := [(2, [2, 0, 0], [[], []], ((0, 0), [])), (2, [2, 1, 1], [[], []], ((0, 0), [])), (2, [2, 2, 2], [[1], [0, 1]], ((0, 0), [])), (3, [], [], ((0, 0), [])), (0, [1], [[1, 0, 0, 0, 0, 1]], ((0, 0), [])), (0, [4], [[1], [0, 1, 0, 0, 0, 0, 0, 0, 1]], ((0, 0), [])), (0, [6], [[1, 0, 0, 1]], ((0, 0), [])), (0, [5], [[0, 0, 1, 0, 1]], ((0, 0), [])), (0, [5], [[0, 0, 1, 0, 0, 1]], ((0, 0), []))]) (by decide +kernel)
theorem zx_gl143_ok {PT : Nat → zz_W → Prop} : zx_Lok 64 zHT PT (zu_Lv 23 33 [((0, 0), [(0, 1, 0), (3, 0, 1)]), ((0, 0), [(0, 0, 1), (3, 1, 0)]), ((0, 7), [(1, 1, 0)]), ((0, 0), [(4, 0, 1)])]) := zu_Lv_ok (hs := [(2, [2, 0, 0], [[], []], ((0, 0), [])), (2, [2, 1, 1], [[], []], ((0, 0), [])), (2, [2, 2, 2], [[1], [0, 1]], ((0, 0), [])), (3, [], [], ((0, 0), [])), (0, [1], [[1, 0, 0, 0, 0, 1]], ((0, 0), [])), (0, [0], [[1, 0, 0, 0, 0, 0, 0, 0, 0, 1]], ((0, 0), [])), (0, [0], [[1, 0, 0, 0, 0, 0, 0, 0, 0, 0, 1]], ((0, 0), [])), (0, [2], [[1], [0, 1, 0, 0, 0, 0, 0, 0, 1]], ((0, 0), [])), (0, [4], [[0, 0, 1, 0, 0, 0, 1], [0, 0, 1, 0, 0, 0, 1, 0, 0, 0, 0, 0, 1], [1, 0, 0, 0, 1], [0, 1, 0, 1]], ((0, 0), []))]) (by decide +kernel)
theorem zx_gl153_ok {PT : Nat → zz_W → Prop} : zx_Lok 64 zHT PT (zu_Lv 33 13 [((0, 0), [(0, 1, 0), (2, 0, 1)]), ((0, 0), [(0, 0, 1), (2, 1, 0)]), ((0, 0), [(3, 0, 1)]), ((0, 0), [(4, 0, 1)])]) := zu_Lv_ok (hs := [(2, [2, 0, 0], [[], []], ((0, 0), [])), (2, [2, 1, 1], [[], []], ((0, 0), [])), (2, [2, 2, 2], [[1], [0, 1]], ((0, 0), [])), (3, [], [], ((0, 0), [])), (0, [1], [[1, 0, 0, 0, 0, 1]], ((0, 0), [])), (0, [4], [[1], [0, 1, 0, 0, 0, 0, 0, 0, 1]], ((0, 0), [])), (0, [5], [[0, 0, 1, 0, 1]], ((0, 0), [])), (0, [5], [[0, 0, 1, 0, 0, 1]], ((0, 0), []))]) (by decide +kernel)
theorem zx_gl144_ok {PT : Nat → zz_W → Prop} : zx_Lok 64 zHT PT (zu_Lv 24 34 [((0, 0), [(0, 1, 0), (3, 0, 1)]), ((0, 0), [(0, 0, 1), (3, 1, 0)]), ((0, 7), [(1, 1, 0)]), ((0, 0), [(4, 0, 1)])]) := zu_Lv_ok (hs := [(2, [2, 0, 0], [[], []], ((0, 0), [])), (2, [2, 1, 1], [[], []], ((0, 0), [])), (2, [2, 2, 2], [[1], [0, 1]], ((0, 0), [])), (3, [], [], ((0, 0), [])), (0, [1], [[1, 0, 0, 0, 0, 1]], ((0, 0), [])), (0, [0], [[1, 0, 0, 0, 0, 0, 0, 0, 0, 1]], ((0, 0), [])), (0, [0], [[1, 0, 0, 0, 0, 0, 0, 0, 0, 0, 1]], ((0, 0), [])), (0, [2], [[], [0, 1, 0, 0, 0, 0, 0, 0, 1]], ((0, 0), [])), (0, [4], [[0, 0, 1, 0, 0, 0, 1], [0, 0, 1, 0, 0, 0, 1, 0, 0, 0, 0, 0, 1], [1, 0, 0, 0, 1], [0, 1, 0, 1]], ((0, 0), []))]) (by decide +kernel)
theorem zx_gl154_ok {PT : Nat → zz_W → Prop} : zx_Lok 64 zHT PT (zu_Lv 34 14 [((0, 0), [(0, 1, 0), (2, 0, 1)]), ((0, 0), [(0, 0, 1), (2, 1, 0)]), ((0, 0), [(3, 0, 1)]), ((0, 0), [(4, 0, 1)])]) := zu_Lv_ok (hs := [(2, [2, 0, 0], [[], []], ((0, 0), [])), (2, [2, 1, 1], [[], []], ((0, 0), [])), (2, [2, 2, 2], [[1], [0, 1]], ((0, 0), [])), (3, [], [], ((0, 0), [])), (0, [1], [[1, 0, 0, 0, 0, 1]], ((0, 0), [])), (0, [4], [[], [0, 1, 0, 0, 0, 0, 0, 0, 1]], ((0, 0), [])), (0, [5], [[0, 0, 1, 0, 1]], ((0, 0), [])), (0, [5], [[0, 0, 1, 0, 0, 1]], ((0, 0), []))]) (by decide +kernel)
theorem zx_gl145_ok {PT : Nat → zz_W → Prop} : zx_Lok 64 zHT PT (zu_Lv 25 35 [((0, 0), [(0, 1, 0), (3, 0, 1)]), ((0, 0), [(0, 0, 1), (3, 1, 0)]), ((0, 7), [(1, 1, 0)]), ((0, 0), [(4, 0, 1)])]) := zu_Lv_ok (hs := [(2, [2, 0, 0], [[], []], ((0, 0), [])), (2, [2, 1, 1], [[], []], ((0, 0), [])), (2, [2, 2, 2], [[], []], ((0, 0), [])), (2, [2, 3, 3], [[1], [0, 1]], ((0, 0), [])), (2, [2, 4, 4], [[], []], ((0, 0), [])), (3, [], [], ((0, 0), [])), (0, [1], [[1, 0, 0, 0, 0, 0, 0, 0, 0, 1]], ((0, 0), [])), (0, [0], [[1, 0, 0, 0, 0, 0, 0, 0, 0, 0, 0, 0, 0, 1]], ((0, 0), [])), (0, [0], [[1, 0, 0, 0, 0, 0, 0, 0, 0, 0, 0, 0, 0, 0, 1]], ((0, 0), [])), (0, [2], [[], [0, 1, 0, 0, 0, 0, 0, 0, 0, 0, 0, 0, 1]], ((0, 0), [])), (0, [3], [[1, 0, 0, 0, 0, 0, 0, 1]], ((0, 0), [])), (0, [4], [[1, 0, 0, 0, 0, 0, 0, 0, 0, 1], [0, 1, 0, 0, 0, 0, 0, 0, 1]], ((0, 0), [])), (0, [5], [[1, 0, 0, 0, 0, 0, 0, 0, 1]], ((0, 0), [])), (0, [6], [[1, 1]], ((0, 0), [])), (0, [8], [[0, 0, 1, 0, 0, 0, 0, 0, 1], [0, 0, 1, 0, 0, 0, 0, 0, 1, 0, 0, 0, 0, 0, 0, 0, 1], [1, 0, 0, 0, 0, 0, 1], [0, 1, 0, 0, 0, 1]], ((0, 0), []))]) (by decide +kernel)
theorem zx_gl155_ok {PT : Nat → zz_W → Prop} : zx_Lok 64 zHT PT (zu_Lv 35 15 [((0, 0), [(0, 1, 0), (2, 0, 1)]), ((0, 0), [(0, 0, 1), (2, 1, 0)]), ((0, 0), [(3, 0, 1)]), ((0, 0), [(4, 0, 1)])]) := zu_Lv_ok (hs := [(2, [2, 0, 0], [[], []], ((0, 0), [])), (2, [2, 1, 1], [[], []], ((0, 0), [])), (2, [2, 2, 2], [[], []], ((0, 0), [])), (2, [2, 3, 3], [[1], [0, 1]], ((0, 0), [])), (2, [2, 4, 4], [[], []], ((0, 0), [])), (3, [], [], ((0, 0), [])), (0, [1], [[1, 0, 0, 0, 0, 0, 0, 0, 0, 1]], ((0, 0), [])), (0, [4], [[], [0, 1, 0, 0, 0, 0, 0, 0, 0, 0, 0, 0, 1]], ((0, 0), [])), (0, [5], [[1, 0, 0, 0, 0, 0, 0, 1]], ((0, 0), [])), (0, [6], [[1, 0, 0, 0, 0, 0, 0, 0, 0, 1], [0, 1, 0, 0, 0, 0, 0, 0, 1]], ((0, 0), [])), (0, [7], [[1, 0, 0, 0, 0, 0, 0, 0, 1]], ((0, 0), [])), (0, [8], [[1, 1]], ((0, 0), [])), (0, [9], [[0, 0, 1, 0, 0, 0, 1]], ((0, 0), [])), (0, [9], [[0, 0, 1, 0, 0, 0, 0, 1]], ((0, 0), []))]) (by decide +kernel)
theorem zx_gl136_ok {PT : Nat → zz_W → Prop} : zx_Lok 64 zHT PT (zu_Lv 24 24 [((0, 0), [(0, 1, 0), (3, 0, 1)]), ((0, 0), [(0, 0, 1), (3, 1, 0)]), ((0, 6), [(1, 1, 0)]), ((7, 0), [(4, 0, 1)])]) := zu_Lv_ok (hs := [(2, [2, 0, 0], [[], []], ((0, 0), [])), (2, [2, 1, 1], [[], []], ((0, 0), [])), (2, [2, 2, 2], [[1], [0, 1]], ((0, 0), [])), (3, [], [], ((0, 0), [])), (0, [1], [[1, 0, 0, 0, 0, 1]], ((0, 0), [])), (0, [0], [[1, 0, 0, 0, 0, 0, 0, 0, 0, 1]], ((0, 0), [])), (0, [0], [[1, 0, 0, 0, 0, 0, 0, 0, 0, 0, 1]], ((0, 0), [])), (0, [4], [[], [0, 1, 0, 0, 0, 0, 0, 0, 1]], ((0, 0), [])), (0, [5], [[1, 0, 0, 0, 1], [0, 1, 0, 1], [0, 0, 1, 0, 0, 0, 1]], ((0, 0), []))]) (by decide +kernel)
theorem zx_gl137_ok {PT : Nat → zz_W → Prop} : zx_Lok 64 zHT PT (zu_Lv 25 25 [((0, 0), [(0, 1, 0), (3, 0, 1)]), ((0, 0), [(0, 0, 1), (3, 1, 0)]), ((0, 6), [(1, 1, 0)]), ((7, 0), [(4, 0, 1)])]) := zu_Lv_ok (hs := [(2, [2, 0, 0], [[], []], ((0, 0), [])), (2, [2, 1, 1], [[], []], ((0, 0), [])), (2, [2, 2, 2], [[], []], ((0, 0), [])), (2, [2, 3, 3], [[1], [0, 1]], ((0, 0), [])), (2, [2, 4, 4], [[], []], ((0, 0), [])), (3, [], [], ((0, 0), [])), (0, [1], [[1, 0, 0, 0, 0, 0, 0, 0, 0, 1]], ((0, 0), [])), (0, [0], [[1, 0, 0, 0, 0, 0, 0, 0, 0, 0, 0, 0, 0, 1]], ((0, 0), [])), (0, [0], [[1, 0, 0, 0, 0, 0, 0, 0, 0, 0, 0, 0, 0, 0, 1]], ((0, 0), [])), (0, [4], [[], [0, 1, 0, 0, 0, 0, 0, 0, 0, 0, 0, 0, 1]], ((0, 0), [])), (0, [5], [[1, 0, 0, 0, 0, 0, 0, 1]], ((0, 0), [])), (0, [6], [[1, 0, 0, 0, 0, 0, 0, 0, 0, 1], [0, 1, 0, 0, 0, 0, 0, 0, 1]], ((0, 0), [])), (0, [7], [[1, 0, 0, 0, 0, 0, 0, 0, 1]], ((0, 0), [])), (0, [8], [[1, 1]], ((0, 0), [])), (0, [9], [[1, 0, 0, 0, 0, 0, 1], [0, 1, 0, 0, 0, 1], [0, 0, 1, 0, 0, 0, 0, 0, 1]], ((0, 0), []))]) (by decide +kernel)
theorem zx_gl160_ok {PT : Nat → zz_W → Prop} : zx_Lok 64 zHT PT (zq_Li 2 [((0, 0), [(0, 0, 1)])]) := zq_Li_ok (by decide) (e := ((0, 0), [])) (k1 := [(1, [[0, 1]])]) (k2 := [(0, [[1]])]) (by decide +kernel)
theorem zx_gl200_ok {PT : Nat → zz_W → Prop} : zx_Lok 64 zHT PT (zu_Ln 40) := zu_Ln_ok (by decide +kernel)
theorem zx_gl201_ok {PT : Nat → zz_W → Prop} : zx_Lok 64 zHT PT (zu_Lv 40 40 [((0, 7), [(0, 1, 0)]), ((7, 0), [(0, 0, 1)])]) := zu_Lv_ok (hs := [(2, [2, 0, 0], [[], []], ((0, 0), [])), (2, [2, 1, 1], [[], []], ((0, 0), [])), (2, [2, 2, 2], [[], []], ((0, 0), [])), (3, [], [], ((0, 0), [])), (0, [1], [[1, 0, 0, 0, 0, 1]], ((0, 0), [])), (0, [0], [[1, 0, 0, 0, 0, 0, 0, 0, 1]], ((0, 0), [])), (0, [3], [[1, 0, 0, 1, 1, 0, 0, 0, 100000, 100000], [0, 1, 0, 0, 0, 1]], ((0, 0), []))]) (by decide +kernel)
theorem zx_gl202_ok {PT : Nat → zz_W → Prop} : zx_Lok 64 zHT PT (zu_Lx 40 40 [188] [((0, 7), [(1, 1, 0)]), ((7, 0), [(1, 0, 1)]), ((0, 0), [(0, 0, 1), (2, 1, 0)]), ((0, 0), [(0, 1, 0), (2, 0, 1)]), ((0, 0), [(3, 0, 1)])]) := zu_Lx_ok (hs := [(2, [2, 0, 0], [[], []], ((0, 0), [])), (2, [2, 1, 1], [[], []], ((0, 0), [])), (2, [2, 2, 2], [[], []], ((0, 0), [])), (3, [], [], ((0, 0), [])), (0, [1], [[1, 0, 0, 0, 0, 1]], ((0, 0), [])), (2, [2, 3, 0], [[0, 1, 0, 0, 0, 0, 0, 0, 0, 0, 1], [1, 0, 0, 0, 0, 0, 0, 0, 0, 0, 0, 1]], ((0, 0), [])), (0, [1], [[1, 0, 0, 0, 0, 0, 0, 0, 0, 0, 0, 0, 0, 0, 1]], ((0, 0), [])), (0, [3], [[1, 0, 0, 1, 1, 0, 0, 0, 100000, 100000], [0, 1, 0, 0, 0, 1]], ((0, 0), []))]) (by decide +kernel)
theorem zx_gl203_ok {PT : Nat → zz_W → Prop} : zx_Lok 64 zHT PT (zu_Ln 41) := zu_Ln_ok (by decide +kernel)
theorem zx_gl204_ok {PT : Nat → zz_W → Prop} : zx_Lok 64 zHT PT (zu_Lv 41 41 [((0, 7), [(0, 1, 0)]), ((7, 0), [(0, 0, 1)])]) := zu_Lv_ok (hs := [(2, [2, 0, 0], [[], []], ((0, 0), [])), (2, [2, 1, 1], [[], []], ((0, 0), [])), (2, [2, 2, 2], [[], []], ((0, 0), [])), (2, [2, 3, 3], [[], []], ((0, 0), [])), (2, [2, 4, 4], [[], []], ((0, 0), [])), (2, [2, 5, 5], [[0, 0, 0, 0, 0, 0, 1], [0, 0, 0, 0, 0, 0, 0, 1]], ((0, 0), [])), (3, [], [], ((0, 0), [])), (0, [1], [[1, 0, 0, 0, 0, 0, 0, 0, 0, 0, 0, 1]], ((0, 0), [])), (0, [0], [[1, 0, 0, 0, 0, 0, 0, 0, 0, 0, 0, 0, 0, 0, 1]], ((0, 0), [])), (0, [3], [[1, 0, 0, 0, 0, 0, 0, 0, 0, 0, 0, 0, 0, 0, 0, 1], [0, 1, 0, 0, 0, 0, 0, 0, 0, 0, 0, 0, 0, 0, 1], [0, 0, 1, 0, 0, 0, 0, 0, 0, 1, 0, 0, 0, 0, 1, 0, 0, 0, 100000, 100000], [0, 0, 0, 1, 0, 0, 0, 0, 0, 1, 0, 0, 1, 0, 0, 0, 0, 0, 100000, 100000], [0, 0, 0, 0, 1, 0, 0, 0, 0, 0, 0, 1], [0, 0, 0, 0, 0, 1, 0, 1, 0, 0, 1, 0, 0, 0, 0, 0, 0, 0, 100000, 100000]], ((0, 0), []))]) (by decide +kernel)
theorem zx_gl205_ok {PT : Nat → zz_W → Prop} : zx_Lok 64 zHT PT (zu_Lx 41 41 [195] [((0, 7), [(1, 1, 0)]), ((7, 0), [(1, 0, 1)]), ((0, 0), [(0, 0, 1), (2, 1, 0)]), ((0, 0), [(0, 1, 0), (2, 0, 1)]), ((0, 0), [(3, 0, 1)])]) := zu_Lx_ok (hs := [(2, [2, 0, 0], [[], []], ((0, 0), [])), (2, [2, 1, 1], [[], []], ((0, 0), [])), (2, [2, 2, 2], [[], []], ((0, 0), [])), (2, [2, 3, 3], [[], []], ((0, 0), [])), (2, [2, 4, 4], [[], []], ((0, 0), [])), (2, [2, 5, 5], [[0, 0, 0, 0, 0, 0, 1], [0, 0, 0, 0, 0, 0, 0, 1]], ((0, 0), [])), (3, [], [], ((0, 0), [])), (0, [1], [[1, 0, 0, 0, 0, 0, 0, 0, 0, 0, 0, 1]], ((0, 0), [])), (2, [2, 6, 0], [[0, 1, 0, 0, 0, 0, 0, 0, 0, 0, 0, 0, 0, 0, 0, 0, 1], [1, 0, 0, 0, 0, 0, 0, 0, 0, 0, 0, 0, 0, 0, 0, 0, 0, 1]], ((0, 0), [])), (0, [1], [[1, 0, 0, 0, 0, 0, 0, 0, 0, 0, 0, 0, 0, 0, 0, 0, 0, 0, 0, 0, 1]], ((0, 0), [])), (0, [3], [[1, 0, 0, 0, 0, 0, 0, 0, 0, 0, 0, 0, 0, 0, 0, 1], [0, 1, 0, 0, 0, 0, 0, 0, 0, 0, 0, 0, 0, 0, 1], [0, 0, 1, 0, 0, 0, 0, 0, 0, 1, 0, 0, 0, 0, 1, 0, 0, 0, 100000, 100000], [0, 0, 0, 1, 0, 0, 0, 0, 0, 1, 0, 0, 1, 0, 0, 0, 0, 0, 100000, 100000], [0, 0, 0, 0, 1, 0, 0, 0, 0, 0, 0, 1], [0, 0, 0, 0, 0, 1, 0, 1, 0, 0, 1, 0, 0, 0, 0, 0, 0, 0, 100000, 100000]], ((0, 0), []))]) (by decide +kernel)
theorem zx_gl206_ok {PT : Nat → zz_W → Prop} : zx_Lok 64 zHT PT (zu_Ln 42) := zu_Ln_ok (by decide +kernel)
theorem zx_gl207_ok {PT : Nat → zz_W → Prop} : zx_Lok 64 zHT PT (zu_Li 42 [((0, 0), [(0, 0, 1)])]) := zu_Li_ok (hs := [(0, [1], [[1]], ((0, 0), []))]) (by decide +kernel)
theorem zx_gl208_ok {PT : Nat → zz_W → Prop} : zx_Lok 64 zHT PT (zu_Lx 42 42 [304, 179] [((0, 0), [(1, 1, 0), (3, 0, 1)]), ((0, 0), [(1, 0, 1), (3, 1, 0)]), ((0, 1), [(0, 0, 1), (2, 1, 0)]), ((1, 0), [(0, 1, 0), (2, 0, 1)]), ((0, 0), [(0, 0, 1), (4, 1, 0)]), ((0, 0), [(0, 1, 0), (4, 0, 1)]), ((0, 0), [(1, 0, 1), (5, 1, 0)]), ((0, 0), [(1, 1, 0), (5, 0, 1)]), ((0, 1), [(6, 0, 1), (7, 1, 0)])]) := zu_Lx_ok (hs := [(2, [2, 0, 0], [[], []], ((0, 0), [])), (2, [2, 1, 1], [[0, 0, 1], [0, 0, 0, 1]], ((0, 0), [])), (2, [2, 3, 1], [[0, 0, 0, 0, 1, 0, 0, 0, 0, 0, 1], [0, 0, 0, 0, 0, 1, 0, 0, 0, 0, 0, 1]], ((0, 0), [])), (2, [0, 1, 3], [[0, 0, 0, 0, 0, 0, 0, 0, 0, 0, 0, 0, 0, 1], [0, 0, 0, 0, 0, 0, 0, 0, 0, 0, 0, 0, 1]], ((0, 0), [])), (3, [], [], ((0, 0), [])), (1, [], [], ((0, 1), [(0, 0, 1), (8, 1, 0)])), (0, [1], [[1, 0, 0, 0, 0, 0, 0, 0, 0, 0, 0, 0, 0, 1]], ((0, 0), [])), (2, [2, 2, 0], [[1, 0, 0, 0, 0, 0, 0, 0, 0, 0, 0, 0, 0, 0, 1], [0, 1, 0, 0, 0, 0, 0, 0, 0, 0, 0, 0, 0, 0, 0, 1]], ((0, 0), [])), (0, [2], [[1, 0, 0, 0, 100000, 0, 99999, 0, 0, 100000, 0, 0, 0, 0, 0, 0, 0, 0, 0, 0, 1]], ((0, 0), [])), (0, [2], [[1, 99999, 0, 99999, 0, 0, 100000, 1]], ((0, 0), []))]) (by decide +kernel)
theorem zx_gl209_ok {PT : Nat → zz_W → Prop} : zx_Lok 64 zHT PT (zu_Ln 43) := zu_Ln_ok (by decide +kernel)
theorem zx_gl210_ok {PT : Nat → zz_W → Prop} : zx_Lok 64 zHT PT (zu_Li 43 [((0, 0), [(0, 0, 1)])]) := zu_Li_ok (hs := [(0, [1], [[1]], ((0, 0), []))]) (by decide +kernel)
theorem zx_gl211_ok {PT : Nat → zz_W → Prop} : zx_Lok 64 zHT PT (zu_Ln 45) := zu_Ln_ok (by decide +kernel)
theorem zx_gl212_ok {PT : Nat → zz_W → Prop} : zx_Lok 64 zHT PT (zu_Li 45 [((0, 0), [(0, 0, 1)])]) := zu_Li_ok (hs := [(0, [1], [[1]], ((0, 0), []))]) (by decide +kernel)
theorem zx_gl213_ok {PT : Nat → zz_W → Prop} : zx_Lok 64 zHT PT (zu_Lx 45 45 [302, 303, 304] [((0, 0), [(1, 1, 0), (3, 0, 1)]), ((0, 0), [(1, 0, 1), (3, 1, 0)]), ((0, 1), [(0, 0, 1), (2, 1, 0)]), ((1, 0), [(0, 1, 0), (2, 0, 1)]), ((0, 0), [(0, 0, 1), (4, 1, 0)]), ((0, 0), [(0, 1, 0), (4, 0, 1)]), ((0, 0), [(0, 0, 1), (5, 1, 0)]), ((0, 0), [(0, 1, 0), (5, 0, 1)]), ((0, 0), [(0, 0, 1), (6, 1, 0)]), ((0, 0), [(0, 1, 0), (6, 0, 1)]), ((0, 1), [(7, 1, 0)]), ((1, 0), [(7, 0, 1)]), ((0, 0), [(8, 1, 0)])]) := zu_Lx_ok (hs := [(2, [2, 0, 0], [[], []], ((0, 0), [])), (2, [2, 1, 1], [[], []], ((0, 0), [])), (2, [2, 2, 2], [[], []], ((0, 0), [])), (3, [], [], ((0, 0), [])), (1, [], [], ((0, 1), [(0, 0, 1), (10, 1, 0)])), (0, [1], [[1, 0, 0, 0, 0, 0, 0, 0, 0, 0, 0, 1]], ((0, 0), [])), (2, [2, 3, 0], [[1, 0, 0, 0, 0, 0, 0, 0, 0, 0, 0, 0, 1], [0, 1, 0, 0, 0, 0, 0, 0, 0, 0, 0, 0, 0, 1]], ((0, 0), [])), (2, [2, 4, 1], [[0, 0, 1, 0, 0, 0, 0, 0, 0, 0, 0, 0, 0, 0, 0, 0, 1], [0, 0, 0, 1, 0, 0, 0, 0, 0, 0, 0, 0, 0, 0, 0, 0, 0, 1]], ((0, 0), [])), (0, [3], [[0, 0, 0, 1, 0, 0, 0, 0, 0, 0, 0, 0, 0, 0, 0, 0, 0, 0, 0, 0, 0, 0, 1], [0, 0, 1, 0, 0, 0, 0, 0, 0, 0, 0, 0, 0, 0, 0, 0, 0, 0, 0, 0, 0, 0, 0, 1], [0, 1, 0, 0, 0, 0, 0, 0, 0, 0, 0, 0, 0, 0, 0, 0, 0, 0, 0, 0, 0, 0, 0, 0, 1]], ((0, 0), [])), (0, [2], [[1, 0, 0, 0, 0, 0, 0, 0, 1], [0, 1, 0, 0, 0, 0, 0, 0, 0, 1]], ((0, 0), [])), (0, [3], [[1, 0, 0, 0, 0, 0, 0, 0, 1], [0, 1, 0, 0, 0, 0, 0, 1], [0, 0, 1, 0, 0, 0, 1]], ((0, 0), [])), (0, [4], [[1, 0, 0, 0, 0, 0, 0, 0, 1], [0, 1, 0, 0, 0, 0, 0, 1], [0, 0, 1, 0, 1]], ((0, 0), [])), (0, [5], [[1, 0, 0, 0, 0, 0, 0, 1], [0, 1, 0, 0, 0, 0, 1]], ((0, 0), []))]) (by decide +kernel)
theorem zx_gl214_ok {PT : Nat → zz_W → Prop} : zx_Lok 64 zHT PT (zu_Lx 45 45 [302, 303, 304] [((0, 0), [(1, 1, 0), (3, 0, 1)]), ((0, 0), [(1, 0, 1), (3, 1, 0)]), ((0, 1), [(0, 0, 1), (2, 1, 0)]), ((1, 0), [(0, 1, 0), (2, 0, 1)]), ((0, 0), [(0, 0, 1), (4, 1, 0)]), ((0, 0), [(0, 1, 0), (4, 0, 1)]), ((0, 0), [(0, 0, 1), (5, 1, 0)]), ((0, 0), [(0, 1, 0), (5, 0, 1)]), ((0, 0), [(0, 0, 1), (6, 1, 0)]), ((0, 0), [(0, 1, 0), (6, 0, 1)]), ((0, 2), [(7, 1, 0)]), ((2, 0), [(7, 0, 1)]), ((0, 0), [(9, 1, 0)])]) := zu_Lx_ok (hs := [(2, [2, 0, 0], [[], []], ((0, 0), [])), (2, [2, 1, 1], [[], []], ((0, 0), [])), (2, [2, 2, 2], [[], []], ((0, 0), [])), (3, [], [], ((0, 0), [])), (1, [], [], ((0, 1), [(0, 0, 1), (10, 1, 0)])), (0, [1], [[1, 0, 0, 0, 0, 0, 0, 0, 0, 0, 0, 1]], ((0, 0), [])), (2, [2, 3, 0], [[1, 0, 0, 0, 0, 0, 0, 0, 0, 0, 0, 0, 1], [0, 1, 0, 0, 0, 0, 0, 0, 0, 0, 0, 0, 0, 1]], ((0, 0), [])), (2, [2, 4, 1], [[0, 0, 1, 0, 0, 0, 0, 0, 0, 0, 0, 0, 0, 0, 0, 0, 1], [0, 0, 0, 1, 0, 0, 0, 0, 0, 0, 0, 0, 0, 0, 0, 0, 0, 1]], ((0, 0), [])), (2, [2, 5, 2], [[0, 0, 0, 0, 1, 0, 0, 0, 0, 0, 0, 0, 0, 0, 0, 0, 0, 0, 0, 0, 1], [0, 0, 0, 0, 0, 1, 0, 0, 0, 0, 0, 0, 0, 0, 0, 0, 0, 0, 0, 0, 0, 1]], ((0, 0), [])), (0, [4], [[0, 0, 0, 0, 0, 1, 0, 0, 0, 0, 0, 0, 0, 0, 0, 0, 0, 0, 0, 0, 0, 0, 0, 0, 1], [0, 0, 0, 0, 1, 0, 0, 0, 0, 0, 0, 0, 0, 0, 0, 0, 0, 0, 0, 0, 0, 0, 0, 0, 0, 1], [0, 1, 0, 0, 0, 0, 0, 0, 0, 0, 0, 0, 0, 0, 0, 0, 0, 0, 0, 0, 0, 0, 0, 0, 0, 0, 1]], ((0, 0), [])), (0, [2], [[1, 0, 0, 0, 0, 0, 0, 0, 1], [0, 1, 0, 0, 0, 0, 0, 0, 0, 1]], ((0, 0), [])), (0, [3], [[1, 0, 0, 0, 0, 0, 0, 0, 1], [0, 1, 0, 0, 0, 0, 0, 1], [0, 0, 1, 0, 0, 0, 1]], ((0, 0), [])), (0, [4], [[1, 0, 0, 0, 0, 0, 0, 0, 1], [0, 1, 0, 0, 0, 0, 0, 1], [0, 0, 1, 0, 1]], ((0, 0), [])), (0, [5], [[1, 0, 0, 0, 0, 0, 0, 1], [0, 1, 0, 0, 0, 0, 1]], ((0, 0), []))]) (by decide +kernel)
theorem zx_gl215_ok {PT : Nat → zz_W → Prop} : zx_Lok 64 zHT PT (zu_Lx 45 45 [302, 303, 304] [((0, 0), [(1, 1, 0), (3, 0, 1)]), ((0, 0), [(1, 0, 1), (3, 1, 0)]), ((0, 1), [(0, 0, 1), (2, 1, 0)]), ((1, 0), [(0, 1, 0), (2, 0, 1)]), ((0, 0), [(0, 0, 1), (4, 1, 0)]), ((0, 0), [(0, 1, 0), (4, 0, 1)]), ((0, 0), [(0, 0, 1), (5, 1, 0)]), ((0, 0), [(0, 1, 0), (5, 0, 1)]), ((0, 0), [(0, 0, 1), (6, 1, 0)]), ((0, 0), [(0, 1, 0), (6, 0, 1)]), ((0, 3), [(7, 1, 0)]), ((3, 0), [(7, 0, 1)])]) := zu_Lx_ok (hs := [(2, [2, 0, 0], [[], []], ((0, 0), [])), (2, [2, 1, 1], [[], []], ((0, 0), [])), (2, [2, 2, 2], [[], []], ((0, 0), [])), (3, [], [], ((0, 0), [])), (1, [], [], ((0, 1), [(0, 0, 1), (10, 1, 0)])), (0, [1], [[1, 0, 0, 0, 0, 0, 0, 0, 0, 0, 0, 1]], ((0, 0), [])), (2, [2, 3, 0], [[1, 0, 0, 0, 0, 0, 0, 0, 0, 0, 0, 0, 1], [0, 1, 0, 0, 0, 0, 0, 0, 0, 0, 0, 0, 0, 1]], ((0, 0), [])), (0, [5], [[0, 1, 0, 0, 0, 0, 0, 0, 0, 0, 0, 0, 0, 0, 0, 0, 0, 0, 0, 0, 1], [1, 0, 0, 0, 0, 0, 0, 0, 0, 0, 0, 0, 0, 0, 0, 0, 0, 0, 0, 0, 0, 1]], ((0, 0), [])), (0, [2], [[1, 0, 0, 0, 0, 0, 0, 0, 1], [0, 1, 0, 0, 0, 0, 0, 0, 0, 1]], ((0, 0), [])), (0, [3], [[1, 0, 0, 0, 0, 0, 0, 0, 1], [0, 1, 0, 0, 0, 0, 0, 1], [0, 0, 1, 0, 0, 0, 1]], ((0, 0), [])), (0, [4], [[1, 0, 0, 0, 0, 0, 0, 0, 1], [0, 1, 0, 0, 0, 0, 0, 1], [0, 0, 1, 0, 1]], ((0, 0), [])), (0, [5], [[1, 0, 0, 0, 0, 0, 0, 1], [0, 1, 0, 0, 0, 0, 1]], ((0, 0), []))]) (by decide +kernel)
theorem zx_gl216_ok {PT : Nat → zz_W → Prop} : zx_Lok 64 zHT PT (zu_Ln 46) := zu_Ln_ok (by decide +kernel)
theorem zx_gl217_ok {PT : Nat → zz_W → Prop} : zx_Lok 64 zHT PT (zu_Li 46 [((0, 0), [(0, 0, 1)])]) := zu_Li_ok (hs := [(0, [1], [[1]], ((0, 0), []))]) (by decide +kernel)
theorem zx_gl218_ok {PT : Nat → zz_W → Prop} : zx_Lok 64 zHT PT (zu_Lx 46 46 [308] [((0, 1), [(0, 0, 1), (1, 1, 0)]), ((1, 0), [(0, 1, 0), (1, 0, 1)]), ((0, 0), [(0, 0, 1), (2, 1, 0)]), ((0, 0), [(0, 1, 0), (2, 0, 1)]), ((1, 0), [(3, 0, 1)])]) := zu_Lx_ok (hs := [(2, [2, 0, 0], [[], []], ((0, 0), [])), (2, [2, 1, 1], [[], []], ((0, 0), [])), (2, [2, 2, 2], [[1], [0, 1]], ((0, 0), [])), (3, [], [], ((0, 0), [])), (1, [], [], ((0, 1), [(0, 0, 1), (4, 1, 0)])), (0, [1], [[1, 0, 0, 0, 0, 0, 0, 0, 0, 1]], ((0, 0), [])), (2, [2, 3, 0], [[1, 0, 0, 0, 0, 0, 0, 0, 0, 0, 1], [0, 1, 0, 0, 0, 0, 0, 0, 0, 0, 0, 1]], ((0, 0), [])), (0, [2], [[1, 0, 0, 0, 0, 0, 0, 0, 0, 0, 0, 0, 0, 0, 1]], ((0, 0), [])), (0, [2], [[1, 0, 0, 0, 0, 1]], ((0, 0), [])), (0, [3], [[1, 0, 0, 0, 0, 0, 1]], ((0, 0), [])), (0, [4], [[1, 0, 0, 0, 0, 0, 1], [0, 1, 0, 0, 0, 1], [0, 0, 1, 0, 1]], ((0, 0), []))]) (by decide +kernel)
theorem zx_gl219_ok {PT : Nat → zz_W → Prop} : zx_Lok 64 zHT PT (zu_Lx 46 46 [308] [((0, 1), [(0, 0, 1), (1, 1, 0)]), ((1, 0), [(0, 1, 0), (1, 0, 1)]), ((0, 0), [(0, 0, 1), (2, 1, 0)]), ((0, 0), [(0, 1, 0), (2, 0, 1)]), ((0, 3), [(3, 1, 0)])]) := zu_Lx_ok (hs := [(2, [2, 0, 0], [[], []], ((0, 0), [])), (2, [2, 1, 1], [[], []], ((0, 0), [])), (2, [2, 2, 2], [[1], [0, 1]], ((0, 0), [])), (3, [], [], ((0, 0), [])), (1, [], [], ((0, 1), [(0, 0, 1), (4, 1, 0)])), (0, [1], [[1, 0, 0, 0, 0, 0, 0, 0, 0, 1]], ((0, 0), [])), (2, [2, 3, 0], [[1, 0, 0, 0, 0, 0, 0, 0, 0, 0, 1], [0, 1, 0, 0, 0, 0, 0, 0, 0, 0, 0, 1]], ((0, 0), [])), (0, [3], [[0, 1, 0, 0, 0, 0, 0, 0, 0, 0, 0, 0, 0, 0, 1]], ((0, 0), [])), (0, [2], [[1, 0, 0, 0, 0, 1]], ((0, 0), [])), (0, [3], [[1, 0, 0, 0, 0, 0, 1]], ((0, 0), [])), (0, [4], [[1, 0, 0, 0, 0, 0, 1], [0, 1, 0, 0, 0, 1], [0, 0, 1, 0, 1]], ((0, 0), []))]) (by decide +kernel)
theorem zx_gl220_ok {PT : Nat → zz_W → Prop} : zx_Lok 64 zHT PT (zu_Lx 46 46 [309, 297] [((0, 1), [(0, 0, 1), (1, 1, 0)]), ((1, 0), [(0, 1, 0), (1, 0, 1)]), ((0, 0), [(0, 0, 1), (2, 1, 0)]), ((0, 0), [(0, 1, 0), (2, 0, 1)]), ((0, 0), [(3, 1, 0), (4, 0, 1)]), ((0, 0), [(3, 0, 1), (4, 1, 0)]), ((0, 0), [(4, 1, 0)]), ((9, 0), [(4, 0, 1)]), ((0, 0), [(5, 1, 0)])]) := zu_Lx_ok (hs := [(2, [2, 0, 0], [[], []], ((0, 0), [])), (2, [2, 1, 1], [[], []], ((0, 0), [])), (2, [2, 2, 2], [[1], [0, 1]], ((0, 0), [])), (3, [], [], ((0, 0), [])), (1, [], [], ((0, 1), [(0, 0, 1), (6, 1, 0)])), (0, [1], [[1, 0, 0, 0, 0, 0, 0, 0, 0, 1]], ((0, 0), [])), (2, [2, 3, 1], [[1, 0, 0, 0, 0, 0, 0, 0, 0, 0, 1], [0, 1, 0, 0, 0, 0, 0, 0, 0, 0, 0, 1]], ((0, 0), [])), (2, [2, 4, 2], [[1, 0, 0, 0, 0, 0, 0, 0, 0, 0, 0, 0, 0, 0, 1], [0, 1, 0, 0, 0, 0, 0, 0, 0, 0, 0, 0, 0, 0, 0, 1]], ((0, 0), [])), (0, [4], [[0, 0, 0, 1, 0, 0, 0, 0, 0, 0, 0, 0, 0, 0, 0, 0, 0, 0, 1], [0, 0, 1, 0, 0, 0, 0, 0, 0, 0, 0, 0, 0, 0, 0, 0, 0, 0, 0, 1], [0, 1, 0, 0, 0, 0, 0, 0, 0, 0, 0, 0, 0, 0, 0, 0, 0, 0, 0, 0, 1]], ((0, 0), [])), (0, [2], [[1, 0, 0, 0, 0, 1]], ((0, 0), [])), (0, [3], [[1, 0, 0, 0, 0, 0, 1]], ((0, 0), [])), (0, [4], [[1, 0, 0, 0, 0, 0, 1], [0, 1, 0, 0, 0, 1], [0, 0, 1, 0, 1]], ((0, 0), []))]) (by decide +kernel)
theorem zx_gl221_ok {PT : Nat → zz_W → Prop} : zx_Lok 64 zHT PT (zu_Lv 43 43 [((0, 0), [(1, 1, 0), (3, 0, 1)]), ((0, 0), [(1, 0, 1), (3, 1, 0)]), ((0, 0), [(0, 1, 0), (2, 0, 1)])]) := zu_Lv_ok (hs := [(2, [2, 0, 0], [[], []], ((0, 0), [])), (2, [2, 1, 1], [[0, 0, 1], [0, 0, 0, 1]], ((0, 0), [])), (3, [], [], ((0, 0), [])), (0, [1], [[1, 0, 0, 0, 0, 0, 0, 1]], ((0, 0), [])), (0, [2], [[1, 0, 1, 1]], ((0, 0), []))]) (by decide +kernel)
theorem zx_gl222_ok {PT : Nat → zz_W → Prop} : zx_Lok 64 zHT PT (zu_Ln 50) := zu_Ln_ok (by decide +kernel)
theorem zx_gl239_ok {PT : Nat → zz_W → Prop} : zx_Lok 64 zHT PT (zu_Li 50 [((0, 0), [(1, 0, 1)])]) := zu_Li_ok (hs := [(0, [1], [[1]], ((0, 0), []))]) (by decide +kernel)
theorem zx_gl224_ok {PT : Nat → zz_W → Prop} : zx_Lok 64 zHT PT (zu_Ln 51) := zu_Ln_ok (by decide +kernel)
theorem zx_gl223_ok {PT : Nat → zz_W → Prop} : zx_Lok 64 zHT PT (zu_Li 51 [((0, 0), [(1, 0, 1)])]) := zu_Li_ok (hs := [(0, [1], [[1]], ((0, 0), []))]) (by decide +kernel)
theorem zx_gl231_ok {PT : Nat → zz_W → Prop} : zx_Lok 64 zHT PT (zu_Ln 52) := zu_Ln_ok (by decide +kernel)
theorem zx_gl225_ok {PT : Nat → zz_W → Prop} : zx_Lok 64 zHT PT (zu_Li 52 [((0, 0), [(1, 0, 1)])]) := zu_Li_ok (hs := [(0, [3], [[1]], ((0, 0), []))]) (by decide +kernel)
theorem zx_gl226_ok {PT : Nat → zz_W → Prop} : zx_Lok 64 zHT PT (zu_Lx 52 52 [195, 196, 186] [((0, 0), [(0, 1, 0), (2, 0, 1)]), ((0, 0), [(0, 0, 1), (2, 1, 0)]), ((0, 1), [(1, 0, 1), (3, 1, 0)]), ((1, 0), [(1, 1, 0), (3, 0, 1)]), ((0, 0), [(1, 1, 0), (4, 0, 3000)]), ((2999, 0), [(1, 0, 1), (4, 3000, 0)]), ((0, 0), [(1, 0, 1), (5, 1, 0)]), ((0, 0), [(1, 1, 0), (5, 0, 1)]), ((0, 0), [(4, 0, 64), (6, 1, 0), (8, 0, 1)]), ((0, 0), [(4, 64, 0), (6, 0, 1), (8, 1, 0)]), ((0, 0), [(9, 0, 1)])]) := zu_Lx_ok (hs := [(2, [2, 0, 0], [[], []], ((0, 0), [])), (2, [2, 1, 1], [[], []], ((0, 0), [])), (2, [2, 2, 2], [[1], [0, 1]], ((0, 0), [])), (2, [2, 3, 3], [[], []], ((0, 0), [])), (2, [2, 4, 4], [[], []], ((0, 0), [])), (2, [2, 5, 5], [[1], [0, 1]], ((0, 0), [])), (3, [], [], ((0, 0), [])), (0, [1], [[1, 0, 0, 0, 0, 0, 0, 0, 0, 0, 0, 1]], ((0, 0), [])), (0, [2], [[1, 0, 0, 0, 0, 0, 0, 0, 0, 0, 0, 0, 0, 0, 1], [0, 1]], ((0, 0), [])), (1, [], [], ((0, 1), [(1, 0, 1), (10, 3000, 0), (11, 1, 0)])), (0, [3], [[1, 0, 0, 0, 0, 0, 0, 0, 0, 0, 0, 0, 0, 0, 0, 0, 0, 1]], ((0, 0), [])), (2, [2, 7, 1], [[1, 0, 0, 0, 0, 0, 0, 0, 0, 0, 0, 0, 0, 0, 0, 0, 0, 0, 0, 0, 1], [0, 1, 0, 0, 0, 0, 0, 0, 0, 0, 0, 0, 0, 0, 0, 0, 0, 0, 0, 0, 0, 1]], ((0, 0), [])), (2, [0, 1, 7], [[0, 0, 0, 1, 0, 0, 0, 0, 0, 0, 0, 0, 0, 0, 0, 0, 0, 0, 0, 0, 0, 0, 0, 1], [0, 0, 1, 0, 0, 0, 0, 0, 0, 0, 0, 0, 0, 0, 0, 0, 0, 0, 0, 0, 0, 0, 1]], ((0, 0), [])), (1, [], [], ((0, 1), [(4, 0, 1), (10, 1, 0)])), (0, [0], [[99000, 100000, 0, 100000, 0, 33, 0, 0, 0, 0, 0, 0, 0, 0, 0, 0, 100000, 0, 0, 0, 0, 100000, 100000, 0, 33, 100000, 100000, 100000, 100000]], ((0, 0), [])), (1, [], [], ((0, 1), [(4, 1, 0), (10, 0, 1)])), (0, [0], [[99000, 0, 100000, 0, 100000, 0, 0, 33, 0, 0, 0, 0, 0, 0, 0, 0, 0, 100000, 0, 0, 0, 0, 100000, 100000, 33, 0, 100000, 100000, 100000, 100000]], ((0, 0), [])), (2, [2, 6, 0], [[0, 1], [1]], ((0, 0), [])), (2, [2, 8, 2], [[0, 0, 0, 64, 99999, 0, 100000, 0, 0, 0, 0, 0, 0, 0, 0, 0, 0, 0, 0, 99999, 0, 0, 0, 0, 0, 0, 0, 0, 0, 0, 1], [0, 0, 64, 0, 0, 99999, 0, 100000, 0, 0, 0, 0, 0, 0, 0, 0, 0, 0, 99999, 0, 0, 0, 0, 0, 0, 0, 0, 0, 0, 0, 99999, 100000]], ((0, 0), [])), (0, [4], [[1, 0, 0, 0, 0, 0, 0, 0, 0, 0, 0, 0, 0, 0, 0, 0, 0, 0, 0, 0, 0, 0, 0, 0, 0, 0, 0, 0, 0, 0, 0, 0, 0, 0, 1]], ((0, 0), [])), (0, [4], [[1, 0, 0, 0, 0, 0, 0, 1]], ((0, 0), [])), (0, [5], [[1, 0, 0, 0, 0, 0, 1]], ((0, 0), [])), (0, [6], [[1, 0, 0, 1], [0, 1, 0, 0, 0, 1]], ((0, 0), []))]) (by decide +kernel)
theorem zx_gl227_ok {PT : Nat → zz_W → Prop} : zx_Lok 64 zHT PT (zu_Lx 52 52 [199] [((0, 0), [(0, 1, 0), (2, 0, 1)]), ((0, 0), [(0, 0, 1), (2, 1, 0)]), ((0, 1), [(1, 0, 1), (3, 1, 0)]), ((1, 0), [(1, 1, 0), (3, 0, 1)]), ((0, 0), [(1, 0, 1), (4, 1, 0)]), ((0, 0), [(1, 1, 0), (4, 0, 1)]), ((0, 0), [(5, 1, 0)])]) := zu_Lx_ok (hs := [(2, [2, 0, 0], [[], []], ((0, 0), [])), (2, [2, 1, 1], [[], []], ((0, 0), [])), (2, [2, 2, 2], [[1], [0, 1]], ((0, 0), [])), (2, [2, 3, 3], [[], []], ((0, 0), [])), (2, [2, 4, 4], [[], []], ((0, 0), [])), (2, [2, 5, 5], [[1], [0, 1]], ((0, 0), [])), (3, [], [], ((0, 0), [])), (0, [1], [[1, 0, 0, 0, 0, 0, 0, 0, 0, 0, 0, 1]], ((0, 0), [])), (0, [2], [[1, 0, 0, 0, 0, 0, 0, 0, 0, 0, 0, 0, 0, 0, 1], [0, 1]], ((0, 0), [])), (1, [], [], ((0, 1), [(1, 0, 1), (6, 3000, 0), (7, 1, 0)])), (0, [3], [[1, 0, 0, 0, 0, 0, 0, 0, 0, 0, 0, 0, 0, 0, 0, 0, 0, 1]], ((0, 0), [])), (2, [2, 6, 3], [[1, 0, 0, 0, 0, 0, 0, 0, 0, 0, 0, 0, 0, 0, 0, 0, 0, 0, 1], [0, 1, 0, 0, 0, 0, 0, 0, 0, 0, 0, 0, 0, 0, 0, 0, 0, 0, 0, 1]], ((0, 0), [])), (0, [5], [[0, 1, 0, 0, 0, 0, 0, 0, 0, 0, 0, 0, 0, 0, 0, 0, 0, 0, 0, 0, 0, 0, 1]], ((0, 0), [])), (0, [4], [[1, 0, 0, 0, 0, 0, 0, 1]], ((0, 0), [])), (0, [5], [[1, 0, 0, 0, 0, 0, 1]], ((0, 0), [])), (0, [6], [[1, 0, 0, 1], [0, 1, 0, 0, 0, 1]], ((0, 0), []))]) (by decide +kernel)
theorem zx_gl228_ok {PT : Nat → zz_W → Prop} : zx_Lok 64 zHT PT (zu_Lx 52 52 [201, 315] [((0, 0), [(0, 1, 0), (2, 0, 1)]), ((0, 0), [(0, 0, 1), (2, 1, 0)]), ((0, 1), [(1, 0, 1), (3, 1, 0)]), ((1, 0), [(1, 1, 0), (3, 0, 1)]), ((0, 0), [(1, 0, 1), (4, 1, 0)]), ((0, 0), [(1, 1, 0), (4, 0, 1)]), ((0, 0), [(5, 1, 0), (6, 0, 1)]), ((0, 0), [(5, 0, 1), (6, 1, 0)]), ((0, 0), [(6, 1, 0)]), ((0, 1), [(7, 1, 0)])]) := zu_Lx_ok (hs := [(2, [2, 0, 0], [[], []], ((0, 0), [])), (2, [2, 1, 1], [[], []], ((0, 0), [])), (2, [2, 2, 2], [[1], [0, 1]], ((0, 0), [])), (2, [2, 3, 3], [[], []], ((0, 0), [])), (2, [2, 4, 4], [[], []], ((0, 0), [])), (2, [2, 5, 5], [[1], [0, 1]], ((0, 0), [])), (3, [], [], ((0, 0), [])), (0, [1], [[1, 0, 0, 0, 0, 0, 0, 0, 0, 0, 0, 1]], ((0, 0), [])), (0, [2], [[1, 0, 0, 0, 0, 0, 0, 0, 0, 0, 0, 0, 0, 0, 1], [0, 1]], ((0, 0), [])), (1, [], [], ((0, 1), [(1, 0, 1), (8, 3000, 0), (9, 1, 0)])), (0, [3], [[1, 0, 0, 0, 0, 0, 0, 0, 0, 0, 0, 0, 0, 0, 0, 0, 0, 1]], ((0, 0), [])), (2, [2, 6, 4], [[1, 0, 0, 0, 0, 0, 0, 0, 0, 0, 0, 0, 0, 0, 0, 0, 0, 0, 1], [0, 1, 0, 0, 0, 0, 0, 0, 0, 0, 0, 0, 0, 0, 0, 0, 0, 0, 0, 1]], ((0, 0), [])), (2, [2, 7, 5], [[1, 0, 0, 0, 0, 0, 0, 0, 0, 0, 0, 0, 0, 0, 0, 0, 0, 0, 0, 0, 0, 0, 1], [0, 1, 0, 0, 0, 0, 0, 0, 0, 0, 0, 0, 0, 0, 0, 0, 0, 0, 0, 0, 0, 0, 0, 1]], ((0, 0), [])), (0, [6], [[0, 1, 0, 0, 0, 0, 0, 0, 0, 0, 0, 0, 0, 0, 0, 0, 0, 0, 0, 0, 0, 0, 0, 0, 0, 0, 0, 1], [0, 0, 0, 1, 0, 0, 0, 0, 0, 0, 0, 0, 0, 0, 0, 0, 0, 0, 0, 0, 0, 0, 0, 0, 0, 0, 1]], ((0, 0), [])), (0, [4], [[1, 0, 0, 0, 0, 0, 0, 1]], ((0, 0), [])), (0, [5], [[1, 0, 0, 0, 0, 0, 1]], ((0, 0), [])), (0, [6], [[1, 0, 0, 1], [0, 1, 0, 0, 0, 1]], ((0, 0), []))]) (by decide +kernel)
theorem zx_gl229_ok {PT : Nat → zz_W → Prop} : zx_Lok 64 zHT PT (zu_Lx 52 52 [195] [((0, 0), [(0, 1, 0), (2, 0, 1)]), ((0, 0), [(0, 0, 1), (2, 1, 0)]), ((0, 0), [(5, 1, 0)]), ((0, 0), [(1, 1, 0), (4, 0, 3000), (5, 0, 1)]), ((0, 3000), [(3, 1, 0), (4, 0, 3000)]), ((3000, 0), [(3, 0, 1), (4, 3000, 0)])]) := zu_Lx_ok (hs := [(2, [2, 0, 0], [[], []], ((0, 0), [])), (2, [2, 1, 1], [[], []], ((0, 0), [])), (2, [2, 2, 2], [[1], [0, 1]], ((0, 0), [])), (2, [2, 3, 3], [[], []], ((0, 0), [])), (2, [2, 4, 4], [[], []], ((0, 0), [])), (2, [2, 5, 5], [[1], [0, 1]], ((0, 0), [])), (3, [], [], ((0, 0), [])), (0, [1], [[1, 0, 0, 0, 0, 0, 0, 0, 0, 0, 0, 1]], ((0, 0), [])), (0, [2], [[1, 0, 0, 0, 0, 0, 0, 0, 0, 0, 0, 0, 0, 0, 1], [0, 1]], ((0, 0), [])), (1, [], [], ((0, 1), [(4, 0, 1), (6, 1, 0)])), (0, [3], [[3000, 0, 0, 0, 0, 0, 0, 0, 0, 0, 0, 0, 0, 0, 0, 0, 0, 0, 99999, 100000]], ((0, 0), [])), (1, [], [], ((0, 1), [(4, 1, 0), (6, 0, 1)])), (0, [0], [[99000, 0, 33, 0, 0, 0, 0, 0, 0, 0, 0, 0, 0, 0, 0, 0, 0, 33, 33, 100000, 100000]], ((0, 0), [])), (2, [2, 6, 0], [[0, 1], [1]], ((0, 0), [])), (0, [1], [[1, 0, 0, 3000, 1, 0, 0, 0, 0, 0, 0, 0, 0, 0, 0, 0, 0, 0, 0, 0, 1]], ((0, 0), [])), (0, [4], [[1, 0, 0, 0, 0, 0, 0, 1]], ((0, 0), [])), (0, [5], [[1, 0, 0, 0, 0, 0, 1]], ((0, 0), [])), (0, [6], [[1, 0, 0, 1], [0, 1, 0, 0, 0, 1]], ((0, 0), []))]) (by decide +kernel)
theorem zx_gl230_ok {PT : Nat → zz_W → Prop} : zx_Lok 64 zHT PT (zu_Lv 52 52 [((0, 0), [(0, 1, 0), (2, 0, 1)]), ((0, 0), [(0, 0, 1), (2, 1, 0)]), ((0, 0), [(0, 0, 3000), (1, 1, 0)]), ((18000, 0), [(3, 0, 1)])]) := zu_Lv_ok (hs := [(2, [2, 0, 0], [[], []], ((0, 0), [])), (2, [2, 1, 1], [[], []], ((0, 0), [])), (2, [2, 2, 2], [[1], [0, 1]], ((0, 0), [])), (2, [2, 3, 3], [[], []], ((0, 0), [])), (2, [2, 4, 4], [[], []], ((0, 0), [])), (2, [2, 5, 5], [[1], [0, 1]], ((0, 0), [])), (3, [], [], ((0, 0), [])), (0, [1], [[1, 0, 0, 0, 0, 0, 0, 0, 0, 0, 0, 1]], ((0, 0), [])), (0, [2], [[1, 0, 0, 0, 0, 0, 0, 0, 0, 0, 0, 0, 0, 0, 1], [0, 1]], ((0, 0), [])), (1, [], [], ((0, 6), [(4, 1, 0)])), (0, [3], [[3000, 0, 0, 0, 0, 0, 0, 0, 0, 0, 0, 0, 0, 0, 0, 0, 0, 1]], ((0, 0), [])), (1, [], [], ((0, 0), [(0, 0, 1), (4, 1, 0)])), (0, [2], [[1, 0, 0, 0, 0, 0, 0, 0, 0, 0, 0, 0, 0, 0, 0, 1], [0, 1]], ((0, 0), [])), (0, [0], [[99000, 0, 33, 0, 0, 0, 0, 0, 0, 0, 0, 0, 0, 0, 0, 0, 0, 33]], ((0, 0), [])), (0, [4], [[1, 0, 0, 0, 0, 0, 0, 1]], ((0, 0), [])), (0, [5], [[1, 0, 0, 0, 0, 0, 1]], ((0, 0), [])), (0, [6], [[1, 0, 0, 1], [0, 1, 0, 0, 0, 1]], ((0, 0), []))]) (by decide +kernel)
theorem zx_gl240_ok {PT : Nat → zz_W → Prop} : zx_Lok 64 zHT PT (zu_L1 52) := zu_L1_ok
theorem zx_gl250_ok {PT : Nat → zz_W → Prop} : zx_Lok 64 zHT PT (zu_Ln 53) := zu_Ln_ok (by decide +kernel)
theorem zx_gl251_ok {PT : Nat → zz_W → Prop} : zx_Lok 64 zHT PT (zu_Li 53 [((0, 0), [(1, 0, 1)])]) := zu_Li_ok (hs := [(0, [3], [[1]], ((0, 0), []))]) (by decide +kernel)
theorem zx_gl252_ok {PT : Nat → zz_W → Prop} : zx_Lok 64 zHT PT (zu_Lx 53 53 [186] [((0, 0), [(0, 1, 0), (4, 0, 1)]), ((0, 0), [(0, 0, 1), (4, 1, 0)]), ((0, 0), [(2, 1, 0), (6, 0, 1)]), ((0, 0), [(2, 0, 1), (6, 1, 0)]), ((0, 0), [(3, 1, 0), (7, 0, 1)]), ((0, 0), [(3, 0, 1), (7, 1, 0)]), ((0, 1), [(1, 0, 1), (5, 1, 0)]), ((1, 0), [(1, 1, 0), (5, 0, 1)]), ((0, 0), [(1, 0, 1), (8, 1, 0)]), ((0, 0), [(1, 1, 0), (8, 0, 1)]), ((0, 0), [(9, 0, 1)])]) := zu_Lx_ok (hs := [(2, [2, 0, 0], [[], []], ((0, 0), [])), (2, [2, 1, 1], [[], []], ((0, 0), [])), (2, [2, 2, 2], [[], []], ((0, 0), [])), (2, [2, 3, 3], [[], []], ((0, 0), [])), (2, [2, 4, 4], [[], []], ((0, 0), [])), (3, [], [], ((0, 0), [])), (0, [1], [[1, 1]], ((0, 0), [])), (0, [2], [[1, 0, 0, 0, 0, 0, 0, 0, 0, 0, 0, 0, 1], [0, 1]], ((0, 0), [])), (1, [], [], ((0, 1), [(1, 0, 1), (10, 64, 0), (11, 1, 0)])), (0, [3], [[1, 0, 0, 0, 0, 0, 0, 0, 0, 0, 0, 0, 0, 0, 0, 0, 0, 0, 0, 1]], ((0, 0), [])), (2, [2, 5, 0], [[1, 0, 0, 0, 0, 0, 0, 0, 0, 0, 0, 0, 0, 0, 0, 0, 0, 0, 0, 0, 1], [0, 1, 0, 0, 0, 0, 0, 0, 0, 0, 0, 0, 0, 0, 0, 0, 0, 0, 0, 0, 0, 1]], ((0, 0), [])), (0, [4], [[1, 0, 0, 0, 0, 0, 0, 0, 0, 0, 0, 0, 0, 0, 0, 0, 0, 0, 0, 0, 0, 0, 0, 0, 1]], ((0, 0), [])), (0, [4], [[1, 0, 0, 0, 0, 0, 0, 0, 0, 1]], ((0, 0), [])), (0, [5], [[1, 0, 0, 0, 0, 0, 0, 0, 1]], ((0, 0), [])), (0, [6], [[1, 0, 0, 0, 0, 0, 0, 1, 0, 0, 0, 0, 0, 0, 1], [0, 1, 0, 0, 1, 0, 1, 0, 0, 0, 0, 0, 0, 0, 0, 0, 99999, 100000]], ((0, 0), []))]) (by decide +kernel)
theorem zx_gl253_ok {PT : Nat → zz_W → Prop} : zx_Lok 64 zHT PT (zu_Lx 53 53 [181] [((0, 0), [(0, 1, 0), (4, 0, 1)]), ((0, 0), [(0, 0, 1), (4, 1, 0)]), ((0, 0), [(2, 1, 0), (6, 0, 1)]), ((0, 0), [(2, 0, 1), (6, 1, 0)]), ((0, 0), [(3, 1, 0), (7, 0, 1)]), ((0, 0), [(3, 0, 1), (7, 1, 0)]), ((0, 1), [(1, 0, 1), (5, 1, 0)]), ((1, 0), [(1, 1, 0), (5, 0, 1)]), ((0, 0), [(1, 0, 1), (8, 1, 0)]), ((0, 0), [(1, 1, 0), (8, 0, 1)]), ((0, 1), [(9, 1, 0)])]) := zu_Lx_ok (hs := [(2, [2, 0, 0], [[], []], ((0, 0), [])), (2, [2, 1, 1], [[], []], ((0, 0), [])), (2, [2, 2, 2], [[], []], ((0, 0), [])), (2, [2, 3, 3], [[], []], ((0, 0), [])), (2, [2, 4, 4], [[], []], ((0, 0), [])), (3, [], [], ((0, 0), [])), (0, [1], [[1, 1]], ((0, 0), [])), (0, [2], [[1, 0, 0, 0, 0, 0, 0, 0, 0, 0, 0, 0, 1], [0, 1]], ((0, 0), [])), (1, [], [], ((0, 1), [(1, 0, 1), (10, 64, 0), (11, 1, 0)])), (0, [3], [[1, 0, 0, 0, 0, 0, 0, 0, 0, 0, 0, 0, 0, 0, 0, 0, 0, 0, 0, 1]], ((0, 0), [])), (2, [2, 5, 1], [[1, 0, 0, 0, 0, 0, 0, 0, 0, 0, 0, 0, 0, 0, 0, 0, 0, 0, 0, 0, 1], [0, 1, 0, 0, 0, 0, 0, 0, 0, 0, 0, 0, 0, 0, 0, 0, 0, 0, 0, 0, 0, 1]], ((0, 0), [])), (0, [5], [[0, 1, 0, 0, 0, 0, 0, 0, 0, 0, 0, 0, 0, 0, 0, 0, 0, 0, 0, 0, 0, 0, 0, 0, 1]], ((0, 0), [])), (0, [4], [[1, 0, 0, 0, 0, 0, 0, 0, 0, 1]], ((0, 0), [])), (0, [5], [[1, 0, 0, 0, 0, 0, 0, 0, 1]], ((0, 0), [])), (0, [6], [[1, 0, 0, 0, 0, 0, 0, 1, 0, 0, 0, 0, 0, 0, 1], [0, 1, 0, 0, 1, 0, 1, 0, 0, 0, 0, 0, 0, 0, 0, 0, 99999, 100000]], ((0, 0), []))]) (by decide +kernel)
theorem zx_gl254_ok {PT : Nat → zz_W → Prop} : zx_Lok 64 zHT PT (zu_Lx 53 53 [179] [((0, 0), [(0, 1, 0), (4, 0, 1)]), ((0, 0), [(0, 0, 1), (4, 1, 0)]), ((0, 0), [(2, 1, 0), (6, 0, 1)]), ((0, 0), [(2, 0, 1), (6, 1, 0)]), ((0, 0), [(3, 1, 0), (7, 0, 1)]), ((0, 0), [(3, 0, 1), (7, 1, 0)]), ((0, 0), [(9, 1, 0)]), ((0, 0), [(1, 1, 0), (8, 0, 64), (9, 0, 1)]), ((0, 64), [(5, 1, 0), (8, 0, 64)]), ((64, 0), [(5, 0, 1), (8, 64, 0)])]) := zu_Lx_ok (hs := [(2, [2, 0, 0], [[], []], ((0, 0), [])), (2, [2, 1, 1], [[], []], ((0, 0), [])), (2, [2, 2, 2], [[], []], ((0, 0), [])), (2, [2, 3, 3], [[], []], ((0, 0), [])), (2, [2, 4, 4], [[], []], ((0, 0), [])), (3, [], [], ((0, 0), [])), (0, [1], [[1, 1]], ((0, 0), [])), (0, [2], [[1, 0, 0, 0, 0, 0, 0, 0, 0, 0, 0, 0, 1], [0, 1]], ((0, 0), [])), (1, [], [], ((0, 1), [(8, 0, 1), (10, 1, 0)])), (0, [3], [[64, 0, 0, 0, 0, 0, 0, 0, 0, 0, 0, 0, 0, 0, 0, 0, 0, 0, 0, 0, 99999, 100000]], ((0, 0), [])), (1, [], [], ((0, 1), [(8, 1, 0), (10, 0, 1)])), (0, [0], [[99968, 0, 1562, 0, 0, 0, 0, 0, 0, 0, 0, 0, 0, 0, 0, 0, 0, 0, 0, 1562, 1562, 100000, 100000]], ((0, 0), [])), (2, [2, 5, 4], [[0, 1], [1]], ((0, 0), [])), (0, [1], [[1, 0, 0, 64, 1, 0, 0, 0, 0, 0, 0, 0, 0, 0, 0, 0, 0, 0, 0, 0, 0, 0, 1]], ((0, 0), [])), (0, [4], [[1, 0, 0, 0, 0, 0, 0, 0, 0, 1]], ((0, 0), [])), (0, [5], [[1, 0, 0, 0, 0, 0, 0, 0, 1]], ((0, 0), [])), (0, [6], [[1, 0, 0, 0, 0, 0, 0, 1, 0, 0, 0, 0, 0, 0, 1], [0, 1, 0, 0, 1, 0, 1, 0, 0, 0, 0, 0, 0, 0, 0, 0, 99999, 100000]], ((0, 0), []))]) (by decide +kernel)
theorem zx_gl255_ok {PT : Nat → zz_W → Prop} : zx_Lok 64 zHT PT (zu_Lv 53 53 [((0, 0), [(0, 1, 0), (4, 0, 1)]), ((0, 0), [(0, 0, 1), (4, 1, 0)]), ((0, 0), [(2, 1, 0), (6, 0, 1)]), ((0, 0), [(2, 0, 1), (6, 1, 0)]), ((0, 0), [(3, 1, 0), (7, 0, 1)]), ((0, 0), [(3, 0, 1), (7, 1, 0)]), ((0, 0), [(0, 0, 64), (1, 1, 0)]), ((384, 0), [(5, 0, 1)])]) := zu_Lv_ok (hs := [(2, [2, 0, 0], [[], []], ((0, 0), [])), (2, [2, 1, 1], [[], []], ((0, 0), [])), (2, [2, 2, 2], [[], []], ((0, 0), [])), (2, [2, 3, 3], [[], []], ((0, 0), [])), (2, [2, 4, 4], [[], []], ((0, 0), [])), (3, [], [], ((0, 0), [])), (0, [1], [[1, 1]], ((0, 0), [])), (0, [2], [[1, 0, 0, 0, 0, 0, 0, 0, 0, 0, 0, 0, 1], [0, 1]], ((0, 0), [])), (1, [], [], ((0, 6), [(8, 1, 0)])), (0, [3], [[64, 0, 0, 0, 0, 0, 0, 0, 0, 0, 0, 0, 0, 0, 0, 0, 0, 0, 0, 1]], ((0, 0), [])), (1, [], [], ((0, 0), [(0, 0, 1), (8, 1, 0)])), (0, [2], [[1, 0, 0, 0, 0, 0, 0, 0, 0, 0, 0, 0, 0, 1], [0, 1]], ((0, 0), [])), (0, [0], [[99968, 0, 1562, 0, 0, 0, 0, 0, 0, 0, 0, 0, 0, 0, 0, 0, 0, 0, 0, 1562]], ((0, 0), [])), (0, [4], [[1, 0, 0, 0, 0, 0, 0, 0, 0, 1]], ((0, 0), [])), (0, [5], [[1, 0, 0, 0, 0, 0, 0, 0, 1]], ((0, 0), [])), (0, [6], [[1, 0, 0, 0, 0, 0, 0, 1, 0, 0, 0, 0, 0, 0, 1], [0, 1, 0, 0, 1, 0, 1, 0, 0, 0, 0, 0, 0, 0, 0, 0, 99999, 100000]], ((0, 0), []))]) (by decide +kernel)
theorem zx_gl256_ok {PT : Nat → zz_W → Prop} : zx_Lok 64 zHT PT (zu_Lv 53 53 [((0, 0), [(0, 1, 0), (4, 0, 1)]), ((0, 0), [(0, 0, 1), (4, 1, 0)]), ((0, 0), [(2, 1, 0), (6, 0, 1)]), ((0, 0), [(2, 0, 1), (6, 1, 0)]), ((0, 0), [(1, 1, 0), (5, 0, 1)]), ((0, 0), [(1, 0, 1), (5, 1, 0)]), ((0, 0), [(3, 0, 1), (7, 1, 0)])]) := zu_Lv_ok (hs := [(2, [2, 0, 0], [[], []], ((0, 0), [])), (2, [2, 1, 1], [[], []], ((0, 0), [])), (2, [2, 2, 2], [[], []], ((0, 0), [])), (2, [2, 3, 3], [[], []], ((0, 0), [])), (2, [2, 4, 4], [[], []], ((0, 0), [])), (3, [], [], ((0, 0), [])), (0, [1], [[1, 1]], ((0, 0), [])), (0, [2], [[1, 0, 0, 0, 0, 0, 0, 0, 0, 0, 0, 0, 1], [0, 1]], ((0, 0), [])), (0, [3], [[1, 0, 0, 0, 0, 0, 0, 0, 0, 0, 0, 0, 0, 0, 0, 1]], ((0, 0), [])), (0, [4], [[1, 0, 0, 0, 0, 0, 0, 0, 0, 1]], ((0, 0), [])), (0, [5], [[1, 0, 0, 0, 0, 0, 0, 0, 1]], ((0, 0), [])), (0, [6], [[1, 0, 0, 0, 0, 0, 0, 1, 0, 0, 0, 0, 0, 0, 1], [0, 1, 0, 0, 1, 0, 1, 0, 0, 0, 0, 0, 0, 0, 0, 0, 0, 0, 1]], ((0, 0), []))]) (by decide +kernel)
theorem zx_gl260_ok {PT : Nat → zz_W → Prop} : zx_Lok 64 zHT PT (zu_Ln 54) := zu_Ln_ok (by decide +kernel)
theorem zx_gl261_ok {PT : Nat → zz_W → Prop} : zx_Lok 64 zHT PT (zu_Li 54 [((0, 0), [(1, 0, 1)])]) := zu_Li_ok (hs := [(0, [3], [[1]], ((0, 0), []))]) (by decide +kernel)
theorem zx_gl262_ok {PT : Nat → zz_W → Prop} : zx_Lok 64 zHT PT (zu_Lx 54 54 [186] [((0, 0), [(0, 1, 0), (4, 0, 1)]), ((0, 0), [(0, 0, 1), (4, 1, 0)]), ((0, 0), [(2, 1, 0), (6, 0, 1)]), ((0, 0), [(2, 0, 1), (6, 1, 0)]), ((0, 0), [(3, 1, 0), (7, 0, 1)]), ((0, 0), [(3, 0, 1), (7, 1, 0)]), ((0, 1), [(1, 0, 1), (5, 1, 0)]), ((1, 0), [(1, 1, 0), (5, 0, 1)]), ((0, 0), [(1, 0, 1), (8, 1, 0)]), ((0, 0), [(1, 1, 0), (8, 0, 1)]), ((0, 0), [(9, 0, 1)])]) := zu_Lx_ok (hs := [(2, [2, 0, 0], [[], []], ((0, 0), [])), (2, [2, 1, 1], [[], []], ((0, 0), [])), (2, [2, 2, 2], [[], []], ((0, 0), [])), (2, [2, 3, 3], [[], []], ((0, 0), [])), (2, [2, 4, 4], [[], []], ((0, 0), [])), (3, [], [], ((0, 0), [])), (0, [1], [[1, 1]], ((0, 0), [])), (0, [2], [[1, 0, 0, 0, 0, 0, 0, 0, 0, 0, 0, 0, 1], [0, 1]], ((0, 0), [])), (1, [], [], ((0, 1), [(1, 0, 1), (10, 64, 0), (11, 1, 0)])), (0, [3], [[1, 0, 0, 0, 0, 0, 0, 0, 0, 0, 0, 0, 0, 0, 0, 0, 0, 0, 0, 1]], ((0, 0), [])), (2, [2, 5, 0], [[1, 0, 0, 0, 0, 0, 0, 0, 0, 0, 0, 0, 0, 0, 0, 0, 0, 0, 0, 0, 1], [0, 1, 0, 0, 0, 0, 0, 0, 0, 0, 0, 0, 0, 0, 0, 0, 0, 0, 0, 0, 0, 1]], ((0, 0), [])), (0, [4], [[1, 0, 0, 0, 0, 0, 0, 0, 0, 0, 0, 0, 0, 0, 0, 0, 0, 0, 0, 0, 0, 0, 0, 0, 1]], ((0, 0), [])), (0, [4], [[1, 0, 0, 0, 0, 0, 0, 0, 0, 1]], ((0, 0), [])), (0, [5], [[1, 0, 0, 0, 0, 0, 0, 1]], ((0, 0), [])), (0, [6], [[1, 0, 0, 0, 0, 0, 0, 1, 0, 0, 0, 0, 0, 0, 1], [0, 1, 0, 0, 1, 0, 1, 0, 0, 0, 0, 0, 0, 0, 0, 0, 99999, 100000]], ((0, 0), []))]) (by decide +kernel)
theorem zx_gl263_ok {PT : Nat → zz_W → Prop} : zx_Lok 64 zHT PT (zu_Lx 54 54 [181] [((0, 0), [(0, 1, 0), (4, 0, 1)]), ((0, 0), [(0, 0, 1), (4, 1, 0)]), ((0, 0), [(2, 1, 0), (6, 0, 1)]), ((0, 0), [(2, 0, 1), (6, 1, 0)]), ((0, 0), [(3, 1, 0), (7, 0, 1)]), ((0, 0), [(3, 0, 1), (7, 1, 0)]), ((0, 1), [(1, 0, 1), (5, 1, 0)]), ((1, 0), [(1, 1, 0), (5, 0, 1)]), ((0, 0), [(1, 0, 1), (8, 1, 0)]), ((0, 0), [(1, 1, 0), (8, 0, 1)]), ((0, 0), [(9, 0, 1)])]) := zu_Lx_ok (hs := [(2, [2, 0, 0], [[], []], ((0, 0), [])), (2, [2, 1, 1], [[], []], ((0, 0), [])), (2, [2, 2, 2], [[], []], ((0, 0), [])), (2, [2, 3, 3], [[], []], ((0, 0), [])), (2, [2, 4, 4], [[], []], ((0, 0), [])), (3, [], [], ((0, 0), [])), (0, [1], [[1, 1]], ((0, 0), [])), (0, [2], [[1, 0, 0, 0, 0, 0, 0, 0, 0, 0, 0, 0, 1], [0, 1]], ((0, 0), [])), (1, [], [], ((0, 1), [(1, 0, 1), (10, 64, 0), (11, 1, 0)])), (0, [3], [[1, 0, 0, 0, 0, 0, 0, 0, 0, 0, 0, 0, 0, 0, 0, 0, 0, 0, 0, 1]], ((0, 0), [])), (2, [2, 5, 1], [[1, 0, 0, 0, 0, 0, 0, 0, 0, 0, 0, 0, 0, 0, 0, 0, 0, 0, 0, 0, 1], [0, 1, 0, 0, 0, 0, 0, 0, 0, 0, 0, 0, 0, 0, 0, 0, 0, 0, 0, 0, 0, 1]], ((0, 0), [])), (0, [5], [[1, 0, 0, 0, 0, 0, 0, 0, 0, 0, 0, 0, 0, 0, 0, 0, 0, 0, 0, 0, 0, 0, 0, 0, 1]], ((0, 0), [])), (0, [4], [[1, 0, 0, 0, 0, 0, 0, 0, 0, 1]], ((0, 0), [])), (0, [5], [[1, 0, 0, 0, 0, 0, 0, 1]], ((0, 0), [])), (0, [6], [[1, 0, 0, 0, 0, 0, 0, 1, 0, 0, 0, 0, 0, 0, 1], [0, 1, 0, 0, 1, 0, 1, 0, 0, 0, 0, 0, 0, 0, 0, 0, 99999, 100000]], ((0, 0), []))]) (by decide +kernel)
theorem zx_gl264_ok {PT : Nat → zz_W → Prop} : zx_Lok 64 zHT PT (zu_Lx 54 54 [179] [((0, 0), [(0, 1, 0), (4, 0, 1)]), ((0, 0), [(0, 0, 1), (4, 1, 0)]), ((0, 0), [(2, 1, 0), (6, 0, 1)]), ((0, 0), [(2, 0, 1), (6, 1, 0)]), ((0, 0), [(3, 1, 0), (7, 0, 1)]), ((0, 0), [(3, 0, 1), (7, 1, 0)]), ((0, 0), [(9, 1, 0)]), ((0, 0), [(1, 1, 0), (8, 0, 64), (9, 0, 1)]), ((0, 64), [(5, 1, 0), (8, 0, 64)]), ((64, 0), [(5, 0, 1), (8, 64, 0)])]) := zu_Lx_ok (hs := [(2, [2, 0, 0], [[], []], ((0, 0), [])), (2, [2, 1, 1], [[], []], ((0, 0), [])), (2, [2, 2, 2], [[], []], ((0, 0), [])), (2, [2, 3, 3], [[], []], ((0, 0), [])), (2, [2, 4, 4], [[], []], ((0, 0), [])), (3, [], [], ((0, 0), [])), (0, [1], [[1, 1]], ((0, 0), [])), (0, [2], [[1, 0, 0, 0, 0, 0, 0, 0, 0, 0, 0, 0, 1], [0, 1]], ((0, 0), [])), (1, [], [], ((0, 1), [(8, 0, 1), (10, 1, 0)])), (0, [3], [[64, 0, 0, 0, 0, 0, 0, 0, 0, 0, 0, 0, 0, 0, 0, 0, 0, 0, 0, 0, 99999, 100000]], ((0, 0), [])), (1, [], [], ((0, 1), [(8, 1, 0), (10, 0, 1)])), (0, [0], [[99968, 0, 1562, 0, 0, 0, 0, 0, 0, 0, 0, 0, 0, 0, 0, 0, 0, 0, 0, 1562, 1562, 100000, 100000]], ((0, 0), [])), (2, [2, 5, 4], [[0, 1], [1]], ((0, 0), [])), (0, [1], [[1, 0, 0, 64, 1, 0, 0, 0, 0, 0, 0, 0, 0, 0, 0, 0, 0, 0, 0, 0, 0, 0, 1]], ((0, 0), [])), (0, [4], [[1, 0, 0, 0, 0, 0, 0, 0, 0, 1]], ((0, 0), [])), (0, [5], [[1, 0, 0, 0, 0, 0, 0, 1]], ((0, 0), [])), (0, [6], [[1, 0, 0, 0, 0, 0, 0, 1, 0, 0, 0, 0, 0, 0, 1], [0, 1, 0, 0, 1, 0, 1, 0, 0, 0, 0, 0, 0, 0, 0, 0, 99999, 100000]], ((0, 0), []))]) (by decide +kernel)
theorem zx_gl265_ok {PT : Nat → zz_W → Prop} : zx_Lok 64 zHT PT (zu_Lv 54 54 [((0, 0), [(0, 1, 0), (4, 0, 1)]), ((0, 0), [(0, 0, 1), (4, 1, 0)]), ((0, 0), [(2, 1, 0), (6, 0, 1)]), ((0, 0), [(2, 0, 1), (6, 1, 0)]), ((0, 0), [(3, 1, 0), (7, 0, 1)]), ((0, 0), [(3, 0, 1), (7, 1, 0)]), ((0, 0), [(0, 0, 64), (1, 1, 0)]), ((384, 0), [(5, 0, 1)])]) := zu_Lv_ok (hs := [(2, [2, 0, 0], [[], []], ((0, 0), [])), (2, [2, 1, 1], [[], []], ((0, 0), [])), (2, [2, 2, 2], [[], []], ((0, 0), [])), (2, [2, 3, 3], [[], []], ((0, 0), [])), (2, [2, 4, 4], [[], []], ((0, 0), [])), (3, [], [], ((0, 0), [])), (0, [1], [[1, 1]], ((0, 0), [])), (0, [2], [[1, 0, 0, 0, 0, 0, 0, 0, 0, 0, 0, 0, 1], [0, 1]], ((0, 0), [])), (1, [], [], ((0, 6), [(8, 1, 0)])), (0, [3], [[64, 0, 0, 0, 0, 0, 0, 0, 0, 0, 0, 0, 0, 0, 0, 0, 0, 0, 0, 1]], ((0, 0), [])), (1, [], [], ((0, 0), [(0, 0, 1), (8, 1, 0)])), (0, [2], [[1, 0, 0, 0, 0, 0, 0, 0, 0, 0, 0, 0, 0, 1], [0, 1]], ((0, 0), [])), (0, [0], [[99968, 0, 1562, 0, 0, 0, 0, 0, 0, 0, 0, 0, 0, 0, 0, 0, 0, 0, 0, 1562]], ((0, 0), [])), (0, [4], [[1, 0, 0, 0, 0, 0, 0, 0, 0, 1]], ((0, 0), [])), (0, [5], [[1, 0, 0, 0, 0, 0, 0, 1]], ((0, 0), [])), (0, [6], [[1, 0, 0, 0, 0, 0, 0, 1, 0, 0, 0, 0, 0, 0, 1], [0, 1, 0, 0, 1, 0, 1, 0, 0, 0, 0, 0, 0, 0, 0, 0, 99999, 100000]], ((0, 0), []))]) (by decide +kernel)
theorem zx_gl266_ok {PT : Nat → zz_W → Prop} : zx_Lok 64 zHT PT (zu_Lv 54 54 [((0, 0), [(0, 1, 0), (4, 0, 1)]), ((0, 0), [(0, 0, 1), (4, 1, 0)]), ((0, 0), [(2, 1, 0), (6, 0, 1)]), ((0, 0), [(2, 0, 1), (6, 1, 0)]), ((0, 0), [(1, 1, 0), (5, 0, 1)]), ((0, 0), [(1, 0, 1), (5, 1, 0)]), ((0, 0), [(3, 0, 1), (7, 1, 0)])]) := zu_Lv_ok (hs := [(2, [2, 0, 0], [[], []], ((0, 0), [])), (2, [2, 1, 1], [[], []], ((0, 0), [])), (2, [2, 2, 2], [[], []], ((0, 0), [])), (2, [2, 3, 3], [[], []], ((0, 0), [])), (2, [2, 4, 4], [[], []], ((0, 0), [])), (3, [], [], ((0, 0), [])), (0, [1], [[1, 1]], ((0, 0), [])), (0, [2], [[1, 0, 0, 0, 0, 0, 0, 0, 0, 0, 0, 0, 1], [0, 1]], ((0, 0), [])), (0, [3], [[1, 0, 0, 0, 0, 0, 0, 0, 0, 0, 0, 0, 0, 0, 0, 1]], ((0, 0), [])), (0, [4], [[1, 0, 0, 0, 0, 0, 0, 0, 0, 1]], ((0, 0), [])), (0, [5], [[1, 0, 0, 0, 0, 0, 0, 1]], ((0, 0), [])), (0, [6], [[1, 0, 0, 0, 0, 0, 0, 1, 0, 0, 0, 0, 0, 0, 1], [0, 1, 0, 0, 1, 0, 1, 0, 0, 0, 0, 0, 0, 0, 0, 0, 0, 0, 1]], ((0, 0), []))]) (by decide +kernel)
theorem zx_gl241_ok {PT : Nat → zz_W → Prop} : zx_Lok 64 zHT PT (zu_Lv 50 50 [((0, 0), [(0, 1, 0), (2, 0, 1)]), ((0, 0), [(0, 0, 1), (2, 1, 0)]), ((0, 0), [(1, 1, 0), (3, 0, 1)])]) := zu_Lv_ok (hs := [(2, [2, 0, 0], [[], []], ((0, 0), [])), (2, [2, 1, 1], [[1], [0, 1]], ((0, 0), [])), (2, [2, 2, 2], [[], []], ((0, 0), [])), (3, [], [], ((0, 0), [])), (0, [1], [[1, 0, 0, 0, 0, 0, 0, 0, 0, 1]], ((0, 0), [])), (0, [2], [[1, 0, 0, 0, 0, 1]], ((0, 0), [])), (0, [3], [[1, 0, 0, 0, 0, 0, 1]], ((0, 0), [])), (0, [4], [[1, 0, 0, 0, 0, 0, 0, 0, 0, 0, 1], [0, 1, 0, 0, 1, 1], [0, 0, 1, 0, 0, 0, 1]], ((0, 0), [])), (0, [5], [[1], [0, 1, 0, 0, 1, 1], [0, 0, 1, 0, 0, 0, 1]], ((0, 0), []))]) (by decide +kernel)
theorem zx_gl243_ok {PT : Nat → zz_W → Prop} : zx_Lok 64 zHT PT (zu_Lv 51 51 [((0, 0), [(0, 1, 0), (2, 0, 1)]), ((0, 0), [(0, 0, 1), (2, 1, 0)]), ((0, 0), [(1, 1, 0), (3, 0, 1)])]) := zu_Lv_ok (hs := [(2, [2, 0, 0], [[], []], ((0, 0), [])), (2, [2, 1, 1], [[], []], ((0, 0), [])), (3, [], [], ((0, 0), [])), (0, [1], [[1, 0, 0, 0, 0, 0, 0, 1]], ((0, 0), [])), (0, [2], [[1, 0, 0, 1]], ((0, 0), [])), (0, [3], [[1, 0, 0, 1], [0, 1, 0, 0, 0, 0, 0, 1]], ((0, 0), [])), (0, [4], [[1, 0, 0, 1], [0, 1]], ((0, 0), []))]) (by decide +kernel)
theorem zx_gl244_ok {PT : Nat → zz_W → Prop} : zx_Lok 64 zHT PT (zu_Lv 46 46 [((0, 0), [(0, 1, 0), (1, 0, 1)])]) := zu_Lv_ok (hs := [(2, [2, 0, 0], [[], []], ((0, 0), [])), (2, [2, 1, 1], [[], []], ((0, 0), [])), (2, [2, 2, 2], [[1], [0, 1]], ((0, 0), [])), (3, [], [], ((0, 0), [])), (0, [1], [[1, 0, 0, 0, 0, 0, 0, 1]], ((0, 0), [])), (0, [2], [[1, 0, 0, 0, 0, 1]], ((0, 0), [])), (0, [3], [[1, 0, 0, 0, 0, 0, 1]], ((0, 0), [])), (0, [4], [[1, 0, 0, 0, 0, 0, 1], [0, 1, 0, 0, 0, 1], [0, 0, 1, 0, 1]], ((0, 0), []))]) (by decide +kernel)
theorem zx_gl300_ok {PT : Nat → zz_W → Prop} : zx_Lok 64 zHT PT (zu_Ln 61) := zu_Ln_ok (by decide +kernel)
theorem zx_gl301_ok {PT : Nat → zz_W → Prop} : zx_Lok 64 zHT PT (zu_Lv 61 60 [((0, 8192), [(1, 1, 0)]), ((0, 0), [(2, 1, 0), (3, 0, 1)]), ((0, 0), [(2, 0, 1), (3, 1, 0)]), ((0, 0), [(0, 0, 1), (4, 1, 0)]), ((0, 0), [(0, 1, 0), (4, 0, 1)])]) := zu_Lv_ok (hs := [(2, [2, 0, 0], [[], []], ((0, 0), [])), (2, [2, 1, 1], [[1], [0, 1]], ((0, 0), [])), (3, [], [], ((0, 0), [])), (0, [0], [[1, 0, 0, 0, 0, 0, 1]], ((0, 0), [])), (0, [1], [[1, 0, 0, 1]], ((0, 0), [])), (1, [], [], ((0, 0), [(2, 1, 0), (6, 0, 1)])), (0, [2], [[0, 0, 1, 0, 0, 0, 0, 0, 1], [1, 0, 0, 0, 0, 0, 0, 1], [0, 1, 0, 0, 0, 0, 0, 1, 0, 0, 0, 0, 1], [0, 0, 0, 1, 0, 0, 1], [0, 0, 0, 0, 1, 1]], ((0, 0), [])), (0, [3], [[0, 0, 1, 0, 0, 0, 0, 0, 1], [1, 0, 0, 0, 0, 0, 0, 0, 1, 0, 1], [0, 1, 0, 0, 0, 0, 0, 1, 0, 0, 0, 0, 1], [0, 0, 0, 1, 0, 0, 1], [0, 0, 0, 0, 1, 1]], ((0, 0), []))]) (by decide +kernel)
theorem zx_gl302_ok {PT : Nat → zz_W → Prop} : zx_Lok 64 zHT PT (zu_Lv 60 61 [((0, 0), [(1, 1, 0), (2, 0, 1)]), ((0, 0), [(0, 0, 1), (3, 1, 0)]), ((0, 0), [(0, 1, 0), (3, 0, 1)])]) := zu_Lv_ok (hs := [(2, [2, 0, 0], [[], []], ((0, 0), [])), (2, [2, 1, 1], [[1], [0, 1]], ((0, 0), [])), (3, [], [], ((0, 0), [])), (0, [2], [[1, 0, 0, 1]], ((0, 0), [])), (0, [3], [[0, 1, 0, 0, 0, 0, 0, 1, 0, 0, 1], [1, 0, 0, 0, 0, 0, 0, 0, 1], [0, 0, 0, 1, 0, 0, 1], [0, 0, 0, 0, 1, 1]], ((0, 0), [])), (0, [0], [[0, 100000, 100000, 0, 0, 0, 0, 0, 0, 100000]], ((0, 0), []))]) (by decide +kernel)
theorem zx_gl303_ok {PT : Nat → zz_W → Prop} : zx_Lok 64 zHT PT (zu_Ln 66) := zu_Ln_ok (by decide +kernel)
theorem zx_gl304_ok {PT : Nat → zz_W → Prop} : zx_Lok 64 zHT PT (zu_Li 66 [((0, 0), [(0, 0, 1)])]) := zu_Li_ok (hs := [(0, [1], [[1]], ((0, 0), []))]) (by decide +kernel)
theorem zx_gl305_ok {PT : Nat → zz_W → Prop} : zx_Lok 64 zHT PT (zu_Lx 66 66 [34, 34, 34] [((0, 1), [(0, 0, 1), (2, 1, 0)]), ((1, 0), [(0, 1, 0), (2, 0, 1)]), ((0, 0), [(1, 1, 0), (3, 0, 1)]), ((0, 0), [(1, 0, 1), (3, 1, 0)]), ((0, 0), [(0, 0, 8), (4, 1, 0)]), ((0, 0), [(0, 8, 0), (4, 0, 1)]), ((0, 1), [(0, 0, 8), (5, 1, 0)]), ((1, 0), [(0, 8, 0), (5, 0, 1)]), ((0, 2), [(0, 0, 8), (6, 1, 0)]), ((2, 0), [(0, 8, 0), (6, 0, 1)]), ((0, 0), [(1, 1, 0), (7, 0, 1)]), ((0, 0), [(1, 1, 0), (8, 0, 1)]), ((0, 0), [(1, 1, 0), (9, 0, 1)])]) := zu_Lx_ok (hs := [(2, [2, 0, 0], [[], []], ((0, 0), [])), (2, [2, 1, 1], [[], []], ((0, 0), [])), (2, [2, 2, 2], [[], []], ((0, 0), [])), (3, [], [], ((0, 0), [])), (1, [], [], ((0, 1), [(0, 0, 1), (10, 1, 0)])), (0, [1], [[1, 0, 0, 0, 0, 0, 0, 0, 0, 1]], ((0, 0), [])), (2, [2, 3, 0], [[8, 0, 0, 0, 0, 0, 0, 0, 0, 0, 0, 0, 1], [0, 8, 0, 0, 0, 0, 0, 0, 0, 0, 0, 0, 99999, 100000]], ((0, 0), [])), (2, [2, 4, 1], [[0, 0, 8, 0, 0, 0, 0, 0, 0, 0, 0, 0, 0, 0, 0, 0, 1], [0, 0, 0, 8, 0, 0, 0, 0, 0, 0, 0, 0, 0, 0, 0, 0, 99999, 100000]], ((0, 0), [])), (2, [2, 5, 2], [[0, 0, 0, 0, 8, 0, 0, 0, 0, 0, 0, 0, 0, 0, 0, 0, 0, 0, 0, 0, 1], [0, 0, 0, 0, 0, 8, 0, 0, 0, 0, 0, 0, 0, 0, 0, 0, 0, 0, 0, 0, 99999, 100000]], ((0, 0), [])), (0, [2], [[0, 0, 0, 0, 1, 0, 0, 0, 0, 0, 0, 0, 0, 0, 0, 0, 99999, 100000, 0, 0, 0, 0, 0, 0, 1], [0, 0, 1, 0, 0, 0, 0, 0, 0, 0, 0, 0, 0, 0, 0, 0, 99999, 100000, 0, 0, 0, 0, 0, 0, 0, 1], [1, 0, 0, 0, 0, 0, 0, 0, 0, 0, 0, 0, 0, 0, 0, 0, 99999, 100000, 0, 0, 0, 0, 0, 0, 0, 0, 1]], ((0, 0), [])), (0, [2], [[1, 0, 0, 0, 0, 0, 0, 1, 0, 0, 0, 99999, 100000], [0, 1, 0, 0, 0, 1, 0, 0, 0, 0, 0, 99999, 100000], [0, 0, 1, 1, 0, 0, 0, 0, 0, 0, 0, 99999, 100000]], ((0, 0), []))]) (by decide +kernel)
theorem zx_gl306_ok {PT : Nat → zz_W → Prop} : zx_Lok 64 zHT PT (zu_Lv 66 66 [((0, 0), [(0, 1, 0), (2, 0, 1)]), ((0, 0), [(1, 1, 0), (3, 0, 1)]), ((0, 0), [(1, 0, 1), (3, 1, 0)])]) := zu_Lv_ok (hs := [(2, [2, 0, 0], [[], []], ((0, 0), [])), (2, [2, 1, 1], [[], []], ((0, 0), [])), (2, [2, 2, 2], [[], []], ((0, 0), [])), (3, [], [], ((0, 0), [])), (0, [1], [[1, 0, 0, 0, 0, 0, 0, 1]], ((0, 0), [])), (0, [2], [[1, 0, 0, 0, 0, 0, 0, 1, 0, 0, 99999, 100000], [0, 1, 0, 0, 0, 1, 0, 0, 0, 0, 99999, 100000], [0, 0, 1, 1, 0, 0, 0, 0, 0, 0, 99999, 100000]], ((0, 0), []))]) (by decide +kernel)
theorem zx_gl307_ok {PT : Nat → zz_W → Prop} : zx_Lok 64 zHT PT (zu_Ln 67) := zu_Ln_ok (by decide +kernel)
theorem zx_gl308_ok {PT : Nat → zz_W → Prop} : zx_Lok 64 zHT PT (zu_Li 67 [((0, 0), [(0, 0, 1)])]) := zu_Li_ok (hs := [(0, [1], [[1]], ((0, 0), []))]) (by decide +kernel)
theorem zx_gl309_ok {PT : Nat → zz_W → Prop} : zx_Lok 64 zHT PT (zu_Lx 67 67 [35, 35] [((0, 1), [(0, 0, 1), (2, 1, 0)]), ((1, 0), [(0, 1, 0), (2, 0, 1)]), ((0, 0), [(1, 1, 0), (3, 0, 1)]), ((0, 0), [(1, 0, 1), (3, 1, 0)]), ((0, 0), [(0, 0, 3), (4, 1, 0)]), ((0, 0), [(0, 3, 0), (4, 0, 1)]), ((0, 1), [(0, 0, 3), (5, 1, 0)]), ((1, 0), [(0, 3, 0), (5, 0, 1)]), ((0, 0), [(1, 1, 0), (6, 0, 1)]), ((0, 0), [(1, 1, 0), (7, 0, 1)])]) := zu_Lx_ok (hs := [(2, [2, 0, 0], [[], []], ((0, 0), [])), (2, [2, 1, 1], [[], []], ((0, 0), [])), (3, [], [], ((0, 0), [])), (1, [], [], ((0, 1), [(0, 0, 1), (8, 1, 0)])), (0, [1], [[1, 0, 0, 0, 0, 0, 0, 1]], ((0, 0), [])), (2, [2, 2, 0], [[3, 0, 0, 0, 0, 0, 0, 0, 0, 0, 1], [0, 3, 0, 0, 0, 0, 0, 0, 0, 0, 99999, 100000]], ((0, 0), [])), (2, [2, 3, 1], [[0, 0, 3, 0, 0, 0, 0, 0, 0, 0, 0, 0, 0, 0, 1], [0, 0, 0, 3, 0, 0, 0, 0, 0, 0, 0, 0, 0, 0, 99999, 100000]], ((0, 0), [])), (0, [2], [[0, 0, 1, 0, 0, 0, 0, 0, 0, 0, 0, 0, 99999, 100000, 0, 0, 0, 0, 1], [1, 0, 0, 0, 0, 0, 0, 0, 0, 0, 0, 0, 99999, 100000, 0, 0, 0, 0, 0, 1]], ((0, 0), [])), (0, [2], [[1, 0, 0, 0, 1, 0, 0, 0, 99999, 100000], [0, 1, 1, 0, 0, 0, 0, 0, 99999, 100000]], ((0, 0), []))]) (by decide +kernel)
theorem zx_gl320_ok {PT : Nat → zz_W → Prop} : zx_Lok 64 zHT PT (zu_Ln 63) := zu_Ln_ok (by decide +kernel)
theorem zx_gl321_ok {PT : Nat → zz_W → Prop} : zx_Lok 64 zHT PT (zu_Li 63 [((0, 0), [(0, 0, 1)])]) := zu_Li_ok (hs := [(0, [1], [[1]], ((0, 0), []))]) (by decide +kernel)
theorem zx_gl322_ok {PT : Nat → zz_W → Prop} : zx_Lok 64 zHT PT (zu_Lv 63 63 [((0, 0), [(0, 1, 0), (2, 0, 1)]), ((0, 0), [(0, 0, 1), (2, 1, 0)]), ((0, 3), [(1, 1, 0)]), ((3, 0), [(1, 0, 1)])]) := zu_Lv_ok (hs := [(2, [2, 0, 0], [[], []], ((0, 0), [])), (3, [], [], ((0, 0), [])), (0, [1], [[1, 0, 0, 1]], ((0, 0), [])), (0, [2], [[1, 1]], ((0, 0), [])), (0, [0], [[0, 1, 0, 0, 0, 0, 0, 0, 1]], ((0, 0), [])), (0, [0], [[0, 1, 0, 0, 0, 0, 0, 0, 1]], ((0, 0), [])), (0, [0], [[0, 1, 0, 0, 0, 0, 0, 0, 1]], ((0, 0), [])), (0, [0], [[0, 1, 0, 0, 0, 0, 0, 0, 1]], ((0, 0), [])), (0, [0], [[0, 1, 0, 0, 0, 0, 0, 0, 1]], ((0, 0), [])), (0, [0], [[0, 1, 0, 0, 0, 0, 0, 0, 1]], ((0, 0), [])), (0, [0], [[0, 1, 0, 0, 0, 0, 0, 0, 1]], ((0, 0), [])), (0, [0], [[0, 1, 0, 0, 0, 0, 0, 0, 1]], ((0, 0), [])), (0, [0], [[0, 1, 0, 0, 0, 0, 0, 0, 1]], ((0, 0), [])), (0, [0], [[0, 1, 0, 0, 0, 0, 0, 0, 1]], ((0, 0), [])), (0, [0], [[0, 1, 0, 0, 0, 0, 0, 0, 1]], ((0, 0), [])), (0, [0], [[0, 1, 0, 0, 0, 0, 0, 0, 1]], ((0, 0), [])), (0, [0], [[0, 1, 0, 0, 0, 0, 0, 0, 1]], ((0, 0), [])), (0, [0], [[0, 1, 0, 0, 0, 0, 0, 0, 1]], ((0, 0), []))]) (by decide +kernel)
theorem zx_gl323_ok {PT : Nat → zz_W → Prop} : zx_Lok 64 zHT PT (zu_Lv 63 63 [((0, 0), [(0, 1, 0), (2, 0, 1)]), ((0, 0), [(1, 1, 0), (3, 0, 1)]), ((0, 0), [(1, 0, 1), (3, 1, 0)])]) := zu_Lv_ok (hs := [(2, [2, 0, 0], [[], []], ((0, 0), [])), (3, [], [], ((0, 0), [])), (0, [1], [[1, 0, 0, 1]], ((0, 0), [])), (0, [2], [[1, 1]], ((0, 0), [])), (0, [3], [[], [0, 1, 0, 0, 0, 0, 0, 1], [0, 0, 1, 0, 0, 1], [0, 0, 0, 1, 1]], ((0, 0), [])), (0, [4], [[1, 0, 0, 0, 0, 0, 0, 0, 1], [0, 1, 0, 0, 0, 0, 0, 1], [0, 0, 1, 0, 0, 1], [0, 0, 0, 1, 1]], ((0, 0), [])), (0, [5], [[1, 0, 0, 0, 0, 0, 0, 0, 1], [0, 1, 0, 0, 0, 0, 0, 1], [0, 0, 1, 0, 0, 1], [0, 0, 0, 1, 1]], ((0, 0), [])), (0, [6], [[1, 0, 0, 0, 0, 0, 0, 0, 1], [0, 1, 0, 0, 0, 0, 0, 1], [0, 0, 1, 0, 0, 1], [0, 0, 0, 1, 1]], ((0, 0), [])), (0, [7], [[1, 0, 0, 0, 0, 0, 0, 0, 1], [0, 1, 0, 0, 0, 0, 0, 1], [0, 0, 1, 0, 0, 1], [0, 0, 0, 1, 1]], ((0, 0), [])), (0, [8], [[1, 0, 0, 0, 0, 0, 0, 0, 1], [0, 1, 0, 0, 0, 0, 0, 1], [0, 0, 1, 0, 0, 1], [0, 0, 0, 1, 1]], ((0, 0), [])), (0, [9], [[1, 0, 0, 0, 0, 0, 0, 0, 1], [0, 1, 0, 0, 0, 0, 0, 1], [0, 0, 1, 0, 0, 1], [0, 0, 0, 1, 1]], ((0, 0), [])), (0, [10], [[1, 0, 0, 0, 0, 0, 0, 0, 1], [0, 1, 0, 0, 0, 0, 0, 1], [0, 0, 1, 0, 0, 1], [0, 0, 0, 1, 1]], ((0, 0), [])), (0, [11], [[1, 0, 0, 0, 0, 0, 0, 0, 1], [0, 1, 0, 0, 0, 0, 0, 1], [0, 0, 1, 0, 0, 1], [0, 0, 0, 1, 1]], ((0, 0), [])), (0, [12], [[1, 0, 0, 0, 0, 0, 0, 0, 1], [0, 1, 0, 0, 0, 0, 0, 1], [0, 0, 1, 0, 0, 1], [0, 0, 0, 1, 1]], ((0, 0), [])), (0, [13], [[1, 0, 0, 0, 0, 0, 0, 0, 1], [0, 1, 0, 0, 0, 0, 0, 1], [0, 0, 1, 0, 0, 1], [0, 0, 0, 1, 1]], ((0, 0), [])), (0, [14], [[1, 0, 0, 0, 0, 0, 0, 0, 1], [0, 1, 0, 0, 0, 0, 0, 1], [0, 0, 1, 0, 0, 1], [0, 0, 0, 1, 1]], ((0, 0), [])), (0, [15], [[1, 0, 0, 0, 0, 0, 0, 0, 1], [0, 1, 0, 0, 0, 0, 0, 1], [0, 0, 1, 0, 0, 1], [0, 0, 0, 1, 1]], ((0, 0), [])), (0, [16], [[1, 0, 0, 0, 0, 0, 0, 0, 1], [0, 1, 0, 0, 0, 0, 0, 1], [0, 0, 1, 0, 0, 1], [0, 0, 0, 1, 1]], ((0, 0), []))]) (by decide +kernel)
theorem zx_gl340_ok {PT : Nat → zz_W → Prop} : zx_Lok 64 zHT PT (zu_Li 69 [((0, 0), [(0, 0, 1)])]) := zu_Li_ok (hs := [(0, [1], [[1]], ((0, 0), []))]) (by decide +kernel)
theorem zx_gl341_ok {PT : Nat → zz_W → Prop} : zx_Lok 64 zHT PT (zu_Lx 69 69 [19] [((0, 1), [(0, 0, 1), (2, 1, 0)]), ((1, 0), [(0, 1, 0), (2, 0, 1)]), ((0, 0), [(1, 0, 1), (3, 1, 0)]), ((0, 0), [(0, 0, 3), (4, 1, 0)]), ((0, 0), [(0, 3, 0), (4, 0, 1)]), ((0, 3), [(5, 1, 0)])]) := zu_Lx_ok (hs := [(2, [2, 0, 0], [[], []], ((0, 0), [])), (2, [2, 1, 1], [[], []], ((0, 0), [])), (3, [], [], ((0, 0), [])), (1, [], [], ((0, 1), [(0, 0, 1), (6, 1, 0)])), (0, [1], [[1, 0, 0, 0, 0, 0, 0, 1]], ((0, 0), [])), (2, [2, 2, 0], [[3, 0, 0, 0, 0, 0, 0, 0, 0, 1], [0, 3, 0, 0, 0, 0, 0, 0, 0, 9999999, 10000000]], ((0, 0), [])), (0, [2], [[0, 1, 0, 0, 0, 0, 0, 0, 0, 0, 0, 0, 0, 1]], ((0, 0), [])), (0, [2], [[1, 0, 0, 0, 1]], ((0, 0), [])), (0, [3], [[1, 0, 0, 0, 0, 0, 0, 1], [0, 1, 0, 0, 0, 0, 1], [0, 0, 1, 0, 0, 1], [1000000, 1000000, 0, 1, 1, 0, 0, 0, 0, 0, 1]], ((0, 0), []))]) (by decide +kernel)
theorem zx_gl342_ok {PT : Nat → zz_W → Prop} : zx_Lok 64 zHT PT (zu_Lx 69 69 [19, 19] [((0, 1), [(0, 0, 1), (2, 1, 0)]), ((1, 0), [(0, 1, 0), (2, 0, 1)]), ((0, 0), [(1, 0, 1), (3, 1, 0)]), ((0, 0), [(0, 0, 3), (4, 1, 0)]), ((0, 0), [(0, 3, 0), (4, 0, 1)]), ((0, 2), [(0, 0, 3), (5, 1, 0)]), ((2, 0), [(0, 3, 0), (5, 0, 1)]), ((0, 2), [(6, 1, 0)]), ((2, 0), [(6, 0, 1)]), ((0, 0), [(7, 1, 0)]), ((0, 1), [(3, 1, 0), (7, 0, 1)])]) := zu_Lx_ok (hs := [(2, [2, 0, 0], [[], []], ((0, 0), [])), (2, [2, 1, 1], [[], []], ((0, 0), [])), (3, [], [], ((0, 0), [])), (1, [], [], ((0, 1), [(0, 0, 1), (8, 1, 0)])), (0, [1], [[1, 0, 0, 0, 0, 0, 0, 1]], ((0, 0), [])), (2, [2, 2, 0], [[3, 0, 0, 0, 0, 0, 0, 0, 0, 1, 0, 0, 0, 1000000, 1000000], [0, 3, 0, 0, 0, 0, 0, 0, 0, 9999999, 10000000, 0, 0, 1000000, 1000000]], ((0, 0), [])), (2, [2, 3, 1], [[0, 0, 3, 0, 0, 0, 0, 0, 0, 0, 0, 0, 0, 1, 0, 1000000, 1000000], [0, 0, 0, 3, 0, 0, 0, 0, 0, 0, 0, 0, 0, 9999999, 10000000, 1000000, 1000000]], ((0, 0), [])), (0, [3], [[0, 0, 0, 1, 0, 0, 0, 0, 0, 0, 0, 0, 0, 0, 0, 0, 0, 1], [0, 0, 1, 0, 0, 0, 0, 0, 0, 0, 0, 0, 0, 0, 0, 0, 0, 0, 1], [0, 1, 0, 0, 0, 0, 0, 0, 0, 0, 0, 0, 0, 0, 0, 0, 0, 0, 0, 1], [1, 0, 0, 0, 0, 0, 0, 0, 0, 0, 0, 0, 0, 0, 0, 0, 0, 0, 0, 0, 1]], ((0, 0), [])), (0, [2], [[1, 0, 0, 0, 1]], ((0, 0), [])), (0, [3], [[1, 0, 0, 0, 0, 0, 0, 1], [0, 1, 0, 0, 0, 0, 1], [0, 0, 1, 0, 0, 1], [1000000, 1000000, 0, 1, 1, 0, 0, 0, 0, 0, 1, 0, 0, 0, 0, 1000000, 1000000]], ((0, 0), []))]) (by decide +kernel)
theorem zx_gl343_ok {PT : Nat → zz_W → Prop} : zx_Lok 64 zHT PT (zu_Lx 69 68 [19] [((0, 0), [(0, 0, 1), (2, 1, 0)]), ((0, 0), [(0, 1, 0), (2, 0, 1)]), ((0, 0), [(1, 0, 1), (3, 1, 0)]), ((0, 0), [(1, 1, 0), (3, 0, 1)]), ((0, 0), [(0, 0, 3), (4, 1, 0)]), ((0, 0), [(0, 3, 0), (4, 0, 1)]), ((1, 0), [(5, 0, 1)])]) := zu_Lx_ok (hs := [(2, [2, 0, 0], [[], []], ((0, 0), [])), (2, [2, 1, 1], [[], []], ((0, 0), [])), (3, [], [], ((0, 0), [])), (1, [], [], ((0, 1), [(0, 0, 1), (6, 1, 0)])), (0, [1], [[1, 0, 0, 0, 0, 0, 0, 1]], ((0, 0), [])), (2, [2, 2, 0], [[3, 0, 0, 0, 0, 0, 0, 0, 0, 0, 1], [0, 3, 0, 0, 0, 0, 0, 0, 0, 0, 9999999, 10000000]], ((0, 0), [])), (0, [2], [[0, 0, 0, 1, 0, 0, 0, 0, 0, 1], [0, 0, 1, 0, 0, 0, 0, 0, 1], [1, 0, 0, 0, 0, 0, 0, 0, 0, 0, 0, 0, 0, 0, 1]], ((0, 0), [])), (1, [], [], ((0, 1), [(0, 0, 1), (6, 1, 0)])), (0, [1], [[1, 0, 0, 0, 0, 0, 0, 1]], ((0, 0), [])), (1, [], [], ((0, 0), [(0, 0, 1), (6, 1, 0)])), (2, [2, 2, 0], [[0, 3, 0, 0, 0, 0, 0, 0, 0, 0, 0, 1], [3, 0, 0, 0, 0, 0, 0, 0, 0, 0, 0, 9999999, 10000000]], ((0, 0), [])), (0, [0], [[1, 0, 0, 0, 1, 0, 0, 0, 1, 0, 0, 0, 0, 0, 0, 1]], ((0, 0), [])), (0, [3], [[1, 0, 0, 0, 0, 0, 0, 1], [0, 0, 1, 0, 0, 0, 1]], ((0, 0), [])), (1, [], [], ((0, 1), [(0, 0, 1), (6, 1, 0)])), (0, [1], [[1, 0, 0, 0, 0, 0, 0, 0, 0, 0, 1]], ((0, 0), [])), (1, [], [], ((0, 0), [(0, 0, 1), (6, 1, 0)])), (2, [2, 2, 0], [[0, 3, 1000000, 1000000, 0, 0, 0, 0, 0, 0, 0, 0, 0, 0, 1], [3, 0, 1000000, 1000000, 0, 0, 0, 0, 0, 0, 0, 0, 0, 0, 9999999, 10000000]], ((0, 0), [])), (0, [0], [[1, 0, 0, 0, 1, 0, 0, 0, 0, 0, 0, 1, 0, 0, 0, 0, 0, 0, 1]], ((0, 0), [])), (0, [4], [[1, 0, 0, 0, 0, 0, 0, 0, 0, 0, 1], [0, 0, 1, 0, 0, 0, 0, 0, 0, 1], [0, 0, 0, 1, 0, 0, 0, 0, 1], [0, 0, 0, 0, 1, 0, 0, 1], [0, 0, 1000000, 1000000, 0, 1, 1, 0, 0, 0, 0, 0, 1]], ((0, 0), []))]) (by decide +kernel)
theorem zx_gl344_ok {PT : Nat → zz_W → Prop} : zx_Lok 64 zHT PT (zu_Ln 68) := zu_Ln_ok (by decide +kernel)
theorem zx_gl345_ok {PT : Nat → zz_W → Prop} : zx_Lok 64 zHT PT (zu_Lv 69 69 [((0, 0), [(0, 1, 0), (2, 0, 1)]), ((0, 0), [(0, 0, 1), (2, 1, 0)]), ((0, 0), [(1, 0, 1), (3, 1, 0)])]) := zu_Lv_ok (hs := [(2, [2, 0, 0], [[], []], ((0, 0), [])), (2, [2, 1, 1], [[], []], ((0, 0), [])), (3, [], [], ((0, 0), [])), (0, [1], [[1, 0, 0, 0, 0, 1]], ((0, 0), [])), (0, [2], [[1, 0, 0, 0, 1]], ((0, 0), [])), (0, [3], [[1, 0, 0, 0, 0, 0, 0, 1], [0, 1, 0, 0, 0, 0, 1], [0, 0, 1, 0, 0, 1], [1000000, 1000000, 0, 1, 1, 0, 0, 0, 0, 0, 1]], ((0, 0), []))]) (by decide +kernel)
theorem zx_gl346_ok {PT : Nat → zz_W → Prop} : zx_Lok 64 zHT PT (zu_Ln 62) := zu_Ln_ok (by decide +kernel)
theorem zx_gl347_ok {PT : Nat → zz_W → Prop} : zx_Lok 64 zHT PT (zu_Li 62 [((0, 0), [(0, 0, 1)])]) := zu_Li_ok (hs := [(0, [1], [[1]], ((0, 0), []))]) (by decide +kernel)
theorem zx_gl348_ok {PT : Nat → zz_W → Prop} : zx_Lok 64 zHT PT (zu_Lv 62 62 [((0, 0), [(0, 1, 0), (1, 0, 1)])]) := zu_Lv_ok (hs := [(2, [2, 0, 0], [[], []], ((0, 0), [])), (2, [2, 1, 1], [[], []], ((0, 0), [])), (3, [], [], ((0, 0), [])), (0, [1], [[1, 0, 0, 0, 0, 1]], ((0, 0), [])), (0, [2], [[1, 0, 0, 0, 0, 1], [0, 1, 0, 0, 1], [0, 0, 1, 1]], ((0, 0), []))]) (by decide +kernel)
theorem zx_gl349_ok {PT : Nat → zz_W → Prop} : zx_Lok 64 zHT PT (zu_Lx 62 62 [7, 9] [((0, 1), [(0, 0, 1), (1, 1, 0)]), ((1, 0), [(0, 1, 0), (1, 0, 1)]), ((0, 0), [(0, 0, 1), (2, 1, 0)]), ((0, 0), [(0, 1, 0), (2, 0, 1)]), ((0, 0), [(0, 0, 1), (3, 1, 0)]), ((0, 0), [(0, 1, 0), (3, 0, 1)]), ((511, 0), [(4, 0, 1)]), ((0, 0), [(5, 1, 0)]), ((750, 0), [(5, 0, 1)])]) := zu_Lx_ok (hs := [(2, [2, 0, 0], [[], []], ((0, 0), [])), (2, [2, 1, 1], [[], []], ((0, 0), [])), (3, [], [], ((0, 0), [])), (1, [], [], ((0, 1), [(0, 0, 1), (6, 1, 0)])), (0, [1], [[1, 0, 0, 0, 0, 0, 0, 1]], ((0, 0), [])), (2, [2, 2, 0], [[1, 0, 0, 0, 0, 0, 0, 0, 1], [0, 1, 0, 0, 0, 0, 0, 0, 0, 1]], ((0, 0), [])), (2, [2, 3, 1], [[0, 0, 1, 0, 0, 0, 0, 0, 0, 0, 0, 0, 1], [0, 0, 0, 1, 0, 0, 0, 0, 0, 0, 0, 0, 0, 1]], ((0, 0), [])), (0, [2], [[0, 0, 1, 0, 0, 0, 0, 0, 0, 0, 0, 0, 0, 0, 0, 0, 1], [0, 1, 0, 0, 0, 0, 0, 0, 0, 0, 0, 0, 0, 0, 0, 0, 0, 1], [1, 0, 0, 0, 0, 0, 0, 0, 0, 0, 0, 0, 0, 0, 0, 0, 0, 0, 1]], ((0, 0), [])), (0, [2], [[1, 0, 0, 0, 0, 1], [0, 1, 0, 0, 1], [0, 0, 1, 1]], ((0, 0), []))]) (by decide +kernel)
theorem zx_gl350_ok {PT : Nat → zz_W → Prop} : zx_Lok 64 zHT PT (zu_Li 72 [((0, 0), [(0, 0, 1)])]) := zu_Li_ok (hs := [(0, [1], [[1]], ((0, 0), []))]) (by decide +kernel)
theorem zx_gl352_ok {PT : Nat → zz_W → Prop} : zx_Lok 64 zHT PT (zu_Ln 72) := zu_Ln_ok (by decide +kernel)
theorem zx_gl351_ok {PT : Nat → zz_W → Prop} : zx_Lok 64 zHT PT (zu_Lx 72 72 [20] [((0, 1), [(0, 0, 1), (2, 1, 0)]), ((1, 0), [(0, 1, 0), (2, 0, 1)]), ((0, 0), [(1, 1, 0), (3, 0, 1)]), ((0, 0), [(1, 0, 1), (3, 1, 0)]), ((0, 0), [(0, 0, 6), (4, 1, 0)]), ((0, 0), [(0, 6, 0), (4, 0, 1)]), ((0, 1), [(1, 1, 0), (5, 0, 1)])]) := zu_Lx_ok (hs := [(2, [2, 0, 0], [[], []], ((0, 0), [])), (3, [], [], ((0, 0), [])), (1, [], [], ((0, 1), [(0, 0, 1), (6, 1, 0)])), (0, [1], [[1, 0, 0, 0, 0, 1]], ((0, 0), [])), (2, [2, 1, 0], [[6, 0, 0, 0, 0, 0, 0, 0, 1], [0, 6, 0, 0, 0, 0, 0, 0, 9999999, 10000000]], ((0, 0), [])), (0, [2], [[1, 0, 0, 0, 0, 0, 0, 0, 9999999, 10000000, 0, 0, 1]], ((0, 0), [])), (0, [2], [[1, 1, 0, 0, 0, 9999999, 10000000]], ((0, 0), []))]) (by decide +kernel)
theorem zx_gl360_ok {PT : Nat → zz_W → Prop} : zx_Lok 64 zHT PT (zu_Li 74 [((0, 0), [(0, 0, 1)])]) := zu_Li_ok (hs := [(0, [1], [[1]], ((0, 0), []))]) (by decide +kernel)
theorem zx_gl361_ok {PT : Nat → zz_W → Prop} : zx_Lok 64 zHT PT (zu_Ln 73) := zu_Ln_ok (by decide +kernel)
theorem zx_gl362_ok {PT : Nat → zz_W → Prop} : zx_Lok 64 zHT PT (zu_Lx 74 74 [41, 42] [((0, 1), [(0, 0, 1), (1, 1, 0)]), ((1, 0), [(0, 1, 0), (1, 0, 1)]), ((0, 0), [(0, 0, 1), (2, 1, 0)]), ((0, 0), [(0, 1, 0), (2, 0, 1)]), ((0, 0), [(0, 0, 1), (3, 1, 0)]), ((0, 0), [(0, 1, 0), (3, 0, 1)]), ((0, 2), [(4, 1, 0)]), ((2, 0), [(4, 0, 1)]), ((1, 0), [(5, 1, 0)]), ((3999, 0), [(5, 0, 1)])]) := zu_Lx_ok (hs := [(2, [2, 0, 0], [[], []], ((0, 0), [])), (2, [2, 1, 1], [[], []], ((0, 0), [])), (3, [], [], ((0, 0), [])), (1, [], [], ((0, 1), [(0, 0, 1), (6, 1, 0)])), (0, [1], [[1, 0, 0, 0, 0, 0, 0, 1]], ((0, 0), [])), (2, [2, 2, 0], [[1, 0, 0, 0, 0, 0, 0, 0, 1], [0, 1, 0, 0, 0, 0, 0, 0, 0, 1]], ((0, 0), [])), (2, [2, 3, 1], [[0, 0, 1, 0, 0, 0, 0, 0, 0, 0, 0, 0, 1], [0, 0, 0, 1, 0, 0, 0, 0, 0, 0, 0, 0, 0, 1]], ((0, 0), [])), (0, [2], [[0, 0, 0, 1, 0, 0, 0, 0, 0, 0, 0, 0, 0, 0, 0, 0, 1], [0, 0, 1, 0, 0, 0, 0, 0, 0, 0, 0, 0, 0, 0, 0, 0, 0, 1], [0, 1, 0, 0, 0, 0, 0, 0, 0, 0, 0, 0, 0, 0, 0, 0, 0, 0, 1], [1, 0, 0, 0, 0, 0, 0, 0, 0, 0, 0, 0, 0, 0, 0, 0, 0, 0, 0, 1]], ((0, 0), [])), (0, [2], [[1, 0, 0, 0, 0, 0, 0, 1], [0, 1, 0, 0, 0, 0, 1], [0, 0, 1, 0, 0, 1], [0, 0, 0, 1, 1]], ((0, 0), [])), (0, [3], [[1, 0, 0, 0, 0, 1], [0, 1, 0, 0, 1]], ((0, 0), [])), (0, [4], [[1, 0, 0, 0, 0, 0, 0, 1], [0, 1, 0, 0, 0, 0, 1], [0, 0, 1, 0, 0, 1], [0, 0, 0, 1, 1]], ((0, 0), [])), (0, [5], [[1, 0, 0, 0, 1]], ((0, 0), []))]) (by decide +kernel)
theorem zx_gl363_ok {PT : Nat → zz_W → Prop} : zx_Lok 64 zHT PT (zu_Lx 74 74 [41, 42] [((0, 1), [(0, 0, 1), (1, 1, 0)]), ((1, 0), [(0, 1, 0), (1, 0, 1)]), ((0, 0), [(0, 0, 1), (2, 1, 0)]), ((0, 0), [(0, 1, 0), (2, 0, 1)]), ((0, 0), [(0, 0, 1), (3, 1, 0)]), ((0, 0), [(0, 1, 0), (3, 0, 1)]), ((0, 3), [(4, 1, 0)]), ((3, 0), [(4, 0, 1)])]) := zu_Lx_ok (hs := [(2, [2, 0, 0], [[], []], ((0, 0), [])), (2, [2, 1, 1], [[], []], ((0, 0), [])), (3, [], [], ((0, 0), [])), (1, [], [], ((0, 1), [(0, 0, 1), (6, 1, 0)])), (0, [1], [[1, 0, 0, 0, 0, 0, 0, 1]], ((0, 0), [])), (2, [2, 2, 0], [[1, 0, 0, 0, 0, 0, 0, 0, 1], [0, 1, 0, 0, 0, 0, 0, 0, 0, 1]], ((0, 0), [])), (0, [3], [[0, 1, 0, 0, 0, 0, 0, 0, 0, 0, 0, 0, 0, 0, 1], [1, 0, 0, 0, 0, 0, 0, 0, 0, 0, 0, 0, 0, 0, 0, 1]], ((0, 0), [])), (0, [2], [[1, 0, 0, 0, 0, 0, 0, 1], [0, 1, 0, 0, 0, 0, 1], [0, 0, 1, 0, 0, 1], [0, 0, 0, 1, 1]], ((0, 0), [])), (0, [3], [[1, 0, 0, 0, 0, 1], [0, 1, 0, 0, 1]], ((0, 0), [])), (0, [4], [[1, 0, 0, 0, 0, 0, 0, 1], [0, 1, 0, 0, 0, 0, 1], [0, 0, 1, 0, 0, 1], [0, 0, 0, 1, 1]], ((0, 0), [])), (0, [5], [[1, 0, 0, 0, 1]], ((0, 0), []))]) (by decide +kernel)
theorem zx_gl364_ok {PT : Nat → zz_W → Prop} : zx_Lok 64 zHT PT (zu_Lx 74 74 [41, 42] [((0, 1), [(0, 0, 1), (1, 1, 0)]), ((1, 0), [(0, 1, 0), (1, 0, 1)]), ((0, 0), [(0, 0, 1), (2, 1, 0)]), ((0, 0), [(0, 1, 0), (2, 0, 1)]), ((0, 0), [(0, 0, 1), (3, 1, 0)]), ((0, 0), [(0, 1, 0), (3, 0, 1)]), ((0, 4), [(4, 1, 0)]), ((5, 0), [(4, 0, 1)]), ((0, 0), [(5, 1, 0)]), ((9, 0), [(5, 0, 1)])]) := zu_Lx_ok (hs := [(2, [2, 0, 0], [[], []], ((0, 0), [])), (2, [2, 1, 1], [[], []], ((0, 0), [])), (3, [], [], ((0, 0), [])), (1, [], [], ((0, 1), [(0, 0, 1), (6, 1, 0)])), (0, [1], [[1, 0, 0, 0, 0, 0, 0, 1]], ((0, 0), [])), (2, [2, 2, 0], [[1, 0, 0, 0, 0, 0, 0, 0, 1], [0, 1, 0, 0, 0, 0, 0, 0, 0, 1]], ((0, 0), [])), (2, [2, 3, 1], [[0, 0, 1, 0, 0, 0, 0, 0, 0, 0, 0, 0, 1], [0, 0, 0, 1, 0, 0, 0, 0, 0, 0, 0, 0, 0, 1]], ((0, 0), [])), (0, [4], [[0, 0, 0, 1, 0, 0, 0, 0, 0, 0, 0, 0, 0, 0, 0, 0, 1], [0, 0, 1, 0, 0, 0, 0, 0, 0, 0, 0, 0, 0, 0, 0, 0, 0, 1], [0, 1, 0, 0, 0, 0, 0, 0, 0, 0, 0, 0, 0, 0, 0, 0, 0, 0, 1], [1, 0, 0, 0, 0, 0, 0, 0, 0, 0, 0, 0, 0, 0, 0, 0, 0, 0, 0, 1]], ((0, 0), [])), (0, [2], [[1, 0, 0, 0, 0, 0, 0, 1], [0, 1, 0, 0, 0, 0, 1], [0, 0, 1, 0, 0, 1], [0, 0, 0, 1, 1]], ((0, 0), [])), (0, [3], [[1, 0, 0, 0, 0, 1], [0, 1, 0, 0, 1]], ((0, 0), [])), (0, [4], [[1, 0, 0, 0, 0, 0, 0, 1], [0, 1, 0, 0, 0, 0, 1], [0, 0, 1, 0, 0, 1], [0, 0, 0, 1, 1]], ((0, 0), [])), (0, [5], [[1, 0, 0, 0, 1]], ((0, 0), []))]) (by decide +kernel)
theorem zx_gl365_ok {PT : Nat → zz_W → Prop} : zx_Lok 64 zHT PT (zu_Lx 74 74 [41, 42] [((0, 1), [(0, 0, 1), (1, 1, 0)]), ((1, 0), [(0, 1, 0), (1, 0, 1)]), ((0, 0), [(0, 0, 1), (2, 1, 0)]), ((0, 0), [(0, 1, 0), (2, 0, 1)]), ((0, 0), [(0, 0, 1), (3, 1, 0)]), ((0, 0), [(0, 1, 0), (3, 0, 1)]), ((0, 6), [(4, 1, 0)])]) := zu_Lx_ok (hs := [(2, [2, 0, 0], [[], []], ((0, 0), [])), (2, [2, 1, 1], [[], []], ((0, 0), [])), (3, [], [], ((0, 0), [])), (1, [], [], ((0, 1), [(0, 0, 1), (6, 1, 0)])), (0, [1], [[1, 0, 0, 0, 0, 0, 0, 1]], ((0, 0), [])), (2, [2, 2, 0], [[1, 0, 0, 0, 0, 0, 0, 0, 1], [0, 1, 0, 0, 0, 0, 0, 0, 0, 1]], ((0, 0), [])), (0, [5], [[0, 1, 0, 0, 0, 0, 0, 0, 0, 0, 0, 0, 0, 0, 1]], ((0, 0), [])), (0, [2], [[1, 0, 0, 0, 0, 0, 0, 1], [0, 1, 0, 0, 0, 0, 1], [0, 0, 1, 0, 0, 1], [0, 0, 0, 1, 1]], ((0, 0), [])), (0, [3], [[1, 0, 0, 0, 0, 1], [0, 1, 0, 0, 1]], ((0, 0), [])), (0, [4], [[1, 0, 0, 0, 0, 0, 0, 1], [0, 1, 0, 0, 0, 0, 1], [0, 0, 1, 0, 0, 1], [0, 0, 0, 1, 1]], ((0, 0), [])), (0, [5], [[1, 0, 0, 0, 1]], ((0, 0), []))]) (by decide +kernel)
theorem zx_gl366_ok {PT : Nat → zz_W → Prop} : zx_Lok 64 zHT PT (zu_Lx 74 73 [41] [((0, 0), [(0, 0, 1), (1, 1, 0)]), ((0, 0), [(0, 1, 0), (1, 0, 1)]), ((0, 0), [(0, 0, 1), (2, 1, 0)]), ((0, 0), [(0, 1, 0), (2, 0, 1)]), ((1, 0), [(3, 0, 1)])]) := zu_Lx_ok (hs := [(2, [2, 0, 0], [[], []], ((0, 0), [])), (2, [2, 1, 1], [[], []], ((0, 0), [])), (3, [], [], ((0, 0), [])), (1, [], [], ((0, 1), [(0, 0, 1), (4, 1, 0)])), (0, [1], [[1, 0, 0, 0, 0, 0, 0, 1]], ((0, 0), [])), (2, [2, 2, 0], [[1, 0, 0, 0, 0, 0, 0, 0, 1], [0, 1, 0, 0, 0, 0, 0, 0, 0, 1]], ((0, 0), [])), (0, [2], [[0, 0, 0, 1, 0, 0, 0, 0, 0, 1], [0, 0, 1, 0, 0, 0, 0, 0, 1], [1, 0, 0, 0, 0, 0, 0, 0, 0, 0, 0, 0, 1]], ((0, 0), [])), (1, [], [], ((0, 1), [(0, 0, 1), (4, 1, 0)])), (0, [1], [[1, 0, 0, 0, 0, 0, 0, 0, 0, 0, 1]], ((0, 0), [])), (1, [], [], ((0, 0), [(0, 0, 1), (4, 1, 0)])), (2, [2, 2, 0], [[0, 1, 0, 0, 0, 0, 0, 0, 0, 0, 0, 0, 1], [1, 0, 0, 0, 0, 0, 0, 0, 0, 0, 0, 0, 0, 1]], ((0, 0), [])), (0, [0], [[1, 0, 0, 0, 1, 0, 0, 0, 0, 0, 0, 1, 0, 0, 0, 0, 1]], ((0, 0), [])), (0, [3], [[1, 0, 0, 0, 0, 0, 0, 0, 0, 0, 1], [0, 0, 1, 0, 0, 0, 0, 0, 0, 1], [0, 0, 0, 1, 0, 0, 0, 0, 1], [0, 0, 0, 0, 1, 0, 0, 1], [0, 0, 0, 0, 0, 1, 1]], ((0, 0), [])), (1, [], [], ((0, 1), [(0, 0, 1), (4, 1, 0)])), (0, [1], [[1, 0, 0, 0, 0, 0, 0, 0, 1]], ((0, 0), [])), (1, [], [], ((0, 0), [(0, 0, 1), (4, 1, 0)])), (2, [2, 2, 0], [[0, 1, 0, 0, 0, 0, 0, 0, 0, 0, 1], [1, 0, 0, 0, 0, 0, 0, 0, 0, 0, 0, 1]], ((0, 0), [])), (0, [0], [[1, 0, 0, 0, 1, 0, 0, 0, 0, 1, 0, 0, 0, 0, 1]], ((0, 0), [])), (0, [4], [[1, 0, 0, 0, 0, 0, 0, 0, 1], [0, 0, 1, 0, 0, 0, 0, 1], [0, 0, 0, 1, 0, 0, 1]], ((0, 0), [])), (1, [], [], ((0, 1), [(0, 0, 1), (4, 1, 0)])), (0, [1], [[1, 0, 0, 0, 0, 0, 0, 0, 0, 0, 1]], ((0, 0), [])), (1, [], [], ((0, 0), [(0, 0, 1), (4, 1, 0)])), (2, [2, 2, 0], [[0, 1, 0, 0, 0, 0, 0, 0, 0, 0, 0, 0, 1], [1, 0, 0, 0, 0, 0, 0, 0, 0, 0, 0, 0, 0, 1]], ((0, 0), [])), (0, [0], [[1, 0, 0, 0, 1, 0, 0, 0, 0, 0, 0, 1, 0, 0, 0, 0, 1]], ((0, 0), [])), (0, [5], [[1, 0, 0, 0, 0, 0, 0, 0, 0, 0, 1], [0, 0, 1, 0, 0, 0, 0, 0, 0, 1], [0, 0, 0, 1, 0, 0, 0, 0, 1], [0, 0, 0, 0, 1, 0, 0, 1], [0, 0, 0, 0, 0, 1, 1]], ((0, 0), [])), (1, [], [], ((0, 1), [(0, 0, 1), (4, 1, 0)])), (0, [1], [[1, 0, 0, 0, 0, 0, 0, 1]], ((0, 0), [])), (1, [], [], ((0, 0), [(0, 0, 1), (4, 1, 0)])), (2, [2, 2, 0], [[0, 1, 0, 0, 0, 0, 0, 0, 0, 1], [1, 0, 0, 0, 0, 0, 0, 0, 0, 0, 1]], ((0, 0), [])), (0, [0], [[1, 0, 0, 0, 1, 0, 0, 0, 1, 0, 0, 0, 0, 1]], ((0, 0), [])), (0, [6], [[1, 0, 0, 0, 0, 0, 0, 1], [0, 0, 1, 0, 0, 0, 1]], ((0, 0), []))]) (by decide +kernel)
theorem zx_gl367_ok {PT : Nat → zz_W → Prop} : zx_Lok 64 zHT PT (zu_Li 75 [((0, 0), [(0, 0, 1)])]) := zu_Li_ok (hs := [(0, [1], [[1]], ((0, 0), []))]) (by decide +kernel)
theorem zx_gl368_ok {PT : Nat → zz_W → Prop} : zx_Lok 64 zHT PT (zu_Ln 75) := zu_Ln_ok (by decide +kernel)
theorem zx_gl371_ok {PT : Nat → zz_W → Prop} : zx_Lok 64 zHT PT (zu_Lv 75 75 [((0, 0), [(0, 1, 0), (1, 0, 1)]), ((0, 0), [(0, 0, 1), (1, 1, 0)])]) := zu_Lv_ok (hs := [(2, [2, 0, 0], [[], []], ((0, 0), [])), (2, [2, 1, 1], [[], []], ((0, 0), [])), (3, [], [], ((0, 0), [])), (0, [1], [[1, 0, 0, 0, 0, 1]], ((0, 0), [])), (0, [2], [[1, 0, 0, 0, 0, 0, 1]], ((0, 0), [])), (0, [3], [[1, 0, 0, 0, 0, 1], [0, 1, 0, 0, 1]], ((0, 0), [])), (0, [4], [[1, 0, 0, 0, 0, 0, 0, 1], [0, 1, 0, 0, 0, 0, 1], [0, 0, 1, 0, 0, 1], [0, 0, 0, 1, 1]], ((0, 0), []))]) (by decide +kernel)
theorem zx_gl369_ok {PT : Nat → zz_W → Prop} : zx_Lok 64 zHT PT (zu_Lx 73 75 [41, 42] [((0, 0), [(2, 1, 0), (3, 0, 1)]), ((0, 0), [(2, 0, 1), (3, 1, 0)]), ((0, 1), [(1, 1, 0), (2, 0, 1)]), ((1, 0), [(1, 0, 1), (2, 1, 0)]), ((0, 2), [(4, 1, 0)]), ((2, 0), [(4, 0, 1)])]) := zu_Lx_ok (hs := [(2, [2, 0, 0], [[], []], ((0, 0), [])), (2, [2, 1, 1], [[], []], ((0, 0), [])), (3, [], [], ((0, 0), [])), (1, [], [], ((0, 1), [(2, 0, 1), (6, 1, 0)])), (0, [1], [[1, 0, 0, 0, 0, 0, 0, 0, 0, 1]], ((0, 0), [])), (1, [], [], ((0, 1), [(2, 1, 0), (6, 0, 1)])), (0, [2], [[1, 0, 0, 0, 0, 0, 0, 0, 0, 1]], ((0, 0), [])), (2, [2, 2, 0], [[0, 1], [1]], ((0, 0), [])), (0, [3], [[0, 1, 0, 0, 0, 0, 0, 0, 0, 0, 0, 0, 0, 1], [1, 0, 0, 0, 0, 0, 0, 0, 0, 0, 0, 0, 0, 0, 1]], ((0, 0), [])), (1, [], [], ((0, 1), [(2, 0, 1), (6, 1, 0)])), (0, [1], [[1, 0, 0, 0, 0, 0, 0, 0, 0, 0, 0, 1]], ((0, 0), [])), (1, [], [], ((0, 1), [(2, 1, 0), (6, 0, 1)])), (0, [2], [[1, 0, 0, 0, 0, 0, 0, 0, 0, 0, 0, 1]], ((0, 0), [])), (2, [2, 2, 0], [[0, 1], [1]], ((0, 0), [])), (0, [0], [[0, 1, 0, 0, 0, 0, 1, 0, 0, 1, 0, 0, 0, 0, 0, 1]], ((0, 0), [])), (0, [3], [[0, 1, 0, 0, 0, 0, 0, 0, 1], [0, 0, 1, 0, 0, 0, 0, 1]], ((0, 0), [])), (1, [], [], ((0, 1), [(2, 0, 1), (6, 1, 0)])), (0, [1], [[1, 0, 0, 0, 0, 0, 0, 0, 0, 0, 0, 1]], ((0, 0), [])), (1, [], [], ((0, 1), [(2, 1, 0), (6, 0, 1)])), (0, [2], [[1, 0, 0, 0, 0, 0, 0, 0, 0, 0, 0, 1]], ((0, 0), [])), (2, [2, 2, 0], [[0, 1], [1]], ((0, 0), [])), (0, [0], [[1, 0, 0, 0, 0, 1, 0, 0, 0, 0, 1, 0, 0, 0, 0, 0, 1]], ((0, 0), [])), (0, [4], [[0, 1, 0, 0, 0, 0, 0, 0, 1], [0, 0, 1, 0, 0, 0, 0, 1], [0, 0, 0, 1, 0, 0, 1], [0, 0, 0, 0, 1, 1]], ((0, 0), [])), (1, [], [], ((0, 1), [(2, 0, 1), (6, 1, 0)])), (0, [1], [[1, 0, 0, 0, 0, 0, 0, 0, 0, 0, 1]], ((0, 0), [])), (1, [], [], ((0, 1), [(2, 1, 0), (6, 0, 1)])), (0, [2], [[1, 0, 0, 0, 0, 0, 0, 0, 0, 0, 1]], ((0, 0), [])), (2, [2, 2, 0], [[0, 1], [1]], ((0, 0), [])), (0, [0], [[1, 0, 0, 0, 0, 1, 0, 0, 0, 1, 0, 0, 0, 0, 0, 1]], ((0, 0), []))]) (by decide +kernel)
theorem zx_gl370_ok {PT : Nat → zz_W → Prop} : zx_Lok 64 zHT PT (zu_Lx 73 75 [41, 42] [((0, 0), [(2, 1, 0), (3, 0, 1)]), ((0, 0), [(2, 0, 1), (3, 1, 0)]), ((0, 1), [(1, 1, 0), (2, 0, 1)]), ((1, 0), [(1, 0, 1), (2, 1, 0)]), ((0, 4), [(4, 1, 0)]), ((5, 0), [(4, 0, 1)]), ((0, 0), [(5, 1, 0)]), ((9, 0), [(5, 0, 1)])]) := zu_Lx_ok (hs := [(2, [2, 0, 0], [[], []], ((0, 0), [])), (2, [2, 1, 1], [[], []], ((0, 0), [])), (3, [], [], ((0, 0), [])), (1, [], [], ((0, 1), [(2, 0, 1), (6, 1, 0)])), (0, [1], [[1, 0, 0, 0, 0, 0, 0, 0, 0, 1]], ((0, 0), [])), (1, [], [], ((0, 1), [(2, 1, 0), (6, 0, 1)])), (0, [2], [[1, 0, 0, 0, 0, 0, 0, 0, 0, 1]], ((0, 0), [])), (2, [2, 2, 0], [[0, 1], [1]], ((0, 0), [])), (2, [2, 3, 1], [[0, 0, 0, 1, 0, 0, 0, 0, 0, 0, 1], [0, 0, 1, 0, 0, 0, 0, 0, 0, 1]], ((0, 0), [])), (0, [4], [[0, 0, 0, 1, 0, 0, 0, 0, 0, 0, 0, 0, 0, 0, 0, 1], [0, 0, 1, 0, 0, 0, 0, 0, 0, 0, 0, 0, 0, 0, 0, 0, 1], [0, 1, 0, 0, 0, 0, 0, 0, 0, 0, 0, 0, 0, 0, 0, 0, 0, 1], [1, 0, 0, 0, 0, 0, 0, 0, 0, 0, 0, 0, 0, 0, 0, 0, 0, 0, 1]], ((0, 0), [])), (1, [], [], ((0, 1), [(2, 0, 1), (6, 1, 0)])), (0, [1], [[1, 0, 0, 0, 0, 0, 0, 0, 0, 0, 0, 1]], ((0, 0), [])), (1, [], [], ((0, 1), [(2, 1, 0), (6, 0, 1)])), (0, [2], [[1, 0, 0, 0, 0, 0, 0, 0, 0, 0, 0, 1]], ((0, 0), [])), (2, [2, 2, 0], [[0, 1], [1]], ((0, 0), [])), (0, [0], [[0, 1, 0, 0, 0, 0, 1, 0, 0, 1, 0, 0, 0, 0, 0, 1]], ((0, 0), [])), (0, [3], [[0, 1, 0, 0, 0, 0, 0, 0, 1], [0, 0, 1, 0, 0, 0, 0, 1]], ((0, 0), [])), (1, [], [], ((0, 1), [(2, 0, 1), (6, 1, 0)])), (0, [1], [[1, 0, 0, 0, 0, 0, 0, 0, 0, 0, 0, 1]], ((0, 0), [])), (1, [], [], ((0, 1), [(2, 1, 0), (6, 0, 1)])), (0, [2], [[1, 0, 0, 0, 0, 0, 0, 0, 0, 0, 0, 1]], ((0, 0), [])), (2, [2, 2, 0], [[0, 1], [1]], ((0, 0), [])), (0, [0], [[0, 1, 0, 0, 0, 0, 1, 0, 0, 1, 0, 0, 0, 0, 0, 1]], ((0, 0), [])), (0, [4], [[0, 1, 0, 0, 0, 0, 0, 0, 1], [0, 0, 1, 0, 0, 0, 0, 1], [0, 0, 0, 1, 0, 0, 1], [0, 0, 0, 0, 1, 1]], ((0, 0), [])), (1, [], [], ((0, 1), [(2, 0, 1), (6, 1, 0)])), (0, [1], [[1, 0, 0, 0, 0, 0, 0, 0, 0, 0, 1]], ((0, 0), [])), (1, [], [], ((0, 1), [(2, 1, 0), (6, 0, 1)])), (0, [2], [[1, 0, 0, 0, 0, 0, 0, 0, 0, 0, 1]], ((0, 0), [])), (2, [2, 2, 0], [[0, 1], [1]], ((0, 0), [])), (0, [0], [[1, 0, 0, 0, 0, 1, 0, 0, 0, 1, 0, 0, 0, 0, 0, 1]], ((0, 0), []))]) (by decide +kernel)
theorem zx_gl410_ok {PT : Nat → zz_W → Prop} : zx_Lok 64 zHT PT (zu_Ln 76) := zu_Ln_ok (by decide +kernel)
theorem zx_gl411_ok {PT : Nat → zz_W → Prop} : zx_Lok 64 zHT PT (zu_Li 76 [((0, 1), [(1, 1, 0)])]) := zu_Li_ok (hs := [(0, [2], [[1]], ((0, 0), []))]) (by decide +kernel)
theorem zx_gl412_ok {PT : Nat → zz_W → Prop} : zx_Lok 64 zHT PT (zu_Li 76 [((0, 0), [(0, 0, 1)])]) := zu_Li_ok (hs := [(0, [1], [[1]], ((0, 0), []))]) (by decide +kernel)
theorem zx_gl413_ok {PT : Nat → zz_W → Prop} : zx_Lok 64 zHT PT (zu_Lx 76 76 [62, 62] [((0, 1), [(0, 0, 1), (2, 1, 0)]), ((1, 0), [(0, 1, 0), (2, 0, 1)]), ((0, 0), [(1, 1, 0), (3, 0, 1)]), ((0, 0), [(1, 0, 1), (3, 1, 0)]), ((0, 0), [(0, 0, 6), (4, 1, 0)]), ((0, 0), [(0, 6, 0), (4, 0, 1)]), ((0, 2), [(0, 0, 6), (5, 1, 0)]), ((2, 0), [(0, 6, 0), (5, 0, 1)]), ((0, 1), [(6, 1, 0)]), ((7, 0), [(6, 0, 1)]), ((0, 0), [(7, 1, 0)]), ((400, 0), [(7, 0, 1)])]) := zu_Lx_ok (hs := [(2, [2, 0, 0], [[], []], ((0, 0), [])), (2, [2, 1, 1], [[], []], ((0, 0), [])), (3, [], [], ((0, 0), [])), (1, [], [], ((0, 1), [(0, 0, 1), (8, 1, 0)])), (0, [1], [[1, 0, 0, 0, 0, 0, 0, 1]], ((0, 0), [])), (2, [2, 2, 0], [[6, 0, 0, 0, 0, 0, 0, 0, 0, 0, 1], [0, 6, 0, 0, 0, 0, 0, 0, 0, 0, 9999999, 10000000]], ((0, 0), [])), (2, [2, 3, 1], [[0, 0, 6, 0, 0, 0, 0, 0, 0, 0, 0, 0, 0, 0, 1], [0, 0, 0, 6, 0, 0, 0, 0, 0, 0, 0, 0, 0, 0, 9999999, 10000000]], ((0, 0), [])), (0, [3], [[0, 0, 0, 1, 0, 0, 0, 0, 0, 0, 0, 0, 0, 0, 0, 0, 0, 0, 1], [0, 0, 1, 0, 0, 0, 0, 0, 0, 0, 0, 0, 0, 0, 0, 0, 0, 0, 0, 1], [0, 1, 0, 0, 0, 0, 0, 0, 0, 0, 0, 0, 0, 0, 0, 0, 0, 0, 0, 0, 1], [1, 0, 0, 0, 0, 0, 0, 0, 0, 0, 0, 0, 0, 0, 0, 0, 0, 0, 0, 0, 0, 1]], ((0, 0), [])), (0, [2], [[1, 0, 0, 0, 0, 0, 0, 0, 1]], ((0, 0), [])), (0, [3], [[1, 0, 0, 0, 0, 0, 0, 1], [0, 1, 0, 0, 0, 0, 1], [0, 0, 1, 0, 0, 1], [0, 0, 0, 1, 1]], ((0, 0), []))]) (by decide +kernel)
theorem zx_gl414_ok {PT : Nat → zz_W → Prop} : zx_Lok 64 zHT PT (zu_Ln 77) := zu_Ln_ok (by decide +kernel)
theorem zx_gl415_ok {PT : Nat → zz_W → Prop} : zx_Lok 64 zHT PT (zu_Li 77 [((0, 1), [(1, 1, 0)])]) := zu_Li_ok (hs := [(0, [2], [[1]], ((0, 0), []))]) (by decide +kernel)
theorem zx_gl416_ok {PT : Nat → zz_W → Prop} : zx_Lok 64 zHT PT (zu_Li 77 [((0, 0), [(0, 0, 1)])]) := zu_Li_ok (hs := [(0, [1], [[1]], ((0, 0), []))]) (by decide +kernel)
theorem zx_gl417_ok {PT : Nat → zz_W → Prop} : zx_Lok 64 zHT PT (zu_Lx 77 77 [20] [((0, 1), [(0, 0, 1), (2, 1, 0)]), ((1, 0), [(0, 1, 0), (2, 0, 1)]), ((0, 0), [(1, 1, 0), (3, 0, 1)]), ((0, 0), [(1, 0, 1), (3, 1, 0)]), ((0, 3), [(0, 0, 6), (4, 1, 0)]), ((3, 0), [(0, 6, 0), (4, 0, 1)]), ((0, 0), [(5, 1, 0)])]) := zu_Lx_ok (hs := [(2, [2, 0, 0], [[], []], ((0, 0), [])), (2, [2, 1, 1], [[], []], ((0, 0), [])), (3, [], [], ((0, 0), [])), (1, [], [], ((0, 1), [(0, 0, 1), (6, 1, 0)])), (0, [1], [[1, 0, 0, 0, 0, 0, 0, 1]], ((0, 0), [])), (2, [2, 2, 0], [[6, 0, 0, 0, 0, 0, 0, 0, 0, 0, 1], [0, 6, 0, 0, 0, 0, 0, 0, 0, 0, 9999999, 10000000]], ((0, 0), [])), (0, [3], [[0, 1, 0, 0, 0, 0, 0, 0, 0, 0, 0, 0, 0, 0, 1]], ((0, 0), [])), (0, [2], [[1, 0, 0, 0, 0, 0, 0, 0, 1]], ((0, 0), [])), (0, [3], [[1, 0, 0, 0, 1]], ((0, 0), [])), (0, [4], [[1, 0, 0, 1], [0, 1, 1]], ((0, 0), []))]) (by decide +kernel)
theorem zx_gl418_ok {PT : Nat → zz_W → Prop} : zx_Lok 64 zHT PT (zu_Lx 77 77 [20] [((0, 1), [(0, 0, 1), (2, 1, 0)]), ((1, 0), [(0, 1, 0), (2, 0, 1)]), ((0, 0), [(1, 1, 0), (3, 0, 1)]), ((0, 0), [(1, 0, 1), (3, 1, 0)]), ((0, 5), [(0, 0, 6), (4, 1, 0)]), ((5, 0), [(0, 6, 0), (4, 0, 1)]), ((0, 0), [(1, 4294967296, 0), (5, 1, 0)]), ((119, 0), [(1, 4294967296, 0), (5, 0, 1)])]) := zu_Lx_ok (hs := [(2, [2, 0, 0], [[], []], ((0, 0), [])), (2, [2, 1, 1], [[], []], ((0, 0), [])), (3, [], [], ((0, 0), [])), (1, [], [], ((0, 1), [(1, 1, 0)])), (0, [2], [[1, 0, 0, 0, 0, 0, 0, 0, 0, 1]], ((0, 0), [])), (1, [], [], ((0, 1), [(0, 0, 1), (6, 1, 0)])), (0, [1], [[1, 0, 0, 0, 0, 0, 0, 0, 1]], ((0, 0), [])), (2, [2, 2, 1], [[6, 1000000, 0, 0, 0, 0, 0, 0, 0, 1000000, 0, 1], [0, 1000000, 6, 0, 0, 0, 0, 0, 0, 1000000, 0, 9999999, 10000000]], ((0, 0), [])), (0, [4], [[0, 1, 0, 4294967296, 0, 0, 0, 0, 0, 0, 0, 0, 0, 0, 0, 1], [1, 0, 0, 4294967296, 0, 0, 0, 0, 0, 0, 0, 0, 0, 0, 0, 0, 1]], ((0, 0), [])), (0, [2], [[1, 0, 0, 0, 0, 0, 0, 0, 1]], ((0, 0), [])), (0, [3], [[1, 0, 0, 0, 1]], ((0, 0), [])), (0, [4], [[1, 0, 0, 1], [0, 1, 1]], ((0, 0), []))]) (by decide +kernel)
theorem zx_gl428_ok {PT : Nat → zz_W → Prop} : zx_Lok 64 zHT PT (zu_Lv 77 77 [((0, 0), [(0, 1, 0), (2, 0, 1)]), ((0, 0), [(1, 1, 0), (3, 0, 1)]), ((0, 0), [(1, 0, 1), (3, 1, 0)])]) := zu_Lv_ok (hs := [(2, [2, 0, 0], [[], []], ((0, 0), [])), (2, [2, 1, 1], [[], []], ((0, 0), [])), (3, [], [], ((0, 0), [])), (0, [1], [[1, 0, 0, 0, 0, 1]], ((0, 0), [])), (0, [2], [[1, 0, 0, 0, 0, 0, 0, 1]], ((0, 0), [])), (0, [3], [[1, 0, 0, 0, 1]], ((0, 0), [])), (0, [4], [[1, 0, 0, 1], [0, 1, 1]], ((0, 0), []))]) (by decide +kernel)
theorem zx_gl420_ok {PT : Nat → zz_W → Prop} : zx_Lok 64 zHT PT (zu_Ln 78) := zu_Ln_ok (by decide +kernel)
theorem zx_gl421_ok {PT : Nat → zz_W → Prop} : zx_Lok 64 zHT PT (zu_Li 78 [((0, 1), [(1, 1, 0)])]) := zu_Li_ok (hs := [(0, [2], [[1]], ((0, 0), []))]) (by decide +kernel)
theorem zx_gl422_ok {PT : Nat → zz_W → Prop} : zx_Lok 64 zHT PT (zu_Li 78 [((0, 0), [(0, 0, 1)])]) := zu_Li_ok (hs := [(0, [1], [[1]], ((0, 0), []))]) (by decide +kernel)
theorem zx_gl423_ok {PT : Nat → zz_W → Prop} : zx_Lok 64 zHT PT (zu_Lx 78 78 [7, 8] [((0, 1), [(0, 0, 1), (2, 1, 0)]), ((1, 0), [(0, 1, 0), (2, 0, 1)]), ((0, 0), [(1, 1, 0), (3, 0, 1)]), ((0, 0), [(1, 0, 1), (3, 1, 0)]), ((0, 0), [(0, 0, 1), (4, 1, 0)]), ((0, 0), [(0, 1, 0), (4, 0, 1)]), ((0, 0), [(0, 0, 1), (5, 1, 0)]), ((0, 0), [(0, 1, 0), (5, 0, 1)]), ((59, 0), [(6, 0, 1)]), ((0, 0), [(7, 1, 0)]), ((60, 0), [(7, 0, 1)])]) := zu_Lx_ok (hs := [(2, [2, 0, 0], [[], []], ((0, 0), [])), (2, [2, 1, 1], [[], []], ((0, 0), [])), (3, [], [], ((0, 0), [])), (1, [], [], ((0, 1), [(0, 0, 1), (8, 1, 0)])), (0, [1], [[1, 0, 0, 0, 0, 0, 0, 1]], ((0, 0), [])), (2, [2, 2, 0], [[1, 0, 0, 0, 0, 0, 0, 0, 0, 0, 1], [0, 1, 0, 0, 0, 0, 0, 0, 0, 0, 0, 1]], ((0, 0), [])), (2, [2, 3, 1], [[0, 0, 1, 0, 0, 0, 0, 0, 0, 0, 0, 0, 0, 0, 1], [0, 0, 0, 1, 0, 0, 0, 0, 0, 0, 0, 0, 0, 0, 0, 1]], ((0, 0), [])), (0, [3], [[0, 0, 1, 0, 0, 0, 0, 0, 0, 0, 0, 0, 0, 0, 0, 0, 0, 0, 1], [0, 1, 0, 0, 0, 0, 0, 0, 0, 0, 0, 0, 0, 0, 0, 0, 0, 0, 0, 1], [1, 0, 0, 0, 0, 0, 0, 0, 0, 0, 0, 0, 0, 0, 0, 0, 0, 0, 0, 0, 1]], ((0, 0), [])), (0, [2], [[1, 0, 0, 0, 0, 0, 0, 0, 1]], ((0, 0), [])), (0, [3], [[1, 0, 0, 0, 0, 1], [0, 1, 0, 0, 1], [0, 0, 1, 1]], ((0, 0), []))]) (by decide +kernel)
theorem zx_gl424_ok {PT : Nat → zz_W → Prop} : zx_Lok 64 zHT PT (zu_Lv 78 78 [((0, 0), [(0, 1, 0), (2, 0, 1)]), ((0, 0), [(1, 1, 0), (3, 0, 1)]), ((0, 0), [(1, 0, 1), (3, 1, 0)])]) := zu_Lv_ok (hs := [(2, [2, 0, 0], [[], []], ((0, 0), [])), (2, [2, 1, 1], [[], []], ((0, 0), [])), (3, [], [], ((0, 0), [])), (0, [1], [[1, 0, 0, 0, 0, 1]], ((0, 0), [])), (0, [2], [[1, 0, 0, 0, 0, 0, 0, 1]], ((0, 0), [])), (0, [3], [[1, 0, 0, 0, 0, 1], [0, 1, 0, 0, 1], [0, 0, 1, 1]], ((0, 0), []))]) (by decide +kernel)
theorem zx_gl425_ok {PT : Nat → zz_W → Prop} : zx_Lok 64 zHT PT (zu_Ln 79) := zu_Ln_ok (by decide +kernel)
theorem zx_gl426_ok {PT : Nat → zz_W → Prop} : zx_Lok 64 zHT PT (zu_Li 79 [((0, 1), [(1, 1, 0)])]) := zu_Li_ok (hs := [(0, [1], [[1]], ((0, 0), []))]) (by decide +kernel)
theorem zx_gl427_ok {PT : Nat → zz_W → Prop} : zx_Lok 64 zHT PT (zu_Li 79 [((0, 1), [(0, 1, 0), (2, 0, 1)])]) := zu_Li_ok (hs := [(0, [2], [[1]], ((0, 0), []))]) (by decide +kernel)
theorem zx_gl450_ok {PT : Nat → zz_W → Prop} : zx_Lok 64 zHT PT (zu_Ln 84) := zu_Ln_ok (by decide +kernel)
theorem zx_gl451_ok {PT : Nat → zz_W → Prop} : zx_Lok 64 zHT PT (zu_Li 84 [((0, 0), [(0, 0, 1)])]) := zu_Li_ok (hs := [(0, [1], [[1]], ((0, 0), []))]) (by decide +kernel)
theorem zx_gl452_ok {PT : Nat → zz_W → Prop} : zx_Lok 64 zHT PT (zu_Li 84 [((0, 1), [(1, 1, 0)])]) := zu_Li_ok (hs := [(0, [2], [[1]], ((0, 0), []))]) (by decide +kernel)
theorem zx_gl453_ok {PT : Nat → zz_W → Prop} : zx_Lok 64 zHT PT (zu_Lv 84 84 [((0, 0), [(0, 1, 0), (3, 0, 1)]), ((0, 0), [(0, 0, 1), (3, 1, 0)]), ((0, 0), [(1, 1, 0), (4, 0, 1)]), ((0, 0), [(1, 0, 1), (4, 1, 0)]), ((0, 750), [(2, 1, 0)]), ((750, 0), [(2, 0, 1)])]) := zu_Lv_ok (hs := [(2, [2, 0, 0], [[], []], ((0, 0), [])), (2, [2, 1, 1], [[3], [0, 3]], ((0, 0), [])), (2, [2, 2, 2], [[0, 0, 3], [0, 0, 0, 3]], ((0, 0), [])), (3, [], [], ((0, 0), [])), (0, [1], [[1, 0, 0, 0, 0, 0, 0, 1]], ((0, 0), [])), (0, [2], [[1, 0, 0, 0, 0, 0, 0, 0, 0, 0, 1]], ((0, 0), [])), (0, [3], [[1, 0, 0, 0, 0, 1]], ((0, 0), [])), (0, [0], [[0, 1, 1, 0, 0, 0, 0, 0, 0, 0, 0, 0, 0, 0, 1]], ((0, 0), [])), (0, [5], [[1, 0, 0, 0, 0, 0, 0, 0, 0, 1], [0, 1, 0, 0, 0, 0, 1], [0, 0, 1, 0, 0, 1], [0, 0, 0, 1, 1, 0, 1, 0, 0, 0, 0, 0, 0, 0, 1000000, 1000000]], ((0, 0), []))]) (by decide +kernel)
theorem zx_gl454_ok {PT : Nat → zz_W → Prop} : zx_Lok 64 zHT PT (zu_Lx 84 84 [21, 21] [((0, 0), [(0, 1, 0), (3, 0, 1)]), ((0, 0), [(0, 0, 1), (3, 1, 0)]), ((0, 0), [(1, 1, 0), (4, 0, 1)]), ((0, 0), [(1, 0, 1), (4, 1, 0)]), ((0, 750), [(5, 1, 0)]), ((750, 0), [(5, 0, 1)]), ((0, 1), [(2, 0, 3), (6, 1, 0)]), ((1, 0), [(2, 3, 0), (6, 0, 1)]), ((0, 2), [(2, 0, 3), (7, 1, 0)]), ((2, 0), [(2, 3, 0), (7, 0, 1)]), ((403, 0), [(8, 0, 1)]), ((0, 0), [(9, 1, 0)]), ((404, 0), [(8, 0, 1), (9, 0, 1)])]) := zu_Lx_ok (hs := [(2, [2, 0, 0], [[], []], ((0, 0), [])), (2, [2, 1, 1], [[3], [0, 3]], ((0, 0), [])), (2, [2, 2, 2], [[0, 0, 3], [0, 0, 0, 3]], ((0, 0), [])), (3, [], [], ((0, 0), [])), (0, [1], [[1, 0, 0, 0, 0, 0, 0, 1]], ((0, 0), [])), (0, [2], [[1, 0, 0, 0, 0, 0, 0, 0, 0, 0, 1]], ((0, 0), [])), (0, [3], [[1, 0, 0, 0, 0, 1]], ((0, 0), [])), (2, [2, 3, 1], [[0, 0, 0, 3, 0, 0, 0, 0, 3, 0, 0, 0, 0, 0, 1000000, 1000000, 1], [0, 0, 3, 0, 0, 0, 0, 0, 0, 3, 0, 0, 0, 0, 1000000, 1000000, 9999999, 10000000]], ((0, 0), [])), (2, [2, 4, 2], [[0, 0, 0, 0, 0, 3, 0, 0, 0, 0, 3, 0, 0, 0, 0, 0, 1000000, 1000000, 0, 0, 1], [0, 0, 0, 0, 3, 0, 0, 0, 0, 0, 0, 3, 0, 0, 0, 0, 1000000, 1000000, 0, 0, 9999999, 10000000]], ((0, 0), [])), (0, [5], [[0, 0, 0, 0, 1, 0, 0, 0, 0, 0, 0, 0, 0, 1], [0, 0, 1, 0, 0, 0, 0, 0, 0, 0, 0, 0, 0, 0, 0, 0, 0, 0, 0, 0, 0, 0, 0, 0, 1], [0, 1, 0, 0, 0, 0, 0, 0, 0, 0, 0, 0, 0, 0, 0, 0, 0, 0, 0, 0, 0, 0, 0, 0, 0, 1], [1, 0, 1, 0, 0, 0, 0, 0, 0, 0, 0, 0, 0, 0, 0, 0, 0, 0, 1000000, 1000000, 0, 0, 0, 0, 0, 0, 1]], ((0, 0), [])), (0, [5], [[1, 0, 0, 0, 0, 0, 0, 0, 0, 1], [0, 1, 0, 0, 0, 0, 1], [0, 0, 1, 0, 0, 1], [0, 0, 0, 1, 1, 0, 1, 0, 0, 0, 0, 0, 0, 0, 1000000, 1000000]], ((0, 0), []))]) (by decide +kernel)
theorem zx_gl455_ok {PT : Nat → zz_W → Prop} : zx_Lok 64 zHT PT (zu_Lv 84 84 [((0, 0), [(0, 1, 0), (3, 0, 1)]), ((0, 0), [(1, 1, 0), (4, 0, 1)]), ((0, 0), [(1, 0, 1), (4, 1, 0)]), ((0, 0), [(2, 1, 0), (5, 0, 1)]), ((0, 0), [(2, 0, 1), (5, 1, 0)])]) := zu_Lv_ok (hs := [(2, [2, 0, 0], [[], []], ((0, 0), [])), (2, [2, 1, 1], [[3], [0, 3]], ((0, 0), [])), (2, [2, 2, 2], [[0, 0, 3], [0, 0, 0, 3]], ((0, 0), [])), (3, [], [], ((0, 0), [])), (0, [1], [[1, 0, 0, 0, 0, 0, 0, 1]], ((0, 0), [])), (0, [2], [[1, 0, 0, 0, 0, 0, 0, 0, 0, 1]], ((0, 0), [])), (0, [3], [[1, 0, 0, 0, 0, 1]], ((0, 0), [])), (0, [4], [[1, 0, 0, 0, 0, 0, 0, 0, 0, 1], [0, 1, 0, 0, 0, 0, 0, 0, 1], [0, 0, 1, 0, 0, 0, 0, 0, 0, 1, 0, 0, 0, 1], [0, 0, 0, 1, 0, 0, 0, 0, 1, 0, 0, 0, 0, 0, 1]], ((0, 0), [])), (0, [5], [[1, 0, 0, 0, 0, 0, 0, 0, 0, 1], [0, 1, 0, 0, 0, 0, 1], [0, 0, 1, 0, 0, 1], [0, 0, 0, 1, 1, 0, 1]], ((0, 0), []))]) (by decide +kernel)
theorem zx_gl456_ok {PT : Nat → zz_W → Prop} : zx_Lok 64 zHT PT (zu_Lx 84 84 [9] [((0, 1), [(0, 0, 1), (3, 1, 0)]), ((1, 0), [(0, 1, 0), (3, 0, 1)]), ((0, 0), [(1, 1, 0), (4, 0, 1)]), ((0, 0), [(1, 0, 1), (4, 1, 0)]), ((0, 0), [(2, 1, 0), (5, 0, 1)]), ((0, 0), [(2, 0, 1), (5, 1, 0)]), ((0, 0), [(0, 0, 1), (6, 1, 0)]), ((0, 0), [(0, 1, 0), (6, 0, 1)]), ((0, 0), [(7, 0, 1)])]) := zu_Lx_ok (hs := [(2, [2, 0, 0], [[], []], ((0, 0), [])), (2, [2, 1, 1], [[3], [0, 3]], ((0, 0), [])), (2, [2, 2, 2], [[0, 0, 3], [0, 0, 0, 3]], ((0, 0), [])), (3, [], [], ((0, 0), [])), (1, [], [], ((0, 1), [(0, 0, 1), (8, 1, 0)])), (0, [1], [[1, 0, 0, 0, 0, 0, 0, 0, 0, 1]], ((0, 0), [])), (2, [2, 3, 0], [[1, 0, 0, 0, 0, 0, 0, 0, 0, 0, 0, 0, 0, 0, 1], [0, 1, 0, 0, 0, 0, 0, 0, 0, 0, 0, 0, 0, 0, 0, 1]], ((0, 0), [])), (0, [3], [[1, 0, 0, 0, 0, 0, 0, 0, 0, 0, 0, 0, 0, 0, 0, 0, 0, 0, 1]], ((0, 0), [])), (0, [2], [[1, 0, 0, 0, 0, 0, 0, 0, 0, 0, 1]], ((0, 0), [])), (0, [3], [[1, 0, 0, 0, 0, 1]], ((0, 0), [])), (0, [4], [[1, 0, 0, 0, 0, 0, 0, 0, 0, 1], [0, 1, 0, 0, 0, 0, 0, 0, 1], [0, 0, 1, 0, 0, 0, 0, 0, 0, 1, 0, 0, 0, 0, 1], [0, 0, 0, 1, 0, 0, 0, 0, 1, 0, 0, 0, 0, 0, 0, 1]], ((0, 0), [])), (0, [5], [[1, 0, 0, 0, 0, 0, 0, 0, 0, 1], [0, 1, 0, 0, 0, 0, 1], [0, 0, 1, 0, 0, 1], [0, 0, 0, 1, 1, 0, 1]], ((0, 0), []))]) (by decide +kernel)
theorem zx_gl470_ok {PT : Nat → zz_W → Prop} : zx_Lok 64 zHT PT (zu_Li 87 [((0, 0), [(0, 0, 1)])]) := zu_Li_ok (hs := [(0, [1], [[1]], ((0, 0), []))]) (by decide +kernel)
theorem zx_gl471_ok {PT : Nat → zz_W → Prop} : zx_Lok 64 zHT PT (zu_Li 87 [((0, 1), [(1, 1, 0)])]) := zu_Li_ok (hs := [(0, [2], [[1]], ((0, 0), []))]) (by decide +kernel)
theorem zx_gl472_ok {PT : Nat → zz_W → Prop} : zx_Lok 64 zHT PT (zu_Lx 87 87 [8] [((0, 1), [(0, 0, 1), (2, 1, 0)]), ((1, 0), [(0, 1, 0), (2, 0, 1)]), ((0, 0), [(1, 1, 0), (3, 0, 1)]), ((0, 0), [(1, 0, 1), (3, 1, 0)]), ((0, 0), [(0, 0, 1), (4, 1, 0)]), ((0, 0), [(0, 1, 0), (4, 0, 1)]), ((0, 0), [(5, 0, 1)])]) := zu_Lx_ok (hs := [(2, [2, 0, 0], [[], []], ((0, 0), [])), (3, [], [], ((0, 0), [])), (1, [], [], ((0, 1), [(0, 0, 1), (6, 1, 0)])), (0, [1], [[1, 0, 0, 0, 0, 1]], ((0, 0), [])), (2, [2, 1, 0], [[1, 0, 0, 0, 0, 0, 0, 0, 1], [0, 1, 0, 0, 0, 0, 0, 0, 0, 1]], ((0, 0), [])), (0, [3], [[1, 0, 0, 0, 0, 0, 0, 0, 0, 0, 0, 0, 1]], ((0, 0), [])), (0, [2], [[1, 0, 0, 0, 0, 0, 1]], ((0, 0), [])), (0, [3], [[1, 1]], ((0, 0), []))]) (by decide +kernel)
theorem zx_gl473_ok {PT : Nat → zz_W → Prop} : zx_Lok 64 zHT PT (zu_Lv 87 87 [((0, 0), [(0, 1, 0), (2, 0, 1)]), ((0, 0), [(1, 1, 0), (3, 0, 1)]), ((0, 0), [(1, 0, 1), (3, 1, 0)])]) := zu_Lv_ok (hs := [(2, [2, 0, 0], [[], []], ((0, 0), [])), (3, [], [], ((0, 0), [])), (0, [1], [[1, 0, 0, 1]], ((0, 0), [])), (0, [2], [[1, 0, 0, 0, 0, 1]], ((0, 0), [])), (0, [3], [[1, 1]], ((0, 0), []))]) (by decide +kernel)
theorem zx_gl474_ok {PT : Nat → zz_W → Prop} : zx_Lok 64 zHT PT (zu_Lv 87 86 [((0, 0), [(0, 1, 0), (2, 0, 1)]), ((0, 0), [(0, 0, 1), (2, 1, 0)]), ((0, 0), [(1, 1, 0), (3, 0, 1)]), ((0, 0), [(1, 0, 1), (3, 1, 0)])]) := zu_Lv_ok (hs := [(2, [2, 0, 0], [[], []], ((0, 0), [])), (3, [], [], ((0, 0), [])), (0, [1], [[1, 0, 0, 1]], ((0, 0), [])), (0, [2], [[1, 0, 0, 0, 0, 0, 1]], ((0, 0), [])), (0, [4], [[1, 1]], ((0, 0), []))]) (by decide +kernel)
theorem zx_gl475_ok {PT : Nat → zz_W → Prop} : zx_Lok 64 zHT PT (zu_Lv 86 86 [((0, 0), [(0, 1, 0), (4, 0, 1)]), ((0, 0), [(0, 0, 1), (4, 1, 0)]), ((0, 0), [(1, 1, 0), (5, 0, 1)]), ((0, 0), [(1, 0, 1), (5, 1, 0)]), ((0, 0), [(2, 1, 0), (6, 0, 1)]), ((0, 0), [(2, 0, 1), (6, 1, 0)]), ((0, 4000), [(3, 1, 0)]), ((4000, 0), [(3, 0, 1)])]) := zu_Lv_ok (hs := [(2, [2, 0, 0], [[], []], ((0, 0), [])), (2, [2, 1, 1], [[], []], ((0, 0), [])), (2, [2, 2, 2], [[0, 0, 1], [0, 0, 0, 1]], ((0, 0), [])), (3, [], [], ((0, 0), [])), (0, [1], [[1, 0, 0, 0, 0, 0, 0, 1]], ((0, 0), [])), (0, [2], [[1, 0, 0, 0, 0, 0, 0, 0, 0, 0, 1]], ((0, 0), [])), (0, [0], [[1, 0, 0, 0, 0, 0, 0, 0, 0, 0, 0, 0, 0, 0, 1]], ((0, 0), [])), (0, [4], [[1, 0, 0, 0, 0, 1]], ((0, 0), [])), (0, [5], [[1, 0, 0, 0, 0, 0, 0, 0, 0, 0, 1], [0, 1, 0, 0, 0, 0, 0, 0, 0, 1, 0, 0, 0, 0, 0, 0, 1, 1000000, 1000000], [0, 0, 1, 0, 0, 0, 0, 0, 0, 1], [0, 0, 0, 1, 0, 0, 1, 1, 0, 0, 0, 0, 0, 0, 0, 0, 0, 1000000, 1000000], [0, 0, 0, 0, 1, 1, 0, 0, 1, 0, 0, 0, 0, 0, 0, 0, 0, 1000000, 1000000]], ((0, 0), []))]) (by decide +kernel)
theorem zx_gl476_ok {PT : Nat → zz_W → Prop} : zx_Lok 64 zHT PT (zu_Lv 86 86 [((0, 0), [(0, 1, 0), (4, 0, 1)]), ((0, 0), [(0, 0, 1), (4, 1, 0)]), ((0, 0), [(1, 1, 0), (5, 0, 1)]), ((0, 0), [(1, 0, 1), (5, 1, 0)]), ((0, 0), [(2, 0, 1), (6, 1, 0)]), ((0, 0), [(3, 1, 0), (7, 0, 1)]), ((0, 0), [(3, 0, 1), (7, 1, 0)])]) := zu_Lv_ok (hs := [(2, [2, 0, 0], [[], []], ((0, 0), [])), (2, [2, 1, 1], [[], []], ((0, 0), [])), (2, [2, 2, 2], [[0, 0, 1], [0, 0, 0, 1]], ((0, 0), [])), (3, [], [], ((0, 0), [])), (0, [1], [[1, 0, 0, 0, 0, 0, 0, 1]], ((0, 0), [])), (0, [2], [[1, 0, 0, 0, 0, 0, 0, 0, 0, 0, 1]], ((0, 0), [])), (0, [3], [[1, 0, 0, 0, 0, 0, 0, 0, 0, 0, 0, 0, 0, 1], [0, 1, 0, 0, 0, 0, 0, 0, 0, 0, 0, 0, 0, 0, 1]], ((0, 0), [])), (0, [4], [[1, 0, 0, 0, 0, 1]], ((0, 0), [])), (0, [5], [[1, 0, 0, 0, 0, 0, 0, 0, 0, 0, 1], [0, 1, 0, 0, 0, 0, 0, 0, 0, 1, 0, 0, 0, 0, 0, 1], [0, 0, 1, 0, 0, 0, 0, 0, 0, 1], [0, 0, 0, 1, 0, 0, 1, 1], [0, 0, 0, 0, 1, 1, 0, 0, 1]], ((0, 0), []))]) (by decide +kernel)
theorem zx_gl477_ok {PT : Nat → zz_W → Prop} : zx_Lok 64 zHT PT (zu_Lx 86 86 [8, 9, 64] [((0, 0), [(0, 1, 0), (4, 0, 1)]), ((0, 0), [(0, 0, 1), (4, 1, 0)]), ((0, 0), [(1, 1, 0), (5, 0, 1)]), ((0, 0), [(1, 0, 1), (5, 1, 0)]), ((0, 0), [(2, 1, 0), (6, 0, 1)]), ((0, 0), [(2, 0, 1), (6, 1, 0)]), ((0, 4000), [(7, 1, 0)]), ((4000, 0), [(7, 0, 1)]), ((0, 0), [(3, 0, 1), (8, 1, 0)]), ((0, 0), [(3, 1, 0), (8, 0, 1)]), ((0, 0), [(3, 0, 1), (9, 1, 0)]), ((0, 0), [(3, 1, 0), (9, 0, 1)]), ((1, 0), [(10, 1, 0), (11, 0, 1)]), ((0, 1), [(10, 0, 1), (11, 1, 0)]), ((0, 1), [(11, 1, 0)]), ((0, 0), [(2, 1, 0), (11, 0, 1)]), ((60, 0), [(11, 0, 1)]), ((0, 0), [(12, 0, 1), (13, 1, 0)]), ((0, 0), [(12, 1, 0), (13, 0, 1)])]) := zu_Lx_ok (hs := [(2, [2, 0, 0], [[], []], ((0, 0), [])), (2, [2, 1, 1], [[], []], ((0, 0), [])), (2, [2, 2, 2], [[0, 0, 1], [0, 0, 0, 1]], ((0, 0), [])), (3, [], [], ((0, 0), [])), (0, [1], [[1, 0, 0, 0, 0, 0, 0, 1]], ((0, 0), [])), (0, [2], [[1, 0, 0, 0, 0, 0, 0, 0, 0, 0, 1]], ((0, 0), [])), (2, [2, 3, 0], [[0, 1, 0, 0, 0, 0, 0, 0, 0, 0, 0, 0, 0, 0, 0, 0, 1], [1, 0, 0, 0, 0, 0, 0, 0, 0, 0, 0, 0, 0, 0, 0, 0, 0, 1]], ((0, 0), [])), (2, [2, 4, 1], [[0, 0, 0, 1, 0, 0, 0, 0, 0, 0, 0, 0, 0, 0, 0, 0, 0, 0, 0, 0, 1], [0, 0, 1, 0, 0, 0, 0, 0, 0, 0, 0, 0, 0, 0, 0, 0, 0, 0, 0, 0, 0, 1]], ((0, 0), [])), (2, [2, 5, 2], [[0, 0, 1, 0, 0, 0, 0, 0, 0, 0, 0, 0, 0, 0, 0, 0, 0, 0, 0, 0, 0, 0, 0, 0, 1], [0, 0, 0, 1, 0, 0, 0, 0, 0, 0, 0, 0, 0, 0, 0, 0, 0, 0, 0, 0, 0, 0, 0, 0, 0, 1]], ((0, 0), [])), (0, [5], [[0, 0, 0, 0, 0, 1, 0, 0, 0, 0, 0, 0, 0, 0, 0, 0, 0, 0, 0, 0, 0, 0, 0, 0, 0, 0, 0, 0, 1], [0, 0, 0, 0, 1, 0, 0, 0, 0, 0, 0, 0, 0, 0, 0, 0, 0, 0, 0, 1, 1000000, 1000000, 0, 0, 0, 0, 0, 0, 0, 1], [0, 0, 0, 0, 1, 0, 0, 0, 0, 0, 0, 0, 0, 0, 0, 0, 0, 0, 0, 0, 0, 0, 0, 0, 0, 0, 0, 0, 0, 0, 1], [0, 1, 1, 0, 0, 0, 0, 0, 0, 0, 0, 0, 0, 0, 0, 0, 0, 0, 0, 0, 10000000, 10000000, 0, 0, 0, 0, 10000000, 10000000, 0, 0, 0, 1], [1, 0, 0, 1, 0, 0, 0, 0, 0, 0, 0, 0, 0, 0, 0, 0, 0, 0, 0, 0, 10000000, 10000000, 0, 0, 0, 0, 10000000, 10000000, 0, 0, 0, 0, 1]], ((0, 0), [])), (0, [4], [[1, 0, 0, 0, 0, 1]], ((0, 0), [])), (0, [5], [[1, 0, 0, 0, 0, 0, 0, 0, 0, 0, 1], [0, 1, 0, 0, 0, 0, 0, 0, 0, 1, 0, 0, 0, 0, 0, 0, 1, 1000000, 1000000], [0, 0, 1, 0, 0, 0, 0, 0, 0, 1], [0, 0, 0, 1, 0, 0, 1, 1, 0, 0, 0, 0, 0, 0, 0, 0, 0, 10000000, 10000000], [0, 0, 0, 0, 1, 1, 0, 0, 1, 0, 0, 0, 0, 0, 0, 0, 0, 10000000, 10000000]], ((0, 0), []))]) (by decide +kernel)
theorem zx_gl478_ok {PT : Nat → zz_W → Prop} : zx_Lok 64 zHT PT (zu_Ln 86) := zu_Ln_ok (by decide +kernel)
theorem zx_gl479_ok {PT : Nat → zz_W → Prop} : zx_Lok 64 zHT PT (zu_Li 86 [((0, 1), [(1, 1, 0)])]) := zu_Li_ok (hs := [(0, [2], [[1]], ((0, 0), []))]) (by decide +kernel)
theorem zx_gl480_ok {PT : Nat → zz_W → Prop} : zx_Lok 64 zHT PT (zu_Li 85 [((0, 0), [(0, 0, 1)])]) := zu_Li_ok (hs := [(0, [1], [[1]], ((0, 0), []))]) (by decide +kernel)
theorem zx_gl481_ok {PT : Nat → zz_W → Prop} : zx_Lok 64 zHT PT (zu_Li 85 [((0, 1), [(1, 1, 0)])]) := zu_Li_ok (hs := [(0, [2], [[1]], ((0, 0), []))]) (by decide +kernel)
theorem zx_gl482_ok {PT : Nat → zz_W → Prop} : zx_Lok 64 zHT PT (zu_Lx 85 85 [20, 20] [((0, 1), [(0, 0, 1), (3, 1, 0)]), ((1, 0), [(0, 1, 0), (3, 0, 1)]), ((0, 0), [(1, 1, 0), (4, 0, 1)]), ((0, 0), [(1, 0, 1), (4, 1, 0)]), ((0, 0), [(2, 1, 0), (5, 0, 1)]), ((0, 0), [(2, 0, 1), (5, 1, 0)]), ((0, 2), [(0, 0, 6), (6, 1, 0)]), ((2, 0), [(0, 6, 0), (6, 0, 1)]), ((0, 3), [(0, 0, 6), (7, 1, 0)]), ((3, 0), [(0, 6, 0), (7, 0, 1)]), ((2, 0), [(8, 0, 1)]), ((0, 0), [(9, 1, 0)])]) := zu_Lx_ok (hs := [(2, [2, 0, 0], [[], []], ((0, 0), [])), (2, [2, 1, 1], [[], []], ((0, 0), [])), (2, [2, 2, 2], [[], []], ((0, 0), [])), (2, [2, 3, 3], [[6], [0, 6]], ((0, 0), [])), (2, [2, 4, 4], [[0, 0, 1], [0, 0, 0, 1]], ((0, 0), [])), (3, [], [], ((0, 0), [])), (1, [], [], ((0, 1), [(0, 0, 1), (10, 1, 0)])), (0, [1], [[1, 0, 0, 0, 0, 0, 0, 0, 0, 0, 0, 0, 0, 1]], ((0, 0), [])), (2, [2, 5, 0], [[6, 0, 0, 0, 0, 0, 0, 0, 0, 0, 0, 0, 0, 0, 0, 0, 0, 0, 1], [0, 6, 0, 0, 0, 0, 0, 0, 0, 0, 0, 0, 0, 0, 0, 0, 0, 0, 9999999, 10000000]], ((0, 0), [])), (2, [2, 6, 1], [[0, 0, 6, 0, 0, 0, 0, 0, 0, 0, 0, 0, 0, 0, 0, 0, 0, 0, 0, 0, 0, 0, 1], [0, 0, 0, 6, 0, 0, 0, 0, 0, 0, 0, 0, 0, 0, 0, 0, 0, 0, 0, 0, 0, 0, 9999999, 10000000]], ((0, 0), [])), (0, [3], [[0, 1, 0, 0, 0, 0, 0, 0, 0, 0, 0, 0, 0, 0, 0, 0, 0, 0, 0, 0, 0, 0, 0, 0, 0, 0, 0, 1], [0, 0, 1, 0, 0, 0, 0, 0, 0, 0, 0, 0, 0, 0, 0, 0, 0, 0, 0, 0, 0, 0, 0, 0, 0, 0, 1]], ((0, 0), [])), (0, [2], [[1, 0, 0, 0, 0, 0, 0, 0, 0, 0, 0, 0, 0, 0, 1]], ((0, 0), [])), (0, [3], [[1, 0, 0, 0, 0, 0, 0, 0, 0, 1], [0, 1, 0, 0, 0, 0, 0, 0, 0, 0, 1]], ((0, 0), [])), (0, [4], [[1, 0, 0, 0, 0, 0, 0, 0, 0, 0, 0, 1], [0, 1, 0, 0, 0, 0, 0, 0, 0, 0, 1], [0, 0, 1, 0, 0, 0, 0, 0, 0, 1], [0, 0, 0, 1, 0, 0, 0, 0, 1, 0, 0, 0, 0, 1], [0, 0, 0, 0, 1, 0, 0, 1, 0, 0, 0, 0, 0, 0, 1]], ((0, 0), [])), (0, [5], [[1, 0, 0, 0, 0, 0, 0, 0, 0, 0, 0, 0, 1], [0, 1, 0, 0, 0, 0, 0, 0, 0, 0, 0, 1], [0, 0, 1, 0, 0, 0, 0, 0, 0, 0, 1, 0, 0, 0, 0, 0, 0, 0, 0, 0, 0, 1], [0, 0, 0, 1, 0, 0, 0, 0, 0, 0, 1], [0, 0, 0, 0, 1, 0, 0, 1, 0, 0, 0, 0, 0, 0, 1], [0, 0, 0, 0, 0, 1, 1, 0, 0, 0, 0, 0, 0, 0, 0, 1]], ((0, 0), []))]) (by decide +kernel)
theorem zx_gl483_ok {PT : Nat → zz_W → Prop} : zx_Lok 64 zHT PT (zu_Lx 85 85 [20, 20, 20, 62] [((0, 1), [(0, 0, 1), (3, 1, 0)]), ((1, 0), [(0, 1, 0), (3, 0, 1)]), ((0, 0), [(1, 1, 0), (4, 0, 1)]), ((0, 0), [(1, 0, 1), (4, 1, 0)]), ((0, 0), [(2, 1, 0), (5, 0, 1)]), ((0, 0), [(2, 0, 1), (5, 1, 0)]), ((0, 2), [(0, 0, 6), (6, 1, 0)]), ((2, 0), [(0, 6, 0), (6, 0, 1)]), ((0, 3), [(0, 0, 6), (7, 1, 0)]), ((3, 0), [(0, 6, 0), (7, 0, 1)]), ((0, 5), [(0, 0, 6), (8, 1, 0)]), ((5, 0), [(0, 6, 0), (8, 0, 1)]), ((0, 0), [(9, 1, 0), (12, 0, 6)]), ((0, 0), [(9, 0, 1), (12, 6, 0)]), ((0, 1), [(11, 0, 1)]), ((0, 0), [(12, 1, 0)]), ((59, 0), [(12, 0, 1)]), ((0, 0), [(10, 0, 1), (13, 1, 0)]), ((0, 0), [(10, 1, 0), (13, 0, 1)])]) := zu_Lx_ok (hs := [(2, [2, 0, 0], [[], []], ((0, 0), [])), (2, [2, 1, 1], [[], []], ((0, 0), [])), (2, [2, 2, 2], [[], []], ((0, 0), [])), (2, [2, 3, 3], [[6], [0, 6]], ((0, 0), [])), (2, [2, 4, 4], [[0, 0, 1], [0, 0, 0, 1]], ((0, 0), [])), (3, [], [], ((0, 0), [])), (1, [], [], ((0, 1), [(0, 0, 1), (14, 1, 0)])), (0, [1], [[1, 0, 0, 0, 0, 0, 0, 0, 0, 0, 0, 0, 0, 1]], ((0, 0), [])), (2, [2, 5, 0], [[6, 0, 0, 0, 0, 0, 0, 0, 0, 0, 0, 0, 0, 0, 0, 0, 0, 0, 1], [0, 6, 0, 0, 0, 0, 0, 0, 0, 0, 0, 0, 0, 0, 0, 0, 0, 0, 9999999, 10000000]], ((0, 0), [])), (2, [2, 6, 1], [[0, 0, 6, 0, 0, 0, 0, 0, 0, 0, 0, 0, 0, 0, 0, 0, 0, 0, 0, 0, 0, 0, 1], [0, 0, 0, 6, 0, 0, 0, 0, 0, 0, 0, 0, 0, 0, 0, 0, 0, 0, 0, 0, 0, 0, 9999999, 10000000]], ((0, 0), [])), (2, [2, 7, 2], [[0, 0, 0, 0, 6, 0, 0, 0, 0, 0, 0, 0, 0, 0, 0, 0, 0, 0, 0, 0, 0, 0, 0, 0, 0, 0, 1], [0, 0, 0, 0, 0, 6, 0, 0, 0, 0, 0, 0, 0, 0, 0, 0, 0, 0, 0, 0, 0, 0, 0, 0, 0, 0, 9999999, 10000000]], ((0, 0), [])), (2, [2, 8, 3], [[6, 0, 0, 0, 0, 0, 0, 0, 0, 0, 0, 0, 0, 0, 0, 0, 0, 0, 0, 0, 0, 0, 0, 0, 0, 0, 0, 0, 0, 0, 1], [0, 6, 0, 0, 0, 0, 0, 0, 0, 0, 0, 0, 0, 0, 0, 0, 0, 0, 0, 0, 0, 0, 0, 0, 0, 0, 0, 0, 0, 0, 9999999, 10000000]], ((0, 0), [])), (0, [4], [[0, 0, 0, 0, 1, 0, 0, 0, 0, 0, 0, 0, 0, 0, 0, 0, 0, 0, 0, 0, 0, 0, 0, 0, 0, 0, 0, 0, 0, 0, 0, 0, 0, 0, 1], [0, 0, 0, 1, 0, 0, 0, 0, 0, 0, 0, 0, 0, 0, 0, 0, 0, 0, 0, 0, 0, 0, 0, 0, 0, 0, 0, 0, 0, 0, 0, 0, 0, 0, 0, 1], [0, 0, 1, 0, 0, 0, 0, 0, 0, 0, 0, 0, 0, 0, 0, 0, 0, 0, 0, 0, 0, 0, 0, 0, 0, 0, 0, 0, 0, 0, 0, 0, 0, 0, 0, 0, 1], [0, 1, 0, 0, 0, 0, 1, 0, 0, 0, 0, 0, 0, 0, 0, 0, 0, 0, 0, 0, 0, 0, 0, 0, 0, 0, 0, 0, 0, 0, 0, 0, 0, 0, 0, 0, 0, 1], [1, 0, 0, 0, 0, 0, 0, 1, 0, 0, 0, 0, 0, 0, 0, 0, 0, 0, 0, 0, 0, 0, 0, 0, 0, 0, 0, 0, 0, 0, 0, 0, 0, 0, 0, 0, 0, 0, 1]], ((0, 0), [])), (0, [2], [[1, 0, 0, 0, 0, 0, 0, 0, 0, 0, 0, 0, 0, 0, 1]], ((0, 0), [])), (0, [3], [[1, 0, 0, 0, 0, 0, 0, 0, 0, 1], [0, 1, 0, 0, 0, 0, 0, 0, 0, 0, 1]], ((0, 0), [])), (0, [4], [[1, 0, 0, 0, 0, 0, 0, 0, 0, 0, 0, 1], [0, 1, 0, 0, 0, 0, 0, 0, 0, 0, 1], [0, 0, 1, 0, 0, 0, 0, 0, 0, 1], [0, 0, 0, 1, 0, 0, 0, 0, 1, 0, 0, 0, 0, 1], [0, 0, 0, 0, 1, 0, 0, 1, 0, 0, 0, 0, 0, 0, 1]], ((0, 0), [])), (0, [5], [[1, 0, 0, 0, 0, 0, 0, 0, 0, 0, 0, 0, 1], [0, 1, 0, 0, 0, 0, 0, 0, 0, 0, 0, 1], [0, 0, 1, 0, 0, 0, 0, 0, 0, 0, 1, 0, 0, 0, 0, 0, 0, 0, 0, 0, 0, 1], [0, 0, 0, 1, 0, 0, 0, 0, 0, 0, 1], [0, 0, 0, 0, 1, 0, 0, 1, 0, 0, 0, 0, 0, 0, 1], [0, 0, 0, 0, 0, 1, 1, 0, 0, 0, 0, 0, 0, 0, 0, 1]], ((0, 0), []))]) (by decide +kernel)
theorem zx_gl484_ok {PT : Nat → zz_W → Prop} : zx_Lok 64 zHT PT (zu_Lx 85 85 [20, 20, 20, 64] [((0, 1), [(0, 0, 1), (3, 1, 0)]), ((1, 0), [(0, 1, 0), (3, 0, 1)]), ((0, 0), [(1, 1, 0), (4, 0, 1)]), ((0, 0), [(1, 0, 1), (4, 1, 0)]), ((0, 0), [(2, 1, 0), (5, 0, 1)]), ((0, 0), [(2, 0, 1), (5, 1, 0)]), ((0, 2), [(0, 0, 6), (6, 1, 0)]), ((2, 0), [(0, 6, 0), (6, 0, 1)]), ((0, 3), [(0, 0, 6), (7, 1, 0)]), ((3, 0), [(0, 6, 0), (7, 0, 1)]), ((0, 5), [(0, 0, 6), (8, 1, 0)]), ((5, 0), [(0, 6, 0), (8, 0, 1)]), ((60, 0), [(9, 1, 0), (12, 0, 1)]), ((0, 60), [(9, 0, 1), (12, 1, 0)]), ((0, 1), [(11, 0, 1)]), ((0, 60), [(12, 1, 0)]), ((119, 0), [(12, 0, 1)]), ((59, 0), [(2, 1, 0), (12, 0, 1)]), ((0, 0), [(10, 0, 1), (13, 1, 0)]), ((0, 0), [(10, 1, 0), (13, 0, 1)])]) := zu_Lx_ok (hs := [(2, [2, 0, 0], [[], []], ((0, 0), [])), (2, [2, 1, 1], [[], []], ((0, 0), [])), (2, [2, 2, 2], [[], []], ((0, 0), [])), (2, [2, 3, 3], [[6, 0, 0, 0, 0, 0, 10000000, 10000000, 0, 0, 0, 0, 0, 0, 10000000, 10000000], [0, 6, 0, 0, 0, 0, 10000000, 10000000, 0, 0, 0, 0, 0, 0, 10000000, 10000000]], ((0, 0), [])), (2, [2, 4, 4], [[0, 0, 1], [0, 0, 0, 1]], ((0, 0), [])), (3, [], [], ((0, 0), [])), (1, [], [], ((0, 1), [(0, 0, 1), (14, 1, 0)])), (0, [1], [[1, 0, 0, 0, 0, 0, 0, 0, 0, 0, 0, 0, 0, 1]], ((0, 0), [])), (2, [2, 5, 0], [[6, 0, 0, 0, 0, 0, 0, 0, 0, 0, 0, 0, 10000000, 10000000, 0, 0, 0, 0, 10000000, 9999999, 10000000, 10000000, 10000000, 10000000, 10000000, 10000000], [0, 6, 0, 0, 0, 0, 0, 0, 0, 0, 0, 0, 10000000, 10000000, 0, 0, 0, 0, 9999999, 10000000, 10000000, 10000000, 10000000, 10000000, 10000000, 10000000]], ((0, 0), [])), (2, [2, 6, 1], [[0, 0, 6, 0, 0, 0, 0, 0, 0, 0, 0, 0, 0, 0, 0, 0, 0, 0, 0, 0, 10000000, 10000000, 1, 0, 0, 0, 10000000, 10000000], [0, 0, 0, 6, 0, 0, 0, 0, 0, 0, 0, 0, 0, 0, 0, 0, 0, 0, 0, 0, 10000000, 10000000, 0, 1, 0, 0, 10000000, 10000000]], ((0, 0), [])), (2, [2, 7, 2], [[0, 0, 0, 0, 6, 0, 0, 0, 0, 0, 0, 0, 0, 0, 0, 0, 0, 0, 0, 0, 0, 0, 10000000, 10000000, 0, 0, 10000000, 9999999, 10000000, 10000000], [0, 0, 0, 0, 0, 6, 0, 0, 0, 0, 0, 0, 0, 0, 0, 0, 0, 0, 0, 0, 0, 0, 10000000, 10000000, 0, 0, 9999999, 10000000, 10000000, 10000000]], ((0, 0), [])), (2, [2, 8, 4], [[1, 0, 0, 0, 0, 0, 0, 0, 0, 0, 0, 0, 0, 0, 0, 0, 0, 0, 0, 0, 0, 0, 0, 0, 0, 0, 0, 0, 0, 0, 1], [0, 1, 0, 0, 0, 0, 0, 0, 0, 0, 0, 0, 0, 0, 0, 0, 0, 0, 0, 0, 0, 0, 0, 0, 0, 0, 0, 0, 0, 0, 0, 1]], ((0, 0), [])), (0, [5], [[0, 0, 0, 0, 1, 0, 0, 0, 0, 0, 0, 0, 0, 0, 0, 0, 0, 0, 0, 0, 0, 0, 0, 0, 0, 0, 0, 0, 0, 0, 0, 0, 0, 0, 1], [0, 0, 0, 1, 0, 0, 0, 0, 0, 0, 0, 0, 0, 0, 0, 0, 0, 0, 0, 0, 0, 0, 0, 0, 0, 0, 0, 0, 0, 0, 0, 0, 0, 0, 0, 1], [0, 0, 1, 0, 0, 0, 0, 0, 0, 0, 0, 0, 0, 0, 0, 0, 0, 0, 0, 0, 0, 0, 0, 0, 0, 1, 0, 0, 0, 0, 0, 0, 0, 0, 0, 0, 0, 1], [0, 0, 1, 0, 0, 0, 0, 0, 0, 0, 0, 0, 0, 0, 0, 0, 0, 0, 0, 0, 0, 0, 0, 0, 0, 0, 0, 0, 0, 0, 0, 0, 0, 0, 0, 0, 1], [0, 1, 0, 0, 0, 0, 1, 0, 0, 0, 0, 0, 0, 0, 0, 0, 0, 0, 0, 0, 0, 0, 0, 0, 0, 0, 0, 0, 0, 0, 10000000, 10000000, 0, 0, 0, 0, 0, 0, 1], [1, 0, 0, 0, 0, 0, 0, 1, 0, 0, 0, 0, 0, 0, 0, 0, 0, 0, 0, 0, 0, 0, 0, 0, 0, 0, 0, 0, 0, 0, 10000000, 10000000, 0, 0, 0, 0, 0, 0, 0, 1]], ((0, 0), [])), (0, [2], [[1, 0, 0, 0, 0, 0, 0, 0, 0, 0, 0, 0, 0, 0, 1]], ((0, 0), [])), (0, [3], [[1, 0, 0, 0, 0, 0, 0, 0, 0, 1], [0, 1, 0, 0, 0, 0, 0, 0, 0, 0, 1]], ((0, 0), [])), (0, [4], [[1, 0, 0, 0, 0, 0, 0, 0, 0, 0, 0, 1], [0, 1, 0, 0, 0, 0, 0, 0, 0, 0, 1], [0, 0, 1, 0, 0, 0, 0, 0, 0, 1], [0, 0, 0, 1, 0, 0, 0, 0, 1, 0, 0, 0, 0, 1, 0, 10000000, 10000000, 0, 0, 0, 0, 0, 0, 10000000, 10000000, 10000000, 10000000], [0, 0, 0, 0, 1, 0, 0, 1, 0, 0, 0, 0, 0, 0, 1, 10000000, 10000000, 0, 0, 0, 0, 0, 0, 10000000, 10000000, 10000000, 10000000]], ((0, 0), [])), (0, [5], [[1, 0, 0, 0, 0, 0, 0, 0, 0, 0, 0, 0, 1], [0, 1, 0, 0, 0, 0, 0, 0, 0, 0, 0, 1], [0, 0, 1, 0, 0, 0, 0, 0, 0, 0, 1, 0, 0, 0, 0, 0, 0, 0, 0, 0, 0, 1], [0, 0, 0, 1, 0, 0, 0, 0, 0, 0, 1], [0, 0, 0, 0, 1, 0, 0, 1, 0, 0, 0, 0, 0, 0, 1, 0, 0, 0, 0, 0, 0, 0, 10000000, 10000000, 0, 0, 10000000, 10000000, 10000000, 10000000], [0, 0, 0, 0, 0, 1, 1, 0, 0, 0, 0, 0, 0, 0, 0, 1, 0, 0, 0, 0, 0, 0, 10000000, 10000000, 0, 0, 10000000, 10000000, 10000000, 10000000]], ((0, 0), []))]) (by decide +kernel)
theorem zx_gl485_ok {PT : Nat → zz_W → Prop} : zx_Lok 64 zHT PT (zu_Lv 85 85 [((0, 0), [(0, 1, 0), (3, 0, 1)]), ((0, 0), [(1, 1, 0), (4, 0, 1)]), ((0, 0), [(1, 0, 1), (4, 1, 0)]), ((0, 0), [(2, 0, 1), (5, 1, 0)])]) := zu_Lv_ok (hs := [(2, [2, 0, 0], [[], []], ((0, 0), [])), (2, [2, 1, 1], [[], []], ((0, 0), [])), (2, [2, 2, 2], [[], []], ((0, 0), [])), (2, [2, 3, 3], [[6], [0, 6]], ((0, 0), [])), (2, [2, 4, 4], [[0, 0, 1], [0, 0, 0, 1]], ((0, 0), [])), (3, [], [], ((0, 0), [])), (0, [1], [[1, 0, 0, 0, 0, 0, 0, 0, 0, 0, 0, 1]], ((0, 0), [])), (0, [2], [[1, 0, 0, 0, 0, 0, 0, 0, 0, 0, 0, 0, 0, 1]], ((0, 0), [])), (0, [3], [[1, 0, 0, 0, 0, 0, 0, 0, 0, 1], [0, 1, 0, 0, 0, 0, 0, 0, 0, 0, 1]], ((0, 0), [])), (0, [4], [[1, 0, 0, 0, 0, 0, 0, 0, 0, 0, 0, 1], [0, 1, 0, 0, 0, 0, 0, 0, 0, 0, 1], [0, 0, 1, 0, 0, 0, 0, 0, 0, 1], [0, 0, 0, 1, 0, 0, 0, 0, 1, 0, 0, 0, 0, 1], [0, 0, 0, 0, 1, 0, 0, 1, 0, 0, 0, 0, 0, 0, 1]], ((0, 0), [])), (0, [5], [[1, 0, 0, 0, 0, 0, 0, 0, 0, 0, 0, 0, 1], [0, 1, 0, 0, 0, 0, 0, 0, 0, 0, 0, 1], [0, 0, 1, 0, 0, 0, 0, 0, 0, 0, 1, 0, 0, 0, 0, 0, 0, 0, 0, 1], [0, 0, 0, 1, 0, 0, 0, 0, 0, 0, 1], [0, 0, 0, 0, 1, 0, 0, 1, 0, 0, 0, 0, 0, 0, 1], [0, 0, 0, 0, 0, 1, 1, 0, 0, 0, 0, 0, 0, 0, 0, 1]], ((0, 0), []))]) (by decide +kernel)
theorem zx_gl460_ok {PT : Nat → zz_W → Prop} : zx_Lok 64 zHT PT (zu_Ln 82) := zu_Ln_ok (by decide +kernel)
theorem zx_gl461_ok {PT : Nat → zz_W → Prop} : zx_Lok 64 zHT PT (zu_Li 82 [((0, 0), [(0, 0, 1)])]) := zu_Li_ok (hs := [(0, [1], [[1]], ((0, 0), []))]) (by decide +kernel)
theorem zx_gl462_ok {PT : Nat → zz_W → Prop} : zx_Lok 64 zHT PT (zu_Li 82 [((0, 1), [(1, 1, 0)])]) := zu_Li_ok (hs := [(0, [2], [[1]], ((0, 0), []))]) (by decide +kernel)
theorem zx_gl464_ok {PT : Nat → zz_W → Prop} : zx_Lok 64 zHT PT (zu_Lx 82 82 [20, 20] [((0, 1), [(0, 0, 1), (2, 1, 0)]), ((1, 0), [(0, 1, 0), (2, 0, 1)]), ((0, 0), [(1, 1, 0), (3, 0, 1)]), ((0, 0), [(1, 0, 1), (3, 1, 0)]), ((0, 3), [(0, 0, 6), (4, 1, 0)]), ((3, 0), [(0, 6, 0), (4, 0, 1)]), ((0, 4), [(0, 0, 6), (5, 1, 0)]), ((4, 0), [(0, 6, 0), (5, 0, 1)]), ((403, 0), [(6, 0, 1)]), ((0, 0), [(7, 1, 0)]), ((404, 0), [(6, 0, 1), (7, 0, 1)])]) := zu_Lx_ok (hs := [(2, [2, 0, 0], [[], []], ((0, 0), [])), (2, [2, 1, 1], [[], []], ((0, 0), [])), (3, [], [], ((0, 0), [])), (1, [], [], ((0, 1), [(1, 1, 0)])), (0, [2], [[1, 0, 0, 0, 0, 0, 0, 0, 0, 1]], ((0, 0), [])), (1, [], [], ((0, 1), [(0, 0, 1), (8, 1, 0)])), (0, [1], [[1, 0, 0, 0, 0, 0, 0, 0, 1]], ((0, 0), [])), (2, [2, 2, 0], [[6, 0, 0, 0, 0, 0, 0, 0, 0, 0, 0, 1], [0, 0, 6, 0, 0, 0, 0, 0, 0, 0, 0, 9999999, 10000000]], ((0, 0), [])), (2, [2, 3, 1], [[0, 0, 6, 0, 0, 0, 0, 0, 0, 0, 0, 0, 0, 0, 0, 1], [0, 0, 0, 0, 6, 0, 0, 0, 0, 0, 0, 0, 0, 0, 0, 9999999, 10000000]], ((0, 0), [])), (0, [3], [[0, 0, 1, 0, 0, 0, 0, 0, 0, 0, 0, 0, 0, 0, 0, 0, 0, 0, 0, 1], [0, 1, 0, 0, 0, 0, 0, 0, 0, 0, 0, 0, 0, 0, 0, 0, 0, 0, 0, 0, 1], [1, 0, 1, 0, 0, 0, 0, 0, 0, 0, 0, 0, 0, 0, 0, 0, 0, 0, 0, 0, 0, 1]], ((0, 0), [])), (0, [2], [[1, 0, 0, 0, 0, 0, 0, 0, 1]], ((0, 0), [])), (0, [3], [[1, 0, 0, 0, 0, 1], [0, 1, 0, 0, 1], [0, 0, 1, 1, 0, 1]], ((0, 0), []))]) (by decide +kernel)
theorem zx_gl495_ok {PT : Nat → zz_W → Prop} : zx_Lok 64 zHT PT (zu_Lv 85 88 [((0, 0), [(0, 1, 0), (3, 0, 1)]), ((0, 0), [(0, 0, 1), (3, 1, 0)]), ((0, 0), [(1, 1, 0), (4, 0, 1)]), ((0, 0), [(1, 0, 1), (4, 1, 0)]), ((0, 0), [(2, 1, 0), (5, 0, 1)]), ((0, 0), [(2, 0, 1), (5, 1, 0)])]) := zu_Lv_ok (hs := [(2, [2, 0, 0], [[], []], ((0, 0), [])), (2, [2, 1, 1], [[], []], ((0, 0), [])), (2, [2, 2, 2], [[], []], ((0, 0), [])), (3, [], [], ((0, 0), [])), (0, [1], [[1, 0, 0, 0, 0, 0, 0, 1]], ((0, 0), [])), (0, [2], [[1, 0, 0, 0, 0, 0, 0, 0, 0, 0, 1]], ((0, 0), [])), (0, [3], [[1, 0, 0, 0, 0, 1], [0, 1, 0, 0, 0, 0, 1]], ((0, 0), [])), (0, [4], [[1, 0, 0, 0, 0, 0, 0, 1], [0, 1, 0, 0, 0, 0, 1], [0, 0, 1, 0, 0, 1]], ((0, 0), [])), (0, [4], [[1, 0, 0, 0, 0, 0, 0, 0, 1], [0, 1, 0, 0, 0, 0, 0, 1], [0, 0, 0, 1, 0, 0, 1]], ((0, 0), []))]) (by decide +kernel)
theorem zx_gl496_ok {PT : Nat → zz_W → Prop} : zx_Lok 64 zHT PT (zu_Ln 88) := zu_Ln_ok (by decide +kernel)
theorem zx_gl497_ok {PT : Nat → zz_W → Prop} : zx_Lok 64 zHT PT (zu_Lv 85 89 [((0, 0), [(0, 1, 0), (3, 0, 1)]), ((0, 0), [(0, 0, 1), (3, 1, 0)]), ((0, 0), [(1, 1, 0), (4, 0, 1)]), ((0, 0), [(1, 0, 1), (4, 1, 0)]), ((0, 0), [(2, 1, 0), (5, 0, 1)]), ((0, 0), [(2, 0, 1), (5, 1, 0)])]) := zu_Lv_ok (hs := [(2, [2, 0, 0], [[], []], ((0, 0), [])), (2, [2, 1, 1], [[], []], ((0, 0), [])), (2, [2, 2, 2], [[], []], ((0, 0), [])), (2, [2, 3, 3], [[6], [0, 6]], ((0, 0), [])), (3, [], [], ((0, 0), [])), (0, [1], [[1, 0, 0, 0, 0, 0, 0, 0, 0, 1]], ((0, 0), [])), (0, [2], [[1, 0, 0, 0, 0, 0, 0, 0, 0, 0, 0, 0, 1]], ((0, 0), [])), (0, [3], [[1, 0, 0, 0, 0, 0, 0, 1]], ((0, 0), [])), (0, [5], [[0, 1, 0, 0, 0, 0, 0, 0, 1], [0, 0, 1, 0, 0, 0, 0, 1], [0, 0, 0, 1, 0, 0, 1, 0, 0, 0, 0, 1], [0, 0, 0, 0, 1, 1, 0, 0, 0, 0, 0, 0, 1]], ((0, 0), [])), (0, [4], [[0, 1, 0, 0, 0, 0, 0, 0, 0, 1]], ((0, 0), []))]) (by decide +kernel)
theorem zx_gl498_ok {PT : Nat → zz_W → Prop} : zx_Lok 64 zHT PT (zu_Ln 89) := zu_Ln_ok (by decide +kernel)
theorem zx_gl499_ok {PT : Nat → zz_W → Prop} : zx_Lok 64 zHT PT (zu_Lv 85 90 [((0, 0), [(0, 1, 0), (3, 0, 1)]), ((0, 0), [(0, 0, 1), (3, 1, 0)]), ((0, 0), [(1, 1, 0), (4, 0, 1)]), ((0, 0), [(1, 0, 1), (4, 1, 0)]), ((0, 0), [(2, 1, 0), (5, 0, 1)]), ((0, 0), [(2, 0, 1), (5, 1, 0)])]) := zu_Lv_ok (hs := [(2, [2, 0, 0], [[], []], ((0, 0), [])), (2, [2, 1, 1], [[], []], ((0, 0), [])), (2, [2, 2, 2], [[], []], ((0, 0), [])), (2, [2, 4, 3], [[1], [0, 1]], ((0, 0), [])), (3, [], [], ((0, 0), [])), (0, [1], [[1, 0, 0, 0, 0, 0, 0, 0, 0, 1]], ((0, 0), [])), (0, [2], [[1, 0, 0, 0, 0, 0, 0, 0, 0, 0, 0, 0, 1]], ((0, 0), [])), (0, [3], [[1, 0, 0, 0, 0, 0, 0, 1]], ((0, 0), [])), (0, [4], [[0, 0, 1, 0, 0, 0, 0, 1]], ((0, 0), [])), (0, [5], [[0, 1, 0, 0, 0, 0, 0, 0, 0, 1], [0, 0, 0, 1, 0, 0, 0, 0, 1], [0, 0, 0, 0, 1, 0, 0, 1, 0, 0, 0, 0, 1], [0, 0, 0, 0, 0, 1, 1, 0, 0, 0, 0, 0, 0, 1]], ((0, 0), []))]) (by decide +kernel)
theorem zx_gl500_ok {PT : Nat → zz_W → Prop} : zx_Lok 64 zHT PT (zu_Ln 90) := zu_Ln_ok (by decide +kernel)
theorem zx_gl441_ok {PT : Nat → zz_W → Prop} : zx_Lok 64 zHT PT (zu_Ln 1065) := zu_Ln_ok (by decide +kernel)
theorem zx_gl442_ok {PT : Nat → zz_W → Prop} : zx_Lok 64 zHT PT (zu_Ln 2065) := zu_Ln_ok (by decide +kernel)
theorem zx_gl443_ok {PT : Nat → zz_W → Prop} : zx_Lok 64 zHT PT (zu_Ln 3065) := zu_Ln_ok (by decide +kernel)
theorem zx_gl444_ok {PT : Nat → zz_W → Prop} : zx_Lok 64 zHT PT (zu_Ln 4065) := zu_Ln_ok (by decide +kernel)
theorem zx_gl445_ok {PT : Nat → zz_W → Prop} : zx_Lok 64 zHT PT (zu_Ln 5065) := zu_Ln_ok (by decide +kernel)
theorem zx_gl446_ok {PT : Nat → zz_W → Prop} : zx_Lok 64 zHT PT (zu_Ln 80) := zu_Ln_ok (by decide +kernel)
theorem zx_gl310_ok {PT : Nat → zz_W → Prop} : zx_Lok 64 zHT PT (zu_Ln 65) := zu_Ln_ok (by decide +kernel)
theorem zx_gl311_ok {PT : Nat → zz_W → Prop} : zx_Lok 64 zHT PT (zu_Lv 65 65 [((0, 0), [(0, 0, 1), (3, 1, 0)]), ((0, 0), [(1, 1, 0), (4, 0, 1)]), ((0, 0), [(2, 0, 1), (5, 1, 0)])]) := zu_Lv_ok (hs := [(2, [2, 0, 0], [[], []], ((0, 0), [])), (2, [2, 1, 1], [[], []], ((0, 0), [])), (3, [], [], ((0, 0), [])), (0, [1], [[1, 0, 0, 0, 0, 1]], ((0, 0), [])), (0, [2], [[1, 0, 0, 0, 0, 0, 1]], ((0, 0), [])), (0, [3], [[1, 1, 0, 1, 0, 0, 0, 1]], ((0, 0), []))]) (by decide +kernel)
theorem zx_gl312_ok {PT : Nat → zz_W → Prop} : zx_Lok 64 zHT PT (zu_Li 65 [((0, 0), [(1, 0, 1)])]) := zu_Li_ok (hs := [(0, [2], [[1]], ((0, 0), []))]) (by decide +kernel)
theorem zx_gl313_ok {PT : Nat → zz_W → Prop} : zx_Lok 64 zHT PT (zu_Lx 65 65 [67, 67] [((0, 0), [(0, 1, 0), (3, 0, 1)]), ((0, 0), [(0, 0, 1), (3, 1, 0)]), ((0, 0), [(2, 1, 0), (5, 0, 1)]), ((0, 0), [(2, 0, 1), (5, 1, 0)]), ((0, 1), [(1, 0, 1), (4, 1, 0)]), ((1, 0), [(1, 1, 0), (4, 0, 1)]), ((0, 1), [(1, 0, 6), (6, 1, 0)]), ((1, 0), [(1, 6, 0), (6, 0, 1)]), ((0, 3), [(1, 0, 6), (7, 1, 0)]), ((3, 0), [(1, 6, 0), (7, 0, 1)]), ((0, 0), [(2, 1, 0), (8, 0, 1), (9, 0, 1)])]) := zu_Lx_ok (hs := [(2, [2, 0, 0], [[], []], ((0, 0), [])), (2, [2, 1, 1], [[], []], ((0, 0), [])), (3, [], [], ((0, 0), [])), (0, [1], [[1, 0, 0, 0, 0, 0, 1]], ((0, 0), [])), (1, [], [], ((0, 1), [(1, 0, 1), (10, 1, 0)])), (0, [2], [[1, 0, 0, 0, 0, 0, 0, 0, 0, 0, 0, 1]], ((0, 0), [])), (2, [2, 2, 0], [[6, 0, 0, 0, 0, 0, 0, 0, 0, 0, 0, 0, 1], [0, 6, 0, 0, 0, 0, 0, 0, 0, 0, 0, 0, 9999999, 10000000]], ((0, 0), [])), (2, [2, 3, 1], [[0, 0, 6, 0, 0, 0, 0, 0, 0, 0, 0, 0, 0, 0, 0, 0, 1], [0, 0, 0, 6, 0, 0, 0, 0, 0, 0, 0, 0, 0, 0, 0, 0, 9999999, 10000000]], ((0, 0), [])), (0, [3], [[1, 0, 1, 0, 0, 0, 0, 0, 0, 0, 0, 0, 9999999, 10000000, 0, 0, 0, 0, 0, 0, 1]], ((0, 0), [])), (0, [3], [[1, 1, 0, 1, 0, 0, 0, 9999999, 10000000]], ((0, 0), []))]) (by decide +kernel)
theorem zx_gv20_ok {PT : Nat → zz_W → Prop} : zx_Vok 64 zHT PT (zq_Vw 313 0 0 [((0, 0), [(1, 0, 1), (3, 1, 0)]), ((0, 0), [(3, 1, 0), (5, 0, 1)]), ((1, 0), [(0, 1, 0), (2, 0, 1)]), ((0, 0), [(0, 1, 0), (4, 0, 1)]), ((0, 0), [(0, 0, 1), (4, 1, 0)])]) := zq_Vw_ok (by decide) (by decide) (h1 := [(0, [[10000000, 10000000, 0, 0, 0, 10000000]]), (2, [[1, 0, 1]])]) (h2 := [(1, [[0, 1, 0, 0, 1, 0, 1]]), (1, [[0, 1, 0, 0, 1, 9999999, 10000000]])]) (h3 := [(2, [[0, 0, 0, 1, 0, 1]])]) (by decide +kernel)
theorem zx_gv21_ok {PT : Nat → zz_W → Prop} : zx_Vok 64 zHT PT (zq_Vw 313 0 0 [((0, 0), [(1, 0, 1), (3, 1, 0)]), ((0, 0), [(3, 1, 0), (5, 0, 1)]), ((0, 0), [(0, 1, 0), (2, 0, 1)])]) := zq_Vw_ok (by decide) (by decide) (h1 := [(1, [[1, 0, 0, 0, 1]]), (2, [[1, 0, 1]])]) (h2 := [(1, [[1, 0, 0, 0, 1]]), (2, [[1, 0, 1]])]) (h3 := [(2, [[0, 0, 0, 1, 0, 1]])]) (by decide +kernel)
theorem zx_gv22_ok {PT : Nat → zz_W → Prop} : zx_Vok 64 zHT PT (zq_Vw 184 1 1 [((0, 0), [(0, 0, 1), (2, 1, 0)]), ((1, 0), [(1, 1, 0), (3, 0, 1)]), ((0, 0), [(1, 1, 0), (4, 0, 1)]), ((0, 0), [(1, 0, 1), (4, 1, 0)]), ((98304, 0), [(5, 0, 1), (6, 0, 1)])]) := zq_Vw_ok (by decide) (by decide) (h1 := [(1, [[1, 0, 1]]), (0, [[10000000, 10000000, 0, 0, 10000000]]), (3, [[1]])]) (h2 := [(1, [[1, 0, 1]]), (2, [[0, 1, 0, 1, 0, 1]]), (2, [[0, 1, 0, 1, 9999999, 10000000]])]) (h3 := [(3, [[0, 0, 0, 1, 0, 1, 0, 0, 0, 0, 1]])]) (by decide +kernel)
theorem zx_gv30_ok {PT : Nat → zz_W → Prop} : zx_Vok 64 zHT PT (zu_Vw 182 0 0 [182] [((0, 0), [(1, 1, 0), (3, 0, 1)]), ((0, 0), [(1, 0, 1), (3, 1, 0)]), ((0, 0), [(0, 1, 0), (2, 0, 1)]), ((0, 0), [(4, 0, 1), (6, 1, 0)]), ((0, 0), [(4, 1, 0), (6, 0, 1)]), ((0, 0), [(5, 1, 0), (7, 0, 1)])]) := zu_Vw_ok (hs := [(2, [2, 0, 0], [[], []], ((0, 0), [])), (2, [2, 1, 1], [[], []], ((0, 0), [])), (2, [2, 3, 3], [[0, 0, 0, 0, 1], [0, 0, 0, 0, 0, 1]], ((0, 0), [])), (1, [], [], ((0, 1), [(3, 64, 0), (4, 0, 1), (13, 1, 0)])), (2, [4, 2, 2], [[0, 0, 0, 0, 0, 1, 0, 64], [0, 0, 0, 0, 0, 0, 1, 99936, 100000], [1, 0, 0, 0, 0, 1, 0, 64], [1, 0, 0, 0, 0, 1, 0, 64]], ((0, 0), [])), (3, [], [], ((0, 0), [])), (0, [1], [[1, 0, 0, 0, 0, 0, 0, 0, 0, 0, 0, 0, 1]], ((0, 0), [])), (0, [2], [[1, 0, 0, 0, 0, 0, 0, 0, 1, 0, 0, 1], [0, 1, 0, 0, 0, 1, 0, 0, 0, 1], [0, 0, 1, 0, 0, 0, 0, 0, 0, 0, 1], [0, 0, 0, 1, 0, 0, 0, 0, 0, 0, 0, 0, 1]], ((0, 0), [])), (1, [], [], ((0, 1), [(3, 0, 64), (4, 1, 0), (13, 0, 1)])), (3, [], [], ((0, 0), [])), (0, [1], [[1, 0, 0, 0, 0, 0, 0, 0, 0, 0, 0, 1]], ((0, 0), [])), (2, [3, 2, 2], [[0, 0, 0, 0, 0, 0, 0, 0, 0, 0, 1, 0, 64], [0, 0, 0, 0, 0, 0, 0, 0, 0, 0, 0, 1, 99936, 100000], [0, 0, 0, 1], [0, 0, 0, 0, 1, 0, 0, 0, 0, 0, 99999, 100000, 99936, 100000]], ((0, 0), [])), (0, [2], [[0, 0, 1, 0, 0, 0, 0, 0, 0, 1, 0, 0, 1], [0, 1, 0, 1, 0, 0, 0, 0, 0, 0, 1], [0, 0, 0, 0, 1, 0, 0, 0, 0, 0, 0, 1], [0, 0, 0, 0, 0, 1, 0, 0, 0, 0, 0, 0, 0, 1]], ((0, 0), [])), (2, [1, 2, 4], [[1], [0, 1]], ((0, 0), [])), (2, [0, 2, 4], [[0, 0, 1, 0, 0, 0, 0, 0, 1, 0, 64, 0, 0, 99999, 100000], [0, 0, 0, 1, 0, 0, 0, 0, 0, 1, 99936, 100000, 0, 1]], ((0, 0), [])), (3, [], [], ((0, 0), [])), (0, [1], [[1, 0, 0, 0, 0, 0, 0, 0, 0, 0, 0, 0, 0, 0, 0, 1]], ((0, 0), [])), (0, [2], [[1, 0, 0, 0, 0, 0, 0, 0, 0, 0, 0, 1, 0, 0, 1], [0, 1, 0, 0, 0, 1, 1, 0, 0, 0, 0, 0, 1, 0, 0, 0, 0, 0, 0, 0, 0, 1], [0, 0, 1, 0, 0, 0, 0, 0, 0, 0, 0, 0, 0, 1], [0, 0, 0, 1, 0, 0, 0, 0, 0, 0, 0, 0, 0, 0, 0, 1]], ((0, 0), []))]) (by decide +kernel)
theorem zx_gv31_ok {PT : Nat → zz_W → Prop} : zx_Vok 64 zHT PT (zu_Vw 182 0 0 [179] [((0, 0), [(1, 1, 0), (3, 0, 1)]), ((0, 0), [(1, 0, 1), (3, 1, 0)]), ((0, 0), [(0, 1, 0), (2, 0, 1)]), ((0, 0), [(1, 0, 1), (6, 1, 0)]), ((0, 0), [(1, 1, 0), (6, 0, 1)]), ((0, 0), [(1, 0, 64), (4, 1, 0), (7, 0, 1)]), ((0, 0), [(1, 64, 0), (4, 0, 1), (7, 1, 0)])]) := zu_Vw_ok (hs := [(2, [2, 0, 0], [[], []], ((0, 0), [])), (2, [2, 1, 1], [[], []], ((0, 0), [])), (2, [2, 3, 3], [[0, 0, 0, 0, 1], [0, 0, 0, 0, 0, 1]], ((0, 0), [])), (2, [2, 4, 3], [[0, 0, 0, 0, 0, 0, 1, 0, 0, 1], [0, 0, 0, 0, 0, 0, 0, 1, 0, 0, 1]], ((0, 0), [])), (2, [0, 3, 4], [[0, 0, 0, 0, 0, 0, 0, 0, 0, 0, 0, 0, 1], [0, 0, 0, 0, 0, 0, 0, 0, 0, 0, 0, 1]], ((0, 0), [])), (1, [], [], ((0, 1), [(3, 64, 0), (4, 0, 1), (13, 1, 0)])), (2, [4, 2, 2], [[0, 100000, 0, 100000, 0, 0, 100000, 0, 0, 1, 0, 64], [0, 100000, 0, 100000, 0, 0, 100000, 0, 0, 0, 1, 0, 64], [1, 100000, 0, 100000, 0, 0, 100000, 0, 0, 1, 0, 64], [1, 100000, 0, 100000, 0, 0, 100000, 0, 0, 1, 0, 64]], ((0, 0), [])), (3, [], [], ((0, 0), [])), (0, [1], [[1, 0, 0, 0, 0, 0, 0, 0, 0, 0, 0, 0, 0, 0, 0, 0, 1]], ((0, 0), [])), (0, [0], [[1562, 0, 0, 0, 0, 0, 1562, 98438, 0, 100000, 0, 0, 100000, 0, 0, 1562, 0, 99968, 0, 0, 100000, 100000, 1562]], ((0, 0), [])), (1, [], [], ((0, 1), [(3, 0, 64), (4, 1, 0), (13, 0, 1)])), (3, [], [], ((0, 0), [])), (0, [1], [[1, 0, 0, 0, 0, 0, 0, 0, 0, 0, 0, 0, 0, 0, 0, 1]], ((0, 0), [])), (2, [3, 2, 2], [[0, 0, 0, 0, 0, 0, 100000, 0, 100000, 0, 0, 100000, 0, 0, 1, 0, 64], [0, 0, 0, 0, 0, 0, 100000, 0, 100000, 0, 0, 100000, 0, 0, 0, 1, 0, 64], [0, 0, 0, 1], [0, 0, 0, 0, 1, 0, 0, 100000, 0, 100000, 100000, 0, 0, 0, 0, 1, 0, 64]], ((0, 0), [])), (0, [2], [[0, 0, 0, 0, 0, 0, 1, 0, 0, 99999, 0, 100000, 99999, 0, 0, 0, 0, 0, 0, 64, 0, 0, 0, 0, 1], [0, 1, 0, 1, 0, 0, 0, 0, 100000, 0, 100000, 0, 0, 100000, 1], [0, 0, 0, 0, 1, 0, 0, 0, 0, 0, 0, 0, 0, 0, 0, 1], [0, 0, 0, 0, 0, 1, 0, 0, 0, 0, 0, 0, 0, 0, 0, 0, 0, 1]], ((0, 0), [])), (2, [1, 2, 4], [[1], [0, 1]], ((0, 0), [])), (3, [], [], ((0, 0), [])), (0, [1], [[1, 0, 0, 0, 0, 0, 0, 0, 0, 0, 0, 0, 0, 0, 0, 0, 0, 1]], ((0, 0), [])), (0, [0], [[1562, 0, 0, 0, 0, 0, 1562, 0, 98438, 0, 100000, 0, 0, 100000, 0, 0, 1562, 0, 99968, 0, 0, 100000, 100000, 1562]], ((0, 0), []))]) (by decide +kernel)
theorem zx_gv32_ok {PT : Nat → zz_W → Prop} : zx_Vok 64 zHT PT (zu_Vw 179 0 0 [179] [((0, 0), [(1, 1, 0), (3, 0, 1)]), ((0, 0), [(1, 0, 1), (3, 1, 0)]), ((0, 0), [(0, 1, 0), (2, 0, 1)]), ((0, 0), [(4, 0, 1), (6, 1, 0)]), ((0, 0), [(4, 1, 0), (6, 0, 1)]), ((0, 0), [(5, 1, 0), (7, 0, 1)])]) := zu_Vw_ok (hs := [(2, [2, 0, 0], [[], []], ((0, 0), [])), (2, [2, 1, 1], [[], []], ((0, 0), [])), (2, [2, 2, 2], [[0, 0, 1, 0, 64], [0, 0, 0, 1, 99936, 100000]], ((0, 0), [])), (1, [], [], ((0, 1), [(3, 1, 0), (4, 0, 1)])), (2, [4, 3, 3], [[0, 0, 0, 0, 0, 0, 0, 1], [0, 0, 0, 0, 0, 0, 0, 0, 1], [], [1, 0, 0, 0, 0, 0, 0, 1]], ((0, 0), [])), (3, [], [], ((0, 0), [])), (0, [1], [[1, 0, 0, 0, 0, 0, 0, 0, 0, 0, 0, 0, 1]], ((0, 0), [])), (0, [2], [[1, 0, 0, 0, 0, 1, 0, 0, 0, 0, 0, 1], [0, 1, 0, 0, 0, 0, 0, 0, 1, 1], [0, 0, 1, 0, 0, 0, 0, 0, 0, 0, 1], [0, 0, 0, 1, 0, 0, 0, 0, 0, 0, 0, 0, 1]], ((0, 0), [])), (1, [], [], ((0, 1), [(3, 0, 1), (4, 1, 0)])), (2, [3, 3, 3], [[0, 0, 0, 0, 0, 0, 0, 0, 1], [0, 0, 0, 0, 0, 0, 0, 0, 0, 1], [], [1, 0, 0, 0, 0, 0, 0, 0, 0, 1]], ((0, 0), [])), (3, [], [], ((0, 0), [])), (0, [1], [[1, 0, 0, 0, 0, 0, 0, 0, 0, 0, 0, 0, 0, 1]], ((0, 0), [])), (0, [2], [[1, 0, 0, 0, 0, 1, 0, 0, 0, 0, 0, 0, 1], [0, 1, 0, 0, 0, 0, 0, 0, 0, 1, 1], [0, 0, 1, 0, 0, 0, 0, 0, 0, 0, 0, 1], [0, 0, 0, 1, 0, 0, 0, 0, 0, 0, 0, 0, 0, 1]], ((0, 0), [])), (2, [1, 3, 4], [[1], [0, 1]], ((0, 0), [])), (2, [0, 3, 4], [[0, 0, 1, 0, 0, 0, 0, 0, 0, 0, 1, 0, 0, 99999, 100000], [0, 0, 0, 1, 0, 0, 0, 0, 0, 0, 99999, 100000, 0, 1]], ((0, 0), [])), (3, [], [], ((0, 0), [])), (0, [1], [[1, 0, 0, 0, 0, 0, 0, 0, 0, 0, 0, 0, 0, 0, 0, 1]], ((0, 0), [])), (0, [2], [[1, 0, 0, 0, 0, 1, 1, 0, 0, 0, 0, 0, 0, 0, 1, 0, 0, 0, 0, 0, 0, 1], [0, 1, 0, 0, 0, 0, 0, 0, 0, 0, 0, 1, 1], [0, 0, 1, 0, 0, 0, 0, 0, 0, 0, 0, 0, 0, 1], [0, 0, 0, 1, 0, 0, 0, 0, 0, 0, 0, 0, 0, 0, 0, 1]], ((0, 0), []))]) (by decide +kernel)
theorem zx_gv33_ok {PT : Nat → zz_W → Prop} : zx_Vok 64 zHT PT (zu_Vw 299 0 0 [] [((0, 0), [(1, 1, 0), (3, 0, 1)]), ((0, 0), [(1, 0, 1), (3, 1, 0)]), ((0, 0), [(0, 1, 0), (2, 0, 1)]), ((0, 0), [(0, 0, 1), (4, 1, 0)])]) := zu_Vw_ok (hs := [(2, [2, 1, 1], [[], []], ((0, 0), [])), (2, [2, 3, 3], [[0, 0, 1], [0, 0, 0, 1]], ((0, 0), [])), (1, [], [], ((0, 1), [(4, 0, 1), (6, 1, 0)])), (0, [1], [[1, 0, 0, 0, 0, 0, 0, 1, 1]], ((0, 0), [])), (1, [], [], ((0, 1), [(4, 1, 0), (6, 0, 1)])), (2, [3, 0, 0], [[], [], [], [1]], ((0, 0), [])), (2, [2, 2, 2], [[1, 0, 0, 0, 0, 0, 0, 0, 64], [0, 1, 0, 0, 0, 0, 0, 0, 99936, 100000]], ((0, 0), [])), (3, [], [], ((0, 0), [])), (0, [1], [[1, 0, 0, 0, 0, 0, 0, 0, 0, 0, 0, 0, 0, 1]], ((0, 0), [])), (0, [2], [[1, 0, 0, 0, 0, 0, 1, 0, 0, 0, 0, 1], [0, 1, 0, 0, 0, 1, 0, 0, 0, 0, 0, 0, 1], [0, 0, 1, 0, 0, 0, 0, 0, 0, 0, 0, 0, 0, 1], [0, 0, 0, 1, 0, 0, 0, 1]], ((0, 0), [])), (0, [1], [[1, 0, 0, 0, 0, 0, 0, 0, 1, 1]], ((0, 0), []))]) (by decide +kernel)
theorem zx_gv34_ok {PT : Nat → zz_W → Prop} : zx_Vok 64 zHT PT (zu_Vw 300 0 0 [299, 179, 182] [((0, 0), [(1, 1, 0), (3, 0, 1)]), ((0, 0), [(1, 0, 1), (3, 1, 0)]), ((1, 0), [(0, 1, 0), (2, 0, 1)]), ((0, 0), [(0, 0, 1), (4, 1, 0)]), ((0, 0), [(0, 1, 0), (4, 0, 1)]), ((0, 0), [(4, 0, 1), (6, 1, 0)]), ((0, 0), [(4, 1, 0), (6, 0, 1)]), ((0, 0), [(1, 0, 1), (7, 1, 0)]), ((0, 0), [(1, 1, 0), (7, 0, 1)]), ((0, 0), [(1, 0, 64), (8, 1, 0), (9, 0, 1)]), ((0, 0), [(1, 64, 0), (8, 0, 1), (9, 1, 0)]), ((0, 1), [(9, 0, 1), (10, 1, 0)]), ((0, 0), [(5, 0, 1), (11, 1, 0)]), ((0, 0), [(5, 1, 0)]), ((0, 0), [(9, 1, 0)])]) := zu_Vw_ok (hs := [(2, [2, 0, 0], [[], []], ((0, 0), [])), (2, [2, 2, 2], [[1, 0, 64], [0, 1, 0, 64]], ((0, 0), [])), (2, [2, 3, 3], [[0, 0, 0, 0, 1], [0, 0, 0, 0, 0, 1]], ((0, 0), [])), (2, [2, 5, 3], [[0, 0, 0, 0, 0, 0, 1, 0, 0, 0, 0, 0, 0, 1], [0, 0, 0, 0, 0, 0, 0, 1, 0, 0, 0, 0, 0, 0, 1]], ((0, 0), [])), (2, [0, 3, 5], [[0, 0, 0, 0, 0, 0, 0, 0, 0, 0, 0, 0, 0, 0, 0, 0, 1], [0, 0, 0, 0, 0, 0, 0, 0, 0, 0, 0, 0, 0, 0, 0, 1]], ((0, 0), [])), (1, [], [], ((0, 1), [(4, 0, 1), (12, 1, 0)])), (0, [1], [[1, 100000, 0, 100000, 0, 0, 100000, 0, 0, 0, 0, 0, 0, 1, 1]], ((0, 0), [])), (1, [], [], ((0, 1), [(4, 1, 0), (12, 0, 1)])), (2, [3, 1, 1], [[], [], [], [1]], ((0, 0), [])), (3, [], [], ((0, 0), [])), (0, [0], [[100000, 0, 0, 100000, 0, 100000, 0, 100000, 0, 0, 100000, 0, 0, 0, 0, 0, 0, 0, 0, 100000]], ((0, 0), [])), (0, [2], [[1, 0, 0, 0, 0, 0, 0, 0, 0, 100000, 0, 100000, 99999, 0, 0, 0, 1], [0, 1, 0, 0, 1, 0, 0, 0, 100000, 0, 100000, 0, 0, 100000, 0, 1], [0, 0, 1, 0, 0, 1], [0, 0, 0, 1, 0, 0, 0, 0, 0, 0, 0, 0, 0, 0, 0, 0, 0, 1]], ((0, 0), [])), (2, [2, 4, 0], [[0, 1, 0, 0, 0, 0, 0, 0, 0, 0, 0, 0, 0, 0, 0, 0, 0, 1], [1, 0, 0, 0, 0, 0, 0, 0, 0, 0, 0, 0, 0, 0, 0, 0, 0, 0, 1]], ((0, 0), [])), (2, [2, 6, 2], [[1, 0, 0, 0, 100000, 0, 100000, 0, 0, 100000, 0, 0, 0, 0, 64, 0, 0, 0, 0, 0, 0, 0, 0, 1], [0, 1, 0, 0, 100000, 0, 100000, 0, 0, 100000, 0, 0, 0, 0, 0, 64, 0, 0, 0, 0, 0, 0, 0, 99999, 100000]], ((0, 0), [])), (2, [1, 1, 4], [[0, 0, 0, 0, 1], [0, 0, 0, 0, 0, 1]], ((0, 0), [])), (0, [2], [[0, 0, 0, 0, 1, 0, 0, 0, 0, 99999, 0, 100000, 99999, 0, 0, 0, 0, 0, 0, 0, 0, 0, 0, 0, 0, 0, 0, 0, 0, 1], [0, 1, 0, 1, 0, 0, 0, 0, 100000, 0, 100000, 0, 0, 100000, 0, 0, 0, 0, 0, 0, 0, 0, 0, 0, 0, 0, 0, 0, 0, 0, 1], [1, 0, 0, 0, 0, 0, 0, 0, 0, 0, 0, 0, 0, 0, 0, 0, 0, 0, 0, 0, 0, 0, 0, 0, 0, 0, 0, 0, 0, 0, 0, 1], [0, 0, 0, 0, 0, 1, 0, 0, 0, 0, 0, 0, 0, 0, 0, 0, 0, 0, 0, 0, 0, 0, 0, 0, 0, 0, 0, 0, 0, 0, 0, 0, 1]], ((0, 0), []))]) (by decide +kernel)
theorem zx_gv35_ok {PT : Nat → zz_W → Prop} : zx_Vok 64 zHT PT (zu_Vw 300 0 0 [299, 182] [((0, 0), [(1, 1, 0), (3, 0, 1)]), ((0, 0), [(1, 0, 1), (3, 1, 0)]), ((0, 0), [(0, 1, 0), (2, 0, 1)]), ((0, 0), [(4, 0, 1), (6, 1, 0)]), ((0, 0), [(4, 1, 0), (6, 0, 1)]), ((0, 0), [(1, 0, 64), (7, 1, 0), (8, 0, 1)]), ((0, 0), [(1, 64, 0), (7, 0, 1), (8, 1, 0)]), ((0, 0), [(5, 0, 1), (9, 1, 0)]), ((0, 0), [(5, 1, 0)])]) := zu_Vw_ok (hs := [(2, [2, 0, 0], [[], []], ((0, 0), [])), (2, [2, 2, 2], [[1, 0, 64], [0, 1, 99936, 100000]], ((0, 0), [])), (2, [2, 3, 3], [[0, 0, 0, 0, 1], [0, 0, 0, 0, 0, 1]], ((0, 0), [])), (1, [], [], ((0, 1), [(4, 0, 1), (10, 1, 0)])), (2, [4, 1, 1], [[], [], [], [1]], ((0, 0), [])), (3, [], [], ((0, 0), [])), (0, [1], [[1, 0, 0, 0, 0, 0, 0, 0, 0, 0, 0, 0, 1]], ((0, 0), [])), (0, [2], [[1, 0, 0, 0, 0, 0, 0, 0, 1, 0, 0, 1], [0, 1, 0, 0, 1, 0, 0, 0, 0, 0, 1], [0, 0, 1, 0, 0, 1], [0, 0, 0, 1, 0, 0, 0, 0, 0, 0, 0, 0, 1]], ((0, 0), [])), (1, [], [], ((0, 1), [(4, 1, 0), (10, 0, 1)])), (2, [3, 1, 1], [[], [], [], [1]], ((0, 0), [])), (3, [], [], ((0, 0), [])), (0, [1], [[1, 0, 0, 0, 0, 0, 0, 0, 0, 0, 0, 0, 0, 1]], ((0, 0), [])), (0, [2], [[1, 0, 0, 0, 0, 0, 0, 0, 0, 1, 0, 0, 1], [0, 1, 0, 0, 1, 0, 0, 0, 0, 0, 0, 1], [0, 0, 1, 0, 0, 1], [0, 0, 0, 1, 0, 0, 0, 0, 0, 0, 0, 0, 0, 1]], ((0, 0), [])), (2, [2, 4, 0], [[0, 1, 0, 0, 0, 0, 0, 0, 0, 0, 0, 1], [1, 0, 0, 0, 0, 0, 0, 0, 0, 0, 0, 0, 1]], ((0, 0), [])), (2, [2, 5, 2], [[1, 0, 0, 0, 0, 0, 0, 0, 0, 0, 64, 0, 0, 0, 0, 1], [0, 1, 0, 0, 0, 0, 0, 0, 0, 0, 99936, 100000, 0, 0, 0, 0, 1]], ((0, 0), [])), (2, [1, 1, 4], [[0, 0, 0, 0, 1], [0, 0, 0, 0, 0, 1]], ((0, 0), [])), (2, [0, 0, 4], [[0, 0, 0, 0, 0, 0, 1, 0, 0, 0, 0, 0, 0, 0, 0, 0, 0, 0, 1], [0, 0, 0, 0, 0, 0, 0, 1, 0, 0, 0, 0, 0, 0, 0, 0, 0, 1]], ((0, 0), [])), (2, [0, 2, 5], [[1, 0, 0, 0, 0, 0, 0, 0, 0, 0, 0, 0, 0, 0, 0, 0, 0, 0, 0, 0, 0, 0, 1], [0, 1, 0, 0, 0, 0, 0, 0, 0, 0, 0, 0, 0, 0, 0, 0, 0, 0, 0, 0, 0, 1]], ((0, 0), [])), (3, [], [], ((0, 0), [])), (0, [1], [[1, 0, 0, 0, 0, 0, 0, 0, 0, 0, 0, 0, 0, 0, 0, 0, 0, 0, 0, 0, 0, 1]], ((0, 0), [])), (0, [2], [[1, 0, 0, 0, 0, 100000, 100000, 0, 0, 0, 0, 100000, 100000, 0, 0, 0, 0, 1, 100000, 0, 0, 99999], [0, 0, 0, 0, 0, 99999, 100000, 0, 0, 1, 0, 100000, 100000, 0, 0, 0, 0, 0, 99999, 0, 0, 100000, 0, 0, 0, 0, 0, 0, 0, 1], [0, 0, 0, 0, 0, 0, 0, 0, 1, 0, 0, 0, 0, 0, 0, 0, 0, 0, 0, 0, 0, 0, 0, 0, 0, 0, 0, 0, 0, 0, 1], [0, 0, 0, 1, 0, 0, 0, 0, 0, 0, 0, 0, 0, 0, 0, 0, 0, 0, 0, 0, 0, 1]], ((0, 0), []))]) (by decide +kernel)
theorem zx_gv36_ok {PT : Nat → zz_W → Prop} : zx_Vok 64 zHT PT (zu_Vw 179 2 1 [] [((0, 0), [(3, 0, 1)]), ((0, 0), [(0, 0, 1), (2, 1, 0)]), ((0, 0), [(0, 1, 0), (2, 0, 1)])]) := zu_Vw_ok (hs := [(2, [1, 2, 3], [[0, 0, 1], [0, 1]], ((0, 0), [])), (0, [1], [[0, 1, 1]], ((0, 0), []))]) (by decide +kernel)
theorem zx_gv37_ok {PT : Nat → zz_W → Prop} : zx_Vok 64 zHT PT (zu_Vw 292 1 1 [] [((0, 0), [(0, 1, 0), (2, 0, 1)]), ((0, 0), [(0, 0, 1), (2, 1, 0)]), ((0, 0), [(1, 1, 0)]), ((0, 0), [(1, 0, 1)]), ((0, 0), [(3, 1, 0)]), ((0, 0), [(3, 0, 1)]), ((0, 0), [(5, 0, 1)])]) := zu_Vw_ok (hs := [(2, [2, 1, 1], [[64, 0, 0, 100000, 0, 100000], [99936, 100000, 0, 100000, 0, 100000]], ((0, 0), [])), (2, [2, 2, 2], [[0, 0, 1], [0, 0, 0, 1]], ((0, 0), [])), (1, [], [], ((0, 1), [(4, 0, 1), (6, 1, 0)])), (2, [4, 0, 0], [[], [], [], [1]], ((0, 0), [])), (3, [], [], ((0, 0), [])), (0, [1], [[1, 0, 0, 0, 1]], ((0, 0), [])), (0, [2], [[1, 1]], ((0, 0), [])), (0, [3], [[1, 0, 0, 0, 0, 0, 0, 1]], ((0, 0), [])), (0, [0], [[0, 1, 0, 0, 0, 0, 0, 0, 0, 0, 0, 0, 1]], ((0, 0), [])), (1, [], [], ((0, 1), [(4, 1, 0), (6, 0, 1)])), (2, [3, 0, 0], [[], [], [], [1]], ((0, 0), [])), (3, [], [], ((0, 0), [])), (0, [1], [[1, 0, 0, 0, 0, 1]], ((0, 0), [])), (0, [2], [[1, 1]], ((0, 0), [])), (0, [3], [[1, 0, 0, 0, 0, 0, 0, 0, 1]], ((0, 0), [])), (0, [0], [[0, 1, 0, 0, 0, 0, 0, 0, 0, 0, 0, 0, 0, 1]], ((0, 0), [])), (2, [1, 0, 3], [[1], [0, 1]], ((0, 0), [])), (0, [2], [[0, 1, 0, 0, 0, 0, 0, 0, 0, 0, 0, 0, 0, 0, 1]], ((0, 0), []))]) (by decide +kernel)
theorem zx_gv38_ok {PT : Nat → zz_W → Prop} : zx_Vok 64 zHT PT (zu_Vw 292 1 1 [] [((0, 0), [(0, 1, 0), (2, 0, 1)]), ((0, 0), [(0, 0, 1), (2, 1, 0)]), ((0, 1), [(1, 1, 0), (4, 0, 1)]), ((1, 0), [(1, 0, 1), (4, 1, 0)]), ((0, 0), [(3, 1, 0)]), ((0, 0), [(3, 0, 1)]), ((0, 0), [(5, 0, 1)])]) := zu_Vw_ok (hs := [(2, [2, 1, 1], [[64, 0, 0, 0, 0, 100000], [99936, 100000, 0, 0, 0, 100000]], ((0, 0), [])), (2, [2, 2, 2], [[0, 0, 1], [0, 0, 0, 1]], ((0, 0), [])), (1, [], [], ((0, 1), [(4, 0, 1), (6, 1, 0)])), (2, [4, 0, 0], [[], [], [], [1]], ((0, 0), [])), (3, [], [], ((0, 0), [])), (0, [1], [[1, 0, 0, 0, 1]], ((0, 0), [])), (0, [2], [[1, 1]], ((0, 0), [])), (0, [3], [[1, 0, 0, 0, 0, 0, 0, 1]], ((0, 0), [])), (0, [0], [[0, 100000, 0, 0, 100000, 0, 0, 0, 0, 0, 0, 0, 100000, 0, 100000]], ((0, 0), [])), (1, [], [], ((0, 1), [(4, 1, 0), (6, 0, 1)])), (2, [3, 0, 0], [[], [], [], [1]], ((0, 0), [])), (3, [], [], ((0, 0), [])), (0, [1], [[1, 0, 0, 0, 0, 1]], ((0, 0), [])), (0, [2], [[1, 1]], ((0, 0), [])), (0, [3], [[1, 0, 0, 0, 0, 0, 0, 0, 1]], ((0, 0), [])), (0, [0], [[100000, 0, 0, 0, 100000, 0, 0, 0, 0, 0, 0, 0, 100000, 0, 0, 100000]], ((0, 0), [])), (2, [1, 0, 3], [[1], [0, 1]], ((0, 0), [])), (0, [2], [[0, 1, 0, 0, 0, 0, 0, 0, 0, 0, 0, 0, 0, 0, 1]], ((0, 0), []))]) (by decide +kernel)
theorem zx_gv39_ok {PT : Nat → zz_W → Prop} : zx_Vok 64 zHT PT (zu_Vw 292 1 1 [182] [((0, 0), [(0, 1, 0), (2, 0, 1)]), ((0, 0), [(0, 0, 1), (2, 1, 0)]), ((0, 0), [(1, 1, 0)]), ((0, 0), [(1, 0, 1)]), ((0, 0), [(3, 1, 0)]), ((0, 0), [(3, 0, 1)]), ((0, 0), [(0, 0, 64), (4, 0, 1), (6, 1, 0)]), ((0, 0), [(0, 64, 0), (4, 1, 0), (6, 0, 1)]), ((0, 4), [(7, 1, 0)])]) := zu_Vw_ok (hs := [(2, [2, 1, 1], [[64, 0, 0, 100000, 0, 100000], [99936, 100000, 0, 100000, 0, 100000]], ((0, 0), [])), (2, [2, 2, 2], [[0, 0, 1], [0, 0, 0, 1]], ((0, 0), [])), (1, [], [], ((0, 1), [(4, 0, 1), (8, 1, 0)])), (2, [4, 0, 0], [[], [], [], [1]], ((0, 0), [])), (3, [], [], ((0, 0), [])), (0, [1], [[1, 0, 0, 0, 1]], ((0, 0), [])), (0, [2], [[1, 1]], ((0, 0), [])), (0, [3], [[1, 0, 0, 0, 0, 0, 0, 1]], ((0, 0), [])), (0, [0], [[0, 1, 0, 0, 0, 0, 0, 0, 0, 0, 0, 0, 1]], ((0, 0), [])), (1, [], [], ((0, 1), [(4, 1, 0), (8, 0, 1)])), (2, [3, 0, 0], [[], [], [], [1]], ((0, 0), [])), (3, [], [], ((0, 0), [])), (0, [1], [[1, 0, 0, 0, 0, 1]], ((0, 0), [])), (0, [2], [[1, 1]], ((0, 0), [])), (0, [3], [[1, 0, 0, 0, 0, 0, 0, 0, 1]], ((0, 0), [])), (0, [0], [[0, 1, 0, 0, 0, 0, 0, 0, 0, 0, 0, 0, 0, 1]], ((0, 0), [])), (2, [2, 3, 1], [[0, 1, 0, 0, 0, 0, 64, 0, 0, 100000, 0, 100000, 1], [1, 0, 0, 0, 0, 0, 0, 64, 0, 100000, 0, 100000, 99999, 100000]], ((0, 0), [])), (0, [3], [[0, 1, 0, 0, 0, 0, 0, 0, 0, 0, 0, 0, 0, 0, 0, 0, 1]], ((0, 0), []))]) (by decide +kernel)
theorem zx_gv40_ok {PT : Nat → zz_W → Prop} : zx_Vok 64 zHT PT (zu_Vw 182 1 1 [182] [((0, 0), [(0, 1, 0), (2, 0, 1)]), ((0, 0), [(0, 0, 1), (2, 1, 0)]), ((0, 0), [(1, 1, 0), (3, 0, 1)]), ((0, 0), [(1, 0, 1), (3, 1, 0)]), ((0, 0), [(4, 0, 1), (6, 1, 0)]), ((0, 0), [(4, 1, 0), (6, 0, 1)]), ((0, 0), [(5, 1, 0), (7, 0, 1)])]) := zu_Vw_ok (hs := [(2, [2, 0, 0], [[], []], ((0, 0), [])), (2, [2, 2, 2], [[0, 0, 1], [0, 0, 0, 1]], ((0, 0), [])), (1, [], [], ((0, 1), [(2, 64, 0), (4, 0, 1), (8, 1, 0)])), (2, [4, 1, 1], [[0, 0, 0, 0, 0, 64], [0, 0, 0, 0, 0, 99936, 100000], [], [1, 0, 0, 0, 0, 64]], ((0, 0), [])), (3, [], [], ((0, 0), [])), (0, [1], [[1, 0, 0, 0, 1]], ((0, 0), [])), (0, [2], [[1, 0, 0, 0, 0, 0, 1]], ((0, 0), [])), (0, [3], [[1, 0, 1]], ((0, 0), [])), (0, [4], [[1, 0, 0, 0, 0, 0, 0, 0, 0, 0, 0, 1], [0, 1, 0, 0, 0, 0, 0, 0, 0, 0, 0, 0, 1]], ((0, 0), [])), (1, [], [], ((0, 1), [(2, 0, 64), (4, 1, 0), (8, 0, 1)])), (2, [3, 1, 1], [[0, 0, 0, 0, 0, 0, 64], [0, 0, 0, 0, 0, 0, 99936, 100000], [], [1, 0, 0, 0, 0, 0, 99936, 100000]], ((0, 0), [])), (3, [], [], ((0, 0), [])), (0, [1], [[1, 0, 0, 0, 0, 1]], ((0, 0), [])), (0, [2], [[1, 0, 0, 0, 0, 0, 0, 1]], ((0, 0), [])), (0, [3], [[1, 0, 1]], ((0, 0), [])), (0, [4], [[1, 0, 0, 0, 0, 0, 0, 0, 0, 0, 0, 0, 1], [0, 1, 0, 0, 0, 0, 0, 0, 0, 0, 0, 0, 0, 1]], ((0, 0), [])), (2, [1, 1, 3], [[1], [0, 1]], ((0, 0), [])), (2, [0, 1, 3], [[0, 0, 1, 0, 0, 0, 0, 0, 64, 0, 0, 0, 99999, 100000], [0, 0, 0, 1, 0, 0, 0, 0, 99936, 100000, 0, 0, 1]], ((0, 0), [])), (3, [], [], ((0, 0), [])), (0, [1], [[1, 0, 0, 0, 0, 0, 0, 1]], ((0, 0), [])), (0, [2], [[1, 0, 0, 0, 0, 0, 0, 0, 0, 1]], ((0, 0), [])), (0, [3], [[1, 0, 1, 1, 0, 0, 0, 0, 0, 0, 0, 0, 0, 0, 0, 0, 0, 1]], ((0, 0), [])), (0, [4], [[1, 0, 0, 0, 0, 0, 0, 0, 0, 0, 0, 0, 0, 0, 1], [0, 1, 0, 0, 0, 0, 0, 0, 0, 0, 0, 0, 0, 0, 0, 1]], ((0, 0), []))]) (by decide +kernel)
theorem zx_gv41_ok {PT : Nat → zz_W → Prop} : zx_Vok 64 zHT PT (zu_Vw 182 1 1 [179] [((0, 0), [(0, 1, 0), (2, 0, 1)]), ((0, 0), [(0, 0, 1), (2, 1, 0)]), ((0, 0), [(1, 1, 0), (3, 0, 1)]), ((0, 0), [(1, 0, 1), (3, 1, 0)]), ((0, 0), [(0, 0, 1), (6, 1, 0)]), ((0, 0), [(0, 1, 0), (6, 0, 1)]), ((0, 0), [(0, 0, 64), (4, 1, 0), (7, 0, 1)]), ((0, 0), [(0, 64, 0), (4, 0, 1), (7, 1, 0)])]) := zu_Vw_ok (hs := [(2, [2, 0, 0], [[], []], ((0, 0), [])), (2, [2, 2, 2], [[0, 0, 1], [0, 0, 0, 1]], ((0, 0), [])), (2, [2, 3, 2], [[0, 0, 0, 0, 1, 0, 0, 0, 1], [0, 0, 0, 0, 0, 1, 0, 0, 0, 1]], ((0, 0), [])), (2, [0, 2, 3], [[0, 0, 0, 0, 0, 0, 0, 0, 0, 0, 0, 1], [0, 0, 0, 0, 0, 0, 0, 0, 0, 0, 1]], ((0, 0), [])), (1, [], [], ((0, 1), [(2, 64, 0), (4, 0, 1), (8, 1, 0)])), (0, [1], [[1, 99999, 0, 100000, 0, 0, 99999, 0, 0, 64, 0, 0, 0, 0, 0, 1]], ((0, 0), [])), (1, [], [], ((0, 1), [(2, 0, 64), (4, 1, 0), (8, 0, 1)])), (2, [3, 1, 1], [[0, 0, 100000, 0, 100000, 0, 0, 100000, 0, 0, 64], [0, 0, 100000, 0, 100000, 0, 0, 100000, 0, 0, 0, 64], [], [1, 0, 100000, 0, 100000, 0, 0, 100000, 0, 0, 0, 64]], ((0, 0), [])), (3, [], [], ((0, 0), [])), (0, [0], [[1562, 0, 0, 1562, 0, 0, 98438, 0, 100000, 100000, 0, 0, 0, 0, 99968, 0, 0, 100000, 100000, 98438, 100000]], ((0, 0), [])), (0, [2], [[1, 0, 0, 0, 0, 0, 0, 0, 0, 0, 0, 1]], ((0, 0), [])), (0, [3], [[1, 0, 1]], ((0, 0), [])), (0, [4], [[1, 0, 0, 0, 0, 0, 0, 0, 0, 0, 0, 0, 0, 0, 0, 0, 1], [0, 1, 0, 0, 0, 0, 0, 0, 0, 0, 0, 0, 0, 0, 0, 0, 0, 1]], ((0, 0), [])), (0, [1], [[1, 0, 99999, 0, 100000, 0, 0, 99999, 0, 0, 64, 0, 0, 0, 0, 0, 1]], ((0, 0), []))]) (by decide +kernel)
theorem zx_gv42_ok {PT : Nat → zz_W → Prop} : zx_Vok 64 zHT PT (zu_Vw 179 1 1 [179] [((0, 0), [(0, 1, 0), (2, 0, 1)]), ((0, 0), [(0, 0, 1), (2, 1, 0)]), ((0, 0), [(1, 1, 0)]), ((0, 0), [(1, 0, 1)]), ((0, 0), [(0, 0, 1), (6, 1, 0)]), ((0, 0), [(0, 1, 0), (6, 0, 1)]), ((0, 0), [(0, 0, 1), (4, 1, 0)]), ((0, 0), [(0, 1, 0), (4, 0, 1)]), ((0, 1), [(5, 1, 0), (7, 0, 1)]), ((1, 0), [(5, 0, 1), (7, 1, 0)]), ((0, 0), [(3, 1, 0), (5, 0, 1)]), ((0, 0), [(3, 0, 1), (5, 1, 0)])]) := zu_Vw_ok (hs := [(2, [2, 0, 0], [[], []], ((0, 0), [])), (2, [2, 1, 1], [[0, 0, 64, 0, 0, 100000], [0, 0, 0, 64, 0, 100000]], ((0, 0), [])), (2, [1, 2, 3], [[0, 0, 0, 0, 0, 1, 0, 0, 0, 0, 0, 1], [0, 0, 0, 0, 1, 0, 0, 0, 0, 0, 1]], ((0, 0), [])), (2, [0, 2, 3], [[0, 0, 0, 0, 0, 0, 0, 0, 0, 0, 0, 1], [0, 0, 0, 0, 0, 0, 0, 0, 0, 0, 1]], ((0, 0), [])), (3, [], [], ((0, 0), [])), (1, [], [], ((0, 1), [(7, 0, 1), (8, 1, 0)])), (0, [1], [[1, 0, 0, 0, 0, 1, 0, 0, 0, 0, 0, 0, 0, 100000, 0, 0, 0, 0, 0, 1]], ((0, 0), [])), (0, [4], [[99999, 100000, 100000, 0, 0, 0, 0, 0, 0, 0, 0, 0, 0, 100000, 0, 0, 0, 0, 0, 1, 99999, 100000], [1, 0, 0, 0, 0, 0, 0, 0, 0, 0, 0, 0, 0, 100000, 0, 0, 0, 0, 1, 0, 1]], ((0, 0), [])), (0, [2], [[1, 0, 0, 0, 0, 0, 0, 1]], ((0, 0), [])), (0, [3], [[1, 0, 0, 0, 0, 0, 1]], ((0, 0), [])), (0, [0], [[0, 1, 0, 0, 0, 0, 0, 0, 0, 0, 0, 0, 0, 1]], ((0, 0), []))]) (by decide +kernel)
theorem zx_gv50_ok {PT : Nat → zz_W → Prop} : zx_Vok 64 zHT PT (zu_Vw 180 10 10 [] [((0, 0), [(0, 1, 0), (3, 0, 1)]), ((0, 0), [(0, 0, 1), (3, 1, 0)]), ((0, 0), [(1, 1, 0), (4, 0, 1)]), ((0, 0), [(1, 0, 1), (4, 1, 0)]), ((0, 1), [(2, 0, 1), (5, 1, 0)]), ((1, 0), [(2, 1, 0), (5, 0, 1)]), ((0, 0), [(2, 0, 1), (6, 1, 0)]), ((0, 0), [(2, 1, 0), (6, 0, 1)]), ((0, 0), [(1, 0, 64), (2, 1, 0)]), ((63, 0), [(1, 64, 0), (2, 0, 1)])]) := zu_Vw_ok (hs := [(2, [2, 0, 0], [[], []], ((0, 0), [])), (1, [], [], ((0, 1), [(6, 0, 1), (8, 64, 0), (9, 1, 0)])), (2, [4, 1, 1], [[], [], [], [1]], ((0, 0), [])), (2, [2, 2, 2], [[1], [0, 1]], ((0, 0), [])), (3, [], [], ((0, 0), [])), (0, [1], [[1, 0, 0, 0, 0, 0, 1]], ((0, 0), [])), (0, [0], [[99968, 0, 0, 0, 0, 1562, 0, 0, 0, 0, 0, 0, 100000, 100000, 1562, 0, 1562]], ((0, 0), [])), (0, [0], [[0, 100000, 0, 0, 0, 0, 100000, 0, 0, 0, 0, 0, 0, 0, 0, 100000]], ((0, 0), [])), (0, [4], [[1], [0, 1, 0, 0, 0, 0, 0, 0, 0, 1]], ((0, 0), [])), (0, [5], [[1, 0, 1]], ((0, 0), [])), (1, [], [], ((0, 1), [(6, 1, 0), (8, 0, 64), (9, 0, 1)])), (2, [3, 1, 1], [[], [], [], [1]], ((0, 0), [])), (2, [2, 2, 2], [[1], [0, 1]], ((0, 0), [])), (3, [], [], ((0, 0), [])), (0, [1], [[1, 0, 0, 0, 0, 0, 0, 1]], ((0, 0), [])), (0, [2], [[1, 0, 0, 0, 0, 0, 0, 0, 0, 0, 0, 0, 1]], ((0, 0), [])), (0, [3], [[1, 0, 0, 0, 0, 0, 0, 0, 0, 0, 0, 0, 0, 1], [0, 1, 0, 0, 0, 0, 0, 0, 0, 0, 0, 0, 0, 0, 1]], ((0, 0), [])), (0, [4], [[1], [0, 1, 0, 0, 0, 0, 0, 0, 0, 0, 1]], ((0, 0), [])), (0, [5], [[1, 0, 1]], ((0, 0), [])), (2, [1, 1, 3], [[1], [0, 1]], ((0, 0), [])), (3, [], [], ((0, 0), [])), (0, [1], [[1, 0, 0, 0, 0, 1]], ((0, 0), [])), (0, [0], [[99968, 0, 0, 1562, 0, 0, 0, 0, 0, 0, 0, 100000, 100000, 1562, 0, 1562]], ((0, 0), [])), (0, [0], [[0, 100000, 0, 0, 100000, 0, 0, 0, 0, 0, 0, 0, 0, 0, 100000]], ((0, 0), [])), (0, [4], [[1], [0, 1, 0, 0, 0, 0, 0, 0, 1]], ((0, 0), [])), (1, [], [], ((0, 1), [(1, 0, 1), (8, 1, 0)])), (0, [0], [[99968, 0, 0, 0, 0, 1562, 0, 0, 0, 0, 0, 0, 100000, 100000, 0, 1562, 0, 1562]], ((0, 0), [])), (0, [3], [[1, 0, 0, 0, 0, 0, 0, 0, 0, 0, 0, 1], [0, 0, 0, 0, 0, 1, 0, 0, 0, 0, 0, 0, 1, 0, 0, 1]], ((0, 0), []))]) (by decide +kernel)
theorem zx_gv51_ok {PT : Nat → zz_W → Prop} : zx_Vok 64 zHT PT (zu_Vw 189 11 11 [] [((0, 0), [(0, 1, 0), (3, 0, 1)]), ((0, 0), [(0, 0, 1), (3, 1, 0)]), ((0, 0), [(1, 1, 0), (4, 0, 1)]), ((0, 0), [(1, 0, 1), (4, 1, 0)]), ((0, 1), [(2, 0, 1), (5, 1, 0)]), ((1, 0), [(2, 1, 0), (5, 0, 1)]), ((0, 0), [(2, 0, 1), (6, 1, 0)]), ((0, 0), [(2, 1, 0), (6, 0, 1)]), ((0, 0), [(1, 0, 600), (2, 1, 0)]), ((599, 0), [(1, 600, 0), (2, 0, 1)])]) := zu_Vw_ok (hs := [(2, [2, 0, 0], [[], []], ((0, 0), [])), (1, [], [], ((0, 1), [(6, 0, 1), (8, 600, 0), (9, 1, 0)])), (2, [4, 1, 1], [[], [], [], [1]], ((0, 0), [])), (2, [2, 2, 2], [[1], [0, 1]], ((0, 0), [])), (3, [], [], ((0, 0), [])), (0, [1], [[1, 0, 0, 0, 0, 0, 1]], ((0, 0), [])), (0, [0], [[99600, 0, 0, 0, 0, 166, 0, 0, 0, 0, 0, 0, 100000, 100000, 166, 0, 166]], ((0, 0), [])), (0, [0], [[0, 100000, 0, 0, 0, 0, 100000, 0, 0, 0, 0, 0, 0, 0, 0, 100000]], ((0, 0), [])), (0, [4], [[1], [0, 1, 0, 0, 0, 0, 0, 0, 0, 1]], ((0, 0), [])), (0, [5], [[1, 0, 1]], ((0, 0), [])), (1, [], [], ((0, 1), [(6, 1, 0), (8, 0, 600), (9, 0, 1)])), (2, [3, 1, 1], [[], [], [], [1]], ((0, 0), [])), (2, [2, 2, 2], [[1], [0, 1]], ((0, 0), [])), (3, [], [], ((0, 0), [])), (0, [1], [[1, 0, 0, 0, 0, 0, 0, 1]], ((0, 0), [])), (0, [2], [[1, 0, 0, 0, 0, 0, 0, 0, 0, 0, 0, 0, 1]], ((0, 0), [])), (0, [3], [[1, 0, 0, 0, 0, 0, 0, 0, 0, 0, 0, 0, 0, 1], [0, 1, 0, 0, 0, 0, 0, 0, 0, 0, 0, 0, 0, 0, 1]], ((0, 0), [])), (0, [4], [[1], [0, 1, 0, 0, 0, 0, 0, 0, 0, 0, 1]], ((0, 0), [])), (0, [5], [[1, 0, 1]], ((0, 0), [])), (2, [1, 1, 3], [[1], [0, 1]], ((0, 0), [])), (3, [], [], ((0, 0), [])), (0, [1], [[1, 0, 0, 0, 0, 1]], ((0, 0), [])), (0, [0], [[99600, 0, 0, 166, 0, 0, 0, 0, 0, 0, 0, 100000, 100000, 166, 0, 166]], ((0, 0), [])), (0, [0], [[0, 100000, 0, 0, 100000, 0, 0, 0, 0, 0, 0, 0, 0, 0, 100000]], ((0, 0), [])), (0, [4], [[1], [0, 1, 0, 0, 0, 0, 0, 0, 1]], ((0, 0), [])), (1, [], [], ((0, 1), [(1, 0, 1), (8, 1, 0)])), (0, [0], [[99600, 0, 0, 0, 0, 166, 0, 0, 0, 0, 0, 0, 100000, 100000, 0, 166, 0, 166]], ((0, 0), [])), (0, [3], [[1, 0, 0, 0, 0, 0, 0, 0, 0, 0, 0, 1], [0, 0, 0, 0, 0, 1, 0, 0, 0, 0, 0, 0, 1, 0, 0, 1]], ((0, 0), []))]) (by decide +kernel)
theorem zx_gv52_ok {PT : Nat → zz_W → Prop} : zx_Vok 64 zHT PT (zu_Vw 201 12 12 [] [((0, 0), [(0, 1, 0), (3, 0, 1)]), ((0, 0), [(0, 0, 1), (3, 1, 0)]), ((0, 0), [(1, 1, 0), (4, 0, 1)]), ((0, 0), [(1, 0, 1), (4, 1, 0)]), ((0, 1), [(2, 0, 1), (5, 1, 0)]), ((1, 0), [(2, 1, 0), (5, 0, 1)]), ((0, 0), [(2, 0, 1), (6, 1, 0)]), ((0, 0), [(2, 1, 0), (6, 0, 1)]), ((0, 0), [(1, 0, 3000), (2, 1, 0)]), ((2999, 0), [(1, 3000, 0), (2, 0, 1)])]) := zu_Vw_ok (hs := [(2, [2, 0, 0], [[], []], ((0, 0), [])), (1, [], [], ((0, 1), [(6, 0, 1), (8, 3000, 0), (9, 1, 0)])), (2, [4, 1, 1], [[], [], [], [1]], ((0, 0), [])), (2, [2, 2, 2], [[1], [0, 1]], ((0, 0), [])), (3, [], [], ((0, 0), [])), (0, [1], [[1, 0, 0, 0, 0, 0, 1]], ((0, 0), [])), (0, [0], [[99000, 0, 0, 0, 0, 33, 0, 0, 0, 0, 0, 0, 100000, 100000, 33, 0, 33]], ((0, 0), [])), (0, [0], [[0, 100000, 0, 0, 0, 0, 100000, 0, 0, 0, 0, 0, 0, 0, 0, 100000]], ((0, 0), [])), (0, [4], [[1], [0, 1, 0, 0, 0, 0, 0, 0, 0, 1]], ((0, 0), [])), (0, [5], [[1, 0, 1]], ((0, 0), [])), (0, [6], [[1, 0, 0, 1]], ((0, 0), [])), (1, [], [], ((0, 1), [(6, 1, 0), (8, 0, 3000), (9, 0, 1)])), (2, [3, 1, 1], [[], [], [], [1]], ((0, 0), [])), (2, [2, 2, 2], [[1], [0, 1]], ((0, 0), [])), (3, [], [], ((0, 0), [])), (0, [1], [[1, 0, 0, 0, 0, 0, 0, 1]], ((0, 0), [])), (0, [2], [[1, 0, 0, 0, 0, 0, 0, 0, 0, 0, 0, 0, 1]], ((0, 0), [])), (0, [3], [[1, 0, 0, 0, 0, 0, 0, 0, 0, 0, 0, 0, 0, 1], [0, 1, 0, 0, 0, 0, 0, 0, 0, 0, 0, 0, 0, 0, 1]], ((0, 0), [])), (0, [4], [[1], [0, 1, 0, 0, 0, 0, 0, 0, 0, 0, 1]], ((0, 0), [])), (0, [5], [[1, 0, 1]], ((0, 0), [])), (0, [6], [[1, 0, 0, 1]], ((0, 0), [])), (2, [1, 1, 3], [[1], [0, 1]], ((0, 0), [])), (3, [], [], ((0, 0), [])), (0, [1], [[1, 0, 0, 0, 0, 1]], ((0, 0), [])), (0, [0], [[99000, 0, 0, 33, 0, 0, 0, 0, 0, 0, 0, 100000, 100000, 33, 0, 33]], ((0, 0), [])), (0, [0], [[0, 100000, 0, 0, 100000, 0, 0, 0, 0, 0, 0, 0, 0, 0, 100000]], ((0, 0), [])), (0, [4], [[1], [0, 1, 0, 0, 0, 0, 0, 0, 1]], ((0, 0), [])), (1, [], [], ((0, 1), [(1, 0, 1), (8, 1, 0)])), (0, [0], [[99000, 0, 0, 0, 0, 33, 0, 0, 0, 0, 0, 0, 100000, 100000, 0, 33, 0, 33]], ((0, 0), [])), (0, [3], [[1, 0, 0, 0, 0, 0, 0, 0, 0, 0, 0, 1], [0, 0, 0, 0, 0, 1, 0, 0, 0, 0, 0, 0, 1, 0, 0, 1]], ((0, 0), [])), (1, [], [], ((0, 1), [(1, 0, 1), (8, 1, 0)])), (0, [0], [[99000, 0, 0, 0, 0, 33, 0, 0, 0, 0, 0, 0, 100000, 100000, 0, 33, 0, 33]], ((0, 0), [])), (0, [3], [[1, 0, 0, 0, 0, 0, 0, 0, 0, 0, 0, 1], [0, 0, 0, 0, 0, 1, 0, 0, 0, 0, 0, 0, 1, 0, 0, 1]], ((0, 0), []))]) (by decide +kernel)
theorem zx_gv53_ok {PT : Nat → zz_W → Prop} : zx_Vok 64 zHT PT (zu_Vw 204 13 13 [] [((0, 0), [(0, 1, 0), (3, 0, 1)]), ((0, 0), [(0, 0, 1), (3, 1, 0)]), ((0, 0), [(1, 1, 0), (4, 0, 1)]), ((0, 0), [(1, 0, 1), (4, 1, 0)]), ((0, 1), [(2, 0, 1), (5, 1, 0)]), ((1, 0), [(2, 1, 0), (5, 0, 1)]), ((0, 0), [(2, 0, 1), (6, 1, 0)]), ((0, 0), [(2, 1, 0), (6, 0, 1)]), ((0, 0), [(1, 0, 600), (2, 1, 0)]), ((599, 0), [(1, 600, 0), (2, 0, 1)])]) := zu_Vw_ok (hs := [(2, [2, 0, 0], [[], []], ((0, 0), [])), (1, [], [], ((0, 1), [(6, 0, 1), (8, 600, 0), (9, 1, 0)])), (2, [4, 1, 1], [[], [], [], [1]], ((0, 0), [])), (2, [2, 2, 2], [[1], [0, 1]], ((0, 0), [])), (3, [], [], ((0, 0), [])), (0, [1], [[1, 0, 0, 0, 0, 0, 1]], ((0, 0), [])), (0, [0], [[99600, 0, 0, 0, 0, 166, 0, 0, 0, 0, 0, 0, 100000, 100000, 166, 0, 166]], ((0, 0), [])), (0, [0], [[0, 100000, 0, 0, 0, 0, 100000, 0, 0, 0, 0, 0, 0, 0, 0, 100000]], ((0, 0), [])), (0, [4], [[1], [0, 1, 0, 0, 0, 0, 0, 0, 0, 1]], ((0, 0), [])), (0, [5], [[1, 0, 1]], ((0, 0), [])), (1, [], [], ((0, 1), [(6, 1, 0), (8, 0, 600), (9, 0, 1)])), (2, [3, 1, 1], [[], [], [], [1]], ((0, 0), [])), (2, [2, 2, 2], [[1], [0, 1]], ((0, 0), [])), (3, [], [], ((0, 0), [])), (0, [1], [[1, 0, 0, 0, 0, 0, 0, 1]], ((0, 0), [])), (0, [2], [[1, 0, 0, 0, 0, 0, 0, 0, 0, 0, 0, 0, 1]], ((0, 0), [])), (0, [3], [[1, 0, 0, 0, 0, 0, 0, 0, 0, 0, 0, 0, 0, 1], [0, 1, 0, 0, 0, 0, 0, 0, 0, 0, 0, 0, 0, 0, 1]], ((0, 0), [])), (0, [4], [[1], [0, 1, 0, 0, 0, 0, 0, 0, 0, 0, 1]], ((0, 0), [])), (0, [5], [[1, 0, 1]], ((0, 0), [])), (2, [1, 1, 3], [[1], [0, 1]], ((0, 0), [])), (3, [], [], ((0, 0), [])), (0, [1], [[1, 0, 0, 0, 0, 1]], ((0, 0), [])), (0, [0], [[99600, 0, 0, 166, 0, 0, 0, 0, 0, 0, 0, 100000, 100000, 166, 0, 166]], ((0, 0), [])), (0, [0], [[0, 100000, 0, 0, 100000, 0, 0, 0, 0, 0, 0, 0, 0, 0, 100000]], ((0, 0), [])), (0, [4], [[1], [0, 1, 0, 0, 0, 0, 0, 0, 1]], ((0, 0), [])), (1, [], [], ((0, 1), [(1, 0, 1), (8, 1, 0)])), (0, [0], [[99600, 0, 0, 0, 0, 166, 0, 0, 0, 0, 0, 0, 100000, 100000, 0, 166, 0, 166]], ((0, 0), [])), (0, [3], [[1, 0, 0, 0, 0, 0, 0, 0, 0, 0, 0, 1], [0, 0, 0, 0, 0, 1, 0, 0, 0, 0, 0, 0, 1, 0, 0, 1]], ((0, 0), []))]) (by decide +kernel)
theorem zx_gv54_ok {PT : Nat → zz_W → Prop} : zx_Vok 64 zHT PT (zu_Vw 214 14 14 [] [((0, 0), [(0, 1, 0), (3, 0, 1)]), ((0, 0), [(0, 0, 1), (3, 1, 0)]), ((0, 0), [(1, 1, 0), (4, 0, 1)]), ((0, 0), [(1, 0, 1), (4, 1, 0)]), ((0, 1), [(2, 0, 1), (5, 1, 0)]), ((1, 0), [(2, 1, 0), (5, 0, 1)]), ((0, 0), [(2, 0, 1), (6, 1, 0)]), ((0, 0), [(2, 1, 0), (6, 0, 1)]), ((0, 0), [(1, 0, 64), (2, 1, 0)]), ((63, 0), [(1, 64, 0), (2, 0, 1)])]) := zu_Vw_ok (hs := [(2, [2, 0, 0], [[], []], ((0, 0), [])), (1, [], [], ((0, 1), [(6, 0, 1), (8, 64, 0), (9, 1, 0)])), (2, [4, 1, 1], [[], [], [], [1]], ((0, 0), [])), (2, [2, 2, 2], [[1], [0, 1]], ((0, 0), [])), (3, [], [], ((0, 0), [])), (0, [1], [[1, 0, 0, 0, 0, 0, 1]], ((0, 0), [])), (0, [0], [[99968, 0, 0, 0, 0, 1562, 0, 0, 0, 0, 0, 0, 100000, 100000, 1562, 0, 1562]], ((0, 0), [])), (0, [0], [[0, 100000, 0, 0, 0, 0, 100000, 0, 0, 0, 0, 0, 0, 0, 0, 100000]], ((0, 0), [])), (0, [4], [[], [0, 1, 0, 0, 0, 0, 0, 0, 0, 1]], ((0, 0), [])), (0, [5], [[1, 0, 1]], ((0, 0), [])), (1, [], [], ((0, 1), [(6, 1, 0), (8, 0, 64), (9, 0, 1)])), (2, [3, 1, 1], [[], [], [], [1]], ((0, 0), [])), (2, [2, 2, 2], [[1], [0, 1]], ((0, 0), [])), (3, [], [], ((0, 0), [])), (0, [1], [[1, 0, 0, 0, 0, 0, 0, 1]], ((0, 0), [])), (0, [2], [[1, 0, 0, 0, 0, 0, 0, 0, 0, 0, 0, 0, 1]], ((0, 0), [])), (0, [3], [[1, 0, 0, 0, 0, 0, 0, 0, 0, 0, 0, 0, 0, 1], [0, 1, 0, 0, 0, 0, 0, 0, 0, 0, 0, 0, 0, 0, 1]], ((0, 0), [])), (0, [4], [[], [0, 1, 0, 0, 0, 0, 0, 0, 0, 0, 1]], ((0, 0), [])), (0, [5], [[1, 0, 1]], ((0, 0), [])), (2, [1, 1, 3], [[1], [0, 1]], ((0, 0), [])), (3, [], [], ((0, 0), [])), (0, [1], [[1, 0, 0, 0, 0, 1]], ((0, 0), [])), (0, [0], [[99968, 0, 0, 1562, 0, 0, 0, 0, 0, 0, 0, 100000, 100000, 1562, 0, 1562]], ((0, 0), [])), (0, [0], [[0, 100000, 0, 0, 100000, 0, 0, 0, 0, 0, 0, 0, 0, 0, 100000]], ((0, 0), [])), (0, [4], [[], [0, 1, 0, 0, 0, 0, 0, 0, 1]], ((0, 0), [])), (1, [], [], ((0, 1), [(1, 0, 1), (8, 1, 0)])), (0, [0], [[99968, 0, 0, 0, 0, 1562, 0, 0, 0, 0, 0, 0, 100000, 100000, 0, 1562, 0, 1562]], ((0, 0), [])), (0, [3], [[1, 0, 0, 0, 0, 0, 0, 0, 0, 0, 0, 1], [0, 0, 0, 0, 0, 1, 0, 0, 0, 0, 0, 0, 1, 0, 0, 1]], ((0, 0), []))]) (by decide +kernel)
theorem zx_gv55_ok {PT : Nat → zz_W → Prop} : zx_Vok 64 zHT PT (zu_Vw 209 15 15 [] [((0, 0), [(0, 1, 0), (3, 0, 1)]), ((0, 0), [(0, 0, 1), (3, 1, 0)]), ((0, 0), [(1, 1, 0), (4, 0, 1)]), ((0, 0), [(1, 0, 1), (4, 1, 0)]), ((0, 1), [(2, 0, 1), (5, 1, 0)]), ((1, 0), [(2, 1, 0), (5, 0, 1)]), ((0, 0), [(2, 0, 1), (6, 1, 0)]), ((0, 0), [(2, 1, 0), (6, 0, 1)]), ((0, 0), [(1, 0, 8000), (2, 1, 0)]), ((7999, 0), [(1, 8000, 0), (2, 0, 1)])]) := zu_Vw_ok (hs := [(2, [2, 0, 0], [[], []], ((0, 0), [])), (2, [2, 1, 1], [[], []], ((0, 0), [])), (2, [2, 4, 4], [[], []], ((0, 0), [])), (1, [], [], ((0, 1), [(6, 0, 1), (8, 8000, 0), (9, 1, 0)])), (2, [4, 2, 2], [[], [], [], [1]], ((0, 0), [])), (2, [2, 3, 3], [[1], [0, 1]], ((0, 0), [])), (3, [], [], ((0, 0), [])), (0, [1], [[1, 0, 0, 0, 0, 0, 0, 0, 0, 0, 1]], ((0, 0), [])), (0, [0], [[96000, 0, 0, 0, 0, 12, 0, 0, 0, 0, 0, 0, 0, 0, 0, 0, 100000, 100000, 12, 0, 12]], ((0, 0), [])), (0, [0], [[0, 100000, 0, 0, 0, 0, 100000, 0, 0, 0, 0, 0, 0, 0, 0, 0, 0, 0, 0, 100000]], ((0, 0), [])), (0, [4], [[], [0, 1, 0, 0, 0, 0, 0, 0, 0, 0, 0, 0, 0, 1]], ((0, 0), [])), (0, [5], [[1, 0, 0, 0, 0, 0, 0, 0, 1]], ((0, 0), [])), (0, [6], [[1, 0, 0, 0, 0, 0, 0, 0, 0, 0, 1], [0, 1, 0, 0, 0, 0, 0, 0, 0, 1]], ((0, 0), [])), (0, [7], [[1, 0, 0, 0, 0, 0, 0, 0, 0, 1]], ((0, 0), [])), (0, [8], [[1, 0, 0, 0, 0, 0, 1]], ((0, 0), [])), (0, [9], [[1, 0, 1]], ((0, 0), [])), (1, [], [], ((0, 1), [(6, 1, 0), (8, 0, 8000), (9, 0, 1)])), (2, [3, 2, 2], [[], [], [], [1]], ((0, 0), [])), (2, [2, 3, 3], [[1], [0, 1]], ((0, 0), [])), (3, [], [], ((0, 0), [])), (0, [1], [[1, 0, 0, 0, 0, 0, 0, 0, 0, 0, 0, 1]], ((0, 0), [])), (0, [2], [[1, 0, 0, 0, 0, 0, 0, 0, 0, 0, 0, 0, 0, 0, 0, 0, 1]], ((0, 0), [])), (0, [3], [[1, 0, 0, 0, 0, 0, 0, 0, 0, 0, 0, 0, 0, 0, 0, 0, 0, 1], [0, 1, 0, 0, 0, 0, 0, 0, 0, 0, 0, 0, 0, 0, 0, 0, 0, 0, 1]], ((0, 0), [])), (0, [4], [[], [0, 1, 0, 0, 0, 0, 0, 0, 0, 0, 0, 0, 0, 0, 1]], ((0, 0), [])), (0, [5], [[1, 0, 0, 0, 0, 0, 0, 0, 0, 1]], ((0, 0), [])), (0, [6], [[1, 0, 0, 0, 0, 0, 0, 0, 0, 0, 0, 1], [0, 1, 0, 0, 0, 0, 0, 0, 0, 0, 1]], ((0, 0), [])), (0, [7], [[1, 0, 0, 0, 0, 0, 0, 0, 0, 0, 1]], ((0, 0), [])), (0, [8], [[1, 0, 0, 0, 0, 0, 0, 1]], ((0, 0), [])), (0, [9], [[1, 0, 1]], ((0, 0), [])), (2, [1, 2, 5], [[1], [0, 1]], ((0, 0), [])), (3, [], [], ((0, 0), [])), (0, [1], [[1, 0, 0, 0, 0, 0, 0, 0, 0, 1]], ((0, 0), [])), (0, [0], [[96000, 0, 0, 12, 0, 0, 0, 0, 0, 0, 0, 0, 0, 0, 0, 100000, 100000, 12, 0, 12]], ((0, 0), [])), (0, [0], [[0, 100000, 0, 0, 100000, 0, 0, 0, 0, 0, 0, 0, 0, 0, 0, 0, 0, 0, 100000]], ((0, 0), [])), (0, [4], [[], [0, 1, 0, 0, 0, 0, 0, 0, 0, 0, 0, 0, 1]], ((0, 0), [])), (0, [5], [[1, 0, 0, 0, 0, 0, 0, 1]], ((0, 0), [])), (0, [6], [[1, 0, 0, 0, 0, 0, 0, 0, 0, 1], [0, 1, 0, 0, 0, 0, 0, 0, 1]], ((0, 0), [])), (0, [7], [[1, 0, 0, 0, 0, 0, 0, 0, 1]], ((0, 0), [])), (0, [8], [[1, 0, 0, 0, 0, 1]], ((0, 0), [])), (1, [], [], ((0, 1), [(1, 0, 1), (8, 1, 0)])), (0, [0], [[96000, 0, 0, 0, 0, 12, 0, 0, 0, 0, 0, 0, 0, 0, 0, 0, 100000, 100000, 0, 12, 0, 12]], ((0, 0), [])), (0, [3], [[1, 0, 0, 0, 0, 0, 0, 0, 0, 0, 0, 0, 0, 0, 0, 1], [0, 0, 0, 0, 0, 1, 0, 0, 0, 0, 0, 0, 0, 0, 0, 0, 1, 0, 0, 1]], ((0, 0), []))]) (by decide +kernel)
theorem zx_gv56_ok {PT : Nat → zz_W → Prop} : zx_Vok 64 zHT PT (zu_Vw 209 16 16 [] [((0, 0), [(0, 1, 0), (1, 0, 1)]), ((0, 0), [(0, 0, 1), (1, 1, 0)]), ((0, 0), [(3, 1, 0)]), ((65535, 0), [(3, 0, 1)])]) := zu_Vw_ok (hs := [(2, [2, 0, 0], [[], []], ((0, 0), [])), (2, [2, 1, 1], [[], []], ((0, 0), [])), (2, [2, 3, 3], [[], []], ((0, 0), [])), (1, [], [], ((0, 1), [(2, 0, 1), (4, 8000, 0), (5, 1, 0)])), (2, [4, 2, 2], [[], [], [], [1]], ((0, 0), [])), (3, [], [], ((0, 0), [])), (0, [1], [[1, 0, 0, 0, 1]], ((0, 0), [])), (0, [2], [[1, 0, 0, 0, 0, 0, 0, 0, 1]], ((0, 0), [])), (0, [3], [[1, 0, 0, 0, 0, 0, 0, 0, 0, 0, 1]], ((0, 0), [])), (0, [4], [[1, 0, 0, 0, 0, 0, 1]], ((0, 0), [])), (0, [5], [[1, 0, 0, 0, 0, 0, 0, 0, 1], [0, 1, 0, 0, 0, 0, 0, 1]], ((0, 0), [])), (0, [6], [[1, 0, 0, 0, 0, 0, 0, 1]], ((0, 0), [])), (0, [7], [[1, 0, 0, 1], [0, 1, 1]], ((0, 0), [])), (1, [], [], ((0, 1), [(2, 1, 0), (4, 0, 8000), (5, 0, 1)])), (2, [3, 2, 2], [[], [], [], [1]], ((0, 0), [])), (3, [], [], ((0, 0), [])), (0, [1], [[1, 0, 0, 0, 0, 1]], ((0, 0), [])), (0, [2], [[1, 0, 0, 0, 0, 0, 0, 0, 0, 1]], ((0, 0), [])), (0, [3], [[1, 0, 0, 0, 0, 0, 0, 0, 0, 0, 0, 1]], ((0, 0), [])), (0, [4], [[1, 0, 0, 0, 0, 0, 0, 1]], ((0, 0), [])), (0, [5], [[1, 0, 0, 0, 0, 0, 0, 0, 0, 1], [0, 1, 0, 0, 0, 0, 0, 0, 1]], ((0, 0), [])), (0, [6], [[1, 0, 0, 0, 0, 0, 0, 0, 1]], ((0, 0), [])), (0, [7], [[1, 0, 0, 1], [0, 1, 1]], ((0, 0), [])), (2, [1, 2, 4], [[1], [0, 1]], ((0, 0), [])), (0, [7], [[1, 0, 0, 0, 0, 0, 0, 0, 0, 0, 0, 0, 1], [0, 1, 0, 0, 0, 0, 0, 0, 0, 0, 0, 0, 0, 1]], ((0, 0), []))]) (by decide +kernel)
theorem zx_gv57_ok {PT : Nat → zz_W → Prop} : zx_Vok 64 zHT PT (zu_Vw 209 16 16 [209] [((0, 0), [(0, 1, 0), (1, 0, 1)]), ((0, 0), [(0, 0, 1), (1, 1, 0)]), ((0, 0), [(2, 0, 1), (4, 1, 0)]), ((0, 0), [(2, 1, 0), (4, 0, 1)]), ((0, 0), [(3, 0, 1), (5, 1, 0)]), ((0, 0), [(3, 1, 0), (5, 0, 1)])]) := zu_Vw_ok (hs := [(2, [2, 0, 0], [[], []], ((0, 0), [])), (2, [2, 1, 1], [[], []], ((0, 0), [])), (2, [2, 3, 3], [[], []], ((0, 0), [])), (1, [], [], ((0, 1), [(2, 0, 1), (6, 8000, 0), (7, 1, 0)])), (2, [4, 2, 2], [[], [], [], [1]], ((0, 0), [])), (3, [], [], ((0, 0), [])), (0, [1], [[1, 0, 0, 0, 1]], ((0, 0), [])), (0, [2], [[1, 0, 0, 0, 0, 0, 0, 0, 1]], ((0, 0), [])), (0, [3], [[1, 0, 0, 0, 0, 0, 0, 0, 0, 0, 1]], ((0, 0), [])), (0, [4], [[1, 0, 0, 0, 0, 0, 1]], ((0, 0), [])), (0, [5], [[1, 0, 0, 0, 0, 0, 0, 0, 1], [0, 1, 0, 0, 0, 0, 0, 1]], ((0, 0), [])), (0, [6], [[1, 0, 0, 0, 0, 0, 0, 1]], ((0, 0), [])), (0, [7], [[1, 0, 0, 1], [0, 1, 1]], ((0, 0), [])), (1, [], [], ((0, 1), [(2, 1, 0), (6, 0, 8000), (7, 0, 1)])), (2, [3, 2, 2], [[], [], [], [1]], ((0, 0), [])), (3, [], [], ((0, 0), [])), (0, [1], [[1, 0, 0, 0, 0, 1]], ((0, 0), [])), (0, [2], [[1, 0, 0, 0, 0, 0, 0, 0, 0, 1]], ((0, 0), [])), (0, [3], [[1, 0, 0, 0, 0, 0, 0, 0, 0, 0, 0, 1]], ((0, 0), [])), (0, [4], [[1, 0, 0, 0, 0, 0, 0, 1]], ((0, 0), [])), (0, [5], [[1, 0, 0, 0, 0, 0, 0, 0, 0, 1], [0, 1, 0, 0, 0, 0, 0, 0, 1]], ((0, 0), [])), (0, [6], [[1, 0, 0, 0, 0, 0, 0, 0, 1]], ((0, 0), [])), (0, [7], [[1, 0, 0, 1], [0, 1, 1]], ((0, 0), [])), (2, [1, 2, 4], [[1], [0, 1]], ((0, 0), [])), (2, [0, 2, 4], [[0, 0, 1, 0, 0, 0, 0, 0, 0, 0, 0, 0, 0, 1], [0, 0, 0, 1, 0, 0, 0, 0, 0, 0, 0, 0, 1]], ((0, 0), [])), (3, [], [], ((0, 0), [])), (0, [1], [[1, 0, 0, 0, 0, 0, 0, 1]], ((0, 0), [])), (0, [2], [[1, 0, 0, 0, 0, 0, 0, 0, 0, 0, 0, 1]], ((0, 0), [])), (0, [3], [[1, 0, 0, 0, 0, 0, 0, 0, 0, 0, 0, 0, 0, 1]], ((0, 0), [])), (0, [4], [[1, 0, 0, 0, 0, 0, 0, 0, 0, 1]], ((0, 0), [])), (0, [5], [[1, 0, 0, 0, 0, 0, 0, 0, 0, 0, 0, 1], [0, 1, 0, 0, 0, 0, 0, 0, 0, 0, 1]], ((0, 0), [])), (0, [6], [[1, 0, 0, 0, 0, 0, 0, 0, 0, 0, 1]], ((0, 0), [])), (0, [7], [[1, 0, 0, 1, 1, 0, 0, 0, 0, 0, 0, 0, 0, 0, 0, 0, 0, 0, 0, 1], [0, 1, 1, 0, 0, 1, 0, 0, 0, 0, 0, 0, 0, 0, 0, 0, 0, 0, 1]], ((0, 0), []))]) (by decide +kernel)
theorem zx_gv60_ok {PT : Nat → zz_W → Prop} : zx_Vok 64 zHT PT (zu_Vw 220 20 20 [] [((0, 0), [(0, 1, 0), (3, 0, 1)]), ((0, 0), [(0, 0, 1), (3, 1, 0)]), ((0, 0), [(1, 1, 0), (4, 0, 1)]), ((0, 0), [(1, 0, 1), (4, 1, 0)]), ((0, 0), [(2, 1, 0), (5, 0, 1)]), ((0, 0), [(2, 0, 1), (5, 1, 0)]), ((0, 1), [(7, 1, 0)]), ((1, 0), [(7, 0, 1)])]) := zu_Vw_ok (hs := [(2, [2, 0, 0], [[], []], ((0, 0), [])), (2, [2, 1, 1], [[], []], ((0, 0), [])), (1, [], [], ((0, 1), [(6, 0, 1), (14, 1, 0)])), (2, [4, 2, 2], [[0, 1], [0, 0, 1], [1, 1], [1, 1]], ((0, 0), [])), (3, [], [], ((0, 0), [])), (0, [1], [[1, 0, 0, 0, 0, 0, 1]], ((0, 0), [])), (0, [2], [[1, 0, 0, 0, 0, 0, 0, 0, 0, 0, 1]], ((0, 0), [])), (0, [3], [[1, 0, 0, 0, 0, 0, 0, 0, 0, 0, 0, 1], [0, 1, 0, 0, 0, 0, 0, 0, 0, 0, 0, 0, 0, 1]], ((0, 0), [])), (0, [4], [[1], [0, 1, 0, 0, 0, 0, 0, 0, 0, 1]], ((0, 0), [])), (0, [5], [[1, 0, 0, 0, 1], [0, 1, 0, 1], [0, 0, 0, 0, 0, 1]], ((0, 0), [])), (1, [], [], ((0, 1), [(6, 1, 0), (14, 0, 1)])), (3, [], [], ((0, 0), [])), (0, [1], [[1, 0, 0, 0, 0, 1]], ((0, 0), [])), (0, [2], [[1, 0, 0, 0, 0, 0, 0, 0, 0, 1]], ((0, 0), [])), (0, [3], [[1, 0, 0, 0, 0, 0, 0, 0, 0, 0, 1], [0, 1, 0, 0, 0, 0, 0, 0, 0, 0, 0, 0, 1]], ((0, 0), [])), (0, [4], [[1], [0, 1, 0, 0, 0, 0, 0, 0, 1]], ((0, 0), [])), (2, [3, 2, 2], [[0, 0, 0, 0, 0, 1], [0, 0, 0, 0, 0, 0, 1], [0, 0, 1], [0, 0, 0, 1, 0, 0, 1]], ((0, 0), [])), (0, [5], [[0, 1, 1], [1, 0, 0, 1], [0, 0, 0, 0, 1, 0, 0, 0, 1]], ((0, 0), [])), (2, [1, 2, 3], [[1], [0, 1]], ((0, 0), [])), (0, [5], [[1, 0, 0, 0, 0, 0, 0, 0, 0, 0, 0, 0, 0, 0, 1], [0, 1, 0, 0, 0, 0, 0, 0, 0, 0, 0, 0, 0, 0, 0, 1], [0, 0, 1]], ((0, 0), []))]) (by decide +kernel)
theorem zx_gv61_ok {PT : Nat → zz_W → Prop} : zx_Vok 64 zHT PT (zu_Vw 220 21 21 [] [((0, 0), [(0, 1, 0), (3, 0, 1)]), ((0, 0), [(0, 0, 1), (3, 1, 0)]), ((0, 0), [(1, 1, 0), (4, 0, 1)]), ((0, 0), [(1, 0, 1), (4, 1, 0)]), ((0, 0), [(2, 1, 0), (5, 0, 1)]), ((0, 0), [(2, 0, 1), (5, 1, 0)]), ((0, 1), [(7, 1, 0)]), ((1, 0), [(7, 0, 1)])]) := zu_Vw_ok (hs := [(2, [2, 0, 0], [[], []], ((0, 0), [])), (2, [2, 1, 1], [[], []], ((0, 0), [])), (1, [], [], ((0, 1), [(6, 0, 1), (14, 1, 0)])), (2, [4, 2, 2], [[0, 1], [0, 0, 1], [1, 1], [1, 1]], ((0, 0), [])), (3, [], [], ((0, 0), [])), (0, [1], [[1, 0, 0, 0, 0, 0, 1]], ((0, 0), [])), (0, [2], [[1, 0, 0, 0, 0, 0, 0, 0, 0, 0, 1]], ((0, 0), [])), (0, [3], [[1, 0, 0, 0, 0, 0, 0, 0, 0, 0, 0, 1], [0, 1, 0, 0, 0, 0, 0, 0, 0, 0, 0, 0, 0, 1]], ((0, 0), [])), (0, [4], [[1], [0, 1, 0, 0, 0, 0, 0, 0, 0, 1]], ((0, 0), [])), (0, [5], [[1, 0, 0, 0, 1], [0, 1, 0, 1], [0, 0, 0, 0, 0, 1]], ((0, 0), [])), (1, [], [], ((0, 1), [(6, 1, 0), (14, 0, 1)])), (3, [], [], ((0, 0), [])), (0, [1], [[1, 0, 0, 0, 0, 1]], ((0, 0), [])), (0, [2], [[1, 0, 0, 0, 0, 0, 0, 0, 0, 1]], ((0, 0), [])), (0, [3], [[1, 0, 0, 0, 0, 0, 0, 0, 0, 0, 1], [0, 1, 0, 0, 0, 0, 0, 0, 0, 0, 0, 0, 1]], ((0, 0), [])), (0, [4], [[1], [0, 1, 0, 0, 0, 0, 0, 0, 1]], ((0, 0), [])), (2, [3, 2, 2], [[0, 0, 0, 0, 0, 1], [0, 0, 0, 0, 0, 0, 1], [0, 0, 1], [0, 0, 0, 1, 0, 0, 1]], ((0, 0), [])), (0, [5], [[0, 1, 1], [1, 0, 0, 1], [0, 0, 0, 0, 1, 0, 0, 0, 1]], ((0, 0), [])), (2, [1, 2, 3], [[1], [0, 1]], ((0, 0), [])), (0, [5], [[1, 0, 0, 0, 0, 0, 0, 0, 0, 0, 0, 0, 0, 0, 1], [0, 1, 0, 0, 0, 0, 0, 0, 0, 0, 0, 0, 0, 0, 0, 1], [0, 0, 1]], ((0, 0), []))]) (by decide +kernel)
theorem zx_gv62_ok {PT : Nat → zz_W → Prop} : zx_Vok 64 zHT PT (zu_Vw 220 22 22 [] [((0, 0), [(0, 1, 0), (3, 0, 1)]), ((0, 0), [(0, 0, 1), (3, 1, 0)]), ((0, 0), [(1, 1, 0), (4, 0, 1)]), ((0, 0), [(1, 0, 1), (4, 1, 0)]), ((0, 0), [(2, 1, 0), (5, 0, 1)]), ((0, 0), [(2, 0, 1), (5, 1, 0)]), ((0, 1), [(7, 1, 0)]), ((1, 0), [(7, 0, 1)])]) := zu_Vw_ok (hs := [(2, [2, 0, 0], [[], []], ((0, 0), [])), (2, [2, 1, 1], [[], []], ((0, 0), [])), (1, [], [], ((0, 1), [(6, 0, 1), (14, 1, 0)])), (2, [4, 2, 2], [[0, 1], [0, 0, 1], [1, 1], [1, 1]], ((0, 0), [])), (3, [], [], ((0, 0), [])), (0, [1], [[1, 0, 0, 0, 0, 0, 1]], ((0, 0), [])), (0, [2], [[1, 0, 0, 0, 0, 0, 0, 0, 0, 0, 1]], ((0, 0), [])), (0, [3], [[1, 0, 0, 0, 0, 0, 0, 0, 0, 0, 0, 1], [0, 1, 0, 0, 0, 0, 0, 0, 0, 0, 0, 0, 0, 1]], ((0, 0), [])), (0, [4], [[1], [0, 1, 0, 0, 0, 0, 0, 0, 0, 1]], ((0, 0), [])), (0, [5], [[1, 0, 0, 0, 1], [0, 1, 0, 1], [0, 0, 0, 0, 0, 1]], ((0, 0), [])), (0, [0], [[1, 0, 0, 1, 1]], ((0, 0), [])), (1, [], [], ((0, 1), [(6, 1, 0), (14, 0, 1)])), (3, [], [], ((0, 0), [])), (0, [1], [[1, 0, 0, 0, 0, 1]], ((0, 0), [])), (0, [2], [[1, 0, 0, 0, 0, 0, 0, 0, 0, 1]], ((0, 0), [])), (0, [3], [[1, 0, 0, 0, 0, 0, 0, 0, 0, 0, 1], [0, 1, 0, 0, 0, 0, 0, 0, 0, 0, 0, 0, 1]], ((0, 0), [])), (0, [4], [[1], [0, 1, 0, 0, 0, 0, 0, 0, 1]], ((0, 0), [])), (2, [3, 2, 2], [[0, 0, 0, 0, 0, 1], [0, 0, 0, 0, 0, 0, 1], [0, 0, 1], [0, 0, 0, 1, 0, 0, 1]], ((0, 0), [])), (0, [5], [[0, 1, 1], [1, 0, 0, 1], [0, 0, 0, 0, 1, 0, 0, 0, 1]], ((0, 0), [])), (0, [6], [[1, 0, 0, 1]], ((0, 0), [])), (2, [1, 2, 3], [[1], [0, 1]], ((0, 0), [])), (0, [5], [[1, 0, 0, 0, 0, 0, 0, 0, 0, 0, 0, 0, 0, 0, 1], [0, 1, 0, 0, 0, 0, 0, 0, 0, 0, 0, 0, 0, 0, 0, 1], [0, 0, 1]], ((0, 0), []))]) (by decide +kernel)
theorem zx_gv63_ok {PT : Nat → zz_W → Prop} : zx_Vok 64 zHT PT (zu_Vw 220 23 23 [] [((0, 0), [(0, 1, 0), (3, 0, 1)]), ((0, 0), [(0, 0, 1), (3, 1, 0)]), ((0, 0), [(1, 1, 0), (4, 0, 1)]), ((0, 0), [(1, 0, 1), (4, 1, 0)]), ((0, 0), [(2, 1, 0), (5, 0, 1)]), ((0, 0), [(2, 0, 1), (5, 1, 0)]), ((0, 1), [(7, 1, 0)]), ((1, 0), [(7, 0, 1)])]) := zu_Vw_ok (hs := [(2, [2, 0, 0], [[], []], ((0, 0), [])), (2, [2, 1, 1], [[], []], ((0, 0), [])), (1, [], [], ((0, 1), [(6, 0, 1), (14, 1, 0)])), (2, [4, 2, 2], [[0, 1], [0, 0, 1], [1, 1], [1, 1]], ((0, 0), [])), (3, [], [], ((0, 0), [])), (0, [1], [[1, 0, 0, 0, 0, 0, 1]], ((0, 0), [])), (0, [2], [[1, 0, 0, 0, 0, 0, 0, 0, 0, 0, 1]], ((0, 0), [])), (0, [3], [[1, 0, 0, 0, 0, 0, 0, 0, 0, 0, 0, 1], [0, 1, 0, 0, 0, 0, 0, 0, 0, 0, 0, 0, 0, 1]], ((0, 0), [])), (0, [4], [[1], [0, 1, 0, 0, 0, 0, 0, 0, 0, 1]], ((0, 0), [])), (0, [5], [[1, 0, 0, 0, 1], [0, 1, 0, 1], [0, 0, 0, 0, 0, 1]], ((0, 0), [])), (1, [], [], ((0, 1), [(6, 1, 0), (14, 0, 1)])), (3, [], [], ((0, 0), [])), (0, [1], [[1, 0, 0, 0, 0, 1]], ((0, 0), [])), (0, [2], [[1, 0, 0, 0, 0, 0, 0, 0, 0, 1]], ((0, 0), [])), (0, [3], [[1, 0, 0, 0, 0, 0, 0, 0, 0, 0, 1], [0, 1, 0, 0, 0, 0, 0, 0, 0, 0, 0, 0, 1]], ((0, 0), [])), (0, [4], [[1], [0, 1, 0, 0, 0, 0, 0, 0, 1]], ((0, 0), [])), (2, [3, 2, 2], [[0, 0, 0, 0, 0, 1], [0, 0, 0, 0, 0, 0, 1], [0, 0, 1], [0, 0, 0, 1, 0, 0, 1]], ((0, 0), [])), (0, [5], [[0, 1, 1], [1, 0, 0, 1], [0, 0, 0, 0, 1, 0, 0, 0, 1]], ((0, 0), [])), (2, [1, 2, 3], [[1], [0, 1]], ((0, 0), [])), (0, [5], [[1, 0, 0, 0, 0, 0, 0, 0, 0, 0, 0, 0, 0, 0, 1], [0, 1, 0, 0, 0, 0, 0, 0, 0, 0, 0, 0, 0, 0, 0, 1], [0, 0, 1]], ((0, 0), []))]) (by decide +kernel)
theorem zx_gv64_ok {PT : Nat → zz_W → Prop} : zx_Vok 64 zHT PT (zu_Vw 220 24 24 [] [((0, 0), [(0, 1, 0), (3, 0, 1)]), ((0, 0), [(0, 0, 1), (3, 1, 0)]), ((0, 0), [(1, 1, 0), (4, 0, 1)]), ((0, 0), [(1, 0, 1), (4, 1, 0)]), ((0, 0), [(2, 1, 0), (5, 0, 1)]), ((0, 0), [(2, 0, 1), (5, 1, 0)]), ((0, 1), [(7, 1, 0)]), ((1, 0), [(7, 0, 1)])]) := zu_Vw_ok (hs := [(2, [2, 0, 0], [[], []], ((0, 0), [])), (2, [2, 1, 1], [[], []], ((0, 0), [])), (1, [], [], ((0, 1), [(6, 0, 1), (14, 1, 0)])), (2, [4, 2, 2], [[0, 1], [0, 0, 1], [1, 1], [1, 1]], ((0, 0), [])), (3, [], [], ((0, 0), [])), (0, [1], [[1, 0, 0, 0, 0, 0, 1]], ((0, 0), [])), (0, [2], [[1, 0, 0, 0, 0, 0, 0, 0, 0, 0, 1]], ((0, 0), [])), (0, [3], [[1, 0, 0, 0, 0, 0, 0, 0, 0, 0, 0, 1], [0, 1, 0, 0, 0, 0, 0, 0, 0, 0, 0, 0, 0, 1]], ((0, 0), [])), (0, [4], [[], [0, 1, 0, 0, 0, 0, 0, 0, 0, 1]], ((0, 0), [])), (0, [5], [[1, 0, 0, 0, 1], [0, 1, 0, 1], [0, 0, 0, 0, 0, 1]], ((0, 0), [])), (1, [], [], ((0, 1), [(6, 1, 0), (14, 0, 1)])), (3, [], [], ((0, 0), [])), (0, [1], [[1, 0, 0, 0, 0, 1]], ((0, 0), [])), (0, [2], [[1, 0, 0, 0, 0, 0, 0, 0, 0, 1]], ((0, 0), [])), (0, [3], [[1, 0, 0, 0, 0, 0, 0, 0, 0, 0, 1], [0, 1, 0, 0, 0, 0, 0, 0, 0, 0, 0, 0, 1]], ((0, 0), [])), (0, [4], [[], [0, 1, 0, 0, 0, 0, 0, 0, 1]], ((0, 0), [])), (2, [3, 2, 2], [[0, 0, 0, 0, 0, 1], [0, 0, 0, 0, 0, 0, 1], [0, 0, 1], [0, 0, 0, 1, 0, 0, 1]], ((0, 0), [])), (0, [5], [[0, 1, 1], [1, 0, 0, 1], [0, 0, 0, 0, 1, 0, 0, 0, 1]], ((0, 0), [])), (2, [1, 2, 3], [[1], [0, 1]], ((0, 0), [])), (0, [5], [[1, 0, 0, 0, 0, 0, 0, 0, 0, 0, 0, 0, 0, 0, 1], [0, 1, 0, 0, 0, 0, 0, 0, 0, 0, 0, 0, 0, 0, 0, 1], [0, 0, 1]], ((0, 0), []))]) (by decide +kernel)
theorem zx_gv65_ok {PT : Nat → zz_W → Prop} : zx_Vok 64 zHT PT (zu_Vw 220 25 25 [] [((0, 0), [(0, 1, 0), (3, 0, 1)]), ((0, 0), [(0, 0, 1), (3, 1, 0)]), ((0, 0), [(1, 1, 0), (4, 0, 1)]), ((0, 0), [(1, 0, 1), (4, 1, 0)]), ((0, 0), [(2, 1, 0), (5, 0, 1)]), ((0, 0), [(2, 0, 1), (5, 1, 0)]), ((0, 1), [(7, 1, 0)]), ((1, 0), [(7, 0, 1)])]) := zu_Vw_ok (hs := [(2, [2, 0, 0], [[], []], ((0, 0), [])), (2, [2, 1, 1], [[], []], ((0, 0), [])), (2, [2, 2, 2], [[], []], ((0, 0), [])), (2, [2, 4, 4], [[], []], ((0, 0), [])), (1, [], [], ((0, 1), [(6, 0, 1), (17, 1, 0)])), (2, [4, 3, 3], [[0, 0, 0, 1], [0, 0, 0, 0, 1], [1, 0, 0, 1], [1, 0, 0, 1]], ((0, 0), [])), (3, [], [], ((0, 0), [])), (0, [1], [[1, 0, 0, 0, 0, 0, 0, 0, 0, 0, 1]], ((0, 0), [])), (0, [2], [[1, 0, 0, 0, 0, 0, 0, 0, 0, 0, 0, 0, 0, 0, 1]], ((0, 0), [])), (0, [3], [[1, 0, 0, 0, 0, 0, 0, 0, 0, 0, 0, 0, 0, 0, 0, 1], [0, 1, 0, 0, 0, 0, 0, 0, 0, 0, 0, 0, 0, 0, 0, 0, 0, 1]], ((0, 0), [])), (0, [4], [[], [0, 1, 0, 0, 0, 0, 0, 0, 0, 0, 0, 0, 0, 1]], ((0, 0), [])), (0, [5], [[1, 0, 0, 0, 0, 0, 0, 0, 1]], ((0, 0), [])), (0, [6], [[1, 0, 0, 0, 0, 0, 0, 0, 0, 0, 1], [0, 1, 0, 0, 0, 0, 0, 0, 0, 1]], ((0, 0), [])), (0, [7], [[1, 0, 0, 0, 0, 0, 0, 0, 0, 1]], ((0, 0), [])), (0, [8], [[1, 0, 0, 0, 1]], ((0, 0), [])), (0, [9], [[1, 0, 0, 0, 1], [0, 1, 0, 1], [0, 0, 0, 0, 0, 1]], ((0, 0), [])), (1, [], [], ((0, 1), [(6, 1, 0), (17, 0, 1)])), (3, [], [], ((0, 0), [])), (0, [1], [[1, 0, 0, 0, 0, 0, 0, 0, 0, 1]], ((0, 0), [])), (0, [2], [[1, 0, 0, 0, 0, 0, 0, 0, 0, 0, 0, 0, 0, 1]], ((0, 0), [])), (0, [3], [[1, 0, 0, 0, 0, 0, 0, 0, 0, 0, 0, 0, 0, 0, 1], [0, 1, 0, 0, 0, 0, 0, 0, 0, 0, 0, 0, 0, 0, 0, 0, 1]], ((0, 0), [])), (0, [4], [[], [0, 1, 0, 0, 0, 0, 0, 0, 0, 0, 0, 0, 1]], ((0, 0), [])), (0, [5], [[1, 0, 0, 0, 0, 0, 0, 1]], ((0, 0), [])), (0, [6], [[1, 0, 0, 0, 0, 0, 0, 0, 0, 1], [0, 1, 0, 0, 0, 0, 0, 0, 1]], ((0, 0), [])), (0, [7], [[1, 0, 0, 0, 0, 0, 0, 0, 1]], ((0, 0), [])), (0, [8], [[1, 0, 0, 1]], ((0, 0), [])), (2, [3, 3, 3], [[0, 0, 0, 0, 0, 0, 0, 1], [0, 0, 0, 0, 0, 0, 0, 0, 1], [0, 0, 1], [0, 0, 0, 1, 0, 0, 0, 0, 1]], ((0, 0), [])), (0, [9], [[0, 1, 1], [1, 0, 0, 1], [0, 0, 0, 0, 1, 0, 0, 0, 0, 0, 1]], ((0, 0), [])), (2, [1, 3, 5], [[1], [0, 1]], ((0, 0), [])), (0, [9], [[1, 0, 0, 0, 0, 0, 0, 0, 0, 0, 0, 0, 0, 0, 0, 0, 0, 0, 1], [0, 1, 0, 0, 0, 0, 0, 0, 0, 0, 0, 0, 0, 0, 0, 0, 0, 0, 0, 1], [0, 0, 1]], ((0, 0), []))]) (by decide +kernel)
theorem zx_gv70_ok {PT : Nat → zz_W → Prop} : zx_Vok 64 zHT PT (zu_Vw 220 30 30 [220] [((0, 0), [(0, 1, 0), (2, 0, 1)]), ((0, 0), [(0, 0, 1), (2, 1, 0)]), ((0, 1), [(1, 0, 1), (3, 1, 0)]), ((1, 0), [(1, 1, 0), (3, 0, 1)]), ((0, 0), [(1, 0, 1), (4, 1, 0)]), ((0, 0), [(1, 1, 0), (4, 0, 1)]), ((0, 0), [(4, 0, 1), (6, 1, 0)]), ((0, 0), [(4, 1, 0), (6, 0, 1)]), ((0, 1), [(7, 1, 0)]), ((1, 0), [(7, 0, 1)]), ((0, 0), [(5, 1, 0)])]) := zu_Vw_ok (hs := [(2, [2, 0, 0], [[], []], ((0, 0), [])), (2, [2, 1, 1], [[], []], ((0, 0), [])), (1, [], [], ((0, 1), [(4, 0, 1), (14, 1, 0)])), (2, [4, 2, 2], [[0, 1], [0, 0, 1], [1, 1], [1, 1]], ((0, 0), [])), (3, [], [], ((0, 0), [])), (0, [1], [[1, 0, 0, 0, 0, 0, 1]], ((0, 0), [])), (0, [2], [[1], [0, 1, 0, 0, 0, 0, 0, 0, 0, 1]], ((0, 0), [])), (0, [0], [[0, 100000, 0, 0, 0, 100000, 100000, 0, 0, 0, 0, 0, 0, 0, 100000, 0, 0, 0, 100000, 100000]], ((0, 0), [])), (0, [4], [[0, 0, 0, 0, 0, 0, 1], [0, 0, 100000, 100000, 0, 0, 1, 0, 0, 0, 0, 0, 0, 99999, 100000, 1, 0, 0, 0, 100000, 100000], [0, 0, 1, 0, 0, 1], [0, 0, 0, 1, 1]], ((0, 0), [])), (1, [], [], ((0, 1), [(4, 1, 0), (14, 0, 1)])), (3, [], [], ((0, 0), [])), (0, [1], [[1, 0, 0, 0, 0, 1]], ((0, 0), [])), (0, [2], [[1], [0, 1, 0, 0, 0, 0, 0, 0, 1]], ((0, 0), [])), (2, [3, 2, 2], [[0, 0, 0, 0, 0, 1], [0, 0, 0, 0, 0, 0, 1], [1], [0, 1, 0, 0, 0, 0, 0, 0, 0, 0, 0, 0, 0, 1]], ((0, 0), [])), (0, [3], [[0, 0, 1, 0, 0, 0, 0, 0, 1], [0, 0, 0, 1, 0, 0, 0, 1, 0, 0, 0, 0, 0, 1, 0, 0, 0, 0, 0, 100000, 100000], [0, 1, 0, 0, 1]], ((0, 0), [])), (0, [0], [[0, 100000, 100000, 100000, 100000, 0, 0, 100000, 0, 0, 0, 0, 0, 0, 0, 100000, 0, 0, 100000, 100000]], ((0, 0), [])), (2, [1, 2, 3], [[1], [0, 1]], ((0, 0), [])), (0, [3], [[0, 0, 1], [0, 0, 0, 1, 0, 0, 0, 0, 0, 0, 1, 0, 0, 1, 0, 0, 100000, 100000], [1, 0, 0, 0, 0, 0, 0, 0, 0, 0, 0, 0, 0, 0, 0, 0, 0, 0, 1]], ((0, 0), []))]) (by decide +kernel)
theorem zx_gv71_ok {PT : Nat → zz_W → Prop} : zx_Vok 64 zHT PT (zu_Vw 220 30 30 [220] [((0, 0), [(0, 1, 0), (2, 0, 1)]), ((0, 0), [(0, 0, 1), (2, 1, 0)]), ((0, 1), [(1, 0, 1), (3, 1, 0)]), ((1, 0), [(1, 1, 0), (3, 0, 1)]), ((0, 0), [(1, 0, 1), (4, 1, 0)]), ((0, 0), [(1, 1, 0), (4, 0, 1)]), ((0, 0), [(4, 0, 1), (6, 1, 0)]), ((0, 0), [(4, 1, 0), (6, 0, 1)]), ((0, 0), [(7, 0, 1)])]) := zu_Vw_ok (hs := [(2, [2, 0, 0], [[], []], ((0, 0), [])), (2, [2, 1, 1], [[], []], ((0, 0), [])), (1, [], [], ((0, 1), [(4, 0, 1), (14, 1, 0)])), (2, [4, 2, 2], [[0, 1], [0, 0, 1], [1, 1], [1, 1]], ((0, 0), [])), (3, [], [], ((0, 0), [])), (0, [1], [[1, 0, 0, 0, 0, 0, 1]], ((0, 0), [])), (0, [2], [[1], [0, 1, 0, 0, 0, 0, 0, 0, 0, 1]], ((0, 0), [])), (0, [0], [[0, 100000, 0, 0, 0, 100000, 100000, 0, 0, 0, 0, 0, 0, 0, 100000]], ((0, 0), [])), (0, [4], [[0, 0, 0, 0, 0, 0, 1], [0, 0, 100000, 100000, 0, 0, 1, 0, 0, 0, 0, 0, 0, 99999, 100000, 1], [0, 0, 1, 0, 0, 1], [0, 0, 0, 1, 1]], ((0, 0), [])), (1, [], [], ((0, 1), [(4, 1, 0), (14, 0, 1)])), (3, [], [], ((0, 0), [])), (0, [1], [[1, 0, 0, 0, 0, 1]], ((0, 0), [])), (0, [2], [[1], [0, 1, 0, 0, 0, 0, 0, 0, 1]], ((0, 0), [])), (2, [3, 2, 2], [[0, 0, 0, 0, 0, 1], [0, 0, 0, 0, 0, 0, 1], [1], [0, 1, 0, 0, 0, 0, 0, 0, 0, 0, 0, 0, 0, 1]], ((0, 0), [])), (0, [3], [[0, 0, 1, 0, 0, 0, 0, 0, 1], [0, 0, 0, 1, 0, 0, 0, 1, 0, 0, 0, 0, 0, 1], [0, 1, 0, 0, 1]], ((0, 0), [])), (0, [0], [[0, 100000, 100000, 100000, 100000, 0, 0, 100000, 0, 0, 0, 0, 0, 0, 0, 100000]], ((0, 0), [])), (2, [1, 2, 3], [[1], [0, 1]], ((0, 0), [])), (2, [0, 2, 3], [[0, 0, 1, 0, 1, 0, 0, 0, 0, 0, 0, 0, 0, 0, 99999, 100000], [0, 0, 0, 1, 0, 1, 0, 0, 0, 0, 0, 0, 0, 0, 1]], ((0, 0), [])), (3, [], [], ((0, 0), [])), (0, [1], [[1, 0, 0, 0, 0, 0, 0, 0, 0, 1]], ((0, 0), [])), (0, [2], [[1], [0, 1, 0, 0, 0, 0, 0, 0, 0, 0, 0, 0, 1]], ((0, 0), [])), (0, [0], [[0, 100000, 100000, 0, 100000, 0, 0, 100000, 0, 100000, 0, 0, 0, 0, 0, 0, 0, 100000, 0, 0, 0, 100000]], ((0, 0), [])), (0, [0], [[0, 0, 1, 0, 0, 1, 0, 0, 0, 0, 0, 0, 0, 0, 0, 0, 0, 0, 0, 0, 0, 0, 1]], ((0, 0), []))]) (by decide +kernel)
theorem zx_gv72_ok {PT : Nat → zz_W → Prop} : zx_Vok 64 zHT PT (zu_Vw 220 30 30 [220] [((0, 0), [(0, 1, 0), (2, 0, 1)]), ((0, 0), [(0, 0, 1), (2, 1, 0)]), ((0, 1), [(1, 0, 1), (3, 1, 0)]), ((1, 0), [(1, 1, 0), (3, 0, 1)]), ((0, 0), [(1, 0, 1), (4, 1, 0)]), ((0, 0), [(1, 1, 0), (4, 0, 1)]), ((0, 0), [(4, 0, 1), (6, 1, 0)]), ((0, 0), [(4, 1, 0), (6, 0, 1)]), ((0, 2), [(7, 1, 0)])]) := zu_Vw_ok (hs := [(2, [2, 0, 0], [[], []], ((0, 0), [])), (2, [2, 1, 1], [[], []], ((0, 0), [])), (1, [], [], ((0, 1), [(4, 0, 1), (14, 1, 0)])), (2, [4, 2, 2], [[0, 1], [0, 0, 1], [1, 1], [1, 1]], ((0, 0), [])), (3, [], [], ((0, 0), [])), (0, [1], [[1, 0, 0, 0, 0, 0, 1]], ((0, 0), [])), (0, [2], [[1], [0, 1, 0, 0, 0, 0, 0, 0, 0, 1]], ((0, 0), [])), (0, [0], [[0, 100000, 0, 0, 0, 100000, 100000, 0, 0, 0, 0, 0, 0, 0, 100000]], ((0, 0), [])), (0, [4], [[0, 0, 0, 0, 0, 0, 1], [0, 0, 100000, 100000, 0, 0, 1, 0, 0, 0, 0, 0, 0, 99999, 100000, 1], [0, 0, 1, 0, 0, 1], [0, 0, 0, 1, 1]], ((0, 0), [])), (1, [], [], ((0, 1), [(4, 1, 0), (14, 0, 1)])), (3, [], [], ((0, 0), [])), (0, [1], [[1, 0, 0, 0, 0, 1]], ((0, 0), [])), (0, [2], [[1], [0, 1, 0, 0, 0, 0, 0, 0, 1]], ((0, 0), [])), (2, [3, 2, 2], [[0, 0, 0, 0, 0, 1], [0, 0, 0, 0, 0, 0, 1], [1], [0, 1, 0, 0, 0, 0, 0, 0, 0, 0, 0, 0, 0, 1]], ((0, 0), [])), (0, [3], [[0, 0, 1, 0, 0, 0, 0, 0, 1], [0, 0, 0, 1, 0, 0, 0, 1, 0, 0, 0, 0, 0, 1], [0, 1, 0, 0, 1]], ((0, 0), [])), (0, [0], [[0, 100000, 100000, 100000, 100000, 0, 0, 100000, 0, 0, 0, 0, 0, 0, 0, 100000]], ((0, 0), [])), (2, [1, 2, 3], [[1], [0, 1]], ((0, 0), [])), (2, [0, 2, 3], [[0, 0, 1, 0, 1, 0, 0, 0, 0, 0, 0, 0, 0, 0, 99999, 100000], [0, 0, 0, 1, 0, 1, 0, 0, 0, 0, 0, 0, 0, 0, 1]], ((0, 0), [])), (3, [], [], ((0, 0), [])), (0, [1], [[1, 0, 0, 0, 0, 0, 0, 0, 0, 1]], ((0, 0), [])), (0, [2], [[1], [0, 1, 0, 0, 0, 0, 0, 0, 0, 0, 0, 0, 1]], ((0, 0), [])), (0, [0], [[0, 100000, 0, 0, 0, 0, 0, 100000, 0, 100000, 0, 0, 0, 0, 0, 0, 0, 100000]], ((0, 0), [])), (0, [0], [[0, 0, 0, 1, 1, 0, 0, 0, 0, 0, 0, 0, 0, 0, 0, 0, 0, 0, 0, 0, 0, 0, 1]], ((0, 0), []))]) (by decide +kernel)
theorem zx_gv73_ok {PT : Nat → zz_W → Prop} : zx_Vok 64 zHT PT (zu_Vw 220 31 31 [220] [((0, 0), [(0, 1, 0), (2, 0, 1)]), ((0, 0), [(0, 0, 1), (2, 1, 0)]), ((0, 1), [(1, 0, 1), (3, 1, 0)]), ((1, 0), [(1, 1, 0), (3, 0, 1)]), ((0, 0), [(1, 0, 1), (4, 1, 0)]), ((0, 0), [(1, 1, 0), (4, 0, 1)]), ((0, 0), [(4, 0, 1), (6, 1, 0)]), ((0, 0), [(4, 1, 0), (6, 0, 1)]), ((0, 1), [(7, 1, 0)]), ((1, 0), [(7, 0, 1)]), ((0, 0), [(5, 1, 0)])]) := zu_Vw_ok (hs := [(2, [2, 0, 0], [[], []], ((0, 0), [])), (2, [2, 1, 1], [[], []], ((0, 0), [])), (1, [], [], ((0, 1), [(4, 0, 1), (14, 1, 0)])), (2, [4, 2, 2], [[0, 1], [0, 0, 1], [1, 1], [1, 1]], ((0, 0), [])), (3, [], [], ((0, 0), [])), (0, [1], [[1, 0, 0, 0, 0, 0, 1]], ((0, 0), [])), (0, [2], [[1], [0, 1, 0, 0, 0, 0, 0, 0, 0, 1]], ((0, 0), [])), (0, [0], [[0, 100000, 0, 0, 0, 100000, 100000, 0, 0, 0, 0, 0, 0, 0, 100000, 0, 0, 0, 100000, 100000]], ((0, 0), [])), (0, [4], [[0, 0, 0, 0, 0, 0, 1], [0, 0, 100000, 100000, 0, 0, 1, 0, 0, 0, 0, 0, 0, 99999, 100000, 1, 0, 0, 0, 100000, 100000], [0, 0, 1, 0, 0, 1], [0, 0, 0, 1, 1]], ((0, 0), [])), (1, [], [], ((0, 1), [(4, 1, 0), (14, 0, 1)])), (3, [], [], ((0, 0), [])), (0, [1], [[1, 0, 0, 0, 0, 1]], ((0, 0), [])), (0, [2], [[1], [0, 1, 0, 0, 0, 0, 0, 0, 1]], ((0, 0), [])), (2, [3, 2, 2], [[0, 0, 0, 0, 0, 1], [0, 0, 0, 0, 0, 0, 1], [1], [0, 1, 0, 0, 0, 0, 0, 0, 0, 0, 0, 0, 0, 1]], ((0, 0), [])), (0, [3], [[0, 0, 1, 0, 0, 0, 0, 0, 1], [0, 0, 0, 1, 0, 0, 0, 1, 0, 0, 0, 0, 0, 1, 0, 0, 0, 0, 0, 100000, 100000], [0, 1, 0, 0, 1]], ((0, 0), [])), (0, [0], [[0, 100000, 100000, 100000, 100000, 0, 0, 100000, 0, 0, 0, 0, 0, 0, 0, 100000, 0, 0, 100000, 100000]], ((0, 0), [])), (2, [1, 2, 3], [[1], [0, 1]], ((0, 0), [])), (0, [3], [[0, 0, 1], [0, 0, 0, 1, 0, 0, 0, 0, 0, 0, 1, 0, 0, 1, 0, 0, 100000, 100000], [1, 0, 0, 0, 0, 0, 0, 0, 0, 0, 0, 0, 0, 0, 0, 0, 0, 0, 1]], ((0, 0), []))]) (by decide +kernel)
theorem zx_gv74_ok {PT : Nat → zz_W → Prop} : zx_Vok 64 zHT PT (zu_Vw 220 31 31 [220] [((0, 0), [(0, 1, 0), (2, 0, 1)]), ((0, 0), [(0, 0, 1), (2, 1, 0)]), ((0, 1), [(1, 0, 1), (3, 1, 0)]), ((1, 0), [(1, 1, 0), (3, 0, 1)]), ((0, 0), [(1, 0, 1), (4, 1, 0)]), ((0, 0), [(1, 1, 0), (4, 0, 1)]), ((0, 0), [(4, 0, 1), (6, 1, 0)]), ((0, 0), [(4, 1, 0), (6, 0, 1)]), ((0, 0), [(7, 0, 1)])]) := zu_Vw_ok (hs := [(2, [2, 0, 0], [[], []], ((0, 0), [])), (2, [2, 1, 1], [[], []], ((0, 0), [])), (1, [], [], ((0, 1), [(4, 0, 1), (14, 1, 0)])), (2, [4, 2, 2], [[0, 1], [0, 0, 1], [1, 1], [1, 1]], ((0, 0), [])), (3, [], [], ((0, 0), [])), (0, [1], [[1, 0, 0, 0, 0, 0, 1]], ((0, 0), [])), (0, [2], [[1], [0, 1, 0, 0, 0, 0, 0, 0, 0, 1]], ((0, 0), [])), (0, [0], [[0, 100000, 0, 0, 0, 100000, 100000, 0, 0, 0, 0, 0, 0, 0, 100000]], ((0, 0), [])), (0, [4], [[0, 0, 0, 0, 0, 0, 1], [0, 0, 100000, 100000, 0, 0, 1, 0, 0, 0, 0, 0, 0, 99999, 100000, 1], [0, 0, 1, 0, 0, 1], [0, 0, 0, 1, 1]], ((0, 0), [])), (1, [], [], ((0, 1), [(4, 1, 0), (14, 0, 1)])), (3, [], [], ((0, 0), [])), (0, [1], [[1, 0, 0, 0, 0, 1]], ((0, 0), [])), (0, [2], [[1], [0, 1, 0, 0, 0, 0, 0, 0, 1]], ((0, 0), [])), (2, [3, 2, 2], [[0, 0, 0, 0, 0, 1], [0, 0, 0, 0, 0, 0, 1], [1], [0, 1, 0, 0, 0, 0, 0, 0, 0, 0, 0, 0, 0, 1]], ((0, 0), [])), (0, [3], [[0, 0, 1, 0, 0, 0, 0, 0, 1], [0, 0, 0, 1, 0, 0, 0, 1, 0, 0, 0, 0, 0, 1], [0, 1, 0, 0, 1]], ((0, 0), [])), (0, [0], [[0, 100000, 100000, 100000, 100000, 0, 0, 100000, 0, 0, 0, 0, 0, 0, 0, 100000]], ((0, 0), [])), (2, [1, 2, 3], [[1], [0, 1]], ((0, 0), [])), (2, [0, 2, 3], [[0, 0, 1, 0, 1, 0, 0, 0, 0, 0, 0, 0, 0, 0, 99999, 100000], [0, 0, 0, 1, 0, 1, 0, 0, 0, 0, 0, 0, 0, 0, 1]], ((0, 0), [])), (3, [], [], ((0, 0), [])), (0, [1], [[1, 0, 0, 0, 0, 0, 0, 0, 0, 1]], ((0, 0), [])), (0, [2], [[1], [0, 1, 0, 0, 0, 0, 0, 0, 0, 0, 0, 0, 1]], ((0, 0), [])), (0, [0], [[0, 100000, 100000, 0, 100000, 0, 0, 100000, 0, 100000, 0, 0, 0, 0, 0, 0, 0, 100000, 0, 0, 0, 100000]], ((0, 0), [])), (0, [0], [[0, 0, 1, 0, 0, 1, 0, 0, 0, 0, 0, 0, 0, 0, 0, 0, 0, 0, 0, 0, 0, 0, 1]], ((0, 0), []))]) (by decide +kernel)
theorem zx_gv75_ok {PT : Nat → zz_W → Prop} : zx_Vok 64 zHT PT (zu_Vw 220 31 31 [220] [((0, 0), [(0, 1, 0), (2, 0, 1)]), ((0, 0), [(0, 0, 1), (2, 1, 0)]), ((0, 1), [(1, 0, 1), (3, 1, 0)]), ((1, 0), [(1, 1, 0), (3, 0, 1)]), ((0, 0), [(1, 0, 1), (4, 1, 0)]), ((0, 0), [(1, 1, 0), (4, 0, 1)]), ((0, 0), [(4, 0, 1), (6, 1, 0)]), ((0, 0), [(4, 1, 0), (6, 0, 1)]), ((0, 2), [(7, 1, 0)])]) := zu_Vw_ok (hs := [(2, [2, 0, 0], [[], []], ((0, 0), [])), (2, [2, 1, 1], [[], []], ((0, 0), [])), (1, [], [], ((0, 1), [(4, 0, 1), (14, 1, 0)])), (2, [4, 2, 2], [[0, 1], [0, 0, 1], [1, 1], [1, 1]], ((0, 0), [])), (3, [], [], ((0, 0), [])), (0, [1], [[1, 0, 0, 0, 0, 0, 1]], ((0, 0), [])), (0, [2], [[1], [0, 1, 0, 0, 0, 0, 0, 0, 0, 1]], ((0, 0), [])), (0, [0], [[0, 100000, 0, 0, 0, 100000, 100000, 0, 0, 0, 0, 0, 0, 0, 100000]], ((0, 0), [])), (0, [4], [[0, 0, 0, 0, 0, 0, 1], [0, 0, 100000, 100000, 0, 0, 1, 0, 0, 0, 0, 0, 0, 99999, 100000, 1], [0, 0, 1, 0, 0, 1], [0, 0, 0, 1, 1]], ((0, 0), [])), (1, [], [], ((0, 1), [(4, 1, 0), (14, 0, 1)])), (3, [], [], ((0, 0), [])), (0, [1], [[1, 0, 0, 0, 0, 1]], ((0, 0), [])), (0, [2], [[1], [0, 1, 0, 0, 0, 0, 0, 0, 1]], ((0, 0), [])), (2, [3, 2, 2], [[0, 0, 0, 0, 0, 1], [0, 0, 0, 0, 0, 0, 1], [1], [0, 1, 0, 0, 0, 0, 0, 0, 0, 0, 0, 0, 0, 1]], ((0, 0), [])), (0, [3], [[0, 0, 1, 0, 0, 0, 0, 0, 1], [0, 0, 0, 1, 0, 0, 0, 1, 0, 0, 0, 0, 0, 1], [0, 1, 0, 0, 1]], ((0, 0), [])), (0, [0], [[0, 100000, 100000, 100000, 100000, 0, 0, 100000, 0, 0, 0, 0, 0, 0, 0, 100000]], ((0, 0), [])), (2, [1, 2, 3], [[1], [0, 1]], ((0, 0), [])), (2, [0, 2, 3], [[0, 0, 1, 0, 1, 0, 0, 0, 0, 0, 0, 0, 0, 0, 99999, 100000], [0, 0, 0, 1, 0, 1, 0, 0, 0, 0, 0, 0, 0, 0, 1]], ((0, 0), [])), (3, [], [], ((0, 0), [])), (0, [1], [[1, 0, 0, 0, 0, 0, 0, 0, 0, 1]], ((0, 0), [])), (0, [2], [[1], [0, 1, 0, 0, 0, 0, 0, 0, 0, 0, 0, 0, 1]], ((0, 0), [])), (0, [0], [[0, 100000, 0, 0, 0, 0, 0, 100000, 0, 100000, 0, 0, 0, 0, 0, 0, 0, 100000]], ((0, 0), [])), (0, [0], [[0, 0, 0, 1, 1, 0, 0, 0, 0, 0, 0, 0, 0, 0, 0, 0, 0, 0, 0, 0, 0, 0, 1]], ((0, 0), []))]) (by decide +kernel)
theorem zx_gv76_ok {PT : Nat → zz_W → Prop} : zx_Vok 64 zHT PT (zu_Vw 220 32 32 [220] [((0, 0), [(0, 1, 0), (2, 0, 1)]), ((0, 0), [(0, 0, 1), (2, 1, 0)]), ((0, 1), [(1, 0, 1), (3, 1, 0)]), ((1, 0), [(1, 1, 0), (3, 0, 1)]), ((0, 0), [(1, 0, 1), (4, 1, 0)]), ((0, 0), [(1, 1, 0), (4, 0, 1)]), ((0, 0), [(4, 0, 1), (6, 1, 0)]), ((0, 0), [(4, 1, 0), (6, 0, 1)]), ((0, 1), [(7, 1, 0)]), ((1, 0), [(7, 0, 1)]), ((0, 0), [(5, 1, 0)])]) := zu_Vw_ok (hs := [(2, [2, 0, 0], [[], []], ((0, 0), [])), (2, [2, 1, 1], [[], []], ((0, 0), [])), (1, [], [], ((0, 1), [(4, 0, 1), (14, 1, 0)])), (2, [4, 2, 2], [[0, 1], [0, 0, 1], [1, 1], [1, 1]], ((0, 0), [])), (3, [], [], ((0, 0), [])), (0, [1], [[1, 0, 0, 0, 0, 0, 1]], ((0, 0), [])), (0, [2], [[1], [0, 1, 0, 0, 0, 0, 0, 0, 0, 1]], ((0, 0), [])), (0, [0], [[1, 0, 0, 1, 1]], ((0, 0), [])), (0, [0], [[0, 100000, 0, 0, 0, 100000, 100000, 0, 0, 0, 0, 0, 0, 0, 100000, 0, 0, 0, 100000, 100000]], ((0, 0), [])), (0, [5], [[0, 0, 0, 0, 0, 0, 1], [0, 0, 100000, 100000, 0, 0, 1, 0, 0, 0, 0, 0, 0, 99999, 100000, 1, 0, 0, 0, 100000, 100000], [0, 0, 1, 0, 0, 1], [0, 0, 0, 1, 1]], ((0, 0), [])), (1, [], [], ((0, 1), [(4, 1, 0), (14, 0, 1)])), (3, [], [], ((0, 0), [])), (0, [1], [[1, 0, 0, 0, 0, 1]], ((0, 0), [])), (0, [2], [[1], [0, 1, 0, 0, 0, 0, 0, 0, 1]], ((0, 0), [])), (0, [3], [[1, 0, 0, 1]], ((0, 0), [])), (2, [3, 2, 2], [[0, 0, 0, 0, 0, 1], [0, 0, 0, 0, 0, 0, 1], [1], [0, 1, 0, 0, 0, 0, 0, 0, 0, 0, 0, 0, 0, 1]], ((0, 0), [])), (0, [4], [[0, 0, 1, 0, 0, 0, 0, 0, 1], [0, 0, 0, 1, 0, 0, 0, 1, 0, 0, 0, 0, 0, 1, 0, 0, 0, 0, 0, 100000, 100000], [0, 1, 0, 0, 1]], ((0, 0), [])), (0, [0], [[0, 100000, 100000, 100000, 100000, 0, 0, 100000, 0, 0, 0, 0, 0, 0, 0, 100000, 0, 0, 100000, 100000]], ((0, 0), [])), (2, [1, 2, 3], [[1], [0, 1]], ((0, 0), [])), (0, [4], [[0, 0, 1], [0, 0, 0, 1, 0, 0, 0, 0, 0, 0, 1, 0, 0, 1, 0, 0, 100000, 100000], [1, 0, 0, 0, 0, 0, 0, 0, 0, 0, 0, 0, 0, 0, 0, 0, 0, 0, 1]], ((0, 0), []))]) (by decide +kernel)
theorem zx_gv77_ok {PT : Nat → zz_W → Prop} : zx_Vok 64 zHT PT (zu_Vw 220 32 32 [220] [((0, 0), [(0, 1, 0), (2, 0, 1)]), ((0, 0), [(0, 0, 1), (2, 1, 0)]), ((0, 1), [(1, 0, 1), (3, 1, 0)]), ((1, 0), [(1, 1, 0), (3, 0, 1)]), ((0, 0), [(1, 0, 1), (4, 1, 0)]), ((0, 0), [(1, 1, 0), (4, 0, 1)]), ((0, 0), [(4, 0, 1), (6, 1, 0)]), ((0, 0), [(4, 1, 0), (6, 0, 1)]), ((0, 0), [(7, 0, 1)])]) := zu_Vw_ok (hs := [(2, [2, 0, 0], [[], []], ((0, 0), [])), (2, [2, 1, 1], [[], []], ((0, 0), [])), (1, [], [], ((0, 1), [(4, 0, 1), (14, 1, 0)])), (2, [4, 2, 2], [[0, 1], [0, 0, 1], [1, 1], [1, 1]], ((0, 0), [])), (3, [], [], ((0, 0), [])), (0, [1], [[1, 0, 0, 0, 0, 0, 1]], ((0, 0), [])), (0, [2], [[1], [0, 1, 0, 0, 0, 0, 0, 0, 0, 1]], ((0, 0), [])), (0, [0], [[1, 0, 0, 1, 1]], ((0, 0), [])), (0, [0], [[0, 100000, 0, 0, 0, 100000, 100000, 0, 0, 0, 0, 0, 0, 0, 100000]], ((0, 0), [])), (0, [5], [[0, 0, 0, 0, 0, 0, 1], [0, 0, 100000, 100000, 0, 0, 1, 0, 0, 0, 0, 0, 0, 99999, 100000, 1], [0, 0, 1, 0, 0, 1], [0, 0, 0, 1, 1]], ((0, 0), [])), (1, [], [], ((0, 1), [(4, 1, 0), (14, 0, 1)])), (3, [], [], ((0, 0), [])), (0, [1], [[1, 0, 0, 0, 0, 1]], ((0, 0), [])), (0, [2], [[1], [0, 1, 0, 0, 0, 0, 0, 0, 1]], ((0, 0), [])), (0, [3], [[1, 0, 0, 1]], ((0, 0), [])), (2, [3, 2, 2], [[0, 0, 0, 0, 0, 1], [0, 0, 0, 0, 0, 0, 1], [1], [0, 1, 0, 0, 0, 0, 0, 0, 0, 0, 0, 0, 0, 1]], ((0, 0), [])), (0, [4], [[0, 0, 1, 0, 0, 0, 0, 0, 1], [0, 0, 0, 1, 0, 0, 0, 1, 0, 0, 0, 0, 0, 1], [0, 1, 0, 0, 1]], ((0, 0), [])), (0, [0], [[0, 100000, 100000, 100000, 100000, 0, 0, 100000, 0, 0, 0, 0, 0, 0, 0, 100000]], ((0, 0), [])), (2, [1, 2, 3], [[1], [0, 1]], ((0, 0), [])), (2, [0, 2, 3], [[0, 0, 1, 0, 1, 0, 0, 0, 0, 0, 0, 0, 0, 0, 99999, 100000], [0, 0, 0, 1, 0, 1, 0, 0, 0, 0, 0, 0, 0, 0, 1]], ((0, 0), [])), (3, [], [], ((0, 0), [])), (0, [1], [[1, 0, 0, 0, 0, 0, 0, 0, 0, 1]], ((0, 0), [])), (0, [2], [[1], [0, 1, 0, 0, 0, 0, 0, 0, 0, 0, 0, 0, 1]], ((0, 0), [])), (0, [0], [[1, 0, 0, 0, 0, 1, 0, 1]], ((0, 0), [])), (0, [0], [[0, 100000, 100000, 0, 100000, 0, 0, 100000, 0, 100000, 0, 0, 0, 0, 0, 0, 0, 100000, 0, 0, 0, 100000]], ((0, 0), [])), (0, [0], [[0, 0, 1, 0, 0, 1, 0, 0, 0, 0, 0, 0, 0, 0, 0, 0, 0, 0, 0, 0, 0, 0, 1]], ((0, 0), []))]) (by decide +kernel)
theorem zx_gv78_ok {PT : Nat → zz_W → Prop} : zx_Vok 64 zHT PT (zu_Vw 220 32 32 [220] [((0, 0), [(0, 1, 0), (2, 0, 1)]), ((0, 0), [(0, 0, 1), (2, 1, 0)]), ((0, 1), [(1, 0, 1), (3, 1, 0)]), ((1, 0), [(1, 1, 0), (3, 0, 1)]), ((0, 0), [(1, 0, 1), (4, 1, 0)]), ((0, 0), [(1, 1, 0), (4, 0, 1)]), ((0, 0), [(4, 0, 1), (6, 1, 0)]), ((0, 0), [(4, 1, 0), (6, 0, 1)]), ((0, 2), [(7, 1, 0)])]) := zu_Vw_ok (hs := [(2, [2, 0, 0], [[], []], ((0, 0), [])), (2, [2, 1, 1], [[], []], ((0, 0), [])), (1, [], [], ((0, 1), [(4, 0, 1), (14, 1, 0)])), (2, [4, 2, 2], [[0, 1], [0, 0, 1], [1, 1], [1, 1]], ((0, 0), [])), (3, [], [], ((0, 0), [])), (0, [1], [[1, 0, 0, 0, 0, 0, 1]], ((0, 0), [])), (0, [2], [[1], [0, 1, 0, 0, 0, 0, 0, 0, 0, 1]], ((0, 0), [])), (0, [0], [[1, 0, 0, 1, 1]], ((0, 0), [])), (0, [0], [[0, 100000, 0, 0, 0, 100000, 100000, 0, 0, 0, 0, 0, 0, 0, 100000]], ((0, 0), [])), (0, [5], [[0, 0, 0, 0, 0, 0, 1], [0, 0, 100000, 100000, 0, 0, 1, 0, 0, 0, 0, 0, 0, 99999, 100000, 1], [0, 0, 1, 0, 0, 1], [0, 0, 0, 1, 1]], ((0, 0), [])), (1, [], [], ((0, 1), [(4, 1, 0), (14, 0, 1)])), (3, [], [], ((0, 0), [])), (0, [1], [[1, 0, 0, 0, 0, 1]], ((0, 0), [])), (0, [2], [[1], [0, 1, 0, 0, 0, 0, 0, 0, 1]], ((0, 0), [])), (0, [3], [[1, 0, 0, 1]], ((0, 0), [])), (2, [3, 2, 2], [[0, 0, 0, 0, 0, 1], [0, 0, 0, 0, 0, 0, 1], [1], [0, 1, 0, 0, 0, 0, 0, 0, 0, 0, 0, 0, 0, 1]], ((0, 0), [])), (0, [4], [[0, 0, 1, 0, 0, 0, 0, 0, 1], [0, 0, 0, 1, 0, 0, 0, 1, 0, 0, 0, 0, 0, 1], [0, 1, 0, 0, 1]], ((0, 0), [])), (0, [0], [[0, 100000, 100000, 100000, 100000, 0, 0, 100000, 0, 0, 0, 0, 0, 0, 0, 100000]], ((0, 0), [])), (2, [1, 2, 3], [[1], [0, 1]], ((0, 0), [])), (2, [0, 2, 3], [[0, 0, 1, 0, 1, 0, 0, 0, 0, 0, 0, 0, 0, 0, 99999, 100000], [0, 0, 0, 1, 0, 1, 0, 0, 0, 0, 0, 0, 0, 0, 1]], ((0, 0), [])), (3, [], [], ((0, 0), [])), (0, [1], [[1, 0, 0, 0, 0, 0, 0, 0, 0, 1]], ((0, 0), [])), (0, [2], [[1], [0, 1, 0, 0, 0, 0, 0, 0, 0, 0, 0, 0, 1]], ((0, 0), [])), (0, [0], [[1, 0, 0, 0, 0, 1, 0, 1]], ((0, 0), [])), (0, [0], [[0, 100000, 0, 0, 0, 0, 0, 100000, 0, 100000, 0, 0, 0, 0, 0, 0, 0, 100000]], ((0, 0), [])), (0, [0], [[0, 0, 0, 1, 1, 0, 0, 0, 0, 0, 0, 0, 0, 0, 0, 0, 0, 0, 0, 0, 0, 0, 1]], ((0, 0), []))]) (by decide +kernel)
theorem zx_gv79_ok {PT : Nat → zz_W → Prop} : zx_Vok 64 zHT PT (zu_Vw 220 33 33 [220] [((0, 0), [(0, 1, 0), (2, 0, 1)]), ((0, 0), [(0, 0, 1), (2, 1, 0)]), ((0, 1), [(1, 0, 1), (3, 1, 0)]), ((1, 0), [(1, 1, 0), (3, 0, 1)]), ((0, 0), [(1, 0, 1), (4, 1, 0)]), ((0, 0), [(1, 1, 0), (4, 0, 1)]), ((0, 0), [(4, 0, 1), (6, 1, 0)]), ((0, 0), [(4, 1, 0), (6, 0, 1)]), ((0, 1), [(7, 1, 0)]), ((1, 0), [(7, 0, 1)]), ((0, 0), [(5, 1, 0)])]) := zu_Vw_ok (hs := [(2, [2, 0, 0], [[], []], ((0, 0), [])), (2, [2, 1, 1], [[], []], ((0, 0), [])), (1, [], [], ((0, 1), [(4, 0, 1), (14, 1, 0)])), (2, [4, 2, 2], [[0, 1], [0, 0, 1], [1, 1], [1, 1]], ((0, 0), [])), (3, [], [], ((0, 0), [])), (0, [1], [[1, 0, 0, 0, 0, 0, 1]], ((0, 0), [])), (0, [2], [[1], [0, 1, 0, 0, 0, 0, 0, 0, 0, 1]], ((0, 0), [])), (0, [0], [[0, 100000, 0, 0, 0, 100000, 100000, 0, 0, 0, 0, 0, 0, 0, 100000, 0, 0, 0, 100000, 100000]], ((0, 0), [])), (0, [4], [[0, 0, 0, 0, 0, 0, 1], [0, 0, 100000, 100000, 0, 0, 1, 0, 0, 0, 0, 0, 0, 99999, 100000, 1, 0, 0, 0, 100000, 100000], [0, 0, 1, 0, 0, 1], [0, 0, 0, 1, 1]], ((0, 0), [])), (1, [], [], ((0, 1), [(4, 1, 0), (14, 0, 1)])), (3, [], [], ((0, 0), [])), (0, [1], [[1, 0, 0, 0, 0, 1]], ((0, 0), [])), (0, [2], [[1], [0, 1, 0, 0, 0, 0, 0, 0, 1]], ((0, 0), [])), (2, [3, 2, 2], [[0, 0, 0, 0, 0, 1], [0, 0, 0, 0, 0, 0, 1], [1], [0, 1, 0, 0, 0, 0, 0, 0, 0, 0, 0, 0, 0, 1]], ((0, 0), [])), (0, [3], [[0, 0, 1, 0, 0, 0, 0, 0, 1], [0, 0, 0, 1, 0, 0, 0, 1, 0, 0, 0, 0, 0, 1, 0, 0, 0, 0, 0, 100000, 100000], [0, 1, 0, 0, 1]], ((0, 0), [])), (0, [0], [[0, 100000, 100000, 100000, 100000, 0, 0, 100000, 0, 0, 0, 0, 0, 0, 0, 100000, 0, 0, 100000, 100000]], ((0, 0), [])), (2, [1, 2, 3], [[1], [0, 1]], ((0, 0), [])), (0, [3], [[0, 0, 1], [0, 0, 0, 1, 0, 0, 0, 0, 0, 0, 1, 0, 0, 1, 0, 0, 100000, 100000], [1, 0, 0, 0, 0, 0, 0, 0, 0, 0, 0, 0, 0, 0, 0, 0, 0, 0, 1]], ((0, 0), []))]) (by decide +kernel)
theorem zx_gv80_ok {PT : Nat → zz_W → Prop} : zx_Vok 64 zHT PT (zu_Vw 220 33 33 [220] [((0, 0), [(0, 1, 0), (2, 0, 1)]), ((0, 0), [(0, 0, 1), (2, 1, 0)]), ((0, 1), [(1, 0, 1), (3, 1, 0)]), ((1, 0), [(1, 1, 0), (3, 0, 1)]), ((0, 0), [(1, 0, 1), (4, 1, 0)]), ((0, 0), [(1, 1, 0), (4, 0, 1)]), ((0, 0), [(4, 0, 1), (6, 1, 0)]), ((0, 0), [(4, 1, 0), (6, 0, 1)]), ((0, 0), [(7, 0, 1)])]) := zu_Vw_ok (hs := [(2, [2, 0, 0], [[], []], ((0, 0), [])), (2, [2, 1, 1], [[], []], ((0, 0), [])), (1, [], [], ((0, 1), [(4, 0, 1), (14, 1, 0)])), (2, [4, 2, 2], [[0, 1], [0, 0, 1], [1, 1], [1, 1]], ((0, 0), [])), (3, [], [], ((0, 0), [])), (0, [1], [[1, 0, 0, 0, 0, 0, 1]], ((0, 0), [])), (0, [2], [[1], [0, 1, 0, 0, 0, 0, 0, 0, 0, 1]], ((0, 0), [])), (0, [0], [[0, 100000, 0, 0, 0, 100000, 100000, 0, 0, 0, 0, 0, 0, 0, 100000]], ((0, 0), [])), (0, [4], [[0, 0, 0, 0, 0, 0, 1], [0, 0, 100000, 100000, 0, 0, 1, 0, 0, 0, 0, 0, 0, 99999, 100000, 1], [0, 0, 1, 0, 0, 1], [0, 0, 0, 1, 1]], ((0, 0), [])), (1, [], [], ((0, 1), [(4, 1, 0), (14, 0, 1)])), (3, [], [], ((0, 0), [])), (0, [1], [[1, 0, 0, 0, 0, 1]], ((0, 0), [])), (0, [2], [[1], [0, 1, 0, 0, 0, 0, 0, 0, 1]], ((0, 0), [])), (2, [3, 2, 2], [[0, 0, 0, 0, 0, 1], [0, 0, 0, 0, 0, 0, 1], [1], [0, 1, 0, 0, 0, 0, 0, 0, 0, 0, 0, 0, 0, 1]], ((0, 0), [])), (0, [3], [[0, 0, 1, 0, 0, 0, 0, 0, 1], [0, 0, 0, 1, 0, 0, 0, 1, 0, 0, 0, 0, 0, 1], [0, 1, 0, 0, 1]], ((0, 0), [])), (0, [0], [[0, 100000, 100000, 100000, 100000, 0, 0, 100000, 0, 0, 0, 0, 0, 0, 0, 100000]], ((0, 0), [])), (2, [1, 2, 3], [[1], [0, 1]], ((0, 0), [])), (2, [0, 2, 3], [[0, 0, 1, 0, 1, 0, 0, 0, 0, 0, 0, 0, 0, 0, 99999, 100000], [0, 0, 0, 1, 0, 1, 0, 0, 0, 0, 0, 0, 0, 0, 1]], ((0, 0), [])), (3, [], [], ((0, 0), [])), (0, [1], [[1, 0, 0, 0, 0, 0, 0, 0, 0, 1]], ((0, 0), [])), (0, [2], [[1], [0, 1, 0, 0, 0, 0, 0, 0, 0, 0, 0, 0, 1]], ((0, 0), [])), (0, [0], [[0, 100000, 100000, 0, 100000, 0, 0, 100000, 0, 100000, 0, 0, 0, 0, 0, 0, 0, 100000, 0, 0, 0, 100000]], ((0, 0), [])), (0, [0], [[0, 0, 1, 0, 0, 1, 0, 0, 0, 0, 0, 0, 0, 0, 0, 0, 0, 0, 0, 0, 0, 0, 1]], ((0, 0), []))]) (by decide +kernel)
theorem zx_gv81_ok {PT : Nat → zz_W → Prop} : zx_Vok 64 zHT PT (zu_Vw 220 33 33 [220] [((0, 0), [(0, 1, 0), (2, 0, 1)]), ((0, 0), [(0, 0, 1), (2, 1, 0)]), ((0, 1), [(1, 0, 1), (3, 1, 0)]), ((1, 0), [(1, 1, 0), (3, 0, 1)]), ((0, 0), [(1, 0, 1), (4, 1, 0)]), ((0, 0), [(1, 1, 0), (4, 0, 1)]), ((0, 0), [(4, 0, 1), (6, 1, 0)]), ((0, 0), [(4, 1, 0), (6, 0, 1)]), ((0, 2), [(7, 1, 0)])]) := zu_Vw_ok (hs := [(2, [2, 0, 0], [[], []], ((0, 0), [])), (2, [2, 1, 1], [[], []], ((0, 0), [])), (1, [], [], ((0, 1), [(4, 0, 1), (14, 1, 0)])), (2, [4, 2, 2], [[0, 1], [0, 0, 1], [1, 1], [1, 1]], ((0, 0), [])), (3, [], [], ((0, 0), [])), (0, [1], [[1, 0, 0, 0, 0, 0, 1]], ((0, 0), [])), (0, [2], [[1], [0, 1, 0, 0, 0, 0, 0, 0, 0, 1]], ((0, 0), [])), (0, [0], [[0, 100000, 0, 0, 0, 100000, 100000, 0, 0, 0, 0, 0, 0, 0, 100000]], ((0, 0), [])), (0, [4], [[0, 0, 0, 0, 0, 0, 1], [0, 0, 100000, 100000, 0, 0, 1, 0, 0, 0, 0, 0, 0, 99999, 100000, 1], [0, 0, 1, 0, 0, 1], [0, 0, 0, 1, 1]], ((0, 0), [])), (1, [], [], ((0, 1), [(4, 1, 0), (14, 0, 1)])), (3, [], [], ((0, 0), [])), (0, [1], [[1, 0, 0, 0, 0, 1]], ((0, 0), [])), (0, [2], [[1], [0, 1, 0, 0, 0, 0, 0, 0, 1]], ((0, 0), [])), (2, [3, 2, 2], [[0, 0, 0, 0, 0, 1], [0, 0, 0, 0, 0, 0, 1], [1], [0, 1, 0, 0, 0, 0, 0, 0, 0, 0, 0, 0, 0, 1]], ((0, 0), [])), (0, [3], [[0, 0, 1, 0, 0, 0, 0, 0, 1], [0, 0, 0, 1, 0, 0, 0, 1, 0, 0, 0, 0, 0, 1], [0, 1, 0, 0, 1]], ((0, 0), [])), (0, [0], [[0, 100000, 100000, 100000, 100000, 0, 0, 100000, 0, 0, 0, 0, 0, 0, 0, 100000]], ((0, 0), [])), (2, [1, 2, 3], [[1], [0, 1]], ((0, 0), [])), (2, [0, 2, 3], [[0, 0, 1, 0, 1, 0, 0, 0, 0, 0, 0, 0, 0, 0, 99999, 100000], [0, 0, 0, 1, 0, 1, 0, 0, 0, 0, 0, 0, 0, 0, 1]], ((0, 0), [])), (3, [], [], ((0, 0), [])), (0, [1], [[1, 0, 0, 0, 0, 0, 0, 0, 0, 1]], ((0, 0), [])), (0, [2], [[1], [0, 1, 0, 0, 0, 0, 0, 0, 0, 0, 0, 0, 1]], ((0, 0), [])), (0, [0], [[0, 100000, 0, 0, 0, 0, 0, 100000, 0, 100000, 0, 0, 0, 0, 0, 0, 0, 100000]], ((0, 0), [])), (0, [0], [[0, 0, 0, 1, 1, 0, 0, 0, 0, 0, 0, 0, 0, 0, 0, 0, 0, 0, 0, 0, 0, 0, 1]], ((0, 0), []))]) (by decide +kernel)
theorem zx_gv82_ok {PT : Nat → zz_W → Prop} : zx_Vok 64 zHT PT (zu_Vw 220 34 34 [220] [((0, 0), [(0, 1, 0), (2, 0, 1)]), ((0, 0), [(0, 0, 1), (2, 1, 0)]), ((0, 1), [(1, 0, 1), (3, 1, 0)]), ((1, 0), [(1, 1, 0), (3, 0, 1)]), ((0, 0), [(1, 0, 1), (4, 1, 0)]), ((0, 0), [(1, 1, 0), (4, 0, 1)]), ((0, 0), [(4, 0, 1), (6, 1, 0)]), ((0, 0), [(4, 1, 0), (6, 0, 1)]), ((0, 1), [(7, 1, 0)]), ((1, 0), [(7, 0, 1)]), ((0, 0), [(5, 1, 0)])]) := zu_Vw_ok (hs := [(2, [2, 0, 0], [[], []], ((0, 0), [])), (2, [2, 1, 1], [[], []], ((0, 0), [])), (1, [], [], ((0, 1), [(4, 0, 1), (14, 1, 0)])), (2, [4, 2, 2], [[0, 1], [0, 0, 1], [1, 1], [1, 1]], ((0, 0), [])), (3, [], [], ((0, 0), [])), (0, [1], [[1, 0, 0, 0, 0, 0, 1]], ((0, 0), [])), (0, [2], [[], [0, 1, 0, 0, 0, 0, 0, 0, 0, 1]], ((0, 0), [])), (0, [0], [[0, 100000, 0, 0, 0, 100000, 100000, 0, 0, 0, 0, 0, 0, 0, 100000, 0, 0, 0, 100000, 100000]], ((0, 0), [])), (0, [4], [[0, 0, 0, 0, 0, 0, 1], [0, 0, 100000, 100000, 0, 0, 1, 0, 0, 0, 0, 0, 0, 99999, 100000, 1, 0, 0, 0, 100000, 100000], [0, 0, 1, 0, 0, 1], [0, 0, 0, 1, 1]], ((0, 0), [])), (1, [], [], ((0, 1), [(4, 1, 0), (14, 0, 1)])), (3, [], [], ((0, 0), [])), (0, [1], [[1, 0, 0, 0, 0, 1]], ((0, 0), [])), (0, [2], [[], [0, 1, 0, 0, 0, 0, 0, 0, 1]], ((0, 0), [])), (2, [3, 2, 2], [[0, 0, 0, 0, 0, 1], [0, 0, 0, 0, 0, 0, 1], [1], [0, 1, 0, 0, 0, 0, 0, 0, 0, 0, 0, 0, 0, 1]], ((0, 0), [])), (0, [3], [[0, 0, 1, 0, 0, 0, 0, 0, 1], [0, 0, 0, 1, 0, 0, 0, 1, 0, 0, 0, 0, 0, 1, 0, 0, 0, 0, 0, 100000, 100000], [0, 1, 0, 0, 1]], ((0, 0), [])), (0, [0], [[0, 100000, 100000, 100000, 100000, 0, 0, 100000, 0, 0, 0, 0, 0, 0, 0, 100000, 0, 0, 100000, 100000]], ((0, 0), [])), (2, [1, 2, 3], [[1], [0, 1]], ((0, 0), [])), (0, [3], [[0, 0, 1], [0, 0, 0, 1, 0, 0, 0, 0, 0, 0, 1, 0, 0, 1, 0, 0, 100000, 100000], [1, 0, 0, 0, 0, 0, 0, 0, 0, 0, 0, 0, 0, 0, 0, 0, 0, 0, 1]], ((0, 0), []))]) (by decide +kernel)
theorem zx_gv83_ok {PT : Nat → zz_W → Prop} : zx_Vok 64 zHT PT (zu_Vw 220 34 34 [220] [((0, 0), [(0, 1, 0), (2, 0, 1)]), ((0, 0), [(0, 0, 1), (2, 1, 0)]), ((0, 1), [(1, 0, 1), (3, 1, 0)]), ((1, 0), [(1, 1, 0), (3, 0, 1)]), ((0, 0), [(1, 0, 1), (4, 1, 0)]), ((0, 0), [(1, 1, 0), (4, 0, 1)]), ((0, 0), [(4, 0, 1), (6, 1, 0)]), ((0, 0), [(4, 1, 0), (6, 0, 1)]), ((0, 0), [(7, 0, 1)])]) := zu_Vw_ok (hs := [(2, [2, 0, 0], [[], []], ((0, 0), [])), (2, [2, 1, 1], [[], []], ((0, 0), [])), (1, [], [], ((0, 1), [(4, 0, 1), (14, 1, 0)])), (2, [4, 2, 2], [[0, 1], [0, 0, 1], [1, 1], [1, 1]], ((0, 0), [])), (3, [], [], ((0, 0), [])), (0, [1], [[1, 0, 0, 0, 0, 0, 1]], ((0, 0), [])), (0, [2], [[], [0, 1, 0, 0, 0, 0, 0, 0, 0, 1]], ((0, 0), [])), (0, [0], [[0, 100000, 0, 0, 0, 100000, 100000, 0, 0, 0, 0, 0, 0, 0, 100000]], ((0, 0), [])), (0, [4], [[0, 0, 0, 0, 0, 0, 1], [0, 0, 100000, 100000, 0, 0, 1, 0, 0, 0, 0, 0, 0, 99999, 100000, 1], [0, 0, 1, 0, 0, 1], [0, 0, 0, 1, 1]], ((0, 0), [])), (1, [], [], ((0, 1), [(4, 1, 0), (14, 0, 1)])), (3, [], [], ((0, 0), [])), (0, [1], [[1, 0, 0, 0, 0, 1]], ((0, 0), [])), (0, [2], [[], [0, 1, 0, 0, 0, 0, 0, 0, 1]], ((0, 0), [])), (2, [3, 2, 2], [[0, 0, 0, 0, 0, 1], [0, 0, 0, 0, 0, 0, 1], [1], [0, 1, 0, 0, 0, 0, 0, 0, 0, 0, 0, 0, 0, 1]], ((0, 0), [])), (0, [3], [[0, 0, 1, 0, 0, 0, 0, 0, 1], [0, 0, 0, 1, 0, 0, 0, 1, 0, 0, 0, 0, 0, 1], [0, 1, 0, 0, 1]], ((0, 0), [])), (0, [0], [[0, 100000, 100000, 100000, 100000, 0, 0, 100000, 0, 0, 0, 0, 0, 0, 0, 100000]], ((0, 0), [])), (2, [1, 2, 3], [[1], [0, 1]], ((0, 0), [])), (2, [0, 2, 3], [[0, 0, 1, 0, 1, 0, 0, 0, 0, 0, 0, 0, 0, 0, 99999, 100000], [0, 0, 0, 1, 0, 1, 0, 0, 0, 0, 0, 0, 0, 0, 1]], ((0, 0), [])), (3, [], [], ((0, 0), [])), (0, [1], [[1, 0, 0, 0, 0, 0, 0, 0, 0, 1]], ((0, 0), [])), (0, [2], [[], [0, 1, 0, 0, 0, 0, 0, 0, 0, 0, 0, 0, 1]], ((0, 0), [])), (0, [0], [[0, 100000, 100000, 0, 100000, 0, 0, 100000, 0, 100000, 0, 0, 0, 0, 0, 0, 0, 100000, 0, 0, 0, 100000]], ((0, 0), [])), (0, [0], [[0, 0, 1, 0, 0, 1, 0, 0, 0, 0, 0, 0, 0, 0, 0, 0, 0, 0, 0, 0, 0, 0, 1]], ((0, 0), []))]) (by decide +kernel)
theorem zx_gv84_ok {PT : Nat → zz_W → Prop} : zx_Vok 64 zHT PT (zu_Vw 220 34 34 [220] [((0, 0), [(0, 1, 0), (2, 0, 1)]), ((0, 0), [(0, 0, 1), (2, 1, 0)]), ((0, 1), [(1, 0, 1), (3, 1, 0)]), ((1, 0), [(1, 1, 0), (3, 0, 1)]), ((0, 0), [(1, 0, 1), (4, 1, 0)]), ((0, 0), [(1, 1, 0), (4, 0, 1)]), ((0, 0), [(4, 0, 1), (6, 1, 0)]), ((0, 0), [(4, 1, 0), (6, 0, 1)]), ((0, 2), [(7, 1, 0)])]) := zu_Vw_ok (hs := [(2, [2, 0, 0], [[], []], ((0, 0), [])), (2, [2, 1, 1], [[], []], ((0, 0), [])), (1, [], [], ((0, 1), [(4, 0, 1), (14, 1, 0)])), (2, [4, 2, 2], [[0, 1], [0, 0, 1], [1, 1], [1, 1]], ((0, 0), [])), (3, [], [], ((0, 0), [])), (0, [1], [[1, 0, 0, 0, 0, 0, 1]], ((0, 0), [])), (0, [2], [[], [0, 1, 0, 0, 0, 0, 0, 0, 0, 1]], ((0, 0), [])), (0, [0], [[0, 100000, 0, 0, 0, 100000, 100000, 0, 0, 0, 0, 0, 0, 0, 100000]], ((0, 0), [])), (0, [4], [[0, 0, 0, 0, 0, 0, 1], [0, 0, 100000, 100000, 0, 0, 1, 0, 0, 0, 0, 0, 0, 99999, 100000, 1], [0, 0, 1, 0, 0, 1], [0, 0, 0, 1, 1]], ((0, 0), [])), (1, [], [], ((0, 1), [(4, 1, 0), (14, 0, 1)])), (3, [], [], ((0, 0), [])), (0, [1], [[1, 0, 0, 0, 0, 1]], ((0, 0), [])), (0, [2], [[], [0, 1, 0, 0, 0, 0, 0, 0, 1]], ((0, 0), [])), (2, [3, 2, 2], [[0, 0, 0, 0, 0, 1], [0, 0, 0, 0, 0, 0, 1], [1], [0, 1, 0, 0, 0, 0, 0, 0, 0, 0, 0, 0, 0, 1]], ((0, 0), [])), (0, [3], [[0, 0, 1, 0, 0, 0, 0, 0, 1], [0, 0, 0, 1, 0, 0, 0, 1, 0, 0, 0, 0, 0, 1], [0, 1, 0, 0, 1]], ((0, 0), [])), (0, [0], [[0, 100000, 100000, 100000, 100000, 0, 0, 100000, 0, 0, 0, 0, 0, 0, 0, 100000]], ((0, 0), [])), (2, [1, 2, 3], [[1], [0, 1]], ((0, 0), [])), (2, [0, 2, 3], [[0, 0, 1, 0, 1, 0, 0, 0, 0, 0, 0, 0, 0, 0, 99999, 100000], [0, 0, 0, 1, 0, 1, 0, 0, 0, 0, 0, 0, 0, 0, 1]], ((0, 0), [])), (3, [], [], ((0, 0), [])), (0, [1], [[1, 0, 0, 0, 0, 0, 0, 0, 0, 1]], ((0, 0), [])), (0, [2], [[], [0, 1, 0, 0, 0, 0, 0, 0, 0, 0, 0, 0, 1]], ((0, 0), [])), (0, [0], [[0, 100000, 0, 0, 0, 0, 0, 100000, 0, 100000, 0, 0, 0, 0, 0, 0, 0, 100000]], ((0, 0), [])), (0, [0], [[0, 0, 0, 1, 1, 0, 0, 0, 0, 0, 0, 0, 0, 0, 0, 0, 0, 0, 0, 0, 0, 0, 1]], ((0, 0), []))]) (by decide +kernel)
theorem zx_gv85_ok {PT : Nat → zz_W → Prop} : zx_Vok 64 zHT PT (zu_Vw 220 35 35 [220] [((0, 0), [(0, 1, 0), (2, 0, 1)]), ((0, 0), [(0, 0, 1), (2, 1, 0)]), ((0, 1), [(1, 0, 1), (3, 1, 0)]), ((1, 0), [(1, 1, 0), (3, 0, 1)]), ((0, 0), [(1, 0, 1), (4, 1, 0)]), ((0, 0), [(1, 1, 0), (4, 0, 1)]), ((0, 0), [(4, 0, 1), (6, 1, 0)]), ((0, 0), [(4, 1, 0), (6, 0, 1)]), ((0, 1), [(7, 1, 0)]), ((1, 0), [(7, 0, 1)]), ((0, 0), [(5, 1, 0)])]) := zu_Vw_ok (hs := [(2, [2, 0, 0], [[], []], ((0, 0), [])), (2, [2, 1, 1], [[], []], ((0, 0), [])), (2, [2, 2, 2], [[], []], ((0, 0), [])), (2, [2, 4, 4], [[], []], ((0, 0), [])), (1, [], [], ((0, 1), [(4, 0, 1), (17, 1, 0)])), (2, [4, 3, 3], [[0, 0, 0, 1], [0, 0, 0, 0, 1], [1, 0, 0, 1], [1, 0, 0, 1]], ((0, 0), [])), (3, [], [], ((0, 0), [])), (0, [1], [[1, 0, 0, 0, 0, 0, 0, 0, 0, 0, 1]], ((0, 0), [])), (0, [2], [[], [0, 1, 0, 0, 0, 0, 0, 0, 0, 0, 0, 0, 0, 1]], ((0, 0), [])), (0, [3], [[1, 0, 0, 0, 0, 0, 0, 0, 1]], ((0, 0), [])), (0, [4], [[1, 0, 0, 0, 0, 0, 0, 0, 0, 0, 1], [0, 1, 0, 0, 0, 0, 0, 0, 0, 1]], ((0, 0), [])), (0, [5], [[1, 0, 0, 0, 0, 0, 0, 0, 0, 1]], ((0, 0), [])), (0, [6], [[1, 0, 0, 0, 1]], ((0, 0), [])), (0, [0], [[0, 100000, 0, 0, 0, 100000, 0, 0, 100000, 0, 0, 0, 0, 0, 0, 0, 0, 0, 100000, 0, 0, 0, 100000, 100000]], ((0, 0), [])), (0, [8], [[0, 0, 0, 0, 0, 0, 1], [0, 0, 100000, 100000, 0, 0, 1, 0, 0, 0, 0, 0, 0, 0, 0, 0, 0, 99999, 100000, 1, 0, 0, 0, 100000, 100000], [0, 0, 1, 0, 0, 1], [0, 0, 0, 1, 1]], ((0, 0), [])), (1, [], [], ((0, 1), [(4, 1, 0), (17, 0, 1)])), (3, [], [], ((0, 0), [])), (0, [1], [[1, 0, 0, 0, 0, 0, 0, 0, 0, 1]], ((0, 0), [])), (0, [2], [[], [0, 1, 0, 0, 0, 0, 0, 0, 0, 0, 0, 0, 1]], ((0, 0), [])), (0, [3], [[1, 0, 0, 0, 0, 0, 0, 1]], ((0, 0), [])), (0, [4], [[1, 0, 0, 0, 0, 0, 0, 0, 0, 1], [0, 1, 0, 0, 0, 0, 0, 0, 1]], ((0, 0), [])), (0, [5], [[1, 0, 0, 0, 0, 0, 0, 0, 1]], ((0, 0), [])), (0, [6], [[1, 0, 0, 1]], ((0, 0), [])), (2, [3, 3, 3], [[0, 0, 0, 0, 0, 0, 0, 1], [0, 0, 0, 0, 0, 0, 0, 0, 1], [1], [0, 1, 0, 0, 0, 0, 0, 0, 0, 0, 0, 0, 0, 0, 0, 0, 0, 1]], ((0, 0), [])), (0, [7], [[0, 0, 1, 0, 0, 0, 0, 0, 0, 0, 1], [0, 0, 0, 1, 0, 0, 0, 0, 0, 1, 0, 0, 0, 0, 0, 0, 0, 1, 0, 0, 0, 0, 0, 100000, 100000], [0, 1, 0, 0, 1]], ((0, 0), [])), (0, [0], [[0, 100000, 100000, 100000, 100000, 0, 0, 0, 0, 100000, 0, 0, 0, 0, 0, 0, 0, 0, 0, 100000, 0, 0, 100000, 100000]], ((0, 0), [])), (2, [1, 3, 5], [[1], [0, 1]], ((0, 0), [])), (0, [7], [[0, 0, 1], [0, 0, 0, 1, 0, 0, 0, 0, 0, 0, 0, 0, 0, 0, 1, 0, 0, 1, 0, 0, 100000, 100000], [1, 0, 0, 0, 0, 0, 0, 0, 0, 0, 0, 0, 0, 0, 0, 0, 0, 0, 0, 0, 0, 0, 1]], ((0, 0), []))]) (by decide +kernel)
theorem zx_gv86_ok {PT : Nat → zz_W → Prop} : zx_Vok 64 zHT PT (zu_Vw 220 35 35 [220] [((0, 0), [(0, 1, 0), (2, 0, 1)]), ((0, 0), [(0, 0, 1), (2, 1, 0)]), ((0, 1), [(1, 0, 1), (3, 1, 0)]), ((1, 0), [(1, 1, 0), (3, 0, 1)]), ((0, 0), [(1, 0, 1), (4, 1, 0)]), ((0, 0), [(1, 1, 0), (4, 0, 1)]), ((0, 0), [(4, 0, 1), (6, 1, 0)]), ((0, 0), [(4, 1, 0), (6, 0, 1)]), ((0, 0), [(7, 0, 1)])]) := zu_Vw_ok (hs := [(2, [2, 0, 0], [[], []], ((0, 0), [])), (2, [2, 1, 1], [[], []], ((0, 0), [])), (2, [2, 2, 2], [[], []], ((0, 0), [])), (2, [2, 4, 4], [[], []], ((0, 0), [])), (1, [], [], ((0, 1), [(4, 0, 1), (17, 1, 0)])), (2, [4, 3, 3], [[0, 0, 0, 1], [0, 0, 0, 0, 1], [1, 0, 0, 1], [1, 0, 0, 1]], ((0, 0), [])), (3, [], [], ((0, 0), [])), (0, [1], [[1, 0, 0, 0, 0, 0, 0, 0, 0, 0, 1]], ((0, 0), [])), (0, [2], [[], [0, 1, 0, 0, 0, 0, 0, 0, 0, 0, 0, 0, 0, 1]], ((0, 0), [])), (0, [3], [[1, 0, 0, 0, 0, 0, 0, 0, 1]], ((0, 0), [])), (0, [4], [[1, 0, 0, 0, 0, 0, 0, 0, 0, 0, 1], [0, 1, 0, 0, 0, 0, 0, 0, 0, 1]], ((0, 0), [])), (0, [5], [[1, 0, 0, 0, 0, 0, 0, 0, 0, 1]], ((0, 0), [])), (0, [6], [[1, 0, 0, 0, 1]], ((0, 0), [])), (0, [0], [[0, 100000, 0, 0, 0, 100000, 0, 0, 100000, 0, 0, 0, 0, 0, 0, 0, 0, 0, 100000]], ((0, 0), [])), (0, [8], [[0, 0, 0, 0, 0, 0, 1], [0, 0, 100000, 100000, 0, 0, 1, 0, 0, 0, 0, 0, 0, 0, 0, 0, 0, 99999, 100000, 1], [0, 0, 1, 0, 0, 1], [0, 0, 0, 1, 1]], ((0, 0), [])), (1, [], [], ((0, 1), [(4, 1, 0), (17, 0, 1)])), (3, [], [], ((0, 0), [])), (0, [1], [[1, 0, 0, 0, 0, 0, 0, 0, 0, 1]], ((0, 0), [])), (0, [2], [[], [0, 1, 0, 0, 0, 0, 0, 0, 0, 0, 0, 0, 1]], ((0, 0), [])), (0, [3], [[1, 0, 0, 0, 0, 0, 0, 1]], ((0, 0), [])), (0, [4], [[1, 0, 0, 0, 0, 0, 0, 0, 0, 1], [0, 1, 0, 0, 0, 0, 0, 0, 1]], ((0, 0), [])), (0, [5], [[1, 0, 0, 0, 0, 0, 0, 0, 1]], ((0, 0), [])), (0, [6], [[1, 0, 0, 1]], ((0, 0), [])), (2, [3, 3, 3], [[0, 0, 0, 0, 0, 0, 0, 1], [0, 0, 0, 0, 0, 0, 0, 0, 1], [1], [0, 1, 0, 0, 0, 0, 0, 0, 0, 0, 0, 0, 0, 0, 0, 0, 0, 1]], ((0, 0), [])), (0, [7], [[0, 0, 1, 0, 0, 0, 0, 0, 0, 0, 1], [0, 0, 0, 1, 0, 0, 0, 0, 0, 1, 0, 0, 0, 0, 0, 0, 0, 1], [0, 1, 0, 0, 1]], ((0, 0), [])), (0, [0], [[0, 100000, 100000, 100000, 100000, 0, 0, 0, 0, 100000, 0, 0, 0, 0, 0, 0, 0, 0, 0, 100000]], ((0, 0), [])), (2, [1, 3, 5], [[1], [0, 1]], ((0, 0), [])), (2, [0, 3, 5], [[0, 0, 1, 0, 0, 0, 1, 0, 0, 0, 0, 0, 0, 0, 0, 0, 0, 0, 99999, 100000], [0, 0, 0, 1, 0, 0, 0, 1, 0, 0, 0, 0, 0, 0, 0, 0, 0, 0, 1]], ((0, 0), [])), (3, [], [], ((0, 0), [])), (0, [1], [[1, 0, 0, 0, 0, 0, 0, 0, 0, 0, 0, 0, 0, 1]], ((0, 0), [])), (0, [2], [[], [0, 1, 0, 0, 0, 0, 0, 0, 0, 0, 0, 0, 0, 0, 0, 0, 1]], ((0, 0), [])), (0, [3], [[1, 0, 0, 0, 0, 0, 0, 0, 0, 0, 0, 1]], ((0, 0), [])), (0, [4], [[1, 0, 0, 0, 0, 0, 0, 0, 0, 0, 0, 0, 0, 1], [0, 1, 0, 0, 0, 0, 0, 0, 0, 0, 0, 0, 1]], ((0, 0), [])), (0, [5], [[1, 0, 0, 0, 0, 0, 0, 0, 0, 0, 0, 0, 1]], ((0, 0), [])), (0, [6], [[1, 0, 0, 0, 0, 0, 0, 1]], ((0, 0), [])), (0, [0], [[0, 100000, 100000, 0, 100000, 0, 0, 100000, 0, 0, 0, 100000, 0, 0, 0, 0, 0, 0, 0, 0, 0, 100000, 0, 0, 0, 100000]], ((0, 0), [])), (0, [0], [[0, 0, 1, 0, 0, 1, 0, 0, 0, 0, 0, 0, 0, 0, 0, 0, 0, 0, 0, 0, 0, 0, 0, 0, 0, 0, 1]], ((0, 0), []))]) (by decide +kernel)
theorem zx_gv87_ok {PT : Nat → zz_W → Prop} : zx_Vok 64 zHT PT (zu_Vw 220 35 35 [220] [((0, 0), [(0, 1, 0), (2, 0, 1)]), ((0, 0), [(0, 0, 1), (2, 1, 0)]), ((0, 1), [(1, 0, 1), (3, 1, 0)]), ((1, 0), [(1, 1, 0), (3, 0, 1)]), ((0, 0), [(1, 0, 1), (4, 1, 0)]), ((0, 0), [(1, 1, 0), (4, 0, 1)]), ((0, 0), [(4, 0, 1), (6, 1, 0)]), ((0, 0), [(4, 1, 0), (6, 0, 1)]), ((0, 2), [(7, 1, 0)])]) := zu_Vw_ok (hs := [(2, [2, 0, 0], [[], []], ((0, 0), [])), (2, [2, 1, 1], [[], []], ((0, 0), [])), (2, [2, 2, 2], [[], []], ((0, 0), [])), (2, [2, 4, 4], [[], []], ((0, 0), [])), (1, [], [], ((0, 1), [(4, 0, 1), (17, 1, 0)])), (2, [4, 3, 3], [[0, 0, 0, 1], [0, 0, 0, 0, 1], [1, 0, 0, 1], [1, 0, 0, 1]], ((0, 0), [])), (3, [], [], ((0, 0), [])), (0, [1], [[1, 0, 0, 0, 0, 0, 0, 0, 0, 0, 1]], ((0, 0), [])), (0, [2], [[], [0, 1, 0, 0, 0, 0, 0, 0, 0, 0, 0, 0, 0, 1]], ((0, 0), [])), (0, [3], [[1, 0, 0, 0, 0, 0, 0, 0, 1]], ((0, 0), [])), (0, [4], [[1, 0, 0, 0, 0, 0, 0, 0, 0, 0, 1], [0, 1, 0, 0, 0, 0, 0, 0, 0, 1]], ((0, 0), [])), (0, [5], [[1, 0, 0, 0, 0, 0, 0, 0, 0, 1]], ((0, 0), [])), (0, [6], [[1, 0, 0, 0, 1]], ((0, 0), [])), (0, [0], [[0, 100000, 0, 0, 0, 100000, 0, 0, 100000, 0, 0, 0, 0, 0, 0, 0, 0, 0, 100000]], ((0, 0), [])), (0, [8], [[0, 0, 0, 0, 0, 0, 1], [0, 0, 100000, 100000, 0, 0, 1, 0, 0, 0, 0, 0, 0, 0, 0, 0, 0, 99999, 100000, 1], [0, 0, 1, 0, 0, 1], [0, 0, 0, 1, 1]], ((0, 0), [])), (1, [], [], ((0, 1), [(4, 1, 0), (17, 0, 1)])), (3, [], [], ((0, 0), [])), (0, [1], [[1, 0, 0, 0, 0, 0, 0, 0, 0, 1]], ((0, 0), [])), (0, [2], [[], [0, 1, 0, 0, 0, 0, 0, 0, 0, 0, 0, 0, 1]], ((0, 0), [])), (0, [3], [[1, 0, 0, 0, 0, 0, 0, 1]], ((0, 0), [])), (0, [4], [[1, 0, 0, 0, 0, 0, 0, 0, 0, 1], [0, 1, 0, 0, 0, 0, 0, 0, 1]], ((0, 0), [])), (0, [5], [[1, 0, 0, 0, 0, 0, 0, 0, 1]], ((0, 0), [])), (0, [6], [[1, 0, 0, 1]], ((0, 0), [])), (2, [3, 3, 3], [[0, 0, 0, 0, 0, 0, 0, 1], [0, 0, 0, 0, 0, 0, 0, 0, 1], [1], [0, 1, 0, 0, 0, 0, 0, 0, 0, 0, 0, 0, 0, 0, 0, 0, 0, 1]], ((0, 0), [])), (0, [7], [[0, 0, 1, 0, 0, 0, 0, 0, 0, 0, 1], [0, 0, 0, 1, 0, 0, 0, 0, 0, 1, 0, 0, 0, 0, 0, 0, 0, 1], [0, 1, 0, 0, 1]], ((0, 0), [])), (0, [0], [[0, 100000, 100000, 100000, 100000, 0, 0, 0, 0, 100000, 0, 0, 0, 0, 0, 0, 0, 0, 0, 100000]], ((0, 0), [])), (2, [1, 3, 5], [[1], [0, 1]], ((0, 0), [])), (2, [0, 3, 5], [[0, 0, 1, 0, 0, 0, 1, 0, 0, 0, 0, 0, 0, 0, 0, 0, 0, 0, 99999, 100000], [0, 0, 0, 1, 0, 0, 0, 1, 0, 0, 0, 0, 0, 0, 0, 0, 0, 0, 1]], ((0, 0), [])), (3, [], [], ((0, 0), [])), (0, [1], [[1, 0, 0, 0, 0, 0, 0, 0, 0, 0, 0, 0, 0, 1]], ((0, 0), [])), (0, [2], [[], [0, 1, 0, 0, 0, 0, 0, 0, 0, 0, 0, 0, 0, 0, 0, 0, 1]], ((0, 0), [])), (0, [3], [[1, 0, 0, 0, 0, 0, 0, 0, 0, 0, 0, 1]], ((0, 0), [])), (0, [4], [[1, 0, 0, 0, 0, 0, 0, 0, 0, 0, 0, 0, 0, 1], [0, 1, 0, 0, 0, 0, 0, 0, 0, 0, 0, 0, 1]], ((0, 0), [])), (0, [5], [[1, 0, 0, 0, 0, 0, 0, 0, 0, 0, 0, 0, 1]], ((0, 0), [])), (0, [6], [[1, 0, 0, 0, 0, 0, 0, 1]], ((0, 0), [])), (0, [0], [[0, 100000, 0, 0, 0, 0, 0, 100000, 0, 0, 0, 100000, 0, 0, 0, 0, 0, 0, 0, 0, 0, 100000]], ((0, 0), [])), (0, [0], [[0, 0, 0, 1, 1, 0, 0, 0, 0, 0, 0, 0, 0, 0, 0, 0, 0, 0, 0, 0, 0, 0, 0, 0, 0, 0, 1]], ((0, 0), []))]) (by decide +kernel)
theorem zx_gv90_ok {PT : Nat → zz_W → Prop} : zx_Vok 64 zHT PT (zq_Vw 175 2 2 [((0, 1), [(0, 0, 1), (1, 1, 0)]), ((1, 0), [(0, 1, 0), (1, 0, 1)]), ((0, 0), [(0, 0, 1), (2, 1, 0)]), ((0, 0), [(0, 1, 0), (2, 0, 1)]), ((0, 0), [(3, 1, 0)]), ((0, 0), [(3, 0, 1)])]) := zq_Vw_ok (by decide) (by decide) (h1 := [(0, [[10000000, 10000000, 0, 0, 0, 10000000, 1000000, 1000000]]), (2, [[], [0, 1]])]) (h2 := [(1, [[0, 1, 9999999, 10000000, 1, 0, 1000000, 1000000]]), (1, [[0, 1000000, 1, 9999999, 10000000, 1, 0, 1000000, 1000000]])]) (h3 := [(2, [[], [0, 0, 0, 1, 0, 0, 0, 0, 0, 1]])]) (by decide +kernel)
theorem zx_gv100_ok {PT : Nat → zz_W → Prop} : zx_Vok 64 zHT PT (zu_Vw 188 40 40 [] [((0, 0), [(0, 1, 0), (1, 0, 1)]), ((0, 0), [(0, 0, 1), (1, 1, 0)]), ((0, 0), [(3, 0, 1)])]) := zu_Vw_ok (hs := [(2, [2, 1, 1], [[], []], ((0, 0), [])), (2, [2, 2, 2], [[], []], ((0, 0), [])), (1, [], [], ((0, 1), [(2, 0, 1), (4, 1, 0)])), (2, [4, 0, 0], [[], [], [], [1]], ((0, 0), [])), (3, [], [], ((0, 0), [])), (0, [1], [[1, 1]], ((0, 0), [])), (0, [2], [[1, 0, 0, 0, 0, 0, 0, 0, 0, 1], [0, 1, 0, 0, 0, 0, 0, 0, 0, 0, 1]], ((0, 0), [])), (0, [3], [[1, 0, 0, 0, 0, 0, 1, 1], [0, 1, 0, 0, 0, 0, 0, 0, 1]], ((0, 0), [])), (1, [], [], ((0, 1), [(2, 1, 0), (4, 0, 1)])), (2, [3, 0, 0], [[], [], [], [1]], ((0, 0), [])), (3, [], [], ((0, 0), [])), (0, [1], [[1, 1]], ((0, 0), [])), (0, [2], [[1, 0, 0, 0, 0, 0, 0, 0, 0, 0, 1], [0, 1, 0, 0, 0, 0, 0, 0, 0, 0, 0, 1]], ((0, 0), [])), (0, [3], [[1, 0, 0, 0, 0, 0, 0, 1, 1], [0, 1, 0, 0, 0, 0, 0, 0, 0, 1]], ((0, 0), [])), (2, [1, 0, 3], [[1], [0, 1]], ((0, 0), [])), (0, [1], [[0, 1, 0, 0, 0, 0, 0, 0, 0, 0, 1]], ((0, 0), []))]) (by decide +kernel)
theorem zx_gv101_ok {PT : Nat → zz_W → Prop} : zx_Vok 64 zHT PT (zu_Vw 188 40 40 [188, 190, 179] [((0, 0), [(0, 1, 0), (1, 0, 1)]), ((0, 0), [(0, 0, 1), (1, 1, 0)]), ((0, 0), [(2, 0, 1), (4, 1, 0)]), ((0, 0), [(2, 1, 0), (4, 0, 1)]), ((0, 0), [(2, 0, 600), (5, 1, 0), (7, 0, 1)]), ((0, 0), [(2, 600, 0), (5, 0, 1), (7, 1, 0)]), ((0, 0), [(2, 0, 1), (6, 1, 0)]), ((0, 0), [(2, 1, 0), (6, 0, 1)]), ((0, 1), [(3, 1, 0), (7, 0, 1)]), ((1, 0), [(3, 0, 1), (7, 1, 0)]), ((0, 1), [(8, 0, 1), (9, 1, 0)]), ((0, 0), [(8, 1, 0)]), ((0, 0), [(7, 1, 0)])]) := zu_Vw_ok (hs := [(2, [2, 1, 1], [[], []], ((0, 0), [])), (2, [2, 2, 2], [[], []], ((0, 0), [])), (1, [], [], ((0, 1), [(2, 0, 1), (10, 1, 0)])), (2, [4, 0, 0], [[], [], [], [1]], ((0, 0), [])), (3, [], [], ((0, 0), [])), (0, [1], [[1, 1]], ((0, 0), [])), (0, [2], [[1, 0, 0, 0, 0, 0, 0, 0, 0, 1], [0, 1, 0, 0, 0, 0, 0, 0, 0, 0, 1]], ((0, 0), [])), (0, [3], [[1, 0, 0, 0, 0, 0, 1, 1], [0, 1, 0, 0, 0, 0, 0, 0, 1]], ((0, 0), [])), (1, [], [], ((0, 1), [(2, 1, 0), (10, 0, 1)])), (2, [3, 0, 0], [[], [], [], [1]], ((0, 0), [])), (3, [], [], ((0, 0), [])), (0, [1], [[1, 1]], ((0, 0), [])), (0, [2], [[1, 0, 0, 0, 0, 0, 0, 0, 0, 0, 1], [0, 1, 0, 0, 0, 0, 0, 0, 0, 0, 0, 1]], ((0, 0), [])), (0, [3], [[1, 0, 0, 0, 0, 0, 0, 1, 1], [0, 1, 0, 0, 0, 0, 0, 0, 0, 1]], ((0, 0), [])), (2, [2, 5, 2], [[0, 1, 0, 0, 0, 0, 0, 0, 0, 0, 0, 0, 1], [1, 0, 0, 0, 0, 0, 0, 0, 0, 0, 0, 0, 0, 1]], ((0, 0), [])), (2, [1, 0, 3], [[0, 0, 1], [0, 0, 0, 1]], ((0, 0), [])), (2, [0, 0, 3], [[0, 0, 0, 0, 1, 0, 0, 0, 0, 0, 0, 0, 0, 1], [0, 0, 0, 0, 0, 1, 0, 0, 0, 0, 0, 0, 1]], ((0, 0), [])), (2, [0, 2, 5], [[0, 0, 0, 0, 0, 0, 1, 0, 0, 0, 0, 0, 0, 0, 0, 0, 0, 0, 0, 1], [0, 0, 0, 0, 0, 0, 0, 1, 0, 0, 0, 0, 0, 0, 0, 0, 0, 0, 1]], ((0, 0), [])), (3, [], [], ((0, 0), [])), (1, [], [], ((0, 1), [(7, 0, 1), (11, 1, 0)])), (0, [1], [[1, 0, 100000, 0, 0, 0, 0, 1, 100000, 0, 0, 0, 0, 100000, 0, 0, 0, 0, 0, 0, 0, 0, 0, 0, 0, 1]], ((0, 0), [])), (2, [2, 4, 1], [[1, 0, 100000, 0, 0, 0, 0, 0, 100000, 0, 0, 600, 0, 100000, 0, 0, 0, 0, 0, 0, 1], [99999, 100000, 100000, 0, 100000, 0, 0, 0, 100000, 0, 600, 0, 0, 100000, 0, 0, 0, 0, 0, 0, 99999, 100000]], ((0, 0), [])), (0, [3], [[1, 0, 0, 0, 0, 99999, 0, 0, 0, 0, 0, 100000, 0, 0, 99999, 0, 0, 0, 0, 0, 0, 0, 0, 0, 0, 0, 0, 0, 1], [0, 1, 0, 0, 0, 0, 0, 0, 0, 0, 0, 0, 0, 0, 0, 0, 0, 0, 0, 0, 0, 0, 0, 0, 0, 0, 0, 0, 0, 1]], ((0, 0), [])), (0, [2], [[1, 0, 0, 0, 0, 0, 0, 0, 0, 0, 0, 0, 0, 0, 0, 0, 1], [0, 1, 0, 0, 0, 0, 0, 0, 0, 0, 0, 0, 0, 0, 0, 0, 0, 1]], ((0, 0), [])), (0, [3], [[1, 0, 0, 100000, 0, 0, 0, 0, 0, 100000, 0, 0, 99999, 0, 1], [0, 1, 0, 0, 0, 0, 0, 0, 0, 0, 0, 0, 0, 0, 0, 1]], ((0, 0), []))]) (by decide +kernel)
theorem zx_gv102_ok {PT : Nat → zz_W → Prop} : zx_Vok 64 zHT PT (zu_Vw 190 40 40 [188] [((0, 0), [(0, 1, 0), (1, 0, 1)]), ((0, 0), [(0, 0, 1), (1, 1, 0)]), ((0, 0), [(2, 1, 0), (4, 0, 600), (5, 0, 1)]), ((599, 0), [(2, 0, 1), (4, 600, 0)]), ((0, 0), [(5, 1, 0)])]) := zu_Vw_ok (hs := [(2, [2, 0, 0], [[], []], ((0, 0), [])), (2, [2, 2, 2], [[], []], ((0, 0), [])), (1, [], [], ((0, 1), [(2, 0, 1), (6, 600, 0), (7, 1, 0)])), (2, [4, 1, 1], [[], [], [], [1]], ((0, 0), [])), (3, [], [], ((0, 0), [])), (0, [1], [[1, 0, 0, 0, 0, 0, 1]], ((0, 0), [])), (0, [2], [[1, 0, 0, 0, 0, 0, 0, 0, 0, 1], [0, 1, 0, 0, 0, 0, 0, 0, 0, 0, 1]], ((0, 0), [])), (0, [3], [[1, 0, 1, 0, 0, 0, 1], [0, 1, 0, 1]], ((0, 0), [])), (1, [], [], ((0, 1), [(2, 1, 0), (6, 0, 600), (7, 0, 1)])), (2, [3, 1, 1], [[], [], [], [1]], ((0, 0), [])), (3, [], [], ((0, 0), [])), (0, [1], [[1, 0, 0, 0, 0, 0, 0, 1]], ((0, 0), [])), (0, [2], [[1, 0, 0, 0, 0, 0, 0, 0, 0, 0, 1], [0, 1, 0, 0, 0, 0, 0, 0, 0, 0, 0, 1]], ((0, 0), [])), (0, [3], [[1, 0, 1, 0, 0, 0, 0, 1], [0, 1, 0, 1]], ((0, 0), [])), (2, [1, 1, 3], [[1], [0, 1]], ((0, 0), [])), (3, [], [], ((0, 0), [])), (0, [1], [[1, 0, 0, 0, 0, 0, 0, 1]], ((0, 0), [])), (0, [2], [[1, 0, 0, 0, 0, 0, 0, 0, 0, 0, 1], [0, 1, 0, 0, 0, 0, 0, 0, 0, 0, 0, 1]], ((0, 0), [])), (1, [], [], ((0, 1), [(4, 0, 1), (6, 1, 0)])), (0, [0], [[99600, 0, 0, 0, 0, 0, 166, 0, 0, 0, 0, 0, 0, 0, 166]], ((0, 0), [])), (1, [], [], ((0, 1), [(4, 1, 0), (6, 0, 1)])), (0, [0], [[99600, 0, 0, 0, 0, 0, 166, 0, 0, 0, 0, 0, 0, 0, 166, 0, 166]], ((0, 0), [])), (2, [2, 3, 0], [[0, 1], [1]], ((0, 0), [])), (0, [1], [[1, 0, 0, 600, 0, 0, 0, 0, 1, 0, 0, 0, 0, 0, 0, 0, 1]], ((0, 0), []))]) (by decide +kernel)
theorem zx_gv103_ok {PT : Nat → zz_W → Prop} : zx_Vok 64 zHT PT (zu_Vw 179 40 40 [179] [((0, 0), [(0, 1, 0), (1, 0, 1)]), ((0, 0), [(0, 0, 1), (1, 1, 0)]), ((0, 0), [(2, 0, 1), (4, 1, 0)]), ((0, 0), [(2, 1, 0), (4, 0, 1)]), ((0, 0), [(3, 1, 0), (5, 0, 1)])]) := zu_Vw_ok (hs := [(2, [2, 0, 0], [[], []], ((0, 0), [])), (2, [2, 1, 1], [[], []], ((0, 0), [])), (1, [], [], ((0, 1), [(2, 0, 1), (6, 1, 0)])), (2, [4, 2, 2], [[], [], [], [1]], ((0, 0), [])), (3, [], [], ((0, 0), [])), (0, [1], [[1, 0, 0, 0, 0, 0, 1]], ((0, 0), [])), (0, [2], [[1, 0, 0, 0, 0, 0, 0, 0, 0, 1], [0, 1, 0, 0, 0, 0, 0, 0, 0, 0, 1]], ((0, 0), [])), (0, [3], [[1, 0, 0, 1, 0, 1], [0, 1, 0, 0, 0, 0, 1]], ((0, 0), [])), (1, [], [], ((0, 1), [(2, 1, 0), (6, 0, 1)])), (2, [3, 2, 2], [[], [], [], [1]], ((0, 0), [])), (3, [], [], ((0, 0), [])), (0, [1], [[1, 0, 0, 0, 0, 0, 0, 1]], ((0, 0), [])), (0, [2], [[1, 0, 0, 0, 0, 0, 0, 0, 0, 0, 1], [0, 1, 0, 0, 0, 0, 0, 0, 0, 0, 0, 1]], ((0, 0), [])), (0, [3], [[1, 0, 0, 1, 0, 0, 1], [0, 1, 0, 0, 0, 0, 0, 1]], ((0, 0), [])), (2, [1, 2, 3], [[1], [0, 1]], ((0, 0), [])), (2, [0, 2, 3], [[0, 0, 1, 0, 0, 0, 0, 0, 0, 0, 0, 1], [0, 0, 0, 1, 0, 0, 0, 0, 0, 0, 1]], ((0, 0), [])), (3, [], [], ((0, 0), [])), (0, [1], [[1, 0, 0, 0, 0, 0, 0, 0, 0, 1]], ((0, 0), [])), (0, [2], [[1, 0, 0, 0, 0, 0, 0, 0, 0, 0, 0, 0, 1], [0, 1, 0, 0, 0, 0, 0, 0, 0, 0, 0, 0, 0, 1]], ((0, 0), [])), (0, [3], [[1, 0, 0, 1, 1, 0, 0, 0, 1, 0, 0, 0, 0, 0, 0, 0, 1], [0, 1, 0, 0, 0, 0, 0, 0, 0, 1]], ((0, 0), []))]) (by decide +kernel)
theorem zx_gv104_ok {PT : Nat → zz_W → Prop} : zx_Vok 64 zHT PT (zu_Vw 179 40 40 [] [((0, 0), [(0, 1, 0), (1, 0, 1)]), ((0, 0), [(0, 0, 1), (1, 1, 0)]), ((0, 0), [(0, 0, 1), (2, 1, 0)]), ((0, 0), [(0, 1, 0), (2, 0, 1)])]) := zu_Vw_ok (hs := [(2, [2, 0, 0], [[], []], ((0, 0), [])), (2, [2, 1, 1], [[], []], ((0, 0), [])), (1, [], [], ((0, 1), [(2, 0, 1), (4, 1, 0)])), (2, [4, 2, 2], [[], [], [], [1]], ((0, 0), [])), (3, [], [], ((0, 0), [])), (0, [1], [[1, 0, 0, 0, 0, 0, 1]], ((0, 0), [])), (0, [0], [[0, 100000, 0, 0, 100000, 0, 0, 0, 0, 0, 0, 100000]], ((0, 0), [])), (0, [3], [[1, 0, 0, 1, 0, 1], [0, 1, 0, 0, 0, 0, 1]], ((0, 0), [])), (1, [], [], ((0, 1), [(2, 1, 0), (4, 0, 1)])), (2, [3, 2, 2], [[], [], [], [1]], ((0, 0), [])), (3, [], [], ((0, 0), [])), (0, [1], [[1, 0, 0, 0, 0, 0, 0, 1]], ((0, 0), [])), (0, [0], [[100000, 0, 0, 0, 100000, 0, 0, 0, 0, 0, 0, 0, 0, 100000]], ((0, 0), [])), (0, [3], [[1, 0, 0, 1, 0, 0, 1], [0, 1, 0, 0, 0, 0, 0, 1]], ((0, 0), [])), (0, [2], [[1, 0, 0, 0, 0, 0, 1, 0, 1], [0, 1, 0, 0, 0, 0, 0, 1, 0, 1]], ((0, 0), []))]) (by decide +kernel)
theorem zx_gv110_ok {PT : Nat → zz_W → Prop} : zx_Vok 64 zHT PT (zu_Vw 195 41 41 [] [((0, 0), [(0, 1, 0), (1, 0, 1)]), ((0, 0), [(0, 0, 1), (1, 1, 0)]), ((0, 0), [(3, 0, 1)])]) := zu_Vw_ok (hs := [(2, [2, 1, 1], [[], []], ((0, 0), [])), (2, [2, 2, 2], [[], []], ((0, 0), [])), (2, [2, 3, 3], [[], []], ((0, 0), [])), (2, [2, 4, 4], [[], []], ((0, 0), [])), (2, [2, 5, 5], [[0, 0, 0, 0, 0, 0, 1], [0, 0, 0, 0, 0, 0, 0, 1]], ((0, 0), [])), (1, [], [], ((0, 1), [(2, 0, 1), (4, 1, 0)])), (2, [4, 0, 0], [[], [], [], [1]], ((0, 0), [])), (3, [], [], ((0, 0), [])), (0, [1], [[1, 1]], ((0, 0), [])), (0, [2], [[1, 0, 0, 0, 0, 0, 0, 0, 0, 0, 0, 0, 0, 0, 0, 1], [0, 1, 0, 0, 0, 0, 0, 0, 0, 0, 0, 0, 0, 0, 0, 0, 1]], ((0, 0), [])), (0, [3], [[1, 0, 0, 0, 0, 0, 0, 0, 0, 0, 0, 0, 0, 0, 0, 0, 0, 0, 1], [0, 1, 0, 0, 0, 0, 0, 0, 0, 0, 0, 0, 0, 0, 0, 0, 0, 1], [0, 0, 1, 0, 0, 0, 0, 0, 0, 0, 0, 0, 1, 0, 0, 0, 0, 1], [0, 0, 0, 1, 0, 0, 0, 0, 0, 0, 0, 0, 1, 0, 0, 1], [0, 0, 0, 0, 1, 0, 0, 0, 0, 0, 0, 0, 0, 0, 1], [0, 0, 0, 0, 0, 1, 0, 0, 0, 0, 1, 0, 0, 1]], ((0, 0), [])), (1, [], [], ((0, 1), [(2, 1, 0), (4, 0, 1)])), (2, [3, 0, 0], [[], [], [], [1]], ((0, 0), [])), (3, [], [], ((0, 0), [])), (0, [1], [[1, 1]], ((0, 0), [])), (0, [2], [[1, 0, 0, 0, 0, 0, 0, 0, 0, 0, 0, 0, 0, 0, 0, 0, 1], [0, 1, 0, 0, 0, 0, 0, 0, 0, 0, 0, 0, 0, 0, 0, 0, 0, 1]], ((0, 0), [])), (0, [3], [[1, 0, 0, 0, 0, 0, 0, 0, 0, 0, 0, 0, 0, 0, 0, 0, 0, 0, 0, 1], [0, 1, 0, 0, 0, 0, 0, 0, 0, 0, 0, 0, 0, 0, 0, 0, 0, 0, 1], [0, 0, 1, 0, 0, 0, 0, 0, 0, 0, 0, 0, 0, 1, 0, 0, 0, 0, 1], [0, 0, 0, 1, 0, 0, 0, 0, 0, 0, 0, 0, 0, 1, 0, 0, 1], [0, 0, 0, 0, 1, 0, 0, 0, 0, 0, 0, 0, 0, 0, 0, 1], [0, 0, 0, 0, 0, 1, 0, 0, 0, 0, 0, 1, 0, 0, 1]], ((0, 0), [])), (2, [1, 0, 6], [[1], [0, 1]], ((0, 0), [])), (0, [1], [[0, 1, 0, 0, 0, 0, 0, 0, 0, 0, 0, 0, 0, 0, 0, 0, 1]], ((0, 0), []))]) (by decide +kernel)
theorem zx_gv111_ok {PT : Nat → zz_W → Prop} : zx_Vok 64 zHT PT (zu_Vw 195 41 41 [195, 196, 199, 197, 179, 182] [((0, 0), [(0, 1, 0), (1, 0, 1)]), ((0, 0), [(0, 0, 1), (1, 1, 0)]), ((0, 0), [(2, 0, 1), (4, 1, 0)]), ((0, 0), [(2, 1, 0), (4, 0, 1)]), ((0, 0), [(2, 0, 3000), (5, 1, 0), (10, 0, 1)]), ((0, 0), [(2, 3000, 0), (5, 0, 1), (10, 1, 0)]), ((0, 0), [(2, 0, 3000), (6, 1, 0), (10, 0, 1)]), ((0, 0), [(2, 3000, 0), (6, 0, 1), (10, 1, 0)]), ((0, 0), [(2, 0, 3000), (7, 1, 0), (10, 0, 1)]), ((0, 0), [(2, 3000, 0), (7, 0, 1), (10, 1, 0)]), ((0, 0), [(2, 0, 1), (8, 1, 0)]), ((0, 0), [(2, 1, 0), (8, 0, 1)]), ((0, 0), [(2, 0, 64), (9, 1, 0), (11, 0, 1)]), ((0, 0), [(2, 64, 0), (9, 0, 1), (11, 1, 0)]), ((0, 1), [(3, 1, 0), (10, 0, 1)]), ((1, 0), [(3, 0, 1), (10, 1, 0)]), ((0, 0), [(10, 1, 0)]), ((0, 0), [(11, 1, 0)]), ((63, 0), [(11, 0, 1)]), ((0, 1), [(11, 0, 1), (14, 1, 0)]), ((0, 1), [(12, 0, 1), (14, 1, 0)]), ((0, 0), [(13, 1, 0)]), ((0, 0), [(13, 0, 1), (15, 1, 0)])]) := zu_Vw_ok (hs := [(2, [2, 1, 1], [[], []], ((0, 0), [])), (2, [2, 2, 2], [[], []], ((0, 0), [])), (2, [2, 3, 3], [[], []], ((0, 0), [])), (2, [2, 4, 4], [[], []], ((0, 0), [])), (2, [2, 5, 5], [[0, 0, 0, 0, 0, 0, 1], [0, 0, 0, 0, 0, 0, 0, 1]], ((0, 0), [])), (1, [], [], ((0, 1), [(2, 0, 1), (16, 1, 0)])), (2, [4, 0, 0], [[], [], [], [1]], ((0, 0), [])), (3, [], [], ((0, 0), [])), (0, [1], [[1, 1]], ((0, 0), [])), (0, [2], [[1, 0, 0, 0, 0, 0, 0, 0, 0, 0, 0, 0, 0, 0, 0, 1], [0, 1, 0, 0, 0, 0, 0, 0, 0, 0, 0, 0, 0, 0, 0, 0, 1]], ((0, 0), [])), (0, [3], [[1, 0, 0, 0, 0, 0, 0, 0, 0, 0, 0, 0, 0, 0, 0, 0, 0, 0, 1], [0, 1, 0, 0, 0, 0, 0, 0, 0, 0, 0, 0, 0, 0, 0, 0, 0, 1], [0, 0, 1, 0, 0, 0, 0, 0, 0, 0, 0, 0, 1, 0, 0, 0, 0, 1], [0, 0, 0, 1, 0, 0, 0, 0, 0, 0, 0, 0, 1, 0, 0, 1], [0, 0, 0, 0, 1, 0, 0, 0, 0, 0, 0, 0, 0, 0, 1], [0, 0, 0, 0, 0, 1, 0, 0, 0, 0, 1, 0, 0, 1]], ((0, 0), [])), (1, [], [], ((0, 1), [(2, 1, 0), (16, 0, 1)])), (2, [3, 0, 0], [[], [], [], [1]], ((0, 0), [])), (3, [], [], ((0, 0), [])), (0, [1], [[1, 1]], ((0, 0), [])), (0, [2], [[1, 0, 0, 0, 0, 0, 0, 0, 0, 0, 0, 0, 0, 0, 0, 0, 1], [0, 1, 0, 0, 0, 0, 0, 0, 0, 0, 0, 0, 0, 0, 0, 0, 0, 1]], ((0, 0), [])), (0, [3], [[1, 0, 0, 0, 0, 0, 0, 0, 0, 0, 0, 0, 0, 0, 0, 0, 0, 0, 0, 1], [0, 1, 0, 0, 0, 0, 0, 0, 0, 0, 0, 0, 0, 0, 0, 0, 0, 0, 1], [0, 0, 1, 0, 0, 0, 0, 0, 0, 0, 0, 0, 0, 1, 0, 0, 0, 0, 1], [0, 0, 0, 1, 0, 0, 0, 0, 0, 0, 0, 0, 0, 1, 0, 0, 1], [0, 0, 0, 0, 1, 0, 0, 0, 0, 0, 0, 0, 0, 0, 0, 1], [0, 0, 0, 0, 0, 1, 0, 0, 0, 0, 0, 1, 0, 0, 1]], ((0, 0), [])), (2, [2, 10, 4], [[0, 1, 0, 0, 0, 0, 0, 0, 0, 0, 0, 0, 0, 0, 0, 0, 0, 0, 0, 0, 0, 0, 1], [1, 0, 0, 0, 0, 0, 0, 0, 0, 0, 0, 0, 0, 0, 0, 0, 0, 0, 0, 0, 0, 0, 0, 1]], ((0, 0), [])), (2, [1, 0, 6], [[0, 0, 1], [0, 0, 0, 1]], ((0, 0), [])), (2, [0, 0, 6], [[0, 0, 0, 0, 1, 0, 0, 0, 0, 0, 0, 0, 0, 0, 0, 0, 0, 0, 0, 1], [0, 0, 0, 0, 0, 1, 0, 0, 0, 0, 0, 0, 0, 0, 0, 0, 0, 0, 1]], ((0, 0), [])), (2, [0, 4, 10], [[0, 0, 0, 0, 0, 0, 1, 0, 0, 0, 0, 0, 0, 0, 0, 0, 0, 0, 0, 0, 0, 0, 0, 0, 0, 0, 0, 0, 0, 1], [0, 0, 0, 0, 0, 0, 0, 1, 0, 0, 0, 0, 0, 0, 0, 0, 0, 0, 0, 0, 0, 0, 0, 0, 0, 0, 0, 0, 1]], ((0, 0), [])), (3, [], [], ((0, 0), [])), (1, [], [], ((0, 1), [(10, 0, 1), (17, 1, 0)])), (0, [1], [[1, 0, 100000, 0, 0, 0, 0, 1, 100000, 0, 0, 0, 0, 0, 0, 100000, 0, 0, 0, 0, 0, 0, 0, 0, 0, 0, 0, 0, 0, 0, 0, 0, 0, 0, 0, 0, 0, 1]], ((0, 0), [])), (2, [2, 7, 1], [[1, 0, 100000, 0, 0, 0, 0, 0, 100000, 0, 0, 3000, 0, 0, 0, 100000, 0, 0, 0, 0, 0, 0, 0, 0, 0, 0, 1], [99999, 100000, 100000, 0, 100000, 0, 0, 0, 100000, 0, 3000, 0, 0, 0, 0, 100000, 0, 0, 0, 0, 0, 0, 0, 0, 0, 0, 99999, 100000]], ((0, 0), [])), (2, [2, 8, 2], [[0, 0, 1, 0, 100000, 0, 0, 0, 0, 0, 100000, 0, 0, 3000, 0, 0, 0, 100000, 0, 0, 0, 0, 0, 0, 0, 0, 0, 0, 0, 0, 1], [0, 0, 99999, 100000, 100000, 0, 100000, 0, 0, 0, 100000, 0, 3000, 0, 0, 0, 0, 100000, 0, 0, 0, 0, 0, 0, 0, 0, 0, 0, 0, 0, 99999, 100000]], ((0, 0), [])), (2, [2, 9, 3], [[0, 0, 0, 0, 1, 0, 100000, 0, 0, 0, 0, 0, 100000, 0, 0, 3000, 0, 0, 0, 100000, 0, 0, 0, 0, 0, 0, 0, 0, 0, 0, 0, 0, 0, 0, 1], [0, 0, 0, 0, 99999, 100000, 100000, 0, 100000, 0, 0, 0, 100000, 0, 3000, 0, 0, 0, 0, 100000, 0, 0, 0, 0, 0, 0, 0, 0, 0, 0, 0, 0, 0, 0, 99999, 100000]], ((0, 0), [])), (2, [2, 11, 5], [[0, 0, 0, 0, 1, 0, 0, 0, 100000, 0, 0, 0, 0, 0, 100000, 0, 0, 64, 0, 0, 0, 100000, 0, 0, 0, 0, 0, 0, 0, 0, 0, 0, 0, 0, 0, 0, 0, 0, 0, 0, 1], [0, 0, 0, 0, 0, 1, 0, 0, 100000, 0, 0, 0, 0, 0, 100000, 0, 64, 0, 0, 0, 0, 100000, 0, 0, 0, 0, 0, 0, 0, 0, 0, 0, 0, 0, 0, 0, 0, 0, 0, 0, 99999, 100000]], ((0, 0), [])), (0, [3], [[0, 0, 0, 0, 0, 0, 0, 1, 0, 0, 0, 0, 0, 0, 0, 0, 0, 0, 0, 0, 0, 0, 0, 0, 0, 0, 0, 0, 0, 0, 0, 0, 0, 0, 0, 0, 0, 0, 0, 0, 0, 0, 0, 0, 0, 0, 0, 1], [0, 0, 0, 0, 0, 0, 1, 0, 0, 0, 0, 0, 0, 0, 0, 0, 0, 0, 0, 0, 0, 0, 0, 0, 0, 0, 0, 0, 0, 0, 0, 0, 0, 0, 0, 0, 0, 0, 0, 0, 0, 0, 0, 0, 0, 0, 0, 0, 1], [0, 0, 0, 0, 0, 0, 1, 0, 0, 0, 0, 99999, 0, 0, 0, 0, 0, 100000, 0, 0, 0, 0, 99999, 0, 0, 0, 0, 0, 0, 0, 0, 0, 0, 0, 0, 0, 0, 0, 0, 0, 0, 0, 0, 0, 0, 0, 0, 0, 0, 1], [0, 0, 0, 0, 1, 0, 0, 0, 0, 0, 0, 99999, 0, 0, 0, 0, 0, 100000, 0, 0, 0, 0, 99999, 0, 0, 0, 0, 0, 0, 0, 0, 0, 0, 0, 0, 0, 0, 0, 0, 0, 0, 0, 0, 0, 0, 0, 0, 0, 0, 0, 1], [0, 0, 0, 1, 0, 0, 0, 0, 0, 0, 0, 0, 0, 0, 0, 0, 0, 0, 0, 0, 0, 0, 0, 0, 0, 0, 0, 0, 0, 0, 0, 0, 0, 0, 0, 0, 0, 0, 0, 0, 0, 0, 0, 0, 0, 0, 0, 0, 0, 0, 0, 1], [0, 1, 1, 0, 0, 0, 0, 0, 0, 0, 100000, 0, 0, 0, 0, 0, 100000, 0, 0, 0, 0, 0, 0, 100000, 0, 0, 0, 0, 0, 0, 0, 0, 0, 0, 0, 0, 0, 0, 0, 0, 0, 0, 0, 0, 0, 0, 0, 0, 0, 0, 0, 0, 1]], ((0, 0), [])), (0, [2], [[1, 0, 0, 0, 0, 0, 0, 0, 0, 0, 0, 0, 0, 0, 0, 0, 0, 0, 0, 0, 0, 0, 1], [0, 1, 0, 0, 0, 0, 0, 0, 0, 0, 0, 0, 0, 0, 0, 0, 0, 0, 0, 0, 0, 0, 0, 1]], ((0, 0), [])), (0, [3], [[1, 0, 0, 0, 0, 0, 0, 0, 0, 0, 0, 0, 0, 0, 0, 0, 0, 0, 0, 0, 0, 0, 0, 0, 0, 1], [0, 1, 0, 0, 0, 0, 0, 0, 0, 0, 0, 0, 0, 0, 0, 0, 0, 0, 0, 0, 0, 0, 0, 0, 1], [0, 0, 1, 0, 0, 0, 0, 100000, 0, 0, 0, 0, 0, 100000, 0, 0, 0, 0, 99999, 0, 0, 0, 0, 0, 1], [0, 0, 0, 1, 0, 0, 0, 100000, 0, 0, 0, 0, 0, 100000, 0, 0, 0, 0, 99999, 0, 0, 0, 1], [0, 0, 0, 0, 1, 0, 0, 0, 0, 0, 0, 0, 0, 0, 0, 0, 0, 0, 0, 0, 0, 1], [0, 0, 0, 0, 0, 1, 100000, 0, 0, 0, 0, 0, 100000, 0, 0, 0, 0, 1, 0, 100000, 1]], ((0, 0), []))]) (by decide +kernel)
theorem zx_gv112_ok {PT : Nat → zz_W → Prop} : zx_Vok 64 zHT PT (zu_Vw 196 41 41 [195] [((0, 0), [(0, 1, 0), (1, 0, 1)]), ((0, 0), [(0, 0, 1), (1, 1, 0)]), ((0, 0), [(2, 1, 0), (4, 0, 3000), (5, 0, 1)]), ((2999, 0), [(2, 0, 1), (4, 3000, 0)]), ((0, 0), [(5, 1, 0)])]) := zu_Vw_ok (hs := [(2, [2, 0, 0], [[], []], ((0, 0), [])), (2, [2, 2, 2], [[], []], ((0, 0), [])), (2, [2, 3, 3], [[], []], ((0, 0), [])), (2, [2, 4, 4], [[], []], ((0, 0), [])), (1, [], [], ((0, 1), [(2, 0, 1), (6, 3000, 0), (7, 1, 0)])), (2, [4, 1, 1], [[], [], [], [1]], ((0, 0), [])), (2, [2, 5, 5], [[1], [0, 1]], ((0, 0), [])), (3, [], [], ((0, 0), [])), (0, [1], [[1, 0, 0, 0, 0, 0, 0, 0, 0, 0, 0, 0, 1]], ((0, 0), [])), (0, [2], [[1, 0, 0, 0, 0, 0, 0, 0, 0, 0, 0, 0, 0, 0, 0, 1], [0, 1, 0, 0, 0, 0, 0, 0, 0, 0, 0, 0, 0, 0, 0, 0, 1]], ((0, 0), [])), (0, [3], [[1, 0, 0, 0, 0, 0, 0, 0, 0, 1], [0, 1, 0, 0, 0, 0, 0, 0, 1], [0, 0, 1, 0, 0, 0, 0, 0, 1, 0, 0, 0, 1], [0, 0, 0, 1, 0, 0, 0, 0, 0, 0, 0, 0, 1, 0, 0, 1], [0, 0, 0, 0, 1, 0, 0, 0, 0, 0, 0, 0, 0, 0, 1], [0, 0, 0, 0, 0, 1, 0, 1, 0, 0, 0, 0, 0, 1]], ((0, 0), [])), (1, [], [], ((0, 1), [(2, 1, 0), (6, 0, 3000), (7, 0, 1)])), (2, [3, 1, 1], [[], [], [], [1]], ((0, 0), [])), (2, [2, 5, 5], [[1], [0, 1]], ((0, 0), [])), (3, [], [], ((0, 0), [])), (0, [1], [[1, 0, 0, 0, 0, 0, 0, 0, 0, 0, 0, 0, 0, 1]], ((0, 0), [])), (0, [2], [[1, 0, 0, 0, 0, 0, 0, 0, 0, 0, 0, 0, 0, 0, 0, 0, 1], [0, 1, 0, 0, 0, 0, 0, 0, 0, 0, 0, 0, 0, 0, 0, 0, 0, 1]], ((0, 0), [])), (0, [3], [[1, 0, 0, 0, 0, 0, 0, 0, 0, 1], [0, 1, 0, 0, 0, 0, 0, 0, 1], [0, 0, 1, 0, 0, 0, 0, 0, 1, 0, 0, 0, 0, 1], [0, 0, 0, 1, 0, 0, 0, 0, 0, 0, 0, 0, 0, 1, 0, 0, 1], [0, 0, 0, 0, 1, 0, 0, 0, 0, 0, 0, 0, 0, 0, 0, 1], [0, 0, 0, 0, 0, 1, 0, 1, 0, 0, 0, 0, 0, 0, 1]], ((0, 0), [])), (2, [1, 1, 6], [[1], [0, 1]], ((0, 0), [])), (3, [], [], ((0, 0), [])), (0, [1], [[1, 0, 0, 0, 0, 0, 0, 0, 0, 0, 0, 1]], ((0, 0), [])), (0, [2], [[1, 0, 0, 0, 0, 0, 0, 0, 0, 0, 0, 0, 0, 0, 1], [0, 1, 0, 0, 0, 0, 0, 0, 0, 0, 0, 0, 0, 0, 0, 1]], ((0, 0), [])), (1, [], [], ((0, 1), [(4, 0, 1), (6, 1, 0)])), (0, [0], [[99000, 0, 0, 0, 0, 0, 0, 0, 0, 0, 33, 0, 0, 0, 0, 0, 0, 0, 0, 0, 0, 0, 33]], ((0, 0), [])), (1, [], [], ((0, 1), [(4, 1, 0), (6, 0, 1)])), (0, [0], [[99000, 0, 0, 0, 0, 0, 0, 0, 0, 0, 33, 0, 0, 0, 0, 0, 0, 0, 0, 0, 0, 0, 33, 0, 33]], ((0, 0), [])), (2, [2, 6, 0], [[0, 1], [1]], ((0, 0), [])), (0, [1], [[1, 0, 0, 3000, 0, 0, 0, 0, 0, 0, 0, 0, 1, 0, 0, 0, 0, 0, 0, 0, 0, 0, 0, 0, 1]], ((0, 0), []))]) (by decide +kernel)
theorem zx_gv113_ok {PT : Nat → zz_W → Prop} : zx_Vok 64 zHT PT (zu_Vw 199 41 41 [195] [((0, 0), [(0, 1, 0), (1, 0, 1)]), ((0, 0), [(0, 0, 1), (1, 1, 0)]), ((0, 0), [(2, 1, 0), (4, 0, 3000), (5, 0, 1)]), ((2999, 0), [(2, 0, 1), (4, 3000, 0)]), ((0, 0), [(5, 1, 0)])]) := zu_Vw_ok (hs := [(2, [2, 0, 0], [[], []], ((0, 0), [])), (2, [2, 1, 1], [[], []], ((0, 0), [])), (2, [2, 3, 3], [[], []], ((0, 0), [])), (2, [2, 4, 4], [[], []], ((0, 0), [])), (2, [2, 5, 5], [[0, 0, 0, 0, 1], [0, 0, 0, 0, 0, 1]], ((0, 0), [])), (1, [], [], ((0, 1), [(2, 0, 1), (6, 3000, 0), (7, 1, 0)])), (2, [4, 2, 2], [[], [], [], [1]], ((0, 0), [])), (3, [], [], ((0, 0), [])), (0, [1], [[1, 0, 0, 0, 0, 0, 0, 0, 0, 0, 0, 0, 1]], ((0, 0), [])), (0, [2], [[1, 0, 0, 0, 0, 0, 0, 0, 0, 0, 0, 0, 0, 0, 0, 1], [0, 1, 0, 0, 0, 0, 0, 0, 0, 0, 0, 0, 0, 0, 0, 0, 1]], ((0, 0), [])), (0, [3], [[1, 0, 0, 0, 0, 0, 0, 0, 0, 0, 0, 0, 0, 0, 0, 0, 1], [0, 1, 0, 0, 0, 0, 0, 0, 0, 0, 0, 0, 0, 0, 0, 1], [0, 0, 1, 0, 0, 0, 0, 0, 0, 0, 0, 0, 1, 0, 0, 1], [0, 0, 0, 1, 0, 0, 1, 0, 0, 0, 0, 0, 1], [0, 0, 0, 0, 1, 0, 0, 0, 0, 0, 0, 0, 0, 0, 1], [0, 0, 0, 0, 0, 1, 0, 0, 0, 0, 1, 0, 0, 1]], ((0, 0), [])), (1, [], [], ((0, 1), [(2, 1, 0), (6, 0, 3000), (7, 0, 1)])), (2, [3, 2, 2], [[], [], [], [1]], ((0, 0), [])), (3, [], [], ((0, 0), [])), (0, [1], [[1, 0, 0, 0, 0, 0, 0, 0, 0, 0, 0, 0, 0, 1]], ((0, 0), [])), (0, [2], [[1, 0, 0, 0, 0, 0, 0, 0, 0, 0, 0, 0, 0, 0, 0, 0, 1], [0, 1, 0, 0, 0, 0, 0, 0, 0, 0, 0, 0, 0, 0, 0, 0, 0, 1]], ((0, 0), [])), (0, [3], [[1, 0, 0, 0, 0, 0, 0, 0, 0, 0, 0, 0, 0, 0, 0, 0, 0, 1], [0, 1, 0, 0, 0, 0, 0, 0, 0, 0, 0, 0, 0, 0, 0, 0, 1], [0, 0, 1, 0, 0, 0, 0, 0, 0, 0, 0, 0, 0, 1, 0, 0, 1], [0, 0, 0, 1, 0, 0, 1, 0, 0, 0, 0, 0, 0, 1], [0, 0, 0, 0, 1, 0, 0, 0, 0, 0, 0, 0, 0, 0, 0, 1], [0, 0, 0, 0, 0, 1, 0, 0, 0, 0, 0, 1, 0, 0, 1]], ((0, 0), [])), (2, [1, 2, 6], [[1], [0, 1]], ((0, 0), [])), (3, [], [], ((0, 0), [])), (0, [1], [[1, 0, 0, 0, 0, 0, 0, 0, 0, 0, 0, 0, 0, 1]], ((0, 0), [])), (0, [2], [[1, 0, 0, 0, 0, 0, 0, 0, 0, 0, 0, 0, 0, 0, 0, 0, 1], [0, 1, 0, 0, 0, 0, 0, 0, 0, 0, 0, 0, 0, 0, 0, 0, 0, 1]], ((0, 0), [])), (1, [], [], ((0, 1), [(4, 0, 1), (6, 1, 0)])), (0, [0], [[99000, 0, 0, 0, 0, 0, 0, 0, 0, 0, 33, 0, 0, 0, 0, 0, 0, 0, 0, 0, 0, 0, 0, 0, 33]], ((0, 0), [])), (1, [], [], ((0, 1), [(4, 1, 0), (6, 0, 1)])), (0, [0], [[99000, 0, 0, 0, 0, 0, 0, 0, 0, 0, 33, 0, 0, 0, 0, 0, 0, 0, 0, 0, 0, 0, 0, 0, 33, 0, 33]], ((0, 0), [])), (2, [2, 6, 0], [[0, 1], [1]], ((0, 0), [])), (0, [1], [[1, 0, 0, 3000, 0, 0, 0, 0, 0, 0, 0, 0, 1, 0, 0, 0, 0, 0, 0, 0, 0, 0, 0, 0, 0, 0, 1]], ((0, 0), []))]) (by decide +kernel)
theorem zx_gv114_ok {PT : Nat → zz_W → Prop} : zx_Vok 64 zHT PT (zu_Vw 197 41 41 [195] [((0, 0), [(0, 1, 0), (1, 0, 1)]), ((0, 0), [(0, 0, 1), (1, 1, 0)]), ((0, 0), [(2, 1, 0), (4, 0, 3000), (5, 0, 1)]), ((2999, 0), [(2, 0, 1), (4, 3000, 0)]), ((0, 0), [(5, 1, 0)])]) := zu_Vw_ok (hs := [(2, [2, 0, 0], [[], []], ((0, 0), [])), (2, [2, 1, 1], [[], []], ((0, 0), [])), (2, [2, 2, 2], [[], []], ((0, 0), [])), (2, [2, 4, 4], [[], []], ((0, 0), [])), (2, [2, 5, 5], [[0, 0, 0, 0, 1], [0, 0, 0, 0, 0, 1]], ((0, 0), [])), (1, [], [], ((0, 1), [(2, 0, 1), (6, 3000, 0), (7, 1, 0)])), (2, [4, 3, 3], [[], [], [], [1]], ((0, 0), [])), (3, [], [], ((0, 0), [])), (0, [1], [[1, 0, 0, 0, 0, 0, 0, 0, 0, 0, 0, 0, 1]], ((0, 0), [])), (0, [2], [[1, 0, 0, 0, 0, 0, 0, 0, 0, 0, 0, 0, 0, 0, 0, 1], [0, 1, 0, 0, 0, 0, 0, 0, 0, 0, 0, 0, 0, 0, 0, 0, 1]], ((0, 0), [])), (0, [3], [[1, 0, 0, 0, 0, 0, 0, 0, 0, 0, 0, 0, 0, 0, 0, 0, 1], [0, 1, 0, 0, 0, 0, 0, 0, 0, 0, 0, 0, 0, 0, 0, 1], [0, 0, 1, 0, 0, 0, 0, 0, 0, 0, 0, 0, 1, 0, 0, 1], [0, 0, 0, 1, 0, 0, 0, 0, 0, 0, 0, 0, 1, 1], [0, 0, 0, 0, 1, 0, 0, 1], [0, 0, 0, 0, 0, 1, 1, 0, 0, 0, 1]], ((0, 0), [])), (1, [], [], ((0, 1), [(2, 1, 0), (6, 0, 3000), (7, 0, 1)])), (2, [3, 3, 3], [[], [], [], [1]], ((0, 0), [])), (3, [], [], ((0, 0), [])), (0, [1], [[1, 0, 0, 0, 0, 0, 0, 0, 0, 0, 0, 0, 0, 1]], ((0, 0), [])), (0, [2], [[1, 0, 0, 0, 0, 0, 0, 0, 0, 0, 0, 0, 0, 0, 0, 0, 1], [0, 1, 0, 0, 0, 0, 0, 0, 0, 0, 0, 0, 0, 0, 0, 0, 0, 1]], ((0, 0), [])), (0, [3], [[1, 0, 0, 0, 0, 0, 0, 0, 0, 0, 0, 0, 0, 0, 0, 0, 0, 1], [0, 1, 0, 0, 0, 0, 0, 0, 0, 0, 0, 0, 0, 0, 0, 0, 1], [0, 0, 1, 0, 0, 0, 0, 0, 0, 0, 0, 0, 0, 1, 0, 0, 1], [0, 0, 0, 1, 0, 0, 0, 0, 0, 0, 0, 0, 0, 1, 1], [0, 0, 0, 0, 1, 0, 0, 1], [0, 0, 0, 0, 0, 1, 1, 0, 0, 0, 0, 1]], ((0, 0), [])), (2, [1, 3, 6], [[1], [0, 1]], ((0, 0), [])), (3, [], [], ((0, 0), [])), (0, [1], [[1, 0, 0, 0, 0, 0, 0, 0, 0, 0, 0, 0, 0, 1]], ((0, 0), [])), (0, [2], [[1, 0, 0, 0, 0, 0, 0, 0, 0, 0, 0, 0, 0, 0, 0, 0, 1], [0, 1, 0, 0, 0, 0, 0, 0, 0, 0, 0, 0, 0, 0, 0, 0, 0, 1]], ((0, 0), [])), (1, [], [], ((0, 1), [(4, 0, 1), (6, 1, 0)])), (0, [0], [[99000, 0, 0, 0, 0, 0, 0, 0, 0, 0, 33, 0, 0, 0, 0, 0, 0, 0, 0, 0, 0, 0, 0, 0, 33]], ((0, 0), [])), (1, [], [], ((0, 1), [(4, 1, 0), (6, 0, 1)])), (0, [0], [[99000, 0, 0, 0, 0, 0, 0, 0, 0, 0, 33, 0, 0, 0, 0, 0, 0, 0, 0, 0, 0, 0, 0, 0, 33, 0, 33]], ((0, 0), [])), (2, [2, 6, 0], [[0, 1], [1]], ((0, 0), [])), (0, [1], [[1, 0, 0, 3000, 0, 0, 0, 0, 0, 0, 0, 0, 1, 0, 0, 0, 0, 0, 0, 0, 0, 0, 0, 0, 0, 0, 1]], ((0, 0), []))]) (by decide +kernel)
theorem zx_gv115_ok {PT : Nat → zz_W → Prop} : zx_Vok 64 zHT PT (zu_Vw 179 41 41 [179] [((0, 0), [(0, 1, 0), (1, 0, 1)]), ((0, 0), [(0, 0, 1), (1, 1, 0)]), ((0, 0), [(2, 0, 1), (4, 1, 0)]), ((0, 0), [(2, 1, 0), (4, 0, 1)]), ((0, 0), [(3, 1, 0), (5, 0, 1)])]) := zu_Vw_ok (hs := [(2, [2, 0, 0], [[], []], ((0, 0), [])), (2, [2, 1, 1], [[], []], ((0, 0), [])), (2, [2, 2, 2], [[], []], ((0, 0), [])), (2, [2, 3, 3], [[], []], ((0, 0), [])), (2, [2, 5, 5], [[0, 0, 0, 0, 1], [0, 0, 0, 0, 0, 1]], ((0, 0), [])), (1, [], [], ((0, 1), [(2, 0, 1), (6, 1, 0)])), (2, [4, 4, 4], [[], [], [], [1]], ((0, 0), [])), (3, [], [], ((0, 0), [])), (0, [1], [[1, 0, 0, 0, 0, 0, 0, 0, 0, 0, 0, 0, 1]], ((0, 0), [])), (0, [2], [[1, 0, 0, 0, 0, 0, 0, 0, 0, 0, 0, 0, 0, 0, 0, 1], [0, 1, 0, 0, 0, 0, 0, 0, 0, 0, 0, 0, 0, 0, 0, 0, 1]], ((0, 0), [])), (0, [3], [[1, 0, 0, 0, 0, 0, 0, 0, 0, 0, 0, 0, 0, 0, 0, 0, 1], [0, 1, 0, 0, 0, 0, 0, 0, 0, 0, 0, 0, 0, 0, 0, 1], [0, 0, 1, 0, 0, 0, 0, 1, 0, 0, 0, 0, 0, 0, 0, 1], [0, 0, 0, 1, 0, 0, 0, 1, 0, 0, 0, 0, 0, 1], [0, 0, 0, 0, 1, 0, 0, 0, 0, 0, 0, 0, 1], [0, 0, 0, 0, 0, 1, 0, 0, 0, 0, 1, 1]], ((0, 0), [])), (1, [], [], ((0, 1), [(2, 1, 0), (6, 0, 1)])), (2, [3, 4, 4], [[], [], [], [1]], ((0, 0), [])), (3, [], [], ((0, 0), [])), (0, [1], [[1, 0, 0, 0, 0, 0, 0, 0, 0, 0, 0, 0, 0, 1]], ((0, 0), [])), (0, [2], [[1, 0, 0, 0, 0, 0, 0, 0, 0, 0, 0, 0, 0, 0, 0, 0, 1], [0, 1, 0, 0, 0, 0, 0, 0, 0, 0, 0, 0, 0, 0, 0, 0, 0, 1]], ((0, 0), [])), (0, [3], [[1, 0, 0, 0, 0, 0, 0, 0, 0, 0, 0, 0, 0, 0, 0, 0, 0, 1], [0, 1, 0, 0, 0, 0, 0, 0, 0, 0, 0, 0, 0, 0, 0, 0, 1], [0, 0, 1, 0, 0, 0, 0, 1, 0, 0, 0, 0, 0, 0, 0, 0, 1], [0, 0, 0, 1, 0, 0, 0, 1, 0, 0, 0, 0, 0, 0, 1], [0, 0, 0, 0, 1, 0, 0, 0, 0, 0, 0, 0, 0, 1], [0, 0, 0, 0, 0, 1, 0, 0, 0, 0, 0, 1, 1]], ((0, 0), [])), (2, [1, 4, 6], [[1], [0, 1]], ((0, 0), [])), (2, [0, 4, 6], [[0, 0, 1, 0, 0, 0, 0, 0, 0, 0, 0, 0, 0, 0, 0, 0, 0, 1], [0, 0, 0, 1, 0, 0, 0, 0, 0, 0, 0, 0, 0, 0, 0, 0, 1]], ((0, 0), [])), (3, [], [], ((0, 0), [])), (0, [1], [[1, 0, 0, 0, 0, 0, 0, 0, 0, 0, 0, 0, 0, 0, 0, 1]], ((0, 0), [])), (0, [2], [[1, 0, 0, 0, 0, 0, 0, 0, 0, 0, 0, 0, 0, 0, 0, 0, 0, 0, 1], [0, 1, 0, 0, 0, 0, 0, 0, 0, 0, 0, 0, 0, 0, 0, 0, 0, 0, 0, 1]], ((0, 0), [])), (0, [3], [[1, 0, 0, 0, 0, 0, 0, 0, 0, 0, 0, 0, 0, 0, 0, 0, 0, 0, 0, 1], [0, 1, 0, 0, 0, 0, 0, 0, 0, 0, 0, 0, 0, 0, 0, 0, 0, 0, 1], [0, 0, 1, 0, 0, 0, 0, 1, 1, 0, 0, 0, 0, 0, 0, 0, 0, 0, 1, 0, 0, 0, 0, 0, 0, 0, 1], [0, 0, 0, 1, 0, 0, 0, 1, 1, 0, 0, 0, 0, 0, 0, 0, 1, 0, 0, 0, 0, 0, 0, 0, 0, 0, 1], [0, 0, 0, 0, 1, 0, 0, 0, 0, 0, 0, 0, 0, 0, 0, 1], [0, 0, 0, 0, 0, 1, 0, 0, 0, 0, 0, 0, 0, 1, 1]], ((0, 0), []))]) (by decide +kernel)
theorem zx_gv116_ok {PT : Nat → zz_W → Prop} : zx_Vok 64 zHT PT (zu_Vw 179 41 41 [] [((0, 0), [(0, 1, 0), (1, 0, 1)]), ((0, 0), [(0, 0, 1), (1, 1, 0)]), ((0, 0), [(0, 0, 1), (2, 1, 0)]), ((0, 0), [(0, 1, 0), (2, 0, 1)])]) := zu_Vw_ok (hs := [(2, [2, 0, 0], [[], []], ((0, 0), [])), (2, [2, 1, 1], [[], []], ((0, 0), [])), (2, [2, 2, 2], [[], []], ((0, 0), [])), (2, [2, 3, 3], [[], []], ((0, 0), [])), (2, [2, 5, 5], [[0, 0, 0, 0, 1], [0, 0, 0, 0, 0, 1]], ((0, 0), [])), (1, [], [], ((0, 1), [(2, 0, 1), (4, 1, 0)])), (2, [4, 4, 4], [[], [], [], [1]], ((0, 0), [])), (3, [], [], ((0, 0), [])), (0, [1], [[1, 0, 0, 0, 0, 0, 0, 0, 0, 0, 0, 0, 1]], ((0, 0), [])), (0, [0], [[0, 100000, 0, 0, 100000, 0, 0, 0, 0, 0, 0, 0, 0, 0, 0, 0, 0, 100000]], ((0, 0), [])), (0, [3], [[1, 0, 0, 0, 0, 0, 0, 0, 0, 0, 0, 0, 0, 0, 0, 0, 1], [0, 1, 0, 0, 0, 0, 0, 0, 0, 0, 0, 0, 0, 0, 0, 1], [0, 0, 1, 0, 0, 0, 0, 1, 0, 0, 0, 0, 0, 0, 0, 1], [0, 0, 0, 1, 0, 0, 0, 1, 0, 0, 0, 0, 0, 1], [0, 0, 0, 0, 1, 0, 0, 0, 0, 0, 0, 0, 1], [0, 0, 0, 0, 0, 1, 0, 0, 0, 0, 1, 1]], ((0, 0), [])), (1, [], [], ((0, 1), [(2, 1, 0), (4, 0, 1)])), (2, [3, 4, 4], [[], [], [], [1]], ((0, 0), [])), (3, [], [], ((0, 0), [])), (0, [1], [[1, 0, 0, 0, 0, 0, 0, 0, 0, 0, 0, 0, 0, 1]], ((0, 0), [])), (0, [0], [[100000, 0, 0, 0, 100000, 0, 0, 0, 0, 0, 0, 0, 0, 0, 0, 0, 0, 0, 0, 100000]], ((0, 0), [])), (0, [3], [[1, 0, 0, 0, 0, 0, 0, 0, 0, 0, 0, 0, 0, 0, 0, 0, 0, 1], [0, 1, 0, 0, 0, 0, 0, 0, 0, 0, 0, 0, 0, 0, 0, 0, 1], [0, 0, 1, 0, 0, 0, 0, 1, 0, 0, 0, 0, 0, 0, 0, 0, 1], [0, 0, 0, 1, 0, 0, 0, 1, 0, 0, 0, 0, 0, 0, 1], [0, 0, 0, 0, 1, 0, 0, 0, 0, 0, 0, 0, 0, 1], [0, 0, 0, 0, 0, 1, 0, 0, 0, 0, 0, 1, 1]], ((0, 0), [])), (0, [2], [[1, 0, 0, 0, 0, 0, 0, 0, 0, 0, 0, 0, 1, 0, 1], [0, 1, 0, 0, 0, 0, 0, 0, 0, 0, 0, 0, 0, 1, 0, 1]], ((0, 0), []))]) (by decide +kernel)
theorem zx_gv117_ok {PT : Nat → zz_W → Prop} : zx_Vok 64 zHT PT (zu_Vw 182 41 41 [182] [((0, 0), [(0, 1, 0), (1, 0, 1)]), ((0, 0), [(0, 0, 1), (1, 1, 0)]), ((0, 0), [(2, 0, 1), (4, 1, 0)]), ((0, 0), [(2, 1, 0), (4, 0, 1)]), ((0, 0), [(3, 1, 0), (5, 0, 1)])]) := zu_Vw_ok (hs := [(2, [2, 0, 0], [[], []], ((0, 0), [])), (2, [2, 1, 1], [[], []], ((0, 0), [])), (2, [2, 2, 2], [[], []], ((0, 0), [])), (2, [2, 3, 3], [[], []], ((0, 0), [])), (2, [2, 4, 4], [[], []], ((0, 0), [])), (1, [], [], ((0, 1), [(2, 0, 1), (6, 64, 0), (15, 1, 0)])), (2, [4, 5, 5], [[0, 0, 0, 0, 0, 0, 0, 1], [0, 0, 0, 0, 0, 0, 0, 0, 1], [1, 0, 0, 0, 0, 0, 0, 1], [1, 0, 0, 0, 0, 0, 0, 1]], ((0, 0), [])), (3, [], [], ((0, 0), [])), (0, [1], [[1, 0, 0, 0, 0, 0, 0, 0, 0, 0, 0, 0, 1]], ((0, 0), [])), (0, [2], [[1, 0, 0, 0, 0, 0, 0, 0, 0, 0, 0, 0, 0, 0, 0, 1], [0, 1, 0, 0, 0, 0, 0, 0, 0, 0, 0, 0, 0, 0, 0, 0, 1]], ((0, 0), [])), (0, [3], [[1, 0, 0, 0, 0, 0, 0, 0, 0, 0, 0, 0, 0, 0, 0, 0, 1], [0, 1, 0, 0, 0, 0, 0, 0, 0, 0, 0, 0, 0, 0, 0, 1], [0, 0, 1, 0, 0, 0, 0, 0, 0, 0, 1, 0, 0, 0, 0, 1], [0, 0, 0, 1, 0, 0, 0, 0, 0, 0, 1, 0, 0, 1], [0, 0, 0, 0, 1, 0, 0, 0, 0, 0, 0, 0, 1], [0, 0, 0, 0, 0, 1, 0, 1, 0, 0, 0, 1]], ((0, 0), [])), (1, [], [], ((0, 1), [(2, 1, 0), (6, 0, 64), (15, 0, 1)])), (3, [], [], ((0, 0), [])), (0, [1], [[1, 0, 0, 0, 0, 0, 0, 0, 0, 0, 0, 1]], ((0, 0), [])), (0, [2], [[1, 0, 0, 0, 0, 0, 0, 0, 0, 0, 0, 0, 0, 0, 1], [0, 1, 0, 0, 0, 0, 0, 0, 0, 0, 0, 0, 0, 0, 0, 1]], ((0, 0), [])), (2, [3, 5, 5], [[0, 0, 0, 0, 0, 0, 0, 0, 0, 0, 0, 0, 0, 0, 1], [0, 0, 0, 0, 0, 0, 0, 0, 0, 0, 0, 0, 0, 0, 0, 1], [1], [0, 0, 0, 0, 0, 0, 1, 0, 0, 0, 0, 0, 0, 0, 0, 1]], ((0, 0), [])), (0, [3], [[0, 0, 1, 0, 0, 0, 0, 0, 0, 0, 0, 0, 0, 0, 0, 0, 0, 1], [0, 0, 0, 1, 0, 0, 0, 0, 0, 0, 0, 0, 0, 0, 0, 0, 1], [0, 0, 0, 0, 1, 0, 0, 0, 0, 0, 0, 1, 0, 0, 0, 0, 1], [0, 0, 0, 0, 0, 1, 0, 0, 0, 0, 0, 1, 0, 0, 1], [0, 0, 0, 0, 0, 0, 1, 0, 0, 0, 0, 0, 0, 1], [0, 1, 0, 0, 0, 0, 0, 1, 0, 0, 0, 0, 1]], ((0, 0), [])), (2, [1, 5, 6], [[1], [0, 1]], ((0, 0), [])), (2, [0, 5, 6], [[0, 0, 1, 0, 0, 0, 0, 0, 0, 0, 1, 0, 0, 0, 0, 0, 99999, 100000], [0, 0, 0, 1, 0, 0, 0, 0, 0, 0, 0, 1, 0, 0, 0, 0, 1]], ((0, 0), [])), (3, [], [], ((0, 0), [])), (0, [1], [[1, 0, 0, 0, 0, 0, 0, 0, 0, 0, 0, 0, 0, 0, 0, 1]], ((0, 0), [])), (0, [2], [[1, 0, 0, 0, 0, 0, 0, 0, 0, 0, 0, 0, 0, 0, 0, 0, 0, 0, 1], [0, 1, 0, 0, 0, 0, 0, 0, 0, 0, 0, 0, 0, 0, 0, 0, 0, 0, 0, 1]], ((0, 0), [])), (0, [3], [[1, 0, 0, 0, 0, 0, 0, 0, 0, 0, 0, 0, 0, 0, 0, 0, 0, 0, 0, 1], [0, 1, 0, 0, 0, 0, 0, 0, 0, 0, 0, 0, 0, 0, 0, 0, 0, 0, 1], [0, 0, 1, 0, 0, 0, 0, 0, 0, 0, 0, 0, 0, 1, 0, 0, 0, 0, 1], [0, 0, 0, 1, 0, 0, 0, 0, 0, 0, 0, 0, 0, 1, 0, 0, 1], [0, 0, 0, 0, 1, 0, 0, 0, 0, 0, 0, 0, 0, 0, 0, 1], [0, 0, 0, 0, 0, 1, 0, 1, 1, 0, 0, 0, 0, 0, 1, 0, 0, 0, 0, 0, 0, 0, 0, 0, 0, 0, 1]], ((0, 0), []))]) (by decide +kernel)
theorem zx_gv118_ok {PT : Nat → zz_W → Prop} : zx_Vok 64 zHT PT (zu_Vw 182 41 41 [179] [((0, 0), [(0, 1, 0), (1, 0, 1)]), ((0, 0), [(0, 0, 1), (1, 1, 0)]), ((0, 0), [(2, 1, 0), (4, 0, 64), (5, 0, 1)]), ((0, 0), [(2, 0, 1), (4, 64, 0), (5, 1, 0)]), ((0, 0), [(5, 1, 0)]), ((63, 0), [(5, 0, 1)])]) := zu_Vw_ok (hs := [(2, [2, 0, 0], [[], []], ((0, 0), [])), (2, [2, 1, 1], [[], []], ((0, 0), [])), (2, [2, 2, 2], [[], []], ((0, 0), [])), (2, [2, 3, 3], [[], []], ((0, 0), [])), (2, [2, 4, 4], [[], []], ((0, 0), [])), (1, [], [], ((0, 1), [(2, 0, 1), (6, 64, 0), (15, 1, 0)])), (2, [4, 5, 5], [[0, 0, 0, 0, 0, 0, 0, 1], [0, 0, 0, 0, 0, 0, 0, 0, 1], [1, 0, 0, 0, 0, 0, 0, 1], [1, 0, 0, 0, 0, 0, 0, 1]], ((0, 0), [])), (3, [], [], ((0, 0), [])), (0, [1], [[1, 0, 0, 0, 0, 0, 0, 0, 0, 0, 0, 0, 1]], ((0, 0), [])), (0, [2], [[1, 0, 0, 0, 0, 0, 0, 0, 0, 0, 0, 0, 0, 0, 0, 1], [0, 1, 0, 0, 0, 0, 0, 0, 0, 0, 0, 0, 0, 0, 0, 0, 1]], ((0, 0), [])), (0, [3], [[1, 0, 0, 0, 0, 0, 0, 0, 0, 0, 0, 0, 0, 0, 0, 0, 1], [0, 1, 0, 0, 0, 0, 0, 0, 0, 0, 0, 0, 0, 0, 0, 1], [0, 0, 1, 0, 0, 0, 0, 0, 0, 0, 1, 0, 0, 0, 0, 1], [0, 0, 0, 1, 0, 0, 0, 0, 0, 0, 1, 0, 0, 1], [0, 0, 0, 0, 1, 0, 0, 0, 0, 0, 0, 0, 1], [0, 0, 0, 0, 0, 1, 0, 1, 0, 0, 0, 1]], ((0, 0), [])), (1, [], [], ((0, 1), [(2, 1, 0), (6, 0, 64), (15, 0, 1)])), (3, [], [], ((0, 0), [])), (0, [1], [[1, 0, 0, 0, 0, 0, 0, 0, 0, 0, 0, 1]], ((0, 0), [])), (0, [2], [[1, 0, 0, 0, 0, 0, 0, 0, 0, 0, 0, 0, 0, 0, 1], [0, 1, 0, 0, 0, 0, 0, 0, 0, 0, 0, 0, 0, 0, 0, 1]], ((0, 0), [])), (2, [3, 5, 5], [[0, 0, 0, 0, 0, 0, 0, 0, 0, 0, 0, 0, 0, 0, 1], [0, 0, 0, 0, 0, 0, 0, 0, 0, 0, 0, 0, 0, 0, 0, 1], [1], [0, 0, 0, 0, 0, 0, 1, 0, 0, 0, 0, 0, 0, 0, 0, 1]], ((0, 0), [])), (0, [3], [[0, 0, 1, 0, 0, 0, 0, 0, 0, 0, 0, 0, 0, 0, 0, 0, 0, 1], [0, 0, 0, 1, 0, 0, 0, 0, 0, 0, 0, 0, 0, 0, 0, 0, 1], [0, 0, 0, 0, 1, 0, 0, 0, 0, 0, 0, 1, 0, 0, 0, 0, 1], [0, 0, 0, 0, 0, 1, 0, 0, 0, 0, 0, 1, 0, 0, 1], [0, 0, 0, 0, 0, 0, 1, 0, 0, 0, 0, 0, 0, 1], [0, 1, 0, 0, 0, 0, 0, 1, 0, 0, 0, 0, 1]], ((0, 0), [])), (2, [1, 5, 6], [[1], [0, 1]], ((0, 0), [])), (3, [], [], ((0, 0), [])), (0, [1], [[1, 0, 0, 0, 0, 0, 0, 0, 0, 0, 0, 0, 0, 1]], ((0, 0), [])), (0, [2], [[1, 0, 0, 0, 0, 0, 0, 0, 0, 0, 0, 0, 0, 0, 0, 0, 1], [0, 1, 0, 0, 0, 0, 0, 0, 0, 0, 0, 0, 0, 0, 0, 0, 0, 1]], ((0, 0), [])), (1, [], [], ((0, 1), [(4, 0, 1), (6, 1, 0)])), (0, [0], [[99968, 1562, 0, 0, 0, 0, 0, 0, 0, 0, 1562, 0, 0, 0, 0, 0, 0, 0, 1562, 0, 0, 0, 0, 0, 1562, 0, 1562]], ((0, 0), [])), (1, [], [], ((0, 1), [(4, 1, 0), (6, 0, 1)])), (0, [0], [[99968, 0, 0, 1562, 0, 0, 0, 0, 0, 0, 1562, 0, 0, 0, 0, 0, 0, 0, 1562, 0, 0, 0, 0, 0, 1562, 0, 1562]], ((0, 0), [])), (2, [2, 6, 4], [[0, 1], [1]], ((0, 0), [])), (0, [0], [[1562, 0, 0, 99968, 0, 0, 1562, 0, 0, 0, 0, 0, 1562, 0, 98438, 100000, 0, 0, 0, 0, 1562, 0, 0, 0, 0, 0, 1562]], ((0, 0), []))]) (by decide +kernel)
theorem zx_gv120_ok {PT : Nat → zz_W → Prop} : zx_Vok 64 zHT PT (zu_Vw 304 42 42 [] [((0, 0), [(1, 1, 0), (3, 0, 1)]), ((0, 0), [(1, 0, 1), (3, 1, 0)]), ((0, 0), [(0, 1, 0), (2, 0, 1)]), ((0, 0), [(0, 0, 1), (2, 1, 0)]), ((0, 0), [(0, 0, 1), (4, 1, 0)])]) := zu_Vw_ok (hs := [(2, [2, 1, 1], [[1], [0, 1]], ((0, 0), [])), (1, [], [], ((0, 1), [(4, 0, 1), (6, 1, 0)])), (0, [1], [[1, 0, 0, 0, 0, 1, 0, 1]], ((0, 0), [])), (1, [], [], ((0, 1), [(4, 1, 0), (6, 0, 1)])), (2, [3, 0, 0], [[], [], [], [1]], ((0, 0), [])), (3, [], [], ((0, 0), [])), (0, [1], [[1, 0, 0, 0, 0, 0, 0, 0, 0, 1]], ((0, 0), [])), (0, [2], [[1, 1, 0, 0, 0, 0, 1]], ((0, 0), [])), (0, [1], [[1, 0, 0, 0, 0, 0, 1, 0, 1]], ((0, 0), []))]) (by decide +kernel)
theorem zx_gv121_ok {PT : Nat → zz_W → Prop} : zx_Vok 64 zHT PT (zu_Vw 304 42 42 [179] [((0, 0), [(1, 1, 0), (3, 0, 1)]), ((0, 0), [(1, 0, 1), (3, 1, 0)]), ((0, 0), [(0, 1, 0), (2, 0, 1)]), ((0, 0), [(0, 0, 1), (2, 1, 0)]), ((0, 0), [(1, 0, 1), (6, 1, 0)]), ((0, 0), [(1, 1, 0), (6, 0, 1)]), ((0, 1), [(5, 0, 1), (7, 1, 0)])]) := zu_Vw_ok (hs := [(2, [2, 1, 1], [[1], [0, 1]], ((0, 0), [])), (2, [2, 2, 1], [[0, 0, 1, 0, 0, 0, 1], [0, 0, 0, 1, 0, 0, 0, 1]], ((0, 0), [])), (2, [0, 1, 2], [[0, 0, 0, 0, 0, 0, 0, 0, 0, 1], [0, 0, 0, 0, 0, 0, 0, 0, 1]], ((0, 0), [])), (1, [], [], ((0, 1), [(4, 0, 1), (8, 1, 0)])), (2, [4, 0, 0], [[], [], [], [1]], ((0, 0), [])), (3, [], [], ((0, 0), [])), (0, [1], [[1, 0, 0, 0, 0, 0, 0, 0, 0, 0, 0, 0, 1]], ((0, 0), [])), (0, [2], [[1, 1, 0, 0, 99999, 0, 99999, 0, 0, 100000]], ((0, 0), [])), (1, [], [], ((0, 1), [(4, 1, 0), (8, 0, 1)])), (2, [3, 0, 0], [[], [], [], [1]], ((0, 0), [])), (3, [], [], ((0, 0), [])), (0, [1], [[1, 0, 0, 0, 0, 0, 0, 0, 0, 0, 0, 0, 0, 1]], ((0, 0), [])), (0, [2], [[1, 1, 0, 0, 0, 99999, 0, 99999, 0, 0, 100000]], ((0, 0), [])), (2, [1, 0, 2], [[1], [0, 1]], ((0, 0), [])), (0, [2], [[0, 1, 0, 0, 100000, 0, 99999, 0, 0, 100000, 0, 0, 0, 0, 0, 0, 1]], ((0, 0), []))]) (by decide +kernel)
theorem zx_gv122_ok {PT : Nat → zz_W → Prop} : zx_Vok 64 zHT PT (zu_Vw 179 42 42 [179] [((0, 0), [(1, 1, 0), (3, 0, 1)]), ((0, 0), [(1, 0, 1), (3, 1, 0)]), ((0, 0), [(0, 1, 0), (2, 0, 1)]), ((0, 0), [(0, 0, 1), (2, 1, 0)]), ((0, 0), [(4, 0, 1), (6, 1, 0)]), ((0, 0), [(4, 1, 0), (6, 0, 1)]), ((0, 0), [(5, 1, 0), (7, 0, 1)])]) := zu_Vw_ok (hs := [(2, [2, 0, 0], [[], []], ((0, 0), [])), (1, [], [], ((0, 1), [(3, 1, 0), (4, 0, 1)])), (2, [4, 1, 1], [[0, 0, 0, 1], [0, 0, 0, 0, 1], [], [1, 0, 0, 1]], ((0, 0), [])), (3, [], [], ((0, 0), [])), (0, [1], [[1, 0, 0, 0, 0, 0, 0, 0, 1]], ((0, 0), [])), (0, [2], [[1, 0, 1, 0, 1]], ((0, 0), [])), (1, [], [], ((0, 1), [(3, 0, 1), (4, 1, 0)])), (2, [3, 1, 1], [[0, 0, 0, 0, 1], [0, 0, 0, 0, 0, 1], [], [1, 0, 0, 0, 0, 1]], ((0, 0), [])), (3, [], [], ((0, 0), [])), (0, [1], [[1, 0, 0, 0, 0, 0, 0, 0, 0, 1]], ((0, 0), [])), (0, [2], [[1, 0, 1, 0, 0, 1]], ((0, 0), [])), (2, [1, 1, 2], [[1], [0, 1]], ((0, 0), [])), (2, [0, 1, 2], [[0, 0, 1, 0, 0, 0, 1, 0, 0, 0, 99999, 100000], [0, 0, 0, 1, 0, 0, 99999, 100000, 0, 0, 1]], ((0, 0), [])), (3, [], [], ((0, 0), [])), (0, [1], [[1, 0, 0, 0, 0, 0, 0, 0, 0, 0, 0, 1]], ((0, 0), [])), (0, [2], [[1, 0, 1, 1, 0, 0, 0, 1, 0, 0, 0, 0, 0, 0, 0, 1]], ((0, 0), []))]) (by decide +kernel)
theorem zx_gv123_ok {PT : Nat → zz_W → Prop} : zx_Vok 64 zHT PT (zu_Vw 297 43 43 [179] [((0, 0), [(1, 1, 0), (3, 0, 1)]), ((0, 0), [(1, 0, 1), (3, 1, 0)]), ((0, 1), [(0, 0, 1), (2, 1, 0)]), ((1, 0), [(0, 1, 0), (2, 0, 1)]), ((0, 0), [(0, 0, 1), (4, 1, 0)]), ((0, 0), [(0, 1, 0), (4, 0, 1)]), ((0, 0), [(1, 0, 1), (6, 1, 0)]), ((0, 0), [(1, 1, 0), (6, 0, 1)]), ((0, 1), [(5, 0, 1), (7, 1, 0)])]) := zu_Vw_ok (hs := [(2, [2, 1, 1], [[1], [0, 1]], ((0, 0), [])), (2, [2, 2, 1], [[0, 0, 1, 0, 0, 0, 0, 0, 1], [0, 0, 0, 1, 0, 0, 0, 0, 0, 1]], ((0, 0), [])), (2, [0, 1, 2], [[0, 0, 0, 0, 0, 0, 0, 0, 0, 0, 0, 1], [0, 0, 0, 0, 0, 0, 0, 0, 0, 0, 1]], ((0, 0), [])), (1, [], [], ((0, 1), [(4, 0, 1), (8, 1, 0)])), (0, [1], [[1, 0, 100000, 0, 100000, 100000, 0, 0, 0, 99999, 100000, 1]], ((0, 0), [])), (1, [], [], ((0, 1), [(4, 1, 0), (8, 0, 1)])), (2, [3, 0, 0], [[], [], [], [1]], ((0, 0), [])), (3, [], [], ((0, 0), [])), (0, [0], [[100000, 0, 0, 100000, 0, 0, 100000, 0, 100000, 100000, 0, 0, 0, 0, 0, 0, 100000]], ((0, 0), [])), (0, [2], [[1, 1, 0, 0, 0, 99999, 0, 99999, 0, 0, 100000]], ((0, 0), [])), (2, [1, 0, 2], [[1], [0, 1]], ((0, 0), [])), (0, [2], [[0, 1, 0, 0, 100000, 0, 99999, 0, 0, 100000, 0, 0, 0, 0, 0, 0, 0, 0, 1]], ((0, 0), []))]) (by decide +kernel)
theorem zx_gv124_ok {PT : Nat → zz_W → Prop} : zx_Vok 64 zHT PT (zu_Vw 297 43 43 [179] [((0, 0), [(1, 1, 0), (3, 0, 1)]), ((0, 0), [(1, 0, 1), (3, 1, 0)]), ((0, 0), [(0, 1, 0), (2, 0, 1)]), ((0, 0), [(0, 0, 1), (2, 1, 0)]), ((0, 0), [(1, 0, 1), (6, 1, 0)]), ((0, 0), [(1, 1, 0), (6, 0, 1)]), ((0, 1), [(5, 0, 1), (7, 1, 0)])]) := zu_Vw_ok (hs := [(2, [2, 1, 1], [[1], [0, 1]], ((0, 0), [])), (2, [2, 2, 1], [[0, 0, 1, 0, 0, 0, 1], [0, 0, 0, 1, 0, 0, 0, 1]], ((0, 0), [])), (2, [0, 1, 2], [[0, 0, 0, 0, 0, 0, 0, 0, 0, 1], [0, 0, 0, 0, 0, 0, 0, 0, 1]], ((0, 0), [])), (1, [], [], ((0, 1), [(4, 0, 1), (8, 1, 0)])), (2, [4, 0, 0], [[], [], [], [1]], ((0, 0), [])), (3, [], [], ((0, 0), [])), (0, [1], [[1, 0, 0, 0, 0, 0, 0, 0, 0, 0, 0, 0, 1]], ((0, 0), [])), (0, [2], [[1, 1, 0, 0, 99999, 0, 99999, 0, 0, 100000]], ((0, 0), [])), (1, [], [], ((0, 1), [(4, 1, 0), (8, 0, 1)])), (2, [3, 0, 0], [[], [], [], [1]], ((0, 0), [])), (3, [], [], ((0, 0), [])), (0, [1], [[1, 0, 0, 0, 0, 0, 0, 0, 0, 0, 0, 0, 0, 1]], ((0, 0), [])), (0, [2], [[1, 1, 0, 0, 0, 99999, 0, 99999, 0, 0, 100000]], ((0, 0), [])), (2, [1, 0, 2], [[1], [0, 1]], ((0, 0), [])), (0, [2], [[0, 1, 0, 0, 100000, 0, 99999, 0, 0, 100000, 0, 0, 0, 0, 0, 0, 1]], ((0, 0), []))]) (by decide +kernel)
theorem zx_gv125_ok {PT : Nat → zz_W → Prop} : zx_Vok 64 zHT PT (zu_Vw 179 43 43 [179] [((0, 0), [(1, 1, 0), (3, 0, 1)]), ((0, 0), [(1, 0, 1), (3, 1, 0)]), ((0, 0), [(0, 1, 0), (2, 0, 1)]), ((0, 0), [(0, 0, 1), (2, 1, 0)]), ((0, 0), [(4, 0, 1), (6, 1, 0)]), ((0, 0), [(4, 1, 0), (6, 0, 1)]), ((0, 0), [(5, 1, 0), (7, 0, 1)])]) := zu_Vw_ok (hs := [(2, [2, 0, 0], [[], []], ((0, 0), [])), (1, [], [], ((0, 1), [(3, 1, 0), (4, 0, 1)])), (2, [4, 1, 1], [[0, 0, 0, 1], [0, 0, 0, 0, 1], [], [1, 0, 0, 1]], ((0, 0), [])), (3, [], [], ((0, 0), [])), (0, [1], [[1, 0, 0, 0, 0, 0, 0, 0, 1]], ((0, 0), [])), (0, [2], [[1, 0, 1, 0, 1]], ((0, 0), [])), (1, [], [], ((0, 1), [(3, 0, 1), (4, 1, 0)])), (2, [3, 1, 1], [[0, 0, 0, 0, 1], [0, 0, 0, 0, 0, 1], [], [1, 0, 0, 0, 0, 1]], ((0, 0), [])), (3, [], [], ((0, 0), [])), (0, [1], [[1, 0, 0, 0, 0, 0, 0, 0, 0, 1]], ((0, 0), [])), (0, [2], [[1, 0, 1, 0, 0, 1]], ((0, 0), [])), (2, [1, 1, 2], [[1], [0, 1]], ((0, 0), [])), (2, [0, 1, 2], [[0, 0, 1, 0, 0, 0, 1, 0, 0, 0, 99999, 100000], [0, 0, 0, 1, 0, 0, 99999, 100000, 0, 0, 1]], ((0, 0), [])), (3, [], [], ((0, 0), [])), (0, [1], [[1, 0, 0, 0, 0, 0, 0, 0, 0, 0, 0, 1]], ((0, 0), [])), (0, [2], [[1, 0, 1, 1, 0, 0, 0, 1, 0, 0, 0, 0, 0, 0, 0, 1]], ((0, 0), []))]) (by decide +kernel)
theorem zx_gv126_ok {PT : Nat → zz_W → Prop} : zx_Vok 64 zHT PT (zu_Vw 302 45 45 [] [((0, 0), [(0, 1, 0), (2, 0, 1)]), ((0, 0), [(0, 0, 1), (2, 1, 0)]), ((0, 0), [(1, 1, 0), (3, 0, 1)]), ((0, 0), [(1, 0, 1), (3, 1, 0)]), ((0, 0), [(0, 0, 1), (4, 1, 0)])]) := zu_Vw_ok (hs := [(2, [2, 1, 1], [[], []], ((0, 0), [])), (2, [2, 2, 2], [[], []], ((0, 0), [])), (1, [], [], ((0, 1), [(4, 0, 1), (6, 1, 0)])), (0, [1], [[1, 0, 0, 0, 0, 1, 0, 0, 0, 1]], ((0, 0), [])), (1, [], [], ((0, 1), [(4, 1, 0), (6, 0, 1)])), (2, [3, 0, 0], [[], [], [], [1]], ((0, 0), [])), (3, [], [], ((0, 0), [])), (0, [1], [[1, 0, 0, 0, 0, 0, 0, 0, 0, 1]], ((0, 0), [])), (0, [2], [[1, 0, 0, 0, 0, 0, 0, 0, 0, 0, 0, 0, 1], [0, 1, 0, 0, 0, 0, 0, 0, 0, 0, 0, 0, 0, 1]], ((0, 0), [])), (0, [3], [[1, 0, 0, 0, 1], [0, 1, 0, 1], [0, 0, 1, 0, 0, 0, 0, 0, 0, 0, 1]], ((0, 0), [])), (0, [4], [[1, 0, 0, 0, 1], [0, 1, 0, 1], [0, 0, 1, 0, 0, 0, 0, 0, 1]], ((0, 0), [])), (0, [5], [[1, 0, 0, 1], [0, 1, 1]], ((0, 0), [])), (0, [1], [[1, 0, 0, 0, 0, 0, 1, 0, 0, 0, 1]], ((0, 0), []))]) (by decide +kernel)
theorem zx_gv127_ok {PT : Nat → zz_W → Prop} : zx_Vok 64 zHT PT (zu_Vw 303 45 45 [] [((0, 0), [(0, 1, 0), (2, 0, 1)]), ((0, 0), [(0, 0, 1), (2, 1, 0)]), ((0, 0), [(1, 1, 0), (3, 0, 1)]), ((0, 0), [(1, 0, 1), (3, 1, 0)]), ((0, 0), [(0, 0, 1), (4, 1, 0)])]) := zu_Vw_ok (hs := [(2, [2, 0, 0], [[], []], ((0, 0), [])), (2, [2, 2, 2], [[], []], ((0, 0), [])), (1, [], [], ((0, 1), [(4, 0, 1), (6, 1, 0)])), (0, [1], [[1, 0, 0, 0, 0, 1, 0, 0, 0, 1]], ((0, 0), [])), (1, [], [], ((0, 1), [(4, 1, 0), (6, 0, 1)])), (2, [3, 1, 1], [[], [], [], [1]], ((0, 0), [])), (3, [], [], ((0, 0), [])), (0, [1], [[1, 0, 0, 0, 0, 0, 0, 0, 0, 1]], ((0, 0), [])), (0, [2], [[1, 0, 0, 0, 0, 0, 0, 0, 0, 0, 0, 0, 1], [0, 1, 0, 0, 0, 0, 0, 0, 0, 0, 0, 0, 0, 1]], ((0, 0), [])), (0, [3], [[1, 0, 0, 0, 0, 0, 0, 0, 0, 0, 1], [0, 1, 0, 0, 0, 0, 0, 0, 0, 1], [0, 0, 1, 0, 1]], ((0, 0), [])), (0, [4], [[1, 0, 0, 0, 0, 0, 0, 0, 0, 0, 1], [0, 1, 0, 0, 0, 0, 0, 0, 0, 1], [0, 0, 1, 0, 0, 0, 0, 0, 1]], ((0, 0), [])), (0, [5], [[1, 0, 0, 0, 0, 0, 0, 0, 0, 1], [0, 1, 0, 0, 0, 0, 0, 0, 1]], ((0, 0), [])), (0, [1], [[1, 0, 0, 0, 0, 0, 1, 0, 0, 0, 1]], ((0, 0), []))]) (by decide +kernel)
theorem zx_gv128_ok {PT : Nat → zz_W → Prop} : zx_Vok 64 zHT PT (zu_Vw 304 45 45 [] [((0, 0), [(0, 1, 0), (2, 0, 1)]), ((0, 0), [(0, 0, 1), (2, 1, 0)]), ((0, 0), [(1, 1, 0), (3, 0, 1)]), ((0, 0), [(1, 0, 1), (3, 1, 0)]), ((0, 0), [(0, 0, 1), (4, 1, 0)])]) := zu_Vw_ok (hs := [(2, [2, 0, 0], [[], []], ((0, 0), [])), (2, [2, 1, 1], [[], []], ((0, 0), [])), (1, [], [], ((0, 1), [(4, 0, 1), (6, 1, 0)])), (0, [1], [[1, 0, 0, 0, 0, 1, 0, 0, 0, 1]], ((0, 0), [])), (1, [], [], ((0, 1), [(4, 1, 0), (6, 0, 1)])), (2, [3, 2, 2], [[], [], [], [1]], ((0, 0), [])), (3, [], [], ((0, 0), [])), (0, [1], [[1, 0, 0, 0, 0, 0, 0, 0, 0, 1]], ((0, 0), [])), (0, [2], [[1, 0, 0, 0, 0, 0, 0, 0, 0, 0, 0, 0, 1], [0, 1, 0, 0, 0, 0, 0, 0, 0, 0, 0, 0, 0, 1]], ((0, 0), [])), (0, [3], [[1, 0, 0, 0, 0, 0, 0, 0, 0, 0, 1], [0, 1, 0, 0, 0, 0, 0, 0, 0, 1], [0, 0, 1, 0, 0, 0, 0, 0, 1]], ((0, 0), [])), (0, [4], [[1, 0, 0, 0, 0, 0, 0, 0, 0, 0, 1], [0, 1, 0, 0, 0, 0, 0, 0, 0, 1], [0, 0, 1, 0, 1]], ((0, 0), [])), (0, [5], [[1, 0, 0, 0, 0, 0, 0, 0, 0, 1], [0, 1, 0, 0, 0, 0, 0, 0, 1]], ((0, 0), [])), (0, [1], [[1, 0, 0, 0, 0, 0, 1, 0, 0, 0, 1]], ((0, 0), []))]) (by decide +kernel)
theorem zx_gv129_ok {PT : Nat → zz_W → Prop} : zx_Vok 64 zHT PT (zu_Vw 302 45 45 [] [((0, 0), [(0, 1, 0), (2, 0, 1)]), ((0, 0), [(0, 0, 1), (2, 1, 0)]), ((0, 3000), [(1, 1, 0)]), ((0, 0), [(3, 1, 0), (4, 0, 1)]), ((0, 0), [(3, 0, 1), (4, 1, 0)])]) := zu_Vw_ok (hs := [(2, [2, 1, 1], [[], []], ((0, 0), [])), (2, [2, 2, 2], [[], []], ((0, 0), [])), (1, [], [], ((0, 1), [(4, 0, 1), (6, 1, 0)])), (2, [4, 0, 0], [[], [], [], [1]], ((0, 0), [])), (3, [], [], ((0, 0), [])), (0, [1], [[1, 0, 0, 0, 0, 0, 0, 0, 1]], ((0, 0), [])), (0, [0], [[1, 0, 0, 0, 0, 0, 0, 0, 0, 0, 0, 1]], ((0, 0), [])), (0, [3], [[1, 0, 0, 0, 1], [0, 1, 0, 1], [0, 0, 1, 0, 0, 0, 0, 0, 0, 1]], ((0, 0), [])), (0, [4], [[1, 0, 0, 0, 1], [0, 1, 0, 1], [0, 0, 1, 0, 0, 0, 0, 1]], ((0, 0), [])), (0, [5], [[1, 0, 0, 1], [0, 1, 1]], ((0, 0), [])), (1, [], [], ((0, 1), [(4, 1, 0), (6, 0, 1)])), (2, [3, 0, 0], [[], [], [], [1]], ((0, 0), [])), (3, [], [], ((0, 0), [])), (0, [1], [[1, 0, 0, 0, 0, 0, 0, 0, 0, 1]], ((0, 0), [])), (0, [0], [[1, 0, 0, 0, 0, 0, 0, 0, 0, 0, 0, 0, 1]], ((0, 0), [])), (0, [3], [[1, 0, 0, 0, 1], [0, 1, 0, 1], [0, 0, 1, 0, 0, 0, 0, 0, 0, 0, 1]], ((0, 0), [])), (0, [4], [[1, 0, 0, 0, 1], [0, 1, 0, 1], [0, 0, 1, 0, 0, 0, 0, 0, 1]], ((0, 0), [])), (0, [5], [[1, 0, 0, 1], [0, 1, 1]], ((0, 0), [])), (0, [2], [[1, 0, 0, 0, 0, 0, 0, 0, 0, 0, 1], [0, 1, 0, 0, 0, 0, 0, 0, 0, 1]], ((0, 0), []))]) (by decide +kernel)
theorem zx_gv130_ok {PT : Nat → zz_W → Prop} : zx_Vok 64 zHT PT (zu_Vw 304 45 45 [302] [((0, 0), [(0, 1, 0), (2, 0, 1)]), ((0, 0), [(0, 0, 1), (2, 1, 0)]), ((0, 0), [(1, 1, 0), (4, 0, 1)]), ((0, 0), [(1, 0, 1), (4, 1, 0)]), ((0, 0), [(4, 0, 1), (6, 1, 0)]), ((0, 0), [(4, 1, 0), (6, 0, 1)]), ((0, 3000), [(3, 1, 0)]), ((0, 0), [(5, 1, 0)]), ((0, 2), [(7, 1, 0)]), ((2, 0), [(7, 0, 1)])]) := zu_Vw_ok (hs := [(2, [2, 0, 0], [[], []], ((0, 0), [])), (2, [2, 1, 1], [[], []], ((0, 0), [])), (1, [], [], ((0, 1), [(4, 0, 1), (8, 1, 0)])), (2, [4, 2, 2], [[], [], [], [1]], ((0, 0), [])), (3, [], [], ((0, 0), [])), (0, [1], [[1, 0, 0, 0, 0, 0, 0, 0, 1]], ((0, 0), [])), (0, [0], [[0, 100000, 0, 0, 100000, 0, 0, 0, 0, 0, 0, 0, 100000, 0, 0, 0, 0, 100000, 100000]], ((0, 0), [])), (0, [3], [[1, 0, 0, 0, 0, 0, 0, 0, 0, 1], [0, 1, 0, 0, 0, 0, 0, 0, 1], [0, 0, 1, 0, 0, 0, 0, 1]], ((0, 0), [])), (0, [4], [[1, 0, 0, 0, 0, 0, 0, 0, 0, 1], [0, 1, 0, 0, 0, 0, 0, 0, 1], [0, 0, 1, 0, 1]], ((0, 0), [])), (0, [5], [[1, 0, 0, 0, 0, 0, 0, 0, 1], [0, 1, 0, 0, 0, 0, 0, 1]], ((0, 0), [])), (1, [], [], ((0, 1), [(4, 1, 0), (8, 0, 1)])), (2, [3, 2, 2], [[], [], [], [1]], ((0, 0), [])), (3, [], [], ((0, 0), [])), (0, [1], [[1, 0, 0, 0, 0, 0, 0, 0, 0, 1]], ((0, 0), [])), (0, [0], [[100000, 0, 0, 0, 100000, 0, 0, 0, 0, 0, 0, 0, 100000, 0, 0, 0, 0, 0, 100000, 100000]], ((0, 0), [])), (0, [3], [[1, 0, 0, 0, 0, 0, 0, 0, 0, 0, 1], [0, 1, 0, 0, 0, 0, 0, 0, 0, 1], [0, 0, 1, 0, 0, 0, 0, 0, 1]], ((0, 0), [])), (0, [4], [[1, 0, 0, 0, 0, 0, 0, 0, 0, 0, 1], [0, 1, 0, 0, 0, 0, 0, 0, 0, 1], [0, 0, 1, 0, 1]], ((0, 0), [])), (0, [5], [[1, 0, 0, 0, 0, 0, 0, 0, 0, 1], [0, 1, 0, 0, 0, 0, 0, 0, 1]], ((0, 0), [])), (2, [2, 3, 0], [[0, 1, 0, 0, 0, 0, 0, 0, 0, 0, 1], [1, 0, 0, 0, 0, 0, 0, 0, 0, 0, 0, 1]], ((0, 0), [])), (2, [1, 2, 3], [[0, 0, 1], [0, 0, 0, 1]], ((0, 0), [])), (0, [4], [[0, 0, 0, 1, 0, 0, 0, 0, 0, 0, 0, 0, 0, 0, 0, 0, 0, 0, 1], [0, 0, 1, 0, 0, 0, 0, 0, 0, 0, 0, 0, 0, 0, 0, 0, 0, 0, 0, 1], [1, 0, 0, 0, 0, 0, 0, 0, 0, 0, 0, 0, 0, 0, 0, 0, 0, 1]], ((0, 0), []))]) (by decide +kernel)
theorem zx_gv131_ok {PT : Nat → zz_W → Prop} : zx_Vok 64 zHT PT (zu_Vw 315 50 50 [] [((0, 0), [(0, 1, 0), (2, 0, 1)]), ((0, 0), [(0, 0, 1), (2, 1, 0)]), ((0, 1), [(1, 0, 1), (3, 1, 0)]), ((1, 0), [(1, 1, 0), (3, 0, 1)]), ((0, 0), [(1, 0, 1), (4, 1, 0)]), ((0, 0), [(1, 1, 0), (4, 0, 1)]), ((0, 0), [(5, 1, 0)]), ((0, 0), [(5, 0, 1)])]) := zu_Vw_ok (hs := [(2, [2, 2, 2], [[], []], ((0, 0), [])), (1, [], [], ((0, 1), [(4, 0, 1), (6, 1, 0)])), (0, [1], [[1, 0, 0, 0, 0, 99999, 100000, 1, 0, 100000, 100000]], ((0, 0), [])), (1, [], [], ((0, 1), [(4, 1, 0), (6, 0, 1)])), (2, [3, 0, 0], [[], [], [], [1]], ((0, 0), [])), (2, [2, 1, 1], [[1], [0, 1]], ((0, 0), [])), (3, [], [], ((0, 0), [])), (0, [0], [[100000, 0, 0, 0, 0, 100000, 0, 0, 0, 0, 0, 0, 0, 0, 100000, 100000, 100000]], ((0, 0), [])), (0, [2], [[1, 0, 0, 1]], ((0, 0), [])), (0, [3], [[1, 0, 0, 0, 1]], ((0, 0), [])), (0, [4], [[1, 0, 0, 0, 0, 0, 0, 0, 0, 0, 0, 0, 1], [0, 1, 0, 1, 0, 0, 0, 0, 0, 0, 1, 0, 0, 0, 0, 0, 0, 100000, 100000], [0, 0, 1, 0, 1]], ((0, 0), [])), (0, [5], [[1], [0, 1, 0, 1, 0, 0, 0, 0, 0, 0, 1, 0, 0, 0, 0, 0, 0, 100000, 100000], [0, 0, 1, 0, 1]], ((0, 0), [])), (2, [1, 0, 3], [[1], [0, 1]], ((0, 0), [])), (0, [2], [[0, 1, 0, 0, 0, 0, 0, 0, 0, 0, 0, 0, 0, 1]], ((0, 0), []))]) (by decide +kernel)
theorem zx_gv132_ok {PT : Nat → zz_W → Prop} : zx_Vok 64 zHT PT (zu_Vw 315 50 50 [190, 179] [((0, 0), [(0, 1, 0), (2, 0, 1)]), ((0, 0), [(0, 0, 1), (2, 1, 0)]), ((0, 0), [(1, 1, 0), (3, 0, 1)]), ((0, 0), [(1, 0, 1), (3, 1, 0)]), ((1, 0), [(5, 0, 1), (6, 1, 0)]), ((0, 1), [(5, 1, 0), (6, 0, 1)]), ((0, 1), [(5, 1, 0), (7, 0, 600)]), ((600, 0), [(5, 0, 1), (7, 600, 0)]), ((0, 1), [(8, 0, 1), (9, 1, 0)]), ((0, 0), [(8, 1, 0)]), ((0, 1), [(5, 1, 0)]), ((0, 1), [(0, 1, 0), (7, 0, 1)])]) := zu_Vw_ok (hs := [(2, [2, 2, 2], [[], []], ((0, 0), [])), (1, [], [], ((0, 1), [(4, 0, 1), (10, 1, 0)])), (2, [4, 0, 0], [[], [], [], [1]], ((0, 0), [])), (2, [2, 1, 1], [[1], [0, 1]], ((0, 0), [])), (3, [], [], ((0, 0), [])), (0, [1], [[1, 0, 0, 0, 0, 0, 0, 0, 0, 0, 1]], ((0, 0), [])), (0, [2], [[1, 0, 0, 1]], ((0, 0), [])), (0, [3], [[1, 0, 0, 0, 1]], ((0, 0), [])), (0, [4], [[1, 0, 0, 0, 0, 0, 0, 0, 0, 0, 0, 1], [0, 1, 0, 1, 0, 0, 0, 0, 0, 1], [0, 0, 1, 0, 1]], ((0, 0), [])), (0, [5], [[1], [0, 1, 0, 1, 0, 0, 0, 0, 0, 1], [0, 0, 1, 0, 1]], ((0, 0), [])), (1, [], [], ((0, 1), [(4, 1, 0), (10, 0, 1)])), (2, [3, 0, 0], [[], [], [], [1]], ((0, 0), [])), (2, [2, 1, 1], [[1], [0, 1]], ((0, 0), [])), (3, [], [], ((0, 0), [])), (0, [1], [[1, 0, 0, 0, 0, 0, 0, 0, 0, 0, 0, 1]], ((0, 0), [])), (0, [2], [[1, 0, 0, 1]], ((0, 0), [])), (0, [3], [[1, 0, 0, 0, 1]], ((0, 0), [])), (0, [4], [[1, 0, 0, 0, 0, 0, 0, 0, 0, 0, 0, 0, 1], [0, 1, 0, 1, 0, 0, 0, 0, 0, 0, 1], [0, 0, 1, 0, 1]], ((0, 0), [])), (0, [5], [[1], [0, 1, 0, 1, 0, 0, 0, 0, 0, 0, 1], [0, 0, 1, 0, 1]], ((0, 0), [])), (2, [1, 0, 3], [[1], [0, 1]], ((0, 0), [])), (2, [2, 3, 1], [[0, 1, 0, 0, 0, 0, 0, 0, 0, 0, 1], [1, 0, 0, 0, 0, 0, 0, 0, 0, 0, 0, 1]], ((0, 0), [])), (3, [], [], ((0, 0), [])), (0, [1], [[1, 0, 0, 0, 0, 0, 0, 0, 0, 0, 0, 1]], ((0, 0), [])), (1, [], [], ((0, 1), [(7, 0, 1), (11, 1, 0)])), (0, [2], [[600, 0, 0, 0, 0, 1, 0, 0, 0, 0, 0, 0, 0, 0, 0, 0, 0, 1]], ((0, 0), [])), (1, [], [], ((0, 1), [(7, 1, 0), (11, 0, 1)])), (0, [3], [[600, 0, 0, 0, 0, 1, 0, 0, 0, 0, 0, 0, 0, 0, 0, 0, 0, 1]], ((0, 0), [])), (2, [2, 4, 2], [[0, 1], [1]], ((0, 0), [])), (0, [4], [[0, 0, 0, 1, 0, 0, 0, 0, 0, 0, 0, 0, 0, 0, 1, 0, 0, 0, 0, 0, 0, 0, 0, 0, 1], [0, 1, 0, 0, 0, 1, 0, 0, 0, 0, 0, 0, 0, 0, 0, 0, 0, 0, 0, 0, 0, 1], [0, 0, 0, 0, 0, 0, 1, 0, 0, 0, 0, 0, 0, 0, 0, 0, 0, 0, 0, 0, 0, 0, 1]], ((0, 0), [])), (1, [], [], ((0, 1), [(7, 0, 1), (11, 1, 0)])), (0, [2], [[600, 0, 0, 0, 0, 1, 0, 0, 0, 0, 0, 0, 0, 0, 0, 0, 0, 1]], ((0, 0), [])), (1, [], [], ((0, 1), [(7, 1, 0), (11, 0, 1)])), (0, [3], [[600, 0, 0, 0, 0, 1, 0, 0, 0, 0, 0, 0, 0, 0, 0, 0, 0, 1]], ((0, 0), [])), (2, [2, 4, 2], [[0, 1], [1]], ((0, 0), [])), (0, [4], [[0, 0, 0, 1, 0, 0, 0, 0, 0, 0, 0, 0, 0, 0, 1, 0, 0, 0, 0, 0, 0, 0, 0, 0, 1], [0, 1, 0, 0, 0, 1, 0, 0, 0, 0, 0, 0, 0, 0, 0, 0, 0, 0, 0, 0, 0, 1], [0, 0, 0, 0, 0, 0, 1, 0, 0, 0, 0, 0, 0, 0, 0, 0, 0, 0, 0, 0, 0, 0, 1]], ((0, 0), [])), (1, [], [], ((0, 1), [(7, 0, 1), (11, 1, 0)])), (0, [2], [[600, 0, 0, 0, 0, 0, 0, 1, 0, 0, 0, 0, 0, 0, 0, 0, 0, 0, 0, 1]], ((0, 0), [])), (1, [], [], ((0, 1), [(7, 1, 0), (11, 0, 1)])), (0, [3], [[600, 0, 0, 0, 0, 0, 0, 1, 0, 0, 0, 0, 0, 0, 0, 0, 0, 0, 0, 1]], ((0, 0), [])), (2, [2, 4, 2], [[0, 1], [1]], ((0, 0), [])), (0, [4], [[0, 0, 0, 0, 1, 0, 0, 0, 0, 0, 0, 0, 0, 0, 0, 0, 1], [99999, 100000, 0, 0, 0, 0, 0, 1, 0, 0, 0, 0, 0, 0, 0, 0, 0, 0, 0, 0, 0, 0, 0, 1], [0, 0, 0, 0, 0, 0, 0, 0, 1, 0, 0, 0, 0, 0, 0, 0, 0, 0, 0, 0, 0, 0, 0, 0, 1]], ((0, 0), [])), (1, [], [], ((0, 1), [(7, 0, 1), (11, 1, 0)])), (0, [2], [[600, 0, 0, 0, 0, 0, 0, 1, 0, 0, 0, 0, 0, 0, 0, 0, 0, 0, 0, 1]], ((0, 0), [])), (1, [], [], ((0, 1), [(7, 1, 0), (11, 0, 1)])), (0, [3], [[600, 0, 0, 0, 0, 0, 0, 1, 0, 0, 0, 0, 0, 0, 0, 0, 0, 0, 0, 1]], ((0, 0), [])), (2, [2, 4, 2], [[0, 1], [1]], ((0, 0), [])), (0, [4], [[0, 0, 0, 1, 0, 0, 0, 0, 0, 0, 0, 0, 0, 0, 0, 0, 1, 0, 0, 0, 0, 0, 0, 0, 0, 0, 1], [99999, 100000, 0, 0, 0, 0, 0, 1, 0, 0, 0, 0, 0, 0, 0, 0, 0, 0, 0, 0, 0, 0, 0, 1], [0, 0, 0, 0, 0, 0, 0, 0, 1, 0, 0, 0, 0, 0, 0, 0, 0, 0, 0, 0, 0, 0, 0, 0, 1]], ((0, 0), []))]) (by decide +kernel)
theorem zx_gv133_ok {PT : Nat → zz_W → Prop} : zx_Vok 64 zHT PT (zu_Vw 315 50 50 [190, 179] [((0, 0), [(0, 1, 0), (2, 0, 1)]), ((0, 0), [(0, 0, 1), (2, 1, 0)]), ((0, 0), [(1, 1, 0), (3, 0, 1)]), ((0, 0), [(1, 0, 1), (3, 1, 0)]), ((1, 0), [(5, 0, 1), (6, 1, 0)]), ((0, 1), [(5, 1, 0), (6, 0, 1)]), ((0, 1), [(5, 1, 0), (7, 0, 600)]), ((600, 0), [(5, 0, 1), (7, 600, 0)]), ((0, 1), [(8, 0, 1), (9, 1, 0)]), ((0, 0), [(8, 1, 0)]), ((0, 1), [(5, 1, 0)]), ((0, 6), [(7, 1, 0)]), ((6, 0), [(7, 0, 1)])]) := zu_Vw_ok (hs := [(2, [2, 2, 2], [[], []], ((0, 0), [])), (1, [], [], ((0, 1), [(4, 0, 1), (10, 1, 0)])), (2, [4, 0, 0], [[], [], [], [1]], ((0, 0), [])), (2, [2, 1, 1], [[1], [0, 1]], ((0, 0), [])), (3, [], [], ((0, 0), [])), (0, [1], [[1, 0, 0, 0, 0, 0, 0, 0, 0, 0, 1]], ((0, 0), [])), (0, [2], [[1, 0, 0, 1]], ((0, 0), [])), (0, [3], [[1, 0, 0, 0, 1]], ((0, 0), [])), (0, [4], [[1, 0, 0, 0, 0, 0, 0, 0, 0, 0, 0, 1], [0, 1, 0, 1, 0, 0, 0, 0, 0, 1, 0, 0, 0, 0, 0, 0, 0, 0, 0, 0, 0, 100000, 100000], [0, 0, 1, 0, 1]], ((0, 0), [])), (0, [5], [[1], [0, 1, 0, 1, 0, 0, 0, 0, 0, 1, 0, 0, 0, 0, 0, 0, 0, 0, 0, 0, 0, 100000, 100000], [0, 0, 1, 0, 1]], ((0, 0), [])), (1, [], [], ((0, 1), [(4, 1, 0), (10, 0, 1)])), (2, [3, 0, 0], [[], [], [], [1]], ((0, 0), [])), (2, [2, 1, 1], [[1], [0, 1]], ((0, 0), [])), (3, [], [], ((0, 0), [])), (0, [1], [[1, 0, 0, 0, 0, 0, 0, 0, 0, 0, 0, 1]], ((0, 0), [])), (0, [2], [[1, 0, 0, 1]], ((0, 0), [])), (0, [3], [[1, 0, 0, 0, 1]], ((0, 0), [])), (0, [4], [[1, 0, 0, 0, 0, 0, 0, 0, 0, 0, 0, 0, 1], [0, 1, 0, 1, 0, 0, 0, 0, 0, 0, 1, 0, 0, 0, 0, 0, 0, 0, 0, 0, 0, 0, 100000, 100000], [0, 0, 1, 0, 1]], ((0, 0), [])), (0, [5], [[1], [0, 1, 0, 1, 0, 0, 0, 0, 0, 0, 1, 0, 0, 0, 0, 0, 0, 0, 0, 0, 0, 0, 100000, 100000], [0, 0, 1, 0, 1]], ((0, 0), [])), (2, [1, 0, 3], [[1], [0, 1]], ((0, 0), [])), (2, [2, 3, 1], [[0, 1, 0, 0, 0, 0, 0, 0, 0, 0, 1], [1, 0, 0, 0, 0, 0, 0, 0, 0, 0, 0, 1]], ((0, 0), [])), (3, [], [], ((0, 0), [])), (0, [1], [[1, 0, 0, 0, 0, 0, 0, 0, 0, 0, 0, 1]], ((0, 0), [])), (1, [], [], ((0, 1), [(7, 1, 0), (11, 0, 1)])), (0, [3], [[600, 0, 0, 0, 1, 0, 0, 0, 0, 0, 0, 0, 0, 0, 0, 0, 1, 0, 0, 0, 0, 100000, 100000]], ((0, 0), [])), (2, [2, 4, 2], [[0, 0, 0, 0, 0, 0, 0, 0, 0, 0, 0, 0, 0, 0, 0, 0, 0, 0, 0, 0, 0, 1], [1]], ((0, 0), [])), (0, [5], [[0, 0, 1, 0, 0, 0, 0, 0, 0, 0, 0, 0, 0, 0, 0, 0, 0, 0, 0, 0, 0, 0, 0, 1], [0, 1, 0, 0, 1, 0, 0, 0, 0, 0, 0, 0, 0, 0, 0, 0, 0, 0, 0, 0, 1, 0, 0, 100000, 100000], [0, 0, 0, 0, 0, 1, 0, 0, 0, 0, 0, 0, 0, 0, 0, 0, 0, 0, 0, 0, 0, 1]], ((0, 0), [])), (1, [], [], ((0, 1), [(7, 1, 0), (11, 0, 1)])), (0, [3], [[600, 0, 0, 0, 1, 0, 0, 0, 0, 0, 0, 0, 0, 0, 0, 0, 1, 0, 0, 0, 0, 100000, 100000]], ((0, 0), [])), (2, [2, 4, 2], [[0, 0, 0, 0, 0, 0, 0, 0, 0, 0, 0, 0, 0, 0, 0, 0, 0, 0, 0, 0, 0, 1], [1]], ((0, 0), [])), (0, [5], [[0, 0, 1, 0, 0, 0, 0, 0, 0, 0, 0, 0, 0, 0, 0, 0, 0, 0, 0, 0, 0, 0, 0, 1], [0, 1, 0, 0, 1, 0, 0, 0, 0, 0, 0, 0, 0, 0, 0, 0, 0, 0, 0, 0, 1, 0, 0, 100000, 100000], [0, 0, 0, 0, 0, 1, 0, 0, 0, 0, 0, 0, 0, 0, 0, 0, 0, 0, 0, 0, 0, 1]], ((0, 0), [])), (1, [], [], ((0, 1), [(7, 1, 0), (11, 0, 1)])), (0, [3], [[600, 0, 0, 0, 0, 0, 1, 0, 0, 0, 0, 0, 0, 0, 0, 0, 0, 0, 1, 0, 0, 0, 0, 100000, 100000]], ((0, 0), [])), (2, [2, 4, 2], [[0, 0, 0, 0, 0, 0, 0, 0, 0, 0, 0, 0, 0, 0, 0, 0, 0, 0, 0, 0, 0, 0, 0, 1], [1]], ((0, 0), [])), (0, [4], [[0, 0, 0, 1, 0, 0, 0, 0, 0, 0, 0, 0, 0, 0, 0, 1], [99999, 100000, 100000, 0, 0, 0, 1, 0, 0, 0, 0, 0, 0, 0, 0, 0, 0, 0, 0, 0, 0, 0, 1, 0, 0, 200000, 100000], [0, 0, 0, 0, 0, 0, 0, 1, 0, 0, 0, 0, 0, 0, 0, 0, 0, 0, 0, 0, 0, 0, 0, 1]], ((0, 0), [])), (2, [2, 4, 2], [[0, 0, 0, 0, 0, 0, 0, 0, 0, 0, 0, 0, 0, 0, 0, 0, 0, 0, 0, 0, 0, 0, 1], [1, 0, 0, 0, 0, 0, 0, 0, 0, 0, 0, 0, 0, 0, 0, 0, 0, 0, 0, 0, 0, 0, 0, 1]], ((0, 0), [])), (0, [5], [[0, 0, 1], [99999, 100000, 0, 0, 0, 1, 0, 0, 0, 0, 0, 0, 0, 0, 0, 0, 0, 0, 0, 0, 0, 1, 0, 0, 100000, 100000], [0, 0, 0, 0, 0, 0, 1, 0, 0, 0, 0, 0, 0, 0, 0, 0, 0, 0, 0, 0, 0, 0, 1]], ((0, 0), []))]) (by decide +kernel)
theorem zx_gv134_ok {PT : Nat → zz_W → Prop} : zx_Vok 64 zHT PT (zu_Vw 186 51 51 [] [((0, 0), [(0, 1, 0), (2, 0, 1)]), ((0, 0), [(0, 0, 1), (2, 1, 0)]), ((0, 1), [(1, 0, 1), (3, 1, 0)]), ((1, 0), [(1, 1, 0), (3, 0, 1)]), ((0, 0), [(1, 0, 1), (4, 1, 0)]), ((0, 0), [(1, 1, 0), (4, 0, 1)]), ((0, 0), [(5, 0, 1)])]) := zu_Vw_ok (hs := [(2, [2, 1, 1], [[], []], ((0, 0), [])), (1, [], [], ((0, 1), [(4, 0, 1), (6, 64, 0), (7, 1, 0)])), (0, [1], [[1, 0, 0, 0, 0, 99999, 100000, 1]], ((0, 0), [])), (1, [], [], ((0, 1), [(4, 1, 0), (6, 0, 64), (7, 0, 1)])), (2, [3, 0, 0], [[], [], [], [1]], ((0, 0), [])), (3, [], [], ((0, 0), [])), (0, [0], [[100000, 0, 0, 100000, 0, 0, 0, 0, 0, 0, 0, 0, 100000]], ((0, 0), [])), (0, [2], [[1, 1]], ((0, 0), [])), (0, [3], [[1, 0, 0, 0, 0, 0, 0, 1], [0, 1, 0, 0, 0, 0, 0, 0, 0, 1]], ((0, 0), [])), (0, [4], [[1, 0, 0, 0, 0, 0, 0, 1], [0, 1]], ((0, 0), [])), (2, [1, 0, 2], [[1], [0, 1]], ((0, 0), [])), (0, [2], [[0, 1, 0, 0, 0, 0, 0, 0, 0, 0, 0, 0, 1]], ((0, 0), []))]) (by decide +kernel)
theorem zx_gv135_ok {PT : Nat → zz_W → Prop} : zx_Vok 64 zHT PT (zu_Vw 186 51 51 [179] [((0, 0), [(0, 1, 0), (2, 0, 1)]), ((0, 0), [(0, 0, 1), (2, 1, 0)]), ((0, 0), [(1, 1, 0), (3, 0, 1)]), ((0, 0), [(1, 0, 1), (3, 1, 0)]), ((0, 0), [(4, 1, 0), (6, 0, 64)]), ((63, 0), [(4, 0, 1), (6, 64, 0)]), ((0, 1), [(4, 0, 1), (6, 64, 0), (7, 1, 0)]), ((0, 1), [(0, 1, 0), (6, 0, 1)])]) := zu_Vw_ok (hs := [(2, [2, 1, 1], [[], []], ((0, 0), [])), (1, [], [], ((0, 1), [(4, 0, 1), (8, 64, 0), (9, 1, 0)])), (2, [4, 0, 0], [[], [], [], [1]], ((0, 0), [])), (3, [], [], ((0, 0), [])), (0, [1], [[1, 0, 0, 0, 0, 0, 0, 0, 1]], ((0, 0), [])), (0, [2], [[1, 1]], ((0, 0), [])), (0, [3], [[1, 0, 0, 0, 0, 0, 1], [0, 1, 0, 0, 0, 0, 0, 0, 1]], ((0, 0), [])), (0, [4], [[1, 0, 0, 0, 0, 0, 1], [0, 1]], ((0, 0), [])), (1, [], [], ((0, 1), [(4, 1, 0), (8, 0, 64), (9, 0, 1)])), (2, [3, 0, 0], [[], [], [], [1]], ((0, 0), [])), (3, [], [], ((0, 0), [])), (0, [1], [[1, 0, 0, 0, 0, 0, 0, 0, 0, 1]], ((0, 0), [])), (0, [2], [[1, 1]], ((0, 0), [])), (0, [3], [[1, 0, 0, 0, 0, 0, 0, 1], [0, 1, 0, 0, 0, 0, 0, 0, 0, 1]], ((0, 0), [])), (0, [4], [[1, 0, 0, 0, 0, 0, 0, 1], [0, 1]], ((0, 0), [])), (2, [1, 0, 2], [[1], [0, 1]], ((0, 0), [])), (3, [], [], ((0, 0), [])), (0, [1], [[1, 0, 0, 0, 0, 0, 0, 0, 0, 1]], ((0, 0), [])), (1, [], [], ((0, 1), [(6, 0, 1), (8, 1, 0)])), (0, [0], [[99968, 0, 0, 0, 0, 1562, 0, 0, 0, 0, 0, 0, 0, 1562]], ((0, 0), [])), (1, [], [], ((0, 1), [(6, 1, 0), (8, 0, 1)])), (0, [0], [[99968, 0, 0, 0, 0, 1562, 0, 0, 0, 0, 0, 0, 0, 1562]], ((0, 0), [])), (2, [2, 2, 1], [[0, 1], [1]], ((0, 0), [])), (0, [3], [[0, 1, 64, 0, 0, 0, 0, 0, 1, 0, 0, 0, 0, 0, 0, 0, 0, 1], [0, 0, 0, 1, 0, 0, 0, 0, 0, 0, 0, 0, 1, 0, 0, 0, 0, 0, 1]], ((0, 0), [])), (0, [3], [[1, 0, 0, 0, 0, 0, 0, 1], [0, 1, 0, 0, 0, 0, 0, 0, 0, 1]], ((0, 0), [])), (0, [4], [[1, 0, 0, 0, 0, 0, 0, 1], [0, 1]], ((0, 0), []))]) (by decide +kernel)
theorem zx_gv136_ok {PT : Nat → zz_W → Prop} : zx_Vok 64 zHT PT (zu_Vw 186 51 51 [179] [((0, 0), [(0, 1, 0), (2, 0, 1)]), ((0, 0), [(0, 0, 1), (2, 1, 0)]), ((0, 0), [(1, 1, 0), (3, 0, 1)]), ((0, 0), [(1, 0, 1), (3, 1, 0)]), ((0, 0), [(4, 1, 0), (6, 0, 64)]), ((63, 0), [(4, 0, 1), (6, 64, 0)]), ((0, 1), [(4, 0, 1), (6, 64, 0), (7, 1, 0)]), ((0, 6), [(6, 1, 0)]), ((6, 0), [(6, 0, 1)])]) := zu_Vw_ok (hs := [(2, [2, 1, 1], [[], []], ((0, 0), [])), (1, [], [], ((0, 1), [(4, 0, 1), (8, 64, 0), (9, 1, 0)])), (2, [4, 0, 0], [[], [], [], [1]], ((0, 0), [])), (3, [], [], ((0, 0), [])), (0, [1], [[1, 0, 0, 0, 0, 0, 0, 0, 1]], ((0, 0), [])), (0, [2], [[1, 1]], ((0, 0), [])), (0, [3], [[1, 0, 0, 0, 0, 0, 1], [0, 1, 0, 0, 0, 0, 0, 0, 1]], ((0, 0), [])), (0, [4], [[1, 0, 0, 0, 0, 0, 1], [0, 1]], ((0, 0), [])), (1, [], [], ((0, 1), [(4, 1, 0), (8, 0, 64), (9, 0, 1)])), (2, [3, 0, 0], [[], [], [], [1]], ((0, 0), [])), (3, [], [], ((0, 0), [])), (0, [1], [[1, 0, 0, 0, 0, 0, 0, 0, 0, 1]], ((0, 0), [])), (0, [2], [[1, 1]], ((0, 0), [])), (0, [3], [[1, 0, 0, 0, 0, 0, 0, 1], [0, 1, 0, 0, 0, 0, 0, 0, 0, 1]], ((0, 0), [])), (0, [4], [[1, 0, 0, 0, 0, 0, 0, 1], [0, 1]], ((0, 0), [])), (2, [1, 0, 2], [[1], [0, 1]], ((0, 0), [])), (3, [], [], ((0, 0), [])), (0, [1], [[1, 0, 0, 0, 0, 0, 0, 0, 0, 1]], ((0, 0), [])), (1, [], [], ((0, 1), [(6, 1, 0), (8, 0, 1)])), (0, [0], [[99968, 0, 0, 0, 1562, 0, 0, 0, 0, 0, 0, 0, 1562, 0, 0, 100000, 100000]], ((0, 0), [])), (2, [2, 2, 1], [[0, 0, 0, 0, 0, 0, 0, 0, 0, 0, 0, 0, 0, 0, 0, 1], [1]], ((0, 0), [])), (0, [4], [[0, 1, 100000, 0, 0, 0, 0, 1, 0, 0, 0, 0, 0, 0, 0, 0, 1, 199936, 100000], [0, 0, 1, 0, 0, 0, 0, 0, 0, 0, 0, 0, 0, 0, 0, 0, 0, 1]], ((0, 0), [])), (0, [3], [[1, 0, 0, 0, 0, 0, 0, 1], [0, 1, 0, 0, 0, 0, 0, 0, 0, 1]], ((0, 0), [])), (0, [4], [[1, 0, 0, 0, 0, 0, 0, 1], [0, 1]], ((0, 0), []))]) (by decide +kernel)
theorem zx_gv250_ok {PT : Nat → zz_W → Prop} : zx_Vok 64 zHT PT (zu_Vw 185 53 53 [182] [((0, 0), [(0, 1, 0), (4, 0, 1)]), ((0, 0), [(0, 0, 1), (4, 1, 0)]), ((0, 0), [(2, 1, 0), (6, 0, 1)]), ((0, 0), [(2, 0, 1), (6, 1, 0)]), ((0, 1), [(1, 0, 1), (5, 1, 0)]), ((1, 0), [(1, 1, 0), (5, 0, 1)]), ((0, 0), [(1, 0, 1), (8, 1, 0)]), ((0, 0), [(1, 1, 0), (8, 0, 1)]), ((0, 0), [(3, 0, 1), (7, 1, 0)]), ((0, 0), [(2, 0, 1), (9, 1, 0)]), ((0, 0), [(8, 0, 1), (10, 1, 0)]), ((0, 0), [(8, 1, 0), (10, 0, 1)]), ((0, 0), [(7, 1, 0), (9, 0, 1), (11, 0, 1)])]) := zu_Vw_ok (hs := [(2, [2, 0, 0], [[], []], ((0, 0), [])), (2, [2, 1, 1], [[], []], ((0, 0), [])), (2, [2, 3, 3], [[], []], ((0, 0), [])), (2, [2, 4, 4], [[], []], ((0, 0), [])), (1, [], [], ((0, 1), [(8, 0, 1), (12, 64, 0), (13, 1, 0)])), (0, [3], [[1, 0, 0, 0, 0, 0, 0, 0, 0, 0, 0, 0, 0, 99999, 100000, 1]], ((0, 0), [])), (1, [], [], ((0, 1), [(8, 1, 0), (12, 0, 64), (13, 0, 1)])), (2, [3, 2, 2], [[], [], [], [1]], ((0, 0), [])), (3, [], [], ((0, 0), [])), (0, [1], [[1, 0, 0, 0, 0, 1]], ((0, 0), [])), (0, [2], [[1, 0, 0, 0, 0, 0, 0, 0, 0, 0, 0, 0, 0, 0, 1], [0, 1]], ((0, 0), [])), (0, [0], [[100000, 0, 0, 100000, 0, 0, 0, 0, 0, 0, 0, 0, 0, 0, 0, 0, 0, 0, 0, 0, 100000]], ((0, 0), [])), (0, [4], [[1, 0, 0, 0, 0, 0, 0, 0, 0, 0, 0, 1]], ((0, 0), [])), (0, [5], [[1, 0, 0, 0, 0, 0, 0, 0, 0, 0, 1]], ((0, 0), [])), (0, [6], [[1, 0, 0, 1, 0, 0, 0, 0, 0, 0, 0, 0, 0, 0, 0, 0, 1], [0, 1, 1, 0, 0, 0, 0, 0, 1, 0, 0, 0, 0, 0, 0, 0, 0, 0, 0, 0, 0, 0, 1]], ((0, 0), [])), (2, [2, 5, 3], [[0, 1, 0, 0, 0, 0, 0, 0, 0, 0, 0, 0, 0, 0, 0, 0, 0, 0, 0, 0, 1], [1, 0, 0, 0, 0, 0, 0, 0, 0, 0, 0, 0, 0, 0, 0, 0, 0, 0, 0, 0, 0, 1]], ((0, 0), [])), (2, [1, 2, 5], [[0, 0, 1], [0, 0, 0, 1]], ((0, 0), [])), (0, [6], [[1, 0, 0, 0, 0, 0, 0, 0, 0, 0, 0, 0, 0, 0, 0, 0, 1, 0, 0, 0, 0, 0, 0, 1], [0, 1, 1, 0, 0, 0, 0, 0, 0, 0, 0, 0, 0, 0, 0, 0, 0, 0, 0, 0, 0, 0, 0, 0, 0, 0, 1]], ((0, 0), []))]) (by decide +kernel)
theorem zx_gv251_ok {PT : Nat → zz_W → Prop} : zx_Vok 64 zHT PT (zu_Vw 185 53 53 [181] [((0, 0), [(0, 1, 0), (4, 0, 1)]), ((0, 0), [(0, 0, 1), (4, 1, 0)]), ((0, 0), [(2, 1, 0), (6, 0, 1)]), ((0, 0), [(2, 0, 1), (6, 1, 0)]), ((0, 0), [(1, 1, 0), (5, 0, 1)]), ((0, 0), [(1, 0, 1), (5, 1, 0)]), ((0, 0), [(3, 1, 0), (7, 0, 1)]), ((0, 0), [(3, 0, 1), (7, 1, 0)]), ((0, 0), [(8, 0, 1), (10, 1, 0)]), ((0, 0), [(8, 1, 0), (10, 0, 1)]), ((0, 1), [(11, 1, 0)])]) := zu_Vw_ok (hs := [(2, [2, 0, 0], [[], []], ((0, 0), [])), (2, [2, 1, 1], [[], []], ((0, 0), [])), (2, [2, 3, 3], [[], []], ((0, 0), [])), (2, [2, 4, 4], [[], []], ((0, 0), [])), (1, [], [], ((0, 1), [(8, 0, 1), (12, 64, 0), (13, 1, 0)])), (2, [4, 2, 2], [[], [], [], [1]], ((0, 0), [])), (3, [], [], ((0, 0), [])), (0, [1], [[1, 0, 0, 0, 1]], ((0, 0), [])), (0, [2], [[1, 0, 0, 0, 0, 0, 0, 0, 0, 0, 0, 0, 0, 1], [0, 1]], ((0, 0), [])), (0, [3], [[1, 0, 0, 0, 0, 0, 0, 0, 0, 0, 0, 0, 0, 0, 0, 0, 1]], ((0, 0), [])), (0, [4], [[1, 0, 0, 0, 0, 0, 0, 0, 0, 0, 1]], ((0, 0), [])), (0, [5], [[1, 0, 0, 0, 0, 0, 0, 0, 0, 1]], ((0, 0), [])), (0, [6], [[1, 0, 0, 1, 0, 0, 0, 0, 0, 0, 0, 0, 0, 0, 0, 1], [0, 1, 1, 0, 0, 0, 0, 1, 0, 0, 0, 0, 0, 0, 0, 0, 0, 0, 0, 99999, 100000]], ((0, 0), [])), (1, [], [], ((0, 1), [(8, 1, 0), (12, 0, 64), (13, 0, 1)])), (2, [3, 2, 2], [[], [], [], [1]], ((0, 0), [])), (3, [], [], ((0, 0), [])), (0, [1], [[1, 0, 0, 0, 0, 1]], ((0, 0), [])), (0, [2], [[1, 0, 0, 0, 0, 0, 0, 0, 0, 0, 0, 0, 0, 0, 1], [0, 1]], ((0, 0), [])), (0, [3], [[1, 0, 0, 0, 0, 0, 0, 0, 0, 0, 0, 0, 0, 0, 0, 0, 0, 1]], ((0, 0), [])), (0, [4], [[1, 0, 0, 0, 0, 0, 0, 0, 0, 0, 0, 1]], ((0, 0), [])), (0, [5], [[1, 0, 0, 0, 0, 0, 0, 0, 0, 0, 1]], ((0, 0), [])), (0, [6], [[1, 0, 0, 1, 0, 0, 0, 0, 0, 0, 0, 0, 0, 0, 0, 0, 1], [0, 1, 1, 0, 0, 0, 0, 0, 1, 0, 0, 0, 0, 0, 0, 0, 0, 0, 0, 0, 99999, 100000]], ((0, 0), [])), (2, [2, 5, 1], [[0, 1, 0, 0, 0, 0, 0, 0, 0, 0, 0, 0, 0, 0, 0, 0, 0, 0, 1], [1, 0, 0, 0, 0, 0, 0, 0, 0, 0, 0, 0, 0, 0, 0, 0, 0, 0, 0, 1]], ((0, 0), [])), (0, [5], [[0, 1, 0, 0, 0, 0, 0, 0, 0, 0, 0, 0, 0, 0, 0, 0, 0, 0, 0, 0, 0, 0, 1]], ((0, 0), []))]) (by decide +kernel)
theorem zx_gv260_ok {PT : Nat → zz_W → Prop} : zx_Vok 64 zHT PT (zu_Vw 185 54 54 [182] [((0, 0), [(0, 1, 0), (4, 0, 1)]), ((0, 0), [(0, 0, 1), (4, 1, 0)]), ((0, 0), [(2, 1, 0), (6, 0, 1)]), ((0, 0), [(2, 0, 1), (6, 1, 0)]), ((0, 1), [(1, 0, 1), (5, 1, 0)]), ((1, 0), [(1, 1, 0), (5, 0, 1)]), ((0, 0), [(1, 0, 1), (8, 1, 0)]), ((0, 0), [(1, 1, 0), (8, 0, 1)]), ((0, 0), [(3, 0, 1), (7, 1, 0)]), ((0, 0), [(2, 0, 1), (9, 1, 0)]), ((0, 0), [(8, 0, 1), (10, 1, 0)]), ((0, 0), [(8, 1, 0), (10, 0, 1)]), ((0, 0), [(7, 1, 0), (9, 0, 1), (11, 0, 1)])]) := zu_Vw_ok (hs := [(2, [2, 0, 0], [[], []], ((0, 0), [])), (2, [2, 1, 1], [[], []], ((0, 0), [])), (2, [2, 3, 3], [[], []], ((0, 0), [])), (2, [2, 4, 4], [[], []], ((0, 0), [])), (1, [], [], ((0, 1), [(8, 0, 1), (12, 64, 0), (13, 1, 0)])), (0, [3], [[1, 0, 0, 0, 0, 0, 0, 0, 0, 0, 0, 0, 0, 99999, 100000, 1]], ((0, 0), [])), (1, [], [], ((0, 1), [(8, 1, 0), (12, 0, 64), (13, 0, 1)])), (2, [3, 2, 2], [[], [], [], [1]], ((0, 0), [])), (3, [], [], ((0, 0), [])), (0, [1], [[1, 0, 0, 0, 0, 1]], ((0, 0), [])), (0, [2], [[1, 0, 0, 0, 0, 0, 0, 0, 0, 0, 0, 0, 0, 0, 1], [0, 1]], ((0, 0), [])), (0, [0], [[100000, 0, 0, 100000, 0, 0, 0, 0, 0, 0, 0, 0, 0, 0, 0, 0, 0, 0, 0, 0, 100000]], ((0, 0), [])), (0, [4], [[1, 0, 0, 0, 0, 0, 0, 0, 0, 0, 0, 1]], ((0, 0), [])), (0, [5], [[1, 0, 0, 0, 0, 0, 0, 0, 0, 1]], ((0, 0), [])), (0, [6], [[1, 0, 0, 1, 0, 0, 0, 0, 0, 0, 0, 0, 0, 0, 0, 0, 1], [0, 1, 1, 0, 0, 0, 0, 0, 1, 0, 0, 0, 0, 0, 0, 0, 0, 0, 0, 0, 0, 0, 1]], ((0, 0), [])), (2, [2, 5, 3], [[0, 1, 0, 0, 0, 0, 0, 0, 0, 0, 0, 0, 0, 0, 0, 0, 0, 0, 0, 0, 1], [1, 0, 0, 0, 0, 0, 0, 0, 0, 0, 0, 0, 0, 0, 0, 0, 0, 0, 0, 0, 0, 1]], ((0, 0), [])), (2, [1, 2, 5], [[0, 0, 1], [0, 0, 0, 1]], ((0, 0), [])), (0, [6], [[1, 0, 0, 0, 0, 0, 0, 0, 0, 0, 0, 0, 0, 0, 0, 0, 1, 0, 0, 0, 0, 0, 0, 1], [0, 1, 1, 0, 0, 0, 0, 0, 0, 0, 0, 0, 0, 0, 0, 0, 0, 0, 0, 0, 0, 0, 0, 0, 0, 0, 1]], ((0, 0), []))]) (by decide +kernel)
theorem zx_gv261_ok {PT : Nat → zz_W → Prop} : zx_Vok 64 zHT PT (zu_Vw 185 54 54 [181] [((0, 0), [(0, 1, 0), (4, 0, 1)]), ((0, 0), [(0, 0, 1), (4, 1, 0)]), ((0, 0), [(2, 1, 0), (6, 0, 1)]), ((0, 0), [(2, 0, 1), (6, 1, 0)]), ((0, 0), [(1, 1, 0), (5, 0, 1)]), ((0, 0), [(1, 0, 1), (5, 1, 0)]), ((0, 0), [(3, 1, 0), (7, 0, 1)]), ((0, 0), [(3, 0, 1), (7, 1, 0)]), ((0, 0), [(8, 0, 1), (10, 1, 0)]), ((0, 0), [(8, 1, 0), (10, 0, 1)]), ((0, 0), [(11, 0, 1)])]) := zu_Vw_ok (hs := [(2, [2, 0, 0], [[], []], ((0, 0), [])), (2, [2, 1, 1], [[], []], ((0, 0), [])), (2, [2, 3, 3], [[], []], ((0, 0), [])), (2, [2, 4, 4], [[], []], ((0, 0), [])), (1, [], [], ((0, 1), [(8, 0, 1), (12, 64, 0), (13, 1, 0)])), (2, [4, 2, 2], [[], [], [], [1]], ((0, 0), [])), (3, [], [], ((0, 0), [])), (0, [1], [[1, 0, 0, 0, 1]], ((0, 0), [])), (0, [2], [[1, 0, 0, 0, 0, 0, 0, 0, 0, 0, 0, 0, 0, 1], [0, 1]], ((0, 0), [])), (0, [3], [[1, 0, 0, 0, 0, 0, 0, 0, 0, 0, 0, 0, 0, 0, 0, 0, 1]], ((0, 0), [])), (0, [4], [[1, 0, 0, 0, 0, 0, 0, 0, 0, 0, 1]], ((0, 0), [])), (0, [5], [[1, 0, 0, 0, 0, 0, 0, 0, 1]], ((0, 0), [])), (0, [6], [[1, 0, 0, 1, 0, 0, 0, 0, 0, 0, 0, 0, 0, 0, 0, 1], [0, 1, 1, 0, 0, 0, 0, 1, 0, 0, 0, 0, 0, 0, 0, 0, 0, 0, 0, 99999, 100000]], ((0, 0), [])), (1, [], [], ((0, 1), [(8, 1, 0), (12, 0, 64), (13, 0, 1)])), (2, [3, 2, 2], [[], [], [], [1]], ((0, 0), [])), (3, [], [], ((0, 0), [])), (0, [1], [[1, 0, 0, 0, 0, 1]], ((0, 0), [])), (0, [2], [[1, 0, 0, 0, 0, 0, 0, 0, 0, 0, 0, 0, 0, 0, 1], [0, 1]], ((0, 0), [])), (0, [3], [[1, 0, 0, 0, 0, 0, 0, 0, 0, 0, 0, 0, 0, 0, 0, 0, 0, 1]], ((0, 0), [])), (0, [4], [[1, 0, 0, 0, 0, 0, 0, 0, 0, 0, 0, 1]], ((0, 0), [])), (0, [5], [[1, 0, 0, 0, 0, 0, 0, 0, 0, 1]], ((0, 0), [])), (0, [6], [[1, 0, 0, 1, 0, 0, 0, 0, 0, 0, 0, 0, 0, 0, 0, 0, 1], [0, 1, 1, 0, 0, 0, 0, 0, 1, 0, 0, 0, 0, 0, 0, 0, 0, 0, 0, 0, 99999, 100000]], ((0, 0), [])), (2, [2, 5, 1], [[0, 1, 0, 0, 0, 0, 0, 0, 0, 0, 0, 0, 0, 0, 0, 0, 0, 0, 1], [1, 0, 0, 0, 0, 0, 0, 0, 0, 0, 0, 0, 0, 0, 0, 0, 0, 0, 0, 1]], ((0, 0), [])), (0, [5], [[1, 0, 0, 0, 0, 0, 0, 0, 0, 0, 0, 0, 0, 0, 0, 0, 0, 0, 0, 0, 0, 0, 1]], ((0, 0), []))]) (by decide +kernel)
theorem zx_gv300_ok {PT : Nat → zz_W → Prop} : zx_Vok 64 zHT PT (zu_Vw 10 60 60 [11] [((0, 0), [(0, 1, 0), (3, 0, 1)]), ((0, 0), [(0, 0, 1), (3, 1, 0)]), ((0, 0), [(2, 1, 0), (5, 0, 1)]), ((0, 0), [(2, 0, 1), (5, 1, 0)]), ((0, 1), [(1, 0, 1), (4, 1, 0)]), ((1, 0), [(1, 1, 0), (4, 0, 1)]), ((0, 0), [(7, 0, 1)]), ((0, 0), [(1, 0, 1), (8, 1, 0)]), ((0, 0), [(1, 1, 0), (8, 0, 1)]), ((0, 0), [(6, 0, 1), (9, 1, 0)]), ((0, 0), [(6, 1, 0), (9, 0, 1)])]) := zu_Vw_ok (hs := [(1, [], [], ((0, 1), [(6, 0, 1), (10, 1, 0)])), (2, [4, 0, 0], [[], [], [], [1]], ((0, 0), [])), (2, [2, 1, 1], [[1], [0, 1]], ((0, 0), [])), (3, [], [], ((0, 0), [])), (0, [1], [[1, 0, 0, 1]], ((0, 0), [])), (0, [2], [[1, 0, 0, 0, 0, 0, 0, 0, 1], [0, 1, 0, 0, 0, 0, 0, 1, 0, 0, 99999, 100000], [0, 0, 1, 0, 0, 0, 0, 1, 0, 0, 0, 0, 99999, 100000], [0, 0, 0, 1, 0, 0, 1], [0, 0, 0, 0, 1, 1]], ((0, 0), [])), (1, [], [], ((0, 2), [(1, 0, 1), (11, 1, 0)])), (0, [3], [[0, 1, 0, 0, 0, 0, 0, 0, 0, 1], [1, 0, 0, 0, 0, 0, 0, 0, 0, 1, 0, 0, 0, 0, 0, 99999, 100000], [0, 0, 0, 1, 0, 0, 0, 0, 1, 0, 0, 0, 0, 0, 1], [0, 0, 0, 0, 1, 0, 0, 1], [0, 0, 0, 0, 0, 1, 1]], ((0, 0), [])), (2, [2, 2, 1], [[1, 0, 0, 0, 0, 0, 0, 0, 1, 0, 0, 0, 0, 0, 0, 0, 0, 0, 1], [0, 0, 1, 0, 0, 0, 0, 0, 0, 1, 0, 0, 0, 0, 0, 0, 0, 0, 99999, 100000]], ((0, 0), [])), (0, [0], [[100000, 0, 0, 0, 0, 0, 100000, 0, 0, 100000, 0, 0, 100000, 0, 0, 0, 0, 0, 0, 0, 0, 0, 0, 100000]], ((0, 0), [])), (1, [], [], ((0, 1), [(6, 1, 0), (10, 0, 1)])), (2, [3, 0, 0], [[], [], [], [1]], ((0, 0), [])), (2, [2, 1, 1], [[1], [0, 1]], ((0, 0), [])), (3, [], [], ((0, 0), [])), (0, [1], [[1, 0, 0, 1]], ((0, 0), [])), (0, [2], [[1, 0, 0, 0, 0, 0, 0, 0, 1], [0, 1, 0, 0, 0, 0, 0, 1, 0, 0, 0, 99999, 100000], [0, 0, 1, 0, 0, 0, 0, 1, 0, 0, 0, 0, 0, 99999, 100000], [0, 0, 0, 1, 0, 0, 1], [0, 0, 0, 0, 1, 1]], ((0, 0), [])), (1, [], [], ((0, 2), [(1, 0, 1), (11, 1, 0)])), (0, [3], [[0, 1, 0, 0, 0, 0, 0, 0, 0, 1], [1, 0, 0, 0, 0, 0, 0, 0, 0, 1, 0, 0, 0, 0, 0, 0, 99999, 100000], [0, 0, 0, 1, 0, 0, 0, 0, 1, 0, 0, 0, 0, 0, 0, 1], [0, 0, 0, 0, 1, 0, 0, 1], [0, 0, 0, 0, 0, 1, 1]], ((0, 0), [])), (2, [2, 2, 1], [[1, 0, 0, 0, 0, 0, 0, 0, 1, 0, 0, 0, 0, 0, 0, 0, 0, 0, 0, 1], [0, 0, 1, 0, 0, 0, 0, 0, 0, 1, 0, 0, 0, 0, 0, 0, 0, 0, 0, 99999, 100000]], ((0, 0), [])), (0, [0], [[0, 100000, 0, 0, 0, 0, 0, 100000, 100000, 0, 0, 0, 100000, 0, 0, 0, 0, 0, 0, 0, 0, 0, 0, 100000]], ((0, 0), [])), (2, [1, 0, 2], [[1], [0, 1]], ((0, 0), [])), (0, [1], [[0, 1, 0, 0, 0, 0, 0, 0, 0, 0, 1]], ((0, 0), []))]) (by decide +kernel)
theorem zx_gv301_ok {PT : Nat → zz_W → Prop} : zx_Vok 64 zHT PT (zu_Vw 10 61 61 [] [((0, 0), [(0, 1, 0), (2, 0, 1)]), ((0, 0), [(0, 0, 1), (2, 1, 0)]), ((0, 8192), [(1, 1, 0)]), ((0, 0), [(3, 1, 0), (4, 0, 1)]), ((0, 0), [(3, 0, 1), (4, 1, 0)])]) := zu_Vw_ok (hs := [(1, [], [], ((0, 1), [(4, 0, 1), (6, 1, 0)])), (2, [4, 0, 0], [[], [], [], [1]], ((0, 0), [])), (2, [2, 1, 1], [[1], [0, 1]], ((0, 0), [])), (3, [], [], ((0, 0), [])), (0, [0], [[1, 0, 0, 0, 0, 0, 0, 0, 0, 1]], ((0, 0), [])), (0, [2], [[1, 0, 0, 1]], ((0, 0), [])), (0, [3], [[1, 0, 0, 0, 0, 0, 1, 0, 0, 99999, 100000], [0, 1, 0, 0, 0, 0, 0, 1], [0, 0, 1, 0, 0, 1], [0, 0, 0, 1, 1]], ((0, 0), [])), (1, [], [], ((0, 1), [(4, 1, 0), (6, 0, 1)])), (2, [3, 0, 0], [[], [], [], [1]], ((0, 0), [])), (2, [2, 1, 1], [[1], [0, 1]], ((0, 0), [])), (3, [], [], ((0, 0), [])), (0, [0], [[1, 0, 0, 0, 0, 0, 0, 0, 0, 0, 1]], ((0, 0), [])), (0, [2], [[1, 0, 0, 1]], ((0, 0), [])), (0, [3], [[1, 0, 0, 0, 0, 0, 1, 0, 0, 0, 99999, 100000], [0, 1, 0, 0, 0, 0, 0, 1], [0, 0, 1, 0, 0, 1], [0, 0, 0, 1, 1]], ((0, 0), [])), (0, [1], [[1, 0, 0, 0, 0, 0, 1], [0, 1, 0, 0, 0, 1]], ((0, 0), []))]) (by decide +kernel)
theorem zx_gv302_ok {PT : Nat → zz_W → Prop} : zx_Vok 64 zHT PT (zu_Vw 11 61 61 [10] [((0, 0), [(0, 0, 1), (4, 1, 0)]), ((0, 0), [(0, 1, 0), (4, 0, 1)]), ((0, 0), [(1, 0, 1), (5, 1, 0)]), ((0, 0), [(1, 1, 0), (5, 0, 1)]), ((0, 0), [(1, 0, 1), (6, 1, 0)]), ((0, 0), [(1, 1, 0), (6, 0, 1)]), ((0, 1), [(0, 0, 1), (7, 1, 0)]), ((1, 0), [(0, 1, 0), (7, 0, 1)]), ((0, 1), [(0, 0, 1), (2, 1, 0)]), ((1, 0), [(0, 1, 0), (2, 0, 1)])]) := zu_Vw_ok (hs := [(2, [2, 0, 0], [[], []], ((0, 0), [])), (1, [], [], ((0, 2), [(4, 0, 1), (11, 1, 0)])), (2, [4, 1, 1], [[0, 1], [0, 0, 1], [1, 1], [1, 1]], ((0, 0), [])), (3, [], [], ((0, 0), [])), (2, [2, 2, 0], [[0, 1, 0, 0, 0, 0, 0, 0, 0, 0, 0, 1], [1, 0, 0, 0, 0, 0, 0, 0, 0, 0, 0, 0, 1]], ((0, 0), [])), (0, [0], [[100000, 0, 0, 0, 0, 0, 100000, 0, 0, 100000, 0, 0, 0, 0, 0, 0, 100000]], ((0, 0), [])), (0, [0], [[1, 0, 0, 1, 1]], ((0, 0), [])), (0, [0], [[100000, 0, 0, 0, 0, 0, 100000, 100000, 0, 100000]], ((0, 0), [])), (1, [], [], ((0, 0), [(4, 1, 0), (11, 0, 1)])), (3, [], [], ((0, 0), [])), (2, [2, 2, 0], [[0, 1, 0, 0, 0, 0, 0, 0, 0, 0, 1], [1, 0, 0, 0, 0, 0, 0, 0, 0, 0, 0, 1]], ((0, 0), [])), (0, [0], [[0, 100000, 0, 0, 100000, 0, 0, 0, 0, 100000, 0, 0, 0, 0, 100000]], ((0, 0), [])), (0, [2], [[1, 0, 0, 1]], ((0, 0), [])), (2, [3, 1, 1], [[0, 0, 0, 0, 0, 0, 1], [0, 0, 0, 0, 0, 0, 0, 1], [0, 1], [1, 0, 0, 0, 0, 0, 0, 0, 1]], ((0, 0), [])), (0, [3], [[0, 0, 1, 0, 0, 0, 0, 0, 1, 0, 0, 0, 0, 0, 0, 0, 0, 0, 1], [0, 0, 0, 1, 0, 0, 0, 0, 0, 1], [0, 1, 0, 0, 1], [1, 0, 0, 0, 0, 1]], ((0, 0), [])), (2, [1, 1, 2], [[1], [0, 1]], ((0, 0), [])), (3, [], [], ((0, 0), [])), (0, [3], [[0, 0, 0, 0, 0, 1, 0, 0, 99999, 100000, 0, 0, 0, 0, 0, 0, 1], [0, 0, 0, 0, 1], [0, 1, 1, 0, 0, 0, 0, 0, 0, 0, 1], [1, 0, 0, 1, 0, 0, 0, 0, 0, 0, 0, 1]], ((0, 0), [])), (0, [0], [[1, 0, 0, 1, 0, 1]], ((0, 0), [])), (0, [0], [[100000, 0, 0, 0, 0, 0, 100000, 0, 100000, 0, 100000]], ((0, 0), []))]) (by decide +kernel)
theorem zx_gv303_ok {PT : Nat → zz_W → Prop} : zx_Vok 64 zHT PT (zu_Vw 34 66 66 [] [((0, 0), [(0, 1, 0), (2, 0, 1)]), ((0, 0), [(0, 0, 1), (2, 1, 0)]), ((0, 0), [(1, 1, 0), (3, 0, 1)]), ((0, 0), [(1, 0, 1), (3, 1, 0)]), ((5, 0), [(0, 0, 8), (4, 1, 0)])]) := zu_Vw_ok (hs := [(1, [], [], ((0, 1), [(4, 0, 1), (6, 8, 0)])), (2, [4, 0, 0], [[], [], [], [1]], ((0, 0), [])), (2, [4, 1, 1], [[], [], [], [0, 0, 1]], ((0, 0), [])), (2, [4, 2, 2], [[], [], [], [0, 0, 0, 0, 1]], ((0, 0), [])), (3, [], [], ((0, 0), [])), (0, [1], [[1, 0, 0, 0, 0, 0, 0, 0, 1]], ((0, 0), [])), (0, [2], [[1, 0, 0, 0, 0, 0, 0, 1, 0, 0, 0, 0, 99999, 100000], [0, 1, 0, 0, 0, 1, 0, 0, 0, 0, 0, 0, 99999, 100000], [0, 0, 1, 1, 0, 0, 0, 0, 0, 0, 0, 0, 99999, 100000]], ((0, 0), [])), (1, [], [], ((0, 1), [(4, 1, 0), (6, 0, 8)])), (2, [3, 0, 0], [[], [], [], [1]], ((0, 0), [])), (1, [], [], ((0, 2), [(4, 1, 0), (6, 0, 8)])), (2, [3, 1, 1], [[], [], [], [1]], ((0, 0), [])), (1, [], [], ((0, 3), [(4, 1, 0), (6, 0, 8)])), (2, [3, 2, 2], [[], [], [], [1]], ((0, 0), [])), (3, [], [], ((0, 0), [])), (0, [1], [[1, 0, 0, 0, 0, 0, 0, 0, 0, 0, 0, 1]], ((0, 0), [])), (0, [2], [[1, 0, 0, 0, 0, 0, 0, 0, 0, 1, 0, 0, 0, 0, 0, 99999, 100000], [0, 1, 0, 0, 0, 0, 1, 0, 0, 0, 0, 0, 0, 0, 0, 99999, 100000], [0, 0, 1, 1, 0, 0, 0, 0, 0, 0, 0, 0, 0, 0, 0, 99999, 100000]], ((0, 0), [])), (2, [1, 2, 3], [[1], [0, 0, 0, 1]], ((0, 0), [])), (3, [], [], ((0, 0), [])), (0, [1], [[1, 0, 0, 0, 0, 0, 0, 0, 0, 0, 0, 1]], ((0, 0), [])), (1, [], [], ((0, 0), [(0, 0, 1), (6, 1, 0)])), (0, [1], [[1, 0, 0, 0, 0, 0, 0, 0, 0, 0, 0, 0, 0, 0, 1]], ((0, 0), [])), (0, [0], [[100000, 0, 0, 0, 0, 0, 12500, 0, 0, 0, 0, 0, 0, 0, 0, 0, 0, 0, 12500]], ((0, 0), [])), (2, [4, 2, 2], [[], [], [], [1]], ((0, 0), [])), (2, [1, 1, 3], [[0, 0, 1], [0, 0, 0, 0, 0, 1]], ((0, 0), [])), (3, [], [], ((0, 0), [])), (0, [1], [[1, 0, 0, 0, 0, 0, 0, 0, 0, 0, 1]], ((0, 0), [])), (1, [], [], ((0, 0), [(0, 0, 1), (6, 1, 0)])), (0, [1], [[1, 0, 0, 0, 0, 0, 0, 0, 0, 0, 0, 0, 0, 1]], ((0, 0), [])), (0, [0], [[100000, 0, 0, 0, 0, 0, 0, 0, 12500, 0, 0, 0, 0, 0, 0, 0, 0, 12500]], ((0, 0), [])), (2, [4, 1, 1], [[], [], [], [1]], ((0, 0), [])), (2, [4, 2, 2], [[], [], [], [0, 0, 1]], ((0, 0), [])), (2, [1, 0, 3], [[0, 0, 0, 0, 1], [0, 0, 0, 0, 0, 1]], ((0, 0), [])), (3, [], [], ((0, 0), [])), (0, [1], [[1, 0, 0, 0, 0, 0, 0, 0, 0, 1]], ((0, 0), [])), (1, [], [], ((0, 0), [(0, 0, 1), (6, 1, 0)])), (0, [1], [[1, 0, 0, 0, 0, 0, 0, 0, 0, 0, 0, 0, 1]], ((0, 0), [])), (0, [0], [[100000, 0, 0, 0, 0, 0, 0, 0, 0, 0, 12500, 0, 0, 0, 0, 0, 12500]], ((0, 0), []))]) (by decide +kernel)
theorem zx_gv304_ok {PT : Nat → zz_W → Prop} : zx_Vok 64 zHT PT (zu_Vw 34 66 66 [] [((0, 0), [(0, 1, 0), (2, 0, 1)]), ((0, 0), [(0, 0, 1), (2, 1, 0)]), ((0, 0), [(1, 1, 0), (3, 0, 1)]), ((0, 0), [(1, 0, 1), (3, 1, 0)]), ((0, 0), [(1, 1, 0), (5, 0, 1)])]) := zu_Vw_ok (hs := [(1, [], [], ((0, 1), [(4, 0, 1), (6, 8, 0)])), (2, [4, 0, 0], [[], [], [], [1]], ((0, 0), [])), (2, [4, 1, 1], [[], [], [], [0, 0, 1]], ((0, 0), [])), (2, [4, 2, 2], [[], [], [], [0, 0, 0, 0, 1]], ((0, 0), [])), (3, [], [], ((0, 0), [])), (0, [1], [[1, 0, 0, 0, 0, 0, 0, 0, 1]], ((0, 0), [])), (0, [2], [[1, 0, 0, 0, 0, 0, 0, 1, 0, 0, 0, 0, 99999, 100000], [0, 1, 0, 0, 0, 1, 0, 0, 0, 0, 0, 0, 99999, 100000], [0, 0, 1, 1, 0, 0, 0, 0, 0, 0, 0, 0, 99999, 100000]], ((0, 0), [])), (1, [], [], ((0, 1), [(4, 1, 0), (6, 0, 8)])), (2, [3, 0, 0], [[], [], [], [1]], ((0, 0), [])), (1, [], [], ((0, 2), [(4, 1, 0), (6, 0, 8)])), (2, [3, 1, 1], [[], [], [], [1]], ((0, 0), [])), (1, [], [], ((0, 3), [(4, 1, 0), (6, 0, 8)])), (2, [3, 2, 2], [[], [], [], [1]], ((0, 0), [])), (3, [], [], ((0, 0), [])), (0, [1], [[1, 0, 0, 0, 0, 0, 0, 0, 0, 0, 0, 1]], ((0, 0), [])), (0, [2], [[1, 0, 0, 0, 0, 0, 0, 0, 0, 1, 0, 0, 0, 0, 0, 99999, 100000], [0, 1, 0, 0, 0, 0, 1, 0, 0, 0, 0, 0, 0, 0, 0, 99999, 100000], [0, 0, 1, 1, 0, 0, 0, 0, 0, 0, 0, 0, 0, 0, 0, 99999, 100000]], ((0, 0), [])), (2, [1, 2, 3], [[1], [0, 0, 0, 1]], ((0, 0), [])), (3, [], [], ((0, 0), [])), (0, [1], [[1, 0, 0, 0, 0, 0, 0, 0, 0, 0, 0, 1]], ((0, 0), [])), (0, [2], [[1, 0, 0, 0, 0, 0, 0, 0, 0, 1, 0, 0, 0, 0, 0, 99999, 100000], [0, 1, 0, 0, 0, 0, 1, 0, 0, 0, 0, 0, 0, 0, 0, 99999, 100000], [0, 0, 0, 0, 1, 0, 0, 0, 0, 0, 0, 0, 0, 0, 0, 99999, 100000, 1]], ((0, 0), [])), (2, [4, 2, 2], [[], [], [], [1]], ((0, 0), [])), (2, [1, 1, 3], [[0, 0, 1], [0, 0, 0, 0, 0, 1]], ((0, 0), [])), (3, [], [], ((0, 0), [])), (0, [1], [[1, 0, 0, 0, 0, 0, 0, 0, 0, 0, 1]], ((0, 0), [])), (0, [2], [[1, 0, 0, 0, 0, 0, 0, 0, 1, 0, 0, 0, 0, 0, 99999, 100000], [0, 0, 0, 0, 1, 0, 0, 0, 0, 0, 0, 0, 0, 0, 99999, 100000, 1], [0, 0, 1, 0, 0, 1, 0, 0, 0, 0, 0, 0, 0, 0, 99999, 100000]], ((0, 0), [])), (2, [4, 1, 1], [[], [], [], [1]], ((0, 0), [])), (2, [4, 2, 2], [[], [], [], [0, 0, 1]], ((0, 0), [])), (2, [1, 0, 3], [[0, 0, 0, 0, 1], [0, 0, 0, 0, 0, 1]], ((0, 0), [])), (3, [], [], ((0, 0), [])), (0, [1], [[1, 0, 0, 0, 0, 0, 0, 0, 0, 1]], ((0, 0), [])), (0, [2], [[0, 0, 0, 0, 1, 0, 0, 0, 0, 0, 0, 0, 0, 99999, 100000, 1], [0, 1, 0, 0, 0, 0, 0, 1, 0, 0, 0, 0, 0, 99999, 100000], [0, 0, 1, 0, 0, 1, 0, 0, 0, 0, 0, 0, 0, 99999, 100000]], ((0, 0), []))]) (by decide +kernel)
theorem zx_gv305_ok {PT : Nat → zz_W → Prop} : zx_Vok 64 zHT PT (zu_Vw 35 67 67 [] [((0, 0), [(0, 1, 0), (2, 0, 1)]), ((0, 0), [(0, 0, 1), (2, 1, 0)]), ((0, 0), [(1, 1, 0), (3, 0, 1)]), ((0, 0), [(1, 0, 1), (3, 1, 0)]), ((0, 0), [(0, 0, 3), (4, 1, 0)])]) := zu_Vw_ok (hs := [(1, [], [], ((0, 1), [(4, 0, 1), (6, 3, 0)])), (2, [4, 0, 0], [[], [], [], [1]], ((0, 0), [])), (2, [4, 1, 1], [[], [], [], [0, 0, 1]], ((0, 0), [])), (3, [], [], ((0, 0), [])), (0, [1], [[1, 0, 0, 0, 0, 0, 1]], ((0, 0), [])), (0, [2], [[1, 0, 0, 0, 1, 0, 0, 0, 0, 99999, 100000], [0, 1, 1, 0, 0, 0, 0, 0, 0, 99999, 100000]], ((0, 0), [])), (1, [], [], ((0, 1), [(4, 1, 0), (6, 0, 3)])), (2, [3, 0, 0], [[], [], [], [1]], ((0, 0), [])), (1, [], [], ((0, 2), [(4, 1, 0), (6, 0, 3)])), (2, [3, 1, 1], [[], [], [], [1]], ((0, 0), [])), (3, [], [], ((0, 0), [])), (0, [1], [[1, 0, 0, 0, 0, 0, 0, 0, 1]], ((0, 0), [])), (0, [2], [[1, 0, 0, 0, 0, 1, 0, 0, 0, 0, 0, 99999, 100000], [0, 1, 1, 0, 0, 0, 0, 0, 0, 0, 0, 99999, 100000]], ((0, 0), [])), (2, [1, 1, 2], [[1], [0, 0, 0, 1]], ((0, 0), [])), (3, [], [], ((0, 0), [])), (0, [1], [[1, 0, 0, 0, 0, 0, 0, 0, 1]], ((0, 0), [])), (1, [], [], ((0, 0), [(0, 0, 1), (6, 1, 0)])), (0, [1], [[1, 0, 0, 0, 0, 0, 0, 0, 0, 0, 1]], ((0, 0), [])), (0, [0], [[99999, 0, 0, 0, 0, 33333, 0, 0, 0, 0, 0, 0, 0, 0, 33333]], ((0, 0), [])), (2, [4, 1, 1], [[], [], [], [1]], ((0, 0), [])), (2, [1, 0, 2], [[0, 0, 1], [0, 0, 0, 1]], ((0, 0), [])), (3, [], [], ((0, 0), [])), (0, [1], [[1, 0, 0, 0, 0, 0, 0, 1]], ((0, 0), [])), (1, [], [], ((0, 0), [(0, 0, 1), (6, 1, 0)])), (0, [1], [[1, 0, 0, 0, 0, 0, 0, 0, 0, 1]], ((0, 0), [])), (0, [0], [[99999, 0, 0, 0, 0, 0, 0, 33333, 0, 0, 0, 0, 0, 33333]], ((0, 0), []))]) (by decide +kernel)
theorem zx_gv320_ok {PT : Nat → zz_W → Prop} : zx_Vok 64 zHT PT (zu_Vw 7 63 63 [] [((0, 1), [(0, 0, 1), (2, 1, 0)]), ((1, 0), [(0, 1, 0), (2, 0, 1)]), ((0, 0), [(1, 1, 0), (3, 0, 1)]), ((0, 0), [(1, 0, 1), (3, 1, 0)]), ((0, 0), [(0, 0, 1), (4, 1, 0)]), ((0, 0), [(0, 1, 0), (4, 0, 1)]), ((0, 1), [(5, 0, 1)])]) := zu_Vw_ok (hs := [(1, [], [], ((0, 1), [(4, 0, 1), (6, 1, 0)])), (0, [1], [[1, 9999999, 10000000, 0, 0, 1]], ((0, 0), [])), (1, [], [], ((0, 1), [(4, 1, 0), (6, 0, 1)])), (2, [3, 0, 0], [[], [], [], [1]], ((0, 0), [])), (3, [], [], ((0, 0), [])), (0, [0], [[10000000, 0, 0, 10000000, 0, 0, 0, 0, 0, 0, 10000000]], ((0, 0), [])), (0, [2], [[1, 1]], ((0, 0), [])), (0, [3], [[], [0, 1, 0, 0, 0, 0, 0, 0, 0, 0, 1], [0, 0, 1, 0, 0, 1], [0, 0, 0, 1, 1]], ((0, 0), [])), (0, [4], [[1, 0, 0, 0, 0, 0, 0, 0, 0, 0, 0, 1], [0, 1, 0, 0, 0, 0, 0, 0, 0, 0, 1], [0, 0, 1, 0, 0, 1], [0, 0, 0, 1, 1]], ((0, 0), [])), (0, [5], [[1, 0, 0, 0, 0, 0, 0, 0, 0, 0, 0, 1], [0, 1, 0, 0, 0, 0, 0, 0, 0, 0, 1], [0, 0, 1, 0, 0, 1], [0, 0, 0, 1, 1]], ((0, 0), [])), (0, [6], [[1, 0, 0, 0, 0, 0, 0, 0, 0, 0, 0, 1], [0, 1, 0, 0, 0, 0, 0, 0, 0, 0, 1], [0, 0, 1, 0, 0, 1], [0, 0, 0, 1, 1]], ((0, 0), [])), (0, [7], [[1, 0, 0, 0, 0, 0, 0, 0, 0, 0, 0, 1], [0, 1, 0, 0, 0, 0, 0, 0, 0, 0, 1], [0, 0, 1, 0, 0, 1], [0, 0, 0, 1, 1]], ((0, 0), [])), (0, [8], [[1, 0, 0, 0, 0, 0, 0, 0, 0, 0, 0, 1], [0, 1, 0, 0, 0, 0, 0, 0, 0, 0, 1], [0, 0, 1, 0, 0, 1], [0, 0, 0, 1, 1]], ((0, 0), [])), (0, [9], [[1, 0, 0, 0, 0, 0, 0, 0, 0, 0, 0, 1], [0, 1, 0, 0, 0, 0, 0, 0, 0, 0, 1], [0, 0, 1, 0, 0, 1], [0, 0, 0, 1, 1]], ((0, 0), [])), (0, [10], [[1, 0, 0, 0, 0, 0, 0, 0, 0, 0, 0, 1], [0, 1, 0, 0, 0, 0, 0, 0, 0, 0, 1], [0, 0, 1, 0, 0, 1], [0, 0, 0, 1, 1]], ((0, 0), [])), (0, [11], [[1, 0, 0, 0, 0, 0, 0, 0, 0, 0, 0, 1], [0, 1, 0, 0, 0, 0, 0, 0, 0, 0, 1], [0, 0, 1, 0, 0, 1], [0, 0, 0, 1, 1]], ((0, 0), [])), (0, [12], [[1, 0, 0, 0, 0, 0, 0, 0, 0, 0, 0, 1], [0, 1, 0, 0, 0, 0, 0, 0, 0, 0, 1], [0, 0, 1, 0, 0, 1], [0, 0, 0, 1, 1]], ((0, 0), [])), (0, [13], [[1, 0, 0, 0, 0, 0, 0, 0, 0, 0, 0, 1], [0, 1, 0, 0, 0, 0, 0, 0, 0, 0, 1], [0, 0, 1, 0, 0, 1], [0, 0, 0, 1, 1]], ((0, 0), [])), (0, [14], [[1, 0, 0, 0, 0, 0, 0, 0, 0, 0, 0, 1], [0, 1, 0, 0, 0, 0, 0, 0, 0, 0, 1], [0, 0, 1, 0, 0, 1], [0, 0, 0, 1, 1]], ((0, 0), [])), (0, [15], [[1, 0, 0, 0, 0, 0, 0, 0, 0, 0, 0, 1], [0, 1, 0, 0, 0, 0, 0, 0, 0, 0, 1], [0, 0, 1, 0, 0, 1], [0, 0, 0, 1, 1]], ((0, 0), [])), (0, [16], [[1, 0, 0, 0, 0, 0, 0, 0, 0, 0, 0, 1], [0, 1, 0, 0, 0, 0, 0, 0, 0, 0, 1], [0, 0, 1, 0, 0, 1], [0, 0, 0, 1, 1]], ((0, 0), [])), (2, [1, 0, 1], [[1], [0, 1]], ((0, 0), [])), (0, [2], [[0, 1, 0, 0, 0, 0, 0, 0, 0, 0, 1]], ((0, 0), []))]) (by decide +kernel)
theorem zx_gv321_ok {PT : Nat → zz_W → Prop} : zx_Vok 64 zHT PT (zu_Vw 7 63 63 [] [((0, 0), [(0, 1, 0), (2, 0, 1)]), ((0, 0), [(0, 0, 1), (2, 1, 0)]), ((0, 0), [(1, 1, 0)]), ((0, 0), [(1, 0, 1)]), ((0, 0), [(3, 1, 0)]), ((0, 0), [(3, 0, 1)]), ((0, 0), [(5, 1, 0)]), ((599, 0), [(5, 0, 1)])]) := zu_Vw_ok (hs := [(1, [], [], ((0, 1), [(4, 0, 1), (6, 1, 0)])), (2, [4, 0, 0], [[], [], [], [1]], ((0, 0), [])), (3, [], [], ((0, 0), [])), (0, [1], [[1, 0, 0, 0, 1]], ((0, 0), [])), (0, [2], [[1, 1]], ((0, 0), [])), (0, [3], [[], [0, 0, 0, 0, 0, 0, 0, 0, 0, 0, 0, 0, 1], [0, 0, 1, 0, 0, 1], [0, 0, 0, 1, 1]], ((0, 0), [])), (0, [0], [[1, 0, 0, 0, 0, 0, 0, 0, 0, 0, 1]], ((0, 0), [])), (0, [0], [[1, 0, 0, 0, 0, 0, 0, 0, 0, 0, 1]], ((0, 0), [])), (0, [0], [[1, 0, 0, 0, 0, 0, 0, 0, 0, 0, 1]], ((0, 0), [])), (0, [0], [[1, 0, 0, 0, 0, 0, 0, 0, 0, 0, 1]], ((0, 0), [])), (0, [0], [[1, 0, 0, 0, 0, 0, 0, 0, 0, 0, 1]], ((0, 0), [])), (0, [0], [[1, 0, 0, 0, 0, 0, 0, 0, 0, 0, 1]], ((0, 0), [])), (0, [0], [[1, 0, 0, 0, 0, 0, 0, 0, 0, 0, 1]], ((0, 0), [])), (0, [0], [[1, 0, 0, 0, 0, 0, 0, 0, 0, 0, 1]], ((0, 0), [])), (0, [0], [[1, 0, 0, 0, 0, 0, 0, 0, 0, 0, 1]], ((0, 0), [])), (0, [0], [[1, 0, 0, 0, 0, 0, 0, 0, 0, 0, 1]], ((0, 0), [])), (0, [0], [[1, 0, 0, 0, 0, 0, 0, 0, 0, 0, 1]], ((0, 0), [])), (0, [0], [[1, 0, 0, 0, 0, 0, 0, 0, 0, 0, 1]], ((0, 0), [])), (0, [0], [[1, 0, 0, 0, 0, 0, 0, 0, 0, 0, 1]], ((0, 0), [])), (1, [], [], ((0, 1), [(4, 1, 0), (6, 0, 1)])), (2, [3, 0, 0], [[], [], [], [1]], ((0, 0), [])), (3, [], [], ((0, 0), [])), (0, [1], [[1, 0, 0, 0, 0, 1]], ((0, 0), [])), (0, [2], [[1, 1]], ((0, 0), [])), (0, [3], [[], [0, 0, 0, 0, 0, 0, 0, 0, 0, 0, 0, 0, 0, 1], [0, 0, 1, 0, 0, 1], [0, 0, 0, 1, 1]], ((0, 0), [])), (0, [0], [[1, 0, 0, 0, 0, 0, 0, 0, 0, 0, 0, 1]], ((0, 0), [])), (0, [0], [[1, 0, 0, 0, 0, 0, 0, 0, 0, 0, 0, 1]], ((0, 0), [])), (0, [0], [[1, 0, 0, 0, 0, 0, 0, 0, 0, 0, 0, 1]], ((0, 0), [])), (0, [0], [[1, 0, 0, 0, 0, 0, 0, 0, 0, 0, 0, 1]], ((0, 0), [])), (0, [0], [[1, 0, 0, 0, 0, 0, 0, 0, 0, 0, 0, 1]], ((0, 0), [])), (0, [0], [[1, 0, 0, 0, 0, 0, 0, 0, 0, 0, 0, 1]], ((0, 0), [])), (0, [0], [[1, 0, 0, 0, 0, 0, 0, 0, 0, 0, 0, 1]], ((0, 0), [])), (0, [0], [[1, 0, 0, 0, 0, 0, 0, 0, 0, 0, 0, 1]], ((0, 0), [])), (0, [0], [[1, 0, 0, 0, 0, 0, 0, 0, 0, 0, 0, 1]], ((0, 0), [])), (0, [0], [[1, 0, 0, 0, 0, 0, 0, 0, 0, 0, 0, 1]], ((0, 0), [])), (0, [0], [[1, 0, 0, 0, 0, 0, 0, 0, 0, 0, 0, 1]], ((0, 0), [])), (0, [0], [[1, 0, 0, 0, 0, 0, 0, 0, 0, 0, 0, 1]], ((0, 0), [])), (0, [0], [[1, 0, 0, 0, 0, 0, 0, 0, 0, 0, 0, 1]], ((0, 0), [])), (2, [1, 0, 1], [[1], [0, 1]], ((0, 0), [])), (0, [3], [[], [0, 0, 0, 0, 0, 0, 0, 0, 0, 1], [1, 0, 0, 0, 0, 0, 0, 0, 0, 0, 1], [0, 1, 0, 0, 0, 0, 0, 0, 0, 0, 0, 1]], ((0, 0), []))]) (by decide +kernel)
theorem zx_gv322_ok {PT : Nat → zz_W → Prop} : zx_Vok 64 zHT PT (zu_Vw 7 63 63 [] [((0, 0), [(0, 1, 0), (2, 0, 1)]), ((0, 0), [(0, 0, 1), (2, 1, 0)]), ((0, 1), [(1, 1, 0)]), ((1, 0), [(1, 0, 1)]), ((0, 1), [(3, 1, 0)]), ((1, 0), [(3, 0, 1)]), ((0, 0), [(5, 1, 0)]), ((599, 0), [(5, 0, 1)])]) := zu_Vw_ok (hs := [(1, [], [], ((0, 1), [(4, 0, 1), (6, 1, 0)])), (2, [4, 0, 0], [[], [], [], [1]], ((0, 0), [])), (3, [], [], ((0, 0), [])), (0, [1], [[1, 0, 0, 0, 1]], ((0, 0), [])), (0, [2], [[1, 1]], ((0, 0), [])), (0, [0], [[0, 1, 0, 0, 0, 0, 0, 0, 0, 1]], ((0, 0), [])), (0, [4], [[0, 0, 0, 0, 0, 0, 0, 0, 0, 0, 0, 1], [0, 0, 0, 0, 0, 0, 0, 0, 0, 0, 0, 0, 1], [0, 0, 1, 0, 0, 1], [0, 0, 0, 1, 1]], ((0, 0), [])), (0, [5], [[0, 0, 0, 0, 0, 0, 0, 0, 0, 0, 0, 1], [0, 0, 0, 0, 0, 0, 0, 0, 0, 0, 0, 0, 1], [0, 0, 1, 0, 0, 1], [0, 0, 0, 1, 1]], ((0, 0), [])), (0, [6], [[0, 0, 0, 0, 0, 0, 0, 0, 0, 0, 0, 1], [0, 0, 0, 0, 0, 0, 0, 0, 0, 0, 0, 0, 1], [0, 0, 1, 0, 0, 1], [0, 0, 0, 1, 1]], ((0, 0), [])), (0, [7], [[0, 0, 0, 0, 0, 0, 0, 0, 0, 0, 0, 1], [0, 0, 0, 0, 0, 0, 0, 0, 0, 0, 0, 0, 1], [0, 0, 1, 0, 0, 1], [0, 0, 0, 1, 1]], ((0, 0), [])), (0, [8], [[0, 0, 0, 0, 0, 0, 0, 0, 0, 0, 0, 1], [0, 0, 0, 0, 0, 0, 0, 0, 0, 0, 0, 0, 1], [0, 0, 1, 0, 0, 1], [0, 0, 0, 1, 1]], ((0, 0), [])), (0, [9], [[0, 0, 0, 0, 0, 0, 0, 0, 0, 0, 0, 1], [0, 0, 0, 0, 0, 0, 0, 0, 0, 0, 0, 0, 1], [0, 0, 1, 0, 0, 1], [0, 0, 0, 1, 1]], ((0, 0), [])), (0, [10], [[0, 0, 0, 0, 0, 0, 0, 0, 0, 0, 0, 1], [0, 0, 0, 0, 0, 0, 0, 0, 0, 0, 0, 0, 1], [0, 0, 1, 0, 0, 1], [0, 0, 0, 1, 1]], ((0, 0), [])), (0, [0], [[1, 0, 0, 0, 0, 0, 0, 0, 0, 0, 1]], ((0, 0), [])), (0, [0], [[1, 0, 0, 0, 0, 0, 0, 0, 0, 0, 1]], ((0, 0), [])), (0, [0], [[1, 0, 0, 0, 0, 0, 0, 0, 0, 0, 1]], ((0, 0), [])), (0, [0], [[1, 0, 0, 0, 0, 0, 0, 0, 0, 0, 1]], ((0, 0), [])), (0, [0], [[1, 0, 0, 0, 0, 0, 0, 0, 0, 0, 1]], ((0, 0), [])), (0, [0], [[1, 0, 0, 0, 0, 0, 0, 0, 0, 0, 1]], ((0, 0), [])), (1, [], [], ((0, 1), [(4, 1, 0), (6, 0, 1)])), (2, [3, 0, 0], [[], [], [], [1]], ((0, 0), [])), (3, [], [], ((0, 0), [])), (0, [1], [[1, 0, 0, 0, 0, 1]], ((0, 0), [])), (0, [2], [[1, 1]], ((0, 0), [])), (0, [0], [[0, 1, 0, 0, 0, 0, 0, 0, 0, 0, 1]], ((0, 0), [])), (0, [4], [[0, 0, 0, 0, 0, 0, 0, 0, 0, 0, 0, 0, 1], [0, 0, 0, 0, 0, 0, 0, 0, 0, 0, 0, 0, 0, 1], [0, 0, 1, 0, 0, 1], [0, 0, 0, 1, 1]], ((0, 0), [])), (0, [5], [[0, 0, 0, 0, 0, 0, 0, 0, 0, 0, 0, 0, 1], [0, 0, 0, 0, 0, 0, 0, 0, 0, 0, 0, 0, 0, 1], [0, 0, 1, 0, 0, 1], [0, 0, 0, 1, 1]], ((0, 0), [])), (0, [6], [[0, 0, 0, 0, 0, 0, 0, 0, 0, 0, 0, 0, 1], [0, 0, 0, 0, 0, 0, 0, 0, 0, 0, 0, 0, 0, 1], [0, 0, 1, 0, 0, 1], [0, 0, 0, 1, 1]], ((0, 0), [])), (0, [7], [[0, 0, 0, 0, 0, 0, 0, 0, 0, 0, 0, 0, 1], [0, 0, 0, 0, 0, 0, 0, 0, 0, 0, 0, 0, 0, 1], [0, 0, 1, 0, 0, 1], [0, 0, 0, 1, 1]], ((0, 0), [])), (0, [8], [[0, 0, 0, 0, 0, 0, 0, 0, 0, 0, 0, 0, 1], [0, 0, 0, 0, 0, 0, 0, 0, 0, 0, 0, 0, 0, 1], [0, 0, 1, 0, 0, 1], [0, 0, 0, 1, 1]], ((0, 0), [])), (0, [9], [[0, 0, 0, 0, 0, 0, 0, 0, 0, 0, 0, 0, 1], [0, 0, 0, 0, 0, 0, 0, 0, 0, 0, 0, 0, 0, 1], [0, 0, 1, 0, 0, 1], [0, 0, 0, 1, 1]], ((0, 0), [])), (0, [10], [[0, 0, 0, 0, 0, 0, 0, 0, 0, 0, 0, 0, 1], [0, 0, 0, 0, 0, 0, 0, 0, 0, 0, 0, 0, 0, 1], [0, 0, 1, 0, 0, 1], [0, 0, 0, 1, 1]], ((0, 0), [])), (0, [0], [[1, 0, 0, 0, 0, 0, 0, 0, 0, 0, 0, 1]], ((0, 0), [])), (0, [0], [[1, 0, 0, 0, 0, 0, 0, 0, 0, 0, 0, 1]], ((0, 0), [])), (0, [0], [[1, 0, 0, 0, 0, 0, 0, 0, 0, 0, 0, 1]], ((0, 0), [])), (0, [0], [[1, 0, 0, 0, 0, 0, 0, 0, 0, 0, 0, 1]], ((0, 0), [])), (0, [0], [[1, 0, 0, 0, 0, 0, 0, 0, 0, 0, 0, 1]], ((0, 0), [])), (0, [0], [[1, 0, 0, 0, 0, 0, 0, 0, 0, 0, 0, 1]], ((0, 0), [])), (2, [1, 0, 1], [[1], [0, 1]], ((0, 0), [])), (0, [4], [[0, 0, 0, 0, 0, 0, 0, 0, 1], [0, 0, 0, 0, 0, 0, 0, 0, 0, 1], [1, 0, 0, 0, 0, 0, 0, 0, 0, 0, 1], [0, 1, 0, 0, 0, 0, 0, 0, 0, 0, 0, 1]], ((0, 0), []))]) (by decide +kernel)
theorem zx_gv323_ok {PT : Nat → zz_W → Prop} : zx_Vok 64 zHT PT (zu_Vw 7 63 63 [] [((0, 0), [(0, 1, 0), (2, 0, 1)]), ((0, 0), [(0, 0, 1), (2, 1, 0)]), ((0, 1), [(1, 1, 0)]), ((1, 0), [(1, 0, 1)]), ((0, 1), [(3, 1, 0)]), ((1, 0), [(3, 0, 1)]), ((0, 1024), [(5, 1, 0)]), ((1623, 0), [(5, 0, 1)])]) := zu_Vw_ok (hs := [(1, [], [], ((0, 1), [(4, 0, 1), (6, 1, 0)])), (2, [4, 0, 0], [[], [], [], [1]], ((0, 0), [])), (3, [], [], ((0, 0), [])), (0, [1], [[1, 0, 0, 0, 1]], ((0, 0), [])), (0, [2], [[1, 1]], ((0, 0), [])), (0, [0], [[0, 1, 0, 0, 0, 0, 0, 0, 0, 1]], ((0, 0), [])), (0, [4], [[0, 0, 0, 0, 0, 0, 0, 0, 0, 0, 0, 1], [0, 0, 0, 0, 0, 0, 0, 0, 0, 0, 0, 0, 1], [0, 0, 1, 0, 0, 1], [0, 0, 0, 1, 1]], ((0, 0), [])), (0, [5], [[0, 0, 0, 0, 0, 0, 0, 0, 0, 0, 0, 1], [0, 0, 0, 0, 0, 0, 0, 0, 0, 0, 0, 0, 1], [0, 0, 1, 0, 0, 1], [0, 0, 0, 1, 1]], ((0, 0), [])), (0, [6], [[0, 0, 0, 0, 0, 0, 0, 0, 0, 0, 0, 1], [0, 0, 0, 0, 0, 0, 0, 0, 0, 0, 0, 0, 1], [0, 0, 1, 0, 0, 1], [0, 0, 0, 1, 1]], ((0, 0), [])), (0, [7], [[0, 0, 0, 0, 0, 0, 0, 0, 0, 0, 0, 1], [0, 0, 0, 0, 0, 0, 0, 0, 0, 0, 0, 0, 1], [0, 0, 1, 0, 0, 1], [0, 0, 0, 1, 1]], ((0, 0), [])), (0, [8], [[0, 0, 0, 0, 0, 0, 0, 0, 0, 0, 0, 1], [0, 0, 0, 0, 0, 0, 0, 0, 0, 0, 0, 0, 1], [0, 0, 1, 0, 0, 1], [0, 0, 0, 1, 1]], ((0, 0), [])), (0, [9], [[0, 0, 0, 0, 0, 0, 0, 0, 0, 0, 0, 1], [0, 0, 0, 0, 0, 0, 0, 0, 0, 0, 0, 0, 1], [0, 0, 1, 0, 0, 1], [0, 0, 0, 1, 1]], ((0, 0), [])), (0, [10], [[0, 0, 0, 0, 0, 0, 0, 0, 0, 0, 0, 1], [0, 0, 0, 0, 0, 0, 0, 0, 0, 0, 0, 0, 1], [0, 0, 1, 0, 0, 1], [0, 0, 0, 1, 1]], ((0, 0), [])), (0, [0], [[1, 0, 0, 0, 0, 0, 0, 0, 0, 0, 1]], ((0, 0), [])), (0, [0], [[1, 0, 0, 0, 0, 0, 0, 0, 0, 0, 1]], ((0, 0), [])), (0, [0], [[1, 0, 0, 0, 0, 0, 0, 0, 0, 0, 1]], ((0, 0), [])), (0, [0], [[1, 0, 0, 0, 0, 0, 0, 0, 0, 0, 1]], ((0, 0), [])), (0, [0], [[1, 0, 0, 0, 0, 0, 0, 0, 0, 0, 1]], ((0, 0), [])), (0, [0], [[1, 0, 0, 0, 0, 0, 0, 0, 0, 0, 1]], ((0, 0), [])), (1, [], [], ((0, 1), [(4, 1, 0), (6, 0, 1)])), (2, [3, 0, 0], [[], [], [], [1]], ((0, 0), [])), (3, [], [], ((0, 0), [])), (0, [1], [[1, 0, 0, 0, 0, 1]], ((0, 0), [])), (0, [2], [[1, 1]], ((0, 0), [])), (0, [0], [[0, 1, 0, 0, 0, 0, 0, 0, 0, 0, 1]], ((0, 0), [])), (0, [4], [[0, 0, 0, 0, 0, 0, 0, 0, 0, 0, 0, 0, 1], [0, 0, 0, 0, 0, 0, 0, 0, 0, 0, 0, 0, 0, 1], [0, 0, 1, 0, 0, 1], [0, 0, 0, 1, 1]], ((0, 0), [])), (0, [5], [[0, 0, 0, 0, 0, 0, 0, 0, 0, 0, 0, 0, 1], [0, 0, 0, 0, 0, 0, 0, 0, 0, 0, 0, 0, 0, 1], [0, 0, 1, 0, 0, 1], [0, 0, 0, 1, 1]], ((0, 0), [])), (0, [6], [[0, 0, 0, 0, 0, 0, 0, 0, 0, 0, 0, 0, 1], [0, 0, 0, 0, 0, 0, 0, 0, 0, 0, 0, 0, 0, 1], [0, 0, 1, 0, 0, 1], [0, 0, 0, 1, 1]], ((0, 0), [])), (0, [7], [[0, 0, 0, 0, 0, 0, 0, 0, 0, 0, 0, 0, 1], [0, 0, 0, 0, 0, 0, 0, 0, 0, 0, 0, 0, 0, 1], [0, 0, 1, 0, 0, 1], [0, 0, 0, 1, 1]], ((0, 0), [])), (0, [8], [[0, 0, 0, 0, 0, 0, 0, 0, 0, 0, 0, 0, 1], [0, 0, 0, 0, 0, 0, 0, 0, 0, 0, 0, 0, 0, 1], [0, 0, 1, 0, 0, 1], [0, 0, 0, 1, 1]], ((0, 0), [])), (0, [9], [[0, 0, 0, 0, 0, 0, 0, 0, 0, 0, 0, 0, 1], [0, 0, 0, 0, 0, 0, 0, 0, 0, 0, 0, 0, 0, 1], [0, 0, 1, 0, 0, 1], [0, 0, 0, 1, 1]], ((0, 0), [])), (0, [10], [[0, 0, 0, 0, 0, 0, 0, 0, 0, 0, 0, 0, 1], [0, 0, 0, 0, 0, 0, 0, 0, 0, 0, 0, 0, 0, 1], [0, 0, 1, 0, 0, 1], [0, 0, 0, 1, 1]], ((0, 0), [])), (0, [0], [[1, 0, 0, 0, 0, 0, 0, 0, 0, 0, 0, 1]], ((0, 0), [])), (0, [0], [[1, 0, 0, 0, 0, 0, 0, 0, 0, 0, 0, 1]], ((0, 0), [])), (0, [0], [[1, 0, 0, 0, 0, 0, 0, 0, 0, 0, 0, 1]], ((0, 0), [])), (0, [0], [[1, 0, 0, 0, 0, 0, 0, 0, 0, 0, 0, 1]], ((0, 0), [])), (0, [0], [[1, 0, 0, 0, 0, 0, 0, 0, 0, 0, 0, 1]], ((0, 0), [])), (0, [0], [[1, 0, 0, 0, 0, 0, 0, 0, 0, 0, 0, 1]], ((0, 0), [])), (2, [1, 0, 1], [[1], [0, 1]], ((0, 0), [])), (0, [5], [[0, 0, 0, 0, 0, 0, 0, 0, 1], [0, 0, 0, 0, 0, 0, 0, 0, 0, 1], [1, 0, 0, 0, 0, 0, 0, 0, 0, 0, 1], [0, 1, 0, 0, 0, 0, 0, 0, 0, 0, 0, 1]], ((0, 0), []))]) (by decide +kernel)
theorem zx_gv324_ok {PT : Nat → zz_W → Prop} : zx_Vok 64 zHT PT (zu_Vw 7 63 63 [] [((0, 0), [(0, 1, 0), (2, 0, 1)]), ((0, 0), [(0, 0, 1), (2, 1, 0)]), ((0, 1), [(1, 1, 0)]), ((1, 0), [(1, 0, 1)]), ((0, 1), [(3, 1, 0)]), ((1, 0), [(3, 0, 1)]), ((0, 2048), [(5, 1, 0)]), ((2647, 0), [(5, 0, 1)])]) := zu_Vw_ok (hs := [(1, [], [], ((0, 1), [(4, 0, 1), (6, 1, 0)])), (2, [4, 0, 0], [[], [], [], [1]], ((0, 0), [])), (3, [], [], ((0, 0), [])), (0, [1], [[1, 0, 0, 0, 1]], ((0, 0), [])), (0, [2], [[1, 1]], ((0, 0), [])), (0, [0], [[0, 1, 0, 0, 0, 0, 0, 0, 0, 1]], ((0, 0), [])), (0, [4], [[0, 0, 0, 0, 0, 0, 0, 0, 0, 0, 0, 1], [0, 0, 0, 0, 0, 0, 0, 0, 0, 0, 0, 0, 1], [0, 0, 1, 0, 0, 1], [0, 0, 0, 1, 1]], ((0, 0), [])), (0, [5], [[0, 0, 0, 0, 0, 0, 0, 0, 0, 0, 0, 1], [0, 0, 0, 0, 0, 0, 0, 0, 0, 0, 0, 0, 1], [0, 0, 1, 0, 0, 1], [0, 0, 0, 1, 1]], ((0, 0), [])), (0, [6], [[0, 0, 0, 0, 0, 0, 0, 0, 0, 0, 0, 1], [0, 0, 0, 0, 0, 0, 0, 0, 0, 0, 0, 0, 1], [0, 0, 1, 0, 0, 1], [0, 0, 0, 1, 1]], ((0, 0), [])), (0, [7], [[0, 0, 0, 0, 0, 0, 0, 0, 0, 0, 0, 1], [0, 0, 0, 0, 0, 0, 0, 0, 0, 0, 0, 0, 1], [0, 0, 1, 0, 0, 1], [0, 0, 0, 1, 1]], ((0, 0), [])), (0, [8], [[0, 0, 0, 0, 0, 0, 0, 0, 0, 0, 0, 1], [0, 0, 0, 0, 0, 0, 0, 0, 0, 0, 0, 0, 1], [0, 0, 1, 0, 0, 1], [0, 0, 0, 1, 1]], ((0, 0), [])), (0, [9], [[0, 0, 0, 0, 0, 0, 0, 0, 0, 0, 0, 1], [0, 0, 0, 0, 0, 0, 0, 0, 0, 0, 0, 0, 1], [0, 0, 1, 0, 0, 1], [0, 0, 0, 1, 1]], ((0, 0), [])), (0, [10], [[0, 0, 0, 0, 0, 0, 0, 0, 0, 0, 0, 1], [0, 0, 0, 0, 0, 0, 0, 0, 0, 0, 0, 0, 1], [0, 0, 1, 0, 0, 1], [0, 0, 0, 1, 1]], ((0, 0), [])), (0, [0], [[1, 0, 0, 0, 0, 0, 0, 0, 0, 0, 1]], ((0, 0), [])), (0, [0], [[1, 0, 0, 0, 0, 0, 0, 0, 0, 0, 1]], ((0, 0), [])), (0, [0], [[1, 0, 0, 0, 0, 0, 0, 0, 0, 0, 1]], ((0, 0), [])), (0, [0], [[1, 0, 0, 0, 0, 0, 0, 0, 0, 0, 1]], ((0, 0), [])), (0, [0], [[1, 0, 0, 0, 0, 0, 0, 0, 0, 0, 1]], ((0, 0), [])), (0, [0], [[1, 0, 0, 0, 0, 0, 0, 0, 0, 0, 1]], ((0, 0), [])), (1, [], [], ((0, 1), [(4, 1, 0), (6, 0, 1)])), (2, [3, 0, 0], [[], [], [], [1]], ((0, 0), [])), (3, [], [], ((0, 0), [])), (0, [1], [[1, 0, 0, 0, 0, 1]], ((0, 0), [])), (0, [2], [[1, 1]], ((0, 0), [])), (0, [0], [[0, 1, 0, 0, 0, 0, 0, 0, 0, 0, 1]], ((0, 0), [])), (0, [4], [[0, 0, 0, 0, 0, 0, 0, 0, 0, 0, 0, 0, 1], [0, 0, 0, 0, 0, 0, 0, 0, 0, 0, 0, 0, 0, 1], [0, 0, 1, 0, 0, 1], [0, 0, 0, 1, 1]], ((0, 0), [])), (0, [5], [[0, 0, 0, 0, 0, 0, 0, 0, 0, 0, 0, 0, 1], [0, 0, 0, 0, 0, 0, 0, 0, 0, 0, 0, 0, 0, 1], [0, 0, 1, 0, 0, 1], [0, 0, 0, 1, 1]], ((0, 0), [])), (0, [6], [[0, 0, 0, 0, 0, 0, 0, 0, 0, 0, 0, 0, 1], [0, 0, 0, 0, 0, 0, 0, 0, 0, 0, 0, 0, 0, 1], [0, 0, 1, 0, 0, 1], [0, 0, 0, 1, 1]], ((0, 0), [])), (0, [7], [[0, 0, 0, 0, 0, 0, 0, 0, 0, 0, 0, 0, 1], [0, 0, 0, 0, 0, 0, 0, 0, 0, 0, 0, 0, 0, 1], [0, 0, 1, 0, 0, 1], [0, 0, 0, 1, 1]], ((0, 0), [])), (0, [8], [[0, 0, 0, 0, 0, 0, 0, 0, 0, 0, 0, 0, 1], [0, 0, 0, 0, 0, 0, 0, 0, 0, 0, 0, 0, 0, 1], [0, 0, 1, 0, 0, 1], [0, 0, 0, 1, 1]], ((0, 0), [])), (0, [9], [[0, 0, 0, 0, 0, 0, 0, 0, 0, 0, 0, 0, 1], [0, 0, 0, 0, 0, 0, 0, 0, 0, 0, 0, 0, 0, 1], [0, 0, 1, 0, 0, 1], [0, 0, 0, 1, 1]], ((0, 0), [])), (0, [10], [[0, 0, 0, 0, 0, 0, 0, 0, 0, 0, 0, 0, 1], [0, 0, 0, 0, 0, 0, 0, 0, 0, 0, 0, 0, 0, 1], [0, 0, 1, 0, 0, 1], [0, 0, 0, 1, 1]], ((0, 0), [])), (0, [0], [[1, 0, 0, 0, 0, 0, 0, 0, 0, 0, 0, 1]], ((0, 0), [])), (0, [0], [[1, 0, 0, 0, 0, 0, 0, 0, 0, 0, 0, 1]], ((0, 0), [])), (0, [0], [[1, 0, 0, 0, 0, 0, 0, 0, 0, 0, 0, 1]], ((0, 0), [])), (0, [0], [[1, 0, 0, 0, 0, 0, 0, 0, 0, 0, 0, 1]], ((0, 0), [])), (0, [0], [[1, 0, 0, 0, 0, 0, 0, 0, 0, 0, 0, 1]], ((0, 0), [])), (0, [0], [[1, 0, 0, 0, 0, 0, 0, 0, 0, 0, 0, 1]], ((0, 0), [])), (2, [1, 0, 1], [[1], [0, 1]], ((0, 0), [])), (0, [6], [[0, 0, 0, 0, 0, 0, 0, 0, 1], [0, 0, 0, 0, 0, 0, 0, 0, 0, 1], [1, 0, 0, 0, 0, 0, 0, 0, 0, 0, 1], [0, 1, 0, 0, 0, 0, 0, 0, 0, 0, 0, 1]], ((0, 0), []))]) (by decide +kernel)
theorem zx_gv325_ok {PT : Nat → zz_W → Prop} : zx_Vok 64 zHT PT (zu_Vw 7 63 63 [] [((0, 0), [(0, 1, 0), (2, 0, 1)]), ((0, 0), [(0, 0, 1), (2, 1, 0)]), ((0, 1), [(1, 1, 0)]), ((1, 0), [(1, 0, 1)]), ((0, 1), [(3, 1, 0)]), ((1, 0), [(3, 0, 1)]), ((0, 3072), [(5, 1, 0)]), ((3671, 0), [(5, 0, 1)])]) := zu_Vw_ok (hs := [(1, [], [], ((0, 1), [(4, 0, 1), (6, 1, 0)])), (2, [4, 0, 0], [[], [], [], [1]], ((0, 0), [])), (3, [], [], ((0, 0), [])), (0, [1], [[1, 0, 0, 0, 1]], ((0, 0), [])), (0, [2], [[1, 1]], ((0, 0), [])), (0, [0], [[0, 1, 0, 0, 0, 0, 0, 0, 0, 1]], ((0, 0), [])), (0, [4], [[0, 0, 0, 0, 0, 0, 0, 0, 0, 0, 0, 1], [0, 0, 0, 0, 0, 0, 0, 0, 0, 0, 0, 0, 1], [0, 0, 1, 0, 0, 1], [0, 0, 0, 1, 1]], ((0, 0), [])), (0, [5], [[0, 0, 0, 0, 0, 0, 0, 0, 0, 0, 0, 1], [0, 0, 0, 0, 0, 0, 0, 0, 0, 0, 0, 0, 1], [0, 0, 1, 0, 0, 1], [0, 0, 0, 1, 1]], ((0, 0), [])), (0, [6], [[0, 0, 0, 0, 0, 0, 0, 0, 0, 0, 0, 1], [0, 0, 0, 0, 0, 0, 0, 0, 0, 0, 0, 0, 1], [0, 0, 1, 0, 0, 1], [0, 0, 0, 1, 1]], ((0, 0), [])), (0, [7], [[0, 0, 0, 0, 0, 0, 0, 0, 0, 0, 0, 1], [0, 0, 0, 0, 0, 0, 0, 0, 0, 0, 0, 0, 1], [0, 0, 1, 0, 0, 1], [0, 0, 0, 1, 1]], ((0, 0), [])), (0, [8], [[0, 0, 0, 0, 0, 0, 0, 0, 0, 0, 0, 1], [0, 0, 0, 0, 0, 0, 0, 0, 0, 0, 0, 0, 1], [0, 0, 1, 0, 0, 1], [0, 0, 0, 1, 1]], ((0, 0), [])), (0, [9], [[0, 0, 0, 0, 0, 0, 0, 0, 0, 0, 0, 1], [0, 0, 0, 0, 0, 0, 0, 0, 0, 0, 0, 0, 1], [0, 0, 1, 0, 0, 1], [0, 0, 0, 1, 1]], ((0, 0), [])), (0, [10], [[0, 0, 0, 0, 0, 0, 0, 0, 0, 0, 0, 1], [0, 0, 0, 0, 0, 0, 0, 0, 0, 0, 0, 0, 1], [0, 0, 1, 0, 0, 1], [0, 0, 0, 1, 1]], ((0, 0), [])), (0, [0], [[1, 0, 0, 0, 0, 0, 0, 0, 0, 0, 1]], ((0, 0), [])), (0, [0], [[1, 0, 0, 0, 0, 0, 0, 0, 0, 0, 1]], ((0, 0), [])), (0, [0], [[1, 0, 0, 0, 0, 0, 0, 0, 0, 0, 1]], ((0, 0), [])), (0, [0], [[1, 0, 0, 0, 0, 0, 0, 0, 0, 0, 1]], ((0, 0), [])), (0, [0], [[1, 0, 0, 0, 0, 0, 0, 0, 0, 0, 1]], ((0, 0), [])), (0, [0], [[1, 0, 0, 0, 0, 0, 0, 0, 0, 0, 1]], ((0, 0), [])), (1, [], [], ((0, 1), [(4, 1, 0), (6, 0, 1)])), (2, [3, 0, 0], [[], [], [], [1]], ((0, 0), [])), (3, [], [], ((0, 0), [])), (0, [1], [[1, 0, 0, 0, 0, 1]], ((0, 0), [])), (0, [2], [[1, 1]], ((0, 0), [])), (0, [0], [[0, 1, 0, 0, 0, 0, 0, 0, 0, 0, 1]], ((0, 0), [])), (0, [4], [[0, 0, 0, 0, 0, 0, 0, 0, 0, 0, 0, 0, 1], [0, 0, 0, 0, 0, 0, 0, 0, 0, 0, 0, 0, 0, 1], [0, 0, 1, 0, 0, 1], [0, 0, 0, 1, 1]], ((0, 0), [])), (0, [5], [[0, 0, 0, 0, 0, 0, 0, 0, 0, 0, 0, 0, 1], [0, 0, 0, 0, 0, 0, 0, 0, 0, 0, 0, 0, 0, 1], [0, 0, 1, 0, 0, 1], [0, 0, 0, 1, 1]], ((0, 0), [])), (0, [6], [[0, 0, 0, 0, 0, 0, 0, 0, 0, 0, 0, 0, 1], [0, 0, 0, 0, 0, 0, 0, 0, 0, 0, 0, 0, 0, 1], [0, 0, 1, 0, 0, 1], [0, 0, 0, 1, 1]], ((0, 0), [])), (0, [7], [[0, 0, 0, 0, 0, 0, 0, 0, 0, 0, 0, 0, 1], [0, 0, 0, 0, 0, 0, 0, 0, 0, 0, 0, 0, 0, 1], [0, 0, 1, 0, 0, 1], [0, 0, 0, 1, 1]], ((0, 0), [])), (0, [8], [[0, 0, 0, 0, 0, 0, 0, 0, 0, 0, 0, 0, 1], [0, 0, 0, 0, 0, 0, 0, 0, 0, 0, 0, 0, 0, 1], [0, 0, 1, 0, 0, 1], [0, 0, 0, 1, 1]], ((0, 0), [])), (0, [9], [[0, 0, 0, 0, 0, 0, 0, 0, 0, 0, 0, 0, 1], [0, 0, 0, 0, 0, 0, 0, 0, 0, 0, 0, 0, 0, 1], [0, 0, 1, 0, 0, 1], [0, 0, 0, 1, 1]], ((0, 0), [])), (0, [10], [[0, 0, 0, 0, 0, 0, 0, 0, 0, 0, 0, 0, 1], [0, 0, 0, 0, 0, 0, 0, 0, 0, 0, 0, 0, 0, 1], [0, 0, 1, 0, 0, 1], [0, 0, 0, 1, 1]], ((0, 0), [])), (0, [0], [[1, 0, 0, 0, 0, 0, 0, 0, 0, 0, 0, 1]], ((0, 0), [])), (0, [0], [[1, 0, 0, 0, 0, 0, 0, 0, 0, 0, 0, 1]], ((0, 0), [])), (0, [0], [[1, 0, 0, 0, 0, 0, 0, 0, 0, 0, 0, 1]], ((0, 0), [])), (0, [0], [[1, 0, 0, 0, 0, 0, 0, 0, 0, 0, 0, 1]], ((0, 0), [])), (0, [0], [[1, 0, 0, 0, 0, 0, 0, 0, 0, 0, 0, 1]], ((0, 0), [])), (0, [0], [[1, 0, 0, 0, 0, 0, 0, 0, 0, 0, 0, 1]], ((0, 0), [])), (2, [1, 0, 1], [[1], [0, 1]], ((0, 0), [])), (0, [7], [[0, 0, 0, 0, 0, 0, 0, 0, 1], [0, 0, 0, 0, 0, 0, 0, 0, 0, 1], [1, 0, 0, 0, 0, 0, 0, 0, 0, 0, 1], [0, 1, 0, 0, 0, 0, 0, 0, 0, 0, 0, 1]], ((0, 0), []))]) (by decide +kernel)
theorem zx_gv326_ok {PT : Nat → zz_W → Prop} : zx_Vok 64 zHT PT (zu_Vw 7 63 63 [] [((0, 0), [(0, 1, 0), (2, 0, 1)]), ((0, 0), [(0, 0, 1), (2, 1, 0)]), ((0, 1), [(1, 1, 0)]), ((1, 0), [(1, 0, 1)]), ((0, 1), [(3, 1, 0)]), ((1, 0), [(3, 0, 1)]), ((0, 4096), [(5, 1, 0)]), ((4695, 0), [(5, 0, 1)])]) := zu_Vw_ok (hs := [(1, [], [], ((0, 1), [(4, 0, 1), (6, 1, 0)])), (2, [4, 0, 0], [[], [], [], [1]], ((0, 0), [])), (3, [], [], ((0, 0), [])), (0, [1], [[1, 0, 0, 0, 1]], ((0, 0), [])), (0, [2], [[1, 1]], ((0, 0), [])), (0, [0], [[0, 1, 0, 0, 0, 0, 0, 0, 0, 1]], ((0, 0), [])), (0, [4], [[0, 0, 0, 0, 0, 0, 0, 0, 0, 0, 0, 1], [0, 0, 0, 0, 0, 0, 0, 0, 0, 0, 0, 0, 1], [0, 0, 1, 0, 0, 1], [0, 0, 0, 1, 1]], ((0, 0), [])), (0, [5], [[0, 0, 0, 0, 0, 0, 0, 0, 0, 0, 0, 1], [0, 0, 0, 0, 0, 0, 0, 0, 0, 0, 0, 0, 1], [0, 0, 1, 0, 0, 1], [0, 0, 0, 1, 1]], ((0, 0), [])), (0, [6], [[0, 0, 0, 0, 0, 0, 0, 0, 0, 0, 0, 1], [0, 0, 0, 0, 0, 0, 0, 0, 0, 0, 0, 0, 1], [0, 0, 1, 0, 0, 1], [0, 0, 0, 1, 1]], ((0, 0), [])), (0, [7], [[0, 0, 0, 0, 0, 0, 0, 0, 0, 0, 0, 1], [0, 0, 0, 0, 0, 0, 0, 0, 0, 0, 0, 0, 1], [0, 0, 1, 0, 0, 1], [0, 0, 0, 1, 1]], ((0, 0), [])), (0, [8], [[0, 0, 0, 0, 0, 0, 0, 0, 0, 0, 0, 1], [0, 0, 0, 0, 0, 0, 0, 0, 0, 0, 0, 0, 1], [0, 0, 1, 0, 0, 1], [0, 0, 0, 1, 1]], ((0, 0), [])), (0, [9], [[0, 0, 0, 0, 0, 0, 0, 0, 0, 0, 0, 1], [0, 0, 0, 0, 0, 0, 0, 0, 0, 0, 0, 0, 1], [0, 0, 1, 0, 0, 1], [0, 0, 0, 1, 1]], ((0, 0), [])), (0, [10], [[0, 0, 0, 0, 0, 0, 0, 0, 0, 0, 0, 1], [0, 0, 0, 0, 0, 0, 0, 0, 0, 0, 0, 0, 1], [0, 0, 1, 0, 0, 1], [0, 0, 0, 1, 1]], ((0, 0), [])), (0, [0], [[1, 0, 0, 0, 0, 0, 0, 0, 0, 0, 1]], ((0, 0), [])), (0, [0], [[1, 0, 0, 0, 0, 0, 0, 0, 0, 0, 1]], ((0, 0), [])), (0, [0], [[1, 0, 0, 0, 0, 0, 0, 0, 0, 0, 1]], ((0, 0), [])), (0, [0], [[1, 0, 0, 0, 0, 0, 0, 0, 0, 0, 1]], ((0, 0), [])), (0, [0], [[1, 0, 0, 0, 0, 0, 0, 0, 0, 0, 1]], ((0, 0), [])), (0, [0], [[1, 0, 0, 0, 0, 0, 0, 0, 0, 0, 1]], ((0, 0), [])), (1, [], [], ((0, 1), [(4, 1, 0), (6, 0, 1)])), (2, [3, 0, 0], [[], [], [], [1]], ((0, 0), [])), (3, [], [], ((0, 0), [])), (0, [1], [[1, 0, 0, 0, 0, 1]], ((0, 0), [])), (0, [2], [[1, 1]], ((0, 0), [])), (0, [0], [[0, 1, 0, 0, 0, 0, 0, 0, 0, 0, 1]], ((0, 0), [])), (0, [4], [[0, 0, 0, 0, 0, 0, 0, 0, 0, 0, 0, 0, 1], [0, 0, 0, 0, 0, 0, 0, 0, 0, 0, 0, 0, 0, 1], [0, 0, 1, 0, 0, 1], [0, 0, 0, 1, 1]], ((0, 0), [])), (0, [5], [[0, 0, 0, 0, 0, 0, 0, 0, 0, 0, 0, 0, 1], [0, 0, 0, 0, 0, 0, 0, 0, 0, 0, 0, 0, 0, 1], [0, 0, 1, 0, 0, 1], [0, 0, 0, 1, 1]], ((0, 0), [])), (0, [6], [[0, 0, 0, 0, 0, 0, 0, 0, 0, 0, 0, 0, 1], [0, 0, 0, 0, 0, 0, 0, 0, 0, 0, 0, 0, 0, 1], [0, 0, 1, 0, 0, 1], [0, 0, 0, 1, 1]], ((0, 0), [])), (0, [7], [[0, 0, 0, 0, 0, 0, 0, 0, 0, 0, 0, 0, 1], [0, 0, 0, 0, 0, 0, 0, 0, 0, 0, 0, 0, 0, 1], [0, 0, 1, 0, 0, 1], [0, 0, 0, 1, 1]], ((0, 0), [])), (0, [8], [[0, 0, 0, 0, 0, 0, 0, 0, 0, 0, 0, 0, 1], [0, 0, 0, 0, 0, 0, 0, 0, 0, 0, 0, 0, 0, 1], [0, 0, 1, 0, 0, 1], [0, 0, 0, 1, 1]], ((0, 0), [])), (0, [9], [[0, 0, 0, 0, 0, 0, 0, 0, 0, 0, 0, 0, 1], [0, 0, 0, 0, 0, 0, 0, 0, 0, 0, 0, 0, 0, 1], [0, 0, 1, 0, 0, 1], [0, 0, 0, 1, 1]], ((0, 0), [])), (0, [10], [[0, 0, 0, 0, 0, 0, 0, 0, 0, 0, 0, 0, 1], [0, 0, 0, 0, 0, 0, 0, 0, 0, 0, 0, 0, 0, 1], [0, 0, 1, 0, 0, 1], [0, 0, 0, 1, 1]], ((0, 0), [])), (0, [0], [[1, 0, 0, 0, 0, 0, 0, 0, 0, 0, 0, 1]], ((0, 0), [])), (0, [0], [[1, 0, 0, 0, 0, 0, 0, 0, 0, 0, 0, 1]], ((0, 0), [])), (0, [0], [[1, 0, 0, 0, 0, 0, 0, 0, 0, 0, 0, 1]], ((0, 0), [])), (0, [0], [[1, 0, 0, 0, 0, 0, 0, 0, 0, 0, 0, 1]], ((0, 0), [])), (0, [0], [[1, 0, 0, 0, 0, 0, 0, 0, 0, 0, 0, 1]], ((0, 0), [])), (0, [0], [[1, 0, 0, 0, 0, 0, 0, 0, 0, 0, 0, 1]], ((0, 0), [])), (2, [1, 0, 1], [[1], [0, 1]], ((0, 0), [])), (0, [8], [[0, 0, 0, 0, 0, 0, 0, 0, 1], [0, 0, 0, 0, 0, 0, 0, 0, 0, 1], [1, 0, 0, 0, 0, 0, 0, 0, 0, 0, 1], [0, 1, 0, 0, 0, 0, 0, 0, 0, 0, 0, 1]], ((0, 0), []))]) (by decide +kernel)
theorem zx_gv327_ok {PT : Nat → zz_W → Prop} : zx_Vok 64 zHT PT (zu_Vw 7 63 63 [] [((0, 0), [(0, 1, 0), (2, 0, 1)]), ((0, 0), [(0, 0, 1), (2, 1, 0)]), ((0, 1), [(1, 1, 0)]), ((1, 0), [(1, 0, 1)]), ((0, 1), [(3, 1, 0)]), ((1, 0), [(3, 0, 1)]), ((0, 5120), [(5, 1, 0)]), ((5719, 0), [(5, 0, 1)])]) := zu_Vw_ok (hs := [(1, [], [], ((0, 1), [(4, 0, 1), (6, 1, 0)])), (2, [4, 0, 0], [[], [], [], [1]], ((0, 0), [])), (3, [], [], ((0, 0), [])), (0, [1], [[1, 0, 0, 0, 1]], ((0, 0), [])), (0, [2], [[1, 1]], ((0, 0), [])), (0, [0], [[0, 1, 0, 0, 0, 0, 0, 0, 0, 1]], ((0, 0), [])), (0, [4], [[0, 0, 0, 0, 0, 0, 0, 0, 0, 0, 0, 1], [0, 0, 0, 0, 0, 0, 0, 0, 0, 0, 0, 0, 1], [0, 0, 1, 0, 0, 1], [0, 0, 0, 1, 1]], ((0, 0), [])), (0, [5], [[0, 0, 0, 0, 0, 0, 0, 0, 0, 0, 0, 1], [0, 0, 0, 0, 0, 0, 0, 0, 0, 0, 0, 0, 1], [0, 0, 1, 0, 0, 1], [0, 0, 0, 1, 1]], ((0, 0), [])), (0, [6], [[0, 0, 0, 0, 0, 0, 0, 0, 0, 0, 0, 1], [0, 0, 0, 0, 0, 0, 0, 0, 0, 0, 0, 0, 1], [0, 0, 1, 0, 0, 1], [0, 0, 0, 1, 1]], ((0, 0), [])), (0, [7], [[0, 0, 0, 0, 0, 0, 0, 0, 0, 0, 0, 1], [0, 0, 0, 0, 0, 0, 0, 0, 0, 0, 0, 0, 1], [0, 0, 1, 0, 0, 1], [0, 0, 0, 1, 1]], ((0, 0), [])), (0, [8], [[0, 0, 0, 0, 0, 0, 0, 0, 0, 0, 0, 1], [0, 0, 0, 0, 0, 0, 0, 0, 0, 0, 0, 0, 1], [0, 0, 1, 0, 0, 1], [0, 0, 0, 1, 1]], ((0, 0), [])), (0, [9], [[0, 0, 0, 0, 0, 0, 0, 0, 0, 0, 0, 1], [0, 0, 0, 0, 0, 0, 0, 0, 0, 0, 0, 0, 1], [0, 0, 1, 0, 0, 1], [0, 0, 0, 1, 1]], ((0, 0), [])), (0, [10], [[0, 0, 0, 0, 0, 0, 0, 0, 0, 0, 0, 1], [0, 0, 0, 0, 0, 0, 0, 0, 0, 0, 0, 0, 1], [0, 0, 1, 0, 0, 1], [0, 0, 0, 1, 1]], ((0, 0), [])), (0, [0], [[1, 0, 0, 0, 0, 0, 0, 0, 0, 0, 1]], ((0, 0), [])), (0, [0], [[1, 0, 0, 0, 0, 0, 0, 0, 0, 0, 1]], ((0, 0), [])), (0, [0], [[1, 0, 0, 0, 0, 0, 0, 0, 0, 0, 1]], ((0, 0), [])), (0, [0], [[1, 0, 0, 0, 0, 0, 0, 0, 0, 0, 1]], ((0, 0), [])), (0, [0], [[1, 0, 0, 0, 0, 0, 0, 0, 0, 0, 1]], ((0, 0), [])), (0, [0], [[1, 0, 0, 0, 0, 0, 0, 0, 0, 0, 1]], ((0, 0), [])), (1, [], [], ((0, 1), [(4, 1, 0), (6, 0, 1)])), (2, [3, 0, 0], [[], [], [], [1]], ((0, 0), [])), (3, [], [], ((0, 0), [])), (0, [1], [[1, 0, 0, 0, 0, 1]], ((0, 0), [])), (0, [2], [[1, 1]], ((0, 0), [])), (0, [0], [[0, 1, 0, 0, 0, 0, 0, 0, 0, 0, 1]], ((0, 0), [])), (0, [4], [[0, 0, 0, 0, 0, 0, 0, 0, 0, 0, 0, 0, 1], [0, 0, 0, 0, 0, 0, 0, 0, 0, 0, 0, 0, 0, 1], [0, 0, 1, 0, 0, 1], [0, 0, 0, 1, 1]], ((0, 0), [])), (0, [5], [[0, 0, 0, 0, 0, 0, 0, 0, 0, 0, 0, 0, 1], [0, 0, 0, 0, 0, 0, 0, 0, 0, 0, 0, 0, 0, 1], [0, 0, 1, 0, 0, 1], [0, 0, 0, 1, 1]], ((0, 0), [])), (0, [6], [[0, 0, 0, 0, 0, 0, 0, 0, 0, 0, 0, 0, 1], [0, 0, 0, 0, 0, 0, 0, 0, 0, 0, 0, 0, 0, 1], [0, 0, 1, 0, 0, 1], [0, 0, 0, 1, 1]], ((0, 0), [])), (0, [7], [[0, 0, 0, 0, 0, 0, 0, 0, 0, 0, 0, 0, 1], [0, 0, 0, 0, 0, 0, 0, 0, 0, 0, 0, 0, 0, 1], [0, 0, 1, 0, 0, 1], [0, 0, 0, 1, 1]], ((0, 0), [])), (0, [8], [[0, 0, 0, 0, 0, 0, 0, 0, 0, 0, 0, 0, 1], [0, 0, 0, 0, 0, 0, 0, 0, 0, 0, 0, 0, 0, 1], [0, 0, 1, 0, 0, 1], [0, 0, 0, 1, 1]], ((0, 0), [])), (0, [9], [[0, 0, 0, 0, 0, 0, 0, 0, 0, 0, 0, 0, 1], [0, 0, 0, 0, 0, 0, 0, 0, 0, 0, 0, 0, 0, 1], [0, 0, 1, 0, 0, 1], [0, 0, 0, 1, 1]], ((0, 0), [])), (0, [10], [[0, 0, 0, 0, 0, 0, 0, 0, 0, 0, 0, 0, 1], [0, 0, 0, 0, 0, 0, 0, 0, 0, 0, 0, 0, 0, 1], [0, 0, 1, 0, 0, 1], [0, 0, 0, 1, 1]], ((0, 0), [])), (0, [0], [[1, 0, 0, 0, 0, 0, 0, 0, 0, 0, 0, 1]], ((0, 0), [])), (0, [0], [[1, 0, 0, 0, 0, 0, 0, 0, 0, 0, 0, 1]], ((0, 0), [])), (0, [0], [[1, 0, 0, 0, 0, 0, 0, 0, 0, 0, 0, 1]], ((0, 0), [])), (0, [0], [[1, 0, 0, 0, 0, 0, 0, 0, 0, 0, 0, 1]], ((0, 0), [])), (0, [0], [[1, 0, 0, 0, 0, 0, 0, 0, 0, 0, 0, 1]], ((0, 0), [])), (0, [0], [[1, 0, 0, 0, 0, 0, 0, 0, 0, 0, 0, 1]], ((0, 0), [])), (2, [1, 0, 1], [[1], [0, 1]], ((0, 0), [])), (0, [9], [[0, 0, 0, 0, 0, 0, 0, 0, 1], [0, 0, 0, 0, 0, 0, 0, 0, 0, 1], [1, 0, 0, 0, 0, 0, 0, 0, 0, 0, 1], [0, 1, 0, 0, 0, 0, 0, 0, 0, 0, 0, 1]], ((0, 0), []))]) (by decide +kernel)
theorem zx_gv328_ok {PT : Nat → zz_W → Prop} : zx_Vok 64 zHT PT (zu_Vw 7 63 63 [] [((0, 0), [(0, 1, 0), (2, 0, 1)]), ((0, 0), [(0, 0, 1), (2, 1, 0)]), ((0, 1), [(1, 1, 0)]), ((1, 0), [(1, 0, 1)]), ((0, 1), [(3, 1, 0)]), ((1, 0), [(3, 0, 1)]), ((0, 6144), [(5, 1, 0)]), ((6147, 0), [(5, 0, 1)])]) := zu_Vw_ok (hs := [(1, [], [], ((0, 1), [(4, 0, 1), (6, 1, 0)])), (2, [4, 0, 0], [[], [], [], [1]], ((0, 0), [])), (3, [], [], ((0, 0), [])), (0, [1], [[1, 0, 0, 0, 1]], ((0, 0), [])), (0, [2], [[1, 1]], ((0, 0), [])), (0, [0], [[0, 1, 0, 0, 0, 0, 0, 0, 0, 1]], ((0, 0), [])), (0, [4], [[0, 0, 0, 0, 0, 0, 0, 0, 0, 0, 0, 1], [0, 0, 0, 0, 0, 0, 0, 0, 0, 0, 0, 0, 1], [0, 0, 1, 0, 0, 1], [0, 0, 0, 1, 1]], ((0, 0), [])), (0, [5], [[0, 0, 0, 0, 0, 0, 0, 0, 0, 0, 0, 1], [0, 0, 0, 0, 0, 0, 0, 0, 0, 0, 0, 0, 1], [0, 0, 1, 0, 0, 1], [0, 0, 0, 1, 1]], ((0, 0), [])), (0, [6], [[0, 0, 0, 0, 0, 0, 0, 0, 0, 0, 0, 1], [0, 0, 0, 0, 0, 0, 0, 0, 0, 0, 0, 0, 1], [0, 0, 1, 0, 0, 1], [0, 0, 0, 1, 1]], ((0, 0), [])), (0, [7], [[0, 0, 0, 0, 0, 0, 0, 0, 0, 0, 0, 1], [0, 0, 0, 0, 0, 0, 0, 0, 0, 0, 0, 0, 1], [0, 0, 1, 0, 0, 1], [0, 0, 0, 1, 1]], ((0, 0), [])), (0, [8], [[0, 0, 0, 0, 0, 0, 0, 0, 0, 0, 0, 1], [0, 0, 0, 0, 0, 0, 0, 0, 0, 0, 0, 0, 1], [0, 0, 1, 0, 0, 1], [0, 0, 0, 1, 1]], ((0, 0), [])), (0, [9], [[0, 0, 0, 0, 0, 0, 0, 0, 0, 0, 0, 1], [0, 0, 0, 0, 0, 0, 0, 0, 0, 0, 0, 0, 1], [0, 0, 1, 0, 0, 1], [0, 0, 0, 1, 1]], ((0, 0), [])), (0, [10], [[0, 0, 0, 0, 0, 0, 0, 0, 0, 0, 0, 1], [0, 0, 0, 0, 0, 0, 0, 0, 0, 0, 0, 0, 1], [0, 0, 1, 0, 0, 1], [0, 0, 0, 1, 1]], ((0, 0), [])), (0, [0], [[1, 0, 0, 0, 0, 0, 0, 0, 0, 0, 1]], ((0, 0), [])), (0, [0], [[1, 0, 0, 0, 0, 0, 0, 0, 0, 0, 1]], ((0, 0), [])), (0, [0], [[1, 0, 0, 0, 0, 0, 0, 0, 0, 0, 1]], ((0, 0), [])), (0, [0], [[1, 0, 0, 0, 0, 0, 0, 0, 0, 0, 1]], ((0, 0), [])), (0, [0], [[1, 0, 0, 0, 0, 0, 0, 0, 0, 0, 1]], ((0, 0), [])), (0, [0], [[1, 0, 0, 0, 0, 0, 0, 0, 0, 0, 1]], ((0, 0), [])), (1, [], [], ((0, 1), [(4, 1, 0), (6, 0, 1)])), (2, [3, 0, 0], [[], [], [], [1]], ((0, 0), [])), (3, [], [], ((0, 0), [])), (0, [1], [[1, 0, 0, 0, 0, 1]], ((0, 0), [])), (0, [2], [[1, 1]], ((0, 0), [])), (0, [0], [[0, 1, 0, 0, 0, 0, 0, 0, 0, 0, 1]], ((0, 0), [])), (0, [4], [[0, 0, 0, 0, 0, 0, 0, 0, 0, 0, 0, 0, 1], [0, 0, 0, 0, 0, 0, 0, 0, 0, 0, 0, 0, 0, 1], [0, 0, 1, 0, 0, 1], [0, 0, 0, 1, 1]], ((0, 0), [])), (0, [5], [[0, 0, 0, 0, 0, 0, 0, 0, 0, 0, 0, 0, 1], [0, 0, 0, 0, 0, 0, 0, 0, 0, 0, 0, 0, 0, 1], [0, 0, 1, 0, 0, 1], [0, 0, 0, 1, 1]], ((0, 0), [])), (0, [6], [[0, 0, 0, 0, 0, 0, 0, 0, 0, 0, 0, 0, 1], [0, 0, 0, 0, 0, 0, 0, 0, 0, 0, 0, 0, 0, 1], [0, 0, 1, 0, 0, 1], [0, 0, 0, 1, 1]], ((0, 0), [])), (0, [7], [[0, 0, 0, 0, 0, 0, 0, 0, 0, 0, 0, 0, 1], [0, 0, 0, 0, 0, 0, 0, 0, 0, 0, 0, 0, 0, 1], [0, 0, 1, 0, 0, 1], [0, 0, 0, 1, 1]], ((0, 0), [])), (0, [8], [[0, 0, 0, 0, 0, 0, 0, 0, 0, 0, 0, 0, 1], [0, 0, 0, 0, 0, 0, 0, 0, 0, 0, 0, 0, 0, 1], [0, 0, 1, 0, 0, 1], [0, 0, 0, 1, 1]], ((0, 0), [])), (0, [9], [[0, 0, 0, 0, 0, 0, 0, 0, 0, 0, 0, 0, 1], [0, 0, 0, 0, 0, 0, 0, 0, 0, 0, 0, 0, 0, 1], [0, 0, 1, 0, 0, 1], [0, 0, 0, 1, 1]], ((0, 0), [])), (0, [10], [[0, 0, 0, 0, 0, 0, 0, 0, 0, 0, 0, 0, 1], [0, 0, 0, 0, 0, 0, 0, 0, 0, 0, 0, 0, 0, 1], [0, 0, 1, 0, 0, 1], [0, 0, 0, 1, 1]], ((0, 0), [])), (0, [0], [[1, 0, 0, 0, 0, 0, 0, 0, 0, 0, 0, 1]], ((0, 0), [])), (0, [0], [[1, 0, 0, 0, 0, 0, 0, 0, 0, 0, 0, 1]], ((0, 0), [])), (0, [0], [[1, 0, 0, 0, 0, 0, 0, 0, 0, 0, 0, 1]], ((0, 0), [])), (0, [0], [[1, 0, 0, 0, 0, 0, 0, 0, 0, 0, 0, 1]], ((0, 0), [])), (0, [0], [[1, 0, 0, 0, 0, 0, 0, 0, 0, 0, 0, 1]], ((0, 0), [])), (0, [0], [[1, 0, 0, 0, 0, 0, 0, 0, 0, 0, 0, 1]], ((0, 0), [])), (2, [1, 0, 1], [[1], [0, 1]], ((0, 0), [])), (0, [10], [[0, 0, 0, 0, 0, 0, 0, 0, 1], [0, 0, 0, 0, 0, 0, 0, 0, 0, 1], [1, 0, 0, 0, 0, 0, 0, 0, 0, 0, 1], [0, 1, 0, 0, 0, 0, 0, 0, 0, 0, 0, 1]], ((0, 0), []))]) (by decide +kernel)
theorem zx_gv329_ok {PT : Nat → zz_W → Prop} : zx_Vok 64 zHT PT (zu_Vw 7 63 63 [] [((0, 0), [(0, 1, 0), (2, 0, 1)]), ((0, 0), [(0, 0, 1), (2, 1, 0)]), ((0, 2), [(1, 1, 0)]), ((2, 0), [(1, 0, 1)]), ((0, 2), [(3, 1, 0)]), ((2, 0), [(3, 0, 1)]), ((0, 0), [(5, 1, 0)]), ((59, 0), [(5, 0, 1)])]) := zu_Vw_ok (hs := [(1, [], [], ((0, 1), [(4, 0, 1), (6, 1, 0)])), (2, [4, 0, 0], [[], [], [], [1]], ((0, 0), [])), (3, [], [], ((0, 0), [])), (0, [1], [[1, 0, 0, 0, 1]], ((0, 0), [])), (0, [2], [[1, 1]], ((0, 0), [])), (0, [0], [[0, 1, 0, 0, 0, 0, 0, 0, 0, 1]], ((0, 0), [])), (0, [0], [[0, 1, 0, 0, 0, 0, 0, 0, 0, 1]], ((0, 0), [])), (0, [0], [[0, 1, 0, 0, 0, 0, 0, 0, 0, 1]], ((0, 0), [])), (0, [0], [[0, 1, 0, 0, 0, 0, 0, 0, 0, 1]], ((0, 0), [])), (0, [0], [[0, 1, 0, 0, 0, 0, 0, 0, 0, 1]], ((0, 0), [])), (0, [0], [[0, 1, 0, 0, 0, 0, 0, 0, 0, 1]], ((0, 0), [])), (0, [0], [[0, 1, 0, 0, 0, 0, 0, 0, 0, 1]], ((0, 0), [])), (0, [0], [[0, 1, 0, 0, 0, 0, 0, 0, 0, 1]], ((0, 0), [])), (0, [11], [[0, 0, 0, 0, 0, 0, 0, 0, 0, 0, 0, 1], [0, 0, 0, 0, 0, 0, 0, 0, 0, 0, 0, 0, 1], [0, 0, 1, 0, 0, 1], [0, 0, 0, 1, 1]], ((0, 0), [])), (0, [12], [[0, 0, 0, 0, 0, 0, 0, 0, 0, 0, 0, 1], [0, 0, 0, 0, 0, 0, 0, 0, 0, 0, 0, 0, 1], [0, 0, 1, 0, 0, 1], [0, 0, 0, 1, 1]], ((0, 0), [])), (0, [13], [[0, 0, 0, 0, 0, 0, 0, 0, 0, 0, 0, 1], [0, 0, 0, 0, 0, 0, 0, 0, 0, 0, 0, 0, 1], [0, 0, 1, 0, 0, 1], [0, 0, 0, 1, 1]], ((0, 0), [])), (0, [14], [[0, 0, 0, 0, 0, 0, 0, 0, 0, 0, 0, 1], [0, 0, 0, 0, 0, 0, 0, 0, 0, 0, 0, 0, 1], [0, 0, 1, 0, 0, 1], [0, 0, 0, 1, 1]], ((0, 0), [])), (0, [15], [[0, 0, 0, 0, 0, 0, 0, 0, 0, 0, 0, 1], [0, 0, 0, 0, 0, 0, 0, 0, 0, 0, 0, 0, 1], [0, 0, 1, 0, 0, 1], [0, 0, 0, 1, 1]], ((0, 0), [])), (0, [16], [[0, 0, 0, 0, 0, 0, 0, 0, 0, 0, 0, 1], [0, 0, 0, 0, 0, 0, 0, 0, 0, 0, 0, 0, 1], [0, 0, 1, 0, 0, 1], [0, 0, 0, 1, 1]], ((0, 0), [])), (1, [], [], ((0, 1), [(4, 1, 0), (6, 0, 1)])), (2, [3, 0, 0], [[], [], [], [1]], ((0, 0), [])), (3, [], [], ((0, 0), [])), (0, [1], [[1, 0, 0, 0, 0, 1]], ((0, 0), [])), (0, [2], [[1, 1]], ((0, 0), [])), (0, [0], [[0, 1, 0, 0, 0, 0, 0, 0, 0, 0, 1]], ((0, 0), [])), (0, [0], [[0, 1, 0, 0, 0, 0, 0, 0, 0, 0, 1]], ((0, 0), [])), (0, [0], [[0, 1, 0, 0, 0, 0, 0, 0, 0, 0, 1]], ((0, 0), [])), (0, [0], [[0, 1, 0, 0, 0, 0, 0, 0, 0, 0, 1]], ((0, 0), [])), (0, [0], [[0, 1, 0, 0, 0, 0, 0, 0, 0, 0, 1]], ((0, 0), [])), (0, [0], [[0, 1, 0, 0, 0, 0, 0, 0, 0, 0, 1]], ((0, 0), [])), (0, [0], [[0, 1, 0, 0, 0, 0, 0, 0, 0, 0, 1]], ((0, 0), [])), (0, [0], [[0, 1, 0, 0, 0, 0, 0, 0, 0, 0, 1]], ((0, 0), [])), (0, [11], [[0, 0, 0, 0, 0, 0, 0, 0, 0, 0, 0, 0, 1], [0, 0, 0, 0, 0, 0, 0, 0, 0, 0, 0, 0, 0, 1], [0, 0, 1, 0, 0, 1], [0, 0, 0, 1, 1]], ((0, 0), [])), (0, [12], [[0, 0, 0, 0, 0, 0, 0, 0, 0, 0, 0, 0, 1], [0, 0, 0, 0, 0, 0, 0, 0, 0, 0, 0, 0, 0, 1], [0, 0, 1, 0, 0, 1], [0, 0, 0, 1, 1]], ((0, 0), [])), (0, [13], [[0, 0, 0, 0, 0, 0, 0, 0, 0, 0, 0, 0, 1], [0, 0, 0, 0, 0, 0, 0, 0, 0, 0, 0, 0, 0, 1], [0, 0, 1, 0, 0, 1], [0, 0, 0, 1, 1]], ((0, 0), [])), (0, [14], [[0, 0, 0, 0, 0, 0, 0, 0, 0, 0, 0, 0, 1], [0, 0, 0, 0, 0, 0, 0, 0, 0, 0, 0, 0, 0, 1], [0, 0, 1, 0, 0, 1], [0, 0, 0, 1, 1]], ((0, 0), [])), (0, [15], [[0, 0, 0, 0, 0, 0, 0, 0, 0, 0, 0, 0, 1], [0, 0, 0, 0, 0, 0, 0, 0, 0, 0, 0, 0, 0, 1], [0, 0, 1, 0, 0, 1], [0, 0, 0, 1, 1]], ((0, 0), [])), (0, [16], [[0, 0, 0, 0, 0, 0, 0, 0, 0, 0, 0, 0, 1], [0, 0, 0, 0, 0, 0, 0, 0, 0, 0, 0, 0, 0, 1], [0, 0, 1, 0, 0, 1], [0, 0, 0, 1, 1]], ((0, 0), [])), (2, [1, 0, 1], [[1], [0, 1]], ((0, 0), [])), (0, [11], [[0, 0, 0, 0, 0, 0, 0, 0, 1], [0, 0, 0, 0, 0, 0, 0, 0, 0, 1], [1, 0, 0, 0, 0, 0, 0, 0, 0, 0, 1], [0, 1, 0, 0, 0, 0, 0, 0, 0, 0, 0, 1]], ((0, 0), []))]) (by decide +kernel)
theorem zx_gv330_ok {PT : Nat → zz_W → Prop} : zx_Vok 64 zHT PT (zu_Vw 7 63 63 [] [((0, 0), [(0, 1, 0), (2, 0, 1)]), ((0, 0), [(0, 0, 1), (2, 1, 0)]), ((0, 2), [(1, 1, 0)]), ((2, 0), [(1, 0, 1)]), ((0, 2), [(3, 1, 0)]), ((2, 0), [(3, 0, 1)]), ((0, 512), [(5, 1, 0)]), ((571, 0), [(5, 0, 1)])]) := zu_Vw_ok (hs := [(1, [], [], ((0, 1), [(4, 0, 1), (6, 1, 0)])), (2, [4, 0, 0], [[], [], [], [1]], ((0, 0), [])), (3, [], [], ((0, 0), [])), (0, [1], [[1, 0, 0, 0, 1]], ((0, 0), [])), (0, [2], [[1, 1]], ((0, 0), [])), (0, [0], [[0, 1, 0, 0, 0, 0, 0, 0, 0, 1]], ((0, 0), [])), (0, [0], [[0, 1, 0, 0, 0, 0, 0, 0, 0, 1]], ((0, 0), [])), (0, [0], [[0, 1, 0, 0, 0, 0, 0, 0, 0, 1]], ((0, 0), [])), (0, [0], [[0, 1, 0, 0, 0, 0, 0, 0, 0, 1]], ((0, 0), [])), (0, [0], [[0, 1, 0, 0, 0, 0, 0, 0, 0, 1]], ((0, 0), [])), (0, [0], [[0, 1, 0, 0, 0, 0, 0, 0, 0, 1]], ((0, 0), [])), (0, [0], [[0, 1, 0, 0, 0, 0, 0, 0, 0, 1]], ((0, 0), [])), (0, [0], [[0, 1, 0, 0, 0, 0, 0, 0, 0, 1]], ((0, 0), [])), (0, [11], [[0, 0, 0, 0, 0, 0, 0, 0, 0, 0, 0, 1], [0, 0, 0, 0, 0, 0, 0, 0, 0, 0, 0, 0, 1], [0, 0, 1, 0, 0, 1], [0, 0, 0, 1, 1]], ((0, 0), [])), (0, [12], [[0, 0, 0, 0, 0, 0, 0, 0, 0, 0, 0, 1], [0, 0, 0, 0, 0, 0, 0, 0, 0, 0, 0, 0, 1], [0, 0, 1, 0, 0, 1], [0, 0, 0, 1, 1]], ((0, 0), [])), (0, [13], [[0, 0, 0, 0, 0, 0, 0, 0, 0, 0, 0, 1], [0, 0, 0, 0, 0, 0, 0, 0, 0, 0, 0, 0, 1], [0, 0, 1, 0, 0, 1], [0, 0, 0, 1, 1]], ((0, 0), [])), (0, [14], [[0, 0, 0, 0, 0, 0, 0, 0, 0, 0, 0, 1], [0, 0, 0, 0, 0, 0, 0, 0, 0, 0, 0, 0, 1], [0, 0, 1, 0, 0, 1], [0, 0, 0, 1, 1]], ((0, 0), [])), (0, [15], [[0, 0, 0, 0, 0, 0, 0, 0, 0, 0, 0, 1], [0, 0, 0, 0, 0, 0, 0, 0, 0, 0, 0, 0, 1], [0, 0, 1, 0, 0, 1], [0, 0, 0, 1, 1]], ((0, 0), [])), (0, [16], [[0, 0, 0, 0, 0, 0, 0, 0, 0, 0, 0, 1], [0, 0, 0, 0, 0, 0, 0, 0, 0, 0, 0, 0, 1], [0, 0, 1, 0, 0, 1], [0, 0, 0, 1, 1]], ((0, 0), [])), (1, [], [], ((0, 1), [(4, 1, 0), (6, 0, 1)])), (2, [3, 0, 0], [[], [], [], [1]], ((0, 0), [])), (3, [], [], ((0, 0), [])), (0, [1], [[1, 0, 0, 0, 0, 1]], ((0, 0), [])), (0, [2], [[1, 1]], ((0, 0), [])), (0, [0], [[0, 1, 0, 0, 0, 0, 0, 0, 0, 0, 1]], ((0, 0), [])), (0, [0], [[0, 1, 0, 0, 0, 0, 0, 0, 0, 0, 1]], ((0, 0), [])), (0, [0], [[0, 1, 0, 0, 0, 0, 0, 0, 0, 0, 1]], ((0, 0), [])), (0, [0], [[0, 1, 0, 0, 0, 0, 0, 0, 0, 0, 1]], ((0, 0), [])), (0, [0], [[0, 1, 0, 0, 0, 0, 0, 0, 0, 0, 1]], ((0, 0), [])), (0, [0], [[0, 1, 0, 0, 0, 0, 0, 0, 0, 0, 1]], ((0, 0), [])), (0, [0], [[0, 1, 0, 0, 0, 0, 0, 0, 0, 0, 1]], ((0, 0), [])), (0, [0], [[0, 1, 0, 0, 0, 0, 0, 0, 0, 0, 1]], ((0, 0), [])), (0, [11], [[0, 0, 0, 0, 0, 0, 0, 0, 0, 0, 0, 0, 1], [0, 0, 0, 0, 0, 0, 0, 0, 0, 0, 0, 0, 0, 1], [0, 0, 1, 0, 0, 1], [0, 0, 0, 1, 1]], ((0, 0), [])), (0, [12], [[0, 0, 0, 0, 0, 0, 0, 0, 0, 0, 0, 0, 1], [0, 0, 0, 0, 0, 0, 0, 0, 0, 0, 0, 0, 0, 1], [0, 0, 1, 0, 0, 1], [0, 0, 0, 1, 1]], ((0, 0), [])), (0, [13], [[0, 0, 0, 0, 0, 0, 0, 0, 0, 0, 0, 0, 1], [0, 0, 0, 0, 0, 0, 0, 0, 0, 0, 0, 0, 0, 1], [0, 0, 1, 0, 0, 1], [0, 0, 0, 1, 1]], ((0, 0), [])), (0, [14], [[0, 0, 0, 0, 0, 0, 0, 0, 0, 0, 0, 0, 1], [0, 0, 0, 0, 0, 0, 0, 0, 0, 0, 0, 0, 0, 1], [0, 0, 1, 0, 0, 1], [0, 0, 0, 1, 1]], ((0, 0), [])), (0, [15], [[0, 0, 0, 0, 0, 0, 0, 0, 0, 0, 0, 0, 1], [0, 0, 0, 0, 0, 0, 0, 0, 0, 0, 0, 0, 0, 1], [0, 0, 1, 0, 0, 1], [0, 0, 0, 1, 1]], ((0, 0), [])), (0, [16], [[0, 0, 0, 0, 0, 0, 0, 0, 0, 0, 0, 0, 1], [0, 0, 0, 0, 0, 0, 0, 0, 0, 0, 0, 0, 0, 1], [0, 0, 1, 0, 0, 1], [0, 0, 0, 1, 1]], ((0, 0), [])), (2, [1, 0, 1], [[1], [0, 1]], ((0, 0), [])), (0, [12], [[0, 0, 0, 0, 0, 0, 0, 0, 1], [0, 0, 0, 0, 0, 0, 0, 0, 0, 1], [1, 0, 0, 0, 0, 0, 0, 0, 0, 0, 1], [0, 1, 0, 0, 0, 0, 0, 0, 0, 0, 0, 1]], ((0, 0), []))]) (by decide +kernel)
theorem zx_gv331_ok {PT : Nat → zz_W → Prop} : zx_Vok 64 zHT PT (zu_Vw 7 63 63 [] [((0, 0), [(0, 1, 0), (2, 0, 1)]), ((0, 0), [(0, 0, 1), (2, 1, 0)]), ((0, 2), [(1, 1, 0)]), ((2, 0), [(1, 0, 1)]), ((0, 2), [(3, 1, 0)]), ((2, 0), [(3, 0, 1)]), ((0, 1024), [(5, 1, 0)]), ((1083, 0), [(5, 0, 1)])]) := zu_Vw_ok (hs := [(1, [], [], ((0, 1), [(4, 0, 1), (6, 1, 0)])), (2, [4, 0, 0], [[], [], [], [1]], ((0, 0), [])), (3, [], [], ((0, 0), [])), (0, [1], [[1, 0, 0, 0, 1]], ((0, 0), [])), (0, [2], [[1, 1]], ((0, 0), [])), (0, [0], [[0, 1, 0, 0, 0, 0, 0, 0, 0, 1]], ((0, 0), [])), (0, [0], [[0, 1, 0, 0, 0, 0, 0, 0, 0, 1]], ((0, 0), [])), (0, [0], [[0, 1, 0, 0, 0, 0, 0, 0, 0, 1]], ((0, 0), [])), (0, [0], [[0, 1, 0, 0, 0, 0, 0, 0, 0, 1]], ((0, 0), [])), (0, [0], [[0, 1, 0, 0, 0, 0, 0, 0, 0, 1]], ((0, 0), [])), (0, [0], [[0, 1, 0, 0, 0, 0, 0, 0, 0, 1]], ((0, 0), [])), (0, [0], [[0, 1, 0, 0, 0, 0, 0, 0, 0, 1]], ((0, 0), [])), (0, [0], [[0, 1, 0, 0, 0, 0, 0, 0, 0, 1]], ((0, 0), [])), (0, [11], [[0, 0, 0, 0, 0, 0, 0, 0, 0, 0, 0, 1], [0, 0, 0, 0, 0, 0, 0, 0, 0, 0, 0, 0, 1], [0, 0, 1, 0, 0, 1], [0, 0, 0, 1, 1]], ((0, 0), [])), (0, [12], [[0, 0, 0, 0, 0, 0, 0, 0, 0, 0, 0, 1], [0, 0, 0, 0, 0, 0, 0, 0, 0, 0, 0, 0, 1], [0, 0, 1, 0, 0, 1], [0, 0, 0, 1, 1]], ((0, 0), [])), (0, [13], [[0, 0, 0, 0, 0, 0, 0, 0, 0, 0, 0, 1], [0, 0, 0, 0, 0, 0, 0, 0, 0, 0, 0, 0, 1], [0, 0, 1, 0, 0, 1], [0, 0, 0, 1, 1]], ((0, 0), [])), (0, [14], [[0, 0, 0, 0, 0, 0, 0, 0, 0, 0, 0, 1], [0, 0, 0, 0, 0, 0, 0, 0, 0, 0, 0, 0, 1], [0, 0, 1, 0, 0, 1], [0, 0, 0, 1, 1]], ((0, 0), [])), (0, [15], [[0, 0, 0, 0, 0, 0, 0, 0, 0, 0, 0, 1], [0, 0, 0, 0, 0, 0, 0, 0, 0, 0, 0, 0, 1], [0, 0, 1, 0, 0, 1], [0, 0, 0, 1, 1]], ((0, 0), [])), (0, [16], [[0, 0, 0, 0, 0, 0, 0, 0, 0, 0, 0, 1], [0, 0, 0, 0, 0, 0, 0, 0, 0, 0, 0, 0, 1], [0, 0, 1, 0, 0, 1], [0, 0, 0, 1, 1]], ((0, 0), [])), (1, [], [], ((0, 1), [(4, 1, 0), (6, 0, 1)])), (2, [3, 0, 0], [[], [], [], [1]], ((0, 0), [])), (3, [], [], ((0, 0), [])), (0, [1], [[1, 0, 0, 0, 0, 1]], ((0, 0), [])), (0, [2], [[1, 1]], ((0, 0), [])), (0, [0], [[0, 1, 0, 0, 0, 0, 0, 0, 0, 0, 1]], ((0, 0), [])), (0, [0], [[0, 1, 0, 0, 0, 0, 0, 0, 0, 0, 1]], ((0, 0), [])), (0, [0], [[0, 1, 0, 0, 0, 0, 0, 0, 0, 0, 1]], ((0, 0), [])), (0, [0], [[0, 1, 0, 0, 0, 0, 0, 0, 0, 0, 1]], ((0, 0), [])), (0, [0], [[0, 1, 0, 0, 0, 0, 0, 0, 0, 0, 1]], ((0, 0), [])), (0, [0], [[0, 1, 0, 0, 0, 0, 0, 0, 0, 0, 1]], ((0, 0), [])), (0, [0], [[0, 1, 0, 0, 0, 0, 0, 0, 0, 0, 1]], ((0, 0), [])), (0, [0], [[0, 1, 0, 0, 0, 0, 0, 0, 0, 0, 1]], ((0, 0), [])), (0, [11], [[0, 0, 0, 0, 0, 0, 0, 0, 0, 0, 0, 0, 1], [0, 0, 0, 0, 0, 0, 0, 0, 0, 0, 0, 0, 0, 1], [0, 0, 1, 0, 0, 1], [0, 0, 0, 1, 1]], ((0, 0), [])), (0, [12], [[0, 0, 0, 0, 0, 0, 0, 0, 0, 0, 0, 0, 1], [0, 0, 0, 0, 0, 0, 0, 0, 0, 0, 0, 0, 0, 1], [0, 0, 1, 0, 0, 1], [0, 0, 0, 1, 1]], ((0, 0), [])), (0, [13], [[0, 0, 0, 0, 0, 0, 0, 0, 0, 0, 0, 0, 1], [0, 0, 0, 0, 0, 0, 0, 0, 0, 0, 0, 0, 0, 1], [0, 0, 1, 0, 0, 1], [0, 0, 0, 1, 1]], ((0, 0), [])), (0, [14], [[0, 0, 0, 0, 0, 0, 0, 0, 0, 0, 0, 0, 1], [0, 0, 0, 0, 0, 0, 0, 0, 0, 0, 0, 0, 0, 1], [0, 0, 1, 0, 0, 1], [0, 0, 0, 1, 1]], ((0, 0), [])), (0, [15], [[0, 0, 0, 0, 0, 0, 0, 0, 0, 0, 0, 0, 1], [0, 0, 0, 0, 0, 0, 0, 0, 0, 0, 0, 0, 0, 1], [0, 0, 1, 0, 0, 1], [0, 0, 0, 1, 1]], ((0, 0), [])), (0, [16], [[0, 0, 0, 0, 0, 0, 0, 0, 0, 0, 0, 0, 1], [0, 0, 0, 0, 0, 0, 0, 0, 0, 0, 0, 0, 0, 1], [0, 0, 1, 0, 0, 1], [0, 0, 0, 1, 1]], ((0, 0), [])), (2, [1, 0, 1], [[1], [0, 1]], ((0, 0), [])), (0, [13], [[0, 0, 0, 0, 0, 0, 0, 0, 1], [0, 0, 0, 0, 0, 0, 0, 0, 0, 1], [1, 0, 0, 0, 0, 0, 0, 0, 0, 0, 1], [0, 1, 0, 0, 0, 0, 0, 0, 0, 0, 0, 1]], ((0, 0), []))]) (by decide +kernel)
theorem zx_gv332_ok {PT : Nat → zz_W → Prop} : zx_Vok 64 zHT PT (zu_Vw 7 63 63 [] [((0, 0), [(0, 1, 0), (2, 0, 1)]), ((0, 0), [(0, 0, 1), (2, 1, 0)]), ((0, 2), [(1, 1, 0)]), ((2, 0), [(1, 0, 1)]), ((0, 2), [(3, 1, 0)]), ((2, 0), [(3, 0, 1)]), ((0, 1536), [(5, 1, 0)]), ((1595, 0), [(5, 0, 1)])]) := zu_Vw_ok (hs := [(1, [], [], ((0, 1), [(4, 0, 1), (6, 1, 0)])), (2, [4, 0, 0], [[], [], [], [1]], ((0, 0), [])), (3, [], [], ((0, 0), [])), (0, [1], [[1, 0, 0, 0, 1]], ((0, 0), [])), (0, [2], [[1, 1]], ((0, 0), [])), (0, [0], [[0, 1, 0, 0, 0, 0, 0, 0, 0, 1]], ((0, 0), [])), (0, [0], [[0, 1, 0, 0, 0, 0, 0, 0, 0, 1]], ((0, 0), [])), (0, [0], [[0, 1, 0, 0, 0, 0, 0, 0, 0, 1]], ((0, 0), [])), (0, [0], [[0, 1, 0, 0, 0, 0, 0, 0, 0, 1]], ((0, 0), [])), (0, [0], [[0, 1, 0, 0, 0, 0, 0, 0, 0, 1]], ((0, 0), [])), (0, [0], [[0, 1, 0, 0, 0, 0, 0, 0, 0, 1]], ((0, 0), [])), (0, [0], [[0, 1, 0, 0, 0, 0, 0, 0, 0, 1]], ((0, 0), [])), (0, [0], [[0, 1, 0, 0, 0, 0, 0, 0, 0, 1]], ((0, 0), [])), (0, [11], [[0, 0, 0, 0, 0, 0, 0, 0, 0, 0, 0, 1], [0, 0, 0, 0, 0, 0, 0, 0, 0, 0, 0, 0, 1], [0, 0, 1, 0, 0, 1], [0, 0, 0, 1, 1]], ((0, 0), [])), (0, [12], [[0, 0, 0, 0, 0, 0, 0, 0, 0, 0, 0, 1], [0, 0, 0, 0, 0, 0, 0, 0, 0, 0, 0, 0, 1], [0, 0, 1, 0, 0, 1], [0, 0, 0, 1, 1]], ((0, 0), [])), (0, [13], [[0, 0, 0, 0, 0, 0, 0, 0, 0, 0, 0, 1], [0, 0, 0, 0, 0, 0, 0, 0, 0, 0, 0, 0, 1], [0, 0, 1, 0, 0, 1], [0, 0, 0, 1, 1]], ((0, 0), [])), (0, [14], [[0, 0, 0, 0, 0, 0, 0, 0, 0, 0, 0, 1], [0, 0, 0, 0, 0, 0, 0, 0, 0, 0, 0, 0, 1], [0, 0, 1, 0, 0, 1], [0, 0, 0, 1, 1]], ((0, 0), [])), (0, [15], [[0, 0, 0, 0, 0, 0, 0, 0, 0, 0, 0, 1], [0, 0, 0, 0, 0, 0, 0, 0, 0, 0, 0, 0, 1], [0, 0, 1, 0, 0, 1], [0, 0, 0, 1, 1]], ((0, 0), [])), (0, [16], [[0, 0, 0, 0, 0, 0, 0, 0, 0, 0, 0, 1], [0, 0, 0, 0, 0, 0, 0, 0, 0, 0, 0, 0, 1], [0, 0, 1, 0, 0, 1], [0, 0, 0, 1, 1]], ((0, 0), [])), (1, [], [], ((0, 1), [(4, 1, 0), (6, 0, 1)])), (2, [3, 0, 0], [[], [], [], [1]], ((0, 0), [])), (3, [], [], ((0, 0), [])), (0, [1], [[1, 0, 0, 0, 0, 1]], ((0, 0), [])), (0, [2], [[1, 1]], ((0, 0), [])), (0, [0], [[0, 1, 0, 0, 0, 0, 0, 0, 0, 0, 1]], ((0, 0), [])), (0, [0], [[0, 1, 0, 0, 0, 0, 0, 0, 0, 0, 1]], ((0, 0), [])), (0, [0], [[0, 1, 0, 0, 0, 0, 0, 0, 0, 0, 1]], ((0, 0), [])), (0, [0], [[0, 1, 0, 0, 0, 0, 0, 0, 0, 0, 1]], ((0, 0), [])), (0, [0], [[0, 1, 0, 0, 0, 0, 0, 0, 0, 0, 1]], ((0, 0), [])), (0, [0], [[0, 1, 0, 0, 0, 0, 0, 0, 0, 0, 1]], ((0, 0), [])), (0, [0], [[0, 1, 0, 0, 0, 0, 0, 0, 0, 0, 1]], ((0, 0), [])), (0, [0], [[0, 1, 0, 0, 0, 0, 0, 0, 0, 0, 1]], ((0, 0), [])), (0, [11], [[0, 0, 0, 0, 0, 0, 0, 0, 0, 0, 0, 0, 1], [0, 0, 0, 0, 0, 0, 0, 0, 0, 0, 0, 0, 0, 1], [0, 0, 1, 0, 0, 1], [0, 0, 0, 1, 1]], ((0, 0), [])), (0, [12], [[0, 0, 0, 0, 0, 0, 0, 0, 0, 0, 0, 0, 1], [0, 0, 0, 0, 0, 0, 0, 0, 0, 0, 0, 0, 0, 1], [0, 0, 1, 0, 0, 1], [0, 0, 0, 1, 1]], ((0, 0), [])), (0, [13], [[0, 0, 0, 0, 0, 0, 0, 0, 0, 0, 0, 0, 1], [0, 0, 0, 0, 0, 0, 0, 0, 0, 0, 0, 0, 0, 1], [0, 0, 1, 0, 0, 1], [0, 0, 0, 1, 1]], ((0, 0), [])), (0, [14], [[0, 0, 0, 0, 0, 0, 0, 0, 0, 0, 0, 0, 1], [0, 0, 0, 0, 0, 0, 0, 0, 0, 0, 0, 0, 0, 1], [0, 0, 1, 0, 0, 1], [0, 0, 0, 1, 1]], ((0, 0), [])), (0, [15], [[0, 0, 0, 0, 0, 0, 0, 0, 0, 0, 0, 0, 1], [0, 0, 0, 0, 0, 0, 0, 0, 0, 0, 0, 0, 0, 1], [0, 0, 1, 0, 0, 1], [0, 0, 0, 1, 1]], ((0, 0), [])), (0, [16], [[0, 0, 0, 0, 0, 0, 0, 0, 0, 0, 0, 0, 1], [0, 0, 0, 0, 0, 0, 0, 0, 0, 0, 0, 0, 0, 1], [0, 0, 1, 0, 0, 1], [0, 0, 0, 1, 1]], ((0, 0), [])), (2, [1, 0, 1], [[1], [0, 1]], ((0, 0), [])), (0, [14], [[0, 0, 0, 0, 0, 0, 0, 0, 1], [0, 0, 0, 0, 0, 0, 0, 0, 0, 1], [1, 0, 0, 0, 0, 0, 0, 0, 0, 0, 1], [0, 1, 0, 0, 0, 0, 0, 0, 0, 0, 0, 1]], ((0, 0), []))]) (by decide +kernel)
theorem zx_gv333_ok {PT : Nat → zz_W → Prop} : zx_Vok 64 zHT PT (zu_Vw 7 63 63 [] [((0, 0), [(0, 1, 0), (2, 0, 1)]), ((0, 0), [(0, 0, 1), (2, 1, 0)]), ((0, 2), [(1, 1, 0)]), ((2, 0), [(1, 0, 1)]), ((0, 2), [(3, 1, 0)]), ((2, 0), [(3, 0, 1)]), ((0, 2048), [(5, 1, 0)]), ((2107, 0), [(5, 0, 1)])]) := zu_Vw_ok (hs := [(1, [], [], ((0, 1), [(4, 0, 1), (6, 1, 0)])), (2, [4, 0, 0], [[], [], [], [1]], ((0, 0), [])), (3, [], [], ((0, 0), [])), (0, [1], [[1, 0, 0, 0, 1]], ((0, 0), [])), (0, [2], [[1, 1]], ((0, 0), [])), (0, [0], [[0, 1, 0, 0, 0, 0, 0, 0, 0, 1]], ((0, 0), [])), (0, [0], [[0, 1, 0, 0, 0, 0, 0, 0, 0, 1]], ((0, 0), [])), (0, [0], [[0, 1, 0, 0, 0, 0, 0, 0, 0, 1]], ((0, 0), [])), (0, [0], [[0, 1, 0, 0, 0, 0, 0, 0, 0, 1]], ((0, 0), [])), (0, [0], [[0, 1, 0, 0, 0, 0, 0, 0, 0, 1]], ((0, 0), [])), (0, [0], [[0, 1, 0, 0, 0, 0, 0, 0, 0, 1]], ((0, 0), [])), (0, [0], [[0, 1, 0, 0, 0, 0, 0, 0, 0, 1]], ((0, 0), [])), (0, [0], [[0, 1, 0, 0, 0, 0, 0, 0, 0, 1]], ((0, 0), [])), (0, [11], [[0, 0, 0, 0, 0, 0, 0, 0, 0, 0, 0, 1], [0, 0, 0, 0, 0, 0, 0, 0, 0, 0, 0, 0, 1], [0, 0, 1, 0, 0, 1], [0, 0, 0, 1, 1]], ((0, 0), [])), (0, [12], [[0, 0, 0, 0, 0, 0, 0, 0, 0, 0, 0, 1], [0, 0, 0, 0, 0, 0, 0, 0, 0, 0, 0, 0, 1], [0, 0, 1, 0, 0, 1], [0, 0, 0, 1, 1]], ((0, 0), [])), (0, [13], [[0, 0, 0, 0, 0, 0, 0, 0, 0, 0, 0, 1], [0, 0, 0, 0, 0, 0, 0, 0, 0, 0, 0, 0, 1], [0, 0, 1, 0, 0, 1], [0, 0, 0, 1, 1]], ((0, 0), [])), (0, [14], [[0, 0, 0, 0, 0, 0, 0, 0, 0, 0, 0, 1], [0, 0, 0, 0, 0, 0, 0, 0, 0, 0, 0, 0, 1], [0, 0, 1, 0, 0, 1], [0, 0, 0, 1, 1]], ((0, 0), [])), (0, [15], [[0, 0, 0, 0, 0, 0, 0, 0, 0, 0, 0, 1], [0, 0, 0, 0, 0, 0, 0, 0, 0, 0, 0, 0, 1], [0, 0, 1, 0, 0, 1], [0, 0, 0, 1, 1]], ((0, 0), [])), (0, [16], [[0, 0, 0, 0, 0, 0, 0, 0, 0, 0, 0, 1], [0, 0, 0, 0, 0, 0, 0, 0, 0, 0, 0, 0, 1], [0, 0, 1, 0, 0, 1], [0, 0, 0, 1, 1]], ((0, 0), [])), (1, [], [], ((0, 1), [(4, 1, 0), (6, 0, 1)])), (2, [3, 0, 0], [[], [], [], [1]], ((0, 0), [])), (3, [], [], ((0, 0), [])), (0, [1], [[1, 0, 0, 0, 0, 1]], ((0, 0), [])), (0, [2], [[1, 1]], ((0, 0), [])), (0, [0], [[0, 1, 0, 0, 0, 0, 0, 0, 0, 0, 1]], ((0, 0), [])), (0, [0], [[0, 1, 0, 0, 0, 0, 0, 0, 0, 0, 1]], ((0, 0), [])), (0, [0], [[0, 1, 0, 0, 0, 0, 0, 0, 0, 0, 1]], ((0, 0), [])), (0, [0], [[0, 1, 0, 0, 0, 0, 0, 0, 0, 0, 1]], ((0, 0), [])), (0, [0], [[0, 1, 0, 0, 0, 0, 0, 0, 0, 0, 1]], ((0, 0), [])), (0, [0], [[0, 1, 0, 0, 0, 0, 0, 0, 0, 0, 1]], ((0, 0), [])), (0, [0], [[0, 1, 0, 0, 0, 0, 0, 0, 0, 0, 1]], ((0, 0), [])), (0, [0], [[0, 1, 0, 0, 0, 0, 0, 0, 0, 0, 1]], ((0, 0), [])), (0, [11], [[0, 0, 0, 0, 0, 0, 0, 0, 0, 0, 0, 0, 1], [0, 0, 0, 0, 0, 0, 0, 0, 0, 0, 0, 0, 0, 1], [0, 0, 1, 0, 0, 1], [0, 0, 0, 1, 1]], ((0, 0), [])), (0, [12], [[0, 0, 0, 0, 0, 0, 0, 0, 0, 0, 0, 0, 1], [0, 0, 0, 0, 0, 0, 0, 0, 0, 0, 0, 0, 0, 1], [0, 0, 1, 0, 0, 1], [0, 0, 0, 1, 1]], ((0, 0), [])), (0, [13], [[0, 0, 0, 0, 0, 0, 0, 0, 0, 0, 0, 0, 1], [0, 0, 0, 0, 0, 0, 0, 0, 0, 0, 0, 0, 0, 1], [0, 0, 1, 0, 0, 1], [0, 0, 0, 1, 1]], ((0, 0), [])), (0, [14], [[0, 0, 0, 0, 0, 0, 0, 0, 0, 0, 0, 0, 1], [0, 0, 0, 0, 0, 0, 0, 0, 0, 0, 0, 0, 0, 1], [0, 0, 1, 0, 0, 1], [0, 0, 0, 1, 1]], ((0, 0), [])), (0, [15], [[0, 0, 0, 0, 0, 0, 0, 0, 0, 0, 0, 0, 1], [0, 0, 0, 0, 0, 0, 0, 0, 0, 0, 0, 0, 0, 1], [0, 0, 1, 0, 0, 1], [0, 0, 0, 1, 1]], ((0, 0), [])), (0, [16], [[0, 0, 0, 0, 0, 0, 0, 0, 0, 0, 0, 0, 1], [0, 0, 0, 0, 0, 0, 0, 0, 0, 0, 0, 0, 0, 1], [0, 0, 1, 0, 0, 1], [0, 0, 0, 1, 1]], ((0, 0), [])), (2, [1, 0, 1], [[1], [0, 1]], ((0, 0), [])), (0, [15], [[0, 0, 0, 0, 0, 0, 0, 0, 1], [0, 0, 0, 0, 0, 0, 0, 0, 0, 1], [1, 0, 0, 0, 0, 0, 0, 0, 0, 0, 1], [0, 1, 0, 0, 0, 0, 0, 0, 0, 0, 0, 1]], ((0, 0), []))]) (by decide +kernel)
theorem zx_gv334_ok {PT : Nat → zz_W → Prop} : zx_Vok 64 zHT PT (zu_Vw 7 63 63 [] [((0, 0), [(0, 1, 0), (2, 0, 1)]), ((0, 0), [(0, 0, 1), (2, 1, 0)]), ((0, 2), [(1, 1, 0)]), ((2, 0), [(1, 0, 1)]), ((0, 2), [(3, 1, 0)]), ((2, 0), [(3, 0, 1)]), ((0, 2560), [(5, 1, 0)]), ((2619, 0), [(5, 0, 1)])]) := zu_Vw_ok (hs := [(1, [], [], ((0, 1), [(4, 0, 1), (6, 1, 0)])), (2, [4, 0, 0], [[], [], [], [1]], ((0, 0), [])), (3, [], [], ((0, 0), [])), (0, [1], [[1, 0, 0, 0, 1]], ((0, 0), [])), (0, [2], [[1, 1]], ((0, 0), [])), (0, [0], [[0, 1, 0, 0, 0, 0, 0, 0, 0, 1]], ((0, 0), [])), (0, [0], [[0, 1, 0, 0, 0, 0, 0, 0, 0, 1]], ((0, 0), [])), (0, [0], [[0, 1, 0, 0, 0, 0, 0, 0, 0, 1]], ((0, 0), [])), (0, [0], [[0, 1, 0, 0, 0, 0, 0, 0, 0, 1]], ((0, 0), [])), (0, [0], [[0, 1, 0, 0, 0, 0, 0, 0, 0, 1]], ((0, 0), [])), (0, [0], [[0, 1, 0, 0, 0, 0, 0, 0, 0, 1]], ((0, 0), [])), (0, [0], [[0, 1, 0, 0, 0, 0, 0, 0, 0, 1]], ((0, 0), [])), (0, [0], [[0, 1, 0, 0, 0, 0, 0, 0, 0, 1]], ((0, 0), [])), (0, [11], [[0, 0, 0, 0, 0, 0, 0, 0, 0, 0, 0, 1], [0, 0, 0, 0, 0, 0, 0, 0, 0, 0, 0, 0, 1], [0, 0, 1, 0, 0, 1], [0, 0, 0, 1, 1]], ((0, 0), [])), (0, [12], [[0, 0, 0, 0, 0, 0, 0, 0, 0, 0, 0, 1], [0, 0, 0, 0, 0, 0, 0, 0, 0, 0, 0, 0, 1], [0, 0, 1, 0, 0, 1], [0, 0, 0, 1, 1]], ((0, 0), [])), (0, [13], [[0, 0, 0, 0, 0, 0, 0, 0, 0, 0, 0, 1], [0, 0, 0, 0, 0, 0, 0, 0, 0, 0, 0, 0, 1], [0, 0, 1, 0, 0, 1], [0, 0, 0, 1, 1]], ((0, 0), [])), (0, [14], [[0, 0, 0, 0, 0, 0, 0, 0, 0, 0, 0, 1], [0, 0, 0, 0, 0, 0, 0, 0, 0, 0, 0, 0, 1], [0, 0, 1, 0, 0, 1], [0, 0, 0, 1, 1]], ((0, 0), [])), (0, [15], [[0, 0, 0, 0, 0, 0, 0, 0, 0, 0, 0, 1], [0, 0, 0, 0, 0, 0, 0, 0, 0, 0, 0, 0, 1], [0, 0, 1, 0, 0, 1], [0, 0, 0, 1, 1]], ((0, 0), [])), (0, [16], [[0, 0, 0, 0, 0, 0, 0, 0, 0, 0, 0, 1], [0, 0, 0, 0, 0, 0, 0, 0, 0, 0, 0, 0, 1], [0, 0, 1, 0, 0, 1], [0, 0, 0, 1, 1]], ((0, 0), [])), (1, [], [], ((0, 1), [(4, 1, 0), (6, 0, 1)])), (2, [3, 0, 0], [[], [], [], [1]], ((0, 0), [])), (3, [], [], ((0, 0), [])), (0, [1], [[1, 0, 0, 0, 0, 1]], ((0, 0), [])), (0, [2], [[1, 1]], ((0, 0), [])), (0, [0], [[0, 1, 0, 0, 0, 0, 0, 0, 0, 0, 1]], ((0, 0), [])), (0, [0], [[0, 1, 0, 0, 0, 0, 0, 0, 0, 0, 1]], ((0, 0), [])), (0, [0], [[0, 1, 0, 0, 0, 0, 0, 0, 0, 0, 1]], ((0, 0), [])), (0, [0], [[0, 1, 0, 0, 0, 0, 0, 0, 0, 0, 1]], ((0, 0), [])), (0, [0], [[0, 1, 0, 0, 0, 0, 0, 0, 0, 0, 1]], ((0, 0), [])), (0, [0], [[0, 1, 0, 0, 0, 0, 0, 0, 0, 0, 1]], ((0, 0), [])), (0, [0], [[0, 1, 0, 0, 0, 0, 0, 0, 0, 0, 1]], ((0, 0), [])), (0, [0], [[0, 1, 0, 0, 0, 0, 0, 0, 0, 0, 1]], ((0, 0), [])), (0, [11], [[0, 0, 0, 0, 0, 0, 0, 0, 0, 0, 0, 0, 1], [0, 0, 0, 0, 0, 0, 0, 0, 0, 0, 0, 0, 0, 1], [0, 0, 1, 0, 0, 1], [0, 0, 0, 1, 1]], ((0, 0), [])), (0, [12], [[0, 0, 0, 0, 0, 0, 0, 0, 0, 0, 0, 0, 1], [0, 0, 0, 0, 0, 0, 0, 0, 0, 0, 0, 0, 0, 1], [0, 0, 1, 0, 0, 1], [0, 0, 0, 1, 1]], ((0, 0), [])), (0, [13], [[0, 0, 0, 0, 0, 0, 0, 0, 0, 0, 0, 0, 1], [0, 0, 0, 0, 0, 0, 0, 0, 0, 0, 0, 0, 0, 1], [0, 0, 1, 0, 0, 1], [0, 0, 0, 1, 1]], ((0, 0), [])), (0, [14], [[0, 0, 0, 0, 0, 0, 0, 0, 0, 0, 0, 0, 1], [0, 0, 0, 0, 0, 0, 0, 0, 0, 0, 0, 0, 0, 1], [0, 0, 1, 0, 0, 1], [0, 0, 0, 1, 1]], ((0, 0), [])), (0, [15], [[0, 0, 0, 0, 0, 0, 0, 0, 0, 0, 0, 0, 1], [0, 0, 0, 0, 0, 0, 0, 0, 0, 0, 0, 0, 0, 1], [0, 0, 1, 0, 0, 1], [0, 0, 0, 1, 1]], ((0, 0), [])), (0, [16], [[0, 0, 0, 0, 0, 0, 0, 0, 0, 0, 0, 0, 1], [0, 0, 0, 0, 0, 0, 0, 0, 0, 0, 0, 0, 0, 1], [0, 0, 1, 0, 0, 1], [0, 0, 0, 1, 1]], ((0, 0), [])), (2, [1, 0, 1], [[1], [0, 1]], ((0, 0), [])), (0, [16], [[0, 0, 0, 0, 0, 0, 0, 0, 1], [0, 0, 0, 0, 0, 0, 0, 0, 0, 1], [1, 0, 0, 0, 0, 0, 0, 0, 0, 0, 1], [0, 1, 0, 0, 0, 0, 0, 0, 0, 0, 0, 1]], ((0, 0), []))]) (by decide +kernel)
theorem zx_gv340_ok {PT : Nat → zz_W → Prop} : zx_Vok 64 zHT PT (zu_Vw 19 69 69 [] [((0, 0), [(0, 1, 0), (2, 0, 1)]), ((0, 0), [(0, 0, 1), (2, 1, 0)]), ((0, 0), [(1, 1, 0), (3, 0, 1)]), ((0, 0), [(1, 0, 1), (3, 1, 0)]), ((0, 0), [(0, 0, 3), (4, 1, 0)])]) := zu_Vw_ok (hs := [(1, [], [], ((0, 1), [(4, 0, 1), (6, 3, 0)])), (2, [4, 0, 0], [[], [], [], [1]], ((0, 0), [])), (2, [4, 1, 1], [[], [], [], [0, 0, 1]], ((0, 0), [])), (3, [], [], ((0, 0), [])), (0, [1], [[1, 0, 0, 0, 0, 0, 1]], ((0, 0), [])), (0, [2], [[1, 0, 0, 0, 1]], ((0, 0), [])), (0, [3], [[1, 0, 0, 0, 0, 0, 0, 1], [0, 1, 0, 0, 0, 0, 1], [0, 0, 1, 0, 0, 1], [1000000, 1000000, 0, 1, 1, 0, 0, 0, 0, 0, 0, 9999999, 10000000]], ((0, 0), [])), (1, [], [], ((0, 1), [(4, 1, 0), (6, 0, 3)])), (2, [3, 0, 0], [[], [], [], [1]], ((0, 0), [])), (1, [], [], ((1, 0), [(4, 0, 1), (6, 3, 0)])), (2, [4, 1, 1], [[], [], [], [1]], ((0, 0), [])), (3, [], [], ((0, 0), [])), (0, [1], [[1, 0, 0, 0, 0, 0, 0, 0, 1]], ((0, 0), [])), (0, [2], [[1, 0, 0, 0, 0, 1]], ((0, 0), [])), (0, [3], [[1, 0, 0, 0, 0, 0, 0, 0, 1], [0, 1, 0, 0, 0, 0, 0, 1], [0, 0, 1, 0, 0, 1], [1000000, 1000000, 0, 1, 1, 0, 0, 0, 0, 0, 0, 0, 0, 9999999, 10000000]], ((0, 0), [])), (1, [], [], ((0, 3), [(4, 1, 0), (6, 0, 3)])), (2, [3, 1, 1], [[], [], [], [1]], ((0, 0), [])), (3, [], [], ((0, 0), [])), (0, [1], [[1, 0, 0, 0, 0, 0, 0, 0, 0, 1]], ((0, 0), [])), (0, [2], [[1, 0, 0, 0, 0, 0, 1]], ((0, 0), [])), (0, [3], [[1, 0, 0, 0, 0, 0, 0, 0, 0, 1], [0, 1, 0, 0, 0, 0, 0, 0, 1], [0, 0, 1, 0, 0, 1], [1000000, 1000000, 0, 1, 1, 0, 0, 0, 0, 0, 0, 0, 0, 0, 9999999, 10000000]], ((0, 0), [])), (2, [1, 1, 2], [[1], [0, 1]], ((0, 0), [])), (3, [], [], ((0, 0), [])), (0, [1], [[1, 0, 0, 0, 0, 0, 0, 0, 0, 1]], ((0, 0), [])), (0, [2], [[1, 0, 0, 0, 0, 0, 1]], ((0, 0), [])), (1, [], [], ((0, 0), [(0, 0, 1), (6, 1, 0)])), (0, [1], [[1, 0, 0, 0, 0, 0, 0, 0, 0, 0, 0, 0, 0, 1]], ((0, 0), [])), (0, [0], [[9999999, 1000000, 1000000, 0, 0, 0, 0, 3333333, 0, 0, 0, 0, 0, 0, 0, 0, 0, 3333333]], ((0, 0), [])), (2, [4, 1, 1], [[], [], [], [1]], ((0, 0), [])), (2, [1, 0, 2], [[0, 0, 1], [0, 0, 0, 1]], ((0, 0), [])), (3, [], [], ((0, 0), [])), (0, [1], [[1, 0, 0, 0, 0, 0, 0, 1]], ((0, 0), [])), (1, [], [], ((0, 0), [(0, 0, 1), (6, 1, 0)])), (0, [1], [[1, 0, 0, 0, 0, 0, 0, 0, 1]], ((0, 0), [])), (0, [0], [[9999999, 0, 0, 0, 0, 0, 3333333, 0, 0, 0, 0, 0, 3333333]], ((0, 0), [])), (1, [], [], ((0, 0), [(0, 0, 1), (6, 1, 0)])), (0, [1], [[1, 0, 0, 0, 0, 0, 0, 0, 0, 0, 0, 1]], ((0, 0), [])), (0, [0], [[9999999, 1000000, 1000000, 0, 0, 0, 0, 0, 0, 3333333, 0, 0, 0, 0, 0, 3333333]], ((0, 0), []))]) (by decide +kernel)
theorem zx_gv341_ok {PT : Nat → zz_W → Prop} : zx_Vok 64 zHT PT (zu_Vw 7 62 62 [] [((0, 0), [(0, 1, 0), (1, 0, 1)]), ((0, 0), [(0, 0, 1), (1, 1, 0)]), ((511, 0), [(3, 0, 1)])]) := zu_Vw_ok (hs := [(2, [2, 1, 1], [[], []], ((0, 0), [])), (1, [], [], ((0, 1), [(2, 0, 1), (4, 1, 0)])), (2, [4, 0, 0], [[], [], [], [1]], ((0, 0), [])), (3, [], [], ((0, 0), [])), (0, [1], [[1, 0, 0, 0, 0, 0, 1]], ((0, 0), [])), (0, [2], [[1, 0, 0, 1], [0, 1, 0, 0, 0, 0, 0, 1], [0, 0, 1, 0, 0, 0, 1]], ((0, 0), [])), (1, [], [], ((0, 1), [(2, 1, 0), (4, 0, 1)])), (2, [3, 0, 0], [[], [], [], [1]], ((0, 0), [])), (3, [], [], ((0, 0), [])), (0, [1], [[1, 0, 0, 0, 0, 0, 0, 1]], ((0, 0), [])), (0, [2], [[1, 0, 0, 1], [0, 1, 0, 0, 0, 0, 0, 0, 1], [0, 0, 1, 0, 0, 0, 0, 1]], ((0, 0), [])), (2, [1, 0, 2], [[1], [0, 1]], ((0, 0), [])), (3, [], [], ((0, 0), [])), (0, [1], [[1, 0, 0, 0, 0, 0, 0, 1]], ((0, 0), [])), (0, [2], [[0, 0, 0, 0, 1, 0, 0, 0, 0, 0, 0, 1], [0, 1, 0, 0, 0, 0, 0, 0, 1], [0, 0, 1, 0, 0, 0, 0, 1]], ((0, 0), []))]) (by decide +kernel)
theorem zx_gv342_ok {PT : Nat → zz_W → Prop} : zx_Vok 64 zHT PT (zu_Vw 9 62 62 [] [((0, 0), [(0, 1, 0), (1, 0, 1)]), ((0, 0), [(0, 0, 1), (1, 1, 0)]), ((0, 0), [(3, 1, 0)]), ((750, 0), [(3, 0, 1)])]) := zu_Vw_ok (hs := [(2, [2, 0, 0], [[], []], ((0, 0), [])), (1, [], [], ((0, 1), [(2, 0, 1), (4, 1, 0)])), (2, [4, 1, 1], [[], [], [], [1]], ((0, 0), [])), (3, [], [], ((0, 0), [])), (0, [1], [[1, 0, 0, 0, 0, 0, 1]], ((0, 0), [])), (0, [2], [[1, 0, 0, 0, 0, 0, 1], [0, 1, 0, 0, 1], [0, 0, 1, 1]], ((0, 0), [])), (1, [], [], ((0, 1), [(2, 1, 0), (4, 0, 1)])), (2, [3, 1, 1], [[], [], [], [1]], ((0, 0), [])), (3, [], [], ((0, 0), [])), (0, [1], [[1, 0, 0, 0, 0, 0, 0, 1]], ((0, 0), [])), (0, [2], [[1, 0, 0, 0, 0, 0, 0, 1], [0, 1, 0, 0, 1], [0, 0, 1, 1]], ((0, 0), [])), (2, [1, 1, 2], [[1], [0, 1]], ((0, 0), [])), (3, [], [], ((0, 0), [])), (0, [1], [[1, 0, 0, 0, 0, 0, 0, 1]], ((0, 0), [])), (0, [2], [[1, 0, 0, 0, 0, 0, 0, 1], [0, 0, 0, 1, 0, 0, 0, 0, 0, 0, 0, 1], [0, 0, 0, 0, 1, 0, 0, 0, 0, 0, 0, 0, 1]], ((0, 0), []))]) (by decide +kernel)
theorem zx_gv343_ok {PT : Nat → zz_W → Prop} : zx_Vok 64 zHT PT (zu_Vw 20 72 72 [] [((0, 0), [(0, 1, 0), (2, 0, 1)]), ((0, 0), [(0, 0, 1), (2, 1, 0)]), ((0, 0), [(1, 1, 0), (3, 0, 1)]), ((0, 0), [(1, 0, 1), (3, 1, 0)]), ((0, 0), [(0, 0, 6), (4, 1, 0)])]) := zu_Vw_ok (hs := [(1, [], [], ((0, 1), [(4, 0, 1), (6, 6, 0)])), (2, [4, 0, 0], [[], [], [], [1]], ((0, 0), [])), (3, [], [], ((0, 0), [])), (0, [1], [[1, 0, 0, 0, 1]], ((0, 0), [])), (0, [2], [[1, 1, 0, 0, 0, 0, 9999999, 10000000]], ((0, 0), [])), (1, [], [], ((0, 1), [(4, 1, 0), (6, 0, 6)])), (2, [3, 0, 0], [[], [], [], [1]], ((0, 0), [])), (3, [], [], ((0, 0), [])), (0, [1], [[1, 0, 0, 0, 0, 1]], ((0, 0), [])), (0, [2], [[1, 1, 0, 0, 0, 0, 0, 9999999, 10000000]], ((0, 0), [])), (2, [1, 0, 1], [[1], [0, 1]], ((0, 0), [])), (3, [], [], ((0, 0), [])), (0, [1], [[1, 0, 0, 0, 0, 1]], ((0, 0), [])), (1, [], [], ((0, 0), [(0, 0, 1), (6, 1, 0)])), (0, [1], [[1, 0, 0, 0, 0, 0, 1]], ((0, 0), [])), (0, [0], [[9999996, 0, 0, 0, 1666666, 0, 0, 0, 0, 0, 1666666]], ((0, 0), []))]) (by decide +kernel)
theorem zx_gv344_ok {PT : Nat → zz_W → Prop} : zx_Vok 64 zHT PT (zu_Vw 20 72 72 [20] [((0, 0), [(0, 1, 0), (2, 0, 1)]), ((0, 0), [(0, 0, 1), (2, 1, 0)]), ((0, 0), [(1, 1, 0), (3, 0, 1)]), ((0, 0), [(1, 0, 1), (3, 1, 0)]), ((0, 2), [(4, 1, 0), (6, 0, 6)]), ((2, 0), [(4, 0, 1), (6, 6, 0)])]) := zu_Vw_ok (hs := [(1, [], [], ((0, 1), [(4, 0, 1), (8, 6, 0)])), (2, [4, 0, 0], [[], [], [], [1]], ((0, 0), [])), (3, [], [], ((0, 0), [])), (0, [1], [[1, 0, 0, 0, 1]], ((0, 0), [])), (0, [2], [[1, 1, 0, 0, 0, 0, 9999999, 10000000]], ((0, 0), [])), (1, [], [], ((0, 1), [(4, 1, 0), (8, 0, 6)])), (2, [3, 0, 0], [[], [], [], [1]], ((0, 0), [])), (3, [], [], ((0, 0), [])), (0, [1], [[1, 0, 0, 0, 0, 1]], ((0, 0), [])), (0, [2], [[1, 1, 0, 0, 0, 0, 0, 9999999, 10000000]], ((0, 0), [])), (2, [1, 0, 1], [[1], [0, 1]], ((0, 0), [])), (3, [], [], ((0, 0), [])), (0, [1], [[1, 0, 0, 0, 0, 1]], ((0, 0), [])), (1, [], [], ((0, 1), [(6, 0, 1), (8, 1, 0)])), (0, [0], [[9999996, 0, 0, 0, 0, 1666666, 0, 0, 0, 0, 0, 1666666]], ((0, 0), [])), (0, [0], [[9999996, 0, 0, 0, 1666666, 0, 0, 0, 0, 0, 1666666]], ((0, 0), []))]) (by decide +kernel)
theorem zx_gv345_ok {PT : Nat → zz_W → Prop} : zx_Vok 64 zHT PT (zu_Vw 20 72 72 [20] [((0, 0), [(0, 1, 0), (2, 0, 1)]), ((0, 0), [(0, 0, 1), (2, 1, 0)]), ((0, 0), [(1, 1, 0), (3, 0, 1)]), ((0, 0), [(1, 0, 1), (3, 1, 0)]), ((0, 5), [(4, 1, 0), (6, 0, 6)]), ((5, 0), [(4, 0, 1), (6, 6, 0)])]) := zu_Vw_ok (hs := [(1, [], [], ((0, 1), [(4, 0, 1), (8, 6, 0)])), (2, [4, 0, 0], [[], [], [], [1]], ((0, 0), [])), (3, [], [], ((0, 0), [])), (0, [1], [[1, 0, 0, 0, 1]], ((0, 0), [])), (0, [2], [[1, 1, 0, 0, 0, 0, 9999999, 10000000]], ((0, 0), [])), (1, [], [], ((0, 1), [(4, 1, 0), (8, 0, 6)])), (2, [3, 0, 0], [[], [], [], [1]], ((0, 0), [])), (3, [], [], ((0, 0), [])), (0, [1], [[1, 0, 0, 0, 0, 1]], ((0, 0), [])), (0, [2], [[1, 1, 0, 0, 0, 0, 0, 9999999, 10000000]], ((0, 0), [])), (2, [1, 0, 1], [[1], [0, 1]], ((0, 0), [])), (3, [], [], ((0, 0), [])), (0, [1], [[1, 0, 0, 0, 0, 1]], ((0, 0), [])), (1, [], [], ((0, 1), [(6, 0, 1), (8, 1, 0)])), (0, [0], [[9999996, 0, 0, 0, 0, 1666666, 0, 0, 0, 0, 0, 1666666]], ((0, 0), [])), (0, [0], [[9999996, 0, 0, 0, 1666666, 0, 0, 0, 0, 0, 1666666]], ((0, 0), []))]) (by decide +kernel)
theorem zx_gv350_ok {PT : Nat → zz_W → Prop} : zx_Vok 64 zHT PT (zu_Vw 41 74 74 [] [((0, 0), [(0, 1, 0), (1, 0, 1)]), ((0, 0), [(0, 0, 1), (1, 1, 0)]), ((0, 0), [(0, 0, 1), (2, 1, 0)])]) := zu_Vw_ok (hs := [(2, [2, 1, 1], [[], []], ((0, 0), [])), (1, [], [], ((0, 1), [(2, 0, 1), (4, 1, 0)])), (0, [1], [[1, 0, 0, 1, 0, 1]], ((0, 0), [])), (1, [], [], ((0, 1), [(2, 1, 0), (4, 0, 1)])), (2, [3, 0, 0], [[], [], [], [1]], ((0, 0), [])), (3, [], [], ((0, 0), [])), (0, [1], [[1, 0, 0, 0, 0, 0, 0, 1]], ((0, 0), [])), (0, [2], [[1, 0, 0, 0, 0, 1], [0, 1, 0, 0, 1], [0, 0, 1, 0, 0, 0, 0, 0, 0, 1], [0, 0, 0, 1, 0, 0, 0, 0, 1]], ((0, 0), [])), (0, [3], [[1, 0, 0, 1], [0, 1, 1]], ((0, 0), [])), (0, [4], [[1, 0, 0, 0, 0, 1], [0, 1, 0, 0, 1], [0, 0, 1, 0, 0, 0, 0, 0, 0, 1], [0, 0, 0, 1, 0, 0, 0, 0, 1]], ((0, 0), [])), (0, [5], [[1, 0, 1]], ((0, 0), [])), (0, [1], [[1, 0, 0, 0, 1, 0, 1]], ((0, 0), []))]) (by decide +kernel)
theorem zx_gv351_ok {PT : Nat → zz_W → Prop} : zx_Vok 64 zHT PT (zu_Vw 42 74 74 [] [((0, 0), [(0, 1, 0), (1, 0, 1)]), ((0, 0), [(0, 0, 1), (1, 1, 0)]), ((0, 0), [(0, 0, 1), (2, 1, 0)])]) := zu_Vw_ok (hs := [(2, [2, 0, 0], [[], []], ((0, 0), [])), (1, [], [], ((0, 1), [(2, 0, 1), (4, 1, 0)])), (0, [1], [[1, 0, 0, 1, 0, 1]], ((0, 0), [])), (1, [], [], ((0, 1), [(2, 1, 0), (4, 0, 1)])), (2, [3, 1, 1], [[], [], [], [1]], ((0, 0), [])), (3, [], [], ((0, 0), [])), (0, [1], [[1, 0, 0, 0, 0, 0, 0, 1]], ((0, 0), [])), (0, [2], [[1, 0, 0, 0, 0, 0, 0, 0, 0, 1], [0, 1, 0, 0, 0, 0, 0, 0, 1], [0, 0, 1, 0, 0, 1], [0, 0, 0, 1, 1]], ((0, 0), [])), (0, [3], [[1, 0, 0, 0, 0, 0, 0, 1], [0, 1, 0, 0, 0, 0, 1]], ((0, 0), [])), (0, [4], [[1, 0, 0, 0, 0, 0, 0, 0, 0, 1], [0, 1, 0, 0, 0, 0, 0, 0, 1], [0, 0, 1, 0, 0, 1], [0, 0, 0, 1, 1]], ((0, 0), [])), (0, [5], [[1, 0, 0, 0, 0, 0, 1]], ((0, 0), [])), (0, [1], [[1, 0, 0, 0, 1, 0, 1]], ((0, 0), []))]) (by decide +kernel)
theorem zx_gv392_ok {PT : Nat → zz_W → Prop} : zx_Vok 64 zHT PT (zu_Vw 62 76 76 [] [((0, 0), [(0, 1, 0), (2, 0, 1)]), ((0, 0), [(0, 0, 1), (2, 1, 0)]), ((0, 0), [(1, 1, 0), (3, 0, 1)]), ((0, 0), [(1, 0, 1), (3, 1, 0)]), ((0, 0), [(0, 0, 6), (4, 1, 0)])]) := zu_Vw_ok (hs := [(1, [], [], ((0, 1), [(4, 0, 1), (6, 6, 0)])), (2, [4, 0, 0], [[], [], [], [1]], ((0, 0), [])), (2, [4, 1, 1], [[], [], [], [0, 0, 1]], ((0, 0), [])), (3, [], [], ((0, 0), [])), (0, [1], [[1, 0, 0, 0, 0, 0, 1]], ((0, 0), [])), (0, [2], [[1, 0, 0, 0, 0, 0, 0, 0, 0, 1]], ((0, 0), [])), (0, [3], [[1, 0, 0, 0, 0, 0, 0, 1], [0, 1, 0, 0, 0, 0, 1], [0, 0, 1, 0, 0, 1], [0, 0, 0, 1, 1]], ((0, 0), [])), (1, [], [], ((0, 1), [(4, 1, 0), (6, 0, 6)])), (2, [3, 0, 0], [[], [], [], [1]], ((0, 0), [])), (1, [], [], ((1, 0), [(4, 0, 1), (6, 6, 0)])), (2, [4, 1, 1], [[], [], [], [1]], ((0, 0), [])), (3, [], [], ((0, 0), [])), (0, [1], [[1, 0, 0, 0, 0, 0, 0, 0, 1]], ((0, 0), [])), (0, [2], [[1, 0, 0, 0, 0, 0, 0, 0, 0, 0, 0, 1]], ((0, 0), [])), (0, [3], [[1, 0, 0, 0, 0, 0, 0, 0, 1], [0, 1, 0, 0, 0, 0, 0, 1], [0, 0, 1, 0, 0, 1], [0, 0, 0, 1, 1]], ((0, 0), [])), (1, [], [], ((0, 3), [(4, 1, 0), (6, 0, 6)])), (2, [3, 1, 1], [[], [], [], [1]], ((0, 0), [])), (3, [], [], ((0, 0), [])), (0, [1], [[1, 0, 0, 0, 0, 0, 0, 0, 0, 1]], ((0, 0), [])), (0, [2], [[1, 0, 0, 0, 0, 0, 0, 0, 0, 0, 0, 0, 1]], ((0, 0), [])), (0, [3], [[1, 0, 0, 0, 0, 0, 0, 0, 0, 1], [0, 1, 0, 0, 0, 0, 0, 0, 1], [0, 0, 1, 0, 0, 1], [0, 0, 0, 1, 1]], ((0, 0), [])), (2, [1, 1, 2], [[1], [0, 1]], ((0, 0), [])), (3, [], [], ((0, 0), [])), (0, [1], [[1, 0, 0, 0, 0, 0, 0, 0, 0, 1]], ((0, 0), [])), (0, [2], [[1, 0, 0, 0, 0, 0, 0, 0, 0, 0, 0, 0, 1]], ((0, 0), [])), (1, [], [], ((0, 0), [(0, 0, 1), (6, 1, 0)])), (0, [1], [[1, 0, 0, 0, 0, 0, 0, 0, 0, 0, 0, 0, 0, 1]], ((0, 0), [])), (0, [0], [[9999996, 0, 0, 0, 0, 0, 0, 1666666, 0, 0, 0, 0, 0, 0, 0, 0, 0, 1666666]], ((0, 0), [])), (2, [4, 1, 1], [[], [], [], [1]], ((0, 0), [])), (2, [1, 0, 2], [[0, 0, 1], [0, 0, 0, 1]], ((0, 0), [])), (3, [], [], ((0, 0), [])), (0, [1], [[1, 0, 0, 0, 0, 0, 0, 1]], ((0, 0), [])), (0, [2], [[1, 0, 0, 0, 0, 0, 0, 0, 0, 0, 1]], ((0, 0), [])), (1, [], [], ((0, 0), [(0, 0, 1), (6, 1, 0)])), (0, [1], [[1, 0, 0, 0, 0, 0, 0, 0, 0, 0, 0, 1]], ((0, 0), [])), (0, [0], [[9999996, 0, 0, 0, 0, 0, 0, 0, 0, 1666666, 0, 0, 0, 0, 0, 1666666]], ((0, 0), []))]) (by decide +kernel)
theorem zx_gv393_ok {PT : Nat → zz_W → Prop} : zx_Vok 64 zHT PT (zu_Vw 62 76 76 [62] [((0, 0), [(0, 1, 0), (2, 0, 1)]), ((0, 0), [(0, 0, 1), (2, 1, 0)]), ((0, 0), [(1, 1, 0), (3, 0, 1)]), ((0, 0), [(1, 0, 1), (3, 1, 0)]), ((0, 0), [(4, 1, 0), (6, 0, 6)]), ((0, 0), [(4, 0, 1), (6, 6, 0)]), ((0, 1), [(1, 4294967296, 0), (5, 1, 0)]), ((7, 0), [(1, 4294967296, 0), (5, 0, 1)])]) := zu_Vw_ok (hs := [(1, [], [], ((0, 1), [(4, 0, 1), (8, 6, 0)])), (2, [4, 0, 0], [[], [], [], [1]], ((0, 0), [])), (2, [4, 1, 1], [[], [], [], [0, 0, 1]], ((0, 0), [])), (3, [], [], ((0, 0), [])), (0, [1], [[1, 0, 0, 0, 0, 0, 1]], ((0, 0), [])), (0, [2], [[1, 0, 0, 0, 0, 0, 0, 0, 0, 1]], ((0, 0), [])), (0, [3], [[1, 0, 0, 0, 0, 0, 0, 1], [0, 1, 0, 0, 0, 0, 1], [0, 0, 1, 0, 0, 1], [0, 0, 0, 1, 1]], ((0, 0), [])), (1, [], [], ((0, 1), [(4, 1, 0), (8, 0, 6)])), (2, [3, 0, 0], [[], [], [], [1]], ((0, 0), [])), (1, [], [], ((1, 0), [(4, 0, 1), (8, 6, 0)])), (2, [4, 1, 1], [[], [], [], [1]], ((0, 0), [])), (3, [], [], ((0, 0), [])), (0, [1], [[1, 0, 0, 0, 0, 0, 0, 0, 1]], ((0, 0), [])), (0, [2], [[1, 0, 0, 0, 0, 0, 0, 0, 0, 0, 0, 1]], ((0, 0), [])), (0, [3], [[1, 0, 0, 0, 0, 0, 0, 0, 1], [0, 1, 0, 0, 0, 0, 0, 1], [0, 0, 1, 0, 0, 1], [0, 0, 0, 1, 1]], ((0, 0), [])), (1, [], [], ((0, 3), [(4, 1, 0), (8, 0, 6)])), (2, [3, 1, 1], [[], [], [], [1]], ((0, 0), [])), (3, [], [], ((0, 0), [])), (0, [1], [[1, 0, 0, 0, 0, 0, 0, 0, 0, 1]], ((0, 0), [])), (0, [2], [[1, 0, 0, 0, 0, 0, 0, 0, 0, 0, 0, 0, 1]], ((0, 0), [])), (0, [3], [[1, 0, 0, 0, 0, 0, 0, 0, 0, 1], [0, 1, 0, 0, 0, 0, 0, 0, 1], [0, 0, 1, 0, 0, 1], [0, 0, 0, 1, 1]], ((0, 0), [])), (2, [1, 1, 2], [[1], [0, 1]], ((0, 0), [])), (3, [], [], ((0, 0), [])), (0, [1], [[1, 0, 0, 0, 0, 0, 0, 0, 0, 1]], ((0, 0), [])), (0, [2], [[1, 0, 0, 0, 0, 0, 0, 0, 0, 0, 0, 0, 1]], ((0, 0), [])), (1, [], [], ((0, 1), [(1, 1, 0)])), (0, [2], [[1, 0, 0, 0, 0, 0, 0, 0, 0, 0, 0, 0, 0, 0, 0, 0, 1]], ((0, 0), [])), (0, [3], [[0, 1, 0, 0, 0, 0, 0, 0, 0, 0, 1], [0, 0, 1, 0, 0, 0, 0, 0, 0, 1], [4294967296, 0, 0, 0, 0, 1, 0, 0, 0, 0, 0, 0, 0, 0, 0, 0, 0, 0, 0, 1], [4294967296, 0, 0, 0, 0, 0, 1, 0, 0, 0, 0, 0, 0, 0, 0, 0, 0, 0, 0, 0, 1]], ((0, 0), [])), (2, [4, 1, 1], [[], [], [], [1]], ((0, 0), [])), (2, [1, 0, 2], [[0, 0, 1], [0, 0, 0, 1]], ((0, 0), [])), (3, [], [], ((0, 0), [])), (0, [1], [[1, 0, 0, 0, 0, 0, 0, 1]], ((0, 0), [])), (0, [2], [[1, 0, 0, 0, 0, 0, 0, 0, 0, 0, 1]], ((0, 0), [])), (1, [], [], ((0, 1), [(1, 1, 0)])), (0, [2], [[1, 0, 0, 0, 0, 0, 0, 0, 0, 0, 0, 0, 0, 0, 1]], ((0, 0), [])), (0, [3], [[4294967296, 0, 0, 0, 0, 1, 0, 0, 0, 0, 0, 0, 0, 0, 0, 0, 0, 1], [4294967296, 0, 0, 0, 0, 0, 1, 0, 0, 0, 0, 0, 0, 0, 0, 0, 0, 0, 1], [0, 0, 0, 1, 0, 0, 0, 0, 1], [0, 0, 0, 0, 1, 0, 0, 1]], ((0, 0), []))]) (by decide +kernel)
theorem zx_gv394_ok {PT : Nat → zz_W → Prop} : zx_Vok 64 zHT PT (zu_Vw 62 76 76 [62] [((0, 0), [(0, 1, 0), (2, 0, 1)]), ((0, 0), [(0, 0, 1), (2, 1, 0)]), ((0, 0), [(1, 1, 0), (3, 0, 1)]), ((0, 0), [(1, 0, 1), (3, 1, 0)]), ((0, 2), [(4, 1, 0), (6, 0, 6)]), ((2, 0), [(4, 0, 1), (6, 6, 0)]), ((0, 0), [(1, 4294967296, 0), (5, 1, 0)]), ((400, 0), [(1, 4294967296, 0), (5, 0, 1)])]) := zu_Vw_ok (hs := [(1, [], [], ((0, 1), [(4, 0, 1), (8, 6, 0)])), (2, [4, 0, 0], [[], [], [], [1]], ((0, 0), [])), (2, [4, 1, 1], [[], [], [], [0, 0, 1]], ((0, 0), [])), (3, [], [], ((0, 0), [])), (0, [1], [[1, 0, 0, 0, 0, 0, 1]], ((0, 0), [])), (0, [2], [[1, 0, 0, 0, 0, 0, 0, 0, 0, 1]], ((0, 0), [])), (0, [3], [[1, 0, 0, 0, 0, 0, 0, 1], [0, 1, 0, 0, 0, 0, 1], [0, 0, 1, 0, 0, 1], [0, 0, 0, 1, 1]], ((0, 0), [])), (1, [], [], ((0, 1), [(4, 1, 0), (8, 0, 6)])), (2, [3, 0, 0], [[], [], [], [1]], ((0, 0), [])), (1, [], [], ((1, 0), [(4, 0, 1), (8, 6, 0)])), (2, [4, 1, 1], [[], [], [], [1]], ((0, 0), [])), (3, [], [], ((0, 0), [])), (0, [1], [[1, 0, 0, 0, 0, 0, 0, 0, 1]], ((0, 0), [])), (0, [2], [[1, 0, 0, 0, 0, 0, 0, 0, 0, 0, 0, 1]], ((0, 0), [])), (0, [3], [[1, 0, 0, 0, 0, 0, 0, 0, 1], [0, 1, 0, 0, 0, 0, 0, 1], [0, 0, 1, 0, 0, 1], [0, 0, 0, 1, 1]], ((0, 0), [])), (1, [], [], ((0, 3), [(4, 1, 0), (8, 0, 6)])), (2, [3, 1, 1], [[], [], [], [1]], ((0, 0), [])), (3, [], [], ((0, 0), [])), (0, [1], [[1, 0, 0, 0, 0, 0, 0, 0, 0, 1]], ((0, 0), [])), (0, [2], [[1, 0, 0, 0, 0, 0, 0, 0, 0, 0, 0, 0, 1]], ((0, 0), [])), (0, [3], [[1, 0, 0, 0, 0, 0, 0, 0, 0, 1], [0, 1, 0, 0, 0, 0, 0, 0, 1], [0, 0, 1, 0, 0, 1], [0, 0, 0, 1, 1]], ((0, 0), [])), (2, [1, 1, 2], [[1], [0, 1]], ((0, 0), [])), (3, [], [], ((0, 0), [])), (0, [1], [[1, 0, 0, 0, 0, 0, 0, 0, 0, 1]], ((0, 0), [])), (0, [2], [[1, 0, 0, 0, 0, 0, 0, 0, 0, 0, 0, 0, 1]], ((0, 0), [])), (1, [], [], ((0, 1), [(1, 1, 0)])), (0, [2], [[1, 0, 0, 0, 0, 0, 0, 0, 0, 0, 0, 0, 0, 0, 0, 0, 1]], ((0, 0), [])), (0, [3], [[0, 1, 0, 0, 0, 0, 0, 0, 0, 0, 1], [0, 0, 1, 0, 0, 0, 0, 0, 0, 1], [4294967296, 0, 0, 0, 0, 1, 0, 0, 0, 0, 0, 0, 0, 0, 0, 0, 0, 0, 0, 1], [4294967296, 0, 0, 0, 0, 0, 1, 0, 0, 0, 0, 0, 0, 0, 0, 0, 0, 0, 0, 0, 1]], ((0, 0), [])), (2, [4, 1, 1], [[], [], [], [1]], ((0, 0), [])), (2, [1, 0, 2], [[0, 0, 1], [0, 0, 0, 1]], ((0, 0), [])), (3, [], [], ((0, 0), [])), (0, [1], [[1, 0, 0, 0, 0, 0, 0, 1]], ((0, 0), [])), (0, [2], [[1, 0, 0, 0, 0, 0, 0, 0, 0, 0, 1]], ((0, 0), [])), (1, [], [], ((0, 1), [(1, 1, 0)])), (0, [2], [[1, 0, 0, 0, 0, 0, 0, 0, 0, 0, 0, 0, 0, 0, 1]], ((0, 0), [])), (1, [], [], ((0, 1), [(6, 0, 1), (8, 1, 0)])), (0, [0], [[9999996, 0, 0, 0, 0, 0, 0, 0, 0, 0, 0, 1666666, 0, 0, 0, 0, 0, 1666666]], ((0, 0), [])), (0, [0], [[9999996, 0, 0, 0, 0, 0, 0, 0, 0, 0, 1666666, 0, 0, 0, 0, 0, 1666666]], ((0, 0), []))]) (by decide +kernel)
theorem zx_gv395_ok {PT : Nat → zz_W → Prop} : zx_Vok 64 zHT PT (zu_Vw 62 76 76 [62] [((0, 0), [(0, 1, 0), (2, 0, 1)]), ((0, 0), [(0, 0, 1), (2, 1, 0)]), ((0, 0), [(1, 1, 0), (3, 0, 1)]), ((0, 0), [(1, 0, 1), (3, 1, 0)]), ((0, 3), [(4, 1, 0), (6, 0, 6)]), ((3, 0), [(4, 0, 1), (6, 6, 0)])]) := zu_Vw_ok (hs := [(1, [], [], ((0, 1), [(4, 0, 1), (8, 6, 0)])), (2, [4, 0, 0], [[], [], [], [1]], ((0, 0), [])), (2, [4, 1, 1], [[], [], [], [0, 0, 1]], ((0, 0), [])), (3, [], [], ((0, 0), [])), (0, [1], [[1, 0, 0, 0, 0, 0, 1]], ((0, 0), [])), (0, [2], [[1, 0, 0, 0, 0, 0, 0, 0, 0, 1]], ((0, 0), [])), (0, [3], [[1, 0, 0, 0, 0, 0, 0, 1], [0, 1, 0, 0, 0, 0, 1], [0, 0, 1, 0, 0, 1], [0, 0, 0, 1, 1]], ((0, 0), [])), (1, [], [], ((0, 1), [(4, 1, 0), (8, 0, 6)])), (2, [3, 0, 0], [[], [], [], [1]], ((0, 0), [])), (1, [], [], ((1, 0), [(4, 0, 1), (8, 6, 0)])), (2, [4, 1, 1], [[], [], [], [1]], ((0, 0), [])), (3, [], [], ((0, 0), [])), (0, [1], [[1, 0, 0, 0, 0, 0, 0, 0, 1]], ((0, 0), [])), (0, [2], [[1, 0, 0, 0, 0, 0, 0, 0, 0, 0, 0, 1]], ((0, 0), [])), (0, [3], [[1, 0, 0, 0, 0, 0, 0, 0, 1], [0, 1, 0, 0, 0, 0, 0, 1], [0, 0, 1, 0, 0, 1], [0, 0, 0, 1, 1]], ((0, 0), [])), (1, [], [], ((0, 3), [(4, 1, 0), (8, 0, 6)])), (2, [3, 1, 1], [[], [], [], [1]], ((0, 0), [])), (3, [], [], ((0, 0), [])), (0, [1], [[1, 0, 0, 0, 0, 0, 0, 0, 0, 1]], ((0, 0), [])), (0, [2], [[1, 0, 0, 0, 0, 0, 0, 0, 0, 0, 0, 0, 1]], ((0, 0), [])), (0, [3], [[1, 0, 0, 0, 0, 0, 0, 0, 0, 1], [0, 1, 0, 0, 0, 0, 0, 0, 1], [0, 0, 1, 0, 0, 1], [0, 0, 0, 1, 1]], ((0, 0), [])), (2, [1, 1, 2], [[1], [0, 1]], ((0, 0), [])), (3, [], [], ((0, 0), [])), (0, [1], [[1, 0, 0, 0, 0, 0, 0, 0, 0, 1]], ((0, 0), [])), (0, [2], [[1, 0, 0, 0, 0, 0, 0, 0, 0, 0, 0, 0, 1]], ((0, 0), [])), (1, [], [], ((0, 1), [(6, 0, 1), (8, 1, 0)])), (0, [0], [[9999996, 0, 0, 0, 0, 0, 0, 0, 1666666, 0, 0, 0, 0, 0, 0, 0, 0, 0, 1666666]], ((0, 0), [])), (0, [0], [[9999996, 0, 0, 0, 0, 0, 0, 1666666, 0, 0, 0, 0, 0, 0, 0, 0, 0, 1666666]], ((0, 0), [])), (2, [4, 1, 1], [[], [], [], [1]], ((0, 0), [])), (2, [1, 0, 2], [[0, 0, 1], [0, 0, 0, 1]], ((0, 0), [])), (3, [], [], ((0, 0), [])), (0, [1], [[1, 0, 0, 0, 0, 0, 0, 1]], ((0, 0), [])), (0, [2], [[1, 0, 0, 0, 0, 0, 0, 0, 0, 0, 1]], ((0, 0), [])), (1, [], [], ((0, 1), [(6, 0, 1), (8, 1, 0)])), (0, [0], [[9999996, 0, 0, 0, 0, 0, 0, 0, 0, 0, 1666666, 0, 0, 0, 0, 0, 1666666]], ((0, 0), [])), (0, [0], [[9999996, 0, 0, 0, 0, 0, 0, 0, 0, 1666666, 0, 0, 0, 0, 0, 1666666]], ((0, 0), []))]) (by decide +kernel)
theorem zx_gv396_ok {PT : Nat → zz_W → Prop} : zx_Vok 64 zHT PT (zu_Vw 20 77 77 [] [((0, 0), [(0, 1, 0), (2, 0, 1)]), ((0, 0), [(0, 0, 1), (2, 1, 0)]), ((0, 0), [(1, 1, 0), (3, 0, 1)]), ((0, 0), [(1, 0, 1), (3, 1, 0)]), ((0, 0), [(0, 0, 6), (4, 1, 0)])]) := zu_Vw_ok (hs := [(1, [], [], ((2, 0), [(4, 0, 1), (6, 6, 0)])), (2, [4, 0, 0], [[], [], [], [1]], ((0, 0), [])), (2, [4, 1, 1], [[], [], [], [0, 0, 1]], ((0, 0), [])), (3, [], [], ((0, 0), [])), (0, [1], [[1, 0, 0, 0, 0, 0, 1]], ((0, 0), [])), (0, [2], [[1, 0, 0, 0, 0, 0, 0, 0, 0, 1]], ((0, 0), [])), (0, [3], [[1, 0, 0, 0, 1]], ((0, 0), [])), (0, [4], [[1, 0, 0, 1], [0, 1, 1]], ((0, 0), [])), (1, [], [], ((0, 4), [(4, 1, 0), (6, 0, 6)])), (2, [3, 0, 0], [[], [], [], [1]], ((0, 0), [])), (1, [], [], ((4, 0), [(4, 0, 1), (6, 6, 0)])), (2, [4, 1, 1], [[], [], [], [1]], ((0, 0), [])), (3, [], [], ((0, 0), [])), (0, [1], [[1, 0, 0, 0, 0, 0, 0, 0, 1]], ((0, 0), [])), (0, [2], [[1, 0, 0, 0, 0, 0, 0, 0, 0, 0, 0, 1]], ((0, 0), [])), (0, [3], [[1, 0, 0, 0, 0, 1]], ((0, 0), [])), (0, [4], [[1, 0, 0, 1], [0, 1, 1]], ((0, 0), [])), (1, [], [], ((0, 6), [(4, 1, 0), (6, 0, 6)])), (2, [3, 1, 1], [[], [], [], [1]], ((0, 0), [])), (3, [], [], ((0, 0), [])), (0, [1], [[1, 0, 0, 0, 0, 0, 0, 0, 0, 1]], ((0, 0), [])), (0, [2], [[1, 0, 0, 0, 0, 0, 0, 0, 0, 0, 0, 0, 1]], ((0, 0), [])), (0, [3], [[1, 0, 0, 0, 0, 0, 1]], ((0, 0), [])), (0, [4], [[1, 0, 0, 1], [0, 1, 1]], ((0, 0), [])), (2, [1, 1, 2], [[1], [0, 1]], ((0, 0), [])), (3, [], [], ((0, 0), [])), (0, [1], [[1, 0, 0, 0, 0, 0, 0, 0, 0, 1]], ((0, 0), [])), (0, [2], [[1, 0, 0, 0, 0, 0, 0, 0, 0, 0, 0, 0, 1]], ((0, 0), [])), (0, [3], [[1, 0, 0, 0, 0, 0, 1]], ((0, 0), [])), (1, [], [], ((0, 0), [(0, 0, 1), (6, 1, 0)])), (0, [1], [[1, 0, 0, 0, 0, 0, 0, 0, 0, 0, 0, 1]], ((0, 0), [])), (0, [0], [[9999996, 0, 0, 0, 0, 1666666, 0, 0, 0, 0, 0, 0, 0, 0, 0, 1666666]], ((0, 0), [])), (2, [4, 1, 1], [[], [], [], [1]], ((0, 0), [])), (2, [1, 0, 2], [[0, 0, 1], [0, 0, 0, 1]], ((0, 0), [])), (3, [], [], ((0, 0), [])), (0, [1], [[1, 0, 0, 0, 0, 0, 0, 1]], ((0, 0), [])), (0, [2], [[1, 0, 0, 0, 0, 0, 0, 0, 0, 0, 1]], ((0, 0), [])), (1, [], [], ((0, 0), [(0, 0, 1), (6, 1, 0)])), (0, [1], [[1, 0, 0, 0, 0, 0, 0, 0, 1]], ((0, 0), [])), (0, [0], [[9999996, 0, 0, 0, 0, 0, 1666666, 0, 0, 0, 0, 0, 1666666]], ((0, 0), [])), (0, [4], [[1, 0, 0, 0, 0, 1], [0, 1, 0, 0, 1]], ((0, 0), []))]) (by decide +kernel)
theorem zx_gv397_ok {PT : Nat → zz_W → Prop} : zx_Vok 64 zHT PT (zu_Vw 7 78 78 [] [((0, 0), [(0, 1, 0), (2, 0, 1)]), ((0, 0), [(0, 0, 1), (2, 1, 0)]), ((0, 0), [(1, 1, 0), (3, 0, 1)]), ((0, 0), [(1, 0, 1), (3, 1, 0)]), ((59, 0), [(1, 4294967296, 0), (5, 0, 1)])]) := zu_Vw_ok (hs := [(2, [2, 1, 1], [[], []], ((0, 0), [])), (1, [], [], ((0, 1), [(4, 0, 1), (6, 1, 0)])), (2, [4, 0, 0], [[], [], [], [1]], ((0, 0), [])), (3, [], [], ((0, 0), [])), (0, [1], [[1, 0, 0, 0, 0, 0, 1]], ((0, 0), [])), (0, [2], [[1, 0, 0, 0, 0, 0, 0, 0, 0, 1]], ((0, 0), [])), (0, [3], [[1, 0, 0, 1], [0, 1, 0, 0, 0, 0, 0, 1], [0, 0, 1, 0, 0, 0, 1]], ((0, 0), [])), (1, [], [], ((0, 1), [(4, 1, 0), (6, 0, 1)])), (2, [3, 0, 0], [[], [], [], [1]], ((0, 0), [])), (3, [], [], ((0, 0), [])), (0, [1], [[1, 0, 0, 0, 0, 0, 0, 1]], ((0, 0), [])), (0, [2], [[1, 0, 0, 0, 0, 0, 0, 0, 0, 0, 1]], ((0, 0), [])), (0, [3], [[1, 0, 0, 1], [0, 1, 0, 0, 0, 0, 0, 0, 1], [0, 0, 1, 0, 0, 0, 0, 1]], ((0, 0), [])), (2, [1, 0, 2], [[1], [0, 1]], ((0, 0), [])), (3, [], [], ((0, 0), [])), (0, [1], [[1, 0, 0, 0, 0, 0, 0, 1]], ((0, 0), [])), (0, [2], [[1, 0, 0, 0, 0, 0, 0, 0, 0, 0, 1]], ((0, 0), [])), (1, [], [], ((0, 1), [(1, 1, 0)])), (0, [2], [[1, 0, 0, 0, 0, 0, 0, 0, 0, 0, 0, 0, 0, 1]], ((0, 0), [])), (0, [3], [[4294967296, 0, 0, 0, 0, 1, 0, 0, 0, 0, 0, 0, 0, 0, 1], [0, 0, 1, 0, 0, 0, 0, 0, 0, 1], [0, 0, 0, 1, 0, 0, 0, 0, 1]], ((0, 0), []))]) (by decide +kernel)
theorem zx_gv398_ok {PT : Nat → zz_W → Prop} : zx_Vok 64 zHT PT (zu_Vw 8 78 78 [] [((0, 0), [(0, 1, 0), (2, 0, 1)]), ((0, 0), [(0, 0, 1), (2, 1, 0)]), ((0, 0), [(1, 1, 0), (3, 0, 1)]), ((0, 0), [(1, 0, 1), (3, 1, 0)]), ((0, 0), [(1, 4294967296, 0), (5, 1, 0)]), ((60, 0), [(1, 4294967296, 0), (5, 0, 1)])]) := zu_Vw_ok (hs := [(2, [2, 0, 0], [[], []], ((0, 0), [])), (1, [], [], ((0, 1), [(4, 0, 1), (6, 1, 0)])), (2, [4, 1, 1], [[], [], [], [1]], ((0, 0), [])), (3, [], [], ((0, 0), [])), (0, [1], [[1, 0, 0, 0, 0, 0, 1]], ((0, 0), [])), (0, [2], [[1, 0, 0, 0, 0, 0, 0, 0, 0, 1]], ((0, 0), [])), (0, [3], [[1, 0, 0, 0, 0, 0, 1], [0, 1, 0, 0, 1], [0, 0, 1, 1]], ((0, 0), [])), (1, [], [], ((0, 1), [(4, 1, 0), (6, 0, 1)])), (2, [3, 1, 1], [[], [], [], [1]], ((0, 0), [])), (3, [], [], ((0, 0), [])), (0, [1], [[1, 0, 0, 0, 0, 0, 0, 1]], ((0, 0), [])), (0, [2], [[1, 0, 0, 0, 0, 0, 0, 0, 0, 0, 1]], ((0, 0), [])), (0, [3], [[1, 0, 0, 0, 0, 0, 0, 1], [0, 1, 0, 0, 1], [0, 0, 1, 1]], ((0, 0), [])), (2, [1, 1, 2], [[1], [0, 1]], ((0, 0), [])), (3, [], [], ((0, 0), [])), (0, [1], [[1, 0, 0, 0, 0, 0, 0, 1]], ((0, 0), [])), (0, [2], [[1, 0, 0, 0, 0, 0, 0, 0, 0, 0, 1]], ((0, 0), [])), (1, [], [], ((0, 1), [(1, 1, 0)])), (0, [2], [[1, 0, 0, 0, 0, 0, 0, 0, 0, 0, 0, 0, 0, 1]], ((0, 0), [])), (0, [3], [[0, 1, 0, 0, 0, 0, 0, 0, 1], [4294967296, 0, 0, 0, 1, 0, 0, 0, 0, 0, 0, 0, 0, 0, 1], [4294967296, 0, 0, 0, 0, 1, 0, 0, 0, 0, 0, 0, 0, 0, 0, 1]], ((0, 0), []))]) (by decide +kernel)
theorem zx_gv422_ok {PT : Nat → zz_W → Prop} : zx_Vok 64 zHT PT (zu_Vw 21 84 84 [] [((0, 0), [(0, 1, 0), (3, 0, 1)]), ((0, 0), [(0, 0, 1), (3, 1, 0)]), ((0, 0), [(1, 1, 0), (4, 0, 1)]), ((0, 0), [(1, 0, 1), (4, 1, 0)]), ((0, 0), [(2, 1, 0), (5, 0, 1)]), ((0, 0), [(2, 0, 1), (5, 1, 0)]), ((0, 0), [(2, 0, 3), (6, 1, 0)]), ((2, 0), [(2, 3, 0), (6, 0, 1)]), ((749, 0), [(2, 0, 1)])]) := zu_Vw_ok (hs := [(1, [], [], ((0, 2), [(2, 0, 1), (9, 1, 0)])), (2, [2, 0, 0], [[], []], ((0, 0), [])), (2, [4, 1, 1], [[3], [0, 3], [0, 0, 3], [0, 0, 3, 0, 0, 0, 0, 0, 0, 0, 1]], ((0, 0), [])), (2, [4, 2, 2], [[0, 0, 3], [0, 0, 0, 3], [0, 0, 0, 0, 3], [0, 0, 0, 0, 3, 0, 0, 0, 0, 0, 0, 0, 1]], ((0, 0), [])), (3, [], [], ((0, 0), [])), (0, [1], [[1, 0, 0, 0, 0, 0, 0, 0, 1]], ((0, 0), [])), (0, [2], [[1, 0, 0, 0, 0, 0, 0, 0, 0, 0, 0, 1]], ((0, 0), [])), (0, [0], [[1, 0, 0, 0, 0, 0, 0, 1]], ((0, 0), [])), (0, [0], [[0, 0, 0, 1, 0, 0, 0, 0, 0, 0, 1]], ((0, 0), [])), (0, [5], [[1, 0, 0, 0, 0, 0, 0, 0, 0, 1], [0, 1, 0, 0, 0, 0, 1], [0, 0, 1, 0, 0, 1], [0, 0, 0, 1, 1, 0, 1]], ((0, 0), [])), (1, [], [], ((0, 0), [(2, 1, 0), (9, 0, 1)])), (2, [2, 0, 0], [[], []], ((0, 0), [])), (3, [], [], ((0, 0), [])), (0, [1], [[1, 0, 0, 0, 0, 1]], ((0, 0), [])), (0, [2], [[1, 0, 0, 0, 0, 0, 0, 0, 1]], ((0, 0), [])), (0, [3], [[1, 1]], ((0, 0), [])), (0, [0], [[0, 0, 1, 0, 0, 0, 1]], ((0, 0), [])), (2, [3, 1, 1], [[0, 0, 0, 0, 3], [0, 0, 0, 0, 0, 3], [3], [0, 0, 0, 0, 0, 0, 3, 0, 0, 0, 0, 0, 0, 0, 1]], ((0, 0), [])), (2, [3, 2, 2], [[0, 0, 0, 0, 0, 0, 3], [0, 0, 0, 0, 0, 0, 0, 3], [0, 0, 3], [0, 0, 0, 0, 0, 0, 0, 0, 3, 0, 0, 0, 0, 0, 0, 0, 1]], ((0, 0), [])), (0, [5], [[0, 0, 0, 0, 1, 0, 0, 0, 0, 1], [0, 0, 1, 0, 0, 1], [0, 1, 0, 0, 0, 0, 1], [1, 0, 1, 0, 0, 0, 0, 1]], ((0, 0), [])), (2, [2, 0, 0], [[], []], ((0, 0), [])), (0, [4], [[0, 1, 1], [1, 0, 0, 1, 0, 0, 0, 0, 0, 0, 0, 0, 1], [0, 1, 1, 0, 0, 0, 0, 0, 1], [1, 0, 0, 1, 0, 0, 0, 0, 0, 1]], ((0, 0), []))]) (by decide +kernel)
theorem zx_gv423_ok {PT : Nat → zz_W → Prop} : zx_Vok 64 zHT PT (zu_Vw 9 84 84 [] [((0, 0), [(0, 1, 0), (3, 0, 1)]), ((0, 0), [(0, 0, 1), (3, 1, 0)]), ((0, 0), [(1, 1, 0), (4, 0, 1)]), ((0, 0), [(1, 0, 1), (4, 1, 0)]), ((0, 0), [(2, 1, 0), (5, 0, 1)]), ((0, 0), [(2, 0, 1), (5, 1, 0)]), ((0, 0), [(7, 0, 1)])]) := zu_Vw_ok (hs := [(1, [], [], ((0, 1), [(6, 0, 1), (8, 1, 0)])), (2, [4, 0, 0], [[], [], [], [1]], ((0, 0), [])), (2, [2, 1, 1], [[3], [0, 3]], ((0, 0), [])), (2, [2, 2, 2], [[0, 0, 3], [0, 0, 0, 3]], ((0, 0), [])), (3, [], [], ((0, 0), [])), (0, [1], [[1, 0, 0, 0, 0, 0, 0, 0, 1]], ((0, 0), [])), (0, [2], [[1, 0, 0, 0, 0, 0, 0, 0, 0, 0, 0, 1]], ((0, 0), [])), (0, [3], [[1, 0, 0, 0, 0, 1]], ((0, 0), [])), (0, [4], [[1, 0, 0, 0, 0, 0, 0, 0, 0, 1], [0, 1, 0, 0, 0, 0, 0, 0, 1], [0, 0, 1, 0, 0, 0, 0, 0, 0, 1, 0, 0, 0, 0, 0, 1], [0, 0, 0, 1, 0, 0, 0, 0, 1, 0, 0, 0, 0, 0, 0, 0, 1]], ((0, 0), [])), (0, [5], [[1, 0, 0, 0, 0, 0, 0, 0, 0, 1], [0, 1, 0, 0, 0, 0, 1], [0, 0, 1, 0, 0, 1], [0, 0, 0, 1, 1, 0, 1]], ((0, 0), [])), (1, [], [], ((0, 1), [(6, 1, 0), (8, 0, 1)])), (2, [3, 0, 0], [[], [], [], [1]], ((0, 0), [])), (2, [2, 1, 1], [[3], [0, 3]], ((0, 0), [])), (2, [2, 2, 2], [[0, 0, 3], [0, 0, 0, 3]], ((0, 0), [])), (3, [], [], ((0, 0), [])), (0, [1], [[1, 0, 0, 0, 0, 0, 0, 0, 0, 1]], ((0, 0), [])), (0, [2], [[1, 0, 0, 0, 0, 0, 0, 0, 0, 0, 0, 0, 1]], ((0, 0), [])), (0, [3], [[1, 0, 0, 0, 0, 1]], ((0, 0), [])), (0, [4], [[1, 0, 0, 0, 0, 0, 0, 0, 0, 1], [0, 1, 0, 0, 0, 0, 0, 0, 1], [0, 0, 1, 0, 0, 0, 0, 0, 0, 1, 0, 0, 0, 0, 0, 0, 1], [0, 0, 0, 1, 0, 0, 0, 0, 1, 0, 0, 0, 0, 0, 0, 0, 0, 1]], ((0, 0), [])), (0, [5], [[1, 0, 0, 0, 0, 0, 0, 0, 0, 1], [0, 1, 0, 0, 0, 0, 1], [0, 0, 1, 0, 0, 1], [0, 0, 0, 1, 1, 0, 1]], ((0, 0), [])), (2, [1, 0, 3], [[1], [0, 1]], ((0, 0), [])), (0, [3], [[0, 1, 0, 0, 0, 0, 0, 0, 0, 0, 1]], ((0, 0), []))]) (by decide +kernel)
theorem zx_gv424_ok {PT : Nat → zz_W → Prop} : zx_Vok 64 zHT PT (zu_Vw 9 84 84 [21, 21] [((0, 0), [(0, 1, 0), (3, 0, 1)]), ((0, 0), [(0, 0, 1), (3, 1, 0)]), ((0, 0), [(1, 1, 0), (4, 0, 1)]), ((0, 0), [(1, 0, 1), (4, 1, 0)]), ((0, 0), [(2, 1, 0), (5, 0, 1)]), ((0, 0), [(2, 0, 1), (5, 1, 0)]), ((0, 750), [(2, 1, 0)]), ((750, 0), [(2, 0, 1)]), ((2, 0), [(7, 0, 3), (8, 1, 0)]), ((0, 2), [(7, 3, 0), (8, 0, 1)]), ((1, 0), [(7, 0, 3), (9, 1, 0)]), ((0, 1), [(7, 3, 0), (9, 0, 1)]), ((0, 1), [(7, 1, 0)]), ((403, 0), [(10, 0, 1)]), ((0, 0), [(11, 1, 0)]), ((404, 0), [(10, 0, 1), (11, 0, 1)])]) := zu_Vw_ok (hs := [(1, [], [], ((0, 1), [(6, 0, 1), (12, 1, 0)])), (2, [4, 0, 0], [[], [], [], [1]], ((0, 0), [])), (2, [2, 1, 1], [[3], [0, 3]], ((0, 0), [])), (2, [2, 2, 2], [[0, 0, 3], [0, 0, 0, 3]], ((0, 0), [])), (3, [], [], ((0, 0), [])), (0, [1], [[1, 0, 0, 0, 0, 0, 0, 0, 1]], ((0, 0), [])), (0, [2], [[1, 0, 0, 0, 0, 0, 0, 0, 0, 0, 0, 1]], ((0, 0), [])), (0, [3], [[1, 0, 0, 0, 0, 1]], ((0, 0), [])), (0, [0], [[0, 1, 1, 0, 0, 0, 0, 0, 0, 0, 0, 0, 0, 0, 0, 0, 0, 1]], ((0, 0), [])), (0, [5], [[1, 0, 0, 0, 0, 0, 0, 0, 0, 1], [0, 1, 0, 0, 0, 0, 1], [0, 0, 1, 0, 0, 1], [0, 0, 0, 1, 1, 0, 1, 0, 0, 0, 0, 0, 0, 0, 0, 0, 0, 1000000, 1000000]], ((0, 0), [])), (1, [], [], ((0, 1), [(6, 1, 0), (12, 0, 1)])), (2, [3, 0, 0], [[], [], [], [1]], ((0, 0), [])), (2, [2, 1, 1], [[3], [0, 3]], ((0, 0), [])), (2, [2, 2, 2], [[0, 0, 3], [0, 0, 0, 3]], ((0, 0), [])), (3, [], [], ((0, 0), [])), (0, [1], [[1, 0, 0, 0, 0, 0, 0, 0, 0, 1]], ((0, 0), [])), (0, [2], [[1, 0, 0, 0, 0, 0, 0, 0, 0, 0, 0, 0, 1]], ((0, 0), [])), (0, [3], [[1, 0, 0, 0, 0, 1]], ((0, 0), [])), (0, [0], [[0, 1, 1, 0, 0, 0, 0, 0, 0, 0, 0, 0, 0, 0, 0, 0, 0, 0, 1]], ((0, 0), [])), (0, [5], [[1, 0, 0, 0, 0, 0, 0, 0, 0, 1], [0, 1, 0, 0, 0, 0, 1], [0, 0, 1, 0, 0, 1], [0, 0, 0, 1, 1, 0, 1, 0, 0, 0, 0, 0, 0, 0, 0, 0, 0, 0, 1000000, 1000000]], ((0, 0), [])), (2, [1, 0, 3], [[1], [0, 1]], ((0, 0), [])), (2, [2, 3, 1], [[0, 3, 0, 0, 0, 0, 0, 0, 0, 0, 1000000, 1000000, 1], [3, 0, 0, 0, 0, 0, 0, 0, 0, 0, 1000000, 1000000, 9999999, 10000000]], ((0, 0), [])), (2, [2, 4, 2], [[0, 0, 0, 3, 0, 0, 0, 0, 0, 0, 0, 0, 1000000, 1000000, 0, 0, 1], [0, 0, 3, 0, 0, 0, 0, 0, 0, 0, 0, 0, 1000000, 1000000, 0, 0, 9999999, 10000000]], ((0, 0), [])), (0, [5], [[0, 0, 0, 0, 1, 0, 0, 0, 0, 0, 0, 0, 0, 0, 0, 0, 0, 0, 0, 0, 1], [0, 0, 1, 0, 0, 0, 0, 0, 0, 0, 0, 0, 0, 0, 0, 0, 0, 0, 0, 0, 0, 1], [0, 1, 0, 0, 0, 0, 0, 0, 0, 0, 0, 0, 0, 0, 0, 0, 0, 0, 0, 0, 0, 0, 1], [1, 0, 1, 0, 0, 0, 0, 0, 0, 0, 0, 0, 0, 0, 1000000, 1000000, 0, 0, 0, 0, 0, 0, 0, 1]], ((0, 0), []))]) (by decide +kernel)
theorem zx_gv430_ok {PT : Nat → zz_W → Prop} : zx_Vok 64 zHT PT (zu_Vw 8 87 87 [] [((0, 0), [(0, 1, 0), (2, 0, 1)]), ((0, 0), [(0, 0, 1), (2, 1, 0)]), ((0, 0), [(1, 1, 0), (3, 0, 1)]), ((0, 0), [(1, 0, 1), (3, 1, 0)]), ((0, 0), [(5, 0, 1)])]) := zu_Vw_ok (hs := [(1, [], [], ((0, 1), [(4, 0, 1), (6, 1, 0)])), (2, [4, 0, 0], [[], [], [], [1]], ((0, 0), [])), (3, [], [], ((0, 0), [])), (0, [1], [[1, 0, 0, 0, 1]], ((0, 0), [])), (0, [2], [[1, 0, 0, 0, 0, 0, 0, 1]], ((0, 0), [])), (0, [3], [[1, 1]], ((0, 0), [])), (1, [], [], ((0, 1), [(4, 1, 0), (6, 0, 1)])), (2, [3, 0, 0], [[], [], [], [1]], ((0, 0), [])), (3, [], [], ((0, 0), [])), (0, [1], [[1, 0, 0, 0, 0, 1]], ((0, 0), [])), (0, [2], [[1, 0, 0, 0, 0, 0, 0, 0, 1]], ((0, 0), [])), (0, [3], [[1, 1]], ((0, 0), [])), (2, [1, 0, 1], [[1], [0, 1]], ((0, 0), [])), (0, [3], [[0, 1, 0, 0, 0, 0, 0, 0, 1]], ((0, 0), []))]) (by decide +kernel)
theorem zx_gv431_ok {PT : Nat → zz_W → Prop} : zx_Vok 64 zHT PT (zu_Vw 8 86 86 [] [((0, 0), [(0, 1, 0), (4, 0, 1)]), ((0, 0), [(0, 0, 1), (4, 1, 0)]), ((0, 0), [(1, 1, 0), (5, 0, 1)]), ((0, 0), [(1, 0, 1), (5, 1, 0)]), ((0, 0), [(2, 1, 0), (6, 0, 1)]), ((0, 0), [(2, 0, 1), (6, 1, 0)]), ((0, 0), [(3, 1, 0), (7, 0, 1)]), ((0, 0), [(3, 0, 1), (7, 1, 0)]), ((0, 0), [(3, 0, 1), (8, 1, 0)]), ((0, 0), [(3, 1, 0), (8, 0, 1)])]) := zu_Vw_ok (hs := [(2, [2, 1, 1], [[], []], ((0, 0), [])), (1, [], [], ((0, 1), [(8, 0, 1), (10, 1, 0)])), (2, [4, 0, 0], [[], [], [], [1]], ((0, 0), [])), (2, [2, 2, 2], [[1], [0, 1]], ((0, 0), [])), (3, [], [], ((0, 0), [])), (0, [1], [[1, 0, 0, 0, 0, 0, 0, 0, 1]], ((0, 0), [])), (0, [2], [[1, 0, 0, 0, 0, 0, 0, 0, 0, 0, 0, 1]], ((0, 0), [])), (0, [0], [[0, 10000000, 0, 0, 0, 0, 10000000, 0, 0, 0, 0, 0, 0, 0, 0, 0, 0, 10000000]], ((0, 0), [])), (0, [4], [[1, 0, 0, 1]], ((0, 0), [])), (0, [5], [[1, 0, 0, 0, 0, 0, 0, 0, 1], [0, 1, 0, 0, 0, 0, 0, 1, 0, 0, 0, 0, 0, 0, 0, 0, 0, 1], [0, 0, 1, 0, 0, 0, 0, 1], [0, 0, 0, 1, 0, 0, 1, 0, 0, 0, 1], [0, 0, 0, 0, 1, 1, 0, 0, 0, 0, 0, 1]], ((0, 0), [])), (1, [], [], ((0, 1), [(8, 1, 0), (10, 0, 1)])), (2, [3, 0, 0], [[], [], [], [1]], ((0, 0), [])), (2, [2, 2, 2], [[1], [0, 1]], ((0, 0), [])), (3, [], [], ((0, 0), [])), (0, [1], [[1, 0, 0, 0, 0, 0, 0, 0, 0, 1]], ((0, 0), [])), (0, [2], [[1, 0, 0, 0, 0, 0, 0, 0, 0, 0, 0, 0, 1]], ((0, 0), [])), (0, [0], [[10000000, 0, 0, 0, 0, 0, 10000000, 0, 0, 0, 0, 0, 0, 0, 0, 0, 0, 0, 0, 10000000]], ((0, 0), [])), (0, [4], [[1, 0, 0, 1]], ((0, 0), [])), (0, [5], [[1, 0, 0, 0, 0, 0, 0, 0, 1], [0, 1, 0, 0, 0, 0, 0, 1, 0, 0, 0, 0, 0, 0, 0, 0, 0, 0, 1], [0, 0, 1, 0, 0, 0, 0, 1], [0, 0, 0, 1, 0, 0, 1, 0, 0, 0, 0, 1], [0, 0, 0, 0, 1, 1, 0, 0, 0, 0, 0, 0, 1]], ((0, 0), [])), (0, [3], [[1, 0, 0, 0, 0, 0, 0, 0, 0, 0, 1, 0, 1], [0, 1, 0, 0, 0, 0, 0, 0, 0, 0, 0, 1, 0, 1]], ((0, 0), []))]) (by decide +kernel)
theorem zx_gv432_ok {PT : Nat → zz_W → Prop} : zx_Vok 64 zHT PT (zu_Vw 9 86 86 [] [((0, 0), [(0, 1, 0), (4, 0, 1)]), ((0, 0), [(0, 0, 1), (4, 1, 0)]), ((0, 0), [(1, 1, 0), (5, 0, 1)]), ((0, 0), [(1, 0, 1), (5, 1, 0)]), ((0, 0), [(2, 1, 0), (6, 0, 1)]), ((0, 0), [(2, 0, 1), (6, 1, 0)]), ((0, 0), [(3, 1, 0), (7, 0, 1)]), ((0, 0), [(3, 0, 1), (7, 1, 0)]), ((0, 0), [(3, 0, 1), (8, 1, 0)]), ((0, 0), [(3, 1, 0), (8, 0, 1)])]) := zu_Vw_ok (hs := [(2, [2, 0, 0], [[], []], ((0, 0), [])), (2, [2, 2, 2], [[1], [0, 1]], ((0, 0), [])), (1, [], [], ((0, 1), [(8, 0, 1), (10, 1, 0)])), (2, [4, 1, 1], [[], [], [], [1]], ((0, 0), [])), (3, [], [], ((0, 0), [])), (0, [1], [[1, 0, 0, 0, 0, 0, 0, 0, 1]], ((0, 0), [])), (0, [2], [[1, 0, 0, 0, 0, 0, 0, 0, 0, 0, 0, 1]], ((0, 0), [])), (0, [0], [[0, 10000000, 0, 0, 10000000, 0, 0, 0, 0, 0, 0, 0, 0, 0, 0, 0, 0, 10000000]], ((0, 0), [])), (0, [4], [[1, 0, 0, 0, 0, 0, 1]], ((0, 0), [])), (0, [5], [[1, 0, 0, 0, 0, 0, 0, 0, 0, 0, 0, 1], [0, 1, 0, 0, 0, 0, 0, 0, 0, 0, 1, 0, 0, 0, 0, 0, 0, 1], [0, 0, 1, 0, 0, 0, 0, 0, 0, 0, 1], [0, 0, 0, 1, 0, 1, 0, 0, 0, 1], [0, 0, 0, 0, 1, 0, 1, 0, 1]], ((0, 0), [])), (1, [], [], ((0, 1), [(8, 1, 0), (10, 0, 1)])), (2, [3, 1, 1], [[], [], [], [1]], ((0, 0), [])), (3, [], [], ((0, 0), [])), (0, [1], [[1, 0, 0, 0, 0, 0, 0, 0, 0, 1]], ((0, 0), [])), (0, [2], [[1, 0, 0, 0, 0, 0, 0, 0, 0, 0, 0, 0, 1]], ((0, 0), [])), (0, [0], [[10000000, 0, 0, 0, 10000000, 0, 0, 0, 0, 0, 0, 0, 0, 0, 0, 0, 0, 0, 0, 10000000]], ((0, 0), [])), (0, [4], [[1, 0, 0, 0, 0, 0, 0, 1]], ((0, 0), [])), (0, [5], [[1, 0, 0, 0, 0, 0, 0, 0, 0, 0, 0, 0, 1], [0, 1, 0, 0, 0, 0, 0, 0, 0, 0, 0, 1, 0, 0, 0, 0, 0, 0, 1], [0, 0, 1, 0, 0, 0, 0, 0, 0, 0, 0, 1], [0, 0, 0, 1, 0, 1, 0, 0, 0, 0, 1], [0, 0, 0, 0, 1, 0, 1, 0, 0, 1]], ((0, 0), [])), (0, [3], [[1, 0, 0, 0, 0, 0, 0, 0, 0, 0, 0, 0, 1, 0, 1], [0, 1, 0, 0, 0, 0, 0, 0, 0, 0, 0, 0, 0, 1, 0, 1]], ((0, 0), []))]) (by decide +kernel)
theorem zx_gv433_ok {PT : Nat → zz_W → Prop} : zx_Vok 64 zHT PT (zu_Vw 64 86 86 [] [((0, 0), [(0, 1, 0), (4, 0, 1)]), ((0, 0), [(0, 0, 1), (4, 1, 0)]), ((0, 0), [(1, 1, 0), (5, 0, 1)]), ((0, 0), [(1, 0, 1), (5, 1, 0)]), ((0, 0), [(2, 1, 0), (6, 0, 1)]), ((0, 0), [(2, 0, 1), (6, 1, 0)]), ((0, 0), [(3, 1, 0), (7, 0, 1)]), ((0, 0), [(3, 0, 1), (7, 1, 0)]), ((0, 0), [(2, 0, 1), (8, 1, 0)])]) := zu_Vw_ok (hs := [(2, [2, 0, 0], [[], []], ((0, 0), [])), (2, [2, 1, 1], [[], []], ((0, 0), [])), (1, [], [], ((0, 2), [(8, 0, 1), (14, 1, 0)])), (2, [4, 2, 2], [[0, 0, 0, 1], [0, 0, 0, 0, 1], [1, 0, 0, 1], [1, 0, 0, 1]], ((0, 0), [])), (3, [], [], ((0, 0), [])), (0, [1], [[1, 0, 0, 0, 0, 0, 0, 0, 1]], ((0, 0), [])), (0, [2], [[1, 0, 0, 0, 0, 0, 0, 0, 0, 0, 0, 1]], ((0, 0), [])), (0, [3], [[1, 0, 0, 0, 0, 0, 0, 0, 0, 0, 0, 0, 0, 0, 0, 1], [0, 1, 0, 0, 0, 0, 0, 0, 0, 0, 0, 0, 0, 0, 0, 0, 1]], ((0, 0), [])), (0, [0], [[1, 0, 0, 1, 0, 0, 1]], ((0, 0), [])), (0, [0], [[0, 10000000, 0, 0, 0, 0, 0, 10000000, 0, 0, 10000000, 0, 0, 0, 0, 0, 0, 0, 0, 0, 10000000]], ((0, 0), [])), (1, [], [], ((0, 0), [(8, 1, 0), (14, 0, 1)])), (3, [], [], ((0, 0), [])), (0, [1], [[1, 0, 0, 0, 0, 0, 0, 1]], ((0, 0), [])), (0, [2], [[1, 0, 0, 0, 0, 0, 0, 0, 0, 0, 1]], ((0, 0), [])), (0, [3], [[1, 0, 0, 0, 0, 0, 0, 0, 0, 0, 0, 0, 0, 0, 1], [0, 1, 0, 0, 0, 0, 0, 0, 0, 0, 0, 0, 0, 0, 0, 1]], ((0, 0), [])), (0, [4], [[1, 0, 0, 0, 0, 1]], ((0, 0), [])), (2, [3, 2, 2], [[0, 0, 0, 0, 0, 0, 0, 0, 0, 1], [0, 0, 0, 0, 0, 0, 0, 0, 0, 0, 1], [1], [0, 1, 0, 0, 0, 0, 0, 0, 0, 0, 0, 0, 0, 0, 0, 0, 0, 0, 0, 1]], ((0, 0), [])), (0, [5], [[0, 0, 1, 0, 0, 0, 0, 0, 0, 0, 0, 0, 1], [0, 0, 0, 1, 0, 0, 0, 0, 0, 0, 0, 1, 0, 0, 0, 0, 0, 0, 1], [0, 0, 0, 0, 1, 0, 0, 0, 0, 0, 0, 1], [0, 1, 0, 0, 0, 1, 0, 0, 0, 1], [1, 0, 0, 0, 0, 0, 1, 0, 0, 0, 1]], ((0, 0), [])), (2, [1, 2, 3], [[1], [0, 1]], ((0, 0), [])), (3, [], [], ((0, 0), [])), (0, [1], [[1, 0, 0, 0, 0, 0, 0, 0, 0, 1]], ((0, 0), [])), (0, [2], [[1, 0, 0, 0, 0, 0, 0, 0, 0, 0, 0, 0, 1]], ((0, 0), [])), (0, [3], [[1, 0, 0, 0, 0, 0, 0, 0, 0, 0, 0, 0, 0, 0, 0, 0, 1], [0, 1, 0, 0, 0, 0, 0, 0, 0, 0, 0, 0, 0, 0, 0, 0, 0, 1]], ((0, 0), [])), (0, [0], [[1, 0, 0, 1, 0, 0, 0, 1]], ((0, 0), [])), (0, [0], [[0, 10000000, 0, 0, 0, 0, 0, 10000000, 0, 0, 0, 10000000, 0, 0, 0, 0, 0, 0, 0, 0, 0, 10000000]], ((0, 0), []))]) (by decide +kernel)
theorem zx_gv434_ok {PT : Nat → zz_W → Prop} : zx_Vok 64 zHT PT (zu_Vw 20 85 85 [] [((0, 0), [(0, 1, 0), (3, 0, 1)]), ((0, 0), [(0, 0, 1), (3, 1, 0)]), ((0, 0), [(1, 1, 0), (4, 0, 1)]), ((0, 0), [(1, 0, 1), (4, 1, 0)]), ((0, 0), [(2, 1, 0), (5, 0, 1)]), ((0, 0), [(2, 0, 1), (5, 1, 0)]), ((0, 0), [(0, 0, 6), (6, 1, 0)])]) := zu_Vw_ok (hs := [(1, [], [], ((1, 0), [(6, 0, 1), (8, 6, 0)])), (2, [4, 0, 0], [[], [], [], [1]], ((0, 0), [])), (2, [4, 1, 1], [[], [], [], [0, 0, 1]], ((0, 0), [])), (2, [4, 2, 2], [[], [], [], [0, 0, 0, 0, 1]], ((0, 0), [])), (2, [2, 3, 3], [[6], [0, 6]], ((0, 0), [])), (2, [2, 4, 4], [[0, 0, 1], [0, 0, 0, 1]], ((0, 0), [])), (3, [], [], ((0, 0), [])), (0, [1], [[1, 0, 0, 0, 0, 0, 0, 0, 0, 0, 0, 0, 1]], ((0, 0), [])), (0, [2], [[1, 0, 0, 0, 0, 0, 0, 0, 0, 0, 0, 0, 0, 0, 0, 1]], ((0, 0), [])), (0, [3], [[1, 0, 0, 0, 0, 0, 0, 0, 0, 1], [0, 1, 0, 0, 0, 0, 0, 0, 0, 0, 1]], ((0, 0), [])), (0, [4], [[1, 0, 0, 0, 0, 0, 0, 0, 0, 0, 0, 1], [0, 1, 0, 0, 0, 0, 0, 0, 0, 0, 1], [0, 0, 1, 0, 0, 0, 0, 0, 0, 1], [0, 0, 0, 1, 0, 0, 0, 0, 1, 0, 0, 0, 0, 1], [0, 0, 0, 0, 1, 0, 0, 1, 0, 0, 0, 0, 0, 0, 1]], ((0, 0), [])), (0, [5], [[1, 0, 0, 0, 0, 0, 0, 0, 0, 0, 0, 0, 1], [0, 1, 0, 0, 0, 0, 0, 0, 0, 0, 0, 1], [0, 0, 1, 0, 0, 0, 0, 0, 0, 0, 1, 0, 0, 0, 0, 0, 0, 0, 0, 0, 0, 0, 1], [0, 0, 0, 1, 0, 0, 0, 0, 0, 0, 1], [0, 0, 0, 0, 1, 0, 0, 1, 0, 0, 0, 0, 0, 0, 1], [0, 0, 0, 0, 0, 1, 1, 0, 0, 0, 0, 0, 0, 0, 0, 1]], ((0, 0), [])), (1, [], [], ((0, 3), [(6, 1, 0), (8, 0, 6)])), (2, [3, 0, 0], [[], [], [], [1]], ((0, 0), [])), (1, [], [], ((0, 4), [(6, 1, 0), (8, 0, 6)])), (2, [3, 1, 1], [[], [], [], [1]], ((0, 0), [])), (1, [], [], ((4, 0), [(6, 0, 1), (8, 6, 0)])), (2, [4, 2, 2], [[], [], [], [1]], ((0, 0), [])), (2, [2, 3, 3], [[6], [0, 6]], ((0, 0), [])), (2, [2, 4, 4], [[0, 0, 1], [0, 0, 0, 1]], ((0, 0), [])), (3, [], [], ((0, 0), [])), (0, [1], [[1, 0, 0, 0, 0, 0, 0, 0, 0, 0, 0, 0, 0, 0, 0, 1]], ((0, 0), [])), (0, [2], [[1, 0, 0, 0, 0, 0, 0, 0, 0, 0, 0, 0, 0, 0, 0, 0, 0, 0, 1]], ((0, 0), [])), (0, [3], [[1, 0, 0, 0, 0, 0, 0, 0, 0, 0, 1], [0, 1, 0, 0, 0, 0, 0, 0, 0, 0, 0, 0, 1]], ((0, 0), [])), (0, [4], [[1, 0, 0, 0, 0, 0, 0, 0, 0, 0, 0, 0, 1], [0, 1, 0, 0, 0, 0, 0, 0, 0, 0, 1], [0, 0, 1, 0, 0, 0, 0, 0, 0, 1], [0, 0, 0, 1, 0, 0, 0, 0, 1, 0, 0, 0, 0, 0, 0, 1], [0, 0, 0, 0, 1, 0, 0, 1, 0, 0, 0, 0, 0, 0, 0, 0, 1]], ((0, 0), [])), (0, [5], [[1, 0, 0, 0, 0, 0, 0, 0, 0, 0, 0, 0, 0, 1], [0, 1, 0, 0, 0, 0, 0, 0, 0, 0, 0, 1], [0, 0, 1, 0, 0, 0, 0, 0, 0, 0, 1, 0, 0, 0, 0, 0, 0, 0, 0, 0, 0, 0, 0, 0, 0, 1], [0, 0, 0, 1, 0, 0, 0, 0, 0, 0, 1], [0, 0, 0, 0, 1, 0, 0, 1, 0, 0, 0, 0, 0, 0, 0, 0, 1], [0, 0, 0, 0, 0, 1, 1, 0, 0, 0, 0, 0, 0, 0, 0, 0, 0, 1]], ((0, 0), [])), (1, [], [], ((0, 6), [(6, 1, 0), (8, 0, 6)])), (2, [3, 2, 2], [[], [], [], [1]], ((0, 0), [])), (2, [2, 3, 3], [[6], [0, 6]], ((0, 0), [])), (2, [2, 4, 4], [[0, 0, 1], [0, 0, 0, 1]], ((0, 0), [])), (3, [], [], ((0, 0), [])), (0, [1], [[1, 0, 0, 0, 0, 0, 0, 0, 0, 0, 0, 0, 0, 0, 0, 0, 1]], ((0, 0), [])), (0, [2], [[1, 0, 0, 0, 0, 0, 0, 0, 0, 0, 0, 0, 0, 0, 0, 0, 0, 0, 0, 1]], ((0, 0), [])), (0, [3], [[1, 0, 0, 0, 0, 0, 0, 0, 0, 0, 0, 1], [0, 1, 0, 0, 0, 0, 0, 0, 0, 0, 0, 0, 0, 1]], ((0, 0), [])), (0, [4], [[1, 0, 0, 0, 0, 0, 0, 0, 0, 0, 0, 0, 0, 1], [0, 1, 0, 0, 0, 0, 0, 0, 0, 0, 1], [0, 0, 1, 0, 0, 0, 0, 0, 0, 1], [0, 0, 0, 1, 0, 0, 0, 0, 1, 0, 0, 0, 0, 0, 0, 0, 1], [0, 0, 0, 0, 1, 0, 0, 1, 0, 0, 0, 0, 0, 0, 0, 0, 0, 1]], ((0, 0), [])), (0, [5], [[1, 0, 0, 0, 0, 0, 0, 0, 0, 0, 0, 0, 0, 0, 1], [0, 1, 0, 0, 0, 0, 0, 0, 0, 0, 0, 1], [0, 0, 1, 0, 0, 0, 0, 0, 0, 0, 1, 0, 0, 0, 0, 0, 0, 0, 0, 0, 0, 0, 0, 0, 0, 0, 1], [0, 0, 0, 1, 0, 0, 0, 0, 0, 0, 1], [0, 0, 0, 0, 1, 0, 0, 1, 0, 0, 0, 0, 0, 0, 0, 0, 0, 1], [0, 0, 0, 0, 0, 1, 1, 0, 0, 0, 0, 0, 0, 0, 0, 0, 0, 0, 1]], ((0, 0), [])), (2, [1, 2, 5], [[1], [0, 1]], ((0, 0), [])), (3, [], [], ((0, 0), [])), (0, [1], [[1, 0, 0, 0, 0, 0, 0, 0, 0, 0, 0, 0, 1]], ((0, 0), [])), (0, [2], [[1, 0, 0, 0, 0, 0, 0, 0, 0, 0, 0, 0, 0, 0, 0, 1]], ((0, 0), [])), (0, [3], [[1, 0, 0, 0, 0, 0, 0, 1], [0, 1, 0, 0, 0, 0, 0, 0, 0, 1]], ((0, 0), [])), (1, [], [], ((0, 0), [(0, 0, 1), (8, 1, 0)])), (0, [1], [[1, 0, 0, 0, 0, 0, 0, 0, 0, 0, 0, 0, 0, 0, 0, 0, 0, 1]], ((0, 0), [])), (0, [0], [[9999996, 0, 0, 0, 0, 0, 0, 0, 1666666, 0, 0, 0, 0, 0, 0, 0, 0, 0, 0, 0, 0, 0, 0, 1666666]], ((0, 0), [])), (1, [], [], ((0, 0), [(0, 0, 1), (8, 1, 0)])), (0, [1], [[1, 0, 0, 0, 0, 0, 0, 0, 0, 0, 0, 0, 0, 0, 0, 0, 0, 0, 1]], ((0, 0), [])), (0, [0], [[9999996, 0, 0, 0, 0, 0, 0, 0, 0, 1666666, 0, 0, 0, 0, 0, 0, 0, 0, 0, 0, 0, 0, 0, 0, 1666666]], ((0, 0), [])), (2, [4, 2, 2], [[], [], [], [1]], ((0, 0), [])), (2, [2, 3, 3], [[6], [0, 6]], ((0, 0), [])), (2, [2, 4, 4], [[0, 0, 1], [0, 0, 0, 1]], ((0, 0), [])), (2, [1, 1, 5], [[0, 0, 0, 0, 0, 0, 1], [0, 0, 0, 0, 0, 0, 0, 0, 0, 1]], ((0, 0), [])), (3, [], [], ((0, 0), [])), (0, [1], [[1, 0, 0, 0, 0, 0, 0, 0, 0, 0, 0, 0, 0, 0, 1]], ((0, 0), [])), (0, [2], [[1, 0, 0, 0, 0, 0, 0, 0, 0, 0, 0, 0, 0, 0, 0, 0, 0, 1]], ((0, 0), [])), (1, [], [], ((0, 0), [(0, 0, 1), (8, 1, 0)])), (0, [1], [[1, 0, 0, 0, 0, 0, 0, 0, 0, 0, 0, 0, 0, 0, 0, 0, 1]], ((0, 0), [])), (0, [0], [[9999996, 0, 0, 0, 0, 0, 0, 0, 0, 0, 0, 1666666, 0, 0, 0, 0, 0, 0, 0, 0, 0, 0, 1666666]], ((0, 0), [])), (1, [], [], ((0, 0), [(0, 0, 1), (8, 1, 0)])), (0, [1], [[1, 0, 0, 0, 0, 0, 0, 0, 0, 0, 0, 0, 0, 0, 0, 0, 0, 0, 0, 1]], ((0, 0), [])), (0, [0], [[9999996, 0, 0, 0, 0, 0, 0, 0, 0, 0, 0, 0, 0, 0, 1666666, 0, 0, 0, 0, 0, 0, 0, 0, 0, 0, 1666666]], ((0, 0), [])), (1, [], [], ((0, 0), [(0, 0, 1), (8, 1, 0)])), (0, [1], [[1, 0, 0, 0, 0, 0, 0, 0, 0, 0, 0, 0, 0, 0, 0, 0, 0, 0, 0, 0, 1]], ((0, 0), [])), (0, [0], [[9999996, 0, 0, 0, 0, 0, 0, 0, 0, 0, 0, 0, 0, 0, 0, 1666666, 0, 0, 0, 0, 0, 0, 0, 0, 0, 0, 1666666]], ((0, 0), [])), (2, [4, 1, 1], [[], [], [], [1]], ((0, 0), [])), (2, [4, 2, 2], [[], [], [], [0, 0, 1]], ((0, 0), [])), (2, [2, 3, 3], [[6], [0, 6]], ((0, 0), [])), (2, [2, 4, 4], [[0, 0, 1], [0, 0, 0, 1]], ((0, 0), [])), (2, [1, 0, 5], [[0, 0, 0, 0, 0, 0, 0, 0, 1], [0, 0, 0, 0, 0, 0, 0, 0, 0, 1]], ((0, 0), [])), (3, [], [], ((0, 0), [])), (0, [1], [[1, 0, 0, 0, 0, 0, 0, 0, 0, 0, 0, 0, 0, 1]], ((0, 0), [])), (0, [2], [[1, 0, 0, 0, 0, 0, 0, 0, 0, 0, 0, 0, 0, 0, 0, 0, 1]], ((0, 0), [])), (1, [], [], ((0, 0), [(0, 0, 1), (8, 1, 0)])), (0, [1], [[1, 0, 0, 0, 0, 0, 0, 0, 0, 0, 0, 0, 0, 0, 0, 1]], ((0, 0), [])), (0, [0], [[9999996, 0, 0, 0, 0, 0, 0, 0, 0, 0, 0, 0, 0, 1666666, 0, 0, 0, 0, 0, 0, 0, 1666666]], ((0, 0), [])), (1, [], [], ((0, 0), [(0, 0, 1), (8, 1, 0)])), (0, [1], [[1, 0, 0, 0, 0, 0, 0, 0, 0, 0, 0, 0, 0, 0, 0, 0, 0, 0, 1]], ((0, 0), [])), (0, [0], [[9999996, 0, 0, 0, 0, 0, 0, 0, 0, 0, 0, 0, 0, 0, 0, 0, 1666666, 0, 0, 0, 0, 0, 0, 0, 1666666]], ((0, 0), [])), (1, [], [], ((0, 0), [(0, 0, 1), (8, 1, 0)])), (0, [1], [[1, 0, 0, 0, 0, 0, 0, 0, 0, 0, 0, 0, 0, 0, 0, 0, 0, 0, 0, 1]], ((0, 0), [])), (0, [0], [[9999996, 0, 0, 0, 0, 0, 0, 0, 0, 0, 0, 0, 0, 0, 0, 0, 0, 1666666, 0, 0, 0, 0, 0, 0, 0, 1666666]], ((0, 0), []))]) (by decide +kernel)
theorem zx_gv435_ok {PT : Nat → zz_W → Prop} : zx_Vok 64 zHT PT (zu_Vw 64 85 85 [] [((0, 0), [(0, 1, 0), (3, 0, 1)]), ((0, 0), [(0, 0, 1), (3, 1, 0)]), ((0, 0), [(1, 1, 0), (4, 0, 1)]), ((0, 0), [(1, 0, 1), (4, 1, 0)]), ((0, 0), [(2, 1, 0), (5, 0, 1)]), ((0, 0), [(2, 0, 1), (5, 1, 0)]), ((0, 0), [(2, 0, 1), (6, 1, 0)])]) := zu_Vw_ok (hs := [(2, [2, 0, 0], [[], []], ((0, 0), [])), (2, [2, 1, 1], [[], []], ((0, 0), [])), (2, [2, 2, 2], [[], []], ((0, 0), [])), (2, [2, 3, 3], [[6], [0, 6]], ((0, 0), [])), (1, [], [], ((0, 61), [(6, 0, 1), (16, 1, 0)])), (2, [4, 4, 4], [[0, 0, 0, 1], [0, 0, 0, 0, 1], [1, 0, 0, 1], [1, 0, 0, 1]], ((0, 0), [])), (3, [], [], ((0, 0), [])), (0, [1], [[1, 0, 0, 0, 0, 0, 0, 0, 0, 0, 0, 0, 1]], ((0, 0), [])), (0, [2], [[1, 0, 0, 0, 0, 0, 0, 0, 0, 0, 0, 0, 0, 0, 0, 1]], ((0, 0), [])), (0, [3], [[1, 0, 0, 0, 0, 0, 0, 0, 0, 0, 1], [0, 1, 0, 0, 0, 0, 0, 0, 0, 0, 0, 1]], ((0, 0), [])), (0, [0], [[0, 0, 1, 0, 0, 0, 0, 1, 0, 0, 1]], ((0, 0), [])), (0, [0], [[0, 0, 10000000, 0, 0, 0, 0, 0, 10000000, 0, 0, 10000000, 0, 0, 0, 0, 0, 0, 0, 0, 0, 0, 0, 10000000]], ((0, 0), [])), (1, [], [], ((59, 0), [(6, 1, 0), (16, 0, 1)])), (3, [], [], ((0, 0), [])), (0, [1], [[1, 0, 0, 0, 0, 0, 0, 0, 0, 0, 0, 1]], ((0, 0), [])), (0, [2], [[1, 0, 0, 0, 0, 0, 0, 0, 0, 0, 0, 0, 0, 0, 1]], ((0, 0), [])), (0, [3], [[1, 0, 0, 0, 0, 0, 0, 0, 0, 1], [0, 1, 0, 0, 0, 0, 0, 0, 0, 0, 1]], ((0, 0), [])), (0, [4], [[1, 0, 0, 0, 0, 0, 0, 0, 0, 0, 0, 1], [0, 1, 0, 0, 0, 0, 0, 0, 0, 0, 1], [0, 0, 1, 0, 0, 0, 0, 0, 0, 1], [0, 0, 0, 1, 0, 0, 0, 0, 1, 0, 0, 0, 0, 1], [0, 0, 0, 0, 1, 0, 0, 1, 0, 0, 0, 0, 0, 0, 1]], ((0, 0), [])), (2, [3, 4, 4], [[0, 0, 0, 0, 0, 0, 0, 0, 0, 0, 1], [0, 0, 0, 0, 0, 0, 0, 0, 0, 0, 0, 1], [0, 1], [0, 0, 1, 0, 0, 0, 0, 0, 0, 0, 0, 0, 0, 0, 0, 0, 0, 0, 0, 0, 0, 0, 1]], ((0, 0), [])), (0, [5], [[0, 0, 1, 0, 0, 0, 0, 0, 0, 0, 0, 0, 0, 0, 1], [0, 0, 0, 1, 0, 0, 0, 0, 0, 0, 0, 0, 0, 1], [0, 0, 0, 0, 1, 0, 0, 0, 0, 0, 0, 0, 1, 0, 0, 0, 0, 0, 0, 0, 0, 0, 0, 1], [0, 0, 0, 0, 0, 1, 0, 0, 0, 0, 0, 0, 1], [0, 1, 0, 0, 0, 0, 1, 0, 0, 0, 0, 0, 0, 0, 0, 0, 1], [1, 0, 0, 0, 0, 0, 0, 1, 0, 0, 0, 0, 0, 0, 0, 0, 0, 1]], ((0, 0), [])), (2, [1, 4, 5], [[1], [0, 1]], ((0, 0), [])), (3, [], [], ((0, 0), [])), (0, [1], [[1, 0, 0, 0, 0, 0, 0, 0, 0, 0, 0, 0, 0, 1]], ((0, 0), [])), (0, [2], [[1, 0, 0, 0, 0, 0, 0, 0, 0, 0, 0, 0, 0, 0, 0, 0, 1]], ((0, 0), [])), (0, [3], [[1, 0, 0, 0, 0, 0, 0, 0, 0, 0, 0, 1], [0, 1, 0, 0, 0, 0, 0, 0, 0, 0, 0, 0, 1]], ((0, 0), [])), (0, [0], [[0, 0, 1, 0, 0, 0, 0, 1, 0, 0, 0, 1]], ((0, 0), [])), (0, [0], [[0, 0, 10000000, 0, 0, 0, 0, 0, 10000000, 0, 0, 0, 10000000, 0, 0, 0, 0, 0, 0, 0, 0, 0, 0, 0, 10000000]], ((0, 0), []))]) (by decide +kernel)
theorem zx_gv425_ok {PT : Nat → zz_W → Prop} : zx_Vok 64 zHT PT (zu_Vw 20 82 82 [] [((0, 0), [(0, 1, 0), (2, 0, 1)]), ((0, 0), [(0, 0, 1), (2, 1, 0)]), ((0, 0), [(1, 1, 0), (3, 0, 1)]), ((0, 0), [(1, 0, 1), (3, 1, 0)]), ((0, 0), [(0, 0, 6), (4, 1, 0)])]) := zu_Vw_ok (hs := [(1, [], [], ((2, 0), [(4, 0, 1), (6, 6, 0)])), (2, [4, 0, 0], [[], [], [], [1]], ((0, 0), [])), (2, [4, 1, 1], [[], [], [], [0, 0, 1]], ((0, 0), [])), (3, [], [], ((0, 0), [])), (0, [1], [[1, 0, 0, 0, 0, 0, 1]], ((0, 0), [])), (0, [2], [[1, 0, 0, 0, 0, 0, 0, 0, 0, 1]], ((0, 0), [])), (0, [3], [[1, 0, 0, 0, 0, 1], [0, 1, 0, 0, 1], [0, 0, 1, 1, 0, 1]], ((0, 0), [])), (1, [], [], ((0, 4), [(4, 1, 0), (6, 0, 6)])), (2, [3, 0, 0], [[], [], [], [1]], ((0, 0), [])), (1, [], [], ((0, 5), [(4, 1, 0), (6, 0, 6)])), (2, [3, 1, 1], [[], [], [], [1]], ((0, 0), [])), (3, [], [], ((0, 0), [])), (0, [1], [[1, 0, 0, 0, 0, 0, 0, 0, 1]], ((0, 0), [])), (0, [2], [[1, 0, 0, 0, 0, 0, 0, 0, 0, 0, 0, 1]], ((0, 0), [])), (0, [3], [[1, 0, 0, 0, 0, 0, 1], [0, 1, 0, 0, 1], [0, 0, 1, 1, 0, 0, 1]], ((0, 0), [])), (2, [1, 1, 2], [[1], [0, 0, 0, 1]], ((0, 0), [])), (3, [], [], ((0, 0), [])), (0, [1], [[1, 0, 0, 0, 0, 0, 0, 0, 1]], ((0, 0), [])), (0, [2], [[1, 0, 0, 0, 0, 0, 0, 0, 0, 0, 0, 1]], ((0, 0), [])), (1, [], [], ((0, 0), [(0, 0, 1), (6, 1, 0)])), (0, [1], [[1, 0, 0, 0, 0, 0, 0, 0, 0, 0, 0, 1]], ((0, 0), [])), (0, [0], [[9999996, 0, 0, 0, 0, 0, 1666666, 0, 0, 0, 0, 0, 0, 0, 0, 1666666]], ((0, 0), [])), (2, [4, 1, 1], [[], [], [], [1]], ((0, 0), [])), (2, [1, 0, 2], [[0, 0, 1], [0, 0, 0, 1]], ((0, 0), [])), (3, [], [], ((0, 0), [])), (0, [1], [[1, 0, 0, 0, 0, 0, 0, 1]], ((0, 0), [])), (0, [2], [[1, 0, 0, 0, 0, 0, 0, 0, 0, 0, 1]], ((0, 0), [])), (1, [], [], ((0, 0), [(0, 0, 1), (6, 1, 0)])), (0, [1], [[1, 0, 0, 0, 0, 0, 0, 0, 0, 0, 1]], ((0, 0), [])), (0, [0], [[9999996, 0, 0, 0, 0, 0, 0, 0, 1666666, 0, 0, 0, 0, 0, 1666666]], ((0, 0), []))]) (by decide +kernel)
theorem zx_gv426_ok {PT : Nat → zz_W → Prop} : zx_Vok 64 zHT PT (zu_Vw 20 82 82 [20] [((0, 0), [(0, 1, 0), (2, 0, 1)]), ((0, 0), [(0, 0, 1), (2, 1, 0)]), ((0, 0), [(1, 1, 0), (3, 0, 1)]), ((0, 0), [(1, 0, 1), (3, 1, 0)]), ((0, 2), [(4, 1, 0), (6, 0, 6)]), ((2, 0), [(4, 0, 1), (6, 6, 0)])]) := zu_Vw_ok (hs := [(1, [], [], ((2, 0), [(4, 0, 1), (8, 6, 0)])), (2, [4, 0, 0], [[], [], [], [1]], ((0, 0), [])), (2, [4, 1, 1], [[], [], [], [0, 0, 1]], ((0, 0), [])), (3, [], [], ((0, 0), [])), (0, [1], [[1, 0, 0, 0, 0, 0, 1]], ((0, 0), [])), (0, [2], [[1, 0, 0, 0, 0, 0, 0, 0, 0, 1]], ((0, 0), [])), (0, [3], [[1, 0, 0, 0, 0, 1], [0, 1, 0, 0, 1], [0, 0, 1, 1, 0, 1]], ((0, 0), [])), (1, [], [], ((0, 4), [(4, 1, 0), (8, 0, 6)])), (2, [3, 0, 0], [[], [], [], [1]], ((0, 0), [])), (1, [], [], ((0, 5), [(4, 1, 0), (8, 0, 6)])), (2, [3, 1, 1], [[], [], [], [1]], ((0, 0), [])), (3, [], [], ((0, 0), [])), (0, [1], [[1, 0, 0, 0, 0, 0, 0, 0, 1]], ((0, 0), [])), (0, [2], [[1, 0, 0, 0, 0, 0, 0, 0, 0, 0, 0, 1]], ((0, 0), [])), (0, [3], [[1, 0, 0, 0, 0, 0, 1], [0, 1, 0, 0, 1], [0, 0, 1, 1, 0, 0, 1]], ((0, 0), [])), (2, [1, 1, 2], [[1], [0, 0, 0, 1]], ((0, 0), [])), (3, [], [], ((0, 0), [])), (0, [1], [[1, 0, 0, 0, 0, 0, 0, 0, 1]], ((0, 0), [])), (0, [2], [[1, 0, 0, 0, 0, 0, 0, 0, 0, 0, 0, 1]], ((0, 0), [])), (1, [], [], ((0, 1), [(6, 0, 1), (8, 1, 0)])), (0, [0], [[9999996, 0, 0, 0, 0, 0, 0, 0, 0, 1666666, 0, 0, 0, 0, 0, 0, 1666666]], ((0, 0), [])), (1, [], [], ((0, 1), [(6, 1, 0), (8, 0, 1)])), (0, [0], [[10000000, 2, 0, 0, 0, 0, 0, 1666667, 0, 0, 0, 0, 0, 0, 0, 0, 1666667]], ((0, 0), [])), (0, [0], [[9999996, 0, 0, 0, 0, 0, 0, 0, 0, 0, 1666666, 0, 0, 0, 0, 0, 0, 1666666]], ((0, 0), [])), (2, [4, 1, 1], [[], [], [], [1]], ((0, 0), [])), (2, [1, 0, 2], [[0, 0, 1], [0, 0, 0, 1]], ((0, 0), [])), (3, [], [], ((0, 0), [])), (0, [1], [[1, 0, 0, 0, 0, 0, 0, 1]], ((0, 0), [])), (0, [2], [[1, 0, 0, 0, 0, 0, 0, 0, 0, 0, 1]], ((0, 0), [])), (1, [], [], ((0, 1), [(6, 0, 1), (8, 1, 0)])), (0, [0], [[9999996, 0, 0, 0, 0, 0, 0, 0, 0, 1666666, 0, 0, 0, 0, 0, 1666666]], ((0, 0), [])), (1, [], [], ((0, 1), [(6, 1, 0), (8, 0, 1)])), (0, [0], [[10000000, 2, 0, 0, 0, 0, 0, 0, 0, 1666667, 0, 0, 0, 0, 0, 1666667]], ((0, 0), [])), (0, [0], [[9999996, 0, 0, 0, 0, 0, 0, 0, 0, 0, 1666666, 0, 0, 0, 0, 0, 1666666]], ((0, 0), []))]) (by decide +kernel)
theorem zx_gv427_ok {PT : Nat → zz_W → Prop} : zx_Vok 64 zHT PT (zu_Vw 20 82 82 [20] [((0, 0), [(0, 1, 0), (2, 0, 1)]), ((0, 0), [(0, 0, 1), (2, 1, 0)]), ((0, 0), [(1, 1, 0), (3, 0, 1)]), ((0, 0), [(1, 0, 1), (3, 1, 0)]), ((0, 5), [(4, 1, 0), (6, 0, 6)]), ((5, 0), [(4, 0, 1), (6, 6, 0)])]) := zu_Vw_ok (hs := [(1, [], [], ((2, 0), [(4, 0, 1), (8, 6, 0)])), (2, [4, 0, 0], [[], [], [], [1]], ((0, 0), [])), (2, [4, 1, 1], [[], [], [], [0, 0, 1]], ((0, 0), [])), (3, [], [], ((0, 0), [])), (0, [1], [[1, 0, 0, 0, 0, 0, 1]], ((0, 0), [])), (0, [2], [[1, 0, 0, 0, 0, 0, 0, 0, 0, 1]], ((0, 0), [])), (0, [3], [[1, 0, 0, 0, 0, 1], [0, 1, 0, 0, 1], [0, 0, 1, 1, 0, 1]], ((0, 0), [])), (1, [], [], ((0, 4), [(4, 1, 0), (8, 0, 6)])), (2, [3, 0, 0], [[], [], [], [1]], ((0, 0), [])), (1, [], [], ((0, 5), [(4, 1, 0), (8, 0, 6)])), (2, [3, 1, 1], [[], [], [], [1]], ((0, 0), [])), (3, [], [], ((0, 0), [])), (0, [1], [[1, 0, 0, 0, 0, 0, 0, 0, 1]], ((0, 0), [])), (0, [2], [[1, 0, 0, 0, 0, 0, 0, 0, 0, 0, 0, 1]], ((0, 0), [])), (0, [3], [[1, 0, 0, 0, 0, 0, 1], [0, 1, 0, 0, 1], [0, 0, 1, 1, 0, 0, 1]], ((0, 0), [])), (2, [1, 1, 2], [[1], [0, 0, 0, 1]], ((0, 0), [])), (3, [], [], ((0, 0), [])), (0, [1], [[1, 0, 0, 0, 0, 0, 0, 0, 1]], ((0, 0), [])), (0, [2], [[1, 0, 0, 0, 0, 0, 0, 0, 0, 0, 0, 1]], ((0, 0), [])), (1, [], [], ((0, 1), [(6, 0, 1), (8, 1, 0)])), (0, [0], [[9999996, 0, 0, 0, 0, 0, 0, 0, 0, 1666666, 0, 0, 0, 0, 0, 0, 1666666]], ((0, 0), [])), (0, [0], [[9999996, 0, 0, 0, 0, 0, 1666666, 0, 0, 0, 0, 0, 0, 0, 0, 1666666]], ((0, 0), [])), (2, [4, 1, 1], [[], [], [], [1]], ((0, 0), [])), (2, [1, 0, 2], [[0, 0, 1], [0, 0, 0, 1]], ((0, 0), [])), (3, [], [], ((0, 0), [])), (0, [1], [[1, 0, 0, 0, 0, 0, 0, 1]], ((0, 0), [])), (0, [2], [[1, 0, 0, 0, 0, 0, 0, 0, 0, 0, 1]], ((0, 0), [])), (1, [], [], ((0, 1), [(6, 0, 1), (8, 1, 0)])), (0, [0], [[9999996, 0, 0, 0, 0, 0, 0, 0, 0, 1666666, 0, 0, 0, 0, 0, 1666666]], ((0, 0), [])), (0, [0], [[9999996, 0, 0, 0, 0, 0, 0, 0, 1666666, 0, 0, 0, 0, 0, 1666666]], ((0, 0), []))]) (by decide +kernel)
theorem zx_gv306_ok {PT : Nat → zz_W → Prop} : zx_Vok 64 zHT PT (zu_Vw 67 65 65 [] [((0, 0), [(0, 1, 0), (3, 0, 1)]), ((0, 0), [(0, 0, 1), (3, 1, 0)]), ((0, 0), [(2, 1, 0), (5, 0, 1)]), ((0, 0), [(2, 0, 1), (5, 1, 0)]), ((0, 0), [(1, 1, 0), (4, 0, 1)]), ((0, 0), [(1, 0, 1), (4, 1, 0)]), ((0, 0), [(1, 0, 6), (6, 1, 0)])]) := zu_Vw_ok (hs := [(1, [], [], ((0, 0), [(6, 0, 1), (8, 6, 0)])), (2, [4, 0, 0], [[], [], [], [1]], ((0, 0), [])), (2, [4, 1, 1], [[], [], [], [0, 0, 1]], ((0, 0), [])), (3, [], [], ((0, 0), [])), (0, [1], [[1, 0, 0, 0, 0, 0, 0, 1]], ((0, 0), [])), (0, [2], [[1, 0, 0, 0, 0, 0, 0, 0, 0, 0, 1]], ((0, 0), [])), (0, [3], [[1, 1, 0, 1, 0, 0, 0, 0, 9999999, 10000000]], ((0, 0), [])), (1, [], [], ((0, 2), [(6, 1, 0), (8, 0, 6)])), (2, [3, 0, 0], [[], [], [], [1]], ((0, 0), [])), (1, [], [], ((2, 0), [(6, 0, 1), (8, 6, 0)])), (2, [4, 1, 1], [[], [], [], [1]], ((0, 0), [])), (3, [], [], ((0, 0), [])), (0, [1], [[1, 0, 0, 0, 0, 0, 0, 0, 0, 1]], ((0, 0), [])), (0, [2], [[1, 0, 0, 0, 0, 0, 0, 0, 0, 0, 0, 0, 1]], ((0, 0), [])), (0, [3], [[1, 1, 0, 0, 1, 0, 0, 0, 0, 0, 9999999, 10000000]], ((0, 0), [])), (1, [], [], ((0, 4), [(6, 1, 0), (8, 0, 6)])), (2, [3, 1, 1], [[], [], [], [1]], ((0, 0), [])), (3, [], [], ((0, 0), [])), (0, [1], [[1, 0, 0, 0, 0, 0, 0, 0, 0, 0, 1]], ((0, 0), [])), (0, [2], [[1, 0, 0, 0, 0, 0, 0, 0, 0, 0, 0, 0, 0, 1]], ((0, 0), [])), (0, [3], [[1, 1, 0, 0, 0, 1, 0, 0, 0, 0, 0, 9999999, 10000000]], ((0, 0), [])), (2, [1, 1, 2], [[1], [0, 1]], ((0, 0), [])), (3, [], [], ((0, 0), [])), (0, [1], [[1, 0, 0, 0, 0, 0, 0, 0, 0, 0, 1]], ((0, 0), [])), (0, [2], [[1, 0, 0, 0, 0, 0, 0, 0, 0, 0, 0, 0, 0, 1]], ((0, 0), [])), (1, [], [], ((0, 0), [(1, 0, 1), (8, 1, 0)])), (0, [2], [[1, 0, 0, 0, 0, 0, 0, 0, 0, 0, 0, 0, 0, 0, 1]], ((0, 0), [])), (0, [0], [[10000000, 0, 0, 0, 1666667, 0, 0, 0, 0, 0, 0, 0, 0, 0, 0, 0, 1666667]], ((0, 0), [])), (2, [4, 1, 1], [[], [], [], [1]], ((0, 0), [])), (2, [1, 0, 2], [[0, 0, 1], [0, 0, 0, 1]], ((0, 0), [])), (3, [], [], ((0, 0), [])), (0, [1], [[1, 0, 0, 0, 0, 0, 0, 0, 1]], ((0, 0), [])), (0, [2], [[1, 0, 0, 0, 0, 0, 0, 0, 0, 0, 0, 1]], ((0, 0), [])), (1, [], [], ((0, 0), [(1, 0, 1), (8, 1, 0)])), (0, [2], [[1, 0, 0, 0, 0, 0, 0, 0, 0, 0, 0, 0, 1]], ((0, 0), [])), (0, [0], [[10000000, 0, 0, 0, 0, 0, 1666667, 0, 0, 0, 0, 0, 0, 0, 1666667]], ((0, 0), []))]) (by decide +kernel)
theorem zx_gv352_ok {PT : Nat → zz_W → Prop} : zx_Vok 64 zHT PT (zu_Vw 67 65 65 [67] [((0, 0), [(0, 1, 0), (3, 0, 1)]), ((0, 0), [(0, 0, 1), (3, 1, 0)]), ((0, 0), [(2, 1, 0), (5, 0, 1)]), ((0, 0), [(2, 0, 1), (5, 1, 0)]), ((0, 0), [(1, 1, 0), (4, 0, 1)]), ((0, 0), [(1, 0, 1), (4, 1, 0)]), ((0, 2), [(6, 1, 0), (8, 0, 6)]), ((2, 0), [(6, 0, 1), (8, 6, 0)])]) := zu_Vw_ok (hs := [(1, [], [], ((0, 0), [(6, 0, 1), (10, 6, 0)])), (2, [4, 0, 0], [[], [], [], [1]], ((0, 0), [])), (2, [4, 1, 1], [[], [], [], [0, 0, 1]], ((0, 0), [])), (3, [], [], ((0, 0), [])), (0, [1], [[1, 0, 0, 0, 0, 0, 0, 1]], ((0, 0), [])), (0, [2], [[1, 0, 0, 0, 0, 0, 0, 0, 0, 0, 1]], ((0, 0), [])), (0, [3], [[1, 1, 0, 1, 0, 0, 0, 0, 9999999, 10000000]], ((0, 0), [])), (1, [], [], ((0, 2), [(6, 1, 0), (10, 0, 6)])), (2, [3, 0, 0], [[], [], [], [1]], ((0, 0), [])), (1, [], [], ((2, 0), [(6, 0, 1), (10, 6, 0)])), (2, [4, 1, 1], [[], [], [], [1]], ((0, 0), [])), (3, [], [], ((0, 0), [])), (0, [1], [[1, 0, 0, 0, 0, 0, 0, 0, 0, 1]], ((0, 0), [])), (0, [2], [[1, 0, 0, 0, 0, 0, 0, 0, 0, 0, 0, 0, 1]], ((0, 0), [])), (0, [3], [[1, 1, 0, 0, 1, 0, 0, 0, 0, 0, 9999999, 10000000]], ((0, 0), [])), (1, [], [], ((0, 4), [(6, 1, 0), (10, 0, 6)])), (2, [3, 1, 1], [[], [], [], [1]], ((0, 0), [])), (3, [], [], ((0, 0), [])), (0, [1], [[1, 0, 0, 0, 0, 0, 0, 0, 0, 0, 1]], ((0, 0), [])), (0, [2], [[1, 0, 0, 0, 0, 0, 0, 0, 0, 0, 0, 0, 0, 1]], ((0, 0), [])), (0, [3], [[1, 1, 0, 0, 0, 1, 0, 0, 0, 0, 0, 9999999, 10000000]], ((0, 0), [])), (2, [1, 1, 2], [[1], [0, 1]], ((0, 0), [])), (3, [], [], ((0, 0), [])), (0, [1], [[1, 0, 0, 0, 0, 0, 0, 0, 0, 0, 1]], ((0, 0), [])), (0, [2], [[1, 0, 0, 0, 0, 0, 0, 0, 0, 0, 0, 0, 0, 1]], ((0, 0), [])), (1, [], [], ((0, 1), [(8, 0, 1), (10, 1, 0)])), (0, [0], [[9999996, 0, 0, 0, 0, 1666666, 0, 0, 0, 0, 0, 0, 0, 0, 0, 0, 0, 1666666]], ((0, 0), [])), (1, [], [], ((0, 1), [(8, 1, 0), (10, 0, 1)])), (0, [0], [[10000000, 0, 0, 0, 0, 1666667, 0, 0, 0, 0, 0, 0, 0, 0, 0, 0, 0, 1666667]], ((0, 0), [])), (0, [0], [[9999996, 0, 0, 0, 0, 0, 1666666, 0, 0, 0, 0, 0, 0, 0, 0, 0, 0, 0, 1666666]], ((0, 0), [])), (2, [4, 1, 1], [[], [], [], [1]], ((0, 0), [])), (2, [1, 0, 2], [[0, 0, 1], [0, 0, 0, 1]], ((0, 0), [])), (3, [], [], ((0, 0), [])), (0, [1], [[1, 0, 0, 0, 0, 0, 0, 0, 1]], ((0, 0), [])), (0, [2], [[1, 0, 0, 0, 0, 0, 0, 0, 0, 0, 0, 1]], ((0, 0), [])), (1, [], [], ((0, 1), [(8, 0, 1), (10, 1, 0)])), (0, [0], [[9999996, 0, 0, 0, 0, 0, 0, 1666666, 0, 0, 0, 0, 0, 0, 0, 1666666]], ((0, 0), [])), (0, [0], [[10000000, 0, 0, 0, 0, 0, 1666667, 0, 0, 0, 0, 0, 0, 0, 1666667]], ((0, 0), []))]) (by decide +kernel)
theorem zx_gv401_ok {PT : Nat → zz_W → Prop} : zx_Vok 64 zHT PT (zu_Vw 67 65 65 [31] [((0, 0), [(0, 1, 0), (3, 0, 1)]), ((0, 0), [(0, 0, 1), (3, 1, 0)]), ((0, 0), [(2, 1, 0), (5, 0, 1)]), ((0, 0), [(2, 0, 1), (5, 1, 0)]), ((0, 0), [(1, 1, 0), (4, 0, 1)]), ((0, 0), [(1, 0, 1), (4, 1, 0)]), ((0, 4), [(6, 1, 0), (8, 0, 6)]), ((4, 0), [(6, 0, 1), (8, 6, 0)])]) := zu_Vw_ok (hs := [(1, [], [], ((0, 0), [(6, 0, 1), (10, 6, 0)])), (2, [4, 0, 0], [[], [], [], [1]], ((0, 0), [])), (2, [4, 1, 1], [[], [], [], [0, 0, 1]], ((0, 0), [])), (3, [], [], ((0, 0), [])), (0, [1], [[1, 0, 0, 0, 0, 0, 0, 1]], ((0, 0), [])), (0, [2], [[1, 0, 0, 0, 0, 0, 0, 0, 0, 0, 1]], ((0, 0), [])), (0, [3], [[1, 1, 0, 1, 0, 0, 0, 0, 9999999, 10000000]], ((0, 0), [])), (1, [], [], ((0, 2), [(6, 1, 0), (10, 0, 6)])), (2, [3, 0, 0], [[], [], [], [1]], ((0, 0), [])), (1, [], [], ((2, 0), [(6, 0, 1), (10, 6, 0)])), (2, [4, 1, 1], [[], [], [], [1]], ((0, 0), [])), (3, [], [], ((0, 0), [])), (0, [1], [[1, 0, 0, 0, 0, 0, 0, 0, 0, 1]], ((0, 0), [])), (0, [2], [[1, 0, 0, 0, 0, 0, 0, 0, 0, 0, 0, 0, 1]], ((0, 0), [])), (0, [3], [[1, 1, 0, 0, 1, 0, 0, 0, 0, 0, 9999999, 10000000]], ((0, 0), [])), (1, [], [], ((0, 4), [(6, 1, 0), (10, 0, 6)])), (2, [3, 1, 1], [[], [], [], [1]], ((0, 0), [])), (3, [], [], ((0, 0), [])), (0, [1], [[1, 0, 0, 0, 0, 0, 0, 0, 0, 0, 1]], ((0, 0), [])), (0, [2], [[1, 0, 0, 0, 0, 0, 0, 0, 0, 0, 0, 0, 0, 1]], ((0, 0), [])), (0, [3], [[1, 1, 0, 0, 0, 1, 0, 0, 0, 0, 0, 9999999, 10000000]], ((0, 0), [])), (2, [1, 1, 2], [[1], [0, 1]], ((0, 0), [])), (3, [], [], ((0, 0), [])), (0, [1], [[1, 0, 0, 0, 0, 0, 0, 0, 0, 0, 1]], ((0, 0), [])), (0, [2], [[1, 0, 0, 0, 0, 0, 0, 0, 0, 0, 0, 0, 0, 1]], ((0, 0), [])), (1, [], [], ((0, 1), [(8, 0, 1), (10, 1, 0)])), (0, [0], [[9999996, 0, 0, 0, 0, 1666666, 0, 0, 0, 0, 0, 0, 0, 0, 0, 0, 0, 1666666]], ((0, 0), [])), (0, [0], [[10000000, 0, 0, 0, 1666667, 0, 0, 0, 0, 0, 0, 0, 0, 0, 0, 0, 1666667]], ((0, 0), [])), (2, [4, 1, 1], [[], [], [], [1]], ((0, 0), [])), (2, [1, 0, 2], [[0, 0, 1], [0, 0, 0, 1]], ((0, 0), [])), (3, [], [], ((0, 0), [])), (0, [1], [[1, 0, 0, 0, 0, 0, 0, 0, 1]], ((0, 0), [])), (0, [2], [[1, 0, 0, 0, 0, 0, 0, 0, 0, 0, 0, 1]], ((0, 0), [])), (1, [], [], ((0, 1), [(8, 0, 1), (10, 1, 0)])), (0, [0], [[9999996, 0, 0, 0, 0, 0, 0, 1666666, 0, 0, 0, 0, 0, 0, 0, 1666666]], ((0, 0), [])), (0, [0], [[10000000, 0, 0, 0, 0, 0, 1666667, 0, 0, 0, 0, 0, 0, 0, 1666667]], ((0, 0), []))]) (by decide +kernel)
theorem zx_gv402_ok {PT : Nat → zz_W → Prop} : zx_Vok 64 zHT PT (zu_Vw 67 65 65 [31] [((0, 0), [(0, 1, 0), (3, 0, 1)]), ((0, 0), [(0, 0, 1), (3, 1, 0)]), ((0, 0), [(2, 1, 0), (5, 0, 1)]), ((0, 0), [(2, 0, 1), (5, 1, 0)]), ((0, 0), [(1, 1, 0), (4, 0, 1)]), ((0, 0), [(1, 0, 1), (4, 1, 0)]), ((0, 5), [(6, 1, 0), (8, 0, 6)]), ((5, 0), [(6, 0, 1), (8, 6, 0)])]) := zu_Vw_ok (hs := [(1, [], [], ((0, 0), [(6, 0, 1), (10, 6, 0)])), (2, [4, 0, 0], [[], [], [], [1]], ((0, 0), [])), (2, [4, 1, 1], [[], [], [], [0, 0, 1]], ((0, 0), [])), (3, [], [], ((0, 0), [])), (0, [1], [[1, 0, 0, 0, 0, 0, 0, 1]], ((0, 0), [])), (0, [2], [[1, 0, 0, 0, 0, 0, 0, 0, 0, 0, 1]], ((0, 0), [])), (0, [3], [[1, 1, 0, 1, 0, 0, 0, 0, 9999999, 10000000]], ((0, 0), [])), (1, [], [], ((0, 2), [(6, 1, 0), (10, 0, 6)])), (2, [3, 0, 0], [[], [], [], [1]], ((0, 0), [])), (1, [], [], ((2, 0), [(6, 0, 1), (10, 6, 0)])), (2, [4, 1, 1], [[], [], [], [1]], ((0, 0), [])), (3, [], [], ((0, 0), [])), (0, [1], [[1, 0, 0, 0, 0, 0, 0, 0, 0, 1]], ((0, 0), [])), (0, [2], [[1, 0, 0, 0, 0, 0, 0, 0, 0, 0, 0, 0, 1]], ((0, 0), [])), (0, [3], [[1, 1, 0, 0, 1, 0, 0, 0, 0, 0, 9999999, 10000000]], ((0, 0), [])), (1, [], [], ((0, 4), [(6, 1, 0), (10, 0, 6)])), (2, [3, 1, 1], [[], [], [], [1]], ((0, 0), [])), (3, [], [], ((0, 0), [])), (0, [1], [[1, 0, 0, 0, 0, 0, 0, 0, 0, 0, 1]], ((0, 0), [])), (0, [2], [[1, 0, 0, 0, 0, 0, 0, 0, 0, 0, 0, 0, 0, 1]], ((0, 0), [])), (0, [3], [[1, 1, 0, 0, 0, 1, 0, 0, 0, 0, 0, 9999999, 10000000]], ((0, 0), [])), (2, [1, 1, 2], [[1], [0, 1]], ((0, 0), [])), (3, [], [], ((0, 0), [])), (0, [1], [[1, 0, 0, 0, 0, 0, 0, 0, 0, 0, 1]], ((0, 0), [])), (0, [2], [[1, 0, 0, 0, 0, 0, 0, 0, 0, 0, 0, 0, 0, 1]], ((0, 0), [])), (1, [], [], ((0, 1), [(8, 0, 1), (10, 1, 0)])), (0, [0], [[9999996, 0, 0, 0, 0, 1666666, 0, 0, 0, 0, 0, 0, 0, 0, 0, 0, 0, 1666666]], ((0, 0), [])), (0, [0], [[10000000, 0, 0, 0, 1666667, 0, 0, 0, 0, 0, 0, 0, 0, 0, 0, 0, 1666667]], ((0, 0), [])), (2, [4, 1, 1], [[], [], [], [1]], ((0, 0), [])), (2, [1, 0, 2], [[0, 0, 1], [0, 0, 0, 1]], ((0, 0), [])), (3, [], [], ((0, 0), [])), (0, [1], [[1, 0, 0, 0, 0, 0, 0, 0, 1]], ((0, 0), [])), (0, [2], [[1, 0, 0, 0, 0, 0, 0, 0, 0, 0, 0, 1]], ((0, 0), [])), (1, [], [], ((0, 1), [(8, 0, 1), (10, 1, 0)])), (0, [0], [[9999996, 0, 0, 0, 0, 0, 0, 1666666, 0, 0, 0, 0, 0, 0, 0, 1666666]], ((0, 0), [])), (0, [0], [[10000000, 0, 0, 0, 0, 0, 1666667, 0, 0, 0, 0, 0, 0, 0, 1666667]], ((0, 0), []))]) (by decide +kernel)
theorem zx_gv403_ok {PT : Nat → zz_W → Prop} : zx_Vok 64 zHT PT (zu_Vw 84 1065 1065 [31] [((0, 0), [(0, 1, 0), (3, 0, 1)]), ((0, 0), [(0, 0, 1), (3, 1, 0)]), ((0, 0), [(2, 1, 0), (5, 0, 1)]), ((0, 0), [(2, 0, 1), (5, 1, 0)]), ((0, 0), [(1, 1, 0), (4, 0, 1)]), ((0, 0), [(1, 0, 1), (4, 1, 0)]), ((0, 4), [(6, 1, 0), (8, 0, 6)]), ((4, 0), [(6, 0, 1), (8, 6, 0)])]) := zu_Vw_ok (hs := [(1, [], [], ((0, 0), [(6, 0, 1), (10, 6, 0)])), (2, [4, 0, 0], [[], [], [], [1]], ((0, 0), [])), (2, [4, 1, 1], [[], [], [], [0, 0, 1]], ((0, 0), [])), (3, [], [], ((0, 0), [])), (0, [1], [[1, 0, 0, 0, 0, 0, 0, 1]], ((0, 0), [])), (0, [2], [[1, 0, 0, 0, 0, 0, 0, 0, 0, 0, 1]], ((0, 0), [])), (0, [3], [[1, 1, 0, 1, 0, 0, 0, 0, 9999999, 10000000]], ((0, 0), [])), (1, [], [], ((0, 2), [(6, 1, 0), (10, 0, 6)])), (2, [3, 0, 0], [[], [], [], [1]], ((0, 0), [])), (1, [], [], ((2, 0), [(6, 0, 1), (10, 6, 0)])), (2, [4, 1, 1], [[], [], [], [1]], ((0, 0), [])), (3, [], [], ((0, 0), [])), (0, [1], [[1, 0, 0, 0, 0, 0, 0, 0, 0, 1]], ((0, 0), [])), (0, [2], [[1, 0, 0, 0, 0, 0, 0, 0, 0, 0, 0, 0, 1]], ((0, 0), [])), (0, [3], [[1, 1, 0, 0, 1, 0, 0, 0, 0, 0, 9999999, 10000000]], ((0, 0), [])), (1, [], [], ((0, 4), [(6, 1, 0), (10, 0, 6)])), (2, [3, 1, 1], [[], [], [], [1]], ((0, 0), [])), (3, [], [], ((0, 0), [])), (0, [1], [[1, 0, 0, 0, 0, 0, 0, 0, 0, 0, 1]], ((0, 0), [])), (0, [2], [[1, 0, 0, 0, 0, 0, 0, 0, 0, 0, 0, 0, 0, 1]], ((0, 0), [])), (0, [3], [[1, 1, 0, 0, 0, 1, 0, 0, 0, 0, 0, 9999999, 10000000]], ((0, 0), [])), (2, [1, 1, 2], [[1], [0, 1]], ((0, 0), [])), (3, [], [], ((0, 0), [])), (0, [1], [[1, 0, 0, 0, 0, 0, 0, 0, 0, 0, 1]], ((0, 0), [])), (0, [2], [[1, 0, 0, 0, 0, 0, 0, 0, 0, 0, 0, 0, 0, 1]], ((0, 0), [])), (1, [], [], ((0, 1), [(8, 0, 1), (10, 1, 0)])), (0, [0], [[9999996, 0, 0, 0, 0, 1666666, 0, 0, 0, 0, 0, 0, 0, 0, 0, 0, 0, 1666666]], ((0, 0), [])), (0, [0], [[10000000, 0, 0, 0, 1666667, 0, 0, 0, 0, 0, 0, 0, 0, 0, 0, 0, 1666667]], ((0, 0), [])), (2, [4, 1, 1], [[], [], [], [1]], ((0, 0), [])), (2, [1, 0, 2], [[0, 0, 1], [0, 0, 0, 1]], ((0, 0), [])), (3, [], [], ((0, 0), [])), (0, [1], [[1, 0, 0, 0, 0, 0, 0, 0, 1]], ((0, 0), [])), (0, [2], [[1, 0, 0, 0, 0, 0, 0, 0, 0, 0, 0, 1]], ((0, 0), [])), (1, [], [], ((0, 1), [(8, 0, 1), (10, 1, 0)])), (0, [0], [[9999996, 0, 0, 0, 0, 0, 0, 1666666, 0, 0, 0, 0, 0, 0, 0, 1666666]], ((0, 0), [])), (0, [0], [[10000000, 0, 0, 0, 0, 0, 1666667, 0, 0, 0, 0, 0, 0, 0, 1666667]], ((0, 0), []))]) (by decide +kernel)
theorem zx_gv404_ok {PT : Nat → zz_W → Prop} : zx_Vok 64 zHT PT (zu_Vw 84 1065 1065 [31] [((0, 0), [(0, 1, 0), (3, 0, 1)]), ((0, 0), [(0, 0, 1), (3, 1, 0)]), ((0, 0), [(2, 1, 0), (5, 0, 1)]), ((0, 0), [(2, 0, 1), (5, 1, 0)]), ((0, 0), [(1, 1, 0), (4, 0, 1)]), ((0, 0), [(1, 0, 1), (4, 1, 0)]), ((0, 5), [(6, 1, 0), (8, 0, 6)]), ((5, 0), [(6, 0, 1), (8, 6, 0)])]) := zu_Vw_ok (hs := [(1, [], [], ((0, 0), [(6, 0, 1), (10, 6, 0)])), (2, [4, 0, 0], [[], [], [], [1]], ((0, 0), [])), (2, [4, 1, 1], [[], [], [], [0, 0, 1]], ((0, 0), [])), (3, [], [], ((0, 0), [])), (0, [1], [[1, 0, 0, 0, 0, 0, 0, 1]], ((0, 0), [])), (0, [2], [[1, 0, 0, 0, 0, 0, 0, 0, 0, 0, 1]], ((0, 0), [])), (0, [3], [[1, 1, 0, 1, 0, 0, 0, 0, 9999999, 10000000]], ((0, 0), [])), (1, [], [], ((0, 2), [(6, 1, 0), (10, 0, 6)])), (2, [3, 0, 0], [[], [], [], [1]], ((0, 0), [])), (1, [], [], ((2, 0), [(6, 0, 1), (10, 6, 0)])), (2, [4, 1, 1], [[], [], [], [1]], ((0, 0), [])), (3, [], [], ((0, 0), [])), (0, [1], [[1, 0, 0, 0, 0, 0, 0, 0, 0, 1]], ((0, 0), [])), (0, [2], [[1, 0, 0, 0, 0, 0, 0, 0, 0, 0, 0, 0, 1]], ((0, 0), [])), (0, [3], [[1, 1, 0, 0, 1, 0, 0, 0, 0, 0, 9999999, 10000000]], ((0, 0), [])), (1, [], [], ((0, 4), [(6, 1, 0), (10, 0, 6)])), (2, [3, 1, 1], [[], [], [], [1]], ((0, 0), [])), (3, [], [], ((0, 0), [])), (0, [1], [[1, 0, 0, 0, 0, 0, 0, 0, 0, 0, 1]], ((0, 0), [])), (0, [2], [[1, 0, 0, 0, 0, 0, 0, 0, 0, 0, 0, 0, 0, 1]], ((0, 0), [])), (0, [3], [[1, 1, 0, 0, 0, 1, 0, 0, 0, 0, 0, 9999999, 10000000]], ((0, 0), [])), (2, [1, 1, 2], [[1], [0, 1]], ((0, 0), [])), (3, [], [], ((0, 0), [])), (0, [1], [[1, 0, 0, 0, 0, 0, 0, 0, 0, 0, 1]], ((0, 0), [])), (0, [2], [[1, 0, 0, 0, 0, 0, 0, 0, 0, 0, 0, 0, 0, 1]], ((0, 0), [])), (1, [], [], ((0, 1), [(8, 0, 1), (10, 1, 0)])), (0, [0], [[9999996, 0, 0, 0, 0, 1666666, 0, 0, 0, 0, 0, 0, 0, 0, 0, 0, 0, 1666666]], ((0, 0), [])), (0, [0], [[10000000, 0, 0, 0, 1666667, 0, 0, 0, 0, 0, 0, 0, 0, 0, 0, 0, 1666667]], ((0, 0), [])), (2, [4, 1, 1], [[], [], [], [1]], ((0, 0), [])), (2, [1, 0, 2], [[0, 0, 1], [0, 0, 0, 1]], ((0, 0), [])), (3, [], [], ((0, 0), [])), (0, [1], [[1, 0, 0, 0, 0, 0, 0, 0, 1]], ((0, 0), [])), (0, [2], [[1, 0, 0, 0, 0, 0, 0, 0, 0, 0, 0, 1]], ((0, 0), [])), (1, [], [], ((0, 1), [(8, 0, 1), (10, 1, 0)])), (0, [0], [[9999996, 0, 0, 0, 0, 0, 0, 1666666, 0, 0, 0, 0, 0, 0, 0, 1666666]], ((0, 0), [])), (0, [0], [[10000000, 0, 0, 0, 0, 0, 1666667, 0, 0, 0, 0, 0, 0, 0, 1666667]], ((0, 0), []))]) (by decide +kernel)
theorem zx_gv405_ok {PT : Nat → zz_W → Prop} : zx_Vok 64 zHT PT (zu_Vw 101 2065 2065 [31] [((0, 0), [(0, 1, 0), (3, 0, 1)]), ((0, 0), [(0, 0, 1), (3, 1, 0)]), ((0, 0), [(2, 1, 0), (5, 0, 1)]), ((0, 0), [(2, 0, 1), (5, 1, 0)]), ((0, 0), [(1, 1, 0), (4, 0, 1)]), ((0, 0), [(1, 0, 1), (4, 1, 0)]), ((0, 4), [(6, 1, 0), (8, 0, 6)]), ((4, 0), [(6, 0, 1), (8, 6, 0)])]) := zu_Vw_ok (hs := [(1, [], [], ((0, 0), [(6, 0, 1), (10, 6, 0)])), (2, [4, 0, 0], [[], [], [], [1]], ((0, 0), [])), (2, [4, 1, 1], [[], [], [], [0, 0, 1]], ((0, 0), [])), (3, [], [], ((0, 0), [])), (0, [1], [[1, 0, 0, 0, 0, 0, 0, 1]], ((0, 0), [])), (0, [2], [[1, 0, 0, 0, 0, 0, 0, 0, 0, 0, 1]], ((0, 0), [])), (0, [3], [[1, 1, 0, 1, 0, 0, 0, 0, 9999999, 10000000]], ((0, 0), [])), (1, [], [], ((0, 2), [(6, 1, 0), (10, 0, 6)])), (2, [3, 0, 0], [[], [], [], [1]], ((0, 0), [])), (1, [], [], ((2, 0), [(6, 0, 1), (10, 6, 0)])), (2, [4, 1, 1], [[], [], [], [1]], ((0, 0), [])), (3, [], [], ((0, 0), [])), (0, [1], [[1, 0, 0, 0, 0, 0, 0, 0, 0, 1]], ((0, 0), [])), (0, [2], [[1, 0, 0, 0, 0, 0, 0, 0, 0, 0, 0, 0, 1]], ((0, 0), [])), (0, [3], [[1, 1, 0, 0, 1, 0, 0, 0, 0, 0, 9999999, 10000000]], ((0, 0), [])), (1, [], [], ((0, 4), [(6, 1, 0), (10, 0, 6)])), (2, [3, 1, 1], [[], [], [], [1]], ((0, 0), [])), (3, [], [], ((0, 0), [])), (0, [1], [[1, 0, 0, 0, 0, 0, 0, 0, 0, 0, 1]], ((0, 0), [])), (0, [2], [[1, 0, 0, 0, 0, 0, 0, 0, 0, 0, 0, 0, 0, 1]], ((0, 0), [])), (0, [3], [[1, 1, 0, 0, 0, 1, 0, 0, 0, 0, 0, 9999999, 10000000]], ((0, 0), [])), (2, [1, 1, 2], [[1], [0, 1]], ((0, 0), [])), (3, [], [], ((0, 0), [])), (0, [1], [[1, 0, 0, 0, 0, 0, 0, 0, 0, 0, 1]], ((0, 0), [])), (0, [2], [[1, 0, 0, 0, 0, 0, 0, 0, 0, 0, 0, 0, 0, 1]], ((0, 0), [])), (1, [], [], ((0, 1), [(8, 0, 1), (10, 1, 0)])), (0, [0], [[9999996, 0, 0, 0, 0, 1666666, 0, 0, 0, 0, 0, 0, 0, 0, 0, 0, 0, 1666666]], ((0, 0), [])), (0, [0], [[10000000, 0, 0, 0, 1666667, 0, 0, 0, 0, 0, 0, 0, 0, 0, 0, 0, 1666667]], ((0, 0), [])), (2, [4, 1, 1], [[], [], [], [1]], ((0, 0), [])), (2, [1, 0, 2], [[0, 0, 1], [0, 0, 0, 1]], ((0, 0), [])), (3, [], [], ((0, 0), [])), (0, [1], [[1, 0, 0, 0, 0, 0, 0, 0, 1]], ((0, 0), [])), (0, [2], [[1, 0, 0, 0, 0, 0, 0, 0, 0, 0, 0, 1]], ((0, 0), [])), (1, [], [], ((0, 1), [(8, 0, 1), (10, 1, 0)])), (0, [0], [[9999996, 0, 0, 0, 0, 0, 0, 1666666, 0, 0, 0, 0, 0, 0, 0, 1666666]], ((0, 0), [])), (0, [0], [[10000000, 0, 0, 0, 0, 0, 1666667, 0, 0, 0, 0, 0, 0, 0, 1666667]], ((0, 0), []))]) (by decide +kernel)
theorem zx_gv406_ok {PT : Nat → zz_W → Prop} : zx_Vok 64 zHT PT (zu_Vw 101 2065 2065 [31] [((0, 0), [(0, 1, 0), (3, 0, 1)]), ((0, 0), [(0, 0, 1), (3, 1, 0)]), ((0, 0), [(2, 1, 0), (5, 0, 1)]), ((0, 0), [(2, 0, 1), (5, 1, 0)]), ((0, 0), [(1, 1, 0), (4, 0, 1)]), ((0, 0), [(1, 0, 1), (4, 1, 0)]), ((0, 5), [(6, 1, 0), (8, 0, 6)]), ((5, 0), [(6, 0, 1), (8, 6, 0)])]) := zu_Vw_ok (hs := [(1, [], [], ((0, 0), [(6, 0, 1), (10, 6, 0)])), (2, [4, 0, 0], [[], [], [], [1]], ((0, 0), [])), (2, [4, 1, 1], [[], [], [], [0, 0, 1]], ((0, 0), [])), (3, [], [], ((0, 0), [])), (0, [1], [[1, 0, 0, 0, 0, 0, 0, 1]], ((0, 0), [])), (0, [2], [[1, 0, 0, 0, 0, 0, 0, 0, 0, 0, 1]], ((0, 0), [])), (0, [3], [[1, 1, 0, 1, 0, 0, 0, 0, 9999999, 10000000]], ((0, 0), [])), (1, [], [], ((0, 2), [(6, 1, 0), (10, 0, 6)])), (2, [3, 0, 0], [[], [], [], [1]], ((0, 0), [])), (1, [], [], ((2, 0), [(6, 0, 1), (10, 6, 0)])), (2, [4, 1, 1], [[], [], [], [1]], ((0, 0), [])), (3, [], [], ((0, 0), [])), (0, [1], [[1, 0, 0, 0, 0, 0, 0, 0, 0, 1]], ((0, 0), [])), (0, [2], [[1, 0, 0, 0, 0, 0, 0, 0, 0, 0, 0, 0, 1]], ((0, 0), [])), (0, [3], [[1, 1, 0, 0, 1, 0, 0, 0, 0, 0, 9999999, 10000000]], ((0, 0), [])), (1, [], [], ((0, 4), [(6, 1, 0), (10, 0, 6)])), (2, [3, 1, 1], [[], [], [], [1]], ((0, 0), [])), (3, [], [], ((0, 0), [])), (0, [1], [[1, 0, 0, 0, 0, 0, 0, 0, 0, 0, 1]], ((0, 0), [])), (0, [2], [[1, 0, 0, 0, 0, 0, 0, 0, 0, 0, 0, 0, 0, 1]], ((0, 0), [])), (0, [3], [[1, 1, 0, 0, 0, 1, 0, 0, 0, 0, 0, 9999999, 10000000]], ((0, 0), [])), (2, [1, 1, 2], [[1], [0, 1]], ((0, 0), [])), (3, [], [], ((0, 0), [])), (0, [1], [[1, 0, 0, 0, 0, 0, 0, 0, 0, 0, 1]], ((0, 0), [])), (0, [2], [[1, 0, 0, 0, 0, 0, 0, 0, 0, 0, 0, 0, 0, 1]], ((0, 0), [])), (1, [], [], ((0, 1), [(8, 0, 1), (10, 1, 0)])), (0, [0], [[9999996, 0, 0, 0, 0, 1666666, 0, 0, 0, 0, 0, 0, 0, 0, 0, 0, 0, 1666666]], ((0, 0), [])), (0, [0], [[10000000, 0, 0, 0, 1666667, 0, 0, 0, 0, 0, 0, 0, 0, 0, 0, 0, 1666667]], ((0, 0), [])), (2, [4, 1, 1], [[], [], [], [1]], ((0, 0), [])), (2, [1, 0, 2], [[0, 0, 1], [0, 0, 0, 1]], ((0, 0), [])), (3, [], [], ((0, 0), [])), (0, [1], [[1, 0, 0, 0, 0, 0, 0, 0, 1]], ((0, 0), [])), (0, [2], [[1, 0, 0, 0, 0, 0, 0, 0, 0, 0, 0, 1]], ((0, 0), [])), (1, [], [], ((0, 1), [(8, 0, 1), (10, 1, 0)])), (0, [0], [[9999996, 0, 0, 0, 0, 0, 0, 1666666, 0, 0, 0, 0, 0, 0, 0, 1666666]], ((0, 0), [])), (0, [0], [[10000000, 0, 0, 0, 0, 0, 1666667, 0, 0, 0, 0, 0, 0, 0, 1666667]], ((0, 0), []))]) (by decide +kernel)
theorem zx_gv407_ok {PT : Nat → zz_W → Prop} : zx_Vok 64 zHT PT (zu_Vw 118 3065 3065 [31] [((0, 0), [(0, 1, 0), (3, 0, 1)]), ((0, 0), [(0, 0, 1), (3, 1, 0)]), ((0, 0), [(2, 1, 0), (5, 0, 1)]), ((0, 0), [(2, 0, 1), (5, 1, 0)]), ((0, 0), [(1, 1, 0), (4, 0, 1)]), ((0, 0), [(1, 0, 1), (4, 1, 0)]), ((0, 4), [(6, 1, 0), (8, 0, 6)]), ((4, 0), [(6, 0, 1), (8, 6, 0)])]) := zu_Vw_ok (hs := [(1, [], [], ((0, 0), [(6, 0, 1), (10, 6, 0)])), (2, [4, 0, 0], [[], [], [], [1]], ((0, 0), [])), (2, [4, 1, 1], [[], [], [], [0, 0, 1]], ((0, 0), [])), (3, [], [], ((0, 0), [])), (0, [1], [[1, 0, 0, 0, 0, 0, 0, 1]], ((0, 0), [])), (0, [2], [[1, 0, 0, 0, 0, 0, 0, 0, 0, 0, 1]], ((0, 0), [])), (0, [3], [[1, 1, 0, 1, 0, 0, 0, 0, 9999999, 10000000]], ((0, 0), [])), (1, [], [], ((0, 2), [(6, 1, 0), (10, 0, 6)])), (2, [3, 0, 0], [[], [], [], [1]], ((0, 0), [])), (1, [], [], ((2, 0), [(6, 0, 1), (10, 6, 0)])), (2, [4, 1, 1], [[], [], [], [1]], ((0, 0), [])), (3, [], [], ((0, 0), [])), (0, [1], [[1, 0, 0, 0, 0, 0, 0, 0, 0, 1]], ((0, 0), [])), (0, [2], [[1, 0, 0, 0, 0, 0, 0, 0, 0, 0, 0, 0, 1]], ((0, 0), [])), (0, [3], [[1, 1, 0, 0, 1, 0, 0, 0, 0, 0, 9999999, 10000000]], ((0, 0), [])), (1, [], [], ((0, 4), [(6, 1, 0), (10, 0, 6)])), (2, [3, 1, 1], [[], [], [], [1]], ((0, 0), [])), (3, [], [], ((0, 0), [])), (0, [1], [[1, 0, 0, 0, 0, 0, 0, 0, 0, 0, 1]], ((0, 0), [])), (0, [2], [[1, 0, 0, 0, 0, 0, 0, 0, 0, 0, 0, 0, 0, 1]], ((0, 0), [])), (0, [3], [[1, 1, 0, 0, 0, 1, 0, 0, 0, 0, 0, 9999999, 10000000]], ((0, 0), [])), (2, [1, 1, 2], [[1], [0, 1]], ((0, 0), [])), (3, [], [], ((0, 0), [])), (0, [1], [[1, 0, 0, 0, 0, 0, 0, 0, 0, 0, 1]], ((0, 0), [])), (0, [2], [[1, 0, 0, 0, 0, 0, 0, 0, 0, 0, 0, 0, 0, 1]], ((0, 0), [])), (1, [], [], ((0, 1), [(8, 0, 1), (10, 1, 0)])), (0, [0], [[9999996, 0, 0, 0, 0, 1666666, 0, 0, 0, 0, 0, 0, 0, 0, 0, 0, 0, 1666666]], ((0, 0), [])), (0, [0], [[10000000, 0, 0, 0, 1666667, 0, 0, 0, 0, 0, 0, 0, 0, 0, 0, 0, 1666667]], ((0, 0), [])), (2, [4, 1, 1], [[], [], [], [1]], ((0, 0), [])), (2, [1, 0, 2], [[0, 0, 1], [0, 0, 0, 1]], ((0, 0), [])), (3, [], [], ((0, 0), [])), (0, [1], [[1, 0, 0, 0, 0, 0, 0, 0, 1]], ((0, 0), [])), (0, [2], [[1, 0, 0, 0, 0, 0, 0, 0, 0, 0, 0, 1]], ((0, 0), [])), (1, [], [], ((0, 1), [(8, 0, 1), (10, 1, 0)])), (0, [0], [[9999996, 0, 0, 0, 0, 0, 0, 1666666, 0, 0, 0, 0, 0, 0, 0, 1666666]], ((0, 0), [])), (0, [0], [[10000000, 0, 0, 0, 0, 0, 1666667, 0, 0, 0, 0, 0, 0, 0, 1666667]], ((0, 0), []))]) (by decide +kernel)
theorem zx_gv408_ok {PT : Nat → zz_W → Prop} : zx_Vok 64 zHT PT (zu_Vw 118 3065 3065 [31] [((0, 0), [(0, 1, 0), (3, 0, 1)]), ((0, 0), [(0, 0, 1), (3, 1, 0)]), ((0, 0), [(2, 1, 0), (5, 0, 1)]), ((0, 0), [(2, 0, 1), (5, 1, 0)]), ((0, 0), [(1, 1, 0), (4, 0, 1)]), ((0, 0), [(1, 0, 1), (4, 1, 0)]), ((0, 5), [(6, 1, 0), (8, 0, 6)]), ((5, 0), [(6, 0, 1), (8, 6, 0)])]) := zu_Vw_ok (hs := [(1, [], [], ((0, 0), [(6, 0, 1), (10, 6, 0)])), (2, [4, 0, 0], [[], [], [], [1]], ((0, 0), [])), (2, [4, 1, 1], [[], [], [], [0, 0, 1]], ((0, 0), [])), (3, [], [], ((0, 0), [])), (0, [1], [[1, 0, 0, 0, 0, 0, 0, 1]], ((0, 0), [])), (0, [2], [[1, 0, 0, 0, 0, 0, 0, 0, 0, 0, 1]], ((0, 0), [])), (0, [3], [[1, 1, 0, 1, 0, 0, 0, 0, 9999999, 10000000]], ((0, 0), [])), (1, [], [], ((0, 2), [(6, 1, 0), (10, 0, 6)])), (2, [3, 0, 0], [[], [], [], [1]], ((0, 0), [])), (1, [], [], ((2, 0), [(6, 0, 1), (10, 6, 0)])), (2, [4, 1, 1], [[], [], [], [1]], ((0, 0), [])), (3, [], [], ((0, 0), [])), (0, [1], [[1, 0, 0, 0, 0, 0, 0, 0, 0, 1]], ((0, 0), [])), (0, [2], [[1, 0, 0, 0, 0, 0, 0, 0, 0, 0, 0, 0, 1]], ((0, 0), [])), (0, [3], [[1, 1, 0, 0, 1, 0, 0, 0, 0, 0, 9999999, 10000000]], ((0, 0), [])), (1, [], [], ((0, 4), [(6, 1, 0), (10, 0, 6)])), (2, [3, 1, 1], [[], [], [], [1]], ((0, 0), [])), (3, [], [], ((0, 0), [])), (0, [1], [[1, 0, 0, 0, 0, 0, 0, 0, 0, 0, 1]], ((0, 0), [])), (0, [2], [[1, 0, 0, 0, 0, 0, 0, 0, 0, 0, 0, 0, 0, 1]], ((0, 0), [])), (0, [3], [[1, 1, 0, 0, 0, 1, 0, 0, 0, 0, 0, 9999999, 10000000]], ((0, 0), [])), (2, [1, 1, 2], [[1], [0, 1]], ((0, 0), [])), (3, [], [], ((0, 0), [])), (0, [1], [[1, 0, 0, 0, 0, 0, 0, 0, 0, 0, 1]], ((0, 0), [])), (0, [2], [[1, 0, 0, 0, 0, 0, 0, 0, 0, 0, 0, 0, 0, 1]], ((0, 0), [])), (1, [], [], ((0, 1), [(8, 0, 1), (10, 1, 0)])), (0, [0], [[9999996, 0, 0, 0, 0, 1666666, 0, 0, 0, 0, 0, 0, 0, 0, 0, 0, 0, 1666666]], ((0, 0), [])), (0, [0], [[10000000, 0, 0, 0, 1666667, 0, 0, 0, 0, 0, 0, 0, 0, 0, 0, 0, 1666667]], ((0, 0), [])), (2, [4, 1, 1], [[], [], [], [1]], ((0, 0), [])), (2, [1, 0, 2], [[0, 0, 1], [0, 0, 0, 1]], ((0, 0), [])), (3, [], [], ((0, 0), [])), (0, [1], [[1, 0, 0, 0, 0, 0, 0, 0, 1]], ((0, 0), [])), (0, [2], [[1, 0, 0, 0, 0, 0, 0, 0, 0, 0, 0, 1]], ((0, 0), [])), (1, [], [], ((0, 1), [(8, 0, 1), (10, 1, 0)])), (0, [0], [[9999996, 0, 0, 0, 0, 0, 0, 1666666, 0, 0, 0, 0, 0, 0, 0, 1666666]], ((0, 0), [])), (0, [0], [[10000000, 0, 0, 0, 0, 0, 1666667, 0, 0, 0, 0, 0, 0, 0, 1666667]], ((0, 0), []))]) (by decide +kernel)
theorem zx_gv409_ok {PT : Nat → zz_W → Prop} : zx_Vok 64 zHT PT (zu_Vw 135 4065 4065 [31] [((0, 0), [(0, 1, 0), (3, 0, 1)]), ((0, 0), [(0, 0, 1), (3, 1, 0)]), ((0, 0), [(2, 1, 0), (5, 0, 1)]), ((0, 0), [(2, 0, 1), (5, 1, 0)]), ((0, 0), [(1, 1, 0), (4, 0, 1)]), ((0, 0), [(1, 0, 1), (4, 1, 0)]), ((0, 4), [(6, 1, 0), (8, 0, 6)]), ((4, 0), [(6, 0, 1), (8, 6, 0)])]) := zu_Vw_ok (hs := [(1, [], [], ((0, 0), [(6, 0, 1), (10, 6, 0)])), (2, [4, 0, 0], [[], [], [], [1]], ((0, 0), [])), (2, [4, 1, 1], [[], [], [], [0, 0, 1]], ((0, 0), [])), (3, [], [], ((0, 0), [])), (0, [1], [[1, 0, 0, 0, 0, 0, 0, 1]], ((0, 0), [])), (0, [2], [[1, 0, 0, 0, 0, 0, 0, 0, 0, 0, 1]], ((0, 0), [])), (0, [3], [[1, 1, 0, 1, 0, 0, 0, 0, 9999999, 10000000]], ((0, 0), [])), (1, [], [], ((0, 2), [(6, 1, 0), (10, 0, 6)])), (2, [3, 0, 0], [[], [], [], [1]], ((0, 0), [])), (1, [], [], ((2, 0), [(6, 0, 1), (10, 6, 0)])), (2, [4, 1, 1], [[], [], [], [1]], ((0, 0), [])), (3, [], [], ((0, 0), [])), (0, [1], [[1, 0, 0, 0, 0, 0, 0, 0, 0, 1]], ((0, 0), [])), (0, [2], [[1, 0, 0, 0, 0, 0, 0, 0, 0, 0, 0, 0, 1]], ((0, 0), [])), (0, [3], [[1, 1, 0, 0, 1, 0, 0, 0, 0, 0, 9999999, 10000000]], ((0, 0), [])), (1, [], [], ((0, 4), [(6, 1, 0), (10, 0, 6)])), (2, [3, 1, 1], [[], [], [], [1]], ((0, 0), [])), (3, [], [], ((0, 0), [])), (0, [1], [[1, 0, 0, 0, 0, 0, 0, 0, 0, 0, 1]], ((0, 0), [])), (0, [2], [[1, 0, 0, 0, 0, 0, 0, 0, 0, 0, 0, 0, 0, 1]], ((0, 0), [])), (0, [3], [[1, 1, 0, 0, 0, 1, 0, 0, 0, 0, 0, 9999999, 10000000]], ((0, 0), [])), (2, [1, 1, 2], [[1], [0, 1]], ((0, 0), [])), (3, [], [], ((0, 0), [])), (0, [1], [[1, 0, 0, 0, 0, 0, 0, 0, 0, 0, 1]], ((0, 0), [])), (0, [2], [[1, 0, 0, 0, 0, 0, 0, 0, 0, 0, 0, 0, 0, 1]], ((0, 0), [])), (1, [], [], ((0, 1), [(8, 0, 1), (10, 1, 0)])), (0, [0], [[9999996, 0, 0, 0, 0, 1666666, 0, 0, 0, 0, 0, 0, 0, 0, 0, 0, 0, 1666666]], ((0, 0), [])), (0, [0], [[10000000, 0, 0, 0, 1666667, 0, 0, 0, 0, 0, 0, 0, 0, 0, 0, 0, 1666667]], ((0, 0), [])), (2, [4, 1, 1], [[], [], [], [1]], ((0, 0), [])), (2, [1, 0, 2], [[0, 0, 1], [0, 0, 0, 1]], ((0, 0), [])), (3, [], [], ((0, 0), [])), (0, [1], [[1, 0, 0, 0, 0, 0, 0, 0, 1]], ((0, 0), [])), (0, [2], [[1, 0, 0, 0, 0, 0, 0, 0, 0, 0, 0, 1]], ((0, 0), [])), (1, [], [], ((0, 1), [(8, 0, 1), (10, 1, 0)])), (0, [0], [[9999996, 0, 0, 0, 0, 0, 0, 1666666, 0, 0, 0, 0, 0, 0, 0, 1666666]], ((0, 0), [])), (0, [0], [[10000000, 0, 0, 0, 0, 0, 1666667, 0, 0, 0, 0, 0, 0, 0, 1666667]], ((0, 0), []))]) (by decide +kernel)
theorem zx_gv410_ok {PT : Nat → zz_W → Prop} : zx_Vok 64 zHT PT (zu_Vw 135 4065 4065 [31] [((0, 0), [(0, 1, 0), (3, 0, 1)]), ((0, 0), [(0, 0, 1), (3, 1, 0)]), ((0, 0), [(2, 1, 0), (5, 0, 1)]), ((0, 0), [(2, 0, 1), (5, 1, 0)]), ((0, 0), [(1, 1, 0), (4, 0, 1)]), ((0, 0), [(1, 0, 1), (4, 1, 0)]), ((0, 5), [(6, 1, 0), (8, 0, 6)]), ((5, 0), [(6, 0, 1), (8, 6, 0)])]) := zu_Vw_ok (hs := [(1, [], [], ((0, 0), [(6, 0, 1), (10, 6, 0)])), (2, [4, 0, 0], [[], [], [], [1]], ((0, 0), [])), (2, [4, 1, 1], [[], [], [], [0, 0, 1]], ((0, 0), [])), (3, [], [], ((0, 0), [])), (0, [1], [[1, 0, 0, 0, 0, 0, 0, 1]], ((0, 0), [])), (0, [2], [[1, 0, 0, 0, 0, 0, 0, 0, 0, 0, 1]], ((0, 0), [])), (0, [3], [[1, 1, 0, 1, 0, 0, 0, 0, 9999999, 10000000]], ((0, 0), [])), (1, [], [], ((0, 2), [(6, 1, 0), (10, 0, 6)])), (2, [3, 0, 0], [[], [], [], [1]], ((0, 0), [])), (1, [], [], ((2, 0), [(6, 0, 1), (10, 6, 0)])), (2, [4, 1, 1], [[], [], [], [1]], ((0, 0), [])), (3, [], [], ((0, 0), [])), (0, [1], [[1, 0, 0, 0, 0, 0, 0, 0, 0, 1]], ((0, 0), [])), (0, [2], [[1, 0, 0, 0, 0, 0, 0, 0, 0, 0, 0, 0, 1]], ((0, 0), [])), (0, [3], [[1, 1, 0, 0, 1, 0, 0, 0, 0, 0, 9999999, 10000000]], ((0, 0), [])), (1, [], [], ((0, 4), [(6, 1, 0), (10, 0, 6)])), (2, [3, 1, 1], [[], [], [], [1]], ((0, 0), [])), (3, [], [], ((0, 0), [])), (0, [1], [[1, 0, 0, 0, 0, 0, 0, 0, 0, 0, 1]], ((0, 0), [])), (0, [2], [[1, 0, 0, 0, 0, 0, 0, 0, 0, 0, 0, 0, 0, 1]], ((0, 0), [])), (0, [3], [[1, 1, 0, 0, 0, 1, 0, 0, 0, 0, 0, 9999999, 10000000]], ((0, 0), [])), (2, [1, 1, 2], [[1], [0, 1]], ((0, 0), [])), (3, [], [], ((0, 0), [])), (0, [1], [[1, 0, 0, 0, 0, 0, 0, 0, 0, 0, 1]], ((0, 0), [])), (0, [2], [[1, 0, 0, 0, 0, 0, 0, 0, 0, 0, 0, 0, 0, 1]], ((0, 0), [])), (1, [], [], ((0, 1), [(8, 0, 1), (10, 1, 0)])), (0, [0], [[9999996, 0, 0, 0, 0, 1666666, 0, 0, 0, 0, 0, 0, 0, 0, 0, 0, 0, 1666666]], ((0, 0), [])), (0, [0], [[10000000, 0, 0, 0, 1666667, 0, 0, 0, 0, 0, 0, 0, 0, 0, 0, 0, 1666667]], ((0, 0), [])), (2, [4, 1, 1], [[], [], [], [1]], ((0, 0), [])), (2, [1, 0, 2], [[0, 0, 1], [0, 0, 0, 1]], ((0, 0), [])), (3, [], [], ((0, 0), [])), (0, [1], [[1, 0, 0, 0, 0, 0, 0, 0, 1]], ((0, 0), [])), (0, [2], [[1, 0, 0, 0, 0, 0, 0, 0, 0, 0, 0, 1]], ((0, 0), [])), (1, [], [], ((0, 1), [(8, 0, 1), (10, 1, 0)])), (0, [0], [[9999996, 0, 0, 0, 0, 0, 0, 1666666, 0, 0, 0, 0, 0, 0, 0, 1666666]], ((0, 0), [])), (0, [0], [[10000000, 0, 0, 0, 0, 0, 1666667, 0, 0, 0, 0, 0, 0, 0, 1666667]], ((0, 0), []))]) (by decide +kernel)
theorem zx_gv411_ok {PT : Nat → zz_W → Prop} : zx_Vok 64 zHT PT (zu_Vw 152 5065 5065 [31] [((0, 0), [(0, 1, 0), (3, 0, 1)]), ((0, 0), [(0, 0, 1), (3, 1, 0)]), ((0, 0), [(2, 1, 0), (5, 0, 1)]), ((0, 0), [(2, 0, 1), (5, 1, 0)]), ((0, 0), [(1, 1, 0), (4, 0, 1)]), ((0, 0), [(1, 0, 1), (4, 1, 0)]), ((0, 4), [(6, 1, 0), (8, 0, 6)]), ((4, 0), [(6, 0, 1), (8, 6, 0)])]) := zu_Vw_ok (hs := [(1, [], [], ((0, 0), [(6, 0, 1), (10, 6, 0)])), (2, [4, 0, 0], [[], [], [], [1]], ((0, 0), [])), (2, [4, 1, 1], [[], [], [], [0, 0, 1]], ((0, 0), [])), (3, [], [], ((0, 0), [])), (0, [1], [[1, 0, 0, 0, 0, 0, 0, 1]], ((0, 0), [])), (0, [2], [[1, 0, 0, 0, 0, 0, 0, 0, 0, 0, 1]], ((0, 0), [])), (0, [3], [[1, 1, 0, 1, 0, 0, 0, 0, 9999999, 10000000]], ((0, 0), [])), (1, [], [], ((0, 2), [(6, 1, 0), (10, 0, 6)])), (2, [3, 0, 0], [[], [], [], [1]], ((0, 0), [])), (1, [], [], ((2, 0), [(6, 0, 1), (10, 6, 0)])), (2, [4, 1, 1], [[], [], [], [1]], ((0, 0), [])), (3, [], [], ((0, 0), [])), (0, [1], [[1, 0, 0, 0, 0, 0, 0, 0, 0, 1]], ((0, 0), [])), (0, [2], [[1, 0, 0, 0, 0, 0, 0, 0, 0, 0, 0, 0, 1]], ((0, 0), [])), (0, [3], [[1, 1, 0, 0, 1, 0, 0, 0, 0, 0, 9999999, 10000000]], ((0, 0), [])), (1, [], [], ((0, 4), [(6, 1, 0), (10, 0, 6)])), (2, [3, 1, 1], [[], [], [], [1]], ((0, 0), [])), (3, [], [], ((0, 0), [])), (0, [1], [[1, 0, 0, 0, 0, 0, 0, 0, 0, 0, 1]], ((0, 0), [])), (0, [2], [[1, 0, 0, 0, 0, 0, 0, 0, 0, 0, 0, 0, 0, 1]], ((0, 0), [])), (0, [3], [[1, 1, 0, 0, 0, 1, 0, 0, 0, 0, 0, 9999999, 10000000]], ((0, 0), [])), (2, [1, 1, 2], [[1], [0, 1]], ((0, 0), [])), (3, [], [], ((0, 0), [])), (0, [1], [[1, 0, 0, 0, 0, 0, 0, 0, 0, 0, 1]], ((0, 0), [])), (0, [2], [[1, 0, 0, 0, 0, 0, 0, 0, 0, 0, 0, 0, 0, 1]], ((0, 0), [])), (1, [], [], ((0, 1), [(8, 0, 1), (10, 1, 0)])), (0, [0], [[9999996, 0, 0, 0, 0, 1666666, 0, 0, 0, 0, 0, 0, 0, 0, 0, 0, 0, 1666666]], ((0, 0), [])), (0, [0], [[10000000, 0, 0, 0, 1666667, 0, 0, 0, 0, 0, 0, 0, 0, 0, 0, 0, 1666667]], ((0, 0), [])), (2, [4, 1, 1], [[], [], [], [1]], ((0, 0), [])), (2, [1, 0, 2], [[0, 0, 1], [0, 0, 0, 1]], ((0, 0), [])), (3, [], [], ((0, 0), [])), (0, [1], [[1, 0, 0, 0, 0, 0, 0, 0, 1]], ((0, 0), [])), (0, [2], [[1, 0, 0, 0, 0, 0, 0, 0, 0, 0, 0, 1]], ((0, 0), [])), (1, [], [], ((0, 1), [(8, 0, 1), (10, 1, 0)])), (0, [0], [[9999996, 0, 0, 0, 0, 0, 0, 1666666, 0, 0, 0, 0, 0, 0, 0, 1666666]], ((0, 0), [])), (0, [0], [[10000000, 0, 0, 0, 0, 0, 1666667, 0, 0, 0, 0, 0, 0, 0, 1666667]], ((0, 0), []))]) (by decide +kernel)
theorem zx_gv412_ok {PT : Nat → zz_W → Prop} : zx_Vok 64 zHT PT (zu_Vw 152 5065 5065 [31] [((0, 0), [(0, 1, 0), (3, 0, 1)]), ((0, 0), [(0, 0, 1), (3, 1, 0)]), ((0, 0), [(2, 1, 0), (5, 0, 1)]), ((0, 0), [(2, 0, 1), (5, 1, 0)]), ((0, 0), [(1, 1, 0), (4, 0, 1)]), ((0, 0), [(1, 0, 1), (4, 1, 0)]), ((0, 5), [(6, 1, 0), (8, 0, 6)]), ((5, 0), [(6, 0, 1), (8, 6, 0)])]) := zu_Vw_ok (hs := [(1, [], [], ((0, 0), [(6, 0, 1), (10, 6, 0)])), (2, [4, 0, 0], [[], [], [], [1]], ((0, 0), [])), (2, [4, 1, 1], [[], [], [], [0, 0, 1]], ((0, 0), [])), (3, [], [], ((0, 0), [])), (0, [1], [[1, 0, 0, 0, 0, 0, 0, 1]], ((0, 0), [])), (0, [2], [[1, 0, 0, 0, 0, 0, 0, 0, 0, 0, 1]], ((0, 0), [])), (0, [3], [[1, 1, 0, 1, 0, 0, 0, 0, 9999999, 10000000]], ((0, 0), [])), (1, [], [], ((0, 2), [(6, 1, 0), (10, 0, 6)])), (2, [3, 0, 0], [[], [], [], [1]], ((0, 0), [])), (1, [], [], ((2, 0), [(6, 0, 1), (10, 6, 0)])), (2, [4, 1, 1], [[], [], [], [1]], ((0, 0), [])), (3, [], [], ((0, 0), [])), (0, [1], [[1, 0, 0, 0, 0, 0, 0, 0, 0, 1]], ((0, 0), [])), (0, [2], [[1, 0, 0, 0, 0, 0, 0, 0, 0, 0, 0, 0, 1]], ((0, 0), [])), (0, [3], [[1, 1, 0, 0, 1, 0, 0, 0, 0, 0, 9999999, 10000000]], ((0, 0), [])), (1, [], [], ((0, 4), [(6, 1, 0), (10, 0, 6)])), (2, [3, 1, 1], [[], [], [], [1]], ((0, 0), [])), (3, [], [], ((0, 0), [])), (0, [1], [[1, 0, 0, 0, 0, 0, 0, 0, 0, 0, 1]], ((0, 0), [])), (0, [2], [[1, 0, 0, 0, 0, 0, 0, 0, 0, 0, 0, 0, 0, 1]], ((0, 0), [])), (0, [3], [[1, 1, 0, 0, 0, 1, 0, 0, 0, 0, 0, 9999999, 10000000]], ((0, 0), [])), (2, [1, 1, 2], [[1], [0, 1]], ((0, 0), [])), (3, [], [], ((0, 0), [])), (0, [1], [[1, 0, 0, 0, 0, 0, 0, 0, 0, 0, 1]], ((0, 0), [])), (0, [2], [[1, 0, 0, 0, 0, 0, 0, 0, 0, 0, 0, 0, 0, 1]], ((0, 0), [])), (1, [], [], ((0, 1), [(8, 0, 1), (10, 1, 0)])), (0, [0], [[9999996, 0, 0, 0, 0, 1666666, 0, 0, 0, 0, 0, 0, 0, 0, 0, 0, 0, 1666666]], ((0, 0), [])), (0, [0], [[10000000, 0, 0, 0, 1666667, 0, 0, 0, 0, 0, 0, 0, 0, 0, 0, 0, 1666667]], ((0, 0), [])), (2, [4, 1, 1], [[], [], [], [1]], ((0, 0), [])), (2, [1, 0, 2], [[0, 0, 1], [0, 0, 0, 1]], ((0, 0), [])), (3, [], [], ((0, 0), [])), (0, [1], [[1, 0, 0, 0, 0, 0, 0, 0, 1]], ((0, 0), [])), (0, [2], [[1, 0, 0, 0, 0, 0, 0, 0, 0, 0, 0, 1]], ((0, 0), [])), (1, [], [], ((0, 1), [(8, 0, 1), (10, 1, 0)])), (0, [0], [[9999996, 0, 0, 0, 0, 0, 0, 1666666, 0, 0, 0, 0, 0, 0, 0, 1666666]], ((0, 0), [])), (0, [0], [[10000000, 0, 0, 0, 0, 0, 1666667, 0, 0, 0, 0, 0, 0, 0, 1666667]], ((0, 0), []))]) (by decide +kernel)
theorem zx_gv413_ok {PT : Nat → zz_W → Prop} : zx_Vok 64 zHT PT (zu_Vw 163 80 80 [31] [((0, 0), [(0, 1, 0), (3, 0, 1)]), ((0, 0), [(0, 0, 1), (3, 1, 0)]), ((0, 0), [(2, 1, 0), (5, 0, 1)]), ((0, 0), [(2, 0, 1), (5, 1, 0)]), ((0, 0), [(1, 1, 0), (4, 0, 1)]), ((0, 0), [(1, 0, 1), (4, 1, 0)]), ((0, 4), [(6, 1, 0), (8, 0, 6)]), ((4, 0), [(6, 0, 1), (8, 6, 0)])]) := zu_Vw_ok (hs := [(1, [], [], ((0, 0), [(6, 0, 1), (10, 6, 0)])), (2, [4, 0, 0], [[], [], [], [1]], ((0, 0), [])), (2, [4, 1, 1], [[], [], [], [0, 0, 1]], ((0, 0), [])), (3, [], [], ((0, 0), [])), (0, [1], [[1, 0, 0, 0, 0, 0, 0, 1]], ((0, 0), [])), (0, [2], [[1, 0, 0, 0, 0, 0, 0, 0, 0, 0, 1]], ((0, 0), [])), (0, [3], [[1, 1, 0, 1, 0, 0, 0, 0, 9999999, 10000000]], ((0, 0), [])), (1, [], [], ((0, 2), [(6, 1, 0), (10, 0, 6)])), (2, [3, 0, 0], [[], [], [], [1]], ((0, 0), [])), (1, [], [], ((2, 0), [(6, 0, 1), (10, 6, 0)])), (2, [4, 1, 1], [[], [], [], [1]], ((0, 0), [])), (3, [], [], ((0, 0), [])), (0, [1], [[1, 0, 0, 0, 0, 0, 0, 0, 0, 1]], ((0, 0), [])), (0, [2], [[1, 0, 0, 0, 0, 0, 0, 0, 0, 0, 0, 0, 1]], ((0, 0), [])), (0, [3], [[1, 1, 0, 0, 1, 0, 0, 0, 0, 0, 9999999, 10000000]], ((0, 0), [])), (1, [], [], ((0, 4), [(6, 1, 0), (10, 0, 6)])), (2, [3, 1, 1], [[], [], [], [1]], ((0, 0), [])), (3, [], [], ((0, 0), [])), (0, [1], [[1, 0, 0, 0, 0, 0, 0, 0, 0, 0, 1]], ((0, 0), [])), (0, [2], [[1, 0, 0, 0, 0, 0, 0, 0, 0, 0, 0, 0, 0, 1]], ((0, 0), [])), (0, [3], [[1, 1, 0, 0, 0, 1, 0, 0, 0, 0, 0, 9999999, 10000000]], ((0, 0), [])), (2, [1, 1, 2], [[1], [0, 1]], ((0, 0), [])), (3, [], [], ((0, 0), [])), (0, [1], [[1, 0, 0, 0, 0, 0, 0, 0, 0, 0, 1]], ((0, 0), [])), (0, [2], [[1, 0, 0, 0, 0, 0, 0, 0, 0, 0, 0, 0, 0, 1]], ((0, 0), [])), (1, [], [], ((0, 1), [(8, 0, 1), (10, 1, 0)])), (0, [0], [[9999996, 0, 0, 0, 0, 1666666, 0, 0, 0, 0, 0, 0, 0, 0, 0, 0, 0, 1666666]], ((0, 0), [])), (0, [0], [[10000000, 0, 0, 0, 1666667, 0, 0, 0, 0, 0, 0, 0, 0, 0, 0, 0, 1666667]], ((0, 0), [])), (2, [4, 1, 1], [[], [], [], [1]], ((0, 0), [])), (2, [1, 0, 2], [[0, 0, 1], [0, 0, 0, 1]], ((0, 0), [])), (3, [], [], ((0, 0), [])), (0, [1], [[1, 0, 0, 0, 0, 0, 0, 0, 1]], ((0, 0), [])), (0, [2], [[1, 0, 0, 0, 0, 0, 0, 0, 0, 0, 0, 1]], ((0, 0), [])), (1, [], [], ((0, 1), [(8, 0, 1), (10, 1, 0)])), (0, [0], [[9999996, 0, 0, 0, 0, 0, 0, 1666666, 0, 0, 0, 0, 0, 0, 0, 1666666]], ((0, 0), [])), (0, [0], [[10000000, 0, 0, 0, 0, 0, 1666667, 0, 0, 0, 0, 0, 0, 0, 1666667]], ((0, 0), []))]) (by decide +kernel)
theorem zx_gv414_ok {PT : Nat → zz_W → Prop} : zx_Vok 64 zHT PT (zu_Vw 163 80 80 [31] [((0, 0), [(0, 1, 0), (3, 0, 1)]), ((0, 0), [(0, 0, 1), (3, 1, 0)]), ((0, 0), [(2, 1, 0), (5, 0, 1)]), ((0, 0), [(2, 0, 1), (5, 1, 0)]), ((0, 0), [(1, 1, 0), (4, 0, 1)]), ((0, 0), [(1, 0, 1), (4, 1, 0)]), ((0, 5), [(6, 1, 0), (8, 0, 6)]), ((5, 0), [(6, 0, 1), (8, 6, 0)])]) := zu_Vw_ok (hs := [(1, [], [], ((0, 0), [(6, 0, 1), (10, 6, 0)])), (2, [4, 0, 0], [[], [], [], [1]], ((0, 0), [])), (2, [4, 1, 1], [[], [], [], [0, 0, 1]], ((0, 0), [])), (3, [], [], ((0, 0), [])), (0, [1], [[1, 0, 0, 0, 0, 0, 0, 1]], ((0, 0), [])), (0, [2], [[1, 0, 0, 0, 0, 0, 0, 0, 0, 0, 1]], ((0, 0), [])), (0, [3], [[1, 1, 0, 1, 0, 0, 0, 0, 9999999, 10000000]], ((0, 0), [])), (1, [], [], ((0, 2), [(6, 1, 0), (10, 0, 6)])), (2, [3, 0, 0], [[], [], [], [1]], ((0, 0), [])), (1, [], [], ((2, 0), [(6, 0, 1), (10, 6, 0)])), (2, [4, 1, 1], [[], [], [], [1]], ((0, 0), [])), (3, [], [], ((0, 0), [])), (0, [1], [[1, 0, 0, 0, 0, 0, 0, 0, 0, 1]], ((0, 0), [])), (0, [2], [[1, 0, 0, 0, 0, 0, 0, 0, 0, 0, 0, 0, 1]], ((0, 0), [])), (0, [3], [[1, 1, 0, 0, 1, 0, 0, 0, 0, 0, 9999999, 10000000]], ((0, 0), [])), (1, [], [], ((0, 4), [(6, 1, 0), (10, 0, 6)])), (2, [3, 1, 1], [[], [], [], [1]], ((0, 0), [])), (3, [], [], ((0, 0), [])), (0, [1], [[1, 0, 0, 0, 0, 0, 0, 0, 0, 0, 1]], ((0, 0), [])), (0, [2], [[1, 0, 0, 0, 0, 0, 0, 0, 0, 0, 0, 0, 0, 1]], ((0, 0), [])), (0, [3], [[1, 1, 0, 0, 0, 1, 0, 0, 0, 0, 0, 9999999, 10000000]], ((0, 0), [])), (2, [1, 1, 2], [[1], [0, 1]], ((0, 0), [])), (3, [], [], ((0, 0), [])), (0, [1], [[1, 0, 0, 0, 0, 0, 0, 0, 0, 0, 1]], ((0, 0), [])), (0, [2], [[1, 0, 0, 0, 0, 0, 0, 0, 0, 0, 0, 0, 0, 1]], ((0, 0), [])), (1, [], [], ((0, 1), [(8, 0, 1), (10, 1, 0)])), (0, [0], [[9999996, 0, 0, 0, 0, 1666666, 0, 0, 0, 0, 0, 0, 0, 0, 0, 0, 0, 1666666]], ((0, 0), [])), (0, [0], [[10000000, 0, 0, 0, 1666667, 0, 0, 0, 0, 0, 0, 0, 0, 0, 0, 0, 1666667]], ((0, 0), [])), (2, [4, 1, 1], [[], [], [], [1]], ((0, 0), [])), (2, [1, 0, 2], [[0, 0, 1], [0, 0, 0, 1]], ((0, 0), [])), (3, [], [], ((0, 0), [])), (0, [1], [[1, 0, 0, 0, 0, 0, 0, 0, 1]], ((0, 0), [])), (0, [2], [[1, 0, 0, 0, 0, 0, 0, 0, 0, 0, 0, 1]], ((0, 0), [])), (1, [], [], ((0, 1), [(8, 0, 1), (10, 1, 0)])), (0, [0], [[9999996, 0, 0, 0, 0, 0, 0, 1666666, 0, 0, 0, 0, 0, 0, 0, 1666666]], ((0, 0), [])), (0, [0], [[10000000, 0, 0, 0, 0, 0, 1666667, 0, 0, 0, 0, 0, 0, 0, 1666667]], ((0, 0), []))]) (by decide +kernel)
theorem zx_gv307_ok {PT : Nat → zz_W → Prop} : zx_Vok 64 zHT PT (zu_Vw 67 65 65 [] [((0, 1), [(0, 0, 1), (3, 1, 0)]), ((1, 0), [(0, 1, 0), (3, 0, 1)]), ((0, 0), [(1, 1, 0), (4, 0, 1)]), ((0, 0), [(1, 0, 1), (4, 1, 0)]), ((0, 0), [(2, 1, 0), (5, 0, 1)]), ((0, 0), [(2, 0, 1), (5, 1, 0)]), ((0, 3), [(0, 0, 6), (6, 1, 0)]), ((3, 0), [(0, 6, 0), (6, 0, 1)])]) := zu_Vw_ok (hs := [(1, [], [], ((0, 0), [(6, 0, 1), (8, 6, 0)])), (2, [4, 0, 0], [[], [], [], [1]], ((0, 0), [])), (2, [4, 1, 1], [[], [], [], [0, 0, 1]], ((0, 0), [])), (3, [], [], ((0, 0), [])), (0, [0], [[10000000, 0, 0, 0, 0, 1666667, 10000000, 10000000, 0, 0, 0, 0, 1666667]], ((0, 0), [])), (0, [2], [[1, 0, 0, 0, 0, 0, 0, 0, 1]], ((0, 0), [])), (0, [3], [[1, 1, 0, 1, 0, 0, 0, 0, 0, 0, 9999999, 10000000]], ((0, 0), [])), (1, [], [], ((0, 2), [(6, 1, 0), (8, 0, 6)])), (2, [3, 0, 0], [[], [], [], [1]], ((0, 0), [])), (1, [], [], ((2, 0), [(6, 0, 1), (8, 6, 0)])), (2, [4, 1, 1], [[], [], [], [1]], ((0, 0), [])), (3, [], [], ((0, 0), [])), (0, [0], [[10000000, 0, 0, 1666667, 0, 0, 0, 0, 10000000, 10000000, 0, 0, 0, 0, 1666667]], ((0, 0), [])), (0, [2], [[1, 0, 0, 0, 0, 0, 0, 0, 0, 0, 1]], ((0, 0), [])), (0, [3], [[1, 1, 0, 0, 1, 0, 0, 0, 0, 0, 0, 0, 9999999, 10000000]], ((0, 0), [])), (1, [], [], ((0, 4), [(6, 1, 0), (8, 0, 6)])), (2, [3, 1, 1], [[], [], [], [1]], ((0, 0), [])), (3, [], [], ((0, 0), [])), (0, [1], [[1, 0, 0, 0, 0, 0, 0, 0, 0, 1]], ((0, 0), [])), (0, [2], [[1, 0, 0, 0, 0, 0, 0, 0, 0, 0, 0, 1]], ((0, 0), [])), (0, [3], [[1, 1, 0, 0, 0, 1, 0, 0, 0, 0, 0, 0, 0, 9999999, 10000000]], ((0, 0), [])), (2, [1, 1, 2], [[1], [0, 1]], ((0, 0), [])), (3, [], [], ((0, 0), [])), (0, [0], [[10000000, 0, 0, 1666667, 0, 0, 0, 0, 0, 10000000, 10000000, 0, 0, 0, 0, 1666667]], ((0, 0), [])), (0, [2], [[1, 0, 0, 0, 0, 0, 0, 0, 0, 0, 0, 1]], ((0, 0), [])), (1, [], [], ((0, 1), [(0, 0, 1), (8, 1, 0)])), (0, [0], [[9999996, 0, 0, 0, 0, 1666666, 0, 0, 0, 0, 10000000, 10000000, 0, 0, 0, 0, 0, 1666666]], ((0, 0), [])), (0, [1], [[1, 0, 0, 0, 0, 0, 0, 0, 0, 0, 1]], ((0, 0), [])), (2, [4, 1, 1], [[], [], [], [1]], ((0, 0), [])), (2, [1, 0, 2], [[0, 0, 1], [0, 0, 0, 1]], ((0, 0), [])), (3, [], [], ((0, 0), [])), (0, [0], [[10000000, 0, 0, 0, 0, 1666667, 0, 10000000, 10000000, 0, 0, 0, 0, 1666667]], ((0, 0), [])), (0, [2], [[1, 0, 0, 0, 0, 0, 0, 0, 0, 1]], ((0, 0), [])), (1, [], [], ((0, 1), [(0, 0, 1), (8, 1, 0)])), (0, [0], [[9999996, 0, 0, 0, 0, 0, 0, 1666666, 10000000, 10000000, 0, 0, 0, 0, 0, 1666666]], ((0, 0), [])), (0, [0], [[10000000, 0, 0, 0, 0, 0, 1666667, 0, 10000000, 10000000, 0, 0, 0, 0, 1666667]], ((0, 0), []))]) (by decide +kernel)
theorem zx_gv308_ok {PT : Nat → zz_W → Prop} : zx_Vok 64 zHT PT (zu_Vw 67 65 65 [67] [((0, 0), [(0, 1, 0), (3, 0, 1)]), ((0, 0), [(0, 0, 1), (3, 1, 0)]), ((0, 0), [(2, 1, 0), (5, 0, 1)]), ((0, 0), [(2, 0, 1), (5, 1, 0)]), ((0, 1), [(1, 0, 1), (4, 1, 0)]), ((1, 0), [(1, 1, 0), (4, 0, 1)]), ((0, 3), [(1, 0, 6), (6, 1, 0)]), ((3, 0), [(1, 6, 0), (6, 0, 1)]), ((0, 1), [(1, 0, 6), (8, 1, 0)]), ((1, 0), [(1, 6, 0), (8, 0, 1)]), ((0, 0), [(2, 1, 0), (7, 0, 1), (9, 0, 1)])]) := zu_Vw_ok (hs := [(1, [], [], ((0, 0), [(6, 0, 1), (10, 6, 0)])), (2, [4, 0, 0], [[], [], [], [1]], ((0, 0), [])), (2, [4, 1, 1], [[], [], [], [0, 0, 1]], ((0, 0), [])), (3, [], [], ((0, 0), [])), (0, [1], [[1, 0, 0, 0, 0, 0, 0, 1]], ((0, 0), [])), (1, [], [], ((0, 1), [(1, 0, 1), (10, 1, 0)])), (0, [2], [[1, 0, 0, 0, 0, 0, 0, 0, 0, 0, 0, 0, 1]], ((0, 0), [])), (0, [0], [[10000000, 0, 0, 0, 0, 0, 1666667, 0, 0, 0, 0, 10000000, 10000000, 1666667, 0, 10000000, 10000000]], ((0, 0), [])), (0, [3], [[1, 1, 0, 1, 0, 0, 0, 0, 9999999, 10000000]], ((0, 0), [])), (1, [], [], ((0, 2), [(6, 1, 0), (10, 0, 6)])), (2, [3, 0, 0], [[], [], [], [1]], ((0, 0), [])), (1, [], [], ((2, 0), [(6, 0, 1), (10, 6, 0)])), (2, [4, 1, 1], [[], [], [], [1]], ((0, 0), [])), (3, [], [], ((0, 0), [])), (0, [1], [[1, 0, 0, 0, 0, 0, 0, 0, 0, 1]], ((0, 0), [])), (1, [], [], ((0, 1), [(1, 0, 1), (10, 1, 0)])), (0, [0], [[10000000, 0, 0, 0, 0, 0, 0, 1666666, 0, 0, 0, 0, 0, 10000000, 10000000, 0, 1666666, 10000000, 10000000]], ((0, 0), [])), (0, [0], [[10000000, 0, 0, 0, 1666667, 0, 0, 0, 0, 0, 0, 0, 0, 10000000, 10000000, 1666667, 0, 10000000, 10000000]], ((0, 0), [])), (0, [3], [[1, 1, 0, 10000000, 1, 0, 10000000, 0, 0, 0, 0, 1, 10000000, 10000000, 0, 0, 10000000, 10000000]], ((0, 0), [])), (1, [], [], ((0, 4), [(6, 1, 0), (10, 0, 6)])), (2, [3, 1, 1], [[], [], [], [1]], ((0, 0), [])), (3, [], [], ((0, 0), [])), (0, [1], [[1, 0, 0, 0, 0, 0, 0, 0, 0, 0, 1]], ((0, 0), [])), (0, [0], [[9999996, 0, 0, 1666666, 0, 0, 0, 0, 0, 0, 0, 0, 0, 10000000, 10000000, 8333334, 10000000, 10000000, 10000000]], ((0, 0), [])), (0, [3], [[1, 1, 0, 0, 0, 1, 0, 0, 0, 0, 0, 9999999, 10000000]], ((0, 0), [])), (2, [3, 2, 0], [[9999999, 10000000, 0, 0, 0, 0, 0, 0, 0, 0, 10000000, 10000000, 9999999, 10000000, 10000000, 9999999], [10000000, 9999999, 0, 0, 0, 0, 0, 0, 0, 0, 10000000, 10000000, 10000000, 9999999, 9999999, 10000000], [], [0, 0, 0, 0, 0, 0, 0, 0, 0, 0, 0, 0, 1, 0, 0, 1]], ((0, 0), [])), (2, [1, 1, 2], [[0, 0, 1], [0, 0, 0, 1]], ((0, 0), [])), (0, [3], [[0, 1, 1, 0, 10000000, 10000000, 0, 0, 0, 0, 0, 0, 0, 1, 10000000, 10000000, 0, 0, 10000000, 10000000, 1]], ((0, 0), [])), (2, [4, 1, 1], [[], [], [], [1]], ((0, 0), [])), (2, [1, 0, 2], [[0, 0, 1], [0, 0, 0, 1]], ((0, 0), [])), (3, [], [], ((0, 0), [])), (0, [1], [[1, 0, 0, 0, 0, 0, 0, 0, 1]], ((0, 0), [])), (1, [], [], ((0, 1), [(1, 0, 1), (10, 1, 0)])), (0, [0], [[10000000, 0, 0, 0, 0, 0, 0, 1666666, 0, 0, 0, 0, 10000000, 10000000, 0, 1666666, 10000000, 10000000]], ((0, 0), [])), (0, [0], [[10000000, 0, 0, 0, 0, 0, 1666667, 0, 0, 0, 0, 0, 10000000, 10000000, 1666667, 0, 10000000, 10000000]], ((0, 0), [])), (1, [], [], ((0, 1), [(1, 0, 1), (10, 1, 0)])), (0, [0], [[9999996, 0, 0, 0, 0, 0, 0, 1666666, 0, 0, 0, 0, 10000000, 10000000, 0, 1666666, 10000000, 10000000]], ((0, 0), [])), (0, [0], [[10000000, 0, 0, 0, 0, 0, 1666667, 0, 0, 0, 0, 0, 10000000, 10000000, 1666667, 0, 10000000, 10000000]], ((0, 0), []))]) (by decide +kernel)
theorem zx_gv309_ok {PT : Nat → zz_W → Prop} : zx_Vok 64 zHT PT (zu_Vw 67 65 65 [67, 31] [((0, 0), [(0, 1, 0), (3, 0, 1)]), ((0, 0), [(0, 0, 1), (3, 1, 0)]), ((0, 0), [(2, 1, 0), (5, 0, 1)]), ((0, 0), [(2, 0, 1), (5, 1, 0)]), ((0, 0), [(1, 1, 0), (4, 0, 1)]), ((0, 0), [(1, 0, 1), (4, 1, 0)]), ((0, 1), [(6, 1, 0), (9, 0, 6)]), ((1, 0), [(6, 0, 1), (9, 6, 0)]), ((0, 3), [(8, 1, 0), (9, 0, 6)]), ((3, 0), [(8, 0, 1), (9, 6, 0)]), ((0, 0), [(2, 1, 0), (7, 0, 1), (10, 0, 1)])]) := zu_Vw_ok (hs := [(1, [], [], ((0, 0), [(6, 0, 1), (12, 6, 0)])), (2, [4, 0, 0], [[], [], [], [1]], ((0, 0), [])), (2, [4, 1, 1], [[], [], [], [0, 0, 1]], ((0, 0), [])), (3, [], [], ((0, 0), [])), (0, [1], [[1, 0, 0, 0, 0, 0, 0, 1]], ((0, 0), [])), (0, [2], [[1, 0, 0, 0, 0, 0, 0, 0, 0, 0, 1]], ((0, 0), [])), (0, [3], [[1, 1, 0, 1, 0, 0, 0, 0, 9999999, 10000000]], ((0, 0), [])), (1, [], [], ((0, 2), [(6, 1, 0), (12, 0, 6)])), (2, [3, 0, 0], [[], [], [], [1]], ((0, 0), [])), (1, [], [], ((2, 0), [(6, 0, 1), (12, 6, 0)])), (2, [4, 1, 1], [[], [], [], [1]], ((0, 0), [])), (3, [], [], ((0, 0), [])), (0, [1], [[1, 0, 0, 0, 0, 0, 0, 0, 0, 1]], ((0, 0), [])), (0, [2], [[1, 0, 0, 0, 0, 0, 0, 0, 0, 0, 0, 0, 1]], ((0, 0), [])), (0, [3], [[1, 1, 0, 0, 1, 0, 0, 0, 0, 0, 9999999, 10000000]], ((0, 0), [])), (1, [], [], ((0, 4), [(6, 1, 0), (12, 0, 6)])), (2, [3, 1, 1], [[], [], [], [1]], ((0, 0), [])), (3, [], [], ((0, 0), [])), (0, [1], [[1, 0, 0, 0, 0, 0, 0, 0, 0, 0, 1]], ((0, 0), [])), (0, [2], [[1, 0, 0, 0, 0, 0, 0, 0, 0, 0, 0, 0, 0, 1]], ((0, 0), [])), (0, [3], [[1, 1, 0, 0, 0, 1, 0, 0, 0, 0, 0, 9999999, 10000000]], ((0, 0), [])), (2, [1, 1, 2], [[1], [0, 1]], ((0, 0), [])), (3, [], [], ((0, 0), [])), (0, [1], [[1, 0, 0, 0, 0, 0, 0, 0, 0, 0, 1]], ((0, 0), [])), (0, [2], [[1, 0, 0, 0, 0, 0, 0, 0, 0, 0, 0, 0, 0, 1]], ((0, 0), [])), (1, [], [], ((0, 1), [(9, 0, 1), (12, 1, 0)])), (0, [0], [[9999996, 0, 0, 0, 0, 1666666, 0, 0, 0, 0, 0, 0, 0, 0, 0, 0, 0, 1666666, 10000000, 10000000]], ((0, 0), [])), (1, [], [], ((0, 1), [(9, 1, 0), (12, 0, 1)])), (0, [0], [[10000000, 0, 0, 0, 0, 1666667, 0, 0, 0, 0, 0, 0, 0, 0, 0, 0, 0, 1666667, 0, 10000000, 10000000]], ((0, 0), [])), (0, [0], [[9999996, 0, 0, 0, 0, 0, 1666666, 0, 0, 0, 0, 0, 0, 0, 0, 0, 0, 0, 1666666, 10000000, 10000000]], ((0, 0), [])), (2, [4, 1, 1], [[], [], [], [1]], ((0, 0), [])), (2, [4, 2, 1], [[0, 0, 0, 1, 0, 0, 0, 0, 0, 0, 0, 1, 1], [0, 0, 1, 0, 0, 0, 0, 0, 0, 0, 1, 0, 9999999, 10000000], [], [0, 0, 0, 0, 0, 0, 0, 0, 0, 0, 0, 1, 1]], ((0, 0), [])), (2, [1, 0, 2], [[0, 0, 0, 0, 1], [0, 0, 0, 0, 0, 1]], ((0, 0), [])), (0, [3], [[0, 1, 1, 0, 0, 0, 0, 0, 0, 0, 9999999, 10000000, 0, 0, 0, 0, 0, 0, 1]], ((0, 0), []))]) (by decide +kernel)
end
/-! LAWS BY HAND, their frames by program -/
noncomputable section
theorem zx_bnil : ∀ (k : Nat) (q : Int × Int), ([] : List (Int × Int))[k]? = some q → q.1 ≤ ([] : List Int).getD k 0 ∧ ([] : List Int).getD k 0 ≤ q.2 := fun k q h => by cases h
theorem zx_bcons {p : Int × Int} {d : List (Int × Int)} {x : Int} {l : List Int} (h : p.1 ≤ x ∧ x ≤ p.2) (hd : ∀ (k : Nat) (q : Int × Int), d[k]? = some q → q.1 ≤ l.getD k 0 ∧ l.getD k 0 ≤ q.2) : ∀ (k : Nat) (q : Int × Int), (p :: d)[k]? = some q → q.1 ≤ (x :: l).getD k 0 ∧ (x :: l).getD k 0 ≤ q.2
  | 0, q, hq => by
    cases hq
    exact h
  | k + 1, q, hq => hd k q hq
theorem zx_cs1 {s : Nat → Int} {c : zl_E} {C : List zl_E} (h : 0 ≤ zl_ev s c) (hC : zk_cs s C) : zk_cs s (c :: C) := fun e he => by
  rcases List.mem_cons.mp he with h1 | h1
  · rw [h1]
    exact h
  · exact hC e h1
/-- bytes of a number (functions 10 to 14) -/
theorem zh_by {w : zz_W} {a0 a1 k : Int} (p : a1 = a0 + 2147483648 + 4294967296 * k) (x1 : 0 ≤ a0 + 2147483648) (x2 : a0 + 2147483648 < 4294967296) (hk : 0 ≤ k) : zk_xe w 2000010 a1 = a0 / 2 ^ (8 * k.toNat) % 256 ∧ zk_xe w 2000011 a1 = zh_b (a0 / 2 ^ (8 * k.toNat) % 256 ≠ 0) ∧ zk_xe w 2000012 a1 = zh_b (zh_sg (a0 / 2 ^ (8 * k.toNat) % 256)) ∧ zk_xe w 2000013 a1 = a0 / 2 ^ (8 * k.toNat) ∧ zk_xe w 2000014 a1 = a0 / 2 ^ (8 * k.toNat) / 256 := by
  have h1 : a1 % 4294967296 - 2147483648 = a0 := by omega
  have h2 : a1 / 4294967296 = k := by omega
  have hq : zh_qu a1 = a0 / 2 ^ (8 * k.toNat) := by
    unfold zh_qu
    rw [h1, h2]
  refine ⟨?_, ?_, ?_, ?_, ?_⟩
  · rw [show (2000010 : Nat) = 2000000 + 10 from rfl, zk_xe_h, ← hq]
    rfl
  · rw [show (2000011 : Nat) = 2000000 + 11 from rfl, zk_xe_h, ← hq]
    rfl
  · rw [show (2000012 : Nat) = 2000000 + 12 from rfl, zk_xe_h, ← hq]
    rfl
  · rw [show (2000013 : Nat) = 2000000 + 13 from rfl, zk_xe_h, ← hq]
    rfl
  · rw [show (2000014 : Nat) = 2000000 + 14 from rfl, zk_xe_h, ← hq]
    rfl
theorem zh_by3 (w : zz_W) (a : Int) : zk_xe w 2000010 a = zh_qu a % 256 ∧ zk_xe w 2000011 a = zh_b (zh_qu a % 256 ≠ 0) ∧ zk_xe w 2000012 a = zh_b (zh_sg (zh_qu a % 256)) := by
  refine ⟨?_, ?_, ?_⟩
  · rw [show (2000010 : Nat) = 2000000 + 10 from rfl, zk_xe_h]
    rfl
  · rw [show (2000011 : Nat) = 2000000 + 11 from rfl, zk_xe_h]
    rfl
  · rw [show (2000012 : Nat) = 2000000 + 12 from rfl, zk_xe_h]
    rfl
theorem zh_nzi (c : Int) : (c = 0 ∧ zh_b (c ≠ 0) = 0) ∨ (c ≠ 0 ∧ zh_b (c ≠ 0) = 1) := by
  by_cases h : c = 0
  · exact Or.inl ⟨h, zh_b0 (fun h1 => h1 h)⟩
  · exact Or.inr ⟨h, zh_b1 h⟩
theorem zh_sgi (c : Int) : (zh_b (zh_sg c) = 1 ∧ c ≤ 126) ∨ zh_b (zh_sg c) = 0 := by
  by_cases h : zh_sg c
  · refine Or.inl ⟨zh_b1 h, ?_⟩
    unfold zh_sg at h
    omega
  · exact Or.inr (zh_b0 h)
/-- segments of items (function 31): writes of uses -/
theorem zg_w20 {w w' : zz_W} {jw j p u q : Int} (hw : zk_rR 20 jw w w') (v : zk_xe w 2000031 j = 1) (e : j = p + 79228162514264337593543950336 * u + 340282366920938463463374607431768211456 * q) (p0 : 0 ≤ p) (p1 : p < 79228162514264337593543950336) (u0 : 0 ≤ u) (u1 : u < 4294967296) (q0 : 0 ≤ q) (hj : jw + 1 ≤ 6 * u) : zk_xe w' 2000031 j = 1 := by
  have hd : zv_dg 3 j = u := by
    show j / 4294967296 / 4294967296 / 4294967296 % 4294967296 = u
    omega
  rw [zg_x] at v ⊢
  refine zh_b1 (zg_sg_c (fun p _ _ _ => ?_) (fun p a b c _ => ?_) (fun p _ _ _ => ?_) (zh_b1' v))
  · show zk_el w' 61 p = zk_el w 61 p
    unfold zk_el
    rw [hw.1 61 (by decide)]
  · rw [hd] at b
    exact hw.2 p (by omega) (by omega)
  · show zk_el w' 22 p = zk_el w 22 p
    unfold zk_el
    rw [hw.1 22 (by decide)]
theorem zg_w20b {w w' : zz_W} {jw j x : Int} (hw : zk_rR 20 jw w w') (v : zk_xe w 2000031 j = 1) (e : jw = 6 * x + 5) : zk_xe w' 2000031 j = 1 := by
  rw [zg_x] at v ⊢
  refine zh_b1 (zg_sg_c (fun p _ _ _ => ?_) (fun p a b c d => ?_) (fun p _ _ _ => ?_) (zh_b1' v))
  · show zk_el w' 61 p = zk_el w 61 p
    unfold zk_el
    rw [hw.1 61 (by decide)]
  · exact hw.2 p (by omega) (by omega)
  · show zk_el w' 22 p = zk_el w 22 p
    unfold zk_el
    rw [hw.1 22 (by decide)]
/-- items (function 15) -/
theorem zx_i5 {l : List Int} (h : l.length = 5) : ∃ a b c d e, l = [a, b, c, d, e] := by
  match l, h with
  | [a, b, c, d, e], _ => exact ⟨a, b, c, d, e, rfl⟩
theorem zh_H15 {w : zz_W} {j : Int} : zk_xe w 2000015 j = zh_b (zh_its (zh_f w 61) j) := by
  rw [show (2000015 : Nat) = 2000000 + 15 from rfl, zk_xe_h]
  rfl
theorem zx_i8 {l : List Int} (h : l.length = 8) : ∃ a b c d e f g i, l = [a, b, c, d, e, f, g, i] := by
  match l, h with
  | [a, b, c, d, e, f, g, i], _ => exact ⟨a, b, c, d, e, f, g, i, rfl⟩
theorem zx_i9 {l : List Int} (h : l.length = 9) : ∃ a b c d e f g i j, l = [a, b, c, d, e, f, g, i, j] := by
  match l, h with
  | [a, b, c, d, e, f, g, i, j], _ => exact ⟨a, b, c, d, e, f, g, i, j, rfl⟩
theorem zh_its_n {f : Nat → Int} {j n k d u : Int} (e : j = n + 4294967296 * k + 18446744073709551616 * d + 79228162514264337593543950336 * u) (h0 : 0 ≤ n) (h1 : n < 4294967296) (k0 : 0 ≤ k) (k1 : k < 4294967296) (d0 : 0 ≤ d) (d1 : d < 4294967296) : zh_its f j ↔ ∀ i : Nat, k ≤ (i : Int) → (i : Int) < n → zh_it (f (2 * i)) (f (2 * i + 1)) d u := by
  unfold zh_its
  have e1 : j % 4294967296 = n := by omega
  have e2 : j / 4294967296 % 4294967296 = k := by omega
  have e3 : j / 18446744073709551616 % 4294967296 = d := by omega
  have e4 : j / 79228162514264337593543950336 = u := by omega
  rw [e1, e2, e3, e4]
theorem zh_its_el {w : zz_W} {i : Nat} {a1 a2 : Int} (e1 : a1 = 2 * (i : Int)) (e2 : a2 = 2 * (i : Int) + 1) : zh_f w 61 (2 * i) = zk_xe w 61 a1 ∧ zh_f w 61 (2 * i + 1) = zk_xe w 61 a2 := by
  rw [zk_xe_r (i := 61) (by decide), zk_xe_r (i := 61) (by decide)]
  refine ⟨?_, ?_⟩
  · show zk_el w 61 ((2 * i : Nat) : Int) = zk_el w 61 a1
    rw [show ((2 * i : Nat) : Int) = a1 by omega]
  · show zk_el w 61 ((2 * i + 1 : Nat) : Int) = zk_el w 61 a2
    rw [show ((2 * i + 1 : Nat) : Int) = a2 by omega]
theorem zh_its_st {w : zz_W} {j j1 n k d u a1 a2 : Int} (v : zk_xe w 2000015 j = 1) (e : j = n + 4294967296 * k + 18446744073709551616 * d + 79228162514264337593543950336 * u) (e' : j1 = n + 1 + 4294967296 * k + 18446744073709551616 * d + 79228162514264337593543950336 * u) (h0 : 0 ≤ n) (h1 : n ≤ 3200) (k0 : 0 ≤ k) (k1 : k < 4294967296) (d0 : 0 ≤ d) (d1 : d < 4294967296) (e1 : a1 = 2 * n) (e2 : a2 = 2 * n + 1) (hk : zh_it (zk_xe w 61 a1) (zk_xe w 61 a2) d u) : zk_xe w 2000015 j1 = 1 := by
  rw [zh_H15] at v ⊢
  have h := (zh_its_n e h0 (by omega) k0 k1 d0 d1).mp (zh_b1' v)
  refine zh_b1 ((zh_its_n e' (by omega) (by omega) k0 k1 d0 d1).mpr (fun i hi0 hi => ?_))
  by_cases hin : (i : Int) = n
  · obtain ⟨p1, p2⟩ := zh_its_el (w := w) (i := i) (a1 := a1) (a2 := a2) (by omega) (by omega)
    rw [p1, p2]
    exact hk
  · exact h i hi0 (by omega)
theorem zh_its_at {w : zz_W} {j n k d u i a1 a2 : Int} (v : zk_xe w 2000015 j = 1) (e : j = n + 4294967296 * k + 18446744073709551616 * d + 79228162514264337593543950336 * u) (h0 : 0 ≤ n) (h1 : n < 4294967296) (k0 : 0 ≤ k) (k1 : k < 4294967296) (d0 : 0 ≤ d) (d1 : d < 4294967296) (hk : k ≤ i) (hi : i < n) (hi0 : 0 ≤ i) (e1 : a1 = 2 * i) (e2 : a2 = 2 * i + 1) : zh_it (zk_xe w 61 a1) (zk_xe w 61 a2) d u := by
  rw [zh_H15] at v
  have h := (zh_its_n e h0 h1 k0 k1 d0 d1).mp (zh_b1' v) i.toNat (by omega) (by omega)
  obtain ⟨p1, p2⟩ := zh_its_el (w := w) (i := i.toNat) (a1 := a1) (a2 := a2) (by omega) (by omega)
  rw [p1, p2] at h
  exact h
theorem zh_its_w {w w' : zz_W} {jw j n k d u : Int} (hw : zk_rR 61 jw w w') (v : zk_xe w 2000015 j = 1) (e : j = n + 4294967296 * k + 18446744073709551616 * d + 79228162514264337593543950336 * u) (h0 : 0 ≤ n) (h1 : n < 4294967296) (k0 : 0 ≤ k) (k1 : k < 4294967296) (d0 : 0 ≤ d) (d1 : d < 4294967296) (hj : 2 * n ≤ jw ∨ jw < 2 * k) : zk_xe w' 2000015 j = 1 := by
  rw [zh_H15] at v ⊢
  have h := (zh_its_n e h0 h1 k0 k1 d0 d1).mp (zh_b1' v)
  refine zh_b1 ((zh_its_n e h0 h1 k0 k1 d0 d1).mpr (fun i hi0 hi => ?_))
  rw [zh_wf hw (2 * i) (by omega), zh_wf hw (2 * i + 1) (by omega)]
  exact h i hi0 hi
theorem zh_its_m {w : zz_W} {j j1 n k k1 d d1 u u1 : Int} (v : zk_xe w 2000015 j = 1) (e : j = n + 4294967296 * k + 18446744073709551616 * d + 79228162514264337593543950336 * u) (e' : j1 = n + 4294967296 * k1 + 18446744073709551616 * d1 + 79228162514264337593543950336 * u1) (h0 : 0 ≤ n) (h1 : n < 4294967296) (k0 : 0 ≤ k) (k2 : k < 4294967296) (k3 : 0 ≤ k1) (k4 : k1 < 4294967296) (d0 : 0 ≤ d) (d2 : d < 4294967296) (d3 : 0 ≤ d1) (d4 : d1 < 4294967296) (hk : k ≤ k1) (hu : u ≤ u1) (hd : d ≤ d1 ∨ 512 ≤ d1) : zk_xe w 2000015 j1 = 1 := by
  rw [zh_H15] at v ⊢
  have h := (zh_its_n e h0 h1 k0 k2 d0 d2).mp (zh_b1' v)
  refine zh_b1 ((zh_its_n e' h0 h1 k3 k4 d3 d4).mpr (fun i hi0 hi => ?_))
  have hh := h i (by omega) hi
  unfold zh_it at hh ⊢
  omega
theorem zh_H16 {w : zz_W} {j : Int} : zk_xe w 2000016 j = zh_b (zh_mn (zh_f w 54)) := by
  rw [show (2000016 : Nat) = 2000000 + 16 from rfl, zk_xe_h]
  rfl
theorem zh_mn_at {w : zz_W} {a i : Int} (v : zk_xe w 2000016 a = 1) (h0 : 0 ≤ i) (h1 : i < 720) : 0 ≤ zk_xe w 54 i ∧ zk_xe w 54 i ≤ 3071 ∧ zk_xe w 54 i % 512 ≤ 59 := by
  rw [zh_H16] at v
  have h := zh_b1' v i.toNat (by omega)
  have p1 : zh_f w 54 i.toNat = zk_el w 54 i := by
    show zk_el w 54 ((i.toNat : Nat) : Int) = zk_el w 54 i
    rw [show ((i.toNat : Nat) : Int) = i by omega]
  rw [p1] at h
  rw [zk_xe_r (i := 54) (by decide)]
  exact h
theorem zh_mn_w {w w' : zz_W} {j a u : Int} (hw : zk_rR 54 j w w') (v : zk_xe w 2000016 a = 1) (h1 : 0 ≤ zk_el w' 54 j - 512 * u) (h2 : zk_el w' 54 j - 512 * u ≤ 59) (h3 : 0 ≤ u) (h4 : u ≤ 5) : zk_xe w' 2000016 a = 1 := by
  rw [zh_H16] at v ⊢
  refine zh_b1 (fun i hi => ?_)
  by_cases hin : (i : Int) = j
  · have p1 : zh_f w' 54 i = zk_el w' 54 j := by
      show zk_el w' 54 (i : Int) = zk_el w' 54 j
      rw [hin]
    rw [p1]
    omega
  · rw [zh_wf hw i hin]
    exact zh_b1' v i hi
theorem zh_its_0 {w : zz_W} {j k d u : Int} (e : j = 4294967296 * k + 18446744073709551616 * d + 79228162514264337593543950336 * u) (k0 : 0 ≤ k) (k1 : k < 4294967296) (d0 : 0 ≤ d) (d1 : d < 4294967296) : zk_xe w 2000015 j = 1 := by
  rw [zh_H15]
  exact zh_b1 ((zh_its_n (n := 0) (k := k) (d := d) (u := u) (by omega) (by omega) (by omega) k0 k1 d0 d1).mpr (fun i hi0 hi => by omega))
theorem zx_i10 {l : List Int} (h : l.length = 10) : ∃ a0 a1 a2 a3 a4 a5 a6 a7 a8 a9, l = [a0, a1, a2, a3, a4, a5, a6, a7, a8, a9] := by
  obtain ⟨b, r, rfl⟩ : ∃ b r, l = b :: r := by
    cases l with
    | nil => cases h
    | cons b r => exact ⟨b, r, rfl⟩
  obtain ⟨a1, a2, a3, a4, a5, a6, a7, a8, a9, rfl⟩ := zx_i9 (l := r) (by simpa using h)
  exact ⟨b, a1, a2, a3, a4, a5, a6, a7, a8, a9, rfl⟩
theorem zx_i11 {l : List Int} (h : l.length = 11) : ∃ a0 a1 a2 a3 a4 a5 a6 a7 a8 a9 a10, l = [a0, a1, a2, a3, a4, a5, a6, a7, a8, a9, a10] := by
  obtain ⟨b, r, rfl⟩ : ∃ b r, l = b :: r := by
    cases l with
    | nil => cases h
    | cons b r => exact ⟨b, r, rfl⟩
  obtain ⟨a1, a2, a3, a4, a5, a6, a7, a8, a9, a10, rfl⟩ := zx_i10 (l := r) (by simpa using h)
  exact ⟨b, a1, a2, a3, a4, a5, a6, a7, a8, a9, a10, rfl⟩
theorem zx_i12 {l : List Int} (h : l.length = 12) : ∃ a0 a1 a2 a3 a4 a5 a6 a7 a8 a9 a10 a11, l = [a0, a1, a2, a3, a4, a5, a6, a7, a8, a9, a10, a11] := by
  obtain ⟨b, r, rfl⟩ : ∃ b r, l = b :: r := by
    cases l with
    | nil => cases h
    | cons b r => exact ⟨b, r, rfl⟩
  obtain ⟨a1, a2, a3, a4, a5, a6, a7, a8, a9, a10, a11, rfl⟩ := zx_i11 (l := r) (by simpa using h)
  exact ⟨b, a1, a2, a3, a4, a5, a6, a7, a8, a9, a10, a11, rfl⟩
theorem zx_i13 {l : List Int} (h : l.length = 13) : ∃ a0 a1 a2 a3 a4 a5 a6 a7 a8 a9 a10 a11 a12, l = [a0, a1, a2, a3, a4, a5, a6, a7, a8, a9, a10, a11, a12] := by
  obtain ⟨b, r, rfl⟩ : ∃ b r, l = b :: r := by
    cases l with
    | nil => cases h
    | cons b r => exact ⟨b, r, rfl⟩
  obtain ⟨a1, a2, a3, a4, a5, a6, a7, a8, a9, a10, a11, a12, rfl⟩ := zx_i12 (l := r) (by simpa using h)
  exact ⟨b, a1, a2, a3, a4, a5, a6, a7, a8, a9, a10, a11, a12, rfl⟩
theorem zx_i14 {l : List Int} (h : l.length = 14) : ∃ a0 a1 a2 a3 a4 a5 a6 a7 a8 a9 a10 a11 a12 a13, l = [a0, a1, a2, a3, a4, a5, a6, a7, a8, a9, a10, a11, a12, a13] := by
  obtain ⟨b, r, rfl⟩ : ∃ b r, l = b :: r := by
    cases l with
    | nil => cases h
    | cons b r => exact ⟨b, r, rfl⟩
  obtain ⟨a1, a2, a3, a4, a5, a6, a7, a8, a9, a10, a11, a12, a13, rfl⟩ := zx_i13 (l := r) (by simpa using h)
  exact ⟨b, a1, a2, a3, a4, a5, a6, a7, a8, a9, a10, a11, a12, a13, rfl⟩
/-- a draft is typed (functions 43, 37) -/
theorem zg_x43 {w : zz_W} {j : Int} : zk_xe w 2000043 j = zh_b (zg_ty (zh_e w 61) (zh_e w 20) (zh_e w 22) (zh_e w 62) (zh_e w 64) j) := by
  rw [show (2000043 : Nat) = 2000000 + 43 from rfl, zk_xe_h]
  rfl
theorem zg_x37 {w : zz_W} {j : Int} : zk_xe w 2000037 j = zh_b (zg_fn (zh_e w 61) (zh_e w 62) (zh_e w 64) j) := by
  rw [show (2000037 : Nat) = 2000000 + 37 from rfl, zk_xe_h]
  rfl
theorem zg_d4 {j n k u l : Int} (e : j = n + 4294967296 * k + 18446744073709551616 * u + 79228162514264337593543950336 * l) (n0 : 0 ≤ n) (n1 : n < 4294967296) (k0 : 0 ≤ k) (k1 : k < 4294967296) (u0 : 0 ≤ u) (u1 : u < 4294967296) (l0 : 0 ≤ l) (l1 : l < 4294967296) : zv_dg 0 j = n ∧ zv_dg 1 j = k ∧ zv_dg 2 j = u ∧ zv_dg 3 j = l := by
  refine ⟨?_, ?_, ?_, ?_⟩
  · show j % 4294967296 = n
    omega
  · show j / 4294967296 % 4294967296 = k
    omega
  · show j / 4294967296 / 4294967296 % 4294967296 = u
    omega
  · show j / 4294967296 / 4294967296 / 4294967296 % 4294967296 = l
    omega
def zg_TY (w : zz_W) (n k u l : Int) : Prop := ∃ x : Int → Int, ∀ i, 0 ≤ i → i < n → zg_ti (zh_e w 61) (zh_e w 20) (zh_e w 22) (zh_e w 62) (zh_e w 64) x n k u l i
theorem zg_t4 {w : zz_W} {j n k u l : Int} (e : j = n + 4294967296 * k + 18446744073709551616 * u + 79228162514264337593543950336 * l) (n0 : 0 ≤ n) (n1 : n < 4294967296) (k0 : 0 ≤ k) (k1 : k < 4294967296) (u0 : 0 ≤ u) (u1 : u < 4294967296) (l0 : 0 ≤ l) (l1 : l < 4294967296) : zk_xe w 2000043 j = 1 ↔ zg_TY w n k u l := by
  obtain ⟨d0, d1, d2, d3⟩ := zg_d4 e n0 n1 k0 k1 u0 u1 l0 l1
  rw [zg_x43]
  constructor
  · intro h
    have h := zh_b1' h
    unfold zg_ty at h
    rw [d0, d1, d2, d3] at h
    exact h
  · intro h
    refine zh_b1 ?_
    unfold zg_ty
    rw [d0, d1, d2, d3]
    exact h
/-- at the beginning -/
theorem zg_t0 {w : zz_W} {j1 j n u l : Int} (v : zk_xe w 2000031 j1 = 1) (e1 : j1 = 4294967296 * n + 340282366920938463463374607431768211456 * u + 6277101735386680763835789423207666416102355444464034512896 * l) (e : j = n + 18446744073709551616 * u + 79228162514264337593543950336 * l) (n0 : 0 ≤ n) (n1 : n ≤ 3199) (u0 : 0 ≤ u) (u1 : u < 4294967296) (l0 : 0 ≤ l) (l1 : l ≤ 748) : zk_xe w 2000043 j = 1 := by
  have d0 : zv_dg 0 j1 = 0 := by
    show j1 % 4294967296 = 0
    omega
  have d1 : zv_dg 1 j1 = n := by
    show j1 / 4294967296 % 4294967296 = n
    omega
  have d2 : zv_dg 2 j1 = 0 := by
    show j1 / 4294967296 / 4294967296 % 4294967296 = 0
    omega
  have d3 : zv_dg 3 j1 = 0 := by
    show j1 / 4294967296 / 4294967296 / 4294967296 % 4294967296 = 0
    omega
  have d4 : zv_dg 4 j1 = u := by
    show j1 / 4294967296 / 4294967296 / 4294967296 / 4294967296 % 4294967296 = u
    omega
  have d5 : zv_dg 5 j1 = 0 := by
    show j1 / 4294967296 / 4294967296 / 4294967296 / 4294967296 / 4294967296 % 4294967296 = 0
    omega
  have d6 : zv_dg 6 j1 = l := by
    show j1 / 4294967296 / 4294967296 / 4294967296 / 4294967296 / 4294967296 / 4294967296 % 4294967296 = l
    omega
  have d7 : zv_dg 7 j1 = 0 := by
    show j1 / 4294967296 / 4294967296 / 4294967296 / 4294967296 / 4294967296 / 4294967296 / 4294967296 % 4294967296 = 0
    omega
  rw [zg_x] at v
  have h := zh_b1' v
  unfold zg_sg at h
  rw [d0, d1, d2, d3, d4, d5, d6, d7] at h
  rcases h with h | h | h | ⟨-, h⟩
  · exact absurd h (by omega)
  · exact absurd h (by omega)
  · exact absurd h (by omega)
  · refine (zg_t4 (k := 0) (by omega) n0 (by omega) (by omega) (by omega) u0 u1 l0 (by omega)).mpr ⟨fun i => zh_e w 61 (2 * i + 1), fun i i0 i1 => ?_⟩
    obtain ⟨-, h2, h3, h4, h5, h6, h7, h8⟩ := h i i0 i1
    refine ⟨fun c => ?_, fun c => (h2 c).2.2, fun c => (h3 c).2.2, fun c => (h4 c).2.2, fun c => ?_, fun c => ?_, fun c => ?_, h8⟩
    · have hr : 0 ≤ zh_e w 61 (2 * i + 1) ∧ zh_e w 61 (2 * i + 1) < u := by
        unfold zg_us at c
        by_cases a1 : zh_e w 61 (2 * i) % 64 = 7 ∨ zh_e w 61 (2 * i) % 64 = 29
        · exact ⟨(h2 a1).1, (h2 a1).2.1⟩
        · by_cases a2 : zh_e w 61 (2 * i) % 64 = 10 ∨ zh_e w 61 (2 * i) % 64 = 11
          · exact ⟨(h3 a2).1, (h3 a2).2.1⟩
          · have a3 : zh_e w 61 (2 * i) % 64 = 8 ∨ zh_e w 61 (2 * i) % 64 = 9 ∨ zh_e w 61 (2 * i) % 64 = 30 := by omega
            exact ⟨(h4 a3).1, (h4 a3).2.1⟩
      exact ⟨hr.1, hr.2, fun _ => rfl, fun b => absurd b (by omega)⟩
    · obtain ⟨b1, b2, b3⟩ := h5 c
      refine ⟨b1, b2, ?_⟩
      show zh_e w 61 (2 * (i - 1) + 1) = zh_e w 61 (2 * i + 1)
      rw [show 2 * (i - 1) + 1 = 2 * i - 1 by omega]
      exact b3
    · obtain ⟨b1, m, b2, b3, b4, b5, b6⟩ := h6 c
      exact ⟨b1, m, b2, b3, b4, b5, b6⟩
    · obtain ⟨b1, b2, b3, b4, b5, b6⟩ := h7 c
      exact ⟨b1, fun _ => ⟨b2, b3, b4, b5, b6⟩, fun b => absurd b (by omega)⟩
/-- an item that stays as it is -/
theorem zg_tn {w : zz_W} {j j' n k u l p q : Int} (v : zk_xe w 2000043 j = 1) (e : j = n + 4294967296 * k + 18446744073709551616 * u + 79228162514264337593543950336 * l) (e' : j' = n + 4294967296 * (k + 1) + 18446744073709551616 * u + 79228162514264337593543950336 * l) (n0 : 0 ≤ n) (n1 : n < 4294967296) (k0 : 0 ≤ k) (k1 : k + 1 < 4294967296) (u0 : 0 ≤ u) (u1 : u < 4294967296) (l0 : 0 ≤ l) (l1 : l < 4294967296) (hp : zh_e w 61 (2 * k) = p) (hq : (0 ≤ p - 64 * q ∧ p - 64 * q ≤ 6) ∨ (12 ≤ p - 64 * q ∧ p - 64 * q ≤ 28) ∨ (34 ≤ p - 64 * q ∧ p - 64 * q ≤ 63)) : zk_xe w 2000043 j' = 1 := by
  have hns : ¬ zg_us (zh_e w 61 (2 * k) % 64) := by
    rw [hp]
    unfold zg_us
    omega
  have hnj : ¬ (zh_e w 61 (2 * k) % 64 = 31 ∨ zh_e w 61 (2 * k) % 64 = 32) := by
    rw [hp]
    omega
  obtain ⟨x, h⟩ := (zg_t4 e n0 n1 k0 (by omega) u0 u1 l0 l1).mp v
  refine (zg_t4 e' n0 n1 (by omega) k1 u0 u1 l0 l1).mpr ⟨x, fun i i0 i1 => ?_⟩
  obtain ⟨h1, h2, h3, h4, h5, h6, h7, h8⟩ := h i i0 i1
  refine ⟨fun c => ?_, h2, h3, h4, h5, h6, fun c => ?_, h8⟩
  · obtain ⟨b1, b2, b3, b4⟩ := h1 c
    refine ⟨b1, b2, fun a => b3 (by omega), fun a => b4 ?_⟩
    by_cases ei : i = k
    · exfalso
      rw [ei] at c
      exact hns c
    · omega
  · obtain ⟨b1, b2, b3⟩ := h7 c
    refine ⟨b1, fun a => b2 (by omega), fun a => b3 ?_⟩
    by_cases ei : i = k
    · exfalso
      rw [ei] at c
      exact hnj c
    · omega
theorem zg_we {w w' : zz_W} {jw k : Int} (hw : zk_rR 61 jw w w') (hj : jw = 2 * k + 1) : (∀ i, 0 ≤ i → zh_e w' 61 (2 * i) = zh_e w 61 (2 * i)) ∧ (∀ i, 0 ≤ i → i ≠ k → zh_e w' 61 (2 * i + 1) = zh_e w 61 (2 * i + 1)) ∧ zh_e w' 20 = zh_e w 20 ∧ zh_e w' 22 = zh_e w 22 ∧ zh_e w' 62 = zh_e w 62 ∧ zh_e w' 64 = zh_e w 64 :=
  ⟨fun i hi => hw.2 _ (by omega) (by omega), fun i hi hk => hw.2 _ (by omega) (by omega), zh_e_g (hw.1 20 (by decide)), zh_e_g (hw.1 22 (by decide)), zh_e_g (hw.1 62 (by decide)), zh_e_g (hw.1 64 (by decide))⟩
/-- an item's operand is settled: a use -/
theorem zg_tw {w w' : zz_W} {jw j j' n k u l o V : Int} (hw : zk_rR 61 jw w w') (v : zk_xe w 2000043 j = 1) (e : j = n + 4294967296 * k + 18446744073709551616 * u + 79228162514264337593543950336 * l) (e' : j' = n + 4294967296 * (k + 1) + 18446744073709551616 * u + 79228162514264337593543950336 * l) (n0 : 0 ≤ n) (n1 : n < 4294967296) (k0 : 0 ≤ k) (k1 : k < n) (u0 : 0 ≤ u) (u1 : u < 4294967296) (l0 : 0 ≤ l) (l1 : l < 4294967296) (hj : jw = 2 * k + 1) (hs : zg_us (zh_e w 61 (2 * k) % 64)) (ho : zh_e w 61 (2 * k + 1) = o) (hV : zh_e w' 61 jw = V) (hT : V = zg_T (zh_e w 20) (zh_e w 61 (2 * k) % 64) o) (hO : zg_ok (zh_e w 20) (zh_e w 62) (zh_e w 64) o) : zk_xe w' 2000043 j' = 1 := by
  have hnj : ¬ (zh_e w 61 (2 * k) % 64 = 31 ∨ zh_e w 61 (2 * k) % 64 = 32) := by
    unfold zg_us at hs
    omega
  obtain ⟨x, h⟩ := (zg_t4 e n0 n1 k0 (by omega) u0 u1 l0 l1).mp v
  obtain ⟨f0, f1, r20, r22, r62, r64⟩ := zg_we hw hj
  refine (zg_t4 e' n0 n1 (by omega) (by omega) u0 u1 l0 l1).mpr ⟨x, fun i i0 i1 => ?_⟩
  obtain ⟨h1, h2, h3, h4, h5, h6, h7, h8⟩ := h i i0 i1
  unfold zg_ti
  rw [r20, r22, r62, r64, f0 i i0]
  refine ⟨fun c => ?_, h2, h3, h4, fun c => ?_, fun c => ?_, fun c => ?_, h8⟩
  · obtain ⟨b1, b2, b3, b4⟩ := h1 c
    refine ⟨b1, b2, fun a => ?_, fun a => ?_⟩
    · rw [f1 i i0 (by omega)]
      exact b3 (by omega)
    · by_cases ei : i = k
      · have ex : x i = o := by
          rw [← b3 (by omega), ei]
          exact ho
        rw [ex, ei, ← hj, hV]
        exact ⟨hT, hO⟩
      · rw [f1 i i0 ei]
        exact b4 (by omega)
  · obtain ⟨b1, b2, b3⟩ := h5 c
    refine ⟨b1, ?_, b3⟩
    rw [show 2 * i - 2 = 2 * (i - 1) by omega, f0 (i - 1) (by omega), show 2 * (i - 1) = 2 * i - 2 by omega]
    exact b2
  · obtain ⟨b1, m, b2, b3, b4, b5, b6⟩ := h6 c
    exact ⟨b1, m, b2, b3, by rw [f0 m b2]; exact b4, b5, fun t t1 t2 => by rw [f0 t (by omega)]; exact b6 t t1 t2⟩
  · obtain ⟨b1, b2, b3⟩ := h7 c
    have hk : i ≠ k := fun ei => by
      rw [ei] at c
      exact hnj c
    rw [f1 i i0 hk]
    refine ⟨b1, fun a => ?_, fun a => ?_⟩
    · obtain ⟨c1, c2, c3, c4, c5⟩ := b2 (by omega)
      exact ⟨c1, c2, c3, c4, by rw [f0 _ c3]; exact c5⟩
    · obtain ⟨c1, c2, c3⟩ := b3 (by omega)
      exact ⟨c1, c2, by rw [f0 _ c1]; exact c3⟩
/-- a turn, or a label -/
theorem zg_tj {w w' : zz_W} {jw j j' n k u l o V : Int} (hw : zk_rR 61 jw w w') (v : zk_xe w 2000043 j = 1) (e : j = n + 4294967296 * k + 18446744073709551616 * u + 79228162514264337593543950336 * l) (e' : j' = n + 4294967296 * (k + 1) + 18446744073709551616 * u + 79228162514264337593543950336 * l) (n0 : 0 ≤ n) (n1 : n < 4294967296) (k0 : 0 ≤ k) (k1 : k < n) (u0 : 0 ≤ u) (u1 : u < 4294967296) (l0 : 0 ≤ l) (l1 : l < 4294967296) (hj : jw = 2 * k + 1) (hs : 31 ≤ zh_e w 61 (2 * k) % 64 ∧ zh_e w 61 (2 * k) % 64 ≤ 33) (ho : zh_e w 61 (2 * k + 1) = o) (hV : zh_e w' 61 jw = V) (hT : V = zh_e w 22 o) : zk_xe w' 2000043 j' = 1 := by
  obtain ⟨x, h⟩ := (zg_t4 e n0 n1 k0 (by omega) u0 u1 l0 l1).mp v
  obtain ⟨f0, f1, r20, r22, r62, r64⟩ := zg_we hw hj
  refine (zg_t4 e' n0 n1 (by omega) (by omega) u0 u1 l0 l1).mpr ⟨x, fun i i0 i1 => ?_⟩
  obtain ⟨h1, h2, h3, h4, h5, h6, h7, h8⟩ := h i i0 i1
  unfold zg_ti
  rw [r20, r22, r62, r64, f0 i i0]
  refine ⟨fun c => ?_, h2, h3, h4, fun c => ?_, fun c => ?_, fun c => ?_, h8⟩
  · obtain ⟨b1, b2, b3, b4⟩ := h1 c
    have hk : i ≠ k := fun ei => by
      rw [ei] at c
      unfold zg_us at c
      omega
    rw [f1 i i0 hk]
    exact ⟨b1, b2, fun a => b3 (by omega), fun a => b4 (by omega)⟩
  · obtain ⟨b1, b2, b3⟩ := h5 c
    refine ⟨b1, ?_, b3⟩
    rw [show 2 * i - 2 = 2 * (i - 1) by omega, f0 (i - 1) (by omega), show 2 * (i - 1) = 2 * i - 2 by omega]
    exact b2
  · obtain ⟨b1, m, b2, b3, b4, b5, b6⟩ := h6 c
    exact ⟨b1, m, b2, b3, by rw [f0 m b2]; exact b4, b5, fun t t1 t2 => by rw [f0 t (by omega)]; exact b6 t t1 t2⟩
  · obtain ⟨b1, b2, b3⟩ := h7 c
    by_cases ei : i = k
    · refine ⟨b1, fun a => absurd a (by omega), fun _ => ?_⟩
      obtain ⟨c1, c2, c3, c4, c5⟩ := b2 (by omega)
      rw [ei, ho] at c3 c4 c5
      rw [ei, ← hj, hV, hT]
      exact ⟨c3, c4, by rw [f0 _ c3]; exact c5⟩
    · rw [f1 i i0 ei]
      refine ⟨b1, fun a => ?_, fun a => ?_⟩
      · obtain ⟨c1, c2, c3, c4, c5⟩ := b2 (by omega)
        exact ⟨c1, c2, c3, c4, by rw [f0 _ c3]; exact c5⟩
      · obtain ⟨c1, c2, c3⟩ := b3 (by omega)
        exact ⟨c1, c2, by rw [f0 _ c1]; exact c3⟩
theorem zg_Tv {g : Int → Int} {s y : Int} : (0 ≤ g (6 * y + 3) → (s = 8 → zg_T g s y = g (6 * y + 4)) ∧ (s ≠ 8 → zg_T g s y = g (6 * y + 3))) ∧ (g (6 * y + 3) < 0 → zg_T g s y = -1 - g (6 * y + 5)) := by
  unfold zg_T
  refine ⟨fun h => ⟨fun a => ?_, fun a => ?_⟩, fun h => ?_⟩
  · rw [if_pos h, if_pos a]
  · rw [if_pos h, if_neg a]
  · rw [if_neg (by omega)]
theorem zg_MT {g d e : Int → Int} {s y : Int} (hs : s ≠ 8) (hk : g (6 * y + 2) = 2) (ho : zg_ok g d e y) : zg_M d e (zg_T g 8 y) (zg_T g s y) := by
  obtain ⟨o1, o2⟩ := ho
  by_cases h : 0 ≤ g (6 * y + 3)
  · obtain ⟨b1, b2, b3, b4⟩ := o1 h
    rw [(zg_Tv.1 h).1 rfl, (zg_Tv.1 h).2 hs]
    exact Or.inl ⟨b3, h, b4⟩
  · obtain ⟨b1, b2, b3⟩ := o2 (by omega)
    rw [zg_Tv.2 (by omega), zg_Tv.2 (by omega)]
    refine Or.inr ⟨rfl, by omega, by omega, ?_⟩
    rw [show -1 - (-1 - g (6 * y + 5)) = g (6 * y + 5) by omega, b3]
    exact hk
/-- at the end -/
theorem zg_te {w : zz_W} {j n u l : Int} (v : zk_xe w 2000043 j = 1) (e : j = n + 4294967296 * n + 18446744073709551616 * u + 79228162514264337593543950336 * l) (n0 : 0 ≤ n) (n1 : n < 4294967296) (u0 : 0 ≤ u) (u1 : u < 4294967296) (l0 : 0 ≤ l) (l1 : l < 4294967296) : zk_xe w 2000037 n = 1 := by
  obtain ⟨x, h⟩ := (zg_t4 e n0 n1 n0 n1 u0 u1 l0 l1).mp v
  rw [zg_x37]
  refine zh_b1 (fun i i0 i1 => ?_)
  obtain ⟨h1, h2, h3, h4, h5, h6, h7, h8⟩ := h i i0 i1
  have tv : zg_us (zh_e w 61 (2 * i) % 64) → zh_e w 61 (2 * i + 1) = zg_T (zh_e w 20) (zh_e w 61 (2 * i) % 64) (x i) ∧ zg_ok (zh_e w 20) (zh_e w 62) (zh_e w 64) (x i) := fun c => (h1 c).2.2.2 i1
  refine ⟨fun c => ?_, fun c => ?_, fun c => ?_, fun c => ?_, fun c => ?_, fun c => ?_, h8⟩
  · obtain ⟨t1, o1, o2⟩ := tv (by unfold zg_us; omega)
    have hk := h2 c
    by_cases hf : 0 ≤ zh_e w 20 (6 * x i + 3)
    · rw [t1, (zg_Tv.1 hf).2 (by omega)]
      exact Or.inl ⟨hf, (o1 hf).2.1⟩
    · obtain ⟨b1, b2, b3⟩ := o2 (by omega)
      rw [t1, zg_Tv.2 (by omega)]
      refine Or.inr ⟨by omega, by omega, ?_⟩
      rw [show -1 - (-1 - zh_e w 20 (6 * x i + 5)) = zh_e w 20 (6 * x i + 5) by omega, b3]
      exact hk
  · obtain ⟨t1, o1, o2⟩ := tv (by unfold zg_us; omega)
    have hk := h3 c
    by_cases hf : 0 ≤ zh_e w 20 (6 * x i + 3)
    · exact absurd (o1 hf).1 (by omega)
    · obtain ⟨b1, b2, b3⟩ := o2 (by omega)
      rw [t1, zg_Tv.2 (by omega)]
      refine ⟨by omega, by omega, ?_⟩
      rw [show -1 - (-1 - zh_e w 20 (6 * x i + 5)) = zh_e w 20 (6 * x i + 5) by omega, b3]
      exact hk
  · obtain ⟨t1, o1, o2⟩ := tv (by unfold zg_us; omega)
    by_cases hf : 0 ≤ zh_e w 20 (6 * x i + 3)
    · obtain ⟨b1, b2, b3, b4⟩ := o1 hf
      by_cases h8' : zh_e w 61 (2 * i) % 64 = 8
      · rw [t1, (zg_Tv.1 hf).1 h8']
        constructor <;> omega
      · rw [t1, (zg_Tv.1 hf).2 h8']
        constructor <;> omega
    · obtain ⟨b1, b2, b3⟩ := o2 (by omega)
      rw [t1, zg_Tv.2 (by omega)]
      constructor <;> omega
  · obtain ⟨t1, ok1⟩ := tv (by unfold zg_us; omega)
    obtain ⟨b1, b2, b3⟩ := h5 c
    have hk := h4 (Or.inr (Or.inl c))
    obtain ⟨g1, -, -, -, -, -, -, -⟩ := h (i - 1) (by omega) (by omega)
    have g0 : zh_e w 61 (2 * (i - 1)) % 64 = 8 := by
      rw [show 2 * (i - 1) = 2 * i - 2 by omega, b2]
      omega
    obtain ⟨-, -, -, g4⟩ := g1 (by unfold zg_us; omega)
    have g4 := (g4 (by omega)).1
    rw [g0, b3, show 2 * (i - 1) + 1 = 2 * i - 1 by omega] at g4
    refine ⟨b1, b2, ?_⟩
    rw [g4, t1]
    exact zg_MT (by omega) hk ok1
  · obtain ⟨t1, ok1⟩ := tv (by unfold zg_us; omega)
    obtain ⟨b1, m, b2, b3, b4, b5, b6⟩ := h6 c
    have hk := h4 (Or.inr (Or.inr c))
    obtain ⟨g1, -, -, -, -, -, -, -⟩ := h m b2 (by omega)
    have g0 : zh_e w 61 (2 * m) % 64 = 8 := by
      rw [b4]
      rfl
    obtain ⟨-, -, -, g4⟩ := g1 (by unfold zg_us; omega)
    have g4 := (g4 (by omega)).1
    rw [g0, b5] at g4
    refine ⟨b1, m, b2, b3, b4, ?_, b6⟩
    rw [g4, t1]
    exact zg_MT (by omega) hk ok1
  · obtain ⟨b1, -, b3⟩ := h7 c
    obtain ⟨c1, c2, c3⟩ := b3 i1
    exact ⟨b1, c1, c2, c3⟩
/-- one digit (functions 17, 18) -/
theorem zh_H17 {w : zz_W} {j : Int} : zk_xe w 2000017 j = zh_b (zh_ods (zh_f w 41) (zh_f w 42) (zk_lel w 44) j) := by
  rw [show (2000017 : Nat) = 2000000 + 17 from rfl, zk_xe_h]
  rfl
theorem zh_H18 {w : zz_W} {j : Int} : zk_xe w 2000018 j = zk_lel w 44 j.toNat := by
  rw [show (2000018 : Nat) = 2000000 + 18 from rfl, zk_xe_h]
  rfl
theorem zh_od_0 {w : zz_W} : zk_xe w 2000017 0 = 1 := by
  rw [zh_H17]
  exact zh_b1 (fun i hi => by omega)
theorem zh_od_e {w : zz_W} {i : Int} (h0 : 0 ≤ i) (h : zh_od (zh_f w 41 i.toNat) (zh_f w 42 i.toNat) (zk_lel w 44 i.toNat)) : zh_od (zk_xe w 41 i) (zk_xe w 42 i) (zk_xe w 2000018 i) := by
  rw [zk_xe_r (i := 41) (by decide), zk_xe_r (i := 42) (by decide), zh_H18]
  have p : ∀ r, zh_f w r i.toNat = zk_el w r i := fun r => by
    show zk_el w r ((i.toNat : Nat) : Int) = zk_el w r i
    rw [show ((i.toNat : Nat) : Int) = i by omega]
  rw [p, p] at h
  exact h
theorem zh_od_e' {w : zz_W} {i : Int} (h0 : 0 ≤ i) (h : zh_od (zk_xe w 41 i) (zk_xe w 42 i) (zk_xe w 2000018 i)) : zh_od (zh_f w 41 i.toNat) (zh_f w 42 i.toNat) (zk_lel w 44 i.toNat) := by
  rw [zk_xe_r (i := 41) (by decide), zk_xe_r (i := 42) (by decide), zh_H18] at h
  have p : ∀ r, zh_f w r i.toNat = zk_el w r i := fun r => by
    show zk_el w r ((i.toNat : Nat) : Int) = zk_el w r i
    rw [show ((i.toNat : Nat) : Int) = i by omega]
  rw [p, p]
  exact h
theorem zh_od_at {w : zz_W} {n i : Int} (v : zk_xe w 2000017 n = 1) (h0 : 0 ≤ i) (h1 : i < n) : zh_od (zk_xe w 41 i) (zk_xe w 42 i) (zk_xe w 2000018 i) := by
  rw [zh_H17] at v
  exact zh_od_e h0 (zh_b1' v i.toNat (by omega))
theorem zh_od_st {w : zz_W} {n i : Int} (v : zk_xe w 2000017 n = 1) (h0 : 0 ≤ n) (h1 : i = n) (hk : zh_od (zk_xe w 41 i) (zk_xe w 42 i) (zk_xe w 2000018 i)) : zk_xe w 2000017 (n + 1) = 1 := by
  subst h1
  rw [zh_H17] at v ⊢
  refine zh_b1 (fun j hj => ?_)
  by_cases hin : (j : Int) = i
  · have h := zh_od_e' h0 hk
    rw [show i.toNat = j by omega] at h
    exact h
  · exact zh_b1' v j (by omega)
theorem zh_od_w41 {w w' : zz_W} {j n : Int} (hw : zk_rR 41 j w w') (hj : n ≤ j) (v : zk_xe w 2000017 n = 1) : zk_xe w' 2000017 n = 1 := by
  rw [zh_H17] at v ⊢
  rw [zh_f_g (hw.1 42 (by decide)), zh_l_g (hw.1 44 (by decide))]
  refine zh_b1 (fun i hi => ?_)
  rw [zh_wf hw i (by omega)]
  exact zh_b1' v i hi
theorem zh_od_w42 {w w' : zz_W} {j n : Int} (hw : zk_rR 42 j w w') (hj : n ≤ j) (v : zk_xe w 2000017 n = 1) : zk_xe w' 2000017 n = 1 := by
  rw [zh_H17] at v ⊢
  rw [zh_f_g (hw.1 41 (by decide)), zh_l_g (hw.1 44 (by decide))]
  refine zh_b1 (fun i hi => ?_)
  rw [zh_wf hw i (by omega)]
  exact zh_b1' v i hi
/-- lines of a typed text (function 19) -/
theorem zh_H19 {w : zz_W} {j : Int} : zk_xe w 2000019 j = zh_b (zh_lns (zh_f w 60) j) := by
  rw [show (2000019 : Nat) = 2000000 + 19 from rfl, zk_xe_h]
  rfl
theorem zh_ln_n {f : Nat → Int} {j n b : Int} (e : j = n + 4294967296 * b) (h0 : 0 ≤ n) (h1 : n < 4294967296) : zh_lns f j ↔ ((∀ s e : Nat, s ≤ e → (e : Int) ≤ n → e ≤ 40000 → zh_nn f s e → (e : Int) - s ≤ 3000) ∧ (n ≤ 40000 → ∀ s : Nat, (s : Int) ≤ n → zh_nn f s n.toNat → n - s ≤ b)) := by
  unfold zh_lns
  have e1 : j % 4294967296 = n := by omega
  have e2 : j / 4294967296 = b := by omega
  rw [e1, e2]
theorem zh_ln_0 {w : zz_W} : zk_xe w 2000019 0 = 1 := by
  rw [zh_H19]
  exact zh_b1 ((zh_ln_n (n := 0) (b := 0) (by omega) (by omega) (by omega)).mpr ⟨fun s e _ he _ _ => by omega, fun _ s hs _ => by omega⟩)
theorem zh_ln_m {w : zz_W} {j j1 n b b1 : Int} (v : zk_xe w 2000019 j = 1) (e : j = n + 4294967296 * b) (e' : j1 = n + 4294967296 * b1) (h0 : 0 ≤ n) (h1 : n < 4294967296) (_b0 : 0 ≤ b) (_b2 : 0 ≤ b1) (hb : b ≤ b1) : zk_xe w 2000019 j1 = 1 := by
  rw [zh_H19] at v ⊢
  have h := (zh_ln_n e h0 h1).mp (zh_b1' v)
  exact zh_b1 ((zh_ln_n e' h0 h1).mpr ⟨h.1, fun hn s hs hh => by
    have := h.2 hn s hs hh
    omega⟩)
theorem zh_ln_o {w : zz_W} {j j1 n b b1 : Int} (v : zk_xe w 2000019 j = 1) (e : j = n + 4294967296 * b) (e' : j1 = n + 1 + 4294967296 * b1) (h0 : 0 ≤ n) (h1 : n + 1 < 4294967296) (_b0 : 0 ≤ b) (_b2 : 0 ≤ b1) (hn : 40000 ≤ n) : zk_xe w 2000019 j1 = 1 := by
  rw [zh_H19] at v ⊢
  have h := (zh_ln_n e h0 (by omega)).mp (zh_b1' v)
  exact zh_b1 ((zh_ln_n e' (by omega) h1).mpr ⟨fun s q hsq _ hq hh => h.1 s q hsq (by omega) hq hh, fun hn' => by omega⟩)
theorem zh_ln_k {w w' : zz_W} {jw n : Int} (hw : zk_rR 60 jw w w') (ej : jw = n) {s q : Nat} (hq : (q : Int) ≤ n) (h : zh_nn (zh_f w' 60) s q) : zh_nn (zh_f w 60) s q := fun i hi hi' => by
  have := h i hi hi'
  rw [zh_wf hw i (by omega)] at this
  exact this
theorem zh_ln_w0 {w w' : zz_W} {jw j j1 n b : Int} (hw : zk_rR 60 jw w w') (v : zk_xe w 2000019 j = 1) (e : j = n + 4294967296 * b) (ej : jw = n) (e' : j1 = n + 1 + 4294967296 * (b + 1)) (h0 : 0 ≤ n) (h1 : n ≤ 39999) (b0 : 0 ≤ b) (hb : b ≤ 2999) : zk_xe w' 2000019 j1 = 1 := by
  rw [zh_H19] at v ⊢
  have h := (zh_ln_n e h0 (by omega)).mp (zh_b1' v)
  have key : ∀ s : Nat, (s : Int) ≤ n + 1 → zh_nn (zh_f w' 60) s (n + 1).toNat → n + 1 - s ≤ b + 1 := fun s hs hh => by
    by_cases hsn : (s : Int) = n + 1
    · omega
    · have := h.2 (by omega) s (by omega) (zh_ln_k hw ej (by omega) (fun i hi hi' => hh i hi (by omega)))
      omega
  refine zh_b1 ((zh_ln_n e' (by omega) (by omega)).mpr ⟨fun s q hsq hqn hq hh => ?_, fun _ => key⟩)
  by_cases hqe : (q : Int) = n + 1
  · have hq' : q = (n + 1).toNat := by omega
    rw [hq'] at hh
    have := key s (by omega) hh
    omega
  · exact h.1 s q hsq (by omega) hq (zh_ln_k hw ej (by omega) hh)
theorem zh_ln_w1 {w w' : zz_W} {jw j j1 n b : Int} (hw : zk_rR 60 jw w w') (v : zk_xe w 2000019 j = 1) (e : j = n + 4294967296 * b) (ej : jw = n) (e' : j1 = n + 1) (h0 : 0 ≤ n) (h1 : n ≤ 39999) (b0 : 0 ≤ b) (hb : b ≤ 2999) (hv : zk_el w' 60 jw = 10) : zk_xe w' 2000019 j1 = 1 := by
  rw [zh_H19] at v ⊢
  have h := (zh_ln_n e h0 (by omega)).mp (zh_b1' v)
  have key : ∀ s : Nat, (s : Int) ≤ n + 1 → zh_nn (zh_f w' 60) s (n + 1).toNat → (s : Int) = n + 1 := fun s hs hh => by
    by_cases hsn : (s : Int) = n + 1
    · exact hsn
    · exfalso
      refine hh n.toNat (by omega) (by omega) ?_
      show zk_el w' 60 ((n.toNat : Nat) : Int) = 10
      rw [show ((n.toNat : Nat) : Int) = jw by omega]
      exact hv
  refine zh_b1 ((zh_ln_n (n := n + 1) (b := 0) (by omega) (by omega) (by omega)).mpr ⟨fun s q hsq hqn hq hh => ?_, fun _ s hs hh => ?_⟩)
  · by_cases hqe : (q : Int) = n + 1
    · have hq' : q = (n + 1).toNat := by omega
      rw [hq'] at hh
      have := key s (by omega) hh
      omega
    · exact h.1 s q hsq (by omega) hq (zh_ln_k hw ej (by omega) hh)
  · have := key s hs hh
    omega
/-- no line's end between (function 20) -/
theorem zx_i6 {l : List Int} (h : l.length = 6) : ∃ a b c d e f, l = [a, b, c, d, e, f] := by
  match l, h with
  | [a, b, c, d, e, f], _ => exact ⟨a, b, c, d, e, f, rfl⟩
theorem zh_H20 {w : zz_W} {j a p : Int} (e : j = a + 4294967296 * p) (h0 : 0 ≤ a) (h1 : a < 4294967296) : zk_xe w 2000020 j = zh_b (zh_nn (zh_f w 60) a.toNat p.toNat) := by
  rw [show (2000020 : Nat) = 2000000 + 20 from rfl, zk_xe_h]
  show zh_b (zh_nn (zh_f w 60) (j % 4294967296).toNat (j / 4294967296).toNat) = _
  rw [show j % 4294967296 = a by omega, show j / 4294967296 = p by omega]
theorem zh_no_0 {w : zz_W} {j a : Int} (e : j = a + 4294967296 * a) (h0 : 0 ≤ a) (h1 : a < 4294967296) : zk_xe w 2000020 j = 1 := by
  rw [zh_H20 e h0 h1]
  exact zh_b1 (fun i hi hi' => by omega)
theorem zh_no_s {w : zz_W} {j j1 a p : Int} (v : zk_xe w 2000020 j = 1) (e : j = a + 4294967296 * p) (e' : j1 = a + 4294967296 * (p + 1)) (h0 : 0 ≤ a) (h1 : a < 4294967296) (hp : 0 ≤ p) (hk : zk_xe w 60 p ≠ 10) : zk_xe w 2000020 j1 = 1 := by
  rw [zh_H20 e h0 h1] at v
  rw [zh_H20 e' h0 h1]
  refine zh_b1 (fun i hi hi' => ?_)
  by_cases hip : (i : Int) = p
  · rw [zk_xe_r (i := 60) (by decide)] at hk
    show zk_el w 60 (i : Int) ≠ 10
    rw [hip]
    exact hk
  · exact zh_b1' v i hi (by omega)
theorem zh_ln_at {w : zz_W} {j k n b a p : Int} (v : zk_xe w 2000019 j = 1) (v2 : zk_xe w 2000020 k = 1) (e : j = n + 4294967296 * b) (e2 : k = a + 4294967296 * p) (h0 : 0 ≤ n) (h1 : n < 4294967296) (a0 : 0 ≤ a) (ap : a ≤ p) (pn : p ≤ n) (hn : n ≤ 40000) : p - a ≤ 3000 := by
  rw [zh_H19] at v
  rw [zh_H20 e2 a0 (by omega)] at v2
  have h := ((zh_ln_n e h0 h1).mp (zh_b1' v)).1 a.toNat p.toNat (by omega) (by omega) (by omega) (zh_b1' v2)
  omega
def zx_D170 : zx_L := zx_Lc [] 2 [] [] [((0, 2147483648), [(0, 0, 1), (1, 1, 0)])] [((2147483648, 0), [(0, 1, 0)]), ((2147483647, 0), [(0, 0, 1)])] [([(0, 255), (0, 1), (0, 1), ((-2147483648), 2147483647), ((-2147483648), 2147483647)], [((0, 0), [(0, 1, 0), (5, 0, 1)]), ((0, 0), [(0, 0, 1), (5, 1, 0)]), ((0, 0), [(2, 0, 1), (5, 1, 0), (6, 0, 256)]), ((0, 0), [(2, 1, 0), (5, 0, 1), (6, 256, 0)]), ((0, 0), [(2, 0, 1), (3, 255, 0)]), ((0, 0), [(2, 1, 0), (3, 0, 1)]), ((255, 0), [(2, 0, 1), (4, 0, 129)])], [(2000010, ((0, 0), [(1, 1, 0)]), ((0, 0), [(2, 1, 0)])), (2000011, ((0, 0), [(1, 1, 0)]), ((0, 0), [(3, 1, 0)])), (2000012, ((0, 0), [(1, 1, 0)]), ((0, 0), [(4, 1, 0)])), (2000013, ((0, 0), [(1, 1, 0)]), ((0, 0), [(5, 1, 0)])), (2000014, ((0, 0), [(1, 1, 0)]), ((0, 0), [(6, 1, 0)]))], [])]
theorem zx_D170_ok {PT : Nat → zz_W → Prop} : zx_Lok 64 zHT PT zx_D170 := by
  refine zx_Lc_ok (fun w hI hK ins hl hr he hg => ?_)
  obtain ⟨a0, a1, rfl⟩ := zx_i2 hl
  have e0 : ((-2147483648) : Int) + ((-1) * a0 + (1 * a1 + 0)) = 0 := he _ List.mem_cons_self
  have g0 : 0 ≤ (2147483648 : Int) + (1 * a0 + 0) := hg _ List.mem_cons_self
  have g1 : 0 ≤ (2147483647 : Int) + ((-1) * a0 + 0) := hg _ (List.mem_cons_of_mem _ List.mem_cons_self)
  have p : a1 = a0 + 2147483648 + 4294967296 * 0 := by omega
  have x1 : 0 ≤ a0 + 2147483648 := by omega
  have x2 : a0 + 2147483648 < 4294967296 := by omega
  obtain ⟨f0, f1, f2, f3, f4⟩ := zh_by (w := w) (k := 0) p x1 x2 (by omega)
  rw [show (2 : Int) ^ (8 * (0 : Int).toNat) = 1 from rfl] at f0 f1 f2 f3 f4
  have y1 := Int.mul_ediv_add_emod a0 1
  have y2 := Int.emod_nonneg a0 (show (1 : Int) ≠ 0 by decide)
  have y3 := Int.emod_lt_of_pos a0 (show (0 : Int) < 1 by decide)
  generalize hy : a0 / 1 = y at f0 f1 f2 f3 f4 y1
  have z1 := Int.mul_ediv_add_emod y 256
  have z2 := Int.emod_nonneg y (show (256 : Int) ≠ 0 by decide)
  have z3 := Int.emod_lt_of_pos y (show (0 : Int) < 256 by decide)
  generalize hz : y / 256 = z at f4 z1
  generalize hc : y % 256 = c at f0 f1 f2 z1 z2 z3
  have b1 := zh_nzi c
  generalize hb : zh_b (c ≠ 0) = b at f1 b1
  have v1 := zh_sgi c
  generalize hv : zh_b (zh_sg c) = v at f2 v1
  exact ⟨_, List.mem_cons_self, [c, b, v, y, z], rfl, (zx_bcons (by show (0 : Int) ≤ c ∧ c ≤ (255 : Int); omega) (zx_bcons (by show (0 : Int) ≤ b ∧ b ≤ (1 : Int); omega) (zx_bcons (by show (0 : Int) ≤ v ∧ v ≤ (1 : Int); omega) (zx_bcons (by show ((-2147483648) : Int) ≤ y ∧ y ≤ (2147483647 : Int); omega) (zx_bcons (by show ((-2147483648) : Int) ≤ z ∧ z ≤ (2147483647 : Int); omega) zx_bnil))))), (zx_cs1 (by show 0 ≤ (0 : Int) + (1 * a0 + ((-1) * (y) + 0)); omega) (zx_cs1 (by show 0 ≤ (0 : Int) + ((-1) * a0 + (1 * (y) + 0)); omega) (zx_cs1 (by show 0 ≤ (0 : Int) + ((-1) * (c) + (1 * (y) + ((-256) * (z) + 0))); omega) (zx_cs1 (by show 0 ≤ (0 : Int) + (1 * (c) + ((-1) * (y) + (256 * (z) + 0))); omega) (zx_cs1 (by show 0 ≤ (0 : Int) + ((-1) * (c) + (255 * (b) + 0)); omega) (zx_cs1 (by show 0 ≤ (0 : Int) + (1 * (c) + ((-1) * (b) + 0)); omega) (zx_cs1 (by show 0 ≤ (255 : Int) + ((-1) * (c) + ((-129) * (v) + 0)); omega) zx_cs0))))))), (zx_eF1 (by show 0 ≤ (0 : Int) + (1 * a1 + 0); omega) (by show zk_xe w 2000010 ((0 : Int) + (1 * a1 + 0)) = (0 : Int) + (1 * (c) + 0); rw [show (0 : Int) + (1 * a1 + 0) = a1 by omega]; rw [f0]; omega) (zx_eF1 (by show 0 ≤ (0 : Int) + (1 * a1 + 0); omega) (by show zk_xe w 2000011 ((0 : Int) + (1 * a1 + 0)) = (0 : Int) + (1 * (b) + 0); rw [show (0 : Int) + (1 * a1 + 0) = a1 by omega]; rw [f1]; omega) (zx_eF1 (by show 0 ≤ (0 : Int) + (1 * a1 + 0); omega) (by show zk_xe w 2000012 ((0 : Int) + (1 * a1 + 0)) = (0 : Int) + (1 * (v) + 0); rw [show (0 : Int) + (1 * a1 + 0) = a1 by omega]; rw [f2]; omega) (zx_eF1 (by show 0 ≤ (0 : Int) + (1 * a1 + 0); omega) (by show zk_xe w 2000013 ((0 : Int) + (1 * a1 + 0)) = (0 : Int) + (1 * (y) + 0); rw [show (0 : Int) + (1 * a1 + 0) = a1 by omega]; rw [f3]; omega) (zx_eF1 (by show 0 ≤ (0 : Int) + (1 * a1 + 0); omega) (by show zk_xe w 2000014 ((0 : Int) + (1 * a1 + 0)) = (0 : Int) + (1 * (z) + 0); rw [show (0 : Int) + (1 * a1 + 0) = a1 by omega]; rw [f4]; omega) zx_eF0))))), zx_k0⟩
def zx_D171 : zx_L := zx_Lc [] 2 [] [] [((0, 6442450944), [(0, 0, 1), (1, 1, 0)])] [((2147483648, 0), [(0, 1, 0)]), ((2147483647, 0), [(0, 0, 1)])] [([(0, 255), (0, 1), (0, 1), ((-2147483648), 2147483647), ((-2147483648), 2147483647)], [((0, 0), [(0, 1, 0), (5, 0, 256)]), ((255, 0), [(0, 0, 1), (5, 256, 0)]), ((0, 0), [(2, 0, 1), (5, 1, 0), (6, 0, 256)]), ((0, 0), [(2, 1, 0), (5, 0, 1), (6, 256, 0)]), ((0, 0), [(2, 0, 1), (3, 255, 0)]), ((0, 0), [(2, 1, 0), (3, 0, 1)]), ((255, 0), [(2, 0, 1), (4, 0, 129)])], [(2000010, ((0, 0), [(1, 1, 0)]), ((0, 0), [(2, 1, 0)])), (2000011, ((0, 0), [(1, 1, 0)]), ((0, 0), [(3, 1, 0)])), (2000012, ((0, 0), [(1, 1, 0)]), ((0, 0), [(4, 1, 0)])), (2000013, ((0, 0), [(1, 1, 0)]), ((0, 0), [(5, 1, 0)])), (2000014, ((0, 0), [(1, 1, 0)]), ((0, 0), [(6, 1, 0)]))], [])]
theorem zx_D171_ok {PT : Nat → zz_W → Prop} : zx_Lok 64 zHT PT zx_D171 := by
  refine zx_Lc_ok (fun w hI hK ins hl hr he hg => ?_)
  obtain ⟨a0, a1, rfl⟩ := zx_i2 hl
  have e0 : ((-6442450944) : Int) + ((-1) * a0 + (1 * a1 + 0)) = 0 := he _ List.mem_cons_self
  have g0 : 0 ≤ (2147483648 : Int) + (1 * a0 + 0) := hg _ List.mem_cons_self
  have g1 : 0 ≤ (2147483647 : Int) + ((-1) * a0 + 0) := hg _ (List.mem_cons_of_mem _ List.mem_cons_self)
  have p : a1 = a0 + 2147483648 + 4294967296 * 1 := by omega
  have x1 : 0 ≤ a0 + 2147483648 := by omega
  have x2 : a0 + 2147483648 < 4294967296 := by omega
  obtain ⟨f0, f1, f2, f3, f4⟩ := zh_by (w := w) (k := 1) p x1 x2 (by omega)
  rw [show (2 : Int) ^ (8 * (1 : Int).toNat) = 256 from rfl] at f0 f1 f2 f3 f4
  have y1 := Int.mul_ediv_add_emod a0 256
  have y2 := Int.emod_nonneg a0 (show (256 : Int) ≠ 0 by decide)
  have y3 := Int.emod_lt_of_pos a0 (show (0 : Int) < 256 by decide)
  generalize hy : a0 / 256 = y at f0 f1 f2 f3 f4 y1
  have z1 := Int.mul_ediv_add_emod y 256
  have z2 := Int.emod_nonneg y (show (256 : Int) ≠ 0 by decide)
  have z3 := Int.emod_lt_of_pos y (show (0 : Int) < 256 by decide)
  generalize hz : y / 256 = z at f4 z1
  generalize hc : y % 256 = c at f0 f1 f2 z1 z2 z3
  have b1 := zh_nzi c
  generalize hb : zh_b (c ≠ 0) = b at f1 b1
  have v1 := zh_sgi c
  generalize hv : zh_b (zh_sg c) = v at f2 v1
  exact ⟨_, List.mem_cons_self, [c, b, v, y, z], rfl, (zx_bcons (by show (0 : Int) ≤ c ∧ c ≤ (255 : Int); omega) (zx_bcons (by show (0 : Int) ≤ b ∧ b ≤ (1 : Int); omega) (zx_bcons (by show (0 : Int) ≤ v ∧ v ≤ (1 : Int); omega) (zx_bcons (by show ((-2147483648) : Int) ≤ y ∧ y ≤ (2147483647 : Int); omega) (zx_bcons (by show ((-2147483648) : Int) ≤ z ∧ z ≤ (2147483647 : Int); omega) zx_bnil))))), (zx_cs1 (by show 0 ≤ (0 : Int) + (1 * a0 + ((-256) * (y) + 0)); omega) (zx_cs1 (by show 0 ≤ (255 : Int) + ((-1) * a0 + (256 * (y) + 0)); omega) (zx_cs1 (by show 0 ≤ (0 : Int) + ((-1) * (c) + (1 * (y) + ((-256) * (z) + 0))); omega) (zx_cs1 (by show 0 ≤ (0 : Int) + (1 * (c) + ((-1) * (y) + (256 * (z) + 0))); omega) (zx_cs1 (by show 0 ≤ (0 : Int) + ((-1) * (c) + (255 * (b) + 0)); omega) (zx_cs1 (by show 0 ≤ (0 : Int) + (1 * (c) + ((-1) * (b) + 0)); omega) (zx_cs1 (by show 0 ≤ (255 : Int) + ((-1) * (c) + ((-129) * (v) + 0)); omega) zx_cs0))))))), (zx_eF1 (by show 0 ≤ (0 : Int) + (1 * a1 + 0); omega) (by show zk_xe w 2000010 ((0 : Int) + (1 * a1 + 0)) = (0 : Int) + (1 * (c) + 0); rw [show (0 : Int) + (1 * a1 + 0) = a1 by omega]; rw [f0]; omega) (zx_eF1 (by show 0 ≤ (0 : Int) + (1 * a1 + 0); omega) (by show zk_xe w 2000011 ((0 : Int) + (1 * a1 + 0)) = (0 : Int) + (1 * (b) + 0); rw [show (0 : Int) + (1 * a1 + 0) = a1 by omega]; rw [f1]; omega) (zx_eF1 (by show 0 ≤ (0 : Int) + (1 * a1 + 0); omega) (by show zk_xe w 2000012 ((0 : Int) + (1 * a1 + 0)) = (0 : Int) + (1 * (v) + 0); rw [show (0 : Int) + (1 * a1 + 0) = a1 by omega]; rw [f2]; omega) (zx_eF1 (by show 0 ≤ (0 : Int) + (1 * a1 + 0); omega) (by show zk_xe w 2000013 ((0 : Int) + (1 * a1 + 0)) = (0 : Int) + (1 * (y) + 0); rw [show (0 : Int) + (1 * a1 + 0) = a1 by omega]; rw [f3]; omega) (zx_eF1 (by show 0 ≤ (0 : Int) + (1 * a1 + 0); omega) (by show zk_xe w 2000014 ((0 : Int) + (1 * a1 + 0)) = (0 : Int) + (1 * (z) + 0); rw [show (0 : Int) + (1 * a1 + 0) = a1 by omega]; rw [f4]; omega) zx_eF0))))), zx_k0⟩
def zx_D172 : zx_L := zx_Lc [] 2 [] [] [((0, 10737418240), [(0, 0, 1), (1, 1, 0)])] [((2147483648, 0), [(0, 1, 0)]), ((2147483647, 0), [(0, 0, 1)])] [([(0, 255), (0, 1), (0, 1), ((-2147483648), 2147483647), ((-2147483648), 2147483647)], [((0, 0), [(0, 1, 0), (5, 0, 65536)]), ((65535, 0), [(0, 0, 1), (5, 65536, 0)]), ((0, 0), [(2, 0, 1), (5, 1, 0), (6, 0, 256)]), ((0, 0), [(2, 1, 0), (5, 0, 1), (6, 256, 0)]), ((0, 0), [(2, 0, 1), (3, 255, 0)]), ((0, 0), [(2, 1, 0), (3, 0, 1)]), ((255, 0), [(2, 0, 1), (4, 0, 129)])], [(2000010, ((0, 0), [(1, 1, 0)]), ((0, 0), [(2, 1, 0)])), (2000011, ((0, 0), [(1, 1, 0)]), ((0, 0), [(3, 1, 0)])), (2000012, ((0, 0), [(1, 1, 0)]), ((0, 0), [(4, 1, 0)])), (2000013, ((0, 0), [(1, 1, 0)]), ((0, 0), [(5, 1, 0)])), (2000014, ((0, 0), [(1, 1, 0)]), ((0, 0), [(6, 1, 0)]))], [])]
theorem zx_D172_ok {PT : Nat → zz_W → Prop} : zx_Lok 64 zHT PT zx_D172 := by
  refine zx_Lc_ok (fun w hI hK ins hl hr he hg => ?_)
  obtain ⟨a0, a1, rfl⟩ := zx_i2 hl
  have e0 : ((-10737418240) : Int) + ((-1) * a0 + (1 * a1 + 0)) = 0 := he _ List.mem_cons_self
  have g0 : 0 ≤ (2147483648 : Int) + (1 * a0 + 0) := hg _ List.mem_cons_self
  have g1 : 0 ≤ (2147483647 : Int) + ((-1) * a0 + 0) := hg _ (List.mem_cons_of_mem _ List.mem_cons_self)
  have p : a1 = a0 + 2147483648 + 4294967296 * 2 := by omega
  have x1 : 0 ≤ a0 + 2147483648 := by omega
  have x2 : a0 + 2147483648 < 4294967296 := by omega
  obtain ⟨f0, f1, f2, f3, f4⟩ := zh_by (w := w) (k := 2) p x1 x2 (by omega)
  rw [show (2 : Int) ^ (8 * (2 : Int).toNat) = 65536 from rfl] at f0 f1 f2 f3 f4
  have y1 := Int.mul_ediv_add_emod a0 65536
  have y2 := Int.emod_nonneg a0 (show (65536 : Int) ≠ 0 by decide)
  have y3 := Int.emod_lt_of_pos a0 (show (0 : Int) < 65536 by decide)
  generalize hy : a0 / 65536 = y at f0 f1 f2 f3 f4 y1
  have z1 := Int.mul_ediv_add_emod y 256
  have z2 := Int.emod_nonneg y (show (256 : Int) ≠ 0 by decide)
  have z3 := Int.emod_lt_of_pos y (show (0 : Int) < 256 by decide)
  generalize hz : y / 256 = z at f4 z1
  generalize hc : y % 256 = c at f0 f1 f2 z1 z2 z3
  have b1 := zh_nzi c
  generalize hb : zh_b (c ≠ 0) = b at f1 b1
  have v1 := zh_sgi c
  generalize hv : zh_b (zh_sg c) = v at f2 v1
  exact ⟨_, List.mem_cons_self, [c, b, v, y, z], rfl, (zx_bcons (by show (0 : Int) ≤ c ∧ c ≤ (255 : Int); omega) (zx_bcons (by show (0 : Int) ≤ b ∧ b ≤ (1 : Int); omega) (zx_bcons (by show (0 : Int) ≤ v ∧ v ≤ (1 : Int); omega) (zx_bcons (by show ((-2147483648) : Int) ≤ y ∧ y ≤ (2147483647 : Int); omega) (zx_bcons (by show ((-2147483648) : Int) ≤ z ∧ z ≤ (2147483647 : Int); omega) zx_bnil))))), (zx_cs1 (by show 0 ≤ (0 : Int) + (1 * a0 + ((-65536) * (y) + 0)); omega) (zx_cs1 (by show 0 ≤ (65535 : Int) + ((-1) * a0 + (65536 * (y) + 0)); omega) (zx_cs1 (by show 0 ≤ (0 : Int) + ((-1) * (c) + (1 * (y) + ((-256) * (z) + 0))); omega) (zx_cs1 (by show 0 ≤ (0 : Int) + (1 * (c) + ((-1) * (y) + (256 * (z) + 0))); omega) (zx_cs1 (by show 0 ≤ (0 : Int) + ((-1) * (c) + (255 * (b) + 0)); omega) (zx_cs1 (by show 0 ≤ (0 : Int) + (1 * (c) + ((-1) * (b) + 0)); omega) (zx_cs1 (by show 0 ≤ (255 : Int) + ((-1) * (c) + ((-129) * (v) + 0)); omega) zx_cs0))))))), (zx_eF1 (by show 0 ≤ (0 : Int) + (1 * a1 + 0); omega) (by show zk_xe w 2000010 ((0 : Int) + (1 * a1 + 0)) = (0 : Int) + (1 * (c) + 0); rw [show (0 : Int) + (1 * a1 + 0) = a1 by omega]; rw [f0]; omega) (zx_eF1 (by show 0 ≤ (0 : Int) + (1 * a1 + 0); omega) (by show zk_xe w 2000011 ((0 : Int) + (1 * a1 + 0)) = (0 : Int) + (1 * (b) + 0); rw [show (0 : Int) + (1 * a1 + 0) = a1 by omega]; rw [f1]; omega) (zx_eF1 (by show 0 ≤ (0 : Int) + (1 * a1 + 0); omega) (by show zk_xe w 2000012 ((0 : Int) + (1 * a1 + 0)) = (0 : Int) + (1 * (v) + 0); rw [show (0 : Int) + (1 * a1 + 0) = a1 by omega]; rw [f2]; omega) (zx_eF1 (by show 0 ≤ (0 : Int) + (1 * a1 + 0); omega) (by show zk_xe w 2000013 ((0 : Int) + (1 * a1 + 0)) = (0 : Int) + (1 * (y) + 0); rw [show (0 : Int) + (1 * a1 + 0) = a1 by omega]; rw [f3]; omega) (zx_eF1 (by show 0 ≤ (0 : Int) + (1 * a1 + 0); omega) (by show zk_xe w 2000014 ((0 : Int) + (1 * a1 + 0)) = (0 : Int) + (1 * (z) + 0); rw [show (0 : Int) + (1 * a1 + 0) = a1 by omega]; rw [f4]; omega) zx_eF0))))), zx_k0⟩
def zx_D173 : zx_L := zx_Lc [] 2 [] [] [((0, 15032385536), [(0, 0, 1), (1, 1, 0)])] [((2147483648, 0), [(0, 1, 0)]), ((2147483647, 0), [(0, 0, 1)])] [([(0, 255), (0, 1), (0, 1), ((-2147483648), 2147483647), ((-2147483648), 2147483647)], [((0, 0), [(0, 1, 0), (5, 0, 16777216)]), ((16777215, 0), [(0, 0, 1), (5, 16777216, 0)]), ((0, 0), [(2, 0, 1), (5, 1, 0), (6, 0, 256)]), ((0, 0), [(2, 1, 0), (5, 0, 1), (6, 256, 0)]), ((0, 0), [(2, 0, 1), (3, 255, 0)]), ((0, 0), [(2, 1, 0), (3, 0, 1)]), ((255, 0), [(2, 0, 1), (4, 0, 129)])], [(2000010, ((0, 0), [(1, 1, 0)]), ((0, 0), [(2, 1, 0)])), (2000011, ((0, 0), [(1, 1, 0)]), ((0, 0), [(3, 1, 0)])), (2000012, ((0, 0), [(1, 1, 0)]), ((0, 0), [(4, 1, 0)])), (2000013, ((0, 0), [(1, 1, 0)]), ((0, 0), [(5, 1, 0)])), (2000014, ((0, 0), [(1, 1, 0)]), ((0, 0), [(6, 1, 0)]))], [])]
theorem zx_D173_ok {PT : Nat → zz_W → Prop} : zx_Lok 64 zHT PT zx_D173 := by
  refine zx_Lc_ok (fun w hI hK ins hl hr he hg => ?_)
  obtain ⟨a0, a1, rfl⟩ := zx_i2 hl
  have e0 : ((-15032385536) : Int) + ((-1) * a0 + (1 * a1 + 0)) = 0 := he _ List.mem_cons_self
  have g0 : 0 ≤ (2147483648 : Int) + (1 * a0 + 0) := hg _ List.mem_cons_self
  have g1 : 0 ≤ (2147483647 : Int) + ((-1) * a0 + 0) := hg _ (List.mem_cons_of_mem _ List.mem_cons_self)
  have p : a1 = a0 + 2147483648 + 4294967296 * 3 := by omega
  have x1 : 0 ≤ a0 + 2147483648 := by omega
  have x2 : a0 + 2147483648 < 4294967296 := by omega
  obtain ⟨f0, f1, f2, f3, f4⟩ := zh_by (w := w) (k := 3) p x1 x2 (by omega)
  rw [show (2 : Int) ^ (8 * (3 : Int).toNat) = 16777216 from rfl] at f0 f1 f2 f3 f4
  have y1 := Int.mul_ediv_add_emod a0 16777216
  have y2 := Int.emod_nonneg a0 (show (16777216 : Int) ≠ 0 by decide)
  have y3 := Int.emod_lt_of_pos a0 (show (0 : Int) < 16777216 by decide)
  generalize hy : a0 / 16777216 = y at f0 f1 f2 f3 f4 y1
  have z1 := Int.mul_ediv_add_emod y 256
  have z2 := Int.emod_nonneg y (show (256 : Int) ≠ 0 by decide)
  have z3 := Int.emod_lt_of_pos y (show (0 : Int) < 256 by decide)
  generalize hz : y / 256 = z at f4 z1
  generalize hc : y % 256 = c at f0 f1 f2 z1 z2 z3
  have b1 := zh_nzi c
  generalize hb : zh_b (c ≠ 0) = b at f1 b1
  have v1 := zh_sgi c
  generalize hv : zh_b (zh_sg c) = v at f2 v1
  exact ⟨_, List.mem_cons_self, [c, b, v, y, z], rfl, (zx_bcons (by show (0 : Int) ≤ c ∧ c ≤ (255 : Int); omega) (zx_bcons (by show (0 : Int) ≤ b ∧ b ≤ (1 : Int); omega) (zx_bcons (by show (0 : Int) ≤ v ∧ v ≤ (1 : Int); omega) (zx_bcons (by show ((-2147483648) : Int) ≤ y ∧ y ≤ (2147483647 : Int); omega) (zx_bcons (by show ((-2147483648) : Int) ≤ z ∧ z ≤ (2147483647 : Int); omega) zx_bnil))))), (zx_cs1 (by show 0 ≤ (0 : Int) + (1 * a0 + ((-16777216) * (y) + 0)); omega) (zx_cs1 (by show 0 ≤ (16777215 : Int) + ((-1) * a0 + (16777216 * (y) + 0)); omega) (zx_cs1 (by show 0 ≤ (0 : Int) + ((-1) * (c) + (1 * (y) + ((-256) * (z) + 0))); omega) (zx_cs1 (by show 0 ≤ (0 : Int) + (1 * (c) + ((-1) * (y) + (256 * (z) + 0))); omega) (zx_cs1 (by show 0 ≤ (0 : Int) + ((-1) * (c) + (255 * (b) + 0)); omega) (zx_cs1 (by show 0 ≤ (0 : Int) + (1 * (c) + ((-1) * (b) + 0)); omega) (zx_cs1 (by show 0 ≤ (255 : Int) + ((-1) * (c) + ((-129) * (v) + 0)); omega) zx_cs0))))))), (zx_eF1 (by show 0 ≤ (0 : Int) + (1 * a1 + 0); omega) (by show zk_xe w 2000010 ((0 : Int) + (1 * a1 + 0)) = (0 : Int) + (1 * (c) + 0); rw [show (0 : Int) + (1 * a1 + 0) = a1 by omega]; rw [f0]; omega) (zx_eF1 (by show 0 ≤ (0 : Int) + (1 * a1 + 0); omega) (by show zk_xe w 2000011 ((0 : Int) + (1 * a1 + 0)) = (0 : Int) + (1 * (b) + 0); rw [show (0 : Int) + (1 * a1 + 0) = a1 by omega]; rw [f1]; omega) (zx_eF1 (by show 0 ≤ (0 : Int) + (1 * a1 + 0); omega) (by show zk_xe w 2000012 ((0 : Int) + (1 * a1 + 0)) = (0 : Int) + (1 * (v) + 0); rw [show (0 : Int) + (1 * a1 + 0) = a1 by omega]; rw [f2]; omega) (zx_eF1 (by show 0 ≤ (0 : Int) + (1 * a1 + 0); omega) (by show zk_xe w 2000013 ((0 : Int) + (1 * a1 + 0)) = (0 : Int) + (1 * (y) + 0); rw [show (0 : Int) + (1 * a1 + 0) = a1 by omega]; rw [f3]; omega) (zx_eF1 (by show 0 ≤ (0 : Int) + (1 * a1 + 0); omega) (by show zk_xe w 2000014 ((0 : Int) + (1 * a1 + 0)) = (0 : Int) + (1 * (z) + 0); rw [show (0 : Int) + (1 * a1 + 0) = a1 by omega]; rw [f4]; omega) zx_eF0))))), zx_k0⟩
def zx_D174 : zx_L := zx_Lc [] 1 [(2000010, 0), (2000011, 0), (2000012, 0)] [] [] [] [([], [((0, 0), [(1, 1, 0)]), ((0, 0), [(1, 0, 1)]), ((0, 0), [(2, 1, 0)]), ((0, 0), [(2, 0, 1)]), ((0, 1), [(3, 1, 0)]), ((1, 0), [(3, 0, 1)])], [], []), ([], [((0, 10), [(1, 1, 0)]), ((10, 0), [(1, 0, 1)]), ((0, 1), [(2, 1, 0)]), ((1, 0), [(2, 0, 1)]), ((0, 1), [(3, 1, 0)]), ((1, 0), [(3, 0, 1)])], [], []), ([], [((0, 32), [(1, 1, 0)]), ((126, 0), [(1, 0, 1)]), ((0, 1), [(2, 1, 0)]), ((1, 0), [(2, 0, 1)]), ((0, 1), [(3, 1, 0)]), ((1, 0), [(3, 0, 1)])], [], []), ([], [((0, 1), [(1, 1, 0)]), ((9, 0), [(1, 0, 1)]), ((0, 1), [(2, 1, 0)]), ((1, 0), [(2, 0, 1)]), ((0, 0), [(3, 1, 0)]), ((0, 0), [(3, 0, 1)])], [], []), ([], [((0, 11), [(1, 1, 0)]), ((31, 0), [(1, 0, 1)]), ((0, 1), [(2, 1, 0)]), ((1, 0), [(2, 0, 1)]), ((0, 0), [(3, 1, 0)]), ((0, 0), [(3, 0, 1)])], [], []), ([], [((0, 127), [(1, 1, 0)]), ((255, 0), [(1, 0, 1)]), ((0, 1), [(2, 1, 0)]), ((1, 0), [(2, 0, 1)]), ((0, 0), [(3, 1, 0)]), ((0, 0), [(3, 0, 1)])], [], [])]
theorem zx_D174_ok {PT : Nat → zz_W → Prop} : zx_Lok 64 zHT PT zx_D174 := by
  refine zx_Lc_ok (fun w hI hK ins hl hr he hg => ?_)
  obtain ⟨a0, rfl⟩ := zx_i1 hl
  have r0 : 0 ≤ a0 := hr _ List.mem_cons_self
  have r1 : 0 ≤ a0 := hr _ (List.mem_cons_of_mem _ List.mem_cons_self)
  have r2 : 0 ≤ a0 := hr _ (List.mem_cons_of_mem _ (List.mem_cons_of_mem _ List.mem_cons_self))
  obtain ⟨f0, f1, f2⟩ := zh_by3 w a0
  have c2 : 0 ≤ zk_xe w 2000010 a0 := by rw [f0]; exact Int.emod_nonneg _ (by decide)
  have c3 : zk_xe w 2000010 a0 < 256 := by rw [f0]; exact Int.emod_lt_of_pos _ (by decide)
  rw [← f0] at f1 f2
  by_cases h0 : zk_xe w 2000010 a0 = 0
  · have fb : zk_xe w 2000011 a0 = 0 := by rw [f1]; exact zh_b0 (by omega)
    have fv : zk_xe w 2000012 a0 = 1 := by rw [f2]; exact zh_b1 (by unfold zh_sg; omega)
    exact ⟨_, List.mem_cons_self, [], rfl, zx_bnil, (zx_cs1 (by show 0 ≤ (0 : Int) + (1 * (zk_xe w 2000010 a0) + 0); omega) (zx_cs1 (by show 0 ≤ (0 : Int) + ((-1) * (zk_xe w 2000010 a0) + 0); omega) (zx_cs1 (by show 0 ≤ (0 : Int) + (1 * (zk_xe w 2000011 a0) + 0); omega) (zx_cs1 (by show 0 ≤ (0 : Int) + ((-1) * (zk_xe w 2000011 a0) + 0); omega) (zx_cs1 (by show 0 ≤ ((-1) : Int) + (1 * (zk_xe w 2000012 a0) + 0); omega) (zx_cs1 (by show 0 ≤ (1 : Int) + ((-1) * (zk_xe w 2000012 a0) + 0); omega) zx_cs0)))))), zx_eF0, zx_k0⟩
  · skip
    by_cases h1 : zk_xe w 2000010 a0 = 10
    · have fb : zk_xe w 2000011 a0 = 1 := by rw [f1]; exact zh_b1 (by omega)
      have fv : zk_xe w 2000012 a0 = 1 := by rw [f2]; exact zh_b1 (by unfold zh_sg; omega)
      exact ⟨_, (List.mem_cons_of_mem _ List.mem_cons_self), [], rfl, zx_bnil, (zx_cs1 (by show 0 ≤ ((-10) : Int) + (1 * (zk_xe w 2000010 a0) + 0); omega) (zx_cs1 (by show 0 ≤ (10 : Int) + ((-1) * (zk_xe w 2000010 a0) + 0); omega) (zx_cs1 (by show 0 ≤ ((-1) : Int) + (1 * (zk_xe w 2000011 a0) + 0); omega) (zx_cs1 (by show 0 ≤ (1 : Int) + ((-1) * (zk_xe w 2000011 a0) + 0); omega) (zx_cs1 (by show 0 ≤ ((-1) : Int) + (1 * (zk_xe w 2000012 a0) + 0); omega) (zx_cs1 (by show 0 ≤ (1 : Int) + ((-1) * (zk_xe w 2000012 a0) + 0); omega) zx_cs0)))))), zx_eF0, zx_k0⟩
    · skip
      by_cases h2 : 32 ≤ zk_xe w 2000010 a0 ∧ zk_xe w 2000010 a0 ≤ 126
      · have fb : zk_xe w 2000011 a0 = 1 := by rw [f1]; exact zh_b1 (by omega)
        have fv : zk_xe w 2000012 a0 = 1 := by rw [f2]; exact zh_b1 (by unfold zh_sg; omega)
        exact ⟨_, (List.mem_cons_of_mem _ (List.mem_cons_of_mem _ List.mem_cons_self)), [], rfl, zx_bnil, (zx_cs1 (by show 0 ≤ ((-32) : Int) + (1 * (zk_xe w 2000010 a0) + 0); omega) (zx_cs1 (by show 0 ≤ (126 : Int) + ((-1) * (zk_xe w 2000010 a0) + 0); omega) (zx_cs1 (by show 0 ≤ ((-1) : Int) + (1 * (zk_xe w 2000011 a0) + 0); omega) (zx_cs1 (by show 0 ≤ (1 : Int) + ((-1) * (zk_xe w 2000011 a0) + 0); omega) (zx_cs1 (by show 0 ≤ ((-1) : Int) + (1 * (zk_xe w 2000012 a0) + 0); omega) (zx_cs1 (by show 0 ≤ (1 : Int) + ((-1) * (zk_xe w 2000012 a0) + 0); omega) zx_cs0)))))), zx_eF0, zx_k0⟩
      · skip
        by_cases h3 : zk_xe w 2000010 a0 < 10
        · have fb : zk_xe w 2000011 a0 = 1 := by rw [f1]; exact zh_b1 (by omega)
          have fv : zk_xe w 2000012 a0 = 0 := by rw [f2]; exact zh_b0 (by unfold zh_sg; omega)
          exact ⟨_, (List.mem_cons_of_mem _ (List.mem_cons_of_mem _ (List.mem_cons_of_mem _ List.mem_cons_self))), [], rfl, zx_bnil, (zx_cs1 (by show 0 ≤ ((-1) : Int) + (1 * (zk_xe w 2000010 a0) + 0); omega) (zx_cs1 (by show 0 ≤ (9 : Int) + ((-1) * (zk_xe w 2000010 a0) + 0); omega) (zx_cs1 (by show 0 ≤ ((-1) : Int) + (1 * (zk_xe w 2000011 a0) + 0); omega) (zx_cs1 (by show 0 ≤ (1 : Int) + ((-1) * (zk_xe w 2000011 a0) + 0); omega) (zx_cs1 (by show 0 ≤ (0 : Int) + (1 * (zk_xe w 2000012 a0) + 0); omega) (zx_cs1 (by show 0 ≤ (0 : Int) + ((-1) * (zk_xe w 2000012 a0) + 0); omega) zx_cs0)))))), zx_eF0, zx_k0⟩
        · skip
          by_cases h4 : zk_xe w 2000010 a0 < 32
          · have fb : zk_xe w 2000011 a0 = 1 := by rw [f1]; exact zh_b1 (by omega)
            have fv : zk_xe w 2000012 a0 = 0 := by rw [f2]; exact zh_b0 (by unfold zh_sg; omega)
            exact ⟨_, (List.mem_cons_of_mem _ (List.mem_cons_of_mem _ (List.mem_cons_of_mem _ (List.mem_cons_of_mem _ List.mem_cons_self)))), [], rfl, zx_bnil, (zx_cs1 (by show 0 ≤ ((-11) : Int) + (1 * (zk_xe w 2000010 a0) + 0); omega) (zx_cs1 (by show 0 ≤ (31 : Int) + ((-1) * (zk_xe w 2000010 a0) + 0); omega) (zx_cs1 (by show 0 ≤ ((-1) : Int) + (1 * (zk_xe w 2000011 a0) + 0); omega) (zx_cs1 (by show 0 ≤ (1 : Int) + ((-1) * (zk_xe w 2000011 a0) + 0); omega) (zx_cs1 (by show 0 ≤ (0 : Int) + (1 * (zk_xe w 2000012 a0) + 0); omega) (zx_cs1 (by show 0 ≤ (0 : Int) + ((-1) * (zk_xe w 2000012 a0) + 0); omega) zx_cs0)))))), zx_eF0, zx_k0⟩
          · skip
            have fb : zk_xe w 2000011 a0 = 1 := by rw [f1]; exact zh_b1 (by omega)
            have fv : zk_xe w 2000012 a0 = 0 := by rw [f2]; exact zh_b0 (by unfold zh_sg; omega)
            exact ⟨_, (List.mem_cons_of_mem _ (List.mem_cons_of_mem _ (List.mem_cons_of_mem _ (List.mem_cons_of_mem _ (List.mem_cons_of_mem _ List.mem_cons_self))))), [], rfl, zx_bnil, (zx_cs1 (by show 0 ≤ ((-127) : Int) + (1 * (zk_xe w 2000010 a0) + 0); omega) (zx_cs1 (by show 0 ≤ (255 : Int) + ((-1) * (zk_xe w 2000010 a0) + 0); omega) (zx_cs1 (by show 0 ≤ ((-1) : Int) + (1 * (zk_xe w 2000011 a0) + 0); omega) (zx_cs1 (by show 0 ≤ (1 : Int) + ((-1) * (zk_xe w 2000011 a0) + 0); omega) (zx_cs1 (by show 0 ≤ (0 : Int) + (1 * (zk_xe w 2000012 a0) + 0); omega) (zx_cs1 (by show 0 ≤ (0 : Int) + ((-1) * (zk_xe w 2000012 a0) + 0); omega) zx_cs0)))))), zx_eF0, zx_k0⟩
def zx_D270 : zx_L := zx_Lc [] 1 [] [] [] [((0, 0), [(0, 1, 0)]), ((447, 0), [(0, 0, 1)])] [([(0, 6), (0, 63)], [((0, 0), [(0, 1, 0), (1, 0, 64), (2, 0, 1)]), ((0, 0), [(0, 0, 1), (1, 64, 0), (2, 1, 0)])], [], [])]
theorem zx_D270_ok {PT : Nat → zz_W → Prop} : zx_Lok 64 zHT PT zx_D270 := by
  refine zx_Lc_ok (fun w hI hK ins hl hr he hg => ?_)
  obtain ⟨a0, rfl⟩ := zx_i1 hl
  have g0 : 0 ≤ (0 : Int) + (1 * a0 + 0) := hg _ List.mem_cons_self
  have g1 : 0 ≤ (447 : Int) + ((-1) * a0 + 0) := hg _ (List.mem_cons_of_mem _ List.mem_cons_self)
  have h1 := Int.mul_ediv_add_emod a0 64
  exact ⟨_, List.mem_cons_self, [a0 / 64, a0 % 64], rfl, (zx_bcons (by show (0 : Int) ≤ a0 / 64 ∧ a0 / 64 ≤ (6 : Int); omega) (zx_bcons (by show (0 : Int) ≤ a0 % 64 ∧ a0 % 64 ≤ (63 : Int); omega) zx_bnil)), (zx_cs1 (by show 0 ≤ (0 : Int) + (1 * a0 + ((-64) * (a0 / 64) + ((-1) * (a0 % 64) + 0))); omega) (zx_cs1 (by show 0 ≤ (0 : Int) + ((-1) * a0 + (64 * (a0 / 64) + (1 * (a0 % 64) + 0))); omega) zx_cs0)), zx_eF0, zx_k0⟩
def zx_D330 : zx_L := zx_Lc [] 1 [] [] [] [((0, 0), [(0, 1, 0)]), ((7167, 0), [(0, 0, 1)])] [([(0, 6)], [((0, 0), [(0, 1, 0), (1, 0, 1024)]), ((1023, 0), [(0, 0, 1), (1, 1024, 0)])], [], [])]
theorem zx_D330_ok {PT : Nat → zz_W → Prop} : zx_Lok 64 zHT PT zx_D330 := by
  refine zx_Lc_ok (fun w hI hK ins hl hr he hg => ?_)
  obtain ⟨a0, rfl⟩ := zx_i1 hl
  have g0 : 0 ≤ (0 : Int) + (1 * a0 + 0) := hg _ List.mem_cons_self
  have g1 : 0 ≤ (7167 : Int) + ((-1) * a0 + 0) := hg _ (List.mem_cons_of_mem _ List.mem_cons_self)
  exact ⟨_, List.mem_cons_self, [(a0 / 1024)], rfl, (zx_bcons (by show (0 : Int) ≤ (a0 / 1024) ∧ (a0 / 1024) ≤ (6 : Int); omega) zx_bnil), (zx_cs1 (by show 0 ≤ (0 : Int) + (1 * a0 + ((-1024) * ((a0 / 1024)) + 0)); omega) (zx_cs1 (by show 0 ≤ (1023 : Int) + ((-1) * a0 + (1024 * ((a0 / 1024)) + 0)); omega) zx_cs0)), zx_eF0, zx_k0⟩
def zx_D395 : zx_L := zx_Lc [] 2 [(2000016, 0), (54, 1)] [] [((0, 1), [(2, 1, 0)])] [((0, 0), [(1, 1, 0)]), ((719, 0), [(1, 0, 1)])] [([(0, 5), (0, 59)], [((0, 0), [(3, 1, 0), (4, 0, 512), (5, 0, 1)]), ((0, 0), [(3, 0, 1), (4, 512, 0), (5, 1, 0)])], [], [])]
theorem zx_D395_ok {PT : Nat → zz_W → Prop} : zx_Lok 64 zHT PT zx_D395 := by
  refine zx_Lc_ok (fun w hI hK ins hl hr he hg => ?_)
  obtain ⟨a0, a1, rfl⟩ := zx_i2 hl
  have e0 : ((-1) : Int) + (1 * (zk_xe w 2000016 a0) + 0) = 0 := he _ List.mem_cons_self
  have g0 : 0 ≤ (0 : Int) + (1 * a1 + 0) := hg _ List.mem_cons_self
  have g1 : 0 ≤ (719 : Int) + ((-1) * a1 + 0) := hg _ (List.mem_cons_of_mem _ List.mem_cons_self)
  have r0 : 0 ≤ a0 := hr _ List.mem_cons_self
  have r1 : 0 ≤ a1 := hr _ (List.mem_cons_of_mem _ List.mem_cons_self)
  have k := zh_mn_at (w := w) (a := a0) (i := a1) (by omega) (by omega) (by omega)
  exact ⟨_, List.mem_cons_self, [(zk_xe w 54 a1 / 512), (zk_xe w 54 a1 % 512)], rfl, (zx_bcons (by show (0 : Int) ≤ (zk_xe w 54 a1 / 512) ∧ (zk_xe w 54 a1 / 512) ≤ (5 : Int); omega) (zx_bcons (by show (0 : Int) ≤ (zk_xe w 54 a1 % 512) ∧ (zk_xe w 54 a1 % 512) ≤ (59 : Int); omega) zx_bnil)), (zx_cs1 (by show 0 ≤ (0 : Int) + (1 * (zk_xe w 54 a1) + ((-512) * ((zk_xe w 54 a1 / 512)) + ((-1) * ((zk_xe w 54 a1 % 512)) + 0))); omega) (zx_cs1 (by show 0 ≤ (0 : Int) + ((-1) * (zk_xe w 54 a1) + (512 * ((zk_xe w 54 a1 / 512)) + (1 * ((zk_xe w 54 a1 % 512)) + 0))); omega) zx_cs0)), zx_eF0, zx_k0⟩
def zx_E370 : zx_V := zx_Vc 54 [] 2 [(2000016, 0)] [((0, 1), [(4, 1, 0)])] [((0, 0), [(2, 1, 0)]), ((0, 0), [(1, 1, 0), (3, 0, 512)]), ((59, 0), [(1, 0, 1), (3, 512, 0)]), ((0, 0), [(3, 1, 0)]), ((5, 0), [(3, 0, 1)])] [(2000016, ((0, 0), [(2, 1, 0)]), ((1, 0), []))]
theorem zx_E370_ok {PT : Nat → zz_W → Prop} : zx_Vok 64 zHT PT zx_E370 := by
  refine zx_Vc_ok (fun w w' j ins hI hI' h0 hw hK hl he hg => ?_)
  obtain ⟨a0, a1, rfl⟩ := zx_i2 hl
  have e0 : ((-1) : Int) + (1 * (zk_xe w 2000016 a0) + 0) = 0 := he _ List.mem_cons_self
  have g0 : 0 ≤ (0 : Int) + (1 * a0 + 0) := hg _ List.mem_cons_self
  have g1 : 0 ≤ (0 : Int) + (1 * (zk_el w' 54 j) + ((-512) * a1 + 0)) := hg _ (List.mem_cons_of_mem _ List.mem_cons_self)
  have g2 : 0 ≤ (59 : Int) + ((-1) * (zk_el w' 54 j) + (512 * a1 + 0)) := hg _ (List.mem_cons_of_mem _ (List.mem_cons_of_mem _ List.mem_cons_self))
  have g3 : 0 ≤ (0 : Int) + (1 * a1 + 0) := hg _ (List.mem_cons_of_mem _ (List.mem_cons_of_mem _ (List.mem_cons_of_mem _ List.mem_cons_self)))
  have g4 : 0 ≤ (5 : Int) + ((-1) * a1 + 0) := hg _ (List.mem_cons_of_mem _ (List.mem_cons_of_mem _ (List.mem_cons_of_mem _ (List.mem_cons_of_mem _ List.mem_cons_self))))
  have r : zk_xe w' 2000016 a0 = 1 := zh_mn_w (u := a1) hw (by omega) (by omega) (by omega) (by omega) (by omega)
  exact (zx_eF1 (by show 0 ≤ (0 : Int) + (1 * a0 + 0); omega) (by show zk_xe w' 2000016 ((0 : Int) + (1 * a0 + 0)) = (1 : Int) + (0); rw [show (0 : Int) + (1 * a0 + 0) = a0 by omega]; exact r.trans (by omega)) zx_eF0)
def zx_D400 : zx_L := zx_Lc [] 1 [] [] [((0, 0), [(0, 1, 0)])] [] [([], [], [(2000017, ((0, 0), [(0, 1, 0)]), ((1, 0), []))], [])]
theorem zx_D400_ok {PT : Nat → zz_W → Prop} : zx_Lok 64 zHT PT zx_D400 := by
  refine zx_Lc_ok (fun w hI hK ins hl hr he hg => ?_)
  obtain ⟨a0, rfl⟩ := zx_i1 hl
  have e0 : (0 : Int) + (1 * a0 + 0) = 0 := he _ List.mem_cons_self
  exact ⟨_, List.mem_cons_self, [], rfl, zx_bnil, zx_cs0, (zx_eF1 (by show 0 ≤ (0 : Int) + (1 * a0 + 0); omega) (by show zk_xe w 2000017 ((0 : Int) + (1 * a0 + 0)) = (1 : Int) + (0); rw [show (0 : Int) + (1 * a0 + 0) = 0 by omega]; exact zh_od_0.trans (by omega)) zx_eF0), zx_k0⟩
def zx_D401 : zx_L := zx_Lc [] 3 [(2000017, 0), (41, 1)] [] [((0, 0), [(0, 0, 1), (1, 1, 0)]), ((0, 1), [(0, 0, 1), (2, 1, 0)]), ((0, 1), [(3, 1, 0)])] [((0, 0), [(0, 1, 0)]), ((2, 0), [(4, 0, 1)])] [([], [], [(2000017, ((0, 0), [(2, 1, 0)]), ((1, 0), []))], [])]
theorem zx_D401_ok {PT : Nat → zz_W → Prop} : zx_Lok 64 zHT PT zx_D401 := by
  refine zx_Lc_ok (fun w hI hK ins hl hr he hg => ?_)
  obtain ⟨a0, a1, a2, rfl⟩ := zx_i3 hl
  have e0 : (0 : Int) + ((-1) * a0 + (1 * a1 + 0)) = 0 := he _ List.mem_cons_self
  have e1 : ((-1) : Int) + ((-1) * a0 + (1 * a2 + 0)) = 0 := he _ (List.mem_cons_of_mem _ List.mem_cons_self)
  have e2 : ((-1) : Int) + (1 * (zk_xe w 2000017 a0) + 0) = 0 := he _ (List.mem_cons_of_mem _ (List.mem_cons_of_mem _ List.mem_cons_self))
  have g0 : 0 ≤ (0 : Int) + (1 * a0 + 0) := hg _ List.mem_cons_self
  have g1 : 0 ≤ (2 : Int) + ((-1) * (zk_xe w 41 a1) + 0) := hg _ (List.mem_cons_of_mem _ List.mem_cons_self)
  have r0 : 0 ≤ a0 := hr _ List.mem_cons_self
  have r1 : 0 ≤ a1 := hr _ (List.mem_cons_of_mem _ List.mem_cons_self)
  have k : zh_od (zk_xe w 41 a1) (zk_xe w 42 a1) (zk_xe w 2000018 a1) := by
    unfold zh_od
    omega
  have r := zh_od_st (w := w) (n := a0) (i := a1) (by omega) (by omega) (by omega) k
  exact ⟨_, List.mem_cons_self, [], rfl, zx_bnil, zx_cs0, (zx_eF1 (by show 0 ≤ (0 : Int) + (1 * a2 + 0); omega) (by show zk_xe w 2000017 ((0 : Int) + (1 * a2 + 0)) = (1 : Int) + (0); rw [show (0 : Int) + (1 * a2 + 0) = (a0 + 1) by omega]; exact r.trans (by omega)) zx_eF0), zx_k0⟩
def zx_D402 : zx_L := zx_Lc [] 3 [(2000017, 0), (41, 1)] [] [((0, 0), [(0, 0, 1), (1, 1, 0)]), ((0, 1), [(0, 0, 1), (2, 1, 0)]), ((0, 1), [(3, 1, 0)])] [((0, 0), [(0, 1, 0)]), ((0, 4), [(4, 1, 0)])] [([], [], [(2000017, ((0, 0), [(2, 1, 0)]), ((1, 0), []))], [])]
theorem zx_D402_ok {PT : Nat → zz_W → Prop} : zx_Lok 64 zHT PT zx_D402 := by
  refine zx_Lc_ok (fun w hI hK ins hl hr he hg => ?_)
  obtain ⟨a0, a1, a2, rfl⟩ := zx_i3 hl
  have e0 : (0 : Int) + ((-1) * a0 + (1 * a1 + 0)) = 0 := he _ List.mem_cons_self
  have e1 : ((-1) : Int) + ((-1) * a0 + (1 * a2 + 0)) = 0 := he _ (List.mem_cons_of_mem _ List.mem_cons_self)
  have e2 : ((-1) : Int) + (1 * (zk_xe w 2000017 a0) + 0) = 0 := he _ (List.mem_cons_of_mem _ (List.mem_cons_of_mem _ List.mem_cons_self))
  have g0 : 0 ≤ (0 : Int) + (1 * a0 + 0) := hg _ List.mem_cons_self
  have g1 : 0 ≤ ((-4) : Int) + (1 * (zk_xe w 41 a1) + 0) := hg _ (List.mem_cons_of_mem _ List.mem_cons_self)
  have r0 : 0 ≤ a0 := hr _ List.mem_cons_self
  have r1 : 0 ≤ a1 := hr _ (List.mem_cons_of_mem _ List.mem_cons_self)
  have k : zh_od (zk_xe w 41 a1) (zk_xe w 42 a1) (zk_xe w 2000018 a1) := by
    unfold zh_od
    omega
  have r := zh_od_st (w := w) (n := a0) (i := a1) (by omega) (by omega) (by omega) k
  exact ⟨_, List.mem_cons_self, [], rfl, zx_bnil, zx_cs0, (zx_eF1 (by show 0 ≤ (0 : Int) + (1 * a2 + 0); omega) (by show zk_xe w 2000017 ((0 : Int) + (1 * a2 + 0)) = (1 : Int) + (0); rw [show (0 : Int) + (1 * a2 + 0) = (a0 + 1) by omega]; exact r.trans (by omega)) zx_eF0), zx_k0⟩
def zx_D403 : zx_L := zx_Lc [] 3 [(2000017, 0), (2000018, 1)] [] [((0, 0), [(0, 0, 1), (1, 1, 0)]), ((0, 1), [(0, 0, 1), (2, 1, 0)]), ((0, 1), [(3, 1, 0)])] [((0, 0), [(0, 1, 0)]), ((0, 2), [(4, 1, 0)])] [([], [], [(2000017, ((0, 0), [(2, 1, 0)]), ((1, 0), []))], [])]
theorem zx_D403_ok {PT : Nat → zz_W → Prop} : zx_Lok 64 zHT PT zx_D403 := by
  refine zx_Lc_ok (fun w hI hK ins hl hr he hg => ?_)
  obtain ⟨a0, a1, a2, rfl⟩ := zx_i3 hl
  have e0 : (0 : Int) + ((-1) * a0 + (1 * a1 + 0)) = 0 := he _ List.mem_cons_self
  have e1 : ((-1) : Int) + ((-1) * a0 + (1 * a2 + 0)) = 0 := he _ (List.mem_cons_of_mem _ List.mem_cons_self)
  have e2 : ((-1) : Int) + (1 * (zk_xe w 2000017 a0) + 0) = 0 := he _ (List.mem_cons_of_mem _ (List.mem_cons_of_mem _ List.mem_cons_self))
  have g0 : 0 ≤ (0 : Int) + (1 * a0 + 0) := hg _ List.mem_cons_self
  have g1 : 0 ≤ ((-2) : Int) + (1 * (zk_xe w 2000018 a1) + 0) := hg _ (List.mem_cons_of_mem _ List.mem_cons_self)
  have r0 : 0 ≤ a0 := hr _ List.mem_cons_self
  have r1 : 0 ≤ a1 := hr _ (List.mem_cons_of_mem _ List.mem_cons_self)
  have k : zh_od (zk_xe w 41 a1) (zk_xe w 42 a1) (zk_xe w 2000018 a1) := by
    unfold zh_od
    omega
  have r := zh_od_st (w := w) (n := a0) (i := a1) (by omega) (by omega) (by omega) k
  exact ⟨_, List.mem_cons_self, [], rfl, zx_bnil, zx_cs0, (zx_eF1 (by show 0 ≤ (0 : Int) + (1 * a2 + 0); omega) (by show zk_xe w 2000017 ((0 : Int) + (1 * a2 + 0)) = (1 : Int) + (0); rw [show (0 : Int) + (1 * a2 + 0) = (a0 + 1) by omega]; exact r.trans (by omega)) zx_eF0), zx_k0⟩
def zx_D404 : zx_L := zx_Lc [] 3 [(2000017, 0), (42, 1)] [] [((0, 0), [(0, 0, 1), (1, 1, 0)]), ((0, 1), [(0, 0, 1), (2, 1, 0)]), ((0, 1), [(3, 1, 0)])] [((0, 0), [(0, 1, 0)]), ((0, 0), [(4, 1, 0)]), ((9, 0), [(4, 0, 1)])] [([], [], [(2000017, ((0, 0), [(2, 1, 0)]), ((1, 0), []))], [])]
theorem zx_D404_ok {PT : Nat → zz_W → Prop} : zx_Lok 64 zHT PT zx_D404 := by
  refine zx_Lc_ok (fun w hI hK ins hl hr he hg => ?_)
  obtain ⟨a0, a1, a2, rfl⟩ := zx_i3 hl
  have e0 : (0 : Int) + ((-1) * a0 + (1 * a1 + 0)) = 0 := he _ List.mem_cons_self
  have e1 : ((-1) : Int) + ((-1) * a0 + (1 * a2 + 0)) = 0 := he _ (List.mem_cons_of_mem _ List.mem_cons_self)
  have e2 : ((-1) : Int) + (1 * (zk_xe w 2000017 a0) + 0) = 0 := he _ (List.mem_cons_of_mem _ (List.mem_cons_of_mem _ List.mem_cons_self))
  have g0 : 0 ≤ (0 : Int) + (1 * a0 + 0) := hg _ List.mem_cons_self
  have g1 : 0 ≤ (0 : Int) + (1 * (zk_xe w 42 a1) + 0) := hg _ (List.mem_cons_of_mem _ List.mem_cons_self)
  have g2 : 0 ≤ (9 : Int) + ((-1) * (zk_xe w 42 a1) + 0) := hg _ (List.mem_cons_of_mem _ (List.mem_cons_of_mem _ List.mem_cons_self))
  have r0 : 0 ≤ a0 := hr _ List.mem_cons_self
  have r1 : 0 ≤ a1 := hr _ (List.mem_cons_of_mem _ List.mem_cons_self)
  have k : zh_od (zk_xe w 41 a1) (zk_xe w 42 a1) (zk_xe w 2000018 a1) := by
    unfold zh_od
    omega
  have r := zh_od_st (w := w) (n := a0) (i := a1) (by omega) (by omega) (by omega) k
  exact ⟨_, List.mem_cons_self, [], rfl, zx_bnil, zx_cs0, (zx_eF1 (by show 0 ≤ (0 : Int) + (1 * a2 + 0); omega) (by show zk_xe w 2000017 ((0 : Int) + (1 * a2 + 0)) = (1 : Int) + (0); rw [show (0 : Int) + (1 * a2 + 0) = (a0 + 1) by omega]; exact r.trans (by omega)) zx_eF0), zx_k0⟩
def zx_D405 : zx_L := zx_Lc [] 2 [(2000017, 0), (41, 1), (42, 1), (2000018, 1)] [] [((0, 1), [(2, 1, 0)])] [((0, 0), [(1, 1, 0)]), ((0, 1), [(0, 1, 0), (1, 0, 1)])] [([], [((2, 0), [(3, 0, 1)])], [], []), ([], [((0, 4), [(3, 1, 0)])], [], []), ([], [((0, 0), [(5, 0, 1)])], [], []), ([], [((0, 2), [(5, 1, 0)])], [], []), ([], [((0, 0), [(4, 1, 0)]), ((9, 0), [(4, 0, 1)])], [], [])]
theorem zx_D405_ok {PT : Nat → zz_W → Prop} : zx_Lok 64 zHT PT zx_D405 := by
  refine zx_Lc_ok (fun w hI hK ins hl hr he hg => ?_)
  obtain ⟨a0, a1, rfl⟩ := zx_i2 hl
  have e0 : ((-1) : Int) + (1 * (zk_xe w 2000017 a0) + 0) = 0 := he _ List.mem_cons_self
  have g0 : 0 ≤ (0 : Int) + (1 * a1 + 0) := hg _ List.mem_cons_self
  have g1 : 0 ≤ ((-1) : Int) + (1 * a0 + ((-1) * a1 + 0)) := hg _ (List.mem_cons_of_mem _ List.mem_cons_self)
  have r0 : 0 ≤ a0 := hr _ List.mem_cons_self
  have r1 : 0 ≤ a1 := hr _ (List.mem_cons_of_mem _ List.mem_cons_self)
  have r2 : 0 ≤ a1 := hr _ (List.mem_cons_of_mem _ (List.mem_cons_of_mem _ List.mem_cons_self))
  have r3 : 0 ≤ a1 := hr _ (List.mem_cons_of_mem _ (List.mem_cons_of_mem _ (List.mem_cons_of_mem _ List.mem_cons_self)))
  have k := zh_od_at (w := w) (n := a0) (i := a1) (by omega) (by omega) (by omega)
  unfold zh_od at k
  by_cases h0 : zk_xe w 41 a1 ≤ 2
  ·
    exact ⟨_, List.mem_cons_self, [], rfl, zx_bnil, (zx_cs1 (by show 0 ≤ (2 : Int) + ((-1) * (zk_xe w 41 a1) + 0); omega) zx_cs0), zx_eF0, zx_k0⟩
  ·
    by_cases h1 : 4 ≤ zk_xe w 41 a1
    ·
      exact ⟨_, (List.mem_cons_of_mem _ List.mem_cons_self), [], rfl, zx_bnil, (zx_cs1 (by show 0 ≤ ((-4) : Int) + (1 * (zk_xe w 41 a1) + 0); omega) zx_cs0), zx_eF0, zx_k0⟩
    ·
      by_cases h2 : zk_xe w 2000018 a1 ≤ 0
      ·
        exact ⟨_, (List.mem_cons_of_mem _ (List.mem_cons_of_mem _ List.mem_cons_self)), [], rfl, zx_bnil, (zx_cs1 (by show 0 ≤ (0 : Int) + ((-1) * (zk_xe w 2000018 a1) + 0); omega) zx_cs0), zx_eF0, zx_k0⟩
      ·
        by_cases h3 : 2 ≤ zk_xe w 2000018 a1
        ·
          exact ⟨_, (List.mem_cons_of_mem _ (List.mem_cons_of_mem _ (List.mem_cons_of_mem _ List.mem_cons_self))), [], rfl, zx_bnil, (zx_cs1 (by show 0 ≤ ((-2) : Int) + (1 * (zk_xe w 2000018 a1) + 0); omega) zx_cs0), zx_eF0, zx_k0⟩
        ·
          exact ⟨_, (List.mem_cons_of_mem _ (List.mem_cons_of_mem _ (List.mem_cons_of_mem _ (List.mem_cons_of_mem _ List.mem_cons_self)))), [], rfl, zx_bnil, (zx_cs1 (by show 0 ≤ (0 : Int) + (1 * (zk_xe w 42 a1) + 0); omega) (zx_cs1 (by show 0 ≤ (9 : Int) + ((-1) * (zk_xe w 42 a1) + 0); omega) zx_cs0)), zx_eF0, zx_k0⟩
def zx_E380 : zx_V := zx_Vc 41 [] 1 [(2000017, 0)] [((0, 1), [(3, 1, 0)])] [((0, 0), [(0, 1, 0), (2, 0, 1)]), ((0, 0), [(2, 1, 0)])] [(2000017, ((0, 0), [(2, 1, 0)]), ((1, 0), []))]
theorem zx_E380_ok {PT : Nat → zz_W → Prop} : zx_Vok 64 zHT PT zx_E380 := by
  refine zx_Vc_ok (fun w w' j ins hI hI' h0 hw hK hl he hg => ?_)
  obtain ⟨a0, rfl⟩ := zx_i1 hl
  have e0 : ((-1) : Int) + (1 * (zk_xe w 2000017 a0) + 0) = 0 := he _ List.mem_cons_self
  have g0 : 0 ≤ (0 : Int) + (1 * j + ((-1) * a0 + 0)) := hg _ List.mem_cons_self
  have g1 : 0 ≤ (0 : Int) + (1 * a0 + 0) := hg _ (List.mem_cons_of_mem _ List.mem_cons_self)
  have r : zk_xe w' 2000017 a0 = 1 := zh_od_w41 hw (by omega) (by omega)
  exact (zx_eF1 (by show 0 ≤ (0 : Int) + (1 * a0 + 0); omega) (by show zk_xe w' 2000017 ((0 : Int) + (1 * a0 + 0)) = (1 : Int) + (0); rw [show (0 : Int) + (1 * a0 + 0) = a0 by omega]; exact r.trans (by omega)) zx_eF0)
def zx_E381 : zx_V := zx_Vc 42 [] 1 [(2000017, 0)] [((0, 1), [(3, 1, 0)])] [((0, 0), [(0, 1, 0), (2, 0, 1)]), ((0, 0), [(2, 1, 0)])] [(2000017, ((0, 0), [(2, 1, 0)]), ((1, 0), []))]
theorem zx_E381_ok {PT : Nat → zz_W → Prop} : zx_Vok 64 zHT PT zx_E381 := by
  refine zx_Vc_ok (fun w w' j ins hI hI' h0 hw hK hl he hg => ?_)
  obtain ⟨a0, rfl⟩ := zx_i1 hl
  have e0 : ((-1) : Int) + (1 * (zk_xe w 2000017 a0) + 0) = 0 := he _ List.mem_cons_self
  have g0 : 0 ≤ (0 : Int) + (1 * j + ((-1) * a0 + 0)) := hg _ List.mem_cons_self
  have g1 : 0 ≤ (0 : Int) + (1 * a0 + 0) := hg _ (List.mem_cons_of_mem _ List.mem_cons_self)
  have r : zk_xe w' 2000017 a0 = 1 := zh_od_w42 hw (by omega) (by omega)
  exact (zx_eF1 (by show 0 ≤ (0 : Int) + (1 * a0 + 0); omega) (by show zk_xe w' 2000017 ((0 : Int) + (1 * a0 + 0)) = (1 : Int) + (0); rw [show (0 : Int) + (1 * a0 + 0) = a0 by omega]; exact r.trans (by omega)) zx_eF0)
def zx_D380 : zx_L := zx_Lc [] 4 [] [] [((0, 0), [(0, 1, 0), (1, 0, 4294967296), (2, 0, 18446744073709551616), (3, 0, 79228162514264337593543950336)])] [((0, 0), [(1, 1, 0)]), ((4294967295, 0), [(1, 0, 1)]), ((0, 0), [(2, 1, 0)]), ((4294967295, 0), [(2, 0, 1)]), ((0, 0), [(3, 1, 0)])] [([], [], [(2000015, ((0, 0), [(0, 1, 0)]), ((1, 0), []))], [])]
theorem zx_D380_ok {PT : Nat → zz_W → Prop} : zx_Lok 64 zHT PT zx_D380 := by
  refine zx_Lc_ok (fun w hI hK ins hl hr he hg => ?_)
  obtain ⟨a0, a1, a2, a3, rfl⟩ := zx_i4 hl
  have e0 : (0 : Int) + (1 * a0 + ((-4294967296) * a1 + ((-18446744073709551616) * a2 + ((-79228162514264337593543950336) * a3 + 0)))) = 0 := he _ List.mem_cons_self
  have g0 : 0 ≤ (0 : Int) + (1 * a1 + 0) := hg _ List.mem_cons_self
  have g1 : 0 ≤ (4294967295 : Int) + ((-1) * a1 + 0) := hg _ (List.mem_cons_of_mem _ List.mem_cons_self)
  have g2 : 0 ≤ (0 : Int) + (1 * a2 + 0) := hg _ (List.mem_cons_of_mem _ (List.mem_cons_of_mem _ List.mem_cons_self))
  have g3 : 0 ≤ (4294967295 : Int) + ((-1) * a2 + 0) := hg _ (List.mem_cons_of_mem _ (List.mem_cons_of_mem _ (List.mem_cons_of_mem _ List.mem_cons_self)))
  have g4 : 0 ≤ (0 : Int) + (1 * a3 + 0) := hg _ (List.mem_cons_of_mem _ (List.mem_cons_of_mem _ (List.mem_cons_of_mem _ (List.mem_cons_of_mem _ List.mem_cons_self))))
  have r := zh_its_0 (w := w) (j := a0) (k := a1) (d := a2) (u := a3) (by omega) (by omega) (by omega) (by omega) (by omega) 
  exact ⟨_, List.mem_cons_self, [], rfl, zx_bnil, zx_cs0, (zx_eF1 (by show 0 ≤ (0 : Int) + (1 * a0 + 0); omega) (by show zk_xe w 2000015 ((0 : Int) + (1 * a0 + 0)) = (1 : Int) + (0); rw [show (0 : Int) + (1 * a0 + 0) = a0 by omega]; exact r.trans (by omega)) zx_eF0), zx_k0⟩
def zx_D381 : zx_L := zx_Lc [] 8 [(2000015, 0), (61, 4), (61, 5)] [] [((0, 0), [(0, 1, 0), (1, 0, 1), (2, 0, 18446744073709551616), (3, 0, 79228162514264337593543950336)]), ((0, 0), [(1, 0, 2), (4, 1, 0)]), ((0, 1), [(1, 0, 2), (5, 1, 0)]), ((0, 1), [(1, 0, 1), (2, 0, 18446744073709551616), (3, 0, 79228162514264337593543950336), (7, 1, 0)]), ((0, 1), [(8, 1, 0)])] [((0, 0), [(2, 1, 0)]), ((4294967295, 0), [(2, 0, 1)]), ((0, 0), [(1, 1, 0)]), ((3200, 0), [(1, 0, 1)]), ((0, 0), [(6, 0, 64), (9, 1, 0)]), ((3, 0), [(6, 64, 0), (9, 0, 1)]), ((0, 0), [(10, 1, 0)]), ((511, 0), [(10, 0, 1)]), ((0, 1), [(2, 1, 0), (10, 0, 1)])] [([], [], [(2000015, ((0, 0), [(7, 1, 0)]), ((1, 0), []))], [])]
theorem zx_D381_ok {PT : Nat → zz_W → Prop} : zx_Lok 64 zHT PT zx_D381 := by
  refine zx_Lc_ok (fun w hI hK ins hl hr he hg => ?_)
  obtain ⟨a0, a1, a2, a3, a4, a5, a6, a7, rfl⟩ := zx_i8 hl
  have e0 : (0 : Int) + (1 * a0 + ((-1) * a1 + ((-18446744073709551616) * a2 + ((-79228162514264337593543950336) * a3 + 0)))) = 0 := he _ List.mem_cons_self
  have e1 : (0 : Int) + ((-2) * a1 + (1 * a4 + 0)) = 0 := he _ (List.mem_cons_of_mem _ List.mem_cons_self)
  have e2 : ((-1) : Int) + ((-2) * a1 + (1 * a5 + 0)) = 0 := he _ (List.mem_cons_of_mem _ (List.mem_cons_of_mem _ List.mem_cons_self))
  have e3 : ((-1) : Int) + ((-1) * a1 + ((-18446744073709551616) * a2 + ((-79228162514264337593543950336) * a3 + (1 * a7 + 0)))) = 0 := he _ (List.mem_cons_of_mem _ (List.mem_cons_of_mem _ (List.mem_cons_of_mem _ List.mem_cons_self)))
  have e4 : ((-1) : Int) + (1 * (zk_xe w 2000015 a0) + 0) = 0 := he _ (List.mem_cons_of_mem _ (List.mem_cons_of_mem _ (List.mem_cons_of_mem _ (List.mem_cons_of_mem _ List.mem_cons_self))))
  have g0 : 0 ≤ (0 : Int) + (1 * a2 + 0) := hg _ List.mem_cons_self
  have g1 : 0 ≤ (4294967295 : Int) + ((-1) * a2 + 0) := hg _ (List.mem_cons_of_mem _ List.mem_cons_self)
  have g2 : 0 ≤ (0 : Int) + (1 * a1 + 0) := hg _ (List.mem_cons_of_mem _ (List.mem_cons_of_mem _ List.mem_cons_self))
  have g3 : 0 ≤ (3200 : Int) + ((-1) * a1 + 0) := hg _ (List.mem_cons_of_mem _ (List.mem_cons_of_mem _ (List.mem_cons_of_mem _ List.mem_cons_self)))
  have g4 : 0 ≤ (0 : Int) + ((-64) * a6 + (1 * (zk_xe w 61 a4) + 0)) := hg _ (List.mem_cons_of_mem _ (List.mem_cons_of_mem _ (List.mem_cons_of_mem _ (List.mem_cons_of_mem _ List.mem_cons_self))))
  have g5 : 0 ≤ (3 : Int) + (64 * a6 + ((-1) * (zk_xe w 61 a4) + 0)) := hg _ (List.mem_cons_of_mem _ (List.mem_cons_of_mem _ (List.mem_cons_of_mem _ (List.mem_cons_of_mem _ (List.mem_cons_of_mem _ List.mem_cons_self)))))
  have g6 : 0 ≤ (0 : Int) + (1 * (zk_xe w 61 a5) + 0) := hg _ (List.mem_cons_of_mem _ (List.mem_cons_of_mem _ (List.mem_cons_of_mem _ (List.mem_cons_of_mem _ (List.mem_cons_of_mem _ (List.mem_cons_of_mem _ List.mem_cons_self))))))
  have g7 : 0 ≤ (511 : Int) + ((-1) * (zk_xe w 61 a5) + 0) := hg _ (List.mem_cons_of_mem _ (List.mem_cons_of_mem _ (List.mem_cons_of_mem _ (List.mem_cons_of_mem _ (List.mem_cons_of_mem _ (List.mem_cons_of_mem _ (List.mem_cons_of_mem _ List.mem_cons_self)))))))
  have g8 : 0 ≤ ((-1) : Int) + (1 * a2 + ((-1) * (zk_xe w 61 a5) + 0)) := hg _ (List.mem_cons_of_mem _ (List.mem_cons_of_mem _ (List.mem_cons_of_mem _ (List.mem_cons_of_mem _ (List.mem_cons_of_mem _ (List.mem_cons_of_mem _ (List.mem_cons_of_mem _ (List.mem_cons_of_mem _ List.mem_cons_self))))))))
  have r0 : 0 ≤ a0 := hr _ List.mem_cons_self
  have r1 : 0 ≤ a4 := hr _ (List.mem_cons_of_mem _ List.mem_cons_self)
  have r2 : 0 ≤ a5 := hr _ (List.mem_cons_of_mem _ (List.mem_cons_of_mem _ List.mem_cons_self))
  have k : zh_it (zk_xe w 61 a4) (zk_xe w 61 a5) a2 a3 := by
    unfold zh_it
    omega
  have r := zh_its_st (w := w) (j := a0) (j1 := a7) (n := a1) (k := 0) (d := a2) (u := a3) (a1 := a4) (a2 := a5) (by omega) (by omega) (by omega) (by omega) (by omega) (by omega) (by omega) (by omega) (by omega) (by omega) (by omega) k
  exact ⟨_, List.mem_cons_self, [], rfl, zx_bnil, zx_cs0, (zx_eF1 (by show 0 ≤ (0 : Int) + (1 * a7 + 0); omega) (by show zk_xe w 2000015 ((0 : Int) + (1 * a7 + 0)) = (1 : Int) + (0); rw [show (0 : Int) + (1 * a7 + 0) = a7 by omega]; exact r.trans (by omega)) zx_eF0), zx_k0⟩
def zx_D382 : zx_L := zx_Lc [] 8 [(2000015, 0), (61, 4), (61, 5)] [] [((0, 0), [(0, 1, 0), (1, 0, 1), (2, 0, 18446744073709551616), (3, 0, 79228162514264337593543950336)]), ((0, 0), [(1, 0, 2), (4, 1, 0)]), ((0, 1), [(1, 0, 2), (5, 1, 0)]), ((0, 1), [(1, 0, 1), (2, 0, 18446744073709551616), (3, 0, 79228162514264337593543950336), (7, 1, 0)]), ((0, 1), [(8, 1, 0)])] [((0, 0), [(2, 1, 0)]), ((4294967295, 0), [(2, 0, 1)]), ((0, 0), [(1, 1, 0)]), ((3200, 0), [(1, 0, 1)]), ((0, 4), [(6, 0, 64), (9, 1, 0)]), ((6, 0), [(6, 64, 0), (9, 0, 1)])] [([], [], [(2000015, ((0, 0), [(7, 1, 0)]), ((1, 0), []))], [])]
theorem zx_D382_ok {PT : Nat → zz_W → Prop} : zx_Lok 64 zHT PT zx_D382 := by
  refine zx_Lc_ok (fun w hI hK ins hl hr he hg => ?_)
  obtain ⟨a0, a1, a2, a3, a4, a5, a6, a7, rfl⟩ := zx_i8 hl
  have e0 : (0 : Int) + (1 * a0 + ((-1) * a1 + ((-18446744073709551616) * a2 + ((-79228162514264337593543950336) * a3 + 0)))) = 0 := he _ List.mem_cons_self
  have e1 : (0 : Int) + ((-2) * a1 + (1 * a4 + 0)) = 0 := he _ (List.mem_cons_of_mem _ List.mem_cons_self)
  have e2 : ((-1) : Int) + ((-2) * a1 + (1 * a5 + 0)) = 0 := he _ (List.mem_cons_of_mem _ (List.mem_cons_of_mem _ List.mem_cons_self))
  have e3 : ((-1) : Int) + ((-1) * a1 + ((-18446744073709551616) * a2 + ((-79228162514264337593543950336) * a3 + (1 * a7 + 0)))) = 0 := he _ (List.mem_cons_of_mem _ (List.mem_cons_of_mem _ (List.mem_cons_of_mem _ List.mem_cons_self)))
  have e4 : ((-1) : Int) + (1 * (zk_xe w 2000015 a0) + 0) = 0 := he _ (List.mem_cons_of_mem _ (List.mem_cons_of_mem _ (List.mem_cons_of_mem _ (List.mem_cons_of_mem _ List.mem_cons_self))))
  have g0 : 0 ≤ (0 : Int) + (1 * a2 + 0) := hg _ List.mem_cons_self
  have g1 : 0 ≤ (4294967295 : Int) + ((-1) * a2 + 0) := hg _ (List.mem_cons_of_mem _ List.mem_cons_self)
  have g2 : 0 ≤ (0 : Int) + (1 * a1 + 0) := hg _ (List.mem_cons_of_mem _ (List.mem_cons_of_mem _ List.mem_cons_self))
  have g3 : 0 ≤ (3200 : Int) + ((-1) * a1 + 0) := hg _ (List.mem_cons_of_mem _ (List.mem_cons_of_mem _ (List.mem_cons_of_mem _ List.mem_cons_self)))
  have g4 : 0 ≤ ((-4) : Int) + ((-64) * a6 + (1 * (zk_xe w 61 a4) + 0)) := hg _ (List.mem_cons_of_mem _ (List.mem_cons_of_mem _ (List.mem_cons_of_mem _ (List.mem_cons_of_mem _ List.mem_cons_self))))
  have g5 : 0 ≤ (6 : Int) + (64 * a6 + ((-1) * (zk_xe w 61 a4) + 0)) := hg _ (List.mem_cons_of_mem _ (List.mem_cons_of_mem _ (List.mem_cons_of_mem _ (List.mem_cons_of_mem _ (List.mem_cons_of_mem _ List.mem_cons_self)))))
  have r0 : 0 ≤ a0 := hr _ List.mem_cons_self
  have r1 : 0 ≤ a4 := hr _ (List.mem_cons_of_mem _ List.mem_cons_self)
  have r2 : 0 ≤ a5 := hr _ (List.mem_cons_of_mem _ (List.mem_cons_of_mem _ List.mem_cons_self))
  have k : zh_it (zk_xe w 61 a4) (zk_xe w 61 a5) a2 a3 := by
    unfold zh_it
    omega
  have r := zh_its_st (w := w) (j := a0) (j1 := a7) (n := a1) (k := 0) (d := a2) (u := a3) (a1 := a4) (a2 := a5) (by omega) (by omega) (by omega) (by omega) (by omega) (by omega) (by omega) (by omega) (by omega) (by omega) (by omega) k
  exact ⟨_, List.mem_cons_self, [], rfl, zx_bnil, zx_cs0, (zx_eF1 (by show 0 ≤ (0 : Int) + (1 * a7 + 0); omega) (by show zk_xe w 2000015 ((0 : Int) + (1 * a7 + 0)) = (1 : Int) + (0); rw [show (0 : Int) + (1 * a7 + 0) = a7 by omega]; exact r.trans (by omega)) zx_eF0), zx_k0⟩
def zx_D383 : zx_L := zx_Lc [] 8 [(2000015, 0), (61, 4), (61, 5)] [] [((0, 0), [(0, 1, 0), (1, 0, 1), (2, 0, 18446744073709551616), (3, 0, 79228162514264337593543950336)]), ((0, 0), [(1, 0, 2), (4, 1, 0)]), ((0, 1), [(1, 0, 2), (5, 1, 0)]), ((0, 1), [(1, 0, 1), (2, 0, 18446744073709551616), (3, 0, 79228162514264337593543950336), (7, 1, 0)]), ((0, 1), [(8, 1, 0)])] [((0, 0), [(2, 1, 0)]), ((4294967295, 0), [(2, 0, 1)]), ((0, 0), [(1, 1, 0)]), ((3200, 0), [(1, 0, 1)]), ((0, 7), [(6, 0, 64), (9, 1, 0)]), ((11, 0), [(6, 64, 0), (9, 0, 1)]), ((0, 0), [(10, 1, 0)]), ((1500, 0), [(10, 0, 1)]), ((0, 1), [(3, 1, 0), (10, 0, 1)])] [([], [], [(2000015, ((0, 0), [(7, 1, 0)]), ((1, 0), []))], [])]
theorem zx_D383_ok {PT : Nat → zz_W → Prop} : zx_Lok 64 zHT PT zx_D383 := by
  refine zx_Lc_ok (fun w hI hK ins hl hr he hg => ?_)
  obtain ⟨a0, a1, a2, a3, a4, a5, a6, a7, rfl⟩ := zx_i8 hl
  have e0 : (0 : Int) + (1 * a0 + ((-1) * a1 + ((-18446744073709551616) * a2 + ((-79228162514264337593543950336) * a3 + 0)))) = 0 := he _ List.mem_cons_self
  have e1 : (0 : Int) + ((-2) * a1 + (1 * a4 + 0)) = 0 := he _ (List.mem_cons_of_mem _ List.mem_cons_self)
  have e2 : ((-1) : Int) + ((-2) * a1 + (1 * a5 + 0)) = 0 := he _ (List.mem_cons_of_mem _ (List.mem_cons_of_mem _ List.mem_cons_self))
  have e3 : ((-1) : Int) + ((-1) * a1 + ((-18446744073709551616) * a2 + ((-79228162514264337593543950336) * a3 + (1 * a7 + 0)))) = 0 := he _ (List.mem_cons_of_mem _ (List.mem_cons_of_mem _ (List.mem_cons_of_mem _ List.mem_cons_self)))
  have e4 : ((-1) : Int) + (1 * (zk_xe w 2000015 a0) + 0) = 0 := he _ (List.mem_cons_of_mem _ (List.mem_cons_of_mem _ (List.mem_cons_of_mem _ (List.mem_cons_of_mem _ List.mem_cons_self))))
  have g0 : 0 ≤ (0 : Int) + (1 * a2 + 0) := hg _ List.mem_cons_self
  have g1 : 0 ≤ (4294967295 : Int) + ((-1) * a2 + 0) := hg _ (List.mem_cons_of_mem _ List.mem_cons_self)
  have g2 : 0 ≤ (0 : Int) + (1 * a1 + 0) := hg _ (List.mem_cons_of_mem _ (List.mem_cons_of_mem _ List.mem_cons_self))
  have g3 : 0 ≤ (3200 : Int) + ((-1) * a1 + 0) := hg _ (List.mem_cons_of_mem _ (List.mem_cons_of_mem _ (List.mem_cons_of_mem _ List.mem_cons_self)))
  have g4 : 0 ≤ ((-7) : Int) + ((-64) * a6 + (1 * (zk_xe w 61 a4) + 0)) := hg _ (List.mem_cons_of_mem _ (List.mem_cons_of_mem _ (List.mem_cons_of_mem _ (List.mem_cons_of_mem _ List.mem_cons_self))))
  have g5 : 0 ≤ (11 : Int) + (64 * a6 + ((-1) * (zk_xe w 61 a4) + 0)) := hg _ (List.mem_cons_of_mem _ (List.mem_cons_of_mem _ (List.mem_cons_of_mem _ (List.mem_cons_of_mem _ (List.mem_cons_of_mem _ List.mem_cons_self)))))
  have g6 : 0 ≤ (0 : Int) + (1 * (zk_xe w 61 a5) + 0) := hg _ (List.mem_cons_of_mem _ (List.mem_cons_of_mem _ (List.mem_cons_of_mem _ (List.mem_cons_of_mem _ (List.mem_cons_of_mem _ (List.mem_cons_of_mem _ List.mem_cons_self))))))
  have g7 : 0 ≤ (1500 : Int) + ((-1) * (zk_xe w 61 a5) + 0) := hg _ (List.mem_cons_of_mem _ (List.mem_cons_of_mem _ (List.mem_cons_of_mem _ (List.mem_cons_of_mem _ (List.mem_cons_of_mem _ (List.mem_cons_of_mem _ (List.mem_cons_of_mem _ List.mem_cons_self)))))))
  have g8 : 0 ≤ ((-1) : Int) + (1 * a3 + ((-1) * (zk_xe w 61 a5) + 0)) := hg _ (List.mem_cons_of_mem _ (List.mem_cons_of_mem _ (List.mem_cons_of_mem _ (List.mem_cons_of_mem _ (List.mem_cons_of_mem _ (List.mem_cons_of_mem _ (List.mem_cons_of_mem _ (List.mem_cons_of_mem _ List.mem_cons_self))))))))
  have r0 : 0 ≤ a0 := hr _ List.mem_cons_self
  have r1 : 0 ≤ a4 := hr _ (List.mem_cons_of_mem _ List.mem_cons_self)
  have r2 : 0 ≤ a5 := hr _ (List.mem_cons_of_mem _ (List.mem_cons_of_mem _ List.mem_cons_self))
  have k : zh_it (zk_xe w 61 a4) (zk_xe w 61 a5) a2 a3 := by
    unfold zh_it
    omega
  have r := zh_its_st (w := w) (j := a0) (j1 := a7) (n := a1) (k := 0) (d := a2) (u := a3) (a1 := a4) (a2 := a5) (by omega) (by omega) (by omega) (by omega) (by omega) (by omega) (by omega) (by omega) (by omega) (by omega) (by omega) k
  exact ⟨_, List.mem_cons_self, [], rfl, zx_bnil, zx_cs0, (zx_eF1 (by show 0 ≤ (0 : Int) + (1 * a7 + 0); omega) (by show zk_xe w 2000015 ((0 : Int) + (1 * a7 + 0)) = (1 : Int) + (0); rw [show (0 : Int) + (1 * a7 + 0) = a7 by omega]; exact r.trans (by omega)) zx_eF0), zx_k0⟩
def zx_D384 : zx_L := zx_Lc [] 8 [(2000015, 0), (61, 4), (61, 5)] [] [((0, 0), [(0, 1, 0), (1, 0, 1), (2, 0, 18446744073709551616), (3, 0, 79228162514264337593543950336)]), ((0, 0), [(1, 0, 2), (4, 1, 0)]), ((0, 1), [(1, 0, 2), (5, 1, 0)]), ((0, 1), [(1, 0, 1), (2, 0, 18446744073709551616), (3, 0, 79228162514264337593543950336), (7, 1, 0)]), ((0, 1), [(8, 1, 0)])] [((0, 0), [(2, 1, 0)]), ((4294967295, 0), [(2, 0, 1)]), ((0, 0), [(1, 1, 0)]), ((3200, 0), [(1, 0, 1)]), ((0, 12), [(6, 0, 64), (9, 1, 0)]), ((28, 0), [(6, 64, 0), (9, 0, 1)])] [([], [], [(2000015, ((0, 0), [(7, 1, 0)]), ((1, 0), []))], [])]
theorem zx_D384_ok {PT : Nat → zz_W → Prop} : zx_Lok 64 zHT PT zx_D384 := by
  refine zx_Lc_ok (fun w hI hK ins hl hr he hg => ?_)
  obtain ⟨a0, a1, a2, a3, a4, a5, a6, a7, rfl⟩ := zx_i8 hl
  have e0 : (0 : Int) + (1 * a0 + ((-1) * a1 + ((-18446744073709551616) * a2 + ((-79228162514264337593543950336) * a3 + 0)))) = 0 := he _ List.mem_cons_self
  have e1 : (0 : Int) + ((-2) * a1 + (1 * a4 + 0)) = 0 := he _ (List.mem_cons_of_mem _ List.mem_cons_self)
  have e2 : ((-1) : Int) + ((-2) * a1 + (1 * a5 + 0)) = 0 := he _ (List.mem_cons_of_mem _ (List.mem_cons_of_mem _ List.mem_cons_self))
  have e3 : ((-1) : Int) + ((-1) * a1 + ((-18446744073709551616) * a2 + ((-79228162514264337593543950336) * a3 + (1 * a7 + 0)))) = 0 := he _ (List.mem_cons_of_mem _ (List.mem_cons_of_mem _ (List.mem_cons_of_mem _ List.mem_cons_self)))
  have e4 : ((-1) : Int) + (1 * (zk_xe w 2000015 a0) + 0) = 0 := he _ (List.mem_cons_of_mem _ (List.mem_cons_of_mem _ (List.mem_cons_of_mem _ (List.mem_cons_of_mem _ List.mem_cons_self))))
  have g0 : 0 ≤ (0 : Int) + (1 * a2 + 0) := hg _ List.mem_cons_self
  have g1 : 0 ≤ (4294967295 : Int) + ((-1) * a2 + 0) := hg _ (List.mem_cons_of_mem _ List.mem_cons_self)
  have g2 : 0 ≤ (0 : Int) + (1 * a1 + 0) := hg _ (List.mem_cons_of_mem _ (List.mem_cons_of_mem _ List.mem_cons_self))
  have g3 : 0 ≤ (3200 : Int) + ((-1) * a1 + 0) := hg _ (List.mem_cons_of_mem _ (List.mem_cons_of_mem _ (List.mem_cons_of_mem _ List.mem_cons_self)))
  have g4 : 0 ≤ ((-12) : Int) + ((-64) * a6 + (1 * (zk_xe w 61 a4) + 0)) := hg _ (List.mem_cons_of_mem _ (List.mem_cons_of_mem _ (List.mem_cons_of_mem _ (List.mem_cons_of_mem _ List.mem_cons_self))))
  have g5 : 0 ≤ (28 : Int) + (64 * a6 + ((-1) * (zk_xe w 61 a4) + 0)) := hg _ (List.mem_cons_of_mem _ (List.mem_cons_of_mem _ (List.mem_cons_of_mem _ (List.mem_cons_of_mem _ (List.mem_cons_of_mem _ List.mem_cons_self)))))
  have r0 : 0 ≤ a0 := hr _ List.mem_cons_self
  have r1 : 0 ≤ a4 := hr _ (List.mem_cons_of_mem _ List.mem_cons_self)
  have r2 : 0 ≤ a5 := hr _ (List.mem_cons_of_mem _ (List.mem_cons_of_mem _ List.mem_cons_self))
  have k : zh_it (zk_xe w 61 a4) (zk_xe w 61 a5) a2 a3 := by
    unfold zh_it
    omega
  have r := zh_its_st (w := w) (j := a0) (j1 := a7) (n := a1) (k := 0) (d := a2) (u := a3) (a1 := a4) (a2 := a5) (by omega) (by omega) (by omega) (by omega) (by omega) (by omega) (by omega) (by omega) (by omega) (by omega) (by omega) k
  exact ⟨_, List.mem_cons_self, [], rfl, zx_bnil, zx_cs0, (zx_eF1 (by show 0 ≤ (0 : Int) + (1 * a7 + 0); omega) (by show zk_xe w 2000015 ((0 : Int) + (1 * a7 + 0)) = (1 : Int) + (0); rw [show (0 : Int) + (1 * a7 + 0) = a7 by omega]; exact r.trans (by omega)) zx_eF0), zx_k0⟩
def zx_D385 : zx_L := zx_Lc [] 8 [(2000015, 0), (61, 4), (61, 5)] [] [((0, 0), [(0, 1, 0), (1, 0, 1), (2, 0, 18446744073709551616), (3, 0, 79228162514264337593543950336)]), ((0, 0), [(1, 0, 2), (4, 1, 0)]), ((0, 1), [(1, 0, 2), (5, 1, 0)]), ((0, 1), [(1, 0, 1), (2, 0, 18446744073709551616), (3, 0, 79228162514264337593543950336), (7, 1, 0)]), ((0, 1), [(8, 1, 0)])] [((0, 0), [(2, 1, 0)]), ((4294967295, 0), [(2, 0, 1)]), ((0, 0), [(1, 1, 0)]), ((3200, 0), [(1, 0, 1)]), ((0, 29), [(6, 0, 64), (9, 1, 0)]), ((30, 0), [(6, 64, 0), (9, 0, 1)]), ((0, 0), [(10, 1, 0)]), ((1500, 0), [(10, 0, 1)]), ((0, 1), [(3, 1, 0), (10, 0, 1)])] [([], [], [(2000015, ((0, 0), [(7, 1, 0)]), ((1, 0), []))], [])]
theorem zx_D385_ok {PT : Nat → zz_W → Prop} : zx_Lok 64 zHT PT zx_D385 := by
  refine zx_Lc_ok (fun w hI hK ins hl hr he hg => ?_)
  obtain ⟨a0, a1, a2, a3, a4, a5, a6, a7, rfl⟩ := zx_i8 hl
  have e0 : (0 : Int) + (1 * a0 + ((-1) * a1 + ((-18446744073709551616) * a2 + ((-79228162514264337593543950336) * a3 + 0)))) = 0 := he _ List.mem_cons_self
  have e1 : (0 : Int) + ((-2) * a1 + (1 * a4 + 0)) = 0 := he _ (List.mem_cons_of_mem _ List.mem_cons_self)
  have e2 : ((-1) : Int) + ((-2) * a1 + (1 * a5 + 0)) = 0 := he _ (List.mem_cons_of_mem _ (List.mem_cons_of_mem _ List.mem_cons_self))
  have e3 : ((-1) : Int) + ((-1) * a1 + ((-18446744073709551616) * a2 + ((-79228162514264337593543950336) * a3 + (1 * a7 + 0)))) = 0 := he _ (List.mem_cons_of_mem _ (List.mem_cons_of_mem _ (List.mem_cons_of_mem _ List.mem_cons_self)))
  have e4 : ((-1) : Int) + (1 * (zk_xe w 2000015 a0) + 0) = 0 := he _ (List.mem_cons_of_mem _ (List.mem_cons_of_mem _ (List.mem_cons_of_mem _ (List.mem_cons_of_mem _ List.mem_cons_self))))
  have g0 : 0 ≤ (0 : Int) + (1 * a2 + 0) := hg _ List.mem_cons_self
  have g1 : 0 ≤ (4294967295 : Int) + ((-1) * a2 + 0) := hg _ (List.mem_cons_of_mem _ List.mem_cons_self)
  have g2 : 0 ≤ (0 : Int) + (1 * a1 + 0) := hg _ (List.mem_cons_of_mem _ (List.mem_cons_of_mem _ List.mem_cons_self))
  have g3 : 0 ≤ (3200 : Int) + ((-1) * a1 + 0) := hg _ (List.mem_cons_of_mem _ (List.mem_cons_of_mem _ (List.mem_cons_of_mem _ List.mem_cons_self)))
  have g4 : 0 ≤ ((-29) : Int) + ((-64) * a6 + (1 * (zk_xe w 61 a4) + 0)) := hg _ (List.mem_cons_of_mem _ (List.mem_cons_of_mem _ (List.mem_cons_of_mem _ (List.mem_cons_of_mem _ List.mem_cons_self))))
  have g5 : 0 ≤ (30 : Int) + (64 * a6 + ((-1) * (zk_xe w 61 a4) + 0)) := hg _ (List.mem_cons_of_mem _ (List.mem_cons_of_mem _ (List.mem_cons_of_mem _ (List.mem_cons_of_mem _ (List.mem_cons_of_mem _ List.mem_cons_self)))))
  have g6 : 0 ≤ (0 : Int) + (1 * (zk_xe w 61 a5) + 0) := hg _ (List.mem_cons_of_mem _ (List.mem_cons_of_mem _ (List.mem_cons_of_mem _ (List.mem_cons_of_mem _ (List.mem_cons_of_mem _ (List.mem_cons_of_mem _ List.mem_cons_self))))))
  have g7 : 0 ≤ (1500 : Int) + ((-1) * (zk_xe w 61 a5) + 0) := hg _ (List.mem_cons_of_mem _ (List.mem_cons_of_mem _ (List.mem_cons_of_mem _ (List.mem_cons_of_mem _ (List.mem_cons_of_mem _ (List.mem_cons_of_mem _ (List.mem_cons_of_mem _ List.mem_cons_self)))))))
  have g8 : 0 ≤ ((-1) : Int) + (1 * a3 + ((-1) * (zk_xe w 61 a5) + 0)) := hg _ (List.mem_cons_of_mem _ (List.mem_cons_of_mem _ (List.mem_cons_of_mem _ (List.mem_cons_of_mem _ (List.mem_cons_of_mem _ (List.mem_cons_of_mem _ (List.mem_cons_of_mem _ (List.mem_cons_of_mem _ List.mem_cons_self))))))))
  have r0 : 0 ≤ a0 := hr _ List.mem_cons_self
  have r1 : 0 ≤ a4 := hr _ (List.mem_cons_of_mem _ List.mem_cons_self)
  have r2 : 0 ≤ a5 := hr _ (List.mem_cons_of_mem _ (List.mem_cons_of_mem _ List.mem_cons_self))
  have k : zh_it (zk_xe w 61 a4) (zk_xe w 61 a5) a2 a3 := by
    unfold zh_it
    omega
  have r := zh_its_st (w := w) (j := a0) (j1 := a7) (n := a1) (k := 0) (d := a2) (u := a3) (a1 := a4) (a2 := a5) (by omega) (by omega) (by omega) (by omega) (by omega) (by omega) (by omega) (by omega) (by omega) (by omega) (by omega) k
  exact ⟨_, List.mem_cons_self, [], rfl, zx_bnil, zx_cs0, (zx_eF1 (by show 0 ≤ (0 : Int) + (1 * a7 + 0); omega) (by show zk_xe w 2000015 ((0 : Int) + (1 * a7 + 0)) = (1 : Int) + (0); rw [show (0 : Int) + (1 * a7 + 0) = a7 by omega]; exact r.trans (by omega)) zx_eF0), zx_k0⟩
def zx_D386 : zx_L := zx_Lc [] 8 [(2000015, 0), (61, 4), (61, 5)] [] [((0, 0), [(0, 1, 0), (1, 0, 1), (2, 0, 18446744073709551616), (3, 0, 79228162514264337593543950336)]), ((0, 0), [(1, 0, 2), (4, 1, 0)]), ((0, 1), [(1, 0, 2), (5, 1, 0)]), ((0, 1), [(1, 0, 1), (2, 0, 18446744073709551616), (3, 0, 79228162514264337593543950336), (7, 1, 0)]), ((0, 1), [(8, 1, 0)])] [((0, 0), [(2, 1, 0)]), ((4294967295, 0), [(2, 0, 1)]), ((0, 0), [(1, 1, 0)]), ((3200, 0), [(1, 0, 1)]), ((0, 31), [(6, 0, 64), (9, 1, 0)]), ((33, 0), [(6, 64, 0), (9, 0, 1)]), ((0, 0), [(10, 1, 0)]), ((749, 0), [(10, 0, 1)])] [([], [], [(2000015, ((0, 0), [(7, 1, 0)]), ((1, 0), []))], [])]
theorem zx_D386_ok {PT : Nat → zz_W → Prop} : zx_Lok 64 zHT PT zx_D386 := by
  refine zx_Lc_ok (fun w hI hK ins hl hr he hg => ?_)
  obtain ⟨a0, a1, a2, a3, a4, a5, a6, a7, rfl⟩ := zx_i8 hl
  have e0 : (0 : Int) + (1 * a0 + ((-1) * a1 + ((-18446744073709551616) * a2 + ((-79228162514264337593543950336) * a3 + 0)))) = 0 := he _ List.mem_cons_self
  have e1 : (0 : Int) + ((-2) * a1 + (1 * a4 + 0)) = 0 := he _ (List.mem_cons_of_mem _ List.mem_cons_self)
  have e2 : ((-1) : Int) + ((-2) * a1 + (1 * a5 + 0)) = 0 := he _ (List.mem_cons_of_mem _ (List.mem_cons_of_mem _ List.mem_cons_self))
  have e3 : ((-1) : Int) + ((-1) * a1 + ((-18446744073709551616) * a2 + ((-79228162514264337593543950336) * a3 + (1 * a7 + 0)))) = 0 := he _ (List.mem_cons_of_mem _ (List.mem_cons_of_mem _ (List.mem_cons_of_mem _ List.mem_cons_self)))
  have e4 : ((-1) : Int) + (1 * (zk_xe w 2000015 a0) + 0) = 0 := he _ (List.mem_cons_of_mem _ (List.mem_cons_of_mem _ (List.mem_cons_of_mem _ (List.mem_cons_of_mem _ List.mem_cons_self))))
  have g0 : 0 ≤ (0 : Int) + (1 * a2 + 0) := hg _ List.mem_cons_self
  have g1 : 0 ≤ (4294967295 : Int) + ((-1) * a2 + 0) := hg _ (List.mem_cons_of_mem _ List.mem_cons_self)
  have g2 : 0 ≤ (0 : Int) + (1 * a1 + 0) := hg _ (List.mem_cons_of_mem _ (List.mem_cons_of_mem _ List.mem_cons_self))
  have g3 : 0 ≤ (3200 : Int) + ((-1) * a1 + 0) := hg _ (List.mem_cons_of_mem _ (List.mem_cons_of_mem _ (List.mem_cons_of_mem _ List.mem_cons_self)))
  have g4 : 0 ≤ ((-31) : Int) + ((-64) * a6 + (1 * (zk_xe w 61 a4) + 0)) := hg _ (List.mem_cons_of_mem _ (List.mem_cons_of_mem _ (List.mem_cons_of_mem _ (List.mem_cons_of_mem _ List.mem_cons_self))))
  have g5 : 0 ≤ (33 : Int) + (64 * a6 + ((-1) * (zk_xe w 61 a4) + 0)) := hg _ (List.mem_cons_of_mem _ (List.mem_cons_of_mem _ (List.mem_cons_of_mem _ (List.mem_cons_of_mem _ (List.mem_cons_of_mem _ List.mem_cons_self)))))
  have g6 : 0 ≤ (0 : Int) + (1 * (zk_xe w 61 a5) + 0) := hg _ (List.mem_cons_of_mem _ (List.mem_cons_of_mem _ (List.mem_cons_of_mem _ (List.mem_cons_of_mem _ (List.mem_cons_of_mem _ (List.mem_cons_of_mem _ List.mem_cons_self))))))
  have g7 : 0 ≤ (749 : Int) + ((-1) * (zk_xe w 61 a5) + 0) := hg _ (List.mem_cons_of_mem _ (List.mem_cons_of_mem _ (List.mem_cons_of_mem _ (List.mem_cons_of_mem _ (List.mem_cons_of_mem _ (List.mem_cons_of_mem _ (List.mem_cons_of_mem _ List.mem_cons_self)))))))
  have r0 : 0 ≤ a0 := hr _ List.mem_cons_self
  have r1 : 0 ≤ a4 := hr _ (List.mem_cons_of_mem _ List.mem_cons_self)
  have r2 : 0 ≤ a5 := hr _ (List.mem_cons_of_mem _ (List.mem_cons_of_mem _ List.mem_cons_self))
  have k : zh_it (zk_xe w 61 a4) (zk_xe w 61 a5) a2 a3 := by
    unfold zh_it
    omega
  have r := zh_its_st (w := w) (j := a0) (j1 := a7) (n := a1) (k := 0) (d := a2) (u := a3) (a1 := a4) (a2 := a5) (by omega) (by omega) (by omega) (by omega) (by omega) (by omega) (by omega) (by omega) (by omega) (by omega) (by omega) k
  exact ⟨_, List.mem_cons_self, [], rfl, zx_bnil, zx_cs0, (zx_eF1 (by show 0 ≤ (0 : Int) + (1 * a7 + 0); omega) (by show zk_xe w 2000015 ((0 : Int) + (1 * a7 + 0)) = (1 : Int) + (0); rw [show (0 : Int) + (1 * a7 + 0) = a7 by omega]; exact r.trans (by omega)) zx_eF0), zx_k0⟩
def zx_D387 : zx_L := zx_Lc [] 8 [(2000015, 0), (61, 4), (61, 5)] [] [((0, 0), [(0, 1, 0), (1, 0, 1), (2, 0, 18446744073709551616), (3, 0, 79228162514264337593543950336)]), ((0, 0), [(1, 0, 2), (4, 1, 0)]), ((0, 1), [(1, 0, 2), (5, 1, 0)]), ((0, 1), [(1, 0, 1), (2, 0, 18446744073709551616), (3, 0, 79228162514264337593543950336), (7, 1, 0)]), ((0, 1), [(8, 1, 0)])] [((0, 0), [(2, 1, 0)]), ((4294967295, 0), [(2, 0, 1)]), ((0, 0), [(1, 1, 0)]), ((3200, 0), [(1, 0, 1)]), ((0, 34), [(6, 0, 64), (9, 1, 0)]), ((63, 0), [(6, 64, 0), (9, 0, 1)])] [([], [], [(2000015, ((0, 0), [(7, 1, 0)]), ((1, 0), []))], [])]
theorem zx_D387_ok {PT : Nat → zz_W → Prop} : zx_Lok 64 zHT PT zx_D387 := by
  refine zx_Lc_ok (fun w hI hK ins hl hr he hg => ?_)
  obtain ⟨a0, a1, a2, a3, a4, a5, a6, a7, rfl⟩ := zx_i8 hl
  have e0 : (0 : Int) + (1 * a0 + ((-1) * a1 + ((-18446744073709551616) * a2 + ((-79228162514264337593543950336) * a3 + 0)))) = 0 := he _ List.mem_cons_self
  have e1 : (0 : Int) + ((-2) * a1 + (1 * a4 + 0)) = 0 := he _ (List.mem_cons_of_mem _ List.mem_cons_self)
  have e2 : ((-1) : Int) + ((-2) * a1 + (1 * a5 + 0)) = 0 := he _ (List.mem_cons_of_mem _ (List.mem_cons_of_mem _ List.mem_cons_self))
  have e3 : ((-1) : Int) + ((-1) * a1 + ((-18446744073709551616) * a2 + ((-79228162514264337593543950336) * a3 + (1 * a7 + 0)))) = 0 := he _ (List.mem_cons_of_mem _ (List.mem_cons_of_mem _ (List.mem_cons_of_mem _ List.mem_cons_self)))
  have e4 : ((-1) : Int) + (1 * (zk_xe w 2000015 a0) + 0) = 0 := he _ (List.mem_cons_of_mem _ (List.mem_cons_of_mem _ (List.mem_cons_of_mem _ (List.mem_cons_of_mem _ List.mem_cons_self))))
  have g0 : 0 ≤ (0 : Int) + (1 * a2 + 0) := hg _ List.mem_cons_self
  have g1 : 0 ≤ (4294967295 : Int) + ((-1) * a2 + 0) := hg _ (List.mem_cons_of_mem _ List.mem_cons_self)
  have g2 : 0 ≤ (0 : Int) + (1 * a1 + 0) := hg _ (List.mem_cons_of_mem _ (List.mem_cons_of_mem _ List.mem_cons_self))
  have g3 : 0 ≤ (3200 : Int) + ((-1) * a1 + 0) := hg _ (List.mem_cons_of_mem _ (List.mem_cons_of_mem _ (List.mem_cons_of_mem _ List.mem_cons_self)))
  have g4 : 0 ≤ ((-34) : Int) + ((-64) * a6 + (1 * (zk_xe w 61 a4) + 0)) := hg _ (List.mem_cons_of_mem _ (List.mem_cons_of_mem _ (List.mem_cons_of_mem _ (List.mem_cons_of_mem _ List.mem_cons_self))))
  have g5 : 0 ≤ (63 : Int) + (64 * a6 + ((-1) * (zk_xe w 61 a4) + 0)) := hg _ (List.mem_cons_of_mem _ (List.mem_cons_of_mem _ (List.mem_cons_of_mem _ (List.mem_cons_of_mem _ (List.mem_cons_of_mem _ List.mem_cons_self)))))
  have r0 : 0 ≤ a0 := hr _ List.mem_cons_self
  have r1 : 0 ≤ a4 := hr _ (List.mem_cons_of_mem _ List.mem_cons_self)
  have r2 : 0 ≤ a5 := hr _ (List.mem_cons_of_mem _ (List.mem_cons_of_mem _ List.mem_cons_self))
  have k : zh_it (zk_xe w 61 a4) (zk_xe w 61 a5) a2 a3 := by
    unfold zh_it
    omega
  have r := zh_its_st (w := w) (j := a0) (j1 := a7) (n := a1) (k := 0) (d := a2) (u := a3) (a1 := a4) (a2 := a5) (by omega) (by omega) (by omega) (by omega) (by omega) (by omega) (by omega) (by omega) (by omega) (by omega) (by omega) k
  exact ⟨_, List.mem_cons_self, [], rfl, zx_bnil, zx_cs0, (zx_eF1 (by show 0 ≤ (0 : Int) + (1 * a7 + 0); omega) (by show zk_xe w 2000015 ((0 : Int) + (1 * a7 + 0)) = (1 : Int) + (0); rw [show (0 : Int) + (1 * a7 + 0) = a7 by omega]; exact r.trans (by omega)) zx_eF0), zx_k0⟩
def zx_D390 : zx_L := zx_Lc [] 9 [(2000015, 0), (61, 4), (61, 5)] [] [((0, 0), [(0, 1, 0), (1, 0, 1), (2, 0, 4294967296), (7, 0, 18446744073709551616), (8, 0, 79228162514264337593543950336)]), ((0, 0), [(3, 0, 2), (4, 1, 0)]), ((0, 1), [(3, 0, 2), (5, 1, 0)]), ((0, 1), [(9, 1, 0)])] [((0, 0), [(1, 1, 0)]), ((4294967295, 0), [(1, 0, 1)]), ((0, 0), [(2, 1, 0)]), ((4294967295, 0), [(2, 0, 1)]), ((0, 0), [(7, 1, 0)]), ((4294967295, 0), [(7, 0, 1)]), ((0, 0), [(2, 0, 1), (3, 1, 0)]), ((0, 1), [(1, 1, 0), (3, 0, 1)]), ((0, 0), [(6, 0, 64), (10, 1, 0)]), ((63, 0), [(6, 64, 0), (10, 0, 1)]), ((0, 0), [(3, 1, 0)])] [([], [((0, 4), [(6, 0, 64), (10, 1, 0)])], [], []), ([], [((0, 0), [(11, 1, 0)]), ((511, 0), [(11, 0, 1)]), ((0, 1), [(7, 1, 0), (11, 0, 1)])], [], [])]
theorem zx_D390_ok {PT : Nat → zz_W → Prop} : zx_Lok 64 zHT PT zx_D390 := by
  refine zx_Lc_ok (fun w hI hK ins hl hr he hg => ?_)
  obtain ⟨a0, a1, a2, a3, a4, a5, a6, a7, a8, rfl⟩ := zx_i9 hl
  have e0 : (0 : Int) + (1 * a0 + ((-1) * a1 + ((-4294967296) * a2 + ((-18446744073709551616) * a7 + ((-79228162514264337593543950336) * a8 + 0))))) = 0 := he _ List.mem_cons_self
  have e1 : (0 : Int) + ((-2) * a3 + (1 * a4 + 0)) = 0 := he _ (List.mem_cons_of_mem _ List.mem_cons_self)
  have e2 : ((-1) : Int) + ((-2) * a3 + (1 * a5 + 0)) = 0 := he _ (List.mem_cons_of_mem _ (List.mem_cons_of_mem _ List.mem_cons_self))
  have e3 : ((-1) : Int) + (1 * (zk_xe w 2000015 a0) + 0) = 0 := he _ (List.mem_cons_of_mem _ (List.mem_cons_of_mem _ (List.mem_cons_of_mem _ List.mem_cons_self)))
  have g0 : 0 ≤ (0 : Int) + (1 * a1 + 0) := hg _ List.mem_cons_self
  have g1 : 0 ≤ (4294967295 : Int) + ((-1) * a1 + 0) := hg _ (List.mem_cons_of_mem _ List.mem_cons_self)
  have g2 : 0 ≤ (0 : Int) + (1 * a2 + 0) := hg _ (List.mem_cons_of_mem _ (List.mem_cons_of_mem _ List.mem_cons_self))
  have g3 : 0 ≤ (4294967295 : Int) + ((-1) * a2 + 0) := hg _ (List.mem_cons_of_mem _ (List.mem_cons_of_mem _ (List.mem_cons_of_mem _ List.mem_cons_self)))
  have g4 : 0 ≤ (0 : Int) + (1 * a7 + 0) := hg _ (List.mem_cons_of_mem _ (List.mem_cons_of_mem _ (List.mem_cons_of_mem _ (List.mem_cons_of_mem _ List.mem_cons_self))))
  have g5 : 0 ≤ (4294967295 : Int) + ((-1) * a7 + 0) := hg _ (List.mem_cons_of_mem _ (List.mem_cons_of_mem _ (List.mem_cons_of_mem _ (List.mem_cons_of_mem _ (List.mem_cons_of_mem _ List.mem_cons_self)))))
  have g6 : 0 ≤ (0 : Int) + ((-1) * a2 + (1 * a3 + 0)) := hg _ (List.mem_cons_of_mem _ (List.mem_cons_of_mem _ (List.mem_cons_of_mem _ (List.mem_cons_of_mem _ (List.mem_cons_of_mem _ (List.mem_cons_of_mem _ List.mem_cons_self))))))
  have g7 : 0 ≤ ((-1) : Int) + (1 * a1 + ((-1) * a3 + 0)) := hg _ (List.mem_cons_of_mem _ (List.mem_cons_of_mem _ (List.mem_cons_of_mem _ (List.mem_cons_of_mem _ (List.mem_cons_of_mem _ (List.mem_cons_of_mem _ (List.mem_cons_of_mem _ List.mem_cons_self)))))))
  have g8 : 0 ≤ (0 : Int) + ((-64) * a6 + (1 * (zk_xe w 61 a4) + 0)) := hg _ (List.mem_cons_of_mem _ (List.mem_cons_of_mem _ (List.mem_cons_of_mem _ (List.mem_cons_of_mem _ (List.mem_cons_of_mem _ (List.mem_cons_of_mem _ (List.mem_cons_of_mem _ (List.mem_cons_of_mem _ List.mem_cons_self))))))))
  have g9 : 0 ≤ (63 : Int) + (64 * a6 + ((-1) * (zk_xe w 61 a4) + 0)) := hg _ (List.mem_cons_of_mem _ (List.mem_cons_of_mem _ (List.mem_cons_of_mem _ (List.mem_cons_of_mem _ (List.mem_cons_of_mem _ (List.mem_cons_of_mem _ (List.mem_cons_of_mem _ (List.mem_cons_of_mem _ (List.mem_cons_of_mem _ List.mem_cons_self)))))))))
  have g10 : 0 ≤ (0 : Int) + (1 * a3 + 0) := hg _ (List.mem_cons_of_mem _ (List.mem_cons_of_mem _ (List.mem_cons_of_mem _ (List.mem_cons_of_mem _ (List.mem_cons_of_mem _ (List.mem_cons_of_mem _ (List.mem_cons_of_mem _ (List.mem_cons_of_mem _ (List.mem_cons_of_mem _ (List.mem_cons_of_mem _ List.mem_cons_self))))))))))
  have r0 : 0 ≤ a0 := hr _ List.mem_cons_self
  have r1 : 0 ≤ a4 := hr _ (List.mem_cons_of_mem _ List.mem_cons_self)
  have r2 : 0 ≤ a5 := hr _ (List.mem_cons_of_mem _ (List.mem_cons_of_mem _ List.mem_cons_self))
  have k := zh_its_at (w := w) (j := a0) (n := a1) (k := a2) (d := a7) (u := a8) (i := a3) (a1 := a4) (a2 := a5) (by omega) (by omega) (by omega) (by omega) (by omega) (by omega) (by omega) (by omega) (by omega) (by omega) (by omega) (by omega) (by omega) 
  unfold zh_it at k
  by_cases h0 : 4 ≤ zk_xe w 61 a4 - 64 * a6
  ·
    exact ⟨_, List.mem_cons_self, [], rfl, zx_bnil, (zx_cs1 (by show 0 ≤ ((-4) : Int) + ((-64) * a6 + (1 * (zk_xe w 61 a4) + 0)); omega) zx_cs0), zx_eF0, zx_k0⟩
  ·
    exact ⟨_, (List.mem_cons_of_mem _ List.mem_cons_self), [], rfl, zx_bnil, (zx_cs1 (by show 0 ≤ (0 : Int) + (1 * (zk_xe w 61 a5) + 0); omega) (zx_cs1 (by show 0 ≤ (511 : Int) + ((-1) * (zk_xe w 61 a5) + 0); omega) (zx_cs1 (by show 0 ≤ ((-1) : Int) + (1 * a7 + ((-1) * (zk_xe w 61 a5) + 0)); omega) zx_cs0))), zx_eF0, zx_k0⟩
def zx_D391 : zx_L := zx_Lc [] 9 [(2000015, 0), (61, 4), (61, 5)] [] [((0, 0), [(0, 1, 0), (1, 0, 1), (2, 0, 4294967296), (7, 0, 18446744073709551616), (8, 0, 79228162514264337593543950336)]), ((0, 0), [(3, 0, 2), (4, 1, 0)]), ((0, 1), [(3, 0, 2), (5, 1, 0)]), ((0, 1), [(9, 1, 0)])] [((0, 0), [(1, 1, 0)]), ((4294967295, 0), [(1, 0, 1)]), ((0, 0), [(2, 1, 0)]), ((4294967295, 0), [(2, 0, 1)]), ((0, 0), [(7, 1, 0)]), ((4294967295, 0), [(7, 0, 1)]), ((0, 0), [(2, 0, 1), (3, 1, 0)]), ((0, 1), [(1, 1, 0), (3, 0, 1)]), ((0, 0), [(6, 0, 64), (10, 1, 0)]), ((63, 0), [(6, 64, 0), (10, 0, 1)]), ((0, 0), [(3, 1, 0)])] [([], [((6, 0), [(6, 64, 0), (10, 0, 1)])], [], []), ([], [((0, 12), [(6, 0, 64), (10, 1, 0)]), ((28, 0), [(6, 64, 0), (10, 0, 1)])], [], []), ([], [((0, 31), [(6, 0, 64), (10, 1, 0)])], [], []), ([], [((0, 0), [(11, 1, 0)]), ((1500, 0), [(11, 0, 1)]), ((0, 1), [(8, 1, 0), (11, 0, 1)])], [], [])]
theorem zx_D391_ok {PT : Nat → zz_W → Prop} : zx_Lok 64 zHT PT zx_D391 := by
  refine zx_Lc_ok (fun w hI hK ins hl hr he hg => ?_)
  obtain ⟨a0, a1, a2, a3, a4, a5, a6, a7, a8, rfl⟩ := zx_i9 hl
  have e0 : (0 : Int) + (1 * a0 + ((-1) * a1 + ((-4294967296) * a2 + ((-18446744073709551616) * a7 + ((-79228162514264337593543950336) * a8 + 0))))) = 0 := he _ List.mem_cons_self
  have e1 : (0 : Int) + ((-2) * a3 + (1 * a4 + 0)) = 0 := he _ (List.mem_cons_of_mem _ List.mem_cons_self)
  have e2 : ((-1) : Int) + ((-2) * a3 + (1 * a5 + 0)) = 0 := he _ (List.mem_cons_of_mem _ (List.mem_cons_of_mem _ List.mem_cons_self))
  have e3 : ((-1) : Int) + (1 * (zk_xe w 2000015 a0) + 0) = 0 := he _ (List.mem_cons_of_mem _ (List.mem_cons_of_mem _ (List.mem_cons_of_mem _ List.mem_cons_self)))
  have g0 : 0 ≤ (0 : Int) + (1 * a1 + 0) := hg _ List.mem_cons_self
  have g1 : 0 ≤ (4294967295 : Int) + ((-1) * a1 + 0) := hg _ (List.mem_cons_of_mem _ List.mem_cons_self)
  have g2 : 0 ≤ (0 : Int) + (1 * a2 + 0) := hg _ (List.mem_cons_of_mem _ (List.mem_cons_of_mem _ List.mem_cons_self))
  have g3 : 0 ≤ (4294967295 : Int) + ((-1) * a2 + 0) := hg _ (List.mem_cons_of_mem _ (List.mem_cons_of_mem _ (List.mem_cons_of_mem _ List.mem_cons_self)))
  have g4 : 0 ≤ (0 : Int) + (1 * a7 + 0) := hg _ (List.mem_cons_of_mem _ (List.mem_cons_of_mem _ (List.mem_cons_of_mem _ (List.mem_cons_of_mem _ List.mem_cons_self))))
  have g5 : 0 ≤ (4294967295 : Int) + ((-1) * a7 + 0) := hg _ (List.mem_cons_of_mem _ (List.mem_cons_of_mem _ (List.mem_cons_of_mem _ (List.mem_cons_of_mem _ (List.mem_cons_of_mem _ List.mem_cons_self)))))
  have g6 : 0 ≤ (0 : Int) + ((-1) * a2 + (1 * a3 + 0)) := hg _ (List.mem_cons_of_mem _ (List.mem_cons_of_mem _ (List.mem_cons_of_mem _ (List.mem_cons_of_mem _ (List.mem_cons_of_mem _ (List.mem_cons_of_mem _ List.mem_cons_self))))))
  have g7 : 0 ≤ ((-1) : Int) + (1 * a1 + ((-1) * a3 + 0)) := hg _ (List.mem_cons_of_mem _ (List.mem_cons_of_mem _ (List.mem_cons_of_mem _ (List.mem_cons_of_mem _ (List.mem_cons_of_mem _ (List.mem_cons_of_mem _ (List.mem_cons_of_mem _ List.mem_cons_self)))))))
  have g8 : 0 ≤ (0 : Int) + ((-64) * a6 + (1 * (zk_xe w 61 a4) + 0)) := hg _ (List.mem_cons_of_mem _ (List.mem_cons_of_mem _ (List.mem_cons_of_mem _ (List.mem_cons_of_mem _ (List.mem_cons_of_mem _ (List.mem_cons_of_mem _ (List.mem_cons_of_mem _ (List.mem_cons_of_mem _ List.mem_cons_self))))))))
  have g9 : 0 ≤ (63 : Int) + (64 * a6 + ((-1) * (zk_xe w 61 a4) + 0)) := hg _ (List.mem_cons_of_mem _ (List.mem_cons_of_mem _ (List.mem_cons_of_mem _ (List.mem_cons_of_mem _ (List.mem_cons_of_mem _ (List.mem_cons_of_mem _ (List.mem_cons_of_mem _ (List.mem_cons_of_mem _ (List.mem_cons_of_mem _ List.mem_cons_self)))))))))
  have g10 : 0 ≤ (0 : Int) + (1 * a3 + 0) := hg _ (List.mem_cons_of_mem _ (List.mem_cons_of_mem _ (List.mem_cons_of_mem _ (List.mem_cons_of_mem _ (List.mem_cons_of_mem _ (List.mem_cons_of_mem _ (List.mem_cons_of_mem _ (List.mem_cons_of_mem _ (List.mem_cons_of_mem _ (List.mem_cons_of_mem _ List.mem_cons_self))))))))))
  have r0 : 0 ≤ a0 := hr _ List.mem_cons_self
  have r1 : 0 ≤ a4 := hr _ (List.mem_cons_of_mem _ List.mem_cons_self)
  have r2 : 0 ≤ a5 := hr _ (List.mem_cons_of_mem _ (List.mem_cons_of_mem _ List.mem_cons_self))
  have k := zh_its_at (w := w) (j := a0) (n := a1) (k := a2) (d := a7) (u := a8) (i := a3) (a1 := a4) (a2 := a5) (by omega) (by omega) (by omega) (by omega) (by omega) (by omega) (by omega) (by omega) (by omega) (by omega) (by omega) (by omega) (by omega) 
  unfold zh_it at k
  by_cases h0 : zk_xe w 61 a4 - 64 * a6 ≤ 6
  ·
    exact ⟨_, List.mem_cons_self, [], rfl, zx_bnil, (zx_cs1 (by show 0 ≤ (6 : Int) + (64 * a6 + ((-1) * (zk_xe w 61 a4) + 0)); omega) zx_cs0), zx_eF0, zx_k0⟩
  ·
    by_cases h1 : 12 ≤ zk_xe w 61 a4 - 64 * a6 ∧ zk_xe w 61 a4 - 64 * a6 ≤ 28
    ·
      exact ⟨_, (List.mem_cons_of_mem _ List.mem_cons_self), [], rfl, zx_bnil, (zx_cs1 (by show 0 ≤ ((-12) : Int) + ((-64) * a6 + (1 * (zk_xe w 61 a4) + 0)); omega) (zx_cs1 (by show 0 ≤ (28 : Int) + (64 * a6 + ((-1) * (zk_xe w 61 a4) + 0)); omega) zx_cs0)), zx_eF0, zx_k0⟩
    ·
      by_cases h2 : 31 ≤ zk_xe w 61 a4 - 64 * a6
      ·
        exact ⟨_, (List.mem_cons_of_mem _ (List.mem_cons_of_mem _ List.mem_cons_self)), [], rfl, zx_bnil, (zx_cs1 (by show 0 ≤ ((-31) : Int) + ((-64) * a6 + (1 * (zk_xe w 61 a4) + 0)); omega) zx_cs0), zx_eF0, zx_k0⟩
      ·
        exact ⟨_, (List.mem_cons_of_mem _ (List.mem_cons_of_mem _ (List.mem_cons_of_mem _ List.mem_cons_self))), [], rfl, zx_bnil, (zx_cs1 (by show 0 ≤ (0 : Int) + (1 * (zk_xe w 61 a5) + 0); omega) (zx_cs1 (by show 0 ≤ (1500 : Int) + ((-1) * (zk_xe w 61 a5) + 0); omega) (zx_cs1 (by show 0 ≤ ((-1) : Int) + (1 * a8 + ((-1) * (zk_xe w 61 a5) + 0)); omega) zx_cs0))), zx_eF0, zx_k0⟩
def zx_D392 : zx_L := zx_Lc [] 9 [(2000015, 0), (61, 4), (61, 5)] [] [((0, 0), [(0, 1, 0), (1, 0, 1), (2, 0, 4294967296), (7, 0, 18446744073709551616), (8, 0, 79228162514264337593543950336)]), ((0, 0), [(3, 0, 2), (4, 1, 0)]), ((0, 1), [(3, 0, 2), (5, 1, 0)]), ((0, 1), [(9, 1, 0)])] [((0, 0), [(1, 1, 0)]), ((4294967295, 0), [(1, 0, 1)]), ((0, 0), [(2, 1, 0)]), ((4294967295, 0), [(2, 0, 1)]), ((0, 0), [(7, 1, 0)]), ((4294967295, 0), [(7, 0, 1)]), ((0, 0), [(2, 0, 1), (3, 1, 0)]), ((0, 1), [(1, 1, 0), (3, 0, 1)]), ((0, 0), [(6, 0, 64), (10, 1, 0)]), ((63, 0), [(6, 64, 0), (10, 0, 1)]), ((0, 0), [(3, 1, 0)])] [([], [((30, 0), [(6, 64, 0), (10, 0, 1)])], [], []), ([], [((0, 34), [(6, 0, 64), (10, 1, 0)])], [], []), ([], [((0, 0), [(11, 1, 0)]), ((749, 0), [(11, 0, 1)])], [], [])]
theorem zx_D392_ok {PT : Nat → zz_W → Prop} : zx_Lok 64 zHT PT zx_D392 := by
  refine zx_Lc_ok (fun w hI hK ins hl hr he hg => ?_)
  obtain ⟨a0, a1, a2, a3, a4, a5, a6, a7, a8, rfl⟩ := zx_i9 hl
  have e0 : (0 : Int) + (1 * a0 + ((-1) * a1 + ((-4294967296) * a2 + ((-18446744073709551616) * a7 + ((-79228162514264337593543950336) * a8 + 0))))) = 0 := he _ List.mem_cons_self
  have e1 : (0 : Int) + ((-2) * a3 + (1 * a4 + 0)) = 0 := he _ (List.mem_cons_of_mem _ List.mem_cons_self)
  have e2 : ((-1) : Int) + ((-2) * a3 + (1 * a5 + 0)) = 0 := he _ (List.mem_cons_of_mem _ (List.mem_cons_of_mem _ List.mem_cons_self))
  have e3 : ((-1) : Int) + (1 * (zk_xe w 2000015 a0) + 0) = 0 := he _ (List.mem_cons_of_mem _ (List.mem_cons_of_mem _ (List.mem_cons_of_mem _ List.mem_cons_self)))
  have g0 : 0 ≤ (0 : Int) + (1 * a1 + 0) := hg _ List.mem_cons_self
  have g1 : 0 ≤ (4294967295 : Int) + ((-1) * a1 + 0) := hg _ (List.mem_cons_of_mem _ List.mem_cons_self)
  have g2 : 0 ≤ (0 : Int) + (1 * a2 + 0) := hg _ (List.mem_cons_of_mem _ (List.mem_cons_of_mem _ List.mem_cons_self))
  have g3 : 0 ≤ (4294967295 : Int) + ((-1) * a2 + 0) := hg _ (List.mem_cons_of_mem _ (List.mem_cons_of_mem _ (List.mem_cons_of_mem _ List.mem_cons_self)))
  have g4 : 0 ≤ (0 : Int) + (1 * a7 + 0) := hg _ (List.mem_cons_of_mem _ (List.mem_cons_of_mem _ (List.mem_cons_of_mem _ (List.mem_cons_of_mem _ List.mem_cons_self))))
  have g5 : 0 ≤ (4294967295 : Int) + ((-1) * a7 + 0) := hg _ (List.mem_cons_of_mem _ (List.mem_cons_of_mem _ (List.mem_cons_of_mem _ (List.mem_cons_of_mem _ (List.mem_cons_of_mem _ List.mem_cons_self)))))
  have g6 : 0 ≤ (0 : Int) + ((-1) * a2 + (1 * a3 + 0)) := hg _ (List.mem_cons_of_mem _ (List.mem_cons_of_mem _ (List.mem_cons_of_mem _ (List.mem_cons_of_mem _ (List.mem_cons_of_mem _ (List.mem_cons_of_mem _ List.mem_cons_self))))))
  have g7 : 0 ≤ ((-1) : Int) + (1 * a1 + ((-1) * a3 + 0)) := hg _ (List.mem_cons_of_mem _ (List.mem_cons_of_mem _ (List.mem_cons_of_mem _ (List.mem_cons_of_mem _ (List.mem_cons_of_mem _ (List.mem_cons_of_mem _ (List.mem_cons_of_mem _ List.mem_cons_self)))))))
  have g8 : 0 ≤ (0 : Int) + ((-64) * a6 + (1 * (zk_xe w 61 a4) + 0)) := hg _ (List.mem_cons_of_mem _ (List.mem_cons_of_mem _ (List.mem_cons_of_mem _ (List.mem_cons_of_mem _ (List.mem_cons_of_mem _ (List.mem_cons_of_mem _ (List.mem_cons_of_mem _ (List.mem_cons_of_mem _ List.mem_cons_self))))))))
  have g9 : 0 ≤ (63 : Int) + (64 * a6 + ((-1) * (zk_xe w 61 a4) + 0)) := hg _ (List.mem_cons_of_mem _ (List.mem_cons_of_mem _ (List.mem_cons_of_mem _ (List.mem_cons_of_mem _ (List.mem_cons_of_mem _ (List.mem_cons_of_mem _ (List.mem_cons_of_mem _ (List.mem_cons_of_mem _ (List.mem_cons_of_mem _ List.mem_cons_self)))))))))
  have g10 : 0 ≤ (0 : Int) + (1 * a3 + 0) := hg _ (List.mem_cons_of_mem _ (List.mem_cons_of_mem _ (List.mem_cons_of_mem _ (List.mem_cons_of_mem _ (List.mem_cons_of_mem _ (List.mem_cons_of_mem _ (List.mem_cons_of_mem _ (List.mem_cons_of_mem _ (List.mem_cons_of_mem _ (List.mem_cons_of_mem _ List.mem_cons_self))))))))))
  have r0 : 0 ≤ a0 := hr _ List.mem_cons_self
  have r1 : 0 ≤ a4 := hr _ (List.mem_cons_of_mem _ List.mem_cons_self)
  have r2 : 0 ≤ a5 := hr _ (List.mem_cons_of_mem _ (List.mem_cons_of_mem _ List.mem_cons_self))
  have k := zh_its_at (w := w) (j := a0) (n := a1) (k := a2) (d := a7) (u := a8) (i := a3) (a1 := a4) (a2 := a5) (by omega) (by omega) (by omega) (by omega) (by omega) (by omega) (by omega) (by omega) (by omega) (by omega) (by omega) (by omega) (by omega) 
  unfold zh_it at k
  by_cases h0 : zk_xe w 61 a4 - 64 * a6 ≤ 30
  ·
    exact ⟨_, List.mem_cons_self, [], rfl, zx_bnil, (zx_cs1 (by show 0 ≤ (30 : Int) + (64 * a6 + ((-1) * (zk_xe w 61 a4) + 0)); omega) zx_cs0), zx_eF0, zx_k0⟩
  ·
    by_cases h1 : 34 ≤ zk_xe w 61 a4 - 64 * a6
    ·
      exact ⟨_, (List.mem_cons_of_mem _ List.mem_cons_self), [], rfl, zx_bnil, (zx_cs1 (by show 0 ≤ ((-34) : Int) + ((-64) * a6 + (1 * (zk_xe w 61 a4) + 0)); omega) zx_cs0), zx_eF0, zx_k0⟩
    ·
      exact ⟨_, (List.mem_cons_of_mem _ (List.mem_cons_of_mem _ List.mem_cons_self)), [], rfl, zx_bnil, (zx_cs1 (by show 0 ≤ (0 : Int) + (1 * (zk_xe w 61 a5) + 0); omega) (zx_cs1 (by show 0 ≤ (749 : Int) + ((-1) * (zk_xe w 61 a5) + 0); omega) zx_cs0)), zx_eF0, zx_k0⟩
def zx_D393 : zx_L := zx_Lc [] 1 [] [] [] [((0, 0), [(0, 1, 0)]), ((8383, 0), [(0, 0, 1)])] [([(0, 130)], [((0, 0), [(0, 1, 0), (1, 0, 64)]), ((63, 0), [(0, 0, 1), (1, 64, 0)])], [], [])]
theorem zx_D393_ok {PT : Nat → zz_W → Prop} : zx_Lok 64 zHT PT zx_D393 := by
  refine zx_Lc_ok (fun w hI hK ins hl hr he hg => ?_)
  obtain ⟨a0, rfl⟩ := zx_i1 hl
  have g0 : 0 ≤ (0 : Int) + (1 * a0 + 0) := hg _ List.mem_cons_self
  have g1 : 0 ≤ (8383 : Int) + ((-1) * a0 + 0) := hg _ (List.mem_cons_of_mem _ List.mem_cons_self)
  exact ⟨_, List.mem_cons_self, [(a0 / 64)], rfl, (zx_bcons (by show (0 : Int) ≤ (a0 / 64) ∧ (a0 / 64) ≤ (130 : Int); omega) zx_bnil), (zx_cs1 (by show 0 ≤ (0 : Int) + (1 * a0 + ((-64) * ((a0 / 64)) + 0)); omega) (zx_cs1 (by show 0 ≤ (63 : Int) + ((-1) * a0 + (64 * ((a0 / 64)) + 0)); omega) zx_cs0)), zx_eF0, zx_k0⟩
def zx_D406 : zx_L := zx_Lc [] 9 [(2000015, 0)] [] [((0, 0), [(0, 1, 0), (1, 0, 1), (2, 0, 4294967296), (3, 0, 18446744073709551616), (4, 0, 79228162514264337593543950336)]), ((0, 0), [(1, 0, 1), (5, 0, 4294967296), (6, 0, 18446744073709551616), (7, 0, 79228162514264337593543950336), (8, 1, 0)]), ((0, 1), [(9, 1, 0)])] [((0, 0), [(1, 1, 0)]), ((4294967295, 0), [(1, 0, 1)]), ((0, 0), [(2, 1, 0)]), ((4294967295, 0), [(2, 0, 1)]), ((0, 0), [(5, 1, 0)]), ((4294967295, 0), [(5, 0, 1)]), ((0, 0), [(3, 1, 0)]), ((4294967295, 0), [(3, 0, 1)]), ((0, 0), [(6, 1, 0)]), ((4294967295, 0), [(6, 0, 1)]), ((0, 0), [(2, 0, 1), (5, 1, 0)]), ((0, 0), [(4, 0, 1), (7, 1, 0)]), ((0, 0), [(3, 0, 1), (6, 1, 0)])] [([], [], [(2000015, ((0, 0), [(8, 1, 0)]), ((1, 0), []))], [])]
theorem zx_D406_ok {PT : Nat → zz_W → Prop} : zx_Lok 64 zHT PT zx_D406 := by
  refine zx_Lc_ok (fun w hI hK ins hl hr he hg => ?_)
  obtain ⟨a0, a1, a2, a3, a4, a5, a6, a7, a8, rfl⟩ := zx_i9 hl
  have e0 : (0 : Int) + (1 * a0 + ((-1) * a1 + ((-4294967296) * a2 + ((-18446744073709551616) * a3 + ((-79228162514264337593543950336) * a4 + 0))))) = 0 := he _ List.mem_cons_self
  have e1 : (0 : Int) + ((-1) * a1 + ((-4294967296) * a5 + ((-18446744073709551616) * a6 + ((-79228162514264337593543950336) * a7 + (1 * a8 + 0))))) = 0 := he _ (List.mem_cons_of_mem _ List.mem_cons_self)
  have e2 : ((-1) : Int) + (1 * (zk_xe w 2000015 a0) + 0) = 0 := he _ (List.mem_cons_of_mem _ (List.mem_cons_of_mem _ List.mem_cons_self))
  have g0 : 0 ≤ (0 : Int) + (1 * a1 + 0) := hg _ List.mem_cons_self
  have g1 : 0 ≤ (4294967295 : Int) + ((-1) * a1 + 0) := hg _ (List.mem_cons_of_mem _ List.mem_cons_self)
  have g2 : 0 ≤ (0 : Int) + (1 * a2 + 0) := hg _ (List.mem_cons_of_mem _ (List.mem_cons_of_mem _ List.mem_cons_self))
  have g3 : 0 ≤ (4294967295 : Int) + ((-1) * a2 + 0) := hg _ (List.mem_cons_of_mem _ (List.mem_cons_of_mem _ (List.mem_cons_of_mem _ List.mem_cons_self)))
  have g4 : 0 ≤ (0 : Int) + (1 * a5 + 0) := hg _ (List.mem_cons_of_mem _ (List.mem_cons_of_mem _ (List.mem_cons_of_mem _ (List.mem_cons_of_mem _ List.mem_cons_self))))
  have g5 : 0 ≤ (4294967295 : Int) + ((-1) * a5 + 0) := hg _ (List.mem_cons_of_mem _ (List.mem_cons_of_mem _ (List.mem_cons_of_mem _ (List.mem_cons_of_mem _ (List.mem_cons_of_mem _ List.mem_cons_self)))))
  have g6 : 0 ≤ (0 : Int) + (1 * a3 + 0) := hg _ (List.mem_cons_of_mem _ (List.mem_cons_of_mem _ (List.mem_cons_of_mem _ (List.mem_cons_of_mem _ (List.mem_cons_of_mem _ (List.mem_cons_of_mem _ List.mem_cons_self))))))
  have g7 : 0 ≤ (4294967295 : Int) + ((-1) * a3 + 0) := hg _ (List.mem_cons_of_mem _ (List.mem_cons_of_mem _ (List.mem_cons_of_mem _ (List.mem_cons_of_mem _ (List.mem_cons_of_mem _ (List.mem_cons_of_mem _ (List.mem_cons_of_mem _ List.mem_cons_self)))))))
  have g8 : 0 ≤ (0 : Int) + (1 * a6 + 0) := hg _ (List.mem_cons_of_mem _ (List.mem_cons_of_mem _ (List.mem_cons_of_mem _ (List.mem_cons_of_mem _ (List.mem_cons_of_mem _ (List.mem_cons_of_mem _ (List.mem_cons_of_mem _ (List.mem_cons_of_mem _ List.mem_cons_self))))))))
  have g9 : 0 ≤ (4294967295 : Int) + ((-1) * a6 + 0) := hg _ (List.mem_cons_of_mem _ (List.mem_cons_of_mem _ (List.mem_cons_of_mem _ (List.mem_cons_of_mem _ (List.mem_cons_of_mem _ (List.mem_cons_of_mem _ (List.mem_cons_of_mem _ (List.mem_cons_of_mem _ (List.mem_cons_of_mem _ List.mem_cons_self)))))))))
  have g10 : 0 ≤ (0 : Int) + ((-1) * a2 + (1 * a5 + 0)) := hg _ (List.mem_cons_of_mem _ (List.mem_cons_of_mem _ (List.mem_cons_of_mem _ (List.mem_cons_of_mem _ (List.mem_cons_of_mem _ (List.mem_cons_of_mem _ (List.mem_cons_of_mem _ (List.mem_cons_of_mem _ (List.mem_cons_of_mem _ (List.mem_cons_of_mem _ List.mem_cons_self))))))))))
  have g11 : 0 ≤ (0 : Int) + ((-1) * a4 + (1 * a7 + 0)) := hg _ (List.mem_cons_of_mem _ (List.mem_cons_of_mem _ (List.mem_cons_of_mem _ (List.mem_cons_of_mem _ (List.mem_cons_of_mem _ (List.mem_cons_of_mem _ (List.mem_cons_of_mem _ (List.mem_cons_of_mem _ (List.mem_cons_of_mem _ (List.mem_cons_of_mem _ (List.mem_cons_of_mem _ List.mem_cons_self)))))))))))
  have g12 : 0 ≤ (0 : Int) + ((-1) * a3 + (1 * a6 + 0)) := hg _ (List.mem_cons_of_mem _ (List.mem_cons_of_mem _ (List.mem_cons_of_mem _ (List.mem_cons_of_mem _ (List.mem_cons_of_mem _ (List.mem_cons_of_mem _ (List.mem_cons_of_mem _ (List.mem_cons_of_mem _ (List.mem_cons_of_mem _ (List.mem_cons_of_mem _ (List.mem_cons_of_mem _ (List.mem_cons_of_mem _ List.mem_cons_self))))))))))))
  have r0 : 0 ≤ a0 := hr _ List.mem_cons_self
  have r := zh_its_m (w := w) (j := a0) (j1 := a8) (n := a1) (k := a2) (k1 := a5) (d := a3) (d1 := a6) (u := a4) (u1 := a7) (by omega) (by omega) (by omega) (by omega) (by omega) (by omega) (by omega) (by omega) (by omega) (by omega) (by omega) (by omega) (by omega) (by omega) (by omega) (by omega) 
  exact ⟨_, List.mem_cons_self, [], rfl, zx_bnil, zx_cs0, (zx_eF1 (by show 0 ≤ (0 : Int) + (1 * a8 + 0); omega) (by show zk_xe w 2000015 ((0 : Int) + (1 * a8 + 0)) = (1 : Int) + (0); rw [show (0 : Int) + (1 * a8 + 0) = a8 by omega]; exact r.trans (by omega)) zx_eF0), zx_k0⟩
def zx_D407 : zx_L := zx_Lc [] 9 [(2000015, 0)] [] [((0, 0), [(0, 1, 0), (1, 0, 1), (2, 0, 4294967296), (3, 0, 18446744073709551616), (4, 0, 79228162514264337593543950336)]), ((0, 0), [(1, 0, 1), (5, 0, 4294967296), (6, 0, 18446744073709551616), (7, 0, 79228162514264337593543950336), (8, 1, 0)]), ((0, 1), [(9, 1, 0)])] [((0, 0), [(1, 1, 0)]), ((4294967295, 0), [(1, 0, 1)]), ((0, 0), [(2, 1, 0)]), ((4294967295, 0), [(2, 0, 1)]), ((0, 0), [(5, 1, 0)]), ((4294967295, 0), [(5, 0, 1)]), ((0, 0), [(3, 1, 0)]), ((4294967295, 0), [(3, 0, 1)]), ((0, 0), [(6, 1, 0)]), ((4294967295, 0), [(6, 0, 1)]), ((0, 0), [(2, 0, 1), (5, 1, 0)]), ((0, 0), [(4, 0, 1), (7, 1, 0)]), ((0, 512), [(6, 1, 0)])] [([], [], [(2000015, ((0, 0), [(8, 1, 0)]), ((1, 0), []))], [])]
theorem zx_D407_ok {PT : Nat → zz_W → Prop} : zx_Lok 64 zHT PT zx_D407 := by
  refine zx_Lc_ok (fun w hI hK ins hl hr he hg => ?_)
  obtain ⟨a0, a1, a2, a3, a4, a5, a6, a7, a8, rfl⟩ := zx_i9 hl
  have e0 : (0 : Int) + (1 * a0 + ((-1) * a1 + ((-4294967296) * a2 + ((-18446744073709551616) * a3 + ((-79228162514264337593543950336) * a4 + 0))))) = 0 := he _ List.mem_cons_self
  have e1 : (0 : Int) + ((-1) * a1 + ((-4294967296) * a5 + ((-18446744073709551616) * a6 + ((-79228162514264337593543950336) * a7 + (1 * a8 + 0))))) = 0 := he _ (List.mem_cons_of_mem _ List.mem_cons_self)
  have e2 : ((-1) : Int) + (1 * (zk_xe w 2000015 a0) + 0) = 0 := he _ (List.mem_cons_of_mem _ (List.mem_cons_of_mem _ List.mem_cons_self))
  have g0 : 0 ≤ (0 : Int) + (1 * a1 + 0) := hg _ List.mem_cons_self
  have g1 : 0 ≤ (4294967295 : Int) + ((-1) * a1 + 0) := hg _ (List.mem_cons_of_mem _ List.mem_cons_self)
  have g2 : 0 ≤ (0 : Int) + (1 * a2 + 0) := hg _ (List.mem_cons_of_mem _ (List.mem_cons_of_mem _ List.mem_cons_self))
  have g3 : 0 ≤ (4294967295 : Int) + ((-1) * a2 + 0) := hg _ (List.mem_cons_of_mem _ (List.mem_cons_of_mem _ (List.mem_cons_of_mem _ List.mem_cons_self)))
  have g4 : 0 ≤ (0 : Int) + (1 * a5 + 0) := hg _ (List.mem_cons_of_mem _ (List.mem_cons_of_mem _ (List.mem_cons_of_mem _ (List.mem_cons_of_mem _ List.mem_cons_self))))
  have g5 : 0 ≤ (4294967295 : Int) + ((-1) * a5 + 0) := hg _ (List.mem_cons_of_mem _ (List.mem_cons_of_mem _ (List.mem_cons_of_mem _ (List.mem_cons_of_mem _ (List.mem_cons_of_mem _ List.mem_cons_self)))))
  have g6 : 0 ≤ (0 : Int) + (1 * a3 + 0) := hg _ (List.mem_cons_of_mem _ (List.mem_cons_of_mem _ (List.mem_cons_of_mem _ (List.mem_cons_of_mem _ (List.mem_cons_of_mem _ (List.mem_cons_of_mem _ List.mem_cons_self))))))
  have g7 : 0 ≤ (4294967295 : Int) + ((-1) * a3 + 0) := hg _ (List.mem_cons_of_mem _ (List.mem_cons_of_mem _ (List.mem_cons_of_mem _ (List.mem_cons_of_mem _ (List.mem_cons_of_mem _ (List.mem_cons_of_mem _ (List.mem_cons_of_mem _ List.mem_cons_self)))))))
  have g8 : 0 ≤ (0 : Int) + (1 * a6 + 0) := hg _ (List.mem_cons_of_mem _ (List.mem_cons_of_mem _ (List.mem_cons_of_mem _ (List.mem_cons_of_mem _ (List.mem_cons_of_mem _ (List.mem_cons_of_mem _ (List.mem_cons_of_mem _ (List.mem_cons_of_mem _ List.mem_cons_self))))))))
  have g9 : 0 ≤ (4294967295 : Int) + ((-1) * a6 + 0) := hg _ (List.mem_cons_of_mem _ (List.mem_cons_of_mem _ (List.mem_cons_of_mem _ (List.mem_cons_of_mem _ (List.mem_cons_of_mem _ (List.mem_cons_of_mem _ (List.mem_cons_of_mem _ (List.mem_cons_of_mem _ (List.mem_cons_of_mem _ List.mem_cons_self)))))))))
  have g10 : 0 ≤ (0 : Int) + ((-1) * a2 + (1 * a5 + 0)) := hg _ (List.mem_cons_of_mem _ (List.mem_cons_of_mem _ (List.mem_cons_of_mem _ (List.mem_cons_of_mem _ (List.mem_cons_of_mem _ (List.mem_cons_of_mem _ (List.mem_cons_of_mem _ (List.mem_cons_of_mem _ (List.mem_cons_of_mem _ (List.mem_cons_of_mem _ List.mem_cons_self))))))))))
  have g11 : 0 ≤ (0 : Int) + ((-1) * a4 + (1 * a7 + 0)) := hg _ (List.mem_cons_of_mem _ (List.mem_cons_of_mem _ (List.mem_cons_of_mem _ (List.mem_cons_of_mem _ (List.mem_cons_of_mem _ (List.mem_cons_of_mem _ (List.mem_cons_of_mem _ (List.mem_cons_of_mem _ (List.mem_cons_of_mem _ (List.mem_cons_of_mem _ (List.mem_cons_of_mem _ List.mem_cons_self)))))))))))
  have g12 : 0 ≤ ((-512) : Int) + (1 * a6 + 0) := hg _ (List.mem_cons_of_mem _ (List.mem_cons_of_mem _ (List.mem_cons_of_mem _ (List.mem_cons_of_mem _ (List.mem_cons_of_mem _ (List.mem_cons_of_mem _ (List.mem_cons_of_mem _ (List.mem_cons_of_mem _ (List.mem_cons_of_mem _ (List.mem_cons_of_mem _ (List.mem_cons_of_mem _ (List.mem_cons_of_mem _ List.mem_cons_self))))))))))))
  have r0 : 0 ≤ a0 := hr _ List.mem_cons_self
  have r := zh_its_m (w := w) (j := a0) (j1 := a8) (n := a1) (k := a2) (k1 := a5) (d := a3) (d1 := a6) (u := a4) (u1 := a7) (by omega) (by omega) (by omega) (by omega) (by omega) (by omega) (by omega) (by omega) (by omega) (by omega) (by omega) (by omega) (by omega) (by omega) (by omega) (by omega) 
  exact ⟨_, List.mem_cons_self, [], rfl, zx_bnil, zx_cs0, (zx_eF1 (by show 0 ≤ (0 : Int) + (1 * a8 + 0); omega) (by show zk_xe w 2000015 ((0 : Int) + (1 * a8 + 0)) = (1 : Int) + (0); rw [show (0 : Int) + (1 * a8 + 0) = a8 by omega]; exact r.trans (by omega)) zx_eF0), zx_k0⟩
def zx_E360 : zx_V := zx_Vc 61 [] 5 [(2000015, 0)] [((0, 0), [(2, 1, 0), (3, 0, 1), (4, 0, 4294967296), (5, 0, 18446744073709551616), (6, 0, 79228162514264337593543950336)]), ((0, 1), [(7, 1, 0)])] [((0, 0), [(3, 1, 0)]), ((4294967295, 0), [(3, 0, 1)]), ((0, 0), [(4, 1, 0)]), ((4294967295, 0), [(4, 0, 1)]), ((0, 0), [(5, 1, 0)]), ((4294967295, 0), [(5, 0, 1)]), ((0, 0), [(6, 1, 0)]), ((0, 0), [(0, 1, 0), (3, 0, 2)])] [(2000015, ((0, 0), [(2, 1, 0)]), ((1, 0), []))]
theorem zx_E360_ok {PT : Nat → zz_W → Prop} : zx_Vok 64 zHT PT zx_E360 := by
  refine zx_Vc_ok (fun w w' j ins hI hI' h0 hw hK hl he hg => ?_)
  obtain ⟨a0, a1, a2, a3, a4, rfl⟩ := zx_i5 hl
  have e0 : (0 : Int) + (1 * a0 + ((-1) * a1 + ((-4294967296) * a2 + ((-18446744073709551616) * a3 + ((-79228162514264337593543950336) * a4 + 0))))) = 0 := he _ List.mem_cons_self
  have e1 : ((-1) : Int) + (1 * (zk_xe w 2000015 a0) + 0) = 0 := he _ (List.mem_cons_of_mem _ List.mem_cons_self)
  have g0 : 0 ≤ (0 : Int) + (1 * a1 + 0) := hg _ List.mem_cons_self
  have g1 : 0 ≤ (4294967295 : Int) + ((-1) * a1 + 0) := hg _ (List.mem_cons_of_mem _ List.mem_cons_self)
  have g2 : 0 ≤ (0 : Int) + (1 * a2 + 0) := hg _ (List.mem_cons_of_mem _ (List.mem_cons_of_mem _ List.mem_cons_self))
  have g3 : 0 ≤ (4294967295 : Int) + ((-1) * a2 + 0) := hg _ (List.mem_cons_of_mem _ (List.mem_cons_of_mem _ (List.mem_cons_of_mem _ List.mem_cons_self)))
  have g4 : 0 ≤ (0 : Int) + (1 * a3 + 0) := hg _ (List.mem_cons_of_mem _ (List.mem_cons_of_mem _ (List.mem_cons_of_mem _ (List.mem_cons_of_mem _ List.mem_cons_self))))
  have g5 : 0 ≤ (4294967295 : Int) + ((-1) * a3 + 0) := hg _ (List.mem_cons_of_mem _ (List.mem_cons_of_mem _ (List.mem_cons_of_mem _ (List.mem_cons_of_mem _ (List.mem_cons_of_mem _ List.mem_cons_self)))))
  have g6 : 0 ≤ (0 : Int) + (1 * a4 + 0) := hg _ (List.mem_cons_of_mem _ (List.mem_cons_of_mem _ (List.mem_cons_of_mem _ (List.mem_cons_of_mem _ (List.mem_cons_of_mem _ (List.mem_cons_of_mem _ List.mem_cons_self))))))
  have g7 : 0 ≤ (0 : Int) + (1 * j + ((-2) * a1 + 0)) := hg _ (List.mem_cons_of_mem _ (List.mem_cons_of_mem _ (List.mem_cons_of_mem _ (List.mem_cons_of_mem _ (List.mem_cons_of_mem _ (List.mem_cons_of_mem _ (List.mem_cons_of_mem _ List.mem_cons_self)))))))
  have r : zk_xe w' 2000015 a0 = 1 := zh_its_w (n := a1) (k := a2) (d := a3) (u := a4) hw (by omega) (by omega) (by omega) (by omega) (by omega) (by omega) (by omega) (by omega) (by omega) 
  exact (zx_eF1 (by show 0 ≤ (0 : Int) + (1 * a0 + 0); omega) (by show zk_xe w' 2000015 ((0 : Int) + (1 * a0 + 0)) = (1 : Int) + (0); rw [show (0 : Int) + (1 * a0 + 0) = a0 by omega]; exact r.trans (by omega)) zx_eF0)
def zx_E361 : zx_V := zx_Vc 61 [] 5 [(2000015, 0)] [((0, 0), [(2, 1, 0), (3, 0, 1), (4, 0, 4294967296), (5, 0, 18446744073709551616), (6, 0, 79228162514264337593543950336)]), ((0, 1), [(7, 1, 0)])] [((0, 0), [(3, 1, 0)]), ((4294967295, 0), [(3, 0, 1)]), ((0, 0), [(4, 1, 0)]), ((4294967295, 0), [(4, 0, 1)]), ((0, 0), [(5, 1, 0)]), ((4294967295, 0), [(5, 0, 1)]), ((0, 0), [(6, 1, 0)]), ((0, 1), [(0, 0, 1), (4, 2, 0)])] [(2000015, ((0, 0), [(2, 1, 0)]), ((1, 0), []))]
theorem zx_E361_ok {PT : Nat → zz_W → Prop} : zx_Vok 64 zHT PT zx_E361 := by
  refine zx_Vc_ok (fun w w' j ins hI hI' h0 hw hK hl he hg => ?_)
  obtain ⟨a0, a1, a2, a3, a4, rfl⟩ := zx_i5 hl
  have e0 : (0 : Int) + (1 * a0 + ((-1) * a1 + ((-4294967296) * a2 + ((-18446744073709551616) * a3 + ((-79228162514264337593543950336) * a4 + 0))))) = 0 := he _ List.mem_cons_self
  have e1 : ((-1) : Int) + (1 * (zk_xe w 2000015 a0) + 0) = 0 := he _ (List.mem_cons_of_mem _ List.mem_cons_self)
  have g0 : 0 ≤ (0 : Int) + (1 * a1 + 0) := hg _ List.mem_cons_self
  have g1 : 0 ≤ (4294967295 : Int) + ((-1) * a1 + 0) := hg _ (List.mem_cons_of_mem _ List.mem_cons_self)
  have g2 : 0 ≤ (0 : Int) + (1 * a2 + 0) := hg _ (List.mem_cons_of_mem _ (List.mem_cons_of_mem _ List.mem_cons_self))
  have g3 : 0 ≤ (4294967295 : Int) + ((-1) * a2 + 0) := hg _ (List.mem_cons_of_mem _ (List.mem_cons_of_mem _ (List.mem_cons_of_mem _ List.mem_cons_self)))
  have g4 : 0 ≤ (0 : Int) + (1 * a3 + 0) := hg _ (List.mem_cons_of_mem _ (List.mem_cons_of_mem _ (List.mem_cons_of_mem _ (List.mem_cons_of_mem _ List.mem_cons_self))))
  have g5 : 0 ≤ (4294967295 : Int) + ((-1) * a3 + 0) := hg _ (List.mem_cons_of_mem _ (List.mem_cons_of_mem _ (List.mem_cons_of_mem _ (List.mem_cons_of_mem _ (List.mem_cons_of_mem _ List.mem_cons_self)))))
  have g6 : 0 ≤ (0 : Int) + (1 * a4 + 0) := hg _ (List.mem_cons_of_mem _ (List.mem_cons_of_mem _ (List.mem_cons_of_mem _ (List.mem_cons_of_mem _ (List.mem_cons_of_mem _ (List.mem_cons_of_mem _ List.mem_cons_self))))))
  have g7 : 0 ≤ ((-1) : Int) + ((-1) * j + (2 * a2 + 0)) := hg _ (List.mem_cons_of_mem _ (List.mem_cons_of_mem _ (List.mem_cons_of_mem _ (List.mem_cons_of_mem _ (List.mem_cons_of_mem _ (List.mem_cons_of_mem _ (List.mem_cons_of_mem _ List.mem_cons_self)))))))
  have r : zk_xe w' 2000015 a0 = 1 := zh_its_w (n := a1) (k := a2) (d := a3) (u := a4) hw (by omega) (by omega) (by omega) (by omega) (by omega) (by omega) (by omega) (by omega) (by omega) 
  exact (zx_eF1 (by show 0 ≤ (0 : Int) + (1 * a0 + 0); omega) (by show zk_xe w' 2000015 ((0 : Int) + (1 * a0 + 0)) = (1 : Int) + (0); rw [show (0 : Int) + (1 * a0 + 0) = a0 by omega]; exact r.trans (by omega)) zx_eF0)
def zx_E420 : zx_V := zx_Vc 20 [] 4 [(2000031, 0)] [((0, 0), [(2, 1, 0), (3, 0, 1), (4, 0, 79228162514264337593543950336), (5, 0, 340282366920938463463374607431768211456)]), ((0, 1), [(6, 1, 0)])] [((0, 0), [(3, 1, 0)]), ((79228162514264337593543950335, 0), [(3, 0, 1)]), ((0, 0), [(4, 1, 0)]), ((4294967295, 0), [(4, 0, 1)]), ((0, 0), [(5, 1, 0)]), ((0, 1), [(0, 0, 1), (4, 6, 0)])] [(2000031, ((0, 0), [(2, 1, 0)]), ((1, 0), []))]
theorem zx_E420_ok {PT : Nat → zz_W → Prop} : zx_Vok 64 zHT PT zx_E420 := by
  refine zx_Vc_ok (fun w w' j ins hI hI' h0 hw hK hl he hg => ?_)
  obtain ⟨a0, a1, a2, a3, rfl⟩ := zx_i4 hl
  have e0 : (0 : Int) + (1 * a0 + ((-1) * a1 + ((-79228162514264337593543950336) * a2 + ((-340282366920938463463374607431768211456) * a3 + 0)))) = 0 := he _ List.mem_cons_self
  have e1 : ((-1) : Int) + (1 * (zk_xe w 2000031 a0) + 0) = 0 := he _ (List.mem_cons_of_mem _ List.mem_cons_self)
  have g0 : 0 ≤ (0 : Int) + (1 * a1 + 0) := hg _ List.mem_cons_self
  have g1 : 0 ≤ (79228162514264337593543950335 : Int) + ((-1) * a1 + 0) := hg _ (List.mem_cons_of_mem _ List.mem_cons_self)
  have g2 : 0 ≤ (0 : Int) + (1 * a2 + 0) := hg _ (List.mem_cons_of_mem _ (List.mem_cons_of_mem _ List.mem_cons_self))
  have g3 : 0 ≤ (4294967295 : Int) + ((-1) * a2 + 0) := hg _ (List.mem_cons_of_mem _ (List.mem_cons_of_mem _ (List.mem_cons_of_mem _ List.mem_cons_self)))
  have g4 : 0 ≤ (0 : Int) + (1 * a3 + 0) := hg _ (List.mem_cons_of_mem _ (List.mem_cons_of_mem _ (List.mem_cons_of_mem _ (List.mem_cons_of_mem _ List.mem_cons_self))))
  have g5 : 0 ≤ ((-1) : Int) + ((-1) * j + (6 * a2 + 0)) := hg _ (List.mem_cons_of_mem _ (List.mem_cons_of_mem _ (List.mem_cons_of_mem _ (List.mem_cons_of_mem _ (List.mem_cons_of_mem _ List.mem_cons_self)))))
  have r : zk_xe w' 2000031 a0 = 1 := zg_w20 (p := a1) (u := a2) (q := a3) hw (by omega) (by omega) (by omega) (by omega) (by omega) (by omega) (by omega) (by omega) 
  exact (zx_eF1 (by show 0 ≤ (0 : Int) + (1 * a0 + 0); omega) (by show zk_xe w' 2000031 ((0 : Int) + (1 * a0 + 0)) = (1 : Int) + (0); rw [show (0 : Int) + (1 * a0 + 0) = a0 by omega]; exact r.trans (by omega)) zx_eF0)
def zx_E421 : zx_V := zx_Vc 20 [] 2 [(2000031, 0)] [((0, 5), [(0, 1, 0), (3, 0, 6)]), ((0, 1), [(4, 1, 0)])] [((0, 0), [(2, 1, 0)])] [(2000031, ((0, 0), [(2, 1, 0)]), ((1, 0), []))]
theorem zx_E421_ok {PT : Nat → zz_W → Prop} : zx_Vok 64 zHT PT zx_E421 := by
  refine zx_Vc_ok (fun w w' j ins hI hI' h0 hw hK hl he hg => ?_)
  obtain ⟨a0, a1, rfl⟩ := zx_i2 hl
  have e0 : ((-5) : Int) + (1 * j + ((-6) * a1 + 0)) = 0 := he _ List.mem_cons_self
  have e1 : ((-1) : Int) + (1 * (zk_xe w 2000031 a0) + 0) = 0 := he _ (List.mem_cons_of_mem _ List.mem_cons_self)
  have g0 : 0 ≤ (0 : Int) + (1 * a0 + 0) := hg _ List.mem_cons_self
  have r : zk_xe w' 2000031 a0 = 1 := zg_w20b (x := a1) hw (by omega) (by omega)
  exact (zx_eF1 (by show 0 ≤ (0 : Int) + (1 * a0 + 0); omega) (by show zk_xe w' 2000031 ((0 : Int) + (1 * a0 + 0)) = (1 : Int) + (0); rw [show (0 : Int) + (1 * a0 + 0) = a0 by omega]; exact r.trans (by omega)) zx_eF0)
def zx_D490 : zx_L := zx_Lc [] 5 [(2000031, 0)] [] [((0, 0), [(0, 1, 0), (1, 0, 4294967296), (2, 0, 340282366920938463463374607431768211456), (3, 0, 6277101735386680763835789423207666416102355444464034512896)]), ((0, 0), [(1, 0, 1), (2, 0, 18446744073709551616), (3, 0, 79228162514264337593543950336), (4, 1, 0)]), ((0, 1), [(5, 1, 0)])] [((0, 0), [(1, 1, 0)]), ((3199, 0), [(1, 0, 1)]), ((0, 0), [(2, 1, 0)]), ((4294967294, 0), [(2, 0, 1)]), ((0, 0), [(3, 1, 0)]), ((748, 0), [(3, 0, 1)])] [([], [], [(2000043, ((0, 0), [(4, 1, 0)]), ((1, 0), []))], [])]
theorem zx_D490_ok {PT : Nat → zz_W → Prop} : zx_Lok 64 zHT PT zx_D490 := by
  refine zx_Lc_ok (fun w hI hK ins hl hr he hg => ?_)
  obtain ⟨a0, a1, a2, a3, a4, rfl⟩ := zx_i5 hl
  have e0 : (0 : Int) + (1 * a0 + ((-4294967296) * a1 + ((-340282366920938463463374607431768211456) * a2 + ((-6277101735386680763835789423207666416102355444464034512896) * a3 + 0)))) = 0 := he _ List.mem_cons_self
  have e1 : (0 : Int) + ((-1) * a1 + ((-18446744073709551616) * a2 + ((-79228162514264337593543950336) * a3 + (1 * a4 + 0)))) = 0 := he _ (List.mem_cons_of_mem _ List.mem_cons_self)
  have e2 : ((-1) : Int) + (1 * (zk_xe w 2000031 a0) + 0) = 0 := he _ (List.mem_cons_of_mem _ (List.mem_cons_of_mem _ List.mem_cons_self))
  have g0 : 0 ≤ (0 : Int) + (1 * a1 + 0) := hg _ List.mem_cons_self
  have g1 : 0 ≤ (3199 : Int) + ((-1) * a1 + 0) := hg _ (List.mem_cons_of_mem _ List.mem_cons_self)
  have g2 : 0 ≤ (0 : Int) + (1 * a2 + 0) := hg _ (List.mem_cons_of_mem _ (List.mem_cons_of_mem _ List.mem_cons_self))
  have g3 : 0 ≤ (4294967294 : Int) + ((-1) * a2 + 0) := hg _ (List.mem_cons_of_mem _ (List.mem_cons_of_mem _ (List.mem_cons_of_mem _ List.mem_cons_self)))
  have g4 : 0 ≤ (0 : Int) + (1 * a3 + 0) := hg _ (List.mem_cons_of_mem _ (List.mem_cons_of_mem _ (List.mem_cons_of_mem _ (List.mem_cons_of_mem _ List.mem_cons_self))))
  have g5 : 0 ≤ (748 : Int) + ((-1) * a3 + 0) := hg _ (List.mem_cons_of_mem _ (List.mem_cons_of_mem _ (List.mem_cons_of_mem _ (List.mem_cons_of_mem _ (List.mem_cons_of_mem _ List.mem_cons_self)))))
  have r0 : 0 ≤ a0 := hr _ List.mem_cons_self
  have r := zg_t0 (w := w) (j1 := a0) (j := a4) (n := a1) (u := a2) (l := a3) (by omega) (by omega) (by omega) (by omega) (by omega) (by omega) (by omega) (by omega) (by omega) 
  exact ⟨_, List.mem_cons_self, [], rfl, zx_bnil, zx_cs0, (zx_eF1 (by show 0 ≤ (0 : Int) + (1 * a4 + 0); omega) (by show zk_xe w 2000043 ((0 : Int) + (1 * a4 + 0)) = (1 : Int) + (0); rw [show (0 : Int) + (1 * a4 + 0) = a4 by omega]; exact r.trans (by omega)) zx_eF0), zx_k0⟩
def zx_D491 : zx_L := zx_Lc [] 8 [(2000043, 0), (61, 6)] [] [((0, 0), [(0, 1, 0), (1, 0, 1), (2, 0, 4294967296), (3, 0, 18446744073709551616), (4, 0, 79228162514264337593543950336)]), ((0, 4294967296), [(1, 0, 1), (2, 0, 4294967296), (3, 0, 18446744073709551616), (4, 0, 79228162514264337593543950336), (5, 1, 0)]), ((0, 0), [(2, 0, 2), (6, 1, 0)]), ((0, 1), [(8, 1, 0)])] [((0, 0), [(1, 1, 0)]), ((4294967294, 0), [(1, 0, 1)]), ((0, 0), [(2, 1, 0)]), ((4294967294, 0), [(2, 0, 1)]), ((0, 0), [(3, 1, 0)]), ((4294967294, 0), [(3, 0, 1)]), ((0, 0), [(4, 1, 0)]), ((4294967294, 0), [(4, 0, 1)]), ((0, 0), [(7, 0, 64), (9, 1, 0)]), ((6, 0), [(7, 64, 0), (9, 0, 1)])] [([], [], [(2000043, ((0, 0), [(5, 1, 0)]), ((1, 0), []))], [])]
theorem zx_D491_ok {PT : Nat → zz_W → Prop} : zx_Lok 64 zHT PT zx_D491 := by
  refine zx_Lc_ok (fun w hI hK ins hl hr he hg => ?_)
  obtain ⟨a0, a1, a2, a3, a4, a5, a6, a7, rfl⟩ := zx_i8 hl
  have e0 : (0 : Int) + (1 * a0 + ((-1) * a1 + ((-4294967296) * a2 + ((-18446744073709551616) * a3 + ((-79228162514264337593543950336) * a4 + 0))))) = 0 := he _ List.mem_cons_self
  have e1 : ((-4294967296) : Int) + ((-1) * a1 + ((-4294967296) * a2 + ((-18446744073709551616) * a3 + ((-79228162514264337593543950336) * a4 + (1 * a5 + 0))))) = 0 := he _ (List.mem_cons_of_mem _ List.mem_cons_self)
  have e2 : (0 : Int) + ((-2) * a2 + (1 * a6 + 0)) = 0 := he _ (List.mem_cons_of_mem _ (List.mem_cons_of_mem _ List.mem_cons_self))
  have e3 : ((-1) : Int) + (1 * (zk_xe w 2000043 a0) + 0) = 0 := he _ (List.mem_cons_of_mem _ (List.mem_cons_of_mem _ (List.mem_cons_of_mem _ List.mem_cons_self)))
  have g0 : 0 ≤ (0 : Int) + (1 * a1 + 0) := hg _ List.mem_cons_self
  have g1 : 0 ≤ (4294967294 : Int) + ((-1) * a1 + 0) := hg _ (List.mem_cons_of_mem _ List.mem_cons_self)
  have g2 : 0 ≤ (0 : Int) + (1 * a2 + 0) := hg _ (List.mem_cons_of_mem _ (List.mem_cons_of_mem _ List.mem_cons_self))
  have g3 : 0 ≤ (4294967294 : Int) + ((-1) * a2 + 0) := hg _ (List.mem_cons_of_mem _ (List.mem_cons_of_mem _ (List.mem_cons_of_mem _ List.mem_cons_self)))
  have g4 : 0 ≤ (0 : Int) + (1 * a3 + 0) := hg _ (List.mem_cons_of_mem _ (List.mem_cons_of_mem _ (List.mem_cons_of_mem _ (List.mem_cons_of_mem _ List.mem_cons_self))))
  have g5 : 0 ≤ (4294967294 : Int) + ((-1) * a3 + 0) := hg _ (List.mem_cons_of_mem _ (List.mem_cons_of_mem _ (List.mem_cons_of_mem _ (List.mem_cons_of_mem _ (List.mem_cons_of_mem _ List.mem_cons_self)))))
  have g6 : 0 ≤ (0 : Int) + (1 * a4 + 0) := hg _ (List.mem_cons_of_mem _ (List.mem_cons_of_mem _ (List.mem_cons_of_mem _ (List.mem_cons_of_mem _ (List.mem_cons_of_mem _ (List.mem_cons_of_mem _ List.mem_cons_self))))))
  have g7 : 0 ≤ (4294967294 : Int) + ((-1) * a4 + 0) := hg _ (List.mem_cons_of_mem _ (List.mem_cons_of_mem _ (List.mem_cons_of_mem _ (List.mem_cons_of_mem _ (List.mem_cons_of_mem _ (List.mem_cons_of_mem _ (List.mem_cons_of_mem _ List.mem_cons_self)))))))
  have g8 : 0 ≤ (0 : Int) + ((-64) * a7 + (1 * (zk_xe w 61 a6) + 0)) := hg _ (List.mem_cons_of_mem _ (List.mem_cons_of_mem _ (List.mem_cons_of_mem _ (List.mem_cons_of_mem _ (List.mem_cons_of_mem _ (List.mem_cons_of_mem _ (List.mem_cons_of_mem _ (List.mem_cons_of_mem _ List.mem_cons_self))))))))
  have g9 : 0 ≤ (6 : Int) + (64 * a7 + ((-1) * (zk_xe w 61 a6) + 0)) := hg _ (List.mem_cons_of_mem _ (List.mem_cons_of_mem _ (List.mem_cons_of_mem _ (List.mem_cons_of_mem _ (List.mem_cons_of_mem _ (List.mem_cons_of_mem _ (List.mem_cons_of_mem _ (List.mem_cons_of_mem _ (List.mem_cons_of_mem _ List.mem_cons_self)))))))))
  have r0 : 0 ≤ a0 := hr _ List.mem_cons_self
  have r1 : 0 ≤ a6 := hr _ (List.mem_cons_of_mem _ List.mem_cons_self)
  have hp : zh_e w 61 (2 * a2) = zk_xe w 61 a6 := by rw [zk_xe_r rfl]; show zk_el w 61 (2 * a2) = zk_el w 61 a6; rw [show 2 * a2 = a6 by omega]
  have r := zg_tn (w := w) (j := a0) (j' := a5) (n := a1) (k := a2) (u := a3) (l := a4) (p := zk_xe w 61 a6) (q := a7) (by omega) (by omega) (by omega) (by omega) (by omega) (by omega) (by omega) (by omega) (by omega) (by omega) (by omega) hp (by omega)
  exact ⟨_, List.mem_cons_self, [], rfl, zx_bnil, zx_cs0, (zx_eF1 (by show 0 ≤ (0 : Int) + (1 * a5 + 0); omega) (by show zk_xe w 2000043 ((0 : Int) + (1 * a5 + 0)) = (1 : Int) + (0); rw [show (0 : Int) + (1 * a5 + 0) = a5 by omega]; exact r.trans (by omega)) zx_eF0), zx_k0⟩
def zx_D492 : zx_L := zx_Lc [] 8 [(2000043, 0), (61, 6)] [] [((0, 0), [(0, 1, 0), (1, 0, 1), (2, 0, 4294967296), (3, 0, 18446744073709551616), (4, 0, 79228162514264337593543950336)]), ((0, 4294967296), [(1, 0, 1), (2, 0, 4294967296), (3, 0, 18446744073709551616), (4, 0, 79228162514264337593543950336), (5, 1, 0)]), ((0, 0), [(2, 0, 2), (6, 1, 0)]), ((0, 1), [(8, 1, 0)])] [((0, 0), [(1, 1, 0)]), ((4294967294, 0), [(1, 0, 1)]), ((0, 0), [(2, 1, 0)]), ((4294967294, 0), [(2, 0, 1)]), ((0, 0), [(3, 1, 0)]), ((4294967294, 0), [(3, 0, 1)]), ((0, 0), [(4, 1, 0)]), ((4294967294, 0), [(4, 0, 1)]), ((0, 12), [(7, 0, 64), (9, 1, 0)]), ((28, 0), [(7, 64, 0), (9, 0, 1)])] [([], [], [(2000043, ((0, 0), [(5, 1, 0)]), ((1, 0), []))], [])]
theorem zx_D492_ok {PT : Nat → zz_W → Prop} : zx_Lok 64 zHT PT zx_D492 := by
  refine zx_Lc_ok (fun w hI hK ins hl hr he hg => ?_)
  obtain ⟨a0, a1, a2, a3, a4, a5, a6, a7, rfl⟩ := zx_i8 hl
  have e0 : (0 : Int) + (1 * a0 + ((-1) * a1 + ((-4294967296) * a2 + ((-18446744073709551616) * a3 + ((-79228162514264337593543950336) * a4 + 0))))) = 0 := he _ List.mem_cons_self
  have e1 : ((-4294967296) : Int) + ((-1) * a1 + ((-4294967296) * a2 + ((-18446744073709551616) * a3 + ((-79228162514264337593543950336) * a4 + (1 * a5 + 0))))) = 0 := he _ (List.mem_cons_of_mem _ List.mem_cons_self)
  have e2 : (0 : Int) + ((-2) * a2 + (1 * a6 + 0)) = 0 := he _ (List.mem_cons_of_mem _ (List.mem_cons_of_mem _ List.mem_cons_self))
  have e3 : ((-1) : Int) + (1 * (zk_xe w 2000043 a0) + 0) = 0 := he _ (List.mem_cons_of_mem _ (List.mem_cons_of_mem _ (List.mem_cons_of_mem _ List.mem_cons_self)))
  have g0 : 0 ≤ (0 : Int) + (1 * a1 + 0) := hg _ List.mem_cons_self
  have g1 : 0 ≤ (4294967294 : Int) + ((-1) * a1 + 0) := hg _ (List.mem_cons_of_mem _ List.mem_cons_self)
  have g2 : 0 ≤ (0 : Int) + (1 * a2 + 0) := hg _ (List.mem_cons_of_mem _ (List.mem_cons_of_mem _ List.mem_cons_self))
  have g3 : 0 ≤ (4294967294 : Int) + ((-1) * a2 + 0) := hg _ (List.mem_cons_of_mem _ (List.mem_cons_of_mem _ (List.mem_cons_of_mem _ List.mem_cons_self)))
  have g4 : 0 ≤ (0 : Int) + (1 * a3 + 0) := hg _ (List.mem_cons_of_mem _ (List.mem_cons_of_mem _ (List.mem_cons_of_mem _ (List.mem_cons_of_mem _ List.mem_cons_self))))
  have g5 : 0 ≤ (4294967294 : Int) + ((-1) * a3 + 0) := hg _ (List.mem_cons_of_mem _ (List.mem_cons_of_mem _ (List.mem_cons_of_mem _ (List.mem_cons_of_mem _ (List.mem_cons_of_mem _ List.mem_cons_self)))))
  have g6 : 0 ≤ (0 : Int) + (1 * a4 + 0) := hg _ (List.mem_cons_of_mem _ (List.mem_cons_of_mem _ (List.mem_cons_of_mem _ (List.mem_cons_of_mem _ (List.mem_cons_of_mem _ (List.mem_cons_of_mem _ List.mem_cons_self))))))
  have g7 : 0 ≤ (4294967294 : Int) + ((-1) * a4 + 0) := hg _ (List.mem_cons_of_mem _ (List.mem_cons_of_mem _ (List.mem_cons_of_mem _ (List.mem_cons_of_mem _ (List.mem_cons_of_mem _ (List.mem_cons_of_mem _ (List.mem_cons_of_mem _ List.mem_cons_self)))))))
  have g8 : 0 ≤ ((-12) : Int) + ((-64) * a7 + (1 * (zk_xe w 61 a6) + 0)) := hg _ (List.mem_cons_of_mem _ (List.mem_cons_of_mem _ (List.mem_cons_of_mem _ (List.mem_cons_of_mem _ (List.mem_cons_of_mem _ (List.mem_cons_of_mem _ (List.mem_cons_of_mem _ (List.mem_cons_of_mem _ List.mem_cons_self))))))))
  have g9 : 0 ≤ (28 : Int) + (64 * a7 + ((-1) * (zk_xe w 61 a6) + 0)) := hg _ (List.mem_cons_of_mem _ (List.mem_cons_of_mem _ (List.mem_cons_of_mem _ (List.mem_cons_of_mem _ (List.mem_cons_of_mem _ (List.mem_cons_of_mem _ (List.mem_cons_of_mem _ (List.mem_cons_of_mem _ (List.mem_cons_of_mem _ List.mem_cons_self)))))))))
  have r0 : 0 ≤ a0 := hr _ List.mem_cons_self
  have r1 : 0 ≤ a6 := hr _ (List.mem_cons_of_mem _ List.mem_cons_self)
  have hp : zh_e w 61 (2 * a2) = zk_xe w 61 a6 := by rw [zk_xe_r rfl]; show zk_el w 61 (2 * a2) = zk_el w 61 a6; rw [show 2 * a2 = a6 by omega]
  have r := zg_tn (w := w) (j := a0) (j' := a5) (n := a1) (k := a2) (u := a3) (l := a4) (p := zk_xe w 61 a6) (q := a7) (by omega) (by omega) (by omega) (by omega) (by omega) (by omega) (by omega) (by omega) (by omega) (by omega) (by omega) hp (by omega)
  exact ⟨_, List.mem_cons_self, [], rfl, zx_bnil, zx_cs0, (zx_eF1 (by show 0 ≤ (0 : Int) + (1 * a5 + 0); omega) (by show zk_xe w 2000043 ((0 : Int) + (1 * a5 + 0)) = (1 : Int) + (0); rw [show (0 : Int) + (1 * a5 + 0) = a5 by omega]; exact r.trans (by omega)) zx_eF0), zx_k0⟩
def zx_D493 : zx_L := zx_Lc [] 8 [(2000043, 0), (61, 6)] [] [((0, 0), [(0, 1, 0), (1, 0, 1), (2, 0, 4294967296), (3, 0, 18446744073709551616), (4, 0, 79228162514264337593543950336)]), ((0, 4294967296), [(1, 0, 1), (2, 0, 4294967296), (3, 0, 18446744073709551616), (4, 0, 79228162514264337593543950336), (5, 1, 0)]), ((0, 0), [(2, 0, 2), (6, 1, 0)]), ((0, 1), [(8, 1, 0)])] [((0, 0), [(1, 1, 0)]), ((4294967294, 0), [(1, 0, 1)]), ((0, 0), [(2, 1, 0)]), ((4294967294, 0), [(2, 0, 1)]), ((0, 0), [(3, 1, 0)]), ((4294967294, 0), [(3, 0, 1)]), ((0, 0), [(4, 1, 0)]), ((4294967294, 0), [(4, 0, 1)]), ((0, 34), [(7, 0, 64), (9, 1, 0)]), ((63, 0), [(7, 64, 0), (9, 0, 1)])] [([], [], [(2000043, ((0, 0), [(5, 1, 0)]), ((1, 0), []))], [])]
theorem zx_D493_ok {PT : Nat → zz_W → Prop} : zx_Lok 64 zHT PT zx_D493 := by
  refine zx_Lc_ok (fun w hI hK ins hl hr he hg => ?_)
  obtain ⟨a0, a1, a2, a3, a4, a5, a6, a7, rfl⟩ := zx_i8 hl
  have e0 : (0 : Int) + (1 * a0 + ((-1) * a1 + ((-4294967296) * a2 + ((-18446744073709551616) * a3 + ((-79228162514264337593543950336) * a4 + 0))))) = 0 := he _ List.mem_cons_self
  have e1 : ((-4294967296) : Int) + ((-1) * a1 + ((-4294967296) * a2 + ((-18446744073709551616) * a3 + ((-79228162514264337593543950336) * a4 + (1 * a5 + 0))))) = 0 := he _ (List.mem_cons_of_mem _ List.mem_cons_self)
  have e2 : (0 : Int) + ((-2) * a2 + (1 * a6 + 0)) = 0 := he _ (List.mem_cons_of_mem _ (List.mem_cons_of_mem _ List.mem_cons_self))
  have e3 : ((-1) : Int) + (1 * (zk_xe w 2000043 a0) + 0) = 0 := he _ (List.mem_cons_of_mem _ (List.mem_cons_of_mem _ (List.mem_cons_of_mem _ List.mem_cons_self)))
  have g0 : 0 ≤ (0 : Int) + (1 * a1 + 0) := hg _ List.mem_cons_self
  have g1 : 0 ≤ (4294967294 : Int) + ((-1) * a1 + 0) := hg _ (List.mem_cons_of_mem _ List.mem_cons_self)
  have g2 : 0 ≤ (0 : Int) + (1 * a2 + 0) := hg _ (List.mem_cons_of_mem _ (List.mem_cons_of_mem _ List.mem_cons_self))
  have g3 : 0 ≤ (4294967294 : Int) + ((-1) * a2 + 0) := hg _ (List.mem_cons_of_mem _ (List.mem_cons_of_mem _ (List.mem_cons_of_mem _ List.mem_cons_self)))
  have g4 : 0 ≤ (0 : Int) + (1 * a3 + 0) := hg _ (List.mem_cons_of_mem _ (List.mem_cons_of_mem _ (List.mem_cons_of_mem _ (List.mem_cons_of_mem _ List.mem_cons_self))))
  have g5 : 0 ≤ (4294967294 : Int) + ((-1) * a3 + 0) := hg _ (List.mem_cons_of_mem _ (List.mem_cons_of_mem _ (List.mem_cons_of_mem _ (List.mem_cons_of_mem _ (List.mem_cons_of_mem _ List.mem_cons_self)))))
  have g6 : 0 ≤ (0 : Int) + (1 * a4 + 0) := hg _ (List.mem_cons_of_mem _ (List.mem_cons_of_mem _ (List.mem_cons_of_mem _ (List.mem_cons_of_mem _ (List.mem_cons_of_mem _ (List.mem_cons_of_mem _ List.mem_cons_self))))))
  have g7 : 0 ≤ (4294967294 : Int) + ((-1) * a4 + 0) := hg _ (List.mem_cons_of_mem _ (List.mem_cons_of_mem _ (List.mem_cons_of_mem _ (List.mem_cons_of_mem _ (List.mem_cons_of_mem _ (List.mem_cons_of_mem _ (List.mem_cons_of_mem _ List.mem_cons_self)))))))
  have g8 : 0 ≤ ((-34) : Int) + ((-64) * a7 + (1 * (zk_xe w 61 a6) + 0)) := hg _ (List.mem_cons_of_mem _ (List.mem_cons_of_mem _ (List.mem_cons_of_mem _ (List.mem_cons_of_mem _ (List.mem_cons_of_mem _ (List.mem_cons_of_mem _ (List.mem_cons_of_mem _ (List.mem_cons_of_mem _ List.mem_cons_self))))))))
  have g9 : 0 ≤ (63 : Int) + (64 * a7 + ((-1) * (zk_xe w 61 a6) + 0)) := hg _ (List.mem_cons_of_mem _ (List.mem_cons_of_mem _ (List.mem_cons_of_mem _ (List.mem_cons_of_mem _ (List.mem_cons_of_mem _ (List.mem_cons_of_mem _ (List.mem_cons_of_mem _ (List.mem_cons_of_mem _ (List.mem_cons_of_mem _ List.mem_cons_self)))))))))
  have r0 : 0 ≤ a0 := hr _ List.mem_cons_self
  have r1 : 0 ≤ a6 := hr _ (List.mem_cons_of_mem _ List.mem_cons_self)
  have hp : zh_e w 61 (2 * a2) = zk_xe w 61 a6 := by rw [zk_xe_r rfl]; show zk_el w 61 (2 * a2) = zk_el w 61 a6; rw [show 2 * a2 = a6 by omega]
  have r := zg_tn (w := w) (j := a0) (j' := a5) (n := a1) (k := a2) (u := a3) (l := a4) (p := zk_xe w 61 a6) (q := a7) (by omega) (by omega) (by omega) (by omega) (by omega) (by omega) (by omega) (by omega) (by omega) (by omega) (by omega) hp (by omega)
  exact ⟨_, List.mem_cons_self, [], rfl, zx_bnil, zx_cs0, (zx_eF1 (by show 0 ≤ (0 : Int) + (1 * a5 + 0); omega) (by show zk_xe w 2000043 ((0 : Int) + (1 * a5 + 0)) = (1 : Int) + (0); rw [show (0 : Int) + (1 * a5 + 0) = a5 by omega]; exact r.trans (by omega)) zx_eF0), zx_k0⟩
def zx_E440 : zx_V := zx_Vc 61 [] 14 [(2000043, 0), (61, 6), (61, 7), (20, 9), (20, 10), (20, 11), (20, 12), (20, 13)] [((0, 0), [(2, 1, 0), (3, 0, 1), (4, 0, 4294967296), (5, 0, 18446744073709551616), (6, 0, 79228162514264337593543950336)]), ((0, 4294967296), [(3, 0, 1), (4, 0, 4294967296), (5, 0, 18446744073709551616), (6, 0, 79228162514264337593543950336), (7, 1, 0)]), ((0, 0), [(4, 0, 2), (8, 1, 0)]), ((0, 1), [(4, 0, 2), (9, 1, 0)]), ((0, 0), [(0, 1, 0), (9, 0, 1)]), ((0, 3), [(11, 1, 0), (18, 0, 6)]), ((0, 4), [(12, 1, 0), (18, 0, 6)]), ((0, 5), [(13, 1, 0), (18, 0, 6)]), ((0, 2), [(14, 1, 0), (18, 0, 6)]), ((0, 1), [(16, 1, 0)]), ((0, 0), [(1, 1, 0), (20, 0, 1)])] [((0, 0), [(3, 1, 0)]), ((4294967294, 0), [(3, 0, 1)]), ((0, 0), [(4, 1, 0)]), ((4294967294, 0), [(4, 0, 1)]), ((0, 0), [(5, 1, 0)]), ((4294967294, 0), [(5, 0, 1)]), ((0, 0), [(6, 1, 0)]), ((4294967294, 0), [(6, 0, 1)]), ((0, 1), [(3, 1, 0), (4, 0, 1)]), ((0, 8), [(10, 0, 64), (17, 1, 0)]), ((8, 0), [(10, 64, 0), (17, 0, 1)]), ((0, 0), [(19, 1, 0)]), ((403, 0), [(19, 0, 1)]), ((2, 0), [(22, 0, 1)]), ((0, 0), [(20, 1, 0)]), ((404, 0), [(19, 0, 1), (20, 0, 1)])] [(2000043, ((0, 0), [(7, 1, 0)]), ((1, 0), []))]
theorem zx_E440_ok {PT : Nat → zz_W → Prop} : zx_Vok 64 zHT PT zx_E440 := by
  refine zx_Vc_ok (fun w w' j ins hI hI' h0 hw hK hl he hg => ?_)
  obtain ⟨a0, a1, a2, a3, a4, a5, a6, a7, a8, a9, a10, a11, a12, a13, rfl⟩ := zx_i14 hl
  have e0 : (0 : Int) + (1 * a0 + ((-1) * a1 + ((-4294967296) * a2 + ((-18446744073709551616) * a3 + ((-79228162514264337593543950336) * a4 + 0))))) = 0 := he _ List.mem_cons_self
  have e1 : ((-4294967296) : Int) + ((-1) * a1 + ((-4294967296) * a2 + ((-18446744073709551616) * a3 + ((-79228162514264337593543950336) * a4 + (1 * a5 + 0))))) = 0 := he _ (List.mem_cons_of_mem _ List.mem_cons_self)
  have e2 : (0 : Int) + ((-2) * a2 + (1 * a6 + 0)) = 0 := he _ (List.mem_cons_of_mem _ (List.mem_cons_of_mem _ List.mem_cons_self))
  have e3 : ((-1) : Int) + ((-2) * a2 + (1 * a7 + 0)) = 0 := he _ (List.mem_cons_of_mem _ (List.mem_cons_of_mem _ (List.mem_cons_of_mem _ List.mem_cons_self)))
  have e4 : (0 : Int) + (1 * j + ((-1) * a7 + 0)) = 0 := he _ (List.mem_cons_of_mem _ (List.mem_cons_of_mem _ (List.mem_cons_of_mem _ (List.mem_cons_of_mem _ List.mem_cons_self))))
  have e5 : ((-3) : Int) + (1 * a9 + ((-6) * (zk_xe w 61 a7) + 0)) = 0 := he _ (List.mem_cons_of_mem _ (List.mem_cons_of_mem _ (List.mem_cons_of_mem _ (List.mem_cons_of_mem _ (List.mem_cons_of_mem _ List.mem_cons_self)))))
  have e6 : ((-4) : Int) + (1 * a10 + ((-6) * (zk_xe w 61 a7) + 0)) = 0 := he _ (List.mem_cons_of_mem _ (List.mem_cons_of_mem _ (List.mem_cons_of_mem _ (List.mem_cons_of_mem _ (List.mem_cons_of_mem _ (List.mem_cons_of_mem _ List.mem_cons_self))))))
  have e7 : ((-5) : Int) + (1 * a11 + ((-6) * (zk_xe w 61 a7) + 0)) = 0 := he _ (List.mem_cons_of_mem _ (List.mem_cons_of_mem _ (List.mem_cons_of_mem _ (List.mem_cons_of_mem _ (List.mem_cons_of_mem _ (List.mem_cons_of_mem _ (List.mem_cons_of_mem _ List.mem_cons_self)))))))
  have e8 : ((-2) : Int) + (1 * a12 + ((-6) * (zk_xe w 61 a7) + 0)) = 0 := he _ (List.mem_cons_of_mem _ (List.mem_cons_of_mem _ (List.mem_cons_of_mem _ (List.mem_cons_of_mem _ (List.mem_cons_of_mem _ (List.mem_cons_of_mem _ (List.mem_cons_of_mem _ (List.mem_cons_of_mem _ List.mem_cons_self))))))))
  have e9 : ((-1) : Int) + (1 * (zk_xe w 2000043 a0) + 0) = 0 := he _ (List.mem_cons_of_mem _ (List.mem_cons_of_mem _ (List.mem_cons_of_mem _ (List.mem_cons_of_mem _ (List.mem_cons_of_mem _ (List.mem_cons_of_mem _ (List.mem_cons_of_mem _ (List.mem_cons_of_mem _ (List.mem_cons_of_mem _ List.mem_cons_self)))))))))
  have e10 : (0 : Int) + (1 * (zk_el w' 61 j) + ((-1) * (zk_xe w 20 a10) + 0)) = 0 := he _ (List.mem_cons_of_mem _ (List.mem_cons_of_mem _ (List.mem_cons_of_mem _ (List.mem_cons_of_mem _ (List.mem_cons_of_mem _ (List.mem_cons_of_mem _ (List.mem_cons_of_mem _ (List.mem_cons_of_mem _ (List.mem_cons_of_mem _ (List.mem_cons_of_mem _ List.mem_cons_self))))))))))
  have g0 : 0 ≤ (0 : Int) + (1 * a1 + 0) := hg _ List.mem_cons_self
  have g1 : 0 ≤ (4294967294 : Int) + ((-1) * a1 + 0) := hg _ (List.mem_cons_of_mem _ List.mem_cons_self)
  have g2 : 0 ≤ (0 : Int) + (1 * a2 + 0) := hg _ (List.mem_cons_of_mem _ (List.mem_cons_of_mem _ List.mem_cons_self))
  have g3 : 0 ≤ (4294967294 : Int) + ((-1) * a2 + 0) := hg _ (List.mem_cons_of_mem _ (List.mem_cons_of_mem _ (List.mem_cons_of_mem _ List.mem_cons_self)))
  have g4 : 0 ≤ (0 : Int) + (1 * a3 + 0) := hg _ (List.mem_cons_of_mem _ (List.mem_cons_of_mem _ (List.mem_cons_of_mem _ (List.mem_cons_of_mem _ List.mem_cons_self))))
  have g5 : 0 ≤ (4294967294 : Int) + ((-1) * a3 + 0) := hg _ (List.mem_cons_of_mem _ (List.mem_cons_of_mem _ (List.mem_cons_of_mem _ (List.mem_cons_of_mem _ (List.mem_cons_of_mem _ List.mem_cons_self)))))
  have g6 : 0 ≤ (0 : Int) + (1 * a4 + 0) := hg _ (List.mem_cons_of_mem _ (List.mem_cons_of_mem _ (List.mem_cons_of_mem _ (List.mem_cons_of_mem _ (List.mem_cons_of_mem _ (List.mem_cons_of_mem _ List.mem_cons_self))))))
  have g7 : 0 ≤ (4294967294 : Int) + ((-1) * a4 + 0) := hg _ (List.mem_cons_of_mem _ (List.mem_cons_of_mem _ (List.mem_cons_of_mem _ (List.mem_cons_of_mem _ (List.mem_cons_of_mem _ (List.mem_cons_of_mem _ (List.mem_cons_of_mem _ List.mem_cons_self)))))))
  have g8 : 0 ≤ ((-1) : Int) + (1 * a1 + ((-1) * a2 + 0)) := hg _ (List.mem_cons_of_mem _ (List.mem_cons_of_mem _ (List.mem_cons_of_mem _ (List.mem_cons_of_mem _ (List.mem_cons_of_mem _ (List.mem_cons_of_mem _ (List.mem_cons_of_mem _ (List.mem_cons_of_mem _ List.mem_cons_self))))))))
  have g9 : 0 ≤ ((-8) : Int) + ((-64) * a8 + (1 * (zk_xe w 61 a6) + 0)) := hg _ (List.mem_cons_of_mem _ (List.mem_cons_of_mem _ (List.mem_cons_of_mem _ (List.mem_cons_of_mem _ (List.mem_cons_of_mem _ (List.mem_cons_of_mem _ (List.mem_cons_of_mem _ (List.mem_cons_of_mem _ (List.mem_cons_of_mem _ List.mem_cons_self)))))))))
  have g10 : 0 ≤ (8 : Int) + (64 * a8 + ((-1) * (zk_xe w 61 a6) + 0)) := hg _ (List.mem_cons_of_mem _ (List.mem_cons_of_mem _ (List.mem_cons_of_mem _ (List.mem_cons_of_mem _ (List.mem_cons_of_mem _ (List.mem_cons_of_mem _ (List.mem_cons_of_mem _ (List.mem_cons_of_mem _ (List.mem_cons_of_mem _ (List.mem_cons_of_mem _ List.mem_cons_self))))))))))
  have g11 : 0 ≤ (0 : Int) + (1 * (zk_xe w 20 a9) + 0) := hg _ (List.mem_cons_of_mem _ (List.mem_cons_of_mem _ (List.mem_cons_of_mem _ (List.mem_cons_of_mem _ (List.mem_cons_of_mem _ (List.mem_cons_of_mem _ (List.mem_cons_of_mem _ (List.mem_cons_of_mem _ (List.mem_cons_of_mem _ (List.mem_cons_of_mem _ (List.mem_cons_of_mem _ List.mem_cons_self)))))))))))
  have g12 : 0 ≤ (403 : Int) + ((-1) * (zk_xe w 20 a9) + 0) := hg _ (List.mem_cons_of_mem _ (List.mem_cons_of_mem _ (List.mem_cons_of_mem _ (List.mem_cons_of_mem _ (List.mem_cons_of_mem _ (List.mem_cons_of_mem _ (List.mem_cons_of_mem _ (List.mem_cons_of_mem _ (List.mem_cons_of_mem _ (List.mem_cons_of_mem _ (List.mem_cons_of_mem _ (List.mem_cons_of_mem _ List.mem_cons_self))))))))))))
  have g13 : 0 ≤ (2 : Int) + ((-1) * (zk_xe w 20 a12) + 0) := hg _ (List.mem_cons_of_mem _ (List.mem_cons_of_mem _ (List.mem_cons_of_mem _ (List.mem_cons_of_mem _ (List.mem_cons_of_mem _ (List.mem_cons_of_mem _ (List.mem_cons_of_mem _ (List.mem_cons_of_mem _ (List.mem_cons_of_mem _ (List.mem_cons_of_mem _ (List.mem_cons_of_mem _ (List.mem_cons_of_mem _ (List.mem_cons_of_mem _ List.mem_cons_self)))))))))))))
  have g14 : 0 ≤ (0 : Int) + (1 * (zk_xe w 20 a10) + 0) := hg _ (List.mem_cons_of_mem _ (List.mem_cons_of_mem _ (List.mem_cons_of_mem _ (List.mem_cons_of_mem _ (List.mem_cons_of_mem _ (List.mem_cons_of_mem _ (List.mem_cons_of_mem _ (List.mem_cons_of_mem _ (List.mem_cons_of_mem _ (List.mem_cons_of_mem _ (List.mem_cons_of_mem _ (List.mem_cons_of_mem _ (List.mem_cons_of_mem _ (List.mem_cons_of_mem _ List.mem_cons_self))))))))))))))
  have g15 : 0 ≤ (404 : Int) + ((-1) * (zk_xe w 20 a9) + ((-1) * (zk_xe w 20 a10) + 0)) := hg _ (List.mem_cons_of_mem _ (List.mem_cons_of_mem _ (List.mem_cons_of_mem _ (List.mem_cons_of_mem _ (List.mem_cons_of_mem _ (List.mem_cons_of_mem _ (List.mem_cons_of_mem _ (List.mem_cons_of_mem _ (List.mem_cons_of_mem _ (List.mem_cons_of_mem _ (List.mem_cons_of_mem _ (List.mem_cons_of_mem _ (List.mem_cons_of_mem _ (List.mem_cons_of_mem _ (List.mem_cons_of_mem _ List.mem_cons_self)))))))))))))))
  have hp : zh_e w 61 (2 * a2) = zk_xe w 61 a6 := by rw [zk_xe_r rfl]; show zk_el w 61 (2 * a2) = zk_el w 61 a6; rw [show 2 * a2 = a6 by omega]
  have ho : zh_e w 61 (2 * a2 + 1) = zk_xe w 61 a7 := by rw [zk_xe_r rfl]; show zk_el w 61 (2 * a2 + 1) = zk_el w 61 a7; rw [show 2 * a2 + 1 = a7 by omega]
  have f3 : zh_e w 20 (6 * zk_xe w 61 a7 + 3) = zk_xe w 20 a9 := by rw [zk_xe_r rfl]; show zk_el w 20 (6 * zk_xe w 61 a7 + 3) = zk_el w 20 a9; rw [show 6 * zk_xe w 61 a7 + 3 = a9 by omega]
  have f4 : zh_e w 20 (6 * zk_xe w 61 a7 + 4) = zk_xe w 20 a10 := by rw [zk_xe_r rfl]; show zk_el w 20 (6 * zk_xe w 61 a7 + 4) = zk_el w 20 a10; rw [show 6 * zk_xe w 61 a7 + 4 = a10 by omega]
  have f5 : zh_e w 20 (6 * zk_xe w 61 a7 + 5) = zk_xe w 20 a11 := by rw [zk_xe_r rfl]; show zk_el w 20 (6 * zk_xe w 61 a7 + 5) = zk_el w 20 a11; rw [show 6 * zk_xe w 61 a7 + 5 = a11 by omega]
  have f2 : zh_e w 20 (6 * zk_xe w 61 a7 + 2) = zk_xe w 20 a12 := by rw [zk_xe_r rfl]; show zk_el w 20 (6 * zk_xe w 61 a7 + 2) = zk_el w 20 a12; rw [show 6 * zk_xe w 61 a7 + 2 = a12 by omega]
  have hV : zh_e w' 61 j = zk_el w' 61 j := rfl
  have hm : zk_xe w 61 a6 % 64 = zk_xe w 61 a6 - 64 * a8 := by omega
  have hT : zk_el w' 61 j = zg_T (zh_e w 20) (zh_e w 61 (2 * a2) % 64) (zk_xe w 61 a7) := by
    rw [(zg_Tv.1 (by rw [f3]; omega)).1 (by rw [hp]; omega), f4]
    omega
  have hO : zg_ok (zh_e w 20) (zh_e w 62) (zh_e w 64) (zk_xe w 61 a7) := by
    refine ⟨fun _ => ?_, fun h => absurd h (by rw [f3]; omega)⟩
    rw [f2, f3, f4]
    refine ⟨by omega, by omega, by omega, by omega⟩
  have r : zk_xe w' 2000043 a5 = 1 := zg_tw (j := a0) (n := a1) (k := a2) (u := a3) (l := a4) hw (by omega) (by omega) (by omega) (by omega) (by omega) (by omega) (by omega) (by omega) (by omega) (by omega) (by omega) (by omega) (by rw [hp]; unfold zg_us; omega) ho hV hT hO
  exact (zx_eF1 (by show 0 ≤ (0 : Int) + (1 * a5 + 0); omega) (by show zk_xe w' 2000043 ((0 : Int) + (1 * a5 + 0)) = (1 : Int) + (0); rw [show (0 : Int) + (1 * a5 + 0) = a5 by omega]; exact r.trans (by omega)) zx_eF0)
def zx_E441 : zx_V := zx_Vc 61 [] 14 [(2000043, 0), (61, 6), (61, 7), (20, 9), (20, 10), (20, 11), (20, 12), (20, 13)] [((0, 0), [(2, 1, 0), (3, 0, 1), (4, 0, 4294967296), (5, 0, 18446744073709551616), (6, 0, 79228162514264337593543950336)]), ((0, 4294967296), [(3, 0, 1), (4, 0, 4294967296), (5, 0, 18446744073709551616), (6, 0, 79228162514264337593543950336), (7, 1, 0)]), ((0, 0), [(4, 0, 2), (8, 1, 0)]), ((0, 1), [(4, 0, 2), (9, 1, 0)]), ((0, 0), [(0, 1, 0), (9, 0, 1)]), ((0, 3), [(11, 1, 0), (18, 0, 6)]), ((0, 4), [(12, 1, 0), (18, 0, 6)]), ((0, 5), [(13, 1, 0), (18, 0, 6)]), ((0, 2), [(14, 1, 0), (18, 0, 6)]), ((0, 1), [(16, 1, 0)]), ((0, 0), [(1, 1, 0), (19, 0, 1)])] [((0, 0), [(3, 1, 0)]), ((4294967294, 0), [(3, 0, 1)]), ((0, 0), [(4, 1, 0)]), ((4294967294, 0), [(4, 0, 1)]), ((0, 0), [(5, 1, 0)]), ((4294967294, 0), [(5, 0, 1)]), ((0, 0), [(6, 1, 0)]), ((4294967294, 0), [(6, 0, 1)]), ((0, 1), [(3, 1, 0), (4, 0, 1)]), ((0, 9), [(10, 0, 64), (17, 1, 0)]), ((11, 0), [(10, 64, 0), (17, 0, 1)]), ((0, 0), [(19, 1, 0)]), ((403, 0), [(19, 0, 1)]), ((2, 0), [(22, 0, 1)]), ((0, 0), [(20, 1, 0)]), ((404, 0), [(19, 0, 1), (20, 0, 1)])] [(2000043, ((0, 0), [(7, 1, 0)]), ((1, 0), []))]
theorem zx_E441_ok {PT : Nat → zz_W → Prop} : zx_Vok 64 zHT PT zx_E441 := by
  refine zx_Vc_ok (fun w w' j ins hI hI' h0 hw hK hl he hg => ?_)
  obtain ⟨a0, a1, a2, a3, a4, a5, a6, a7, a8, a9, a10, a11, a12, a13, rfl⟩ := zx_i14 hl
  have e0 : (0 : Int) + (1 * a0 + ((-1) * a1 + ((-4294967296) * a2 + ((-18446744073709551616) * a3 + ((-79228162514264337593543950336) * a4 + 0))))) = 0 := he _ List.mem_cons_self
  have e1 : ((-4294967296) : Int) + ((-1) * a1 + ((-4294967296) * a2 + ((-18446744073709551616) * a3 + ((-79228162514264337593543950336) * a4 + (1 * a5 + 0))))) = 0 := he _ (List.mem_cons_of_mem _ List.mem_cons_self)
  have e2 : (0 : Int) + ((-2) * a2 + (1 * a6 + 0)) = 0 := he _ (List.mem_cons_of_mem _ (List.mem_cons_of_mem _ List.mem_cons_self))
  have e3 : ((-1) : Int) + ((-2) * a2 + (1 * a7 + 0)) = 0 := he _ (List.mem_cons_of_mem _ (List.mem_cons_of_mem _ (List.mem_cons_of_mem _ List.mem_cons_self)))
  have e4 : (0 : Int) + (1 * j + ((-1) * a7 + 0)) = 0 := he _ (List.mem_cons_of_mem _ (List.mem_cons_of_mem _ (List.mem_cons_of_mem _ (List.mem_cons_of_mem _ List.mem_cons_self))))
  have e5 : ((-3) : Int) + (1 * a9 + ((-6) * (zk_xe w 61 a7) + 0)) = 0 := he _ (List.mem_cons_of_mem _ (List.mem_cons_of_mem _ (List.mem_cons_of_mem _ (List.mem_cons_of_mem _ (List.mem_cons_of_mem _ List.mem_cons_self)))))
  have e6 : ((-4) : Int) + (1 * a10 + ((-6) * (zk_xe w 61 a7) + 0)) = 0 := he _ (List.mem_cons_of_mem _ (List.mem_cons_of_mem _ (List.mem_cons_of_mem _ (List.mem_cons_of_mem _ (List.mem_cons_of_mem _ (List.mem_cons_of_mem _ List.mem_cons_self))))))
  have e7 : ((-5) : Int) + (1 * a11 + ((-6) * (zk_xe w 61 a7) + 0)) = 0 := he _ (List.mem_cons_of_mem _ (List.mem_cons_of_mem _ (List.mem_cons_of_mem _ (List.mem_cons_of_mem _ (List.mem_cons_of_mem _ (List.mem_cons_of_mem _ (List.mem_cons_of_mem _ List.mem_cons_self)))))))
  have e8 : ((-2) : Int) + (1 * a12 + ((-6) * (zk_xe w 61 a7) + 0)) = 0 := he _ (List.mem_cons_of_mem _ (List.mem_cons_of_mem _ (List.mem_cons_of_mem _ (List.mem_cons_of_mem _ (List.mem_cons_of_mem _ (List.mem_cons_of_mem _ (List.mem_cons_of_mem _ (List.mem_cons_of_mem _ List.mem_cons_self))))))))
  have e9 : ((-1) : Int) + (1 * (zk_xe w 2000043 a0) + 0) = 0 := he _ (List.mem_cons_of_mem _ (List.mem_cons_of_mem _ (List.mem_cons_of_mem _ (List.mem_cons_of_mem _ (List.mem_cons_of_mem _ (List.mem_cons_of_mem _ (List.mem_cons_of_mem _ (List.mem_cons_of_mem _ (List.mem_cons_of_mem _ List.mem_cons_self)))))))))
  have e10 : (0 : Int) + (1 * (zk_el w' 61 j) + ((-1) * (zk_xe w 20 a9) + 0)) = 0 := he _ (List.mem_cons_of_mem _ (List.mem_cons_of_mem _ (List.mem_cons_of_mem _ (List.mem_cons_of_mem _ (List.mem_cons_of_mem _ (List.mem_cons_of_mem _ (List.mem_cons_of_mem _ (List.mem_cons_of_mem _ (List.mem_cons_of_mem _ (List.mem_cons_of_mem _ List.mem_cons_self))))))))))
  have g0 : 0 ≤ (0 : Int) + (1 * a1 + 0) := hg _ List.mem_cons_self
  have g1 : 0 ≤ (4294967294 : Int) + ((-1) * a1 + 0) := hg _ (List.mem_cons_of_mem _ List.mem_cons_self)
  have g2 : 0 ≤ (0 : Int) + (1 * a2 + 0) := hg _ (List.mem_cons_of_mem _ (List.mem_cons_of_mem _ List.mem_cons_self))
  have g3 : 0 ≤ (4294967294 : Int) + ((-1) * a2 + 0) := hg _ (List.mem_cons_of_mem _ (List.mem_cons_of_mem _ (List.mem_cons_of_mem _ List.mem_cons_self)))
  have g4 : 0 ≤ (0 : Int) + (1 * a3 + 0) := hg _ (List.mem_cons_of_mem _ (List.mem_cons_of_mem _ (List.mem_cons_of_mem _ (List.mem_cons_of_mem _ List.mem_cons_self))))
  have g5 : 0 ≤ (4294967294 : Int) + ((-1) * a3 + 0) := hg _ (List.mem_cons_of_mem _ (List.mem_cons_of_mem _ (List.mem_cons_of_mem _ (List.mem_cons_of_mem _ (List.mem_cons_of_mem _ List.mem_cons_self)))))
  have g6 : 0 ≤ (0 : Int) + (1 * a4 + 0) := hg _ (List.mem_cons_of_mem _ (List.mem_cons_of_mem _ (List.mem_cons_of_mem _ (List.mem_cons_of_mem _ (List.mem_cons_of_mem _ (List.mem_cons_of_mem _ List.mem_cons_self))))))
  have g7 : 0 ≤ (4294967294 : Int) + ((-1) * a4 + 0) := hg _ (List.mem_cons_of_mem _ (List.mem_cons_of_mem _ (List.mem_cons_of_mem _ (List.mem_cons_of_mem _ (List.mem_cons_of_mem _ (List.mem_cons_of_mem _ (List.mem_cons_of_mem _ List.mem_cons_self)))))))
  have g8 : 0 ≤ ((-1) : Int) + (1 * a1 + ((-1) * a2 + 0)) := hg _ (List.mem_cons_of_mem _ (List.mem_cons_of_mem _ (List.mem_cons_of_mem _ (List.mem_cons_of_mem _ (List.mem_cons_of_mem _ (List.mem_cons_of_mem _ (List.mem_cons_of_mem _ (List.mem_cons_of_mem _ List.mem_cons_self))))))))
  have g9 : 0 ≤ ((-9) : Int) + ((-64) * a8 + (1 * (zk_xe w 61 a6) + 0)) := hg _ (List.mem_cons_of_mem _ (List.mem_cons_of_mem _ (List.mem_cons_of_mem _ (List.mem_cons_of_mem _ (List.mem_cons_of_mem _ (List.mem_cons_of_mem _ (List.mem_cons_of_mem _ (List.mem_cons_of_mem _ (List.mem_cons_of_mem _ List.mem_cons_self)))))))))
  have g10 : 0 ≤ (11 : Int) + (64 * a8 + ((-1) * (zk_xe w 61 a6) + 0)) := hg _ (List.mem_cons_of_mem _ (List.mem_cons_of_mem _ (List.mem_cons_of_mem _ (List.mem_cons_of_mem _ (List.mem_cons_of_mem _ (List.mem_cons_of_mem _ (List.mem_cons_of_mem _ (List.mem_cons_of_mem _ (List.mem_cons_of_mem _ (List.mem_cons_of_mem _ List.mem_cons_self))))))))))
  have g11 : 0 ≤ (0 : Int) + (1 * (zk_xe w 20 a9) + 0) := hg _ (List.mem_cons_of_mem _ (List.mem_cons_of_mem _ (List.mem_cons_of_mem _ (List.mem_cons_of_mem _ (List.mem_cons_of_mem _ (List.mem_cons_of_mem _ (List.mem_cons_of_mem _ (List.mem_cons_of_mem _ (List.mem_cons_of_mem _ (List.mem_cons_of_mem _ (List.mem_cons_of_mem _ List.mem_cons_self)))))))))))
  have g12 : 0 ≤ (403 : Int) + ((-1) * (zk_xe w 20 a9) + 0) := hg _ (List.mem_cons_of_mem _ (List.mem_cons_of_mem _ (List.mem_cons_of_mem _ (List.mem_cons_of_mem _ (List.mem_cons_of_mem _ (List.mem_cons_of_mem _ (List.mem_cons_of_mem _ (List.mem_cons_of_mem _ (List.mem_cons_of_mem _ (List.mem_cons_of_mem _ (List.mem_cons_of_mem _ (List.mem_cons_of_mem _ List.mem_cons_self))))))))))))
  have g13 : 0 ≤ (2 : Int) + ((-1) * (zk_xe w 20 a12) + 0) := hg _ (List.mem_cons_of_mem _ (List.mem_cons_of_mem _ (List.mem_cons_of_mem _ (List.mem_cons_of_mem _ (List.mem_cons_of_mem _ (List.mem_cons_of_mem _ (List.mem_cons_of_mem _ (List.mem_cons_of_mem _ (List.mem_cons_of_mem _ (List.mem_cons_of_mem _ (List.mem_cons_of_mem _ (List.mem_cons_of_mem _ (List.mem_cons_of_mem _ List.mem_cons_self)))))))))))))
  have g14 : 0 ≤ (0 : Int) + (1 * (zk_xe w 20 a10) + 0) := hg _ (List.mem_cons_of_mem _ (List.mem_cons_of_mem _ (List.mem_cons_of_mem _ (List.mem_cons_of_mem _ (List.mem_cons_of_mem _ (List.mem_cons_of_mem _ (List.mem_cons_of_mem _ (List.mem_cons_of_mem _ (List.mem_cons_of_mem _ (List.mem_cons_of_mem _ (List.mem_cons_of_mem _ (List.mem_cons_of_mem _ (List.mem_cons_of_mem _ (List.mem_cons_of_mem _ List.mem_cons_self))))))))))))))
  have g15 : 0 ≤ (404 : Int) + ((-1) * (zk_xe w 20 a9) + ((-1) * (zk_xe w 20 a10) + 0)) := hg _ (List.mem_cons_of_mem _ (List.mem_cons_of_mem _ (List.mem_cons_of_mem _ (List.mem_cons_of_mem _ (List.mem_cons_of_mem _ (List.mem_cons_of_mem _ (List.mem_cons_of_mem _ (List.mem_cons_of_mem _ (List.mem_cons_of_mem _ (List.mem_cons_of_mem _ (List.mem_cons_of_mem _ (List.mem_cons_of_mem _ (List.mem_cons_of_mem _ (List.mem_cons_of_mem _ (List.mem_cons_of_mem _ List.mem_cons_self)))))))))))))))
  have hp : zh_e w 61 (2 * a2) = zk_xe w 61 a6 := by rw [zk_xe_r rfl]; show zk_el w 61 (2 * a2) = zk_el w 61 a6; rw [show 2 * a2 = a6 by omega]
  have ho : zh_e w 61 (2 * a2 + 1) = zk_xe w 61 a7 := by rw [zk_xe_r rfl]; show zk_el w 61 (2 * a2 + 1) = zk_el w 61 a7; rw [show 2 * a2 + 1 = a7 by omega]
  have f3 : zh_e w 20 (6 * zk_xe w 61 a7 + 3) = zk_xe w 20 a9 := by rw [zk_xe_r rfl]; show zk_el w 20 (6 * zk_xe w 61 a7 + 3) = zk_el w 20 a9; rw [show 6 * zk_xe w 61 a7 + 3 = a9 by omega]
  have f4 : zh_e w 20 (6 * zk_xe w 61 a7 + 4) = zk_xe w 20 a10 := by rw [zk_xe_r rfl]; show zk_el w 20 (6 * zk_xe w 61 a7 + 4) = zk_el w 20 a10; rw [show 6 * zk_xe w 61 a7 + 4 = a10 by omega]
  have f5 : zh_e w 20 (6 * zk_xe w 61 a7 + 5) = zk_xe w 20 a11 := by rw [zk_xe_r rfl]; show zk_el w 20 (6 * zk_xe w 61 a7 + 5) = zk_el w 20 a11; rw [show 6 * zk_xe w 61 a7 + 5 = a11 by omega]
  have f2 : zh_e w 20 (6 * zk_xe w 61 a7 + 2) = zk_xe w 20 a12 := by rw [zk_xe_r rfl]; show zk_el w 20 (6 * zk_xe w 61 a7 + 2) = zk_el w 20 a12; rw [show 6 * zk_xe w 61 a7 + 2 = a12 by omega]
  have hV : zh_e w' 61 j = zk_el w' 61 j := rfl
  have hm : zk_xe w 61 a6 % 64 = zk_xe w 61 a6 - 64 * a8 := by omega
  have hT : zk_el w' 61 j = zg_T (zh_e w 20) (zh_e w 61 (2 * a2) % 64) (zk_xe w 61 a7) := by
    rw [(zg_Tv.1 (by rw [f3]; omega)).2 (by rw [hp]; omega), f3]
    omega
  have hO : zg_ok (zh_e w 20) (zh_e w 62) (zh_e w 64) (zk_xe w 61 a7) := by
    refine ⟨fun _ => ?_, fun h => absurd h (by rw [f3]; omega)⟩
    rw [f2, f3, f4]
    refine ⟨by omega, by omega, by omega, by omega⟩
  have r : zk_xe w' 2000043 a5 = 1 := zg_tw (j := a0) (n := a1) (k := a2) (u := a3) (l := a4) hw (by omega) (by omega) (by omega) (by omega) (by omega) (by omega) (by omega) (by omega) (by omega) (by omega) (by omega) (by omega) (by rw [hp]; unfold zg_us; omega) ho hV hT hO
  exact (zx_eF1 (by show 0 ≤ (0 : Int) + (1 * a5 + 0); omega) (by show zk_xe w' 2000043 ((0 : Int) + (1 * a5 + 0)) = (1 : Int) + (0); rw [show (0 : Int) + (1 * a5 + 0) = a5 by omega]; exact r.trans (by omega)) zx_eF0)
def zx_E442 : zx_V := zx_Vc 61 [] 14 [(2000043, 0), (61, 6), (61, 7), (20, 9), (20, 10), (20, 11), (20, 12), (20, 13)] [((0, 0), [(2, 1, 0), (3, 0, 1), (4, 0, 4294967296), (5, 0, 18446744073709551616), (6, 0, 79228162514264337593543950336)]), ((0, 4294967296), [(3, 0, 1), (4, 0, 4294967296), (5, 0, 18446744073709551616), (6, 0, 79228162514264337593543950336), (7, 1, 0)]), ((0, 0), [(4, 0, 2), (8, 1, 0)]), ((0, 1), [(4, 0, 2), (9, 1, 0)]), ((0, 0), [(0, 1, 0), (9, 0, 1)]), ((0, 3), [(11, 1, 0), (18, 0, 6)]), ((0, 4), [(12, 1, 0), (18, 0, 6)]), ((0, 5), [(13, 1, 0), (18, 0, 6)]), ((0, 2), [(14, 1, 0), (18, 0, 6)]), ((0, 1), [(16, 1, 0)]), ((0, 0), [(1, 1, 0), (19, 0, 1)])] [((0, 0), [(3, 1, 0)]), ((4294967294, 0), [(3, 0, 1)]), ((0, 0), [(4, 1, 0)]), ((4294967294, 0), [(4, 0, 1)]), ((0, 0), [(5, 1, 0)]), ((4294967294, 0), [(5, 0, 1)]), ((0, 0), [(6, 1, 0)]), ((4294967294, 0), [(6, 0, 1)]), ((0, 1), [(3, 1, 0), (4, 0, 1)]), ((0, 29), [(10, 0, 64), (17, 1, 0)]), ((30, 0), [(10, 64, 0), (17, 0, 1)]), ((0, 0), [(19, 1, 0)]), ((403, 0), [(19, 0, 1)]), ((2, 0), [(22, 0, 1)]), ((0, 0), [(20, 1, 0)]), ((404, 0), [(19, 0, 1), (20, 0, 1)])] [(2000043, ((0, 0), [(7, 1, 0)]), ((1, 0), []))]
theorem zx_E442_ok {PT : Nat → zz_W → Prop} : zx_Vok 64 zHT PT zx_E442 := by
  refine zx_Vc_ok (fun w w' j ins hI hI' h0 hw hK hl he hg => ?_)
  obtain ⟨a0, a1, a2, a3, a4, a5, a6, a7, a8, a9, a10, a11, a12, a13, rfl⟩ := zx_i14 hl
  have e0 : (0 : Int) + (1 * a0 + ((-1) * a1 + ((-4294967296) * a2 + ((-18446744073709551616) * a3 + ((-79228162514264337593543950336) * a4 + 0))))) = 0 := he _ List.mem_cons_self
  have e1 : ((-4294967296) : Int) + ((-1) * a1 + ((-4294967296) * a2 + ((-18446744073709551616) * a3 + ((-79228162514264337593543950336) * a4 + (1 * a5 + 0))))) = 0 := he _ (List.mem_cons_of_mem _ List.mem_cons_self)
  have e2 : (0 : Int) + ((-2) * a2 + (1 * a6 + 0)) = 0 := he _ (List.mem_cons_of_mem _ (List.mem_cons_of_mem _ List.mem_cons_self))
  have e3 : ((-1) : Int) + ((-2) * a2 + (1 * a7 + 0)) = 0 := he _ (List.mem_cons_of_mem _ (List.mem_cons_of_mem _ (List.mem_cons_of_mem _ List.mem_cons_self)))
  have e4 : (0 : Int) + (1 * j + ((-1) * a7 + 0)) = 0 := he _ (List.mem_cons_of_mem _ (List.mem_cons_of_mem _ (List.mem_cons_of_mem _ (List.mem_cons_of_mem _ List.mem_cons_self))))
  have e5 : ((-3) : Int) + (1 * a9 + ((-6) * (zk_xe w 61 a7) + 0)) = 0 := he _ (List.mem_cons_of_mem _ (List.mem_cons_of_mem _ (List.mem_cons_of_mem _ (List.mem_cons_of_mem _ (List.mem_cons_of_mem _ List.mem_cons_self)))))
  have e6 : ((-4) : Int) + (1 * a10 + ((-6) * (zk_xe w 61 a7) + 0)) = 0 := he _ (List.mem_cons_of_mem _ (List.mem_cons_of_mem _ (List.mem_cons_of_mem _ (List.mem_cons_of_mem _ (List.mem_cons_of_mem _ (List.mem_cons_of_mem _ List.mem_cons_self))))))
  have e7 : ((-5) : Int) + (1 * a11 + ((-6) * (zk_xe w 61 a7) + 0)) = 0 := he _ (List.mem_cons_of_mem _ (List.mem_cons_of_mem _ (List.mem_cons_of_mem _ (List.mem_cons_of_mem _ (List.mem_cons_of_mem _ (List.mem_cons_of_mem _ (List.mem_cons_of_mem _ List.mem_cons_self)))))))
  have e8 : ((-2) : Int) + (1 * a12 + ((-6) * (zk_xe w 61 a7) + 0)) = 0 := he _ (List.mem_cons_of_mem _ (List.mem_cons_of_mem _ (List.mem_cons_of_mem _ (List.mem_cons_of_mem _ (List.mem_cons_of_mem _ (List.mem_cons_of_mem _ (List.mem_cons_of_mem _ (List.mem_cons_of_mem _ List.mem_cons_self))))))))
  have e9 : ((-1) : Int) + (1 * (zk_xe w 2000043 a0) + 0) = 0 := he _ (List.mem_cons_of_mem _ (List.mem_cons_of_mem _ (List.mem_cons_of_mem _ (List.mem_cons_of_mem _ (List.mem_cons_of_mem _ (List.mem_cons_of_mem _ (List.mem_cons_of_mem _ (List.mem_cons_of_mem _ (List.mem_cons_of_mem _ List.mem_cons_self)))))))))
  have e10 : (0 : Int) + (1 * (zk_el w' 61 j) + ((-1) * (zk_xe w 20 a9) + 0)) = 0 := he _ (List.mem_cons_of_mem _ (List.mem_cons_of_mem _ (List.mem_cons_of_mem _ (List.mem_cons_of_mem _ (List.mem_cons_of_mem _ (List.mem_cons_of_mem _ (List.mem_cons_of_mem _ (List.mem_cons_of_mem _ (List.mem_cons_of_mem _ (List.mem_cons_of_mem _ List.mem_cons_self))))))))))
  have g0 : 0 ≤ (0 : Int) + (1 * a1 + 0) := hg _ List.mem_cons_self
  have g1 : 0 ≤ (4294967294 : Int) + ((-1) * a1 + 0) := hg _ (List.mem_cons_of_mem _ List.mem_cons_self)
  have g2 : 0 ≤ (0 : Int) + (1 * a2 + 0) := hg _ (List.mem_cons_of_mem _ (List.mem_cons_of_mem _ List.mem_cons_self))
  have g3 : 0 ≤ (4294967294 : Int) + ((-1) * a2 + 0) := hg _ (List.mem_cons_of_mem _ (List.mem_cons_of_mem _ (List.mem_cons_of_mem _ List.mem_cons_self)))
  have g4 : 0 ≤ (0 : Int) + (1 * a3 + 0) := hg _ (List.mem_cons_of_mem _ (List.mem_cons_of_mem _ (List.mem_cons_of_mem _ (List.mem_cons_of_mem _ List.mem_cons_self))))
  have g5 : 0 ≤ (4294967294 : Int) + ((-1) * a3 + 0) := hg _ (List.mem_cons_of_mem _ (List.mem_cons_of_mem _ (List.mem_cons_of_mem _ (List.mem_cons_of_mem _ (List.mem_cons_of_mem _ List.mem_cons_self)))))
  have g6 : 0 ≤ (0 : Int) + (1 * a4 + 0) := hg _ (List.mem_cons_of_mem _ (List.mem_cons_of_mem _ (List.mem_cons_of_mem _ (List.mem_cons_of_mem _ (List.mem_cons_of_mem _ (List.mem_cons_of_mem _ List.mem_cons_self))))))
  have g7 : 0 ≤ (4294967294 : Int) + ((-1) * a4 + 0) := hg _ (List.mem_cons_of_mem _ (List.mem_cons_of_mem _ (List.mem_cons_of_mem _ (List.mem_cons_of_mem _ (List.mem_cons_of_mem _ (List.mem_cons_of_mem _ (List.mem_cons_of_mem _ List.mem_cons_self)))))))
  have g8 : 0 ≤ ((-1) : Int) + (1 * a1 + ((-1) * a2 + 0)) := hg _ (List.mem_cons_of_mem _ (List.mem_cons_of_mem _ (List.mem_cons_of_mem _ (List.mem_cons_of_mem _ (List.mem_cons_of_mem _ (List.mem_cons_of_mem _ (List.mem_cons_of_mem _ (List.mem_cons_of_mem _ List.mem_cons_self))))))))
  have g9 : 0 ≤ ((-29) : Int) + ((-64) * a8 + (1 * (zk_xe w 61 a6) + 0)) := hg _ (List.mem_cons_of_mem _ (List.mem_cons_of_mem _ (List.mem_cons_of_mem _ (List.mem_cons_of_mem _ (List.mem_cons_of_mem _ (List.mem_cons_of_mem _ (List.mem_cons_of_mem _ (List.mem_cons_of_mem _ (List.mem_cons_of_mem _ List.mem_cons_self)))))))))
  have g10 : 0 ≤ (30 : Int) + (64 * a8 + ((-1) * (zk_xe w 61 a6) + 0)) := hg _ (List.mem_cons_of_mem _ (List.mem_cons_of_mem _ (List.mem_cons_of_mem _ (List.mem_cons_of_mem _ (List.mem_cons_of_mem _ (List.mem_cons_of_mem _ (List.mem_cons_of_mem _ (List.mem_cons_of_mem _ (List.mem_cons_of_mem _ (List.mem_cons_of_mem _ List.mem_cons_self))))))))))
  have g11 : 0 ≤ (0 : Int) + (1 * (zk_xe w 20 a9) + 0) := hg _ (List.mem_cons_of_mem _ (List.mem_cons_of_mem _ (List.mem_cons_of_mem _ (List.mem_cons_of_mem _ (List.mem_cons_of_mem _ (List.mem_cons_of_mem _ (List.mem_cons_of_mem _ (List.mem_cons_of_mem _ (List.mem_cons_of_mem _ (List.mem_cons_of_mem _ (List.mem_cons_of_mem _ List.mem_cons_self)))))))))))
  have g12 : 0 ≤ (403 : Int) + ((-1) * (zk_xe w 20 a9) + 0) := hg _ (List.mem_cons_of_mem _ (List.mem_cons_of_mem _ (List.mem_cons_of_mem _ (List.mem_cons_of_mem _ (List.mem_cons_of_mem _ (List.mem_cons_of_mem _ (List.mem_cons_of_mem _ (List.mem_cons_of_mem _ (List.mem_cons_of_mem _ (List.mem_cons_of_mem _ (List.mem_cons_of_mem _ (List.mem_cons_of_mem _ List.mem_cons_self))))))))))))
  have g13 : 0 ≤ (2 : Int) + ((-1) * (zk_xe w 20 a12) + 0) := hg _ (List.mem_cons_of_mem _ (List.mem_cons_of_mem _ (List.mem_cons_of_mem _ (List.mem_cons_of_mem _ (List.mem_cons_of_mem _ (List.mem_cons_of_mem _ (List.mem_cons_of_mem _ (List.mem_cons_of_mem _ (List.mem_cons_of_mem _ (List.mem_cons_of_mem _ (List.mem_cons_of_mem _ (List.mem_cons_of_mem _ (List.mem_cons_of_mem _ List.mem_cons_self)))))))))))))
  have g14 : 0 ≤ (0 : Int) + (1 * (zk_xe w 20 a10) + 0) := hg _ (List.mem_cons_of_mem _ (List.mem_cons_of_mem _ (List.mem_cons_of_mem _ (List.mem_cons_of_mem _ (List.mem_cons_of_mem _ (List.mem_cons_of_mem _ (List.mem_cons_of_mem _ (List.mem_cons_of_mem _ (List.mem_cons_of_mem _ (List.mem_cons_of_mem _ (List.mem_cons_of_mem _ (List.mem_cons_of_mem _ (List.mem_cons_of_mem _ (List.mem_cons_of_mem _ List.mem_cons_self))))))))))))))
  have g15 : 0 ≤ (404 : Int) + ((-1) * (zk_xe w 20 a9) + ((-1) * (zk_xe w 20 a10) + 0)) := hg _ (List.mem_cons_of_mem _ (List.mem_cons_of_mem _ (List.mem_cons_of_mem _ (List.mem_cons_of_mem _ (List.mem_cons_of_mem _ (List.mem_cons_of_mem _ (List.mem_cons_of_mem _ (List.mem_cons_of_mem _ (List.mem_cons_of_mem _ (List.mem_cons_of_mem _ (List.mem_cons_of_mem _ (List.mem_cons_of_mem _ (List.mem_cons_of_mem _ (List.mem_cons_of_mem _ (List.mem_cons_of_mem _ List.mem_cons_self)))))))))))))))
  have hp : zh_e w 61 (2 * a2) = zk_xe w 61 a6 := by rw [zk_xe_r rfl]; show zk_el w 61 (2 * a2) = zk_el w 61 a6; rw [show 2 * a2 = a6 by omega]
  have ho : zh_e w 61 (2 * a2 + 1) = zk_xe w 61 a7 := by rw [zk_xe_r rfl]; show zk_el w 61 (2 * a2 + 1) = zk_el w 61 a7; rw [show 2 * a2 + 1 = a7 by omega]
  have f3 : zh_e w 20 (6 * zk_xe w 61 a7 + 3) = zk_xe w 20 a9 := by rw [zk_xe_r rfl]; show zk_el w 20 (6 * zk_xe w 61 a7 + 3) = zk_el w 20 a9; rw [show 6 * zk_xe w 61 a7 + 3 = a9 by omega]
  have f4 : zh_e w 20 (6 * zk_xe w 61 a7 + 4) = zk_xe w 20 a10 := by rw [zk_xe_r rfl]; show zk_el w 20 (6 * zk_xe w 61 a7 + 4) = zk_el w 20 a10; rw [show 6 * zk_xe w 61 a7 + 4 = a10 by omega]
  have f5 : zh_e w 20 (6 * zk_xe w 61 a7 + 5) = zk_xe w 20 a11 := by rw [zk_xe_r rfl]; show zk_el w 20 (6 * zk_xe w 61 a7 + 5) = zk_el w 20 a11; rw [show 6 * zk_xe w 61 a7 + 5 = a11 by omega]
  have f2 : zh_e w 20 (6 * zk_xe w 61 a7 + 2) = zk_xe w 20 a12 := by rw [zk_xe_r rfl]; show zk_el w 20 (6 * zk_xe w 61 a7 + 2) = zk_el w 20 a12; rw [show 6 * zk_xe w 61 a7 + 2 = a12 by omega]
  have hV : zh_e w' 61 j = zk_el w' 61 j := rfl
  have hm : zk_xe w 61 a6 % 64 = zk_xe w 61 a6 - 64 * a8 := by omega
  have hT : zk_el w' 61 j = zg_T (zh_e w 20) (zh_e w 61 (2 * a2) % 64) (zk_xe w 61 a7) := by
    rw [(zg_Tv.1 (by rw [f3]; omega)).2 (by rw [hp]; omega), f3]
    omega
  have hO : zg_ok (zh_e w 20) (zh_e w 62) (zh_e w 64) (zk_xe w 61 a7) := by
    refine ⟨fun _ => ?_, fun h => absurd h (by rw [f3]; omega)⟩
    rw [f2, f3, f4]
    refine ⟨by omega, by omega, by omega, by omega⟩
  have r : zk_xe w' 2000043 a5 = 1 := zg_tw (j := a0) (n := a1) (k := a2) (u := a3) (l := a4) hw (by omega) (by omega) (by omega) (by omega) (by omega) (by omega) (by omega) (by omega) (by omega) (by omega) (by omega) (by omega) (by rw [hp]; unfold zg_us; omega) ho hV hT hO
  exact (zx_eF1 (by show 0 ≤ (0 : Int) + (1 * a5 + 0); omega) (by show zk_xe w' 2000043 ((0 : Int) + (1 * a5 + 0)) = (1 : Int) + (0); rw [show (0 : Int) + (1 * a5 + 0) = a5 by omega]; exact r.trans (by omega)) zx_eF0)
def zx_E443 : zx_V := zx_Vc 61 [] 14 [(2000043, 0), (61, 6), (61, 7), (20, 9), (20, 10), (20, 11), (20, 12), (20, 13)] [((0, 0), [(2, 1, 0), (3, 0, 1), (4, 0, 4294967296), (5, 0, 18446744073709551616), (6, 0, 79228162514264337593543950336)]), ((0, 4294967296), [(3, 0, 1), (4, 0, 4294967296), (5, 0, 18446744073709551616), (6, 0, 79228162514264337593543950336), (7, 1, 0)]), ((0, 0), [(4, 0, 2), (8, 1, 0)]), ((0, 1), [(4, 0, 2), (9, 1, 0)]), ((0, 0), [(0, 1, 0), (9, 0, 1)]), ((0, 3), [(11, 1, 0), (18, 0, 6)]), ((0, 4), [(12, 1, 0), (18, 0, 6)]), ((0, 5), [(13, 1, 0), (18, 0, 6)]), ((0, 2), [(14, 1, 0), (18, 0, 6)]), ((0, 1), [(16, 1, 0)]), ((0, 0), [(1, 1, 0), (19, 0, 1)])] [((0, 0), [(3, 1, 0)]), ((4294967294, 0), [(3, 0, 1)]), ((0, 0), [(4, 1, 0)]), ((4294967294, 0), [(4, 0, 1)]), ((0, 0), [(5, 1, 0)]), ((4294967294, 0), [(5, 0, 1)]), ((0, 0), [(6, 1, 0)]), ((4294967294, 0), [(6, 0, 1)]), ((0, 1), [(3, 1, 0), (4, 0, 1)]), ((0, 7), [(10, 0, 64), (17, 1, 0)]), ((7, 0), [(10, 64, 0), (17, 0, 1)]), ((0, 0), [(19, 1, 0)]), ((403, 0), [(19, 0, 1)]), ((2, 0), [(22, 0, 1)]), ((0, 0), [(20, 1, 0)]), ((404, 0), [(19, 0, 1), (20, 0, 1)])] [(2000043, ((0, 0), [(7, 1, 0)]), ((1, 0), []))]
theorem zx_E443_ok {PT : Nat → zz_W → Prop} : zx_Vok 64 zHT PT zx_E443 := by
  refine zx_Vc_ok (fun w w' j ins hI hI' h0 hw hK hl he hg => ?_)
  obtain ⟨a0, a1, a2, a3, a4, a5, a6, a7, a8, a9, a10, a11, a12, a13, rfl⟩ := zx_i14 hl
  have e0 : (0 : Int) + (1 * a0 + ((-1) * a1 + ((-4294967296) * a2 + ((-18446744073709551616) * a3 + ((-79228162514264337593543950336) * a4 + 0))))) = 0 := he _ List.mem_cons_self
  have e1 : ((-4294967296) : Int) + ((-1) * a1 + ((-4294967296) * a2 + ((-18446744073709551616) * a3 + ((-79228162514264337593543950336) * a4 + (1 * a5 + 0))))) = 0 := he _ (List.mem_cons_of_mem _ List.mem_cons_self)
  have e2 : (0 : Int) + ((-2) * a2 + (1 * a6 + 0)) = 0 := he _ (List.mem_cons_of_mem _ (List.mem_cons_of_mem _ List.mem_cons_self))
  have e3 : ((-1) : Int) + ((-2) * a2 + (1 * a7 + 0)) = 0 := he _ (List.mem_cons_of_mem _ (List.mem_cons_of_mem _ (List.mem_cons_of_mem _ List.mem_cons_self)))
  have e4 : (0 : Int) + (1 * j + ((-1) * a7 + 0)) = 0 := he _ (List.mem_cons_of_mem _ (List.mem_cons_of_mem _ (List.mem_cons_of_mem _ (List.mem_cons_of_mem _ List.mem_cons_self))))
  have e5 : ((-3) : Int) + (1 * a9 + ((-6) * (zk_xe w 61 a7) + 0)) = 0 := he _ (List.mem_cons_of_mem _ (List.mem_cons_of_mem _ (List.mem_cons_of_mem _ (List.mem_cons_of_mem _ (List.mem_cons_of_mem _ List.mem_cons_self)))))
  have e6 : ((-4) : Int) + (1 * a10 + ((-6) * (zk_xe w 61 a7) + 0)) = 0 := he _ (List.mem_cons_of_mem _ (List.mem_cons_of_mem _ (List.mem_cons_of_mem _ (List.mem_cons_of_mem _ (List.mem_cons_of_mem _ (List.mem_cons_of_mem _ List.mem_cons_self))))))
  have e7 : ((-5) : Int) + (1 * a11 + ((-6) * (zk_xe w 61 a7) + 0)) = 0 := he _ (List.mem_cons_of_mem _ (List.mem_cons_of_mem _ (List.mem_cons_of_mem _ (List.mem_cons_of_mem _ (List.mem_cons_of_mem _ (List.mem_cons_of_mem _ (List.mem_cons_of_mem _ List.mem_cons_self)))))))
  have e8 : ((-2) : Int) + (1 * a12 + ((-6) * (zk_xe w 61 a7) + 0)) = 0 := he _ (List.mem_cons_of_mem _ (List.mem_cons_of_mem _ (List.mem_cons_of_mem _ (List.mem_cons_of_mem _ (List.mem_cons_of_mem _ (List.mem_cons_of_mem _ (List.mem_cons_of_mem _ (List.mem_cons_of_mem _ List.mem_cons_self))))))))
  have e9 : ((-1) : Int) + (1 * (zk_xe w 2000043 a0) + 0) = 0 := he _ (List.mem_cons_of_mem _ (List.mem_cons_of_mem _ (List.mem_cons_of_mem _ (List.mem_cons_of_mem _ (List.mem_cons_of_mem _ (List.mem_cons_of_mem _ (List.mem_cons_of_mem _ (List.mem_cons_of_mem _ (List.mem_cons_of_mem _ List.mem_cons_self)))))))))
  have e10 : (0 : Int) + (1 * (zk_el w' 61 j) + ((-1) * (zk_xe w 20 a9) + 0)) = 0 := he _ (List.mem_cons_of_mem _ (List.mem_cons_of_mem _ (List.mem_cons_of_mem _ (List.mem_cons_of_mem _ (List.mem_cons_of_mem _ (List.mem_cons_of_mem _ (List.mem_cons_of_mem _ (List.mem_cons_of_mem _ (List.mem_cons_of_mem _ (List.mem_cons_of_mem _ List.mem_cons_self))))))))))
  have g0 : 0 ≤ (0 : Int) + (1 * a1 + 0) := hg _ List.mem_cons_self
  have g1 : 0 ≤ (4294967294 : Int) + ((-1) * a1 + 0) := hg _ (List.mem_cons_of_mem _ List.mem_cons_self)
  have g2 : 0 ≤ (0 : Int) + (1 * a2 + 0) := hg _ (List.mem_cons_of_mem _ (List.mem_cons_of_mem _ List.mem_cons_self))
  have g3 : 0 ≤ (4294967294 : Int) + ((-1) * a2 + 0) := hg _ (List.mem_cons_of_mem _ (List.mem_cons_of_mem _ (List.mem_cons_of_mem _ List.mem_cons_self)))
  have g4 : 0 ≤ (0 : Int) + (1 * a3 + 0) := hg _ (List.mem_cons_of_mem _ (List.mem_cons_of_mem _ (List.mem_cons_of_mem _ (List.mem_cons_of_mem _ List.mem_cons_self))))
  have g5 : 0 ≤ (4294967294 : Int) + ((-1) * a3 + 0) := hg _ (List.mem_cons_of_mem _ (List.mem_cons_of_mem _ (List.mem_cons_of_mem _ (List.mem_cons_of_mem _ (List.mem_cons_of_mem _ List.mem_cons_self)))))
  have g6 : 0 ≤ (0 : Int) + (1 * a4 + 0) := hg _ (List.mem_cons_of_mem _ (List.mem_cons_of_mem _ (List.mem_cons_of_mem _ (List.mem_cons_of_mem _ (List.mem_cons_of_mem _ (List.mem_cons_of_mem _ List.mem_cons_self))))))
  have g7 : 0 ≤ (4294967294 : Int) + ((-1) * a4 + 0) := hg _ (List.mem_cons_of_mem _ (List.mem_cons_of_mem _ (List.mem_cons_of_mem _ (List.mem_cons_of_mem _ (List.mem_cons_of_mem _ (List.mem_cons_of_mem _ (List.mem_cons_of_mem _ List.mem_cons_self)))))))
  have g8 : 0 ≤ ((-1) : Int) + (1 * a1 + ((-1) * a2 + 0)) := hg _ (List.mem_cons_of_mem _ (List.mem_cons_of_mem _ (List.mem_cons_of_mem _ (List.mem_cons_of_mem _ (List.mem_cons_of_mem _ (List.mem_cons_of_mem _ (List.mem_cons_of_mem _ (List.mem_cons_of_mem _ List.mem_cons_self))))))))
  have g9 : 0 ≤ ((-7) : Int) + ((-64) * a8 + (1 * (zk_xe w 61 a6) + 0)) := hg _ (List.mem_cons_of_mem _ (List.mem_cons_of_mem _ (List.mem_cons_of_mem _ (List.mem_cons_of_mem _ (List.mem_cons_of_mem _ (List.mem_cons_of_mem _ (List.mem_cons_of_mem _ (List.mem_cons_of_mem _ (List.mem_cons_of_mem _ List.mem_cons_self)))))))))
  have g10 : 0 ≤ (7 : Int) + (64 * a8 + ((-1) * (zk_xe w 61 a6) + 0)) := hg _ (List.mem_cons_of_mem _ (List.mem_cons_of_mem _ (List.mem_cons_of_mem _ (List.mem_cons_of_mem _ (List.mem_cons_of_mem _ (List.mem_cons_of_mem _ (List.mem_cons_of_mem _ (List.mem_cons_of_mem _ (List.mem_cons_of_mem _ (List.mem_cons_of_mem _ List.mem_cons_self))))))))))
  have g11 : 0 ≤ (0 : Int) + (1 * (zk_xe w 20 a9) + 0) := hg _ (List.mem_cons_of_mem _ (List.mem_cons_of_mem _ (List.mem_cons_of_mem _ (List.mem_cons_of_mem _ (List.mem_cons_of_mem _ (List.mem_cons_of_mem _ (List.mem_cons_of_mem _ (List.mem_cons_of_mem _ (List.mem_cons_of_mem _ (List.mem_cons_of_mem _ (List.mem_cons_of_mem _ List.mem_cons_self)))))))))))
  have g12 : 0 ≤ (403 : Int) + ((-1) * (zk_xe w 20 a9) + 0) := hg _ (List.mem_cons_of_mem _ (List.mem_cons_of_mem _ (List.mem_cons_of_mem _ (List.mem_cons_of_mem _ (List.mem_cons_of_mem _ (List.mem_cons_of_mem _ (List.mem_cons_of_mem _ (List.mem_cons_of_mem _ (List.mem_cons_of_mem _ (List.mem_cons_of_mem _ (List.mem_cons_of_mem _ (List.mem_cons_of_mem _ List.mem_cons_self))))))))))))
  have g13 : 0 ≤ (2 : Int) + ((-1) * (zk_xe w 20 a12) + 0) := hg _ (List.mem_cons_of_mem _ (List.mem_cons_of_mem _ (List.mem_cons_of_mem _ (List.mem_cons_of_mem _ (List.mem_cons_of_mem _ (List.mem_cons_of_mem _ (List.mem_cons_of_mem _ (List.mem_cons_of_mem _ (List.mem_cons_of_mem _ (List.mem_cons_of_mem _ (List.mem_cons_of_mem _ (List.mem_cons_of_mem _ (List.mem_cons_of_mem _ List.mem_cons_self)))))))))))))
  have g14 : 0 ≤ (0 : Int) + (1 * (zk_xe w 20 a10) + 0) := hg _ (List.mem_cons_of_mem _ (List.mem_cons_of_mem _ (List.mem_cons_of_mem _ (List.mem_cons_of_mem _ (List.mem_cons_of_mem _ (List.mem_cons_of_mem _ (List.mem_cons_of_mem _ (List.mem_cons_of_mem _ (List.mem_cons_of_mem _ (List.mem_cons_of_mem _ (List.mem_cons_of_mem _ (List.mem_cons_of_mem _ (List.mem_cons_of_mem _ (List.mem_cons_of_mem _ List.mem_cons_self))))))))))))))
  have g15 : 0 ≤ (404 : Int) + ((-1) * (zk_xe w 20 a9) + ((-1) * (zk_xe w 20 a10) + 0)) := hg _ (List.mem_cons_of_mem _ (List.mem_cons_of_mem _ (List.mem_cons_of_mem _ (List.mem_cons_of_mem _ (List.mem_cons_of_mem _ (List.mem_cons_of_mem _ (List.mem_cons_of_mem _ (List.mem_cons_of_mem _ (List.mem_cons_of_mem _ (List.mem_cons_of_mem _ (List.mem_cons_of_mem _ (List.mem_cons_of_mem _ (List.mem_cons_of_mem _ (List.mem_cons_of_mem _ (List.mem_cons_of_mem _ List.mem_cons_self)))))))))))))))
  have hp : zh_e w 61 (2 * a2) = zk_xe w 61 a6 := by rw [zk_xe_r rfl]; show zk_el w 61 (2 * a2) = zk_el w 61 a6; rw [show 2 * a2 = a6 by omega]
  have ho : zh_e w 61 (2 * a2 + 1) = zk_xe w 61 a7 := by rw [zk_xe_r rfl]; show zk_el w 61 (2 * a2 + 1) = zk_el w 61 a7; rw [show 2 * a2 + 1 = a7 by omega]
  have f3 : zh_e w 20 (6 * zk_xe w 61 a7 + 3) = zk_xe w 20 a9 := by rw [zk_xe_r rfl]; show zk_el w 20 (6 * zk_xe w 61 a7 + 3) = zk_el w 20 a9; rw [show 6 * zk_xe w 61 a7 + 3 = a9 by omega]
  have f4 : zh_e w 20 (6 * zk_xe w 61 a7 + 4) = zk_xe w 20 a10 := by rw [zk_xe_r rfl]; show zk_el w 20 (6 * zk_xe w 61 a7 + 4) = zk_el w 20 a10; rw [show 6 * zk_xe w 61 a7 + 4 = a10 by omega]
  have f5 : zh_e w 20 (6 * zk_xe w 61 a7 + 5) = zk_xe w 20 a11 := by rw [zk_xe_r rfl]; show zk_el w 20 (6 * zk_xe w 61 a7 + 5) = zk_el w 20 a11; rw [show 6 * zk_xe w 61 a7 + 5 = a11 by omega]
  have f2 : zh_e w 20 (6 * zk_xe w 61 a7 + 2) = zk_xe w 20 a12 := by rw [zk_xe_r rfl]; show zk_el w 20 (6 * zk_xe w 61 a7 + 2) = zk_el w 20 a12; rw [show 6 * zk_xe w 61 a7 + 2 = a12 by omega]
  have hV : zh_e w' 61 j = zk_el w' 61 j := rfl
  have hm : zk_xe w 61 a6 % 64 = zk_xe w 61 a6 - 64 * a8 := by omega
  have hT : zk_el w' 61 j = zg_T (zh_e w 20) (zh_e w 61 (2 * a2) % 64) (zk_xe w 61 a7) := by
    rw [(zg_Tv.1 (by rw [f3]; omega)).2 (by rw [hp]; omega), f3]
    omega
  have hO : zg_ok (zh_e w 20) (zh_e w 62) (zh_e w 64) (zk_xe w 61 a7) := by
    refine ⟨fun _ => ?_, fun h => absurd h (by rw [f3]; omega)⟩
    rw [f2, f3, f4]
    refine ⟨by omega, by omega, by omega, by omega⟩
  have r : zk_xe w' 2000043 a5 = 1 := zg_tw (j := a0) (n := a1) (k := a2) (u := a3) (l := a4) hw (by omega) (by omega) (by omega) (by omega) (by omega) (by omega) (by omega) (by omega) (by omega) (by omega) (by omega) (by omega) (by rw [hp]; unfold zg_us; omega) ho hV hT hO
  exact (zx_eF1 (by show 0 ≤ (0 : Int) + (1 * a5 + 0); omega) (by show zk_xe w' 2000043 ((0 : Int) + (1 * a5 + 0)) = (1 : Int) + (0); rw [show (0 : Int) + (1 * a5 + 0) = a5 by omega]; exact r.trans (by omega)) zx_eF0)
def zx_E444 : zx_V := zx_Vc 61 [] 14 [(2000043, 0), (61, 6), (61, 7), (20, 9), (20, 10), (20, 11), (20, 12), (62, 13)] [((0, 0), [(2, 1, 0), (3, 0, 1), (4, 0, 4294967296), (5, 0, 18446744073709551616), (6, 0, 79228162514264337593543950336)]), ((0, 4294967296), [(3, 0, 1), (4, 0, 4294967296), (5, 0, 18446744073709551616), (6, 0, 79228162514264337593543950336), (7, 1, 0)]), ((0, 0), [(4, 0, 2), (8, 1, 0)]), ((0, 1), [(4, 0, 2), (9, 1, 0)]), ((0, 0), [(0, 1, 0), (9, 0, 1)]), ((0, 3), [(11, 1, 0), (18, 0, 6)]), ((0, 4), [(12, 1, 0), (18, 0, 6)]), ((0, 5), [(13, 1, 0), (18, 0, 6)]), ((0, 2), [(14, 1, 0), (18, 0, 6)]), ((0, 1), [(16, 1, 0)]), ((1, 0), [(1, 1, 0), (21, 1, 0)]), ((0, 0), [(15, 1, 0), (21, 0, 6)]), ((0, 0), [(22, 0, 1), (23, 1, 0)])] [((0, 0), [(3, 1, 0)]), ((4294967294, 0), [(3, 0, 1)]), ((0, 0), [(4, 1, 0)]), ((4294967294, 0), [(4, 0, 1)]), ((0, 0), [(5, 1, 0)]), ((4294967294, 0), [(5, 0, 1)]), ((0, 0), [(6, 1, 0)]), ((4294967294, 0), [(6, 0, 1)]), ((0, 1), [(3, 1, 0), (4, 0, 1)]), ((0, 7), [(10, 0, 64), (17, 1, 0)]), ((11, 0), [(10, 64, 0), (17, 0, 1)]), ((0, 1), [(19, 0, 1)]), ((0, 0), [(21, 1, 0)]), ((59, 0), [(21, 0, 1)])] [(2000043, ((0, 0), [(7, 1, 0)]), ((1, 0), []))]
theorem zx_E444_ok {PT : Nat → zz_W → Prop} : zx_Vok 64 zHT PT zx_E444 := by
  refine zx_Vc_ok (fun w w' j ins hI hI' h0 hw hK hl he hg => ?_)
  obtain ⟨a0, a1, a2, a3, a4, a5, a6, a7, a8, a9, a10, a11, a12, a13, rfl⟩ := zx_i14 hl
  have e0 : (0 : Int) + (1 * a0 + ((-1) * a1 + ((-4294967296) * a2 + ((-18446744073709551616) * a3 + ((-79228162514264337593543950336) * a4 + 0))))) = 0 := he _ List.mem_cons_self
  have e1 : ((-4294967296) : Int) + ((-1) * a1 + ((-4294967296) * a2 + ((-18446744073709551616) * a3 + ((-79228162514264337593543950336) * a4 + (1 * a5 + 0))))) = 0 := he _ (List.mem_cons_of_mem _ List.mem_cons_self)
  have e2 : (0 : Int) + ((-2) * a2 + (1 * a6 + 0)) = 0 := he _ (List.mem_cons_of_mem _ (List.mem_cons_of_mem _ List.mem_cons_self))
  have e3 : ((-1) : Int) + ((-2) * a2 + (1 * a7 + 0)) = 0 := he _ (List.mem_cons_of_mem _ (List.mem_cons_of_mem _ (List.mem_cons_of_mem _ List.mem_cons_self)))
  have e4 : (0 : Int) + (1 * j + ((-1) * a7 + 0)) = 0 := he _ (List.mem_cons_of_mem _ (List.mem_cons_of_mem _ (List.mem_cons_of_mem _ (List.mem_cons_of_mem _ List.mem_cons_self))))
  have e5 : ((-3) : Int) + (1 * a9 + ((-6) * (zk_xe w 61 a7) + 0)) = 0 := he _ (List.mem_cons_of_mem _ (List.mem_cons_of_mem _ (List.mem_cons_of_mem _ (List.mem_cons_of_mem _ (List.mem_cons_of_mem _ List.mem_cons_self)))))
  have e6 : ((-4) : Int) + (1 * a10 + ((-6) * (zk_xe w 61 a7) + 0)) = 0 := he _ (List.mem_cons_of_mem _ (List.mem_cons_of_mem _ (List.mem_cons_of_mem _ (List.mem_cons_of_mem _ (List.mem_cons_of_mem _ (List.mem_cons_of_mem _ List.mem_cons_self))))))
  have e7 : ((-5) : Int) + (1 * a11 + ((-6) * (zk_xe w 61 a7) + 0)) = 0 := he _ (List.mem_cons_of_mem _ (List.mem_cons_of_mem _ (List.mem_cons_of_mem _ (List.mem_cons_of_mem _ (List.mem_cons_of_mem _ (List.mem_cons_of_mem _ (List.mem_cons_of_mem _ List.mem_cons_self)))))))
  have e8 : ((-2) : Int) + (1 * a12 + ((-6) * (zk_xe w 61 a7) + 0)) = 0 := he _ (List.mem_cons_of_mem _ (List.mem_cons_of_mem _ (List.mem_cons_of_mem _ (List.mem_cons_of_mem _ (List.mem_cons_of_mem _ (List.mem_cons_of_mem _ (List.mem_cons_of_mem _ (List.mem_cons_of_mem _ List.mem_cons_self))))))))
  have e9 : ((-1) : Int) + (1 * (zk_xe w 2000043 a0) + 0) = 0 := he _ (List.mem_cons_of_mem _ (List.mem_cons_of_mem _ (List.mem_cons_of_mem _ (List.mem_cons_of_mem _ (List.mem_cons_of_mem _ (List.mem_cons_of_mem _ (List.mem_cons_of_mem _ (List.mem_cons_of_mem _ (List.mem_cons_of_mem _ List.mem_cons_self)))))))))
  have e10 : (1 : Int) + (1 * (zk_el w' 61 j) + (1 * (zk_xe w 20 a11) + 0)) = 0 := he _ (List.mem_cons_of_mem _ (List.mem_cons_of_mem _ (List.mem_cons_of_mem _ (List.mem_cons_of_mem _ (List.mem_cons_of_mem _ (List.mem_cons_of_mem _ (List.mem_cons_of_mem _ (List.mem_cons_of_mem _ (List.mem_cons_of_mem _ (List.mem_cons_of_mem _ List.mem_cons_self))))))))))
  have e11 : (0 : Int) + (1 * a13 + ((-6) * (zk_xe w 20 a11) + 0)) = 0 := he _ (List.mem_cons_of_mem _ (List.mem_cons_of_mem _ (List.mem_cons_of_mem _ (List.mem_cons_of_mem _ (List.mem_cons_of_mem _ (List.mem_cons_of_mem _ (List.mem_cons_of_mem _ (List.mem_cons_of_mem _ (List.mem_cons_of_mem _ (List.mem_cons_of_mem _ (List.mem_cons_of_mem _ List.mem_cons_self)))))))))))
  have e12 : (0 : Int) + ((-1) * (zk_xe w 20 a12) + (1 * (zk_xe w 62 a13) + 0)) = 0 := he _ (List.mem_cons_of_mem _ (List.mem_cons_of_mem _ (List.mem_cons_of_mem _ (List.mem_cons_of_mem _ (List.mem_cons_of_mem _ (List.mem_cons_of_mem _ (List.mem_cons_of_mem _ (List.mem_cons_of_mem _ (List.mem_cons_of_mem _ (List.mem_cons_of_mem _ (List.mem_cons_of_mem _ (List.mem_cons_of_mem _ List.mem_cons_self))))))))))))
  have g0 : 0 ≤ (0 : Int) + (1 * a1 + 0) := hg _ List.mem_cons_self
  have g1 : 0 ≤ (4294967294 : Int) + ((-1) * a1 + 0) := hg _ (List.mem_cons_of_mem _ List.mem_cons_self)
  have g2 : 0 ≤ (0 : Int) + (1 * a2 + 0) := hg _ (List.mem_cons_of_mem _ (List.mem_cons_of_mem _ List.mem_cons_self))
  have g3 : 0 ≤ (4294967294 : Int) + ((-1) * a2 + 0) := hg _ (List.mem_cons_of_mem _ (List.mem_cons_of_mem _ (List.mem_cons_of_mem _ List.mem_cons_self)))
  have g4 : 0 ≤ (0 : Int) + (1 * a3 + 0) := hg _ (List.mem_cons_of_mem _ (List.mem_cons_of_mem _ (List.mem_cons_of_mem _ (List.mem_cons_of_mem _ List.mem_cons_self))))
  have g5 : 0 ≤ (4294967294 : Int) + ((-1) * a3 + 0) := hg _ (List.mem_cons_of_mem _ (List.mem_cons_of_mem _ (List.mem_cons_of_mem _ (List.mem_cons_of_mem _ (List.mem_cons_of_mem _ List.mem_cons_self)))))
  have g6 : 0 ≤ (0 : Int) + (1 * a4 + 0) := hg _ (List.mem_cons_of_mem _ (List.mem_cons_of_mem _ (List.mem_cons_of_mem _ (List.mem_cons_of_mem _ (List.mem_cons_of_mem _ (List.mem_cons_of_mem _ List.mem_cons_self))))))
  have g7 : 0 ≤ (4294967294 : Int) + ((-1) * a4 + 0) := hg _ (List.mem_cons_of_mem _ (List.mem_cons_of_mem _ (List.mem_cons_of_mem _ (List.mem_cons_of_mem _ (List.mem_cons_of_mem _ (List.mem_cons_of_mem _ (List.mem_cons_of_mem _ List.mem_cons_self)))))))
  have g8 : 0 ≤ ((-1) : Int) + (1 * a1 + ((-1) * a2 + 0)) := hg _ (List.mem_cons_of_mem _ (List.mem_cons_of_mem _ (List.mem_cons_of_mem _ (List.mem_cons_of_mem _ (List.mem_cons_of_mem _ (List.mem_cons_of_mem _ (List.mem_cons_of_mem _ (List.mem_cons_of_mem _ List.mem_cons_self))))))))
  have g9 : 0 ≤ ((-7) : Int) + ((-64) * a8 + (1 * (zk_xe w 61 a6) + 0)) := hg _ (List.mem_cons_of_mem _ (List.mem_cons_of_mem _ (List.mem_cons_of_mem _ (List.mem_cons_of_mem _ (List.mem_cons_of_mem _ (List.mem_cons_of_mem _ (List.mem_cons_of_mem _ (List.mem_cons_of_mem _ (List.mem_cons_of_mem _ List.mem_cons_self)))))))))
  have g10 : 0 ≤ (11 : Int) + (64 * a8 + ((-1) * (zk_xe w 61 a6) + 0)) := hg _ (List.mem_cons_of_mem _ (List.mem_cons_of_mem _ (List.mem_cons_of_mem _ (List.mem_cons_of_mem _ (List.mem_cons_of_mem _ (List.mem_cons_of_mem _ (List.mem_cons_of_mem _ (List.mem_cons_of_mem _ (List.mem_cons_of_mem _ (List.mem_cons_of_mem _ List.mem_cons_self))))))))))
  have g11 : 0 ≤ ((-1) : Int) + ((-1) * (zk_xe w 20 a9) + 0) := hg _ (List.mem_cons_of_mem _ (List.mem_cons_of_mem _ (List.mem_cons_of_mem _ (List.mem_cons_of_mem _ (List.mem_cons_of_mem _ (List.mem_cons_of_mem _ (List.mem_cons_of_mem _ (List.mem_cons_of_mem _ (List.mem_cons_of_mem _ (List.mem_cons_of_mem _ (List.mem_cons_of_mem _ List.mem_cons_self)))))))))))
  have g12 : 0 ≤ (0 : Int) + (1 * (zk_xe w 20 a11) + 0) := hg _ (List.mem_cons_of_mem _ (List.mem_cons_of_mem _ (List.mem_cons_of_mem _ (List.mem_cons_of_mem _ (List.mem_cons_of_mem _ (List.mem_cons_of_mem _ (List.mem_cons_of_mem _ (List.mem_cons_of_mem _ (List.mem_cons_of_mem _ (List.mem_cons_of_mem _ (List.mem_cons_of_mem _ (List.mem_cons_of_mem _ List.mem_cons_self))))))))))))
  have g13 : 0 ≤ (59 : Int) + ((-1) * (zk_xe w 20 a11) + 0) := hg _ (List.mem_cons_of_mem _ (List.mem_cons_of_mem _ (List.mem_cons_of_mem _ (List.mem_cons_of_mem _ (List.mem_cons_of_mem _ (List.mem_cons_of_mem _ (List.mem_cons_of_mem _ (List.mem_cons_of_mem _ (List.mem_cons_of_mem _ (List.mem_cons_of_mem _ (List.mem_cons_of_mem _ (List.mem_cons_of_mem _ (List.mem_cons_of_mem _ List.mem_cons_self)))))))))))))
  have hp : zh_e w 61 (2 * a2) = zk_xe w 61 a6 := by rw [zk_xe_r rfl]; show zk_el w 61 (2 * a2) = zk_el w 61 a6; rw [show 2 * a2 = a6 by omega]
  have ho : zh_e w 61 (2 * a2 + 1) = zk_xe w 61 a7 := by rw [zk_xe_r rfl]; show zk_el w 61 (2 * a2 + 1) = zk_el w 61 a7; rw [show 2 * a2 + 1 = a7 by omega]
  have f3 : zh_e w 20 (6 * zk_xe w 61 a7 + 3) = zk_xe w 20 a9 := by rw [zk_xe_r rfl]; show zk_el w 20 (6 * zk_xe w 61 a7 + 3) = zk_el w 20 a9; rw [show 6 * zk_xe w 61 a7 + 3 = a9 by omega]
  have f4 : zh_e w 20 (6 * zk_xe w 61 a7 + 4) = zk_xe w 20 a10 := by rw [zk_xe_r rfl]; show zk_el w 20 (6 * zk_xe w 61 a7 + 4) = zk_el w 20 a10; rw [show 6 * zk_xe w 61 a7 + 4 = a10 by omega]
  have f5 : zh_e w 20 (6 * zk_xe w 61 a7 + 5) = zk_xe w 20 a11 := by rw [zk_xe_r rfl]; show zk_el w 20 (6 * zk_xe w 61 a7 + 5) = zk_el w 20 a11; rw [show 6 * zk_xe w 61 a7 + 5 = a11 by omega]
  have f2 : zh_e w 20 (6 * zk_xe w 61 a7 + 2) = zk_xe w 20 a12 := by rw [zk_xe_r rfl]; show zk_el w 20 (6 * zk_xe w 61 a7 + 2) = zk_el w 20 a12; rw [show 6 * zk_xe w 61 a7 + 2 = a12 by omega]
  have fd : zh_e w 62 (6 * zk_xe w 20 a11) = zk_xe w 62 a13 := by rw [zk_xe_r rfl]; show zk_el w 62 (6 * zk_xe w 20 a11) = zk_el w 62 a13; rw [show 6 * zk_xe w 20 a11 = a13 by omega]
  have hV : zh_e w' 61 j = zk_el w' 61 j := rfl
  have hm : zk_xe w 61 a6 % 64 = zk_xe w 61 a6 - 64 * a8 := by omega
  have hT : zk_el w' 61 j = zg_T (zh_e w 20) (zh_e w 61 (2 * a2) % 64) (zk_xe w 61 a7) := by
    rw [zg_Tv.2 (by rw [f3]; omega), f5]
    omega
  have hO : zg_ok (zh_e w 20) (zh_e w 62) (zh_e w 64) (zk_xe w 61 a7) := by
    refine ⟨fun h => absurd h (by rw [f3]; omega), fun _ => ?_⟩
    rw [f2, f5]
    refine ⟨by omega, by omega, ?_⟩
    unfold zg_K
    rw [if_pos (by omega), fd]
    omega
  have r : zk_xe w' 2000043 a5 = 1 := zg_tw (j := a0) (n := a1) (k := a2) (u := a3) (l := a4) hw (by omega) (by omega) (by omega) (by omega) (by omega) (by omega) (by omega) (by omega) (by omega) (by omega) (by omega) (by omega) (by rw [hp]; unfold zg_us; omega) ho hV hT hO
  exact (zx_eF1 (by show 0 ≤ (0 : Int) + (1 * a5 + 0); omega) (by show zk_xe w' 2000043 ((0 : Int) + (1 * a5 + 0)) = (1 : Int) + (0); rw [show (0 : Int) + (1 * a5 + 0) = a5 by omega]; exact r.trans (by omega)) zx_eF0)
def zx_E445 : zx_V := zx_Vc 61 [] 14 [(2000043, 0), (61, 6), (61, 7), (20, 9), (20, 10), (20, 11), (20, 12), (62, 13)] [((0, 0), [(2, 1, 0), (3, 0, 1), (4, 0, 4294967296), (5, 0, 18446744073709551616), (6, 0, 79228162514264337593543950336)]), ((0, 4294967296), [(3, 0, 1), (4, 0, 4294967296), (5, 0, 18446744073709551616), (6, 0, 79228162514264337593543950336), (7, 1, 0)]), ((0, 0), [(4, 0, 2), (8, 1, 0)]), ((0, 1), [(4, 0, 2), (9, 1, 0)]), ((0, 0), [(0, 1, 0), (9, 0, 1)]), ((0, 3), [(11, 1, 0), (18, 0, 6)]), ((0, 4), [(12, 1, 0), (18, 0, 6)]), ((0, 5), [(13, 1, 0), (18, 0, 6)]), ((0, 2), [(14, 1, 0), (18, 0, 6)]), ((0, 1), [(16, 1, 0)]), ((1, 0), [(1, 1, 0), (21, 1, 0)]), ((0, 0), [(15, 1, 0), (21, 0, 6)]), ((0, 0), [(22, 0, 1), (23, 1, 0)])] [((0, 0), [(3, 1, 0)]), ((4294967294, 0), [(3, 0, 1)]), ((0, 0), [(4, 1, 0)]), ((4294967294, 0), [(4, 0, 1)]), ((0, 0), [(5, 1, 0)]), ((4294967294, 0), [(5, 0, 1)]), ((0, 0), [(6, 1, 0)]), ((4294967294, 0), [(6, 0, 1)]), ((0, 1), [(3, 1, 0), (4, 0, 1)]), ((0, 29), [(10, 0, 64), (17, 1, 0)]), ((30, 0), [(10, 64, 0), (17, 0, 1)]), ((0, 1), [(19, 0, 1)]), ((0, 0), [(21, 1, 0)]), ((59, 0), [(21, 0, 1)])] [(2000043, ((0, 0), [(7, 1, 0)]), ((1, 0), []))]
theorem zx_E445_ok {PT : Nat → zz_W → Prop} : zx_Vok 64 zHT PT zx_E445 := by
  refine zx_Vc_ok (fun w w' j ins hI hI' h0 hw hK hl he hg => ?_)
  obtain ⟨a0, a1, a2, a3, a4, a5, a6, a7, a8, a9, a10, a11, a12, a13, rfl⟩ := zx_i14 hl
  have e0 : (0 : Int) + (1 * a0 + ((-1) * a1 + ((-4294967296) * a2 + ((-18446744073709551616) * a3 + ((-79228162514264337593543950336) * a4 + 0))))) = 0 := he _ List.mem_cons_self
  have e1 : ((-4294967296) : Int) + ((-1) * a1 + ((-4294967296) * a2 + ((-18446744073709551616) * a3 + ((-79228162514264337593543950336) * a4 + (1 * a5 + 0))))) = 0 := he _ (List.mem_cons_of_mem _ List.mem_cons_self)
  have e2 : (0 : Int) + ((-2) * a2 + (1 * a6 + 0)) = 0 := he _ (List.mem_cons_of_mem _ (List.mem_cons_of_mem _ List.mem_cons_self))
  have e3 : ((-1) : Int) + ((-2) * a2 + (1 * a7 + 0)) = 0 := he _ (List.mem_cons_of_mem _ (List.mem_cons_of_mem _ (List.mem_cons_of_mem _ List.mem_cons_self)))
  have e4 : (0 : Int) + (1 * j + ((-1) * a7 + 0)) = 0 := he _ (List.mem_cons_of_mem _ (List.mem_cons_of_mem _ (List.mem_cons_of_mem _ (List.mem_cons_of_mem _ List.mem_cons_self))))
  have e5 : ((-3) : Int) + (1 * a9 + ((-6) * (zk_xe w 61 a7) + 0)) = 0 := he _ (List.mem_cons_of_mem _ (List.mem_cons_of_mem _ (List.mem_cons_of_mem _ (List.mem_cons_of_mem _ (List.mem_cons_of_mem _ List.mem_cons_self)))))
  have e6 : ((-4) : Int) + (1 * a10 + ((-6) * (zk_xe w 61 a7) + 0)) = 0 := he _ (List.mem_cons_of_mem _ (List.mem_cons_of_mem _ (List.mem_cons_of_mem _ (List.mem_cons_of_mem _ (List.mem_cons_of_mem _ (List.mem_cons_of_mem _ List.mem_cons_self))))))
  have e7 : ((-5) : Int) + (1 * a11 + ((-6) * (zk_xe w 61 a7) + 0)) = 0 := he _ (List.mem_cons_of_mem _ (List.mem_cons_of_mem _ (List.mem_cons_of_mem _ (List.mem_cons_of_mem _ (List.mem_cons_of_mem _ (List.mem_cons_of_mem _ (List.mem_cons_of_mem _ List.mem_cons_self)))))))
  have e8 : ((-2) : Int) + (1 * a12 + ((-6) * (zk_xe w 61 a7) + 0)) = 0 := he _ (List.mem_cons_of_mem _ (List.mem_cons_of_mem _ (List.mem_cons_of_mem _ (List.mem_cons_of_mem _ (List.mem_cons_of_mem _ (List.mem_cons_of_mem _ (List.mem_cons_of_mem _ (List.mem_cons_of_mem _ List.mem_cons_self))))))))
  have e9 : ((-1) : Int) + (1 * (zk_xe w 2000043 a0) + 0) = 0 := he _ (List.mem_cons_of_mem _ (List.mem_cons_of_mem _ (List.mem_cons_of_mem _ (List.mem_cons_of_mem _ (List.mem_cons_of_mem _ (List.mem_cons_of_mem _ (List.mem_cons_of_mem _ (List.mem_cons_of_mem _ (List.mem_cons_of_mem _ List.mem_cons_self)))))))))
  have e10 : (1 : Int) + (1 * (zk_el w' 61 j) + (1 * (zk_xe w 20 a11) + 0)) = 0 := he _ (List.mem_cons_of_mem _ (List.mem_cons_of_mem _ (List.mem_cons_of_mem _ (List.mem_cons_of_mem _ (List.mem_cons_of_mem _ (List.mem_cons_of_mem _ (List.mem_cons_of_mem _ (List.mem_cons_of_mem _ (List.mem_cons_of_mem _ (List.mem_cons_of_mem _ List.mem_cons_self))))))))))
  have e11 : (0 : Int) + (1 * a13 + ((-6) * (zk_xe w 20 a11) + 0)) = 0 := he _ (List.mem_cons_of_mem _ (List.mem_cons_of_mem _ (List.mem_cons_of_mem _ (List.mem_cons_of_mem _ (List.mem_cons_of_mem _ (List.mem_cons_of_mem _ (List.mem_cons_of_mem _ (List.mem_cons_of_mem _ (List.mem_cons_of_mem _ (List.mem_cons_of_mem _ (List.mem_cons_of_mem _ List.mem_cons_self)))))))))))
  have e12 : (0 : Int) + ((-1) * (zk_xe w 20 a12) + (1 * (zk_xe w 62 a13) + 0)) = 0 := he _ (List.mem_cons_of_mem _ (List.mem_cons_of_mem _ (List.mem_cons_of_mem _ (List.mem_cons_of_mem _ (List.mem_cons_of_mem _ (List.mem_cons_of_mem _ (List.mem_cons_of_mem _ (List.mem_cons_of_mem _ (List.mem_cons_of_mem _ (List.mem_cons_of_mem _ (List.mem_cons_of_mem _ (List.mem_cons_of_mem _ List.mem_cons_self))))))))))))
  have g0 : 0 ≤ (0 : Int) + (1 * a1 + 0) := hg _ List.mem_cons_self
  have g1 : 0 ≤ (4294967294 : Int) + ((-1) * a1 + 0) := hg _ (List.mem_cons_of_mem _ List.mem_cons_self)
  have g2 : 0 ≤ (0 : Int) + (1 * a2 + 0) := hg _ (List.mem_cons_of_mem _ (List.mem_cons_of_mem _ List.mem_cons_self))
  have g3 : 0 ≤ (4294967294 : Int) + ((-1) * a2 + 0) := hg _ (List.mem_cons_of_mem _ (List.mem_cons_of_mem _ (List.mem_cons_of_mem _ List.mem_cons_self)))
  have g4 : 0 ≤ (0 : Int) + (1 * a3 + 0) := hg _ (List.mem_cons_of_mem _ (List.mem_cons_of_mem _ (List.mem_cons_of_mem _ (List.mem_cons_of_mem _ List.mem_cons_self))))
  have g5 : 0 ≤ (4294967294 : Int) + ((-1) * a3 + 0) := hg _ (List.mem_cons_of_mem _ (List.mem_cons_of_mem _ (List.mem_cons_of_mem _ (List.mem_cons_of_mem _ (List.mem_cons_of_mem _ List.mem_cons_self)))))
  have g6 : 0 ≤ (0 : Int) + (1 * a4 + 0) := hg _ (List.mem_cons_of_mem _ (List.mem_cons_of_mem _ (List.mem_cons_of_mem _ (List.mem_cons_of_mem _ (List.mem_cons_of_mem _ (List.mem_cons_of_mem _ List.mem_cons_self))))))
  have g7 : 0 ≤ (4294967294 : Int) + ((-1) * a4 + 0) := hg _ (List.mem_cons_of_mem _ (List.mem_cons_of_mem _ (List.mem_cons_of_mem _ (List.mem_cons_of_mem _ (List.mem_cons_of_mem _ (List.mem_cons_of_mem _ (List.mem_cons_of_mem _ List.mem_cons_self)))))))
  have g8 : 0 ≤ ((-1) : Int) + (1 * a1 + ((-1) * a2 + 0)) := hg _ (List.mem_cons_of_mem _ (List.mem_cons_of_mem _ (List.mem_cons_of_mem _ (List.mem_cons_of_mem _ (List.mem_cons_of_mem _ (List.mem_cons_of_mem _ (List.mem_cons_of_mem _ (List.mem_cons_of_mem _ List.mem_cons_self))))))))
  have g9 : 0 ≤ ((-29) : Int) + ((-64) * a8 + (1 * (zk_xe w 61 a6) + 0)) := hg _ (List.mem_cons_of_mem _ (List.mem_cons_of_mem _ (List.mem_cons_of_mem _ (List.mem_cons_of_mem _ (List.mem_cons_of_mem _ (List.mem_cons_of_mem _ (List.mem_cons_of_mem _ (List.mem_cons_of_mem _ (List.mem_cons_of_mem _ List.mem_cons_self)))))))))
  have g10 : 0 ≤ (30 : Int) + (64 * a8 + ((-1) * (zk_xe w 61 a6) + 0)) := hg _ (List.mem_cons_of_mem _ (List.mem_cons_of_mem _ (List.mem_cons_of_mem _ (List.mem_cons_of_mem _ (List.mem_cons_of_mem _ (List.mem_cons_of_mem _ (List.mem_cons_of_mem _ (List.mem_cons_of_mem _ (List.mem_cons_of_mem _ (List.mem_cons_of_mem _ List.mem_cons_self))))))))))
  have g11 : 0 ≤ ((-1) : Int) + ((-1) * (zk_xe w 20 a9) + 0) := hg _ (List.mem_cons_of_mem _ (List.mem_cons_of_mem _ (List.mem_cons_of_mem _ (List.mem_cons_of_mem _ (List.mem_cons_of_mem _ (List.mem_cons_of_mem _ (List.mem_cons_of_mem _ (List.mem_cons_of_mem _ (List.mem_cons_of_mem _ (List.mem_cons_of_mem _ (List.mem_cons_of_mem _ List.mem_cons_self)))))))))))
  have g12 : 0 ≤ (0 : Int) + (1 * (zk_xe w 20 a11) + 0) := hg _ (List.mem_cons_of_mem _ (List.mem_cons_of_mem _ (List.mem_cons_of_mem _ (List.mem_cons_of_mem _ (List.mem_cons_of_mem _ (List.mem_cons_of_mem _ (List.mem_cons_of_mem _ (List.mem_cons_of_mem _ (List.mem_cons_of_mem _ (List.mem_cons_of_mem _ (List.mem_cons_of_mem _ (List.mem_cons_of_mem _ List.mem_cons_self))))))))))))
  have g13 : 0 ≤ (59 : Int) + ((-1) * (zk_xe w 20 a11) + 0) := hg _ (List.mem_cons_of_mem _ (List.mem_cons_of_mem _ (List.mem_cons_of_mem _ (List.mem_cons_of_mem _ (List.mem_cons_of_mem _ (List.mem_cons_of_mem _ (List.mem_cons_of_mem _ (List.mem_cons_of_mem _ (List.mem_cons_of_mem _ (List.mem_cons_of_mem _ (List.mem_cons_of_mem _ (List.mem_cons_of_mem _ (List.mem_cons_of_mem _ List.mem_cons_self)))))))))))))
  have hp : zh_e w 61 (2 * a2) = zk_xe w 61 a6 := by rw [zk_xe_r rfl]; show zk_el w 61 (2 * a2) = zk_el w 61 a6; rw [show 2 * a2 = a6 by omega]
  have ho : zh_e w 61 (2 * a2 + 1) = zk_xe w 61 a7 := by rw [zk_xe_r rfl]; show zk_el w 61 (2 * a2 + 1) = zk_el w 61 a7; rw [show 2 * a2 + 1 = a7 by omega]
  have f3 : zh_e w 20 (6 * zk_xe w 61 a7 + 3) = zk_xe w 20 a9 := by rw [zk_xe_r rfl]; show zk_el w 20 (6 * zk_xe w 61 a7 + 3) = zk_el w 20 a9; rw [show 6 * zk_xe w 61 a7 + 3 = a9 by omega]
  have f4 : zh_e w 20 (6 * zk_xe w 61 a7 + 4) = zk_xe w 20 a10 := by rw [zk_xe_r rfl]; show zk_el w 20 (6 * zk_xe w 61 a7 + 4) = zk_el w 20 a10; rw [show 6 * zk_xe w 61 a7 + 4 = a10 by omega]
  have f5 : zh_e w 20 (6 * zk_xe w 61 a7 + 5) = zk_xe w 20 a11 := by rw [zk_xe_r rfl]; show zk_el w 20 (6 * zk_xe w 61 a7 + 5) = zk_el w 20 a11; rw [show 6 * zk_xe w 61 a7 + 5 = a11 by omega]
  have f2 : zh_e w 20 (6 * zk_xe w 61 a7 + 2) = zk_xe w 20 a12 := by rw [zk_xe_r rfl]; show zk_el w 20 (6 * zk_xe w 61 a7 + 2) = zk_el w 20 a12; rw [show 6 * zk_xe w 61 a7 + 2 = a12 by omega]
  have fd : zh_e w 62 (6 * zk_xe w 20 a11) = zk_xe w 62 a13 := by rw [zk_xe_r rfl]; show zk_el w 62 (6 * zk_xe w 20 a11) = zk_el w 62 a13; rw [show 6 * zk_xe w 20 a11 = a13 by omega]
  have hV : zh_e w' 61 j = zk_el w' 61 j := rfl
  have hm : zk_xe w 61 a6 % 64 = zk_xe w 61 a6 - 64 * a8 := by omega
  have hT : zk_el w' 61 j = zg_T (zh_e w 20) (zh_e w 61 (2 * a2) % 64) (zk_xe w 61 a7) := by
    rw [zg_Tv.2 (by rw [f3]; omega), f5]
    omega
  have hO : zg_ok (zh_e w 20) (zh_e w 62) (zh_e w 64) (zk_xe w 61 a7) := by
    refine ⟨fun h => absurd h (by rw [f3]; omega), fun _ => ?_⟩
    rw [f2, f5]
    refine ⟨by omega, by omega, ?_⟩
    unfold zg_K
    rw [if_pos (by omega), fd]
    omega
  have r : zk_xe w' 2000043 a5 = 1 := zg_tw (j := a0) (n := a1) (k := a2) (u := a3) (l := a4) hw (by omega) (by omega) (by omega) (by omega) (by omega) (by omega) (by omega) (by omega) (by omega) (by omega) (by omega) (by omega) (by rw [hp]; unfold zg_us; omega) ho hV hT hO
  exact (zx_eF1 (by show 0 ≤ (0 : Int) + (1 * a5 + 0); omega) (by show zk_xe w' 2000043 ((0 : Int) + (1 * a5 + 0)) = (1 : Int) + (0); rw [show (0 : Int) + (1 * a5 + 0) = a5 by omega]; exact r.trans (by omega)) zx_eF0)
def zx_E446 : zx_V := zx_Vc 61 [] 14 [(2000043, 0), (61, 6), (61, 7), (20, 9), (20, 10), (20, 11), (20, 12), (64, 13)] [((0, 0), [(2, 1, 0), (3, 0, 1), (4, 0, 4294967296), (5, 0, 18446744073709551616), (6, 0, 79228162514264337593543950336)]), ((0, 4294967296), [(3, 0, 1), (4, 0, 4294967296), (5, 0, 18446744073709551616), (6, 0, 79228162514264337593543950336), (7, 1, 0)]), ((0, 0), [(4, 0, 2), (8, 1, 0)]), ((0, 1), [(4, 0, 2), (9, 1, 0)]), ((0, 0), [(0, 1, 0), (9, 0, 1)]), ((0, 3), [(11, 1, 0), (18, 0, 6)]), ((0, 4), [(12, 1, 0), (18, 0, 6)]), ((0, 5), [(13, 1, 0), (18, 0, 6)]), ((0, 2), [(14, 1, 0), (18, 0, 6)]), ((0, 1), [(16, 1, 0)]), ((1, 0), [(1, 1, 0), (21, 1, 0)]), ((60, 0), [(15, 1, 0), (21, 0, 1)]), ((0, 0), [(22, 0, 1), (23, 1, 0)])] [((0, 0), [(3, 1, 0)]), ((4294967294, 0), [(3, 0, 1)]), ((0, 0), [(4, 1, 0)]), ((4294967294, 0), [(4, 0, 1)]), ((0, 0), [(5, 1, 0)]), ((4294967294, 0), [(5, 0, 1)]), ((0, 0), [(6, 1, 0)]), ((4294967294, 0), [(6, 0, 1)]), ((0, 1), [(3, 1, 0), (4, 0, 1)]), ((0, 7), [(10, 0, 64), (17, 1, 0)]), ((11, 0), [(10, 64, 0), (17, 0, 1)]), ((0, 1), [(19, 0, 1)]), ((0, 60), [(21, 1, 0)]), ((119, 0), [(21, 0, 1)])] [(2000043, ((0, 0), [(7, 1, 0)]), ((1, 0), []))]
theorem zx_E446_ok {PT : Nat → zz_W → Prop} : zx_Vok 64 zHT PT zx_E446 := by
  refine zx_Vc_ok (fun w w' j ins hI hI' h0 hw hK hl he hg => ?_)
  obtain ⟨a0, a1, a2, a3, a4, a5, a6, a7, a8, a9, a10, a11, a12, a13, rfl⟩ := zx_i14 hl
  have e0 : (0 : Int) + (1 * a0 + ((-1) * a1 + ((-4294967296) * a2 + ((-18446744073709551616) * a3 + ((-79228162514264337593543950336) * a4 + 0))))) = 0 := he _ List.mem_cons_self
  have e1 : ((-4294967296) : Int) + ((-1) * a1 + ((-4294967296) * a2 + ((-18446744073709551616) * a3 + ((-79228162514264337593543950336) * a4 + (1 * a5 + 0))))) = 0 := he _ (List.mem_cons_of_mem _ List.mem_cons_self)
  have e2 : (0 : Int) + ((-2) * a2 + (1 * a6 + 0)) = 0 := he _ (List.mem_cons_of_mem _ (List.mem_cons_of_mem _ List.mem_cons_self))
  have e3 : ((-1) : Int) + ((-2) * a2 + (1 * a7 + 0)) = 0 := he _ (List.mem_cons_of_mem _ (List.mem_cons_of_mem _ (List.mem_cons_of_mem _ List.mem_cons_self)))
  have e4 : (0 : Int) + (1 * j + ((-1) * a7 + 0)) = 0 := he _ (List.mem_cons_of_mem _ (List.mem_cons_of_mem _ (List.mem_cons_of_mem _ (List.mem_cons_of_mem _ List.mem_cons_self))))
  have e5 : ((-3) : Int) + (1 * a9 + ((-6) * (zk_xe w 61 a7) + 0)) = 0 := he _ (List.mem_cons_of_mem _ (List.mem_cons_of_mem _ (List.mem_cons_of_mem _ (List.mem_cons_of_mem _ (List.mem_cons_of_mem _ List.mem_cons_self)))))
  have e6 : ((-4) : Int) + (1 * a10 + ((-6) * (zk_xe w 61 a7) + 0)) = 0 := he _ (List.mem_cons_of_mem _ (List.mem_cons_of_mem _ (List.mem_cons_of_mem _ (List.mem_cons_of_mem _ (List.mem_cons_of_mem _ (List.mem_cons_of_mem _ List.mem_cons_self))))))
  have e7 : ((-5) : Int) + (1 * a11 + ((-6) * (zk_xe w 61 a7) + 0)) = 0 := he _ (List.mem_cons_of_mem _ (List.mem_cons_of_mem _ (List.mem_cons_of_mem _ (List.mem_cons_of_mem _ (List.mem_cons_of_mem _ (List.mem_cons_of_mem _ (List.mem_cons_of_mem _ List.mem_cons_self)))))))
  have e8 : ((-2) : Int) + (1 * a12 + ((-6) * (zk_xe w 61 a7) + 0)) = 0 := he _ (List.mem_cons_of_mem _ (List.mem_cons_of_mem _ (List.mem_cons_of_mem _ (List.mem_cons_of_mem _ (List.mem_cons_of_mem _ (List.mem_cons_of_mem _ (List.mem_cons_of_mem _ (List.mem_cons_of_mem _ List.mem_cons_self))))))))
  have e9 : ((-1) : Int) + (1 * (zk_xe w 2000043 a0) + 0) = 0 := he _ (List.mem_cons_of_mem _ (List.mem_cons_of_mem _ (List.mem_cons_of_mem _ (List.mem_cons_of_mem _ (List.mem_cons_of_mem _ (List.mem_cons_of_mem _ (List.mem_cons_of_mem _ (List.mem_cons_of_mem _ (List.mem_cons_of_mem _ List.mem_cons_self)))))))))
  have e10 : (1 : Int) + (1 * (zk_el w' 61 j) + (1 * (zk_xe w 20 a11) + 0)) = 0 := he _ (List.mem_cons_of_mem _ (List.mem_cons_of_mem _ (List.mem_cons_of_mem _ (List.mem_cons_of_mem _ (List.mem_cons_of_mem _ (List.mem_cons_of_mem _ (List.mem_cons_of_mem _ (List.mem_cons_of_mem _ (List.mem_cons_of_mem _ (List.mem_cons_of_mem _ List.mem_cons_self))))))))))
  have e11 : (60 : Int) + (1 * a13 + ((-1) * (zk_xe w 20 a11) + 0)) = 0 := he _ (List.mem_cons_of_mem _ (List.mem_cons_of_mem _ (List.mem_cons_of_mem _ (List.mem_cons_of_mem _ (List.mem_cons_of_mem _ (List.mem_cons_of_mem _ (List.mem_cons_of_mem _ (List.mem_cons_of_mem _ (List.mem_cons_of_mem _ (List.mem_cons_of_mem _ (List.mem_cons_of_mem _ List.mem_cons_self)))))))))))
  have e12 : (0 : Int) + ((-1) * (zk_xe w 20 a12) + (1 * (zk_xe w 64 a13) + 0)) = 0 := he _ (List.mem_cons_of_mem _ (List.mem_cons_of_mem _ (List.mem_cons_of_mem _ (List.mem_cons_of_mem _ (List.mem_cons_of_mem _ (List.mem_cons_of_mem _ (List.mem_cons_of_mem _ (List.mem_cons_of_mem _ (List.mem_cons_of_mem _ (List.mem_cons_of_mem _ (List.mem_cons_of_mem _ (List.mem_cons_of_mem _ List.mem_cons_self))))))))))))
  have g0 : 0 ≤ (0 : Int) + (1 * a1 + 0) := hg _ List.mem_cons_self
  have g1 : 0 ≤ (4294967294 : Int) + ((-1) * a1 + 0) := hg _ (List.mem_cons_of_mem _ List.mem_cons_self)
  have g2 : 0 ≤ (0 : Int) + (1 * a2 + 0) := hg _ (List.mem_cons_of_mem _ (List.mem_cons_of_mem _ List.mem_cons_self))
  have g3 : 0 ≤ (4294967294 : Int) + ((-1) * a2 + 0) := hg _ (List.mem_cons_of_mem _ (List.mem_cons_of_mem _ (List.mem_cons_of_mem _ List.mem_cons_self)))
  have g4 : 0 ≤ (0 : Int) + (1 * a3 + 0) := hg _ (List.mem_cons_of_mem _ (List.mem_cons_of_mem _ (List.mem_cons_of_mem _ (List.mem_cons_of_mem _ List.mem_cons_self))))
  have g5 : 0 ≤ (4294967294 : Int) + ((-1) * a3 + 0) := hg _ (List.mem_cons_of_mem _ (List.mem_cons_of_mem _ (List.mem_cons_of_mem _ (List.mem_cons_of_mem _ (List.mem_cons_of_mem _ List.mem_cons_self)))))
  have g6 : 0 ≤ (0 : Int) + (1 * a4 + 0) := hg _ (List.mem_cons_of_mem _ (List.mem_cons_of_mem _ (List.mem_cons_of_mem _ (List.mem_cons_of_mem _ (List.mem_cons_of_mem _ (List.mem_cons_of_mem _ List.mem_cons_self))))))
  have g7 : 0 ≤ (4294967294 : Int) + ((-1) * a4 + 0) := hg _ (List.mem_cons_of_mem _ (List.mem_cons_of_mem _ (List.mem_cons_of_mem _ (List.mem_cons_of_mem _ (List.mem_cons_of_mem _ (List.mem_cons_of_mem _ (List.mem_cons_of_mem _ List.mem_cons_self)))))))
  have g8 : 0 ≤ ((-1) : Int) + (1 * a1 + ((-1) * a2 + 0)) := hg _ (List.mem_cons_of_mem _ (List.mem_cons_of_mem _ (List.mem_cons_of_mem _ (List.mem_cons_of_mem _ (List.mem_cons_of_mem _ (List.mem_cons_of_mem _ (List.mem_cons_of_mem _ (List.mem_cons_of_mem _ List.mem_cons_self))))))))
  have g9 : 0 ≤ ((-7) : Int) + ((-64) * a8 + (1 * (zk_xe w 61 a6) + 0)) := hg _ (List.mem_cons_of_mem _ (List.mem_cons_of_mem _ (List.mem_cons_of_mem _ (List.mem_cons_of_mem _ (List.mem_cons_of_mem _ (List.mem_cons_of_mem _ (List.mem_cons_of_mem _ (List.mem_cons_of_mem _ (List.mem_cons_of_mem _ List.mem_cons_self)))))))))
  have g10 : 0 ≤ (11 : Int) + (64 * a8 + ((-1) * (zk_xe w 61 a6) + 0)) := hg _ (List.mem_cons_of_mem _ (List.mem_cons_of_mem _ (List.mem_cons_of_mem _ (List.mem_cons_of_mem _ (List.mem_cons_of_mem _ (List.mem_cons_of_mem _ (List.mem_cons_of_mem _ (List.mem_cons_of_mem _ (List.mem_cons_of_mem _ (List.mem_cons_of_mem _ List.mem_cons_self))))))))))
  have g11 : 0 ≤ ((-1) : Int) + ((-1) * (zk_xe w 20 a9) + 0) := hg _ (List.mem_cons_of_mem _ (List.mem_cons_of_mem _ (List.mem_cons_of_mem _ (List.mem_cons_of_mem _ (List.mem_cons_of_mem _ (List.mem_cons_of_mem _ (List.mem_cons_of_mem _ (List.mem_cons_of_mem _ (List.mem_cons_of_mem _ (List.mem_cons_of_mem _ (List.mem_cons_of_mem _ List.mem_cons_self)))))))))))
  have g12 : 0 ≤ ((-60) : Int) + (1 * (zk_xe w 20 a11) + 0) := hg _ (List.mem_cons_of_mem _ (List.mem_cons_of_mem _ (List.mem_cons_of_mem _ (List.mem_cons_of_mem _ (List.mem_cons_of_mem _ (List.mem_cons_of_mem _ (List.mem_cons_of_mem _ (List.mem_cons_of_mem _ (List.mem_cons_of_mem _ (List.mem_cons_of_mem _ (List.mem_cons_of_mem _ (List.mem_cons_of_mem _ List.mem_cons_self))))))))))))
  have g13 : 0 ≤ (119 : Int) + ((-1) * (zk_xe w 20 a11) + 0) := hg _ (List.mem_cons_of_mem _ (List.mem_cons_of_mem _ (List.mem_cons_of_mem _ (List.mem_cons_of_mem _ (List.mem_cons_of_mem _ (List.mem_cons_of_mem _ (List.mem_cons_of_mem _ (List.mem_cons_of_mem _ (List.mem_cons_of_mem _ (List.mem_cons_of_mem _ (List.mem_cons_of_mem _ (List.mem_cons_of_mem _ (List.mem_cons_of_mem _ List.mem_cons_self)))))))))))))
  have hp : zh_e w 61 (2 * a2) = zk_xe w 61 a6 := by rw [zk_xe_r rfl]; show zk_el w 61 (2 * a2) = zk_el w 61 a6; rw [show 2 * a2 = a6 by omega]
  have ho : zh_e w 61 (2 * a2 + 1) = zk_xe w 61 a7 := by rw [zk_xe_r rfl]; show zk_el w 61 (2 * a2 + 1) = zk_el w 61 a7; rw [show 2 * a2 + 1 = a7 by omega]
  have f3 : zh_e w 20 (6 * zk_xe w 61 a7 + 3) = zk_xe w 20 a9 := by rw [zk_xe_r rfl]; show zk_el w 20 (6 * zk_xe w 61 a7 + 3) = zk_el w 20 a9; rw [show 6 * zk_xe w 61 a7 + 3 = a9 by omega]
  have f4 : zh_e w 20 (6 * zk_xe w 61 a7 + 4) = zk_xe w 20 a10 := by rw [zk_xe_r rfl]; show zk_el w 20 (6 * zk_xe w 61 a7 + 4) = zk_el w 20 a10; rw [show 6 * zk_xe w 61 a7 + 4 = a10 by omega]
  have f5 : zh_e w 20 (6 * zk_xe w 61 a7 + 5) = zk_xe w 20 a11 := by rw [zk_xe_r rfl]; show zk_el w 20 (6 * zk_xe w 61 a7 + 5) = zk_el w 20 a11; rw [show 6 * zk_xe w 61 a7 + 5 = a11 by omega]
  have f2 : zh_e w 20 (6 * zk_xe w 61 a7 + 2) = zk_xe w 20 a12 := by rw [zk_xe_r rfl]; show zk_el w 20 (6 * zk_xe w 61 a7 + 2) = zk_el w 20 a12; rw [show 6 * zk_xe w 61 a7 + 2 = a12 by omega]
  have fd : zh_e w 64 (zk_xe w 20 a11 - 60) = zk_xe w 64 a13 := by rw [zk_xe_r rfl]; show zk_el w 64 (zk_xe w 20 a11 - 60) = zk_el w 64 a13; rw [show zk_xe w 20 a11 - 60 = a13 by omega]
  have hV : zh_e w' 61 j = zk_el w' 61 j := rfl
  have hm : zk_xe w 61 a6 % 64 = zk_xe w 61 a6 - 64 * a8 := by omega
  have hT : zk_el w' 61 j = zg_T (zh_e w 20) (zh_e w 61 (2 * a2) % 64) (zk_xe w 61 a7) := by
    rw [zg_Tv.2 (by rw [f3]; omega), f5]
    omega
  have hO : zg_ok (zh_e w 20) (zh_e w 62) (zh_e w 64) (zk_xe w 61 a7) := by
    refine ⟨fun h => absurd h (by rw [f3]; omega), fun _ => ?_⟩
    rw [f2, f5]
    refine ⟨by omega, by omega, ?_⟩
    unfold zg_K
    rw [if_neg (by omega), fd]
    omega
  have r : zk_xe w' 2000043 a5 = 1 := zg_tw (j := a0) (n := a1) (k := a2) (u := a3) (l := a4) hw (by omega) (by omega) (by omega) (by omega) (by omega) (by omega) (by omega) (by omega) (by omega) (by omega) (by omega) (by omega) (by rw [hp]; unfold zg_us; omega) ho hV hT hO
  exact (zx_eF1 (by show 0 ≤ (0 : Int) + (1 * a5 + 0); omega) (by show zk_xe w' 2000043 ((0 : Int) + (1 * a5 + 0)) = (1 : Int) + (0); rw [show (0 : Int) + (1 * a5 + 0) = a5 by omega]; exact r.trans (by omega)) zx_eF0)
def zx_E447 : zx_V := zx_Vc 61 [] 14 [(2000043, 0), (61, 6), (61, 7), (20, 9), (20, 10), (20, 11), (20, 12), (64, 13)] [((0, 0), [(2, 1, 0), (3, 0, 1), (4, 0, 4294967296), (5, 0, 18446744073709551616), (6, 0, 79228162514264337593543950336)]), ((0, 4294967296), [(3, 0, 1), (4, 0, 4294967296), (5, 0, 18446744073709551616), (6, 0, 79228162514264337593543950336), (7, 1, 0)]), ((0, 0), [(4, 0, 2), (8, 1, 0)]), ((0, 1), [(4, 0, 2), (9, 1, 0)]), ((0, 0), [(0, 1, 0), (9, 0, 1)]), ((0, 3), [(11, 1, 0), (18, 0, 6)]), ((0, 4), [(12, 1, 0), (18, 0, 6)]), ((0, 5), [(13, 1, 0), (18, 0, 6)]), ((0, 2), [(14, 1, 0), (18, 0, 6)]), ((0, 1), [(16, 1, 0)]), ((1, 0), [(1, 1, 0), (21, 1, 0)]), ((60, 0), [(15, 1, 0), (21, 0, 1)]), ((0, 0), [(22, 0, 1), (23, 1, 0)])] [((0, 0), [(3, 1, 0)]), ((4294967294, 0), [(3, 0, 1)]), ((0, 0), [(4, 1, 0)]), ((4294967294, 0), [(4, 0, 1)]), ((0, 0), [(5, 1, 0)]), ((4294967294, 0), [(5, 0, 1)]), ((0, 0), [(6, 1, 0)]), ((4294967294, 0), [(6, 0, 1)]), ((0, 1), [(3, 1, 0), (4, 0, 1)]), ((0, 29), [(10, 0, 64), (17, 1, 0)]), ((30, 0), [(10, 64, 0), (17, 0, 1)]), ((0, 1), [(19, 0, 1)]), ((0, 60), [(21, 1, 0)]), ((119, 0), [(21, 0, 1)])] [(2000043, ((0, 0), [(7, 1, 0)]), ((1, 0), []))]
theorem zx_E447_ok {PT : Nat → zz_W → Prop} : zx_Vok 64 zHT PT zx_E447 := by
  refine zx_Vc_ok (fun w w' j ins hI hI' h0 hw hK hl he hg => ?_)
  obtain ⟨a0, a1, a2, a3, a4, a5, a6, a7, a8, a9, a10, a11, a12, a13, rfl⟩ := zx_i14 hl
  have e0 : (0 : Int) + (1 * a0 + ((-1) * a1 + ((-4294967296) * a2 + ((-18446744073709551616) * a3 + ((-79228162514264337593543950336) * a4 + 0))))) = 0 := he _ List.mem_cons_self
  have e1 : ((-4294967296) : Int) + ((-1) * a1 + ((-4294967296) * a2 + ((-18446744073709551616) * a3 + ((-79228162514264337593543950336) * a4 + (1 * a5 + 0))))) = 0 := he _ (List.mem_cons_of_mem _ List.mem_cons_self)
  have e2 : (0 : Int) + ((-2) * a2 + (1 * a6 + 0)) = 0 := he _ (List.mem_cons_of_mem _ (List.mem_cons_of_mem _ List.mem_cons_self))
  have e3 : ((-1) : Int) + ((-2) * a2 + (1 * a7 + 0)) = 0 := he _ (List.mem_cons_of_mem _ (List.mem_cons_of_mem _ (List.mem_cons_of_mem _ List.mem_cons_self)))
  have e4 : (0 : Int) + (1 * j + ((-1) * a7 + 0)) = 0 := he _ (List.mem_cons_of_mem _ (List.mem_cons_of_mem _ (List.mem_cons_of_mem _ (List.mem_cons_of_mem _ List.mem_cons_self))))
  have e5 : ((-3) : Int) + (1 * a9 + ((-6) * (zk_xe w 61 a7) + 0)) = 0 := he _ (List.mem_cons_of_mem _ (List.mem_cons_of_mem _ (List.mem_cons_of_mem _ (List.mem_cons_of_mem _ (List.mem_cons_of_mem _ List.mem_cons_self)))))
  have e6 : ((-4) : Int) + (1 * a10 + ((-6) * (zk_xe w 61 a7) + 0)) = 0 := he _ (List.mem_cons_of_mem _ (List.mem_cons_of_mem _ (List.mem_cons_of_mem _ (List.mem_cons_of_mem _ (List.mem_cons_of_mem _ (List.mem_cons_of_mem _ List.mem_cons_self))))))
  have e7 : ((-5) : Int) + (1 * a11 + ((-6) * (zk_xe w 61 a7) + 0)) = 0 := he _ (List.mem_cons_of_mem _ (List.mem_cons_of_mem _ (List.mem_cons_of_mem _ (List.mem_cons_of_mem _ (List.mem_cons_of_mem _ (List.mem_cons_of_mem _ (List.mem_cons_of_mem _ List.mem_cons_self)))))))
  have e8 : ((-2) : Int) + (1 * a12 + ((-6) * (zk_xe w 61 a7) + 0)) = 0 := he _ (List.mem_cons_of_mem _ (List.mem_cons_of_mem _ (List.mem_cons_of_mem _ (List.mem_cons_of_mem _ (List.mem_cons_of_mem _ (List.mem_cons_of_mem _ (List.mem_cons_of_mem _ (List.mem_cons_of_mem _ List.mem_cons_self))))))))
  have e9 : ((-1) : Int) + (1 * (zk_xe w 2000043 a0) + 0) = 0 := he _ (List.mem_cons_of_mem _ (List.mem_cons_of_mem _ (List.mem_cons_of_mem _ (List.mem_cons_of_mem _ (List.mem_cons_of_mem _ (List.mem_cons_of_mem _ (List.mem_cons_of_mem _ (List.mem_cons_of_mem _ (List.mem_cons_of_mem _ List.mem_cons_self)))))))))
  have e10 : (1 : Int) + (1 * (zk_el w' 61 j) + (1 * (zk_xe w 20 a11) + 0)) = 0 := he _ (List.mem_cons_of_mem _ (List.mem_cons_of_mem _ (List.mem_cons_of_mem _ (List.mem_cons_of_mem _ (List.mem_cons_of_mem _ (List.mem_cons_of_mem _ (List.mem_cons_of_mem _ (List.mem_cons_of_mem _ (List.mem_cons_of_mem _ (List.mem_cons_of_mem _ List.mem_cons_self))))))))))
  have e11 : (60 : Int) + (1 * a13 + ((-1) * (zk_xe w 20 a11) + 0)) = 0 := he _ (List.mem_cons_of_mem _ (List.mem_cons_of_mem _ (List.mem_cons_of_mem _ (List.mem_cons_of_mem _ (List.mem_cons_of_mem _ (List.mem_cons_of_mem _ (List.mem_cons_of_mem _ (List.mem_cons_of_mem _ (List.mem_cons_of_mem _ (List.mem_cons_of_mem _ (List.mem_cons_of_mem _ List.mem_cons_self)))))))))))
  have e12 : (0 : Int) + ((-1) * (zk_xe w 20 a12) + (1 * (zk_xe w 64 a13) + 0)) = 0 := he _ (List.mem_cons_of_mem _ (List.mem_cons_of_mem _ (List.mem_cons_of_mem _ (List.mem_cons_of_mem _ (List.mem_cons_of_mem _ (List.mem_cons_of_mem _ (List.mem_cons_of_mem _ (List.mem_cons_of_mem _ (List.mem_cons_of_mem _ (List.mem_cons_of_mem _ (List.mem_cons_of_mem _ (List.mem_cons_of_mem _ List.mem_cons_self))))))))))))
  have g0 : 0 ≤ (0 : Int) + (1 * a1 + 0) := hg _ List.mem_cons_self
  have g1 : 0 ≤ (4294967294 : Int) + ((-1) * a1 + 0) := hg _ (List.mem_cons_of_mem _ List.mem_cons_self)
  have g2 : 0 ≤ (0 : Int) + (1 * a2 + 0) := hg _ (List.mem_cons_of_mem _ (List.mem_cons_of_mem _ List.mem_cons_self))
  have g3 : 0 ≤ (4294967294 : Int) + ((-1) * a2 + 0) := hg _ (List.mem_cons_of_mem _ (List.mem_cons_of_mem _ (List.mem_cons_of_mem _ List.mem_cons_self)))
  have g4 : 0 ≤ (0 : Int) + (1 * a3 + 0) := hg _ (List.mem_cons_of_mem _ (List.mem_cons_of_mem _ (List.mem_cons_of_mem _ (List.mem_cons_of_mem _ List.mem_cons_self))))
  have g5 : 0 ≤ (4294967294 : Int) + ((-1) * a3 + 0) := hg _ (List.mem_cons_of_mem _ (List.mem_cons_of_mem _ (List.mem_cons_of_mem _ (List.mem_cons_of_mem _ (List.mem_cons_of_mem _ List.mem_cons_self)))))
  have g6 : 0 ≤ (0 : Int) + (1 * a4 + 0) := hg _ (List.mem_cons_of_mem _ (List.mem_cons_of_mem _ (List.mem_cons_of_mem _ (List.mem_cons_of_mem _ (List.mem_cons_of_mem _ (List.mem_cons_of_mem _ List.mem_cons_self))))))
  have g7 : 0 ≤ (4294967294 : Int) + ((-1) * a4 + 0) := hg _ (List.mem_cons_of_mem _ (List.mem_cons_of_mem _ (List.mem_cons_of_mem _ (List.mem_cons_of_mem _ (List.mem_cons_of_mem _ (List.mem_cons_of_mem _ (List.mem_cons_of_mem _ List.mem_cons_self)))))))
  have g8 : 0 ≤ ((-1) : Int) + (1 * a1 + ((-1) * a2 + 0)) := hg _ (List.mem_cons_of_mem _ (List.mem_cons_of_mem _ (List.mem_cons_of_mem _ (List.mem_cons_of_mem _ (List.mem_cons_of_mem _ (List.mem_cons_of_mem _ (List.mem_cons_of_mem _ (List.mem_cons_of_mem _ List.mem_cons_self))))))))
  have g9 : 0 ≤ ((-29) : Int) + ((-64) * a8 + (1 * (zk_xe w 61 a6) + 0)) := hg _ (List.mem_cons_of_mem _ (List.mem_cons_of_mem _ (List.mem_cons_of_mem _ (List.mem_cons_of_mem _ (List.mem_cons_of_mem _ (List.mem_cons_of_mem _ (List.mem_cons_of_mem _ (List.mem_cons_of_mem _ (List.mem_cons_of_mem _ List.mem_cons_self)))))))))
  have g10 : 0 ≤ (30 : Int) + (64 * a8 + ((-1) * (zk_xe w 61 a6) + 0)) := hg _ (List.mem_cons_of_mem _ (List.mem_cons_of_mem _ (List.mem_cons_of_mem _ (List.mem_cons_of_mem _ (List.mem_cons_of_mem _ (List.mem_cons_of_mem _ (List.mem_cons_of_mem _ (List.mem_cons_of_mem _ (List.mem_cons_of_mem _ (List.mem_cons_of_mem _ List.mem_cons_self))))))))))
  have g11 : 0 ≤ ((-1) : Int) + ((-1) * (zk_xe w 20 a9) + 0) := hg _ (List.mem_cons_of_mem _ (List.mem_cons_of_mem _ (List.mem_cons_of_mem _ (List.mem_cons_of_mem _ (List.mem_cons_of_mem _ (List.mem_cons_of_mem _ (List.mem_cons_of_mem _ (List.mem_cons_of_mem _ (List.mem_cons_of_mem _ (List.mem_cons_of_mem _ (List.mem_cons_of_mem _ List.mem_cons_self)))))))))))
  have g12 : 0 ≤ ((-60) : Int) + (1 * (zk_xe w 20 a11) + 0) := hg _ (List.mem_cons_of_mem _ (List.mem_cons_of_mem _ (List.mem_cons_of_mem _ (List.mem_cons_of_mem _ (List.mem_cons_of_mem _ (List.mem_cons_of_mem _ (List.mem_cons_of_mem _ (List.mem_cons_of_mem _ (List.mem_cons_of_mem _ (List.mem_cons_of_mem _ (List.mem_cons_of_mem _ (List.mem_cons_of_mem _ List.mem_cons_self))))))))))))
  have g13 : 0 ≤ (119 : Int) + ((-1) * (zk_xe w 20 a11) + 0) := hg _ (List.mem_cons_of_mem _ (List.mem_cons_of_mem _ (List.mem_cons_of_mem _ (List.mem_cons_of_mem _ (List.mem_cons_of_mem _ (List.mem_cons_of_mem _ (List.mem_cons_of_mem _ (List.mem_cons_of_mem _ (List.mem_cons_of_mem _ (List.mem_cons_of_mem _ (List.mem_cons_of_mem _ (List.mem_cons_of_mem _ (List.mem_cons_of_mem _ List.mem_cons_self)))))))))))))
  have hp : zh_e w 61 (2 * a2) = zk_xe w 61 a6 := by rw [zk_xe_r rfl]; show zk_el w 61 (2 * a2) = zk_el w 61 a6; rw [show 2 * a2 = a6 by omega]
  have ho : zh_e w 61 (2 * a2 + 1) = zk_xe w 61 a7 := by rw [zk_xe_r rfl]; show zk_el w 61 (2 * a2 + 1) = zk_el w 61 a7; rw [show 2 * a2 + 1 = a7 by omega]
  have f3 : zh_e w 20 (6 * zk_xe w 61 a7 + 3) = zk_xe w 20 a9 := by rw [zk_xe_r rfl]; show zk_el w 20 (6 * zk_xe w 61 a7 + 3) = zk_el w 20 a9; rw [show 6 * zk_xe w 61 a7 + 3 = a9 by omega]
  have f4 : zh_e w 20 (6 * zk_xe w 61 a7 + 4) = zk_xe w 20 a10 := by rw [zk_xe_r rfl]; show zk_el w 20 (6 * zk_xe w 61 a7 + 4) = zk_el w 20 a10; rw [show 6 * zk_xe w 61 a7 + 4 = a10 by omega]
  have f5 : zh_e w 20 (6 * zk_xe w 61 a7 + 5) = zk_xe w 20 a11 := by rw [zk_xe_r rfl]; show zk_el w 20 (6 * zk_xe w 61 a7 + 5) = zk_el w 20 a11; rw [show 6 * zk_xe w 61 a7 + 5 = a11 by omega]
  have f2 : zh_e w 20 (6 * zk_xe w 61 a7 + 2) = zk_xe w 20 a12 := by rw [zk_xe_r rfl]; show zk_el w 20 (6 * zk_xe w 61 a7 + 2) = zk_el w 20 a12; rw [show 6 * zk_xe w 61 a7 + 2 = a12 by omega]
  have fd : zh_e w 64 (zk_xe w 20 a11 - 60) = zk_xe w 64 a13 := by rw [zk_xe_r rfl]; show zk_el w 64 (zk_xe w 20 a11 - 60) = zk_el w 64 a13; rw [show zk_xe w 20 a11 - 60 = a13 by omega]
  have hV : zh_e w' 61 j = zk_el w' 61 j := rfl
  have hm : zk_xe w 61 a6 % 64 = zk_xe w 61 a6 - 64 * a8 := by omega
  have hT : zk_el w' 61 j = zg_T (zh_e w 20) (zh_e w 61 (2 * a2) % 64) (zk_xe w 61 a7) := by
    rw [zg_Tv.2 (by rw [f3]; omega), f5]
    omega
  have hO : zg_ok (zh_e w 20) (zh_e w 62) (zh_e w 64) (zk_xe w 61 a7) := by
    refine ⟨fun h => absurd h (by rw [f3]; omega), fun _ => ?_⟩
    rw [f2, f5]
    refine ⟨by omega, by omega, ?_⟩
    unfold zg_K
    rw [if_neg (by omega), fd]
    omega
  have r : zk_xe w' 2000043 a5 = 1 := zg_tw (j := a0) (n := a1) (k := a2) (u := a3) (l := a4) hw (by omega) (by omega) (by omega) (by omega) (by omega) (by omega) (by omega) (by omega) (by omega) (by omega) (by omega) (by omega) (by rw [hp]; unfold zg_us; omega) ho hV hT hO
  exact (zx_eF1 (by show 0 ≤ (0 : Int) + (1 * a5 + 0); omega) (by show zk_xe w' 2000043 ((0 : Int) + (1 * a5 + 0)) = (1 : Int) + (0); rw [show (0 : Int) + (1 * a5 + 0) = a5 by omega]; exact r.trans (by omega)) zx_eF0)
def zx_E448 : zx_V := zx_Vc 61 [] 10 [(2000043, 0), (61, 6), (61, 7), (22, 9)] [((0, 0), [(2, 1, 0), (3, 0, 1), (4, 0, 4294967296), (5, 0, 18446744073709551616), (6, 0, 79228162514264337593543950336)]), ((0, 4294967296), [(3, 0, 1), (4, 0, 4294967296), (5, 0, 18446744073709551616), (6, 0, 79228162514264337593543950336), (7, 1, 0)]), ((0, 0), [(4, 0, 2), (8, 1, 0)]), ((0, 1), [(4, 0, 2), (9, 1, 0)]), ((0, 0), [(0, 1, 0), (9, 0, 1)]), ((0, 0), [(11, 1, 0), (14, 0, 1)]), ((0, 0), [(1, 1, 0), (15, 0, 1)]), ((0, 1), [(12, 1, 0)])] [((0, 0), [(3, 1, 0)]), ((4294967294, 0), [(3, 0, 1)]), ((0, 0), [(4, 1, 0)]), ((4294967294, 0), [(4, 0, 1)]), ((0, 0), [(5, 1, 0)]), ((4294967294, 0), [(5, 0, 1)]), ((0, 0), [(6, 1, 0)]), ((4294967294, 0), [(6, 0, 1)]), ((0, 1), [(3, 1, 0), (4, 0, 1)]), ((0, 31), [(10, 0, 64), (13, 1, 0)]), ((33, 0), [(10, 64, 0), (13, 0, 1)])] [(2000043, ((0, 0), [(7, 1, 0)]), ((1, 0), []))]
theorem zx_E448_ok {PT : Nat → zz_W → Prop} : zx_Vok 64 zHT PT zx_E448 := by
  refine zx_Vc_ok (fun w w' j ins hI hI' h0 hw hK hl he hg => ?_)
  obtain ⟨a0, a1, a2, a3, a4, a5, a6, a7, a8, a9, rfl⟩ := zx_i10 hl
  have e0 : (0 : Int) + (1 * a0 + ((-1) * a1 + ((-4294967296) * a2 + ((-18446744073709551616) * a3 + ((-79228162514264337593543950336) * a4 + 0))))) = 0 := he _ List.mem_cons_self
  have e1 : ((-4294967296) : Int) + ((-1) * a1 + ((-4294967296) * a2 + ((-18446744073709551616) * a3 + ((-79228162514264337593543950336) * a4 + (1 * a5 + 0))))) = 0 := he _ (List.mem_cons_of_mem _ List.mem_cons_self)
  have e2 : (0 : Int) + ((-2) * a2 + (1 * a6 + 0)) = 0 := he _ (List.mem_cons_of_mem _ (List.mem_cons_of_mem _ List.mem_cons_self))
  have e3 : ((-1) : Int) + ((-2) * a2 + (1 * a7 + 0)) = 0 := he _ (List.mem_cons_of_mem _ (List.mem_cons_of_mem _ (List.mem_cons_of_mem _ List.mem_cons_self)))
  have e4 : (0 : Int) + (1 * j + ((-1) * a7 + 0)) = 0 := he _ (List.mem_cons_of_mem _ (List.mem_cons_of_mem _ (List.mem_cons_of_mem _ (List.mem_cons_of_mem _ List.mem_cons_self))))
  have e5 : (0 : Int) + (1 * a9 + ((-1) * (zk_xe w 61 a7) + 0)) = 0 := he _ (List.mem_cons_of_mem _ (List.mem_cons_of_mem _ (List.mem_cons_of_mem _ (List.mem_cons_of_mem _ (List.mem_cons_of_mem _ List.mem_cons_self)))))
  have e6 : (0 : Int) + (1 * (zk_el w' 61 j) + ((-1) * (zk_xe w 22 a9) + 0)) = 0 := he _ (List.mem_cons_of_mem _ (List.mem_cons_of_mem _ (List.mem_cons_of_mem _ (List.mem_cons_of_mem _ (List.mem_cons_of_mem _ (List.mem_cons_of_mem _ List.mem_cons_self))))))
  have e7 : ((-1) : Int) + (1 * (zk_xe w 2000043 a0) + 0) = 0 := he _ (List.mem_cons_of_mem _ (List.mem_cons_of_mem _ (List.mem_cons_of_mem _ (List.mem_cons_of_mem _ (List.mem_cons_of_mem _ (List.mem_cons_of_mem _ (List.mem_cons_of_mem _ List.mem_cons_self)))))))
  have g0 : 0 ≤ (0 : Int) + (1 * a1 + 0) := hg _ List.mem_cons_self
  have g1 : 0 ≤ (4294967294 : Int) + ((-1) * a1 + 0) := hg _ (List.mem_cons_of_mem _ List.mem_cons_self)
  have g2 : 0 ≤ (0 : Int) + (1 * a2 + 0) := hg _ (List.mem_cons_of_mem _ (List.mem_cons_of_mem _ List.mem_cons_self))
  have g3 : 0 ≤ (4294967294 : Int) + ((-1) * a2 + 0) := hg _ (List.mem_cons_of_mem _ (List.mem_cons_of_mem _ (List.mem_cons_of_mem _ List.mem_cons_self)))
  have g4 : 0 ≤ (0 : Int) + (1 * a3 + 0) := hg _ (List.mem_cons_of_mem _ (List.mem_cons_of_mem _ (List.mem_cons_of_mem _ (List.mem_cons_of_mem _ List.mem_cons_self))))
  have g5 : 0 ≤ (4294967294 : Int) + ((-1) * a3 + 0) := hg _ (List.mem_cons_of_mem _ (List.mem_cons_of_mem _ (List.mem_cons_of_mem _ (List.mem_cons_of_mem _ (List.mem_cons_of_mem _ List.mem_cons_self)))))
  have g6 : 0 ≤ (0 : Int) + (1 * a4 + 0) := hg _ (List.mem_cons_of_mem _ (List.mem_cons_of_mem _ (List.mem_cons_of_mem _ (List.mem_cons_of_mem _ (List.mem_cons_of_mem _ (List.mem_cons_of_mem _ List.mem_cons_self))))))
  have g7 : 0 ≤ (4294967294 : Int) + ((-1) * a4 + 0) := hg _ (List.mem_cons_of_mem _ (List.mem_cons_of_mem _ (List.mem_cons_of_mem _ (List.mem_cons_of_mem _ (List.mem_cons_of_mem _ (List.mem_cons_of_mem _ (List.mem_cons_of_mem _ List.mem_cons_self)))))))
  have g8 : 0 ≤ ((-1) : Int) + (1 * a1 + ((-1) * a2 + 0)) := hg _ (List.mem_cons_of_mem _ (List.mem_cons_of_mem _ (List.mem_cons_of_mem _ (List.mem_cons_of_mem _ (List.mem_cons_of_mem _ (List.mem_cons_of_mem _ (List.mem_cons_of_mem _ (List.mem_cons_of_mem _ List.mem_cons_self))))))))
  have g9 : 0 ≤ ((-31) : Int) + ((-64) * a8 + (1 * (zk_xe w 61 a6) + 0)) := hg _ (List.mem_cons_of_mem _ (List.mem_cons_of_mem _ (List.mem_cons_of_mem _ (List.mem_cons_of_mem _ (List.mem_cons_of_mem _ (List.mem_cons_of_mem _ (List.mem_cons_of_mem _ (List.mem_cons_of_mem _ (List.mem_cons_of_mem _ List.mem_cons_self)))))))))
  have g10 : 0 ≤ (33 : Int) + (64 * a8 + ((-1) * (zk_xe w 61 a6) + 0)) := hg _ (List.mem_cons_of_mem _ (List.mem_cons_of_mem _ (List.mem_cons_of_mem _ (List.mem_cons_of_mem _ (List.mem_cons_of_mem _ (List.mem_cons_of_mem _ (List.mem_cons_of_mem _ (List.mem_cons_of_mem _ (List.mem_cons_of_mem _ (List.mem_cons_of_mem _ List.mem_cons_self))))))))))
  have hp : zh_e w 61 (2 * a2) = zk_xe w 61 a6 := by rw [zk_xe_r rfl]; show zk_el w 61 (2 * a2) = zk_el w 61 a6; rw [show 2 * a2 = a6 by omega]
  have ho : zh_e w 61 (2 * a2 + 1) = zk_xe w 61 a7 := by rw [zk_xe_r rfl]; show zk_el w 61 (2 * a2 + 1) = zk_el w 61 a7; rw [show 2 * a2 + 1 = a7 by omega]
  have fh : zh_e w 22 (zk_xe w 61 a7) = zk_xe w 22 a9 := by rw [zk_xe_r rfl]; show zk_el w 22 (zk_xe w 61 a7) = zk_el w 22 a9; rw [show zk_xe w 61 a7 = a9 by omega]
  have hV : zh_e w' 61 j = zk_el w' 61 j := rfl
  have r : zk_xe w' 2000043 a5 = 1 := zg_tj (j := a0) (n := a1) (k := a2) (u := a3) (l := a4) hw (by omega) (by omega) (by omega) (by omega) (by omega) (by omega) (by omega) (by omega) (by omega) (by omega) (by omega) (by omega) (by rw [hp]; omega) ho hV (by rw [fh]; omega)
  exact (zx_eF1 (by show 0 ≤ (0 : Int) + (1 * a5 + 0); omega) (by show zk_xe w' 2000043 ((0 : Int) + (1 * a5 + 0)) = (1 : Int) + (0); rw [show (0 : Int) + (1 * a5 + 0) = a5 by omega]; exact r.trans (by omega)) zx_eF0)
def zx_D494 : zx_L := zx_Lc [] 5 [(2000043, 0)] [] [((0, 0), [(0, 1, 0), (1, 0, 1), (2, 0, 4294967296), (3, 0, 18446744073709551616), (4, 0, 79228162514264337593543950336)]), ((0, 0), [(1, 1, 0), (2, 0, 1)]), ((0, 1), [(5, 1, 0)])] [((0, 0), [(1, 1, 0)]), ((4294967294, 0), [(1, 0, 1)]), ((0, 0), [(3, 1, 0)]), ((4294967294, 0), [(3, 0, 1)]), ((0, 0), [(4, 1, 0)]), ((4294967294, 0), [(4, 0, 1)])] [([], [], [(2000037, ((0, 0), [(1, 1, 0)]), ((1, 0), []))], [])]
theorem zx_D494_ok {PT : Nat → zz_W → Prop} : zx_Lok 64 zHT PT zx_D494 := by
  refine zx_Lc_ok (fun w hI hK ins hl hr he hg => ?_)
  obtain ⟨a0, a1, a2, a3, a4, rfl⟩ := zx_i5 hl
  have e0 : (0 : Int) + (1 * a0 + ((-1) * a1 + ((-4294967296) * a2 + ((-18446744073709551616) * a3 + ((-79228162514264337593543950336) * a4 + 0))))) = 0 := he _ List.mem_cons_self
  have e1 : (0 : Int) + (1 * a1 + ((-1) * a2 + 0)) = 0 := he _ (List.mem_cons_of_mem _ List.mem_cons_self)
  have e2 : ((-1) : Int) + (1 * (zk_xe w 2000043 a0) + 0) = 0 := he _ (List.mem_cons_of_mem _ (List.mem_cons_of_mem _ List.mem_cons_self))
  have g0 : 0 ≤ (0 : Int) + (1 * a1 + 0) := hg _ List.mem_cons_self
  have g1 : 0 ≤ (4294967294 : Int) + ((-1) * a1 + 0) := hg _ (List.mem_cons_of_mem _ List.mem_cons_self)
  have g2 : 0 ≤ (0 : Int) + (1 * a3 + 0) := hg _ (List.mem_cons_of_mem _ (List.mem_cons_of_mem _ List.mem_cons_self))
  have g3 : 0 ≤ (4294967294 : Int) + ((-1) * a3 + 0) := hg _ (List.mem_cons_of_mem _ (List.mem_cons_of_mem _ (List.mem_cons_of_mem _ List.mem_cons_self)))
  have g4 : 0 ≤ (0 : Int) + (1 * a4 + 0) := hg _ (List.mem_cons_of_mem _ (List.mem_cons_of_mem _ (List.mem_cons_of_mem _ (List.mem_cons_of_mem _ List.mem_cons_self))))
  have g5 : 0 ≤ (4294967294 : Int) + ((-1) * a4 + 0) := hg _ (List.mem_cons_of_mem _ (List.mem_cons_of_mem _ (List.mem_cons_of_mem _ (List.mem_cons_of_mem _ (List.mem_cons_of_mem _ List.mem_cons_self)))))
  have r0 : 0 ≤ a0 := hr _ List.mem_cons_self
  have r := zg_te (w := w) (j := a0) (n := a1) (u := a3) (l := a4) (by omega) (by omega) (by omega) (by omega) (by omega) (by omega) (by omega) (by omega) 
  exact ⟨_, List.mem_cons_self, [], rfl, zx_bnil, zx_cs0, (zx_eF1 (by show 0 ≤ (0 : Int) + (1 * a1 + 0); omega) (by show zk_xe w 2000037 ((0 : Int) + (1 * a1 + 0)) = (1 : Int) + (0); rw [show (0 : Int) + (1 * a1 + 0) = a1 by omega]; exact r.trans (by omega)) zx_eF0), zx_k0⟩
def zx_D430 : zx_L := zx_Lc [] 1 [] [] [((0, 0), [(0, 1, 0)])] [] [([], [], [(2000019, ((0, 0), [(0, 1, 0)]), ((1, 0), []))], [])]
theorem zx_D430_ok {PT : Nat → zz_W → Prop} : zx_Lok 64 zHT PT zx_D430 := by
  refine zx_Lc_ok (fun w hI hK ins hl hr he hg => ?_)
  obtain ⟨a0, rfl⟩ := zx_i1 hl
  have e0 : (0 : Int) + (1 * a0 + 0) = 0 := he _ List.mem_cons_self
  exact ⟨_, List.mem_cons_self, [], rfl, zx_bnil, zx_cs0, (zx_eF1 (by show 0 ≤ (0 : Int) + (1 * a0 + 0); omega) (by show zk_xe w 2000019 ((0 : Int) + (1 * a0 + 0)) = (1 : Int) + (0); rw [show (0 : Int) + (1 * a0 + 0) = 0 by omega]; exact zh_ln_0.trans (by omega)) zx_eF0), zx_k0⟩
def zx_D431 : zx_L := zx_Lc [] 5 [(2000019, 0)] [] [((0, 0), [(0, 1, 0), (1, 0, 1), (2, 0, 4294967296)]), ((0, 0), [(1, 0, 1), (3, 0, 4294967296), (4, 1, 0)]), ((0, 1), [(5, 1, 0)])] [((0, 0), [(1, 1, 0)]), ((4294967295, 0), [(1, 0, 1)]), ((0, 0), [(2, 1, 0)]), ((4294967295, 0), [(2, 0, 1)]), ((0, 0), [(3, 1, 0)]), ((4294967295, 0), [(3, 0, 1)]), ((0, 0), [(2, 0, 1), (3, 1, 0)])] [([], [], [(2000019, ((0, 0), [(4, 1, 0)]), ((1, 0), []))], [])]
theorem zx_D431_ok {PT : Nat → zz_W → Prop} : zx_Lok 64 zHT PT zx_D431 := by
  refine zx_Lc_ok (fun w hI hK ins hl hr he hg => ?_)
  obtain ⟨a0, a1, a2, a3, a4, rfl⟩ := zx_i5 hl
  have e0 : (0 : Int) + (1 * a0 + ((-1) * a1 + ((-4294967296) * a2 + 0))) = 0 := he _ List.mem_cons_self
  have e1 : (0 : Int) + ((-1) * a1 + ((-4294967296) * a3 + (1 * a4 + 0))) = 0 := he _ (List.mem_cons_of_mem _ List.mem_cons_self)
  have e2 : ((-1) : Int) + (1 * (zk_xe w 2000019 a0) + 0) = 0 := he _ (List.mem_cons_of_mem _ (List.mem_cons_of_mem _ List.mem_cons_self))
  have g0 : 0 ≤ (0 : Int) + (1 * a1 + 0) := hg _ List.mem_cons_self
  have g1 : 0 ≤ (4294967295 : Int) + ((-1) * a1 + 0) := hg _ (List.mem_cons_of_mem _ List.mem_cons_self)
  have g2 : 0 ≤ (0 : Int) + (1 * a2 + 0) := hg _ (List.mem_cons_of_mem _ (List.mem_cons_of_mem _ List.mem_cons_self))
  have g3 : 0 ≤ (4294967295 : Int) + ((-1) * a2 + 0) := hg _ (List.mem_cons_of_mem _ (List.mem_cons_of_mem _ (List.mem_cons_of_mem _ List.mem_cons_self)))
  have g4 : 0 ≤ (0 : Int) + (1 * a3 + 0) := hg _ (List.mem_cons_of_mem _ (List.mem_cons_of_mem _ (List.mem_cons_of_mem _ (List.mem_cons_of_mem _ List.mem_cons_self))))
  have g5 : 0 ≤ (4294967295 : Int) + ((-1) * a3 + 0) := hg _ (List.mem_cons_of_mem _ (List.mem_cons_of_mem _ (List.mem_cons_of_mem _ (List.mem_cons_of_mem _ (List.mem_cons_of_mem _ List.mem_cons_self)))))
  have g6 : 0 ≤ (0 : Int) + ((-1) * a2 + (1 * a3 + 0)) := hg _ (List.mem_cons_of_mem _ (List.mem_cons_of_mem _ (List.mem_cons_of_mem _ (List.mem_cons_of_mem _ (List.mem_cons_of_mem _ (List.mem_cons_of_mem _ List.mem_cons_self))))))
  have r0 : 0 ≤ a0 := hr _ List.mem_cons_self
  have r := zh_ln_m (w := w) (j := a0) (j1 := a4) (n := a1) (b := a2) (b1 := a3) (by omega) (by omega) (by omega) (by omega) (by omega) (by omega) (by omega) (by omega) 
  exact ⟨_, List.mem_cons_self, [], rfl, zx_bnil, zx_cs0, (zx_eF1 (by show 0 ≤ (0 : Int) + (1 * a4 + 0); omega) (by show zk_xe w 2000019 ((0 : Int) + (1 * a4 + 0)) = (1 : Int) + (0); rw [show (0 : Int) + (1 * a4 + 0) = a4 by omega]; exact r.trans (by omega)) zx_eF0), zx_k0⟩
def zx_D432 : zx_L := zx_Lc [] 5 [(2000019, 0)] [] [((0, 0), [(0, 1, 0), (1, 0, 1), (2, 0, 4294967296)]), ((0, 1), [(1, 0, 1), (3, 0, 4294967296), (4, 1, 0)]), ((0, 1), [(5, 1, 0)])] [((1, 0), [(1, 1, 0)]), ((4294967294, 0), [(1, 0, 1)]), ((0, 0), [(2, 1, 0)]), ((4294967295, 0), [(2, 0, 1)]), ((0, 0), [(3, 1, 0)]), ((4294967295, 0), [(3, 0, 1)]), ((0, 40000), [(1, 1, 0)])] [([], [], [(2000019, ((0, 0), [(4, 1, 0)]), ((1, 0), []))], [])]
theorem zx_D432_ok {PT : Nat → zz_W → Prop} : zx_Lok 64 zHT PT zx_D432 := by
  refine zx_Lc_ok (fun w hI hK ins hl hr he hg => ?_)
  obtain ⟨a0, a1, a2, a3, a4, rfl⟩ := zx_i5 hl
  have e0 : (0 : Int) + (1 * a0 + ((-1) * a1 + ((-4294967296) * a2 + 0))) = 0 := he _ List.mem_cons_self
  have e1 : ((-1) : Int) + ((-1) * a1 + ((-4294967296) * a3 + (1 * a4 + 0))) = 0 := he _ (List.mem_cons_of_mem _ List.mem_cons_self)
  have e2 : ((-1) : Int) + (1 * (zk_xe w 2000019 a0) + 0) = 0 := he _ (List.mem_cons_of_mem _ (List.mem_cons_of_mem _ List.mem_cons_self))
  have g0 : 0 ≤ (1 : Int) + (1 * a1 + 0) := hg _ List.mem_cons_self
  have g1 : 0 ≤ (4294967294 : Int) + ((-1) * a1 + 0) := hg _ (List.mem_cons_of_mem _ List.mem_cons_self)
  have g2 : 0 ≤ (0 : Int) + (1 * a2 + 0) := hg _ (List.mem_cons_of_mem _ (List.mem_cons_of_mem _ List.mem_cons_self))
  have g3 : 0 ≤ (4294967295 : Int) + ((-1) * a2 + 0) := hg _ (List.mem_cons_of_mem _ (List.mem_cons_of_mem _ (List.mem_cons_of_mem _ List.mem_cons_self)))
  have g4 : 0 ≤ (0 : Int) + (1 * a3 + 0) := hg _ (List.mem_cons_of_mem _ (List.mem_cons_of_mem _ (List.mem_cons_of_mem _ (List.mem_cons_of_mem _ List.mem_cons_self))))
  have g5 : 0 ≤ (4294967295 : Int) + ((-1) * a3 + 0) := hg _ (List.mem_cons_of_mem _ (List.mem_cons_of_mem _ (List.mem_cons_of_mem _ (List.mem_cons_of_mem _ (List.mem_cons_of_mem _ List.mem_cons_self)))))
  have g6 : 0 ≤ ((-40000) : Int) + (1 * a1 + 0) := hg _ (List.mem_cons_of_mem _ (List.mem_cons_of_mem _ (List.mem_cons_of_mem _ (List.mem_cons_of_mem _ (List.mem_cons_of_mem _ (List.mem_cons_of_mem _ List.mem_cons_self))))))
  have r0 : 0 ≤ a0 := hr _ List.mem_cons_self
  have r := zh_ln_o (w := w) (j := a0) (j1 := a4) (n := a1) (b := a2) (b1 := a3) (by omega) (by omega) (by omega) (by omega) (by omega) (by omega) (by omega) (by omega) 
  exact ⟨_, List.mem_cons_self, [], rfl, zx_bnil, zx_cs0, (zx_eF1 (by show 0 ≤ (0 : Int) + (1 * a4 + 0); omega) (by show zk_xe w 2000019 ((0 : Int) + (1 * a4 + 0)) = (1 : Int) + (0); rw [show (0 : Int) + (1 * a4 + 0) = a4 by omega]; exact r.trans (by omega)) zx_eF0), zx_k0⟩
def zx_E399 : zx_V := zx_Vc 60 [] 4 [(2000019, 0)] [((0, 0), [(2, 1, 0), (3, 0, 1), (4, 0, 4294967296)]), ((0, 0), [(0, 1, 0), (3, 0, 1)]), ((0, 4294967297), [(3, 0, 1), (4, 0, 4294967296), (5, 1, 0)]), ((0, 1), [(6, 1, 0)])] [((0, 0), [(3, 1, 0)]), ((4294967295, 0), [(3, 0, 1)]), ((0, 0), [(4, 1, 0)]), ((4294967295, 0), [(4, 0, 1)]), ((39999, 0), [(3, 0, 1)]), ((2999, 0), [(4, 0, 1)])] [(2000019, ((0, 0), [(5, 1, 0)]), ((1, 0), []))]
theorem zx_E399_ok {PT : Nat → zz_W → Prop} : zx_Vok 64 zHT PT zx_E399 := by
  refine zx_Vc_ok (fun w w' j ins hI hI' h0 hw hK hl he hg => ?_)
  obtain ⟨a0, a1, a2, a3, rfl⟩ := zx_i4 hl
  have e0 : (0 : Int) + (1 * a0 + ((-1) * a1 + ((-4294967296) * a2 + 0))) = 0 := he _ List.mem_cons_self
  have e1 : (0 : Int) + (1 * j + ((-1) * a1 + 0)) = 0 := he _ (List.mem_cons_of_mem _ List.mem_cons_self)
  have e2 : ((-4294967297) : Int) + ((-1) * a1 + ((-4294967296) * a2 + (1 * a3 + 0))) = 0 := he _ (List.mem_cons_of_mem _ (List.mem_cons_of_mem _ List.mem_cons_self))
  have e3 : ((-1) : Int) + (1 * (zk_xe w 2000019 a0) + 0) = 0 := he _ (List.mem_cons_of_mem _ (List.mem_cons_of_mem _ (List.mem_cons_of_mem _ List.mem_cons_self)))
  have g0 : 0 ≤ (0 : Int) + (1 * a1 + 0) := hg _ List.mem_cons_self
  have g1 : 0 ≤ (4294967295 : Int) + ((-1) * a1 + 0) := hg _ (List.mem_cons_of_mem _ List.mem_cons_self)
  have g2 : 0 ≤ (0 : Int) + (1 * a2 + 0) := hg _ (List.mem_cons_of_mem _ (List.mem_cons_of_mem _ List.mem_cons_self))
  have g3 : 0 ≤ (4294967295 : Int) + ((-1) * a2 + 0) := hg _ (List.mem_cons_of_mem _ (List.mem_cons_of_mem _ (List.mem_cons_of_mem _ List.mem_cons_self)))
  have g4 : 0 ≤ (39999 : Int) + ((-1) * a1 + 0) := hg _ (List.mem_cons_of_mem _ (List.mem_cons_of_mem _ (List.mem_cons_of_mem _ (List.mem_cons_of_mem _ List.mem_cons_self))))
  have g5 : 0 ≤ (2999 : Int) + ((-1) * a2 + 0) := hg _ (List.mem_cons_of_mem _ (List.mem_cons_of_mem _ (List.mem_cons_of_mem _ (List.mem_cons_of_mem _ (List.mem_cons_of_mem _ List.mem_cons_self)))))
  have r : zk_xe w' 2000019 a3 = 1 := zh_ln_w0 (j := a0) (j1 := a3) (n := a1) (b := a2) hw (by omega) (by omega) (by omega) (by omega) (by omega) (by omega) (by omega) (by omega) 
  exact (zx_eF1 (by show 0 ≤ (0 : Int) + (1 * a3 + 0); omega) (by show zk_xe w' 2000019 ((0 : Int) + (1 * a3 + 0)) = (1 : Int) + (0); rw [show (0 : Int) + (1 * a3 + 0) = a3 by omega]; exact r.trans (by omega)) zx_eF0)
def zx_E400 : zx_V := zx_Vc 60 [] 4 [(2000019, 0)] [((0, 0), [(2, 1, 0), (3, 0, 1), (4, 0, 4294967296)]), ((0, 0), [(0, 1, 0), (3, 0, 1)]), ((0, 1), [(3, 0, 1), (5, 1, 0)]), ((0, 1), [(6, 1, 0)]), ((0, 10), [(1, 1, 0)])] [((0, 0), [(3, 1, 0)]), ((4294967295, 0), [(3, 0, 1)]), ((0, 0), [(4, 1, 0)]), ((4294967295, 0), [(4, 0, 1)]), ((39999, 0), [(3, 0, 1)]), ((2999, 0), [(4, 0, 1)])] [(2000019, ((0, 0), [(5, 1, 0)]), ((1, 0), []))]
theorem zx_E400_ok {PT : Nat → zz_W → Prop} : zx_Vok 64 zHT PT zx_E400 := by
  refine zx_Vc_ok (fun w w' j ins hI hI' h0 hw hK hl he hg => ?_)
  obtain ⟨a0, a1, a2, a3, rfl⟩ := zx_i4 hl
  have e0 : (0 : Int) + (1 * a0 + ((-1) * a1 + ((-4294967296) * a2 + 0))) = 0 := he _ List.mem_cons_self
  have e1 : (0 : Int) + (1 * j + ((-1) * a1 + 0)) = 0 := he _ (List.mem_cons_of_mem _ List.mem_cons_self)
  have e2 : ((-1) : Int) + ((-1) * a1 + (1 * a3 + 0)) = 0 := he _ (List.mem_cons_of_mem _ (List.mem_cons_of_mem _ List.mem_cons_self))
  have e3 : ((-1) : Int) + (1 * (zk_xe w 2000019 a0) + 0) = 0 := he _ (List.mem_cons_of_mem _ (List.mem_cons_of_mem _ (List.mem_cons_of_mem _ List.mem_cons_self)))
  have e4 : ((-10) : Int) + (1 * (zk_el w' 60 j) + 0) = 0 := he _ (List.mem_cons_of_mem _ (List.mem_cons_of_mem _ (List.mem_cons_of_mem _ (List.mem_cons_of_mem _ List.mem_cons_self))))
  have g0 : 0 ≤ (0 : Int) + (1 * a1 + 0) := hg _ List.mem_cons_self
  have g1 : 0 ≤ (4294967295 : Int) + ((-1) * a1 + 0) := hg _ (List.mem_cons_of_mem _ List.mem_cons_self)
  have g2 : 0 ≤ (0 : Int) + (1 * a2 + 0) := hg _ (List.mem_cons_of_mem _ (List.mem_cons_of_mem _ List.mem_cons_self))
  have g3 : 0 ≤ (4294967295 : Int) + ((-1) * a2 + 0) := hg _ (List.mem_cons_of_mem _ (List.mem_cons_of_mem _ (List.mem_cons_of_mem _ List.mem_cons_self)))
  have g4 : 0 ≤ (39999 : Int) + ((-1) * a1 + 0) := hg _ (List.mem_cons_of_mem _ (List.mem_cons_of_mem _ (List.mem_cons_of_mem _ (List.mem_cons_of_mem _ List.mem_cons_self))))
  have g5 : 0 ≤ (2999 : Int) + ((-1) * a2 + 0) := hg _ (List.mem_cons_of_mem _ (List.mem_cons_of_mem _ (List.mem_cons_of_mem _ (List.mem_cons_of_mem _ (List.mem_cons_of_mem _ List.mem_cons_self)))))
  have r : zk_xe w' 2000019 a3 = 1 := zh_ln_w1 (j := a0) (j1 := a3) (n := a1) (b := a2) hw (by omega) (by omega) (by omega) (by omega) (by omega) (by omega) (by omega) (by omega) (by omega) 
  exact (zx_eF1 (by show 0 ≤ (0 : Int) + (1 * a3 + 0); omega) (by show zk_xe w' 2000019 ((0 : Int) + (1 * a3 + 0)) = (1 : Int) + (0); rw [show (0 : Int) + (1 * a3 + 0) = a3 by omega]; exact r.trans (by omega)) zx_eF0)
def zx_D433 : zx_L := zx_Lc [] 2 [] [] [((0, 0), [(0, 0, 4294967297), (1, 1, 0)])] [((0, 0), [(0, 1, 0)]), ((4294967295, 0), [(0, 0, 1)])] [([], [], [(2000020, ((0, 0), [(1, 1, 0)]), ((1, 0), []))], [])]
theorem zx_D433_ok {PT : Nat → zz_W → Prop} : zx_Lok 64 zHT PT zx_D433 := by
  refine zx_Lc_ok (fun w hI hK ins hl hr he hg => ?_)
  obtain ⟨a0, a1, rfl⟩ := zx_i2 hl
  have e0 : (0 : Int) + ((-4294967297) * a0 + (1 * a1 + 0)) = 0 := he _ List.mem_cons_self
  have g0 : 0 ≤ (0 : Int) + (1 * a0 + 0) := hg _ List.mem_cons_self
  have g1 : 0 ≤ (4294967295 : Int) + ((-1) * a0 + 0) := hg _ (List.mem_cons_of_mem _ List.mem_cons_self)
  have r := zh_no_0 (w := w) (a := a0) (j := a1) (by omega) (by omega) (by omega)
  exact ⟨_, List.mem_cons_self, [], rfl, zx_bnil, zx_cs0, (zx_eF1 (by show 0 ≤ (0 : Int) + (1 * a1 + 0); omega) (by show zk_xe w 2000020 ((0 : Int) + (1 * a1 + 0)) = (1 : Int) + (0); rw [show (0 : Int) + (1 * a1 + 0) = a1 by omega]; exact r.trans (by omega)) zx_eF0), zx_k0⟩
def zx_D434 : zx_L := zx_Lc [] 4 [(2000020, 0), (60, 2)] [] [((0, 0), [(0, 1, 0), (1, 0, 1), (2, 0, 4294967296)]), ((0, 4294967296), [(1, 0, 1), (2, 0, 4294967296), (3, 1, 0)]), ((0, 1), [(4, 1, 0)])] [((0, 0), [(1, 1, 0)]), ((4294967295, 0), [(1, 0, 1)]), ((0, 0), [(2, 1, 0)]), ((9, 0), [(5, 0, 1)])] [([], [], [(2000020, ((0, 0), [(3, 1, 0)]), ((1, 0), []))], [])]
theorem zx_D434_ok {PT : Nat → zz_W → Prop} : zx_Lok 64 zHT PT zx_D434 := by
  refine zx_Lc_ok (fun w hI hK ins hl hr he hg => ?_)
  obtain ⟨a0, a1, a2, a3, rfl⟩ := zx_i4 hl
  have e0 : (0 : Int) + (1 * a0 + ((-1) * a1 + ((-4294967296) * a2 + 0))) = 0 := he _ List.mem_cons_self
  have e1 : ((-4294967296) : Int) + ((-1) * a1 + ((-4294967296) * a2 + (1 * a3 + 0))) = 0 := he _ (List.mem_cons_of_mem _ List.mem_cons_self)
  have e2 : ((-1) : Int) + (1 * (zk_xe w 2000020 a0) + 0) = 0 := he _ (List.mem_cons_of_mem _ (List.mem_cons_of_mem _ List.mem_cons_self))
  have g0 : 0 ≤ (0 : Int) + (1 * a1 + 0) := hg _ List.mem_cons_self
  have g1 : 0 ≤ (4294967295 : Int) + ((-1) * a1 + 0) := hg _ (List.mem_cons_of_mem _ List.mem_cons_self)
  have g2 : 0 ≤ (0 : Int) + (1 * a2 + 0) := hg _ (List.mem_cons_of_mem _ (List.mem_cons_of_mem _ List.mem_cons_self))
  have g3 : 0 ≤ (9 : Int) + ((-1) * (zk_xe w 60 a2) + 0) := hg _ (List.mem_cons_of_mem _ (List.mem_cons_of_mem _ (List.mem_cons_of_mem _ List.mem_cons_self)))
  have r0 : 0 ≤ a0 := hr _ List.mem_cons_self
  have r1 : 0 ≤ a2 := hr _ (List.mem_cons_of_mem _ List.mem_cons_self)
  have r := zh_no_s (w := w) (j := a0) (j1 := a3) (a := a1) (p := a2) (by omega) (by omega) (by omega) (by omega) (by omega) (by omega) (by omega) 
  exact ⟨_, List.mem_cons_self, [], rfl, zx_bnil, zx_cs0, (zx_eF1 (by show 0 ≤ (0 : Int) + (1 * a3 + 0); omega) (by show zk_xe w 2000020 ((0 : Int) + (1 * a3 + 0)) = (1 : Int) + (0); rw [show (0 : Int) + (1 * a3 + 0) = a3 by omega]; exact r.trans (by omega)) zx_eF0), zx_k0⟩
def zx_D436 : zx_L := zx_Lc [] 4 [(2000020, 0), (60, 2)] [] [((0, 0), [(0, 1, 0), (1, 0, 1), (2, 0, 4294967296)]), ((0, 4294967296), [(1, 0, 1), (2, 0, 4294967296), (3, 1, 0)]), ((0, 1), [(4, 1, 0)])] [((0, 0), [(1, 1, 0)]), ((4294967295, 0), [(1, 0, 1)]), ((0, 0), [(2, 1, 0)]), ((0, 11), [(5, 1, 0)])] [([], [], [(2000020, ((0, 0), [(3, 1, 0)]), ((1, 0), []))], [])]
theorem zx_D436_ok {PT : Nat → zz_W → Prop} : zx_Lok 64 zHT PT zx_D436 := by
  refine zx_Lc_ok (fun w hI hK ins hl hr he hg => ?_)
  obtain ⟨a0, a1, a2, a3, rfl⟩ := zx_i4 hl
  have e0 : (0 : Int) + (1 * a0 + ((-1) * a1 + ((-4294967296) * a2 + 0))) = 0 := he _ List.mem_cons_self
  have e1 : ((-4294967296) : Int) + ((-1) * a1 + ((-4294967296) * a2 + (1 * a3 + 0))) = 0 := he _ (List.mem_cons_of_mem _ List.mem_cons_self)
  have e2 : ((-1) : Int) + (1 * (zk_xe w 2000020 a0) + 0) = 0 := he _ (List.mem_cons_of_mem _ (List.mem_cons_of_mem _ List.mem_cons_self))
  have g0 : 0 ≤ (0 : Int) + (1 * a1 + 0) := hg _ List.mem_cons_self
  have g1 : 0 ≤ (4294967295 : Int) + ((-1) * a1 + 0) := hg _ (List.mem_cons_of_mem _ List.mem_cons_self)
  have g2 : 0 ≤ (0 : Int) + (1 * a2 + 0) := hg _ (List.mem_cons_of_mem _ (List.mem_cons_of_mem _ List.mem_cons_self))
  have g3 : 0 ≤ ((-11) : Int) + (1 * (zk_xe w 60 a2) + 0) := hg _ (List.mem_cons_of_mem _ (List.mem_cons_of_mem _ (List.mem_cons_of_mem _ List.mem_cons_self)))
  have r0 : 0 ≤ a0 := hr _ List.mem_cons_self
  have r1 : 0 ≤ a2 := hr _ (List.mem_cons_of_mem _ List.mem_cons_self)
  have r := zh_no_s (w := w) (j := a0) (j1 := a3) (a := a1) (p := a2) (by omega) (by omega) (by omega) (by omega) (by omega) (by omega) (by omega) 
  exact ⟨_, List.mem_cons_self, [], rfl, zx_bnil, zx_cs0, (zx_eF1 (by show 0 ≤ (0 : Int) + (1 * a3 + 0); omega) (by show zk_xe w 2000020 ((0 : Int) + (1 * a3 + 0)) = (1 : Int) + (0); rw [show (0 : Int) + (1 * a3 + 0) = a3 by omega]; exact r.trans (by omega)) zx_eF0), zx_k0⟩
def zx_D435 : zx_L := zx_Lc [] 6 [(2000019, 0), (2000020, 3)] [] [((0, 0), [(0, 1, 0), (1, 0, 1), (2, 0, 4294967296)]), ((0, 0), [(3, 1, 0), (4, 0, 1), (5, 0, 4294967296)]), ((0, 1), [(6, 1, 0)]), ((0, 1), [(7, 1, 0)])] [((0, 0), [(1, 1, 0)]), ((4294967295, 0), [(1, 0, 1)]), ((0, 0), [(4, 1, 0)]), ((4294967295, 0), [(4, 0, 1)]), ((0, 0), [(4, 0, 1), (5, 1, 0)]), ((0, 0), [(1, 1, 0), (5, 0, 1)]), ((40000, 0), [(1, 0, 1)])] [([], [((3000, 0), [(4, 1, 0), (5, 0, 1)])], [], [])]
theorem zx_D435_ok {PT : Nat → zz_W → Prop} : zx_Lok 64 zHT PT zx_D435 := by
  refine zx_Lc_ok (fun w hI hK ins hl hr he hg => ?_)
  obtain ⟨a0, a1, a2, a3, a4, a5, rfl⟩ := zx_i6 hl
  have e0 : (0 : Int) + (1 * a0 + ((-1) * a1 + ((-4294967296) * a2 + 0))) = 0 := he _ List.mem_cons_self
  have e1 : (0 : Int) + (1 * a3 + ((-1) * a4 + ((-4294967296) * a5 + 0))) = 0 := he _ (List.mem_cons_of_mem _ List.mem_cons_self)
  have e2 : ((-1) : Int) + (1 * (zk_xe w 2000019 a0) + 0) = 0 := he _ (List.mem_cons_of_mem _ (List.mem_cons_of_mem _ List.mem_cons_self))
  have e3 : ((-1) : Int) + (1 * (zk_xe w 2000020 a3) + 0) = 0 := he _ (List.mem_cons_of_mem _ (List.mem_cons_of_mem _ (List.mem_cons_of_mem _ List.mem_cons_self)))
  have g0 : 0 ≤ (0 : Int) + (1 * a1 + 0) := hg _ List.mem_cons_self
  have g1 : 0 ≤ (4294967295 : Int) + ((-1) * a1 + 0) := hg _ (List.mem_cons_of_mem _ List.mem_cons_self)
  have g2 : 0 ≤ (0 : Int) + (1 * a4 + 0) := hg _ (List.mem_cons_of_mem _ (List.mem_cons_of_mem _ List.mem_cons_self))
  have g3 : 0 ≤ (4294967295 : Int) + ((-1) * a4 + 0) := hg _ (List.mem_cons_of_mem _ (List.mem_cons_of_mem _ (List.mem_cons_of_mem _ List.mem_cons_self)))
  have g4 : 0 ≤ (0 : Int) + ((-1) * a4 + (1 * a5 + 0)) := hg _ (List.mem_cons_of_mem _ (List.mem_cons_of_mem _ (List.mem_cons_of_mem _ (List.mem_cons_of_mem _ List.mem_cons_self))))
  have g5 : 0 ≤ (0 : Int) + (1 * a1 + ((-1) * a5 + 0)) := hg _ (List.mem_cons_of_mem _ (List.mem_cons_of_mem _ (List.mem_cons_of_mem _ (List.mem_cons_of_mem _ (List.mem_cons_of_mem _ List.mem_cons_self)))))
  have g6 : 0 ≤ (40000 : Int) + ((-1) * a1 + 0) := hg _ (List.mem_cons_of_mem _ (List.mem_cons_of_mem _ (List.mem_cons_of_mem _ (List.mem_cons_of_mem _ (List.mem_cons_of_mem _ (List.mem_cons_of_mem _ List.mem_cons_self))))))
  have r0 : 0 ≤ a0 := hr _ List.mem_cons_self
  have r1 : 0 ≤ a3 := hr _ (List.mem_cons_of_mem _ List.mem_cons_self)
  have r := zh_ln_at (w := w) (j := a0) (k := a3) (n := a1) (b := a2) (a := a4) (p := a5) (by omega) (by omega) (by omega) (by omega) (by omega) (by omega) (by omega) (by omega) (by omega) (by omega) 
  exact ⟨_, List.mem_cons_self, [], rfl, zx_bnil, (zx_cs1 (by show 0 ≤ (3000 : Int) + (1 * a4 + ((-1) * a5 + 0)); omega) zx_cs0), zx_eF0, zx_k0⟩
end
