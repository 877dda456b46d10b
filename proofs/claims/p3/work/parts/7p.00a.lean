/-! LAWS BY HAND with conditions: what is not so is a case of its own, which the check finds to be impossible -/
noncomputable section
def zx_ne (es : List zl_E) : List zx_Ca := es.flatMap (fun e => [([], [zl_sub e (zl_con 1)], [], []), ([], [zl_sub (zl_con (-1)) e], [], [])])
def zx_ng (es : List zl_E) : List zx_Ca := es.map (fun e => ([], [zl_sub (zl_con (-1)) e], [], []))
/-- tokens, inputs, rows, fields; sums that are 0; sums that are not below 0; cases -/
def zx_Lc (tk : List Nat) (n : Nat) (rs fs : List (Nat × Nat)) (eqs ges : List zl_E) (ca : List zx_Ca) : zx_L := (tk, n, rs, fs, ca ++ (zx_ne eqs ++ zx_ng ges))
theorem zx_getD_nil (l : List Int) (m : Nat) : (l ++ ([] : List Int)).getD m 0 = l.getD m 0 := by rw [List.append_nil]
theorem zx_Lc_ok {c : Nat} {HT : List (List zk_H)} {PT : Nat → zz_W → Prop} {tk : List Nat} {n : Nat} {rs fs : List (Nat × Nat)} {eqs ges : List zl_E} {ca : List zx_Ca}
    (h : ∀ w, zk_I c HT w → (∀ t ∈ tk, PT t w) → ∀ ins : List Int, ins.length = n → (∀ q ∈ rs, 0 ≤ ins.getD q.2 0) → (∀ e ∈ eqs, zl_ev (fun m => (zx_vl w (tk, n, rs, fs, ca) ins).getD m 0) e = 0) → (∀ e ∈ ges, 0 ≤ zl_ev (fun m => (zx_vl w (tk, n, rs, fs, ca) ins).getD m 0) e) →
      ∃ d ∈ ca, ∃ nw : List Int, nw.length = d.1.length ∧ (∀ (k : Nat) (q : Int × Int), d.1[k]? = some q → q.1 ≤ nw.getD k 0 ∧ nw.getD k 0 ≤ q.2) ∧ zk_cs (fun m => (zx_vl w (tk, n, rs, fs, ca) ins ++ nw).getD m 0) d.2.1 ∧ zk_eF (fun m => (zx_vl w (tk, n, rs, fs, ca) ins ++ nw).getD m 0) d.2.2.1 w ∧ ∀ t ∈ d.2.2.2, PT t w) : zx_Lok c HT PT (zx_Lc tk n rs fs eqs ges ca) := by
  intro w hI hK ins hl hr
  have hr : ∀ q ∈ rs, 0 ≤ ins.getD q.2 0 := fun q hq => (hr q hq).1
  have hvl : zx_vl w (zx_Lc tk n rs fs eqs ges ca) ins = zx_vl w (tk, n, rs, fs, ca) ins := rfl
  rw [hvl]
  have triv : ∀ e1 : zl_E, 0 ≤ zl_ev (fun m => (zx_vl w (tk, n, rs, fs, ca) ins).getD m 0) e1 → ∀ d : zx_Ca, d = ([], [e1], [], []) → ∃ nw : List Int, nw.length = d.1.length ∧ (∀ (k : Nat) (q : Int × Int), d.1[k]? = some q → q.1 ≤ nw.getD k 0 ∧ nw.getD k 0 ≤ q.2) ∧ zk_cs (fun m => (zx_vl w (tk, n, rs, fs, ca) ins ++ nw).getD m 0) d.2.1 ∧ zk_eF (fun m => (zx_vl w (tk, n, rs, fs, ca) ins ++ nw).getD m 0) d.2.2.1 w ∧ ∀ t ∈ d.2.2.2, PT t w := by
    intro e1 h1 d hd
    subst hd
    refine ⟨[], rfl, fun k q hq => ?_, fun c0 hc => ?_, fun y hy => ?_, fun t ht => ?_⟩
    · cases hq
    · rw [List.mem_singleton.mp hc, show (fun m => (zx_vl w (tk, n, rs, fs, ca) ins ++ ([] : List Int)).getD m 0) = (fun m => (zx_vl w (tk, n, rs, fs, ca) ins).getD m 0) from funext (fun m => zx_getD_nil _ m)]
      exact h1
    · cases hy
    · cases ht
  by_cases he : ∀ e ∈ eqs, zl_ev (fun m => (zx_vl w (tk, n, rs, fs, ca) ins).getD m 0) e = 0
  · by_cases hg : ∀ e ∈ ges, 0 ≤ zl_ev (fun m => (zx_vl w (tk, n, rs, fs, ca) ins).getD m 0) e
    · obtain ⟨d, d1, d2⟩ := h w hI hK ins hl hr he hg
      exact ⟨d, List.mem_append_left _ d1, d2⟩
    · obtain ⟨e, e1, e2⟩ : ∃ e, e ∈ ges ∧ ¬ 0 ≤ zl_ev (fun m => (zx_vl w (tk, n, rs, fs, ca) ins).getD m 0) e := Classical.byContradiction (fun hn => hg (fun e he => Classical.byContradiction (fun h2 => hn ⟨e, he, h2⟩)))
      exact ⟨_, List.mem_append_right _ (List.mem_append_right _ (List.mem_map.mpr ⟨e, e1, rfl⟩)), triv (zl_sub (zl_con (-1)) e) (by rw [zl_sub_ev, zl_con_ev]; omega) _ rfl⟩
  · obtain ⟨e, e1, e2⟩ : ∃ e, e ∈ eqs ∧ ¬ zl_ev (fun m => (zx_vl w (tk, n, rs, fs, ca) ins).getD m 0) e = 0 := Classical.byContradiction (fun hn => he (fun e he => Classical.byContradiction (fun h2 => hn ⟨e, he, h2⟩)))
    by_cases hp : 0 < zl_ev (fun m => (zx_vl w (tk, n, rs, fs, ca) ins).getD m 0) e
    · exact ⟨_, List.mem_append_right _ (List.mem_append_left _ (List.mem_flatMap.mpr ⟨e, e1, List.mem_cons_self⟩)), triv (zl_sub e (zl_con 1)) (by rw [zl_sub_ev, zl_con_ev]; omega) _ rfl⟩
    · exact ⟨_, List.mem_append_right _ (List.mem_append_left _ (List.mem_flatMap.mpr ⟨e, e1, List.mem_cons_of_mem _ List.mem_cons_self⟩)), triv (zl_sub (zl_con (-1)) e) (by rw [zl_sub_ev, zl_con_ev]; omega) _ rfl⟩
/-- one case without new numbers -/
theorem zx_one {PT : Nat → zz_W → Prop} {w : zz_W} {l : List Int} {ca : List zx_Ca} (d : zx_Ca) (hd : d ∈ ca) (h0 : d.1 = []) (hc : zk_cs (fun m => l.getD m 0) d.2.1) (hE : zk_eF (fun m => l.getD m 0) d.2.2.1 w) (hK : ∀ t ∈ d.2.2.2, PT t w) : ∃ d ∈ ca, ∃ nw : List Int, nw.length = d.1.length ∧ (∀ (k : Nat) (q : Int × Int), d.1[k]? = some q → q.1 ≤ nw.getD k 0 ∧ nw.getD k 0 ≤ q.2) ∧ zk_cs (fun m => (l ++ nw).getD m 0) d.2.1 ∧ zk_eF (fun m => (l ++ nw).getD m 0) d.2.2.1 w ∧ ∀ t ∈ d.2.2.2, PT t w := by
  refine ⟨d, hd, [], by rw [h0]; rfl, fun k q hq => ?_, ?_, ?_, hK⟩
  · rw [h0] at hq
    cases hq
  · rw [List.append_nil]
    exact hc
  · rw [List.append_nil]
    exact hE
theorem zx_cs0 {s : Nat → Int} : zk_cs s [] := fun _ h => by cases h
theorem zx_eF0 {s : Nat → Int} {w : zz_W} : zk_eF s [] w := fun _ h => by cases h
theorem zx_eF1 {s : Nat → Int} {w : zz_W} {x : zk_E1} {E : List zk_E1} (h0 : 0 ≤ zl_ev s x.2.1) (h1 : zk_xe w x.1 (zl_ev s x.2.1) = zl_ev s x.2.2) (hE : zk_eF s E w) : zk_eF s (x :: E) w := fun y hy => by
  rcases List.mem_cons.mp hy with e | hy
  · subst e
    exact ⟨h0, h1⟩
  · exact hE y hy
theorem zx_k0 {PT : Nat → zz_W → Prop} {w : zz_W} : ∀ t ∈ ([] : List Nat), PT t w := fun _ h => by cases h
/-! names that are told (globalNames, kindNames): x stands there; how many there are at most -/
theorem zh_in_s {f : Nat → Int} {n : Nat} {x : Int} : zh_in f (n + 1) x ↔ zh_in f n x ∨ f n = x := by
  constructor
  · rintro ⟨i, i1, i2⟩
    by_cases hi : i = n
    · subst hi
      exact Or.inr i2
    · exact Or.inl ⟨i, by omega, i2⟩
  · rintro (⟨i, i1, i2⟩ | h)
    · exact ⟨i, by omega, i2⟩
    · exact ⟨n, by omega, h⟩
theorem zh_in_eq {f f' : Nat → Int} {n : Nat} {x : Int} (h : ∀ i, i < n → f' i = f i) : zh_in f' n x ↔ zh_in f n x := by
  constructor
  · rintro ⟨i, i1, i2⟩
    exact ⟨i, i1, by rw [← h i i1]; exact i2⟩
  · rintro ⟨i, i1, i2⟩
    exact ⟨i, i1, by rw [h i i1]; exact i2⟩
theorem zh_cn_p {f : Nat → Int} {a : Nat} {g : Nat → Int} {n : Nat} (h : zh_in f a (g n)) : zh_cn f a g (n + 1) = zh_cn f a g n := by
  show zh_cn f a g n + @ite Nat (zh_in f a (g n)) (Classical.propDecidable _) 0 1 = _
  rw [if_pos h, Nat.add_zero]
theorem zh_cn_n {f : Nat → Int} {a : Nat} {g : Nat → Int} {n : Nat} (h : ¬ zh_in f a (g n)) : zh_cn f a g (n + 1) = zh_cn f a g n + 1 := by
  show zh_cn f a g n + @ite Nat (zh_in f a (g n)) (Classical.propDecidable _) 0 1 = _
  rw [if_neg h]
theorem zh_cn_le {f : Nat → Int} {a : Nat} {g : Nat → Int} {n : Nat} : zh_cn f a g (n + 1) ≤ zh_cn f a g n + 1 := by
  by_cases h : zh_in f a (g n)
  · rw [zh_cn_p h]; omega
  · rw [zh_cn_n h]; omega
/-- more stand in f: not more are counted -/
theorem zh_cn_mono {f f' : Nat → Int} {a a' : Nat} {g g' : Nat → Int} : ∀ {n : Nat}, (∀ i, i < n → g' i = g i) → (∀ x, zh_in f a x → zh_in f' a' x) → zh_cn f' a' g' n ≤ zh_cn f a g n
  | 0, _, _ => Nat.le_refl _
  | n + 1, hg, h => by
    have ih := zh_cn_mono (n := n) (fun i hi => hg i (by omega)) h
    by_cases h1 : zh_in f a (g n)
    · rw [zh_cn_p h1, zh_cn_p (by rw [hg n (by omega)]; exact h _ h1)]
      exact ih
    · rw [zh_cn_n h1]
      have := zh_cn_le (f := f') (a := a') (g := g') (n := n)
      omega
/-- x is new in f and stands in g: one less is counted -/
theorem zh_cn_less {f f' : Nat → Int} {a a' : Nat} {g g' : Nat → Int} {x : Int} : ∀ {n : Nat}, (∀ i, i < n → g' i = g i) → (∀ y, zh_in f a y → zh_in f' a' y) → ¬ zh_in f a x → zh_in f' a' x → zh_in g n x → zh_cn f' a' g' n + 1 ≤ zh_cn f a g n
  | 0, _, _, _, _, hx => by
    obtain ⟨i, i1, _⟩ := hx
    omega
  | n + 1, hg, h, h0, h1, hx => by
    by_cases hn : g n = x
    · have ih := zh_cn_mono (n := n) (fun i hi => hg i (by omega)) h
      have a1 := zh_cn_n (f := f) (a := a) (g := g) (n := n) (by rw [hn]; exact h0)
      have a2 := zh_cn_p (f := f') (a := a') (g := g') (n := n) (by rw [hg n (by omega), hn]; exact h1)
      omega
    · have hx : zh_in g n x := (zh_in_s.mp hx).resolve_right hn
      have ih := zh_cn_less (n := n) (fun i hi => hg i (by omega)) h h0 h1 hx
      by_cases h2 : zh_in f a (g n)
      · rw [zh_cn_p h2, zh_cn_p (by rw [hg n (by omega)]; exact h _ h2)]
        exact ih
      · rw [zh_cn_n h2]
        have := zh_cn_le (f := f') (a := a') (g := g') (n := n)
        omega
theorem zh_cn_one {f : Nat → Int} {a : Nat} {g : Nat → Int} {x : Int} : ∀ {n : Nat}, ¬ zh_in f a x → zh_in g n x → 1 ≤ zh_cn f a g n
  | 0, _, hx => by
    obtain ⟨i, i1, _⟩ := hx
    omega
  | n + 1, h0, hx => by
    by_cases hn : g n = x
    · rw [zh_cn_n (by rw [hn]; exact h0)]
      omega
    · have ih := zh_cn_one (n := n) h0 ((zh_in_s.mp hx).resolve_right hn)
      by_cases h2 : zh_in f a (g n)
      · rw [zh_cn_p h2]
        exact ih
      · rw [zh_cn_n h2]
        omega
theorem zh_d2 {j a b : Int} (h : j = a + 1048576 * b) (h0 : 0 ≤ a) (h1 : a < 1048576) : j % 1048576 = a ∧ j / 1048576 = b := by omega
theorem zh_d3 {j a b c : Int} (h : j = a + 1048576 * b + 1099511627776 * c) (h0 : 0 ≤ a) (h1 : a < 1048576) (h2 : 0 ≤ b) (h3 : b < 1048576) : j % 1048576 = a ∧ j / 1048576 % 1048576 = b ∧ j / 1048576 / 1048576 = c := by omega
theorem zh_H0 {w : zz_W} {j n x : Int} (h : j = n + 1048576 * x) (h0 : 0 ≤ n) (h1 : n < 1048576) : zk_xe w 2000000 j = zh_b (zh_in (zh_f w 286) n.toNat x) := by
  obtain ⟨a, b⟩ := zh_d2 h h0 h1
  rw [show (2000000 : Nat) = 2000000 + 0 from rfl, zk_xe_h]
  show zh_b (zh_in (zh_f w 286) (j % 1048576).toNat (j / 1048576)) = _
  rw [a, b]
theorem zh_H1 {w : zz_W} {j n x : Int} (h : j = n + 1048576 * x) (h0 : 0 ≤ n) (h1 : n < 1048576) : zk_xe w 2000001 j = zh_b (zh_in (zh_f w 287) n.toNat x) := by
  obtain ⟨a, b⟩ := zh_d2 h h0 h1
  rw [show (2000001 : Nat) = 2000000 + 1 from rfl, zk_xe_h]
  show zh_b (zh_in (zh_f w 287) (j % 1048576).toNat (j / 1048576)) = _
  rw [a, b]
theorem zh_H2 {w : zz_W} {j g k m : Int} (h : j = g + 1048576 * k + 1099511627776 * m) (h0 : 0 ≤ g) (h1 : g < 1048576) (h2 : 0 ≤ k) (h3 : k < 1048576) : zk_xe w 2000002 j = zh_b (g + (zh_cn (zh_f w 286) g.toNat (zh_f w 287) k.toNat : Int) ≤ m) := by
  obtain ⟨a, b, c⟩ := zh_d3 h h0 h1 h2 h3
  rw [show (2000002 : Nat) = 2000000 + 2 from rfl, zk_xe_h]
  show zh_b (j % 1048576 + (zh_cn (zh_f w 286) (j % 1048576).toNat (zh_f w 287) (j / 1048576 % 1048576).toNat : Int) ≤ j / 1048576 / 1048576) = _
  rw [a, b, c]
theorem zh_H3 {w : zz_W} {j g k m : Int} (h : j = g + 1048576 * k + 1099511627776 * m) (h0 : 0 ≤ g) (h1 : g < 1048576) (h2 : 0 ≤ k) (h3 : k < 1048576) : zk_xe w 2000003 j = zh_b (k + (zh_cn (zh_f w 287) k.toNat (zh_f w 286) g.toNat : Int) ≤ m) := by
  obtain ⟨a, b, c⟩ := zh_d3 h h0 h1 h2 h3
  rw [show (2000003 : Nat) = 2000000 + 3 from rfl, zk_xe_h]
  show zh_b (j / 1048576 % 1048576 + (zh_cn (zh_f w 287) (j / 1048576 % 1048576).toNat (zh_f w 286) (j % 1048576).toNat : Int) ≤ j / 1048576 / 1048576) = _
  rw [a, b, c]
end
/-! LAWS of names that are told -/
noncomputable section
def zx_es (es : List zl_E) : List zl_E := es.flatMap (fun e => [e, zl_sub (zl_con 0) e])
def zx_Vc (r : Nat) (tk : List Nat) (n : Nat) (rs : List (Nat × Nat)) (eqs ges : List zl_E) (ee : List zk_E1) : zx_V := (r, tk, n, rs, zx_es eqs ++ ges, ee)
theorem zx_Vc_ok {c : Nat} {HT : List (List zk_H)} {PT : Nat → zz_W → Prop} {r : Nat} {tk : List Nat} {n : Nat} {rs : List (Nat × Nat)} {eqs ges : List zl_E} {ee : List zk_E1}
    (h : ∀ w w' (j : Int) (ins : List Int), zk_I c HT w → zk_I c HT w' → 0 ≤ j → zk_rR r j w w' → (∀ t ∈ tk, PT t w) → ins.length = n → (∀ e ∈ eqs, zl_ev (fun m => (zx_vv w w' (r, tk, n, rs, ges, ee) j ins).getD m 0) e = 0) → (∀ e ∈ ges, 0 ≤ zl_ev (fun m => (zx_vv w w' (r, tk, n, rs, ges, ee) j ins).getD m 0) e) → zk_eF (fun m => (zx_vv w w' (r, tk, n, rs, ges, ee) j ins).getD m 0) ee w') : zx_Vok c HT PT (zx_Vc r tk n rs eqs ges ee) := by
  intro w w' j ins hI hI' h0 hw hK hl hc
  have hvl : zx_vv w w' (zx_Vc r tk n rs eqs ges ee) j ins = zx_vv w w' (r, tk, n, rs, ges, ee) j ins := rfl
  rw [hvl] at hc ⊢
  refine h w w' j ins hI hI' h0 hw hK hl (fun e he => ?_) (fun e he => hc e (List.mem_append_right _ he))
  have h1 := hc e (List.mem_append_left _ (List.mem_flatMap.mpr ⟨e, he, List.mem_cons_self⟩))
  have h2 := hc (zl_sub (zl_con 0) e) (List.mem_append_left _ (List.mem_flatMap.mpr ⟨e, he, List.mem_cons_of_mem _ List.mem_cons_self⟩))
  rw [zl_sub_ev, zl_con_ev] at h2
  omega
theorem zx_i1 {l : List Int} (h : l.length = 1) : ∃ a, l = [a] := by
  match l, h with
  | [a], _ => exact ⟨a, rfl⟩
theorem zx_i2 {l : List Int} (h : l.length = 2) : ∃ a b, l = [a, b] := by
  match l, h with
  | [a, b], _ => exact ⟨a, b, rfl⟩
theorem zx_i3 {l : List Int} (h : l.length = 3) : ∃ a b c, l = [a, b, c] := by
  match l, h with
  | [a, b, c], _ => exact ⟨a, b, c, rfl⟩
theorem zx_i4 {l : List Int} (h : l.length = 4) : ∃ a b c d, l = [a, b, c, d] := by
  match l, h with
  | [a, b, c, d], _ => exact ⟨a, b, c, d, rfl⟩
theorem zx_i7 {l : List Int} (h : l.length = 7) : ∃ a b c d e f g, l = [a, b, c, d, e, f, g] := by
  match l, h with
  | [a, b, c, d, e, f, g], _ => exact ⟨a, b, c, d, e, f, g, rfl⟩
/-- what a function 'x stands among the first n of the row C' is -/
def zh_Is (R C : Nat) : Prop := ∀ (w : zz_W) (j n x : Int), j = n + 1048576 * x → 0 ≤ n → n < 1048576 → zk_xe w R j = zh_b (zh_in (zh_f w C) n.toNat x)
/-- one place on: inputs code, k, x -/
def zx_S (R C : Nat) : zx_L := zx_Lc [] 3 [(R, 0), (C, 1)] [] [zl_sub (zl_sym 0) (zl_add (zl_sym 1) (zl_mul 1048576 (zl_sym 2)))] [zl_sym 1, zl_sub (zl_con 1048574) (zl_sym 1), zl_sym 2]
  [([], [zl_sub (zl_sym 4) (zl_sym 2), zl_sub (zl_sym 2) (zl_sym 4)], [(R, zl_add (zl_sym 0) (zl_con 1), zl_con 1)], []),
   ([], [zl_sub (zl_sub (zl_sym 4) (zl_sym 2)) (zl_con 1)], [(R, zl_add (zl_sym 0) (zl_con 1), zl_sym 3)], []),
   ([], [zl_sub (zl_sub (zl_sym 2) (zl_sym 4)) (zl_con 1)], [(R, zl_add (zl_sym 0) (zl_con 1), zl_sym 3)], [])]
theorem zx_S_ok {PT : Nat → zz_W → Prop} {R C : Nat} (hC : Nat.blt C 1000000 = true) (hR : zh_Is R C) : zx_Lok 64 zHT PT (zx_S R C) := by
  refine zx_Lc_ok (fun w _ _ ins hl _ he hg => ?_)
  obtain ⟨j, k, x, rfl⟩ := zx_i3 hl
  have e1 := he _ List.mem_cons_self
  rw [zl_sub_ev, zl_add_ev, zl_mul_ev, zl_sym_ev, zl_sym_ev, zl_sym_ev] at e1
  have e1 : j - (k + 1048576 * x) = 0 := e1
  have g1 := hg _ List.mem_cons_self
  have g2 := hg _ (List.mem_cons_of_mem _ List.mem_cons_self)
  have g3 := hg _ (List.mem_cons_of_mem _ (List.mem_cons_of_mem _ List.mem_cons_self))
  rw [zl_sym_ev] at g1 g3
  rw [zl_sub_ev, zl_con_ev, zl_sym_ev] at g2
  have g1 : 0 ≤ k := g1
  have g2 : 0 ≤ 1048574 - k := g2
  have g3 : 0 ≤ x := g3
  have hv := hR w j k x (by omega) g1 (by omega)
  have hn := hR w (j + 1) (k + 1) x (by omega) (by omega) (by omega)
  rw [show (k + 1).toNat = k.toNat + 1 by omega] at hn
  have hel : zh_f w C k.toNat = zk_xe w C k := by
    rw [zk_xe_r hC]
    unfold zh_f
    rw [show ((k.toNat : Nat) : Int) = k by omega]
  have hst : ∀ v : Int, zk_xe w R (j + 1) = v → ∀ e2 : zl_E, zl_ev (fun m => ([j, k, x] ++ ([zk_xe w R j, zk_xe w C k] ++ ([] : List Int))).getD m 0) e2 = v → zk_eF (fun m => ([j, k, x] ++ ([zk_xe w R j, zk_xe w C k] ++ ([] : List Int))).getD m 0) [(R, zl_add (zl_sym 0) (zl_con 1), e2)] w := by
    intro v hv2 e2 h2
    have h3 : zl_ev (fun m => ([j, k, x] ++ ([zk_xe w R j, zk_xe w C k] ++ ([] : List Int))).getD m 0) (zl_add (zl_sym 0) (zl_con 1)) = j + 1 := by
      rw [zl_add_ev, zl_sym_ev, zl_con_ev]
      rfl
    refine zx_eF1 ?_ ?_ zx_eF0
    · show 0 ≤ zl_ev _ (zl_add (zl_sym 0) (zl_con 1))
      rw [h3]
      omega
    · show zk_xe w R (zl_ev _ (zl_add (zl_sym 0) (zl_con 1))) = zl_ev _ e2
      rw [h3, h2]
      exact hv2
  by_cases hx : zk_xe w C k = x
  · refine zx_one (l := [j, k, x] ++ ([zk_xe w R j, zk_xe w C k] ++ ([] : List Int))) _ List.mem_cons_self rfl (fun c hc => ?_) (hst 1 ?_ _ (zl_con_ev _ _)) zx_k0
    · rcases List.mem_cons.mp hc with hc | hc
      · rw [hc, zl_sub_ev, zl_sym_ev, zl_sym_ev]
        show 0 ≤ zk_xe w C k - x
        omega
      · rw [List.mem_singleton.mp hc, zl_sub_ev, zl_sym_ev, zl_sym_ev]
        show 0 ≤ x - zk_xe w C k
        omega
    · rw [hn]
      exact zh_b1 (zh_in_s.mpr (Or.inr (by rw [hel]; exact hx)))
  · have hsame : zk_xe w R (j + 1) = zk_xe w R j := by
      rw [hn, hv]
      by_cases h2 : zh_in (zh_f w C) k.toNat x
      · rw [zh_b1 h2, zh_b1 (zh_in_s.mpr (Or.inl h2))]
      · rw [zh_b0 h2, zh_b0 (fun h3 => (zh_in_s.mp h3).elim h2 (fun h4 => hx (by rw [← hel]; exact h4)))]
    by_cases hlt : x < zk_xe w C k
    · refine zx_one (l := [j, k, x] ++ ([zk_xe w R j, zk_xe w C k] ++ ([] : List Int))) _ (List.mem_cons_of_mem _ List.mem_cons_self) rfl (fun c hc => ?_) (hst _ hsame _ (zl_sym_ev _ _)) zx_k0
      rw [List.mem_singleton.mp hc, zl_sub_ev, zl_sub_ev, zl_sym_ev, zl_sym_ev, zl_con_ev]
      show 0 ≤ zk_xe w C k - x - 1
      omega
    · refine zx_one (l := [j, k, x] ++ ([zk_xe w R j, zk_xe w C k] ++ ([] : List Int))) _ (List.mem_cons_of_mem _ (List.mem_cons_of_mem _ List.mem_cons_self)) rfl (fun c hc => ?_) (hst _ hsame _ (zl_sym_ev _ _)) zx_k0
      rw [List.mem_singleton.mp hc, zl_sub_ev, zl_sub_ev, zl_sym_ev, zl_sym_ev, zl_con_ev]
      show 0 ≤ x - zk_xe w C k - 1
      omega
/-- none stands among the first 0: input x -/
def zx_Z (R : Nat) : zx_L := zx_Lc [] 1 [] [] [] [zl_sym 0] [([], [], [(R, zl_mul 1048576 (zl_sym 0), zl_con 0)], [])]
theorem zx_Z_ok {PT : Nat → zz_W → Prop} {R C : Nat} (hR : zh_Is R C) : zx_Lok 64 zHT PT (zx_Z R) := by
  refine zx_Lc_ok (fun w _ _ ins hl _ he hg => ?_)
  obtain ⟨x, rfl⟩ := zx_i1 hl
  have g1 := hg _ List.mem_cons_self
  rw [zl_sym_ev] at g1
  have g1 : 0 ≤ x := g1
  have hv := hR w (1048576 * x) 0 x (by omega) (by omega) (by omega)
  refine zx_one (l := [x] ++ (([] : List Int) ++ ([] : List Int))) _ List.mem_cons_self rfl zx_cs0 (zx_eF1 ?_ ?_ zx_eF0) zx_k0
  · show 0 ≤ zl_ev _ (zl_mul 1048576 (zl_sym 0))
    rw [zl_mul_ev, zl_sym_ev]
    show 0 ≤ 1048576 * x
    omega
  · show zk_xe w R (zl_ev _ (zl_mul 1048576 (zl_sym 0))) = zl_ev _ (zl_con 0)
    rw [zl_mul_ev, zl_sym_ev, zl_con_ev]
    show zk_xe w R (1048576 * x) = 0
    rw [hv]
    exact zh_b0 (fun ⟨i, i1, _⟩ => by
      have : (0 : Int).toNat = 0 := rfl
      omega)
/-- the same place, said otherwise: inputs old, new -/
def zx_M (R : Nat) : zx_L := zx_Lc [] 2 [(R, 0)] [] [zl_sub (zl_sym 0) (zl_sym 1)] [] [([], [], [(R, zl_sym 1, zl_sym 2)], [])]
theorem zx_M_ok {PT : Nat → zz_W → Prop} {R : Nat} : zx_Lok 64 zHT PT (zx_M R) := by
  refine zx_Lc_ok (fun w _ _ ins hl hr he hg => ?_)
  obtain ⟨a, b, rfl⟩ := zx_i2 hl
  have e1 := he _ List.mem_cons_self
  rw [zl_sub_ev, zl_sym_ev, zl_sym_ev] at e1
  have e1 : a - b = 0 := e1
  have h0 : 0 ≤ a := hr (R, 0) List.mem_cons_self
  have hab : a = b := by omega
  subst hab
  refine zx_one (l := [a, a] ++ ([zk_xe w R a] ++ ([] : List Int))) _ List.mem_cons_self rfl zx_cs0 (zx_eF1 ?_ ?_ zx_eF0) zx_k0
  · show 0 ≤ zl_ev _ (zl_sym 1)
    rw [zl_sym_ev]
    exact h0
  · show zk_xe w R (zl_ev _ (zl_sym 1)) = zl_ev _ (zl_sym 2)
    rw [zl_sym_ev, zl_sym_ev]
    rfl
def zn_fd (w : zz_W) (k : Nat) : Int := (Int32.ofNat (zk_fd w (171, k))).toInt
/-- the token: globals, kinds and marks -/
def zh_T (w : zz_W) : Prop := (zn_fd w 160 + (zh_cn (zh_f w 286) (zn_fd w 160).toNat (zh_f w 287) (zn_fd w 163).toNat : Int) ≤ zn_fd w 158) ∧ (zn_fd w 163 + (zh_cn (zh_f w 287) (zn_fd w 163).toNat (zh_f w 286) (zn_fd w 160).toNat : Int) ≤ zn_fd w 158)
/-- from the token to what is known -/
def zx_T1 : zx_L := zx_Lc [203] 0 [] [(171, 160), (171, 163), (171, 158)] [] [zl_sym 0, zl_sub (zl_con 1048575) (zl_sym 0), zl_sym 1, zl_sub (zl_con 1048575) (zl_sym 1), zl_sym 2]
  [([], [], [(2000002, zl_add (zl_add (zl_sym 0) (zl_mul 1048576 (zl_sym 1))) (zl_mul 1099511627776 (zl_sym 2)), zl_con 1), (2000003, zl_add (zl_add (zl_sym 0) (zl_mul 1048576 (zl_sym 1))) (zl_mul 1099511627776 (zl_sym 2)), zl_con 1)], [])]
theorem zx_T1_ok {PT : Nat → zz_W → Prop} (hT : ∀ w, PT 203 w → zh_T w) : zx_Lok 64 zHT PT zx_T1 := by
  refine zx_Lc_ok (fun w _ hK ins hl hr he hg => ?_)
  have hi : ins = [] := List.length_eq_zero_iff.mp hl
  subst hi
  have h1 := hT w (hK 203 List.mem_cons_self)
  have g0 := hg _ List.mem_cons_self
  have g1 := hg _ (List.mem_cons_of_mem _ List.mem_cons_self)
  have g2 := hg _ (List.mem_cons_of_mem _ (List.mem_cons_of_mem _ List.mem_cons_self))
  have g3 := hg _ (List.mem_cons_of_mem _ (List.mem_cons_of_mem _ (List.mem_cons_of_mem _ List.mem_cons_self)))
  have g4 := hg _ (List.mem_cons_of_mem _ (List.mem_cons_of_mem _ (List.mem_cons_of_mem _ (List.mem_cons_of_mem _ List.mem_cons_self))))
  rw [zl_sym_ev] at g0 g2 g4
  rw [zl_sub_ev, zl_con_ev, zl_sym_ev] at g1 g3
  have g0 : 0 ≤ zn_fd w 160 := g0
  have g1 : 0 ≤ 1048575 - zn_fd w 160 := g1
  have g2 : 0 ≤ zn_fd w 163 := g2
  have g3 : 0 ≤ 1048575 - zn_fd w 163 := g3
  have g4 : 0 ≤ zn_fd w 158 := g4
  have hp : zl_ev (fun m => (([] : List Int) ++ (([] : List Int) ++ [zn_fd w 160, zn_fd w 163, zn_fd w 158])).getD m 0) (zl_add (zl_add (zl_sym 0) (zl_mul 1048576 (zl_sym 1))) (zl_mul 1099511627776 (zl_sym 2))) = zn_fd w 160 + 1048576 * zn_fd w 163 + 1099511627776 * zn_fd w 158 := by
    rw [zl_add_ev, zl_add_ev, zl_mul_ev, zl_mul_ev, zl_sym_ev, zl_sym_ev, zl_sym_ev]
    rfl
  refine zx_one (l := ([] : List Int) ++ (([] : List Int) ++ [zn_fd w 160, zn_fd w 163, zn_fd w 158])) _ List.mem_cons_self rfl zx_cs0 (zx_eF1 ?_ ?_ (zx_eF1 ?_ ?_ zx_eF0)) zx_k0
  · show 0 ≤ zl_ev _ (zl_add (zl_add (zl_sym 0) (zl_mul 1048576 (zl_sym 1))) (zl_mul 1099511627776 (zl_sym 2)))
    rw [hp]
    omega
  · show zk_xe w 2000002 (zl_ev _ (zl_add (zl_add (zl_sym 0) (zl_mul 1048576 (zl_sym 1))) (zl_mul 1099511627776 (zl_sym 2)))) = zl_ev _ (zl_con 1)
    rw [hp, zl_con_ev, zh_H2 rfl g0 (by omega) g2 (by omega)]
    exact zh_b1 h1.1
  · show 0 ≤ zl_ev _ (zl_add (zl_add (zl_sym 0) (zl_mul 1048576 (zl_sym 1))) (zl_mul 1099511627776 (zl_sym 2)))
    rw [hp]
    omega
  · show zk_xe w 2000003 (zl_ev _ (zl_add (zl_add (zl_sym 0) (zl_mul 1048576 (zl_sym 1))) (zl_mul 1099511627776 (zl_sym 2)))) = zl_ev _ (zl_con 1)
    rw [hp, zl_con_ev, zh_H3 rfl g0 (by omega) g2 (by omega)]
    exact zh_b1 h1.2
/-- and back: input the place -/
def zx_T2 : zx_L := zx_Lc [] 1 [(2000002, 0), (2000003, 0)] [(171, 160), (171, 163), (171, 158)] [zl_sub (zl_sym 0) (zl_add (zl_add (zl_sym 3) (zl_mul 1048576 (zl_sym 4))) (zl_mul 1099511627776 (zl_sym 5))), zl_sub (zl_sym 1) (zl_con 1), zl_sub (zl_sym 2) (zl_con 1)] [zl_sym 3, zl_sub (zl_con 1048575) (zl_sym 3), zl_sym 4, zl_sub (zl_con 1048575) (zl_sym 4)]
  [([], [], [], [203])]
theorem zx_T2_ok {PT : Nat → zz_W → Prop} (hT : ∀ w, zh_T w → PT 203 w) : zx_Lok 64 zHT PT zx_T2 := by
  refine zx_Lc_ok (fun w _ _ ins hl hr he hg => ?_)
  obtain ⟨p, rfl⟩ := zx_i1 hl
  have e0 := he _ List.mem_cons_self
  have e1 := he _ (List.mem_cons_of_mem _ List.mem_cons_self)
  have e2 := he _ (List.mem_cons_of_mem _ (List.mem_cons_of_mem _ List.mem_cons_self))
  rw [zl_sub_ev, zl_add_ev, zl_add_ev, zl_mul_ev, zl_mul_ev, zl_sym_ev, zl_sym_ev, zl_sym_ev, zl_sym_ev] at e0
  rw [zl_sub_ev, zl_con_ev, zl_sym_ev] at e1 e2
  have e0 : p - (zn_fd w 160 + 1048576 * zn_fd w 163 + 1099511627776 * zn_fd w 158) = 0 := e0
  have e1 : zk_xe w 2000002 p - 1 = 0 := e1
  have e2 : zk_xe w 2000003 p - 1 = 0 := e2
  have g0 := hg _ List.mem_cons_self
  have g1 := hg _ (List.mem_cons_of_mem _ List.mem_cons_self)
  have g2 := hg _ (List.mem_cons_of_mem _ (List.mem_cons_of_mem _ List.mem_cons_self))
  have g3 := hg _ (List.mem_cons_of_mem _ (List.mem_cons_of_mem _ (List.mem_cons_of_mem _ List.mem_cons_self)))
  rw [zl_sym_ev] at g0 g2
  rw [zl_sub_ev, zl_con_ev, zl_sym_ev] at g1 g3
  have g0 : 0 ≤ zn_fd w 160 := g0
  have g1 : 0 ≤ 1048575 - zn_fd w 160 := g1
  have g2 : 0 ≤ zn_fd w 163 := g2
  have g3 : 0 ≤ 1048575 - zn_fd w 163 := g3
  refine zx_one (l := zx_vl w ([], 1, [(2000002, 0), (2000003, 0)], [(171, 160), (171, 163), (171, 158)], []) [p]) _ List.mem_cons_self rfl zx_cs0 zx_eF0 (fun t ht => ?_)
  rw [List.mem_singleton.mp ht]
  refine hT w ⟨?_, ?_⟩
  · rw [zh_H2 (g := zn_fd w 160) (k := zn_fd w 163) (m := zn_fd w 158) (by omega) g0 (by omega) g2 (by omega)] at e1
    exact zh_b1' (by omega)
  · rw [zh_H3 (g := zn_fd w 160) (k := zn_fd w 163) (m := zn_fd w 158) (by omega) g0 (by omega) g2 (by omega)] at e2
    exact zh_b1' (by omega)
/-- none are told yet -/
def zx_T0 : zx_L := zx_Lc [] 0 [] [(171, 160), (171, 163), (171, 158)] [zl_sym 0, zl_sym 1] [zl_sym 2] [([], [], [], [203])]
theorem zx_T0_ok {PT : Nat → zz_W → Prop} (hT : ∀ w, zh_T w → PT 203 w) : zx_Lok 64 zHT PT zx_T0 := by
  refine zx_Lc_ok (fun w _ _ ins hl hr he hg => ?_)
  have hi : ins = [] := List.length_eq_zero_iff.mp hl
  subst hi
  have e0 := he _ List.mem_cons_self
  have e1 := he _ (List.mem_cons_of_mem _ List.mem_cons_self)
  have g0 := hg _ List.mem_cons_self
  rw [zl_sym_ev] at e0 e1 g0
  have e0 : zn_fd w 160 = 0 := e0
  have e1 : zn_fd w 163 = 0 := e1
  have g0 : 0 ≤ zn_fd w 158 := g0
  refine zx_one (l := zx_vl w ([], 0, [], [(171, 160), (171, 163), (171, 158)], []) []) _ List.mem_cons_self rfl zx_cs0 zx_eF0 (fun t ht => ?_)
  rw [List.mem_singleton.mp ht]
  refine hT w ?_
  unfold zh_T
  rw [e0, e1]
  exact ⟨by show (0 : Int) + ((0 : Nat) : Int) ≤ _; omega, by show (0 : Int) + ((0 : Nat) : Int) ≤ _; omega⟩
/-- room for one more (inputs: place, places of x among the globals, among the kinds, globals, kinds, marks, x) -/
def zx_codes : List zl_E := [zl_sub (zl_sym 0) (zl_add (zl_add (zl_sym 3) (zl_mul 1048576 (zl_sym 4))) (zl_mul 1099511627776 (zl_sym 5))), zl_sub (zl_sym 1) (zl_add (zl_sym 3) (zl_mul 1048576 (zl_sym 6))), zl_sub (zl_sym 2) (zl_add (zl_sym 4) (zl_mul 1048576 (zl_sym 6)))]
def zx_rng : List zl_E := [zl_sym 3, zl_sub (zl_con 1048574) (zl_sym 3), zl_sym 4, zl_sub (zl_con 1048574) (zl_sym 4)]
/-- globals: x stands among the kinds, not among the globals -/
def zx_R1 : zx_L := zx_Lc [] 7 [(2000002, 0), (2000000, 1), (2000001, 2)] [] (zx_codes ++ [zl_sub (zl_sym 7) (zl_con 1), zl_sym 8, zl_sub (zl_sym 9) (zl_con 1)]) zx_rng [([], [zl_sub (zl_sub (zl_sym 5) (zl_sym 3)) (zl_con 1)], [], [])]
theorem zx_codes_ok {w : zz_W} {x : zx_L} {p a b g k m y : Int} {l : List zl_E} (he : ∀ e ∈ zx_codes ++ l, zl_ev (fun i => (zx_vl w x [p, a, b, g, k, m, y]).getD i 0) e = 0) (hg : ∀ e ∈ zx_rng, 0 ≤ zl_ev (fun i => (zx_vl w x [p, a, b, g, k, m, y]).getD i 0) e) : (p = g + 1048576 * k + 1099511627776 * m ∧ a = g + 1048576 * y ∧ b = k + 1048576 * y) ∧ (0 ≤ g ∧ g < 1048576 ∧ 0 ≤ k ∧ k < 1048576) := by
  have e0 := he _ (List.mem_append_left _ List.mem_cons_self)
  have e1 := he _ (List.mem_append_left _ (List.mem_cons_of_mem _ List.mem_cons_self))
  have e2 := he _ (List.mem_append_left _ (List.mem_cons_of_mem _ (List.mem_cons_of_mem _ List.mem_cons_self)))
  rw [zl_sub_ev, zl_add_ev, zl_add_ev, zl_mul_ev, zl_mul_ev, zl_sym_ev, zl_sym_ev, zl_sym_ev, zl_sym_ev] at e0
  rw [zl_sub_ev, zl_add_ev, zl_mul_ev, zl_sym_ev, zl_sym_ev, zl_sym_ev] at e1 e2
  have e0 : p - (g + 1048576 * k + 1099511627776 * m) = 0 := e0
  have e1 : a - (g + 1048576 * y) = 0 := e1
  have e2 : b - (k + 1048576 * y) = 0 := e2
  have g0 := hg _ List.mem_cons_self
  have g1 := hg _ (List.mem_cons_of_mem _ List.mem_cons_self)
  have g2 := hg _ (List.mem_cons_of_mem _ (List.mem_cons_of_mem _ List.mem_cons_self))
  have g3 := hg _ (List.mem_cons_of_mem _ (List.mem_cons_of_mem _ (List.mem_cons_of_mem _ List.mem_cons_self)))
  rw [zl_sym_ev] at g0 g2
  rw [zl_sub_ev, zl_con_ev, zl_sym_ev] at g1 g3
  have g0 : 0 ≤ g := g0
  have g1 : 0 ≤ 1048574 - g := g1
  have g2 : 0 ≤ k := g2
  have g3 : 0 ≤ 1048574 - k := g3
  exact ⟨⟨by omega, by omega, by omega⟩, by omega, by omega, by omega, by omega⟩
theorem zx_R1_ok {PT : Nat → zz_W → Prop} : zx_Lok 64 zHT PT zx_R1 := by
  refine zx_Lc_ok (fun w _ _ ins hl hr he hg => ?_)
  obtain ⟨p, a, b, g, k, m, x, rfl⟩ := zx_i7 hl
  obtain ⟨⟨p1, p2, p3⟩, r1, r2, r3, r4⟩ := zx_codes_ok he hg
  have e0 := he _ (List.mem_append_right _ List.mem_cons_self)
  have e1 := he _ (List.mem_append_right _ (List.mem_cons_of_mem _ List.mem_cons_self))
  have e2 := he _ (List.mem_append_right _ (List.mem_cons_of_mem _ (List.mem_cons_of_mem _ List.mem_cons_self)))
  rw [zl_sub_ev, zl_con_ev, zl_sym_ev] at e0 e2
  rw [zl_sym_ev] at e1
  have e0 : zk_xe w 2000002 p - 1 = 0 := e0
  have e1 : zk_xe w 2000000 a = 0 := e1
  have e2 : zk_xe w 2000001 b - 1 = 0 := e2
  rw [zh_H2 p1 r1 r2 r3 r4] at e0
  rw [zh_H0 p2 r1 r2] at e1
  rw [zh_H1 p3 r3 r4] at e2
  have h0 := zh_b1' (Int.sub_eq_zero.mp e0)
  have h1 := zh_b0' e1
  have h2 := zh_b1' (Int.sub_eq_zero.mp e2)
  have h3 := zh_cn_one (g := zh_f w 287) h1 h2
  refine zx_one (l := zx_vl w ([], 7, [(2000002, 0), (2000000, 1), (2000001, 2)], [], []) [p, a, b, g, k, m, x]) _ List.mem_cons_self rfl (fun c hc => ?_) zx_eF0 zx_k0
  rw [List.mem_singleton.mp hc, zl_sub_ev, zl_sub_ev, zl_sym_ev, zl_sym_ev, zl_con_ev]
  show 0 ≤ m - g - 1
  omega
def zx_R2 : zx_L := zx_Lc [] 7 [(2000002, 0)] [] (zx_codes ++ [zl_sub (zl_sym 7) (zl_con 1)]) zx_rng [([], [zl_sub (zl_sym 5) (zl_sym 3)], [], [])]
theorem zx_R2_ok {PT : Nat → zz_W → Prop} : zx_Lok 64 zHT PT zx_R2 := by
  refine zx_Lc_ok (fun w _ _ ins hl hr he hg => ?_)
  obtain ⟨p, a, b, g, k, m, x, rfl⟩ := zx_i7 hl
  obtain ⟨⟨p1, p2, p3⟩, r1, r2, r3, r4⟩ := zx_codes_ok he hg
  have e0 := he _ (List.mem_append_right _ List.mem_cons_self)
  rw [zl_sub_ev, zl_con_ev, zl_sym_ev] at e0
  have e0 : zk_xe w 2000002 p - 1 = 0 := e0
  rw [zh_H2 p1 r1 r2 r3 r4] at e0
  have h0 := zh_b1' (Int.sub_eq_zero.mp e0)
  refine zx_one (l := zx_vl w ([], 7, [(2000002, 0)], [], []) [p, a, b, g, k, m, x]) _ List.mem_cons_self rfl (fun c hc => ?_) zx_eF0 zx_k0
  rw [List.mem_singleton.mp hc, zl_sub_ev, zl_sym_ev, zl_sym_ev]
  show 0 ≤ m - g
  omega
/-- kinds: x stands among the globals, not among the kinds -/
def zx_R3 : zx_L := zx_Lc [] 7 [(2000003, 0), (2000000, 1), (2000001, 2)] [] (zx_codes ++ [zl_sub (zl_sym 7) (zl_con 1), zl_sub (zl_sym 8) (zl_con 1), zl_sym 9]) zx_rng [([], [zl_sub (zl_sub (zl_sym 5) (zl_sym 4)) (zl_con 1)], [], [])]
theorem zx_R3_ok {PT : Nat → zz_W → Prop} : zx_Lok 64 zHT PT zx_R3 := by
  refine zx_Lc_ok (fun w _ _ ins hl hr he hg => ?_)
  obtain ⟨p, a, b, g, k, m, x, rfl⟩ := zx_i7 hl
  obtain ⟨⟨p1, p2, p3⟩, r1, r2, r3, r4⟩ := zx_codes_ok he hg
  have e0 := he _ (List.mem_append_right _ List.mem_cons_self)
  have e1 := he _ (List.mem_append_right _ (List.mem_cons_of_mem _ List.mem_cons_self))
  have e2 := he _ (List.mem_append_right _ (List.mem_cons_of_mem _ (List.mem_cons_of_mem _ List.mem_cons_self)))
  rw [zl_sub_ev, zl_con_ev, zl_sym_ev] at e0 e1
  rw [zl_sym_ev] at e2
  have e0 : zk_xe w 2000003 p - 1 = 0 := e0
  have e1 : zk_xe w 2000000 a - 1 = 0 := e1
  have e2 : zk_xe w 2000001 b = 0 := e2
  rw [zh_H3 p1 r1 r2 r3 r4] at e0
  rw [zh_H0 p2 r1 r2] at e1
  rw [zh_H1 p3 r3 r4] at e2
  have h0 := zh_b1' (Int.sub_eq_zero.mp e0)
  have h1 := zh_b1' (Int.sub_eq_zero.mp e1)
  have h2 := zh_b0' e2
  have h3 := zh_cn_one (g := zh_f w 286) h2 h1
  refine zx_one (l := zx_vl w ([], 7, [(2000003, 0), (2000000, 1), (2000001, 2)], [], []) [p, a, b, g, k, m, x]) _ List.mem_cons_self rfl (fun c hc => ?_) zx_eF0 zx_k0
  rw [List.mem_singleton.mp hc, zl_sub_ev, zl_sub_ev, zl_sym_ev, zl_sym_ev, zl_con_ev]
  show 0 ≤ m - k - 1
  omega
def zx_R4 : zx_L := zx_Lc [] 7 [(2000003, 0)] [] (zx_codes ++ [zl_sub (zl_sym 7) (zl_con 1)]) zx_rng [([], [zl_sub (zl_sym 5) (zl_sym 4)], [], [])]
theorem zx_R4_ok {PT : Nat → zz_W → Prop} : zx_Lok 64 zHT PT zx_R4 := by
  refine zx_Lc_ok (fun w _ _ ins hl hr he hg => ?_)
  obtain ⟨p, a, b, g, k, m, x, rfl⟩ := zx_i7 hl
  obtain ⟨⟨p1, p2, p3⟩, r1, r2, r3, r4⟩ := zx_codes_ok he hg
  have e0 := he _ (List.mem_append_right _ List.mem_cons_self)
  rw [zl_sub_ev, zl_con_ev, zl_sym_ev] at e0
  have e0 : zk_xe w 2000003 p - 1 = 0 := e0
  rw [zh_H3 p1 r1 r2 r3 r4] at e0
  have h0 := zh_b1' (Int.sub_eq_zero.mp e0)
  refine zx_one (l := zx_vl w ([], 7, [(2000003, 0)], [], []) [p, a, b, g, k, m, x]) _ List.mem_cons_self rfl (fun c hc => ?_) zx_eF0 zx_k0
  rw [List.mem_singleton.mp hc, zl_sub_ev, zl_sym_ev, zl_sym_ev]
  show 0 ≤ m - k
  omega
end
/-! LAWS OF WRITES of names that are told: inputs: place, places of x among the globals, among the kinds, globals, kinds, marks, x -/
noncomputable section
theorem zh_wf {w w' : zz_W} {r : Nat} {j : Int} (h : zk_rR r j w w') : ∀ i : Nat, (i : Int) ≠ j → zh_f w' r i = zh_f w r i := fun i hi => h.2 (i : Int) (Int.natCast_nonneg i) hi
theorem zh_wg {w w' : zz_W} {r r' : Nat} {j : Int} (h : zk_rR r j w w') (hr : r' ≠ r) : zh_f w' r' = zh_f w r' := zh_f_g (h.1 r' hr)
def zx_vcod : List zl_E := [zl_sub (zl_sym 2) (zl_add (zl_add (zl_sym 5) (zl_mul 1048576 (zl_sym 6))) (zl_mul 1099511627776 (zl_sym 7))), zl_sub (zl_sym 3) (zl_add (zl_sym 5) (zl_mul 1048576 (zl_sym 8))), zl_sub (zl_sym 4) (zl_add (zl_sym 6) (zl_mul 1048576 (zl_sym 8))), zl_sub (zl_sym 1) (zl_sym 8), zl_sub (zl_sym 9) (zl_con 1), zl_sub (zl_sym 10) (zl_con 1)]
def zx_vrng : List zl_E := [zl_sym 5, zl_sub (zl_con 1048574) (zl_sym 5), zl_sym 6, zl_sub (zl_con 1048574) (zl_sym 6), zl_sym 2]
theorem zx_vcod_ok {w w' : zz_W} {r : Nat} {rs : List (Nat × Nat)} {ges : List zl_E} {ee : List zk_E1} {j p a b g k m x : Int} {l : List zl_E} (he : ∀ e ∈ zx_vcod ++ l, zl_ev (fun i => (zx_vv w w' (r, [], 7, (2000002, 0) :: (2000003, 0) :: rs, ges, ee) j [p, a, b, g, k, m, x]).getD i 0) e = 0) (hg : ∀ e ∈ zx_vrng, 0 ≤ zl_ev (fun i => (zx_vv w w' (r, [], 7, (2000002, 0) :: (2000003, 0) :: rs, ges, ee) j [p, a, b, g, k, m, x]).getD i 0) e) : (p = g + 1048576 * k + 1099511627776 * m ∧ a = g + 1048576 * x ∧ b = k + 1048576 * x) ∧ (0 ≤ g ∧ g < 1048575 ∧ 0 ≤ k ∧ k < 1048575 ∧ 0 ≤ p) ∧ zk_el w' r j = x ∧ (g + (zh_cn (zh_f w 286) g.toNat (zh_f w 287) k.toNat : Int) ≤ m) ∧ (k + (zh_cn (zh_f w 287) k.toNat (zh_f w 286) g.toNat : Int) ≤ m) := by
  have e0 := he _ (List.mem_append_left _ List.mem_cons_self)
  have e1 := he _ (List.mem_append_left _ (List.mem_cons_of_mem _ List.mem_cons_self))
  have e2 := he _ (List.mem_append_left _ (List.mem_cons_of_mem _ (List.mem_cons_of_mem _ List.mem_cons_self)))
  have e3 := he _ (List.mem_append_left _ (List.mem_cons_of_mem _ (List.mem_cons_of_mem _ (List.mem_cons_of_mem _ List.mem_cons_self))))
  have e4 := he _ (List.mem_append_left _ (List.mem_cons_of_mem _ (List.mem_cons_of_mem _ (List.mem_cons_of_mem _ (List.mem_cons_of_mem _ List.mem_cons_self)))))
  have e5 := he _ (List.mem_append_left _ (List.mem_cons_of_mem _ (List.mem_cons_of_mem _ (List.mem_cons_of_mem _ (List.mem_cons_of_mem _ (List.mem_cons_of_mem _ List.mem_cons_self))))))
  rw [zl_sub_ev, zl_add_ev, zl_add_ev, zl_mul_ev, zl_mul_ev, zl_sym_ev, zl_sym_ev, zl_sym_ev, zl_sym_ev] at e0
  rw [zl_sub_ev, zl_add_ev, zl_mul_ev, zl_sym_ev, zl_sym_ev, zl_sym_ev] at e1 e2
  rw [zl_sub_ev, zl_sym_ev, zl_sym_ev] at e3
  rw [zl_sub_ev, zl_con_ev, zl_sym_ev] at e4 e5
  have e0 : p - (g + 1048576 * k + 1099511627776 * m) = 0 := e0
  have e1 : a - (g + 1048576 * x) = 0 := e1
  have e2 : b - (k + 1048576 * x) = 0 := e2
  have e3 : zk_el w' r j - x = 0 := e3
  have e4 : zk_xe w 2000002 p - 1 = 0 := e4
  have e5 : zk_xe w 2000003 p - 1 = 0 := e5
  have g0 := hg _ List.mem_cons_self
  have g1 := hg _ (List.mem_cons_of_mem _ List.mem_cons_self)
  have g2 := hg _ (List.mem_cons_of_mem _ (List.mem_cons_of_mem _ List.mem_cons_self))
  have g3 := hg _ (List.mem_cons_of_mem _ (List.mem_cons_of_mem _ (List.mem_cons_of_mem _ List.mem_cons_self)))
  have g4 := hg _ (List.mem_cons_of_mem _ (List.mem_cons_of_mem _ (List.mem_cons_of_mem _ (List.mem_cons_of_mem _ List.mem_cons_self))))
  rw [zl_sym_ev] at g0 g2 g4
  rw [zl_sub_ev, zl_con_ev, zl_sym_ev] at g1 g3
  have g0 : 0 ≤ g := g0
  have g1 : 0 ≤ 1048574 - g := g1
  have g2 : 0 ≤ k := g2
  have g3 : 0 ≤ 1048574 - k := g3
  have g4 : 0 ≤ p := g4
  rw [zh_H2 (g := g) (k := k) (m := m) (by omega) g0 (by omega) g2 (by omega)] at e4
  rw [zh_H3 (g := g) (k := k) (m := m) (by omega) g0 (by omega) g2 (by omega)] at e5
  exact ⟨⟨by omega, by omega, by omega⟩, ⟨by omega, by omega, by omega, by omega, g4⟩, by omega, zh_b1' (Int.sub_eq_zero.mp e4), zh_b1' (Int.sub_eq_zero.mp e5)⟩
/-- two known things behind -/
theorem zx_ee {s : Nat → Int} {w : zz_W} {e : zl_E} {q : Int} (hq : zl_ev s e = q) (h0 : 0 ≤ q) (h2 : zk_xe w 2000002 q = 1) (h3 : zk_xe w 2000003 q = 1) : zk_eF s [(2000002, e, zl_con 1), (2000003, e, zl_con 1)] w := by
  refine zx_eF1 ?_ ?_ (zx_eF1 ?_ ?_ zx_eF0)
  · show 0 ≤ zl_ev s e
    rw [hq]
    exact h0
  · show zk_xe w 2000002 (zl_ev s e) = zl_ev s (zl_con 1)
    rw [hq, zl_con_ev]
    exact h2
  · show 0 ≤ zl_ev s e
    rw [hq]
    exact h0
  · show zk_xe w 2000003 (zl_ev s e) = zl_ev s (zl_con 1)
    rw [hq, zl_con_ev]
    exact h3
/-- x stands among the kinds: one more global -/
def zx_V0 : zx_V := zx_Vc 286 [] 7 [(2000002, 0), (2000003, 0), (2000000, 1), (2000001, 2)] (zx_vcod ++ [zl_sub (zl_sym 0) (zl_sym 5), zl_sym 11, zl_sub (zl_sym 12) (zl_con 1)]) zx_vrng [(2000002, zl_add (zl_sym 2) (zl_con 1), zl_con 1), (2000003, zl_add (zl_sym 2) (zl_con 1), zl_con 1)]
theorem zx_V0_ok {PT : Nat → zz_W → Prop} : zx_Vok 64 zHT PT zx_V0 := by
  refine zx_Vc_ok (fun w w' j ins _ _ h0 hw _ hl he hg => ?_)
  obtain ⟨p, a, b, g, k, m, x, rfl⟩ := zx_i7 hl
  obtain ⟨⟨p1, p2, p3⟩, ⟨r1, r2, r3, r4, r5⟩, hx, i2, i3⟩ := zx_vcod_ok he hg
  have ep := he _ (List.mem_append_right _ List.mem_cons_self)
  rw [zl_sub_ev, zl_sym_ev, zl_sym_ev] at ep
  have ep : j - g = 0 := ep
  have ej : j = g := by omega
  subst ej
  have eh := he _ (List.mem_append_right _ (List.mem_cons_of_mem _ List.mem_cons_self))
  have ek := he _ (List.mem_append_right _ (List.mem_cons_of_mem _ (List.mem_cons_of_mem _ List.mem_cons_self)))
  rw [zl_sym_ev] at eh
  rw [zl_sub_ev, zl_con_ev, zl_sym_ev] at ek
  have eh : zk_xe w 2000000 a = 0 := eh
  have ek : zk_xe w 2000001 b - 1 = 0 := ek
  rw [zh_H0 p2 r1 (by omega)] at eh
  rw [zh_H1 p3 r3 (by omega)] at ek
  have n0 := zh_b0' eh
  have n1 := zh_b1' (Int.sub_eq_zero.mp ek)
  have hf : ∀ i, i < j.toNat → zh_f w' 286 i = zh_f w 286 i := fun i hi => zh_wf hw i (by omega)
  have hk := zh_wg hw (show 287 ≠ 286 by decide)
  have hfx : zh_f w' 286 j.toNat = x := by
    unfold zh_f
    rw [show ((j.toNat : Nat) : Int) = j by omega]
    exact hx
  have c2 := zh_cn_less (f := zh_f w 286) (f' := zh_f w' 286) (a := j.toNat) (a' := j.toNat + 1) (g := zh_f w 287) (g' := zh_f w 287) (n := k.toNat) (fun _ _ => rfl) (fun y hy => zh_in_s.mpr (Or.inl ((zh_in_eq hf).mpr hy))) n0 (zh_in_s.mpr (Or.inr hfx)) n1
  have c3 := zh_cn_mono (f := zh_f w 287) (f' := zh_f w 287) (a := k.toNat) (a' := k.toNat) (g := zh_f w 286) (g' := zh_f w' 286) (n := j.toNat) hf (fun _ h => h)
  have c4 := zh_cn_p (f := zh_f w 287) (a := k.toNat) (g := zh_f w' 286) (n := j.toNat) (by rw [hfx]; exact n1)
  refine zx_ee (q := p + 1) ?_ (by omega) ?_ ?_
  · rw [zl_add_ev, zl_sym_ev, zl_con_ev]
    rfl
  · rw [zh_H2 (g := j + 1) (k := k) (m := m) (by omega) (by omega) (by omega) r3 (by omega), hk, show (j + 1).toNat = j.toNat + 1 by omega]
    exact zh_b1 (by omega)
  · rw [zh_H3 (g := j + 1) (k := k) (m := m) (by omega) (by omega) (by omega) r3 (by omega), hk, show (j + 1).toNat = j.toNat + 1 by omega]
    exact zh_b1 (by omega)
/-- one more global, one more mark -/
def zx_V1 : zx_V := zx_Vc 286 [] 7 [(2000002, 0), (2000003, 0)] (zx_vcod ++ [zl_sub (zl_sym 0) (zl_sym 5)]) zx_vrng [(2000002, zl_add (zl_sym 2) (zl_con 1099511627777), zl_con 1), (2000003, zl_add (zl_sym 2) (zl_con 1099511627777), zl_con 1)]
theorem zx_V1_ok {PT : Nat → zz_W → Prop} : zx_Vok 64 zHT PT zx_V1 := by
  refine zx_Vc_ok (fun w w' j ins _ _ h0 hw _ hl he hg => ?_)
  obtain ⟨p, a, b, g, k, m, x, rfl⟩ := zx_i7 hl
  obtain ⟨⟨p1, p2, p3⟩, ⟨r1, r2, r3, r4, r5⟩, hx, i2, i3⟩ := zx_vcod_ok he hg
  have ep := he _ (List.mem_append_right _ List.mem_cons_self)
  rw [zl_sub_ev, zl_sym_ev, zl_sym_ev] at ep
  have ep : j - g = 0 := ep
  have ej : j = g := by omega
  subst ej
  have hf : ∀ i, i < j.toNat → zh_f w' 286 i = zh_f w 286 i := fun i hi => zh_wf hw i (by omega)
  have hk := zh_wg hw (show 287 ≠ 286 by decide)
  have c2 := zh_cn_mono (f := zh_f w 286) (f' := zh_f w' 286) (a := j.toNat) (a' := j.toNat + 1) (g := zh_f w 287) (g' := zh_f w 287) (n := k.toNat) (fun _ _ => rfl) (fun y hy => zh_in_s.mpr (Or.inl ((zh_in_eq hf).mpr hy)))
  have c3 := zh_cn_mono (f := zh_f w 287) (f' := zh_f w 287) (a := k.toNat) (a' := k.toNat) (g := zh_f w 286) (g' := zh_f w' 286) (n := j.toNat) hf (fun _ h => h)
  have c4 := zh_cn_le (f := zh_f w 287) (a := k.toNat) (g := zh_f w' 286) (n := j.toNat)
  refine zx_ee (q := p + 1099511627777) ?_ (by omega) ?_ ?_
  · rw [zl_add_ev, zl_sym_ev, zl_con_ev]
    rfl
  · rw [zh_H2 (g := j + 1) (k := k) (m := m + 1) (by omega) (by omega) (by omega) r3 (by omega), hk, show (j + 1).toNat = j.toNat + 1 by omega]
    exact zh_b1 (by omega)
  · rw [zh_H3 (g := j + 1) (k := k) (m := m + 1) (by omega) (by omega) (by omega) r3 (by omega), hk, show (j + 1).toNat = j.toNat + 1 by omega]
    exact zh_b1 (by omega)
/-- x stands among the globals: one more kind -/
def zx_V2 : zx_V := zx_Vc 287 [] 7 [(2000002, 0), (2000003, 0), (2000000, 1), (2000001, 2)] (zx_vcod ++ [zl_sub (zl_sym 0) (zl_sym 6), zl_sub (zl_sym 11) (zl_con 1), zl_sym 12]) zx_vrng [(2000002, zl_add (zl_sym 2) (zl_con 1048576), zl_con 1), (2000003, zl_add (zl_sym 2) (zl_con 1048576), zl_con 1)]
theorem zx_V2_ok {PT : Nat → zz_W → Prop} : zx_Vok 64 zHT PT zx_V2 := by
  refine zx_Vc_ok (fun w w' j ins _ _ h0 hw _ hl he hg => ?_)
  obtain ⟨p, a, b, g, k, m, x, rfl⟩ := zx_i7 hl
  obtain ⟨⟨p1, p2, p3⟩, ⟨r1, r2, r3, r4, r5⟩, hx, i2, i3⟩ := zx_vcod_ok he hg
  have ep := he _ (List.mem_append_right _ List.mem_cons_self)
  rw [zl_sub_ev, zl_sym_ev, zl_sym_ev] at ep
  have ep : j - k = 0 := ep
  have ej : j = k := by omega
  subst ej
  have eh := he _ (List.mem_append_right _ (List.mem_cons_of_mem _ List.mem_cons_self))
  have ek := he _ (List.mem_append_right _ (List.mem_cons_of_mem _ (List.mem_cons_of_mem _ List.mem_cons_self)))
  rw [zl_sym_ev] at ek
  rw [zl_sub_ev, zl_con_ev, zl_sym_ev] at eh
  have eh : zk_xe w 2000000 a - 1 = 0 := eh
  have ek : zk_xe w 2000001 b = 0 := ek
  rw [zh_H0 p2 r1 (by omega)] at eh
  rw [zh_H1 p3 r3 (by omega)] at ek
  have n0 := zh_b1' (Int.sub_eq_zero.mp eh)
  have n1 := zh_b0' ek
  have hf : ∀ i, i < j.toNat → zh_f w' 287 i = zh_f w 287 i := fun i hi => zh_wf hw i (by omega)
  have hk := zh_wg hw (show 286 ≠ 287 by decide)
  have hfx : zh_f w' 287 j.toNat = x := by
    unfold zh_f
    rw [show ((j.toNat : Nat) : Int) = j by omega]
    exact hx
  have c2 := zh_cn_less (f := zh_f w 287) (f' := zh_f w' 287) (a := j.toNat) (a' := j.toNat + 1) (g := zh_f w 286) (g' := zh_f w 286) (n := g.toNat) (fun _ _ => rfl) (fun y hy => zh_in_s.mpr (Or.inl ((zh_in_eq hf).mpr hy))) n1 (zh_in_s.mpr (Or.inr hfx)) n0
  have c3 := zh_cn_mono (f := zh_f w 286) (f' := zh_f w 286) (a := g.toNat) (a' := g.toNat) (g := zh_f w 287) (g' := zh_f w' 287) (n := j.toNat) hf (fun _ h => h)
  have c4 := zh_cn_p (f := zh_f w 286) (a := g.toNat) (g := zh_f w' 287) (n := j.toNat) (by rw [hfx]; exact n0)
  refine zx_ee (q := p + 1048576) ?_ (by omega) ?_ ?_
  · rw [zl_add_ev, zl_sym_ev, zl_con_ev]
    rfl
  · rw [zh_H2 (g := g) (k := j + 1) (m := m) (by omega) r1 (by omega) (by omega) (by omega), hk, show (j + 1).toNat = j.toNat + 1 by omega]
    exact zh_b1 (by omega)
  · rw [zh_H3 (g := g) (k := j + 1) (m := m) (by omega) r1 (by omega) (by omega) (by omega), hk, show (j + 1).toNat = j.toNat + 1 by omega]
    exact zh_b1 (by omega)
/-- one more kind, one more mark -/
def zx_V3 : zx_V := zx_Vc 287 [] 7 [(2000002, 0), (2000003, 0)] (zx_vcod ++ [zl_sub (zl_sym 0) (zl_sym 6)]) zx_vrng [(2000002, zl_add (zl_sym 2) (zl_con 1099512676352), zl_con 1), (2000003, zl_add (zl_sym 2) (zl_con 1099512676352), zl_con 1)]
theorem zx_V3_ok {PT : Nat → zz_W → Prop} : zx_Vok 64 zHT PT zx_V3 := by
  refine zx_Vc_ok (fun w w' j ins _ _ h0 hw _ hl he hg => ?_)
  obtain ⟨p, a, b, g, k, m, x, rfl⟩ := zx_i7 hl
  obtain ⟨⟨p1, p2, p3⟩, ⟨r1, r2, r3, r4, r5⟩, hx, i2, i3⟩ := zx_vcod_ok he hg
  have ep := he _ (List.mem_append_right _ List.mem_cons_self)
  rw [zl_sub_ev, zl_sym_ev, zl_sym_ev] at ep
  have ep : j - k = 0 := ep
  have ej : j = k := by omega
  subst ej
  have hf : ∀ i, i < j.toNat → zh_f w' 287 i = zh_f w 287 i := fun i hi => zh_wf hw i (by omega)
  have hk := zh_wg hw (show 286 ≠ 287 by decide)
  have c2 := zh_cn_mono (f := zh_f w 287) (f' := zh_f w' 287) (a := j.toNat) (a' := j.toNat + 1) (g := zh_f w 286) (g' := zh_f w 286) (n := g.toNat) (fun _ _ => rfl) (fun y hy => zh_in_s.mpr (Or.inl ((zh_in_eq hf).mpr hy)))
  have c3 := zh_cn_mono (f := zh_f w 286) (f' := zh_f w 286) (a := g.toNat) (a' := g.toNat) (g := zh_f w 287) (g' := zh_f w' 287) (n := j.toNat) hf (fun _ h => h)
  have c4 := zh_cn_le (f := zh_f w 286) (a := g.toNat) (g := zh_f w' 287) (n := j.toNat)
  refine zx_ee (q := p + 1099512676352) ?_ (by omega) ?_ ?_
  · rw [zl_add_ev, zl_sym_ev, zl_con_ev]
    rfl
  · rw [zh_H2 (g := g) (k := j + 1) (m := m + 1) (by omega) r1 (by omega) (by omega) (by omega), hk, show (j + 1).toNat = j.toNat + 1 by omega]
    exact zh_b1 (by omega)
  · rw [zh_H3 (g := g) (k := j + 1) (m := m + 1) (by omega) r1 (by omega) (by omega) (by omega), hk, show (j + 1).toNat = j.toNat + 1 by omega]
    exact zh_b1 (by omega)
end
/-! LAWS of what may be moved into a delay slot -/
noncomputable section
def zh_Ok (w : zz_W) (i : Nat) : Prop := zk_el w 292 (i : Int) ≤ 0 ∨ (0 ≤ zk_el w 293 (i : Int) ∧ zk_el w 293 (i : Int) ≤ 16380)
theorem zh_H4 {w : zz_W} {j : Int} : zk_xe w 2000004 j = zh_b (∀ i : Nat, (i : Int) < j → (zh_f w 292 i ≤ 0 ∨ (0 ≤ zh_f w 293 i ∧ zh_f w 293 i ≤ 16380))) := by
  rw [show (2000004 : Nat) = 2000000 + 4 from rfl, zk_xe_h]
  rfl
theorem zn_hLM : (zk_h zHT 292).2.2.1 = 64 ∧ (zk_h zHT 293).2.2.1 = 64 ∧ (zk_h zHT 179).2.2.1 = 7 := by decide +kernel
theorem zx_P102 {w : zz_W} (h : zk_P2 zHT zP102 w) (i u : Nat) (hi : i < 64) (hu : u < 7) : zn_fd w 117 ≠ (u : Int) ∨ zk_el w 179 (u : Int) ≤ (i : Int) ∨ zk_el w 292 (i : Int) ≤ 0 ∨ (0 ≤ zk_el w 293 (i : Int) ∧ zk_el w 293 (i : Int) ≤ 16380) ∨ 1 ≤ zn_fd w 122 := by
  obtain ⟨d, d1, d2⟩ := h i u (fun r hr => by
    have hr : r ∈ [292, 293] := hr
    rcases List.mem_cons.mp hr with e | hr
    · rw [e, zn_hLM.1]
      exact hi
    · rw [List.mem_singleton.mp hr, zn_hLM.2.1]
      exact hi) (fun r hr => by
    have hr : r ∈ [179] := hr
    rw [List.mem_singleton.mp hr, zn_hLM.2.2]
    exact hu)
  rcases List.mem_cons.mp d1 with e | d1
  · subst e
    have t := d2 _ List.mem_cons_self
    rw [zl_sub_ev, zl_sub_ev, zl_sym_ev, zl_sym_ev, zl_con_ev] at t
    have t : 0 ≤ zn_fd w 117 - (u : Int) - 1 := t
    exact Or.inl (by omega)
  rcases List.mem_cons.mp d1 with e | d1
  · subst e
    have t := d2 _ List.mem_cons_self
    rw [zl_sub_ev, zl_sub_ev, zl_sym_ev, zl_sym_ev, zl_con_ev] at t
    have t : 0 ≤ (u : Int) - zn_fd w 117 - 1 := t
    exact Or.inl (by omega)
  rcases List.mem_cons.mp d1 with e | d1
  · subst e
    have t := d2 _ List.mem_cons_self
    rw [zl_sub_ev, zl_sym_ev, zl_sym_ev] at t
    have t : 0 ≤ (i : Int) - zk_el w 179 (u : Int) := t
    exact Or.inr (Or.inl (by omega))
  rcases List.mem_cons.mp d1 with e | d1
  · subst e
    have t := d2 _ List.mem_cons_self
    rw [zl_sub_ev, zl_sym_ev, zl_con_ev] at t
    have t : 0 ≤ 0 - zk_el w 292 (i : Int) := t
    exact Or.inr (Or.inr (Or.inl (by omega)))
  rcases List.mem_cons.mp d1 with e | d1
  · subst e
    have t := d2 _ List.mem_cons_self
    have t2 := d2 _ (List.mem_cons_of_mem _ List.mem_cons_self)
    rw [zl_sub_ev, zl_sym_ev, zl_con_ev] at t
    rw [zl_sym_ev] at t2
    have t : 0 ≤ 16380 - zk_el w 293 (i : Int) := t
    have t2 : 0 ≤ zk_el w 293 (i : Int) := t2
    exact Or.inr (Or.inr (Or.inr (Or.inl ⟨t2, by omega⟩)))
  · rw [List.mem_singleton.mp d1] at d2
    have t := d2 _ List.mem_cons_self
    rw [zl_sub_ev, zl_sym_ev, zl_con_ev] at t
    have t : 0 ≤ zn_fd w 122 - 1 := t
    exact Or.inr (Or.inr (Or.inr (Or.inr (by omega))))
theorem zx_P102' {w : zz_W} (h : ∀ i u : Nat, i < 64 → u < 7 → (zn_fd w 117 ≠ (u : Int) ∨ zk_el w 179 (u : Int) ≤ (i : Int) ∨ zk_el w 292 (i : Int) ≤ 0 ∨ (0 ≤ zk_el w 293 (i : Int) ∧ zk_el w 293 (i : Int) ≤ 16380))) : zk_P2 zHT zP102 w := by
  intro i u hi hu
  have hi : i < 64 := by
    have := hi 292 (show 292 ∈ [292, 293] from List.mem_cons_self)
    rw [zn_hLM.1] at this
    exact this
  have hu : u < 7 := by
    have := hu 179 (show 179 ∈ [179] from List.mem_cons_self)
    rw [zn_hLM.2.2] at this
    exact this
  have m0 : ∀ {d : List zl_E}, d ∈ zP102.2.2 → d ∈ zP102.2.2 := fun h => h
  rcases h i u hi hu with h | h | h | h
  · by_cases hlt : (u : Int) < zn_fd w 117
    · refine ⟨_, List.mem_cons_self, fun c hc => ?_⟩
      rw [List.mem_singleton.mp hc, zl_sub_ev, zl_sub_ev, zl_sym_ev, zl_sym_ev, zl_con_ev]
      show 0 ≤ zn_fd w 117 - (u : Int) - 1
      omega
    · refine ⟨_, List.mem_cons_of_mem _ List.mem_cons_self, fun c hc => ?_⟩
      rw [List.mem_singleton.mp hc, zl_sub_ev, zl_sub_ev, zl_sym_ev, zl_sym_ev, zl_con_ev]
      show 0 ≤ (u : Int) - zn_fd w 117 - 1
      omega
  · refine ⟨_, List.mem_cons_of_mem _ (List.mem_cons_of_mem _ List.mem_cons_self), fun c hc => ?_⟩
    rw [List.mem_singleton.mp hc, zl_sub_ev, zl_sym_ev, zl_sym_ev]
    show 0 ≤ (i : Int) - zk_el w 179 (u : Int)
    omega
  · refine ⟨_, List.mem_cons_of_mem _ (List.mem_cons_of_mem _ (List.mem_cons_of_mem _ List.mem_cons_self)), fun c hc => ?_⟩
    rw [List.mem_singleton.mp hc, zl_sub_ev, zl_sym_ev, zl_con_ev]
    show 0 ≤ 0 - zk_el w 292 (i : Int)
    omega
  · refine ⟨_, List.mem_cons_of_mem _ (List.mem_cons_of_mem _ (List.mem_cons_of_mem _ (List.mem_cons_of_mem _ List.mem_cons_self))), fun c hc => ?_⟩
    rcases List.mem_cons.mp hc with hc | hc
    · rw [hc, zl_sub_ev, zl_sym_ev, zl_con_ev]
      show 0 ≤ 16380 - zk_el w 293 (i : Int)
      omega
    · rw [List.mem_singleton.mp hc, zl_sym_ev]
      exact h.1
/-- from the token, where there is no fault: input the unit -/
def zx_A1 : zx_L := zx_Lc [102] 1 [(179, 0)] [(171, 117), (171, 122)] [zl_sub (zl_sym 0) (zl_sym 2)] [zl_sub (zl_con 0) (zl_sym 3), zl_sub (zl_con 64) (zl_sym 1), zl_sym 1, zl_sub (zl_con 6) (zl_sym 0)] [([], [], [(2000004, zl_sym 1, zl_con 1)], [])]
theorem zx_A1_ok {PT : Nat → zz_W → Prop} (hP : ∀ w, PT 102 w → zk_P2 zHT zP102 w) : zx_Lok 64 zHT PT zx_A1 := by
  refine zx_Lc_ok (fun w _ hK ins hl hr he hg => ?_)
  obtain ⟨u, rfl⟩ := zx_i1 hl
  have hu0 : 0 ≤ u := hr (179, 0) List.mem_cons_self
  have h1 := hP w (hK 102 List.mem_cons_self)
  have e0 := he _ List.mem_cons_self
  rw [zl_sub_ev, zl_sym_ev, zl_sym_ev] at e0
  have e0 : u - zn_fd w 117 = 0 := e0
  have g0 := hg _ List.mem_cons_self
  have g1 := hg _ (List.mem_cons_of_mem _ List.mem_cons_self)
  have g2 := hg _ (List.mem_cons_of_mem _ (List.mem_cons_of_mem _ List.mem_cons_self))
  have g3 := hg _ (List.mem_cons_of_mem _ (List.mem_cons_of_mem _ (List.mem_cons_of_mem _ List.mem_cons_self)))
  rw [zl_sub_ev, zl_con_ev, zl_sym_ev] at g0 g1 g3
  rw [zl_sym_ev] at g2
  have g0 : 0 ≤ 0 - zn_fd w 122 := g0
  have g1 : 0 ≤ 64 - zk_xe w 179 u := g1
  have g2 : 0 ≤ zk_xe w 179 u := g2
  have g3 : 0 ≤ 6 - u := g3
  have hx : zk_xe w 179 u = zk_el w 179 u := zk_xe_r (by decide)
  refine zx_one (l := zx_vl w ([], 1, [(179, 0)], [(171, 117), (171, 122)], []) [u]) _ List.mem_cons_self rfl zx_cs0 (zx_eF1 ?_ ?_ zx_eF0) zx_k0
  · show 0 ≤ zl_ev _ (zl_sym 1)
    rw [zl_sym_ev]
    exact g2
  · show zk_xe w 2000004 (zl_ev _ (zl_sym 1)) = zl_ev _ (zl_con 1)
    rw [zl_sym_ev, zl_con_ev]
    show zk_xe w 2000004 (zk_xe w 179 u) = 1
    rw [zh_H4]
    refine zh_b1 (fun i hi => ?_)
    rcases zx_P102 h1 i u.toNat (by omega) (by omega) with h | h | h | h | h
    · exact absurd (by omega) h
    · rw [show ((u.toNat : Nat) : Int) = u by omega] at h
      omega
    · exact Or.inl h
    · exact Or.inr h
    · omega
/-- and back: inputs the unit, how many sections -/
def zx_A2 : zx_L := zx_Lc [] 2 [(179, 0), (2000004, 1)] [(171, 117), (171, 122)] [zl_sub (zl_sym 0) (zl_sym 4), zl_sub (zl_sym 2) (zl_sym 1), zl_sub (zl_sym 3) (zl_con 1)] [] [([], [], [], [102])]
theorem zx_A2_ok {PT : Nat → zz_W → Prop} (hP : ∀ w, zk_P2 zHT zP102 w → PT 102 w) : zx_Lok 64 zHT PT zx_A2 := by
  refine zx_Lc_ok (fun w _ hK ins hl hr he hg => ?_)
  obtain ⟨u, n, rfl⟩ := zx_i2 hl
  have hu0 : 0 ≤ u := hr (179, 0) List.mem_cons_self
  have e0 := he _ List.mem_cons_self
  have e1 := he _ (List.mem_cons_of_mem _ List.mem_cons_self)
  have e2 := he _ (List.mem_cons_of_mem _ (List.mem_cons_of_mem _ List.mem_cons_self))
  rw [zl_sub_ev, zl_sym_ev, zl_sym_ev] at e0 e1
  rw [zl_sub_ev, zl_sym_ev, zl_con_ev] at e2
  have e0 : u - zn_fd w 117 = 0 := e0
  have e1 : zk_xe w 179 u - n = 0 := e1
  have e2 : zk_xe w 2000004 n - 1 = 0 := e2
  rw [zh_H4] at e2
  have h2 := zh_b1' (Int.sub_eq_zero.mp e2)
  have hx : zk_xe w 179 u = zk_el w 179 u := zk_xe_r (by decide)
  refine zx_one (l := zx_vl w ([], 2, [(179, 0), (2000004, 1)], [(171, 117), (171, 122)], []) [u, n]) _ List.mem_cons_self rfl zx_cs0 zx_eF0 (fun t ht => ?_)
  rw [List.mem_singleton.mp ht]
  refine hP w (zx_P102' (fun i v hi hv => ?_))
  by_cases hv2 : zn_fd w 117 = (v : Int)
  · have hvu : u = (v : Int) := by omega
    subst hvu
    by_cases hi2 : (i : Int) < n
    · rcases h2 i hi2 with h | h
      · exact Or.inr (Or.inr (Or.inl h))
      · exact Or.inr (Or.inr (Or.inr h))
    · exact Or.inr (Or.inl (by omega))
  · exact Or.inl hv2
/-- one more section: nothing of it may be moved yet; input how many there are -/
def zx_V4 : zx_V := zx_Vc 292 [] 1 [(2000004, 0)] [zl_sub (zl_sym 0) (zl_sym 2), zl_sub (zl_sym 3) (zl_con 1)] [zl_sub (zl_con 0) (zl_sym 1), zl_sym 2] [(2000004, zl_add (zl_sym 2) (zl_con 1), zl_con 1)]
theorem zx_V4_ok {PT : Nat → zz_W → Prop} : zx_Vok 64 zHT PT zx_V4 := by
  refine zx_Vc_ok (fun w w' j ins _ _ h0 hw _ hl he hg => ?_)
  obtain ⟨n, rfl⟩ := zx_i1 hl
  have e0 := he _ List.mem_cons_self
  have e1 := he _ (List.mem_cons_of_mem _ List.mem_cons_self)
  rw [zl_sub_ev, zl_sym_ev, zl_sym_ev] at e0
  rw [zl_sub_ev, zl_sym_ev, zl_con_ev] at e1
  have e0 : j - n = 0 := e0
  have e1 : zk_xe w 2000004 n - 1 = 0 := e1
  have g0 := hg _ List.mem_cons_self
  have g1 := hg _ (List.mem_cons_of_mem _ List.mem_cons_self)
  rw [zl_sub_ev, zl_con_ev, zl_sym_ev] at g0
  rw [zl_sym_ev] at g1
  have g0 : 0 ≤ 0 - zk_el w' 292 j := g0
  have g1 : 0 ≤ n := g1
  rw [zh_H4] at e1
  have h2 := zh_b1' (Int.sub_eq_zero.mp e1)
  have hLA := zh_wg hw (show 293 ≠ 292 by decide)
  refine zx_eF1 ?_ ?_ zx_eF0
  · show 0 ≤ zl_ev _ (zl_add (zl_sym 2) (zl_con 1))
    rw [zl_add_ev, zl_sym_ev, zl_con_ev]
    show 0 ≤ n + 1
    omega
  · show zk_xe w' 2000004 (zl_ev _ (zl_add (zl_sym 2) (zl_con 1))) = zl_ev _ (zl_con 1)
    rw [zl_add_ev, zl_sym_ev, zl_con_ev]
    show zk_xe w' 2000004 (n + 1) = 1
    rw [zh_H4]
    refine zh_b1 (fun i hi => ?_)
    by_cases hin : (i : Int) = j
    · left
      show zk_el w' 292 (i : Int) ≤ 0
      rw [hin]
      omega
    · rw [hLA, zh_wf hw i hin]
      exact h2 i (by omega)
end
/-! LAWS of how many sections are reached -/
noncomputable section
theorem zh_H5 {w : zz_W} {j : Int} : zk_xe w 2000005 j = (zh_nz (zh_f w 186) 448 : Int) := by
  rw [show (2000005 : Nat) = 2000000 + 5 from rfl, zk_xe_h]
  rfl
theorem zh_nz_le {f : Nat → Int} : ∀ n : Nat, zh_nz f n ≤ n
  | 0 => Nat.le_refl _
  | n + 1 => by
    have ih := zh_nz_le (f := f) n
    show zh_nz f n + (if f n = 0 then 0 else 1) ≤ n + 1
    split <;> omega
theorem zh_nz_eq {f g : Nat → Int} : ∀ {n : Nat}, (∀ i, i < n → g i = f i) → zh_nz g n = zh_nz f n
  | 0, _ => rfl
  | n + 1, h => by
    show zh_nz g n + (if g n = 0 then 0 else 1) = zh_nz f n + (if f n = 0 then 0 else 1)
    rw [zh_nz_eq (fun i hi => h i (by omega)), h n (by omega)]
theorem zh_nz_set {f g : Nat → Int} {k : Nat} (h : ∀ i, i ≠ k → g i = f i) (h0 : f k = 0) (h1 : g k ≠ 0) : ∀ {n : Nat}, k < n → zh_nz g n = zh_nz f n + 1
  | 0, hk => absurd hk (Nat.not_lt_zero k)
  | n + 1, hk => by
    show zh_nz g n + (if g n = 0 then 0 else 1) = zh_nz f n + (if f n = 0 then 0 else 1) + 1
    by_cases hn : n = k
    · subst hn
      rw [zh_nz_eq (fun i hi => h i (by omega)), if_neg h1, if_pos h0]
    · rw [zh_nz_set h h0 h1 (by omega), h n hn]
      omega
def zx_N1 : zx_L := ([], 0, [], [], [([(0, 448)], [], [(2000005, zl_con 0, zl_sym 0)], [])])
theorem zx_N1_ok {PT : Nat → zz_W → Prop} : zx_Lok 64 zHT PT zx_N1 := by
  intro w _ _ ins hins _
  have hi : ins = [] := List.length_eq_zero_iff.mp hins
  subst hi
  have hle := zh_nz_le (f := zh_f w 186) 448
  refine ⟨_, List.mem_cons_self, [(zh_nz (zh_f w 186) 448 : Int)], rfl, fun k q hq => ?_, fun c hc => absurd hc List.not_mem_nil, fun x hx => ?_, fun t ht => absurd ht List.not_mem_nil⟩
  · match k, hq with
    | 0, hq =>
      cases hq
      show (0 : Int) ≤ (zh_nz (zh_f w 186) 448 : Int) ∧ (zh_nz (zh_f w 186) 448 : Int) ≤ 448
      omega
    | k + 1, hq => cases hq
  · rw [List.mem_singleton.mp hx]
    show 0 ≤ zl_ev _ (zl_con 0) ∧ zk_xe w 2000005 (zl_ev _ (zl_con 0)) = zl_ev _ (zl_sym 0)
    rw [zl_con_ev, zl_sym_ev, zh_H5]
    exact ⟨Int.le_refl _, rfl⟩
def zx_N2 : zx_L := zx_Lc [] 1 [(2000005, 0)] [] [] [] [([], [zl_sub (zl_con 448) (zl_sym 1)], [], [])]
theorem zx_N2_ok {PT : Nat → zz_W → Prop} : zx_Lok 64 zHT PT zx_N2 := by
  refine zx_Lc_ok (fun w _ _ ins hl _ he hg => ?_)
  obtain ⟨a, rfl⟩ := zx_i1 hl
  have hle := zh_nz_le (f := zh_f w 186) 448
  refine zx_one (l := [a] ++ ([zk_xe w 2000005 a] ++ ([] : List Int))) _ List.mem_cons_self rfl (fun c hc => ?_) zx_eF0 zx_k0
  rw [List.mem_singleton.mp hc, zl_sub_ev, zl_con_ev, zl_sym_ev]
  show 0 ≤ 448 - zk_xe w 2000005 a
  rw [zh_H5]
  omega
/-- one more is reached: inputs its place, 0 -/
def zx_V5 : zx_V := zx_Vc 186 [] 2 [(186, 0), (2000005, 1)] [zl_sub (zl_sym 0) (zl_sym 2), zl_sym 3, zl_sym 4, zl_sub (zl_sym 1) (zl_con 1)] [zl_sub (zl_con 447) (zl_sym 0)] [(2000005, zl_sym 3, zl_add (zl_sym 5) (zl_con 1))]
theorem zx_V5_ok {PT : Nat → zz_W → Prop} : zx_Vok 64 zHT PT zx_V5 := by
  refine zx_Vc_ok (fun w w' j ins _ _ h0 hw _ hl he hg => ?_)
  obtain ⟨a, b, rfl⟩ := zx_i2 hl
  have e0 := he _ List.mem_cons_self
  have e1 := he _ (List.mem_cons_of_mem _ List.mem_cons_self)
  have e2 := he _ (List.mem_cons_of_mem _ (List.mem_cons_of_mem _ List.mem_cons_self))
  have e3 := he _ (List.mem_cons_of_mem _ (List.mem_cons_of_mem _ (List.mem_cons_of_mem _ List.mem_cons_self)))
  rw [zl_sub_ev, zl_sym_ev, zl_sym_ev] at e0
  rw [zl_sym_ev] at e1 e2
  rw [zl_sub_ev, zl_sym_ev, zl_con_ev] at e3
  have e0 : j - a = 0 := e0
  have e1 : b = 0 := e1
  have e2 : zk_xe w 186 a = 0 := e2
  have e3 : zk_el w' 186 j - 1 = 0 := e3
  have g0 := hg _ List.mem_cons_self
  rw [zl_sub_ev, zl_con_ev, zl_sym_ev] at g0
  have g0 : 0 ≤ 447 - j := g0
  have f2 : zk_el w 186 a = 0 := (zk_xe_r (w := w) (i := 186) (j := a) (by decide)).symm.trans e2
  have f3 : zk_el w' 186 j = 1 := by omega
  have ea : a = j := by omega
  subst ea
  have hc := zh_nz_set (f := zh_f w 186) (g := zh_f w' 186) (k := a.toNat) (fun i hi => zh_wf hw i (by omega)) (by
    show zk_el w 186 ((a.toNat : Nat) : Int) = 0
    rw [show ((a.toNat : Nat) : Int) = a by omega]
    exact f2) (by
    show zk_el w' 186 ((a.toNat : Nat) : Int) ≠ 0
    rw [show ((a.toNat : Nat) : Int) = a by omega]
    rw [f3]
    decide) (n := 448) (by omega)
  refine zx_eF1 ?_ ?_ zx_eF0
  · show 0 ≤ zl_ev _ (zl_sym 3)
    rw [zl_sym_ev]
    show 0 ≤ b
    omega
  · show zk_xe w' 2000005 (zl_ev _ (zl_sym 3)) = zl_ev _ (zl_add (zl_sym 5) (zl_con 1))
    rw [zl_add_ev, zl_sym_ev, zl_sym_ev, zl_con_ev, zh_H5, hc]
    show ((zh_nz (zh_f w 186) 448 + 1 : Nat) : Int) = zk_xe w 2000005 b + 1
    rw [zh_H5]
    rfl
end
