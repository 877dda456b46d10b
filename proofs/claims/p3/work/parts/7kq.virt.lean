/-! the virtual rows of this program, and functions by hand (written by program) -/
noncomputable section
/-- rows; cases: conditions, value: sums over place, elements there, parameter; the first case that holds counts -/
abbrev zv_Sp : Type := List Nat × List (List zl_E × zl_E)
def zv_T (t : Nat) : zv_Sp := match t with
  | _ => ([], [])
/-- a row's elements -/
def zh_f (w : zz_W) (r : Nat) : Nat → Int := fun i => zk_el w r (i : Int)
def zh_b (P : Prop) : Int := @ite Int P (Classical.propDecidable P) 1 0
theorem zh_b1 {P : Prop} (h : P) : zh_b P = 1 := by
  unfold zh_b
  exact if_pos h
theorem zh_b0 {P : Prop} (h : ¬ P) : zh_b P = 0 := by
  unfold zh_b
  exact if_neg h
theorem zh_b1' {P : Prop} (h : zh_b P = 1) : P := Classical.byContradiction (fun hn => by
  rw [zh_b0 hn] at h
  omega)
theorem zh_b0' {P : Prop} (h : zh_b P = 0) : ¬ P := fun hp => by
  rw [zh_b1 hp] at h
  omega
/-- x stands among the first n -/
def zh_in (f : Nat → Int) (n : Nat) (x : Int) : Prop := ∃ i, i < n ∧ f i = x
/-- how many of the first n of g don't stand among the first a of f -/
def zh_cn (f : Nat → Int) (a : Nat) (g : Nat → Int) : Nat → Nat
  | 0 => 0
  | n + 1 => zh_cn f a g n + @ite Nat (zh_in f a (g n)) (Classical.propDecidable _) 0 1
/-- how many of the first n are not 0 -/
def zh_nz (f : Nat → Int) : Nat → Nat
  | 0 => 0
  | n + 1 => zh_nz f n + (if f n = 0 then 0 else 1)
/-- the sum of n elements from a on -/
def zh_sm (f : Nat → Int) (a : Nat) : Nat → Int
  | 0 => 0
  | n + 1 => zh_sm f a n + f (a + n)
/-- byte k of x (the place is x + 2^31 + 2^32 k): the quotient; it is a sign of a text -/
def zh_qu (j : Int) : Int := (j % 4294967296 - 2147483648) / 2 ^ (8 * (j / 4294967296).toNat)
def zh_sg (c : Int) : Prop := c = 0 ∨ c = 10 ∨ (32 ≤ c ∧ c ≤ 126)
/-- an item and its operand; items from k on, ahead of n, declarations ahead of d uses ahead of u (the place is n + 2^32 k + 2^64 d + 2^96 u) -/
def zh_it (p o d u : Int) : Prop := p % 64 ≤ 35 ∧ (p % 64 ≤ 3 → 0 ≤ o ∧ o ≤ 511 ∧ o < d) ∧ ((7 ≤ p % 64 ∧ p % 64 ≤ 11) ∨ (29 ≤ p % 64 ∧ p % 64 ≤ 30) → 0 ≤ o ∧ o ≤ 1500 ∧ o < u) ∧ (31 ≤ p % 64 ∧ p % 64 ≤ 33 → 0 ≤ o ∧ o ≤ 749)
def zh_its (f : Nat → Int) (j : Int) : Prop := ∀ i : Nat, j / 4294967296 % 4294967296 ≤ (i : Int) → (i : Int) < j % 4294967296 → zh_it (f (2 * i)) (f (2 * i + 1)) (j / 18446744073709551616 % 4294967296) (j / 79228162514264337593543950336)
/-- what names mean: a declaration (0 .. 59) of one of six units, by 512 -/
def zh_mn (f : Nat → Int) : Prop := ∀ i : Nat, i < 720 → 0 ≤ f i ∧ f i ≤ 3071 ∧ f i % 512 ≤ 59
/-- tokens: one digit has a number 0 .. 9 -/
def zh_od (k n f : Int) : Prop := k = 3 → f = 1 → 0 ≤ n ∧ n ≤ 9
def zh_ods (a b c : Nat → Int) (j : Int) : Prop := ∀ i : Nat, (i : Int) < j → zh_od (a i) (b i) (c i)
/-- typed text: no line's end from s up to e; lines ahead of n have at most 3000 signs, b since the last end (the place is n + 2^32 b) -/
def zh_nn (f : Nat → Int) (s e : Nat) : Prop := ∀ i : Nat, s ≤ i → i < e → f i ≠ 10
def zh_lns (f : Nat → Int) (j : Int) : Prop := (∀ s e : Nat, s ≤ e → (e : Int) ≤ j % 4294967296 → e ≤ 40000 → zh_nn f s e → (e : Int) - s ≤ 3000) ∧ (j % 4294967296 ≤ 40000 → ∀ s : Nat, (s : Int) ≤ j % 4294967296 → zh_nn f s (j % 4294967296).toNat → j % 4294967296 - s ≤ j / 4294967296)
/-- digits of a coded place; elements by whole numbers -/
def zv_dg : Nat → Int → Int
  | 0, j => j % 4294967296
  | i + 1, j => zv_dg i (j / 4294967296)
def zh_e (w : zz_W) (r : Nat) : Int → Int := fun i => zk_el w r i
/-- an item of a segment (items f, uses g, labels h; items from a up to b, their depth at least d, uses from u0 up to u1, labels from l0 up to l1) -/
def zg_it (f g h : Int → Int) (a b d u0 u1 l0 l1 j : Int) : Prop :=
  64 * d ≤ f (2 * j) ∧
  ((f (2 * j) % 64 = 7 ∨ f (2 * j) % 64 = 29) → u0 ≤ f (2 * j + 1) ∧ f (2 * j + 1) < u1 ∧ g (6 * f (2 * j + 1) + 2) = 1) ∧
  ((f (2 * j) % 64 = 10 ∨ f (2 * j) % 64 = 11) → u0 ≤ f (2 * j + 1) ∧ f (2 * j + 1) < u1 ∧ 3 ≤ g (6 * f (2 * j + 1) + 2)) ∧
  ((f (2 * j) % 64 = 8 ∨ f (2 * j) % 64 = 9 ∨ f (2 * j) % 64 = 30) → u0 ≤ f (2 * j + 1) ∧ f (2 * j + 1) < u1 ∧ g (6 * f (2 * j + 1) + 2) = 2) ∧
  (f (2 * j) % 64 = 9 → a < j ∧ f (2 * j - 2) = f (2 * j) - 1 ∧ f (2 * j - 1) = f (2 * j + 1)) ∧
  (f (2 * j) % 64 = 30 → f (2 * j) = 30 ∧ ∃ m, a ≤ m ∧ m < j ∧ f (2 * m) = 8 ∧ f (2 * m + 1) = f (2 * j + 1) ∧ ∀ i, m < i → i < j → 64 ≤ f (2 * i)) ∧
  ((f (2 * j) % 64 = 31 ∨ f (2 * j) % 64 = 32) → f (2 * j) < 64 ∧ l0 ≤ f (2 * j + 1) ∧ f (2 * j + 1) < l1 ∧ a ≤ h (f (2 * j + 1)) ∧ h (f (2 * j + 1)) < b ∧ f (2 * h (f (2 * j + 1))) = 33) ∧
  (f (2 * j) % 64 = 33 → f (2 * j) = 33)
/-- a segment; the place's digits: a, b, d, u0, u1, l0, l1, an excuse -/
def zg_sg (f g h : Int → Int) (j : Int) : Prop := 1 ≤ zv_dg 7 j ∨ 3200 ≤ zv_dg 1 j ∨ 749 ≤ zv_dg 6 j ∨ (zv_dg 0 j ≤ zv_dg 1 j ∧ ∀ i, zv_dg 0 j ≤ i → i < zv_dg 1 j → zg_it f g h (zv_dg 0 j) (zv_dg 1 j) (zv_dg 2 j) (zv_dg 3 j) (zv_dg 4 j) (zv_dg 5 j) (zv_dg 6 j) i)
theorem zv_dg_nn : ∀ (i : Nat) (j : Int), 0 ≤ zv_dg i j
  | 0, j => Int.emod_nonneg _ (by decide)
  | i + 1, j => zv_dg_nn i (j / 4294967296)
theorem zg_it_c {f g h f' g' h' : Int → Int} {a b d u0 u1 l0 l1 j : Int} (ha : 0 ≤ a) (hu : 0 ≤ u0) (hl : 0 ≤ l0) (hj : a ≤ j) (hj2 : j < b) (hf : ∀ p, 0 ≤ p → 2 * a ≤ p → p < 2 * b → f' p = f p) (hg : ∀ p, 0 ≤ p → 6 * u0 ≤ p → p < 6 * u1 → p % 6 = 2 → g' p = g p) (hh : ∀ p, 0 ≤ p → l0 ≤ p → p < l1 → h' p = h p) (hi : zg_it f g h a b d u0 u1 l0 l1 j) : zg_it f' g' h' a b d u0 u1 l0 l1 j := by
  obtain ⟨h1, h2, h3, h4, h5, h6, h7, h8⟩ := hi
  have e1 := hf (2 * j) (by omega) (by omega) (by omega)
  have e2 := hf (2 * j + 1) (by omega) (by omega) (by omega)
  unfold zg_it
  rw [e1, e2]
  refine ⟨h1, fun c => ?_, fun c => ?_, fun c => ?_, fun c => ?_, fun c => ?_, fun c => ?_, h8⟩
  · obtain ⟨x1, x2, x3⟩ := h2 c
    exact ⟨x1, x2, by rw [hg _ (by omega) (by omega) (by omega) (by omega)]; exact x3⟩
  · obtain ⟨x1, x2, x3⟩ := h3 c
    exact ⟨x1, x2, by rw [hg _ (by omega) (by omega) (by omega) (by omega)]; exact x3⟩
  · obtain ⟨x1, x2, x3⟩ := h4 c
    exact ⟨x1, x2, by rw [hg _ (by omega) (by omega) (by omega) (by omega)]; exact x3⟩
  · obtain ⟨x1, x2, x3⟩ := h5 c
    exact ⟨x1, by rw [hf _ (by omega) (by omega) (by omega)]; exact x2, by rw [hf _ (by omega) (by omega) (by omega)]; exact x3⟩
  · obtain ⟨x1, m, x2, x3, x4, x5, x6⟩ := h6 c
    refine ⟨x1, m, x2, x3, by rw [hf _ (by omega) (by omega) (by omega)]; exact x4, by rw [hf _ (by omega) (by omega) (by omega)]; exact x5, fun i y1 y2 => ?_⟩
    rw [hf _ (by omega) (by omega) (by omega)]
    exact x6 i y1 y2
  · obtain ⟨x1, x2, x3, x4, x5, x6⟩ := h7 c
    rw [hh _ (by omega) x2 x3]
    exact ⟨x1, x2, x3, x4, x5, by rw [hf _ (by omega) (by omega) (by omega)]; exact x6⟩
theorem zg_sg_c {f g h f' g' h' : Int → Int} {j : Int} (hf : ∀ p, 0 ≤ p → 2 * zv_dg 0 j ≤ p → p < 2 * zv_dg 1 j → f' p = f p) (hg : ∀ p, 0 ≤ p → 6 * zv_dg 3 j ≤ p → p < 6 * zv_dg 4 j → p % 6 = 2 → g' p = g p) (hh : ∀ p, 0 ≤ p → zv_dg 5 j ≤ p → p < zv_dg 6 j → h' p = h p) (hs : zg_sg f g h j) : zg_sg f' g' h' j := by
  rcases hs with hs | hs | hs | ⟨h1, h2⟩
  · exact Or.inl hs
  · exact Or.inr (Or.inl hs)
  · exact Or.inr (Or.inr (Or.inl hs))
  · exact Or.inr (Or.inr (Or.inr ⟨h1, fun i i1 i2 => zg_it_c (zv_dg_nn _ _) (zv_dg_nn _ _) (zv_dg_nn _ _) i1 i2 hf hg hh (h2 i i1 i2)⟩))
/-- items while a draft is typed (items f, uses g, labels h, declarations d, kinds of outer names e): what a use becomes; what is known of a use -/
def zg_K (d e : Int → Int) (t : Int) : Int := if t ≤ 59 then d (6 * t) else e (t - 60)
def zg_T (g : Int → Int) (s y : Int) : Int := if 0 ≤ g (6 * y + 3) then (if s = 8 then g (6 * y + 4) else g (6 * y + 3)) else -1 - g (6 * y + 5)
def zg_ok (g d e : Int → Int) (y : Int) : Prop := (0 ≤ g (6 * y + 3) → g (6 * y + 2) ≤ 2 ∧ g (6 * y + 3) ≤ 403 ∧ 0 ≤ g (6 * y + 4) ∧ g (6 * y + 3) + g (6 * y + 4) ≤ 404) ∧ (g (6 * y + 3) < 0 → 0 ≤ g (6 * y + 5) ∧ g (6 * y + 5) ≤ 119 ∧ zg_K d e (g (6 * y + 5)) = g (6 * y + 2))
def zg_us (s : Int) : Prop := (7 ≤ s ∧ s ≤ 11) ∨ s = 29 ∨ s = 30
/-- item j; x says which use it has; those ahead of k are typed -/
def zg_ti (f g h d e x : Int → Int) (n k u l j : Int) : Prop :=
  (zg_us (f (2 * j) % 64) → 0 ≤ x j ∧ x j < u ∧ (k ≤ j → f (2 * j + 1) = x j) ∧ (j < k → f (2 * j + 1) = zg_T g (f (2 * j) % 64) (x j) ∧ zg_ok g d e (x j))) ∧
  ((f (2 * j) % 64 = 7 ∨ f (2 * j) % 64 = 29) → g (6 * x j + 2) = 1) ∧
  ((f (2 * j) % 64 = 10 ∨ f (2 * j) % 64 = 11) → 3 ≤ g (6 * x j + 2)) ∧
  ((f (2 * j) % 64 = 8 ∨ f (2 * j) % 64 = 9 ∨ f (2 * j) % 64 = 30) → g (6 * x j + 2) = 2) ∧
  (f (2 * j) % 64 = 9 → 0 < j ∧ f (2 * j - 2) = f (2 * j) - 1 ∧ x (j - 1) = x j) ∧
  (f (2 * j) % 64 = 30 → f (2 * j) = 30 ∧ ∃ m, 0 ≤ m ∧ m < j ∧ f (2 * m) = 8 ∧ x m = x j ∧ ∀ i, m < i → i < j → 64 ≤ f (2 * i)) ∧
  ((f (2 * j) % 64 = 31 ∨ f (2 * j) % 64 = 32) → f (2 * j) < 64 ∧ (k ≤ j → 0 ≤ f (2 * j + 1) ∧ f (2 * j + 1) < l ∧ 0 ≤ h (f (2 * j + 1)) ∧ h (f (2 * j + 1)) < n ∧ f (2 * h (f (2 * j + 1))) = 33) ∧ (j < k → 0 ≤ f (2 * j + 1) ∧ f (2 * j + 1) < n ∧ f (2 * f (2 * j + 1)) = 33)) ∧
  (f (2 * j) % 64 = 33 → f (2 * j) = 33)
/-- the place's digits: n, k, u, l -/
def zg_ty (f g h d e : Int → Int) (j : Int) : Prop := ∃ x : Int → Int, ∀ i, 0 ≤ i → i < zv_dg 0 j → zg_ti f g h d e x (zv_dg 0 j) (zv_dg 1 j) (zv_dg 2 j) (zv_dg 3 j) i
/-- a draft that is typed: what a check and what is behind it have to do with each other; the items ahead of n -/
def zg_M (d e : Int → Int) (c o : Int) : Prop := (0 ≤ c ∧ 0 ≤ o ∧ o + c ≤ 404) ∨ (c = o ∧ o < 0 ∧ -120 ≤ o ∧ zg_K d e (-1 - o) = 2)
def zg_fi (f d e : Int → Int) (n j : Int) : Prop :=
  ((f (2 * j) % 64 = 7 ∨ f (2 * j) % 64 = 29) → (0 ≤ f (2 * j + 1) ∧ f (2 * j + 1) ≤ 403) ∨ (f (2 * j + 1) < 0 ∧ -120 ≤ f (2 * j + 1) ∧ zg_K d e (-1 - f (2 * j + 1)) = 1)) ∧
  ((f (2 * j) % 64 = 10 ∨ f (2 * j) % 64 = 11) → f (2 * j + 1) < 0 ∧ -120 ≤ f (2 * j + 1) ∧ 3 ≤ zg_K d e (-1 - f (2 * j + 1))) ∧
  ((f (2 * j) % 64 = 8 ∨ f (2 * j) % 64 = 9 ∨ f (2 * j) % 64 = 30) → -120 ≤ f (2 * j + 1) ∧ f (2 * j + 1) ≤ 404) ∧
  (f (2 * j) % 64 = 9 → 0 < j ∧ f (2 * j - 2) = f (2 * j) - 1 ∧ zg_M d e (f (2 * j - 1)) (f (2 * j + 1))) ∧
  (f (2 * j) % 64 = 30 → f (2 * j) = 30 ∧ ∃ m, 0 ≤ m ∧ m < j ∧ f (2 * m) = 8 ∧ zg_M d e (f (2 * m + 1)) (f (2 * j + 1)) ∧ ∀ i, m < i → i < j → 64 ≤ f (2 * i)) ∧
  ((f (2 * j) % 64 = 31 ∨ f (2 * j) % 64 = 32) → f (2 * j) < 64 ∧ 0 ≤ f (2 * j + 1) ∧ f (2 * j + 1) < n ∧ f (2 * f (2 * j + 1)) = 33) ∧
  (f (2 * j) % 64 = 33 → f (2 * j) = 33)
def zg_fn (f d e : Int → Int) (n : Int) : Prop := ∀ i, 0 ≤ i → i < n → zg_fi f d e n i
/-- names that are meant: declared ones, outer ones; declarations: kinds, locals, entries -/
def zg_rg (dc oc t : Int) : Prop := (0 ≤ t ∧ t < dc ∧ t < 60) ∨ (60 ≤ t ∧ t < 60 + oc ∧ t < 120)
def zg_rn (f : Int → Int) (n dc oc : Int) : Prop := ∀ i, 0 ≤ i → i < n → f (2 * i) % 64 ≤ 35 ∧ (zg_us (f (2 * i) % 64) → 0 ≤ f (2 * i + 1) ∨ zg_rg dc oc (-1 - f (2 * i + 1))) ∧ ((f (2 * i) % 64 ≤ 3 ∨ (31 ≤ f (2 * i) % 64 ∧ f (2 * i) % 64 ≤ 33)) → 0 ≤ f (2 * i + 1))
def zg_de (f d : Int → Int) (n dc : Int) : Prop := ∀ k, 0 ≤ k → k < dc → k < 512 → (1 ≤ d (6 * k) ∧ d (6 * k) ≤ 7) ∧ (0 ≤ d (6 * k + 2) ∧ d (6 * k + 2) ≤ 400) ∧ 0 ≤ d (6 * k + 5) ∧ d (6 * k + 5) < n ∧ 0 ≤ f (2 * d (6 * k + 5)) ∧ f (2 * d (6 * k + 5)) ≤ 3
/-- a draft that is typed; the place's digits: items, declarations, outer names -/
def zg_dr (f d e : Int → Int) (j : Int) : Prop := zg_fn f d e (zv_dg 0 j) ∧ zg_rn f (zv_dg 0 j) (zv_dg 1 j) (zv_dg 2 j) ∧ zg_de f d (zv_dg 0 j) (zv_dg 1 j)
/-- one of six, by a number; rows of the six units; six digits -/
def zv_qt : Nat → Int → Int
  | 0, j => j
  | i + 1, j => zv_qt i (j / 4294967296)
def zg_s6 {α : Type} (x0 x1 x2 x3 x4 x5 : α) (v : Int) : α := if v ≤ 0 then x0 else if v ≤ 1 then x1 else if v ≤ 2 then x2 else if v ≤ 3 then x3 else if v ≤ 4 then x4 else x5
def zg_R (w : zz_W) (r : Nat) (v : Int) : Int → Int := zg_s6 (zh_e w r) (zh_e w (r + 17)) (zh_e w (r + 34)) (zh_e w (r + 51)) (zh_e w (r + 68)) (zh_e w (r + 85)) v
def zg_g (R v : Int) : Int := zg_s6 (zv_dg 0 R) (zv_dg 1 R) (zv_dg 2 R) (zv_dg 3 R) (zv_dg 4 R) (zv_dg 5 R) v
/-- what names mean (m), where their words are (a), declarations (D), kinds of outer names (O): names of one unit; declarations that are there; outer names -/
def zm_P (m a : Int → Int) (D : Int → Int → Int) (G v t : Int) : Prop := m (120 * v + t) = 512 * v + t ∧ 0 ≤ a (60 * v + t) ∧ (D v (6 * t) = 1 → a (60 * v + t) + 1 ≤ G) ∧ (D v (6 * t) = 2 → a (60 * v + t) + D v (6 * t + 1) ≤ G)
def zm_a (m a : Int → Int) (D : Int → Int → Int) (u i G : Int) (dc : Int → Int) : Prop := (∀ v t, 0 ≤ v → v < u → 0 ≤ t → t < dc v → t < 60 → zm_P m a D G v t) ∧ (∀ t, 0 ≤ t → t < i → t < 60 → zm_P m a D G u t)
def zm_gd (U : Int) (dc : Int → Int) (x : Int) : Prop := ∃ v k, 0 ≤ v ∧ v < U ∧ v < 6 ∧ 0 ≤ k ∧ k < dc v ∧ k < 60 ∧ x = 512 * v + k
def zm_kd (D : Int → Int → Int) (x : Int) : Int := D (x / 512) (6 * (x % 512))
def zm_Q (m : Int → Int) (D O : Int → Int → Int) (U : Int) (dc : Int → Int) (v t : Int) : Prop := zm_gd U dc (m (120 * v + 60 + t)) ∧ zm_kd D (m (120 * v + 60 + t)) = O v t
def zm_b (m : Int → Int) (D O : Int → Int → Int) (u i U : Int) (dc oc : Int → Int) : Prop := (∀ v t, 0 ≤ v → v < u → 0 ≤ t → t < oc v → t < 60 → zm_Q m D O U dc v t) ∧ (∀ t, 0 ≤ t → t < i → t < 60 → zm_Q m D O U dc u t)
def zm_ow (o : Int → Int) (n U : Int) (dc : Int → Int) : Prop := ∀ i, 0 ≤ i → i < n → 0 ≤ o i → zm_gd U dc (o i)
/-- items that are worked out (f: items of a unit, n: how many) -/
def zm_ad (m a : Int → Int) (v o : Int) : Int := a (60 * (m (120 * v - 1 - o) / 512) + m (120 * v - 1 - o) % 512)
def zm_sz (m : Int → Int) (D : Int → Int → Int) (v o : Int) : Int := D (m (120 * v - 1 - o) / 512) (6 * (m (120 * v - 1 - o) % 512) + 1)
def zm_M (m a : Int → Int) (D : Int → Int → Int) (v c o : Int) : Prop := (0 ≤ c ∧ 0 ≤ o ∧ o + c ≤ 404) ∨ (c = o ∧ -120 ≤ o ∧ o < 0 ∧ 0 ≤ zm_ad m a v o ∧ zm_ad m a v o + zm_sz m D v o ≤ 24576)
def zm_cl (f D : Int → Int → Int) (U : Int) (n : Int → Int) (x : Int) : Prop := ∃ v k, 0 ≤ v ∧ v < U ∧ v < 6 ∧ 0 ≤ k ∧ k < 60 ∧ x = 512 * v + k ∧ (3 ≤ D v (6 * k) ∧ D v (6 * k) ≤ 7) ∧ (0 ≤ D v (6 * k + 2) ∧ D v (6 * k + 2) ≤ 400) ∧ 0 ≤ D v (6 * k + 5) ∧ D v (6 * k + 5) < n v ∧ 0 ≤ f v (2 * D v (6 * k + 5)) ∧ f v (2 * D v (6 * k + 5)) ≤ 3
def zm_it (f D : Int → Int → Int) (m a : Int → Int) (U : Int) (n : Int → Int) (v i : Int) : Prop :=
  f v (2 * i) % 64 ≤ 35 ∧
  ((f v (2 * i) % 64 ≤ 3 ∨ (31 ≤ f v (2 * i) % 64 ∧ f v (2 * i) % 64 ≤ 33)) → 0 ≤ f v (2 * i + 1)) ∧
  ((f v (2 * i) % 64 = 7 ∨ f v (2 * i) % 64 = 29) → (0 ≤ f v (2 * i + 1) ∧ f v (2 * i + 1) ≤ 403) ∨ (-120 ≤ f v (2 * i + 1) ∧ f v (2 * i + 1) < 0 ∧ 0 ≤ zm_ad m a v (f v (2 * i + 1)) ∧ zm_ad m a v (f v (2 * i + 1)) ≤ 24575)) ∧
  ((f v (2 * i) % 64 = 10 ∨ f v (2 * i) % 64 = 11) → -120 ≤ f v (2 * i + 1) ∧ f v (2 * i + 1) < 0 ∧ zm_cl f D U n (m (120 * v - 1 - f v (2 * i + 1)))) ∧
  ((f v (2 * i) % 64 = 8 ∨ f v (2 * i) % 64 = 9 ∨ f v (2 * i) % 64 = 30) → -120 ≤ f v (2 * i + 1) ∧ f v (2 * i + 1) ≤ 404) ∧
  (f v (2 * i) % 64 = 9 → 0 < i ∧ f v (2 * i - 2) = f v (2 * i) - 1 ∧ zm_M m a D v (f v (2 * i - 1)) (f v (2 * i + 1))) ∧
  (f v (2 * i) % 64 = 30 → f v (2 * i) = 30 ∧ ∃ q, 0 ≤ q ∧ q < i ∧ f v (2 * q) = 8 ∧ zm_M m a D v (f v (2 * q + 1)) (f v (2 * i + 1)) ∧ ∀ z, q < z → z < i → 64 ≤ f v (2 * z)) ∧
  ((f v (2 * i) % 64 = 31 ∨ f v (2 * i) % 64 = 32) → f v (2 * i) < 64 ∧ 0 ≤ f v (2 * i + 1) ∧ f v (2 * i + 1) < n v ∧ f v (2 * f v (2 * i + 1)) = 33)
def zm_st (f D : Int → Int → Int) (m a : Int → Int) (U : Int) (n : Int → Int) : Prop := ∀ v i, 0 ≤ v → v < U → v < 6 → 0 ≤ i → i < n v → zm_it f D m a U n v i
/-- x is a good index for item j; whatever STORE waits behind q, x is good for it -/
def zm_x (f : Int → Int → Int) (m a : Int → Int) (v j x : Int) : Prop := 0 ≤ x ∧ (0 ≤ f v (2 * j + 1) → f v (2 * j + 1) + x ≤ 403) ∧ (f v (2 * j + 1) < 0 → zm_ad m a v (f v (2 * j + 1)) + x ≤ 24575)
def zm_T (f : Int → Int → Int) (m a n : Int → Int) (v q x : Int) : Prop := ∀ j, q ≤ j → j < n v → f v (2 * j) = 30 → (∀ z, q ≤ z → z < j → 64 ≤ f v (2 * z)) → zm_x f m a v j x
/-- frame b (r: frames) was called from the one below it -/
def zm_c (f : Int → Int → Int) (m a n r : Int → Int) (U b : Int) : Prop := (0 ≤ r (415 * b + 412) ∧ r (415 * b + 412) < U ∧ r (415 * b + 412) < 6) ∧ (0 ≤ r (415 * b + 413) ∧ r (415 * b + 413) ≤ 3200) ∧ (0 ≤ r (415 * b + 414) ∧ r (415 * b + 414) ≤ 131) ∧ zm_T f m a n (r (415 * b + 412)) (r (415 * b + 413)) (r (415 * b - 415)) ∧ (r (415 * b + 414) = 0 → ∀ x, zm_T f m a n (r (415 * b + 412)) (r (415 * b + 413)) x) ∧ (r (415 * b + 413) < n (r (415 * b + 412)) → f (r (415 * b + 412)) (2 * r (415 * b + 413)) % 64 ≠ 9)
/-- frame c - 1 is at work, at item p of unit u -/
def zm_d (f D : Int → Int → Int) (m a r : Int → Int) (c u p U : Int) (n : Int → Int) : Prop := zm_st f D m a U n ∧ (0 ≤ u ∧ u < U ∧ u < 6) ∧ (∀ b, 1 ≤ b → b < c → zm_c f m a n r U b) ∧ zm_T f m a n u p (r (415 * c - 415)) ∧ (p < n u → f u (2 * p) % 64 = 9 → zm_x f m a u p (r (415 * c - 415 + f u (2 * p) / 64)))
/-- c frames are there, declaration x is called (from item q of unit u, its words lie from e on) -/
def zm_k (f D : Int → Int → Int) (m a r : Int → Int) (c u q U e x : Int) (n : Int → Int) : Prop := zm_st f D m a U n ∧ zm_cl f D U n x ∧ (1 ≤ c → (0 ≤ u ∧ u < U ∧ u < 6) ∧ (∀ b, 1 ≤ b → b < c → zm_c f m a n r U b) ∧ (0 ≤ e ∧ e ≤ 131) ∧ zm_T f m a n u q (r (415 * c - 415)) ∧ (e = 0 → ∀ y, zm_T f m a n u q y) ∧ (q < n u → f u (2 * q) % 64 ≠ 9))
/-- the reference's steps: how deep the brackets are, how many procedures have ended, how many are declared -/
def zb_v (x : Int) : Int := if x = 13 ∨ x = 16 then 1 else if x = 15 ∨ x = 18 then -1 else 0
def zb_D (f : Int → Int) (a : Int) : Nat → Int
  | 0 => 0
  | n + 1 => zb_D f a n + zb_v (f (a + (n : Int)))
def zb_F (f : Int → Int) (a : Int) : Nat → Int
  | 0 => 0
  | n + 1 => zb_F f a n + (if f (a + (n : Int)) = 1 then 1 else 0)
def zb_ok (f : Int → Int) (a n : Int) : Prop := ∀ k : Nat, (k : Int) < n → (0 ≤ zb_D f a k ∧ zb_D f a k ≤ 63) ∧ ((14 ≤ f (a + (k : Int)) ∧ f (a + (k : Int)) ≤ 15 ∨ 17 ≤ f (a + (k : Int)) ∧ f (a + (k : Int)) ≤ 18) → 1 ≤ zb_D f a k)
def zb_P (f : Int → Int) : Nat → Int
  | 0 => 0
  | n + 1 => zb_P f n + (if 3 ≤ f (n : Int) then 1 else 0)
/-- the reference's parser: a fault is known; a name is used as a kind; a step; contexts, unaries, locals; from where on the last steps are of an expression -/
def zs_x (r : Int → Int) : Prop := 0 ≤ r 1 ∨ 0 ≤ r 3 ∨ 0 ≤ r 4
def zs_u (un uk : Int → Int) (l n a k : Int) : Prop := ∃ j : Int, 0 ≤ j ∧ l ≤ j ∧ j < n ∧ un j = a ∧ uk j = k
def zs_st (sw sa sb sc sd un uk : Int → Int) (n b p : Int) : Prop :=
  (3 ≤ sw p → sw p ≤ 10 → 0 ≤ sc p ∧ sc p ≤ 7) ∧
  ((sw p = 5 ∨ sw p = 11) → (sb p = -1 ∧ zs_u un uk 0 n (sa p) 1) ∨ (0 ≤ sb p ∧ sb p ≤ 1616)) ∧
  (sw p = 6 → (sb p = -1 ∧ zs_u un uk 0 n (sa p) 2) ∨ (0 ≤ sb p ∧ 1 ≤ sd p ∧ sb p + 4 * sd p ≤ 1620)) ∧
  (sw p = 7 → b < p ∧ sw (p - 1) = 6 ∧ sa (p - 1) = sa p ∧ sb (p - 1) = sb p ∧ sc (p - 1) = sc p) ∧
  (sw p = 8 → 0 ≤ sb p ∧ sb p ≤ 4 ∧ zs_u un uk 0 n (sa p) (3 + sb p)) ∧
  (sw p = 12 → ∃ j, b ≤ j ∧ j < p ∧ sw j = 6 ∧ sa j = sa p ∧ sb j = sb p ∧ sc j = 0 ∧ ∀ m, j < m → m < p → 3 ≤ sw m ∧ sw m ≤ 10 ∧ 1 ≤ sc m) ∧
  (sw p = 20 → ∃ j, b ≤ j ∧ j < p ∧ sw j = 2 ∧ ∀ m, j < m → m < p → 3 ≤ sw m ∧ sw m ≤ 10) ∧
  (sw p = 0 → p = b ∨ sw (p - 1) = 1)
def zs_sts (sw sa sb sc sd un uk : Int → Int) (n b e : Int) : Prop := ∀ p, b ≤ p → p < e → zs_st sw sa sb sc sd un uk n b p
def zs_cx (co cd cs cp : Int → Int) (c z : Int) : Prop := ∀ i, 0 ≤ i → i < c → (i < c - 1 ∨ z ≠ 1) → (co 0 ≤ co i ∧ 0 ≤ co i ∧ co i ≤ 7) ∧ (co 0 ≤ cd i ∧ cd i ≤ cs i ∧ cs i ≤ cp i ∧ cp i ≤ 10) ∧ (i < c - 1 ∨ 2 ≤ z → cp i ≤ 7)
def zs_un (co ud : Int → Int) (m : Int) : Prop := ∀ i, 0 ≤ i → i < m → co 0 ≤ ud i ∧ 0 ≤ ud i ∧ ud i ≤ 7
def zs_lc (lp ls : Int → Int) (l : Int) : Prop := ∀ i, 0 ≤ i → i < l → 0 ≤ lp i ∧ lp i ≤ 1616 ∧ lp i + 4 * ls i ≤ 1620
def zs_vo (vo bv : Int → Int) (v l b : Int) : Prop := (∀ i, 0 ≤ i → i < v → 0 ≤ vo i ∧ vo i < l) ∧ (∀ i, 0 ≤ i → i < b → 0 ≤ bv i ∧ bv i ≤ v) ∧ ∀ i j, 0 ≤ i → i ≤ j → j < b → bv i ≤ bv j
def zs_S (w : zz_W) (n u : Int) : Prop := zs_sts (zh_e w 208) (zh_e w 209) (zh_e w 210) (zh_e w 211) (zh_e w 212) (zh_e w 229) (zh_e w 230) n (8000 * u) (8000 * u + zh_e w 207 u)
def zs_ps (w : zz_W) (n u c z m l : Int) : Prop := zs_x (zh_e w 224) ∨ (zs_S w n u ∧ zs_cx (zh_e w 250) (zh_e w 240) (zh_e w 241) (zh_e w 242) c z ∧ zs_un (zh_e w 250) (zh_e w 253) m ∧ zs_lc (zh_e w 227) (zh_e w 226) l)
def zs_t (sw sc : Int → Int) (o b : Int) : Nat → Int
  | 0 => 0
  | n + 1 => if 3 ≤ sw (b + (n : Int)) ∧ sw (b + (n : Int)) ≤ 10 ∧ o ≤ sc (b + (n : Int)) then zs_t sw sc o b n else (n : Int) + 1
def zs_T (w : zz_W) (u : Int) : Int := @ite Int (zs_x (zh_e w 224)) (Classical.propDecidable _) 0 (zs_t (zh_e w 208) (zh_e w 211) (zh_e w 250 0) (8000 * u) (zh_e w 207 u).toNat)
/-- uses stand at unlike places, names that wait in contexts too, all ahead of token t; y - 1 is one that waits besides them (y = 0: none); tokens' places rise, they are below b -/
def zs_ud (up cp ck ta : Int → Int) (n c t y : Int) : Prop :=
  (∀ i j, 0 ≤ i → i < j → j < n → up i ≠ up j) ∧ (∀ i, 0 ≤ i → i < n → 0 ≤ up i ∧ up i < ta t) ∧
  (∀ i, 0 ≤ i → i < c → 2 ≤ ck i → cp i < ta t ∧ ∀ k, 0 ≤ k → k < n → up k ≠ cp i) ∧
  (∀ i j, 0 ≤ i → i < j → j < c → 2 ≤ ck i → 2 ≤ ck j → cp i ≠ cp j) ∧
  (1 ≤ y → y - 1 < ta t ∧ (∀ k, 0 ≤ k → k < n → up k ≠ y - 1) ∧ ∀ i, 0 ≤ i → i < c → 2 ≤ ck i → cp i ≠ y - 1)
/-- the next place above l among the first k: z - 1 (0: none); how many of the first m are not above l -/
def zs_nx (up : Int → Int) (k l z : Int) : Prop := (z = 0 ∧ ∀ i, 0 ≤ i → i < k → up i ≤ l) ∨ (1 ≤ z ∧ z - 1 < k ∧ l < up (z - 1) ∧ ∀ i, 0 ≤ i → i < k → l < up i → up (z - 1) ≤ up i)
def zs_cn (up : Int → Int) (l : Int) : Nat → Int
  | 0 => 0
  | m + 1 => zs_cn up l m + (if 0 ≤ up (m : Int) ∧ up (m : Int) ≤ l then 1 else 0)
def zs_tk (ta : Int → Int) (n b : Int) : Prop := (∀ i j, 0 ≤ i → i < j → j < n → ta i < ta j) ∧ ∀ i, 0 ≤ i → i < n → ta i < b
/-- operations on longs by their names: number, both operands; the table of names: where a name begins to be looked for; names that are known -/
def zn_op (o : Nat) (x y : Int) : Int := match o with
  | 0 => (Int64.ofInt x * Int64.ofInt y).toInt
  | 1 => (Int64.ofInt x + Int64.ofInt y).toInt
  | 2 => (Int64.ofInt x ^^^ Int64.ofInt y).toInt
  | 3 => (Int64.ofInt x ||| Int64.ofInt y).toInt
  | 4 => (Int64.ofInt x &&& Int64.ofInt y).toInt
  | 5 => (Int64.ofInt x <<< ((Int32.ofInt y).toInt64 &&& 63)).toInt
  | 6 => (Int64.ofInt x >>> ((Int32.ofInt y).toInt64 &&& 63)).toInt
  | 7 => ((Int64.ofInt x).toInt32).toInt
  | _ => (Int32.ofInt x &&& Int32.ofInt y).toInt
def zn_oc (j : Int) : Int := zn_op (j % 16).toNat (j / 16 % 18446744073709551616 - 9223372036854775808) (j / 16 / 18446744073709551616 - 9223372036854775808)
def zn_mx (a b : Int) : Int := zn_op 1 (zn_op 0 a 31) (zn_op 0 b 1000003)
def zn_h (a b : Int) : Int := zn_op 8 (zn_op 7 (zn_op 2 (zn_op 2 (zn_mx a b) (zn_op 6 (zn_mx a b) 17)) (zn_op 6 (zn_mx a b) 40)) 0) 131071
def zn_KA : List Int := [7496054, 1668248176, 26217, 1702063205, 435610544247, 121437875889522, 7632239, 28265, 1969513569, 1969386867, 6581857, 29295, 7499640, 7499630, 7629939, 1970564211, 7105651, 7107187, 6386291, 1986817139, 1986818675, 1986097779, 1953265005, 504464438637, 7760228, 1970694500, 1768449645, 1869375085, 1768453229, 1869378669, 29290, 1919705450, 30518463020890483, 461195539042, 504279360609, 1769237619, 504280411251, 1768189537, 6910575, 1769107320, 6911340, 25196, 26732, 30572, 7692908, 7694444, 25203, 26739, 30579, 7431522, 6647394, 2053467234, 2054448994, 2054450274, 2053465954, 119165922077794, 119165921093474, 106, 7102826, 7368558, 1702260589, 7630702, 6776174, 26988, 24940, 98, 2054251874, 2053467746, 7629922, 6645602, 7628642, 6646882, 500236121134, 418564367406, 119170031970094, 431349132078, 500068087598, 431416637230, 439904987182, 435745808942, 111477510927150, 121390429397294, 1952805678, 8243105135629529646, 7237970032640093742, 6711598, 28549237963122990, 435728180526, 112602842555694, 122537084284206, 469836391726, 500101902894, 491311228206, 1869768058, 29793, 12406, 12662, 12385, 12641, 12897, 13153, 12404, 12660, 12916, 13172, 13428, 13684, 13940, 14196, 12403, 12659, 12915, 13171, 13427, 13683, 13939, 14195, 14452, 14708, 12395, 12651, 28775, 28787, 28774, 24946]
def zn_KB : List Int := [0, 0, 0, 0, 0, 0, 0, 0, 0, 0, 0, 0, 0, 0, 0, 0, 0, 0, 0, 0, 0, 0, 0, 0, 0, 0, 0, 0, 0, 0, 0, 0, 0, 0, 0, 0, 0, 0, 0, 0, 0, 0, 0, 0, 0, 0, 0, 0, 0, 0, 0, 0, 0, 0, 0, 0, 0, 0, 0, 0, 0, 0, 0, 0, 0, 0, 0, 0, 0, 0, 0, 0, 0, 0, 0, 0, 0, 0, 0, 0, 0, 0, 0, 0, 29285, 0, 0, 0, 0, 0, 0, 0, 0, 0, 0, 0, 0, 0, 0, 0, 0, 0, 0, 0, 0, 0, 0, 0, 0, 0, 0, 0, 0, 0, 0, 0, 0, 0, 0, 0, 0, 0, 0, 0, 0]
def zn_l (w : zz_W) (r : Nat) (i : Int) : Int := zk_lel w r i.toNat
/-- each of the first n names is found from its beginning on; they are unlike; the first 125 are the known ones -/
def zs_nm (A B T : Int → Int) (n : Int) : Prop :=
  (∀ i, 0 ≤ i → i < n → ∃ d : Int, 0 ≤ d ∧ T ((zn_h (A i) (B i) + d) % 131072) = i + 1 ∧ ∀ e, 0 ≤ e → e < d → 1 ≤ T ((zn_h (A i) (B i) + e) % 131072)) ∧
  (∀ i j, 0 ≤ i → i < j → j < n → A i = A j → B i = B j → False) ∧
  (∀ i, 0 ≤ i → i < n → i < 125 → A i = zn_KA.getD i.toNat 0 ∧ B i = zn_KB.getD i.toNat 0)
/-- m slots from the beginning of (a, b) on are taken, none by it; the next one is k -/
def zs_wk (A B T : Int → Int) (n k m a b : Int) : Prop := k = (zn_h a b + m) % 131072 ∧ 0 ≤ m ∧ ∀ e, 0 ≤ e → e < m → 1 ≤ T ((zn_h a b + e) % 131072) ∧ (T ((zn_h a b + e) % 131072) ≤ n → A (T ((zn_h a b + e) % 131072) - 1) = a → B (T ((zn_h a b + e) % 131072) - 1) = b → False)
/-- the known name n is (a, b); the names from l on up to 125 are the known ones -/
def zn_kc (n a b : Int) : Prop := a = zn_KA.getD n.toNat 0 ∧ b = zn_KB.getD n.toNat 0
def zn_k5 (A B : Int → Int) (l : Int) : Prop := ∀ i, l ≤ i → 0 ≤ i → i < 125 → zn_kc i (A i) (B i)
def zn_w (A B T : Int → Int) (j : Int) : Prop := zs_wk A B T (j % 4294967296) (j / 4294967296 % 1048576) (j / 4503599627370496 % 1048576) (j / 4722366482869645213696 % 18446744073709551616 - 9223372036854775808) (j / 4722366482869645213696 / 18446744073709551616 - 9223372036854775808)
/-- plain names: small letters and digits, from the lowest byte on; tokens that are names; names of uses, contexts, declarations -/
def zp_ch (c : Int) : Prop := (48 ≤ c ∧ c ≤ 57) ∨ (97 ≤ c ∧ c ≤ 122)
def zp_k : Nat → Int → Prop
  | 0, a => a = 0
  | n + 1, a => ∃ b c : Int, zp_k n b ∧ zp_ch c ∧ a = b + c * 256 ^ n
def zp_n (a b : Int) : Prop := b = 0 ∧ ∃ n : Nat, 1 ≤ n ∧ n ≤ 8 ∧ zp_k n a
def zp_tn (A B K V : Int → Int) (n t : Int) : Prop := ∀ i, 0 ≤ i → i < t → K i = 1 → 0 ≤ V i ∧ V i < n ∧ zp_n (A (V i)) (B (V i))
def zp_pp (A B U K C F : Int → Int) (n c f : Int) : Prop := (∀ i, 0 ≤ i → i < n → 0 ≤ U i ∧ zp_n (A (U i)) (B (U i))) ∧ (∀ i, 0 ≤ i → i < c → 2 ≤ K i → 0 ≤ C i ∧ zp_n (A (C i)) (B (C i))) ∧ ∀ i, 0 ≤ i → i < f → 0 ≤ F i ∧ zp_n (A (F i)) (B (F i))
/-- a use is what its name is declared as in the unit (first of the name), or an outer name; all uses up to a place are; outer names are plain; a name is not declared between -/
def zr_rs (U Z F K O Q : Int → Int) (f o i : Int) : Prop := (∃ k, 0 ≤ k ∧ k < f ∧ F k = U i ∧ K k = Z i ∧ ∀ m, 0 ≤ m → m < k → F m ≠ U i) ∨ ((∀ m, 0 ≤ m → m < f → F m ≠ U i) ∧ ∃ q, 0 ≤ q ∧ q < o ∧ O q = U i ∧ Q q = Z i)
def zr_rv (U Z P F K O Q W : Int → Int) (n l o f : Int) : Prop := zs_x W ∨ ∀ i, 0 ≤ i → i < n → P i ≤ l → zr_rs U Z F K O Q f o i
def zr_op (A B O Q : Int → Int) (o : Int) : Prop := ∀ q, 0 ≤ q → q < o → 0 ≤ O q ∧ zp_n (A (O q)) (B (O q)) ∧ 0 ≤ Q q ∧ Q q ≤ 7
def zr_nf (F : Int → Int) (l h x : Int) : Prop := ∀ i, 0 ≤ i → l ≤ i → i < h → F i ≠ x - 1
/-- the typed text: how many lines; a dot has one of six letters behind it (x = 1: the last sign is one that waits); a word that is said so -/
def zy_c (T : Int → Int) (b : Int) : Nat → Int
  | 0 => 0
  | n + 1 => zy_c T b n + (if T (b + (n : Int)) = 10 then 1 else 0)
def zy_ok (c : Int) : Prop := c = 100 ∨ c = 103 ∨ c = 107 ∨ c = 115 ∨ c = 116 ∨ c = 119
def zy_d (T : Int → Int) (b n x : Int) : Prop := ∀ i, 0 ≤ i → i < n → T (b + i) = 46 → (i + 1 < n ∧ zy_ok (T (b + i + 1))) ∨ (i + 1 = n ∧ x = 1)
def zy_okb (c : Int) : Bool := decide (c = 100) || (decide (c = 103) || (decide (c = 107) || (decide (c = 115) || (decide (c = 116) || decide (c = 119)))))
def zy_wb : Nat → Int → Int → Bool
  | 0, _, _ => false
  | n + 1, s, w => (decide (w = 0) && decide (s = 0)) || (decide (0 < w) && (decide (32 ≤ w % 256) && (decide (w % 256 < 127) && ((decide (s ≠ 1) || zy_okb (w % 256)) && zy_wb n (if w % 256 = 46 then 1 else 0) (w / 256)))))
/-- functions by hand: numbers that a world gives at a (coded) place, the rows that they speak of -/
def zv_Hh (t : Nat) (w : zz_W) (j : Int) : Int := match t with
  | 0 => zh_b (zh_in (zh_f w 286) (j % 1048576).toNat (j / 1048576))
  | 1 => zh_b (zh_in (zh_f w 287) (j % 1048576).toNat (j / 1048576))
  | 2 => zh_b (j % 1048576 + (zh_cn (zh_f w 286) (j % 1048576).toNat (zh_f w 287) (j / 1048576 % 1048576).toNat : Int) ≤ j / 1048576 / 1048576)
  | 3 => zh_b (j / 1048576 % 1048576 + (zh_cn (zh_f w 287) (j / 1048576 % 1048576).toNat (zh_f w 286) (j % 1048576).toNat : Int) ≤ j / 1048576 / 1048576)
  | 4 => zh_b (∀ i : Nat, (i : Int) < j → (zh_f w 292 i ≤ 0 ∨ (0 ≤ zh_f w 293 i ∧ zh_f w 293 i ≤ 16380)))
  | 5 => (zh_nz (zh_f w 186) 448 : Int)
  | 6 => zh_b (∀ i, i < min (j % 1048576).toNat 4 → zh_f w 311 i < j / 1048576)
  | 7 => zh_b (∀ i, i < (j % 1048576).toNat → zh_f w 279 i < j / 1048576)
  | 8 => zh_sm (zh_f w 182) (64 * j.toNat) (zh_f w 179 j.toNat).toNat
  | 9 => zh_sm (zh_f w 182) (64 * (j / 1048576).toNat) (j % 1048576).toNat
  | 10 => zh_qu j % 256
  | 11 => zh_b (zh_qu j % 256 ≠ 0)
  | 12 => zh_b (zh_sg (zh_qu j % 256))
  | 13 => zh_qu j
  | 14 => zh_qu j / 256
  | 15 => zh_b (zh_its (zh_f w 61) j)
  | 16 => zh_b (zh_mn (zh_f w 54))
  | 17 => zh_b (zh_ods (zh_f w 41) (zh_f w 42) (zk_lel w 44) j)
  | 18 => zk_lel w 44 j.toNat
  | 19 => zh_b (zh_lns (zh_f w 60) j)
  | 20 => zh_b (zh_nn (zh_f w 60) (j % 4294967296).toNat (j / 4294967296).toNat)
  | 21 => zh_b (zh_its (zh_f w 78) j)
  | 22 => zh_b (zh_its (zh_f w 95) j)
  | 23 => zh_b (zh_its (zh_f w 112) j)
  | 24 => zh_b (zh_its (zh_f w 129) j)
  | 25 => zh_b (zh_its (zh_f w 146) j)
  | 26 => zh_b (zh_lns (zh_f w 77) j)
  | 27 => zh_b (zh_lns (zh_f w 94) j)
  | 28 => zh_b (zh_lns (zh_f w 111) j)
  | 29 => zh_b (zh_lns (zh_f w 128) j)
  | 30 => zh_b (zh_lns (zh_f w 145) j)
  | 31 => zh_b (zg_sg (zh_e w 61) (zh_e w 20) (zh_e w 22) j)
  | 32 => zh_b (zg_sg (zh_e w 78) (zh_e w 20) (zh_e w 22) j)
  | 33 => zh_b (zg_sg (zh_e w 95) (zh_e w 20) (zh_e w 22) j)
  | 34 => zh_b (zg_sg (zh_e w 112) (zh_e w 20) (zh_e w 22) j)
  | 35 => zh_b (zg_sg (zh_e w 129) (zh_e w 20) (zh_e w 22) j)
  | 36 => zh_b (zg_sg (zh_e w 146) (zh_e w 20) (zh_e w 22) j)
  | 37 => zh_b (zg_dr (zh_e w 61) (zh_e w 62) (zh_e w 64) j)
  | 38 => zh_b (zg_dr (zh_e w 78) (zh_e w 79) (zh_e w 81) j)
  | 39 => zh_b (zg_dr (zh_e w 95) (zh_e w 96) (zh_e w 98) j)
  | 40 => zh_b (zg_dr (zh_e w 112) (zh_e w 113) (zh_e w 115) j)
  | 41 => zh_b (zg_dr (zh_e w 129) (zh_e w 130) (zh_e w 132) j)
  | 42 => zh_b (zg_dr (zh_e w 146) (zh_e w 147) (zh_e w 149) j)
  | 43 => zh_b (zg_ty (zh_e w 61) (zh_e w 20) (zh_e w 22) (zh_e w 62) (zh_e w 64) j)
  | 44 => zh_b (zg_rn (zh_e w 61) (zv_dg 0 j) (zv_dg 1 j) (zv_dg 2 j))
  | 45 => zh_b (zg_fn (zh_e w 61) (zh_e w 62) (zh_e w 64) j)
  | 46 => zh_b (zm_a (zh_e w 54) (zh_e w 55) (zg_R w 62) (zv_dg 0 j) (zv_dg 1 j) (zv_dg 2 j) (zg_g (zv_qt 3 j)))
  | 47 => zh_b (zm_b (zh_e w 54) (zg_R w 62) (zg_R w 64) (zv_dg 0 j) (zv_dg 1 j) (zv_dg 2 j) (zg_g (zv_qt 3 j)) (zg_g (zv_qt 9 j)))
  | 48 => zm_kd (zg_R w 62) j
  | 49 => zh_b (zm_ow (zh_e w 7) (zv_dg 0 j) (zv_dg 1 j) (zg_g (zv_qt 2 j)))
  | 50 => zh_b (zm_gd (zv_dg 1 j) (zg_g (zv_qt 2 j)) (zv_dg 0 j))
  | 51 => zg_R w 61 (zv_dg 0 j) (2 * zv_dg 1 j)
  | 52 => zh_b (zm_d (zg_R w 61) (zg_R w 62) (zh_e w 54) (zh_e w 55) (zh_e w 57) (zv_dg 0 j) (zv_dg 1 j) (zv_dg 2 j) (zv_dg 3 j) (zg_g (zv_qt 4 j)))
  | 53 => zg_R w 61 (zv_dg 0 j) (2 * zv_dg 1 j + 1)
  | 54 => zh_e w 55 (60 * (zh_e w 54 j / 512) + zh_e w 54 j % 512)
  | 55 => zg_R w 62 (zh_e w 54 j / 512) (6 * (zh_e w 54 j % 512) + 1)
  | 56 => zh_b (zm_k (zg_R w 61) (zg_R w 62) (zh_e w 54) (zh_e w 55) (zh_e w 57) (zv_dg 0 j) (zv_dg 1 j) (zv_dg 2 j) (zv_dg 3 j) (zv_dg 4 j) (zv_dg 5 j) (zg_g (zv_qt 6 j)))
  | 57 => zh_b (zv_dg 1 j < zg_g (zv_qt 2 j) (zv_dg 0 j))
  | 60 => zb_D (zh_e w 208) (8000 * j) (zh_e w 207 j).toNat
  | 61 => zh_b (zb_ok (zh_e w 208) (8000 * j) (zh_e w 207 j))
  | 62 => zb_D (zh_e w 208) (8000 * zv_dg 1 j) (zv_dg 0 j).toNat
  | 63 => zb_F (zh_e w 208) (8000 * j) (zh_e w 207 j).toNat
  | 64 => zb_F (zh_e w 208) (8000 * zv_dg 1 j) (zv_dg 0 j).toNat
  | 65 => zb_P (zh_e w 234) j.toNat
  | 70 => zh_b (zs_ps w (zv_dg 0 j) (zv_dg 1 j) (zv_dg 2 j) (zv_dg 3 j) (zv_dg 4 j) (zv_dg 5 j))
  | 71 => zh_b (zs_x (zh_e w 224))
  | 72 => zh_b (zs_u (zh_e w 229) (zh_e w 230) (zv_dg 3 j) (zv_dg 2 j) (zv_dg 0 j - 1) (zv_dg 1 j))
  | 73 => zs_T w j
  | 74 => zh_b (zs_x (zh_e w 224) ∨ zs_S w (zv_dg 0 j) (zv_dg 1 j))
  | 75 => zh_b (zs_vo (zh_e w 228) (zh_e w 255) (zv_dg 0 j) (zv_dg 1 j) (zv_dg 2 j))
  | 76 => zh_b (zs_ud (zh_e w 231) (zh_e w 248) (zh_e w 239) (zh_e w 222) (zv_dg 0 j) (zv_dg 1 j) (zv_dg 2 j) 0)
  | 77 => zh_b (zs_tk (zh_e w 222) (zv_dg 0 j) (zv_dg 1 j))
  | 78 => zh_b (zs_ud (zh_e w 231) (zh_e w 248) (zh_e w 239) (zh_e w 222) (zv_dg 0 j) (zv_dg 1 j) (zv_dg 2 j) (zv_dg 3 j))
  | 79 => zh_b (zs_nx (zh_e w 231) (zv_dg 0 j) (zv_dg 1 j - 1) (zv_dg 2 j))
  | 80 => zs_cn (zh_e w 231) (zv_dg 0 j - 1) (zv_dg 1 j).toNat
  | 81 => zn_oc j
  | 82 => zk_lel w 173 j.toNat
  | 83 => zk_lel w 174 j.toNat
  | 84 => zh_b (zs_nm (zn_l w 173) (zn_l w 174) (zh_e w 175) (j % 4294967296))
  | 85 => zh_b (zn_w (zn_l w 173) (zn_l w 174) (zh_e w 175) j)
  | 86 => zh_b (zn_kc (j % 4294967296) (j / 4294967296 % 18446744073709551616 - 9223372036854775808) (j / 4294967296 / 18446744073709551616 - 9223372036854775808))
  | 87 => zh_b (zn_k5 (zn_l w 173) (zn_l w 174) (j % 4294967296))
  | 88 => zh_b (zp_k (j / 18446744073709551616).toNat (j % 18446744073709551616 - 9223372036854775808))
  | 89 => zh_b ((4294967297 ≤ j ∧ j < 8589934592) ∧ zp_n (zn_l w 173 (j - 4294967297)) (zn_l w 174 (j - 4294967297)))
  | 90 => zh_b (zp_tn (zn_l w 173) (zn_l w 174) (zh_e w 221) (zh_e w 223) (j % 4294967296) (j / 4294967296))
  | 91 => zh_b (zp_pp (zn_l w 173) (zn_l w 174) (zh_e w 229) (zh_e w 239) (zh_e w 247) (zh_e w 233) (zv_dg 0 j) (zv_dg 1 j) (zv_dg 2 j))
  | 92 => zh_b (zr_rv (zh_e w 229) (zh_e w 230) (zh_e w 231) (zh_e w 233) (zh_e w 234) (zh_e w 256) (zh_e w 257) (zh_e w 224) (zv_dg 0 j) (zv_dg 1 j - 1) (zv_dg 2 j) (zv_dg 3 j))
  | 93 => zh_b (zr_op (zn_l w 173) (zn_l w 174) (zh_e w 256) (zh_e w 257) (j % 4294967296))
  | 94 => zh_b (zr_nf (zh_e w 233) (zv_dg 0 j) (zv_dg 1 j) (zv_dg 2 j))
  | 95 => zy_c (zh_e w 177) (40000 * j) (zh_e w 178 j).toNat
  | 96 => zh_b (zy_d (zh_e w 177) (40000 * zv_dg 0 j) (zh_e w 178 (zv_dg 0 j)) (zv_dg 1 j))
  | 97 => zh_b (zy_wb 9 (j / 18446744073709551616) (j % 18446744073709551616) = true)
  | 98 => if j % 256 = 46 then 1 else 0
  | 99 => zn_op 7 (zn_op 4 (zn_op 6 (if zv_dg 1 j < 8 then zn_l w 173 (zv_dg 0 j) else zn_l w 174 (zv_dg 0 j)) (8 * (zv_dg 1 j % 8))) 127) 0
  | _ => 0
def zv_HRh (t : Nat) : List Nat := match t with
  | 0 => [286]
  | 1 => [287]
  | 2 => [286, 287]
  | 3 => [286, 287]
  | 4 => [292, 293]
  | 5 => [186]
  | 6 => [311]
  | 7 => [279]
  | 8 => [182, 179]
  | 9 => [182]
  | 15 => [61]
  | 16 => [54]
  | 17 => [41, 42, 44]
  | 18 => [44]
  | 19 => [60]
  | 20 => [60]
  | 21 => [78]
  | 22 => [95]
  | 23 => [112]
  | 24 => [129]
  | 25 => [146]
  | 26 => [77]
  | 27 => [94]
  | 28 => [111]
  | 29 => [128]
  | 30 => [145]
  | 31 => [61, 20, 22]
  | 32 => [78, 20, 22]
  | 33 => [95, 20, 22]
  | 34 => [112, 20, 22]
  | 35 => [129, 20, 22]
  | 36 => [146, 20, 22]
  | 37 => [61, 62, 64]
  | 38 => [78, 79, 81]
  | 39 => [95, 96, 98]
  | 40 => [112, 113, 115]
  | 41 => [129, 130, 132]
  | 42 => [146, 147, 149]
  | 43 => [61, 20, 22, 62, 64]
  | 44 => [61]
  | 45 => [61, 62, 64]
  | 46 => [54, 55, 62, 79, 96, 113, 130, 147]
  | 47 => [54, 62, 79, 96, 113, 130, 147, 64, 81, 98, 115, 132, 149]
  | 48 => [62, 79, 96, 113, 130, 147]
  | 49 => [7]
  | 51 => [61, 78, 95, 112, 129, 146]
  | 52 => [57, 54, 55, 61, 78, 95, 112, 129, 146, 62, 79, 96, 113, 130, 147]
  | 53 => [61, 78, 95, 112, 129, 146]
  | 54 => [54, 55]
  | 55 => [54, 62, 79, 96, 113, 130, 147]
  | 56 => [57, 54, 55, 61, 78, 95, 112, 129, 146, 62, 79, 96, 113, 130, 147]
  | 60 => [208, 207]
  | 61 => [208, 207]
  | 62 => [208]
  | 63 => [208, 207]
  | 64 => [208]
  | 65 => [234]
  | 70 => [208, 209, 210, 211, 212, 207, 224, 229, 230, 250, 240, 241, 242, 253, 227, 226]
  | 71 => [224]
  | 72 => [229, 230]
  | 73 => [208, 211, 207, 224, 250]
  | 74 => [208, 209, 210, 211, 212, 207, 224, 229, 230]
  | 75 => [228, 255]
  | 76 => [231, 248, 239, 222]
  | 77 => [222]
  | 78 => [231, 248, 239, 222]
  | 79 => [231]
  | 80 => [231]
  | 81 => []
  | 82 => [173]
  | 83 => [174]
  | 84 => [173, 174, 175]
  | 85 => [173, 174, 175]
  | 86 => []
  | 87 => [173, 174]
  | 88 => []
  | 89 => [173, 174]
  | 90 => [173, 174, 221, 223]
  | 91 => [173, 174, 229, 239, 247, 233]
  | 92 => [229, 230, 231, 233, 234, 256, 257, 224]
  | 93 => [173, 174, 256, 257]
  | 94 => [233]
  | 95 => [177, 178]
  | 96 => [177, 178]
  | 97 => []
  | 98 => []
  | 99 => [173, 174]
  | _ => []
theorem zh_f_g {w w' : zz_W} {r : Nat} (h : zz_g w' r = zz_g w r) : zh_f w' r = zh_f w r := by
  funext i
  unfold zh_f zk_el
  rw [h]
theorem zh_l_g {w w' : zz_W} {r : Nat} (h : zz_g w' r = zz_g w r) : zk_lel w' r = zk_lel w r := by
  funext i
  unfold zk_lel
  rw [h]
theorem zh_e_g {w w' : zz_W} {r : Nat} (h : zz_g w' r = zz_g w r) : zh_e w' r = zh_e w r := by
  funext i
  unfold zh_e zk_el
  rw [h]
theorem zn_l_g {w w' : zz_W} {r : Nat} (h : zz_g w' r = zz_g w r) : zn_l w' r = zn_l w r := by
  funext i
  unfold zn_l
  rw [zh_l_g h]
theorem zg_R_g {w w' : zz_W} {r : Nat} (h0 : zz_g w' r = zz_g w r) (h1 : zz_g w' (r + 17) = zz_g w (r + 17)) (h2 : zz_g w' (r + 34) = zz_g w (r + 34)) (h3 : zz_g w' (r + 51) = zz_g w (r + 51)) (h4 : zz_g w' (r + 68) = zz_g w (r + 68)) (h5 : zz_g w' (r + 85) = zz_g w (r + 85)) : zg_R w' r = zg_R w r := by
  funext v
  unfold zg_R
  rw [zh_e_g h0, zh_e_g h1, zh_e_g h2, zh_e_g h3, zh_e_g h4, zh_e_g h5]
theorem zv_Hh_g {t : Nat} {w w' : zz_W} {j : Int} (h : ∀ r ∈ zv_HRh t, zz_g w' r = zz_g w r) : zv_Hh t w' j = zv_Hh t w j := by
  unfold zv_Hh
  unfold zv_HRh at h
  split
  · rw [zh_f_g (h 286 List.mem_cons_self)]
  · rw [zh_f_g (h 287 List.mem_cons_self)]
  · rw [zh_f_g (h 286 List.mem_cons_self), zh_f_g (h 287 (List.mem_cons_of_mem _ List.mem_cons_self))]
  · rw [zh_f_g (h 286 List.mem_cons_self), zh_f_g (h 287 (List.mem_cons_of_mem _ List.mem_cons_self))]
  · rw [zh_f_g (h 292 List.mem_cons_self), zh_f_g (h 293 (List.mem_cons_of_mem _ List.mem_cons_self))]
  · rw [zh_f_g (h 186 List.mem_cons_self)]
  · rw [zh_f_g (h 311 List.mem_cons_self)]
  · rw [zh_f_g (h 279 List.mem_cons_self)]
  · rw [zh_f_g (h 182 List.mem_cons_self), zh_f_g (h 179 (List.mem_cons_of_mem _ List.mem_cons_self))]
  · rw [zh_f_g (h 182 List.mem_cons_self)]
  · rfl
  · rfl
  · rfl
  · rfl
  · rfl
  · rw [zh_f_g (h 61 List.mem_cons_self)]
  · rw [zh_f_g (h 54 List.mem_cons_self)]
  · rw [zh_f_g (h 41 List.mem_cons_self), zh_f_g (h 42 (List.mem_cons_of_mem _ List.mem_cons_self)), zh_l_g (h 44 (List.mem_cons_of_mem _ (List.mem_cons_of_mem _ List.mem_cons_self)))]
  · rw [zh_l_g (h 44 List.mem_cons_self)]
  · rw [zh_f_g (h 60 List.mem_cons_self)]
  · rw [zh_f_g (h 60 List.mem_cons_self)]
  · rw [zh_f_g (h 78 List.mem_cons_self)]
  · rw [zh_f_g (h 95 List.mem_cons_self)]
  · rw [zh_f_g (h 112 List.mem_cons_self)]
  · rw [zh_f_g (h 129 List.mem_cons_self)]
  · rw [zh_f_g (h 146 List.mem_cons_self)]
  · rw [zh_f_g (h 77 List.mem_cons_self)]
  · rw [zh_f_g (h 94 List.mem_cons_self)]
  · rw [zh_f_g (h 111 List.mem_cons_self)]
  · rw [zh_f_g (h 128 List.mem_cons_self)]
  · rw [zh_f_g (h 145 List.mem_cons_self)]
  · rw [zh_e_g (h 61 List.mem_cons_self), zh_e_g (h 20 (List.mem_cons_of_mem _ List.mem_cons_self)), zh_e_g (h 22 (List.mem_cons_of_mem _ (List.mem_cons_of_mem _ List.mem_cons_self)))]
  · rw [zh_e_g (h 78 List.mem_cons_self), zh_e_g (h 20 (List.mem_cons_of_mem _ List.mem_cons_self)), zh_e_g (h 22 (List.mem_cons_of_mem _ (List.mem_cons_of_mem _ List.mem_cons_self)))]
  · rw [zh_e_g (h 95 List.mem_cons_self), zh_e_g (h 20 (List.mem_cons_of_mem _ List.mem_cons_self)), zh_e_g (h 22 (List.mem_cons_of_mem _ (List.mem_cons_of_mem _ List.mem_cons_self)))]
  · rw [zh_e_g (h 112 List.mem_cons_self), zh_e_g (h 20 (List.mem_cons_of_mem _ List.mem_cons_self)), zh_e_g (h 22 (List.mem_cons_of_mem _ (List.mem_cons_of_mem _ List.mem_cons_self)))]
  · rw [zh_e_g (h 129 List.mem_cons_self), zh_e_g (h 20 (List.mem_cons_of_mem _ List.mem_cons_self)), zh_e_g (h 22 (List.mem_cons_of_mem _ (List.mem_cons_of_mem _ List.mem_cons_self)))]
  · rw [zh_e_g (h 146 List.mem_cons_self), zh_e_g (h 20 (List.mem_cons_of_mem _ List.mem_cons_self)), zh_e_g (h 22 (List.mem_cons_of_mem _ (List.mem_cons_of_mem _ List.mem_cons_self)))]
  · rw [zh_e_g (h 61 List.mem_cons_self), zh_e_g (h 62 (List.mem_cons_of_mem _ List.mem_cons_self)), zh_e_g (h 64 (List.mem_cons_of_mem _ (List.mem_cons_of_mem _ List.mem_cons_self)))]
  · rw [zh_e_g (h 78 List.mem_cons_self), zh_e_g (h 79 (List.mem_cons_of_mem _ List.mem_cons_self)), zh_e_g (h 81 (List.mem_cons_of_mem _ (List.mem_cons_of_mem _ List.mem_cons_self)))]
  · rw [zh_e_g (h 95 List.mem_cons_self), zh_e_g (h 96 (List.mem_cons_of_mem _ List.mem_cons_self)), zh_e_g (h 98 (List.mem_cons_of_mem _ (List.mem_cons_of_mem _ List.mem_cons_self)))]
  · rw [zh_e_g (h 112 List.mem_cons_self), zh_e_g (h 113 (List.mem_cons_of_mem _ List.mem_cons_self)), zh_e_g (h 115 (List.mem_cons_of_mem _ (List.mem_cons_of_mem _ List.mem_cons_self)))]
  · rw [zh_e_g (h 129 List.mem_cons_self), zh_e_g (h 130 (List.mem_cons_of_mem _ List.mem_cons_self)), zh_e_g (h 132 (List.mem_cons_of_mem _ (List.mem_cons_of_mem _ List.mem_cons_self)))]
  · rw [zh_e_g (h 146 List.mem_cons_self), zh_e_g (h 147 (List.mem_cons_of_mem _ List.mem_cons_self)), zh_e_g (h 149 (List.mem_cons_of_mem _ (List.mem_cons_of_mem _ List.mem_cons_self)))]
  · rw [zh_e_g (h 61 List.mem_cons_self), zh_e_g (h 20 (List.mem_cons_of_mem _ List.mem_cons_self)), zh_e_g (h 22 (List.mem_cons_of_mem _ (List.mem_cons_of_mem _ List.mem_cons_self))), zh_e_g (h 62 (List.mem_cons_of_mem _ (List.mem_cons_of_mem _ (List.mem_cons_of_mem _ List.mem_cons_self)))), zh_e_g (h 64 (List.mem_cons_of_mem _ (List.mem_cons_of_mem _ (List.mem_cons_of_mem _ (List.mem_cons_of_mem _ List.mem_cons_self)))))]
  · rw [zh_e_g (h 61 List.mem_cons_self)]
  · rw [zh_e_g (h 61 List.mem_cons_self), zh_e_g (h 62 (List.mem_cons_of_mem _ List.mem_cons_self)), zh_e_g (h 64 (List.mem_cons_of_mem _ (List.mem_cons_of_mem _ List.mem_cons_self)))]
  · rw [zh_e_g (h 54 List.mem_cons_self), zh_e_g (h 55 (List.mem_cons_of_mem _ List.mem_cons_self)), zg_R_g (h 62 (List.mem_cons_of_mem _ (List.mem_cons_of_mem _ List.mem_cons_self))) (h 79 (List.mem_cons_of_mem _ (List.mem_cons_of_mem _ (List.mem_cons_of_mem _ List.mem_cons_self)))) (h 96 (List.mem_cons_of_mem _ (List.mem_cons_of_mem _ (List.mem_cons_of_mem _ (List.mem_cons_of_mem _ List.mem_cons_self))))) (h 113 (List.mem_cons_of_mem _ (List.mem_cons_of_mem _ (List.mem_cons_of_mem _ (List.mem_cons_of_mem _ (List.mem_cons_of_mem _ List.mem_cons_self)))))) (h 130 (List.mem_cons_of_mem _ (List.mem_cons_of_mem _ (List.mem_cons_of_mem _ (List.mem_cons_of_mem _ (List.mem_cons_of_mem _ (List.mem_cons_of_mem _ List.mem_cons_self))))))) (h 147 (List.mem_cons_of_mem _ (List.mem_cons_of_mem _ (List.mem_cons_of_mem _ (List.mem_cons_of_mem _ (List.mem_cons_of_mem _ (List.mem_cons_of_mem _ (List.mem_cons_of_mem _ List.mem_cons_self))))))))]
  · rw [zh_e_g (h 54 List.mem_cons_self), zg_R_g (h 62 (List.mem_cons_of_mem _ List.mem_cons_self)) (h 79 (List.mem_cons_of_mem _ (List.mem_cons_of_mem _ List.mem_cons_self))) (h 96 (List.mem_cons_of_mem _ (List.mem_cons_of_mem _ (List.mem_cons_of_mem _ List.mem_cons_self)))) (h 113 (List.mem_cons_of_mem _ (List.mem_cons_of_mem _ (List.mem_cons_of_mem _ (List.mem_cons_of_mem _ List.mem_cons_self))))) (h 130 (List.mem_cons_of_mem _ (List.mem_cons_of_mem _ (List.mem_cons_of_mem _ (List.mem_cons_of_mem _ (List.mem_cons_of_mem _ List.mem_cons_self)))))) (h 147 (List.mem_cons_of_mem _ (List.mem_cons_of_mem _ (List.mem_cons_of_mem _ (List.mem_cons_of_mem _ (List.mem_cons_of_mem _ (List.mem_cons_of_mem _ List.mem_cons_self))))))), zg_R_g (h 64 (List.mem_cons_of_mem _ (List.mem_cons_of_mem _ (List.mem_cons_of_mem _ (List.mem_cons_of_mem _ (List.mem_cons_of_mem _ (List.mem_cons_of_mem _ (List.mem_cons_of_mem _ List.mem_cons_self)))))))) (h 81 (List.mem_cons_of_mem _ (List.mem_cons_of_mem _ (List.mem_cons_of_mem _ (List.mem_cons_of_mem _ (List.mem_cons_of_mem _ (List.mem_cons_of_mem _ (List.mem_cons_of_mem _ (List.mem_cons_of_mem _ List.mem_cons_self))))))))) (h 98 (List.mem_cons_of_mem _ (List.mem_cons_of_mem _ (List.mem_cons_of_mem _ (List.mem_cons_of_mem _ (List.mem_cons_of_mem _ (List.mem_cons_of_mem _ (List.mem_cons_of_mem _ (List.mem_cons_of_mem _ (List.mem_cons_of_mem _ List.mem_cons_self)))))))))) (h 115 (List.mem_cons_of_mem _ (List.mem_cons_of_mem _ (List.mem_cons_of_mem _ (List.mem_cons_of_mem _ (List.mem_cons_of_mem _ (List.mem_cons_of_mem _ (List.mem_cons_of_mem _ (List.mem_cons_of_mem _ (List.mem_cons_of_mem _ (List.mem_cons_of_mem _ List.mem_cons_self))))))))))) (h 132 (List.mem_cons_of_mem _ (List.mem_cons_of_mem _ (List.mem_cons_of_mem _ (List.mem_cons_of_mem _ (List.mem_cons_of_mem _ (List.mem_cons_of_mem _ (List.mem_cons_of_mem _ (List.mem_cons_of_mem _ (List.mem_cons_of_mem _ (List.mem_cons_of_mem _ (List.mem_cons_of_mem _ List.mem_cons_self)))))))))))) (h 149 (List.mem_cons_of_mem _ (List.mem_cons_of_mem _ (List.mem_cons_of_mem _ (List.mem_cons_of_mem _ (List.mem_cons_of_mem _ (List.mem_cons_of_mem _ (List.mem_cons_of_mem _ (List.mem_cons_of_mem _ (List.mem_cons_of_mem _ (List.mem_cons_of_mem _ (List.mem_cons_of_mem _ (List.mem_cons_of_mem _ List.mem_cons_self)))))))))))))]
  · rw [zg_R_g (h 62 List.mem_cons_self) (h 79 (List.mem_cons_of_mem _ List.mem_cons_self)) (h 96 (List.mem_cons_of_mem _ (List.mem_cons_of_mem _ List.mem_cons_self))) (h 113 (List.mem_cons_of_mem _ (List.mem_cons_of_mem _ (List.mem_cons_of_mem _ List.mem_cons_self)))) (h 130 (List.mem_cons_of_mem _ (List.mem_cons_of_mem _ (List.mem_cons_of_mem _ (List.mem_cons_of_mem _ List.mem_cons_self))))) (h 147 (List.mem_cons_of_mem _ (List.mem_cons_of_mem _ (List.mem_cons_of_mem _ (List.mem_cons_of_mem _ (List.mem_cons_of_mem _ List.mem_cons_self))))))]
  · rw [zh_e_g (h 7 List.mem_cons_self)]
  · rfl
  · rw [zg_R_g (h 61 List.mem_cons_self) (h 78 (List.mem_cons_of_mem _ List.mem_cons_self)) (h 95 (List.mem_cons_of_mem _ (List.mem_cons_of_mem _ List.mem_cons_self))) (h 112 (List.mem_cons_of_mem _ (List.mem_cons_of_mem _ (List.mem_cons_of_mem _ List.mem_cons_self)))) (h 129 (List.mem_cons_of_mem _ (List.mem_cons_of_mem _ (List.mem_cons_of_mem _ (List.mem_cons_of_mem _ List.mem_cons_self))))) (h 146 (List.mem_cons_of_mem _ (List.mem_cons_of_mem _ (List.mem_cons_of_mem _ (List.mem_cons_of_mem _ (List.mem_cons_of_mem _ List.mem_cons_self))))))]
  · rw [zh_e_g (h 54 (List.mem_cons_of_mem _ List.mem_cons_self)), zh_e_g (h 55 (List.mem_cons_of_mem _ (List.mem_cons_of_mem _ List.mem_cons_self))), zh_e_g (h 57 List.mem_cons_self), zg_R_g (h 61 (List.mem_cons_of_mem _ (List.mem_cons_of_mem _ (List.mem_cons_of_mem _ List.mem_cons_self)))) (h 78 (List.mem_cons_of_mem _ (List.mem_cons_of_mem _ (List.mem_cons_of_mem _ (List.mem_cons_of_mem _ List.mem_cons_self))))) (h 95 (List.mem_cons_of_mem _ (List.mem_cons_of_mem _ (List.mem_cons_of_mem _ (List.mem_cons_of_mem _ (List.mem_cons_of_mem _ List.mem_cons_self)))))) (h 112 (List.mem_cons_of_mem _ (List.mem_cons_of_mem _ (List.mem_cons_of_mem _ (List.mem_cons_of_mem _ (List.mem_cons_of_mem _ (List.mem_cons_of_mem _ List.mem_cons_self))))))) (h 129 (List.mem_cons_of_mem _ (List.mem_cons_of_mem _ (List.mem_cons_of_mem _ (List.mem_cons_of_mem _ (List.mem_cons_of_mem _ (List.mem_cons_of_mem _ (List.mem_cons_of_mem _ List.mem_cons_self)))))))) (h 146 (List.mem_cons_of_mem _ (List.mem_cons_of_mem _ (List.mem_cons_of_mem _ (List.mem_cons_of_mem _ (List.mem_cons_of_mem _ (List.mem_cons_of_mem _ (List.mem_cons_of_mem _ (List.mem_cons_of_mem _ List.mem_cons_self))))))))), zg_R_g (h 62 (List.mem_cons_of_mem _ (List.mem_cons_of_mem _ (List.mem_cons_of_mem _ (List.mem_cons_of_mem _ (List.mem_cons_of_mem _ (List.mem_cons_of_mem _ (List.mem_cons_of_mem _ (List.mem_cons_of_mem _ (List.mem_cons_of_mem _ List.mem_cons_self)))))))))) (h 79 (List.mem_cons_of_mem _ (List.mem_cons_of_mem _ (List.mem_cons_of_mem _ (List.mem_cons_of_mem _ (List.mem_cons_of_mem _ (List.mem_cons_of_mem _ (List.mem_cons_of_mem _ (List.mem_cons_of_mem _ (List.mem_cons_of_mem _ (List.mem_cons_of_mem _ List.mem_cons_self))))))))))) (h 96 (List.mem_cons_of_mem _ (List.mem_cons_of_mem _ (List.mem_cons_of_mem _ (List.mem_cons_of_mem _ (List.mem_cons_of_mem _ (List.mem_cons_of_mem _ (List.mem_cons_of_mem _ (List.mem_cons_of_mem _ (List.mem_cons_of_mem _ (List.mem_cons_of_mem _ (List.mem_cons_of_mem _ List.mem_cons_self)))))))))))) (h 113 (List.mem_cons_of_mem _ (List.mem_cons_of_mem _ (List.mem_cons_of_mem _ (List.mem_cons_of_mem _ (List.mem_cons_of_mem _ (List.mem_cons_of_mem _ (List.mem_cons_of_mem _ (List.mem_cons_of_mem _ (List.mem_cons_of_mem _ (List.mem_cons_of_mem _ (List.mem_cons_of_mem _ (List.mem_cons_of_mem _ List.mem_cons_self))))))))))))) (h 130 (List.mem_cons_of_mem _ (List.mem_cons_of_mem _ (List.mem_cons_of_mem _ (List.mem_cons_of_mem _ (List.mem_cons_of_mem _ (List.mem_cons_of_mem _ (List.mem_cons_of_mem _ (List.mem_cons_of_mem _ (List.mem_cons_of_mem _ (List.mem_cons_of_mem _ (List.mem_cons_of_mem _ (List.mem_cons_of_mem _ (List.mem_cons_of_mem _ List.mem_cons_self)))))))))))))) (h 147 (List.mem_cons_of_mem _ (List.mem_cons_of_mem _ (List.mem_cons_of_mem _ (List.mem_cons_of_mem _ (List.mem_cons_of_mem _ (List.mem_cons_of_mem _ (List.mem_cons_of_mem _ (List.mem_cons_of_mem _ (List.mem_cons_of_mem _ (List.mem_cons_of_mem _ (List.mem_cons_of_mem _ (List.mem_cons_of_mem _ (List.mem_cons_of_mem _ (List.mem_cons_of_mem _ List.mem_cons_self)))))))))))))))]
  · rw [zg_R_g (h 61 List.mem_cons_self) (h 78 (List.mem_cons_of_mem _ List.mem_cons_self)) (h 95 (List.mem_cons_of_mem _ (List.mem_cons_of_mem _ List.mem_cons_self))) (h 112 (List.mem_cons_of_mem _ (List.mem_cons_of_mem _ (List.mem_cons_of_mem _ List.mem_cons_self)))) (h 129 (List.mem_cons_of_mem _ (List.mem_cons_of_mem _ (List.mem_cons_of_mem _ (List.mem_cons_of_mem _ List.mem_cons_self))))) (h 146 (List.mem_cons_of_mem _ (List.mem_cons_of_mem _ (List.mem_cons_of_mem _ (List.mem_cons_of_mem _ (List.mem_cons_of_mem _ List.mem_cons_self))))))]
  · rw [zh_e_g (h 55 (List.mem_cons_of_mem _ List.mem_cons_self)), zh_e_g (h 54 List.mem_cons_self)]
  · rw [zh_e_g (h 54 List.mem_cons_self), zg_R_g (h 62 (List.mem_cons_of_mem _ List.mem_cons_self)) (h 79 (List.mem_cons_of_mem _ (List.mem_cons_of_mem _ List.mem_cons_self))) (h 96 (List.mem_cons_of_mem _ (List.mem_cons_of_mem _ (List.mem_cons_of_mem _ List.mem_cons_self)))) (h 113 (List.mem_cons_of_mem _ (List.mem_cons_of_mem _ (List.mem_cons_of_mem _ (List.mem_cons_of_mem _ List.mem_cons_self))))) (h 130 (List.mem_cons_of_mem _ (List.mem_cons_of_mem _ (List.mem_cons_of_mem _ (List.mem_cons_of_mem _ (List.mem_cons_of_mem _ List.mem_cons_self)))))) (h 147 (List.mem_cons_of_mem _ (List.mem_cons_of_mem _ (List.mem_cons_of_mem _ (List.mem_cons_of_mem _ (List.mem_cons_of_mem _ (List.mem_cons_of_mem _ List.mem_cons_self)))))))]
  · rw [zh_e_g (h 54 (List.mem_cons_of_mem _ List.mem_cons_self)), zh_e_g (h 55 (List.mem_cons_of_mem _ (List.mem_cons_of_mem _ List.mem_cons_self))), zh_e_g (h 57 List.mem_cons_self), zg_R_g (h 61 (List.mem_cons_of_mem _ (List.mem_cons_of_mem _ (List.mem_cons_of_mem _ List.mem_cons_self)))) (h 78 (List.mem_cons_of_mem _ (List.mem_cons_of_mem _ (List.mem_cons_of_mem _ (List.mem_cons_of_mem _ List.mem_cons_self))))) (h 95 (List.mem_cons_of_mem _ (List.mem_cons_of_mem _ (List.mem_cons_of_mem _ (List.mem_cons_of_mem _ (List.mem_cons_of_mem _ List.mem_cons_self)))))) (h 112 (List.mem_cons_of_mem _ (List.mem_cons_of_mem _ (List.mem_cons_of_mem _ (List.mem_cons_of_mem _ (List.mem_cons_of_mem _ (List.mem_cons_of_mem _ List.mem_cons_self))))))) (h 129 (List.mem_cons_of_mem _ (List.mem_cons_of_mem _ (List.mem_cons_of_mem _ (List.mem_cons_of_mem _ (List.mem_cons_of_mem _ (List.mem_cons_of_mem _ (List.mem_cons_of_mem _ List.mem_cons_self)))))))) (h 146 (List.mem_cons_of_mem _ (List.mem_cons_of_mem _ (List.mem_cons_of_mem _ (List.mem_cons_of_mem _ (List.mem_cons_of_mem _ (List.mem_cons_of_mem _ (List.mem_cons_of_mem _ (List.mem_cons_of_mem _ List.mem_cons_self))))))))), zg_R_g (h 62 (List.mem_cons_of_mem _ (List.mem_cons_of_mem _ (List.mem_cons_of_mem _ (List.mem_cons_of_mem _ (List.mem_cons_of_mem _ (List.mem_cons_of_mem _ (List.mem_cons_of_mem _ (List.mem_cons_of_mem _ (List.mem_cons_of_mem _ List.mem_cons_self)))))))))) (h 79 (List.mem_cons_of_mem _ (List.mem_cons_of_mem _ (List.mem_cons_of_mem _ (List.mem_cons_of_mem _ (List.mem_cons_of_mem _ (List.mem_cons_of_mem _ (List.mem_cons_of_mem _ (List.mem_cons_of_mem _ (List.mem_cons_of_mem _ (List.mem_cons_of_mem _ List.mem_cons_self))))))))))) (h 96 (List.mem_cons_of_mem _ (List.mem_cons_of_mem _ (List.mem_cons_of_mem _ (List.mem_cons_of_mem _ (List.mem_cons_of_mem _ (List.mem_cons_of_mem _ (List.mem_cons_of_mem _ (List.mem_cons_of_mem _ (List.mem_cons_of_mem _ (List.mem_cons_of_mem _ (List.mem_cons_of_mem _ List.mem_cons_self)))))))))))) (h 113 (List.mem_cons_of_mem _ (List.mem_cons_of_mem _ (List.mem_cons_of_mem _ (List.mem_cons_of_mem _ (List.mem_cons_of_mem _ (List.mem_cons_of_mem _ (List.mem_cons_of_mem _ (List.mem_cons_of_mem _ (List.mem_cons_of_mem _ (List.mem_cons_of_mem _ (List.mem_cons_of_mem _ (List.mem_cons_of_mem _ List.mem_cons_self))))))))))))) (h 130 (List.mem_cons_of_mem _ (List.mem_cons_of_mem _ (List.mem_cons_of_mem _ (List.mem_cons_of_mem _ (List.mem_cons_of_mem _ (List.mem_cons_of_mem _ (List.mem_cons_of_mem _ (List.mem_cons_of_mem _ (List.mem_cons_of_mem _ (List.mem_cons_of_mem _ (List.mem_cons_of_mem _ (List.mem_cons_of_mem _ (List.mem_cons_of_mem _ List.mem_cons_self)))))))))))))) (h 147 (List.mem_cons_of_mem _ (List.mem_cons_of_mem _ (List.mem_cons_of_mem _ (List.mem_cons_of_mem _ (List.mem_cons_of_mem _ (List.mem_cons_of_mem _ (List.mem_cons_of_mem _ (List.mem_cons_of_mem _ (List.mem_cons_of_mem _ (List.mem_cons_of_mem _ (List.mem_cons_of_mem _ (List.mem_cons_of_mem _ (List.mem_cons_of_mem _ (List.mem_cons_of_mem _ List.mem_cons_self)))))))))))))))]
  · rfl
  · rw [zh_e_g (h 208 List.mem_cons_self), zh_e_g (h 207 (List.mem_cons_of_mem _ List.mem_cons_self))]
  · rw [zh_e_g (h 208 List.mem_cons_self), zh_e_g (h 207 (List.mem_cons_of_mem _ List.mem_cons_self))]
  · rw [zh_e_g (h 208 List.mem_cons_self)]
  · rw [zh_e_g (h 208 List.mem_cons_self), zh_e_g (h 207 (List.mem_cons_of_mem _ List.mem_cons_self))]
  · rw [zh_e_g (h 208 List.mem_cons_self)]
  · rw [zh_e_g (h 234 List.mem_cons_self)]
  · unfold zs_ps zs_S; rw [zh_e_g (h 208 List.mem_cons_self), zh_e_g (h 209 (List.mem_cons_of_mem _ List.mem_cons_self)), zh_e_g (h 210 (List.mem_cons_of_mem _ (List.mem_cons_of_mem _ List.mem_cons_self))), zh_e_g (h 211 (List.mem_cons_of_mem _ (List.mem_cons_of_mem _ (List.mem_cons_of_mem _ List.mem_cons_self)))), zh_e_g (h 212 (List.mem_cons_of_mem _ (List.mem_cons_of_mem _ (List.mem_cons_of_mem _ (List.mem_cons_of_mem _ List.mem_cons_self))))), zh_e_g (h 207 (List.mem_cons_of_mem _ (List.mem_cons_of_mem _ (List.mem_cons_of_mem _ (List.mem_cons_of_mem _ (List.mem_cons_of_mem _ List.mem_cons_self)))))), zh_e_g (h 224 (List.mem_cons_of_mem _ (List.mem_cons_of_mem _ (List.mem_cons_of_mem _ (List.mem_cons_of_mem _ (List.mem_cons_of_mem _ (List.mem_cons_of_mem _ List.mem_cons_self))))))), zh_e_g (h 229 (List.mem_cons_of_mem _ (List.mem_cons_of_mem _ (List.mem_cons_of_mem _ (List.mem_cons_of_mem _ (List.mem_cons_of_mem _ (List.mem_cons_of_mem _ (List.mem_cons_of_mem _ List.mem_cons_self)))))))), zh_e_g (h 230 (List.mem_cons_of_mem _ (List.mem_cons_of_mem _ (List.mem_cons_of_mem _ (List.mem_cons_of_mem _ (List.mem_cons_of_mem _ (List.mem_cons_of_mem _ (List.mem_cons_of_mem _ (List.mem_cons_of_mem _ List.mem_cons_self))))))))), zh_e_g (h 250 (List.mem_cons_of_mem _ (List.mem_cons_of_mem _ (List.mem_cons_of_mem _ (List.mem_cons_of_mem _ (List.mem_cons_of_mem _ (List.mem_cons_of_mem _ (List.mem_cons_of_mem _ (List.mem_cons_of_mem _ (List.mem_cons_of_mem _ List.mem_cons_self)))))))))), zh_e_g (h 240 (List.mem_cons_of_mem _ (List.mem_cons_of_mem _ (List.mem_cons_of_mem _ (List.mem_cons_of_mem _ (List.mem_cons_of_mem _ (List.mem_cons_of_mem _ (List.mem_cons_of_mem _ (List.mem_cons_of_mem _ (List.mem_cons_of_mem _ (List.mem_cons_of_mem _ List.mem_cons_self))))))))))), zh_e_g (h 241 (List.mem_cons_of_mem _ (List.mem_cons_of_mem _ (List.mem_cons_of_mem _ (List.mem_cons_of_mem _ (List.mem_cons_of_mem _ (List.mem_cons_of_mem _ (List.mem_cons_of_mem _ (List.mem_cons_of_mem _ (List.mem_cons_of_mem _ (List.mem_cons_of_mem _ (List.mem_cons_of_mem _ List.mem_cons_self)))))))))))), zh_e_g (h 242 (List.mem_cons_of_mem _ (List.mem_cons_of_mem _ (List.mem_cons_of_mem _ (List.mem_cons_of_mem _ (List.mem_cons_of_mem _ (List.mem_cons_of_mem _ (List.mem_cons_of_mem _ (List.mem_cons_of_mem _ (List.mem_cons_of_mem _ (List.mem_cons_of_mem _ (List.mem_cons_of_mem _ (List.mem_cons_of_mem _ List.mem_cons_self))))))))))))), zh_e_g (h 253 (List.mem_cons_of_mem _ (List.mem_cons_of_mem _ (List.mem_cons_of_mem _ (List.mem_cons_of_mem _ (List.mem_cons_of_mem _ (List.mem_cons_of_mem _ (List.mem_cons_of_mem _ (List.mem_cons_of_mem _ (List.mem_cons_of_mem _ (List.mem_cons_of_mem _ (List.mem_cons_of_mem _ (List.mem_cons_of_mem _ (List.mem_cons_of_mem _ List.mem_cons_self)))))))))))))), zh_e_g (h 227 (List.mem_cons_of_mem _ (List.mem_cons_of_mem _ (List.mem_cons_of_mem _ (List.mem_cons_of_mem _ (List.mem_cons_of_mem _ (List.mem_cons_of_mem _ (List.mem_cons_of_mem _ (List.mem_cons_of_mem _ (List.mem_cons_of_mem _ (List.mem_cons_of_mem _ (List.mem_cons_of_mem _ (List.mem_cons_of_mem _ (List.mem_cons_of_mem _ (List.mem_cons_of_mem _ List.mem_cons_self))))))))))))))), zh_e_g (h 226 (List.mem_cons_of_mem _ (List.mem_cons_of_mem _ (List.mem_cons_of_mem _ (List.mem_cons_of_mem _ (List.mem_cons_of_mem _ (List.mem_cons_of_mem _ (List.mem_cons_of_mem _ (List.mem_cons_of_mem _ (List.mem_cons_of_mem _ (List.mem_cons_of_mem _ (List.mem_cons_of_mem _ (List.mem_cons_of_mem _ (List.mem_cons_of_mem _ (List.mem_cons_of_mem _ (List.mem_cons_of_mem _ List.mem_cons_self))))))))))))))))]
  · rw [zh_e_g (h 224 List.mem_cons_self)]
  · rw [zh_e_g (h 229 List.mem_cons_self), zh_e_g (h 230 (List.mem_cons_of_mem _ List.mem_cons_self))]
  · unfold zs_T; rw [zh_e_g (h 208 List.mem_cons_self), zh_e_g (h 211 (List.mem_cons_of_mem _ List.mem_cons_self)), zh_e_g (h 207 (List.mem_cons_of_mem _ (List.mem_cons_of_mem _ List.mem_cons_self))), zh_e_g (h 224 (List.mem_cons_of_mem _ (List.mem_cons_of_mem _ (List.mem_cons_of_mem _ List.mem_cons_self)))), zh_e_g (h 250 (List.mem_cons_of_mem _ (List.mem_cons_of_mem _ (List.mem_cons_of_mem _ (List.mem_cons_of_mem _ List.mem_cons_self)))))]
  · unfold zs_S; rw [zh_e_g (h 208 List.mem_cons_self), zh_e_g (h 209 (List.mem_cons_of_mem _ List.mem_cons_self)), zh_e_g (h 210 (List.mem_cons_of_mem _ (List.mem_cons_of_mem _ List.mem_cons_self))), zh_e_g (h 211 (List.mem_cons_of_mem _ (List.mem_cons_of_mem _ (List.mem_cons_of_mem _ List.mem_cons_self)))), zh_e_g (h 212 (List.mem_cons_of_mem _ (List.mem_cons_of_mem _ (List.mem_cons_of_mem _ (List.mem_cons_of_mem _ List.mem_cons_self))))), zh_e_g (h 207 (List.mem_cons_of_mem _ (List.mem_cons_of_mem _ (List.mem_cons_of_mem _ (List.mem_cons_of_mem _ (List.mem_cons_of_mem _ List.mem_cons_self)))))), zh_e_g (h 224 (List.mem_cons_of_mem _ (List.mem_cons_of_mem _ (List.mem_cons_of_mem _ (List.mem_cons_of_mem _ (List.mem_cons_of_mem _ (List.mem_cons_of_mem _ List.mem_cons_self))))))), zh_e_g (h 229 (List.mem_cons_of_mem _ (List.mem_cons_of_mem _ (List.mem_cons_of_mem _ (List.mem_cons_of_mem _ (List.mem_cons_of_mem _ (List.mem_cons_of_mem _ (List.mem_cons_of_mem _ List.mem_cons_self)))))))), zh_e_g (h 230 (List.mem_cons_of_mem _ (List.mem_cons_of_mem _ (List.mem_cons_of_mem _ (List.mem_cons_of_mem _ (List.mem_cons_of_mem _ (List.mem_cons_of_mem _ (List.mem_cons_of_mem _ (List.mem_cons_of_mem _ List.mem_cons_self)))))))))]
  · rw [zh_e_g (h 228 List.mem_cons_self), zh_e_g (h 255 (List.mem_cons_of_mem _ List.mem_cons_self))]
  · rw [zh_e_g (h 231 List.mem_cons_self), zh_e_g (h 248 (List.mem_cons_of_mem _ List.mem_cons_self)), zh_e_g (h 239 (List.mem_cons_of_mem _ (List.mem_cons_of_mem _ List.mem_cons_self))), zh_e_g (h 222 (List.mem_cons_of_mem _ (List.mem_cons_of_mem _ (List.mem_cons_of_mem _ List.mem_cons_self))))]
  · rw [zh_e_g (h 222 List.mem_cons_self)]
  · rw [zh_e_g (h 231 List.mem_cons_self), zh_e_g (h 248 (List.mem_cons_of_mem _ List.mem_cons_self)), zh_e_g (h 239 (List.mem_cons_of_mem _ (List.mem_cons_of_mem _ List.mem_cons_self))), zh_e_g (h 222 (List.mem_cons_of_mem _ (List.mem_cons_of_mem _ (List.mem_cons_of_mem _ List.mem_cons_self))))]
  · rw [zh_e_g (h 231 List.mem_cons_self)]
  · rw [zh_e_g (h 231 List.mem_cons_self)]
  · rfl
  · rw [zh_l_g (h 173 List.mem_cons_self)]
  · rw [zh_l_g (h 174 List.mem_cons_self)]
  · rw [zn_l_g (h 173 List.mem_cons_self), zn_l_g (h 174 (List.mem_cons_of_mem _ List.mem_cons_self)), zh_e_g (h 175 (List.mem_cons_of_mem _ (List.mem_cons_of_mem _ List.mem_cons_self)))]
  · rw [zn_l_g (h 173 List.mem_cons_self), zn_l_g (h 174 (List.mem_cons_of_mem _ List.mem_cons_self)), zh_e_g (h 175 (List.mem_cons_of_mem _ (List.mem_cons_of_mem _ List.mem_cons_self)))]
  · rfl
  · rw [zn_l_g (h 173 List.mem_cons_self), zn_l_g (h 174 (List.mem_cons_of_mem _ List.mem_cons_self))]
  · rfl
  · rw [zn_l_g (h 173 List.mem_cons_self), zn_l_g (h 174 (List.mem_cons_of_mem _ List.mem_cons_self))]
  · rw [zn_l_g (h 173 List.mem_cons_self), zn_l_g (h 174 (List.mem_cons_of_mem _ List.mem_cons_self)), zh_e_g (h 221 (List.mem_cons_of_mem _ (List.mem_cons_of_mem _ List.mem_cons_self))), zh_e_g (h 223 (List.mem_cons_of_mem _ (List.mem_cons_of_mem _ (List.mem_cons_of_mem _ List.mem_cons_self))))]
  · rw [zn_l_g (h 173 List.mem_cons_self), zn_l_g (h 174 (List.mem_cons_of_mem _ List.mem_cons_self)), zh_e_g (h 229 (List.mem_cons_of_mem _ (List.mem_cons_of_mem _ List.mem_cons_self))), zh_e_g (h 239 (List.mem_cons_of_mem _ (List.mem_cons_of_mem _ (List.mem_cons_of_mem _ List.mem_cons_self)))), zh_e_g (h 247 (List.mem_cons_of_mem _ (List.mem_cons_of_mem _ (List.mem_cons_of_mem _ (List.mem_cons_of_mem _ List.mem_cons_self))))), zh_e_g (h 233 (List.mem_cons_of_mem _ (List.mem_cons_of_mem _ (List.mem_cons_of_mem _ (List.mem_cons_of_mem _ (List.mem_cons_of_mem _ List.mem_cons_self))))))]
  · rw [zh_e_g (h 229 List.mem_cons_self), zh_e_g (h 230 (List.mem_cons_of_mem _ List.mem_cons_self)), zh_e_g (h 231 (List.mem_cons_of_mem _ (List.mem_cons_of_mem _ List.mem_cons_self))), zh_e_g (h 233 (List.mem_cons_of_mem _ (List.mem_cons_of_mem _ (List.mem_cons_of_mem _ List.mem_cons_self)))), zh_e_g (h 234 (List.mem_cons_of_mem _ (List.mem_cons_of_mem _ (List.mem_cons_of_mem _ (List.mem_cons_of_mem _ List.mem_cons_self))))), zh_e_g (h 256 (List.mem_cons_of_mem _ (List.mem_cons_of_mem _ (List.mem_cons_of_mem _ (List.mem_cons_of_mem _ (List.mem_cons_of_mem _ List.mem_cons_self)))))), zh_e_g (h 257 (List.mem_cons_of_mem _ (List.mem_cons_of_mem _ (List.mem_cons_of_mem _ (List.mem_cons_of_mem _ (List.mem_cons_of_mem _ (List.mem_cons_of_mem _ List.mem_cons_self))))))), zh_e_g (h 224 (List.mem_cons_of_mem _ (List.mem_cons_of_mem _ (List.mem_cons_of_mem _ (List.mem_cons_of_mem _ (List.mem_cons_of_mem _ (List.mem_cons_of_mem _ (List.mem_cons_of_mem _ List.mem_cons_self))))))))]
  · rw [zn_l_g (h 173 List.mem_cons_self), zn_l_g (h 174 (List.mem_cons_of_mem _ List.mem_cons_self)), zh_e_g (h 256 (List.mem_cons_of_mem _ (List.mem_cons_of_mem _ List.mem_cons_self))), zh_e_g (h 257 (List.mem_cons_of_mem _ (List.mem_cons_of_mem _ (List.mem_cons_of_mem _ List.mem_cons_self))))]
  · rw [zh_e_g (h 233 List.mem_cons_self)]
  · rw [zh_e_g (h 177 List.mem_cons_self), zh_e_g (h 178 (List.mem_cons_of_mem _ List.mem_cons_self))]
  · rw [zh_e_g (h 177 List.mem_cons_self), zh_e_g (h 178 (List.mem_cons_of_mem _ List.mem_cons_self))]
  · rfl
  · rfl
  · rw [zn_l_g (h 173 List.mem_cons_self), zn_l_g (h 174 (List.mem_cons_of_mem _ List.mem_cons_self))]
  · rfl
/-! laws of rows with parameters (functions 100 ..): rows, places below, how many parameters, cases (sums over: place, the rows' elements there, the parameters) -/
abbrev zq_Sp : Type := List Nat × Nat × Nat × List (List zl_E)
def zq_T (t : Nat) : zq_Sp := match t with
  | 0 => ([313], 64, 2, [[((0, 0), [(0, 1, 0), (2, 0, 1)])], [((0, 0), [(1, 0, 1), (3, 1, 0)])]])
  | 1 => ([184, 182], 448, 2, [[((0, 1), [(0, 0, 1), (3, 1, 0)])], [((0, 0), [(0, 1, 0), (4, 0, 1)])], [((98304, 0), [(1, 0, 1), (2, 0, 1)])]])
  | 2 => ([175], 131072, 1, [[((0, 0), [(0, 1, 0), (2, 0, 1)])], [((0, 0), [(1, 1, 0)]), ((0, 0), [(1, 0, 1)])]])
  | _ => ([], 0, 0, [[]])
def zq_dec : Nat → Int → List Int
  | 0, _ => []
  | m + 1, j => j % 4294967296 :: zq_dec m (j / 4294967296)
def zq_P (p : zq_Sp) (w : zz_W) (ps : List Int) : Prop := ∀ i : Nat, i < p.2.1 → ∃ d ∈ p.2.2.2, zk_cs (fun m => ((i : Int) :: (p.1.map (fun r => zk_el w r (i : Int)) ++ ps)).getD m 0) d
theorem zq_P_g {p : zq_Sp} {w w' : zz_W} {ps : List Int} (h : ∀ r ∈ p.1, zz_g w' r = zz_g w r) : zq_P p w' ps = zq_P p w ps := by
  have e : ∀ i : Nat, p.1.map (fun r => zk_el w' r (i : Int)) = p.1.map (fun r => zk_el w r (i : Int)) := fun i => List.map_congr_left (fun r hr => by
    unfold zk_el
    rw [h r hr])
  unfold zq_P
  simp only [e]
/-! the same with places that depend on parameters and elements (functions 200 ..): rows with their places (sums over: place, parameters, elements so far), places below, parameters, cases (sums over: place, parameters, elements) -/
abbrev zu_Sp : Type := List (Nat × zl_E) × List Nat × Nat × List (List zl_E)
def zu_T0 (t : Nat) : zu_Sp := match t with
  | 0 => ([(299, ((0, 0), [(0, 1, 0)])), (300, ((0, 0), [(0, 1, 0)])), (182, ((0, 0), [(2, 64, 0), (3, 1, 0)])), (179, ((0, 0), [(2, 1, 0)]))], [3000], 2, [[((0, 0), [(0, 1, 0), (1, 0, 1)])], [((0, 1), [(3, 0, 1), (6, 1, 0)]), ((0, 0), [(4, 0, 1), (5, 1, 0)]), ((0, 0), [(4, 1, 0)]), ((0, 0), [(3, 1, 0)])]])
  | 1 => ([(292, ((0, 0), [(0, 1, 0)])), (182, ((0, 0), [(0, 1, 0), (1, 64, 0)])), (179, ((0, 0), [(1, 1, 0)]))], [64], 2, [[((0, 0), [(0, 1, 0), (5, 0, 1)])], [((0, 0), [(3, 0, 1)])], [((0, 4), [(4, 1, 0)])], [((1, 0), [(0, 1, 0), (2, 0, 1)]), ((0, 1), [(0, 0, 1), (2, 1, 0)])]])
  | 2 => ([], [64], 0, [[]])
  | 10 => ([(179, ((0, 0), [(0, 1, 0)])), (180, ((0, 0), [(0, 64, 0), (1, 1, 0)])), (220, ((0, 0), [(6, 1, 0)]))], [7, 64], 3, [[((0, 0), [(1, 1, 0), (5, 0, 1)])], [((0, 1), [(0, 0, 1), (3, 1, 0)])], [((0, 0), [(0, 0, 1), (3, 1, 0)]), ((0, 1), [(0, 0, 64), (1, 0, 1), (4, 1, 0)])], [((5, 0), [(0, 0, 1)]), ((0, 0), [(0, 1, 0), (2, 0, 1)])], [((0, 0), [(7, 1, 0)])]])
  | 11 => ([(188, ((0, 0), [(0, 1, 0)])), (189, ((0, 0), [(0, 600, 0), (1, 1, 0)])), (220, ((0, 0), [(6, 1, 0)]))], [7, 600], 3, [[((0, 0), [(1, 1, 0), (5, 0, 1)])], [((0, 1), [(0, 0, 1), (3, 1, 0)])], [((0, 0), [(0, 0, 1), (3, 1, 0)]), ((0, 1), [(0, 0, 600), (1, 0, 1), (4, 1, 0)])], [((5, 0), [(0, 0, 1)]), ((0, 0), [(0, 1, 0), (2, 0, 1)])], [((0, 0), [(7, 1, 0)])]])
  | 12 => ([(195, ((0, 0), [(0, 1, 0)])), (201, ((0, 0), [(0, 3000, 0), (1, 1, 0)])), (220, ((0, 0), [(6, 1, 0)]))], [7, 3000], 3, [[((0, 0), [(1, 1, 0), (5, 0, 1)])], [((0, 1), [(0, 0, 1), (3, 1, 0)])], [((0, 0), [(0, 0, 1), (3, 1, 0)]), ((0, 1), [(0, 0, 3000), (1, 0, 1), (4, 1, 0)])], [((5, 0), [(0, 0, 1)]), ((0, 0), [(0, 1, 0), (2, 0, 1)])], [((0, 0), [(7, 1, 0)])], [((0, 1), [(6, 0, 1)])]])
  | 13 => ([(203, ((0, 0), [(0, 1, 0)])), (204, ((0, 0), [(0, 600, 0), (1, 1, 0)])), (220, ((0, 0), [(6, 1, 0)]))], [7, 600], 3, [[((0, 0), [(1, 1, 0), (5, 0, 1)])], [((0, 1), [(0, 0, 1), (3, 1, 0)])], [((0, 0), [(0, 0, 1), (3, 1, 0)]), ((0, 1), [(0, 0, 600), (1, 0, 1), (4, 1, 0)])], [((5, 0), [(0, 0, 1)]), ((0, 0), [(0, 1, 0), (2, 0, 1)])], [((0, 0), [(7, 1, 0)])]])
  | 14 => ([(213, ((0, 0), [(0, 1, 0)])), (214, ((0, 0), [(0, 64, 0), (1, 1, 0)])), (220, ((0, 0), [(6, 1, 0)]))], [6, 64], 3, [[((0, 0), [(1, 1, 0), (5, 0, 1)])], [((0, 1), [(0, 0, 1), (3, 1, 0)])], [((0, 0), [(0, 0, 1), (3, 1, 0)]), ((0, 1), [(0, 0, 64), (1, 0, 1), (4, 1, 0)])], [((5, 0), [(0, 0, 1)]), ((0, 0), [(0, 1, 0), (2, 0, 1)])], [((0, 0), [(7, 1, 0)])]])
  | 15 => ([(207, ((0, 0), [(0, 1, 0)])), (208, ((0, 0), [(0, 8000, 0), (1, 1, 0)])), (209, ((0, 0), [(0, 8000, 0), (1, 1, 0)])), (220, ((0, 0), [(7, 1, 0)])), (176, ((0, 0), [(0, 1, 0)]))], [6, 8000], 3, [[((0, 0), [(1, 1, 0), (5, 0, 1)])], [((0, 1), [(0, 0, 1), (3, 1, 0)])], [((0, 0), [(0, 0, 1), (3, 1, 0)]), ((0, 1), [(0, 0, 8000), (1, 0, 1), (4, 1, 0)])], [((5, 0), [(0, 0, 1)]), ((0, 0), [(0, 1, 0), (2, 0, 1)])], [((4, 0), [(6, 0, 1)])], [((0, 9), [(6, 1, 0)]), ((10, 0), [(6, 0, 1)])], [((0, 13), [(6, 1, 0)])], [((0, 0), [(9, 0, 1)])], [((0, 0), [(8, 1, 0)])]])
  | 16 => ([(207, ((0, 0), [(0, 1, 0)])), (208, ((0, 0), [(0, 8000, 0), (1, 1, 0)])), (209, ((0, 0), [(0, 8000, 0), (1, 1, 0)])), (176, ((0, 0), [(0, 1, 0)]))], [6, 8000], 1, [[((0, 0), [(6, 0, 1)])], [((0, 0), [(1, 1, 0), (3, 0, 1)])], [((0, 0), [(0, 1, 0), (2, 0, 1)])], [((4, 0), [(4, 0, 1)])], [((0, 9), [(4, 1, 0)]), ((10, 0), [(4, 0, 1)])], [((0, 13), [(4, 1, 0)])], [((0, 0), [(5, 1, 0)]), ((65535, 0), [(5, 0, 1)])]])
  | 20 => ([(179, ((0, 0), [(0, 1, 0)])), (180, ((0, 0), [(0, 64, 0), (1, 1, 0)])), (220, ((0, 0), [(6, 1, 0)]))], [7, 64], 3, [[((0, 0), [(1, 1, 0), (5, 0, 1)])], [((0, 1), [(0, 1, 0), (3, 0, 1)])], [((0, 0), [(0, 1, 0), (3, 0, 1)]), ((0, 0), [(0, 64, 0), (1, 1, 0), (4, 0, 1)])], [((5, 0), [(0, 0, 1)]), ((0, 0), [(0, 1, 0), (2, 0, 1)])], [((0, 1), [(7, 1, 0)]), ((1, 0), [(7, 0, 1)]), ((0, 0), [(6, 1, 0)])]])
  | 21 => ([(188, ((0, 0), [(0, 1, 0)])), (189, ((0, 0), [(0, 600, 0), (1, 1, 0)])), (220, ((0, 0), [(6, 1, 0)]))], [7, 600], 3, [[((0, 0), [(1, 1, 0), (5, 0, 1)])], [((0, 1), [(0, 1, 0), (3, 0, 1)])], [((0, 0), [(0, 1, 0), (3, 0, 1)]), ((0, 0), [(0, 600, 0), (1, 1, 0), (4, 0, 1)])], [((5, 0), [(0, 0, 1)]), ((0, 0), [(0, 1, 0), (2, 0, 1)])], [((0, 1), [(7, 1, 0)]), ((1, 0), [(7, 0, 1)]), ((0, 0), [(6, 1, 0)])]])
  | 22 => ([(195, ((0, 0), [(0, 1, 0)])), (201, ((0, 0), [(0, 3000, 0), (1, 1, 0)])), (220, ((0, 0), [(6, 1, 0)]))], [7, 3000], 3, [[((0, 0), [(1, 1, 0), (5, 0, 1)])], [((0, 1), [(0, 1, 0), (3, 0, 1)])], [((0, 0), [(0, 1, 0), (3, 0, 1)]), ((0, 0), [(0, 3000, 0), (1, 1, 0), (4, 0, 1)])], [((5, 0), [(0, 0, 1)]), ((0, 0), [(0, 1, 0), (2, 0, 1)])], [((0, 1), [(7, 1, 0)]), ((1, 0), [(7, 0, 1)]), ((0, 0), [(6, 1, 0)])], [((0, 1), [(6, 0, 1)])]])
  | 23 => ([(203, ((0, 0), [(0, 1, 0)])), (204, ((0, 0), [(0, 600, 0), (1, 1, 0)])), (220, ((0, 0), [(6, 1, 0)]))], [7, 600], 3, [[((0, 0), [(1, 1, 0), (5, 0, 1)])], [((0, 1), [(0, 1, 0), (3, 0, 1)])], [((0, 0), [(0, 1, 0), (3, 0, 1)]), ((0, 0), [(0, 600, 0), (1, 1, 0), (4, 0, 1)])], [((5, 0), [(0, 0, 1)]), ((0, 0), [(0, 1, 0), (2, 0, 1)])], [((0, 1), [(7, 1, 0)]), ((1, 0), [(7, 0, 1)]), ((0, 0), [(6, 1, 0)])]])
  | 24 => ([(213, ((0, 0), [(0, 1, 0)])), (214, ((0, 0), [(0, 64, 0), (1, 1, 0)])), (220, ((0, 0), [(6, 1, 0)]))], [6, 64], 3, [[((0, 0), [(1, 1, 0), (5, 0, 1)])], [((0, 1), [(0, 1, 0), (3, 0, 1)])], [((0, 0), [(0, 1, 0), (3, 0, 1)]), ((0, 0), [(0, 64, 0), (1, 1, 0), (4, 0, 1)])], [((5, 0), [(0, 0, 1)]), ((0, 0), [(0, 1, 0), (2, 0, 1)])], [((0, 1), [(7, 1, 0)]), ((1, 0), [(7, 0, 1)]), ((0, 0), [(6, 1, 0)])]])
  | 25 => ([(207, ((0, 0), [(0, 1, 0)])), (208, ((0, 0), [(0, 8000, 0), (1, 1, 0)])), (209, ((0, 0), [(0, 8000, 0), (1, 1, 0)])), (220, ((0, 0), [(7, 1, 0)])), (176, ((0, 0), [(0, 1, 0)]))], [6, 8000], 3, [[((0, 0), [(1, 1, 0), (5, 0, 1)])], [((0, 1), [(0, 1, 0), (3, 0, 1)])], [((0, 0), [(0, 1, 0), (3, 0, 1)]), ((0, 0), [(0, 8000, 0), (1, 1, 0), (4, 0, 1)])], [((5, 0), [(0, 0, 1)]), ((0, 0), [(0, 1, 0), (2, 0, 1)])], [((4, 0), [(6, 0, 1)])], [((0, 9), [(6, 1, 0)]), ((10, 0), [(6, 0, 1)])], [((0, 13), [(6, 1, 0)])], [((0, 0), [(9, 0, 1)])], [((0, 1), [(8, 1, 0)]), ((1, 0), [(8, 0, 1)]), ((0, 0), [(7, 1, 0)])]])
  | 30 => ([(179, ((0, 0), [(0, 1, 0)])), (180, ((0, 0), [(0, 64, 0), (1, 1, 0)])), (220, ((0, 0), [(5, 1, 0)]))], [7, 64], 2, [[((0, 0), [(1, 1, 0), (4, 0, 1)])], [((5, 0), [(0, 0, 1)]), ((0, 0), [(0, 1, 0), (2, 0, 1)])], [((0, 0), [(5, 1, 0)]), ((0, 1), [(3, 1, 0), (5, 0, 1)]), ((0, 0), [(6, 1, 0)])], [((0, 0), [(5, 1, 0)]), ((0, 0), [(3, 0, 1), (5, 1, 0)]), ((0, 1), [(6, 1, 0)]), ((1, 0), [(6, 0, 1)])]])
  | 31 => ([(188, ((0, 0), [(0, 1, 0)])), (189, ((0, 0), [(0, 600, 0), (1, 1, 0)])), (220, ((0, 0), [(5, 1, 0)]))], [7, 600], 2, [[((0, 0), [(1, 1, 0), (4, 0, 1)])], [((5, 0), [(0, 0, 1)]), ((0, 0), [(0, 1, 0), (2, 0, 1)])], [((0, 0), [(5, 1, 0)]), ((0, 1), [(3, 1, 0), (5, 0, 1)]), ((0, 0), [(6, 1, 0)])], [((0, 0), [(5, 1, 0)]), ((0, 0), [(3, 0, 1), (5, 1, 0)]), ((0, 1), [(6, 1, 0)]), ((1, 0), [(6, 0, 1)])]])
  | 32 => ([(195, ((0, 0), [(0, 1, 0)])), (201, ((0, 0), [(0, 3000, 0), (1, 1, 0)])), (220, ((0, 0), [(5, 1, 0)]))], [7, 3000], 2, [[((0, 0), [(1, 1, 0), (4, 0, 1)])], [((5, 0), [(0, 0, 1)]), ((0, 0), [(0, 1, 0), (2, 0, 1)])], [((0, 1), [(5, 0, 1)])], [((0, 0), [(5, 1, 0)]), ((0, 1), [(3, 1, 0), (5, 0, 1)]), ((0, 0), [(6, 1, 0)])], [((0, 0), [(5, 1, 0)]), ((0, 0), [(3, 0, 1), (5, 1, 0)]), ((0, 1), [(6, 1, 0)]), ((1, 0), [(6, 0, 1)])]])
  | 33 => ([(203, ((0, 0), [(0, 1, 0)])), (204, ((0, 0), [(0, 600, 0), (1, 1, 0)])), (220, ((0, 0), [(5, 1, 0)]))], [7, 600], 2, [[((0, 0), [(1, 1, 0), (4, 0, 1)])], [((5, 0), [(0, 0, 1)]), ((0, 0), [(0, 1, 0), (2, 0, 1)])], [((0, 0), [(5, 1, 0)]), ((0, 1), [(3, 1, 0), (5, 0, 1)]), ((0, 0), [(6, 1, 0)])], [((0, 0), [(5, 1, 0)]), ((0, 0), [(3, 0, 1), (5, 1, 0)]), ((0, 1), [(6, 1, 0)]), ((1, 0), [(6, 0, 1)])]])
  | 34 => ([(213, ((0, 0), [(0, 1, 0)])), (214, ((0, 0), [(0, 64, 0), (1, 1, 0)])), (220, ((0, 0), [(5, 1, 0)]))], [6, 64], 2, [[((0, 0), [(1, 1, 0), (4, 0, 1)])], [((5, 0), [(0, 0, 1)]), ((0, 0), [(0, 1, 0), (2, 0, 1)])], [((0, 0), [(5, 1, 0)]), ((0, 1), [(3, 1, 0), (5, 0, 1)]), ((0, 0), [(6, 1, 0)])], [((0, 0), [(5, 1, 0)]), ((0, 0), [(3, 0, 1), (5, 1, 0)]), ((0, 1), [(6, 1, 0)]), ((1, 0), [(6, 0, 1)])]])
  | 35 => ([(207, ((0, 0), [(0, 1, 0)])), (208, ((0, 0), [(0, 8000, 0), (1, 1, 0)])), (209, ((0, 0), [(0, 8000, 0), (1, 1, 0)])), (220, ((0, 0), [(6, 1, 0)])), (176, ((0, 0), [(0, 1, 0)]))], [6, 8000], 2, [[((0, 0), [(1, 1, 0), (4, 0, 1)])], [((5, 0), [(0, 0, 1)]), ((0, 0), [(0, 1, 0), (2, 0, 1)])], [((4, 0), [(5, 0, 1)])], [((0, 9), [(5, 1, 0)]), ((10, 0), [(5, 0, 1)])], [((0, 13), [(5, 1, 0)])], [((0, 0), [(8, 0, 1)])], [((0, 0), [(6, 1, 0)]), ((0, 1), [(3, 1, 0), (6, 0, 1)]), ((0, 0), [(7, 1, 0)])], [((0, 0), [(6, 1, 0)]), ((0, 0), [(3, 0, 1), (6, 1, 0)]), ((0, 1), [(7, 1, 0)]), ((1, 0), [(7, 0, 1)])]])
  | 40 => ([(188, ((0, 0), [(0, 1, 0)])), (190, ((0, 0), [(0, 600, 0), (1, 1, 0)])), (179, ((0, 0), [(0, 1, 0)]))], [7, 600], 1, [[((0, 0), [(1, 1, 0), (3, 0, 1)])], [((0, 0), [(0, 1, 0), (2, 0, 1)]), ((0, 0), [(0, 0, 1), (2, 1, 0)])], [((0, 1), [(4, 0, 1), (5, 1, 0)]), ((0, 0), [(4, 1, 0)])]])
  | 41 => ([(195, ((0, 0), [(0, 1, 0)])), (196, ((0, 0), [(0, 3000, 0), (1, 1, 0)])), (199, ((0, 0), [(0, 3000, 0), (1, 1, 0)])), (197, ((0, 0), [(0, 3000, 0), (1, 1, 0)])), (179, ((0, 0), [(0, 1, 0)])), (182, ((0, 0), [(0, 64, 0), (4, 1, 0)]))], [7, 3000], 1, [[((0, 0), [(1, 1, 0), (3, 0, 1)])], [((0, 0), [(0, 1, 0), (2, 0, 1)]), ((0, 0), [(0, 0, 1), (2, 1, 0)])], [((0, 0), [(4, 1, 0)]), ((63, 0), [(4, 0, 1)]), ((0, 1), [(4, 0, 1), (7, 1, 0)]), ((0, 1), [(5, 0, 1), (7, 1, 0)]), ((0, 0), [(6, 1, 0)]), ((0, 0), [(6, 0, 1), (8, 1, 0)])]])
  | 42 => ([(304, ((0, 0), [(0, 1, 0)])), (179, ((0, 0), [(2, 1, 0)]))], [3000], 2, [[((0, 0), [(0, 1, 0), (1, 0, 1)])], [((0, 1), [(3, 0, 1), (4, 1, 0)])]])
  | 43 => ([(297, ((0, 0), [(0, 1, 0)])), (179, ((0, 0), [(2, 1, 0)]))], [10], 2, [[((0, 0), [(0, 1, 0), (1, 0, 1)])], [((0, 1), [(3, 0, 1), (4, 1, 0)])]])
  | 45 => ([(302, ((0, 0), [(0, 1, 0)])), (303, ((0, 0), [(0, 1, 0)])), (304, ((0, 0), [(0, 1, 0)]))], [3000], 2, [[((0, 0), [(0, 1, 0), (1, 0, 1)])], [((0, 0), [(0, 1, 0), (2, 0, 1)]), ((0, 0), [(0, 0, 1), (2, 1, 0)])], [((0, 1), [(3, 1, 0)]), ((1, 0), [(3, 0, 1)]), ((0, 0), [(4, 1, 0)])], [((0, 2), [(3, 1, 0)]), ((2, 0), [(3, 0, 1)]), ((0, 0), [(5, 1, 0)])], [((0, 3), [(3, 1, 0)]), ((3, 0), [(3, 0, 1)])]])
  | 46 => ([(308, ((0, 0), [(0, 1, 0)])), (309, ((0, 0), [(0, 1, 0)])), (297, ((0, 0), [(3, 1, 0)]))], [3001], 1, [[((0, 0), [(0, 1, 0), (1, 0, 1)])], [((1, 0), [(2, 0, 1)])], [((0, 3), [(2, 1, 0)])], [((0, 0), [(3, 1, 0)]), ((9, 0), [(3, 0, 1)]), ((0, 0), [(4, 1, 0)])]])
  | 50 => ([(315, ((0, 0), [(0, 1, 0)])), (190, ((0, 1), [(4, 1, 0)])), (179, ((0, 0), [(1, 1, 0)]))], [65536, 7], 2, [[((0, 0), [(0, 1, 0), (3, 0, 1)])], [((0, 0), [(1, 600, 0), (4, 0, 1)])], [((0, 601), [(1, 0, 600), (4, 1, 0)])], [((0, 1), [(1, 0, 1), (2, 1, 0)]), ((0, 1), [(5, 0, 1), (6, 1, 0)]), ((0, 0), [(5, 1, 0)])], [((0, 6), [(1, 1, 0)]), ((0, 1), [(5, 0, 1), (6, 1, 0)]), ((0, 0), [(5, 1, 0)])]])
  | 51 => ([(186, ((0, 0), [(0, 64, 0), (1, 1, 0)])), (179, ((0, 0), [(0, 1, 0)]))], [7, 64], 2, [[((0, 0), [(0, 64, 0), (1, 1, 0), (3, 0, 1)])], [((0, 0), [(4, 0, 1)])], [((0, 1), [(1, 0, 1), (5, 1, 0)]), ((0, 1), [(0, 0, 1), (2, 1, 0)])], [((0, 1), [(1, 0, 1), (5, 1, 0)]), ((0, 6), [(0, 1, 0)])]])
  | 52 => ([(195, ((0, 0), [(0, 1, 0)])), (196, ((0, 0), [(0, 3000, 0), (1, 1, 0)])), (186, ((0, 0), [(0, 64, 0), (5, 1, 0)])), (199, ((0, 0), [(0, 3000, 0), (1, 1, 0)])), (201, ((0, 0), [(0, 3000, 0), (1, 1, 0)])), (315, ((0, 0), [(8, 1, 0)]))], [7, 3000], 2, [[((0, 0), [(1, 1, 0), (4, 0, 1)])], [((0, 0), [(0, 1, 0), (2, 0, 1)]), ((5, 0), [(0, 0, 1)])], [((0, 0), [(0, 3000, 0), (1, 1, 0), (3, 0, 1)])], [((0, 0), [(6, 0, 1)])], [((0, 0), [(7, 1, 0)])], [((0, 1), [(9, 1, 0)]), ((0, 0), [(8, 1, 0)])]])
  | 53 => ([(186, ((0, 0), [(0, 64, 0), (1, 1, 0)])), (181, ((0, 0), [(0, 64, 0), (1, 1, 0)])), (185, ((0, 0), [(0, 64, 0), (1, 1, 0)])), (182, ((0, 0), [(0, 64, 0), (1, 1, 0)])), (179, ((0, 0), [(0, 1, 0)]))], [7, 64], 4, [[((0, 0), [(1, 1, 0), (10, 0, 1)])], [((0, 0), [(0, 1, 0), (2, 0, 1)]), ((5, 0), [(0, 0, 1)])], [((0, 0), [(0, 64, 0), (1, 1, 0), (3, 0, 1)])], [((0, 0), [(6, 0, 1)])], [((0, 1), [(7, 1, 0)])], [((0, 0), [(4, 0, 1), (8, 1, 0)]), ((0, 0), [(5, 1, 0), (8, 0, 1), (9, 0, 1)])]])
  | 54 => ([(186, ((0, 0), [(0, 64, 0), (1, 1, 0)])), (181, ((0, 0), [(0, 64, 0), (1, 1, 0)])), (185, ((0, 0), [(0, 64, 0), (1, 1, 0)])), (182, ((0, 0), [(0, 64, 0), (1, 1, 0)])), (179, ((0, 0), [(0, 1, 0)]))], [7, 64], 4, [[((0, 0), [(1, 1, 0), (10, 0, 1)])], [((0, 0), [(0, 1, 0), (2, 0, 1)]), ((5, 0), [(0, 0, 1)])], [((0, 0), [(0, 64, 0), (1, 1, 0), (3, 0, 1)])], [((0, 0), [(6, 0, 1)])], [((0, 0), [(7, 0, 1)])], [((0, 0), [(4, 0, 1), (8, 1, 0)]), ((0, 0), [(5, 1, 0), (8, 0, 1), (9, 0, 1)])]])
  | 60 => ([(10, ((0, 0), [(0, 1, 0)])), (11, ((0, 1), [(4, 1, 0)]))], [8192], 3, [[((0, 0), [(4, 0, 1)])], [((0, 1), [(4, 1, 0)]), ((0, 0), [(1, 1, 0), (4, 0, 1)]), ((0, 0), [(3, 1, 0), (4, 0, 1)]), ((0, 0), [(0, 0, 1), (5, 1, 0)]), ((0, 0), [(0, 1, 0), (5, 0, 1)])], [((0, 1), [(4, 1, 0)]), ((0, 1), [(2, 0, 1), (4, 1, 0)]), ((0, 0), [(3, 1, 0), (4, 0, 1)]), ((0, 0), [(0, 0, 1), (5, 1, 0)]), ((0, 0), [(0, 1, 0), (5, 0, 1)])]])
  | 61 => ([(10, ((0, 0), [(0, 1, 0)])), (11, ((0, 1), [(3, 1, 0)]))], [8192], 2, [[((0, 0), [(0, 1, 0), (2, 0, 1)]), ((0, 0), [(0, 0, 1), (2, 1, 0)])], [((0, 0), [(3, 0, 1)])], [((0, 0), [(1, 1, 0), (3, 0, 1)]), ((0, 1), [(3, 1, 0)]), ((0, 0), [(0, 0, 1), (4, 1, 0)]), ((0, 0), [(0, 1, 0), (4, 0, 1)])]])
  | 62 => ([(7, ((0, 0), [(0, 1, 0)])), (9, ((0, 0), [(0, 1, 0)]))], [4000], 1, [[((0, 0), [(0, 1, 0), (1, 0, 1)])], [((511, 0), [(2, 0, 1)]), ((0, 0), [(3, 1, 0)]), ((750, 0), [(3, 0, 1)])]])
  | 63 => ([(7, ((0, 0), [(0, 1, 0)]))], [4000], 2, [[((0, 0), [(0, 1, 0), (1, 0, 1)])], [((0, 1), [(3, 0, 1)])], [((0, 0), [(2, 1, 0)]), ((0, 0), [(2, 0, 1)]), ((0, 0), [(3, 1, 0)]), ((599, 0), [(3, 0, 1)])], [((0, 1), [(2, 1, 0)]), ((1, 0), [(2, 0, 1)]), ((0, 0), [(3, 1, 0)]), ((599, 0), [(3, 0, 1)])], [((0, 1), [(2, 1, 0)]), ((1, 0), [(2, 0, 1)]), ((0, 1024), [(3, 1, 0)]), ((1623, 0), [(3, 0, 1)])], [((0, 1), [(2, 1, 0)]), ((1, 0), [(2, 0, 1)]), ((0, 2048), [(3, 1, 0)]), ((2647, 0), [(3, 0, 1)])], [((0, 1), [(2, 1, 0)]), ((1, 0), [(2, 0, 1)]), ((0, 3072), [(3, 1, 0)]), ((3671, 0), [(3, 0, 1)])], [((0, 1), [(2, 1, 0)]), ((1, 0), [(2, 0, 1)]), ((0, 4096), [(3, 1, 0)]), ((4695, 0), [(3, 0, 1)])], [((0, 1), [(2, 1, 0)]), ((1, 0), [(2, 0, 1)]), ((0, 5120), [(3, 1, 0)]), ((5719, 0), [(3, 0, 1)])], [((0, 1), [(2, 1, 0)]), ((1, 0), [(2, 0, 1)]), ((0, 6144), [(3, 1, 0)]), ((6147, 0), [(3, 0, 1)])], [((0, 2), [(2, 1, 0)]), ((2, 0), [(2, 0, 1)]), ((0, 0), [(3, 1, 0)]), ((59, 0), [(3, 0, 1)])], [((0, 2), [(2, 1, 0)]), ((2, 0), [(2, 0, 1)]), ((0, 512), [(3, 1, 0)]), ((571, 0), [(3, 0, 1)])], [((0, 2), [(2, 1, 0)]), ((2, 0), [(2, 0, 1)]), ((0, 1024), [(3, 1, 0)]), ((1083, 0), [(3, 0, 1)])], [((0, 2), [(2, 1, 0)]), ((2, 0), [(2, 0, 1)]), ((0, 1536), [(3, 1, 0)]), ((1595, 0), [(3, 0, 1)])], [((0, 2), [(2, 1, 0)]), ((2, 0), [(2, 0, 1)]), ((0, 2048), [(3, 1, 0)]), ((2107, 0), [(3, 0, 1)])], [((0, 2), [(2, 1, 0)]), ((2, 0), [(2, 0, 1)]), ((0, 2560), [(3, 1, 0)]), ((2619, 0), [(3, 0, 1)])]])
  | 65 => ([(67, ((1, 0), [(0, 6, 0)])), (67, ((3, 0), [(0, 6, 0)]))], [64], 3, [[((0, 1), [(0, 0, 1), (1, 1, 0)])], [((0, 0), [(0, 1, 0), (2, 0, 1)])], [((0, 0), [(3, 1, 0), (4, 0, 1), (5, 0, 1)])]])
  | 66 => ([(34, ((0, 0), [(0, 8, 0)])), (34, ((1, 0), [(0, 8, 0)])), (34, ((2, 0), [(0, 8, 0)]))], [11], 2, [[((0, 0), [(0, 1, 0), (1, 0, 1)])], [((0, 0), [(2, 1, 0), (3, 0, 1)]), ((0, 0), [(2, 1, 0), (4, 0, 1)]), ((0, 0), [(2, 1, 0), (5, 0, 1)])]])
  | 67 => ([(35, ((0, 0), [(0, 3, 0)])), (35, ((1, 0), [(0, 3, 0)]))], [12], 2, [[((0, 0), [(0, 1, 0), (1, 0, 1)])], [((0, 0), [(2, 1, 0), (3, 0, 1)]), ((0, 0), [(2, 1, 0), (4, 0, 1)])]])
  | 68 => ([(19, ((0, 0), [(0, 3, 0)])), (19, ((2, 0), [(0, 3, 0)]))], [3002], 2, [[((0, 1), [(0, 1, 0), (1, 0, 1)])], [((0, 0), [(0, 1, 0), (1, 0, 1)]), ((0, 0), [(0, 0, 1), (1, 1, 0)]), ((1, 0), [(3, 0, 1)])], [((0, 1), [(0, 0, 1), (1, 1, 0)]), ((0, 3), [(3, 1, 0)])], [((0, 1), [(0, 0, 1), (1, 1, 0)]), ((0, 2), [(3, 1, 0)]), ((2, 0), [(3, 0, 1)]), ((0, 0), [(4, 1, 0)]), ((0, 1), [(2, 1, 0), (4, 0, 1)])]])
  | 69 => ([(19, ((0, 0), [(0, 3, 0)])), (19, ((2, 0), [(0, 3, 0)]))], [3002], 2, [[((0, 0), [(0, 1, 0), (1, 0, 1)])], [((0, 3), [(3, 1, 0)])], [((0, 2), [(3, 1, 0)]), ((2, 0), [(3, 0, 1)]), ((0, 0), [(4, 1, 0)]), ((0, 1), [(2, 1, 0), (4, 0, 1)])]])
  | 72 => ([(20, ((0, 0), [(0, 6, 0)]))], [1501], 2, [[((0, 0), [(0, 1, 0), (1, 0, 1)])], [((0, 1), [(2, 1, 0), (3, 0, 1)])]])
  | 73 => ([(41, ((0, 0), [(0, 1, 0)])), (42, ((0, 0), [(0, 1, 0)]))], [3002], 1, [[((0, 1), [(0, 1, 0), (1, 0, 1)])], [((0, 0), [(0, 1, 0), (1, 0, 1)]), ((0, 0), [(0, 0, 1), (1, 1, 0)]), ((1, 0), [(2, 0, 1)])], [((0, 1), [(0, 0, 1), (1, 1, 0)]), ((0, 2), [(2, 1, 0)]), ((2, 0), [(2, 0, 1)]), ((1, 0), [(3, 1, 0)]), ((3999, 0), [(3, 0, 1)])], [((0, 1), [(0, 0, 1), (1, 1, 0)]), ((0, 3), [(2, 1, 0)]), ((3, 0), [(2, 0, 1)])], [((0, 1), [(0, 0, 1), (1, 1, 0)]), ((0, 4), [(2, 1, 0)]), ((5, 0), [(2, 0, 1)]), ((0, 0), [(3, 1, 0)]), ((9, 0), [(3, 0, 1)])], [((0, 1), [(0, 0, 1), (1, 1, 0)]), ((0, 6), [(2, 1, 0)])]])
  | 74 => ([(41, ((0, 0), [(0, 1, 0)])), (42, ((0, 0), [(0, 1, 0)]))], [3002], 1, [[((0, 0), [(0, 1, 0), (1, 0, 1)])], [((0, 2), [(2, 1, 0)]), ((2, 0), [(2, 0, 1)]), ((1, 0), [(3, 1, 0)]), ((3999, 0), [(3, 0, 1)])], [((0, 3), [(2, 1, 0)]), ((3, 0), [(2, 0, 1)])], [((0, 4), [(2, 1, 0)]), ((5, 0), [(2, 0, 1)]), ((0, 0), [(3, 1, 0)]), ((9, 0), [(3, 0, 1)])], [((0, 6), [(2, 1, 0)])]])
  | 75 => ([(41, ((0, 0), [(0, 1, 0)])), (42, ((0, 0), [(0, 1, 0)]))], [3002], 1, [[((0, 0), [(0, 1, 0), (1, 0, 1)])], [((0, 2), [(0, 0, 1), (1, 1, 0)])], [((0, 2), [(2, 1, 0)]), ((2, 0), [(2, 0, 1)])], [((0, 4), [(2, 1, 0)]), ((5, 0), [(2, 0, 1)]), ((0, 0), [(3, 1, 0)]), ((9, 0), [(3, 0, 1)])]])
  | 76 => ([(62, ((0, 0), [(0, 6, 0)])), (62, ((2, 0), [(0, 6, 0)]))], [512], 2, [[((0, 0), [(0, 1, 0), (1, 0, 1)])], [((0, 1), [(2, 1, 0)])], [((0, 1), [(3, 1, 0)]), ((7, 0), [(3, 0, 1)]), ((0, 0), [(4, 1, 0)]), ((400, 0), [(4, 0, 1)])]])
  | 77 => ([(20, ((3, 0), [(0, 6, 0)])), (20, ((5, 0), [(0, 6, 0)]))], [1501], 2, [[((0, 0), [(0, 1, 0), (1, 0, 1)])], [((0, 1), [(2, 1, 0)])], [((0, 0), [(3, 1, 0)])], [((0, 0), [(4, 1, 0)]), ((119, 0), [(4, 0, 1)])]])
  | 78 => ([(7, ((0, 0), [(0, 1, 0)])), (8, ((0, 0), [(0, 1, 0)]))], [4000], 3, [[((0, 0), [(0, 1, 0), (1, 0, 1)])], [((0, 1), [(2, 1, 0)])], [((59, 0), [(4, 0, 1)]), ((0, 1), [(3, 1, 0), (4, 0, 1)]), ((0, 0), [(5, 1, 0)]), ((60, 0), [(5, 0, 1)])]])
  | 79 => ([], [1], 3, [[((0, 1), [(2, 1, 0)])], [((0, 1), [(1, 1, 0), (3, 0, 1)])]])
  | 80 => ([(163, ((1, 0), [(0, 6, 0)])), (163, ((3, 0), [(0, 6, 0)]))], [4], 3, [[((0, 1), [(0, 0, 1), (1, 1, 0)])], [((0, 0), [(0, 1, 0), (2, 0, 1)])], [((0, 0), [(3, 1, 0), (4, 0, 1), (5, 0, 1)])]])
  | 82 => ([(20, ((3, 0), [(0, 6, 0)])), (20, ((4, 0), [(0, 6, 0)]))], [1501], 2, [[((0, 0), [(0, 1, 0), (1, 0, 1)])], [((0, 1), [(2, 1, 0)])], [((403, 0), [(3, 0, 1)]), ((0, 0), [(4, 1, 0)]), ((404, 0), [(3, 0, 1), (4, 0, 1)])]])
  | 84 => ([(9, ((0, 0), [(0, 1, 0)])), (21, ((0, 2), [(4, 3, 0)])), (21, ((0, 1), [(4, 3, 0)]))], [4000], 3, [[((0, 0), [(0, 1, 0), (1, 0, 1)])], [((0, 1), [(2, 1, 0)])], [((0, 0), [(4, 0, 1)])], [((0, 1), [(4, 1, 0)]), ((750, 0), [(4, 0, 1)]), ((0, 1), [(3, 0, 1), (4, 1, 0)]), ((1, 0), [(3, 1, 0), (4, 0, 1)])], [((0, 1), [(4, 1, 0)]), ((403, 0), [(5, 0, 1)]), ((0, 0), [(6, 1, 0)]), ((404, 0), [(5, 0, 1), (6, 0, 1)])]])
  | 85 => ([(20, ((2, 0), [(0, 6, 0)])), (20, ((3, 0), [(0, 6, 0)])), (20, ((5, 0), [(0, 6, 0)])), (62, ((0, 0), [(7, 6, 0)])), (64, ((0, 60), [(7, 1, 0)]))], [1501], 4, [[((0, 0), [(0, 1, 0), (1, 0, 1)])], [((0, 1), [(2, 1, 0)])], [((0, 0), [(6, 1, 0)]), ((2, 0), [(5, 0, 1)])], [((0, 1), [(6, 0, 1)]), ((0, 0), [(7, 1, 0)]), ((59, 0), [(7, 0, 1)]), ((0, 1), [(4, 1, 0), (7, 0, 1)]), ((0, 0), [(5, 0, 1), (8, 1, 0)]), ((0, 0), [(5, 1, 0), (8, 0, 1)])], [((0, 1), [(6, 0, 1)]), ((0, 60), [(7, 1, 0)]), ((59, 0), [(3, 1, 0), (7, 0, 1)]), ((119, 0), [(7, 0, 1)]), ((0, 0), [(5, 0, 1), (9, 1, 0)]), ((0, 0), [(5, 1, 0), (9, 0, 1)])]])
  | 86 => ([(8, ((0, 0), [(0, 1, 0)])), (9, ((0, 0), [(0, 1, 0)])), (64, ((0, 1), [(5, 1, 0)]))], [4000], 4, [[((0, 0), [(0, 1, 0), (1, 0, 1)])], [((0, 1), [(2, 1, 0)])], [((0, 0), [(0, 1, 0), (4, 0, 1)]), ((0, 0), [(0, 0, 1), (4, 1, 0)])], [((0, 0), [(5, 0, 1)])], [((0, 1), [(5, 1, 0)]), ((0, 0), [(3, 1, 0), (5, 0, 1)]), ((60, 0), [(5, 0, 1)]), ((0, 0), [(6, 0, 1), (7, 1, 0)]), ((0, 0), [(6, 1, 0), (7, 0, 1)])]])
  | 87 => ([(8, ((0, 0), [(0, 1, 0)]))], [4000], 2, [[((0, 0), [(0, 1, 0), (1, 0, 1)])], [((0, 1), [(2, 1, 0)])], [((0, 0), [(3, 0, 1)])]])
  | 88 => ([(20, ((2, 0), [(0, 6, 0)])), (20, ((3, 0), [(0, 6, 0)])), (20, ((5, 0), [(0, 6, 0)]))], [1501], 4, [[((0, 0), [(0, 1, 0), (1, 0, 1)])], [((0, 1), [(2, 1, 0)])], [((0, 0), [(6, 1, 0)]), ((2, 0), [(5, 0, 1)])], [((0, 1), [(6, 0, 1)]), ((0, 0), [(7, 1, 0)]), ((119, 0), [(7, 0, 1)])]])
  | 89 => ([(20, ((2, 0), [(0, 6, 0)])), (20, ((3, 0), [(0, 6, 0)])), (20, ((5, 0), [(0, 6, 0)])), (62, ((0, 0), [(7, 6, 0)]))], [1501], 4, [[((0, 0), [(0, 1, 0), (1, 0, 1)])], [((0, 1), [(2, 1, 0)])], [((0, 0), [(6, 1, 0)])], [((0, 60), [(7, 1, 0)])], [((0, 0), [(7, 1, 0)]), ((59, 0), [(7, 0, 1)]), ((0, 1), [(4, 1, 0), (7, 0, 1)]), ((0, 0), [(5, 0, 1), (8, 1, 0)]), ((0, 0), [(5, 1, 0), (8, 0, 1)])]])
  | 90 => ([(20, ((2, 0), [(0, 6, 0)])), (20, ((3, 0), [(0, 6, 0)])), (20, ((5, 0), [(0, 6, 0)])), (64, ((0, 60), [(7, 1, 0)]))], [1501], 4, [[((0, 0), [(0, 1, 0), (1, 0, 1)])], [((0, 1), [(2, 1, 0)])], [((0, 0), [(6, 1, 0)])], [((59, 0), [(7, 0, 1)])], [((0, 60), [(7, 1, 0)]), ((119, 0), [(7, 0, 1)]), ((59, 0), [(3, 1, 0), (7, 0, 1)]), ((0, 0), [(5, 0, 1), (8, 1, 0)]), ((0, 0), [(5, 1, 0), (8, 0, 1)])]])
  | 94 => ([(62, ((5, 0), [(0, 6, 0)])), (61, ((0, 0), [(5, 2, 0)]))], [512], 4, [[((0, 0), [(0, 1, 0), (1, 0, 1)])], [((0, 1), [(3, 1, 0)])], [((0, 3200), [(2, 1, 0)])], [((0, 0), [(0, 1, 0), (4, 0, 1)]), ((0, 0), [(0, 0, 1), (4, 1, 0)]), ((0, 0), [(2, 0, 1), (5, 1, 0)]), ((0, 0), [(2, 1, 0), (5, 0, 1)])], [((0, 0), [(5, 1, 0)]), ((0, 1), [(2, 1, 0), (5, 0, 1)]), ((0, 0), [(6, 1, 0)]), ((3, 0), [(6, 0, 1)])]])
  | 97 => ([(207, ((0, 0), [(1, 1, 0)])), (208, ((0, 0), [(0, 1, 0), (1, 8000, 0)])), (209, ((0, 0), [(0, 1, 0), (1, 8000, 0)])), (210, ((0, 0), [(0, 1, 0), (1, 8000, 0)]))], [8000], 1, [[((0, 0), [(0, 1, 0), (2, 0, 1)])], [((0, 1), [(3, 1, 0)]), ((4, 0), [(3, 0, 1)])], [((0, 0), [(3, 0, 1)]), ((0, 0), [(4, 1, 0)]), ((3000, 0), [(4, 0, 1)])], [((0, 9), [(3, 1, 0)]), ((10, 0), [(3, 0, 1)])], [((0, 13), [(3, 1, 0)])], [((0, 0), [(4, 1, 0)]), ((65535, 0), [(4, 0, 1)]), ((7, 0), [(3, 0, 1)]), ((0, 5), [(3, 1, 0)])], [((0, 0), [(4, 1, 0)]), ((65535, 0), [(4, 0, 1)]), ((0, 11), [(3, 1, 0)]), ((12, 0), [(3, 0, 1)])], [((0, 0), [(4, 1, 0)]), ((65535, 0), [(4, 0, 1)]), ((0, 0), [(5, 1, 0)]), ((4, 0), [(5, 0, 1)]), ((0, 8), [(3, 1, 0)]), ((8, 0), [(3, 0, 1)])]])
  | 98 => ([], [8000], 1, [[((0, 0), [(0, 1, 0)])]])
  | 99 => ([(234, ((0, 0), [(0, 1, 0)]))], [3001], 1, [[((0, 0), [(0, 1, 0), (1, 0, 1)])], [((0, 1), [(2, 1, 0)])]])
  | _ => ([], [], 0, [[]])
/-- from 1000 on: the same of unit k -/
def zu_nm (k : Nat) (p : zu_Sp) : zu_Sp := (p.1.map (fun q => (zz_sw k q.1, q.2)), p.2)
def zu_T (t : Nat) : zu_Sp := cond (Nat.blt t 1000) (zu_T0 t) (zu_nm (t / 1000) (zu_T0 (t % 1000)))
def zu_ex (w : zz_W) : List (Nat × zl_E) → List Int → List Int
  | [], l => l
  | q :: s, l => zu_ex w s (l ++ [zk_el w q.1 (zl_ev (fun m => l.getD m 0) q.2)])
/-- places within their bounds (one, or several) -/
def zu_ix (Ns : List Nat) (l : List Int) : Prop := l.length = Ns.length ∧ ∀ (k N : Nat), Ns[k]? = some N → 0 ≤ l.getD k 0 ∧ l.getD k 0 < (N : Int)
def zu_P (p : zu_Sp) (w : zz_W) (ps : List Int) : Prop := ∀ ix : List Int, zu_ix p.2.1 ix → ∃ d ∈ p.2.2.2, zk_cs (fun m => (zu_ex w p.1 (ix ++ ps)).getD m 0) d
theorem zu_ex_g {w w' : zz_W} : ∀ {s : List (Nat × zl_E)} {l : List Int}, (∀ r ∈ s.map (fun q => q.1), zz_g w' r = zz_g w r) → zu_ex w' s l = zu_ex w s l
  | [], _, _ => rfl
  | q :: s, l, h => by
    have e : ∀ x, zk_el w' q.1 x = zk_el w q.1 x := fun x => by
      unfold zk_el
      rw [h q.1 List.mem_cons_self]
    show zu_ex w' s (l ++ [zk_el w' q.1 (zl_ev (fun m => l.getD m 0) q.2)]) = zu_ex w s (l ++ [zk_el w q.1 (zl_ev (fun m => l.getD m 0) q.2)])
    rw [e]
    exact zu_ex_g (fun r hr => h r (List.mem_cons_of_mem _ hr))
theorem zu_P_g {p : zu_Sp} {w w' : zz_W} {ps : List Int} (h : ∀ r ∈ p.1.map (fun q => q.1), zz_g w' r = zz_g w r) : zu_P p w' ps = zu_P p w ps := by
  have e : ∀ l : List Int, zu_ex w' p.1 l = zu_ex w p.1 l := fun l => zu_ex_g h
  unfold zu_P
  simp only [e]
/-- begins of procedures -/
def zc_bd (sw sa fk fs : Int → Int) (sn u F x : Int) : Prop := (∀ i, 0 ≤ i → i < sn → sw (8000 * u + i) = 0 → 0 ≤ sa (8000 * u + i) ∧ sa (8000 * u + i) < F) ∧ (∀ n, 0 ≤ n → n < F - x → 3 ≤ fk n → 0 ≤ fs n ∧ fs n < sn ∧ sw (8000 * u + fs n) = 0) ∧ (x = 1 → 0 < F ∧ fs (F - 1) = sn)
/-- want lines -/
def zc_xs (a K s m : Int) : Int := if s < 6 then (if s = 0 then 46 else if s = 1 then 119 else if s = 2 then 97 else if s = 3 then 110 else if s = 4 then 116 else 32) else if s < 6 + m then a / 256 ^ (s - 6).toNat % 256 else if s = 6 + m then 44 else if s = 7 + m then 48 + K else 10
def zc_pm (a b m : Int) : Prop := 1 ≤ m ∧ m ≤ 8 ∧ b = 0 ∧ zp_k m.toNat a
def zc_wl (T A B O Q : Int → Int) (b p f m : Int) : Prop := 0 ≤ O p ∧ zc_pm (A (O p)) (B (O p)) m ∧ 0 ≤ Q p ∧ Q p ≤ 9 ∧ ∀ i, 0 ≤ i → i < 9 + m → T (b + f + i) = zc_xs (A (O p)) (Q p) i m
def zc_wp (T A B O Q : Int → Int) (z b q s m : Int) : Prop := ∃ F : Int → Int, 0 ≤ F 0 ∧ (F 0 = 0 ∨ T (b + F 0 - 1) = 10) ∧ (∀ p, 0 ≤ p → p < q → ∃ k, F (p + 1) = F p + 9 + k ∧ zc_wl T A B O Q b p (F p) k) ∧ F q + s = z ∧ ∀ i, 0 ≤ i → i < s → T (b + F q + i) = zc_xs (A (O q)) (Q q) i m
def zc_wn (T A B O Q : Int → Int) (z b N o : Int) : Prop := zc_wp T A B O Q z b o 0 0 ∧ ∀ p, 0 ≤ p → p < o → O p < N
def zc_nt (T : Int → Int) (b a k t : Int) : Prop := ∀ i, a ≤ i → (i < k → T (b + i) ≠ 10) ∧ (i < t → T (b + i) ≠ 35)
def zc_ln (T : Int → Int) (b z f e x : Int) : Prop := 0 ≤ f ∧ f < x ∧ (∀ t, f ≤ t → t < x - 1 → T (b + t) ≠ 10) ∧ (x ≤ z → T (b + x - 1) = 10) ∧ f ≤ e ∧ e ≤ x - 1 ∧ (∀ t, f ≤ t → t < e → T (b + t) ≠ 35) ∧ (e = x - 1 ∨ T (b + e) = 35)
def zc_fn (T L E : Int → Int) (b z x n : Int) : Prop := (n = 0 → x = 0) ∧ (0 < n → L 0 = 0) ∧ ∀ i, 0 ≤ i → i < n → zc_ln T b z (L i) (E i) (if i = n - 1 then x else L (i + 1))
def zc_lw (T A B O Q L E : Int → Int) (b N o n : Int) : Prop := o + 1 ≤ n ∧ ∀ p, 0 ≤ p → p < o → O p < N ∧ ∃ m, zc_wl T A B O Q b p (L (n - 1 - o + p)) m ∧ E (n - 1 - o + p) = L (n - 1 - o + p) + 8 + m
def zc_pk (C : Int → Int) (f : Int) : Nat → Int
  | 0 => 0
  | k + 1 => zc_pk C f k + C (f + (k : Int)) * 256 ^ k
def zc_ws (c : Int) : Prop := c = 46 ∨ c = 95 ∨ zp_ch c
def zc_cw (C : Int → Int) (s : Int) : Prop := 9 ≤ s ∧ s ≤ 16 ∧ C 0 = 46 ∧ C 1 = 119 ∧ C 2 = 97 ∧ C 3 = 110 ∧ C 4 = 116 ∧ C 5 = 32 ∧ (∀ i, 0 ≤ i → i < s - 8 → zp_ch (C (6 + i))) ∧ C (s - 2) = 44 ∧ 48 ≤ C (s - 1) ∧ C (s - 1) ≤ 57
def zc_cl (C T L E : Int → Int) (b l s : Int) : Prop := E l = L l + s ∧ ∀ i, 0 ≤ i → i < s → C i = T (b + L l + i)
def zc_rx (X Y O Q : Int → Int) (u k x o n : Int) : Prop := ∀ j, 0 ≤ j → j < o → j < x + o + 1 - n → ∃ i, 0 ≤ i ∧ i < k ∧ X (600 * u + i) = O j ∧ Y (600 * u + i) = Q j
def zc_rd (X Y O Q : Int → Int) (u n q : Int) : Prop := ∀ j, 0 ≤ j → j < q → ∃ i, 0 ≤ i ∧ i < n ∧ X (600 * u + i) = O j ∧ Y (600 * u + i) = Q j
/-- names unlike (161 to 164), numbers in their order (165), how many are kept (166, 167), named steps (168) -/
def zj_dn (A B : Int → Int) (N l h : Int) : Prop := (∀ j n, 0 ≤ j → j < N → l ≤ n → n < h → A j = A n → B j = B n → False) ∧ ∀ n m, 0 ≤ n → l ≤ n → n < m → m < h → A n = A m → B n = B m → False
def zj_u (A B : Int → Int) (l h a b : Int) : Prop := ∀ n, 0 ≤ n → l ≤ n → n < h → A n = a → B n = b → False
def zj_ij (K : Int → Int) (i N : Int) : Prop := ∀ m, 0 ≤ m → m < i → K m < N ∧ ∀ n, m < n → n < i → 0 ≤ K m → 0 ≤ K n → K m < K n
def zj_c (K : Int → Int) (l : Int) : Nat → Int
  | 0 => 0
  | n + 1 => (if K l = 1 then 1 else 0) + zj_c K (l + 1) n
def zj_nm (w : Int) : Prop := (5 ≤ w ∧ w ≤ 8) ∨ (11 ≤ w ∧ w ≤ 12)
noncomputable def zj_s (Q : Int → Int) (b : Int) : Nat → Int
  | 0 => 0
  | n + 1 => zj_s Q b n + zh_b (zj_nm (Q (b + (n : Int))))
/-- a name is declared in the unit (the first of that name has the kind), or wanted; named steps of a unit are resolved; names are below N -/
def zj_res (D K V Q : Int → Int) (d e N x k : Int) : Prop := (∃ n, 0 ≤ n ∧ n < d ∧ n < 64 ∧ D n = x ∧ K n = k ∧ ∀ m, 0 ≤ m → m < n → D m ≠ x) ∨ (0 ≤ x ∧ x < N ∧ (∀ m, 0 ≤ m → m < d → m < 64 → D m ≠ x) ∧ ∃ i, 0 ≤ i ∧ i < e ∧ i < 600 ∧ V i = x ∧ Q i = k)
def zj_st (T A B C E D K V Q : Int → Int) (d e N k : Int) : Prop := (3 ≤ T k → T k ≤ 10 → 0 ≤ C k ∧ C k ≤ 7) ∧ ((T k = 5 ∨ T k = 11) → (B k = -1 ∧ zj_res D K V Q d e N (A k) 1) ∨ (0 ≤ B k ∧ B k ≤ 1616)) ∧ (T k = 6 → (B k = -1 ∧ zj_res D K V Q d e N (A k) 2) ∨ (0 ≤ B k ∧ 1 ≤ E k ∧ B k + 4 * E k ≤ 1620)) ∧ (T k = 7 → 0 < k ∧ T (k - 1) = 6 ∧ A (k - 1) = A k ∧ B (k - 1) = B k ∧ C (k - 1) = C k) ∧ (T k = 8 → 0 ≤ B k ∧ B k ≤ 4 ∧ zj_res D K V Q d e N (A k) (3 + B k)) ∧ (T k = 12 → ∃ j, 0 ≤ j ∧ j < k ∧ T j = 6 ∧ A j = A k ∧ B j = B k ∧ C j = 0 ∧ ∀ m, j < m → m < k → 3 ≤ T m ∧ T m ≤ 10 ∧ 1 ≤ C m) ∧ (T k = 20 → ∃ j, 0 ≤ j ∧ j < k ∧ T j = 2 ∧ ∀ m, j < m → m < k → 3 ≤ T m ∧ T m ≤ 10) ∧ (T k = 0 → k = 0 ∨ T (k - 1) = 1)
def zj_nu (T A B C E D K V Q : Int → Int) (s d e N : Int) : Prop := (∀ k, 0 ≤ k → k < s → k < 8000 → zj_st T A B C E D K V Q d e N k) ∧ ∀ m, 0 ≤ m → m < d → m < 64 → 0 ≤ D m ∧ D m < N
theorem zj_resm {D K V Q D' K' V' Q' : Int → Int} {d e N N' x k : Int} (hN : N ≤ N') (hD : ∀ k, 0 ≤ k → k < 64 → D' k = D k) (hK : ∀ k, 0 ≤ k → k < 64 → K' k = K k) (hV : ∀ k, 0 ≤ k → k < 600 → V' k = V k) (hQ : ∀ k, 0 ≤ k → k < 600 → Q' k = Q k) (h : zj_res D K V Q d e N x k) : zj_res D' K' V' Q' d e N' x k := by
  rcases h with ⟨n, n0, n1, n2, n3, n4, n5⟩ | ⟨x0, x1, h1, i, i0, i1, i2, i3, i4⟩
  · exact Or.inl ⟨n, n0, n1, n2, (hD n n0 n2).trans n3, (hK n n0 n2).trans n4, fun m m0 m1 q => n5 m m0 m1 ((hD m m0 (by omega)).symm.trans q)⟩
  · exact Or.inr ⟨x0, by omega, fun m m0 m1 m2 q => h1 m m0 m1 m2 ((hD m m0 m2).symm.trans q), i, i0, i1, i2, (hV i i0 i2).trans i3, (hQ i i0 i2).trans i4⟩
theorem zj_nuc {T A B C E D K V Q T' A' B' C' E' D' K' V' Q' : Int → Int} {s d e N N' : Int} (hN : N ≤ N') (hT : ∀ k, 0 ≤ k → k < 8000 → T' k = T k) (hA : ∀ k, 0 ≤ k → k < 8000 → A' k = A k) (hB : ∀ k, 0 ≤ k → k < 8000 → B' k = B k) (hC : ∀ k, 0 ≤ k → k < 8000 → C' k = C k) (hE : ∀ k, 0 ≤ k → k < 8000 → E' k = E k) (hD : ∀ k, 0 ≤ k → k < 64 → D' k = D k) (hK : ∀ k, 0 ≤ k → k < 64 → K' k = K k) (hV : ∀ k, 0 ≤ k → k < 600 → V' k = V k) (hQ : ∀ k, 0 ≤ k → k < 600 → Q' k = Q k) (h : zj_nu T A B C E D K V Q s d e N) : zj_nu T' A' B' C' E' D' K' V' Q' s d e N' := by
  have hr : ∀ x k, zj_res D K V Q d e N x k → zj_res D' K' V' Q' d e N' x k := fun x k => zj_resm hN hD hK hV hQ
  obtain ⟨h1, h2⟩ := h
  refine ⟨fun k k0 k1 k2 => ?_, fun m m0 m1 m2 => ?_⟩
  · obtain ⟨q0, q1, q2, q3, q4, q5, q6, q7⟩ := h1 k k0 k1 k2
    have eT := hT k k0 k2
    have eA := hA k k0 k2
    have eB := hB k k0 k2
    have eC := hC k k0 k2
    have eE := hE k k0 k2
    refine ⟨?_, ?_, ?_, fun q => ?_, ?_, fun q => ?_, fun q => ?_, fun q => ?_⟩
    · rw [eT, eC]
      exact q0
    · rw [eT, eB, eA]
      exact fun q => (q1 q).imp (fun x => ⟨x.1, hr _ _ x.2⟩) id
    · rw [eT, eB, eA, eE]
      exact fun q => (q2 q).imp (fun x => ⟨x.1, hr _ _ x.2⟩) id
    · rw [eT] at q
      obtain ⟨a, b, c, d, f⟩ := q3 q
      rw [hT (k - 1) (by omega) (by omega), hA (k - 1) (by omega) (by omega), hB (k - 1) (by omega) (by omega), hC (k - 1) (by omega) (by omega), eA, eB, eC]
      exact ⟨a, b, c, d, f⟩
    · rw [eT, eB, eA]
      exact fun q => ⟨(q4 q).1, (q4 q).2.1, hr _ _ (q4 q).2.2⟩
    · rw [eT] at q
      obtain ⟨j, j0, j1, a, b, c, d, f⟩ := q5 q
      refine ⟨j, j0, j1, (hT j j0 (by omega)).trans a, ?_, ?_, (hC j j0 (by omega)).trans d, fun m m0 m1 => ?_⟩
      · rw [hA j j0 (by omega), eA]
        exact b
      · rw [hB j j0 (by omega), eB]
        exact c
      · rw [hT m (by omega) (by omega), hC m (by omega) (by omega)]
        exact f m m0 m1
    · rw [eT] at q
      obtain ⟨j, j0, j1, a, f⟩ := q6 q
      refine ⟨j, j0, j1, (hT j j0 (by omega)).trans a, fun m m0 m1 => ?_⟩
      rw [hT m (by omega) (by omega)]
      exact f m m0 m1
    · rw [eT] at q
      by_cases hk : k = 0
      · exact Or.inl hk
      · rw [hT (k - 1) (by omega) (by omega)]
        exact q7 q
  · rw [hD m m0 m2]
    exact ⟨(h2 m m0 m1 m2).1, by have := (h2 m m0 m1 m2).2; omega⟩
theorem zj_se {Q Q' : Int → Int} {b : Int} : ∀ {n : Nat}, (∀ i : Int, 0 ≤ i → i < (n : Int) → Q' (b + i) = Q (b + i)) → zj_s Q' b n = zj_s Q b n
  | 0, _ => rfl
  | n + 1, h => by
    have q := zj_se (Q := Q) (Q' := Q') (b := b) (n := n) (fun i i0 i1 => h i i0 (by omega))
    show zj_s Q' b n + zh_b (zj_nm (Q' (b + (n : Int)))) = zj_s Q b n + zh_b (zj_nm (Q (b + (n : Int))))
    rw [q, h (n : Int) (by omega) (by omega)]
/-- a unit that is being renamed: wants ahead of i, declarations ahead of j, steps ahead of k have their new names -/
def zj_ro (R : Int → Int) (z : Int) : Int := if z < 0 then z else R z
def zj_rn (T A B C E D K V Q R : Int → Int) (s d e i j k h : Int) : Prop := ∃ A0 D0 V0 : Int → Int, zj_nu T A0 B C E D0 K V0 Q s d e h ∧ (∀ x, 0 ≤ x → x < e → x < 600 → V x = (if x < i then zj_ro R (V0 x) else V0 x) ∧ (0 ≤ V0 x → 0 ≤ R (V0 x))) ∧ (∀ x, 0 ≤ x → x < d → x < 64 → D x = (if x < j then zj_ro R (D0 x) else D0 x) ∧ 0 ≤ R (D0 x)) ∧ ∀ x, 0 ≤ x → x < s → x < 8000 → (zj_nm (T x) → A x = (if x < k then zj_ro R (A0 x) else A0 x)) ∧ (¬ zj_nm (T x) → A x = A0 x)
/-- brackets by kind: what is open (1 an if, 2 a loop ahead of its test, 3 behind it), innermost first -/
def zc_k (x : Int) (l : List Nat) : Option (List Nat) := if x = 13 then some (1 :: l) else if x = 14 then (if l.head? = some 1 then some l else none) else if x = 15 then (if l.head? = some 1 then some l.tail else none) else if x = 16 then some (2 :: l) else if x = 17 then (if l.head? = some 2 then some (3 :: l.tail) else none) else if x = 18 then (if l.head? = some 3 then some l.tail else none) else some l
def zc_r (f : Int → Int) (a : Int) : Nat → Option (List Nat)
  | 0 => some []
  | n + 1 => (zc_r f a n).bind (zc_k (f (a + (n : Int))))
def zc_m (g : Int → Int) : Nat → List Nat
  | 0 => []
  | n + 1 => if n = 0 then [] else (if g (n : Int) = 3 then 3 else 1) :: zc_m g n
def zc_bv (r : Option (List Nat)) (m : List Nat) : Int := if r = some m then 1 else if r = some (1 :: m) then 2 else if r = some (2 :: m) then 3 else if r = some (3 :: m) then 4 else 0
theorem zc_re {f f' : Int → Int} {a : Int} : ∀ {n : Nat}, (∀ i : Int, 0 ≤ i → i < (n : Int) → f' (a + i) = f (a + i)) → zc_r f' a n = zc_r f a n
  | 0, _ => rfl
  | n + 1, h => by
    have q := zc_re (f := f) (f' := f') (a := a) (n := n) (fun i i0 i1 => h i i0 (by omega))
    show (zc_r f' a n).bind (zc_k (f' (a + (n : Int)))) = (zc_r f a n).bind (zc_k (f (a + (n : Int))))
    rw [q, h (n : Int) (by omega) (by omega)]
theorem zc_me {g g' : Int → Int} : ∀ {n : Nat}, (∀ i : Int, 0 ≤ i → i < (n : Int) → g' i = g i) → zc_m g' n = zc_m g n
  | 0, _ => rfl
  | n + 1, h => by
    have q := zc_me (g := g) (g' := g') (n := n) (fun i i0 i1 => h i i0 (by omega))
    show (if n = 0 then [] else (if g' (n : Int) = 3 then 3 else 1) :: zc_m g' n) = (if n = 0 then [] else (if g (n : Int) = 3 then 3 else 1) :: zc_m g n)
    rw [q, h (n : Int) (by omega) (by omega)]
/-- the shape of a unit: it ends with FINISH, its brackets fit, its declarations have a kind, a size, a beginning -/
def zj_sh (f : Int → Int) (a : Int) (K Z P : Int → Int) (s d : Int) : Prop := (0 ≤ s ∧ s ≤ 8000) ∧ (0 < s → f (a + s - 1) = 1) ∧ zc_r f a s.toNat = some [] ∧ zb_ok f a s ∧ d ≤ 60 ∧ ∀ m, 0 ≤ m → m < d → (1 ≤ K m ∧ K m ≤ 7) ∧ (0 ≤ Z m ∧ Z m ≤ 200) ∧ (3 ≤ K m → 0 ≤ P m ∧ P m + 1 < s ∧ f (a + P m) = 0)
theorem zb_De {f f' : Int → Int} {a : Int} : ∀ {n : Nat}, (∀ i : Int, 0 ≤ i → i < (n : Int) → f' (a + i) = f (a + i)) → zb_D f' a n = zb_D f a n
  | 0, _ => rfl
  | n + 1, h => by
    have q := zb_De (f := f) (f' := f') (a := a) (n := n) (fun i i0 i1 => h i i0 (by omega))
    show zb_D f' a n + zb_v (f' (a + (n : Int))) = zb_D f a n + zb_v (f (a + (n : Int)))
    rw [q, h (n : Int) (by omega) (by omega)]
theorem zj_shc {f f' : Int → Int} {a : Int} {K Z P K' Z' P' : Int → Int} {s d : Int} (hf : ∀ i, 0 ≤ i → i < 8000 → f' (a + i) = f (a + i)) (hK : ∀ m, 0 ≤ m → m < 64 → K' m = K m) (hZ : ∀ m, 0 ≤ m → m < 64 → Z' m = Z m) (hP : ∀ m, 0 ≤ m → m < 64 → P' m = P m) (h : zj_sh f a K Z P s d) : zj_sh f' a K' Z' P' s d := by
  obtain ⟨⟨s0, s1⟩, h1, h2, h3, h4, h5⟩ := h
  refine ⟨⟨s0, s1⟩, fun q => ?_, ?_, fun k hk => ?_, h4, fun m m0 m1 => ?_⟩
  · have e := hf (s - 1) (by omega) (by omega)
    rw [show a + (s - 1) = a + s - 1 by omega] at e
    rw [e]
    exact h1 q
  · rw [zc_re (f := f) (fun i i0 i1 => hf i i0 (by omega))]
    exact h2
  · rw [zb_De (f := f) (fun i i0 i1 => hf i i0 (by omega)), hf (k : Int) (by omega) (by omega)]
    exact h3 k hk
  · rw [hK m m0 (by omega), hZ m m0 (by omega), hP m m0 (by omega)]
    obtain ⟨c1, c2, c3⟩ := h5 m m0 m1
    refine ⟨c1, c2, fun q => ?_⟩
    obtain ⟨p0, p1, p2⟩ := c3 q
    exact ⟨p0, p1, (hf (P m) p0 (by omega)).trans p2⟩
/-- leads: a place to go on; what is open; what is through -/
def zfl_g (f : Int → Int) (a s y t : Int) : Prop := a ≤ t ∧ t < a + s ∧ ((f y = 18 ∧ f t = 16) ∨ (y < t ∧ a < t ∧ (f (t - 1) = 14 ∨ f (t - 1) = 15 ∨ f (t - 1) = 18)))
def zfl_t (x : Int) : Prop := x = 13 ∨ x = 14 ∨ x = 17 ∨ x = 18
def zfl_s (f J1 J2 L : Int → Int) (a b : Int) : List Nat → Int → Int → Prop
  | [], p, q => p = 0 ∧ q = 0
  | x :: l, p, q => if x = 1 then (0 < p ∧ (a ≤ J1 (p - 1) ∧ J1 (p - 1) < b ∧ (f (J1 (p - 1)) = 13 ∨ f (J1 (p - 1)) = 14)) ∧ zfl_s f J1 J2 L a b l (p - 1) q) else (0 < q ∧ (a ≤ J2 (q - 1) ∧ J2 (q - 1) < b ∧ f (J2 (q - 1)) = 16 ∧ (∀ i, 0 ≤ i → i < q - 1 → J2 i < J2 (q - 1)) ∧ (x = 3 → J2 (q - 1) < L (J2 (q - 1)) ∧ L (J2 (q - 1)) < b ∧ f (L (J2 (q - 1))) = 17)) ∧ zfl_s f J1 J2 L a b l p (q - 1))
def zfl_o (J1 J2 L : Int → Int) (y : Int) : List Nat → Int → Int → Prop
  | [], _, _ => False
  | x :: l, p, q => if x = 1 then (J1 (p - 1) = y ∨ zfl_o J1 J2 L y l (p - 1) q) else ((x = 3 ∧ L (J2 (q - 1)) = y) ∨ zfl_o J1 J2 L y l p (q - 1))
def zfl_le (f J1 J2 L : Int → Int) (a s k p q : Int) : Prop := (0 ≤ k ∧ k ≤ s) ∧ ∃ l, zc_r f a k.toNat = some l ∧ zfl_s f J1 J2 L a (a + k) l p q ∧ ∀ y, a ≤ y → y < a + k → zfl_t (f y) → zfl_g f a s y (L y) ∨ zfl_o J1 J2 L y l p q
/-- the first declaration with a name -/
def zfo_f (D : Int → Int) (a x : Int) : Nat → Int
  | 0 => -1
  | n + 1 => if 0 ≤ zfo_f D a x n then zfo_f D a x n else if D (a + (n : Int)) = x then a + (n : Int) else -1
def zfo_g (D c : Int → Int) (x : Int) : Nat → Int
  | 0 => -1
  | v + 1 => if 0 ≤ zfo_g D c x v then zfo_g D c x v else zfo_f D (64 * (v : Int)) x (c (v : Int)).toNat
def zfo_d (D c : Int → Int) (u x n : Int) : Int := if 0 ≤ zfo_f D (64 * u) x (c u).toNat then zfo_f D (64 * u) x (c u).toNat else zfo_g D c x n.toNat
/-- it is meant, of a kind; steps are well made with what is meant -/
def zfo_k (D c K : Int → Int) (u n x k : Int) : Prop := 0 ≤ zfo_d D c u x n ∧ K (zfo_d D c u x n) = k
def zfo_m (D c K V Q e : Int → Int) (u k n : Int) : Prop := ∀ v i, 0 ≤ v → v ≤ u → 0 ≤ i → i < e v → i < 600 → (v = u → i < k) → zfo_k D c K v n (V (600 * v + i)) (Q (600 * v + i))
def zfo_st (T A B C E : Int → Int) (R : Int → Int → Prop) (k : Int) : Prop := (3 ≤ T k → T k ≤ 10 → 0 ≤ C k ∧ C k ≤ 7) ∧ ((T k = 5 ∨ T k = 11) → (B k = -1 ∧ R (A k) 1) ∨ (0 ≤ B k ∧ B k ≤ 1616)) ∧ (T k = 6 → (B k = -1 ∧ R (A k) 2) ∨ (0 ≤ B k ∧ 1 ≤ E k ∧ B k + 4 * E k ≤ 1620)) ∧ (T k = 7 → 0 < k ∧ T (k - 1) = 6 ∧ A (k - 1) = A k ∧ B (k - 1) = B k ∧ C (k - 1) = C k) ∧ (T k = 8 → 0 ≤ B k ∧ B k ≤ 4 ∧ R (A k) (3 + B k)) ∧ (T k = 12 → ∃ j, 0 ≤ j ∧ j < k ∧ T j = 6 ∧ A j = A k ∧ B j = B k ∧ C j = 0 ∧ ∀ m, j < m → m < k → 3 ≤ T m ∧ T m ≤ 10 ∧ 1 ≤ C m) ∧ (T k = 20 → ∃ j, 0 ≤ j ∧ j < k ∧ T j = 2 ∧ ∀ m, j < m → m < k → 3 ≤ T m ∧ T m ≤ 10) ∧ (T k = 0 → k = 0 ∨ T (k - 1) = 1)
def zfo_sm (T A B C E D c K s : Int → Int) (n : Int) : Prop := ∀ u, 0 ≤ u → u < n → ∀ k, 0 ≤ k → k < s u → k < 8000 → zfo_st (fun k => T (8000 * u + k)) (fun k => A (8000 * u + k)) (fun k => B (8000 * u + k)) (fun k => C (8000 * u + k)) (fun k => E (8000 * u + k)) (zfo_k D c K u n) k
/-- the meaning at work -/
def zfy_p (s : Int → Int) (n t : Int) : Prop := 0 ≤ t ∧ t / 8000 < n ∧ t % 8000 < s (t / 8000)
def zfy_h (A B Z D c : Int → Int) (n m h : Int) : Prop := 0 ≤ h ∧ (0 ≤ B m → B m + 4 * h ≤ 1616) ∧ (B m < 0 → h < Z (zfo_d D c (m / 8000) (A m) n))
def zfy_w (f C s : Int → Int) (t m : Int) : Prop := t ≤ m ∧ m < 8000 * (t / 8000) + s (t / 8000) ∧ f m = 12 ∧ ∀ x, t ≤ x → x < m → 3 ≤ f x ∧ f x ≤ 10 ∧ 1 ≤ C x
def zfy_d (f A B C s H T P Z D c : Int → Int) (t u n : Int) : Prop := zfy_p s n t ∧ (f t = 7 → zfy_h A B Z D c n t (H (10 * (u - 1) + C t))) ∧ (∀ m, zfy_w f C s t m → zfy_h A B Z D c n m (H (10 * (u - 1)))) ∧ ∀ i, 1 ≤ i → i < u → zfy_p s n (T i) ∧ (0 ≤ P i ∧ P i ≤ 7) ∧ ¬ (f (T i) = 7) ∧ ∀ m, zfy_w f C s (T i) m → 1 ≤ P i ∧ zfy_h A B Z D c n m (H (10 * (i - 1)))
def zfm_v (a : Int) (g : Int → Int) : Nat → Int
  | 0 => a
  | k + 1 => 8001 * zfm_v a g k + g ((k : Int) + 1)
def zfm_g (T : Int → Int) (t u i : Int) : Int := if i < u then 8000 - T i % 8000 else if i = u then 8000 - t % 8000 else 0
def zfm_m (f T : Int → Int) (ms t u : Int) : Int := zfm_v (2 * (20001 - ms) + (if f t = 16 then 0 else 1)) (zfm_g T t u) 40
def zfa_d (c K Z P : Int → Int) (u k : Int) : Prop := ∀ v i, 0 ≤ v → v ≤ u → 0 ≤ i → i < c v → i < 64 → (v = u → i < k) → 0 ≤ P (64 * v + i) ∧ P (64 * v + i) ≤ 71999 ∧ P (64 * v + i) + Z (64 * v + i) ≤ 72000
/-- an OUT that waits -/
def zfw_p (f s : Int → Int) (t : Int) : Prop := ∃ m, t ≤ m ∧ m < 8000 * (t / 8000) + s (t / 8000) ∧ (f m = 20 ∨ f m = 0) ∧ ∀ x, t ≤ x → x < m → 3 ≤ f x ∧ f x ≤ 10
noncomputable def zfw_s (f s T : Int → Int) : Nat → Int
  | 0 => 0
  | k + 1 => zfw_s f s T k + zh_b (zfw_p f s (T ((k : Int) + 1)))
noncomputable def zfw_w (f s T : Int → Int) (t u : Int) : Int := zh_b (zfw_p f s t) + zfw_s f s T (u - 1).toNat
/-- further functions by hand (140 ..) -/
def zv_Hi (t : Nat) (w : zz_W) (j : Int) : Int := match t with
  | 140 => zh_b (zc_bd (zh_e w 208) (zh_e w 209) (zh_e w 234) (zh_e w 236) (zh_e w 207 (zv_dg 0 j)) (zv_dg 0 j) (zv_dg 1 j) (zv_dg 2 j))
  | 141 => zh_b (zc_pm (zn_l w 173 (zv_dg 0 j)) (zn_l w 174 (zv_dg 0 j)) (zv_dg 1 j))
  | 142 => zc_xs (zn_l w 173 (zh_e w 256 (zv_dg 0 j))) (zh_e w 257 (zv_dg 0 j)) (zv_dg 1 j) (zv_dg 2 j)
  | 143 => zh_b (zc_wp (zh_e w 177) (zn_l w 173) (zn_l w 174) (zh_e w 256) (zh_e w 257) (zh_e w 178 (zv_dg 0 j)) (40000 * zv_dg 0 j) (zv_dg 1 j) (zv_dg 2 j) (zv_dg 3 j))
  | 144 => zh_b (zh_e w 178 j = 0 ∨ zh_e w 177 (40000 * j + zh_e w 178 j - 1) = 10)
  | 145 => zh_b (zc_nt (zh_e w 177) (40000 * zv_dg 0 j) (zv_dg 1 j) (zv_dg 2 j) (zv_dg 3 j))
  | 146 => zh_b (zc_fn (zh_e w 177) (zh_e w 261) (zh_e w 262) (40000 * zv_dg 0 j) (zh_e w 178 (zv_dg 0 j)) (zv_dg 1 j) (zv_dg 2 j))
  | 147 => zh_b (zc_lw (zh_e w 177) (zn_l w 173) (zn_l w 174) (zh_e w 256) (zh_e w 257) (zh_e w 261) (zh_e w 262) (40000 * zv_dg 1 j) (zv_dg 0 j) (zv_dg 2 j) (zv_dg 3 j))
  | 148 => zh_b (∀ i, 0 ≤ i → i < zv_dg 2 j → zh_e w 263 i = zh_e w 177 (40000 * zv_dg 0 j + zv_dg 1 j + i))
  | 149 => zh_b (∀ i, 0 ≤ i → i < zv_dg 1 j → zc_ws (zh_e w 263 (zv_dg 0 j + i)))
  | 150 => zc_pk (zh_e w 263) (zv_dg 0 j) (zv_dg 1 j).toNat
  | 151 => zh_b (zc_rd (zh_e w 204) (zh_e w 205) (zh_e w 256) (zh_e w 257) (zv_dg 0 j) (zh_e w 203 (zv_dg 0 j)) (zv_dg 1 j))
  | 152 => zy_c (zh_e w 177) (40000 * zv_dg 0 j) (zv_dg 1 j).toNat
  | 153 => zh_b (zc_wn (zh_e w 177) (zn_l w 173) (zn_l w 174) (zh_e w 256) (zh_e w 257) (zh_e w 178 (zv_dg 1 j)) (40000 * zv_dg 1 j) (zv_dg 0 j) (zv_dg 2 j))
  | 154 => zh_b (∀ p, 0 ≤ p → p < zv_dg 0 j → zh_e w 256 p < zv_dg 1 j)
  | 155 => zh_b (∀ i, 0 ≤ i → i + 1 < j → zh_e w 263 i = 46 → zy_ok (zh_e w 263 (i + 1)))
  | 156 => zh_b (zc_cw (zh_e w 263) j)
  | 157 => zh_b (zc_cl (zh_e w 263) (zh_e w 177) (zh_e w 261) (zh_e w 262) (40000 * zv_dg 0 j) (zv_dg 1 j) (zv_dg 2 j))
  | 158 => zh_b (zc_ws (j - 2147483648))
  | 159 => zh_b (zv_dg 1 j ≤ zv_dg 0 j ∨ ¬ zc_ws (zh_e w 263 (zv_dg 0 j)))
  | 160 => zh_b (zc_rx (zh_e w 204) (zh_e w 205) (zh_e w 256) (zh_e w 257) (zv_dg 0 j) (zh_e w 203 (zv_dg 0 j)) (zv_dg 1 j) (zv_dg 2 j) (zv_dg 3 j))
  | 161 => zh_b (zj_dn (zn_l w 173) (zn_l w 174) (zv_dg 0 j) (zv_dg 0 j + 1 + zv_dg 1 j) (zv_dg 2 j))
  | 162 => zh_b (zj_dn (zn_l w 173) (zn_l w 174) (zv_dg 0 j) (zv_dg 0 j + zv_dg 1 j) (zv_dg 2 j))
  | 163 => zh_b (zj_u (zn_l w 173) (zn_l w 174) (j % 4294967296) (j / 4294967296 % 4294967296) (j / 18446744073709551616 % 18446744073709551616 - 9223372036854775808) (j / 18446744073709551616 / 18446744073709551616 - 9223372036854775808))
  | 164 => zh_b (zj_u (zn_l w 173) (zn_l w 174) 0 (j % 4294967296) (j / 4294967296 % 18446744073709551616 - 9223372036854775808) (j / 4294967296 / 18446744073709551616 - 9223372036854775808))
  | 165 => zh_b (zj_ij (zh_e w 220) (zv_dg 0 j) (zv_dg 1 j))
  | 166 => zh_b (zj_c (zh_e w 220) 0 (zv_dg 0 j).toNat ≤ zv_dg 1 j)
  | 167 => zh_b (zv_dg 1 j + zj_c (zh_e w 220) (zv_dg 0 j) (zv_dg 2 j - zv_dg 0 j).toNat ≤ zv_dg 3 j)
  | 168 => zj_s (zh_e w 208) (8000 * zv_dg 0 j) (zv_dg 1 j).toNat
  | 169 => zh_b (zv_dg 1 j = 0 → ∀ u, 0 ≤ u → u < zv_dg 0 j → 1 ≤ zh_e w 176 u → zh_e w 207 u ≤ 8000 → zj_s (zh_e w 208) (8000 * u) (zh_e w 207 u).toNat ≤ 2045)
  | 170 => zh_b (∀ m, zv_dg 0 j ≤ m → m < zv_dg 1 j → m < 125 → zh_e w 220 m = 1)
  | 171 => zj_s (zh_e w 208) (8000 * j) (zh_e w 207 j).toNat
  | 172 => zh_b (zv_dg 1 j = 0 → ∀ u, 0 ≤ u → u < zv_dg 0 j → 1 ≤ zh_e w 176 u → zj_nu (fun k => zh_e w 208 (8000 * u + k)) (fun k => zh_e w 209 (8000 * u + k)) (fun k => zh_e w 210 (8000 * u + k)) (fun k => zh_e w 211 (8000 * u + k)) (fun k => zh_e w 212 (8000 * u + k)) (fun k => zh_e w 214 (64 * u + k)) (fun k => zh_e w 215 (64 * u + k)) (fun k => zh_e w 204 (600 * u + k)) (fun k => zh_e w 205 (600 * u + k)) (zh_e w 207 u) (zh_e w 213 u) (zh_e w 203 u) (zv_dg 2 j))
  | 173 => zh_b (1 ≤ zh_e w 176 (zv_dg 0 j) → zj_rn (fun k => zh_e w 208 (8000 * (zv_dg 0 j) + k)) (fun k => zh_e w 209 (8000 * (zv_dg 0 j) + k)) (fun k => zh_e w 210 (8000 * (zv_dg 0 j) + k)) (fun k => zh_e w 211 (8000 * (zv_dg 0 j) + k)) (fun k => zh_e w 212 (8000 * (zv_dg 0 j) + k)) (fun k => zh_e w 214 (64 * (zv_dg 0 j) + k)) (fun k => zh_e w 215 (64 * (zv_dg 0 j) + k)) (fun k => zh_e w 204 (600 * (zv_dg 0 j) + k)) (fun k => zh_e w 205 (600 * (zv_dg 0 j) + k)) (zh_e w 220) (zh_e w 207 (zv_dg 0 j)) (zh_e w 213 (zv_dg 0 j)) (zh_e w 203 (zv_dg 0 j)) (zv_dg 1 j) (zv_dg 2 j) (zv_dg 3 j) (zv_dg 4 j))
  | 174 => zh_b (∀ u, 0 ≤ u → u < zv_dg 0 j → 1 ≤ zh_e w 176 u → zj_nu (fun k => zh_e w 208 (8000 * u + k)) (fun k => zh_e w 209 (8000 * u + k)) (fun k => zh_e w 210 (8000 * u + k)) (fun k => zh_e w 211 (8000 * u + k)) (fun k => zh_e w 212 (8000 * u + k)) (fun k => zh_e w 214 (64 * u + k)) (fun k => zh_e w 215 (64 * u + k)) (fun k => zh_e w 204 (600 * u + k)) (fun k => zh_e w 205 (600 * u + k)) (zh_e w 207 u) (zh_e w 213 u) (zh_e w 203 u) (if u < zv_dg 1 j then zv_dg 3 j else zv_dg 2 j))
  | 175 => zh_b (∀ u, 0 ≤ u → u < zv_dg 0 j → u ≠ zv_dg 1 j → 1 ≤ zh_e w 176 u → zj_nu (fun k => zh_e w 208 (8000 * u + k)) (fun k => zh_e w 209 (8000 * u + k)) (fun k => zh_e w 210 (8000 * u + k)) (fun k => zh_e w 211 (8000 * u + k)) (fun k => zh_e w 212 (8000 * u + k)) (fun k => zh_e w 214 (64 * u + k)) (fun k => zh_e w 215 (64 * u + k)) (fun k => zh_e w 204 (600 * u + k)) (fun k => zh_e w 205 (600 * u + k)) (zh_e w 207 u) (zh_e w 213 u) (zh_e w 203 u) (if u < zv_dg 1 j then zv_dg 3 j else zv_dg 2 j))
  | 176 => zh_b (zv_dg 1 j = 0 → ∀ u, 0 ≤ u → u < zv_dg 0 j → 1 ≤ zh_e w 176 u → zj_sh (zh_e w 208) (8000 * u) (fun m => zh_e w 215 (64 * u + m)) (fun m => zh_e w 216 (64 * u + m)) (fun m => zh_e w 217 (64 * u + m)) (zh_e w 207 u) (zh_e w 213 u))
  | 177 => zh_b (∀ m, 0 ≤ m → m < zv_dg 1 j → zh_e w 214 (64 * zv_dg 0 j + m) = zh_e w 233 m ∧ zh_e w 215 (64 * zv_dg 0 j + m) = zh_e w 234 m ∧ zh_e w 216 (64 * zv_dg 0 j + m) = zh_e w 235 m ∧ zh_e w 217 (64 * zv_dg 0 j + m) = zh_e w 236 m)
  | 178 => if zv_dg 0 j = 0 then zc_bv (zc_r (zh_e w 208) (zv_dg 3 j) (zv_dg 2 j - zv_dg 3 j).toNat) (zc_m (zh_e w 254) (zv_dg 1 j).toNat) else 0
  | 179 => zh_b (zh_e w 207 j ≤ 0 ∨ zh_e w 208 (8000 * j + zh_e w 207 j - 1) = 1)
  | 180 => zh_b (∀ i, 0 ≤ i → i < zv_dg 0 j → (0 ≤ zh_e w 233 i ∧ zh_e w 233 i < zv_dg 1 j) ∧ (1 ≤ zh_e w 234 i ∧ zh_e w 234 i ≤ 7) ∧ 0 ≤ zh_e w 235 i ∧ zh_e w 235 i ≤ 200)
  | 181 => zh_b (zj_nu (fun k => zh_e w 208 (8000 * (zv_dg 0 j) + k)) (fun k => zh_e w 209 (8000 * (zv_dg 0 j) + k)) (fun k => zh_e w 210 (8000 * (zv_dg 0 j) + k)) (fun k => zh_e w 211 (8000 * (zv_dg 0 j) + k)) (fun k => zh_e w 212 (8000 * (zv_dg 0 j) + k)) (fun k => zh_e w 214 (64 * (zv_dg 0 j) + k)) (fun k => zh_e w 215 (64 * (zv_dg 0 j) + k)) (fun k => zh_e w 204 (600 * (zv_dg 0 j) + k)) (fun k => zh_e w 205 (600 * (zv_dg 0 j) + k)) (zh_e w 207 (zv_dg 0 j)) (zh_e w 213 (zv_dg 0 j)) (zh_e w 203 (zv_dg 0 j)) (zv_dg 2 j))
  | 182 => zh_b (zv_dg 1 j = 0 → ∀ u, 0 ≤ u → u < zv_dg 0 j → 1 ≤ zh_e w 176 u → ∀ k, 0 ≤ k → k < zh_e w 207 u → k < 8000 → zj_nm (zh_e w 208 (8000 * u + k)) → 0 ≤ zh_e w 209 (8000 * u + k) ∧ zh_e w 209 (8000 * u + k) ≤ 65535)
  | 183 => zc_bv (zc_r (zh_e w 208) (8000 * zv_dg 0 j) (zh_e w 207 (zv_dg 0 j)).toNat) (zc_m (zh_e w 254) (zv_dg 1 j).toNat)
  | 184 => zh_b (∀ p, 0 ≤ p → p < j → 0 ≤ zh_e w 256 p)
  | 185 => zh_b (zfl_le (zh_e w 208) (zh_e w 258) (zh_e w 259) (zh_e w 323) (8000 * zv_dg 0 j) (zh_e w 207 (zv_dg 0 j)) (zv_dg 1 j) (zv_dg 2 j) (zv_dg 3 j))
  | 186 => zh_b (∀ u, 0 ≤ u → u < j → ∀ k, 0 ≤ k → k < zh_e w 207 u → k < 8000 → zfl_t (zh_e w 208 (8000 * u + k)) → zfl_g (zh_e w 208) (8000 * u) (zh_e w 207 u) (8000 * u + k) (zh_e w 323 (8000 * u + k)))
  | 187 => zfo_f (zh_e w 214) (64 * zv_dg 0 j) (zv_dg 2 j) (zv_dg 1 j).toNat
  | 188 => zfo_g (zh_e w 214) (zh_e w 213) (zv_dg 1 j) (zv_dg 0 j).toNat
  | 189 => zfo_d (zh_e w 214) (zh_e w 213) (zv_dg 0 j) (zv_dg 1 j) (zv_dg 2 j)
  | 190 => zh_b (∀ u, 0 ≤ u → u < j → 1 ≤ zh_e w 176 u)
  | 191 => zh_b (zfo_m (zh_e w 214) (zh_e w 213) (zh_e w 215) (zh_e w 204) (zh_e w 205) (zh_e w 203) (zv_dg 0 j) (zv_dg 1 j) (zv_dg 2 j))
  | 192 => zh_b (zfo_sm (zh_e w 208) (zh_e w 209) (zh_e w 210) (zh_e w 211) (zh_e w 212) (zh_e w 214) (zh_e w 213) (zh_e w 215) (zh_e w 207) j)
  | 193 => zh_b (zfy_d (zh_e w 208) (zh_e w 209) (zh_e w 210) (zh_e w 211) (zh_e w 207) (zh_e w 327) (zh_e w 324) (zh_e w 325) (zh_e w 216) (zh_e w 214) (zh_e w 213) (zv_dg 0 j) (zv_dg 1 j) (zv_dg 2 j))
  | 194 => zfm_m (zh_e w 208) (zh_e w 324) (zv_dg 0 j) (zv_dg 1 j) (zv_dg 2 j)
  | 195 => zh_b (zfa_d (zh_e w 213) (zh_e w 215) (zh_e w 216) (zh_e w 321) (zv_dg 0 j) (zv_dg 1 j))
  | 196 => zh_b (zv_dg 1 j < zv_dg 0 j ∧ zn_l w 173 (zv_dg 1 j) = 1852399981 ∧ zn_l w 174 (zv_dg 1 j) = 0)
  | 197 => zfw_w (zh_e w 208) (zh_e w 207) (zh_e w 324) (zv_dg 0 j) (zv_dg 1 j)
  | _ => 0
def zv_HRi (t : Nat) : List Nat := match t with
  | 140 => [208, 209, 234, 236, 207]
  | 141 => [173, 174]
  | 142 => [173, 256, 257]
  | 143 => [177, 173, 174, 256, 257, 178]
  | 144 => [178, 177]
  | 145 => [177]
  | 146 => [177, 261, 262, 178]
  | 147 => [177, 173, 174, 256, 257, 261, 262]
  | 148 => [263, 177]
  | 149 => [263]
  | 150 => [263]
  | 151 => [204, 205, 256, 257, 203]
  | 152 => [177]
  | 153 => [177, 173, 174, 256, 257, 178]
  | 154 => [256]
  | 155 => [263]
  | 156 => [263]
  | 157 => [263, 177, 261, 262]
  | 158 => []
  | 159 => [263]
  | 160 => [204, 205, 256, 257, 203]
  | 161 => [173, 174]
  | 162 => [173, 174]
  | 163 => [173, 174]
  | 164 => [173, 174]
  | 165 => [220]
  | 166 => [220]
  | 167 => [220]
  | 168 => [208]
  | 169 => [176, 208, 207]
  | 170 => [220]
  | 171 => [208, 207]
  | 172 => [176, 207, 208, 209, 210, 211, 212, 213, 214, 215, 203, 204, 205]
  | 173 => [176, 207, 208, 209, 210, 211, 212, 213, 214, 215, 203, 204, 205, 220]
  | 174 => [176, 207, 208, 209, 210, 211, 212, 213, 214, 215, 203, 204, 205]
  | 175 => [176, 207, 208, 209, 210, 211, 212, 213, 214, 215, 203, 204, 205]
  | 176 => [176, 208, 207, 213, 215, 216, 217]
  | 177 => [214, 233, 215, 234, 216, 235, 217, 236]
  | 178 => [208, 254]
  | 179 => [207, 208]
  | 180 => [233, 234, 235]
  | 181 => [207, 208, 209, 210, 211, 212, 213, 214, 215, 203, 204, 205]
  | 182 => [176, 207, 208, 209]
  | 183 => [208, 207, 254]
  | 184 => [256]
  | 185 => [208, 258, 259, 323, 207]
  | 186 => [207, 208, 323]
  | 187 => [214]
  | 188 => [214, 213]
  | 189 => [214, 213]
  | 190 => [176]
  | 191 => [214, 213, 215, 204, 205, 203]
  | 192 => [208, 209, 210, 211, 212, 214, 213, 215, 207]
  | 193 => [208, 209, 210, 211, 207, 327, 324, 325, 216, 214, 213]
  | 194 => [208, 324]
  | 195 => [213, 215, 216, 321]
  | 196 => [173, 174]
  | 197 => [208, 207, 324]
  | _ => []
theorem zv_Hi_g {t : Nat} {w w' : zz_W} {j : Int} (h : ∀ r ∈ zv_HRi t, zz_g w' r = zz_g w r) : zv_Hi t w' j = zv_Hi t w j := by
  unfold zv_Hi
  unfold zv_HRi at h
  split
  · rw [zh_e_g (h 208 List.mem_cons_self), zh_e_g (h 209 (List.mem_cons_of_mem _ List.mem_cons_self)), zh_e_g (h 234 (List.mem_cons_of_mem _ (List.mem_cons_of_mem _ List.mem_cons_self))), zh_e_g (h 236 (List.mem_cons_of_mem _ (List.mem_cons_of_mem _ (List.mem_cons_of_mem _ List.mem_cons_self)))), zh_e_g (h 207 (List.mem_cons_of_mem _ (List.mem_cons_of_mem _ (List.mem_cons_of_mem _ (List.mem_cons_of_mem _ List.mem_cons_self)))))]
  · rw [zn_l_g (h 173 List.mem_cons_self), zn_l_g (h 174 (List.mem_cons_of_mem _ List.mem_cons_self))]
  · rw [zn_l_g (h 173 List.mem_cons_self), zh_e_g (h 256 (List.mem_cons_of_mem _ List.mem_cons_self)), zh_e_g (h 257 (List.mem_cons_of_mem _ (List.mem_cons_of_mem _ List.mem_cons_self)))]
  · rw [zh_e_g (h 177 List.mem_cons_self), zn_l_g (h 173 (List.mem_cons_of_mem _ List.mem_cons_self)), zn_l_g (h 174 (List.mem_cons_of_mem _ (List.mem_cons_of_mem _ List.mem_cons_self))), zh_e_g (h 256 (List.mem_cons_of_mem _ (List.mem_cons_of_mem _ (List.mem_cons_of_mem _ List.mem_cons_self)))), zh_e_g (h 257 (List.mem_cons_of_mem _ (List.mem_cons_of_mem _ (List.mem_cons_of_mem _ (List.mem_cons_of_mem _ List.mem_cons_self))))), zh_e_g (h 178 (List.mem_cons_of_mem _ (List.mem_cons_of_mem _ (List.mem_cons_of_mem _ (List.mem_cons_of_mem _ (List.mem_cons_of_mem _ List.mem_cons_self))))))]
  · rw [zh_e_g (h 178 List.mem_cons_self), zh_e_g (h 177 (List.mem_cons_of_mem _ List.mem_cons_self))]
  · rw [zh_e_g (h 177 List.mem_cons_self)]
  · rw [zh_e_g (h 177 List.mem_cons_self), zh_e_g (h 261 (List.mem_cons_of_mem _ List.mem_cons_self)), zh_e_g (h 262 (List.mem_cons_of_mem _ (List.mem_cons_of_mem _ List.mem_cons_self))), zh_e_g (h 178 (List.mem_cons_of_mem _ (List.mem_cons_of_mem _ (List.mem_cons_of_mem _ List.mem_cons_self))))]
  · rw [zh_e_g (h 177 List.mem_cons_self), zn_l_g (h 173 (List.mem_cons_of_mem _ List.mem_cons_self)), zn_l_g (h 174 (List.mem_cons_of_mem _ (List.mem_cons_of_mem _ List.mem_cons_self))), zh_e_g (h 256 (List.mem_cons_of_mem _ (List.mem_cons_of_mem _ (List.mem_cons_of_mem _ List.mem_cons_self)))), zh_e_g (h 257 (List.mem_cons_of_mem _ (List.mem_cons_of_mem _ (List.mem_cons_of_mem _ (List.mem_cons_of_mem _ List.mem_cons_self))))), zh_e_g (h 261 (List.mem_cons_of_mem _ (List.mem_cons_of_mem _ (List.mem_cons_of_mem _ (List.mem_cons_of_mem _ (List.mem_cons_of_mem _ List.mem_cons_self)))))), zh_e_g (h 262 (List.mem_cons_of_mem _ (List.mem_cons_of_mem _ (List.mem_cons_of_mem _ (List.mem_cons_of_mem _ (List.mem_cons_of_mem _ (List.mem_cons_of_mem _ List.mem_cons_self)))))))]
  · rw [zh_e_g (h 263 List.mem_cons_self), zh_e_g (h 177 (List.mem_cons_of_mem _ List.mem_cons_self))]
  · rw [zh_e_g (h 263 List.mem_cons_self)]
  · rw [zh_e_g (h 263 List.mem_cons_self)]
  · rw [zh_e_g (h 204 List.mem_cons_self), zh_e_g (h 205 (List.mem_cons_of_mem _ List.mem_cons_self)), zh_e_g (h 256 (List.mem_cons_of_mem _ (List.mem_cons_of_mem _ List.mem_cons_self))), zh_e_g (h 257 (List.mem_cons_of_mem _ (List.mem_cons_of_mem _ (List.mem_cons_of_mem _ List.mem_cons_self)))), zh_e_g (h 203 (List.mem_cons_of_mem _ (List.mem_cons_of_mem _ (List.mem_cons_of_mem _ (List.mem_cons_of_mem _ List.mem_cons_self)))))]
  · rw [zh_e_g (h 177 List.mem_cons_self)]
  · rw [zh_e_g (h 177 List.mem_cons_self), zn_l_g (h 173 (List.mem_cons_of_mem _ List.mem_cons_self)), zn_l_g (h 174 (List.mem_cons_of_mem _ (List.mem_cons_of_mem _ List.mem_cons_self))), zh_e_g (h 256 (List.mem_cons_of_mem _ (List.mem_cons_of_mem _ (List.mem_cons_of_mem _ List.mem_cons_self)))), zh_e_g (h 257 (List.mem_cons_of_mem _ (List.mem_cons_of_mem _ (List.mem_cons_of_mem _ (List.mem_cons_of_mem _ List.mem_cons_self))))), zh_e_g (h 178 (List.mem_cons_of_mem _ (List.mem_cons_of_mem _ (List.mem_cons_of_mem _ (List.mem_cons_of_mem _ (List.mem_cons_of_mem _ List.mem_cons_self))))))]
  · rw [zh_e_g (h 256 List.mem_cons_self)]
  · rw [zh_e_g (h 263 List.mem_cons_self)]
  · rw [zh_e_g (h 263 List.mem_cons_self)]
  · rw [zh_e_g (h 263 List.mem_cons_self), zh_e_g (h 177 (List.mem_cons_of_mem _ List.mem_cons_self)), zh_e_g (h 261 (List.mem_cons_of_mem _ (List.mem_cons_of_mem _ List.mem_cons_self))), zh_e_g (h 262 (List.mem_cons_of_mem _ (List.mem_cons_of_mem _ (List.mem_cons_of_mem _ List.mem_cons_self))))]
  · rfl
  · rw [zh_e_g (h 263 List.mem_cons_self)]
  · rw [zh_e_g (h 204 List.mem_cons_self), zh_e_g (h 205 (List.mem_cons_of_mem _ List.mem_cons_self)), zh_e_g (h 256 (List.mem_cons_of_mem _ (List.mem_cons_of_mem _ List.mem_cons_self))), zh_e_g (h 257 (List.mem_cons_of_mem _ (List.mem_cons_of_mem _ (List.mem_cons_of_mem _ List.mem_cons_self)))), zh_e_g (h 203 (List.mem_cons_of_mem _ (List.mem_cons_of_mem _ (List.mem_cons_of_mem _ (List.mem_cons_of_mem _ List.mem_cons_self)))))]
  · rw [zn_l_g (h 173 List.mem_cons_self), zn_l_g (h 174 (List.mem_cons_of_mem _ List.mem_cons_self))]
  · rw [zn_l_g (h 173 List.mem_cons_self), zn_l_g (h 174 (List.mem_cons_of_mem _ List.mem_cons_self))]
  · rw [zn_l_g (h 173 List.mem_cons_self), zn_l_g (h 174 (List.mem_cons_of_mem _ List.mem_cons_self))]
  · rw [zn_l_g (h 173 List.mem_cons_self), zn_l_g (h 174 (List.mem_cons_of_mem _ List.mem_cons_self))]
  · rw [zh_e_g (h 220 List.mem_cons_self)]
  · rw [zh_e_g (h 220 List.mem_cons_self)]
  · rw [zh_e_g (h 220 List.mem_cons_self)]
  · rw [zh_e_g (h 208 List.mem_cons_self)]
  · rw [zh_e_g (h 176 List.mem_cons_self), zh_e_g (h 208 (List.mem_cons_of_mem _ List.mem_cons_self)), zh_e_g (h 207 (List.mem_cons_of_mem _ (List.mem_cons_of_mem _ List.mem_cons_self)))]
  · rw [zh_e_g (h 220 List.mem_cons_self)]
  · rw [zh_e_g (h 208 List.mem_cons_self), zh_e_g (h 207 (List.mem_cons_of_mem _ List.mem_cons_self))]
  · rw [zh_e_g (h 176 List.mem_cons_self), zh_e_g (h 207 (List.mem_cons_of_mem _ List.mem_cons_self)), zh_e_g (h 208 (List.mem_cons_of_mem _ (List.mem_cons_of_mem _ List.mem_cons_self))), zh_e_g (h 209 (List.mem_cons_of_mem _ (List.mem_cons_of_mem _ (List.mem_cons_of_mem _ List.mem_cons_self)))), zh_e_g (h 210 (List.mem_cons_of_mem _ (List.mem_cons_of_mem _ (List.mem_cons_of_mem _ (List.mem_cons_of_mem _ List.mem_cons_self))))), zh_e_g (h 211 (List.mem_cons_of_mem _ (List.mem_cons_of_mem _ (List.mem_cons_of_mem _ (List.mem_cons_of_mem _ (List.mem_cons_of_mem _ List.mem_cons_self)))))), zh_e_g (h 212 (List.mem_cons_of_mem _ (List.mem_cons_of_mem _ (List.mem_cons_of_mem _ (List.mem_cons_of_mem _ (List.mem_cons_of_mem _ (List.mem_cons_of_mem _ List.mem_cons_self))))))), zh_e_g (h 213 (List.mem_cons_of_mem _ (List.mem_cons_of_mem _ (List.mem_cons_of_mem _ (List.mem_cons_of_mem _ (List.mem_cons_of_mem _ (List.mem_cons_of_mem _ (List.mem_cons_of_mem _ List.mem_cons_self)))))))), zh_e_g (h 214 (List.mem_cons_of_mem _ (List.mem_cons_of_mem _ (List.mem_cons_of_mem _ (List.mem_cons_of_mem _ (List.mem_cons_of_mem _ (List.mem_cons_of_mem _ (List.mem_cons_of_mem _ (List.mem_cons_of_mem _ List.mem_cons_self))))))))), zh_e_g (h 215 (List.mem_cons_of_mem _ (List.mem_cons_of_mem _ (List.mem_cons_of_mem _ (List.mem_cons_of_mem _ (List.mem_cons_of_mem _ (List.mem_cons_of_mem _ (List.mem_cons_of_mem _ (List.mem_cons_of_mem _ (List.mem_cons_of_mem _ List.mem_cons_self)))))))))), zh_e_g (h 203 (List.mem_cons_of_mem _ (List.mem_cons_of_mem _ (List.mem_cons_of_mem _ (List.mem_cons_of_mem _ (List.mem_cons_of_mem _ (List.mem_cons_of_mem _ (List.mem_cons_of_mem _ (List.mem_cons_of_mem _ (List.mem_cons_of_mem _ (List.mem_cons_of_mem _ List.mem_cons_self))))))))))), zh_e_g (h 204 (List.mem_cons_of_mem _ (List.mem_cons_of_mem _ (List.mem_cons_of_mem _ (List.mem_cons_of_mem _ (List.mem_cons_of_mem _ (List.mem_cons_of_mem _ (List.mem_cons_of_mem _ (List.mem_cons_of_mem _ (List.mem_cons_of_mem _ (List.mem_cons_of_mem _ (List.mem_cons_of_mem _ List.mem_cons_self)))))))))))), zh_e_g (h 205 (List.mem_cons_of_mem _ (List.mem_cons_of_mem _ (List.mem_cons_of_mem _ (List.mem_cons_of_mem _ (List.mem_cons_of_mem _ (List.mem_cons_of_mem _ (List.mem_cons_of_mem _ (List.mem_cons_of_mem _ (List.mem_cons_of_mem _ (List.mem_cons_of_mem _ (List.mem_cons_of_mem _ (List.mem_cons_of_mem _ List.mem_cons_self)))))))))))))]
  · rw [zh_e_g (h 176 List.mem_cons_self), zh_e_g (h 207 (List.mem_cons_of_mem _ List.mem_cons_self)), zh_e_g (h 208 (List.mem_cons_of_mem _ (List.mem_cons_of_mem _ List.mem_cons_self))), zh_e_g (h 209 (List.mem_cons_of_mem _ (List.mem_cons_of_mem _ (List.mem_cons_of_mem _ List.mem_cons_self)))), zh_e_g (h 210 (List.mem_cons_of_mem _ (List.mem_cons_of_mem _ (List.mem_cons_of_mem _ (List.mem_cons_of_mem _ List.mem_cons_self))))), zh_e_g (h 211 (List.mem_cons_of_mem _ (List.mem_cons_of_mem _ (List.mem_cons_of_mem _ (List.mem_cons_of_mem _ (List.mem_cons_of_mem _ List.mem_cons_self)))))), zh_e_g (h 212 (List.mem_cons_of_mem _ (List.mem_cons_of_mem _ (List.mem_cons_of_mem _ (List.mem_cons_of_mem _ (List.mem_cons_of_mem _ (List.mem_cons_of_mem _ List.mem_cons_self))))))), zh_e_g (h 213 (List.mem_cons_of_mem _ (List.mem_cons_of_mem _ (List.mem_cons_of_mem _ (List.mem_cons_of_mem _ (List.mem_cons_of_mem _ (List.mem_cons_of_mem _ (List.mem_cons_of_mem _ List.mem_cons_self)))))))), zh_e_g (h 214 (List.mem_cons_of_mem _ (List.mem_cons_of_mem _ (List.mem_cons_of_mem _ (List.mem_cons_of_mem _ (List.mem_cons_of_mem _ (List.mem_cons_of_mem _ (List.mem_cons_of_mem _ (List.mem_cons_of_mem _ List.mem_cons_self))))))))), zh_e_g (h 215 (List.mem_cons_of_mem _ (List.mem_cons_of_mem _ (List.mem_cons_of_mem _ (List.mem_cons_of_mem _ (List.mem_cons_of_mem _ (List.mem_cons_of_mem _ (List.mem_cons_of_mem _ (List.mem_cons_of_mem _ (List.mem_cons_of_mem _ List.mem_cons_self)))))))))), zh_e_g (h 203 (List.mem_cons_of_mem _ (List.mem_cons_of_mem _ (List.mem_cons_of_mem _ (List.mem_cons_of_mem _ (List.mem_cons_of_mem _ (List.mem_cons_of_mem _ (List.mem_cons_of_mem _ (List.mem_cons_of_mem _ (List.mem_cons_of_mem _ (List.mem_cons_of_mem _ List.mem_cons_self))))))))))), zh_e_g (h 204 (List.mem_cons_of_mem _ (List.mem_cons_of_mem _ (List.mem_cons_of_mem _ (List.mem_cons_of_mem _ (List.mem_cons_of_mem _ (List.mem_cons_of_mem _ (List.mem_cons_of_mem _ (List.mem_cons_of_mem _ (List.mem_cons_of_mem _ (List.mem_cons_of_mem _ (List.mem_cons_of_mem _ List.mem_cons_self)))))))))))), zh_e_g (h 205 (List.mem_cons_of_mem _ (List.mem_cons_of_mem _ (List.mem_cons_of_mem _ (List.mem_cons_of_mem _ (List.mem_cons_of_mem _ (List.mem_cons_of_mem _ (List.mem_cons_of_mem _ (List.mem_cons_of_mem _ (List.mem_cons_of_mem _ (List.mem_cons_of_mem _ (List.mem_cons_of_mem _ (List.mem_cons_of_mem _ List.mem_cons_self))))))))))))), zh_e_g (h 220 (List.mem_cons_of_mem _ (List.mem_cons_of_mem _ (List.mem_cons_of_mem _ (List.mem_cons_of_mem _ (List.mem_cons_of_mem _ (List.mem_cons_of_mem _ (List.mem_cons_of_mem _ (List.mem_cons_of_mem _ (List.mem_cons_of_mem _ (List.mem_cons_of_mem _ (List.mem_cons_of_mem _ (List.mem_cons_of_mem _ (List.mem_cons_of_mem _ List.mem_cons_self))))))))))))))]
  · rw [zh_e_g (h 176 List.mem_cons_self), zh_e_g (h 207 (List.mem_cons_of_mem _ List.mem_cons_self)), zh_e_g (h 208 (List.mem_cons_of_mem _ (List.mem_cons_of_mem _ List.mem_cons_self))), zh_e_g (h 209 (List.mem_cons_of_mem _ (List.mem_cons_of_mem _ (List.mem_cons_of_mem _ List.mem_cons_self)))), zh_e_g (h 210 (List.mem_cons_of_mem _ (List.mem_cons_of_mem _ (List.mem_cons_of_mem _ (List.mem_cons_of_mem _ List.mem_cons_self))))), zh_e_g (h 211 (List.mem_cons_of_mem _ (List.mem_cons_of_mem _ (List.mem_cons_of_mem _ (List.mem_cons_of_mem _ (List.mem_cons_of_mem _ List.mem_cons_self)))))), zh_e_g (h 212 (List.mem_cons_of_mem _ (List.mem_cons_of_mem _ (List.mem_cons_of_mem _ (List.mem_cons_of_mem _ (List.mem_cons_of_mem _ (List.mem_cons_of_mem _ List.mem_cons_self))))))), zh_e_g (h 213 (List.mem_cons_of_mem _ (List.mem_cons_of_mem _ (List.mem_cons_of_mem _ (List.mem_cons_of_mem _ (List.mem_cons_of_mem _ (List.mem_cons_of_mem _ (List.mem_cons_of_mem _ List.mem_cons_self)))))))), zh_e_g (h 214 (List.mem_cons_of_mem _ (List.mem_cons_of_mem _ (List.mem_cons_of_mem _ (List.mem_cons_of_mem _ (List.mem_cons_of_mem _ (List.mem_cons_of_mem _ (List.mem_cons_of_mem _ (List.mem_cons_of_mem _ List.mem_cons_self))))))))), zh_e_g (h 215 (List.mem_cons_of_mem _ (List.mem_cons_of_mem _ (List.mem_cons_of_mem _ (List.mem_cons_of_mem _ (List.mem_cons_of_mem _ (List.mem_cons_of_mem _ (List.mem_cons_of_mem _ (List.mem_cons_of_mem _ (List.mem_cons_of_mem _ List.mem_cons_self)))))))))), zh_e_g (h 203 (List.mem_cons_of_mem _ (List.mem_cons_of_mem _ (List.mem_cons_of_mem _ (List.mem_cons_of_mem _ (List.mem_cons_of_mem _ (List.mem_cons_of_mem _ (List.mem_cons_of_mem _ (List.mem_cons_of_mem _ (List.mem_cons_of_mem _ (List.mem_cons_of_mem _ List.mem_cons_self))))))))))), zh_e_g (h 204 (List.mem_cons_of_mem _ (List.mem_cons_of_mem _ (List.mem_cons_of_mem _ (List.mem_cons_of_mem _ (List.mem_cons_of_mem _ (List.mem_cons_of_mem _ (List.mem_cons_of_mem _ (List.mem_cons_of_mem _ (List.mem_cons_of_mem _ (List.mem_cons_of_mem _ (List.mem_cons_of_mem _ List.mem_cons_self)))))))))))), zh_e_g (h 205 (List.mem_cons_of_mem _ (List.mem_cons_of_mem _ (List.mem_cons_of_mem _ (List.mem_cons_of_mem _ (List.mem_cons_of_mem _ (List.mem_cons_of_mem _ (List.mem_cons_of_mem _ (List.mem_cons_of_mem _ (List.mem_cons_of_mem _ (List.mem_cons_of_mem _ (List.mem_cons_of_mem _ (List.mem_cons_of_mem _ List.mem_cons_self)))))))))))))]
  · rw [zh_e_g (h 176 List.mem_cons_self), zh_e_g (h 207 (List.mem_cons_of_mem _ List.mem_cons_self)), zh_e_g (h 208 (List.mem_cons_of_mem _ (List.mem_cons_of_mem _ List.mem_cons_self))), zh_e_g (h 209 (List.mem_cons_of_mem _ (List.mem_cons_of_mem _ (List.mem_cons_of_mem _ List.mem_cons_self)))), zh_e_g (h 210 (List.mem_cons_of_mem _ (List.mem_cons_of_mem _ (List.mem_cons_of_mem _ (List.mem_cons_of_mem _ List.mem_cons_self))))), zh_e_g (h 211 (List.mem_cons_of_mem _ (List.mem_cons_of_mem _ (List.mem_cons_of_mem _ (List.mem_cons_of_mem _ (List.mem_cons_of_mem _ List.mem_cons_self)))))), zh_e_g (h 212 (List.mem_cons_of_mem _ (List.mem_cons_of_mem _ (List.mem_cons_of_mem _ (List.mem_cons_of_mem _ (List.mem_cons_of_mem _ (List.mem_cons_of_mem _ List.mem_cons_self))))))), zh_e_g (h 213 (List.mem_cons_of_mem _ (List.mem_cons_of_mem _ (List.mem_cons_of_mem _ (List.mem_cons_of_mem _ (List.mem_cons_of_mem _ (List.mem_cons_of_mem _ (List.mem_cons_of_mem _ List.mem_cons_self)))))))), zh_e_g (h 214 (List.mem_cons_of_mem _ (List.mem_cons_of_mem _ (List.mem_cons_of_mem _ (List.mem_cons_of_mem _ (List.mem_cons_of_mem _ (List.mem_cons_of_mem _ (List.mem_cons_of_mem _ (List.mem_cons_of_mem _ List.mem_cons_self))))))))), zh_e_g (h 215 (List.mem_cons_of_mem _ (List.mem_cons_of_mem _ (List.mem_cons_of_mem _ (List.mem_cons_of_mem _ (List.mem_cons_of_mem _ (List.mem_cons_of_mem _ (List.mem_cons_of_mem _ (List.mem_cons_of_mem _ (List.mem_cons_of_mem _ List.mem_cons_self)))))))))), zh_e_g (h 203 (List.mem_cons_of_mem _ (List.mem_cons_of_mem _ (List.mem_cons_of_mem _ (List.mem_cons_of_mem _ (List.mem_cons_of_mem _ (List.mem_cons_of_mem _ (List.mem_cons_of_mem _ (List.mem_cons_of_mem _ (List.mem_cons_of_mem _ (List.mem_cons_of_mem _ List.mem_cons_self))))))))))), zh_e_g (h 204 (List.mem_cons_of_mem _ (List.mem_cons_of_mem _ (List.mem_cons_of_mem _ (List.mem_cons_of_mem _ (List.mem_cons_of_mem _ (List.mem_cons_of_mem _ (List.mem_cons_of_mem _ (List.mem_cons_of_mem _ (List.mem_cons_of_mem _ (List.mem_cons_of_mem _ (List.mem_cons_of_mem _ List.mem_cons_self)))))))))))), zh_e_g (h 205 (List.mem_cons_of_mem _ (List.mem_cons_of_mem _ (List.mem_cons_of_mem _ (List.mem_cons_of_mem _ (List.mem_cons_of_mem _ (List.mem_cons_of_mem _ (List.mem_cons_of_mem _ (List.mem_cons_of_mem _ (List.mem_cons_of_mem _ (List.mem_cons_of_mem _ (List.mem_cons_of_mem _ (List.mem_cons_of_mem _ List.mem_cons_self)))))))))))))]
  · rw [zh_e_g (h 176 List.mem_cons_self), zh_e_g (h 208 (List.mem_cons_of_mem _ List.mem_cons_self)), zh_e_g (h 207 (List.mem_cons_of_mem _ (List.mem_cons_of_mem _ List.mem_cons_self))), zh_e_g (h 213 (List.mem_cons_of_mem _ (List.mem_cons_of_mem _ (List.mem_cons_of_mem _ List.mem_cons_self)))), zh_e_g (h 215 (List.mem_cons_of_mem _ (List.mem_cons_of_mem _ (List.mem_cons_of_mem _ (List.mem_cons_of_mem _ List.mem_cons_self))))), zh_e_g (h 216 (List.mem_cons_of_mem _ (List.mem_cons_of_mem _ (List.mem_cons_of_mem _ (List.mem_cons_of_mem _ (List.mem_cons_of_mem _ List.mem_cons_self)))))), zh_e_g (h 217 (List.mem_cons_of_mem _ (List.mem_cons_of_mem _ (List.mem_cons_of_mem _ (List.mem_cons_of_mem _ (List.mem_cons_of_mem _ (List.mem_cons_of_mem _ List.mem_cons_self)))))))]
  · rw [zh_e_g (h 214 List.mem_cons_self), zh_e_g (h 233 (List.mem_cons_of_mem _ List.mem_cons_self)), zh_e_g (h 215 (List.mem_cons_of_mem _ (List.mem_cons_of_mem _ List.mem_cons_self))), zh_e_g (h 234 (List.mem_cons_of_mem _ (List.mem_cons_of_mem _ (List.mem_cons_of_mem _ List.mem_cons_self)))), zh_e_g (h 216 (List.mem_cons_of_mem _ (List.mem_cons_of_mem _ (List.mem_cons_of_mem _ (List.mem_cons_of_mem _ List.mem_cons_self))))), zh_e_g (h 235 (List.mem_cons_of_mem _ (List.mem_cons_of_mem _ (List.mem_cons_of_mem _ (List.mem_cons_of_mem _ (List.mem_cons_of_mem _ List.mem_cons_self)))))), zh_e_g (h 217 (List.mem_cons_of_mem _ (List.mem_cons_of_mem _ (List.mem_cons_of_mem _ (List.mem_cons_of_mem _ (List.mem_cons_of_mem _ (List.mem_cons_of_mem _ List.mem_cons_self))))))), zh_e_g (h 236 (List.mem_cons_of_mem _ (List.mem_cons_of_mem _ (List.mem_cons_of_mem _ (List.mem_cons_of_mem _ (List.mem_cons_of_mem _ (List.mem_cons_of_mem _ (List.mem_cons_of_mem _ List.mem_cons_self))))))))]
  · rw [zh_e_g (h 208 List.mem_cons_self), zh_e_g (h 254 (List.mem_cons_of_mem _ List.mem_cons_self))]
  · rw [zh_e_g (h 207 List.mem_cons_self), zh_e_g (h 208 (List.mem_cons_of_mem _ List.mem_cons_self))]
  · rw [zh_e_g (h 233 List.mem_cons_self), zh_e_g (h 234 (List.mem_cons_of_mem _ List.mem_cons_self)), zh_e_g (h 235 (List.mem_cons_of_mem _ (List.mem_cons_of_mem _ List.mem_cons_self)))]
  · rw [zh_e_g (h 207 List.mem_cons_self), zh_e_g (h 208 (List.mem_cons_of_mem _ List.mem_cons_self)), zh_e_g (h 209 (List.mem_cons_of_mem _ (List.mem_cons_of_mem _ List.mem_cons_self))), zh_e_g (h 210 (List.mem_cons_of_mem _ (List.mem_cons_of_mem _ (List.mem_cons_of_mem _ List.mem_cons_self)))), zh_e_g (h 211 (List.mem_cons_of_mem _ (List.mem_cons_of_mem _ (List.mem_cons_of_mem _ (List.mem_cons_of_mem _ List.mem_cons_self))))), zh_e_g (h 212 (List.mem_cons_of_mem _ (List.mem_cons_of_mem _ (List.mem_cons_of_mem _ (List.mem_cons_of_mem _ (List.mem_cons_of_mem _ List.mem_cons_self)))))), zh_e_g (h 213 (List.mem_cons_of_mem _ (List.mem_cons_of_mem _ (List.mem_cons_of_mem _ (List.mem_cons_of_mem _ (List.mem_cons_of_mem _ (List.mem_cons_of_mem _ List.mem_cons_self))))))), zh_e_g (h 214 (List.mem_cons_of_mem _ (List.mem_cons_of_mem _ (List.mem_cons_of_mem _ (List.mem_cons_of_mem _ (List.mem_cons_of_mem _ (List.mem_cons_of_mem _ (List.mem_cons_of_mem _ List.mem_cons_self)))))))), zh_e_g (h 215 (List.mem_cons_of_mem _ (List.mem_cons_of_mem _ (List.mem_cons_of_mem _ (List.mem_cons_of_mem _ (List.mem_cons_of_mem _ (List.mem_cons_of_mem _ (List.mem_cons_of_mem _ (List.mem_cons_of_mem _ List.mem_cons_self))))))))), zh_e_g (h 203 (List.mem_cons_of_mem _ (List.mem_cons_of_mem _ (List.mem_cons_of_mem _ (List.mem_cons_of_mem _ (List.mem_cons_of_mem _ (List.mem_cons_of_mem _ (List.mem_cons_of_mem _ (List.mem_cons_of_mem _ (List.mem_cons_of_mem _ List.mem_cons_self)))))))))), zh_e_g (h 204 (List.mem_cons_of_mem _ (List.mem_cons_of_mem _ (List.mem_cons_of_mem _ (List.mem_cons_of_mem _ (List.mem_cons_of_mem _ (List.mem_cons_of_mem _ (List.mem_cons_of_mem _ (List.mem_cons_of_mem _ (List.mem_cons_of_mem _ (List.mem_cons_of_mem _ List.mem_cons_self))))))))))), zh_e_g (h 205 (List.mem_cons_of_mem _ (List.mem_cons_of_mem _ (List.mem_cons_of_mem _ (List.mem_cons_of_mem _ (List.mem_cons_of_mem _ (List.mem_cons_of_mem _ (List.mem_cons_of_mem _ (List.mem_cons_of_mem _ (List.mem_cons_of_mem _ (List.mem_cons_of_mem _ (List.mem_cons_of_mem _ List.mem_cons_self))))))))))))]
  · rw [zh_e_g (h 176 List.mem_cons_self), zh_e_g (h 207 (List.mem_cons_of_mem _ List.mem_cons_self)), zh_e_g (h 208 (List.mem_cons_of_mem _ (List.mem_cons_of_mem _ List.mem_cons_self))), zh_e_g (h 209 (List.mem_cons_of_mem _ (List.mem_cons_of_mem _ (List.mem_cons_of_mem _ List.mem_cons_self))))]
  · rw [zh_e_g (h 208 List.mem_cons_self), zh_e_g (h 207 (List.mem_cons_of_mem _ List.mem_cons_self)), zh_e_g (h 254 (List.mem_cons_of_mem _ (List.mem_cons_of_mem _ List.mem_cons_self)))]
  · rw [zh_e_g (h 256 List.mem_cons_self)]
  · rw [zh_e_g (h 208 List.mem_cons_self), zh_e_g (h 258 (List.mem_cons_of_mem _ List.mem_cons_self)), zh_e_g (h 259 (List.mem_cons_of_mem _ (List.mem_cons_of_mem _ List.mem_cons_self))), zh_e_g (h 323 (List.mem_cons_of_mem _ (List.mem_cons_of_mem _ (List.mem_cons_of_mem _ List.mem_cons_self)))), zh_e_g (h 207 (List.mem_cons_of_mem _ (List.mem_cons_of_mem _ (List.mem_cons_of_mem _ (List.mem_cons_of_mem _ List.mem_cons_self)))))]
  · rw [zh_e_g (h 207 List.mem_cons_self), zh_e_g (h 208 (List.mem_cons_of_mem _ List.mem_cons_self)), zh_e_g (h 323 (List.mem_cons_of_mem _ (List.mem_cons_of_mem _ List.mem_cons_self)))]
  · rw [zh_e_g (h 214 List.mem_cons_self)]
  · rw [zh_e_g (h 214 List.mem_cons_self), zh_e_g (h 213 (List.mem_cons_of_mem _ List.mem_cons_self))]
  · rw [zh_e_g (h 214 List.mem_cons_self), zh_e_g (h 213 (List.mem_cons_of_mem _ List.mem_cons_self))]
  · rw [zh_e_g (h 176 List.mem_cons_self)]
  · rw [zh_e_g (h 214 List.mem_cons_self), zh_e_g (h 213 (List.mem_cons_of_mem _ List.mem_cons_self)), zh_e_g (h 215 (List.mem_cons_of_mem _ (List.mem_cons_of_mem _ List.mem_cons_self))), zh_e_g (h 204 (List.mem_cons_of_mem _ (List.mem_cons_of_mem _ (List.mem_cons_of_mem _ List.mem_cons_self)))), zh_e_g (h 205 (List.mem_cons_of_mem _ (List.mem_cons_of_mem _ (List.mem_cons_of_mem _ (List.mem_cons_of_mem _ List.mem_cons_self))))), zh_e_g (h 203 (List.mem_cons_of_mem _ (List.mem_cons_of_mem _ (List.mem_cons_of_mem _ (List.mem_cons_of_mem _ (List.mem_cons_of_mem _ List.mem_cons_self))))))]
  · rw [zh_e_g (h 208 List.mem_cons_self), zh_e_g (h 209 (List.mem_cons_of_mem _ List.mem_cons_self)), zh_e_g (h 210 (List.mem_cons_of_mem _ (List.mem_cons_of_mem _ List.mem_cons_self))), zh_e_g (h 211 (List.mem_cons_of_mem _ (List.mem_cons_of_mem _ (List.mem_cons_of_mem _ List.mem_cons_self)))), zh_e_g (h 212 (List.mem_cons_of_mem _ (List.mem_cons_of_mem _ (List.mem_cons_of_mem _ (List.mem_cons_of_mem _ List.mem_cons_self))))), zh_e_g (h 214 (List.mem_cons_of_mem _ (List.mem_cons_of_mem _ (List.mem_cons_of_mem _ (List.mem_cons_of_mem _ (List.mem_cons_of_mem _ List.mem_cons_self)))))), zh_e_g (h 213 (List.mem_cons_of_mem _ (List.mem_cons_of_mem _ (List.mem_cons_of_mem _ (List.mem_cons_of_mem _ (List.mem_cons_of_mem _ (List.mem_cons_of_mem _ List.mem_cons_self))))))), zh_e_g (h 215 (List.mem_cons_of_mem _ (List.mem_cons_of_mem _ (List.mem_cons_of_mem _ (List.mem_cons_of_mem _ (List.mem_cons_of_mem _ (List.mem_cons_of_mem _ (List.mem_cons_of_mem _ List.mem_cons_self)))))))), zh_e_g (h 207 (List.mem_cons_of_mem _ (List.mem_cons_of_mem _ (List.mem_cons_of_mem _ (List.mem_cons_of_mem _ (List.mem_cons_of_mem _ (List.mem_cons_of_mem _ (List.mem_cons_of_mem _ (List.mem_cons_of_mem _ List.mem_cons_self)))))))))]
  · rw [zh_e_g (h 208 List.mem_cons_self), zh_e_g (h 209 (List.mem_cons_of_mem _ List.mem_cons_self)), zh_e_g (h 210 (List.mem_cons_of_mem _ (List.mem_cons_of_mem _ List.mem_cons_self))), zh_e_g (h 211 (List.mem_cons_of_mem _ (List.mem_cons_of_mem _ (List.mem_cons_of_mem _ List.mem_cons_self)))), zh_e_g (h 207 (List.mem_cons_of_mem _ (List.mem_cons_of_mem _ (List.mem_cons_of_mem _ (List.mem_cons_of_mem _ List.mem_cons_self))))), zh_e_g (h 327 (List.mem_cons_of_mem _ (List.mem_cons_of_mem _ (List.mem_cons_of_mem _ (List.mem_cons_of_mem _ (List.mem_cons_of_mem _ List.mem_cons_self)))))), zh_e_g (h 324 (List.mem_cons_of_mem _ (List.mem_cons_of_mem _ (List.mem_cons_of_mem _ (List.mem_cons_of_mem _ (List.mem_cons_of_mem _ (List.mem_cons_of_mem _ List.mem_cons_self))))))), zh_e_g (h 325 (List.mem_cons_of_mem _ (List.mem_cons_of_mem _ (List.mem_cons_of_mem _ (List.mem_cons_of_mem _ (List.mem_cons_of_mem _ (List.mem_cons_of_mem _ (List.mem_cons_of_mem _ List.mem_cons_self)))))))), zh_e_g (h 216 (List.mem_cons_of_mem _ (List.mem_cons_of_mem _ (List.mem_cons_of_mem _ (List.mem_cons_of_mem _ (List.mem_cons_of_mem _ (List.mem_cons_of_mem _ (List.mem_cons_of_mem _ (List.mem_cons_of_mem _ List.mem_cons_self))))))))), zh_e_g (h 214 (List.mem_cons_of_mem _ (List.mem_cons_of_mem _ (List.mem_cons_of_mem _ (List.mem_cons_of_mem _ (List.mem_cons_of_mem _ (List.mem_cons_of_mem _ (List.mem_cons_of_mem _ (List.mem_cons_of_mem _ (List.mem_cons_of_mem _ List.mem_cons_self)))))))))), zh_e_g (h 213 (List.mem_cons_of_mem _ (List.mem_cons_of_mem _ (List.mem_cons_of_mem _ (List.mem_cons_of_mem _ (List.mem_cons_of_mem _ (List.mem_cons_of_mem _ (List.mem_cons_of_mem _ (List.mem_cons_of_mem _ (List.mem_cons_of_mem _ (List.mem_cons_of_mem _ List.mem_cons_self)))))))))))]
  · rw [zh_e_g (h 208 List.mem_cons_self), zh_e_g (h 324 (List.mem_cons_of_mem _ List.mem_cons_self))]
  · rw [zh_e_g (h 213 List.mem_cons_self), zh_e_g (h 215 (List.mem_cons_of_mem _ List.mem_cons_self)), zh_e_g (h 216 (List.mem_cons_of_mem _ (List.mem_cons_of_mem _ List.mem_cons_self))), zh_e_g (h 321 (List.mem_cons_of_mem _ (List.mem_cons_of_mem _ (List.mem_cons_of_mem _ List.mem_cons_self))))]
  · rw [zn_l_g (h 173 List.mem_cons_self), zn_l_g (h 174 (List.mem_cons_of_mem _ List.mem_cons_self))]
  · rw [zh_e_g (h 208 List.mem_cons_self), zh_e_g (h 207 (List.mem_cons_of_mem _ List.mem_cons_self)), zh_e_g (h 324 (List.mem_cons_of_mem _ (List.mem_cons_of_mem _ List.mem_cons_self)))]
  · rfl
def zv_H (t : Nat) (w : zz_W) (j : Int) : Int := cond (Nat.blt t 100) (zv_Hh t w j) (cond (Nat.blt t 200) (cond (Nat.blt t 140) (zh_b (zq_P (zq_T (t - 100)) w (zq_dec (zq_T (t - 100)).2.2.1 j))) (zv_Hi t w j)) (zh_b (zu_P (zu_T (t - 200)) w (zq_dec (zu_T (t - 200)).2.2.1 j))))
def zv_HR (t : Nat) : List Nat := cond (Nat.blt t 100) (zv_HRh t) (cond (Nat.blt t 200) (cond (Nat.blt t 140) (zq_T (t - 100)).1 (zv_HRi t)) ((zu_T (t - 200)).1.map (fun q => q.1)))
theorem zv_cF {α : Type} {x y : α} : cond false x y = y := rfl
theorem zv_cT {α : Type} {x y : α} : cond true x y = x := rfl
theorem zv_H_g {t : Nat} {w w' : zz_W} {j : Int} (h : ∀ r ∈ zv_HR t, zz_g w' r = zz_g w r) : zv_H t w' j = zv_H t w j := by
  cases hb : Nat.blt t 100 with
  | true =>
    have e1 : zv_HR t = zv_HRh t := by
      unfold zv_HR
      rw [hb, zv_cT]
    have e2 : ∀ v, zv_H t v j = zv_Hh t v j := fun v => by
      unfold zv_H
      rw [hb, zv_cT]
    rw [e1] at h
    rw [e2, e2]
    exact zv_Hh_g h
  | false =>
    cases h2 : Nat.blt t 200 with
    | true =>
      cases h3 : Nat.blt t 140 with
      | true =>
        have e1 : zv_HR t = (zq_T (t - 100)).1 := by
          unfold zv_HR
          rw [hb, h2, h3, zv_cF, zv_cT, zv_cT]
        have e2 : ∀ v, zv_H t v j = zh_b (zq_P (zq_T (t - 100)) v (zq_dec (zq_T (t - 100)).2.2.1 j)) := fun v => by
          unfold zv_H
          rw [hb, h2, h3, zv_cF, zv_cT, zv_cT]
        rw [e1] at h
        rw [e2, e2]
        generalize t - 100 = u at h ⊢
        exact congrArg zh_b (zq_P_g h)
      | false =>
        have e1 : zv_HR t = zv_HRi t := by
          unfold zv_HR
          rw [hb, h2, h3, zv_cF, zv_cT, zv_cF]
        have e2 : ∀ v, zv_H t v j = zv_Hi t v j := fun v => by
          unfold zv_H
          rw [hb, h2, h3, zv_cF, zv_cT, zv_cF]
        rw [e1] at h
        rw [e2, e2]
        exact zv_Hi_g h
    | false =>
      have e1 : zv_HR t = (zu_T (t - 200)).1.map (fun q => q.1) := by
        unfold zv_HR
        rw [hb, h2, zv_cF, zv_cF]
      have e2 : ∀ v, zv_H t v j = zh_b (zu_P (zu_T (t - 200)) v (zq_dec (zu_T (t - 200)).2.2.1 j)) := fun v => by
        unfold zv_H
        rw [hb, h2, zv_cF, zv_cF]
      rw [e1] at h
      rw [e2, e2]
      generalize t - 200 = u at h ⊢
      exact congrArg zh_b (zu_P_g h)
theorem zv_bltF {a b : Nat} (h : b ≤ a) : Nat.blt a b = false := by
  cases hb : Nat.blt a b with
  | true => exact absurd (zz_blt hb) (by omega)
  | false => rfl
theorem zv_H_q {t : Nat} {w : zz_W} {j : Int} (ht : t < 40) : zv_H (100 + t) w j = zh_b (zq_P (zq_T t) w (zq_dec (zq_T t).2.2.1 j)) := by
  unfold zv_H
  rw [zv_bltF (show 100 ≤ 100 + t by omega), show Nat.blt (100 + t) 200 = true from Nat.ble_eq.mpr (by omega), show Nat.blt (100 + t) 140 = true from Nat.ble_eq.mpr (by omega), zv_cF, zv_cT, zv_cT, Nat.add_sub_cancel_left]
theorem zv_H_u {t : Nat} {w : zz_W} {j : Int} : zv_H (200 + t) w j = zh_b (zu_P (zu_T t) w (zq_dec (zu_T t).2.2.1 j)) := by
  unfold zv_H
  rw [zv_bltF (show 100 ≤ 200 + t by omega), zv_bltF (show 200 ≤ 200 + t by omega), zv_cF, zv_cF, Nat.add_sub_cancel_left]
/-! rows of longs: their elements as a function's values; functions that speak of them ahead of their place alone -/
def zv_LF (i : Nat) : Option Nat := cond (Nat.beq i 44) (some 18) (cond (Nat.beq i 173) (some 82) (cond (Nat.beq i 174) (some 83) none))
theorem zv_LF_ok {i t : Nat} {w : zz_W} {j : Int} (h : zv_LF i = some t) : zv_H t w j = zk_lel w i j.toNat := by
  unfold zv_LF at h
  cases hb : Nat.beq i 44 with
  | true =>
    rw [hb] at h
    cases h
    rw [zz_beq hb]
    rfl
  | false =>
    rw [hb] at h
    have h : cond (Nat.beq i 173) (some 82) (cond (Nat.beq i 174) (some 83) none) = some t := h
    cases hb2 : Nat.beq i 173 with
    | true =>
      rw [hb2] at h
      cases h
      rw [zz_beq hb2]
      rfl
    | false =>
      rw [hb2] at h
      have h : cond (Nat.beq i 174) (some 83) none = some t := h
      cases hb3 : Nat.beq i 174 with
      | true =>
        rw [hb3] at h
        cases h
        rw [zz_beq hb3]
        rfl
      | false =>
        rw [hb3] at h
        cases h
def zv_LP (t i : Nat) : Bool := Nat.beq t 17 && Nat.beq i 44
theorem zv_LP_ok {t i : Nat} {w w' : zz_W} {j p : Int} (h : zv_LP t i = true) (hw : zk_rL i j w w') (hp : p ≤ j) : zv_H t w' p = zv_H t w p := by
  obtain ⟨h1, h2⟩ := zz_and h
  have h1 := zz_beq h1
  have h2 := zz_beq h2
  subst h1
  subst h2
  have e1 : zh_f w' 41 = zh_f w 41 := zh_f_g (hw.1 41 (by decide))
  have e2 : zh_f w' 42 = zh_f w 42 := zh_f_g (hw.1 42 (by decide))
  show zh_b (zh_ods (zh_f w' 41) (zh_f w' 42) (zk_lel w' 44) p) = zh_b (zh_ods (zh_f w 41) (zh_f w 42) (zk_lel w 44) p)
  rw [e1, e2]
  have e : zh_ods (zh_f w 41) (zh_f w 42) (zk_lel w' 44) p = zh_ods (zh_f w 41) (zh_f w 42) (zk_lel w 44) p := propext ⟨fun h i hi => by
    have := h i hi
    rw [hw.2 i (by omega)] at this
    exact this, fun h i hi => by
    have := h i hi
    rw [← hw.2 i (by omega)] at this
    exact this⟩
  rw [e]
/-! functions that speak of a row of longs ahead of the first digit of their place alone -/
def zv_LQ (t i : Nat) : Bool := (Nat.beq t 196 || (Nat.beq t 153 || ((Nat.beq t 84 || Nat.beq t 85) || (Nat.beq t 89 || Nat.beq t 90)))) && (Nat.beq i 173 || Nat.beq i 174)
theorem zn_l_w {w w' : zz_W} {i r : Nat} {j n : Int} (hw : zk_rL i j w w') (hp : n ≤ j) (p : Int) (p0 : 0 ≤ p) (p1 : p < n) : zn_l w' r p = zn_l w r p := by
  show zk_lel w' r p.toNat = zk_lel w r p.toNat
  by_cases hr : r = i
  · subst hr
    exact hw.2 p.toNat (by omega)
  · rw [zh_l_g (hw.1 r hr)]
theorem zs_nm_c {A B T A' B' : Int → Int} {n : Int} (hA : ∀ p, 0 ≤ p → p < n → A' p = A p) (hB : ∀ p, 0 ≤ p → p < n → B' p = B p) (h : zs_nm A B T n) : zs_nm A' B' T n := by
  obtain ⟨h1, h2, h3⟩ := h
  refine ⟨fun i i0 i1 => ?_, fun i k i0 ik kn e1 e2 => ?_, fun i i0 i1 i2 => ?_⟩
  · rw [hA i i0 i1, hB i i0 i1]
    exact h1 i i0 i1
  · rw [hA i i0 (by omega), hA k (by omega) kn] at e1
    rw [hB i i0 (by omega), hB k (by omega) kn] at e2
    exact h2 i k i0 ik kn e1 e2
  · rw [hA i i0 i1, hB i i0 i1]
    exact h3 i i0 i1 i2
theorem zs_wk_c {A B T A' B' : Int → Int} {n k m a b : Int} (hA : ∀ p, 0 ≤ p → p < n → A' p = A p) (hB : ∀ p, 0 ≤ p → p < n → B' p = B p) (h : zs_wk A B T n k m a b) : zs_wk A' B' T n k m a b := by
  obtain ⟨h1, h2, h3⟩ := h
  refine ⟨h1, h2, fun e e0 e1 => ?_⟩
  obtain ⟨q1, q2⟩ := h3 e e0 e1
  refine ⟨q1, fun l x y => ?_⟩
  rw [hA _ (by omega) (by omega)] at x
  rw [hB _ (by omega) (by omega)] at y
  exact q2 l x y
theorem zc_wn_c {T A B O Q A' B' : Int → Int} {z b N o : Int} (hA : ∀ p, 0 ≤ p → p < N → A' p = A p) (hB : ∀ p, 0 ≤ p → p < N → B' p = B p) (h : zc_wn T A B O Q z b N o) : zc_wn T A' B' O Q z b N o := by
  obtain ⟨⟨F, f0, f1, f2, f3, f4⟩, h2⟩ := h
  refine ⟨⟨F, f0, f1, fun p p0 p1 => ?_, f3, fun i i0 i1 => by omega⟩, h2⟩
  obtain ⟨k, k1, r1, r2, r3, r4, r5⟩ := f2 p p0 p1
  have q1 := h2 p p0 p1
  refine ⟨k, k1, r1, ?_, r3, r4, fun i i0 i1 => ?_⟩
  · rw [hA _ r1 q1, hB _ r1 q1]
    exact r2
  · rw [hA _ r1 q1]
    exact r5 i i0 i1
theorem zv_LQ_ok {t i : Nat} {w w' : zz_W} {j p : Int} (h : zv_LQ t i = true) (hw : zk_rL i j w w') (hp : p % 4294967296 ≤ j) : zv_H t w' p = zv_H t w p := by
  obtain ⟨h1, h2⟩ := zz_and h
  have hi : i = 173 ∨ i = 174 := by
    cases hb : Nat.beq i 173 with
    | true => exact Or.inl (zz_beq hb)
    | false =>
      rw [hb] at h2
      exact Or.inr (zz_beq (show Nat.beq i 174 = true from h2))
  have hT : zh_e w' 175 = zh_e w 175 := zh_e_g (hw.1 175 (by rcases hi with e | e <;> rw [e] <;> decide))
  have hTk : zh_e w' 221 = zh_e w 221 := zh_e_g (hw.1 221 (by rcases hi with e | e <;> rw [e] <;> decide))
  have hTv : zh_e w' 223 = zh_e w 223 := zh_e_g (hw.1 223 (by rcases hi with e | e <;> rw [e] <;> decide))
  have gA := fun (p : Int) (p0 : 0 ≤ p) => zn_l_w (r := 173) hw hp p p0
  have gB := fun (p : Int) (p0 : 0 ≤ p) => zn_l_w (r := 174) hw hp p p0
  cases bm : Nat.beq t 196 with
  | true =>
    rw [zz_beq bm]
    have d1 : 0 ≤ zv_dg 1 p := by
      show 0 ≤ p / 4294967296 % 4294967296
      omega
    show zh_b (zv_dg 1 p < p % 4294967296 ∧ zn_l w' 173 (zv_dg 1 p) = 1852399981 ∧ zn_l w' 174 (zv_dg 1 p) = 0) = zh_b (zv_dg 1 p < p % 4294967296 ∧ zn_l w 173 (zv_dg 1 p) = 1852399981 ∧ zn_l w 174 (zv_dg 1 p) = 0)
    refine congrArg zh_b (propext ⟨fun h => ⟨h.1, ?_, ?_⟩, fun h => ⟨h.1, ?_, ?_⟩⟩)
    · rw [← gA _ d1 h.1]
      exact h.2.1
    · rw [← gB _ d1 h.1]
      exact h.2.2
    · rw [gA _ d1 h.1]
      exact h.2.1
    · rw [gB _ d1 h.1]
      exact h.2.2
  | false =>
  rw [bm] at h1
  have h1 : (Nat.beq t 153 || ((Nat.beq t 84 || Nat.beq t 85) || (Nat.beq t 89 || Nat.beq t 90))) = true := h1
  cases b0 : Nat.beq t 153 with
  | true =>
    have hO : zh_e w' 256 = zh_e w 256 := zh_e_g (hw.1 256 (by rcases hi with e | e <;> rw [e] <;> decide))
    have hK : zh_e w' 257 = zh_e w 257 := zh_e_g (hw.1 257 (by rcases hi with e | e <;> rw [e] <;> decide))
    have hS : zh_e w' 178 = zh_e w 178 := zh_e_g (hw.1 178 (by rcases hi with e | e <;> rw [e] <;> decide))
    have hY : zh_e w' 177 = zh_e w 177 := zh_e_g (hw.1 177 (by rcases hi with e | e <;> rw [e] <;> decide))
    rw [zz_beq b0]
    show zh_b (zc_wn (zh_e w' 177) (zn_l w' 173) (zn_l w' 174) (zh_e w' 256) (zh_e w' 257) (zh_e w' 178 (zv_dg 1 p)) (40000 * zv_dg 1 p) (p % 4294967296) (zv_dg 2 p)) = zh_b (zc_wn (zh_e w 177) (zn_l w 173) (zn_l w 174) (zh_e w 256) (zh_e w 257) (zh_e w 178 (zv_dg 1 p)) (40000 * zv_dg 1 p) (p % 4294967296) (zv_dg 2 p))
    rw [hO, hK, hS, hY]
    exact congrArg zh_b (propext ⟨zc_wn_c (fun q a b => (gA q a b).symm) (fun q a b => (gB q a b).symm), zc_wn_c gA gB⟩)
  | false =>
  rw [b0] at h1
  have h1 : ((Nat.beq t 84 || Nat.beq t 85) || (Nat.beq t 89 || Nat.beq t 90)) = true := h1
  have ht : t = 84 ∨ t = 85 ∨ t = 89 ∨ t = 90 := by
    cases b1 : Nat.beq t 84 with
    | true => exact Or.inl (zz_beq b1)
    | false =>
      cases b2 : Nat.beq t 85 with
      | true => exact Or.inr (Or.inl (zz_beq b2))
      | false =>
        cases b3 : Nat.beq t 89 with
        | true => exact Or.inr (Or.inr (Or.inl (zz_beq b3)))
        | false =>
          rw [b1, b2, b3] at h1
          exact Or.inr (Or.inr (Or.inr (zz_beq (show Nat.beq t 90 = true from h1))))
  rcases ht with e | e | e | e
  · rw [e]
    show zh_b (zs_nm (zn_l w' 173) (zn_l w' 174) (zh_e w' 175) (p % 4294967296)) = zh_b (zs_nm (zn_l w 173) (zn_l w 174) (zh_e w 175) (p % 4294967296))
    rw [hT]
    exact congrArg zh_b (propext ⟨zs_nm_c (fun q a b => (gA q a b).symm) (fun q a b => (gB q a b).symm), zs_nm_c gA gB⟩)
  · rw [e]
    show zh_b (zn_w (zn_l w' 173) (zn_l w' 174) (zh_e w' 175) p) = zh_b (zn_w (zn_l w 173) (zn_l w 174) (zh_e w 175) p)
    rw [hT]
    exact congrArg zh_b (propext ⟨zs_wk_c (fun q a b => (gA q a b).symm) (fun q a b => (gB q a b).symm), zs_wk_c gA gB⟩)
  · rw [e]
    show zh_b ((4294967297 ≤ p ∧ p < 8589934592) ∧ zp_n (zn_l w' 173 (p - 4294967297)) (zn_l w' 174 (p - 4294967297))) = zh_b ((4294967297 ≤ p ∧ p < 8589934592) ∧ zp_n (zn_l w 173 (p - 4294967297)) (zn_l w 174 (p - 4294967297)))
    refine congrArg zh_b (propext ⟨fun h => ⟨h.1, ?_⟩, fun h => ⟨h.1, ?_⟩⟩)
    · have h1 := h.1
      have h2 := h.2
      rw [gA _ (by omega) (by omega), gB _ (by omega) (by omega)] at h2
      exact h2
    · have h1 := h.1
      have h2 := h.2
      rw [← gA _ (by omega) (by omega), ← gB _ (by omega) (by omega)] at h2
      exact h2
  · rw [e]
    show zh_b (zp_tn (zn_l w' 173) (zn_l w' 174) (zh_e w' 221) (zh_e w' 223) (p % 4294967296) (p / 4294967296)) = zh_b (zp_tn (zn_l w 173) (zn_l w 174) (zh_e w 221) (zh_e w 223) (p % 4294967296) (p / 4294967296))
    rw [hTk, hTv]
    refine congrArg zh_b (propext ⟨fun h i i0 i1 ik => ?_, fun h i i0 i1 ik => ?_⟩)
    · obtain ⟨q1, q2, q3⟩ := h i i0 i1 ik
      rw [gA _ q1 q2, gB _ q1 q2] at q3
      exact ⟨q1, q2, q3⟩
    · obtain ⟨q1, q2, q3⟩ := h i i0 i1 ik
      rw [← gA _ q1 q2, ← gB _ q1 q2] at q3
      exact ⟨q1, q2, q3⟩
/-! functions that speak of a row of longs from the first digit of their place on alone -/
def zv_LR (t i : Nat) : Bool := (Nat.beq t 163 || Nat.beq t 87) && (Nat.beq i 173 || Nat.beq i 174)
theorem zv_LR_ok {t i : Nat} {w w' : zz_W} {j p : Int} (h : zv_LR t i = true) (hw : zk_rL i j w w') (hp : j < p % 4294967296) : zv_H t w' p = zv_H t w p := by
  obtain ⟨h1, h2⟩ := zz_and h
  have g : ∀ (r : Nat) (q : Int), p % 4294967296 ≤ q → 0 ≤ q → zn_l w' r q = zn_l w r q := fun r q a b => by
    show zk_lel w' r q.toNat = zk_lel w r q.toNat
    by_cases hr : r = i
    · subst hr
      exact hw.2 q.toNat (by omega)
    · rw [zh_l_g (hw.1 r hr)]
  cases b0 : Nat.beq t 163 with
  | true =>
    rw [zz_beq b0]
    show zh_b (zj_u (zn_l w' 173) (zn_l w' 174) (p % 4294967296) (p / 4294967296 % 4294967296) (p / 18446744073709551616 % 18446744073709551616 - 9223372036854775808) (p / 18446744073709551616 / 18446744073709551616 - 9223372036854775808)) = zh_b (zj_u (zn_l w 173) (zn_l w 174) (p % 4294967296) (p / 4294967296 % 4294967296) (p / 18446744073709551616 % 18446744073709551616 - 9223372036854775808) (p / 18446744073709551616 / 18446744073709551616 - 9223372036854775808))
    exact congrArg zh_b (propext ⟨fun h n z0 n0 n1 qa qb => h n z0 n0 n1 (by rw [g 173 n n0 z0]; exact qa) (by rw [g 174 n n0 z0]; exact qb), fun h n z0 n0 n1 qa qb => h n z0 n0 n1 (by rw [← g 173 n n0 z0]; exact qa) (by rw [← g 174 n n0 z0]; exact qb)⟩)
  | false =>
  rw [b0] at h1
  have h1 : Nat.beq t 87 = true := h1
  rw [zz_beq h1]
  show zh_b (zn_k5 (zn_l w' 173) (zn_l w' 174) (p % 4294967296)) = zh_b (zn_k5 (zn_l w 173) (zn_l w 174) (p % 4294967296))
  refine congrArg zh_b (propext ⟨fun h q a b c => ?_, fun h q a b c => ?_⟩)
  · have := h q a b c
    rw [g 173 q a b, g 174 q a b] at this
    exact this
  · rw [g 173 q a b, g 174 q a b]
    exact h q a b c
/-! functions that do not speak of a row of longs at the first digit of their place -/
def zv_LS (t i : Nat) : Bool := Nat.beq t 161 && (Nat.beq i 173 || Nat.beq i 174)
theorem zv_LS_ok {t i : Nat} {w w' : zz_W} {j p : Int} (h : zv_LS t i = true) (hw : zk_rL i j w w') (hp : p % 4294967296 = j) : zv_H t w' p = zv_H t w p := by
  obtain ⟨h1, h2⟩ := zz_and h
  rw [zz_beq h1]
  have g : ∀ (r : Nat) (q : Int), 0 ≤ q → q ≠ j → zn_l w' r q = zn_l w r q := fun r q b a => by
    show zk_lel w' r q.toNat = zk_lel w r q.toNat
    by_cases hr : r = i
    · subst hr
      exact hw.2 q.toNat (by omega)
    · rw [zh_l_g (hw.1 r hr)]
  have hd : zv_dg 0 p = j := hp
  have d1 : 0 ≤ zv_dg 1 p := by
    show 0 ≤ p / 4294967296 % 4294967296
    omega
  have hz : 0 ≤ j := by omega
  have key : ∀ {A B A' B' : Int → Int}, (∀ q, 0 ≤ q → q ≠ j → A q = A' q) → (∀ q, 0 ≤ q → q ≠ j → B q = B' q) → zj_dn A B (zv_dg 0 p) (zv_dg 0 p + 1 + zv_dg 1 p) (zv_dg 2 p) → zj_dn A' B' (zv_dg 0 p) (zv_dg 0 p + 1 + zv_dg 1 p) (zv_dg 2 p) := fun ga gb h => ⟨fun x n x0 x1 n0 n1 qa qb => h.1 x n x0 x1 n0 n1 (by rw [ga x x0 (by omega), ga n (by omega) (by omega)]; exact qa) (by rw [gb x x0 (by omega), gb n (by omega) (by omega)]; exact qb), fun n m z0 n0 n1 m1 qa qb => h.2 n m z0 n0 n1 m1 (by rw [ga n z0 (by omega), ga m (by omega) (by omega)]; exact qa) (by rw [gb n z0 (by omega), gb m (by omega) (by omega)]; exact qb)⟩
  show zh_b (zj_dn (zn_l w' 173) (zn_l w' 174) (zv_dg 0 p) (zv_dg 0 p + 1 + zv_dg 1 p) (zv_dg 2 p)) = zh_b (zj_dn (zn_l w 173) (zn_l w 174) (zv_dg 0 p) (zv_dg 0 p + 1 + zv_dg 1 p) (zv_dg 2 p))
  exact congrArg zh_b (propext ⟨key (fun q a b => g 173 q a b) (fun q a b => g 174 q a b), key (fun q a b => (g 173 q a b).symm) (fun q a b => (g 174 q a b).symm)⟩)
/-! functions that speak of a part of a row alone: row, factor, digit where it begins, digit where it ends -/
def zv_AP (t : Nat) : List (Nat × Nat × Nat × Nat) := cond (Nat.ble 31 t && Nat.ble t 36) [(61 + 17 * (t - 31), 2, 0, 1), (20, 6, 3, 4), (22, 1, 5, 6)] (cond (Nat.beq t 72) [(229, 1, 3, 2), (230, 1, 3, 2)] (cond (Nat.beq t 169) [(176, 1, 1, 0), (208, 8000, 1, 0), (207, 1, 1, 0)] (cond (Nat.beq t 172) [(176, 1, 1, 0), (207, 1, 1, 0), (208, 8000, 1, 0), (209, 8000, 1, 0), (210, 8000, 1, 0), (211, 8000, 1, 0), (212, 8000, 1, 0), (213, 1, 1, 0), (214, 64, 1, 0), (215, 64, 1, 0), (203, 1, 1, 0), (204, 600, 1, 0), (205, 600, 1, 0)] (cond (Nat.beq t 176) [(176, 1, 1, 0), (208, 8000, 1, 0), (207, 1, 1, 0), (213, 1, 1, 0), (215, 64, 1, 0), (216, 64, 1, 0), (217, 64, 1, 0)] (cond (Nat.beq t 182) [(176, 1, 1, 0), (207, 1, 1, 0), (208, 8000, 1, 0), (209, 8000, 1, 0)] (cond (Nat.beq t 178) [(208, 1, 3, 2), (254, 1, 0, 1)] []))))))
theorem zv_AP_sg {w w' : zz_W} {j : Int} {r : Nat} (h1 : zz_g w' r = zz_g w r ∨ ∀ p : Int, 0 ≤ p → 2 * zv_dg 0 j ≤ p → p < 2 * zv_dg 1 j → zk_el w' r p = zk_el w r p) (h2 : zz_g w' 20 = zz_g w 20 ∨ ∀ p : Int, 0 ≤ p → 6 * zv_dg 3 j ≤ p → p < 6 * zv_dg 4 j → zk_el w' 20 p = zk_el w 20 p) (h3 : zz_g w' 22 = zz_g w 22 ∨ ∀ p : Int, 0 ≤ p → zv_dg 5 j ≤ p → p < zv_dg 6 j → zk_el w' 22 p = zk_el w 22 p) : zh_b (zg_sg (zh_e w' r) (zh_e w' 20) (zh_e w' 22) j) = zh_b (zg_sg (zh_e w r) (zh_e w 20) (zh_e w 22) j) := by
  have g1 : ∀ p : Int, 0 ≤ p → 2 * zv_dg 0 j ≤ p → p < 2 * zv_dg 1 j → zh_e w' r p = zh_e w r p := fun p a b c => by
    rcases h1 with h | h
    · rw [zh_e_g h]
    · exact h p a b c
  have g2 : ∀ p : Int, 0 ≤ p → 6 * zv_dg 3 j ≤ p → p < 6 * zv_dg 4 j → zh_e w' 20 p = zh_e w 20 p := fun p a b c => by
    rcases h2 with h | h
    · rw [zh_e_g h]
    · exact h p a b c
  have g3 : ∀ p : Int, 0 ≤ p → zv_dg 5 j ≤ p → p < zv_dg 6 j → zh_e w' 22 p = zh_e w 22 p := fun p a b c => by
    rcases h3 with h | h
    · rw [zh_e_g h]
    · exact h p a b c
  exact congrArg zh_b (propext ⟨zg_sg_c (fun p a b c => (g1 p a b c).symm) (fun p a b c _ => (g2 p a b c).symm) (fun p a b c => (g3 p a b c).symm), zg_sg_c g1 (fun p a b c _ => g2 p a b c) g3⟩)
/-! parts of rows: units ahead of the first digit of the place -/
def zj_fc (r : Nat) : Nat := cond (Nat.beq r 208 || (Nat.beq r 209 || (Nat.beq r 210 || (Nat.beq r 211 || Nat.beq r 212)))) 8000 (cond (Nat.beq r 214 || (Nat.beq r 215 || (Nat.beq r 216 || Nat.beq r 217))) 64 (cond (Nat.beq r 204 || Nat.beq r 205) 600 1))
theorem zj_ap {l : List (Nat × Nat × Nat × Nat)} {R : List Nat} {w w' : zz_W} {j : Int} (ha : l.all (fun q => Nat.beq q.2.1 (zj_fc q.1) && (Nat.beq q.2.2.1 1 && Nat.beq q.2.2.2 0)) = true) (hz : zv_dg 1 j = 0) (h : ∀ r ∈ R, zz_g w' r = zz_g w r ∨ ∃ q ∈ l, q.1 = r ∧ ∀ p : Int, 0 ≤ p → (q.2.1 : Int) * zv_dg q.2.2.1 j ≤ p → p < (q.2.1 : Int) * zv_dg q.2.2.2 j → zk_el w' r p = zk_el w r p) : ∀ r ∈ R, ∀ p : Int, 0 ≤ p → p < (zj_fc r : Int) * zv_dg 0 j → zh_e w' r p = zh_e w r p := by
  intro r hr p p0 p1
  rcases h r hr with h | ⟨q, q1, q2, q3⟩
  · rw [zh_e_g h]
  · obtain ⟨a1, a2⟩ := zz_and (List.all_eq_true.mp ha q q1)
    obtain ⟨a3, a4⟩ := zz_and a2
    have a1 := zz_beq a1
    have a3 := zz_beq a3
    have a4 := zz_beq a4
    rw [a1, a3, a4, q2, hz] at q3
    exact q3 p p0 (by rw [Int.mul_zero]; exact p0) p1
theorem zj_a169 {w w' : zz_W} {j : Int} (h : ∀ r ∈ zv_HR 169, zz_g w' r = zz_g w r ∨ ∃ q ∈ zv_AP 169, q.1 = r ∧ ∀ p : Int, 0 ≤ p → (q.2.1 : Int) * zv_dg q.2.2.1 j ≤ p → p < (q.2.1 : Int) * zv_dg q.2.2.2 j → zk_el w' r p = zk_el w r p) : zv_H 169 w' j = zv_H 169 w j := by
  show zh_b (zv_dg 1 j = 0 → ∀ u, 0 ≤ u → u < zv_dg 0 j → 1 ≤ zh_e w' 176 u → zh_e w' 207 u ≤ 8000 → zj_s (zh_e w' 208) (8000 * u) (zh_e w' 207 u).toNat ≤ 2045) = zh_b (zv_dg 1 j = 0 → ∀ u, 0 ≤ u → u < zv_dg 0 j → 1 ≤ zh_e w 176 u → zh_e w 207 u ≤ 8000 → zj_s (zh_e w 208) (8000 * u) (zh_e w 207 u).toNat ≤ 2045)
  by_cases hz : zv_dg 1 j = 0
  · have g := zj_ap (l := zv_AP 169) (R := zv_HR 169) (by decide) hz h
    have g1 : ∀ p : Int, 0 ≤ p → p < zv_dg 0 j → zh_e w' 176 p = zh_e w 176 p := fun p a b => g 176 List.mem_cons_self p a (by show p < (1 : Int) * zv_dg 0 j; omega)
    have g2 : ∀ p : Int, 0 ≤ p → p < 8000 * zv_dg 0 j → zh_e w' 208 p = zh_e w 208 p := fun p a b => g 208 (List.mem_cons_of_mem _ List.mem_cons_self) p a b
    have g3 : ∀ p : Int, 0 ≤ p → p < zv_dg 0 j → zh_e w' 207 p = zh_e w 207 p := fun p a b => g 207 (List.mem_cons_of_mem _ (List.mem_cons_of_mem _ List.mem_cons_self)) p a (by show p < (1 : Int) * zv_dg 0 j; omega)
    have key : ∀ u, 0 ≤ u → u < zv_dg 0 j → zh_e w 207 u ≤ 8000 → zj_s (zh_e w' 208) (8000 * u) (zh_e w 207 u).toNat = zj_s (zh_e w 208) (8000 * u) (zh_e w 207 u).toNat := fun u u0 u1 u2 => zj_se (fun i i0 i1 => g2 _ (by omega) (by omega))
    refine congrArg zh_b (propext ⟨fun q _ u u0 u1 u2 u3 => ?_, fun q _ u u0 u1 u2 u3 => ?_⟩)
    · have r := q hz u u0 u1 (by rw [g1 u u0 u1]; exact u2) (by rw [g3 u u0 u1]; exact u3)
      rw [g3 u u0 u1, key u u0 u1 u3] at r
      exact r
    · rw [g1 u u0 u1] at u2
      rw [g3 u u0 u1] at u3 ⊢
      rw [key u u0 u1 u3]
      exact q hz u u0 u1 u2 u3
  · exact congrArg zh_b (propext ⟨fun _ q => absurd q hz, fun _ q => absurd q hz⟩)
theorem zj_a172 {w w' : zz_W} {j : Int} (h : ∀ r ∈ zv_HR 172, zz_g w' r = zz_g w r ∨ ∃ q ∈ zv_AP 172, q.1 = r ∧ ∀ p : Int, 0 ≤ p → (q.2.1 : Int) * zv_dg q.2.2.1 j ≤ p → p < (q.2.1 : Int) * zv_dg q.2.2.2 j → zk_el w' r p = zk_el w r p) : zv_H 172 w' j = zv_H 172 w j := by
  show zh_b (zv_dg 1 j = 0 → ∀ u, 0 ≤ u → u < zv_dg 0 j → 1 ≤ zh_e w' 176 u → zj_nu (fun k => zh_e w' 208 (8000 * u + k)) (fun k => zh_e w' 209 (8000 * u + k)) (fun k => zh_e w' 210 (8000 * u + k)) (fun k => zh_e w' 211 (8000 * u + k)) (fun k => zh_e w' 212 (8000 * u + k)) (fun k => zh_e w' 214 (64 * u + k)) (fun k => zh_e w' 215 (64 * u + k)) (fun k => zh_e w' 204 (600 * u + k)) (fun k => zh_e w' 205 (600 * u + k)) (zh_e w' 207 u) (zh_e w' 213 u) (zh_e w' 203 u) (zv_dg 2 j)) = zh_b (zv_dg 1 j = 0 → ∀ u, 0 ≤ u → u < zv_dg 0 j → 1 ≤ zh_e w 176 u → zj_nu (fun k => zh_e w 208 (8000 * u + k)) (fun k => zh_e w 209 (8000 * u + k)) (fun k => zh_e w 210 (8000 * u + k)) (fun k => zh_e w 211 (8000 * u + k)) (fun k => zh_e w 212 (8000 * u + k)) (fun k => zh_e w 214 (64 * u + k)) (fun k => zh_e w 215 (64 * u + k)) (fun k => zh_e w 204 (600 * u + k)) (fun k => zh_e w 205 (600 * u + k)) (zh_e w 207 u) (zh_e w 213 u) (zh_e w 203 u) (zv_dg 2 j))
  by_cases hz : zv_dg 1 j = 0
  · have g := zj_ap (l := zv_AP 172) (R := zv_HR 172) (by decide) hz h
    have g1 : ∀ r, r = 176 ∨ r = 207 ∨ r = 213 ∨ r = 203 → ∀ p : Int, 0 ≤ p → p < zv_dg 0 j → zh_e w' r p = zh_e w r p := fun r hr p a b => g r (by rcases hr with e | e | e | e <;> rw [e] <;> decide) p a (by rcases hr with e | e | e | e <;> rw [e] <;> (show p < (1 : Int) * zv_dg 0 j; omega))
    have g2 : ∀ r, r = 208 ∨ r = 209 ∨ r = 210 ∨ r = 211 ∨ r = 212 → ∀ p : Int, 0 ≤ p → p < 8000 * zv_dg 0 j → zh_e w' r p = zh_e w r p := fun r hr p a b => g r (by rcases hr with e | e | e | e | e <;> rw [e] <;> decide) p a (by rcases hr with e | e | e | e | e <;> rw [e] <;> exact b)
    have g3 : ∀ r, r = 214 ∨ r = 215 → ∀ p : Int, 0 ≤ p → p < 64 * zv_dg 0 j → zh_e w' r p = zh_e w r p := fun r hr p a b => g r (by rcases hr with e | e <;> rw [e] <;> decide) p a (by rcases hr with e | e <;> rw [e] <;> exact b)
    have g4 : ∀ r, r = 204 ∨ r = 205 → ∀ p : Int, 0 ≤ p → p < 600 * zv_dg 0 j → zh_e w' r p = zh_e w r p := fun r hr p a b => g r (by rcases hr with e | e <;> rw [e] <;> decide) p a (by rcases hr with e | e <;> rw [e] <;> exact b)
    have key : ∀ {v v' : zz_W}, (∀ r, r = 176 ∨ r = 207 ∨ r = 213 ∨ r = 203 → ∀ p : Int, 0 ≤ p → p < zv_dg 0 j → zh_e v' r p = zh_e v r p) → (∀ r, r = 208 ∨ r = 209 ∨ r = 210 ∨ r = 211 ∨ r = 212 → ∀ p : Int, 0 ≤ p → p < 8000 * zv_dg 0 j → zh_e v' r p = zh_e v r p) → (∀ r, r = 214 ∨ r = 215 → ∀ p : Int, 0 ≤ p → p < 64 * zv_dg 0 j → zh_e v' r p = zh_e v r p) → (∀ r, r = 204 ∨ r = 205 → ∀ p : Int, 0 ≤ p → p < 600 * zv_dg 0 j → zh_e v' r p = zh_e v r p) → (∀ u, 0 ≤ u → u < zv_dg 0 j → 1 ≤ zh_e v 176 u → zj_nu (fun k => zh_e v 208 (8000 * u + k)) (fun k => zh_e v 209 (8000 * u + k)) (fun k => zh_e v 210 (8000 * u + k)) (fun k => zh_e v 211 (8000 * u + k)) (fun k => zh_e v 212 (8000 * u + k)) (fun k => zh_e v 214 (64 * u + k)) (fun k => zh_e v 215 (64 * u + k)) (fun k => zh_e v 204 (600 * u + k)) (fun k => zh_e v 205 (600 * u + k)) (zh_e v 207 u) (zh_e v 213 u) (zh_e v 203 u) (zv_dg 2 j)) → ∀ u, 0 ≤ u → u < zv_dg 0 j → 1 ≤ zh_e v' 176 u → zj_nu (fun k => zh_e v' 208 (8000 * u + k)) (fun k => zh_e v' 209 (8000 * u + k)) (fun k => zh_e v' 210 (8000 * u + k)) (fun k => zh_e v' 211 (8000 * u + k)) (fun k => zh_e v' 212 (8000 * u + k)) (fun k => zh_e v' 214 (64 * u + k)) (fun k => zh_e v' 215 (64 * u + k)) (fun k => zh_e v' 204 (600 * u + k)) (fun k => zh_e v' 205 (600 * u + k)) (zh_e v' 207 u) (zh_e v' 213 u) (zh_e v' 203 u) (zv_dg 2 j) := by
      intro v v' k1 k2 k3 k4 q u u0 u1 u2
      rw [k1 176 (Or.inl rfl) u u0 u1] at u2
      rw [k1 207 (Or.inr (Or.inl rfl)) u u0 u1, k1 213 (Or.inr (Or.inr (Or.inl rfl))) u u0 u1, k1 203 (Or.inr (Or.inr (Or.inr rfl))) u u0 u1]
      exact zj_nuc (Int.le_refl _) (fun k a b => k2 208 (Or.inl rfl) _ (by omega) (by omega)) (fun k a b => k2 209 (Or.inr (Or.inl rfl)) _ (by omega) (by omega)) (fun k a b => k2 210 (Or.inr (Or.inr (Or.inl rfl))) _ (by omega) (by omega)) (fun k a b => k2 211 (Or.inr (Or.inr (Or.inr (Or.inl rfl)))) _ (by omega) (by omega)) (fun k a b => k2 212 (Or.inr (Or.inr (Or.inr (Or.inr rfl)))) _ (by omega) (by omega)) (fun k a b => k3 214 (Or.inl rfl) _ (by omega) (by omega)) (fun k a b => k3 215 (Or.inr rfl) _ (by omega) (by omega)) (fun k a b => k4 204 (Or.inl rfl) _ (by omega) (by omega)) (fun k a b => k4 205 (Or.inr rfl) _ (by omega) (by omega)) (q u u0 u1 u2)
    refine congrArg zh_b (propext ⟨fun q _ => key (fun r hr p a b => (g1 r hr p a b).symm) (fun r hr p a b => (g2 r hr p a b).symm) (fun r hr p a b => (g3 r hr p a b).symm) (fun r hr p a b => (g4 r hr p a b).symm) (q hz), fun q _ => key g1 g2 g3 g4 (q hz)⟩)
  · exact congrArg zh_b (propext ⟨fun _ q => absurd q hz, fun _ q => absurd q hz⟩)
theorem zj_a178 {w w' : zz_W} {j : Int} (h : ∀ r ∈ zv_HR 178, zz_g w' r = zz_g w r ∨ ∃ q ∈ zv_AP 178, q.1 = r ∧ ∀ p : Int, 0 ≤ p → (q.2.1 : Int) * zv_dg q.2.2.1 j ≤ p → p < (q.2.1 : Int) * zv_dg q.2.2.2 j → zk_el w' r p = zk_el w r p) (h3 : 0 ≤ zv_dg 3 j) : zv_H 178 w' j = zv_H 178 w j := by
  show (if zv_dg 0 j = 0 then zc_bv (zc_r (zh_e w' 208) (zv_dg 3 j) (zv_dg 2 j - zv_dg 3 j).toNat) (zc_m (zh_e w' 254) (zv_dg 1 j).toNat) else 0) = if zv_dg 0 j = 0 then zc_bv (zc_r (zh_e w 208) (zv_dg 3 j) (zv_dg 2 j - zv_dg 3 j).toNat) (zc_m (zh_e w 254) (zv_dg 1 j).toNat) else 0
  by_cases hz : zv_dg 0 j = 0
  · rw [if_pos hz, if_pos hz]
    have g1 : ∀ p : Int, 0 ≤ p → p < zv_dg 1 j → zh_e w' 254 p = zh_e w 254 p := by
      intro p p0 p2
      rcases h 254 (by decide) with h | ⟨q, q1, q2, q3⟩
      · rw [zh_e_g h]
      · rcases List.mem_cons.mp q1 with e | e
        · rw [e] at q2
          exact absurd q2 (by decide)
        · rw [List.mem_singleton.mp e] at q3
          exact q3 p p0 (by show (1 : Int) * zv_dg 0 j ≤ p; omega) (by show p < (1 : Int) * zv_dg 1 j; omega)
    have g2 : ∀ p : Int, 0 ≤ p → zv_dg 3 j ≤ p → p < zv_dg 2 j → zh_e w' 208 p = zh_e w 208 p := by
      intro p p0 p1 p2
      rcases h 208 (by decide) with h | ⟨q, q1, q2, q3⟩
      · rw [zh_e_g h]
      · rcases List.mem_cons.mp q1 with e | e
        · rw [e] at q3
          exact q3 p p0 (by show (1 : Int) * zv_dg 3 j ≤ p; omega) (by show p < (1 : Int) * zv_dg 2 j; omega)
        · rw [List.mem_singleton.mp e] at q2
          exact absurd q2 (by decide)
    rw [zc_me (g := zh_e w 254) (fun i i0 i1 => g1 i i0 (by omega)), zc_re (f := zh_e w 208) (fun i i0 i1 => g2 _ (by omega) (by omega) (by omega))]
  · rw [if_neg hz, if_neg hz]
theorem zj_a182 {w w' : zz_W} {j : Int} (h : ∀ r ∈ zv_HR 182, zz_g w' r = zz_g w r ∨ ∃ q ∈ zv_AP 182, q.1 = r ∧ ∀ p : Int, 0 ≤ p → (q.2.1 : Int) * zv_dg q.2.2.1 j ≤ p → p < (q.2.1 : Int) * zv_dg q.2.2.2 j → zk_el w' r p = zk_el w r p) : zv_H 182 w' j = zv_H 182 w j := by
  show zh_b (zv_dg 1 j = 0 → ∀ u, 0 ≤ u → u < zv_dg 0 j → 1 ≤ zh_e w' 176 u → ∀ k, 0 ≤ k → k < zh_e w' 207 u → k < 8000 → zj_nm (zh_e w' 208 (8000 * u + k)) → 0 ≤ zh_e w' 209 (8000 * u + k) ∧ zh_e w' 209 (8000 * u + k) ≤ 65535) = zh_b (zv_dg 1 j = 0 → ∀ u, 0 ≤ u → u < zv_dg 0 j → 1 ≤ zh_e w 176 u → ∀ k, 0 ≤ k → k < zh_e w 207 u → k < 8000 → zj_nm (zh_e w 208 (8000 * u + k)) → 0 ≤ zh_e w 209 (8000 * u + k) ∧ zh_e w 209 (8000 * u + k) ≤ 65535)
  by_cases hz : zv_dg 1 j = 0
  · have g := zj_ap (l := zv_AP 182) (R := zv_HR 182) (by decide) hz h
    have g1 : ∀ r, r = 176 ∨ r = 207 → ∀ p : Int, 0 ≤ p → p < zv_dg 0 j → zh_e w' r p = zh_e w r p := fun r hr p a b => g r (by rcases hr with e | e <;> rw [e] <;> decide) p a (by rcases hr with e | e <;> rw [e] <;> (show p < (1 : Int) * zv_dg 0 j; omega))
    have g2 : ∀ r, r = 208 ∨ r = 209 → ∀ p : Int, 0 ≤ p → p < 8000 * zv_dg 0 j → zh_e w' r p = zh_e w r p := fun r hr p a b => g r (by rcases hr with e | e <;> rw [e] <;> decide) p a (by rcases hr with e | e <;> rw [e] <;> exact b)
    refine congrArg zh_b (propext ⟨fun q _ u u0 u1 u2 k k0 k1 k2 k3 => ?_, fun q _ u u0 u1 u2 k k0 k1 k2 k3 => ?_⟩)
    · have e1 := g2 208 (Or.inl rfl) (8000 * u + k) (by omega) (by omega)
      have e2 := g2 209 (Or.inr rfl) (8000 * u + k) (by omega) (by omega)
      have r := q hz u u0 u1 (by rw [g1 176 (Or.inl rfl) u u0 u1]; exact u2) k k0 (by rw [g1 207 (Or.inr rfl) u u0 u1]; exact k1) k2 (by rw [e1]; exact k3)
      rw [e2] at r
      exact r
    · have e1 := g2 208 (Or.inl rfl) (8000 * u + k) (by omega) (by omega)
      have e2 := g2 209 (Or.inr rfl) (8000 * u + k) (by omega) (by omega)
      rw [g1 176 (Or.inl rfl) u u0 u1] at u2
      rw [g1 207 (Or.inr rfl) u u0 u1] at k1
      rw [e1] at k3
      rw [e2]
      exact q hz u u0 u1 u2 k k0 k1 k2 k3
  · exact congrArg zh_b (propext ⟨fun _ q => absurd q hz, fun _ q => absurd q hz⟩)
theorem zj_a176 {w w' : zz_W} {j : Int} (h : ∀ r ∈ zv_HR 176, zz_g w' r = zz_g w r ∨ ∃ q ∈ zv_AP 176, q.1 = r ∧ ∀ p : Int, 0 ≤ p → (q.2.1 : Int) * zv_dg q.2.2.1 j ≤ p → p < (q.2.1 : Int) * zv_dg q.2.2.2 j → zk_el w' r p = zk_el w r p) : zv_H 176 w' j = zv_H 176 w j := by
  show zh_b (zv_dg 1 j = 0 → ∀ u, 0 ≤ u → u < zv_dg 0 j → 1 ≤ zh_e w' 176 u → zj_sh (zh_e w' 208) (8000 * u) (fun m => zh_e w' 215 (64 * u + m)) (fun m => zh_e w' 216 (64 * u + m)) (fun m => zh_e w' 217 (64 * u + m)) (zh_e w' 207 u) (zh_e w' 213 u)) = zh_b (zv_dg 1 j = 0 → ∀ u, 0 ≤ u → u < zv_dg 0 j → 1 ≤ zh_e w 176 u → zj_sh (zh_e w 208) (8000 * u) (fun m => zh_e w 215 (64 * u + m)) (fun m => zh_e w 216 (64 * u + m)) (fun m => zh_e w 217 (64 * u + m)) (zh_e w 207 u) (zh_e w 213 u))
  by_cases hz : zv_dg 1 j = 0
  · have g := zj_ap (l := zv_AP 176) (R := zv_HR 176) (by decide) hz h
    have g1 : ∀ r, r = 176 ∨ r = 207 ∨ r = 213 → ∀ p : Int, 0 ≤ p → p < zv_dg 0 j → zh_e w' r p = zh_e w r p := fun r hr p a b => g r (by rcases hr with e | e | e <;> rw [e] <;> decide) p a (by rcases hr with e | e | e <;> rw [e] <;> (show p < (1 : Int) * zv_dg 0 j; omega))
    have g2 : ∀ p : Int, 0 ≤ p → p < 8000 * zv_dg 0 j → zh_e w' 208 p = zh_e w 208 p := fun p a b => g 208 (by decide) p a b
    have g3 : ∀ r, r = 215 ∨ r = 216 ∨ r = 217 → ∀ p : Int, 0 ≤ p → p < 64 * zv_dg 0 j → zh_e w' r p = zh_e w r p := fun r hr p a b => g r (by rcases hr with e | e | e <;> rw [e] <;> decide) p a (by rcases hr with e | e | e <;> rw [e] <;> exact b)
    have key : ∀ {v v' : zz_W}, (∀ r, r = 176 ∨ r = 207 ∨ r = 213 → ∀ p : Int, 0 ≤ p → p < zv_dg 0 j → zh_e v' r p = zh_e v r p) → (∀ p : Int, 0 ≤ p → p < 8000 * zv_dg 0 j → zh_e v' 208 p = zh_e v 208 p) → (∀ r, r = 215 ∨ r = 216 ∨ r = 217 → ∀ p : Int, 0 ≤ p → p < 64 * zv_dg 0 j → zh_e v' r p = zh_e v r p) → (∀ u, 0 ≤ u → u < zv_dg 0 j → 1 ≤ zh_e v 176 u → zj_sh (zh_e v 208) (8000 * u) (fun m => zh_e v 215 (64 * u + m)) (fun m => zh_e v 216 (64 * u + m)) (fun m => zh_e v 217 (64 * u + m)) (zh_e v 207 u) (zh_e v 213 u)) → ∀ u, 0 ≤ u → u < zv_dg 0 j → 1 ≤ zh_e v' 176 u → zj_sh (zh_e v' 208) (8000 * u) (fun m => zh_e v' 215 (64 * u + m)) (fun m => zh_e v' 216 (64 * u + m)) (fun m => zh_e v' 217 (64 * u + m)) (zh_e v' 207 u) (zh_e v' 213 u) := by
      intro v v' k1 k2 k3 q u u0 u1 u2
      rw [k1 176 (Or.inl rfl) u u0 u1] at u2
      rw [k1 207 (Or.inr (Or.inl rfl)) u u0 u1, k1 213 (Or.inr (Or.inr rfl)) u u0 u1]
      exact zj_shc (fun k a b => k2 _ (by omega) (by omega)) (fun k a b => k3 215 (Or.inl rfl) _ (by omega) (by omega)) (fun k a b => k3 216 (Or.inr (Or.inl rfl)) _ (by omega) (by omega)) (fun k a b => k3 217 (Or.inr (Or.inr rfl)) _ (by omega) (by omega)) (q u u0 u1 u2)
    refine congrArg zh_b (propext ⟨fun q _ => key (fun r hr p a b => (g1 r hr p a b).symm) (fun p a b => (g2 p a b).symm) (fun r hr p a b => (g3 r hr p a b).symm) (q hz), fun q _ => key g1 g2 g3 (q hz)⟩)
  · exact congrArg zh_b (propext ⟨fun _ q => absurd q hz, fun _ q => absurd q hz⟩)
theorem zv_AP_ok {t : Nat} {w w' : zz_W} {j : Int} (h : ∀ r ∈ zv_HR t, zz_g w' r = zz_g w r ∨ ∃ q ∈ zv_AP t, q.1 = r ∧ ∀ p : Int, 0 ≤ p → (q.2.1 : Int) * zv_dg q.2.2.1 j ≤ p → p < (q.2.1 : Int) * zv_dg q.2.2.2 j → zk_el w' r p = zk_el w r p) : zv_H t w' j = zv_H t w j := by
  cases hb : (Nat.ble 31 t && Nat.ble t 36) with
  | false =>
    cases hb2 : Nat.beq t 72 with
    | false =>
      cases hb3 : Nat.beq t 169 with
      | true =>
        have e := zz_beq hb3
        subst e
        exact zj_a169 h
      | false =>
      cases hb4 : Nat.beq t 172 with
      | true =>
        have e := zz_beq hb4
        subst e
        exact zj_a172 h
      | false =>
      cases hb5 : Nat.beq t 176 with
      | true =>
        have e := zz_beq hb5
        subst e
        exact zj_a176 h
      | false =>
      cases hb6 : Nat.beq t 182 with
      | true =>
        have e := zz_beq hb6
        subst e
        exact zj_a182 h
      | false =>
      cases hb7 : Nat.beq t 178 with
      | true =>
        have e := zz_beq hb7
        subst e
        exact zj_a178 h (by show 0 ≤ j / 4294967296 / 4294967296 / 4294967296 % 4294967296; omega)
      | false =>
      refine zv_H_g (fun r hr => ?_)
      rcases h r hr with h | ⟨q, q1, -⟩
      · exact h
      · unfold zv_AP at q1
        rw [hb, hb2, hb3, hb4, hb5, hb6, hb7] at q1
        exact absurd q1 List.not_mem_nil
    | true =>
      have e := zz_beq hb2
      subst e
      have g : ∀ r, (r = 229 ∨ r = 230) → ∀ p : Int, 0 ≤ p → zv_dg 3 j ≤ p → p < zv_dg 2 j → zh_e w' r p = zh_e w r p := by
        intro r hr p p0 p1 p2
        have hm : r ∈ zv_HR 72 := by
          rcases hr with e | e
          · rw [e]
            exact List.mem_cons_self
          · rw [e]
            exact List.mem_cons_of_mem _ List.mem_cons_self
        rcases h r hm with h | ⟨q, q1, q2, q3⟩
        · rw [zh_e_g h]
        · rcases List.mem_cons.mp (show q ∈ [(229, 1, 3, 2), (230, 1, 3, 2)] from q1) with e | q1
          · subst e
            exact q3 p p0 (by show (1 : Int) * zv_dg 3 j ≤ p; omega) (by show p < (1 : Int) * zv_dg 2 j; omega)
          · have e := List.mem_singleton.mp q1
            subst e
            exact q3 p p0 (by show (1 : Int) * zv_dg 3 j ≤ p; omega) (by show p < (1 : Int) * zv_dg 2 j; omega)
      show zh_b (zs_u (zh_e w' 229) (zh_e w' 230) (zv_dg 3 j) (zv_dg 2 j) (zv_dg 0 j - 1) (zv_dg 1 j)) = zh_b (zs_u (zh_e w 229) (zh_e w 230) (zv_dg 3 j) (zv_dg 2 j) (zv_dg 0 j - 1) (zv_dg 1 j))
      refine congrArg zh_b (propext ⟨fun ⟨i, i0, i1, i2, e1, e2⟩ => ⟨i, i0, i1, i2, ?_, ?_⟩, fun ⟨i, i0, i1, i2, e1, e2⟩ => ⟨i, i0, i1, i2, ?_, ?_⟩⟩)
      · rw [← g 229 (Or.inl rfl) i i0 i1 i2]
        exact e1
      · rw [← g 230 (Or.inr rfl) i i0 i1 i2]
        exact e2
      · rw [g 229 (Or.inl rfl) i i0 i1 i2]
        exact e1
      · rw [g 230 (Or.inr rfl) i i0 i1 i2]
        exact e2
  | true =>
    obtain ⟨b1, b2⟩ := zz_and hb
    have b1 := zz_ble b1
    have b2 := zz_ble b2
    have key : ∀ (k r : Nat), t = 31 + k → r = 61 + 17 * k → r ≠ 20 → r ≠ 22 → zv_HR t = [r, 20, 22] → (∀ v, zv_H t v j = zh_b (zg_sg (zh_e v r) (zh_e v 20) (zh_e v 22) j)) → zv_H t w' j = zv_H t w j := by
      intro k r hk hr n1 n2 hR hH
      have hA : zv_AP t = [(r, 2, 0, 1), (20, 6, 3, 4), (22, 1, 5, 6)] := by
        unfold zv_AP
        rw [hb, zv_cT, show 61 + 17 * (t - 31) = r by omega]
      rw [hR] at h
      rw [hA] at h
      rw [hH, hH]
      have m1 := h r List.mem_cons_self
      have m2 := h 20 (List.mem_cons_of_mem _ List.mem_cons_self)
      have m3 := h 22 (List.mem_cons_of_mem _ (List.mem_cons_of_mem _ List.mem_cons_self))
      refine zv_AP_sg ?_ ?_ ?_
      · rcases m1 with m | ⟨q, q1, q2, q3⟩
        · exact Or.inl m
        · rcases List.mem_cons.mp q1 with e | q1
          · subst e
            exact Or.inr q3
          · rcases List.mem_cons.mp q1 with e | q1
            · subst e
              exact absurd q2 (by show ¬ (20 = r); omega)
            · have e := List.mem_singleton.mp q1
              subst e
              exact absurd q2 (by show ¬ (22 = r); omega)
      · rcases m2 with m | ⟨q, q1, q2, q3⟩
        · exact Or.inl m
        · rcases List.mem_cons.mp q1 with e | q1
          · subst e
            exact absurd q2 (by show ¬ (r = 20); omega)
          · rcases List.mem_cons.mp q1 with e | q1
            · subst e
              exact Or.inr q3
            · have e := List.mem_singleton.mp q1
              subst e
              exact absurd q2 (by show ¬ (22 = 20); omega)
      · rcases m3 with m | ⟨q, q1, q2, q3⟩
        · exact Or.inl m
        · rcases List.mem_cons.mp q1 with e | q1
          · subst e
            exact absurd q2 (by show ¬ (r = 22); omega)
          · rcases List.mem_cons.mp q1 with e | q1
            · subst e
              exact absurd q2 (by show ¬ (20 = 22); omega)
            · have e := List.mem_singleton.mp q1
              subst e
              exact Or.inr (fun p a b c => q3 p a (by show (1 : Int) * zv_dg 5 j ≤ p; omega) (by show p < (1 : Int) * zv_dg 6 j; omega))
    rcases (show t = 31 ∨ t = 32 ∨ t = 33 ∨ t = 34 ∨ t = 35 ∨ t = 36 by omega) with e | e | e | e | e | e
    · exact key 0 61 e rfl (by decide) (by decide) (by rw [e]; rfl) (fun v => by rw [e]; rfl)
    · exact key 1 78 e rfl (by decide) (by decide) (by rw [e]; rfl) (fun v => by rw [e]; rfl)
    · exact key 2 95 e rfl (by decide) (by decide) (by rw [e]; rfl) (fun v => by rw [e]; rfl)
    · exact key 3 112 e rfl (by decide) (by decide) (by rw [e]; rfl) (fun v => by rw [e]; rfl)
    · exact key 4 129 e rfl (by decide) (by decide) (by rw [e]; rfl) (fun v => by rw [e]; rfl)
    · exact key 5 146 e rfl (by decide) (by decide) (by rw [e]; rfl) (fun v => by rw [e]; rfl)
end
