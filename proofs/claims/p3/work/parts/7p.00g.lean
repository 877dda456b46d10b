/-! LAWS BY HAND, want lines that are read back -/
noncomputable section
/-- the meaning at work (functions 193 to 195) -/
def zfy_S (f A B C E D c K s : Int → Int) (n : Int) : Prop := zfo_sm f A B C E D c K s n ∧ ∀ v, 0 ≤ v → v < n → s v ≤ 8000 ∧ (0 < s v → f (8000 * v + s v - 1) = 1)
theorem zfy_st {f A B C E D c K s : Int → Int} {n t : Int} (hS : zfy_S f A B C E D c K s n) (hp : zfy_p s n t) : zfo_st (fun k => f (8000 * (t / 8000) + k)) (fun k => A (8000 * (t / 8000) + k)) (fun k => B (8000 * (t / 8000) + k)) (fun k => C (8000 * (t / 8000) + k)) (fun k => E (8000 * (t / 8000) + k)) (zfo_k D c K (t / 8000) n) (t % 8000) := by
  obtain ⟨p0, p1, p2⟩ := hp
  exact hS.1 (t / 8000) (by omega) p1 (t % 8000) (by omega) p2 (by omega)
theorem zfy_e {t : Int} : 8000 * (t / 8000) + t % 8000 = t := by omega
theorem zfy_c {f A B C E D c K s : Int → Int} {n t : Int} (hS : zfy_S f A B C E D c K s n) (hp : zfy_p s n t) (h1 : 3 ≤ f t) (h2 : f t ≤ 10) : 0 ≤ C t ∧ C t ≤ 7 := by
  obtain ⟨q, -⟩ := zfy_st hS hp
  have q : 3 ≤ f (8000 * (t / 8000) + t % 8000) → f (8000 * (t / 8000) + t % 8000) ≤ 10 → 0 ≤ C (8000 * (t / 8000) + t % 8000) ∧ C (8000 * (t / 8000) + t % 8000) ≤ 7 := q
  rw [zfy_e] at q
  exact q h1 h2
theorem zfy_5 {f A B C E D c K s : Int → Int} {n t : Int} (hS : zfy_S f A B C E D c K s n) (hp : zfy_p s n t) (h : f t = 5 ∨ f t = 11) : (B t = -1 ∧ zfo_k D c K (t / 8000) n (A t) 1) ∨ (0 ≤ B t ∧ B t ≤ 1616) := by
  obtain ⟨-, q, -⟩ := zfy_st hS hp
  have q : (f (8000 * (t / 8000) + t % 8000) = 5 ∨ f (8000 * (t / 8000) + t % 8000) = 11) → (B (8000 * (t / 8000) + t % 8000) = -1 ∧ zfo_k D c K (t / 8000) n (A (8000 * (t / 8000) + t % 8000)) 1) ∨ (0 ≤ B (8000 * (t / 8000) + t % 8000) ∧ B (8000 * (t / 8000) + t % 8000) ≤ 1616) := q
  rw [zfy_e] at q
  exact q h
theorem zfy_6 {f A B C E D c K s : Int → Int} {n t : Int} (hS : zfy_S f A B C E D c K s n) (hp : zfy_p s n t) (h : f t = 6) : (B t = -1 ∧ zfo_k D c K (t / 8000) n (A t) 2) ∨ (0 ≤ B t ∧ 1 ≤ E t ∧ B t + 4 * E t ≤ 1620) := by
  obtain ⟨-, -, q, -⟩ := zfy_st hS hp
  have q : f (8000 * (t / 8000) + t % 8000) = 6 → (B (8000 * (t / 8000) + t % 8000) = -1 ∧ zfo_k D c K (t / 8000) n (A (8000 * (t / 8000) + t % 8000)) 2) ∨ (0 ≤ B (8000 * (t / 8000) + t % 8000) ∧ 1 ≤ E (8000 * (t / 8000) + t % 8000) ∧ B (8000 * (t / 8000) + t % 8000) + 4 * E (8000 * (t / 8000) + t % 8000) ≤ 1620) := q
  rw [zfy_e] at q
  exact q h
theorem zfy_7 {f A B C E D c K s : Int → Int} {n t : Int} (hS : zfy_S f A B C E D c K s n) (hp : zfy_p s n t) (h : f t = 7) : 8000 * (t / 8000) < t ∧ f (t - 1) = 6 ∧ A (t - 1) = A t ∧ B (t - 1) = B t ∧ C (t - 1) = C t := by
  obtain ⟨-, -, -, q, -⟩ := zfy_st hS hp
  have q : f (8000 * (t / 8000) + t % 8000) = 7 → 0 < t % 8000 ∧ f (8000 * (t / 8000) + (t % 8000 - 1)) = 6 ∧ A (8000 * (t / 8000) + (t % 8000 - 1)) = A (8000 * (t / 8000) + t % 8000) ∧ B (8000 * (t / 8000) + (t % 8000 - 1)) = B (8000 * (t / 8000) + t % 8000) ∧ C (8000 * (t / 8000) + (t % 8000 - 1)) = C (8000 * (t / 8000) + t % 8000) := q
  rw [zfy_e, show 8000 * (t / 8000) + (t % 8000 - 1) = t - 1 by omega] at q
  obtain ⟨a, b⟩ := q h
  exact ⟨by omega, b⟩
theorem zfy_8 {f A B C E D c K s : Int → Int} {n t : Int} (hS : zfy_S f A B C E D c K s n) (hp : zfy_p s n t) (h : f t = 8) : 0 ≤ B t ∧ B t ≤ 4 ∧ zfo_k D c K (t / 8000) n (A t) (3 + B t) := by
  obtain ⟨-, -, -, -, q, -⟩ := zfy_st hS hp
  have q : f (8000 * (t / 8000) + t % 8000) = 8 → 0 ≤ B (8000 * (t / 8000) + t % 8000) ∧ B (8000 * (t / 8000) + t % 8000) ≤ 4 ∧ zfo_k D c K (t / 8000) n (A (8000 * (t / 8000) + t % 8000)) (3 + B (8000 * (t / 8000) + t % 8000)) := q
  rw [zfy_e] at q
  exact q h
theorem zfy_12 {f A B C E D c K s : Int → Int} {n t : Int} (hS : zfy_S f A B C E D c K s n) (hp : zfy_p s n t) (h : f t = 12) : ∃ j, 8000 * (t / 8000) ≤ j ∧ j < t ∧ f j = 6 ∧ A j = A t ∧ B j = B t ∧ C j = 0 ∧ ∀ m, j < m → m < t → 3 ≤ f m ∧ f m ≤ 10 ∧ 1 ≤ C m := by
  obtain ⟨-, -, -, -, -, q, -⟩ := zfy_st hS hp
  obtain ⟨j, j0, j1, a1, a2, a3, a4, a5⟩ := q (show f (8000 * (t / 8000) + t % 8000) = 12 by rw [zfy_e]; exact h)
  have a2 : A (8000 * (t / 8000) + j) = A (8000 * (t / 8000) + t % 8000) := a2
  have a3 : B (8000 * (t / 8000) + j) = B (8000 * (t / 8000) + t % 8000) := a3
  rw [zfy_e] at a2 a3
  refine ⟨8000 * (t / 8000) + j, by omega, by omega, a1, a2, a3, a4, fun m m0 m1 => ?_⟩
  have z : 3 ≤ f (8000 * (t / 8000) + (m - 8000 * (t / 8000))) ∧ f (8000 * (t / 8000) + (m - 8000 * (t / 8000))) ≤ 10 ∧ 1 ≤ C (8000 * (t / 8000) + (m - 8000 * (t / 8000))) := a5 (m - 8000 * (t / 8000)) (by omega) (by omega)
  rw [show 8000 * (t / 8000) + (m - 8000 * (t / 8000)) = m by omega] at z
  exact z
theorem zfy_nx {f A B C E D c K s : Int → Int} {n t : Int} (hS : zfy_S f A B C E D c K s n) (hp : zfy_p s n t) (h : ¬ (f t = 1)) : zfy_p s n (t + 1) ∧ (t + 1) / 8000 = t / 8000 := by
  obtain ⟨p0, p1, p2⟩ := hp
  obtain ⟨q1, q2⟩ := hS.2 (t / 8000) (by omega) p1
  have n1 : ¬ (t % 8000 = s (t / 8000) - 1) := fun e => h (by
    have z := q2 (by omega)
    rw [show 8000 * (t / 8000) + s (t / 8000) - 1 = t by omega] at z
    exact z)
  have ev : (t + 1) / 8000 = t / 8000 := by omega
  refine ⟨⟨by omega, by rw [ev]; exact p1, ?_⟩, ev⟩
  rw [ev]
  omega
theorem zfy_b {f A B C E D c K s : Int → Int} {n t m : Int} (hS : zfy_S f A B C E D c K s n) (hp : zfy_p s n t) (hv : (t + 1) / 8000 = t / 8000) (w : zfy_w f C s (t + 1) m) : (f t = 6 ∧ C t = 0 ∧ A t = A m ∧ B t = B m ∧ m / 8000 = t / 8000) ∨ (zfy_w f C s t m ∧ 3 ≤ f t ∧ f t ≤ 10 ∧ 1 ≤ C t) := by
  obtain ⟨w1, w2, w3, w4⟩ := w
  rw [hv] at w2
  obtain ⟨p0, p1, p2⟩ := hp
  have q1 := (hS.2 (t / 8000) (by omega) p1).1
  have mv : m / 8000 = t / 8000 := by omega
  have mp : zfy_p s n m := ⟨by omega, by rw [mv]; exact p1, by rw [mv]; omega⟩
  obtain ⟨j, j0, j1, a1, a2, a3, a4, a5⟩ := zfy_12 hS mp w3
  by_cases c1 : j = t
  · rw [c1] at a1 a2 a3 a4
    exact Or.inl ⟨a1, a4, a2, a3, mv⟩
  · by_cases c2 : t < j
    · have z := w4 j (by omega) j1
      omega
    · have z := a5 t (by omega) (by omega)
      refine Or.inr ⟨⟨by omega, w2, w3, fun x x0 x1 => ?_⟩, z⟩
      by_cases cx : x = t
      · rw [cx]
        exact z
      · exact w4 x (by omega) x1
theorem zfy_n7 {f A B C E D c K s : Int → Int} {n t : Int} (hS : zfy_S f A B C E D c K s n) (hp : zfy_p s n (t + 1)) (h : f (t + 1) = 7) : f t = 6 ∧ A t = A (t + 1) ∧ B t = B (t + 1) ∧ C t = C (t + 1) := by
  obtain ⟨-, q⟩ := zfy_7 hS hp h
  rw [show t + 1 - 1 = t by omega] at q
  exact q
theorem zfy_t1 {f A B C E D c K s H T P Z H' : Int → Int} {t u n : Int} (d : zfy_d f A B C s H T P Z D c t u n) (hS : zfy_S f A B C E D c K s n) (u0 : 1 ≤ u) (x1 : 3 ≤ f t) (x2 : f t ≤ 10) (n6 : ¬ (f t = 6)) (hH : ∀ i, 0 ≤ i → ¬ (i = 10 * (u - 1) + C t) → H' i = H i) : zfy_d f A B C s H' T P Z D c (t + 1) u n := by
  obtain ⟨d1, d2, d3, d4⟩ := d
  obtain ⟨np, nv⟩ := zfy_nx hS d1 (by omega)
  obtain ⟨c0, c1⟩ := zfy_c hS d1 x1 x2
  refine ⟨np, fun q => absurd (zfy_n7 hS np q).1 n6, fun m w => ?_, fun i i0 i1 => ?_⟩
  · rcases zfy_b hS d1 nv w with z | z
    · exact absurd z.1 n6
    · obtain ⟨z1, -, -, z4⟩ := z
      rw [hH (10 * (u - 1)) (by omega) (by omega)]
      exact d3 m z1
  · obtain ⟨b1, b2, b3, b4⟩ := d4 i i0 i1
    refine ⟨b1, b2, b3, fun m w => ⟨(b4 m w).1, ?_⟩⟩
    rw [hH (10 * (i - 1)) (by omega) (by omega)]
    exact (b4 m w).2
theorem zfy_t2 {f A B C E D c K s H T P Z : Int → Int} {t u n : Int} (d : zfy_d f A B C s H T P Z D c t u n) (hS : zfy_S f A B C E D c K s n) (x : f t = 6) (h0 : 0 ≤ H (10 * (u - 1) + C t)) (hb : 0 ≤ B t → H (10 * (u - 1) + C t) < E t) (hz : B t < 0 → H (10 * (u - 1) + C t) < Z (zfo_d D c (t / 8000) (A t) n)) : zfy_d f A B C s H T P Z D c (t + 1) u n := by
  obtain ⟨d1, d2, d3, d4⟩ := d
  obtain ⟨np, nv⟩ := zfy_nx hS d1 (by omega)
  have q6 := zfy_6 hS d1 x
  have good : ∀ m, A t = A m → B t = B m → m / 8000 = t / 8000 → zfy_h A B Z D c n m (H (10 * (u - 1) + C t)) := fun m eA eB mv => by
    refine ⟨h0, fun q => ?_, fun q => ?_⟩
    · rw [← eB] at q ⊢
      have := hb q
      rcases q6 with z | z
      · omega
      · omega
    · rw [mv, ← eA]
      exact hz (by omega)
  refine ⟨np, fun q => ?_, fun m w => ?_, d4⟩
  · obtain ⟨-, e1, e2, e3⟩ := zfy_n7 hS np q
    rw [← e3]
    exact good (t + 1) e1 e2 nv
  · rcases zfy_b hS d1 nv w with z | z
    · obtain ⟨-, z2, z3, z4, z5⟩ := z
      have g := good m z3 z4 z5
      rw [show 10 * (u - 1) + C t = 10 * (u - 1) by omega] at g
      exact g
    · exact d3 m z.1
theorem zfy_t3 {f A B C E D c K s H T P Z : Int → Int} {t u n : Int} (d : zfy_d f A B C s H T P Z D c t u n) (hS : zfy_S f A B C E D c K s n) (x : ¬ (3 ≤ f t ∧ f t ≤ 10)) (n1 : ¬ (f t = 1)) : zfy_d f A B C s H T P Z D c (t + 1) u n := by
  obtain ⟨d1, d2, d3, d4⟩ := d
  obtain ⟨np, nv⟩ := zfy_nx hS d1 n1
  refine ⟨np, fun q => ?_, fun m w => ?_, d4⟩
  · have z := (zfy_n7 hS np q).1
    omega
  · rcases zfy_b hS d1 nv w with z | z
    · have := z.1
      omega
    · have := z.2
      omega
theorem zfy_t4 {f A B C E D c K s H T P Z : Int → Int} {t u n y : Int} (d : zfy_d f A B C s H T P Z D c t u n) (hS : zfy_S f A B C E D c K s n) (hg : zfl_g f (8000 * (t / 8000)) (s (t / 8000)) t y) : zfy_d f A B C s H T P Z D c y u n := by
  obtain ⟨d1, d2, d3, d4⟩ := d
  obtain ⟨p0, p1, p2⟩ := d1
  have q1 := (hS.2 (t / 8000) (by omega) p1).1
  obtain ⟨g1, g2, g3⟩ := hg
  have yv : y / 8000 = t / 8000 := by omega
  have yp : zfy_p s n y := ⟨by omega, by rw [yv]; exact p1, by rw [yv]; omega⟩
  have no : ¬ (f y = 7) ∧ ∀ m, ¬ zfy_w f C s y m := by
    rcases g3 with ⟨-, g3⟩ | ⟨-, g4, g5⟩
    · refine ⟨by omega, fun m w => ?_⟩
      obtain ⟨w1, w2, w3, w4⟩ := w
      by_cases c : y = m
      · rw [← c] at w3
        omega
      · have z := w4 y (by omega) (by omega)
        omega
    · have e : y - 1 + 1 = y := by omega
      have zv : (y - 1) / 8000 = t / 8000 := by omega
      have zp : zfy_p s n (y - 1) := ⟨by omega, by rw [zv]; exact p1, by rw [zv]; omega⟩
      refine ⟨fun q => ?_, fun m w => ?_⟩
      · have z := (zfy_n7 (t := y - 1) hS (by rw [e]; exact yp) (by rw [e]; exact q)).1
        omega
      · rcases zfy_b (t := y - 1) hS zp (by rw [e]; omega) (by rw [e]; exact w) with z | z
        · have := z.1
          omega
        · have := z.2
          omega
  exact ⟨yp, fun q => absurd q no.1, fun m w => absurd w (no.2 m), d4⟩
theorem zfy_t5 {f A B C E D c K s H T P Z T' P' : Int → Int} {t u n y : Int} (d : zfy_d f A B C s H T P Z D c t u n) (hS : zfy_S f A B C E D c K s n) (u0 : 1 ≤ u) (x : f t = 8) (hT : ∀ i, 1 ≤ i → i < u → T' i = T i) (hP : ∀ i, 1 ≤ i → i < u → P' i = P i) (eT : T' u = t + 1) (eP : P' u = C t) (yp : zfy_p s n y) (y0 : f y = 0) : zfy_d f A B C s H T' P' Z D c (y + 1) (u + 1) n := by
  obtain ⟨d1, d2, d3, d4⟩ := d
  obtain ⟨np, nv⟩ := zfy_nx hS d1 (by omega)
  obtain ⟨yq, yv⟩ := zfy_nx hS yp (by omega)
  obtain ⟨c0, c1⟩ := zfy_c hS d1 (by omega) (by omega)
  refine ⟨yq, fun q => ?_, fun m w => ?_, fun i i0 i1 => ?_⟩
  · have z := (zfy_n7 hS yq q).1
    omega
  · rcases zfy_b hS yp yv w with z | z
    · have := z.1
      omega
    · have := z.2
      omega
  · by_cases e : i = u
    · rw [e, eT, eP]
      refine ⟨np, ⟨c0, c1⟩, fun q => ?_, fun m w => ?_⟩
      · have z := (zfy_n7 hS np q).1
        omega
      · rcases zfy_b hS d1 nv w with z | z
        · have := z.1
          omega
        · exact ⟨z.2.2.2, d3 m z.1⟩
    · rw [hT i i0 (by omega), hP i i0 (by omega)]
      exact d4 i i0 (by omega)
theorem zfy_t6 {f A B C D c s H T P Z H' : Int → Int} {t u n : Int} (d : zfy_d f A B C s H T P Z D c t u n) (u0 : 2 ≤ u) (hH : ∀ i, 0 ≤ i → ¬ (i = 10 * (u - 2) + P (u - 1)) → H' i = H i) : zfy_d f A B C s H' T P Z D c (T (u - 1)) (u - 1) n := by
  obtain ⟨d1, d2, d3, d4⟩ := d
  obtain ⟨b1, b2, b3, b4⟩ := d4 (u - 1) (by omega) (by omega)
  refine ⟨b1, fun q => absurd q b3, fun m w => ?_, fun i i0 i1 => ?_⟩
  · obtain ⟨z1, z2⟩ := b4 m w
    rw [hH (10 * (u - 1 - 1)) (by omega) (by omega)]
    exact z2
  · obtain ⟨k1, k2, k3, k4⟩ := d4 i i0 (by omega)
    refine ⟨k1, k2, k3, fun m w => ⟨(k4 m w).1, ?_⟩⟩
    rw [hH (10 * (i - 1)) (by omega) (by omega)]
    exact (k4 m w).2
theorem zfy_k {f A B C s H T P Z D c T' P' : Int → Int} {t u n : Int} (d : zfy_d f A B C s H T P Z D c t u n) (hT : ∀ i, 1 ≤ i → i < u → T' i = T i) (hP : ∀ i, 1 ≤ i → i < u → P' i = P i) : zfy_d f A B C s H T' P' Z D c t u n := by
  obtain ⟨d1, d2, d3, d4⟩ := d
  refine ⟨d1, d2, d3, fun i i0 i1 => ?_⟩
  rw [hT i i0 i1, hP i i0 i1]
  exact d4 i i0 i1
theorem zfm_l {a a' : Int} {g g' : Int → Int} (ha : a' + 1 ≤ a) (h : ∀ i, 0 ≤ g i) (h' : ∀ i, g' i ≤ 8000) : ∀ {k : Nat}, zfm_v a' g' k + 1 ≤ zfm_v a g k
  | 0 => ha
  | k + 1 => by
    have q := zfm_l ha h h' (k := k)
    have z := h ((k : Int) + 1)
    have z' := h' ((k : Int) + 1)
    show 8001 * zfm_v a' g' k + g' ((k : Int) + 1) + 1 ≤ 8001 * zfm_v a g k + g ((k : Int) + 1)
    omega
theorem zfm_x {a a' : Int} {g g' : Int → Int} {p : Int} (ha : a' ≤ a) (p0 : 1 ≤ p) (hp : ∀ i, 1 ≤ i → i < p → g' i = g i) (hl : g' p + 1 ≤ g p) (h : ∀ i, 0 ≤ g i) (h' : ∀ i, g' i ≤ 8000) : ∀ {k : Nat}, ((k : Int) < p → zfm_v a' g' k ≤ zfm_v a g k) ∧ (p ≤ (k : Int) → zfm_v a' g' k + 1 ≤ zfm_v a g k)
  | 0 => ⟨fun _ => ha, fun q => by omega⟩
  | k + 1 => by
    obtain ⟨q1, q2⟩ := zfm_x ha p0 hp hl h h' (k := k)
    have z := h ((k : Int) + 1)
    have z' := h' ((k : Int) + 1)
    refine ⟨fun q => ?_, fun q => ?_⟩
    · have e := hp ((k : Int) + 1) (by omega) (by omega)
      have w := q1 (by omega)
      show 8001 * zfm_v a' g' k + g' ((k : Int) + 1) ≤ 8001 * zfm_v a g k + g ((k : Int) + 1)
      omega
    · show 8001 * zfm_v a' g' k + g' ((k : Int) + 1) + 1 ≤ 8001 * zfm_v a g k + g ((k : Int) + 1)
      by_cases c : (k : Int) + 1 = p
      · rw [c]
        have w := q1 (by omega)
        omega
      · have w := q2 (by omega)
        omega
theorem zfm_0 {a : Int} {g : Int → Int} (ha : 0 ≤ a) (h : ∀ i, 0 ≤ g i) : ∀ {k : Nat}, 0 ≤ zfm_v a g k
  | 0 => ha
  | k + 1 => by
    have q := zfm_0 ha h (k := k)
    have z := h ((k : Int) + 1)
    show 0 ≤ 8001 * zfm_v a g k + g ((k : Int) + 1)
    omega
def zfm_b (a : Int) : Nat → Int
  | 0 => a
  | k + 1 => 8001 * zfm_b a k
theorem zfm_u {a : Int} {g : Int → Int} (h : ∀ i, g i ≤ 8000) : ∀ {k : Nat}, zfm_v a g k + 1 ≤ zfm_b (a + 1) k
  | 0 => Int.le_refl _
  | k + 1 => by
    have q := zfm_u (a := a) h (k := k)
    have z := h ((k : Int) + 1)
    show 8001 * zfm_v a g k + g ((k : Int) + 1) + 1 ≤ 8001 * zfm_b (a + 1) k
    omega
theorem zfm_bm {a a' : Int} (h : a ≤ a') : ∀ {k : Nat}, zfm_b a k ≤ zfm_b a' k
  | 0 => h
  | k + 1 => by
    have q := zfm_bm h (k := k)
    show 8001 * zfm_b a k ≤ 8001 * zfm_b a' k
    omega
theorem zfm_gb {T : Int → Int} {t u i : Int} : 0 ≤ zfm_g T t u i ∧ zfm_g T t u i ≤ 8000 := by
  unfold zfm_g
  by_cases c : i < u
  · rw [if_pos c]
    omega
  · rw [if_neg c]
    by_cases e : i = u
    · rw [if_pos e]
      omega
    · rw [if_neg e]
      omega
theorem zfm_bd {f T : Int → Int} {ms t u : Int} (m0 : 0 ≤ ms) (m1 : ms ≤ 20001) : 0 ≤ zfm_m f T ms t u ∧ zfm_m f T ms t u ≤ 53440958017832439646564561705196222029239164018978106920627711233511540207954304837050194421751320395096651610017378962363547943883968071894101874391252481320004 := by
  have hl : (if f t = 16 then (0 : Int) else 1) ≤ 1 ∧ 0 ≤ (if f t = 16 then (0 : Int) else 1) := by
    by_cases c : f t = 16
    · rw [if_pos c]
      omega
    · rw [if_neg c]
      omega
  refine ⟨zfm_0 (by omega) (fun i => zfm_gb.1), ?_⟩
  have q := zfm_u (a := 2 * (20001 - ms) + (if f t = 16 then 0 else 1)) (g := zfm_g T t u) (fun i => zfm_gb.2) (k := 40)
  have z := zfm_bm (a := 2 * (20001 - ms) + (if f t = 16 then 0 else 1) + 1) (a' := 40004) (by omega) (k := 40)
  have e : zfm_b 40004 40 = 53440958017832439646564561705196222029239164018978106920627711233511540207954304837050194421751320395096651610017378962363547943883968071894101874391252481320004 := by decide +kernel
  have r : zfm_m f T ms t u = zfm_v (2 * (20001 - ms) + (if f t = 16 then 0 else 1)) (zfm_g T t u) 40 := rfl
  rw [r]
  omega
theorem zfm_f1 {f : Int → Int} {t : Int} (h : ¬ (f t = 16)) : (if f t = 16 then (0 : Int) else 1) = 1 := if_neg h
theorem zfm_fb {f : Int → Int} {t : Int} : 0 ≤ (if f t = 16 then (0 : Int) else 1) ∧ (if f t = 16 then (0 : Int) else 1) ≤ 1 := by
  by_cases c : f t = 16
  · rw [if_pos c]
    omega
  · rw [if_neg c]
    omega
theorem zfm_gl {T : Int → Int} {t u i : Int} (h : i < u) : zfm_g T t u i = 8000 - T i % 8000 := if_pos h
theorem zfm_ge {T : Int → Int} {t u : Int} : zfm_g T t u u = 8000 - t % 8000 := by
  unfold zfm_g
  rw [if_neg (by omega), if_pos rfl]
theorem zfm_go {T : Int → Int} {t u i : Int} (h : u < i) : zfm_g T t u i = 0 := by
  unfold zfm_g
  rw [if_neg (by omega), if_neg (by omega)]
/-- a step on in its unit, or a jump ahead -/
theorem zfm_1 {f T : Int → Int} {ms t y u : Int} (u0 : 1 ≤ u) (u1 : u ≤ 40) (h : ¬ (f t = 16)) (hy : t % 8000 < y % 8000) : zfm_m f T ms y u + 1 ≤ zfm_m f T ms t u := by
  have b := zfm_fb (f := f) (t := y)
  refine (zfm_x (p := u) (by rw [zfm_f1 h]; omega) u0 (fun i i0 i1 => ?_) ?_ (fun i => zfm_gb.1) (fun i => zfm_gb.2)).2 (by show u ≤ ((40 : Nat) : Int); omega)
  · rw [zfm_gl i1, zfm_gl i1]
  · rw [zfm_ge, zfm_ge]
    omega
/-- back to a loop -/
theorem zfm_2 {f T : Int → Int} {ms t y u : Int} (h : ¬ (f t = 16)) (hy : f y = 16) : zfm_m f T ms y u + 1 ≤ zfm_m f T ms t u := by
  refine zfm_l ?_ (fun i => zfm_gb.1) (fun i => zfm_gb.2)
  rw [zfm_f1 h, if_pos hy]
  omega
/-- a step that is paid for -/
theorem zfm_3 {f T : Int → Int} {ms t y u : Int} : zfm_m f T (ms + 1) y u + 1 ≤ zfm_m f T ms t u := by
  have b := zfm_fb (f := f) (t := y)
  have b' := zfm_fb (f := f) (t := t)
  refine zfm_l ?_ (fun i => zfm_gb.1) (fun i => zfm_gb.2)
  omega
/-- a call -/
theorem zfm_4 {f T T' : Int → Int} {ms t y u : Int} (u0 : 1 ≤ u) (u1 : u ≤ 39) (h : ¬ (f t = 16)) (hT : ∀ i, 1 ≤ i → i < u → T' i = T i) (eT : T' u = t + 1) (ev : (t + 1) / 8000 = t / 8000) : zfm_m f T' ms y (u + 1) + 1 ≤ zfm_m f T ms t u := by
  have b := zfm_fb (f := f) (t := y)
  refine (zfm_x (p := u) (by rw [zfm_f1 h]; omega) u0 (fun i i0 i1 => ?_) ?_ (fun i => zfm_gb.1) (fun i => zfm_gb.2)).2 (by show u ≤ ((40 : Nat) : Int); omega)
  · rw [zfm_gl (by omega), zfm_gl i1, hT i i0 i1]
  · rw [zfm_gl (by omega), zfm_ge, eT]
    omega
/-- a return -/
theorem zfm_5 {f T : Int → Int} {ms t u : Int} (u0 : 2 ≤ u) (u1 : u ≤ 40) (h : ¬ (f t = 16)) : zfm_m f T ms (T (u - 1)) (u - 1) + 1 ≤ zfm_m f T ms t u := by
  have b := zfm_fb (f := f) (t := T (u - 1))
  refine (zfm_x (p := u) (by rw [zfm_f1 h]; omega) (by omega) (fun i i0 i1 => ?_) ?_ (fun i => zfm_gb.1) (fun i => zfm_gb.2)).2 (by show u ≤ ((40 : Nat) : Int); omega)
  · by_cases c : i = u - 1
    · rw [c, zfm_ge, zfm_gl (by omega)]
    · rw [zfm_gl (by omega), zfm_gl i1]
  · rw [zfm_go (by omega), zfm_ge]
    omega
theorem zfm_k {f T T' : Int → Int} {ms t u : Int} (hT : ∀ i, 1 ≤ i → i < u → T' i = T i) : ∀ {k : Nat}, zfm_v (2 * (20001 - ms) + (if f t = 16 then 0 else 1)) (zfm_g T' t u) k = zfm_v (2 * (20001 - ms) + (if f t = 16 then 0 else 1)) (zfm_g T t u) k
  | 0 => rfl
  | k + 1 => by
    have q := zfm_k (f := f) (ms := ms) (t := t) hT (k := k)
    have e : zfm_g T' t u ((k : Int) + 1) = zfm_g T t u ((k : Int) + 1) := by
      by_cases c : (k : Int) + 1 < u
      · rw [zfm_gl c, zfm_gl c, hT _ (by omega) c]
      · unfold zfm_g
        rw [if_neg c, if_neg c]
    show 8001 * zfm_v _ (zfm_g T' t u) k + zfm_g T' t u ((k : Int) + 1) = 8001 * zfm_v _ (zfm_g T t u) k + zfm_g T t u ((k : Int) + 1)
    rw [q, e]
theorem zfy_k7 {f A B C E D c K s : Int → Int} {n t : Int} (hS : zfy_S f A B C E D c K s n) (hp : zfy_p s n t) (h : f t = 7) (hB : B t < 0) : zfo_k D c K (t / 8000) n (A t) 2 := by
  obtain ⟨a, b1, b2, b3, b4⟩ := zfy_7 hS hp h
  obtain ⟨p0, p1, p2⟩ := hp
  have zv : (t - 1) / 8000 = t / 8000 := by omega
  have zp : zfy_p s n (t - 1) := ⟨by omega, by rw [zv]; exact p1, by rw [zv]; omega⟩
  have q := zfy_6 hS zp b1
  rw [b3, b2, zv] at q
  rcases q with q | q
  · exact q.2
  · omega
theorem zfy_k12 {f A B C E D c K s : Int → Int} {n t : Int} (hS : zfy_S f A B C E D c K s n) (hp : zfy_p s n t) (h : f t = 12) (hB : B t < 0) : zfo_k D c K (t / 8000) n (A t) 2 := by
  obtain ⟨j, j0, j1, b1, b2, b3, -, -⟩ := zfy_12 hS hp h
  obtain ⟨p0, p1, p2⟩ := hp
  have zv : j / 8000 = t / 8000 := by omega
  have zp : zfy_p s n j := ⟨by omega, by rw [zv]; exact p1, by rw [zv]; omega⟩
  have q := zfy_6 hS zp b1
  rw [b3, b2, zv] at q
  rcases q with q | q
  · exact q.2
  · omega
theorem zfy_ww {f C s : Int → Int} {n t : Int} (hp : zfy_p s n t) (h : f t = 12) : zfy_w f C s t t := ⟨by omega, by have := hp.2.2; omega, h, fun x x0 x1 => by omega⟩
theorem zfy_i {f A B C E D c K s H T P Z : Int → Int} {n y : Int} (hS : zfy_S f A B C E D c K s n) (yp : zfy_p s n y) (y0 : f y = 0) : zfy_d f A B C s H T P Z D c (y + 1) 1 n := by
  obtain ⟨yq, yv⟩ := zfy_nx hS yp (by omega)
  refine ⟨yq, fun q => ?_, fun m w => ?_, fun i i0 i1 => by omega⟩
  · have z := (zfy_n7 hS yq q).1
    omega
  · rcases zfy_b hS yp yv w with z | z
    · have := z.1
      omega
    · have := z.2
      omega
theorem zfy_193 {w : zz_W} {j t u n : Int} (e : j = t + 4294967296 * u + 18446744073709551616 * n) (t0 : 0 ≤ t) (t1 : t < 4294967296) (u0 : 0 ≤ u) (u1 : u < 4294967296) (n0 : 0 ≤ n) (n1 : n < 4294967296) : zk_xe w 2000193 j = 1 ↔ zfy_d (zh_e w 208) (zh_e w 209) (zh_e w 210) (zh_e w 211) (zh_e w 207) (zh_e w 327) (zh_e w 324) (zh_e w 325) (zh_e w 216) (zh_e w 214) (zh_e w 213) t u n := by
  obtain ⟨d0, d1, d2⟩ := zg_d3 (j := j) (n := t) (k := u) (u := n) (by omega) t0 t1 u0 u1 n0 n1
  rw [show (2000193 : Nat) = 2000000 + 193 from rfl, zk_xe_h]
  have h : zv_H 193 w j = zh_b (zfy_d (zh_e w 208) (zh_e w 209) (zh_e w 210) (zh_e w 211) (zh_e w 207) (zh_e w 327) (zh_e w 324) (zh_e w 325) (zh_e w 216) (zh_e w 214) (zh_e w 213) t u n) := by
    show zh_b (zfy_d (zh_e w 208) (zh_e w 209) (zh_e w 210) (zh_e w 211) (zh_e w 207) (zh_e w 327) (zh_e w 324) (zh_e w 325) (zh_e w 216) (zh_e w 214) (zh_e w 213) (zv_dg 0 j) (zv_dg 1 j) (zv_dg 2 j)) = _
    rw [d0, d1, d2]
  rw [h]
  exact ⟨zh_b1', zh_b1⟩
theorem zfy_194 {w : zz_W} {j ms t u : Int} (e : j = ms + 4294967296 * t + 18446744073709551616 * u) (m0 : 0 ≤ ms) (m1 : ms < 4294967296) (t0 : 0 ≤ t) (t1 : t < 4294967296) (u0 : 0 ≤ u) (u1 : u < 4294967296) : zk_xe w 2000194 j = zfm_m (zh_e w 208) (zh_e w 324) ms t u := by
  obtain ⟨d0, d1, d2⟩ := zg_d3 (j := j) (n := ms) (k := t) (u := u) (by omega) m0 m1 t0 t1 u0 u1
  rw [show (2000194 : Nat) = 2000000 + 194 from rfl, zk_xe_h]
  show zfm_m (zh_e w 208) (zh_e w 324) (zv_dg 0 j) (zv_dg 1 j) (zv_dg 2 j) = _
  rw [d0, d1, d2]
theorem zfy_195 {w : zz_W} {j u k : Int} (e : j = u + 4294967296 * k) (u0 : 0 ≤ u) (u1 : u < 4294967296) (k0 : 0 ≤ k) (k1 : k < 4294967296) : zk_xe w 2000195 j = 1 ↔ zfa_d (zh_e w 213) (zh_e w 215) (zh_e w 216) (zh_e w 321) u k := by
  obtain ⟨d0, d1, -⟩ := zg_d3 (j := j) (n := u) (k := k) (u := 0) (by omega) u0 u1 k0 k1 (by omega) (by omega)
  rw [show (2000195 : Nat) = 2000000 + 195 from rfl, zk_xe_h]
  have h : zv_H 195 w j = zh_b (zfa_d (zh_e w 213) (zh_e w 215) (zh_e w 216) (zh_e w 321) u k) := by
    show zh_b (zfa_d (zh_e w 213) (zh_e w 215) (zh_e w 216) (zh_e w 321) (zv_dg 0 j) (zv_dg 1 j)) = _
    rw [d0, d1]
  rw [h]
  exact ⟨zh_b1', zh_b1⟩
theorem zfy_196 {w : zz_W} {j N n : Int} (e : j = N + 4294967296 * n) (N0 : 0 ≤ N) (N1 : N < 4294967296) (n0 : 0 ≤ n) (n1 : n < 4294967296) : zk_xe w 2000196 j = 1 ↔ (n < N ∧ zn_l w 173 n = 1852399981 ∧ zn_l w 174 n = 0) := by
  obtain ⟨d0, d1, -⟩ := zg_d3 (j := j) (n := N) (k := n) (u := 0) (by omega) N0 N1 n0 n1 (by omega) (by omega)
  rw [show (2000196 : Nat) = 2000000 + 196 from rfl, zk_xe_h]
  have h : zv_H 196 w j = zh_b (n < N ∧ zn_l w 173 n = 1852399981 ∧ zn_l w 174 n = 0) := by
    show zh_b (zv_dg 1 j < zv_dg 0 j ∧ zn_l w 173 (zv_dg 1 j) = 1852399981 ∧ zn_l w 174 (zv_dg 1 j) = 0) = _
    rw [d0, d1]
  rw [h]
  exact ⟨zh_b1', zh_b1⟩
theorem zfy_Sw {w : zz_W} {n : Int} (n0 : 0 ≤ n) (n1 : n < 4294967296) (h1 : zk_xe w 2000192 n = 1) (h2 : zk_xe w 2000176 n = 1) (h3 : zk_xe w 2000190 n = 1) : zfy_S (zh_e w 208) (zh_e w 209) (zh_e w 210) (zh_e w 211) (zh_e w 212) (zh_e w 214) (zh_e w 213) (zh_e w 215) (zh_e w 207) n := by
  refine ⟨zfo_192.mp h1, fun v v0 v1 => ?_⟩
  have ha := zh_b1' (zfo_190.symm.trans h3)
  have q := (zc_176 (w := w) (j := n) (n := n) rfl n0 n1).mp h2 v v0 v1 (ha v v0 v1)
  exact ⟨q.1.2, q.2.1⟩
def zx_D1250 : zx_L := zx_Lc [] 5 [(2000193, 0), (2000192, 3), (2000176, 3), (2000190, 3), (208, 1), (207, 4)] [] [((0, 0), [(0, 1, 0), (1, 0, 1), (2, 0, 4294967296), (3, 0, 18446744073709551616)]), ((0, 1), [(5, 1, 0)]), ((0, 1), [(6, 1, 0)]), ((0, 1), [(7, 1, 0)]), ((0, 1), [(8, 1, 0)])] [((0, 0), [(1, 1, 0)]), ((4294967276, 0), [(1, 0, 1)]), ((0, 0), [(2, 1, 0)]), ((4294967276, 0), [(2, 0, 1)]), ((0, 0), [(3, 1, 0)]), ((4294967276, 0), [(3, 0, 1)]), ((0, 0), [(1, 1, 0), (4, 0, 8000)]), ((7999, 0), [(1, 0, 1), (4, 8000, 0)])] [([], [((0, 1), [(3, 1, 0), (4, 0, 1)]), ((0, 1), [(1, 0, 1), (4, 8000, 0), (10, 1, 0)])], [], [])]
theorem zx_D1250_ok {PT : Nat → zz_W → Prop} : zx_Lok 64 zHT PT zx_D1250 := by
  refine zx_Lc_ok (fun w hI hK ins hl hr he hg => ?_)
  obtain ⟨a0, a1, a2, a3, a4, rfl⟩ := zx_i5 hl
  have e0 : (0 : Int) + (1 * a0 + ((-1) * a1 + ((-4294967296) * a2 + ((-18446744073709551616) * a3 + 0)))) = 0 := he _ List.mem_cons_self
  have e1 : ((-1) : Int) + (1 * (zk_xe w 2000193 a0) + 0) = 0 := he _ (List.mem_cons_of_mem _ List.mem_cons_self)
  have e2 : ((-1) : Int) + (1 * (zk_xe w 2000192 a3) + 0) = 0 := he _ (List.mem_cons_of_mem _ (List.mem_cons_of_mem _ List.mem_cons_self))
  have e3 : ((-1) : Int) + (1 * (zk_xe w 2000176 a3) + 0) = 0 := he _ (List.mem_cons_of_mem _ (List.mem_cons_of_mem _ (List.mem_cons_of_mem _ List.mem_cons_self)))
  have e4 : ((-1) : Int) + (1 * (zk_xe w 2000190 a3) + 0) = 0 := he _ (List.mem_cons_of_mem _ (List.mem_cons_of_mem _ (List.mem_cons_of_mem _ (List.mem_cons_of_mem _ List.mem_cons_self))))
  have g0 : 0 ≤ (0 : Int) + (1 * a1 + 0) := hg _ List.mem_cons_self
  have g1 : 0 ≤ (4294967276 : Int) + ((-1) * a1 + 0) := hg _ (List.mem_cons_of_mem _ List.mem_cons_self)
  have g2 : 0 ≤ (0 : Int) + (1 * a2 + 0) := hg _ (List.mem_cons_of_mem _ (List.mem_cons_of_mem _ List.mem_cons_self))
  have g3 : 0 ≤ (4294967276 : Int) + ((-1) * a2 + 0) := hg _ (List.mem_cons_of_mem _ (List.mem_cons_of_mem _ (List.mem_cons_of_mem _ List.mem_cons_self)))
  have g4 : 0 ≤ (0 : Int) + (1 * a3 + 0) := hg _ (List.mem_cons_of_mem _ (List.mem_cons_of_mem _ (List.mem_cons_of_mem _ (List.mem_cons_of_mem _ List.mem_cons_self))))
  have g5 : 0 ≤ (4294967276 : Int) + ((-1) * a3 + 0) := hg _ (List.mem_cons_of_mem _ (List.mem_cons_of_mem _ (List.mem_cons_of_mem _ (List.mem_cons_of_mem _ (List.mem_cons_of_mem _ List.mem_cons_self)))))
  have g6 : 0 ≤ (0 : Int) + (1 * a1 + ((-8000) * a4 + 0)) := hg _ (List.mem_cons_of_mem _ (List.mem_cons_of_mem _ (List.mem_cons_of_mem _ (List.mem_cons_of_mem _ (List.mem_cons_of_mem _ (List.mem_cons_of_mem _ List.mem_cons_self))))))
  have g7 : 0 ≤ (7999 : Int) + ((-1) * a1 + (8000 * a4 + 0)) := hg _ (List.mem_cons_of_mem _ (List.mem_cons_of_mem _ (List.mem_cons_of_mem _ (List.mem_cons_of_mem _ (List.mem_cons_of_mem _ (List.mem_cons_of_mem _ (List.mem_cons_of_mem _ List.mem_cons_self)))))))
  have r0 : 0 ≤ a0 := hr _ List.mem_cons_self
  have r1 : 0 ≤ a3 := hr _ (List.mem_cons_of_mem _ List.mem_cons_self)
  have r2 : 0 ≤ a3 := hr _ (List.mem_cons_of_mem _ (List.mem_cons_of_mem _ List.mem_cons_self))
  have r3 : 0 ≤ a3 := hr _ (List.mem_cons_of_mem _ (List.mem_cons_of_mem _ (List.mem_cons_of_mem _ List.mem_cons_self)))
  have r4 : 0 ≤ a1 := hr _ (List.mem_cons_of_mem _ (List.mem_cons_of_mem _ (List.mem_cons_of_mem _ (List.mem_cons_of_mem _ List.mem_cons_self))))
  have r5 : 0 ≤ a4 := hr _ (List.mem_cons_of_mem _ (List.mem_cons_of_mem _ (List.mem_cons_of_mem _ (List.mem_cons_of_mem _ (List.mem_cons_of_mem _ List.mem_cons_self)))))
  have hd := (zfy_193 (w := w) (j := a0) (t := a1) (u := a2) (n := a3) (by omega) (by omega) (by omega) (by omega) (by omega) (by omega) (by omega) ).mp (by omega)
  have hS := zfy_Sw (w := w) (n := a3) (by omega) (by omega) (by omega) (by omega) (by omega) 
  have kW : zh_e w 208 (a1) = zk_xe w 208 (a1) := by rw [zk_xe_r (i := 208) (by decide)]; rfl
  have kS : zh_e w 207 (a4) = zk_xe w 207 (a4) := by rw [zk_xe_r (i := 207) (by decide)]; rfl
  have e : a1 / 8000 = a4 := by omega
  have hp := hd.1
  unfold zfy_p at hp
  rw [e, kS] at hp
  exact ⟨_, List.mem_cons_self, [], rfl, zx_bnil, (zx_cs1 (by show 0 ≤ ((-1) : Int) + (1 * a3 + ((-1) * a4 + 0)); omega) (zx_cs1 (by show 0 ≤ ((-1) : Int) + ((-1) * a1 + (8000 * a4 + (1 * (zk_xe w 207 a4) + 0))); omega) zx_cs0)), zx_eF0, zx_k0⟩
def zx_D1249 : zx_L := zx_Lc [] 4 [(2000193, 0), (2000192, 3), (2000176, 3), (2000190, 3), (208, 1)] [] [((0, 0), [(0, 1, 0), (1, 0, 1), (2, 0, 4294967296), (3, 0, 18446744073709551616)]), ((0, 1), [(4, 1, 0)]), ((0, 1), [(5, 1, 0)]), ((0, 1), [(6, 1, 0)]), ((0, 1), [(7, 1, 0)])] [((0, 0), [(1, 1, 0)]), ((4294967276, 0), [(1, 0, 1)]), ((0, 0), [(2, 1, 0)]), ((4294967276, 0), [(2, 0, 1)]), ((0, 0), [(3, 1, 0)]), ((4294967276, 0), [(3, 0, 1)]), ((6, 0), [(3, 0, 1)])] [([], [((47999, 0), [(1, 0, 1)])], [], [])]
theorem zx_D1249_ok {PT : Nat → zz_W → Prop} : zx_Lok 64 zHT PT zx_D1249 := by
  refine zx_Lc_ok (fun w hI hK ins hl hr he hg => ?_)
  obtain ⟨a0, a1, a2, a3, rfl⟩ := zx_i4 hl
  have e0 : (0 : Int) + (1 * a0 + ((-1) * a1 + ((-4294967296) * a2 + ((-18446744073709551616) * a3 + 0)))) = 0 := he _ List.mem_cons_self
  have e1 : ((-1) : Int) + (1 * (zk_xe w 2000193 a0) + 0) = 0 := he _ (List.mem_cons_of_mem _ List.mem_cons_self)
  have e2 : ((-1) : Int) + (1 * (zk_xe w 2000192 a3) + 0) = 0 := he _ (List.mem_cons_of_mem _ (List.mem_cons_of_mem _ List.mem_cons_self))
  have e3 : ((-1) : Int) + (1 * (zk_xe w 2000176 a3) + 0) = 0 := he _ (List.mem_cons_of_mem _ (List.mem_cons_of_mem _ (List.mem_cons_of_mem _ List.mem_cons_self)))
  have e4 : ((-1) : Int) + (1 * (zk_xe w 2000190 a3) + 0) = 0 := he _ (List.mem_cons_of_mem _ (List.mem_cons_of_mem _ (List.mem_cons_of_mem _ (List.mem_cons_of_mem _ List.mem_cons_self))))
  have g0 : 0 ≤ (0 : Int) + (1 * a1 + 0) := hg _ List.mem_cons_self
  have g1 : 0 ≤ (4294967276 : Int) + ((-1) * a1 + 0) := hg _ (List.mem_cons_of_mem _ List.mem_cons_self)
  have g2 : 0 ≤ (0 : Int) + (1 * a2 + 0) := hg _ (List.mem_cons_of_mem _ (List.mem_cons_of_mem _ List.mem_cons_self))
  have g3 : 0 ≤ (4294967276 : Int) + ((-1) * a2 + 0) := hg _ (List.mem_cons_of_mem _ (List.mem_cons_of_mem _ (List.mem_cons_of_mem _ List.mem_cons_self)))
  have g4 : 0 ≤ (0 : Int) + (1 * a3 + 0) := hg _ (List.mem_cons_of_mem _ (List.mem_cons_of_mem _ (List.mem_cons_of_mem _ (List.mem_cons_of_mem _ List.mem_cons_self))))
  have g5 : 0 ≤ (4294967276 : Int) + ((-1) * a3 + 0) := hg _ (List.mem_cons_of_mem _ (List.mem_cons_of_mem _ (List.mem_cons_of_mem _ (List.mem_cons_of_mem _ (List.mem_cons_of_mem _ List.mem_cons_self)))))
  have g6 : 0 ≤ (6 : Int) + ((-1) * a3 + 0) := hg _ (List.mem_cons_of_mem _ (List.mem_cons_of_mem _ (List.mem_cons_of_mem _ (List.mem_cons_of_mem _ (List.mem_cons_of_mem _ (List.mem_cons_of_mem _ List.mem_cons_self))))))
  have r0 : 0 ≤ a0 := hr _ List.mem_cons_self
  have r1 : 0 ≤ a3 := hr _ (List.mem_cons_of_mem _ List.mem_cons_self)
  have r2 : 0 ≤ a3 := hr _ (List.mem_cons_of_mem _ (List.mem_cons_of_mem _ List.mem_cons_self))
  have r3 : 0 ≤ a3 := hr _ (List.mem_cons_of_mem _ (List.mem_cons_of_mem _ (List.mem_cons_of_mem _ List.mem_cons_self)))
  have r4 : 0 ≤ a1 := hr _ (List.mem_cons_of_mem _ (List.mem_cons_of_mem _ (List.mem_cons_of_mem _ (List.mem_cons_of_mem _ List.mem_cons_self))))
  have hd := (zfy_193 (w := w) (j := a0) (t := a1) (u := a2) (n := a3) (by omega) (by omega) (by omega) (by omega) (by omega) (by omega) (by omega) ).mp (by omega)
  have hS := zfy_Sw (w := w) (n := a3) (by omega) (by omega) (by omega) (by omega) (by omega) 
  have kW : zh_e w 208 (a1) = zk_xe w 208 (a1) := by rw [zk_xe_r (i := 208) (by decide)]; rfl
  have hp := hd.1
  unfold zfy_p at hp
  exact ⟨_, List.mem_cons_self, [], rfl, zx_bnil, (zx_cs1 (by show 0 ≤ (47999 : Int) + ((-1) * a1 + 0); omega) zx_cs0), zx_eF0, zx_k0⟩
def zx_D1251 : zx_L := zx_Lc [] 4 [(2000193, 0), (2000192, 3), (2000176, 3), (2000190, 3), (208, 1), (211, 1)] [] [((0, 0), [(0, 1, 0), (1, 0, 1), (2, 0, 4294967296), (3, 0, 18446744073709551616)]), ((0, 1), [(4, 1, 0)]), ((0, 1), [(5, 1, 0)]), ((0, 1), [(6, 1, 0)]), ((0, 1), [(7, 1, 0)])] [((0, 0), [(1, 1, 0)]), ((4294967276, 0), [(1, 0, 1)]), ((0, 0), [(2, 1, 0)]), ((4294967276, 0), [(2, 0, 1)]), ((0, 0), [(3, 1, 0)]), ((4294967276, 0), [(3, 0, 1)]), ((0, 3), [(8, 1, 0)]), ((10, 0), [(8, 0, 1)])] [([], [((0, 0), [(9, 1, 0)]), ((7, 0), [(9, 0, 1)])], [], [])]
theorem zx_D1251_ok {PT : Nat → zz_W → Prop} : zx_Lok 64 zHT PT zx_D1251 := by
  refine zx_Lc_ok (fun w hI hK ins hl hr he hg => ?_)
  obtain ⟨a0, a1, a2, a3, rfl⟩ := zx_i4 hl
  have e0 : (0 : Int) + (1 * a0 + ((-1) * a1 + ((-4294967296) * a2 + ((-18446744073709551616) * a3 + 0)))) = 0 := he _ List.mem_cons_self
  have e1 : ((-1) : Int) + (1 * (zk_xe w 2000193 a0) + 0) = 0 := he _ (List.mem_cons_of_mem _ List.mem_cons_self)
  have e2 : ((-1) : Int) + (1 * (zk_xe w 2000192 a3) + 0) = 0 := he _ (List.mem_cons_of_mem _ (List.mem_cons_of_mem _ List.mem_cons_self))
  have e3 : ((-1) : Int) + (1 * (zk_xe w 2000176 a3) + 0) = 0 := he _ (List.mem_cons_of_mem _ (List.mem_cons_of_mem _ (List.mem_cons_of_mem _ List.mem_cons_self)))
  have e4 : ((-1) : Int) + (1 * (zk_xe w 2000190 a3) + 0) = 0 := he _ (List.mem_cons_of_mem _ (List.mem_cons_of_mem _ (List.mem_cons_of_mem _ (List.mem_cons_of_mem _ List.mem_cons_self))))
  have g0 : 0 ≤ (0 : Int) + (1 * a1 + 0) := hg _ List.mem_cons_self
  have g1 : 0 ≤ (4294967276 : Int) + ((-1) * a1 + 0) := hg _ (List.mem_cons_of_mem _ List.mem_cons_self)
  have g2 : 0 ≤ (0 : Int) + (1 * a2 + 0) := hg _ (List.mem_cons_of_mem _ (List.mem_cons_of_mem _ List.mem_cons_self))
  have g3 : 0 ≤ (4294967276 : Int) + ((-1) * a2 + 0) := hg _ (List.mem_cons_of_mem _ (List.mem_cons_of_mem _ (List.mem_cons_of_mem _ List.mem_cons_self)))
  have g4 : 0 ≤ (0 : Int) + (1 * a3 + 0) := hg _ (List.mem_cons_of_mem _ (List.mem_cons_of_mem _ (List.mem_cons_of_mem _ (List.mem_cons_of_mem _ List.mem_cons_self))))
  have g5 : 0 ≤ (4294967276 : Int) + ((-1) * a3 + 0) := hg _ (List.mem_cons_of_mem _ (List.mem_cons_of_mem _ (List.mem_cons_of_mem _ (List.mem_cons_of_mem _ (List.mem_cons_of_mem _ List.mem_cons_self)))))
  have g6 : 0 ≤ ((-3) : Int) + (1 * (zk_xe w 208 a1) + 0) := hg _ (List.mem_cons_of_mem _ (List.mem_cons_of_mem _ (List.mem_cons_of_mem _ (List.mem_cons_of_mem _ (List.mem_cons_of_mem _ (List.mem_cons_of_mem _ List.mem_cons_self))))))
  have g7 : 0 ≤ (10 : Int) + ((-1) * (zk_xe w 208 a1) + 0) := hg _ (List.mem_cons_of_mem _ (List.mem_cons_of_mem _ (List.mem_cons_of_mem _ (List.mem_cons_of_mem _ (List.mem_cons_of_mem _ (List.mem_cons_of_mem _ (List.mem_cons_of_mem _ List.mem_cons_self)))))))
  have r0 : 0 ≤ a0 := hr _ List.mem_cons_self
  have r1 : 0 ≤ a3 := hr _ (List.mem_cons_of_mem _ List.mem_cons_self)
  have r2 : 0 ≤ a3 := hr _ (List.mem_cons_of_mem _ (List.mem_cons_of_mem _ List.mem_cons_self))
  have r3 : 0 ≤ a3 := hr _ (List.mem_cons_of_mem _ (List.mem_cons_of_mem _ (List.mem_cons_of_mem _ List.mem_cons_self)))
  have r4 : 0 ≤ a1 := hr _ (List.mem_cons_of_mem _ (List.mem_cons_of_mem _ (List.mem_cons_of_mem _ (List.mem_cons_of_mem _ List.mem_cons_self))))
  have r5 : 0 ≤ a1 := hr _ (List.mem_cons_of_mem _ (List.mem_cons_of_mem _ (List.mem_cons_of_mem _ (List.mem_cons_of_mem _ (List.mem_cons_of_mem _ List.mem_cons_self)))))
  have hd := (zfy_193 (w := w) (j := a0) (t := a1) (u := a2) (n := a3) (by omega) (by omega) (by omega) (by omega) (by omega) (by omega) (by omega) ).mp (by omega)
  have hS := zfy_Sw (w := w) (n := a3) (by omega) (by omega) (by omega) (by omega) (by omega) 
  have kW : zh_e w 208 (a1) = zk_xe w 208 (a1) := by rw [zk_xe_r (i := 208) (by decide)]; rfl
  have kC : zh_e w 211 (a1) = zk_xe w 211 (a1) := by rw [zk_xe_r (i := 211) (by decide)]; rfl
  have h := zfy_c hS hd.1 (by rw [kW]; omega) (by rw [kW]; omega)
  rw [kC] at h
  exact ⟨_, List.mem_cons_self, [], rfl, zx_bnil, (zx_cs1 (by show 0 ≤ (0 : Int) + (1 * (zk_xe w 211 a1) + 0); omega) (zx_cs1 (by show 0 ≤ (7 : Int) + ((-1) * (zk_xe w 211 a1) + 0); omega) zx_cs0)), zx_eF0, zx_k0⟩
def zx_D1252 : zx_L := zx_Lc [] 4 [(2000193, 0), (2000192, 3), (2000176, 3), (2000190, 3), (208, 1), (210, 1)] [] [((0, 0), [(0, 1, 0), (1, 0, 1), (2, 0, 4294967296), (3, 0, 18446744073709551616)]), ((0, 1), [(4, 1, 0)]), ((0, 1), [(5, 1, 0)]), ((0, 1), [(6, 1, 0)]), ((0, 1), [(7, 1, 0)]), ((0, 5), [(8, 1, 0)])] [((0, 0), [(1, 1, 0)]), ((4294967276, 0), [(1, 0, 1)]), ((0, 0), [(2, 1, 0)]), ((4294967276, 0), [(2, 0, 1)]), ((0, 0), [(3, 1, 0)]), ((4294967276, 0), [(3, 0, 1)]), ((0, 0), [(9, 1, 0)])] [([], [((1616, 0), [(9, 0, 1)])], [], [])]
theorem zx_D1252_ok {PT : Nat → zz_W → Prop} : zx_Lok 64 zHT PT zx_D1252 := by
  refine zx_Lc_ok (fun w hI hK ins hl hr he hg => ?_)
  obtain ⟨a0, a1, a2, a3, rfl⟩ := zx_i4 hl
  have e0 : (0 : Int) + (1 * a0 + ((-1) * a1 + ((-4294967296) * a2 + ((-18446744073709551616) * a3 + 0)))) = 0 := he _ List.mem_cons_self
  have e1 : ((-1) : Int) + (1 * (zk_xe w 2000193 a0) + 0) = 0 := he _ (List.mem_cons_of_mem _ List.mem_cons_self)
  have e2 : ((-1) : Int) + (1 * (zk_xe w 2000192 a3) + 0) = 0 := he _ (List.mem_cons_of_mem _ (List.mem_cons_of_mem _ List.mem_cons_self))
  have e3 : ((-1) : Int) + (1 * (zk_xe w 2000176 a3) + 0) = 0 := he _ (List.mem_cons_of_mem _ (List.mem_cons_of_mem _ (List.mem_cons_of_mem _ List.mem_cons_self)))
  have e4 : ((-1) : Int) + (1 * (zk_xe w 2000190 a3) + 0) = 0 := he _ (List.mem_cons_of_mem _ (List.mem_cons_of_mem _ (List.mem_cons_of_mem _ (List.mem_cons_of_mem _ List.mem_cons_self))))
  have e5 : ((-5) : Int) + (1 * (zk_xe w 208 a1) + 0) = 0 := he _ (List.mem_cons_of_mem _ (List.mem_cons_of_mem _ (List.mem_cons_of_mem _ (List.mem_cons_of_mem _ (List.mem_cons_of_mem _ List.mem_cons_self)))))
  have g0 : 0 ≤ (0 : Int) + (1 * a1 + 0) := hg _ List.mem_cons_self
  have g1 : 0 ≤ (4294967276 : Int) + ((-1) * a1 + 0) := hg _ (List.mem_cons_of_mem _ List.mem_cons_self)
  have g2 : 0 ≤ (0 : Int) + (1 * a2 + 0) := hg _ (List.mem_cons_of_mem _ (List.mem_cons_of_mem _ List.mem_cons_self))
  have g3 : 0 ≤ (4294967276 : Int) + ((-1) * a2 + 0) := hg _ (List.mem_cons_of_mem _ (List.mem_cons_of_mem _ (List.mem_cons_of_mem _ List.mem_cons_self)))
  have g4 : 0 ≤ (0 : Int) + (1 * a3 + 0) := hg _ (List.mem_cons_of_mem _ (List.mem_cons_of_mem _ (List.mem_cons_of_mem _ (List.mem_cons_of_mem _ List.mem_cons_self))))
  have g5 : 0 ≤ (4294967276 : Int) + ((-1) * a3 + 0) := hg _ (List.mem_cons_of_mem _ (List.mem_cons_of_mem _ (List.mem_cons_of_mem _ (List.mem_cons_of_mem _ (List.mem_cons_of_mem _ List.mem_cons_self)))))
  have g6 : 0 ≤ (0 : Int) + (1 * (zk_xe w 210 a1) + 0) := hg _ (List.mem_cons_of_mem _ (List.mem_cons_of_mem _ (List.mem_cons_of_mem _ (List.mem_cons_of_mem _ (List.mem_cons_of_mem _ (List.mem_cons_of_mem _ List.mem_cons_self))))))
  have r0 : 0 ≤ a0 := hr _ List.mem_cons_self
  have r1 : 0 ≤ a3 := hr _ (List.mem_cons_of_mem _ List.mem_cons_self)
  have r2 : 0 ≤ a3 := hr _ (List.mem_cons_of_mem _ (List.mem_cons_of_mem _ List.mem_cons_self))
  have r3 : 0 ≤ a3 := hr _ (List.mem_cons_of_mem _ (List.mem_cons_of_mem _ (List.mem_cons_of_mem _ List.mem_cons_self)))
  have r4 : 0 ≤ a1 := hr _ (List.mem_cons_of_mem _ (List.mem_cons_of_mem _ (List.mem_cons_of_mem _ (List.mem_cons_of_mem _ List.mem_cons_self))))
  have r5 : 0 ≤ a1 := hr _ (List.mem_cons_of_mem _ (List.mem_cons_of_mem _ (List.mem_cons_of_mem _ (List.mem_cons_of_mem _ (List.mem_cons_of_mem _ List.mem_cons_self)))))
  have hd := (zfy_193 (w := w) (j := a0) (t := a1) (u := a2) (n := a3) (by omega) (by omega) (by omega) (by omega) (by omega) (by omega) (by omega) ).mp (by omega)
  have hS := zfy_Sw (w := w) (n := a3) (by omega) (by omega) (by omega) (by omega) (by omega) 
  have kW : zh_e w 208 (a1) = zk_xe w 208 (a1) := by rw [zk_xe_r (i := 208) (by decide)]; rfl
  have kB : zh_e w 210 (a1) = zk_xe w 210 (a1) := by rw [zk_xe_r (i := 210) (by decide)]; rfl
  have h := zfy_5 hS hd.1 (by rw [kW]; omega)
  rw [kB] at h
  exact ⟨_, List.mem_cons_self, [], rfl, zx_bnil, (zx_cs1 (by show 0 ≤ (1616 : Int) + ((-1) * (zk_xe w 210 a1) + 0); omega) zx_cs0), zx_eF0, zx_k0⟩
def zx_D1253 : zx_L := zx_Lc [] 4 [(2000193, 0), (2000192, 3), (2000176, 3), (2000190, 3), (208, 1), (210, 1)] [] [((0, 0), [(0, 1, 0), (1, 0, 1), (2, 0, 4294967296), (3, 0, 18446744073709551616)]), ((0, 1), [(4, 1, 0)]), ((0, 1), [(5, 1, 0)]), ((0, 1), [(6, 1, 0)]), ((0, 1), [(7, 1, 0)]), ((0, 11), [(8, 1, 0)])] [((0, 0), [(1, 1, 0)]), ((4294967276, 0), [(1, 0, 1)]), ((0, 0), [(2, 1, 0)]), ((4294967276, 0), [(2, 0, 1)]), ((0, 0), [(3, 1, 0)]), ((4294967276, 0), [(3, 0, 1)]), ((0, 0), [(9, 1, 0)])] [([], [((1616, 0), [(9, 0, 1)])], [], [])]
theorem zx_D1253_ok {PT : Nat → zz_W → Prop} : zx_Lok 64 zHT PT zx_D1253 := by
  refine zx_Lc_ok (fun w hI hK ins hl hr he hg => ?_)
  obtain ⟨a0, a1, a2, a3, rfl⟩ := zx_i4 hl
  have e0 : (0 : Int) + (1 * a0 + ((-1) * a1 + ((-4294967296) * a2 + ((-18446744073709551616) * a3 + 0)))) = 0 := he _ List.mem_cons_self
  have e1 : ((-1) : Int) + (1 * (zk_xe w 2000193 a0) + 0) = 0 := he _ (List.mem_cons_of_mem _ List.mem_cons_self)
  have e2 : ((-1) : Int) + (1 * (zk_xe w 2000192 a3) + 0) = 0 := he _ (List.mem_cons_of_mem _ (List.mem_cons_of_mem _ List.mem_cons_self))
  have e3 : ((-1) : Int) + (1 * (zk_xe w 2000176 a3) + 0) = 0 := he _ (List.mem_cons_of_mem _ (List.mem_cons_of_mem _ (List.mem_cons_of_mem _ List.mem_cons_self)))
  have e4 : ((-1) : Int) + (1 * (zk_xe w 2000190 a3) + 0) = 0 := he _ (List.mem_cons_of_mem _ (List.mem_cons_of_mem _ (List.mem_cons_of_mem _ (List.mem_cons_of_mem _ List.mem_cons_self))))
  have e5 : ((-11) : Int) + (1 * (zk_xe w 208 a1) + 0) = 0 := he _ (List.mem_cons_of_mem _ (List.mem_cons_of_mem _ (List.mem_cons_of_mem _ (List.mem_cons_of_mem _ (List.mem_cons_of_mem _ List.mem_cons_self)))))
  have g0 : 0 ≤ (0 : Int) + (1 * a1 + 0) := hg _ List.mem_cons_self
  have g1 : 0 ≤ (4294967276 : Int) + ((-1) * a1 + 0) := hg _ (List.mem_cons_of_mem _ List.mem_cons_self)
  have g2 : 0 ≤ (0 : Int) + (1 * a2 + 0) := hg _ (List.mem_cons_of_mem _ (List.mem_cons_of_mem _ List.mem_cons_self))
  have g3 : 0 ≤ (4294967276 : Int) + ((-1) * a2 + 0) := hg _ (List.mem_cons_of_mem _ (List.mem_cons_of_mem _ (List.mem_cons_of_mem _ List.mem_cons_self)))
  have g4 : 0 ≤ (0 : Int) + (1 * a3 + 0) := hg _ (List.mem_cons_of_mem _ (List.mem_cons_of_mem _ (List.mem_cons_of_mem _ (List.mem_cons_of_mem _ List.mem_cons_self))))
  have g5 : 0 ≤ (4294967276 : Int) + ((-1) * a3 + 0) := hg _ (List.mem_cons_of_mem _ (List.mem_cons_of_mem _ (List.mem_cons_of_mem _ (List.mem_cons_of_mem _ (List.mem_cons_of_mem _ List.mem_cons_self)))))
  have g6 : 0 ≤ (0 : Int) + (1 * (zk_xe w 210 a1) + 0) := hg _ (List.mem_cons_of_mem _ (List.mem_cons_of_mem _ (List.mem_cons_of_mem _ (List.mem_cons_of_mem _ (List.mem_cons_of_mem _ (List.mem_cons_of_mem _ List.mem_cons_self))))))
  have r0 : 0 ≤ a0 := hr _ List.mem_cons_self
  have r1 : 0 ≤ a3 := hr _ (List.mem_cons_of_mem _ List.mem_cons_self)
  have r2 : 0 ≤ a3 := hr _ (List.mem_cons_of_mem _ (List.mem_cons_of_mem _ List.mem_cons_self))
  have r3 : 0 ≤ a3 := hr _ (List.mem_cons_of_mem _ (List.mem_cons_of_mem _ (List.mem_cons_of_mem _ List.mem_cons_self)))
  have r4 : 0 ≤ a1 := hr _ (List.mem_cons_of_mem _ (List.mem_cons_of_mem _ (List.mem_cons_of_mem _ (List.mem_cons_of_mem _ List.mem_cons_self))))
  have r5 : 0 ≤ a1 := hr _ (List.mem_cons_of_mem _ (List.mem_cons_of_mem _ (List.mem_cons_of_mem _ (List.mem_cons_of_mem _ (List.mem_cons_of_mem _ List.mem_cons_self)))))
  have hd := (zfy_193 (w := w) (j := a0) (t := a1) (u := a2) (n := a3) (by omega) (by omega) (by omega) (by omega) (by omega) (by omega) (by omega) ).mp (by omega)
  have hS := zfy_Sw (w := w) (n := a3) (by omega) (by omega) (by omega) (by omega) (by omega) 
  have kW : zh_e w 208 (a1) = zk_xe w 208 (a1) := by rw [zk_xe_r (i := 208) (by decide)]; rfl
  have kB : zh_e w 210 (a1) = zk_xe w 210 (a1) := by rw [zk_xe_r (i := 210) (by decide)]; rfl
  have h := zfy_5 hS hd.1 (by rw [kW]; omega)
  rw [kB] at h
  exact ⟨_, List.mem_cons_self, [], rfl, zx_bnil, (zx_cs1 (by show 0 ≤ (1616 : Int) + ((-1) * (zk_xe w 210 a1) + 0); omega) zx_cs0), zx_eF0, zx_k0⟩
def zx_D1254 : zx_L := zx_Lc [] 4 [(2000193, 0), (2000192, 3), (2000176, 3), (2000190, 3), (208, 1), (210, 1), (212, 1)] [] [((0, 0), [(0, 1, 0), (1, 0, 1), (2, 0, 4294967296), (3, 0, 18446744073709551616)]), ((0, 1), [(4, 1, 0)]), ((0, 1), [(5, 1, 0)]), ((0, 1), [(6, 1, 0)]), ((0, 1), [(7, 1, 0)]), ((0, 6), [(8, 1, 0)])] [((0, 0), [(1, 1, 0)]), ((4294967276, 0), [(1, 0, 1)]), ((0, 0), [(2, 1, 0)]), ((4294967276, 0), [(2, 0, 1)]), ((0, 0), [(3, 1, 0)]), ((4294967276, 0), [(3, 0, 1)]), ((0, 0), [(9, 1, 0)])] [([], [((0, 1), [(10, 1, 0)]), ((1620, 0), [(9, 0, 1), (10, 0, 4)])], [], [])]
theorem zx_D1254_ok {PT : Nat → zz_W → Prop} : zx_Lok 64 zHT PT zx_D1254 := by
  refine zx_Lc_ok (fun w hI hK ins hl hr he hg => ?_)
  obtain ⟨a0, a1, a2, a3, rfl⟩ := zx_i4 hl
  have e0 : (0 : Int) + (1 * a0 + ((-1) * a1 + ((-4294967296) * a2 + ((-18446744073709551616) * a3 + 0)))) = 0 := he _ List.mem_cons_self
  have e1 : ((-1) : Int) + (1 * (zk_xe w 2000193 a0) + 0) = 0 := he _ (List.mem_cons_of_mem _ List.mem_cons_self)
  have e2 : ((-1) : Int) + (1 * (zk_xe w 2000192 a3) + 0) = 0 := he _ (List.mem_cons_of_mem _ (List.mem_cons_of_mem _ List.mem_cons_self))
  have e3 : ((-1) : Int) + (1 * (zk_xe w 2000176 a3) + 0) = 0 := he _ (List.mem_cons_of_mem _ (List.mem_cons_of_mem _ (List.mem_cons_of_mem _ List.mem_cons_self)))
  have e4 : ((-1) : Int) + (1 * (zk_xe w 2000190 a3) + 0) = 0 := he _ (List.mem_cons_of_mem _ (List.mem_cons_of_mem _ (List.mem_cons_of_mem _ (List.mem_cons_of_mem _ List.mem_cons_self))))
  have e5 : ((-6) : Int) + (1 * (zk_xe w 208 a1) + 0) = 0 := he _ (List.mem_cons_of_mem _ (List.mem_cons_of_mem _ (List.mem_cons_of_mem _ (List.mem_cons_of_mem _ (List.mem_cons_of_mem _ List.mem_cons_self)))))
  have g0 : 0 ≤ (0 : Int) + (1 * a1 + 0) := hg _ List.mem_cons_self
  have g1 : 0 ≤ (4294967276 : Int) + ((-1) * a1 + 0) := hg _ (List.mem_cons_of_mem _ List.mem_cons_self)
  have g2 : 0 ≤ (0 : Int) + (1 * a2 + 0) := hg _ (List.mem_cons_of_mem _ (List.mem_cons_of_mem _ List.mem_cons_self))
  have g3 : 0 ≤ (4294967276 : Int) + ((-1) * a2 + 0) := hg _ (List.mem_cons_of_mem _ (List.mem_cons_of_mem _ (List.mem_cons_of_mem _ List.mem_cons_self)))
  have g4 : 0 ≤ (0 : Int) + (1 * a3 + 0) := hg _ (List.mem_cons_of_mem _ (List.mem_cons_of_mem _ (List.mem_cons_of_mem _ (List.mem_cons_of_mem _ List.mem_cons_self))))
  have g5 : 0 ≤ (4294967276 : Int) + ((-1) * a3 + 0) := hg _ (List.mem_cons_of_mem _ (List.mem_cons_of_mem _ (List.mem_cons_of_mem _ (List.mem_cons_of_mem _ (List.mem_cons_of_mem _ List.mem_cons_self)))))
  have g6 : 0 ≤ (0 : Int) + (1 * (zk_xe w 210 a1) + 0) := hg _ (List.mem_cons_of_mem _ (List.mem_cons_of_mem _ (List.mem_cons_of_mem _ (List.mem_cons_of_mem _ (List.mem_cons_of_mem _ (List.mem_cons_of_mem _ List.mem_cons_self))))))
  have r0 : 0 ≤ a0 := hr _ List.mem_cons_self
  have r1 : 0 ≤ a3 := hr _ (List.mem_cons_of_mem _ List.mem_cons_self)
  have r2 : 0 ≤ a3 := hr _ (List.mem_cons_of_mem _ (List.mem_cons_of_mem _ List.mem_cons_self))
  have r3 : 0 ≤ a3 := hr _ (List.mem_cons_of_mem _ (List.mem_cons_of_mem _ (List.mem_cons_of_mem _ List.mem_cons_self)))
  have r4 : 0 ≤ a1 := hr _ (List.mem_cons_of_mem _ (List.mem_cons_of_mem _ (List.mem_cons_of_mem _ (List.mem_cons_of_mem _ List.mem_cons_self))))
  have r5 : 0 ≤ a1 := hr _ (List.mem_cons_of_mem _ (List.mem_cons_of_mem _ (List.mem_cons_of_mem _ (List.mem_cons_of_mem _ (List.mem_cons_of_mem _ List.mem_cons_self)))))
  have r6 : 0 ≤ a1 := hr _ (List.mem_cons_of_mem _ (List.mem_cons_of_mem _ (List.mem_cons_of_mem _ (List.mem_cons_of_mem _ (List.mem_cons_of_mem _ (List.mem_cons_of_mem _ List.mem_cons_self))))))
  have hd := (zfy_193 (w := w) (j := a0) (t := a1) (u := a2) (n := a3) (by omega) (by omega) (by omega) (by omega) (by omega) (by omega) (by omega) ).mp (by omega)
  have hS := zfy_Sw (w := w) (n := a3) (by omega) (by omega) (by omega) (by omega) (by omega) 
  have kW : zh_e w 208 (a1) = zk_xe w 208 (a1) := by rw [zk_xe_r (i := 208) (by decide)]; rfl
  have kB : zh_e w 210 (a1) = zk_xe w 210 (a1) := by rw [zk_xe_r (i := 210) (by decide)]; rfl
  have kE : zh_e w 212 (a1) = zk_xe w 212 (a1) := by rw [zk_xe_r (i := 212) (by decide)]; rfl
  have h := zfy_6 hS hd.1 (by rw [kW]; omega)
  rw [kB, kE] at h
  exact ⟨_, List.mem_cons_self, [], rfl, zx_bnil, (zx_cs1 (by show 0 ≤ ((-1) : Int) + (1 * (zk_xe w 212 a1) + 0); omega) (zx_cs1 (by show 0 ≤ (1620 : Int) + ((-1) * (zk_xe w 210 a1) + ((-4) * (zk_xe w 212 a1) + 0)); omega) zx_cs0)), zx_eF0, zx_k0⟩
def zx_D1255 : zx_L := zx_Lc [] 5 [(2000193, 0), (2000192, 3), (2000176, 3), (2000190, 3), (208, 1), (210, 1), (211, 1), (327, 4)] [] [((0, 0), [(0, 1, 0), (1, 0, 1), (2, 0, 4294967296), (3, 0, 18446744073709551616)]), ((0, 1), [(5, 1, 0)]), ((0, 1), [(6, 1, 0)]), ((0, 1), [(7, 1, 0)]), ((0, 1), [(8, 1, 0)]), ((10, 0), [(2, 0, 10), (4, 1, 0), (11, 0, 1)]), ((0, 7), [(9, 1, 0)])] [((0, 0), [(1, 1, 0)]), ((4294967276, 0), [(1, 0, 1)]), ((0, 0), [(2, 1, 0)]), ((4294967276, 0), [(2, 0, 1)]), ((0, 0), [(3, 1, 0)]), ((4294967276, 0), [(3, 0, 1)]), ((0, 0), [(10, 1, 0)]), ((0, 0), [(4, 1, 0)])] [([], [((0, 0), [(12, 1, 0)]), ((1616, 0), [(10, 0, 1)]), ((404, 0), [(12, 0, 1)]), ((1616, 0), [(10, 0, 1), (12, 0, 4)])], [], [])]
theorem zx_D1255_ok {PT : Nat → zz_W → Prop} : zx_Lok 64 zHT PT zx_D1255 := by
  refine zx_Lc_ok (fun w hI hK ins hl hr he hg => ?_)
  obtain ⟨a0, a1, a2, a3, a4, rfl⟩ := zx_i5 hl
  have e0 : (0 : Int) + (1 * a0 + ((-1) * a1 + ((-4294967296) * a2 + ((-18446744073709551616) * a3 + 0)))) = 0 := he _ List.mem_cons_self
  have e1 : ((-1) : Int) + (1 * (zk_xe w 2000193 a0) + 0) = 0 := he _ (List.mem_cons_of_mem _ List.mem_cons_self)
  have e2 : ((-1) : Int) + (1 * (zk_xe w 2000192 a3) + 0) = 0 := he _ (List.mem_cons_of_mem _ (List.mem_cons_of_mem _ List.mem_cons_self))
  have e3 : ((-1) : Int) + (1 * (zk_xe w 2000176 a3) + 0) = 0 := he _ (List.mem_cons_of_mem _ (List.mem_cons_of_mem _ (List.mem_cons_of_mem _ List.mem_cons_self)))
  have e4 : ((-1) : Int) + (1 * (zk_xe w 2000190 a3) + 0) = 0 := he _ (List.mem_cons_of_mem _ (List.mem_cons_of_mem _ (List.mem_cons_of_mem _ (List.mem_cons_of_mem _ List.mem_cons_self))))
  have e5 : (10 : Int) + ((-10) * a2 + (1 * a4 + ((-1) * (zk_xe w 211 a1) + 0))) = 0 := he _ (List.mem_cons_of_mem _ (List.mem_cons_of_mem _ (List.mem_cons_of_mem _ (List.mem_cons_of_mem _ (List.mem_cons_of_mem _ List.mem_cons_self)))))
  have e6 : ((-7) : Int) + (1 * (zk_xe w 208 a1) + 0) = 0 := he _ (List.mem_cons_of_mem _ (List.mem_cons_of_mem _ (List.mem_cons_of_mem _ (List.mem_cons_of_mem _ (List.mem_cons_of_mem _ (List.mem_cons_of_mem _ List.mem_cons_self))))))
  have g0 : 0 ≤ (0 : Int) + (1 * a1 + 0) := hg _ List.mem_cons_self
  have g1 : 0 ≤ (4294967276 : Int) + ((-1) * a1 + 0) := hg _ (List.mem_cons_of_mem _ List.mem_cons_self)
  have g2 : 0 ≤ (0 : Int) + (1 * a2 + 0) := hg _ (List.mem_cons_of_mem _ (List.mem_cons_of_mem _ List.mem_cons_self))
  have g3 : 0 ≤ (4294967276 : Int) + ((-1) * a2 + 0) := hg _ (List.mem_cons_of_mem _ (List.mem_cons_of_mem _ (List.mem_cons_of_mem _ List.mem_cons_self)))
  have g4 : 0 ≤ (0 : Int) + (1 * a3 + 0) := hg _ (List.mem_cons_of_mem _ (List.mem_cons_of_mem _ (List.mem_cons_of_mem _ (List.mem_cons_of_mem _ List.mem_cons_self))))
  have g5 : 0 ≤ (4294967276 : Int) + ((-1) * a3 + 0) := hg _ (List.mem_cons_of_mem _ (List.mem_cons_of_mem _ (List.mem_cons_of_mem _ (List.mem_cons_of_mem _ (List.mem_cons_of_mem _ List.mem_cons_self)))))
  have g6 : 0 ≤ (0 : Int) + (1 * (zk_xe w 210 a1) + 0) := hg _ (List.mem_cons_of_mem _ (List.mem_cons_of_mem _ (List.mem_cons_of_mem _ (List.mem_cons_of_mem _ (List.mem_cons_of_mem _ (List.mem_cons_of_mem _ List.mem_cons_self))))))
  have g7 : 0 ≤ (0 : Int) + (1 * a4 + 0) := hg _ (List.mem_cons_of_mem _ (List.mem_cons_of_mem _ (List.mem_cons_of_mem _ (List.mem_cons_of_mem _ (List.mem_cons_of_mem _ (List.mem_cons_of_mem _ (List.mem_cons_of_mem _ List.mem_cons_self)))))))
  have r0 : 0 ≤ a0 := hr _ List.mem_cons_self
  have r1 : 0 ≤ a3 := hr _ (List.mem_cons_of_mem _ List.mem_cons_self)
  have r2 : 0 ≤ a3 := hr _ (List.mem_cons_of_mem _ (List.mem_cons_of_mem _ List.mem_cons_self))
  have r3 : 0 ≤ a3 := hr _ (List.mem_cons_of_mem _ (List.mem_cons_of_mem _ (List.mem_cons_of_mem _ List.mem_cons_self)))
  have r4 : 0 ≤ a1 := hr _ (List.mem_cons_of_mem _ (List.mem_cons_of_mem _ (List.mem_cons_of_mem _ (List.mem_cons_of_mem _ List.mem_cons_self))))
  have r5 : 0 ≤ a1 := hr _ (List.mem_cons_of_mem _ (List.mem_cons_of_mem _ (List.mem_cons_of_mem _ (List.mem_cons_of_mem _ (List.mem_cons_of_mem _ List.mem_cons_self)))))
  have r6 : 0 ≤ a1 := hr _ (List.mem_cons_of_mem _ (List.mem_cons_of_mem _ (List.mem_cons_of_mem _ (List.mem_cons_of_mem _ (List.mem_cons_of_mem _ (List.mem_cons_of_mem _ List.mem_cons_self))))))
  have r7 : 0 ≤ a4 := hr _ (List.mem_cons_of_mem _ (List.mem_cons_of_mem _ (List.mem_cons_of_mem _ (List.mem_cons_of_mem _ (List.mem_cons_of_mem _ (List.mem_cons_of_mem _ (List.mem_cons_of_mem _ List.mem_cons_self)))))))
  have hd := (zfy_193 (w := w) (j := a0) (t := a1) (u := a2) (n := a3) (by omega) (by omega) (by omega) (by omega) (by omega) (by omega) (by omega) ).mp (by omega)
  have hS := zfy_Sw (w := w) (n := a3) (by omega) (by omega) (by omega) (by omega) (by omega) 
  have kW : zh_e w 208 (a1) = zk_xe w 208 (a1) := by rw [zk_xe_r (i := 208) (by decide)]; rfl
  have kB : zh_e w 210 (a1) = zk_xe w 210 (a1) := by rw [zk_xe_r (i := 210) (by decide)]; rfl
  have kC : zh_e w 211 (a1) = zk_xe w 211 (a1) := by rw [zk_xe_r (i := 211) (by decide)]; rfl
  have kH : zh_e w 327 (10 * (a2 - 1) + zk_xe w 211 a1) = zk_xe w 327 (a4) := by rw [zk_xe_r (i := 327) (by decide)]; show zk_el w 327 (10 * (a2 - 1) + zk_xe w 211 a1) = zk_el w 327 (a4); rw [show 10 * (a2 - 1) + zk_xe w 211 a1 = a4 by omega]
  have hh := hd.2.1 (by rw [kW]; omega)
  rw [kC] at hh
  unfold zfy_h at hh
  rw [kH, kB] at hh
  obtain ⟨h1, h2, h3⟩ := hh
  have h5 := h2 (by omega)
  exact ⟨_, List.mem_cons_self, [], rfl, zx_bnil, (zx_cs1 (by show 0 ≤ (0 : Int) + (1 * (zk_xe w 327 a4) + 0); omega) (zx_cs1 (by show 0 ≤ (1616 : Int) + ((-1) * (zk_xe w 210 a1) + 0); omega) (zx_cs1 (by show 0 ≤ (404 : Int) + ((-1) * (zk_xe w 327 a4) + 0); omega) (zx_cs1 (by show 0 ≤ (1616 : Int) + ((-1) * (zk_xe w 210 a1) + ((-4) * (zk_xe w 327 a4) + 0)); omega) zx_cs0)))), zx_eF0, zx_k0⟩
def zx_D1256 : zx_L := zx_Lc [] 5 [(2000193, 0), (2000192, 3), (2000176, 3), (2000190, 3), (208, 1), (210, 1), (211, 1), (327, 4)] [] [((0, 0), [(0, 1, 0), (1, 0, 1), (2, 0, 4294967296), (3, 0, 18446744073709551616)]), ((0, 1), [(5, 1, 0)]), ((0, 1), [(6, 1, 0)]), ((0, 1), [(7, 1, 0)]), ((0, 1), [(8, 1, 0)]), ((10, 0), [(2, 0, 10), (4, 1, 0)]), ((0, 12), [(9, 1, 0)])] [((0, 0), [(1, 1, 0)]), ((4294967276, 0), [(1, 0, 1)]), ((0, 0), [(2, 1, 0)]), ((4294967276, 0), [(2, 0, 1)]), ((0, 0), [(3, 1, 0)]), ((4294967276, 0), [(3, 0, 1)]), ((0, 0), [(10, 1, 0)]), ((0, 0), [(4, 1, 0)])] [([], [((0, 0), [(12, 1, 0)]), ((1616, 0), [(10, 0, 1)]), ((404, 0), [(12, 0, 1)]), ((1616, 0), [(10, 0, 1), (12, 0, 4)])], [], [])]
theorem zx_D1256_ok {PT : Nat → zz_W → Prop} : zx_Lok 64 zHT PT zx_D1256 := by
  refine zx_Lc_ok (fun w hI hK ins hl hr he hg => ?_)
  obtain ⟨a0, a1, a2, a3, a4, rfl⟩ := zx_i5 hl
  have e0 : (0 : Int) + (1 * a0 + ((-1) * a1 + ((-4294967296) * a2 + ((-18446744073709551616) * a3 + 0)))) = 0 := he _ List.mem_cons_self
  have e1 : ((-1) : Int) + (1 * (zk_xe w 2000193 a0) + 0) = 0 := he _ (List.mem_cons_of_mem _ List.mem_cons_self)
  have e2 : ((-1) : Int) + (1 * (zk_xe w 2000192 a3) + 0) = 0 := he _ (List.mem_cons_of_mem _ (List.mem_cons_of_mem _ List.mem_cons_self))
  have e3 : ((-1) : Int) + (1 * (zk_xe w 2000176 a3) + 0) = 0 := he _ (List.mem_cons_of_mem _ (List.mem_cons_of_mem _ (List.mem_cons_of_mem _ List.mem_cons_self)))
  have e4 : ((-1) : Int) + (1 * (zk_xe w 2000190 a3) + 0) = 0 := he _ (List.mem_cons_of_mem _ (List.mem_cons_of_mem _ (List.mem_cons_of_mem _ (List.mem_cons_of_mem _ List.mem_cons_self))))
  have e5 : (10 : Int) + ((-10) * a2 + (1 * a4 + 0)) = 0 := he _ (List.mem_cons_of_mem _ (List.mem_cons_of_mem _ (List.mem_cons_of_mem _ (List.mem_cons_of_mem _ (List.mem_cons_of_mem _ List.mem_cons_self)))))
  have e6 : ((-12) : Int) + (1 * (zk_xe w 208 a1) + 0) = 0 := he _ (List.mem_cons_of_mem _ (List.mem_cons_of_mem _ (List.mem_cons_of_mem _ (List.mem_cons_of_mem _ (List.mem_cons_of_mem _ (List.mem_cons_of_mem _ List.mem_cons_self))))))
  have g0 : 0 ≤ (0 : Int) + (1 * a1 + 0) := hg _ List.mem_cons_self
  have g1 : 0 ≤ (4294967276 : Int) + ((-1) * a1 + 0) := hg _ (List.mem_cons_of_mem _ List.mem_cons_self)
  have g2 : 0 ≤ (0 : Int) + (1 * a2 + 0) := hg _ (List.mem_cons_of_mem _ (List.mem_cons_of_mem _ List.mem_cons_self))
  have g3 : 0 ≤ (4294967276 : Int) + ((-1) * a2 + 0) := hg _ (List.mem_cons_of_mem _ (List.mem_cons_of_mem _ (List.mem_cons_of_mem _ List.mem_cons_self)))
  have g4 : 0 ≤ (0 : Int) + (1 * a3 + 0) := hg _ (List.mem_cons_of_mem _ (List.mem_cons_of_mem _ (List.mem_cons_of_mem _ (List.mem_cons_of_mem _ List.mem_cons_self))))
  have g5 : 0 ≤ (4294967276 : Int) + ((-1) * a3 + 0) := hg _ (List.mem_cons_of_mem _ (List.mem_cons_of_mem _ (List.mem_cons_of_mem _ (List.mem_cons_of_mem _ (List.mem_cons_of_mem _ List.mem_cons_self)))))
  have g6 : 0 ≤ (0 : Int) + (1 * (zk_xe w 210 a1) + 0) := hg _ (List.mem_cons_of_mem _ (List.mem_cons_of_mem _ (List.mem_cons_of_mem _ (List.mem_cons_of_mem _ (List.mem_cons_of_mem _ (List.mem_cons_of_mem _ List.mem_cons_self))))))
  have g7 : 0 ≤ (0 : Int) + (1 * a4 + 0) := hg _ (List.mem_cons_of_mem _ (List.mem_cons_of_mem _ (List.mem_cons_of_mem _ (List.mem_cons_of_mem _ (List.mem_cons_of_mem _ (List.mem_cons_of_mem _ (List.mem_cons_of_mem _ List.mem_cons_self)))))))
  have r0 : 0 ≤ a0 := hr _ List.mem_cons_self
  have r1 : 0 ≤ a3 := hr _ (List.mem_cons_of_mem _ List.mem_cons_self)
  have r2 : 0 ≤ a3 := hr _ (List.mem_cons_of_mem _ (List.mem_cons_of_mem _ List.mem_cons_self))
  have r3 : 0 ≤ a3 := hr _ (List.mem_cons_of_mem _ (List.mem_cons_of_mem _ (List.mem_cons_of_mem _ List.mem_cons_self)))
  have r4 : 0 ≤ a1 := hr _ (List.mem_cons_of_mem _ (List.mem_cons_of_mem _ (List.mem_cons_of_mem _ (List.mem_cons_of_mem _ List.mem_cons_self))))
  have r5 : 0 ≤ a1 := hr _ (List.mem_cons_of_mem _ (List.mem_cons_of_mem _ (List.mem_cons_of_mem _ (List.mem_cons_of_mem _ (List.mem_cons_of_mem _ List.mem_cons_self)))))
  have r6 : 0 ≤ a1 := hr _ (List.mem_cons_of_mem _ (List.mem_cons_of_mem _ (List.mem_cons_of_mem _ (List.mem_cons_of_mem _ (List.mem_cons_of_mem _ (List.mem_cons_of_mem _ List.mem_cons_self))))))
  have r7 : 0 ≤ a4 := hr _ (List.mem_cons_of_mem _ (List.mem_cons_of_mem _ (List.mem_cons_of_mem _ (List.mem_cons_of_mem _ (List.mem_cons_of_mem _ (List.mem_cons_of_mem _ (List.mem_cons_of_mem _ List.mem_cons_self)))))))
  have hd := (zfy_193 (w := w) (j := a0) (t := a1) (u := a2) (n := a3) (by omega) (by omega) (by omega) (by omega) (by omega) (by omega) (by omega) ).mp (by omega)
  have hS := zfy_Sw (w := w) (n := a3) (by omega) (by omega) (by omega) (by omega) (by omega) 
  have kW : zh_e w 208 (a1) = zk_xe w 208 (a1) := by rw [zk_xe_r (i := 208) (by decide)]; rfl
  have kB : zh_e w 210 (a1) = zk_xe w 210 (a1) := by rw [zk_xe_r (i := 210) (by decide)]; rfl
  have kC : zh_e w 211 (a1) = zk_xe w 211 (a1) := by rw [zk_xe_r (i := 211) (by decide)]; rfl
  have kH : zh_e w 327 (10 * (a2 - 1)) = zk_xe w 327 (a4) := by rw [zk_xe_r (i := 327) (by decide)]; show zk_el w 327 (10 * (a2 - 1)) = zk_el w 327 (a4); rw [show 10 * (a2 - 1) = a4 by omega]
  have hh := hd.2.2.1 a1 (zfy_ww hd.1 (by rw [kW]; omega))
  unfold zfy_h at hh
  rw [kH, kB] at hh
  obtain ⟨h1, h2, h3⟩ := hh
  have h5 := h2 (by omega)
  exact ⟨_, List.mem_cons_self, [], rfl, zx_bnil, (zx_cs1 (by show 0 ≤ (0 : Int) + (1 * (zk_xe w 327 a4) + 0); omega) (zx_cs1 (by show 0 ≤ (1616 : Int) + ((-1) * (zk_xe w 210 a1) + 0); omega) (zx_cs1 (by show 0 ≤ (404 : Int) + ((-1) * (zk_xe w 327 a4) + 0); omega) (zx_cs1 (by show 0 ≤ (1616 : Int) + ((-1) * (zk_xe w 210 a1) + ((-4) * (zk_xe w 327 a4) + 0)); omega) zx_cs0)))), zx_eF0, zx_k0⟩
def zx_D1290 : zx_L := zx_Lc [] 6 [(2000193, 0), (2000192, 3), (2000176, 3), (2000190, 3), (208, 1), (209, 1), (210, 1), (2000189, 5)] [] [((0, 0), [(0, 1, 0), (1, 0, 1), (2, 0, 4294967296), (3, 0, 18446744073709551616)]), ((0, 1), [(6, 1, 0)]), ((0, 1), [(7, 1, 0)]), ((0, 1), [(8, 1, 0)]), ((0, 1), [(9, 1, 0)]), ((0, 0), [(3, 0, 18446744073709551616), (4, 0, 1), (5, 1, 0), (11, 0, 4294967296)]), ((0, 5), [(10, 1, 0)])] [((0, 0), [(1, 1, 0)]), ((4294967276, 0), [(1, 0, 1)]), ((0, 0), [(2, 1, 0)]), ((4294967276, 0), [(2, 0, 1)]), ((0, 0), [(3, 1, 0)]), ((4294967276, 0), [(3, 0, 1)]), ((0, 0), [(1, 1, 0), (4, 0, 8000)]), ((7999, 0), [(1, 0, 1), (4, 8000, 0)]), ((0, 0), [(4, 1, 0)]), ((0, 0), [(11, 1, 0)]), ((65535, 0), [(11, 0, 1)]), ((6, 0), [(3, 0, 1)]), ((0, 1), [(12, 0, 1)])] [([(1, 1)], [((0, 0), [(13, 1, 0)]), ((383, 0), [(13, 0, 1)])], [(215, ((0, 0), [(13, 1, 0)]), ((0, 0), [(14, 1, 0)]))], [])]
theorem zx_D1290_ok {PT : Nat → zz_W → Prop} : zx_Lok 64 zHT PT zx_D1290 := by
  refine zx_Lc_ok (fun w hI hK ins hl hr he hg => ?_)
  obtain ⟨a0, a1, a2, a3, a4, a5, rfl⟩ := zx_i6 hl
  have e0 : (0 : Int) + (1 * a0 + ((-1) * a1 + ((-4294967296) * a2 + ((-18446744073709551616) * a3 + 0)))) = 0 := he _ List.mem_cons_self
  have e1 : ((-1) : Int) + (1 * (zk_xe w 2000193 a0) + 0) = 0 := he _ (List.mem_cons_of_mem _ List.mem_cons_self)
  have e2 : ((-1) : Int) + (1 * (zk_xe w 2000192 a3) + 0) = 0 := he _ (List.mem_cons_of_mem _ (List.mem_cons_of_mem _ List.mem_cons_self))
  have e3 : ((-1) : Int) + (1 * (zk_xe w 2000176 a3) + 0) = 0 := he _ (List.mem_cons_of_mem _ (List.mem_cons_of_mem _ (List.mem_cons_of_mem _ List.mem_cons_self)))
  have e4 : ((-1) : Int) + (1 * (zk_xe w 2000190 a3) + 0) = 0 := he _ (List.mem_cons_of_mem _ (List.mem_cons_of_mem _ (List.mem_cons_of_mem _ (List.mem_cons_of_mem _ List.mem_cons_self))))
  have e5 : (0 : Int) + ((-18446744073709551616) * a3 + ((-1) * a4 + (1 * a5 + ((-4294967296) * (zk_xe w 209 a1) + 0)))) = 0 := he _ (List.mem_cons_of_mem _ (List.mem_cons_of_mem _ (List.mem_cons_of_mem _ (List.mem_cons_of_mem _ (List.mem_cons_of_mem _ List.mem_cons_self)))))
  have e6 : ((-5) : Int) + (1 * (zk_xe w 208 a1) + 0) = 0 := he _ (List.mem_cons_of_mem _ (List.mem_cons_of_mem _ (List.mem_cons_of_mem _ (List.mem_cons_of_mem _ (List.mem_cons_of_mem _ (List.mem_cons_of_mem _ List.mem_cons_self))))))
  have g0 : 0 ≤ (0 : Int) + (1 * a1 + 0) := hg _ List.mem_cons_self
  have g1 : 0 ≤ (4294967276 : Int) + ((-1) * a1 + 0) := hg _ (List.mem_cons_of_mem _ List.mem_cons_self)
  have g2 : 0 ≤ (0 : Int) + (1 * a2 + 0) := hg _ (List.mem_cons_of_mem _ (List.mem_cons_of_mem _ List.mem_cons_self))
  have g3 : 0 ≤ (4294967276 : Int) + ((-1) * a2 + 0) := hg _ (List.mem_cons_of_mem _ (List.mem_cons_of_mem _ (List.mem_cons_of_mem _ List.mem_cons_self)))
  have g4 : 0 ≤ (0 : Int) + (1 * a3 + 0) := hg _ (List.mem_cons_of_mem _ (List.mem_cons_of_mem _ (List.mem_cons_of_mem _ (List.mem_cons_of_mem _ List.mem_cons_self))))
  have g5 : 0 ≤ (4294967276 : Int) + ((-1) * a3 + 0) := hg _ (List.mem_cons_of_mem _ (List.mem_cons_of_mem _ (List.mem_cons_of_mem _ (List.mem_cons_of_mem _ (List.mem_cons_of_mem _ List.mem_cons_self)))))
  have g6 : 0 ≤ (0 : Int) + (1 * a1 + ((-8000) * a4 + 0)) := hg _ (List.mem_cons_of_mem _ (List.mem_cons_of_mem _ (List.mem_cons_of_mem _ (List.mem_cons_of_mem _ (List.mem_cons_of_mem _ (List.mem_cons_of_mem _ List.mem_cons_self))))))
  have g7 : 0 ≤ (7999 : Int) + ((-1) * a1 + (8000 * a4 + 0)) := hg _ (List.mem_cons_of_mem _ (List.mem_cons_of_mem _ (List.mem_cons_of_mem _ (List.mem_cons_of_mem _ (List.mem_cons_of_mem _ (List.mem_cons_of_mem _ (List.mem_cons_of_mem _ List.mem_cons_self)))))))
  have g8 : 0 ≤ (0 : Int) + (1 * a4 + 0) := hg _ (List.mem_cons_of_mem _ (List.mem_cons_of_mem _ (List.mem_cons_of_mem _ (List.mem_cons_of_mem _ (List.mem_cons_of_mem _ (List.mem_cons_of_mem _ (List.mem_cons_of_mem _ (List.mem_cons_of_mem _ List.mem_cons_self))))))))
  have g9 : 0 ≤ (0 : Int) + (1 * (zk_xe w 209 a1) + 0) := hg _ (List.mem_cons_of_mem _ (List.mem_cons_of_mem _ (List.mem_cons_of_mem _ (List.mem_cons_of_mem _ (List.mem_cons_of_mem _ (List.mem_cons_of_mem _ (List.mem_cons_of_mem _ (List.mem_cons_of_mem _ (List.mem_cons_of_mem _ List.mem_cons_self)))))))))
  have g10 : 0 ≤ (65535 : Int) + ((-1) * (zk_xe w 209 a1) + 0) := hg _ (List.mem_cons_of_mem _ (List.mem_cons_of_mem _ (List.mem_cons_of_mem _ (List.mem_cons_of_mem _ (List.mem_cons_of_mem _ (List.mem_cons_of_mem _ (List.mem_cons_of_mem _ (List.mem_cons_of_mem _ (List.mem_cons_of_mem _ (List.mem_cons_of_mem _ List.mem_cons_self))))))))))
  have g11 : 0 ≤ (6 : Int) + ((-1) * a3 + 0) := hg _ (List.mem_cons_of_mem _ (List.mem_cons_of_mem _ (List.mem_cons_of_mem _ (List.mem_cons_of_mem _ (List.mem_cons_of_mem _ (List.mem_cons_of_mem _ (List.mem_cons_of_mem _ (List.mem_cons_of_mem _ (List.mem_cons_of_mem _ (List.mem_cons_of_mem _ (List.mem_cons_of_mem _ List.mem_cons_self)))))))))))
  have g12 : 0 ≤ ((-1) : Int) + ((-1) * (zk_xe w 210 a1) + 0) := hg _ (List.mem_cons_of_mem _ (List.mem_cons_of_mem _ (List.mem_cons_of_mem _ (List.mem_cons_of_mem _ (List.mem_cons_of_mem _ (List.mem_cons_of_mem _ (List.mem_cons_of_mem _ (List.mem_cons_of_mem _ (List.mem_cons_of_mem _ (List.mem_cons_of_mem _ (List.mem_cons_of_mem _ (List.mem_cons_of_mem _ List.mem_cons_self))))))))))))
  have r0 : 0 ≤ a0 := hr _ List.mem_cons_self
  have r1 : 0 ≤ a3 := hr _ (List.mem_cons_of_mem _ List.mem_cons_self)
  have r2 : 0 ≤ a3 := hr _ (List.mem_cons_of_mem _ (List.mem_cons_of_mem _ List.mem_cons_self))
  have r3 : 0 ≤ a3 := hr _ (List.mem_cons_of_mem _ (List.mem_cons_of_mem _ (List.mem_cons_of_mem _ List.mem_cons_self)))
  have r4 : 0 ≤ a1 := hr _ (List.mem_cons_of_mem _ (List.mem_cons_of_mem _ (List.mem_cons_of_mem _ (List.mem_cons_of_mem _ List.mem_cons_self))))
  have r5 : 0 ≤ a1 := hr _ (List.mem_cons_of_mem _ (List.mem_cons_of_mem _ (List.mem_cons_of_mem _ (List.mem_cons_of_mem _ (List.mem_cons_of_mem _ List.mem_cons_self)))))
  have r6 : 0 ≤ a1 := hr _ (List.mem_cons_of_mem _ (List.mem_cons_of_mem _ (List.mem_cons_of_mem _ (List.mem_cons_of_mem _ (List.mem_cons_of_mem _ (List.mem_cons_of_mem _ List.mem_cons_self))))))
  have r7 : 0 ≤ a5 := hr _ (List.mem_cons_of_mem _ (List.mem_cons_of_mem _ (List.mem_cons_of_mem _ (List.mem_cons_of_mem _ (List.mem_cons_of_mem _ (List.mem_cons_of_mem _ (List.mem_cons_of_mem _ List.mem_cons_self)))))))
  have hd := (zfy_193 (w := w) (j := a0) (t := a1) (u := a2) (n := a3) (by omega) (by omega) (by omega) (by omega) (by omega) (by omega) (by omega) ).mp (by omega)
  have hS := zfy_Sw (w := w) (n := a3) (by omega) (by omega) (by omega) (by omega) (by omega) 
  have kW : zh_e w 208 (a1) = zk_xe w 208 (a1) := by rw [zk_xe_r (i := 208) (by decide)]; rfl
  have ha := zh_b1' (zfo_190.symm.trans (show zk_xe w 2000190 a3 = 1 by omega))
  have hsh := fun v v0 v1 => (zc_176 (w := w) (j := a3) (n := a3) (by omega) (by omega) (by omega) ).mp (by omega) v v0 v1 (ha v v0 v1)
  have kA : zh_e w 209 (a1) = zk_xe w 209 (a1) := by rw [zk_xe_r (i := 209) (by decide)]; rfl
  have kB : zh_e w 210 (a1) = zk_xe w 210 (a1) := by rw [zk_xe_r (i := 210) (by decide)]; rfl
  have q := (zfy_5 hS hd.1 (by rw [kW]; omega)).resolve_right (by rw [kB]; omega) |>.2
  have e : a1 / 8000 = a4 := by omega
  have hD := (zfo_189 (w := w) (j := a5) (u := a4) (x := (zk_xe w 209 a1)) (n := a3) (by omega) (by omega) (by omega) (by omega) (by omega) (by omega) (by omega) )
  have z := q
  unfold zfo_k at z
  rw [e, kA, ← hD] at z
  obtain ⟨z1, z2⟩ := z
  have u1 : a4 < a3 := by have := hd.1.2.1; omega
  obtain ⟨v, i, v0, v1, i0, i1, i2, -⟩ := zfo_dr (D := zh_e w 214) (c := zh_e w 213) (u := a4) (x := zk_xe w 209 a1) (n := a3) (by omega) u1 (by rw [← hD]; exact z1)
  rw [← hD] at i2
  have hc := (hsh v v0 v1).2.2.2.2.1
  have kK : zh_e w 215 ((zk_xe w 2000189 a5)) = zk_xe w 215 ((zk_xe w 2000189 a5)) := by rw [zk_xe_r (i := 215) (by decide)]; rfl
  rw [kK] at z2
  exact ⟨_, List.mem_cons_self, [zk_xe w 215 (zk_xe w 2000189 a5)], rfl, (zx_bcons (by show (1 : Int) ≤ zk_xe w 215 (zk_xe w 2000189 a5) ∧ zk_xe w 215 (zk_xe w 2000189 a5) ≤ (1 : Int); omega) zx_bnil), (zx_cs1 (by show 0 ≤ (0 : Int) + (1 * (zk_xe w 2000189 a5) + 0); omega) (zx_cs1 (by show 0 ≤ (383 : Int) + ((-1) * (zk_xe w 2000189 a5) + 0); omega) zx_cs0)), (zx_eF1 (by show 0 ≤ (0 : Int) + (1 * (zk_xe w 2000189 a5) + 0); omega) (by show zk_xe w 215 ((0 : Int) + (1 * (zk_xe w 2000189 a5) + 0)) = (0 : Int) + (1 * (zk_xe w 215 (zk_xe w 2000189 a5)) + 0); rw [show (0 : Int) + (1 * (zk_xe w 2000189 a5) + 0) = (zk_xe w 2000189 a5) by omega]; omega) zx_eF0), zx_k0⟩
def zx_D1291 : zx_L := zx_Lc [] 6 [(2000193, 0), (2000192, 3), (2000176, 3), (2000190, 3), (208, 1), (209, 1), (210, 1), (2000189, 5)] [] [((0, 0), [(0, 1, 0), (1, 0, 1), (2, 0, 4294967296), (3, 0, 18446744073709551616)]), ((0, 1), [(6, 1, 0)]), ((0, 1), [(7, 1, 0)]), ((0, 1), [(8, 1, 0)]), ((0, 1), [(9, 1, 0)]), ((0, 0), [(3, 0, 18446744073709551616), (4, 0, 1), (5, 1, 0), (11, 0, 4294967296)]), ((0, 11), [(10, 1, 0)])] [((0, 0), [(1, 1, 0)]), ((4294967276, 0), [(1, 0, 1)]), ((0, 0), [(2, 1, 0)]), ((4294967276, 0), [(2, 0, 1)]), ((0, 0), [(3, 1, 0)]), ((4294967276, 0), [(3, 0, 1)]), ((0, 0), [(1, 1, 0), (4, 0, 8000)]), ((7999, 0), [(1, 0, 1), (4, 8000, 0)]), ((0, 0), [(4, 1, 0)]), ((0, 0), [(11, 1, 0)]), ((65535, 0), [(11, 0, 1)]), ((6, 0), [(3, 0, 1)]), ((0, 1), [(12, 0, 1)])] [([(1, 1)], [((0, 0), [(13, 1, 0)]), ((383, 0), [(13, 0, 1)])], [(215, ((0, 0), [(13, 1, 0)]), ((0, 0), [(14, 1, 0)]))], [])]
theorem zx_D1291_ok {PT : Nat → zz_W → Prop} : zx_Lok 64 zHT PT zx_D1291 := by
  refine zx_Lc_ok (fun w hI hK ins hl hr he hg => ?_)
  obtain ⟨a0, a1, a2, a3, a4, a5, rfl⟩ := zx_i6 hl
  have e0 : (0 : Int) + (1 * a0 + ((-1) * a1 + ((-4294967296) * a2 + ((-18446744073709551616) * a3 + 0)))) = 0 := he _ List.mem_cons_self
  have e1 : ((-1) : Int) + (1 * (zk_xe w 2000193 a0) + 0) = 0 := he _ (List.mem_cons_of_mem _ List.mem_cons_self)
  have e2 : ((-1) : Int) + (1 * (zk_xe w 2000192 a3) + 0) = 0 := he _ (List.mem_cons_of_mem _ (List.mem_cons_of_mem _ List.mem_cons_self))
  have e3 : ((-1) : Int) + (1 * (zk_xe w 2000176 a3) + 0) = 0 := he _ (List.mem_cons_of_mem _ (List.mem_cons_of_mem _ (List.mem_cons_of_mem _ List.mem_cons_self)))
  have e4 : ((-1) : Int) + (1 * (zk_xe w 2000190 a3) + 0) = 0 := he _ (List.mem_cons_of_mem _ (List.mem_cons_of_mem _ (List.mem_cons_of_mem _ (List.mem_cons_of_mem _ List.mem_cons_self))))
  have e5 : (0 : Int) + ((-18446744073709551616) * a3 + ((-1) * a4 + (1 * a5 + ((-4294967296) * (zk_xe w 209 a1) + 0)))) = 0 := he _ (List.mem_cons_of_mem _ (List.mem_cons_of_mem _ (List.mem_cons_of_mem _ (List.mem_cons_of_mem _ (List.mem_cons_of_mem _ List.mem_cons_self)))))
  have e6 : ((-11) : Int) + (1 * (zk_xe w 208 a1) + 0) = 0 := he _ (List.mem_cons_of_mem _ (List.mem_cons_of_mem _ (List.mem_cons_of_mem _ (List.mem_cons_of_mem _ (List.mem_cons_of_mem _ (List.mem_cons_of_mem _ List.mem_cons_self))))))
  have g0 : 0 ≤ (0 : Int) + (1 * a1 + 0) := hg _ List.mem_cons_self
  have g1 : 0 ≤ (4294967276 : Int) + ((-1) * a1 + 0) := hg _ (List.mem_cons_of_mem _ List.mem_cons_self)
  have g2 : 0 ≤ (0 : Int) + (1 * a2 + 0) := hg _ (List.mem_cons_of_mem _ (List.mem_cons_of_mem _ List.mem_cons_self))
  have g3 : 0 ≤ (4294967276 : Int) + ((-1) * a2 + 0) := hg _ (List.mem_cons_of_mem _ (List.mem_cons_of_mem _ (List.mem_cons_of_mem _ List.mem_cons_self)))
  have g4 : 0 ≤ (0 : Int) + (1 * a3 + 0) := hg _ (List.mem_cons_of_mem _ (List.mem_cons_of_mem _ (List.mem_cons_of_mem _ (List.mem_cons_of_mem _ List.mem_cons_self))))
  have g5 : 0 ≤ (4294967276 : Int) + ((-1) * a3 + 0) := hg _ (List.mem_cons_of_mem _ (List.mem_cons_of_mem _ (List.mem_cons_of_mem _ (List.mem_cons_of_mem _ (List.mem_cons_of_mem _ List.mem_cons_self)))))
  have g6 : 0 ≤ (0 : Int) + (1 * a1 + ((-8000) * a4 + 0)) := hg _ (List.mem_cons_of_mem _ (List.mem_cons_of_mem _ (List.mem_cons_of_mem _ (List.mem_cons_of_mem _ (List.mem_cons_of_mem _ (List.mem_cons_of_mem _ List.mem_cons_self))))))
  have g7 : 0 ≤ (7999 : Int) + ((-1) * a1 + (8000 * a4 + 0)) := hg _ (List.mem_cons_of_mem _ (List.mem_cons_of_mem _ (List.mem_cons_of_mem _ (List.mem_cons_of_mem _ (List.mem_cons_of_mem _ (List.mem_cons_of_mem _ (List.mem_cons_of_mem _ List.mem_cons_self)))))))
  have g8 : 0 ≤ (0 : Int) + (1 * a4 + 0) := hg _ (List.mem_cons_of_mem _ (List.mem_cons_of_mem _ (List.mem_cons_of_mem _ (List.mem_cons_of_mem _ (List.mem_cons_of_mem _ (List.mem_cons_of_mem _ (List.mem_cons_of_mem _ (List.mem_cons_of_mem _ List.mem_cons_self))))))))
  have g9 : 0 ≤ (0 : Int) + (1 * (zk_xe w 209 a1) + 0) := hg _ (List.mem_cons_of_mem _ (List.mem_cons_of_mem _ (List.mem_cons_of_mem _ (List.mem_cons_of_mem _ (List.mem_cons_of_mem _ (List.mem_cons_of_mem _ (List.mem_cons_of_mem _ (List.mem_cons_of_mem _ (List.mem_cons_of_mem _ List.mem_cons_self)))))))))
  have g10 : 0 ≤ (65535 : Int) + ((-1) * (zk_xe w 209 a1) + 0) := hg _ (List.mem_cons_of_mem _ (List.mem_cons_of_mem _ (List.mem_cons_of_mem _ (List.mem_cons_of_mem _ (List.mem_cons_of_mem _ (List.mem_cons_of_mem _ (List.mem_cons_of_mem _ (List.mem_cons_of_mem _ (List.mem_cons_of_mem _ (List.mem_cons_of_mem _ List.mem_cons_self))))))))))
  have g11 : 0 ≤ (6 : Int) + ((-1) * a3 + 0) := hg _ (List.mem_cons_of_mem _ (List.mem_cons_of_mem _ (List.mem_cons_of_mem _ (List.mem_cons_of_mem _ (List.mem_cons_of_mem _ (List.mem_cons_of_mem _ (List.mem_cons_of_mem _ (List.mem_cons_of_mem _ (List.mem_cons_of_mem _ (List.mem_cons_of_mem _ (List.mem_cons_of_mem _ List.mem_cons_self)))))))))))
  have g12 : 0 ≤ ((-1) : Int) + ((-1) * (zk_xe w 210 a1) + 0) := hg _ (List.mem_cons_of_mem _ (List.mem_cons_of_mem _ (List.mem_cons_of_mem _ (List.mem_cons_of_mem _ (List.mem_cons_of_mem _ (List.mem_cons_of_mem _ (List.mem_cons_of_mem _ (List.mem_cons_of_mem _ (List.mem_cons_of_mem _ (List.mem_cons_of_mem _ (List.mem_cons_of_mem _ (List.mem_cons_of_mem _ List.mem_cons_self))))))))))))
  have r0 : 0 ≤ a0 := hr _ List.mem_cons_self
  have r1 : 0 ≤ a3 := hr _ (List.mem_cons_of_mem _ List.mem_cons_self)
  have r2 : 0 ≤ a3 := hr _ (List.mem_cons_of_mem _ (List.mem_cons_of_mem _ List.mem_cons_self))
  have r3 : 0 ≤ a3 := hr _ (List.mem_cons_of_mem _ (List.mem_cons_of_mem _ (List.mem_cons_of_mem _ List.mem_cons_self)))
  have r4 : 0 ≤ a1 := hr _ (List.mem_cons_of_mem _ (List.mem_cons_of_mem _ (List.mem_cons_of_mem _ (List.mem_cons_of_mem _ List.mem_cons_self))))
  have r5 : 0 ≤ a1 := hr _ (List.mem_cons_of_mem _ (List.mem_cons_of_mem _ (List.mem_cons_of_mem _ (List.mem_cons_of_mem _ (List.mem_cons_of_mem _ List.mem_cons_self)))))
  have r6 : 0 ≤ a1 := hr _ (List.mem_cons_of_mem _ (List.mem_cons_of_mem _ (List.mem_cons_of_mem _ (List.mem_cons_of_mem _ (List.mem_cons_of_mem _ (List.mem_cons_of_mem _ List.mem_cons_self))))))
  have r7 : 0 ≤ a5 := hr _ (List.mem_cons_of_mem _ (List.mem_cons_of_mem _ (List.mem_cons_of_mem _ (List.mem_cons_of_mem _ (List.mem_cons_of_mem _ (List.mem_cons_of_mem _ (List.mem_cons_of_mem _ List.mem_cons_self)))))))
  have hd := (zfy_193 (w := w) (j := a0) (t := a1) (u := a2) (n := a3) (by omega) (by omega) (by omega) (by omega) (by omega) (by omega) (by omega) ).mp (by omega)
  have hS := zfy_Sw (w := w) (n := a3) (by omega) (by omega) (by omega) (by omega) (by omega) 
  have kW : zh_e w 208 (a1) = zk_xe w 208 (a1) := by rw [zk_xe_r (i := 208) (by decide)]; rfl
  have ha := zh_b1' (zfo_190.symm.trans (show zk_xe w 2000190 a3 = 1 by omega))
  have hsh := fun v v0 v1 => (zc_176 (w := w) (j := a3) (n := a3) (by omega) (by omega) (by omega) ).mp (by omega) v v0 v1 (ha v v0 v1)
  have kA : zh_e w 209 (a1) = zk_xe w 209 (a1) := by rw [zk_xe_r (i := 209) (by decide)]; rfl
  have kB : zh_e w 210 (a1) = zk_xe w 210 (a1) := by rw [zk_xe_r (i := 210) (by decide)]; rfl
  have q := (zfy_5 hS hd.1 (by rw [kW]; omega)).resolve_right (by rw [kB]; omega) |>.2
  have e : a1 / 8000 = a4 := by omega
  have hD := (zfo_189 (w := w) (j := a5) (u := a4) (x := (zk_xe w 209 a1)) (n := a3) (by omega) (by omega) (by omega) (by omega) (by omega) (by omega) (by omega) )
  have z := q
  unfold zfo_k at z
  rw [e, kA, ← hD] at z
  obtain ⟨z1, z2⟩ := z
  have u1 : a4 < a3 := by have := hd.1.2.1; omega
  obtain ⟨v, i, v0, v1, i0, i1, i2, -⟩ := zfo_dr (D := zh_e w 214) (c := zh_e w 213) (u := a4) (x := zk_xe w 209 a1) (n := a3) (by omega) u1 (by rw [← hD]; exact z1)
  rw [← hD] at i2
  have hc := (hsh v v0 v1).2.2.2.2.1
  have kK : zh_e w 215 ((zk_xe w 2000189 a5)) = zk_xe w 215 ((zk_xe w 2000189 a5)) := by rw [zk_xe_r (i := 215) (by decide)]; rfl
  rw [kK] at z2
  exact ⟨_, List.mem_cons_self, [zk_xe w 215 (zk_xe w 2000189 a5)], rfl, (zx_bcons (by show (1 : Int) ≤ zk_xe w 215 (zk_xe w 2000189 a5) ∧ zk_xe w 215 (zk_xe w 2000189 a5) ≤ (1 : Int); omega) zx_bnil), (zx_cs1 (by show 0 ≤ (0 : Int) + (1 * (zk_xe w 2000189 a5) + 0); omega) (zx_cs1 (by show 0 ≤ (383 : Int) + ((-1) * (zk_xe w 2000189 a5) + 0); omega) zx_cs0)), (zx_eF1 (by show 0 ≤ (0 : Int) + (1 * (zk_xe w 2000189 a5) + 0); omega) (by show zk_xe w 215 ((0 : Int) + (1 * (zk_xe w 2000189 a5) + 0)) = (0 : Int) + (1 * (zk_xe w 215 (zk_xe w 2000189 a5)) + 0); rw [show (0 : Int) + (1 * (zk_xe w 2000189 a5) + 0) = (zk_xe w 2000189 a5) by omega]; omega) zx_eF0), zx_k0⟩
def zx_D1292 : zx_L := zx_Lc [] 6 [(2000193, 0), (2000192, 3), (2000176, 3), (2000190, 3), (208, 1), (209, 1), (210, 1), (2000189, 5)] [] [((0, 0), [(0, 1, 0), (1, 0, 1), (2, 0, 4294967296), (3, 0, 18446744073709551616)]), ((0, 1), [(6, 1, 0)]), ((0, 1), [(7, 1, 0)]), ((0, 1), [(8, 1, 0)]), ((0, 1), [(9, 1, 0)]), ((0, 0), [(3, 0, 18446744073709551616), (4, 0, 1), (5, 1, 0), (11, 0, 4294967296)]), ((0, 6), [(10, 1, 0)])] [((0, 0), [(1, 1, 0)]), ((4294967276, 0), [(1, 0, 1)]), ((0, 0), [(2, 1, 0)]), ((4294967276, 0), [(2, 0, 1)]), ((0, 0), [(3, 1, 0)]), ((4294967276, 0), [(3, 0, 1)]), ((0, 0), [(1, 1, 0), (4, 0, 8000)]), ((7999, 0), [(1, 0, 1), (4, 8000, 0)]), ((0, 0), [(4, 1, 0)]), ((0, 0), [(11, 1, 0)]), ((65535, 0), [(11, 0, 1)]), ((6, 0), [(3, 0, 1)]), ((0, 1), [(12, 0, 1)])] [([(2, 2)], [((0, 0), [(13, 1, 0)]), ((383, 0), [(13, 0, 1)])], [(215, ((0, 0), [(13, 1, 0)]), ((0, 0), [(14, 1, 0)]))], [])]
theorem zx_D1292_ok {PT : Nat → zz_W → Prop} : zx_Lok 64 zHT PT zx_D1292 := by
  refine zx_Lc_ok (fun w hI hK ins hl hr he hg => ?_)
  obtain ⟨a0, a1, a2, a3, a4, a5, rfl⟩ := zx_i6 hl
  have e0 : (0 : Int) + (1 * a0 + ((-1) * a1 + ((-4294967296) * a2 + ((-18446744073709551616) * a3 + 0)))) = 0 := he _ List.mem_cons_self
  have e1 : ((-1) : Int) + (1 * (zk_xe w 2000193 a0) + 0) = 0 := he _ (List.mem_cons_of_mem _ List.mem_cons_self)
  have e2 : ((-1) : Int) + (1 * (zk_xe w 2000192 a3) + 0) = 0 := he _ (List.mem_cons_of_mem _ (List.mem_cons_of_mem _ List.mem_cons_self))
  have e3 : ((-1) : Int) + (1 * (zk_xe w 2000176 a3) + 0) = 0 := he _ (List.mem_cons_of_mem _ (List.mem_cons_of_mem _ (List.mem_cons_of_mem _ List.mem_cons_self)))
  have e4 : ((-1) : Int) + (1 * (zk_xe w 2000190 a3) + 0) = 0 := he _ (List.mem_cons_of_mem _ (List.mem_cons_of_mem _ (List.mem_cons_of_mem _ (List.mem_cons_of_mem _ List.mem_cons_self))))
  have e5 : (0 : Int) + ((-18446744073709551616) * a3 + ((-1) * a4 + (1 * a5 + ((-4294967296) * (zk_xe w 209 a1) + 0)))) = 0 := he _ (List.mem_cons_of_mem _ (List.mem_cons_of_mem _ (List.mem_cons_of_mem _ (List.mem_cons_of_mem _ (List.mem_cons_of_mem _ List.mem_cons_self)))))
  have e6 : ((-6) : Int) + (1 * (zk_xe w 208 a1) + 0) = 0 := he _ (List.mem_cons_of_mem _ (List.mem_cons_of_mem _ (List.mem_cons_of_mem _ (List.mem_cons_of_mem _ (List.mem_cons_of_mem _ (List.mem_cons_of_mem _ List.mem_cons_self))))))
  have g0 : 0 ≤ (0 : Int) + (1 * a1 + 0) := hg _ List.mem_cons_self
  have g1 : 0 ≤ (4294967276 : Int) + ((-1) * a1 + 0) := hg _ (List.mem_cons_of_mem _ List.mem_cons_self)
  have g2 : 0 ≤ (0 : Int) + (1 * a2 + 0) := hg _ (List.mem_cons_of_mem _ (List.mem_cons_of_mem _ List.mem_cons_self))
  have g3 : 0 ≤ (4294967276 : Int) + ((-1) * a2 + 0) := hg _ (List.mem_cons_of_mem _ (List.mem_cons_of_mem _ (List.mem_cons_of_mem _ List.mem_cons_self)))
  have g4 : 0 ≤ (0 : Int) + (1 * a3 + 0) := hg _ (List.mem_cons_of_mem _ (List.mem_cons_of_mem _ (List.mem_cons_of_mem _ (List.mem_cons_of_mem _ List.mem_cons_self))))
  have g5 : 0 ≤ (4294967276 : Int) + ((-1) * a3 + 0) := hg _ (List.mem_cons_of_mem _ (List.mem_cons_of_mem _ (List.mem_cons_of_mem _ (List.mem_cons_of_mem _ (List.mem_cons_of_mem _ List.mem_cons_self)))))
  have g6 : 0 ≤ (0 : Int) + (1 * a1 + ((-8000) * a4 + 0)) := hg _ (List.mem_cons_of_mem _ (List.mem_cons_of_mem _ (List.mem_cons_of_mem _ (List.mem_cons_of_mem _ (List.mem_cons_of_mem _ (List.mem_cons_of_mem _ List.mem_cons_self))))))
  have g7 : 0 ≤ (7999 : Int) + ((-1) * a1 + (8000 * a4 + 0)) := hg _ (List.mem_cons_of_mem _ (List.mem_cons_of_mem _ (List.mem_cons_of_mem _ (List.mem_cons_of_mem _ (List.mem_cons_of_mem _ (List.mem_cons_of_mem _ (List.mem_cons_of_mem _ List.mem_cons_self)))))))
  have g8 : 0 ≤ (0 : Int) + (1 * a4 + 0) := hg _ (List.mem_cons_of_mem _ (List.mem_cons_of_mem _ (List.mem_cons_of_mem _ (List.mem_cons_of_mem _ (List.mem_cons_of_mem _ (List.mem_cons_of_mem _ (List.mem_cons_of_mem _ (List.mem_cons_of_mem _ List.mem_cons_self))))))))
  have g9 : 0 ≤ (0 : Int) + (1 * (zk_xe w 209 a1) + 0) := hg _ (List.mem_cons_of_mem _ (List.mem_cons_of_mem _ (List.mem_cons_of_mem _ (List.mem_cons_of_mem _ (List.mem_cons_of_mem _ (List.mem_cons_of_mem _ (List.mem_cons_of_mem _ (List.mem_cons_of_mem _ (List.mem_cons_of_mem _ List.mem_cons_self)))))))))
  have g10 : 0 ≤ (65535 : Int) + ((-1) * (zk_xe w 209 a1) + 0) := hg _ (List.mem_cons_of_mem _ (List.mem_cons_of_mem _ (List.mem_cons_of_mem _ (List.mem_cons_of_mem _ (List.mem_cons_of_mem _ (List.mem_cons_of_mem _ (List.mem_cons_of_mem _ (List.mem_cons_of_mem _ (List.mem_cons_of_mem _ (List.mem_cons_of_mem _ List.mem_cons_self))))))))))
  have g11 : 0 ≤ (6 : Int) + ((-1) * a3 + 0) := hg _ (List.mem_cons_of_mem _ (List.mem_cons_of_mem _ (List.mem_cons_of_mem _ (List.mem_cons_of_mem _ (List.mem_cons_of_mem _ (List.mem_cons_of_mem _ (List.mem_cons_of_mem _ (List.mem_cons_of_mem _ (List.mem_cons_of_mem _ (List.mem_cons_of_mem _ (List.mem_cons_of_mem _ List.mem_cons_self)))))))))))
  have g12 : 0 ≤ ((-1) : Int) + ((-1) * (zk_xe w 210 a1) + 0) := hg _ (List.mem_cons_of_mem _ (List.mem_cons_of_mem _ (List.mem_cons_of_mem _ (List.mem_cons_of_mem _ (List.mem_cons_of_mem _ (List.mem_cons_of_mem _ (List.mem_cons_of_mem _ (List.mem_cons_of_mem _ (List.mem_cons_of_mem _ (List.mem_cons_of_mem _ (List.mem_cons_of_mem _ (List.mem_cons_of_mem _ List.mem_cons_self))))))))))))
  have r0 : 0 ≤ a0 := hr _ List.mem_cons_self
  have r1 : 0 ≤ a3 := hr _ (List.mem_cons_of_mem _ List.mem_cons_self)
  have r2 : 0 ≤ a3 := hr _ (List.mem_cons_of_mem _ (List.mem_cons_of_mem _ List.mem_cons_self))
  have r3 : 0 ≤ a3 := hr _ (List.mem_cons_of_mem _ (List.mem_cons_of_mem _ (List.mem_cons_of_mem _ List.mem_cons_self)))
  have r4 : 0 ≤ a1 := hr _ (List.mem_cons_of_mem _ (List.mem_cons_of_mem _ (List.mem_cons_of_mem _ (List.mem_cons_of_mem _ List.mem_cons_self))))
  have r5 : 0 ≤ a1 := hr _ (List.mem_cons_of_mem _ (List.mem_cons_of_mem _ (List.mem_cons_of_mem _ (List.mem_cons_of_mem _ (List.mem_cons_of_mem _ List.mem_cons_self)))))
  have r6 : 0 ≤ a1 := hr _ (List.mem_cons_of_mem _ (List.mem_cons_of_mem _ (List.mem_cons_of_mem _ (List.mem_cons_of_mem _ (List.mem_cons_of_mem _ (List.mem_cons_of_mem _ List.mem_cons_self))))))
  have r7 : 0 ≤ a5 := hr _ (List.mem_cons_of_mem _ (List.mem_cons_of_mem _ (List.mem_cons_of_mem _ (List.mem_cons_of_mem _ (List.mem_cons_of_mem _ (List.mem_cons_of_mem _ (List.mem_cons_of_mem _ List.mem_cons_self)))))))
  have hd := (zfy_193 (w := w) (j := a0) (t := a1) (u := a2) (n := a3) (by omega) (by omega) (by omega) (by omega) (by omega) (by omega) (by omega) ).mp (by omega)
  have hS := zfy_Sw (w := w) (n := a3) (by omega) (by omega) (by omega) (by omega) (by omega) 
  have kW : zh_e w 208 (a1) = zk_xe w 208 (a1) := by rw [zk_xe_r (i := 208) (by decide)]; rfl
  have ha := zh_b1' (zfo_190.symm.trans (show zk_xe w 2000190 a3 = 1 by omega))
  have hsh := fun v v0 v1 => (zc_176 (w := w) (j := a3) (n := a3) (by omega) (by omega) (by omega) ).mp (by omega) v v0 v1 (ha v v0 v1)
  have kA : zh_e w 209 (a1) = zk_xe w 209 (a1) := by rw [zk_xe_r (i := 209) (by decide)]; rfl
  have kB : zh_e w 210 (a1) = zk_xe w 210 (a1) := by rw [zk_xe_r (i := 210) (by decide)]; rfl
  have q := (zfy_6 hS hd.1 (by rw [kW]; omega)).resolve_right (by rw [kB]; omega) |>.2
  have e : a1 / 8000 = a4 := by omega
  have hD := (zfo_189 (w := w) (j := a5) (u := a4) (x := (zk_xe w 209 a1)) (n := a3) (by omega) (by omega) (by omega) (by omega) (by omega) (by omega) (by omega) )
  have z := q
  unfold zfo_k at z
  rw [e, kA, ← hD] at z
  obtain ⟨z1, z2⟩ := z
  have u1 : a4 < a3 := by have := hd.1.2.1; omega
  obtain ⟨v, i, v0, v1, i0, i1, i2, -⟩ := zfo_dr (D := zh_e w 214) (c := zh_e w 213) (u := a4) (x := zk_xe w 209 a1) (n := a3) (by omega) u1 (by rw [← hD]; exact z1)
  rw [← hD] at i2
  have hc := (hsh v v0 v1).2.2.2.2.1
  have kK : zh_e w 215 ((zk_xe w 2000189 a5)) = zk_xe w 215 ((zk_xe w 2000189 a5)) := by rw [zk_xe_r (i := 215) (by decide)]; rfl
  rw [kK] at z2
  exact ⟨_, List.mem_cons_self, [zk_xe w 215 (zk_xe w 2000189 a5)], rfl, (zx_bcons (by show (2 : Int) ≤ zk_xe w 215 (zk_xe w 2000189 a5) ∧ zk_xe w 215 (zk_xe w 2000189 a5) ≤ (2 : Int); omega) zx_bnil), (zx_cs1 (by show 0 ≤ (0 : Int) + (1 * (zk_xe w 2000189 a5) + 0); omega) (zx_cs1 (by show 0 ≤ (383 : Int) + ((-1) * (zk_xe w 2000189 a5) + 0); omega) zx_cs0)), (zx_eF1 (by show 0 ≤ (0 : Int) + (1 * (zk_xe w 2000189 a5) + 0); omega) (by show zk_xe w 215 ((0 : Int) + (1 * (zk_xe w 2000189 a5) + 0)) = (0 : Int) + (1 * (zk_xe w 215 (zk_xe w 2000189 a5)) + 0); rw [show (0 : Int) + (1 * (zk_xe w 2000189 a5) + 0) = (zk_xe w 2000189 a5) by omega]; omega) zx_eF0), zx_k0⟩
def zx_D1293 : zx_L := zx_Lc [] 6 [(2000193, 0), (2000192, 3), (2000176, 3), (2000190, 3), (208, 1), (209, 1), (210, 1), (2000189, 5)] [] [((0, 0), [(0, 1, 0), (1, 0, 1), (2, 0, 4294967296), (3, 0, 18446744073709551616)]), ((0, 1), [(6, 1, 0)]), ((0, 1), [(7, 1, 0)]), ((0, 1), [(8, 1, 0)]), ((0, 1), [(9, 1, 0)]), ((0, 0), [(3, 0, 18446744073709551616), (4, 0, 1), (5, 1, 0), (11, 0, 4294967296)]), ((0, 7), [(10, 1, 0)])] [((0, 0), [(1, 1, 0)]), ((4294967276, 0), [(1, 0, 1)]), ((0, 0), [(2, 1, 0)]), ((4294967276, 0), [(2, 0, 1)]), ((0, 0), [(3, 1, 0)]), ((4294967276, 0), [(3, 0, 1)]), ((0, 0), [(1, 1, 0), (4, 0, 8000)]), ((7999, 0), [(1, 0, 1), (4, 8000, 0)]), ((0, 0), [(4, 1, 0)]), ((0, 0), [(11, 1, 0)]), ((65535, 0), [(11, 0, 1)]), ((6, 0), [(3, 0, 1)]), ((0, 1), [(12, 0, 1)])] [([(2, 2)], [((0, 0), [(13, 1, 0)]), ((383, 0), [(13, 0, 1)])], [(215, ((0, 0), [(13, 1, 0)]), ((0, 0), [(14, 1, 0)]))], [])]
theorem zx_D1293_ok {PT : Nat → zz_W → Prop} : zx_Lok 64 zHT PT zx_D1293 := by
  refine zx_Lc_ok (fun w hI hK ins hl hr he hg => ?_)
  obtain ⟨a0, a1, a2, a3, a4, a5, rfl⟩ := zx_i6 hl
  have e0 : (0 : Int) + (1 * a0 + ((-1) * a1 + ((-4294967296) * a2 + ((-18446744073709551616) * a3 + 0)))) = 0 := he _ List.mem_cons_self
  have e1 : ((-1) : Int) + (1 * (zk_xe w 2000193 a0) + 0) = 0 := he _ (List.mem_cons_of_mem _ List.mem_cons_self)
  have e2 : ((-1) : Int) + (1 * (zk_xe w 2000192 a3) + 0) = 0 := he _ (List.mem_cons_of_mem _ (List.mem_cons_of_mem _ List.mem_cons_self))
  have e3 : ((-1) : Int) + (1 * (zk_xe w 2000176 a3) + 0) = 0 := he _ (List.mem_cons_of_mem _ (List.mem_cons_of_mem _ (List.mem_cons_of_mem _ List.mem_cons_self)))
  have e4 : ((-1) : Int) + (1 * (zk_xe w 2000190 a3) + 0) = 0 := he _ (List.mem_cons_of_mem _ (List.mem_cons_of_mem _ (List.mem_cons_of_mem _ (List.mem_cons_of_mem _ List.mem_cons_self))))
  have e5 : (0 : Int) + ((-18446744073709551616) * a3 + ((-1) * a4 + (1 * a5 + ((-4294967296) * (zk_xe w 209 a1) + 0)))) = 0 := he _ (List.mem_cons_of_mem _ (List.mem_cons_of_mem _ (List.mem_cons_of_mem _ (List.mem_cons_of_mem _ (List.mem_cons_of_mem _ List.mem_cons_self)))))
  have e6 : ((-7) : Int) + (1 * (zk_xe w 208 a1) + 0) = 0 := he _ (List.mem_cons_of_mem _ (List.mem_cons_of_mem _ (List.mem_cons_of_mem _ (List.mem_cons_of_mem _ (List.mem_cons_of_mem _ (List.mem_cons_of_mem _ List.mem_cons_self))))))
  have g0 : 0 ≤ (0 : Int) + (1 * a1 + 0) := hg _ List.mem_cons_self
  have g1 : 0 ≤ (4294967276 : Int) + ((-1) * a1 + 0) := hg _ (List.mem_cons_of_mem _ List.mem_cons_self)
  have g2 : 0 ≤ (0 : Int) + (1 * a2 + 0) := hg _ (List.mem_cons_of_mem _ (List.mem_cons_of_mem _ List.mem_cons_self))
  have g3 : 0 ≤ (4294967276 : Int) + ((-1) * a2 + 0) := hg _ (List.mem_cons_of_mem _ (List.mem_cons_of_mem _ (List.mem_cons_of_mem _ List.mem_cons_self)))
  have g4 : 0 ≤ (0 : Int) + (1 * a3 + 0) := hg _ (List.mem_cons_of_mem _ (List.mem_cons_of_mem _ (List.mem_cons_of_mem _ (List.mem_cons_of_mem _ List.mem_cons_self))))
  have g5 : 0 ≤ (4294967276 : Int) + ((-1) * a3 + 0) := hg _ (List.mem_cons_of_mem _ (List.mem_cons_of_mem _ (List.mem_cons_of_mem _ (List.mem_cons_of_mem _ (List.mem_cons_of_mem _ List.mem_cons_self)))))
  have g6 : 0 ≤ (0 : Int) + (1 * a1 + ((-8000) * a4 + 0)) := hg _ (List.mem_cons_of_mem _ (List.mem_cons_of_mem _ (List.mem_cons_of_mem _ (List.mem_cons_of_mem _ (List.mem_cons_of_mem _ (List.mem_cons_of_mem _ List.mem_cons_self))))))
  have g7 : 0 ≤ (7999 : Int) + ((-1) * a1 + (8000 * a4 + 0)) := hg _ (List.mem_cons_of_mem _ (List.mem_cons_of_mem _ (List.mem_cons_of_mem _ (List.mem_cons_of_mem _ (List.mem_cons_of_mem _ (List.mem_cons_of_mem _ (List.mem_cons_of_mem _ List.mem_cons_self)))))))
  have g8 : 0 ≤ (0 : Int) + (1 * a4 + 0) := hg _ (List.mem_cons_of_mem _ (List.mem_cons_of_mem _ (List.mem_cons_of_mem _ (List.mem_cons_of_mem _ (List.mem_cons_of_mem _ (List.mem_cons_of_mem _ (List.mem_cons_of_mem _ (List.mem_cons_of_mem _ List.mem_cons_self))))))))
  have g9 : 0 ≤ (0 : Int) + (1 * (zk_xe w 209 a1) + 0) := hg _ (List.mem_cons_of_mem _ (List.mem_cons_of_mem _ (List.mem_cons_of_mem _ (List.mem_cons_of_mem _ (List.mem_cons_of_mem _ (List.mem_cons_of_mem _ (List.mem_cons_of_mem _ (List.mem_cons_of_mem _ (List.mem_cons_of_mem _ List.mem_cons_self)))))))))
  have g10 : 0 ≤ (65535 : Int) + ((-1) * (zk_xe w 209 a1) + 0) := hg _ (List.mem_cons_of_mem _ (List.mem_cons_of_mem _ (List.mem_cons_of_mem _ (List.mem_cons_of_mem _ (List.mem_cons_of_mem _ (List.mem_cons_of_mem _ (List.mem_cons_of_mem _ (List.mem_cons_of_mem _ (List.mem_cons_of_mem _ (List.mem_cons_of_mem _ List.mem_cons_self))))))))))
  have g11 : 0 ≤ (6 : Int) + ((-1) * a3 + 0) := hg _ (List.mem_cons_of_mem _ (List.mem_cons_of_mem _ (List.mem_cons_of_mem _ (List.mem_cons_of_mem _ (List.mem_cons_of_mem _ (List.mem_cons_of_mem _ (List.mem_cons_of_mem _ (List.mem_cons_of_mem _ (List.mem_cons_of_mem _ (List.mem_cons_of_mem _ (List.mem_cons_of_mem _ List.mem_cons_self)))))))))))
  have g12 : 0 ≤ ((-1) : Int) + ((-1) * (zk_xe w 210 a1) + 0) := hg _ (List.mem_cons_of_mem _ (List.mem_cons_of_mem _ (List.mem_cons_of_mem _ (List.mem_cons_of_mem _ (List.mem_cons_of_mem _ (List.mem_cons_of_mem _ (List.mem_cons_of_mem _ (List.mem_cons_of_mem _ (List.mem_cons_of_mem _ (List.mem_cons_of_mem _ (List.mem_cons_of_mem _ (List.mem_cons_of_mem _ List.mem_cons_self))))))))))))
  have r0 : 0 ≤ a0 := hr _ List.mem_cons_self
  have r1 : 0 ≤ a3 := hr _ (List.mem_cons_of_mem _ List.mem_cons_self)
  have r2 : 0 ≤ a3 := hr _ (List.mem_cons_of_mem _ (List.mem_cons_of_mem _ List.mem_cons_self))
  have r3 : 0 ≤ a3 := hr _ (List.mem_cons_of_mem _ (List.mem_cons_of_mem _ (List.mem_cons_of_mem _ List.mem_cons_self)))
  have r4 : 0 ≤ a1 := hr _ (List.mem_cons_of_mem _ (List.mem_cons_of_mem _ (List.mem_cons_of_mem _ (List.mem_cons_of_mem _ List.mem_cons_self))))
  have r5 : 0 ≤ a1 := hr _ (List.mem_cons_of_mem _ (List.mem_cons_of_mem _ (List.mem_cons_of_mem _ (List.mem_cons_of_mem _ (List.mem_cons_of_mem _ List.mem_cons_self)))))
  have r6 : 0 ≤ a1 := hr _ (List.mem_cons_of_mem _ (List.mem_cons_of_mem _ (List.mem_cons_of_mem _ (List.mem_cons_of_mem _ (List.mem_cons_of_mem _ (List.mem_cons_of_mem _ List.mem_cons_self))))))
  have r7 : 0 ≤ a5 := hr _ (List.mem_cons_of_mem _ (List.mem_cons_of_mem _ (List.mem_cons_of_mem _ (List.mem_cons_of_mem _ (List.mem_cons_of_mem _ (List.mem_cons_of_mem _ (List.mem_cons_of_mem _ List.mem_cons_self)))))))
  have hd := (zfy_193 (w := w) (j := a0) (t := a1) (u := a2) (n := a3) (by omega) (by omega) (by omega) (by omega) (by omega) (by omega) (by omega) ).mp (by omega)
  have hS := zfy_Sw (w := w) (n := a3) (by omega) (by omega) (by omega) (by omega) (by omega) 
  have kW : zh_e w 208 (a1) = zk_xe w 208 (a1) := by rw [zk_xe_r (i := 208) (by decide)]; rfl
  have ha := zh_b1' (zfo_190.symm.trans (show zk_xe w 2000190 a3 = 1 by omega))
  have hsh := fun v v0 v1 => (zc_176 (w := w) (j := a3) (n := a3) (by omega) (by omega) (by omega) ).mp (by omega) v v0 v1 (ha v v0 v1)
  have kA : zh_e w 209 (a1) = zk_xe w 209 (a1) := by rw [zk_xe_r (i := 209) (by decide)]; rfl
  have kB : zh_e w 210 (a1) = zk_xe w 210 (a1) := by rw [zk_xe_r (i := 210) (by decide)]; rfl
  have q := zfy_k7 hS hd.1 (by rw [kW]; omega) (by rw [kB]; omega)
  have e : a1 / 8000 = a4 := by omega
  have hD := (zfo_189 (w := w) (j := a5) (u := a4) (x := (zk_xe w 209 a1)) (n := a3) (by omega) (by omega) (by omega) (by omega) (by omega) (by omega) (by omega) )
  have z := q
  unfold zfo_k at z
  rw [e, kA, ← hD] at z
  obtain ⟨z1, z2⟩ := z
  have u1 : a4 < a3 := by have := hd.1.2.1; omega
  obtain ⟨v, i, v0, v1, i0, i1, i2, -⟩ := zfo_dr (D := zh_e w 214) (c := zh_e w 213) (u := a4) (x := zk_xe w 209 a1) (n := a3) (by omega) u1 (by rw [← hD]; exact z1)
  rw [← hD] at i2
  have hc := (hsh v v0 v1).2.2.2.2.1
  have kK : zh_e w 215 ((zk_xe w 2000189 a5)) = zk_xe w 215 ((zk_xe w 2000189 a5)) := by rw [zk_xe_r (i := 215) (by decide)]; rfl
  rw [kK] at z2
  exact ⟨_, List.mem_cons_self, [zk_xe w 215 (zk_xe w 2000189 a5)], rfl, (zx_bcons (by show (2 : Int) ≤ zk_xe w 215 (zk_xe w 2000189 a5) ∧ zk_xe w 215 (zk_xe w 2000189 a5) ≤ (2 : Int); omega) zx_bnil), (zx_cs1 (by show 0 ≤ (0 : Int) + (1 * (zk_xe w 2000189 a5) + 0); omega) (zx_cs1 (by show 0 ≤ (383 : Int) + ((-1) * (zk_xe w 2000189 a5) + 0); omega) zx_cs0)), (zx_eF1 (by show 0 ≤ (0 : Int) + (1 * (zk_xe w 2000189 a5) + 0); omega) (by show zk_xe w 215 ((0 : Int) + (1 * (zk_xe w 2000189 a5) + 0)) = (0 : Int) + (1 * (zk_xe w 215 (zk_xe w 2000189 a5)) + 0); rw [show (0 : Int) + (1 * (zk_xe w 2000189 a5) + 0) = (zk_xe w 2000189 a5) by omega]; omega) zx_eF0), zx_k0⟩
def zx_D1294 : zx_L := zx_Lc [] 6 [(2000193, 0), (2000192, 3), (2000176, 3), (2000190, 3), (208, 1), (209, 1), (210, 1), (2000189, 5)] [] [((0, 0), [(0, 1, 0), (1, 0, 1), (2, 0, 4294967296), (3, 0, 18446744073709551616)]), ((0, 1), [(6, 1, 0)]), ((0, 1), [(7, 1, 0)]), ((0, 1), [(8, 1, 0)]), ((0, 1), [(9, 1, 0)]), ((0, 0), [(3, 0, 18446744073709551616), (4, 0, 1), (5, 1, 0), (11, 0, 4294967296)]), ((0, 12), [(10, 1, 0)])] [((0, 0), [(1, 1, 0)]), ((4294967276, 0), [(1, 0, 1)]), ((0, 0), [(2, 1, 0)]), ((4294967276, 0), [(2, 0, 1)]), ((0, 0), [(3, 1, 0)]), ((4294967276, 0), [(3, 0, 1)]), ((0, 0), [(1, 1, 0), (4, 0, 8000)]), ((7999, 0), [(1, 0, 1), (4, 8000, 0)]), ((0, 0), [(4, 1, 0)]), ((0, 0), [(11, 1, 0)]), ((65535, 0), [(11, 0, 1)]), ((6, 0), [(3, 0, 1)]), ((0, 1), [(12, 0, 1)])] [([(2, 2)], [((0, 0), [(13, 1, 0)]), ((383, 0), [(13, 0, 1)])], [(215, ((0, 0), [(13, 1, 0)]), ((0, 0), [(14, 1, 0)]))], [])]
theorem zx_D1294_ok {PT : Nat → zz_W → Prop} : zx_Lok 64 zHT PT zx_D1294 := by
  refine zx_Lc_ok (fun w hI hK ins hl hr he hg => ?_)
  obtain ⟨a0, a1, a2, a3, a4, a5, rfl⟩ := zx_i6 hl
  have e0 : (0 : Int) + (1 * a0 + ((-1) * a1 + ((-4294967296) * a2 + ((-18446744073709551616) * a3 + 0)))) = 0 := he _ List.mem_cons_self
  have e1 : ((-1) : Int) + (1 * (zk_xe w 2000193 a0) + 0) = 0 := he _ (List.mem_cons_of_mem _ List.mem_cons_self)
  have e2 : ((-1) : Int) + (1 * (zk_xe w 2000192 a3) + 0) = 0 := he _ (List.mem_cons_of_mem _ (List.mem_cons_of_mem _ List.mem_cons_self))
  have e3 : ((-1) : Int) + (1 * (zk_xe w 2000176 a3) + 0) = 0 := he _ (List.mem_cons_of_mem _ (List.mem_cons_of_mem _ (List.mem_cons_of_mem _ List.mem_cons_self)))
  have e4 : ((-1) : Int) + (1 * (zk_xe w 2000190 a3) + 0) = 0 := he _ (List.mem_cons_of_mem _ (List.mem_cons_of_mem _ (List.mem_cons_of_mem _ (List.mem_cons_of_mem _ List.mem_cons_self))))
  have e5 : (0 : Int) + ((-18446744073709551616) * a3 + ((-1) * a4 + (1 * a5 + ((-4294967296) * (zk_xe w 209 a1) + 0)))) = 0 := he _ (List.mem_cons_of_mem _ (List.mem_cons_of_mem _ (List.mem_cons_of_mem _ (List.mem_cons_of_mem _ (List.mem_cons_of_mem _ List.mem_cons_self)))))
  have e6 : ((-12) : Int) + (1 * (zk_xe w 208 a1) + 0) = 0 := he _ (List.mem_cons_of_mem _ (List.mem_cons_of_mem _ (List.mem_cons_of_mem _ (List.mem_cons_of_mem _ (List.mem_cons_of_mem _ (List.mem_cons_of_mem _ List.mem_cons_self))))))
  have g0 : 0 ≤ (0 : Int) + (1 * a1 + 0) := hg _ List.mem_cons_self
  have g1 : 0 ≤ (4294967276 : Int) + ((-1) * a1 + 0) := hg _ (List.mem_cons_of_mem _ List.mem_cons_self)
  have g2 : 0 ≤ (0 : Int) + (1 * a2 + 0) := hg _ (List.mem_cons_of_mem _ (List.mem_cons_of_mem _ List.mem_cons_self))
  have g3 : 0 ≤ (4294967276 : Int) + ((-1) * a2 + 0) := hg _ (List.mem_cons_of_mem _ (List.mem_cons_of_mem _ (List.mem_cons_of_mem _ List.mem_cons_self)))
  have g4 : 0 ≤ (0 : Int) + (1 * a3 + 0) := hg _ (List.mem_cons_of_mem _ (List.mem_cons_of_mem _ (List.mem_cons_of_mem _ (List.mem_cons_of_mem _ List.mem_cons_self))))
  have g5 : 0 ≤ (4294967276 : Int) + ((-1) * a3 + 0) := hg _ (List.mem_cons_of_mem _ (List.mem_cons_of_mem _ (List.mem_cons_of_mem _ (List.mem_cons_of_mem _ (List.mem_cons_of_mem _ List.mem_cons_self)))))
  have g6 : 0 ≤ (0 : Int) + (1 * a1 + ((-8000) * a4 + 0)) := hg _ (List.mem_cons_of_mem _ (List.mem_cons_of_mem _ (List.mem_cons_of_mem _ (List.mem_cons_of_mem _ (List.mem_cons_of_mem _ (List.mem_cons_of_mem _ List.mem_cons_self))))))
  have g7 : 0 ≤ (7999 : Int) + ((-1) * a1 + (8000 * a4 + 0)) := hg _ (List.mem_cons_of_mem _ (List.mem_cons_of_mem _ (List.mem_cons_of_mem _ (List.mem_cons_of_mem _ (List.mem_cons_of_mem _ (List.mem_cons_of_mem _ (List.mem_cons_of_mem _ List.mem_cons_self)))))))
  have g8 : 0 ≤ (0 : Int) + (1 * a4 + 0) := hg _ (List.mem_cons_of_mem _ (List.mem_cons_of_mem _ (List.mem_cons_of_mem _ (List.mem_cons_of_mem _ (List.mem_cons_of_mem _ (List.mem_cons_of_mem _ (List.mem_cons_of_mem _ (List.mem_cons_of_mem _ List.mem_cons_self))))))))
  have g9 : 0 ≤ (0 : Int) + (1 * (zk_xe w 209 a1) + 0) := hg _ (List.mem_cons_of_mem _ (List.mem_cons_of_mem _ (List.mem_cons_of_mem _ (List.mem_cons_of_mem _ (List.mem_cons_of_mem _ (List.mem_cons_of_mem _ (List.mem_cons_of_mem _ (List.mem_cons_of_mem _ (List.mem_cons_of_mem _ List.mem_cons_self)))))))))
  have g10 : 0 ≤ (65535 : Int) + ((-1) * (zk_xe w 209 a1) + 0) := hg _ (List.mem_cons_of_mem _ (List.mem_cons_of_mem _ (List.mem_cons_of_mem _ (List.mem_cons_of_mem _ (List.mem_cons_of_mem _ (List.mem_cons_of_mem _ (List.mem_cons_of_mem _ (List.mem_cons_of_mem _ (List.mem_cons_of_mem _ (List.mem_cons_of_mem _ List.mem_cons_self))))))))))
  have g11 : 0 ≤ (6 : Int) + ((-1) * a3 + 0) := hg _ (List.mem_cons_of_mem _ (List.mem_cons_of_mem _ (List.mem_cons_of_mem _ (List.mem_cons_of_mem _ (List.mem_cons_of_mem _ (List.mem_cons_of_mem _ (List.mem_cons_of_mem _ (List.mem_cons_of_mem _ (List.mem_cons_of_mem _ (List.mem_cons_of_mem _ (List.mem_cons_of_mem _ List.mem_cons_self)))))))))))
  have g12 : 0 ≤ ((-1) : Int) + ((-1) * (zk_xe w 210 a1) + 0) := hg _ (List.mem_cons_of_mem _ (List.mem_cons_of_mem _ (List.mem_cons_of_mem _ (List.mem_cons_of_mem _ (List.mem_cons_of_mem _ (List.mem_cons_of_mem _ (List.mem_cons_of_mem _ (List.mem_cons_of_mem _ (List.mem_cons_of_mem _ (List.mem_cons_of_mem _ (List.mem_cons_of_mem _ (List.mem_cons_of_mem _ List.mem_cons_self))))))))))))
  have r0 : 0 ≤ a0 := hr _ List.mem_cons_self
  have r1 : 0 ≤ a3 := hr _ (List.mem_cons_of_mem _ List.mem_cons_self)
  have r2 : 0 ≤ a3 := hr _ (List.mem_cons_of_mem _ (List.mem_cons_of_mem _ List.mem_cons_self))
  have r3 : 0 ≤ a3 := hr _ (List.mem_cons_of_mem _ (List.mem_cons_of_mem _ (List.mem_cons_of_mem _ List.mem_cons_self)))
  have r4 : 0 ≤ a1 := hr _ (List.mem_cons_of_mem _ (List.mem_cons_of_mem _ (List.mem_cons_of_mem _ (List.mem_cons_of_mem _ List.mem_cons_self))))
  have r5 : 0 ≤ a1 := hr _ (List.mem_cons_of_mem _ (List.mem_cons_of_mem _ (List.mem_cons_of_mem _ (List.mem_cons_of_mem _ (List.mem_cons_of_mem _ List.mem_cons_self)))))
  have r6 : 0 ≤ a1 := hr _ (List.mem_cons_of_mem _ (List.mem_cons_of_mem _ (List.mem_cons_of_mem _ (List.mem_cons_of_mem _ (List.mem_cons_of_mem _ (List.mem_cons_of_mem _ List.mem_cons_self))))))
  have r7 : 0 ≤ a5 := hr _ (List.mem_cons_of_mem _ (List.mem_cons_of_mem _ (List.mem_cons_of_mem _ (List.mem_cons_of_mem _ (List.mem_cons_of_mem _ (List.mem_cons_of_mem _ (List.mem_cons_of_mem _ List.mem_cons_self)))))))
  have hd := (zfy_193 (w := w) (j := a0) (t := a1) (u := a2) (n := a3) (by omega) (by omega) (by omega) (by omega) (by omega) (by omega) (by omega) ).mp (by omega)
  have hS := zfy_Sw (w := w) (n := a3) (by omega) (by omega) (by omega) (by omega) (by omega) 
  have kW : zh_e w 208 (a1) = zk_xe w 208 (a1) := by rw [zk_xe_r (i := 208) (by decide)]; rfl
  have ha := zh_b1' (zfo_190.symm.trans (show zk_xe w 2000190 a3 = 1 by omega))
  have hsh := fun v v0 v1 => (zc_176 (w := w) (j := a3) (n := a3) (by omega) (by omega) (by omega) ).mp (by omega) v v0 v1 (ha v v0 v1)
  have kA : zh_e w 209 (a1) = zk_xe w 209 (a1) := by rw [zk_xe_r (i := 209) (by decide)]; rfl
  have kB : zh_e w 210 (a1) = zk_xe w 210 (a1) := by rw [zk_xe_r (i := 210) (by decide)]; rfl
  have q := zfy_k12 hS hd.1 (by rw [kW]; omega) (by rw [kB]; omega)
  have e : a1 / 8000 = a4 := by omega
  have hD := (zfo_189 (w := w) (j := a5) (u := a4) (x := (zk_xe w 209 a1)) (n := a3) (by omega) (by omega) (by omega) (by omega) (by omega) (by omega) (by omega) )
  have z := q
  unfold zfo_k at z
  rw [e, kA, ← hD] at z
  obtain ⟨z1, z2⟩ := z
  have u1 : a4 < a3 := by have := hd.1.2.1; omega
  obtain ⟨v, i, v0, v1, i0, i1, i2, -⟩ := zfo_dr (D := zh_e w 214) (c := zh_e w 213) (u := a4) (x := zk_xe w 209 a1) (n := a3) (by omega) u1 (by rw [← hD]; exact z1)
  rw [← hD] at i2
  have hc := (hsh v v0 v1).2.2.2.2.1
  have kK : zh_e w 215 ((zk_xe w 2000189 a5)) = zk_xe w 215 ((zk_xe w 2000189 a5)) := by rw [zk_xe_r (i := 215) (by decide)]; rfl
  rw [kK] at z2
  exact ⟨_, List.mem_cons_self, [zk_xe w 215 (zk_xe w 2000189 a5)], rfl, (zx_bcons (by show (2 : Int) ≤ zk_xe w 215 (zk_xe w 2000189 a5) ∧ zk_xe w 215 (zk_xe w 2000189 a5) ≤ (2 : Int); omega) zx_bnil), (zx_cs1 (by show 0 ≤ (0 : Int) + (1 * (zk_xe w 2000189 a5) + 0); omega) (zx_cs1 (by show 0 ≤ (383 : Int) + ((-1) * (zk_xe w 2000189 a5) + 0); omega) zx_cs0)), (zx_eF1 (by show 0 ≤ (0 : Int) + (1 * (zk_xe w 2000189 a5) + 0); omega) (by show zk_xe w 215 ((0 : Int) + (1 * (zk_xe w 2000189 a5) + 0)) = (0 : Int) + (1 * (zk_xe w 215 (zk_xe w 2000189 a5)) + 0); rw [show (0 : Int) + (1 * (zk_xe w 2000189 a5) + 0) = (zk_xe w 2000189 a5) by omega]; omega) zx_eF0), zx_k0⟩
def zx_D1295 : zx_L := zx_Lc [] 6 [(2000193, 0), (2000192, 3), (2000176, 3), (2000190, 3), (208, 1), (209, 1), (210, 1), (2000189, 5)] [] [((0, 0), [(0, 1, 0), (1, 0, 1), (2, 0, 4294967296), (3, 0, 18446744073709551616)]), ((0, 1), [(6, 1, 0)]), ((0, 1), [(7, 1, 0)]), ((0, 1), [(8, 1, 0)]), ((0, 1), [(9, 1, 0)]), ((0, 0), [(3, 0, 18446744073709551616), (4, 0, 1), (5, 1, 0), (11, 0, 4294967296)]), ((0, 8), [(10, 1, 0)])] [((0, 0), [(1, 1, 0)]), ((4294967276, 0), [(1, 0, 1)]), ((0, 0), [(2, 1, 0)]), ((4294967276, 0), [(2, 0, 1)]), ((0, 0), [(3, 1, 0)]), ((4294967276, 0), [(3, 0, 1)]), ((0, 0), [(1, 1, 0), (4, 0, 8000)]), ((7999, 0), [(1, 0, 1), (4, 8000, 0)]), ((0, 0), [(4, 1, 0)]), ((0, 0), [(11, 1, 0)]), ((65535, 0), [(11, 0, 1)]), ((6, 0), [(3, 0, 1)])] [([(3, 7)], [((0, 0), [(13, 1, 0)]), ((383, 0), [(13, 0, 1)]), ((0, 0), [(12, 1, 0)]), ((4, 0), [(12, 0, 1)]), ((0, 3), [(12, 0, 1), (14, 1, 0)]), ((3, 0), [(12, 1, 0), (14, 0, 1)])], [(215, ((0, 0), [(13, 1, 0)]), ((0, 0), [(14, 1, 0)]))], [])]
theorem zx_D1295_ok {PT : Nat → zz_W → Prop} : zx_Lok 64 zHT PT zx_D1295 := by
  refine zx_Lc_ok (fun w hI hK ins hl hr he hg => ?_)
  obtain ⟨a0, a1, a2, a3, a4, a5, rfl⟩ := zx_i6 hl
  have e0 : (0 : Int) + (1 * a0 + ((-1) * a1 + ((-4294967296) * a2 + ((-18446744073709551616) * a3 + 0)))) = 0 := he _ List.mem_cons_self
  have e1 : ((-1) : Int) + (1 * (zk_xe w 2000193 a0) + 0) = 0 := he _ (List.mem_cons_of_mem _ List.mem_cons_self)
  have e2 : ((-1) : Int) + (1 * (zk_xe w 2000192 a3) + 0) = 0 := he _ (List.mem_cons_of_mem _ (List.mem_cons_of_mem _ List.mem_cons_self))
  have e3 : ((-1) : Int) + (1 * (zk_xe w 2000176 a3) + 0) = 0 := he _ (List.mem_cons_of_mem _ (List.mem_cons_of_mem _ (List.mem_cons_of_mem _ List.mem_cons_self)))
  have e4 : ((-1) : Int) + (1 * (zk_xe w 2000190 a3) + 0) = 0 := he _ (List.mem_cons_of_mem _ (List.mem_cons_of_mem _ (List.mem_cons_of_mem _ (List.mem_cons_of_mem _ List.mem_cons_self))))
  have e5 : (0 : Int) + ((-18446744073709551616) * a3 + ((-1) * a4 + (1 * a5 + ((-4294967296) * (zk_xe w 209 a1) + 0)))) = 0 := he _ (List.mem_cons_of_mem _ (List.mem_cons_of_mem _ (List.mem_cons_of_mem _ (List.mem_cons_of_mem _ (List.mem_cons_of_mem _ List.mem_cons_self)))))
  have e6 : ((-8) : Int) + (1 * (zk_xe w 208 a1) + 0) = 0 := he _ (List.mem_cons_of_mem _ (List.mem_cons_of_mem _ (List.mem_cons_of_mem _ (List.mem_cons_of_mem _ (List.mem_cons_of_mem _ (List.mem_cons_of_mem _ List.mem_cons_self))))))
  have g0 : 0 ≤ (0 : Int) + (1 * a1 + 0) := hg _ List.mem_cons_self
  have g1 : 0 ≤ (4294967276 : Int) + ((-1) * a1 + 0) := hg _ (List.mem_cons_of_mem _ List.mem_cons_self)
  have g2 : 0 ≤ (0 : Int) + (1 * a2 + 0) := hg _ (List.mem_cons_of_mem _ (List.mem_cons_of_mem _ List.mem_cons_self))
  have g3 : 0 ≤ (4294967276 : Int) + ((-1) * a2 + 0) := hg _ (List.mem_cons_of_mem _ (List.mem_cons_of_mem _ (List.mem_cons_of_mem _ List.mem_cons_self)))
  have g4 : 0 ≤ (0 : Int) + (1 * a3 + 0) := hg _ (List.mem_cons_of_mem _ (List.mem_cons_of_mem _ (List.mem_cons_of_mem _ (List.mem_cons_of_mem _ List.mem_cons_self))))
  have g5 : 0 ≤ (4294967276 : Int) + ((-1) * a3 + 0) := hg _ (List.mem_cons_of_mem _ (List.mem_cons_of_mem _ (List.mem_cons_of_mem _ (List.mem_cons_of_mem _ (List.mem_cons_of_mem _ List.mem_cons_self)))))
  have g6 : 0 ≤ (0 : Int) + (1 * a1 + ((-8000) * a4 + 0)) := hg _ (List.mem_cons_of_mem _ (List.mem_cons_of_mem _ (List.mem_cons_of_mem _ (List.mem_cons_of_mem _ (List.mem_cons_of_mem _ (List.mem_cons_of_mem _ List.mem_cons_self))))))
  have g7 : 0 ≤ (7999 : Int) + ((-1) * a1 + (8000 * a4 + 0)) := hg _ (List.mem_cons_of_mem _ (List.mem_cons_of_mem _ (List.mem_cons_of_mem _ (List.mem_cons_of_mem _ (List.mem_cons_of_mem _ (List.mem_cons_of_mem _ (List.mem_cons_of_mem _ List.mem_cons_self)))))))
  have g8 : 0 ≤ (0 : Int) + (1 * a4 + 0) := hg _ (List.mem_cons_of_mem _ (List.mem_cons_of_mem _ (List.mem_cons_of_mem _ (List.mem_cons_of_mem _ (List.mem_cons_of_mem _ (List.mem_cons_of_mem _ (List.mem_cons_of_mem _ (List.mem_cons_of_mem _ List.mem_cons_self))))))))
  have g9 : 0 ≤ (0 : Int) + (1 * (zk_xe w 209 a1) + 0) := hg _ (List.mem_cons_of_mem _ (List.mem_cons_of_mem _ (List.mem_cons_of_mem _ (List.mem_cons_of_mem _ (List.mem_cons_of_mem _ (List.mem_cons_of_mem _ (List.mem_cons_of_mem _ (List.mem_cons_of_mem _ (List.mem_cons_of_mem _ List.mem_cons_self)))))))))
  have g10 : 0 ≤ (65535 : Int) + ((-1) * (zk_xe w 209 a1) + 0) := hg _ (List.mem_cons_of_mem _ (List.mem_cons_of_mem _ (List.mem_cons_of_mem _ (List.mem_cons_of_mem _ (List.mem_cons_of_mem _ (List.mem_cons_of_mem _ (List.mem_cons_of_mem _ (List.mem_cons_of_mem _ (List.mem_cons_of_mem _ (List.mem_cons_of_mem _ List.mem_cons_self))))))))))
  have g11 : 0 ≤ (6 : Int) + ((-1) * a3 + 0) := hg _ (List.mem_cons_of_mem _ (List.mem_cons_of_mem _ (List.mem_cons_of_mem _ (List.mem_cons_of_mem _ (List.mem_cons_of_mem _ (List.mem_cons_of_mem _ (List.mem_cons_of_mem _ (List.mem_cons_of_mem _ (List.mem_cons_of_mem _ (List.mem_cons_of_mem _ (List.mem_cons_of_mem _ List.mem_cons_self)))))))))))
  have r0 : 0 ≤ a0 := hr _ List.mem_cons_self
  have r1 : 0 ≤ a3 := hr _ (List.mem_cons_of_mem _ List.mem_cons_self)
  have r2 : 0 ≤ a3 := hr _ (List.mem_cons_of_mem _ (List.mem_cons_of_mem _ List.mem_cons_self))
  have r3 : 0 ≤ a3 := hr _ (List.mem_cons_of_mem _ (List.mem_cons_of_mem _ (List.mem_cons_of_mem _ List.mem_cons_self)))
  have r4 : 0 ≤ a1 := hr _ (List.mem_cons_of_mem _ (List.mem_cons_of_mem _ (List.mem_cons_of_mem _ (List.mem_cons_of_mem _ List.mem_cons_self))))
  have r5 : 0 ≤ a1 := hr _ (List.mem_cons_of_mem _ (List.mem_cons_of_mem _ (List.mem_cons_of_mem _ (List.mem_cons_of_mem _ (List.mem_cons_of_mem _ List.mem_cons_self)))))
  have r6 : 0 ≤ a1 := hr _ (List.mem_cons_of_mem _ (List.mem_cons_of_mem _ (List.mem_cons_of_mem _ (List.mem_cons_of_mem _ (List.mem_cons_of_mem _ (List.mem_cons_of_mem _ List.mem_cons_self))))))
  have r7 : 0 ≤ a5 := hr _ (List.mem_cons_of_mem _ (List.mem_cons_of_mem _ (List.mem_cons_of_mem _ (List.mem_cons_of_mem _ (List.mem_cons_of_mem _ (List.mem_cons_of_mem _ (List.mem_cons_of_mem _ List.mem_cons_self)))))))
  have hd := (zfy_193 (w := w) (j := a0) (t := a1) (u := a2) (n := a3) (by omega) (by omega) (by omega) (by omega) (by omega) (by omega) (by omega) ).mp (by omega)
  have hS := zfy_Sw (w := w) (n := a3) (by omega) (by omega) (by omega) (by omega) (by omega) 
  have kW : zh_e w 208 (a1) = zk_xe w 208 (a1) := by rw [zk_xe_r (i := 208) (by decide)]; rfl
  have ha := zh_b1' (zfo_190.symm.trans (show zk_xe w 2000190 a3 = 1 by omega))
  have hsh := fun v v0 v1 => (zc_176 (w := w) (j := a3) (n := a3) (by omega) (by omega) (by omega) ).mp (by omega) v v0 v1 (ha v v0 v1)
  have kA : zh_e w 209 (a1) = zk_xe w 209 (a1) := by rw [zk_xe_r (i := 209) (by decide)]; rfl
  have kB : zh_e w 210 (a1) = zk_xe w 210 (a1) := by rw [zk_xe_r (i := 210) (by decide)]; rfl
  have q := (zfy_8 hS hd.1 (by rw [kW]; omega)).2.2
  have e : a1 / 8000 = a4 := by omega
  have hD := (zfo_189 (w := w) (j := a5) (u := a4) (x := (zk_xe w 209 a1)) (n := a3) (by omega) (by omega) (by omega) (by omega) (by omega) (by omega) (by omega) )
  have z := q
  unfold zfo_k at z
  rw [e, kA, ← hD] at z
  obtain ⟨z1, z2⟩ := z
  have u1 : a4 < a3 := by have := hd.1.2.1; omega
  obtain ⟨v, i, v0, v1, i0, i1, i2, -⟩ := zfo_dr (D := zh_e w 214) (c := zh_e w 213) (u := a4) (x := zk_xe w 209 a1) (n := a3) (by omega) u1 (by rw [← hD]; exact z1)
  rw [← hD] at i2
  have hc := (hsh v v0 v1).2.2.2.2.1
  have kK : zh_e w 215 ((zk_xe w 2000189 a5)) = zk_xe w 215 ((zk_xe w 2000189 a5)) := by rw [zk_xe_r (i := 215) (by decide)]; rfl
  rw [kK] at z2
  have kb := (zfy_8 hS hd.1 (by rw [kW]; omega)).1
  have kc := (zfy_8 hS hd.1 (by rw [kW]; omega)).2.1
  rw [kB] at kb kc z2
  exact ⟨_, List.mem_cons_self, [zk_xe w 215 (zk_xe w 2000189 a5)], rfl, (zx_bcons (by show (3 : Int) ≤ zk_xe w 215 (zk_xe w 2000189 a5) ∧ zk_xe w 215 (zk_xe w 2000189 a5) ≤ (7 : Int); omega) zx_bnil), (zx_cs1 (by show 0 ≤ (0 : Int) + (1 * (zk_xe w 2000189 a5) + 0); omega) (zx_cs1 (by show 0 ≤ (383 : Int) + ((-1) * (zk_xe w 2000189 a5) + 0); omega) (zx_cs1 (by show 0 ≤ (0 : Int) + (1 * (zk_xe w 210 a1) + 0); omega) (zx_cs1 (by show 0 ≤ (4 : Int) + ((-1) * (zk_xe w 210 a1) + 0); omega) (zx_cs1 (by show 0 ≤ ((-3) : Int) + ((-1) * (zk_xe w 210 a1) + (1 * (zk_xe w 215 (zk_xe w 2000189 a5)) + 0)); omega) (zx_cs1 (by show 0 ≤ (3 : Int) + (1 * (zk_xe w 210 a1) + ((-1) * (zk_xe w 215 (zk_xe w 2000189 a5)) + 0)); omega) zx_cs0)))))), (zx_eF1 (by show 0 ≤ (0 : Int) + (1 * (zk_xe w 2000189 a5) + 0); omega) (by show zk_xe w 215 ((0 : Int) + (1 * (zk_xe w 2000189 a5) + 0)) = (0 : Int) + (1 * (zk_xe w 215 (zk_xe w 2000189 a5)) + 0); rw [show (0 : Int) + (1 * (zk_xe w 2000189 a5) + 0) = (zk_xe w 2000189 a5) by omega]; omega) zx_eF0), zx_k0⟩
def zx_D1296 : zx_L := zx_Lc [] 8 [(2000193, 0), (2000192, 3), (2000176, 3), (2000190, 3), (208, 1), (209, 1), (210, 1), (211, 1), (327, 6), (2000189, 5), (216, 7)] [] [((0, 0), [(0, 1, 0), (1, 0, 1), (2, 0, 4294967296), (3, 0, 18446744073709551616)]), ((0, 1), [(8, 1, 0)]), ((0, 1), [(9, 1, 0)]), ((0, 1), [(10, 1, 0)]), ((0, 1), [(11, 1, 0)]), ((0, 0), [(3, 0, 18446744073709551616), (4, 0, 1), (5, 1, 0), (13, 0, 4294967296)]), ((10, 0), [(2, 0, 10), (6, 1, 0), (15, 0, 1)]), ((0, 7), [(12, 1, 0)]), ((0, 0), [(7, 1, 0), (17, 0, 1)])] [((0, 0), [(1, 1, 0)]), ((4294967276, 0), [(1, 0, 1)]), ((0, 0), [(2, 1, 0)]), ((4294967276, 0), [(2, 0, 1)]), ((0, 0), [(3, 1, 0)]), ((4294967276, 0), [(3, 0, 1)]), ((0, 0), [(1, 1, 0), (4, 0, 8000)]), ((7999, 0), [(1, 0, 1), (4, 8000, 0)]), ((0, 0), [(4, 1, 0)]), ((0, 0), [(13, 1, 0)]), ((65535, 0), [(13, 0, 1)]), ((6, 0), [(3, 0, 1)]), ((0, 0), [(6, 1, 0)]), ((0, 0), [(7, 1, 0)]), ((0, 1), [(14, 0, 1)])] [([], [((0, 0), [(16, 1, 0)]), ((0, 1), [(16, 0, 1), (18, 1, 0)])], [], [])]
theorem zx_D1296_ok {PT : Nat → zz_W → Prop} : zx_Lok 64 zHT PT zx_D1296 := by
  refine zx_Lc_ok (fun w hI hK ins hl hr he hg => ?_)
  obtain ⟨a0, a1, a2, a3, a4, a5, a6, a7, rfl⟩ := zx_i8 hl
  have e0 : (0 : Int) + (1 * a0 + ((-1) * a1 + ((-4294967296) * a2 + ((-18446744073709551616) * a3 + 0)))) = 0 := he _ List.mem_cons_self
  have e1 : ((-1) : Int) + (1 * (zk_xe w 2000193 a0) + 0) = 0 := he _ (List.mem_cons_of_mem _ List.mem_cons_self)
  have e2 : ((-1) : Int) + (1 * (zk_xe w 2000192 a3) + 0) = 0 := he _ (List.mem_cons_of_mem _ (List.mem_cons_of_mem _ List.mem_cons_self))
  have e3 : ((-1) : Int) + (1 * (zk_xe w 2000176 a3) + 0) = 0 := he _ (List.mem_cons_of_mem _ (List.mem_cons_of_mem _ (List.mem_cons_of_mem _ List.mem_cons_self)))
  have e4 : ((-1) : Int) + (1 * (zk_xe w 2000190 a3) + 0) = 0 := he _ (List.mem_cons_of_mem _ (List.mem_cons_of_mem _ (List.mem_cons_of_mem _ (List.mem_cons_of_mem _ List.mem_cons_self))))
  have e5 : (0 : Int) + ((-18446744073709551616) * a3 + ((-1) * a4 + (1 * a5 + ((-4294967296) * (zk_xe w 209 a1) + 0)))) = 0 := he _ (List.mem_cons_of_mem _ (List.mem_cons_of_mem _ (List.mem_cons_of_mem _ (List.mem_cons_of_mem _ (List.mem_cons_of_mem _ List.mem_cons_self)))))
  have e6 : (10 : Int) + ((-10) * a2 + (1 * a6 + ((-1) * (zk_xe w 211 a1) + 0))) = 0 := he _ (List.mem_cons_of_mem _ (List.mem_cons_of_mem _ (List.mem_cons_of_mem _ (List.mem_cons_of_mem _ (List.mem_cons_of_mem _ (List.mem_cons_of_mem _ List.mem_cons_self))))))
  have e7 : ((-7) : Int) + (1 * (zk_xe w 208 a1) + 0) = 0 := he _ (List.mem_cons_of_mem _ (List.mem_cons_of_mem _ (List.mem_cons_of_mem _ (List.mem_cons_of_mem _ (List.mem_cons_of_mem _ (List.mem_cons_of_mem _ (List.mem_cons_of_mem _ List.mem_cons_self)))))))
  have e8 : (0 : Int) + (1 * a7 + ((-1) * (zk_xe w 2000189 a5) + 0)) = 0 := he _ (List.mem_cons_of_mem _ (List.mem_cons_of_mem _ (List.mem_cons_of_mem _ (List.mem_cons_of_mem _ (List.mem_cons_of_mem _ (List.mem_cons_of_mem _ (List.mem_cons_of_mem _ (List.mem_cons_of_mem _ List.mem_cons_self))))))))
  have g0 : 0 ≤ (0 : Int) + (1 * a1 + 0) := hg _ List.mem_cons_self
  have g1 : 0 ≤ (4294967276 : Int) + ((-1) * a1 + 0) := hg _ (List.mem_cons_of_mem _ List.mem_cons_self)
  have g2 : 0 ≤ (0 : Int) + (1 * a2 + 0) := hg _ (List.mem_cons_of_mem _ (List.mem_cons_of_mem _ List.mem_cons_self))
  have g3 : 0 ≤ (4294967276 : Int) + ((-1) * a2 + 0) := hg _ (List.mem_cons_of_mem _ (List.mem_cons_of_mem _ (List.mem_cons_of_mem _ List.mem_cons_self)))
  have g4 : 0 ≤ (0 : Int) + (1 * a3 + 0) := hg _ (List.mem_cons_of_mem _ (List.mem_cons_of_mem _ (List.mem_cons_of_mem _ (List.mem_cons_of_mem _ List.mem_cons_self))))
  have g5 : 0 ≤ (4294967276 : Int) + ((-1) * a3 + 0) := hg _ (List.mem_cons_of_mem _ (List.mem_cons_of_mem _ (List.mem_cons_of_mem _ (List.mem_cons_of_mem _ (List.mem_cons_of_mem _ List.mem_cons_self)))))
  have g6 : 0 ≤ (0 : Int) + (1 * a1 + ((-8000) * a4 + 0)) := hg _ (List.mem_cons_of_mem _ (List.mem_cons_of_mem _ (List.mem_cons_of_mem _ (List.mem_cons_of_mem _ (List.mem_cons_of_mem _ (List.mem_cons_of_mem _ List.mem_cons_self))))))
  have g7 : 0 ≤ (7999 : Int) + ((-1) * a1 + (8000 * a4 + 0)) := hg _ (List.mem_cons_of_mem _ (List.mem_cons_of_mem _ (List.mem_cons_of_mem _ (List.mem_cons_of_mem _ (List.mem_cons_of_mem _ (List.mem_cons_of_mem _ (List.mem_cons_of_mem _ List.mem_cons_self)))))))
  have g8 : 0 ≤ (0 : Int) + (1 * a4 + 0) := hg _ (List.mem_cons_of_mem _ (List.mem_cons_of_mem _ (List.mem_cons_of_mem _ (List.mem_cons_of_mem _ (List.mem_cons_of_mem _ (List.mem_cons_of_mem _ (List.mem_cons_of_mem _ (List.mem_cons_of_mem _ List.mem_cons_self))))))))
  have g9 : 0 ≤ (0 : Int) + (1 * (zk_xe w 209 a1) + 0) := hg _ (List.mem_cons_of_mem _ (List.mem_cons_of_mem _ (List.mem_cons_of_mem _ (List.mem_cons_of_mem _ (List.mem_cons_of_mem _ (List.mem_cons_of_mem _ (List.mem_cons_of_mem _ (List.mem_cons_of_mem _ (List.mem_cons_of_mem _ List.mem_cons_self)))))))))
  have g10 : 0 ≤ (65535 : Int) + ((-1) * (zk_xe w 209 a1) + 0) := hg _ (List.mem_cons_of_mem _ (List.mem_cons_of_mem _ (List.mem_cons_of_mem _ (List.mem_cons_of_mem _ (List.mem_cons_of_mem _ (List.mem_cons_of_mem _ (List.mem_cons_of_mem _ (List.mem_cons_of_mem _ (List.mem_cons_of_mem _ (List.mem_cons_of_mem _ List.mem_cons_self))))))))))
  have g11 : 0 ≤ (6 : Int) + ((-1) * a3 + 0) := hg _ (List.mem_cons_of_mem _ (List.mem_cons_of_mem _ (List.mem_cons_of_mem _ (List.mem_cons_of_mem _ (List.mem_cons_of_mem _ (List.mem_cons_of_mem _ (List.mem_cons_of_mem _ (List.mem_cons_of_mem _ (List.mem_cons_of_mem _ (List.mem_cons_of_mem _ (List.mem_cons_of_mem _ List.mem_cons_self)))))))))))
  have g12 : 0 ≤ (0 : Int) + (1 * a6 + 0) := hg _ (List.mem_cons_of_mem _ (List.mem_cons_of_mem _ (List.mem_cons_of_mem _ (List.mem_cons_of_mem _ (List.mem_cons_of_mem _ (List.mem_cons_of_mem _ (List.mem_cons_of_mem _ (List.mem_cons_of_mem _ (List.mem_cons_of_mem _ (List.mem_cons_of_mem _ (List.mem_cons_of_mem _ (List.mem_cons_of_mem _ List.mem_cons_self))))))))))))
  have g13 : 0 ≤ (0 : Int) + (1 * a7 + 0) := hg _ (List.mem_cons_of_mem _ (List.mem_cons_of_mem _ (List.mem_cons_of_mem _ (List.mem_cons_of_mem _ (List.mem_cons_of_mem _ (List.mem_cons_of_mem _ (List.mem_cons_of_mem _ (List.mem_cons_of_mem _ (List.mem_cons_of_mem _ (List.mem_cons_of_mem _ (List.mem_cons_of_mem _ (List.mem_cons_of_mem _ (List.mem_cons_of_mem _ List.mem_cons_self)))))))))))))
  have g14 : 0 ≤ ((-1) : Int) + ((-1) * (zk_xe w 210 a1) + 0) := hg _ (List.mem_cons_of_mem _ (List.mem_cons_of_mem _ (List.mem_cons_of_mem _ (List.mem_cons_of_mem _ (List.mem_cons_of_mem _ (List.mem_cons_of_mem _ (List.mem_cons_of_mem _ (List.mem_cons_of_mem _ (List.mem_cons_of_mem _ (List.mem_cons_of_mem _ (List.mem_cons_of_mem _ (List.mem_cons_of_mem _ (List.mem_cons_of_mem _ (List.mem_cons_of_mem _ List.mem_cons_self))))))))))))))
  have r0 : 0 ≤ a0 := hr _ List.mem_cons_self
  have r1 : 0 ≤ a3 := hr _ (List.mem_cons_of_mem _ List.mem_cons_self)
  have r2 : 0 ≤ a3 := hr _ (List.mem_cons_of_mem _ (List.mem_cons_of_mem _ List.mem_cons_self))
  have r3 : 0 ≤ a3 := hr _ (List.mem_cons_of_mem _ (List.mem_cons_of_mem _ (List.mem_cons_of_mem _ List.mem_cons_self)))
  have r4 : 0 ≤ a1 := hr _ (List.mem_cons_of_mem _ (List.mem_cons_of_mem _ (List.mem_cons_of_mem _ (List.mem_cons_of_mem _ List.mem_cons_self))))
  have r5 : 0 ≤ a1 := hr _ (List.mem_cons_of_mem _ (List.mem_cons_of_mem _ (List.mem_cons_of_mem _ (List.mem_cons_of_mem _ (List.mem_cons_of_mem _ List.mem_cons_self)))))
  have r6 : 0 ≤ a1 := hr _ (List.mem_cons_of_mem _ (List.mem_cons_of_mem _ (List.mem_cons_of_mem _ (List.mem_cons_of_mem _ (List.mem_cons_of_mem _ (List.mem_cons_of_mem _ List.mem_cons_self))))))
  have r7 : 0 ≤ a1 := hr _ (List.mem_cons_of_mem _ (List.mem_cons_of_mem _ (List.mem_cons_of_mem _ (List.mem_cons_of_mem _ (List.mem_cons_of_mem _ (List.mem_cons_of_mem _ (List.mem_cons_of_mem _ List.mem_cons_self)))))))
  have r8 : 0 ≤ a6 := hr _ (List.mem_cons_of_mem _ (List.mem_cons_of_mem _ (List.mem_cons_of_mem _ (List.mem_cons_of_mem _ (List.mem_cons_of_mem _ (List.mem_cons_of_mem _ (List.mem_cons_of_mem _ (List.mem_cons_of_mem _ List.mem_cons_self))))))))
  have r9 : 0 ≤ a5 := hr _ (List.mem_cons_of_mem _ (List.mem_cons_of_mem _ (List.mem_cons_of_mem _ (List.mem_cons_of_mem _ (List.mem_cons_of_mem _ (List.mem_cons_of_mem _ (List.mem_cons_of_mem _ (List.mem_cons_of_mem _ (List.mem_cons_of_mem _ List.mem_cons_self)))))))))
  have r10 : 0 ≤ a7 := hr _ (List.mem_cons_of_mem _ (List.mem_cons_of_mem _ (List.mem_cons_of_mem _ (List.mem_cons_of_mem _ (List.mem_cons_of_mem _ (List.mem_cons_of_mem _ (List.mem_cons_of_mem _ (List.mem_cons_of_mem _ (List.mem_cons_of_mem _ (List.mem_cons_of_mem _ List.mem_cons_self))))))))))
  have hd := (zfy_193 (w := w) (j := a0) (t := a1) (u := a2) (n := a3) (by omega) (by omega) (by omega) (by omega) (by omega) (by omega) (by omega) ).mp (by omega)
  have hS := zfy_Sw (w := w) (n := a3) (by omega) (by omega) (by omega) (by omega) (by omega) 
  have kW : zh_e w 208 (a1) = zk_xe w 208 (a1) := by rw [zk_xe_r (i := 208) (by decide)]; rfl
  have kA : zh_e w 209 (a1) = zk_xe w 209 (a1) := by rw [zk_xe_r (i := 209) (by decide)]; rfl
  have kB : zh_e w 210 (a1) = zk_xe w 210 (a1) := by rw [zk_xe_r (i := 210) (by decide)]; rfl
  have kC : zh_e w 211 (a1) = zk_xe w 211 (a1) := by rw [zk_xe_r (i := 211) (by decide)]; rfl
  have kH : zh_e w 327 (10 * (a2 - 1) + zk_xe w 211 a1) = zk_xe w 327 (a6) := by rw [zk_xe_r (i := 327) (by decide)]; show zk_el w 327 (10 * (a2 - 1) + zk_xe w 211 a1) = zk_el w 327 (a6); rw [show 10 * (a2 - 1) + zk_xe w 211 a1 = a6 by omega]
  have e : a1 / 8000 = a4 := by omega
  have hD := (zfo_189 (w := w) (j := a5) (u := a4) (x := (zk_xe w 209 a1)) (n := a3) (by omega) (by omega) (by omega) (by omega) (by omega) (by omega) (by omega) )
  have kZ : zh_e w 216 (a7) = zk_xe w 216 (a7) := by rw [zk_xe_r (i := 216) (by decide)]; rfl
  have hh := hd.2.1 (by rw [kW]; omega)
  rw [kC] at hh
  unfold zfy_h at hh
  rw [kH, kB, e, kA, ← hD, show zk_xe w 2000189 a5 = a7 by omega, kZ] at hh
  obtain ⟨h1, h2, h3⟩ := hh
  have h5 := h3 (by omega)
  exact ⟨_, List.mem_cons_self, [], rfl, zx_bnil, (zx_cs1 (by show 0 ≤ (0 : Int) + (1 * (zk_xe w 327 a6) + 0); omega) (zx_cs1 (by show 0 ≤ ((-1) : Int) + ((-1) * (zk_xe w 327 a6) + (1 * (zk_xe w 216 a7) + 0)); omega) zx_cs0)), zx_eF0, zx_k0⟩
def zx_D1297 : zx_L := zx_Lc [] 8 [(2000193, 0), (2000192, 3), (2000176, 3), (2000190, 3), (208, 1), (209, 1), (210, 1), (211, 1), (327, 6), (2000189, 5), (216, 7)] [] [((0, 0), [(0, 1, 0), (1, 0, 1), (2, 0, 4294967296), (3, 0, 18446744073709551616)]), ((0, 1), [(8, 1, 0)]), ((0, 1), [(9, 1, 0)]), ((0, 1), [(10, 1, 0)]), ((0, 1), [(11, 1, 0)]), ((0, 0), [(3, 0, 18446744073709551616), (4, 0, 1), (5, 1, 0), (13, 0, 4294967296)]), ((10, 0), [(2, 0, 10), (6, 1, 0)]), ((0, 12), [(12, 1, 0)]), ((0, 0), [(7, 1, 0), (17, 0, 1)])] [((0, 0), [(1, 1, 0)]), ((4294967276, 0), [(1, 0, 1)]), ((0, 0), [(2, 1, 0)]), ((4294967276, 0), [(2, 0, 1)]), ((0, 0), [(3, 1, 0)]), ((4294967276, 0), [(3, 0, 1)]), ((0, 0), [(1, 1, 0), (4, 0, 8000)]), ((7999, 0), [(1, 0, 1), (4, 8000, 0)]), ((0, 0), [(4, 1, 0)]), ((0, 0), [(13, 1, 0)]), ((65535, 0), [(13, 0, 1)]), ((6, 0), [(3, 0, 1)]), ((0, 0), [(6, 1, 0)]), ((0, 0), [(7, 1, 0)]), ((0, 1), [(14, 0, 1)])] [([], [((0, 0), [(16, 1, 0)]), ((0, 1), [(16, 0, 1), (18, 1, 0)])], [], [])]
theorem zx_D1297_ok {PT : Nat → zz_W → Prop} : zx_Lok 64 zHT PT zx_D1297 := by
  refine zx_Lc_ok (fun w hI hK ins hl hr he hg => ?_)
  obtain ⟨a0, a1, a2, a3, a4, a5, a6, a7, rfl⟩ := zx_i8 hl
  have e0 : (0 : Int) + (1 * a0 + ((-1) * a1 + ((-4294967296) * a2 + ((-18446744073709551616) * a3 + 0)))) = 0 := he _ List.mem_cons_self
  have e1 : ((-1) : Int) + (1 * (zk_xe w 2000193 a0) + 0) = 0 := he _ (List.mem_cons_of_mem _ List.mem_cons_self)
  have e2 : ((-1) : Int) + (1 * (zk_xe w 2000192 a3) + 0) = 0 := he _ (List.mem_cons_of_mem _ (List.mem_cons_of_mem _ List.mem_cons_self))
  have e3 : ((-1) : Int) + (1 * (zk_xe w 2000176 a3) + 0) = 0 := he _ (List.mem_cons_of_mem _ (List.mem_cons_of_mem _ (List.mem_cons_of_mem _ List.mem_cons_self)))
  have e4 : ((-1) : Int) + (1 * (zk_xe w 2000190 a3) + 0) = 0 := he _ (List.mem_cons_of_mem _ (List.mem_cons_of_mem _ (List.mem_cons_of_mem _ (List.mem_cons_of_mem _ List.mem_cons_self))))
  have e5 : (0 : Int) + ((-18446744073709551616) * a3 + ((-1) * a4 + (1 * a5 + ((-4294967296) * (zk_xe w 209 a1) + 0)))) = 0 := he _ (List.mem_cons_of_mem _ (List.mem_cons_of_mem _ (List.mem_cons_of_mem _ (List.mem_cons_of_mem _ (List.mem_cons_of_mem _ List.mem_cons_self)))))
  have e6 : (10 : Int) + ((-10) * a2 + (1 * a6 + 0)) = 0 := he _ (List.mem_cons_of_mem _ (List.mem_cons_of_mem _ (List.mem_cons_of_mem _ (List.mem_cons_of_mem _ (List.mem_cons_of_mem _ (List.mem_cons_of_mem _ List.mem_cons_self))))))
  have e7 : ((-12) : Int) + (1 * (zk_xe w 208 a1) + 0) = 0 := he _ (List.mem_cons_of_mem _ (List.mem_cons_of_mem _ (List.mem_cons_of_mem _ (List.mem_cons_of_mem _ (List.mem_cons_of_mem _ (List.mem_cons_of_mem _ (List.mem_cons_of_mem _ List.mem_cons_self)))))))
  have e8 : (0 : Int) + (1 * a7 + ((-1) * (zk_xe w 2000189 a5) + 0)) = 0 := he _ (List.mem_cons_of_mem _ (List.mem_cons_of_mem _ (List.mem_cons_of_mem _ (List.mem_cons_of_mem _ (List.mem_cons_of_mem _ (List.mem_cons_of_mem _ (List.mem_cons_of_mem _ (List.mem_cons_of_mem _ List.mem_cons_self))))))))
  have g0 : 0 ≤ (0 : Int) + (1 * a1 + 0) := hg _ List.mem_cons_self
  have g1 : 0 ≤ (4294967276 : Int) + ((-1) * a1 + 0) := hg _ (List.mem_cons_of_mem _ List.mem_cons_self)
  have g2 : 0 ≤ (0 : Int) + (1 * a2 + 0) := hg _ (List.mem_cons_of_mem _ (List.mem_cons_of_mem _ List.mem_cons_self))
  have g3 : 0 ≤ (4294967276 : Int) + ((-1) * a2 + 0) := hg _ (List.mem_cons_of_mem _ (List.mem_cons_of_mem _ (List.mem_cons_of_mem _ List.mem_cons_self)))
  have g4 : 0 ≤ (0 : Int) + (1 * a3 + 0) := hg _ (List.mem_cons_of_mem _ (List.mem_cons_of_mem _ (List.mem_cons_of_mem _ (List.mem_cons_of_mem _ List.mem_cons_self))))
  have g5 : 0 ≤ (4294967276 : Int) + ((-1) * a3 + 0) := hg _ (List.mem_cons_of_mem _ (List.mem_cons_of_mem _ (List.mem_cons_of_mem _ (List.mem_cons_of_mem _ (List.mem_cons_of_mem _ List.mem_cons_self)))))
  have g6 : 0 ≤ (0 : Int) + (1 * a1 + ((-8000) * a4 + 0)) := hg _ (List.mem_cons_of_mem _ (List.mem_cons_of_mem _ (List.mem_cons_of_mem _ (List.mem_cons_of_mem _ (List.mem_cons_of_mem _ (List.mem_cons_of_mem _ List.mem_cons_self))))))
  have g7 : 0 ≤ (7999 : Int) + ((-1) * a1 + (8000 * a4 + 0)) := hg _ (List.mem_cons_of_mem _ (List.mem_cons_of_mem _ (List.mem_cons_of_mem _ (List.mem_cons_of_mem _ (List.mem_cons_of_mem _ (List.mem_cons_of_mem _ (List.mem_cons_of_mem _ List.mem_cons_self)))))))
  have g8 : 0 ≤ (0 : Int) + (1 * a4 + 0) := hg _ (List.mem_cons_of_mem _ (List.mem_cons_of_mem _ (List.mem_cons_of_mem _ (List.mem_cons_of_mem _ (List.mem_cons_of_mem _ (List.mem_cons_of_mem _ (List.mem_cons_of_mem _ (List.mem_cons_of_mem _ List.mem_cons_self))))))))
  have g9 : 0 ≤ (0 : Int) + (1 * (zk_xe w 209 a1) + 0) := hg _ (List.mem_cons_of_mem _ (List.mem_cons_of_mem _ (List.mem_cons_of_mem _ (List.mem_cons_of_mem _ (List.mem_cons_of_mem _ (List.mem_cons_of_mem _ (List.mem_cons_of_mem _ (List.mem_cons_of_mem _ (List.mem_cons_of_mem _ List.mem_cons_self)))))))))
  have g10 : 0 ≤ (65535 : Int) + ((-1) * (zk_xe w 209 a1) + 0) := hg _ (List.mem_cons_of_mem _ (List.mem_cons_of_mem _ (List.mem_cons_of_mem _ (List.mem_cons_of_mem _ (List.mem_cons_of_mem _ (List.mem_cons_of_mem _ (List.mem_cons_of_mem _ (List.mem_cons_of_mem _ (List.mem_cons_of_mem _ (List.mem_cons_of_mem _ List.mem_cons_self))))))))))
  have g11 : 0 ≤ (6 : Int) + ((-1) * a3 + 0) := hg _ (List.mem_cons_of_mem _ (List.mem_cons_of_mem _ (List.mem_cons_of_mem _ (List.mem_cons_of_mem _ (List.mem_cons_of_mem _ (List.mem_cons_of_mem _ (List.mem_cons_of_mem _ (List.mem_cons_of_mem _ (List.mem_cons_of_mem _ (List.mem_cons_of_mem _ (List.mem_cons_of_mem _ List.mem_cons_self)))))))))))
  have g12 : 0 ≤ (0 : Int) + (1 * a6 + 0) := hg _ (List.mem_cons_of_mem _ (List.mem_cons_of_mem _ (List.mem_cons_of_mem _ (List.mem_cons_of_mem _ (List.mem_cons_of_mem _ (List.mem_cons_of_mem _ (List.mem_cons_of_mem _ (List.mem_cons_of_mem _ (List.mem_cons_of_mem _ (List.mem_cons_of_mem _ (List.mem_cons_of_mem _ (List.mem_cons_of_mem _ List.mem_cons_self))))))))))))
  have g13 : 0 ≤ (0 : Int) + (1 * a7 + 0) := hg _ (List.mem_cons_of_mem _ (List.mem_cons_of_mem _ (List.mem_cons_of_mem _ (List.mem_cons_of_mem _ (List.mem_cons_of_mem _ (List.mem_cons_of_mem _ (List.mem_cons_of_mem _ (List.mem_cons_of_mem _ (List.mem_cons_of_mem _ (List.mem_cons_of_mem _ (List.mem_cons_of_mem _ (List.mem_cons_of_mem _ (List.mem_cons_of_mem _ List.mem_cons_self)))))))))))))
  have g14 : 0 ≤ ((-1) : Int) + ((-1) * (zk_xe w 210 a1) + 0) := hg _ (List.mem_cons_of_mem _ (List.mem_cons_of_mem _ (List.mem_cons_of_mem _ (List.mem_cons_of_mem _ (List.mem_cons_of_mem _ (List.mem_cons_of_mem _ (List.mem_cons_of_mem _ (List.mem_cons_of_mem _ (List.mem_cons_of_mem _ (List.mem_cons_of_mem _ (List.mem_cons_of_mem _ (List.mem_cons_of_mem _ (List.mem_cons_of_mem _ (List.mem_cons_of_mem _ List.mem_cons_self))))))))))))))
  have r0 : 0 ≤ a0 := hr _ List.mem_cons_self
  have r1 : 0 ≤ a3 := hr _ (List.mem_cons_of_mem _ List.mem_cons_self)
  have r2 : 0 ≤ a3 := hr _ (List.mem_cons_of_mem _ (List.mem_cons_of_mem _ List.mem_cons_self))
  have r3 : 0 ≤ a3 := hr _ (List.mem_cons_of_mem _ (List.mem_cons_of_mem _ (List.mem_cons_of_mem _ List.mem_cons_self)))
  have r4 : 0 ≤ a1 := hr _ (List.mem_cons_of_mem _ (List.mem_cons_of_mem _ (List.mem_cons_of_mem _ (List.mem_cons_of_mem _ List.mem_cons_self))))
  have r5 : 0 ≤ a1 := hr _ (List.mem_cons_of_mem _ (List.mem_cons_of_mem _ (List.mem_cons_of_mem _ (List.mem_cons_of_mem _ (List.mem_cons_of_mem _ List.mem_cons_self)))))
  have r6 : 0 ≤ a1 := hr _ (List.mem_cons_of_mem _ (List.mem_cons_of_mem _ (List.mem_cons_of_mem _ (List.mem_cons_of_mem _ (List.mem_cons_of_mem _ (List.mem_cons_of_mem _ List.mem_cons_self))))))
  have r7 : 0 ≤ a1 := hr _ (List.mem_cons_of_mem _ (List.mem_cons_of_mem _ (List.mem_cons_of_mem _ (List.mem_cons_of_mem _ (List.mem_cons_of_mem _ (List.mem_cons_of_mem _ (List.mem_cons_of_mem _ List.mem_cons_self)))))))
  have r8 : 0 ≤ a6 := hr _ (List.mem_cons_of_mem _ (List.mem_cons_of_mem _ (List.mem_cons_of_mem _ (List.mem_cons_of_mem _ (List.mem_cons_of_mem _ (List.mem_cons_of_mem _ (List.mem_cons_of_mem _ (List.mem_cons_of_mem _ List.mem_cons_self))))))))
  have r9 : 0 ≤ a5 := hr _ (List.mem_cons_of_mem _ (List.mem_cons_of_mem _ (List.mem_cons_of_mem _ (List.mem_cons_of_mem _ (List.mem_cons_of_mem _ (List.mem_cons_of_mem _ (List.mem_cons_of_mem _ (List.mem_cons_of_mem _ (List.mem_cons_of_mem _ List.mem_cons_self)))))))))
  have r10 : 0 ≤ a7 := hr _ (List.mem_cons_of_mem _ (List.mem_cons_of_mem _ (List.mem_cons_of_mem _ (List.mem_cons_of_mem _ (List.mem_cons_of_mem _ (List.mem_cons_of_mem _ (List.mem_cons_of_mem _ (List.mem_cons_of_mem _ (List.mem_cons_of_mem _ (List.mem_cons_of_mem _ List.mem_cons_self))))))))))
  have hd := (zfy_193 (w := w) (j := a0) (t := a1) (u := a2) (n := a3) (by omega) (by omega) (by omega) (by omega) (by omega) (by omega) (by omega) ).mp (by omega)
  have hS := zfy_Sw (w := w) (n := a3) (by omega) (by omega) (by omega) (by omega) (by omega) 
  have kW : zh_e w 208 (a1) = zk_xe w 208 (a1) := by rw [zk_xe_r (i := 208) (by decide)]; rfl
  have kA : zh_e w 209 (a1) = zk_xe w 209 (a1) := by rw [zk_xe_r (i := 209) (by decide)]; rfl
  have kB : zh_e w 210 (a1) = zk_xe w 210 (a1) := by rw [zk_xe_r (i := 210) (by decide)]; rfl
  have kC : zh_e w 211 (a1) = zk_xe w 211 (a1) := by rw [zk_xe_r (i := 211) (by decide)]; rfl
  have kH : zh_e w 327 (10 * (a2 - 1)) = zk_xe w 327 (a6) := by rw [zk_xe_r (i := 327) (by decide)]; show zk_el w 327 (10 * (a2 - 1)) = zk_el w 327 (a6); rw [show 10 * (a2 - 1) = a6 by omega]
  have e : a1 / 8000 = a4 := by omega
  have hD := (zfo_189 (w := w) (j := a5) (u := a4) (x := (zk_xe w 209 a1)) (n := a3) (by omega) (by omega) (by omega) (by omega) (by omega) (by omega) (by omega) )
  have kZ : zh_e w 216 (a7) = zk_xe w 216 (a7) := by rw [zk_xe_r (i := 216) (by decide)]; rfl
  have hh := hd.2.2.1 a1 (zfy_ww hd.1 (by rw [kW]; omega))
  unfold zfy_h at hh
  rw [kH, kB, e, kA, ← hD, show zk_xe w 2000189 a5 = a7 by omega, kZ] at hh
  obtain ⟨h1, h2, h3⟩ := hh
  have h5 := h3 (by omega)
  exact ⟨_, List.mem_cons_self, [], rfl, zx_bnil, (zx_cs1 (by show 0 ≤ (0 : Int) + (1 * (zk_xe w 327 a6) + 0); omega) (zx_cs1 (by show 0 ≤ ((-1) : Int) + ((-1) * (zk_xe w 327 a6) + (1 * (zk_xe w 216 a7) + 0)); omega) zx_cs0)), zx_eF0, zx_k0⟩
def zx_D1286 : zx_L := zx_Lc [] 4 [(2000193, 0), (2000192, 3), (2000176, 3), (2000190, 3), (208, 1)] [] [((0, 0), [(0, 1, 0), (1, 0, 1), (2, 0, 4294967296), (3, 0, 18446744073709551616)]), ((0, 1), [(4, 1, 0)]), ((0, 1), [(5, 1, 0)]), ((0, 1), [(6, 1, 0)]), ((0, 1), [(7, 1, 0)])] [((0, 0), [(1, 1, 0)]), ((4294967276, 0), [(1, 0, 1)]), ((0, 0), [(2, 1, 0)]), ((4294967276, 0), [(2, 0, 1)]), ((0, 0), [(3, 1, 0)]), ((4294967276, 0), [(3, 0, 1)]), ((6, 0), [(3, 0, 1)])] [([(0, 5)], [((0, 0), [(1, 1, 0), (9, 0, 8000)]), ((7999, 0), [(1, 0, 1), (9, 8000, 0)]), ((0, 1), [(3, 1, 0), (9, 0, 1)])], [], [])]
theorem zx_D1286_ok {PT : Nat → zz_W → Prop} : zx_Lok 64 zHT PT zx_D1286 := by
  refine zx_Lc_ok (fun w hI hK ins hl hr he hg => ?_)
  obtain ⟨a0, a1, a2, a3, rfl⟩ := zx_i4 hl
  have e0 : (0 : Int) + (1 * a0 + ((-1) * a1 + ((-4294967296) * a2 + ((-18446744073709551616) * a3 + 0)))) = 0 := he _ List.mem_cons_self
  have e1 : ((-1) : Int) + (1 * (zk_xe w 2000193 a0) + 0) = 0 := he _ (List.mem_cons_of_mem _ List.mem_cons_self)
  have e2 : ((-1) : Int) + (1 * (zk_xe w 2000192 a3) + 0) = 0 := he _ (List.mem_cons_of_mem _ (List.mem_cons_of_mem _ List.mem_cons_self))
  have e3 : ((-1) : Int) + (1 * (zk_xe w 2000176 a3) + 0) = 0 := he _ (List.mem_cons_of_mem _ (List.mem_cons_of_mem _ (List.mem_cons_of_mem _ List.mem_cons_self)))
  have e4 : ((-1) : Int) + (1 * (zk_xe w 2000190 a3) + 0) = 0 := he _ (List.mem_cons_of_mem _ (List.mem_cons_of_mem _ (List.mem_cons_of_mem _ (List.mem_cons_of_mem _ List.mem_cons_self))))
  have g0 : 0 ≤ (0 : Int) + (1 * a1 + 0) := hg _ List.mem_cons_self
  have g1 : 0 ≤ (4294967276 : Int) + ((-1) * a1 + 0) := hg _ (List.mem_cons_of_mem _ List.mem_cons_self)
  have g2 : 0 ≤ (0 : Int) + (1 * a2 + 0) := hg _ (List.mem_cons_of_mem _ (List.mem_cons_of_mem _ List.mem_cons_self))
  have g3 : 0 ≤ (4294967276 : Int) + ((-1) * a2 + 0) := hg _ (List.mem_cons_of_mem _ (List.mem_cons_of_mem _ (List.mem_cons_of_mem _ List.mem_cons_self)))
  have g4 : 0 ≤ (0 : Int) + (1 * a3 + 0) := hg _ (List.mem_cons_of_mem _ (List.mem_cons_of_mem _ (List.mem_cons_of_mem _ (List.mem_cons_of_mem _ List.mem_cons_self))))
  have g5 : 0 ≤ (4294967276 : Int) + ((-1) * a3 + 0) := hg _ (List.mem_cons_of_mem _ (List.mem_cons_of_mem _ (List.mem_cons_of_mem _ (List.mem_cons_of_mem _ (List.mem_cons_of_mem _ List.mem_cons_self)))))
  have g6 : 0 ≤ (6 : Int) + ((-1) * a3 + 0) := hg _ (List.mem_cons_of_mem _ (List.mem_cons_of_mem _ (List.mem_cons_of_mem _ (List.mem_cons_of_mem _ (List.mem_cons_of_mem _ (List.mem_cons_of_mem _ List.mem_cons_self))))))
  have r0 : 0 ≤ a0 := hr _ List.mem_cons_self
  have r1 : 0 ≤ a3 := hr _ (List.mem_cons_of_mem _ List.mem_cons_self)
  have r2 : 0 ≤ a3 := hr _ (List.mem_cons_of_mem _ (List.mem_cons_of_mem _ List.mem_cons_self))
  have r3 : 0 ≤ a3 := hr _ (List.mem_cons_of_mem _ (List.mem_cons_of_mem _ (List.mem_cons_of_mem _ List.mem_cons_self)))
  have r4 : 0 ≤ a1 := hr _ (List.mem_cons_of_mem _ (List.mem_cons_of_mem _ (List.mem_cons_of_mem _ (List.mem_cons_of_mem _ List.mem_cons_self))))
  have hd := (zfy_193 (w := w) (j := a0) (t := a1) (u := a2) (n := a3) (by omega) (by omega) (by omega) (by omega) (by omega) (by omega) (by omega) ).mp (by omega)
  have hS := zfy_Sw (w := w) (n := a3) (by omega) (by omega) (by omega) (by omega) (by omega) 
  have kW : zh_e w 208 (a1) = zk_xe w 208 (a1) := by rw [zk_xe_r (i := 208) (by decide)]; rfl
  have hp := hd.1
  unfold zfy_p at hp
  exact ⟨_, List.mem_cons_self, [a1 / 8000], rfl, (zx_bcons (by show (0 : Int) ≤ a1 / 8000 ∧ a1 / 8000 ≤ (5 : Int); omega) zx_bnil), (zx_cs1 (by show 0 ≤ (0 : Int) + (1 * a1 + ((-8000) * (a1 / 8000) + 0)); omega) (zx_cs1 (by show 0 ≤ (7999 : Int) + ((-1) * a1 + (8000 * (a1 / 8000) + 0)); omega) (zx_cs1 (by show 0 ≤ ((-1) : Int) + (1 * a3 + ((-1) * (a1 / 8000) + 0)); omega) zx_cs0))), zx_eF0, zx_k0⟩
def zx_D1287 : zx_L := zx_Lc [] 5 [(2000193, 0), (2000192, 3), (2000176, 3), (2000190, 3), (208, 1), (2000182, 3), (209, 1)] [] [((0, 0), [(0, 1, 0), (1, 0, 1), (2, 0, 4294967296), (3, 0, 18446744073709551616)]), ((0, 1), [(5, 1, 0)]), ((0, 1), [(6, 1, 0)]), ((0, 1), [(7, 1, 0)]), ((0, 1), [(8, 1, 0)]), ((0, 1), [(10, 1, 0)])] [((0, 0), [(1, 1, 0)]), ((4294967276, 0), [(1, 0, 1)]), ((0, 0), [(2, 1, 0)]), ((4294967276, 0), [(2, 0, 1)]), ((0, 0), [(3, 1, 0)]), ((4294967276, 0), [(3, 0, 1)]), ((0, 0), [(1, 1, 0), (4, 0, 8000)]), ((7999, 0), [(1, 0, 1), (4, 8000, 0)]), ((0, 0), [(4, 1, 0)]), ((0, 5), [(9, 1, 0)]), ((8, 0), [(9, 0, 1)])] [([], [((0, 0), [(11, 1, 0)]), ((65535, 0), [(11, 0, 1)])], [], [])]
theorem zx_D1287_ok {PT : Nat → zz_W → Prop} : zx_Lok 64 zHT PT zx_D1287 := by
  refine zx_Lc_ok (fun w hI hK ins hl hr he hg => ?_)
  obtain ⟨a0, a1, a2, a3, a4, rfl⟩ := zx_i5 hl
  have e0 : (0 : Int) + (1 * a0 + ((-1) * a1 + ((-4294967296) * a2 + ((-18446744073709551616) * a3 + 0)))) = 0 := he _ List.mem_cons_self
  have e1 : ((-1) : Int) + (1 * (zk_xe w 2000193 a0) + 0) = 0 := he _ (List.mem_cons_of_mem _ List.mem_cons_self)
  have e2 : ((-1) : Int) + (1 * (zk_xe w 2000192 a3) + 0) = 0 := he _ (List.mem_cons_of_mem _ (List.mem_cons_of_mem _ List.mem_cons_self))
  have e3 : ((-1) : Int) + (1 * (zk_xe w 2000176 a3) + 0) = 0 := he _ (List.mem_cons_of_mem _ (List.mem_cons_of_mem _ (List.mem_cons_of_mem _ List.mem_cons_self)))
  have e4 : ((-1) : Int) + (1 * (zk_xe w 2000190 a3) + 0) = 0 := he _ (List.mem_cons_of_mem _ (List.mem_cons_of_mem _ (List.mem_cons_of_mem _ (List.mem_cons_of_mem _ List.mem_cons_self))))
  have e5 : ((-1) : Int) + (1 * (zk_xe w 2000182 a3) + 0) = 0 := he _ (List.mem_cons_of_mem _ (List.mem_cons_of_mem _ (List.mem_cons_of_mem _ (List.mem_cons_of_mem _ (List.mem_cons_of_mem _ List.mem_cons_self)))))
  have g0 : 0 ≤ (0 : Int) + (1 * a1 + 0) := hg _ List.mem_cons_self
  have g1 : 0 ≤ (4294967276 : Int) + ((-1) * a1 + 0) := hg _ (List.mem_cons_of_mem _ List.mem_cons_self)
  have g2 : 0 ≤ (0 : Int) + (1 * a2 + 0) := hg _ (List.mem_cons_of_mem _ (List.mem_cons_of_mem _ List.mem_cons_self))
  have g3 : 0 ≤ (4294967276 : Int) + ((-1) * a2 + 0) := hg _ (List.mem_cons_of_mem _ (List.mem_cons_of_mem _ (List.mem_cons_of_mem _ List.mem_cons_self)))
  have g4 : 0 ≤ (0 : Int) + (1 * a3 + 0) := hg _ (List.mem_cons_of_mem _ (List.mem_cons_of_mem _ (List.mem_cons_of_mem _ (List.mem_cons_of_mem _ List.mem_cons_self))))
  have g5 : 0 ≤ (4294967276 : Int) + ((-1) * a3 + 0) := hg _ (List.mem_cons_of_mem _ (List.mem_cons_of_mem _ (List.mem_cons_of_mem _ (List.mem_cons_of_mem _ (List.mem_cons_of_mem _ List.mem_cons_self)))))
  have g6 : 0 ≤ (0 : Int) + (1 * a1 + ((-8000) * a4 + 0)) := hg _ (List.mem_cons_of_mem _ (List.mem_cons_of_mem _ (List.mem_cons_of_mem _ (List.mem_cons_of_mem _ (List.mem_cons_of_mem _ (List.mem_cons_of_mem _ List.mem_cons_self))))))
  have g7 : 0 ≤ (7999 : Int) + ((-1) * a1 + (8000 * a4 + 0)) := hg _ (List.mem_cons_of_mem _ (List.mem_cons_of_mem _ (List.mem_cons_of_mem _ (List.mem_cons_of_mem _ (List.mem_cons_of_mem _ (List.mem_cons_of_mem _ (List.mem_cons_of_mem _ List.mem_cons_self)))))))
  have g8 : 0 ≤ (0 : Int) + (1 * a4 + 0) := hg _ (List.mem_cons_of_mem _ (List.mem_cons_of_mem _ (List.mem_cons_of_mem _ (List.mem_cons_of_mem _ (List.mem_cons_of_mem _ (List.mem_cons_of_mem _ (List.mem_cons_of_mem _ (List.mem_cons_of_mem _ List.mem_cons_self))))))))
  have g9 : 0 ≤ ((-5) : Int) + (1 * (zk_xe w 208 a1) + 0) := hg _ (List.mem_cons_of_mem _ (List.mem_cons_of_mem _ (List.mem_cons_of_mem _ (List.mem_cons_of_mem _ (List.mem_cons_of_mem _ (List.mem_cons_of_mem _ (List.mem_cons_of_mem _ (List.mem_cons_of_mem _ (List.mem_cons_of_mem _ List.mem_cons_self)))))))))
  have g10 : 0 ≤ (8 : Int) + ((-1) * (zk_xe w 208 a1) + 0) := hg _ (List.mem_cons_of_mem _ (List.mem_cons_of_mem _ (List.mem_cons_of_mem _ (List.mem_cons_of_mem _ (List.mem_cons_of_mem _ (List.mem_cons_of_mem _ (List.mem_cons_of_mem _ (List.mem_cons_of_mem _ (List.mem_cons_of_mem _ (List.mem_cons_of_mem _ List.mem_cons_self))))))))))
  have r0 : 0 ≤ a0 := hr _ List.mem_cons_self
  have r1 : 0 ≤ a3 := hr _ (List.mem_cons_of_mem _ List.mem_cons_self)
  have r2 : 0 ≤ a3 := hr _ (List.mem_cons_of_mem _ (List.mem_cons_of_mem _ List.mem_cons_self))
  have r3 : 0 ≤ a3 := hr _ (List.mem_cons_of_mem _ (List.mem_cons_of_mem _ (List.mem_cons_of_mem _ List.mem_cons_self)))
  have r4 : 0 ≤ a1 := hr _ (List.mem_cons_of_mem _ (List.mem_cons_of_mem _ (List.mem_cons_of_mem _ (List.mem_cons_of_mem _ List.mem_cons_self))))
  have r5 : 0 ≤ a3 := hr _ (List.mem_cons_of_mem _ (List.mem_cons_of_mem _ (List.mem_cons_of_mem _ (List.mem_cons_of_mem _ (List.mem_cons_of_mem _ List.mem_cons_self)))))
  have r6 : 0 ≤ a1 := hr _ (List.mem_cons_of_mem _ (List.mem_cons_of_mem _ (List.mem_cons_of_mem _ (List.mem_cons_of_mem _ (List.mem_cons_of_mem _ (List.mem_cons_of_mem _ List.mem_cons_self))))))
  have hd := (zfy_193 (w := w) (j := a0) (t := a1) (u := a2) (n := a3) (by omega) (by omega) (by omega) (by omega) (by omega) (by omega) (by omega) ).mp (by omega)
  have hS := zfy_Sw (w := w) (n := a3) (by omega) (by omega) (by omega) (by omega) (by omega) 
  have kW : zh_e w 208 (a1) = zk_xe w 208 (a1) := by rw [zk_xe_r (i := 208) (by decide)]; rfl
  have ha := zh_b1' (zfo_190.symm.trans (show zk_xe w 2000190 a3 = 1 by omega))
  have hn := (zj_n182 (w := w) (j := a3) (n := a3) (by omega) (by omega) (by omega) ).mp (by omega)
  have hp := hd.1
  unfold zfy_p at hp
  have h := hn (a1 / 8000) (by omega) hp.2.1 (ha _ (by omega) hp.2.1) (a1 % 8000) (by omega) hp.2.2 (by omega)
  rw [zfy_e] at h
  have h := h (by rw [kW]; unfold zj_nm; omega)
  have kA : zh_e w 209 (a1) = zk_xe w 209 (a1) := by rw [zk_xe_r (i := 209) (by decide)]; rfl
  rw [kA] at h
  exact ⟨_, List.mem_cons_self, [], rfl, zx_bnil, (zx_cs1 (by show 0 ≤ (0 : Int) + (1 * (zk_xe w 209 a1) + 0); omega) (zx_cs1 (by show 0 ≤ (65535 : Int) + ((-1) * (zk_xe w 209 a1) + 0); omega) zx_cs0)), zx_eF0, zx_k0⟩
def zx_D1288 : zx_L := zx_Lc [] 5 [(2000193, 0), (2000192, 3), (2000176, 3), (2000190, 3), (208, 1), (2000182, 3), (209, 1)] [] [((0, 0), [(0, 1, 0), (1, 0, 1), (2, 0, 4294967296), (3, 0, 18446744073709551616)]), ((0, 1), [(5, 1, 0)]), ((0, 1), [(6, 1, 0)]), ((0, 1), [(7, 1, 0)]), ((0, 1), [(8, 1, 0)]), ((0, 1), [(10, 1, 0)])] [((0, 0), [(1, 1, 0)]), ((4294967276, 0), [(1, 0, 1)]), ((0, 0), [(2, 1, 0)]), ((4294967276, 0), [(2, 0, 1)]), ((0, 0), [(3, 1, 0)]), ((4294967276, 0), [(3, 0, 1)]), ((0, 0), [(1, 1, 0), (4, 0, 8000)]), ((7999, 0), [(1, 0, 1), (4, 8000, 0)]), ((0, 0), [(4, 1, 0)]), ((0, 11), [(9, 1, 0)]), ((12, 0), [(9, 0, 1)])] [([], [((0, 0), [(11, 1, 0)]), ((65535, 0), [(11, 0, 1)])], [], [])]
theorem zx_D1288_ok {PT : Nat → zz_W → Prop} : zx_Lok 64 zHT PT zx_D1288 := by
  refine zx_Lc_ok (fun w hI hK ins hl hr he hg => ?_)
  obtain ⟨a0, a1, a2, a3, a4, rfl⟩ := zx_i5 hl
  have e0 : (0 : Int) + (1 * a0 + ((-1) * a1 + ((-4294967296) * a2 + ((-18446744073709551616) * a3 + 0)))) = 0 := he _ List.mem_cons_self
  have e1 : ((-1) : Int) + (1 * (zk_xe w 2000193 a0) + 0) = 0 := he _ (List.mem_cons_of_mem _ List.mem_cons_self)
  have e2 : ((-1) : Int) + (1 * (zk_xe w 2000192 a3) + 0) = 0 := he _ (List.mem_cons_of_mem _ (List.mem_cons_of_mem _ List.mem_cons_self))
  have e3 : ((-1) : Int) + (1 * (zk_xe w 2000176 a3) + 0) = 0 := he _ (List.mem_cons_of_mem _ (List.mem_cons_of_mem _ (List.mem_cons_of_mem _ List.mem_cons_self)))
  have e4 : ((-1) : Int) + (1 * (zk_xe w 2000190 a3) + 0) = 0 := he _ (List.mem_cons_of_mem _ (List.mem_cons_of_mem _ (List.mem_cons_of_mem _ (List.mem_cons_of_mem _ List.mem_cons_self))))
  have e5 : ((-1) : Int) + (1 * (zk_xe w 2000182 a3) + 0) = 0 := he _ (List.mem_cons_of_mem _ (List.mem_cons_of_mem _ (List.mem_cons_of_mem _ (List.mem_cons_of_mem _ (List.mem_cons_of_mem _ List.mem_cons_self)))))
  have g0 : 0 ≤ (0 : Int) + (1 * a1 + 0) := hg _ List.mem_cons_self
  have g1 : 0 ≤ (4294967276 : Int) + ((-1) * a1 + 0) := hg _ (List.mem_cons_of_mem _ List.mem_cons_self)
  have g2 : 0 ≤ (0 : Int) + (1 * a2 + 0) := hg _ (List.mem_cons_of_mem _ (List.mem_cons_of_mem _ List.mem_cons_self))
  have g3 : 0 ≤ (4294967276 : Int) + ((-1) * a2 + 0) := hg _ (List.mem_cons_of_mem _ (List.mem_cons_of_mem _ (List.mem_cons_of_mem _ List.mem_cons_self)))
  have g4 : 0 ≤ (0 : Int) + (1 * a3 + 0) := hg _ (List.mem_cons_of_mem _ (List.mem_cons_of_mem _ (List.mem_cons_of_mem _ (List.mem_cons_of_mem _ List.mem_cons_self))))
  have g5 : 0 ≤ (4294967276 : Int) + ((-1) * a3 + 0) := hg _ (List.mem_cons_of_mem _ (List.mem_cons_of_mem _ (List.mem_cons_of_mem _ (List.mem_cons_of_mem _ (List.mem_cons_of_mem _ List.mem_cons_self)))))
  have g6 : 0 ≤ (0 : Int) + (1 * a1 + ((-8000) * a4 + 0)) := hg _ (List.mem_cons_of_mem _ (List.mem_cons_of_mem _ (List.mem_cons_of_mem _ (List.mem_cons_of_mem _ (List.mem_cons_of_mem _ (List.mem_cons_of_mem _ List.mem_cons_self))))))
  have g7 : 0 ≤ (7999 : Int) + ((-1) * a1 + (8000 * a4 + 0)) := hg _ (List.mem_cons_of_mem _ (List.mem_cons_of_mem _ (List.mem_cons_of_mem _ (List.mem_cons_of_mem _ (List.mem_cons_of_mem _ (List.mem_cons_of_mem _ (List.mem_cons_of_mem _ List.mem_cons_self)))))))
  have g8 : 0 ≤ (0 : Int) + (1 * a4 + 0) := hg _ (List.mem_cons_of_mem _ (List.mem_cons_of_mem _ (List.mem_cons_of_mem _ (List.mem_cons_of_mem _ (List.mem_cons_of_mem _ (List.mem_cons_of_mem _ (List.mem_cons_of_mem _ (List.mem_cons_of_mem _ List.mem_cons_self))))))))
  have g9 : 0 ≤ ((-11) : Int) + (1 * (zk_xe w 208 a1) + 0) := hg _ (List.mem_cons_of_mem _ (List.mem_cons_of_mem _ (List.mem_cons_of_mem _ (List.mem_cons_of_mem _ (List.mem_cons_of_mem _ (List.mem_cons_of_mem _ (List.mem_cons_of_mem _ (List.mem_cons_of_mem _ (List.mem_cons_of_mem _ List.mem_cons_self)))))))))
  have g10 : 0 ≤ (12 : Int) + ((-1) * (zk_xe w 208 a1) + 0) := hg _ (List.mem_cons_of_mem _ (List.mem_cons_of_mem _ (List.mem_cons_of_mem _ (List.mem_cons_of_mem _ (List.mem_cons_of_mem _ (List.mem_cons_of_mem _ (List.mem_cons_of_mem _ (List.mem_cons_of_mem _ (List.mem_cons_of_mem _ (List.mem_cons_of_mem _ List.mem_cons_self))))))))))
  have r0 : 0 ≤ a0 := hr _ List.mem_cons_self
  have r1 : 0 ≤ a3 := hr _ (List.mem_cons_of_mem _ List.mem_cons_self)
  have r2 : 0 ≤ a3 := hr _ (List.mem_cons_of_mem _ (List.mem_cons_of_mem _ List.mem_cons_self))
  have r3 : 0 ≤ a3 := hr _ (List.mem_cons_of_mem _ (List.mem_cons_of_mem _ (List.mem_cons_of_mem _ List.mem_cons_self)))
  have r4 : 0 ≤ a1 := hr _ (List.mem_cons_of_mem _ (List.mem_cons_of_mem _ (List.mem_cons_of_mem _ (List.mem_cons_of_mem _ List.mem_cons_self))))
  have r5 : 0 ≤ a3 := hr _ (List.mem_cons_of_mem _ (List.mem_cons_of_mem _ (List.mem_cons_of_mem _ (List.mem_cons_of_mem _ (List.mem_cons_of_mem _ List.mem_cons_self)))))
  have r6 : 0 ≤ a1 := hr _ (List.mem_cons_of_mem _ (List.mem_cons_of_mem _ (List.mem_cons_of_mem _ (List.mem_cons_of_mem _ (List.mem_cons_of_mem _ (List.mem_cons_of_mem _ List.mem_cons_self))))))
  have hd := (zfy_193 (w := w) (j := a0) (t := a1) (u := a2) (n := a3) (by omega) (by omega) (by omega) (by omega) (by omega) (by omega) (by omega) ).mp (by omega)
  have hS := zfy_Sw (w := w) (n := a3) (by omega) (by omega) (by omega) (by omega) (by omega) 
  have kW : zh_e w 208 (a1) = zk_xe w 208 (a1) := by rw [zk_xe_r (i := 208) (by decide)]; rfl
  have ha := zh_b1' (zfo_190.symm.trans (show zk_xe w 2000190 a3 = 1 by omega))
  have hn := (zj_n182 (w := w) (j := a3) (n := a3) (by omega) (by omega) (by omega) ).mp (by omega)
  have hp := hd.1
  unfold zfy_p at hp
  have h := hn (a1 / 8000) (by omega) hp.2.1 (ha _ (by omega) hp.2.1) (a1 % 8000) (by omega) hp.2.2 (by omega)
  rw [zfy_e] at h
  have h := h (by rw [kW]; unfold zj_nm; omega)
  have kA : zh_e w 209 (a1) = zk_xe w 209 (a1) := by rw [zk_xe_r (i := 209) (by decide)]; rfl
  rw [kA] at h
  exact ⟨_, List.mem_cons_self, [], rfl, zx_bnil, (zx_cs1 (by show 0 ≤ (0 : Int) + (1 * (zk_xe w 209 a1) + 0); omega) (zx_cs1 (by show 0 ≤ (65535 : Int) + ((-1) * (zk_xe w 209 a1) + 0); omega) zx_cs0)), zx_eF0, zx_k0⟩
def zx_D1289 : zx_L := zx_Lc [] 5 [(2000193, 0), (2000192, 3), (2000176, 3), (2000190, 3), (208, 1)] [] [((0, 0), [(0, 1, 0), (1, 0, 1), (2, 0, 4294967296), (3, 0, 18446744073709551616)]), ((0, 1), [(5, 1, 0)]), ((0, 1), [(6, 1, 0)]), ((0, 1), [(7, 1, 0)]), ((0, 1), [(8, 1, 0)]), ((0, 1), [(1, 0, 1), (2, 0, 4294967296), (3, 0, 18446744073709551616), (4, 1, 0)]), ((0, 0), [(9, 1, 0)])] [((0, 0), [(1, 1, 0)]), ((4294967276, 0), [(1, 0, 1)]), ((0, 0), [(2, 1, 0)]), ((4294967276, 0), [(2, 0, 1)]), ((0, 0), [(3, 1, 0)]), ((4294967276, 0), [(3, 0, 1)])] [([], [], [(2000193, ((0, 0), [(4, 1, 0)]), ((1, 0), []))], [])]
theorem zx_D1289_ok {PT : Nat → zz_W → Prop} : zx_Lok 64 zHT PT zx_D1289 := by
  refine zx_Lc_ok (fun w hI hK ins hl hr he hg => ?_)
  obtain ⟨a0, a1, a2, a3, a4, rfl⟩ := zx_i5 hl
  have e0 : (0 : Int) + (1 * a0 + ((-1) * a1 + ((-4294967296) * a2 + ((-18446744073709551616) * a3 + 0)))) = 0 := he _ List.mem_cons_self
  have e1 : ((-1) : Int) + (1 * (zk_xe w 2000193 a0) + 0) = 0 := he _ (List.mem_cons_of_mem _ List.mem_cons_self)
  have e2 : ((-1) : Int) + (1 * (zk_xe w 2000192 a3) + 0) = 0 := he _ (List.mem_cons_of_mem _ (List.mem_cons_of_mem _ List.mem_cons_self))
  have e3 : ((-1) : Int) + (1 * (zk_xe w 2000176 a3) + 0) = 0 := he _ (List.mem_cons_of_mem _ (List.mem_cons_of_mem _ (List.mem_cons_of_mem _ List.mem_cons_self)))
  have e4 : ((-1) : Int) + (1 * (zk_xe w 2000190 a3) + 0) = 0 := he _ (List.mem_cons_of_mem _ (List.mem_cons_of_mem _ (List.mem_cons_of_mem _ (List.mem_cons_of_mem _ List.mem_cons_self))))
  have e5 : ((-1) : Int) + ((-1) * a1 + ((-4294967296) * a2 + ((-18446744073709551616) * a3 + (1 * a4 + 0)))) = 0 := he _ (List.mem_cons_of_mem _ (List.mem_cons_of_mem _ (List.mem_cons_of_mem _ (List.mem_cons_of_mem _ (List.mem_cons_of_mem _ List.mem_cons_self)))))
  have e6 : (0 : Int) + (1 * (zk_xe w 208 a1) + 0) = 0 := he _ (List.mem_cons_of_mem _ (List.mem_cons_of_mem _ (List.mem_cons_of_mem _ (List.mem_cons_of_mem _ (List.mem_cons_of_mem _ (List.mem_cons_of_mem _ List.mem_cons_self))))))
  have g0 : 0 ≤ (0 : Int) + (1 * a1 + 0) := hg _ List.mem_cons_self
  have g1 : 0 ≤ (4294967276 : Int) + ((-1) * a1 + 0) := hg _ (List.mem_cons_of_mem _ List.mem_cons_self)
  have g2 : 0 ≤ (0 : Int) + (1 * a2 + 0) := hg _ (List.mem_cons_of_mem _ (List.mem_cons_of_mem _ List.mem_cons_self))
  have g3 : 0 ≤ (4294967276 : Int) + ((-1) * a2 + 0) := hg _ (List.mem_cons_of_mem _ (List.mem_cons_of_mem _ (List.mem_cons_of_mem _ List.mem_cons_self)))
  have g4 : 0 ≤ (0 : Int) + (1 * a3 + 0) := hg _ (List.mem_cons_of_mem _ (List.mem_cons_of_mem _ (List.mem_cons_of_mem _ (List.mem_cons_of_mem _ List.mem_cons_self))))
  have g5 : 0 ≤ (4294967276 : Int) + ((-1) * a3 + 0) := hg _ (List.mem_cons_of_mem _ (List.mem_cons_of_mem _ (List.mem_cons_of_mem _ (List.mem_cons_of_mem _ (List.mem_cons_of_mem _ List.mem_cons_self)))))
  have r0 : 0 ≤ a0 := hr _ List.mem_cons_self
  have r1 : 0 ≤ a3 := hr _ (List.mem_cons_of_mem _ List.mem_cons_self)
  have r2 : 0 ≤ a3 := hr _ (List.mem_cons_of_mem _ (List.mem_cons_of_mem _ List.mem_cons_self))
  have r3 : 0 ≤ a3 := hr _ (List.mem_cons_of_mem _ (List.mem_cons_of_mem _ (List.mem_cons_of_mem _ List.mem_cons_self)))
  have r4 : 0 ≤ a1 := hr _ (List.mem_cons_of_mem _ (List.mem_cons_of_mem _ (List.mem_cons_of_mem _ (List.mem_cons_of_mem _ List.mem_cons_self))))
  have hd := (zfy_193 (w := w) (j := a0) (t := a1) (u := a2) (n := a3) (by omega) (by omega) (by omega) (by omega) (by omega) (by omega) (by omega) ).mp (by omega)
  have hS := zfy_Sw (w := w) (n := a3) (by omega) (by omega) (by omega) (by omega) (by omega) 
  have kW : zh_e w 208 (a1) = zk_xe w 208 (a1) := by rw [zk_xe_r (i := 208) (by decide)]; rfl
  have h := zfy_t3 hd hS (by rw [kW]; omega) (by rw [kW]; omega)
  exact ⟨_, List.mem_cons_self, [], rfl, zx_bnil, zx_cs0, (zx_eF1 (by show 0 ≤ (0 : Int) + (1 * a4 + 0); omega) (by show zk_xe w 2000193 ((0 : Int) + (1 * a4 + 0)) = (1 : Int) + (0); rw [show (0 : Int) + (1 * a4 + 0) = a4 by omega]; exact ((zfy_193 (w := w) (j := a4) (t := (a1 + 1)) (u := a2) (n := a3) (by omega) (by omega) (by omega) (by omega) (by omega) (by omega) (by omega) ).mpr h).trans (by omega)) zx_eF0), zx_k0⟩
def zx_D1258 : zx_L := zx_Lc [] 6 [(2000193, 0), (2000192, 3), (2000176, 3), (2000190, 3), (208, 1), (210, 1), (211, 1), (212, 1), (327, 4)] [] [((0, 0), [(0, 1, 0), (1, 0, 1), (2, 0, 4294967296), (3, 0, 18446744073709551616)]), ((0, 1), [(6, 1, 0)]), ((0, 1), [(7, 1, 0)]), ((0, 1), [(8, 1, 0)]), ((0, 1), [(9, 1, 0)]), ((10, 0), [(2, 0, 10), (4, 1, 0), (12, 0, 1)]), ((0, 6), [(10, 1, 0)]), ((0, 1), [(1, 0, 1), (2, 0, 4294967296), (3, 0, 18446744073709551616), (5, 1, 0)])] [((0, 0), [(1, 1, 0)]), ((4294967276, 0), [(1, 0, 1)]), ((0, 0), [(2, 1, 0)]), ((4294967276, 0), [(2, 0, 1)]), ((0, 0), [(3, 1, 0)]), ((4294967276, 0), [(3, 0, 1)]), ((0, 0), [(11, 1, 0)]), ((0, 0), [(14, 1, 0)]), ((0, 1), [(13, 1, 0), (14, 0, 1)]), ((0, 0), [(4, 1, 0)])] [([], [], [(2000193, ((0, 0), [(5, 1, 0)]), ((1, 0), []))], [])]
theorem zx_D1258_ok {PT : Nat → zz_W → Prop} : zx_Lok 64 zHT PT zx_D1258 := by
  refine zx_Lc_ok (fun w hI hK ins hl hr he hg => ?_)
  obtain ⟨a0, a1, a2, a3, a4, a5, rfl⟩ := zx_i6 hl
  have e0 : (0 : Int) + (1 * a0 + ((-1) * a1 + ((-4294967296) * a2 + ((-18446744073709551616) * a3 + 0)))) = 0 := he _ List.mem_cons_self
  have e1 : ((-1) : Int) + (1 * (zk_xe w 2000193 a0) + 0) = 0 := he _ (List.mem_cons_of_mem _ List.mem_cons_self)
  have e2 : ((-1) : Int) + (1 * (zk_xe w 2000192 a3) + 0) = 0 := he _ (List.mem_cons_of_mem _ (List.mem_cons_of_mem _ List.mem_cons_self))
  have e3 : ((-1) : Int) + (1 * (zk_xe w 2000176 a3) + 0) = 0 := he _ (List.mem_cons_of_mem _ (List.mem_cons_of_mem _ (List.mem_cons_of_mem _ List.mem_cons_self)))
  have e4 : ((-1) : Int) + (1 * (zk_xe w 2000190 a3) + 0) = 0 := he _ (List.mem_cons_of_mem _ (List.mem_cons_of_mem _ (List.mem_cons_of_mem _ (List.mem_cons_of_mem _ List.mem_cons_self))))
  have e5 : (10 : Int) + ((-10) * a2 + (1 * a4 + ((-1) * (zk_xe w 211 a1) + 0))) = 0 := he _ (List.mem_cons_of_mem _ (List.mem_cons_of_mem _ (List.mem_cons_of_mem _ (List.mem_cons_of_mem _ (List.mem_cons_of_mem _ List.mem_cons_self)))))
  have e6 : ((-6) : Int) + (1 * (zk_xe w 208 a1) + 0) = 0 := he _ (List.mem_cons_of_mem _ (List.mem_cons_of_mem _ (List.mem_cons_of_mem _ (List.mem_cons_of_mem _ (List.mem_cons_of_mem _ (List.mem_cons_of_mem _ List.mem_cons_self))))))
  have e7 : ((-1) : Int) + ((-1) * a1 + ((-4294967296) * a2 + ((-18446744073709551616) * a3 + (1 * a5 + 0)))) = 0 := he _ (List.mem_cons_of_mem _ (List.mem_cons_of_mem _ (List.mem_cons_of_mem _ (List.mem_cons_of_mem _ (List.mem_cons_of_mem _ (List.mem_cons_of_mem _ (List.mem_cons_of_mem _ List.mem_cons_self)))))))
  have g0 : 0 ≤ (0 : Int) + (1 * a1 + 0) := hg _ List.mem_cons_self
  have g1 : 0 ≤ (4294967276 : Int) + ((-1) * a1 + 0) := hg _ (List.mem_cons_of_mem _ List.mem_cons_self)
  have g2 : 0 ≤ (0 : Int) + (1 * a2 + 0) := hg _ (List.mem_cons_of_mem _ (List.mem_cons_of_mem _ List.mem_cons_self))
  have g3 : 0 ≤ (4294967276 : Int) + ((-1) * a2 + 0) := hg _ (List.mem_cons_of_mem _ (List.mem_cons_of_mem _ (List.mem_cons_of_mem _ List.mem_cons_self)))
  have g4 : 0 ≤ (0 : Int) + (1 * a3 + 0) := hg _ (List.mem_cons_of_mem _ (List.mem_cons_of_mem _ (List.mem_cons_of_mem _ (List.mem_cons_of_mem _ List.mem_cons_self))))
  have g5 : 0 ≤ (4294967276 : Int) + ((-1) * a3 + 0) := hg _ (List.mem_cons_of_mem _ (List.mem_cons_of_mem _ (List.mem_cons_of_mem _ (List.mem_cons_of_mem _ (List.mem_cons_of_mem _ List.mem_cons_self)))))
  have g6 : 0 ≤ (0 : Int) + (1 * (zk_xe w 210 a1) + 0) := hg _ (List.mem_cons_of_mem _ (List.mem_cons_of_mem _ (List.mem_cons_of_mem _ (List.mem_cons_of_mem _ (List.mem_cons_of_mem _ (List.mem_cons_of_mem _ List.mem_cons_self))))))
  have g7 : 0 ≤ (0 : Int) + (1 * (zk_xe w 327 a4) + 0) := hg _ (List.mem_cons_of_mem _ (List.mem_cons_of_mem _ (List.mem_cons_of_mem _ (List.mem_cons_of_mem _ (List.mem_cons_of_mem _ (List.mem_cons_of_mem _ (List.mem_cons_of_mem _ List.mem_cons_self)))))))
  have g8 : 0 ≤ ((-1) : Int) + (1 * (zk_xe w 212 a1) + ((-1) * (zk_xe w 327 a4) + 0)) := hg _ (List.mem_cons_of_mem _ (List.mem_cons_of_mem _ (List.mem_cons_of_mem _ (List.mem_cons_of_mem _ (List.mem_cons_of_mem _ (List.mem_cons_of_mem _ (List.mem_cons_of_mem _ (List.mem_cons_of_mem _ List.mem_cons_self))))))))
  have g9 : 0 ≤ (0 : Int) + (1 * a4 + 0) := hg _ (List.mem_cons_of_mem _ (List.mem_cons_of_mem _ (List.mem_cons_of_mem _ (List.mem_cons_of_mem _ (List.mem_cons_of_mem _ (List.mem_cons_of_mem _ (List.mem_cons_of_mem _ (List.mem_cons_of_mem _ (List.mem_cons_of_mem _ List.mem_cons_self)))))))))
  have r0 : 0 ≤ a0 := hr _ List.mem_cons_self
  have r1 : 0 ≤ a3 := hr _ (List.mem_cons_of_mem _ List.mem_cons_self)
  have r2 : 0 ≤ a3 := hr _ (List.mem_cons_of_mem _ (List.mem_cons_of_mem _ List.mem_cons_self))
  have r3 : 0 ≤ a3 := hr _ (List.mem_cons_of_mem _ (List.mem_cons_of_mem _ (List.mem_cons_of_mem _ List.mem_cons_self)))
  have r4 : 0 ≤ a1 := hr _ (List.mem_cons_of_mem _ (List.mem_cons_of_mem _ (List.mem_cons_of_mem _ (List.mem_cons_of_mem _ List.mem_cons_self))))
  have r5 : 0 ≤ a1 := hr _ (List.mem_cons_of_mem _ (List.mem_cons_of_mem _ (List.mem_cons_of_mem _ (List.mem_cons_of_mem _ (List.mem_cons_of_mem _ List.mem_cons_self)))))
  have r6 : 0 ≤ a1 := hr _ (List.mem_cons_of_mem _ (List.mem_cons_of_mem _ (List.mem_cons_of_mem _ (List.mem_cons_of_mem _ (List.mem_cons_of_mem _ (List.mem_cons_of_mem _ List.mem_cons_self))))))
  have r7 : 0 ≤ a1 := hr _ (List.mem_cons_of_mem _ (List.mem_cons_of_mem _ (List.mem_cons_of_mem _ (List.mem_cons_of_mem _ (List.mem_cons_of_mem _ (List.mem_cons_of_mem _ (List.mem_cons_of_mem _ List.mem_cons_self)))))))
  have r8 : 0 ≤ a4 := hr _ (List.mem_cons_of_mem _ (List.mem_cons_of_mem _ (List.mem_cons_of_mem _ (List.mem_cons_of_mem _ (List.mem_cons_of_mem _ (List.mem_cons_of_mem _ (List.mem_cons_of_mem _ (List.mem_cons_of_mem _ List.mem_cons_self))))))))
  have hd := (zfy_193 (w := w) (j := a0) (t := a1) (u := a2) (n := a3) (by omega) (by omega) (by omega) (by omega) (by omega) (by omega) (by omega) ).mp (by omega)
  have hS := zfy_Sw (w := w) (n := a3) (by omega) (by omega) (by omega) (by omega) (by omega) 
  have kW : zh_e w 208 (a1) = zk_xe w 208 (a1) := by rw [zk_xe_r (i := 208) (by decide)]; rfl
  have kB : zh_e w 210 (a1) = zk_xe w 210 (a1) := by rw [zk_xe_r (i := 210) (by decide)]; rfl
  have kC : zh_e w 211 (a1) = zk_xe w 211 (a1) := by rw [zk_xe_r (i := 211) (by decide)]; rfl
  have kE : zh_e w 212 (a1) = zk_xe w 212 (a1) := by rw [zk_xe_r (i := 212) (by decide)]; rfl
  have kH : zh_e w 327 (10 * (a2 - 1) + zk_xe w 211 a1) = zk_xe w 327 (a4) := by rw [zk_xe_r (i := 327) (by decide)]; show zk_el w 327 (10 * (a2 - 1) + zk_xe w 211 a1) = zk_el w 327 (a4); rw [show 10 * (a2 - 1) + zk_xe w 211 a1 = a4 by omega]
  have h := zfy_t2 hd hS (by rw [kW]; omega) (by rw [kC, kH]; omega) (fun _ => by rw [kC, kH, kE]; omega) (fun q => by rw [kB] at q; omega)
  exact ⟨_, List.mem_cons_self, [], rfl, zx_bnil, zx_cs0, (zx_eF1 (by show 0 ≤ (0 : Int) + (1 * a5 + 0); omega) (by show zk_xe w 2000193 ((0 : Int) + (1 * a5 + 0)) = (1 : Int) + (0); rw [show (0 : Int) + (1 * a5 + 0) = a5 by omega]; exact ((zfy_193 (w := w) (j := a5) (t := (a1 + 1)) (u := a2) (n := a3) (by omega) (by omega) (by omega) (by omega) (by omega) (by omega) (by omega) ).mpr h).trans (by omega)) zx_eF0), zx_k0⟩
def zx_D1259 : zx_L := zx_Lc [] 9 [(2000193, 0), (2000192, 3), (2000176, 3), (2000190, 3), (208, 1), (209, 1), (210, 1), (211, 1), (327, 6), (2000189, 5), (216, 8)] [] [((0, 0), [(0, 1, 0), (1, 0, 1), (2, 0, 4294967296), (3, 0, 18446744073709551616)]), ((0, 1), [(9, 1, 0)]), ((0, 1), [(10, 1, 0)]), ((0, 1), [(11, 1, 0)]), ((0, 1), [(12, 1, 0)]), ((0, 0), [(3, 0, 18446744073709551616), (4, 0, 1), (5, 1, 0), (14, 0, 4294967296)]), ((10, 0), [(2, 0, 10), (6, 1, 0), (16, 0, 1)]), ((0, 6), [(13, 1, 0)]), ((0, 1), [(1, 0, 1), (2, 0, 4294967296), (3, 0, 18446744073709551616), (7, 1, 0)]), ((0, 0), [(8, 1, 0), (18, 0, 1)])] [((0, 0), [(1, 1, 0)]), ((4294967276, 0), [(1, 0, 1)]), ((0, 0), [(2, 1, 0)]), ((4294967276, 0), [(2, 0, 1)]), ((0, 0), [(3, 1, 0)]), ((4294967276, 0), [(3, 0, 1)]), ((0, 0), [(1, 1, 0), (4, 0, 8000)]), ((7999, 0), [(1, 0, 1), (4, 8000, 0)]), ((0, 0), [(4, 1, 0)]), ((0, 0), [(14, 1, 0)]), ((65535, 0), [(14, 0, 1)]), ((0, 1), [(15, 0, 1)]), ((0, 0), [(17, 1, 0)]), ((0, 1), [(17, 0, 1), (19, 1, 0)]), ((0, 0), [(6, 1, 0)]), ((0, 0), [(8, 1, 0)])] [([], [], [(2000193, ((0, 0), [(7, 1, 0)]), ((1, 0), []))], [])]
theorem zx_D1259_ok {PT : Nat → zz_W → Prop} : zx_Lok 64 zHT PT zx_D1259 := by
  refine zx_Lc_ok (fun w hI hK ins hl hr he hg => ?_)
  obtain ⟨a0, a1, a2, a3, a4, a5, a6, a7, a8, rfl⟩ := zx_i9 hl
  have e0 : (0 : Int) + (1 * a0 + ((-1) * a1 + ((-4294967296) * a2 + ((-18446744073709551616) * a3 + 0)))) = 0 := he _ List.mem_cons_self
  have e1 : ((-1) : Int) + (1 * (zk_xe w 2000193 a0) + 0) = 0 := he _ (List.mem_cons_of_mem _ List.mem_cons_self)
  have e2 : ((-1) : Int) + (1 * (zk_xe w 2000192 a3) + 0) = 0 := he _ (List.mem_cons_of_mem _ (List.mem_cons_of_mem _ List.mem_cons_self))
  have e3 : ((-1) : Int) + (1 * (zk_xe w 2000176 a3) + 0) = 0 := he _ (List.mem_cons_of_mem _ (List.mem_cons_of_mem _ (List.mem_cons_of_mem _ List.mem_cons_self)))
  have e4 : ((-1) : Int) + (1 * (zk_xe w 2000190 a3) + 0) = 0 := he _ (List.mem_cons_of_mem _ (List.mem_cons_of_mem _ (List.mem_cons_of_mem _ (List.mem_cons_of_mem _ List.mem_cons_self))))
  have e5 : (0 : Int) + ((-18446744073709551616) * a3 + ((-1) * a4 + (1 * a5 + ((-4294967296) * (zk_xe w 209 a1) + 0)))) = 0 := he _ (List.mem_cons_of_mem _ (List.mem_cons_of_mem _ (List.mem_cons_of_mem _ (List.mem_cons_of_mem _ (List.mem_cons_of_mem _ List.mem_cons_self)))))
  have e6 : (10 : Int) + ((-10) * a2 + (1 * a6 + ((-1) * (zk_xe w 211 a1) + 0))) = 0 := he _ (List.mem_cons_of_mem _ (List.mem_cons_of_mem _ (List.mem_cons_of_mem _ (List.mem_cons_of_mem _ (List.mem_cons_of_mem _ (List.mem_cons_of_mem _ List.mem_cons_self))))))
  have e7 : ((-6) : Int) + (1 * (zk_xe w 208 a1) + 0) = 0 := he _ (List.mem_cons_of_mem _ (List.mem_cons_of_mem _ (List.mem_cons_of_mem _ (List.mem_cons_of_mem _ (List.mem_cons_of_mem _ (List.mem_cons_of_mem _ (List.mem_cons_of_mem _ List.mem_cons_self)))))))
  have e8 : ((-1) : Int) + ((-1) * a1 + ((-4294967296) * a2 + ((-18446744073709551616) * a3 + (1 * a7 + 0)))) = 0 := he _ (List.mem_cons_of_mem _ (List.mem_cons_of_mem _ (List.mem_cons_of_mem _ (List.mem_cons_of_mem _ (List.mem_cons_of_mem _ (List.mem_cons_of_mem _ (List.mem_cons_of_mem _ (List.mem_cons_of_mem _ List.mem_cons_self))))))))
  have e9 : (0 : Int) + (1 * a8 + ((-1) * (zk_xe w 2000189 a5) + 0)) = 0 := he _ (List.mem_cons_of_mem _ (List.mem_cons_of_mem _ (List.mem_cons_of_mem _ (List.mem_cons_of_mem _ (List.mem_cons_of_mem _ (List.mem_cons_of_mem _ (List.mem_cons_of_mem _ (List.mem_cons_of_mem _ (List.mem_cons_of_mem _ List.mem_cons_self)))))))))
  have g0 : 0 ≤ (0 : Int) + (1 * a1 + 0) := hg _ List.mem_cons_self
  have g1 : 0 ≤ (4294967276 : Int) + ((-1) * a1 + 0) := hg _ (List.mem_cons_of_mem _ List.mem_cons_self)
  have g2 : 0 ≤ (0 : Int) + (1 * a2 + 0) := hg _ (List.mem_cons_of_mem _ (List.mem_cons_of_mem _ List.mem_cons_self))
  have g3 : 0 ≤ (4294967276 : Int) + ((-1) * a2 + 0) := hg _ (List.mem_cons_of_mem _ (List.mem_cons_of_mem _ (List.mem_cons_of_mem _ List.mem_cons_self)))
  have g4 : 0 ≤ (0 : Int) + (1 * a3 + 0) := hg _ (List.mem_cons_of_mem _ (List.mem_cons_of_mem _ (List.mem_cons_of_mem _ (List.mem_cons_of_mem _ List.mem_cons_self))))
  have g5 : 0 ≤ (4294967276 : Int) + ((-1) * a3 + 0) := hg _ (List.mem_cons_of_mem _ (List.mem_cons_of_mem _ (List.mem_cons_of_mem _ (List.mem_cons_of_mem _ (List.mem_cons_of_mem _ List.mem_cons_self)))))
  have g6 : 0 ≤ (0 : Int) + (1 * a1 + ((-8000) * a4 + 0)) := hg _ (List.mem_cons_of_mem _ (List.mem_cons_of_mem _ (List.mem_cons_of_mem _ (List.mem_cons_of_mem _ (List.mem_cons_of_mem _ (List.mem_cons_of_mem _ List.mem_cons_self))))))
  have g7 : 0 ≤ (7999 : Int) + ((-1) * a1 + (8000 * a4 + 0)) := hg _ (List.mem_cons_of_mem _ (List.mem_cons_of_mem _ (List.mem_cons_of_mem _ (List.mem_cons_of_mem _ (List.mem_cons_of_mem _ (List.mem_cons_of_mem _ (List.mem_cons_of_mem _ List.mem_cons_self)))))))
  have g8 : 0 ≤ (0 : Int) + (1 * a4 + 0) := hg _ (List.mem_cons_of_mem _ (List.mem_cons_of_mem _ (List.mem_cons_of_mem _ (List.mem_cons_of_mem _ (List.mem_cons_of_mem _ (List.mem_cons_of_mem _ (List.mem_cons_of_mem _ (List.mem_cons_of_mem _ List.mem_cons_self))))))))
  have g9 : 0 ≤ (0 : Int) + (1 * (zk_xe w 209 a1) + 0) := hg _ (List.mem_cons_of_mem _ (List.mem_cons_of_mem _ (List.mem_cons_of_mem _ (List.mem_cons_of_mem _ (List.mem_cons_of_mem _ (List.mem_cons_of_mem _ (List.mem_cons_of_mem _ (List.mem_cons_of_mem _ (List.mem_cons_of_mem _ List.mem_cons_self)))))))))
  have g10 : 0 ≤ (65535 : Int) + ((-1) * (zk_xe w 209 a1) + 0) := hg _ (List.mem_cons_of_mem _ (List.mem_cons_of_mem _ (List.mem_cons_of_mem _ (List.mem_cons_of_mem _ (List.mem_cons_of_mem _ (List.mem_cons_of_mem _ (List.mem_cons_of_mem _ (List.mem_cons_of_mem _ (List.mem_cons_of_mem _ (List.mem_cons_of_mem _ List.mem_cons_self))))))))))
  have g11 : 0 ≤ ((-1) : Int) + ((-1) * (zk_xe w 210 a1) + 0) := hg _ (List.mem_cons_of_mem _ (List.mem_cons_of_mem _ (List.mem_cons_of_mem _ (List.mem_cons_of_mem _ (List.mem_cons_of_mem _ (List.mem_cons_of_mem _ (List.mem_cons_of_mem _ (List.mem_cons_of_mem _ (List.mem_cons_of_mem _ (List.mem_cons_of_mem _ (List.mem_cons_of_mem _ List.mem_cons_self)))))))))))
  have g12 : 0 ≤ (0 : Int) + (1 * (zk_xe w 327 a6) + 0) := hg _ (List.mem_cons_of_mem _ (List.mem_cons_of_mem _ (List.mem_cons_of_mem _ (List.mem_cons_of_mem _ (List.mem_cons_of_mem _ (List.mem_cons_of_mem _ (List.mem_cons_of_mem _ (List.mem_cons_of_mem _ (List.mem_cons_of_mem _ (List.mem_cons_of_mem _ (List.mem_cons_of_mem _ (List.mem_cons_of_mem _ List.mem_cons_self))))))))))))
  have g13 : 0 ≤ ((-1) : Int) + ((-1) * (zk_xe w 327 a6) + (1 * (zk_xe w 216 a8) + 0)) := hg _ (List.mem_cons_of_mem _ (List.mem_cons_of_mem _ (List.mem_cons_of_mem _ (List.mem_cons_of_mem _ (List.mem_cons_of_mem _ (List.mem_cons_of_mem _ (List.mem_cons_of_mem _ (List.mem_cons_of_mem _ (List.mem_cons_of_mem _ (List.mem_cons_of_mem _ (List.mem_cons_of_mem _ (List.mem_cons_of_mem _ (List.mem_cons_of_mem _ List.mem_cons_self)))))))))))))
  have g14 : 0 ≤ (0 : Int) + (1 * a6 + 0) := hg _ (List.mem_cons_of_mem _ (List.mem_cons_of_mem _ (List.mem_cons_of_mem _ (List.mem_cons_of_mem _ (List.mem_cons_of_mem _ (List.mem_cons_of_mem _ (List.mem_cons_of_mem _ (List.mem_cons_of_mem _ (List.mem_cons_of_mem _ (List.mem_cons_of_mem _ (List.mem_cons_of_mem _ (List.mem_cons_of_mem _ (List.mem_cons_of_mem _ (List.mem_cons_of_mem _ List.mem_cons_self))))))))))))))
  have g15 : 0 ≤ (0 : Int) + (1 * a8 + 0) := hg _ (List.mem_cons_of_mem _ (List.mem_cons_of_mem _ (List.mem_cons_of_mem _ (List.mem_cons_of_mem _ (List.mem_cons_of_mem _ (List.mem_cons_of_mem _ (List.mem_cons_of_mem _ (List.mem_cons_of_mem _ (List.mem_cons_of_mem _ (List.mem_cons_of_mem _ (List.mem_cons_of_mem _ (List.mem_cons_of_mem _ (List.mem_cons_of_mem _ (List.mem_cons_of_mem _ (List.mem_cons_of_mem _ List.mem_cons_self)))))))))))))))
  have r0 : 0 ≤ a0 := hr _ List.mem_cons_self
  have r1 : 0 ≤ a3 := hr _ (List.mem_cons_of_mem _ List.mem_cons_self)
  have r2 : 0 ≤ a3 := hr _ (List.mem_cons_of_mem _ (List.mem_cons_of_mem _ List.mem_cons_self))
  have r3 : 0 ≤ a3 := hr _ (List.mem_cons_of_mem _ (List.mem_cons_of_mem _ (List.mem_cons_of_mem _ List.mem_cons_self)))
  have r4 : 0 ≤ a1 := hr _ (List.mem_cons_of_mem _ (List.mem_cons_of_mem _ (List.mem_cons_of_mem _ (List.mem_cons_of_mem _ List.mem_cons_self))))
  have r5 : 0 ≤ a1 := hr _ (List.mem_cons_of_mem _ (List.mem_cons_of_mem _ (List.mem_cons_of_mem _ (List.mem_cons_of_mem _ (List.mem_cons_of_mem _ List.mem_cons_self)))))
  have r6 : 0 ≤ a1 := hr _ (List.mem_cons_of_mem _ (List.mem_cons_of_mem _ (List.mem_cons_of_mem _ (List.mem_cons_of_mem _ (List.mem_cons_of_mem _ (List.mem_cons_of_mem _ List.mem_cons_self))))))
  have r7 : 0 ≤ a1 := hr _ (List.mem_cons_of_mem _ (List.mem_cons_of_mem _ (List.mem_cons_of_mem _ (List.mem_cons_of_mem _ (List.mem_cons_of_mem _ (List.mem_cons_of_mem _ (List.mem_cons_of_mem _ List.mem_cons_self)))))))
  have r8 : 0 ≤ a6 := hr _ (List.mem_cons_of_mem _ (List.mem_cons_of_mem _ (List.mem_cons_of_mem _ (List.mem_cons_of_mem _ (List.mem_cons_of_mem _ (List.mem_cons_of_mem _ (List.mem_cons_of_mem _ (List.mem_cons_of_mem _ List.mem_cons_self))))))))
  have r9 : 0 ≤ a5 := hr _ (List.mem_cons_of_mem _ (List.mem_cons_of_mem _ (List.mem_cons_of_mem _ (List.mem_cons_of_mem _ (List.mem_cons_of_mem _ (List.mem_cons_of_mem _ (List.mem_cons_of_mem _ (List.mem_cons_of_mem _ (List.mem_cons_of_mem _ List.mem_cons_self)))))))))
  have r10 : 0 ≤ a8 := hr _ (List.mem_cons_of_mem _ (List.mem_cons_of_mem _ (List.mem_cons_of_mem _ (List.mem_cons_of_mem _ (List.mem_cons_of_mem _ (List.mem_cons_of_mem _ (List.mem_cons_of_mem _ (List.mem_cons_of_mem _ (List.mem_cons_of_mem _ (List.mem_cons_of_mem _ List.mem_cons_self))))))))))
  have hd := (zfy_193 (w := w) (j := a0) (t := a1) (u := a2) (n := a3) (by omega) (by omega) (by omega) (by omega) (by omega) (by omega) (by omega) ).mp (by omega)
  have hS := zfy_Sw (w := w) (n := a3) (by omega) (by omega) (by omega) (by omega) (by omega) 
  have kW : zh_e w 208 (a1) = zk_xe w 208 (a1) := by rw [zk_xe_r (i := 208) (by decide)]; rfl
  have kA : zh_e w 209 (a1) = zk_xe w 209 (a1) := by rw [zk_xe_r (i := 209) (by decide)]; rfl
  have kB : zh_e w 210 (a1) = zk_xe w 210 (a1) := by rw [zk_xe_r (i := 210) (by decide)]; rfl
  have kC : zh_e w 211 (a1) = zk_xe w 211 (a1) := by rw [zk_xe_r (i := 211) (by decide)]; rfl
  have kH : zh_e w 327 (10 * (a2 - 1) + zk_xe w 211 a1) = zk_xe w 327 (a6) := by rw [zk_xe_r (i := 327) (by decide)]; show zk_el w 327 (10 * (a2 - 1) + zk_xe w 211 a1) = zk_el w 327 (a6); rw [show 10 * (a2 - 1) + zk_xe w 211 a1 = a6 by omega]
  have e : a1 / 8000 = a4 := by omega
  have hD := (zfo_189 (w := w) (j := a5) (u := a4) (x := (zk_xe w 209 a1)) (n := a3) (by omega) (by omega) (by omega) (by omega) (by omega) (by omega) (by omega) )
  have kZ : zh_e w 216 (a8) = zk_xe w 216 (a8) := by rw [zk_xe_r (i := 216) (by decide)]; rfl
  have h := zfy_t2 hd hS (by rw [kW]; omega) (by rw [kC, kH]; omega) (fun q => by rw [kB] at q; omega) (fun _ => by rw [kC, kH, e, kA, ← hD, show zk_xe w 2000189 a5 = a8 by omega, kZ]; omega)
  exact ⟨_, List.mem_cons_self, [], rfl, zx_bnil, zx_cs0, (zx_eF1 (by show 0 ≤ (0 : Int) + (1 * a7 + 0); omega) (by show zk_xe w 2000193 ((0 : Int) + (1 * a7 + 0)) = (1 : Int) + (0); rw [show (0 : Int) + (1 * a7 + 0) = a7 by omega]; exact ((zfy_193 (w := w) (j := a7) (t := (a1 + 1)) (u := a2) (n := a3) (by omega) (by omega) (by omega) (by omega) (by omega) (by omega) (by omega) ).mpr h).trans (by omega)) zx_eF0), zx_k0⟩
def zx_D1260 : zx_L := zx_Lc [] 5 [(2000193, 0), (2000192, 3), (2000176, 3), (2000190, 3), (208, 1)] [] [((0, 0), [(0, 1, 0), (1, 0, 1), (2, 0, 4294967296), (3, 0, 18446744073709551616)]), ((0, 1), [(5, 1, 0)]), ((0, 1), [(6, 1, 0)]), ((0, 1), [(7, 1, 0)]), ((0, 1), [(8, 1, 0)]), ((0, 1), [(1, 0, 1), (2, 0, 4294967296), (3, 0, 18446744073709551616), (4, 1, 0)])] [((0, 0), [(1, 1, 0)]), ((4294967276, 0), [(1, 0, 1)]), ((0, 0), [(2, 1, 0)]), ((4294967276, 0), [(2, 0, 1)]), ((0, 0), [(3, 1, 0)]), ((4294967276, 0), [(3, 0, 1)]), ((0, 11), [(9, 1, 0)])] [([], [], [(2000193, ((0, 0), [(4, 1, 0)]), ((1, 0), []))], [])]
theorem zx_D1260_ok {PT : Nat → zz_W → Prop} : zx_Lok 64 zHT PT zx_D1260 := by
  refine zx_Lc_ok (fun w hI hK ins hl hr he hg => ?_)
  obtain ⟨a0, a1, a2, a3, a4, rfl⟩ := zx_i5 hl
  have e0 : (0 : Int) + (1 * a0 + ((-1) * a1 + ((-4294967296) * a2 + ((-18446744073709551616) * a3 + 0)))) = 0 := he _ List.mem_cons_self
  have e1 : ((-1) : Int) + (1 * (zk_xe w 2000193 a0) + 0) = 0 := he _ (List.mem_cons_of_mem _ List.mem_cons_self)
  have e2 : ((-1) : Int) + (1 * (zk_xe w 2000192 a3) + 0) = 0 := he _ (List.mem_cons_of_mem _ (List.mem_cons_of_mem _ List.mem_cons_self))
  have e3 : ((-1) : Int) + (1 * (zk_xe w 2000176 a3) + 0) = 0 := he _ (List.mem_cons_of_mem _ (List.mem_cons_of_mem _ (List.mem_cons_of_mem _ List.mem_cons_self)))
  have e4 : ((-1) : Int) + (1 * (zk_xe w 2000190 a3) + 0) = 0 := he _ (List.mem_cons_of_mem _ (List.mem_cons_of_mem _ (List.mem_cons_of_mem _ (List.mem_cons_of_mem _ List.mem_cons_self))))
  have e5 : ((-1) : Int) + ((-1) * a1 + ((-4294967296) * a2 + ((-18446744073709551616) * a3 + (1 * a4 + 0)))) = 0 := he _ (List.mem_cons_of_mem _ (List.mem_cons_of_mem _ (List.mem_cons_of_mem _ (List.mem_cons_of_mem _ (List.mem_cons_of_mem _ List.mem_cons_self)))))
  have g0 : 0 ≤ (0 : Int) + (1 * a1 + 0) := hg _ List.mem_cons_self
  have g1 : 0 ≤ (4294967276 : Int) + ((-1) * a1 + 0) := hg _ (List.mem_cons_of_mem _ List.mem_cons_self)
  have g2 : 0 ≤ (0 : Int) + (1 * a2 + 0) := hg _ (List.mem_cons_of_mem _ (List.mem_cons_of_mem _ List.mem_cons_self))
  have g3 : 0 ≤ (4294967276 : Int) + ((-1) * a2 + 0) := hg _ (List.mem_cons_of_mem _ (List.mem_cons_of_mem _ (List.mem_cons_of_mem _ List.mem_cons_self)))
  have g4 : 0 ≤ (0 : Int) + (1 * a3 + 0) := hg _ (List.mem_cons_of_mem _ (List.mem_cons_of_mem _ (List.mem_cons_of_mem _ (List.mem_cons_of_mem _ List.mem_cons_self))))
  have g5 : 0 ≤ (4294967276 : Int) + ((-1) * a3 + 0) := hg _ (List.mem_cons_of_mem _ (List.mem_cons_of_mem _ (List.mem_cons_of_mem _ (List.mem_cons_of_mem _ (List.mem_cons_of_mem _ List.mem_cons_self)))))
  have g6 : 0 ≤ ((-11) : Int) + (1 * (zk_xe w 208 a1) + 0) := hg _ (List.mem_cons_of_mem _ (List.mem_cons_of_mem _ (List.mem_cons_of_mem _ (List.mem_cons_of_mem _ (List.mem_cons_of_mem _ (List.mem_cons_of_mem _ List.mem_cons_self))))))
  have r0 : 0 ≤ a0 := hr _ List.mem_cons_self
  have r1 : 0 ≤ a3 := hr _ (List.mem_cons_of_mem _ List.mem_cons_self)
  have r2 : 0 ≤ a3 := hr _ (List.mem_cons_of_mem _ (List.mem_cons_of_mem _ List.mem_cons_self))
  have r3 : 0 ≤ a3 := hr _ (List.mem_cons_of_mem _ (List.mem_cons_of_mem _ (List.mem_cons_of_mem _ List.mem_cons_self)))
  have r4 : 0 ≤ a1 := hr _ (List.mem_cons_of_mem _ (List.mem_cons_of_mem _ (List.mem_cons_of_mem _ (List.mem_cons_of_mem _ List.mem_cons_self))))
  have hd := (zfy_193 (w := w) (j := a0) (t := a1) (u := a2) (n := a3) (by omega) (by omega) (by omega) (by omega) (by omega) (by omega) (by omega) ).mp (by omega)
  have hS := zfy_Sw (w := w) (n := a3) (by omega) (by omega) (by omega) (by omega) (by omega) 
  have kW : zh_e w 208 (a1) = zk_xe w 208 (a1) := by rw [zk_xe_r (i := 208) (by decide)]; rfl
  have h := zfy_t3 hd hS (by rw [kW]; omega) (by rw [kW]; omega)
  exact ⟨_, List.mem_cons_self, [], rfl, zx_bnil, zx_cs0, (zx_eF1 (by show 0 ≤ (0 : Int) + (1 * a4 + 0); omega) (by show zk_xe w 2000193 ((0 : Int) + (1 * a4 + 0)) = (1 : Int) + (0); rw [show (0 : Int) + (1 * a4 + 0) = a4 by omega]; exact ((zfy_193 (w := w) (j := a4) (t := (a1 + 1)) (u := a2) (n := a3) (by omega) (by omega) (by omega) (by omega) (by omega) (by omega) (by omega) ).mpr h).trans (by omega)) zx_eF0), zx_k0⟩
def zx_D1261 : zx_L := zx_Lc [] 5 [(2000193, 0), (2000192, 3), (2000176, 3), (2000190, 3), (208, 1)] [] [((0, 0), [(0, 1, 0), (1, 0, 1), (2, 0, 4294967296), (3, 0, 18446744073709551616)]), ((0, 1), [(5, 1, 0)]), ((0, 1), [(6, 1, 0)]), ((0, 1), [(7, 1, 0)]), ((0, 1), [(8, 1, 0)]), ((0, 1), [(1, 0, 1), (2, 0, 4294967296), (3, 0, 18446744073709551616), (4, 1, 0)])] [((0, 0), [(1, 1, 0)]), ((4294967276, 0), [(1, 0, 1)]), ((0, 0), [(2, 1, 0)]), ((4294967276, 0), [(2, 0, 1)]), ((0, 0), [(3, 1, 0)]), ((4294967276, 0), [(3, 0, 1)]), ((0, 2), [(9, 1, 0)]), ((2, 0), [(9, 0, 1)])] [([], [], [(2000193, ((0, 0), [(4, 1, 0)]), ((1, 0), []))], [])]
theorem zx_D1261_ok {PT : Nat → zz_W → Prop} : zx_Lok 64 zHT PT zx_D1261 := by
  refine zx_Lc_ok (fun w hI hK ins hl hr he hg => ?_)
  obtain ⟨a0, a1, a2, a3, a4, rfl⟩ := zx_i5 hl
  have e0 : (0 : Int) + (1 * a0 + ((-1) * a1 + ((-4294967296) * a2 + ((-18446744073709551616) * a3 + 0)))) = 0 := he _ List.mem_cons_self
  have e1 : ((-1) : Int) + (1 * (zk_xe w 2000193 a0) + 0) = 0 := he _ (List.mem_cons_of_mem _ List.mem_cons_self)
  have e2 : ((-1) : Int) + (1 * (zk_xe w 2000192 a3) + 0) = 0 := he _ (List.mem_cons_of_mem _ (List.mem_cons_of_mem _ List.mem_cons_self))
  have e3 : ((-1) : Int) + (1 * (zk_xe w 2000176 a3) + 0) = 0 := he _ (List.mem_cons_of_mem _ (List.mem_cons_of_mem _ (List.mem_cons_of_mem _ List.mem_cons_self)))
  have e4 : ((-1) : Int) + (1 * (zk_xe w 2000190 a3) + 0) = 0 := he _ (List.mem_cons_of_mem _ (List.mem_cons_of_mem _ (List.mem_cons_of_mem _ (List.mem_cons_of_mem _ List.mem_cons_self))))
  have e5 : ((-1) : Int) + ((-1) * a1 + ((-4294967296) * a2 + ((-18446744073709551616) * a3 + (1 * a4 + 0)))) = 0 := he _ (List.mem_cons_of_mem _ (List.mem_cons_of_mem _ (List.mem_cons_of_mem _ (List.mem_cons_of_mem _ (List.mem_cons_of_mem _ List.mem_cons_self)))))
  have g0 : 0 ≤ (0 : Int) + (1 * a1 + 0) := hg _ List.mem_cons_self
  have g1 : 0 ≤ (4294967276 : Int) + ((-1) * a1 + 0) := hg _ (List.mem_cons_of_mem _ List.mem_cons_self)
  have g2 : 0 ≤ (0 : Int) + (1 * a2 + 0) := hg _ (List.mem_cons_of_mem _ (List.mem_cons_of_mem _ List.mem_cons_self))
  have g3 : 0 ≤ (4294967276 : Int) + ((-1) * a2 + 0) := hg _ (List.mem_cons_of_mem _ (List.mem_cons_of_mem _ (List.mem_cons_of_mem _ List.mem_cons_self)))
  have g4 : 0 ≤ (0 : Int) + (1 * a3 + 0) := hg _ (List.mem_cons_of_mem _ (List.mem_cons_of_mem _ (List.mem_cons_of_mem _ (List.mem_cons_of_mem _ List.mem_cons_self))))
  have g5 : 0 ≤ (4294967276 : Int) + ((-1) * a3 + 0) := hg _ (List.mem_cons_of_mem _ (List.mem_cons_of_mem _ (List.mem_cons_of_mem _ (List.mem_cons_of_mem _ (List.mem_cons_of_mem _ List.mem_cons_self)))))
  have g6 : 0 ≤ ((-2) : Int) + (1 * (zk_xe w 208 a1) + 0) := hg _ (List.mem_cons_of_mem _ (List.mem_cons_of_mem _ (List.mem_cons_of_mem _ (List.mem_cons_of_mem _ (List.mem_cons_of_mem _ (List.mem_cons_of_mem _ List.mem_cons_self))))))
  have g7 : 0 ≤ (2 : Int) + ((-1) * (zk_xe w 208 a1) + 0) := hg _ (List.mem_cons_of_mem _ (List.mem_cons_of_mem _ (List.mem_cons_of_mem _ (List.mem_cons_of_mem _ (List.mem_cons_of_mem _ (List.mem_cons_of_mem _ (List.mem_cons_of_mem _ List.mem_cons_self)))))))
  have r0 : 0 ≤ a0 := hr _ List.mem_cons_self
  have r1 : 0 ≤ a3 := hr _ (List.mem_cons_of_mem _ List.mem_cons_self)
  have r2 : 0 ≤ a3 := hr _ (List.mem_cons_of_mem _ (List.mem_cons_of_mem _ List.mem_cons_self))
  have r3 : 0 ≤ a3 := hr _ (List.mem_cons_of_mem _ (List.mem_cons_of_mem _ (List.mem_cons_of_mem _ List.mem_cons_self)))
  have r4 : 0 ≤ a1 := hr _ (List.mem_cons_of_mem _ (List.mem_cons_of_mem _ (List.mem_cons_of_mem _ (List.mem_cons_of_mem _ List.mem_cons_self))))
  have hd := (zfy_193 (w := w) (j := a0) (t := a1) (u := a2) (n := a3) (by omega) (by omega) (by omega) (by omega) (by omega) (by omega) (by omega) ).mp (by omega)
  have hS := zfy_Sw (w := w) (n := a3) (by omega) (by omega) (by omega) (by omega) (by omega) 
  have kW : zh_e w 208 (a1) = zk_xe w 208 (a1) := by rw [zk_xe_r (i := 208) (by decide)]; rfl
  have h := zfy_t3 hd hS (by rw [kW]; omega) (by rw [kW]; omega)
  exact ⟨_, List.mem_cons_self, [], rfl, zx_bnil, zx_cs0, (zx_eF1 (by show 0 ≤ (0 : Int) + (1 * a4 + 0); omega) (by show zk_xe w 2000193 ((0 : Int) + (1 * a4 + 0)) = (1 : Int) + (0); rw [show (0 : Int) + (1 * a4 + 0) = a4 by omega]; exact ((zfy_193 (w := w) (j := a4) (t := (a1 + 1)) (u := a2) (n := a3) (by omega) (by omega) (by omega) (by omega) (by omega) (by omega) (by omega) ).mpr h).trans (by omega)) zx_eF0), zx_k0⟩
def zx_D1262 : zx_L := zx_Lc [] 9 [(2000193, 0), (2000192, 3), (2000176, 3), (2000190, 3), (208, 1), (2000186, 3), (323, 1), (2000194, 5)] [] [((0, 0), [(0, 1, 0), (1, 0, 1), (2, 0, 4294967296), (3, 0, 18446744073709551616)]), ((0, 1), [(9, 1, 0)]), ((0, 1), [(10, 1, 0)]), ((0, 1), [(11, 1, 0)]), ((0, 1), [(12, 1, 0)]), ((0, 1), [(14, 1, 0)]), ((0, 0), [(1, 0, 4294967296), (2, 0, 18446744073709551616), (5, 1, 0), (6, 0, 1)]), ((0, 0), [(2, 0, 4294967296), (3, 0, 18446744073709551616), (7, 1, 0), (15, 0, 1)]), ((0, 0), [(2, 0, 18446744073709551616), (6, 0, 1), (8, 1, 0), (15, 0, 4294967296)])] [((0, 0), [(1, 1, 0)]), ((4294967276, 0), [(1, 0, 1)]), ((0, 0), [(2, 1, 0)]), ((4294967276, 0), [(2, 0, 1)]), ((0, 0), [(3, 1, 0)]), ((4294967276, 0), [(3, 0, 1)]), ((0, 0), [(1, 1, 0), (4, 0, 8000)]), ((7999, 0), [(1, 0, 1), (4, 8000, 0)]), ((0, 13), [(13, 1, 0)]), ((14, 0), [(13, 0, 1)]), ((0, 0), [(4, 1, 0)]), ((0, 0), [(6, 1, 0)]), ((20000, 0), [(6, 0, 1)]), ((0, 1), [(2, 1, 0)]), ((40, 0), [(2, 0, 1)]), ((6, 0), [(3, 0, 1)]), ((0, 0), [(15, 1, 0)]), ((48000, 0), [(15, 0, 1)])] [([(0, 53440958017832439646564561705196222029239164018978106920627711233511540207954304837050194421751320395096651610017378962363547943883968071894101874391252481320004)], [((0, 1), [(16, 1, 0), (17, 0, 1)]), ((47999, 0), [(15, 0, 1)])], [(2000193, ((0, 0), [(7, 1, 0)]), ((1, 0), [])), (2000194, ((0, 0), [(8, 1, 0)]), ((0, 0), [(17, 1, 0)]))], [])]
theorem zx_D1262_ok {PT : Nat → zz_W → Prop} : zx_Lok 64 zHT PT zx_D1262 := by
  refine zx_Lc_ok (fun w hI hK ins hl hr he hg => ?_)
  obtain ⟨a0, a1, a2, a3, a4, a5, a6, a7, a8, rfl⟩ := zx_i9 hl
  have e0 : (0 : Int) + (1 * a0 + ((-1) * a1 + ((-4294967296) * a2 + ((-18446744073709551616) * a3 + 0)))) = 0 := he _ List.mem_cons_self
  have e1 : ((-1) : Int) + (1 * (zk_xe w 2000193 a0) + 0) = 0 := he _ (List.mem_cons_of_mem _ List.mem_cons_self)
  have e2 : ((-1) : Int) + (1 * (zk_xe w 2000192 a3) + 0) = 0 := he _ (List.mem_cons_of_mem _ (List.mem_cons_of_mem _ List.mem_cons_self))
  have e3 : ((-1) : Int) + (1 * (zk_xe w 2000176 a3) + 0) = 0 := he _ (List.mem_cons_of_mem _ (List.mem_cons_of_mem _ (List.mem_cons_of_mem _ List.mem_cons_self)))
  have e4 : ((-1) : Int) + (1 * (zk_xe w 2000190 a3) + 0) = 0 := he _ (List.mem_cons_of_mem _ (List.mem_cons_of_mem _ (List.mem_cons_of_mem _ (List.mem_cons_of_mem _ List.mem_cons_self))))
  have e5 : ((-1) : Int) + (1 * (zk_xe w 2000186 a3) + 0) = 0 := he _ (List.mem_cons_of_mem _ (List.mem_cons_of_mem _ (List.mem_cons_of_mem _ (List.mem_cons_of_mem _ (List.mem_cons_of_mem _ List.mem_cons_self)))))
  have e6 : (0 : Int) + ((-4294967296) * a1 + ((-18446744073709551616) * a2 + (1 * a5 + ((-1) * a6 + 0)))) = 0 := he _ (List.mem_cons_of_mem _ (List.mem_cons_of_mem _ (List.mem_cons_of_mem _ (List.mem_cons_of_mem _ (List.mem_cons_of_mem _ (List.mem_cons_of_mem _ List.mem_cons_self))))))
  have e7 : (0 : Int) + ((-4294967296) * a2 + ((-18446744073709551616) * a3 + (1 * a7 + ((-1) * (zk_xe w 323 a1) + 0)))) = 0 := he _ (List.mem_cons_of_mem _ (List.mem_cons_of_mem _ (List.mem_cons_of_mem _ (List.mem_cons_of_mem _ (List.mem_cons_of_mem _ (List.mem_cons_of_mem _ (List.mem_cons_of_mem _ List.mem_cons_self)))))))
  have e8 : (0 : Int) + ((-18446744073709551616) * a2 + ((-1) * a6 + (1 * a8 + ((-4294967296) * (zk_xe w 323 a1) + 0)))) = 0 := he _ (List.mem_cons_of_mem _ (List.mem_cons_of_mem _ (List.mem_cons_of_mem _ (List.mem_cons_of_mem _ (List.mem_cons_of_mem _ (List.mem_cons_of_mem _ (List.mem_cons_of_mem _ (List.mem_cons_of_mem _ List.mem_cons_self))))))))
  have g0 : 0 ≤ (0 : Int) + (1 * a1 + 0) := hg _ List.mem_cons_self
  have g1 : 0 ≤ (4294967276 : Int) + ((-1) * a1 + 0) := hg _ (List.mem_cons_of_mem _ List.mem_cons_self)
  have g2 : 0 ≤ (0 : Int) + (1 * a2 + 0) := hg _ (List.mem_cons_of_mem _ (List.mem_cons_of_mem _ List.mem_cons_self))
  have g3 : 0 ≤ (4294967276 : Int) + ((-1) * a2 + 0) := hg _ (List.mem_cons_of_mem _ (List.mem_cons_of_mem _ (List.mem_cons_of_mem _ List.mem_cons_self)))
  have g4 : 0 ≤ (0 : Int) + (1 * a3 + 0) := hg _ (List.mem_cons_of_mem _ (List.mem_cons_of_mem _ (List.mem_cons_of_mem _ (List.mem_cons_of_mem _ List.mem_cons_self))))
  have g5 : 0 ≤ (4294967276 : Int) + ((-1) * a3 + 0) := hg _ (List.mem_cons_of_mem _ (List.mem_cons_of_mem _ (List.mem_cons_of_mem _ (List.mem_cons_of_mem _ (List.mem_cons_of_mem _ List.mem_cons_self)))))
  have g6 : 0 ≤ (0 : Int) + (1 * a1 + ((-8000) * a4 + 0)) := hg _ (List.mem_cons_of_mem _ (List.mem_cons_of_mem _ (List.mem_cons_of_mem _ (List.mem_cons_of_mem _ (List.mem_cons_of_mem _ (List.mem_cons_of_mem _ List.mem_cons_self))))))
  have g7 : 0 ≤ (7999 : Int) + ((-1) * a1 + (8000 * a4 + 0)) := hg _ (List.mem_cons_of_mem _ (List.mem_cons_of_mem _ (List.mem_cons_of_mem _ (List.mem_cons_of_mem _ (List.mem_cons_of_mem _ (List.mem_cons_of_mem _ (List.mem_cons_of_mem _ List.mem_cons_self)))))))
  have g8 : 0 ≤ ((-13) : Int) + (1 * (zk_xe w 208 a1) + 0) := hg _ (List.mem_cons_of_mem _ (List.mem_cons_of_mem _ (List.mem_cons_of_mem _ (List.mem_cons_of_mem _ (List.mem_cons_of_mem _ (List.mem_cons_of_mem _ (List.mem_cons_of_mem _ (List.mem_cons_of_mem _ List.mem_cons_self))))))))
  have g9 : 0 ≤ (14 : Int) + ((-1) * (zk_xe w 208 a1) + 0) := hg _ (List.mem_cons_of_mem _ (List.mem_cons_of_mem _ (List.mem_cons_of_mem _ (List.mem_cons_of_mem _ (List.mem_cons_of_mem _ (List.mem_cons_of_mem _ (List.mem_cons_of_mem _ (List.mem_cons_of_mem _ (List.mem_cons_of_mem _ List.mem_cons_self)))))))))
  have g10 : 0 ≤ (0 : Int) + (1 * a4 + 0) := hg _ (List.mem_cons_of_mem _ (List.mem_cons_of_mem _ (List.mem_cons_of_mem _ (List.mem_cons_of_mem _ (List.mem_cons_of_mem _ (List.mem_cons_of_mem _ (List.mem_cons_of_mem _ (List.mem_cons_of_mem _ (List.mem_cons_of_mem _ (List.mem_cons_of_mem _ List.mem_cons_self))))))))))
  have g11 : 0 ≤ (0 : Int) + (1 * a6 + 0) := hg _ (List.mem_cons_of_mem _ (List.mem_cons_of_mem _ (List.mem_cons_of_mem _ (List.mem_cons_of_mem _ (List.mem_cons_of_mem _ (List.mem_cons_of_mem _ (List.mem_cons_of_mem _ (List.mem_cons_of_mem _ (List.mem_cons_of_mem _ (List.mem_cons_of_mem _ (List.mem_cons_of_mem _ List.mem_cons_self)))))))))))
  have g12 : 0 ≤ (20000 : Int) + ((-1) * a6 + 0) := hg _ (List.mem_cons_of_mem _ (List.mem_cons_of_mem _ (List.mem_cons_of_mem _ (List.mem_cons_of_mem _ (List.mem_cons_of_mem _ (List.mem_cons_of_mem _ (List.mem_cons_of_mem _ (List.mem_cons_of_mem _ (List.mem_cons_of_mem _ (List.mem_cons_of_mem _ (List.mem_cons_of_mem _ (List.mem_cons_of_mem _ List.mem_cons_self))))))))))))
  have g13 : 0 ≤ ((-1) : Int) + (1 * a2 + 0) := hg _ (List.mem_cons_of_mem _ (List.mem_cons_of_mem _ (List.mem_cons_of_mem _ (List.mem_cons_of_mem _ (List.mem_cons_of_mem _ (List.mem_cons_of_mem _ (List.mem_cons_of_mem _ (List.mem_cons_of_mem _ (List.mem_cons_of_mem _ (List.mem_cons_of_mem _ (List.mem_cons_of_mem _ (List.mem_cons_of_mem _ (List.mem_cons_of_mem _ List.mem_cons_self)))))))))))))
  have g14 : 0 ≤ (40 : Int) + ((-1) * a2 + 0) := hg _ (List.mem_cons_of_mem _ (List.mem_cons_of_mem _ (List.mem_cons_of_mem _ (List.mem_cons_of_mem _ (List.mem_cons_of_mem _ (List.mem_cons_of_mem _ (List.mem_cons_of_mem _ (List.mem_cons_of_mem _ (List.mem_cons_of_mem _ (List.mem_cons_of_mem _ (List.mem_cons_of_mem _ (List.mem_cons_of_mem _ (List.mem_cons_of_mem _ (List.mem_cons_of_mem _ List.mem_cons_self))))))))))))))
  have g15 : 0 ≤ (6 : Int) + ((-1) * a3 + 0) := hg _ (List.mem_cons_of_mem _ (List.mem_cons_of_mem _ (List.mem_cons_of_mem _ (List.mem_cons_of_mem _ (List.mem_cons_of_mem _ (List.mem_cons_of_mem _ (List.mem_cons_of_mem _ (List.mem_cons_of_mem _ (List.mem_cons_of_mem _ (List.mem_cons_of_mem _ (List.mem_cons_of_mem _ (List.mem_cons_of_mem _ (List.mem_cons_of_mem _ (List.mem_cons_of_mem _ (List.mem_cons_of_mem _ List.mem_cons_self)))))))))))))))
  have g16 : 0 ≤ (0 : Int) + (1 * (zk_xe w 323 a1) + 0) := hg _ (List.mem_cons_of_mem _ (List.mem_cons_of_mem _ (List.mem_cons_of_mem _ (List.mem_cons_of_mem _ (List.mem_cons_of_mem _ (List.mem_cons_of_mem _ (List.mem_cons_of_mem _ (List.mem_cons_of_mem _ (List.mem_cons_of_mem _ (List.mem_cons_of_mem _ (List.mem_cons_of_mem _ (List.mem_cons_of_mem _ (List.mem_cons_of_mem _ (List.mem_cons_of_mem _ (List.mem_cons_of_mem _ (List.mem_cons_of_mem _ List.mem_cons_self))))))))))))))))
  have g17 : 0 ≤ (48000 : Int) + ((-1) * (zk_xe w 323 a1) + 0) := hg _ (List.mem_cons_of_mem _ (List.mem_cons_of_mem _ (List.mem_cons_of_mem _ (List.mem_cons_of_mem _ (List.mem_cons_of_mem _ (List.mem_cons_of_mem _ (List.mem_cons_of_mem _ (List.mem_cons_of_mem _ (List.mem_cons_of_mem _ (List.mem_cons_of_mem _ (List.mem_cons_of_mem _ (List.mem_cons_of_mem _ (List.mem_cons_of_mem _ (List.mem_cons_of_mem _ (List.mem_cons_of_mem _ (List.mem_cons_of_mem _ (List.mem_cons_of_mem _ List.mem_cons_self)))))))))))))))))
  have r0 : 0 ≤ a0 := hr _ List.mem_cons_self
  have r1 : 0 ≤ a3 := hr _ (List.mem_cons_of_mem _ List.mem_cons_self)
  have r2 : 0 ≤ a3 := hr _ (List.mem_cons_of_mem _ (List.mem_cons_of_mem _ List.mem_cons_self))
  have r3 : 0 ≤ a3 := hr _ (List.mem_cons_of_mem _ (List.mem_cons_of_mem _ (List.mem_cons_of_mem _ List.mem_cons_self)))
  have r4 : 0 ≤ a1 := hr _ (List.mem_cons_of_mem _ (List.mem_cons_of_mem _ (List.mem_cons_of_mem _ (List.mem_cons_of_mem _ List.mem_cons_self))))
  have r5 : 0 ≤ a3 := hr _ (List.mem_cons_of_mem _ (List.mem_cons_of_mem _ (List.mem_cons_of_mem _ (List.mem_cons_of_mem _ (List.mem_cons_of_mem _ List.mem_cons_self)))))
  have r6 : 0 ≤ a1 := hr _ (List.mem_cons_of_mem _ (List.mem_cons_of_mem _ (List.mem_cons_of_mem _ (List.mem_cons_of_mem _ (List.mem_cons_of_mem _ (List.mem_cons_of_mem _ List.mem_cons_self))))))
  have r7 : 0 ≤ a5 := hr _ (List.mem_cons_of_mem _ (List.mem_cons_of_mem _ (List.mem_cons_of_mem _ (List.mem_cons_of_mem _ (List.mem_cons_of_mem _ (List.mem_cons_of_mem _ (List.mem_cons_of_mem _ List.mem_cons_self)))))))
  have hd := (zfy_193 (w := w) (j := a0) (t := a1) (u := a2) (n := a3) (by omega) (by omega) (by omega) (by omega) (by omega) (by omega) (by omega) ).mp (by omega)
  have hS := zfy_Sw (w := w) (n := a3) (by omega) (by omega) (by omega) (by omega) (by omega) 
  have kW : zh_e w 208 (a1) = zk_xe w 208 (a1) := by rw [zk_xe_r (i := 208) (by decide)]; rfl
  have kL : zh_e w 323 (a1) = zk_xe w 323 (a1) := by rw [zk_xe_r (i := 323) (by decide)]; rfl
  have e : a1 / 8000 = a4 := by omega
  have hl := zfl_186.mp (show zk_xe w 2000186 a3 = 1 by omega)
  have hp := hd.1
  unfold zfy_p at hp
  have q1 := (hS.2 (a1 / 8000) (by omega) hp.2.1).1
  have hg := hl (a1 / 8000) (by omega) hp.2.1 (a1 % 8000) (by omega) hp.2.2 (by omega) (by rw [zfy_e, kW]; unfold zfl_t; omega)
  rw [zfy_e, kL] at hg
  have h := zfy_t4 hd hS hg
  have hn := h.1
  unfold zfy_p at hn
  have hm0 := (zfy_194 (w := w) (j := a5) (ms := a6) (t := a1) (u := a2) (by omega) (by omega) (by omega) (by omega) (by omega) (by omega) (by omega) )
  have hm1 := (zfy_194 (w := w) (j := a8) (ms := a6) (t := (zk_xe w 323 a1)) (u := a2) (by omega) (by omega) (by omega) (by omega) (by omega) (by omega) (by omega) )
  have nl : ¬ (zh_e w 208 a1 = 16) := by rw [kW]; omega
  have hm : zk_xe w 2000194 a8 + 1 ≤ zk_xe w 2000194 a5 := by
    rw [hm0, hm1]
    obtain ⟨g1, g2, g3 | ⟨g3, g4, -⟩⟩ := hg
    · exact zfm_2 nl g3.2
    · exact zfm_1 (by omega) (by omega) nl (by omega)
  have hb := zfm_bd (f := zh_e w 208) (T := zh_e w 324) (ms := a6) (t := zk_xe w 323 a1) (u := a2) (by omega) (by omega)
  rw [← hm1] at hb
  exact ⟨_, List.mem_cons_self, [zk_xe w 2000194 a8], rfl, (zx_bcons (by show (0 : Int) ≤ zk_xe w 2000194 a8 ∧ zk_xe w 2000194 a8 ≤ (53440958017832439646564561705196222029239164018978106920627711233511540207954304837050194421751320395096651610017378962363547943883968071894101874391252481320004 : Int); omega) zx_bnil), (zx_cs1 (by show 0 ≤ ((-1) : Int) + (1 * (zk_xe w 2000194 a5) + ((-1) * (zk_xe w 2000194 a8) + 0)); omega) (zx_cs1 (by show 0 ≤ (47999 : Int) + ((-1) * (zk_xe w 323 a1) + 0); omega) zx_cs0)), (zx_eF1 (by show 0 ≤ (0 : Int) + (1 * a7 + 0); omega) (by show zk_xe w 2000193 ((0 : Int) + (1 * a7 + 0)) = (1 : Int) + (0); rw [show (0 : Int) + (1 * a7 + 0) = a7 by omega]; exact ((zfy_193 (w := w) (j := a7) (t := (zk_xe w 323 a1)) (u := a2) (n := a3) (by omega) (by omega) (by omega) (by omega) (by omega) (by omega) (by omega) ).mpr h).trans (by omega)) (zx_eF1 (by show 0 ≤ (0 : Int) + (1 * a8 + 0); omega) (by show zk_xe w 2000194 ((0 : Int) + (1 * a8 + 0)) = (0 : Int) + (1 * (zk_xe w 2000194 a8) + 0); rw [show (0 : Int) + (1 * a8 + 0) = a8 by omega]; omega) zx_eF0)), zx_k0⟩
def zx_D1263 : zx_L := zx_Lc [] 9 [(2000193, 0), (2000192, 3), (2000176, 3), (2000190, 3), (208, 1), (2000186, 3), (323, 1), (2000194, 5)] [] [((0, 0), [(0, 1, 0), (1, 0, 1), (2, 0, 4294967296), (3, 0, 18446744073709551616)]), ((0, 1), [(9, 1, 0)]), ((0, 1), [(10, 1, 0)]), ((0, 1), [(11, 1, 0)]), ((0, 1), [(12, 1, 0)]), ((0, 1), [(14, 1, 0)]), ((0, 0), [(1, 0, 4294967296), (2, 0, 18446744073709551616), (5, 1, 0), (6, 0, 1)]), ((0, 0), [(2, 0, 4294967296), (3, 0, 18446744073709551616), (7, 1, 0), (15, 0, 1)]), ((0, 0), [(2, 0, 18446744073709551616), (6, 0, 1), (8, 1, 0), (15, 0, 4294967296)])] [((0, 0), [(1, 1, 0)]), ((4294967276, 0), [(1, 0, 1)]), ((0, 0), [(2, 1, 0)]), ((4294967276, 0), [(2, 0, 1)]), ((0, 0), [(3, 1, 0)]), ((4294967276, 0), [(3, 0, 1)]), ((0, 0), [(1, 1, 0), (4, 0, 8000)]), ((7999, 0), [(1, 0, 1), (4, 8000, 0)]), ((0, 17), [(13, 1, 0)]), ((18, 0), [(13, 0, 1)]), ((0, 0), [(4, 1, 0)]), ((0, 0), [(6, 1, 0)]), ((20000, 0), [(6, 0, 1)]), ((0, 1), [(2, 1, 0)]), ((40, 0), [(2, 0, 1)]), ((6, 0), [(3, 0, 1)]), ((0, 0), [(15, 1, 0)]), ((48000, 0), [(15, 0, 1)])] [([(0, 53440958017832439646564561705196222029239164018978106920627711233511540207954304837050194421751320395096651610017378962363547943883968071894101874391252481320004)], [((0, 1), [(16, 1, 0), (17, 0, 1)]), ((47999, 0), [(15, 0, 1)])], [(2000193, ((0, 0), [(7, 1, 0)]), ((1, 0), [])), (2000194, ((0, 0), [(8, 1, 0)]), ((0, 0), [(17, 1, 0)]))], [])]
theorem zx_D1263_ok {PT : Nat → zz_W → Prop} : zx_Lok 64 zHT PT zx_D1263 := by
  refine zx_Lc_ok (fun w hI hK ins hl hr he hg => ?_)
  obtain ⟨a0, a1, a2, a3, a4, a5, a6, a7, a8, rfl⟩ := zx_i9 hl
  have e0 : (0 : Int) + (1 * a0 + ((-1) * a1 + ((-4294967296) * a2 + ((-18446744073709551616) * a3 + 0)))) = 0 := he _ List.mem_cons_self
  have e1 : ((-1) : Int) + (1 * (zk_xe w 2000193 a0) + 0) = 0 := he _ (List.mem_cons_of_mem _ List.mem_cons_self)
  have e2 : ((-1) : Int) + (1 * (zk_xe w 2000192 a3) + 0) = 0 := he _ (List.mem_cons_of_mem _ (List.mem_cons_of_mem _ List.mem_cons_self))
  have e3 : ((-1) : Int) + (1 * (zk_xe w 2000176 a3) + 0) = 0 := he _ (List.mem_cons_of_mem _ (List.mem_cons_of_mem _ (List.mem_cons_of_mem _ List.mem_cons_self)))
  have e4 : ((-1) : Int) + (1 * (zk_xe w 2000190 a3) + 0) = 0 := he _ (List.mem_cons_of_mem _ (List.mem_cons_of_mem _ (List.mem_cons_of_mem _ (List.mem_cons_of_mem _ List.mem_cons_self))))
  have e5 : ((-1) : Int) + (1 * (zk_xe w 2000186 a3) + 0) = 0 := he _ (List.mem_cons_of_mem _ (List.mem_cons_of_mem _ (List.mem_cons_of_mem _ (List.mem_cons_of_mem _ (List.mem_cons_of_mem _ List.mem_cons_self)))))
  have e6 : (0 : Int) + ((-4294967296) * a1 + ((-18446744073709551616) * a2 + (1 * a5 + ((-1) * a6 + 0)))) = 0 := he _ (List.mem_cons_of_mem _ (List.mem_cons_of_mem _ (List.mem_cons_of_mem _ (List.mem_cons_of_mem _ (List.mem_cons_of_mem _ (List.mem_cons_of_mem _ List.mem_cons_self))))))
  have e7 : (0 : Int) + ((-4294967296) * a2 + ((-18446744073709551616) * a3 + (1 * a7 + ((-1) * (zk_xe w 323 a1) + 0)))) = 0 := he _ (List.mem_cons_of_mem _ (List.mem_cons_of_mem _ (List.mem_cons_of_mem _ (List.mem_cons_of_mem _ (List.mem_cons_of_mem _ (List.mem_cons_of_mem _ (List.mem_cons_of_mem _ List.mem_cons_self)))))))
  have e8 : (0 : Int) + ((-18446744073709551616) * a2 + ((-1) * a6 + (1 * a8 + ((-4294967296) * (zk_xe w 323 a1) + 0)))) = 0 := he _ (List.mem_cons_of_mem _ (List.mem_cons_of_mem _ (List.mem_cons_of_mem _ (List.mem_cons_of_mem _ (List.mem_cons_of_mem _ (List.mem_cons_of_mem _ (List.mem_cons_of_mem _ (List.mem_cons_of_mem _ List.mem_cons_self))))))))
  have g0 : 0 ≤ (0 : Int) + (1 * a1 + 0) := hg _ List.mem_cons_self
  have g1 : 0 ≤ (4294967276 : Int) + ((-1) * a1 + 0) := hg _ (List.mem_cons_of_mem _ List.mem_cons_self)
  have g2 : 0 ≤ (0 : Int) + (1 * a2 + 0) := hg _ (List.mem_cons_of_mem _ (List.mem_cons_of_mem _ List.mem_cons_self))
  have g3 : 0 ≤ (4294967276 : Int) + ((-1) * a2 + 0) := hg _ (List.mem_cons_of_mem _ (List.mem_cons_of_mem _ (List.mem_cons_of_mem _ List.mem_cons_self)))
  have g4 : 0 ≤ (0 : Int) + (1 * a3 + 0) := hg _ (List.mem_cons_of_mem _ (List.mem_cons_of_mem _ (List.mem_cons_of_mem _ (List.mem_cons_of_mem _ List.mem_cons_self))))
  have g5 : 0 ≤ (4294967276 : Int) + ((-1) * a3 + 0) := hg _ (List.mem_cons_of_mem _ (List.mem_cons_of_mem _ (List.mem_cons_of_mem _ (List.mem_cons_of_mem _ (List.mem_cons_of_mem _ List.mem_cons_self)))))
  have g6 : 0 ≤ (0 : Int) + (1 * a1 + ((-8000) * a4 + 0)) := hg _ (List.mem_cons_of_mem _ (List.mem_cons_of_mem _ (List.mem_cons_of_mem _ (List.mem_cons_of_mem _ (List.mem_cons_of_mem _ (List.mem_cons_of_mem _ List.mem_cons_self))))))
  have g7 : 0 ≤ (7999 : Int) + ((-1) * a1 + (8000 * a4 + 0)) := hg _ (List.mem_cons_of_mem _ (List.mem_cons_of_mem _ (List.mem_cons_of_mem _ (List.mem_cons_of_mem _ (List.mem_cons_of_mem _ (List.mem_cons_of_mem _ (List.mem_cons_of_mem _ List.mem_cons_self)))))))
  have g8 : 0 ≤ ((-17) : Int) + (1 * (zk_xe w 208 a1) + 0) := hg _ (List.mem_cons_of_mem _ (List.mem_cons_of_mem _ (List.mem_cons_of_mem _ (List.mem_cons_of_mem _ (List.mem_cons_of_mem _ (List.mem_cons_of_mem _ (List.mem_cons_of_mem _ (List.mem_cons_of_mem _ List.mem_cons_self))))))))
  have g9 : 0 ≤ (18 : Int) + ((-1) * (zk_xe w 208 a1) + 0) := hg _ (List.mem_cons_of_mem _ (List.mem_cons_of_mem _ (List.mem_cons_of_mem _ (List.mem_cons_of_mem _ (List.mem_cons_of_mem _ (List.mem_cons_of_mem _ (List.mem_cons_of_mem _ (List.mem_cons_of_mem _ (List.mem_cons_of_mem _ List.mem_cons_self)))))))))
  have g10 : 0 ≤ (0 : Int) + (1 * a4 + 0) := hg _ (List.mem_cons_of_mem _ (List.mem_cons_of_mem _ (List.mem_cons_of_mem _ (List.mem_cons_of_mem _ (List.mem_cons_of_mem _ (List.mem_cons_of_mem _ (List.mem_cons_of_mem _ (List.mem_cons_of_mem _ (List.mem_cons_of_mem _ (List.mem_cons_of_mem _ List.mem_cons_self))))))))))
  have g11 : 0 ≤ (0 : Int) + (1 * a6 + 0) := hg _ (List.mem_cons_of_mem _ (List.mem_cons_of_mem _ (List.mem_cons_of_mem _ (List.mem_cons_of_mem _ (List.mem_cons_of_mem _ (List.mem_cons_of_mem _ (List.mem_cons_of_mem _ (List.mem_cons_of_mem _ (List.mem_cons_of_mem _ (List.mem_cons_of_mem _ (List.mem_cons_of_mem _ List.mem_cons_self)))))))))))
  have g12 : 0 ≤ (20000 : Int) + ((-1) * a6 + 0) := hg _ (List.mem_cons_of_mem _ (List.mem_cons_of_mem _ (List.mem_cons_of_mem _ (List.mem_cons_of_mem _ (List.mem_cons_of_mem _ (List.mem_cons_of_mem _ (List.mem_cons_of_mem _ (List.mem_cons_of_mem _ (List.mem_cons_of_mem _ (List.mem_cons_of_mem _ (List.mem_cons_of_mem _ (List.mem_cons_of_mem _ List.mem_cons_self))))))))))))
  have g13 : 0 ≤ ((-1) : Int) + (1 * a2 + 0) := hg _ (List.mem_cons_of_mem _ (List.mem_cons_of_mem _ (List.mem_cons_of_mem _ (List.mem_cons_of_mem _ (List.mem_cons_of_mem _ (List.mem_cons_of_mem _ (List.mem_cons_of_mem _ (List.mem_cons_of_mem _ (List.mem_cons_of_mem _ (List.mem_cons_of_mem _ (List.mem_cons_of_mem _ (List.mem_cons_of_mem _ (List.mem_cons_of_mem _ List.mem_cons_self)))))))))))))
  have g14 : 0 ≤ (40 : Int) + ((-1) * a2 + 0) := hg _ (List.mem_cons_of_mem _ (List.mem_cons_of_mem _ (List.mem_cons_of_mem _ (List.mem_cons_of_mem _ (List.mem_cons_of_mem _ (List.mem_cons_of_mem _ (List.mem_cons_of_mem _ (List.mem_cons_of_mem _ (List.mem_cons_of_mem _ (List.mem_cons_of_mem _ (List.mem_cons_of_mem _ (List.mem_cons_of_mem _ (List.mem_cons_of_mem _ (List.mem_cons_of_mem _ List.mem_cons_self))))))))))))))
  have g15 : 0 ≤ (6 : Int) + ((-1) * a3 + 0) := hg _ (List.mem_cons_of_mem _ (List.mem_cons_of_mem _ (List.mem_cons_of_mem _ (List.mem_cons_of_mem _ (List.mem_cons_of_mem _ (List.mem_cons_of_mem _ (List.mem_cons_of_mem _ (List.mem_cons_of_mem _ (List.mem_cons_of_mem _ (List.mem_cons_of_mem _ (List.mem_cons_of_mem _ (List.mem_cons_of_mem _ (List.mem_cons_of_mem _ (List.mem_cons_of_mem _ (List.mem_cons_of_mem _ List.mem_cons_self)))))))))))))))
  have g16 : 0 ≤ (0 : Int) + (1 * (zk_xe w 323 a1) + 0) := hg _ (List.mem_cons_of_mem _ (List.mem_cons_of_mem _ (List.mem_cons_of_mem _ (List.mem_cons_of_mem _ (List.mem_cons_of_mem _ (List.mem_cons_of_mem _ (List.mem_cons_of_mem _ (List.mem_cons_of_mem _ (List.mem_cons_of_mem _ (List.mem_cons_of_mem _ (List.mem_cons_of_mem _ (List.mem_cons_of_mem _ (List.mem_cons_of_mem _ (List.mem_cons_of_mem _ (List.mem_cons_of_mem _ (List.mem_cons_of_mem _ List.mem_cons_self))))))))))))))))
  have g17 : 0 ≤ (48000 : Int) + ((-1) * (zk_xe w 323 a1) + 0) := hg _ (List.mem_cons_of_mem _ (List.mem_cons_of_mem _ (List.mem_cons_of_mem _ (List.mem_cons_of_mem _ (List.mem_cons_of_mem _ (List.mem_cons_of_mem _ (List.mem_cons_of_mem _ (List.mem_cons_of_mem _ (List.mem_cons_of_mem _ (List.mem_cons_of_mem _ (List.mem_cons_of_mem _ (List.mem_cons_of_mem _ (List.mem_cons_of_mem _ (List.mem_cons_of_mem _ (List.mem_cons_of_mem _ (List.mem_cons_of_mem _ (List.mem_cons_of_mem _ List.mem_cons_self)))))))))))))))))
  have r0 : 0 ≤ a0 := hr _ List.mem_cons_self
  have r1 : 0 ≤ a3 := hr _ (List.mem_cons_of_mem _ List.mem_cons_self)
  have r2 : 0 ≤ a3 := hr _ (List.mem_cons_of_mem _ (List.mem_cons_of_mem _ List.mem_cons_self))
  have r3 : 0 ≤ a3 := hr _ (List.mem_cons_of_mem _ (List.mem_cons_of_mem _ (List.mem_cons_of_mem _ List.mem_cons_self)))
  have r4 : 0 ≤ a1 := hr _ (List.mem_cons_of_mem _ (List.mem_cons_of_mem _ (List.mem_cons_of_mem _ (List.mem_cons_of_mem _ List.mem_cons_self))))
  have r5 : 0 ≤ a3 := hr _ (List.mem_cons_of_mem _ (List.mem_cons_of_mem _ (List.mem_cons_of_mem _ (List.mem_cons_of_mem _ (List.mem_cons_of_mem _ List.mem_cons_self)))))
  have r6 : 0 ≤ a1 := hr _ (List.mem_cons_of_mem _ (List.mem_cons_of_mem _ (List.mem_cons_of_mem _ (List.mem_cons_of_mem _ (List.mem_cons_of_mem _ (List.mem_cons_of_mem _ List.mem_cons_self))))))
  have r7 : 0 ≤ a5 := hr _ (List.mem_cons_of_mem _ (List.mem_cons_of_mem _ (List.mem_cons_of_mem _ (List.mem_cons_of_mem _ (List.mem_cons_of_mem _ (List.mem_cons_of_mem _ (List.mem_cons_of_mem _ List.mem_cons_self)))))))
  have hd := (zfy_193 (w := w) (j := a0) (t := a1) (u := a2) (n := a3) (by omega) (by omega) (by omega) (by omega) (by omega) (by omega) (by omega) ).mp (by omega)
  have hS := zfy_Sw (w := w) (n := a3) (by omega) (by omega) (by omega) (by omega) (by omega) 
  have kW : zh_e w 208 (a1) = zk_xe w 208 (a1) := by rw [zk_xe_r (i := 208) (by decide)]; rfl
  have kL : zh_e w 323 (a1) = zk_xe w 323 (a1) := by rw [zk_xe_r (i := 323) (by decide)]; rfl
  have e : a1 / 8000 = a4 := by omega
  have hl := zfl_186.mp (show zk_xe w 2000186 a3 = 1 by omega)
  have hp := hd.1
  unfold zfy_p at hp
  have q1 := (hS.2 (a1 / 8000) (by omega) hp.2.1).1
  have hg := hl (a1 / 8000) (by omega) hp.2.1 (a1 % 8000) (by omega) hp.2.2 (by omega) (by rw [zfy_e, kW]; unfold zfl_t; omega)
  rw [zfy_e, kL] at hg
  have h := zfy_t4 hd hS hg
  have hn := h.1
  unfold zfy_p at hn
  have hm0 := (zfy_194 (w := w) (j := a5) (ms := a6) (t := a1) (u := a2) (by omega) (by omega) (by omega) (by omega) (by omega) (by omega) (by omega) )
  have hm1 := (zfy_194 (w := w) (j := a8) (ms := a6) (t := (zk_xe w 323 a1)) (u := a2) (by omega) (by omega) (by omega) (by omega) (by omega) (by omega) (by omega) )
  have nl : ¬ (zh_e w 208 a1 = 16) := by rw [kW]; omega
  have hm : zk_xe w 2000194 a8 + 1 ≤ zk_xe w 2000194 a5 := by
    rw [hm0, hm1]
    obtain ⟨g1, g2, g3 | ⟨g3, g4, -⟩⟩ := hg
    · exact zfm_2 nl g3.2
    · exact zfm_1 (by omega) (by omega) nl (by omega)
  have hb := zfm_bd (f := zh_e w 208) (T := zh_e w 324) (ms := a6) (t := zk_xe w 323 a1) (u := a2) (by omega) (by omega)
  rw [← hm1] at hb
  exact ⟨_, List.mem_cons_self, [zk_xe w 2000194 a8], rfl, (zx_bcons (by show (0 : Int) ≤ zk_xe w 2000194 a8 ∧ zk_xe w 2000194 a8 ≤ (53440958017832439646564561705196222029239164018978106920627711233511540207954304837050194421751320395096651610017378962363547943883968071894101874391252481320004 : Int); omega) zx_bnil), (zx_cs1 (by show 0 ≤ ((-1) : Int) + (1 * (zk_xe w 2000194 a5) + ((-1) * (zk_xe w 2000194 a8) + 0)); omega) (zx_cs1 (by show 0 ≤ (47999 : Int) + ((-1) * (zk_xe w 323 a1) + 0); omega) zx_cs0)), (zx_eF1 (by show 0 ≤ (0 : Int) + (1 * a7 + 0); omega) (by show zk_xe w 2000193 ((0 : Int) + (1 * a7 + 0)) = (1 : Int) + (0); rw [show (0 : Int) + (1 * a7 + 0) = a7 by omega]; exact ((zfy_193 (w := w) (j := a7) (t := (zk_xe w 323 a1)) (u := a2) (n := a3) (by omega) (by omega) (by omega) (by omega) (by omega) (by omega) (by omega) ).mpr h).trans (by omega)) (zx_eF1 (by show 0 ≤ (0 : Int) + (1 * a8 + 0); omega) (by show zk_xe w 2000194 ((0 : Int) + (1 * a8 + 0)) = (0 : Int) + (1 * (zk_xe w 2000194 a8) + 0); rw [show (0 : Int) + (1 * a8 + 0) = a8 by omega]; omega) zx_eF0)), zx_k0⟩
def zx_D1264 : zx_L := zx_Lc [] 5 [(2000193, 0), (2000192, 3), (2000176, 3), (2000190, 3), (208, 1)] [] [((0, 0), [(0, 1, 0), (1, 0, 1), (2, 0, 4294967296), (3, 0, 18446744073709551616)]), ((0, 1), [(5, 1, 0)]), ((0, 1), [(6, 1, 0)]), ((0, 1), [(7, 1, 0)]), ((0, 1), [(8, 1, 0)])] [((0, 0), [(1, 1, 0)]), ((4294967276, 0), [(1, 0, 1)]), ((0, 0), [(2, 1, 0)]), ((4294967276, 0), [(2, 0, 1)]), ((0, 0), [(3, 1, 0)]), ((4294967276, 0), [(3, 0, 1)]), ((0, 0), [(1, 1, 0), (4, 0, 8000)]), ((7999, 0), [(1, 0, 1), (4, 8000, 0)]), ((0, 2), [(9, 1, 0)])] [([], [((7998, 0), [(1, 0, 1), (4, 8000, 0)])], [], [])]
theorem zx_D1264_ok {PT : Nat → zz_W → Prop} : zx_Lok 64 zHT PT zx_D1264 := by
  refine zx_Lc_ok (fun w hI hK ins hl hr he hg => ?_)
  obtain ⟨a0, a1, a2, a3, a4, rfl⟩ := zx_i5 hl
  have e0 : (0 : Int) + (1 * a0 + ((-1) * a1 + ((-4294967296) * a2 + ((-18446744073709551616) * a3 + 0)))) = 0 := he _ List.mem_cons_self
  have e1 : ((-1) : Int) + (1 * (zk_xe w 2000193 a0) + 0) = 0 := he _ (List.mem_cons_of_mem _ List.mem_cons_self)
  have e2 : ((-1) : Int) + (1 * (zk_xe w 2000192 a3) + 0) = 0 := he _ (List.mem_cons_of_mem _ (List.mem_cons_of_mem _ List.mem_cons_self))
  have e3 : ((-1) : Int) + (1 * (zk_xe w 2000176 a3) + 0) = 0 := he _ (List.mem_cons_of_mem _ (List.mem_cons_of_mem _ (List.mem_cons_of_mem _ List.mem_cons_self)))
  have e4 : ((-1) : Int) + (1 * (zk_xe w 2000190 a3) + 0) = 0 := he _ (List.mem_cons_of_mem _ (List.mem_cons_of_mem _ (List.mem_cons_of_mem _ (List.mem_cons_of_mem _ List.mem_cons_self))))
  have g0 : 0 ≤ (0 : Int) + (1 * a1 + 0) := hg _ List.mem_cons_self
  have g1 : 0 ≤ (4294967276 : Int) + ((-1) * a1 + 0) := hg _ (List.mem_cons_of_mem _ List.mem_cons_self)
  have g2 : 0 ≤ (0 : Int) + (1 * a2 + 0) := hg _ (List.mem_cons_of_mem _ (List.mem_cons_of_mem _ List.mem_cons_self))
  have g3 : 0 ≤ (4294967276 : Int) + ((-1) * a2 + 0) := hg _ (List.mem_cons_of_mem _ (List.mem_cons_of_mem _ (List.mem_cons_of_mem _ List.mem_cons_self)))
  have g4 : 0 ≤ (0 : Int) + (1 * a3 + 0) := hg _ (List.mem_cons_of_mem _ (List.mem_cons_of_mem _ (List.mem_cons_of_mem _ (List.mem_cons_of_mem _ List.mem_cons_self))))
  have g5 : 0 ≤ (4294967276 : Int) + ((-1) * a3 + 0) := hg _ (List.mem_cons_of_mem _ (List.mem_cons_of_mem _ (List.mem_cons_of_mem _ (List.mem_cons_of_mem _ (List.mem_cons_of_mem _ List.mem_cons_self)))))
  have g6 : 0 ≤ (0 : Int) + (1 * a1 + ((-8000) * a4 + 0)) := hg _ (List.mem_cons_of_mem _ (List.mem_cons_of_mem _ (List.mem_cons_of_mem _ (List.mem_cons_of_mem _ (List.mem_cons_of_mem _ (List.mem_cons_of_mem _ List.mem_cons_self))))))
  have g7 : 0 ≤ (7999 : Int) + ((-1) * a1 + (8000 * a4 + 0)) := hg _ (List.mem_cons_of_mem _ (List.mem_cons_of_mem _ (List.mem_cons_of_mem _ (List.mem_cons_of_mem _ (List.mem_cons_of_mem _ (List.mem_cons_of_mem _ (List.mem_cons_of_mem _ List.mem_cons_self)))))))
  have g8 : 0 ≤ ((-2) : Int) + (1 * (zk_xe w 208 a1) + 0) := hg _ (List.mem_cons_of_mem _ (List.mem_cons_of_mem _ (List.mem_cons_of_mem _ (List.mem_cons_of_mem _ (List.mem_cons_of_mem _ (List.mem_cons_of_mem _ (List.mem_cons_of_mem _ (List.mem_cons_of_mem _ List.mem_cons_self))))))))
  have r0 : 0 ≤ a0 := hr _ List.mem_cons_self
  have r1 : 0 ≤ a3 := hr _ (List.mem_cons_of_mem _ List.mem_cons_self)
  have r2 : 0 ≤ a3 := hr _ (List.mem_cons_of_mem _ (List.mem_cons_of_mem _ List.mem_cons_self))
  have r3 : 0 ≤ a3 := hr _ (List.mem_cons_of_mem _ (List.mem_cons_of_mem _ (List.mem_cons_of_mem _ List.mem_cons_self)))
  have r4 : 0 ≤ a1 := hr _ (List.mem_cons_of_mem _ (List.mem_cons_of_mem _ (List.mem_cons_of_mem _ (List.mem_cons_of_mem _ List.mem_cons_self))))
  have hd := (zfy_193 (w := w) (j := a0) (t := a1) (u := a2) (n := a3) (by omega) (by omega) (by omega) (by omega) (by omega) (by omega) (by omega) ).mp (by omega)
  have hS := zfy_Sw (w := w) (n := a3) (by omega) (by omega) (by omega) (by omega) (by omega) 
  have kW : zh_e w 208 (a1) = zk_xe w 208 (a1) := by rw [zk_xe_r (i := 208) (by decide)]; rfl
  have e : a1 / 8000 = a4 := by omega
  obtain ⟨-, nv⟩ := zfy_nx hS hd.1 (by rw [kW]; omega)
  exact ⟨_, List.mem_cons_self, [], rfl, zx_bnil, (zx_cs1 (by show 0 ≤ (7998 : Int) + ((-1) * a1 + (8000 * a4 + 0)); omega) zx_cs0), zx_eF0, zx_k0⟩
def zx_D1265 : zx_L := zx_Lc [] 5 [(2000193, 0), (2000192, 3), (2000176, 3), (2000190, 3), (208, 1)] [] [((0, 0), [(0, 1, 0), (1, 0, 1), (2, 0, 4294967296), (3, 0, 18446744073709551616)]), ((0, 1), [(5, 1, 0)]), ((0, 1), [(6, 1, 0)]), ((0, 1), [(7, 1, 0)]), ((0, 1), [(8, 1, 0)])] [((0, 0), [(1, 1, 0)]), ((4294967276, 0), [(1, 0, 1)]), ((0, 0), [(2, 1, 0)]), ((4294967276, 0), [(2, 0, 1)]), ((0, 0), [(3, 1, 0)]), ((4294967276, 0), [(3, 0, 1)]), ((0, 0), [(1, 1, 0), (4, 0, 8000)]), ((7999, 0), [(1, 0, 1), (4, 8000, 0)]), ((0, 0), [(9, 0, 1)])] [([], [((7998, 0), [(1, 0, 1), (4, 8000, 0)])], [], [])]
theorem zx_D1265_ok {PT : Nat → zz_W → Prop} : zx_Lok 64 zHT PT zx_D1265 := by
  refine zx_Lc_ok (fun w hI hK ins hl hr he hg => ?_)
  obtain ⟨a0, a1, a2, a3, a4, rfl⟩ := zx_i5 hl
  have e0 : (0 : Int) + (1 * a0 + ((-1) * a1 + ((-4294967296) * a2 + ((-18446744073709551616) * a3 + 0)))) = 0 := he _ List.mem_cons_self
  have e1 : ((-1) : Int) + (1 * (zk_xe w 2000193 a0) + 0) = 0 := he _ (List.mem_cons_of_mem _ List.mem_cons_self)
  have e2 : ((-1) : Int) + (1 * (zk_xe w 2000192 a3) + 0) = 0 := he _ (List.mem_cons_of_mem _ (List.mem_cons_of_mem _ List.mem_cons_self))
  have e3 : ((-1) : Int) + (1 * (zk_xe w 2000176 a3) + 0) = 0 := he _ (List.mem_cons_of_mem _ (List.mem_cons_of_mem _ (List.mem_cons_of_mem _ List.mem_cons_self)))
  have e4 : ((-1) : Int) + (1 * (zk_xe w 2000190 a3) + 0) = 0 := he _ (List.mem_cons_of_mem _ (List.mem_cons_of_mem _ (List.mem_cons_of_mem _ (List.mem_cons_of_mem _ List.mem_cons_self))))
  have g0 : 0 ≤ (0 : Int) + (1 * a1 + 0) := hg _ List.mem_cons_self
  have g1 : 0 ≤ (4294967276 : Int) + ((-1) * a1 + 0) := hg _ (List.mem_cons_of_mem _ List.mem_cons_self)
  have g2 : 0 ≤ (0 : Int) + (1 * a2 + 0) := hg _ (List.mem_cons_of_mem _ (List.mem_cons_of_mem _ List.mem_cons_self))
  have g3 : 0 ≤ (4294967276 : Int) + ((-1) * a2 + 0) := hg _ (List.mem_cons_of_mem _ (List.mem_cons_of_mem _ (List.mem_cons_of_mem _ List.mem_cons_self)))
  have g4 : 0 ≤ (0 : Int) + (1 * a3 + 0) := hg _ (List.mem_cons_of_mem _ (List.mem_cons_of_mem _ (List.mem_cons_of_mem _ (List.mem_cons_of_mem _ List.mem_cons_self))))
  have g5 : 0 ≤ (4294967276 : Int) + ((-1) * a3 + 0) := hg _ (List.mem_cons_of_mem _ (List.mem_cons_of_mem _ (List.mem_cons_of_mem _ (List.mem_cons_of_mem _ (List.mem_cons_of_mem _ List.mem_cons_self)))))
  have g6 : 0 ≤ (0 : Int) + (1 * a1 + ((-8000) * a4 + 0)) := hg _ (List.mem_cons_of_mem _ (List.mem_cons_of_mem _ (List.mem_cons_of_mem _ (List.mem_cons_of_mem _ (List.mem_cons_of_mem _ (List.mem_cons_of_mem _ List.mem_cons_self))))))
  have g7 : 0 ≤ (7999 : Int) + ((-1) * a1 + (8000 * a4 + 0)) := hg _ (List.mem_cons_of_mem _ (List.mem_cons_of_mem _ (List.mem_cons_of_mem _ (List.mem_cons_of_mem _ (List.mem_cons_of_mem _ (List.mem_cons_of_mem _ (List.mem_cons_of_mem _ List.mem_cons_self)))))))
  have g8 : 0 ≤ (0 : Int) + ((-1) * (zk_xe w 208 a1) + 0) := hg _ (List.mem_cons_of_mem _ (List.mem_cons_of_mem _ (List.mem_cons_of_mem _ (List.mem_cons_of_mem _ (List.mem_cons_of_mem _ (List.mem_cons_of_mem _ (List.mem_cons_of_mem _ (List.mem_cons_of_mem _ List.mem_cons_self))))))))
  have r0 : 0 ≤ a0 := hr _ List.mem_cons_self
  have r1 : 0 ≤ a3 := hr _ (List.mem_cons_of_mem _ List.mem_cons_self)
  have r2 : 0 ≤ a3 := hr _ (List.mem_cons_of_mem _ (List.mem_cons_of_mem _ List.mem_cons_self))
  have r3 : 0 ≤ a3 := hr _ (List.mem_cons_of_mem _ (List.mem_cons_of_mem _ (List.mem_cons_of_mem _ List.mem_cons_self)))
  have r4 : 0 ≤ a1 := hr _ (List.mem_cons_of_mem _ (List.mem_cons_of_mem _ (List.mem_cons_of_mem _ (List.mem_cons_of_mem _ List.mem_cons_self))))
  have hd := (zfy_193 (w := w) (j := a0) (t := a1) (u := a2) (n := a3) (by omega) (by omega) (by omega) (by omega) (by omega) (by omega) (by omega) ).mp (by omega)
  have hS := zfy_Sw (w := w) (n := a3) (by omega) (by omega) (by omega) (by omega) (by omega) 
  have kW : zh_e w 208 (a1) = zk_xe w 208 (a1) := by rw [zk_xe_r (i := 208) (by decide)]; rfl
  have e : a1 / 8000 = a4 := by omega
  obtain ⟨-, nv⟩ := zfy_nx hS hd.1 (by rw [kW]; omega)
  exact ⟨_, List.mem_cons_self, [], rfl, zx_bnil, (zx_cs1 (by show 0 ≤ (7998 : Int) + ((-1) * a1 + (8000 * a4 + 0)); omega) zx_cs0), zx_eF0, zx_k0⟩
def zx_D1269 : zx_L := zx_Lc [] 4 [] [] [((0, 0), [(0, 1, 0), (1, 0, 1), (2, 0, 4294967296), (3, 0, 18446744073709551616)])] [((0, 0), [(1, 1, 0)]), ((4294967276, 0), [(1, 0, 1)]), ((0, 0), [(2, 1, 0)]), ((4294967276, 0), [(2, 0, 1)]), ((0, 0), [(3, 1, 0)]), ((4294967276, 0), [(3, 0, 1)]), ((20001, 0), [(1, 0, 1)])] [([(0, 53440958017832439646564561705196222029239164018978106920627711233511540207954304837050194421751320395096651610017378962363547943883968071894101874391252481320004)], [], [(2000194, ((0, 0), [(0, 1, 0)]), ((0, 0), [(4, 1, 0)]))], [])]
theorem zx_D1269_ok {PT : Nat → zz_W → Prop} : zx_Lok 64 zHT PT zx_D1269 := by
  refine zx_Lc_ok (fun w hI hK ins hl hr he hg => ?_)
  obtain ⟨a0, a1, a2, a3, rfl⟩ := zx_i4 hl
  have e0 : (0 : Int) + (1 * a0 + ((-1) * a1 + ((-4294967296) * a2 + ((-18446744073709551616) * a3 + 0)))) = 0 := he _ List.mem_cons_self
  have g0 : 0 ≤ (0 : Int) + (1 * a1 + 0) := hg _ List.mem_cons_self
  have g1 : 0 ≤ (4294967276 : Int) + ((-1) * a1 + 0) := hg _ (List.mem_cons_of_mem _ List.mem_cons_self)
  have g2 : 0 ≤ (0 : Int) + (1 * a2 + 0) := hg _ (List.mem_cons_of_mem _ (List.mem_cons_of_mem _ List.mem_cons_self))
  have g3 : 0 ≤ (4294967276 : Int) + ((-1) * a2 + 0) := hg _ (List.mem_cons_of_mem _ (List.mem_cons_of_mem _ (List.mem_cons_of_mem _ List.mem_cons_self)))
  have g4 : 0 ≤ (0 : Int) + (1 * a3 + 0) := hg _ (List.mem_cons_of_mem _ (List.mem_cons_of_mem _ (List.mem_cons_of_mem _ (List.mem_cons_of_mem _ List.mem_cons_self))))
  have g5 : 0 ≤ (4294967276 : Int) + ((-1) * a3 + 0) := hg _ (List.mem_cons_of_mem _ (List.mem_cons_of_mem _ (List.mem_cons_of_mem _ (List.mem_cons_of_mem _ (List.mem_cons_of_mem _ List.mem_cons_self)))))
  have g6 : 0 ≤ (20001 : Int) + ((-1) * a1 + 0) := hg _ (List.mem_cons_of_mem _ (List.mem_cons_of_mem _ (List.mem_cons_of_mem _ (List.mem_cons_of_mem _ (List.mem_cons_of_mem _ (List.mem_cons_of_mem _ List.mem_cons_self))))))
  have hm0 := (zfy_194 (w := w) (j := a0) (ms := a1) (t := a2) (u := a3) (by omega) (by omega) (by omega) (by omega) (by omega) (by omega) (by omega) )
  have hb := zfm_bd (f := zh_e w 208) (T := zh_e w 324) (ms := a1) (t := a2) (u := a3) (by omega) (by omega)
  rw [← hm0] at hb
  exact ⟨_, List.mem_cons_self, [zk_xe w 2000194 a0], rfl, (zx_bcons (by show (0 : Int) ≤ zk_xe w 2000194 a0 ∧ zk_xe w 2000194 a0 ≤ (53440958017832439646564561705196222029239164018978106920627711233511540207954304837050194421751320395096651610017378962363547943883968071894101874391252481320004 : Int); omega) zx_bnil), zx_cs0, (zx_eF1 (by show 0 ≤ (0 : Int) + (1 * a0 + 0); omega) (by show zk_xe w 2000194 ((0 : Int) + (1 * a0 + 0)) = (0 : Int) + (1 * (zk_xe w 2000194 a0) + 0); rw [show (0 : Int) + (1 * a0 + 0) = a0 by omega]; omega) zx_eF0), zx_k0⟩
def zx_D1270 : zx_L := zx_Lc [] 6 [(2000194, 0), (208, 2)] [] [((0, 0), [(0, 1, 0), (1, 0, 1), (2, 0, 4294967296), (3, 0, 18446744073709551616)]), ((0, 4294967296), [(1, 0, 1), (2, 0, 4294967296), (3, 0, 18446744073709551616), (5, 1, 0)])] [((0, 0), [(1, 1, 0)]), ((4294967276, 0), [(1, 0, 1)]), ((0, 0), [(2, 1, 0)]), ((4294967276, 0), [(2, 0, 1)]), ((0, 0), [(3, 1, 0)]), ((4294967276, 0), [(3, 0, 1)]), ((15, 0), [(7, 0, 1)]), ((20001, 0), [(1, 0, 1)]), ((0, 1), [(3, 1, 0)]), ((40, 0), [(3, 0, 1)]), ((0, 0), [(2, 1, 0), (4, 0, 8000)]), ((7998, 0), [(2, 0, 1), (4, 8000, 0)])] [([(0, 53440958017832439646564561705196222029239164018978106920627711233511540207954304837050194421751320395096651610017378962363547943883968071894101874391252481320004)], [((0, 1), [(6, 1, 0), (8, 0, 1)])], [(2000194, ((0, 0), [(5, 1, 0)]), ((0, 0), [(8, 1, 0)]))], [])]
theorem zx_D1270_ok {PT : Nat → zz_W → Prop} : zx_Lok 64 zHT PT zx_D1270 := by
  refine zx_Lc_ok (fun w hI hK ins hl hr he hg => ?_)
  obtain ⟨a0, a1, a2, a3, a4, a5, rfl⟩ := zx_i6 hl
  have e0 : (0 : Int) + (1 * a0 + ((-1) * a1 + ((-4294967296) * a2 + ((-18446744073709551616) * a3 + 0)))) = 0 := he _ List.mem_cons_self
  have e1 : ((-4294967296) : Int) + ((-1) * a1 + ((-4294967296) * a2 + ((-18446744073709551616) * a3 + (1 * a5 + 0)))) = 0 := he _ (List.mem_cons_of_mem _ List.mem_cons_self)
  have g0 : 0 ≤ (0 : Int) + (1 * a1 + 0) := hg _ List.mem_cons_self
  have g1 : 0 ≤ (4294967276 : Int) + ((-1) * a1 + 0) := hg _ (List.mem_cons_of_mem _ List.mem_cons_self)
  have g2 : 0 ≤ (0 : Int) + (1 * a2 + 0) := hg _ (List.mem_cons_of_mem _ (List.mem_cons_of_mem _ List.mem_cons_self))
  have g3 : 0 ≤ (4294967276 : Int) + ((-1) * a2 + 0) := hg _ (List.mem_cons_of_mem _ (List.mem_cons_of_mem _ (List.mem_cons_of_mem _ List.mem_cons_self)))
  have g4 : 0 ≤ (0 : Int) + (1 * a3 + 0) := hg _ (List.mem_cons_of_mem _ (List.mem_cons_of_mem _ (List.mem_cons_of_mem _ (List.mem_cons_of_mem _ List.mem_cons_self))))
  have g5 : 0 ≤ (4294967276 : Int) + ((-1) * a3 + 0) := hg _ (List.mem_cons_of_mem _ (List.mem_cons_of_mem _ (List.mem_cons_of_mem _ (List.mem_cons_of_mem _ (List.mem_cons_of_mem _ List.mem_cons_self)))))
  have g6 : 0 ≤ (15 : Int) + ((-1) * (zk_xe w 208 a2) + 0) := hg _ (List.mem_cons_of_mem _ (List.mem_cons_of_mem _ (List.mem_cons_of_mem _ (List.mem_cons_of_mem _ (List.mem_cons_of_mem _ (List.mem_cons_of_mem _ List.mem_cons_self))))))
  have g7 : 0 ≤ (20001 : Int) + ((-1) * a1 + 0) := hg _ (List.mem_cons_of_mem _ (List.mem_cons_of_mem _ (List.mem_cons_of_mem _ (List.mem_cons_of_mem _ (List.mem_cons_of_mem _ (List.mem_cons_of_mem _ (List.mem_cons_of_mem _ List.mem_cons_self)))))))
  have g8 : 0 ≤ ((-1) : Int) + (1 * a3 + 0) := hg _ (List.mem_cons_of_mem _ (List.mem_cons_of_mem _ (List.mem_cons_of_mem _ (List.mem_cons_of_mem _ (List.mem_cons_of_mem _ (List.mem_cons_of_mem _ (List.mem_cons_of_mem _ (List.mem_cons_of_mem _ List.mem_cons_self))))))))
  have g9 : 0 ≤ (40 : Int) + ((-1) * a3 + 0) := hg _ (List.mem_cons_of_mem _ (List.mem_cons_of_mem _ (List.mem_cons_of_mem _ (List.mem_cons_of_mem _ (List.mem_cons_of_mem _ (List.mem_cons_of_mem _ (List.mem_cons_of_mem _ (List.mem_cons_of_mem _ (List.mem_cons_of_mem _ List.mem_cons_self)))))))))
  have g10 : 0 ≤ (0 : Int) + (1 * a2 + ((-8000) * a4 + 0)) := hg _ (List.mem_cons_of_mem _ (List.mem_cons_of_mem _ (List.mem_cons_of_mem _ (List.mem_cons_of_mem _ (List.mem_cons_of_mem _ (List.mem_cons_of_mem _ (List.mem_cons_of_mem _ (List.mem_cons_of_mem _ (List.mem_cons_of_mem _ (List.mem_cons_of_mem _ List.mem_cons_self))))))))))
  have g11 : 0 ≤ (7998 : Int) + ((-1) * a2 + (8000 * a4 + 0)) := hg _ (List.mem_cons_of_mem _ (List.mem_cons_of_mem _ (List.mem_cons_of_mem _ (List.mem_cons_of_mem _ (List.mem_cons_of_mem _ (List.mem_cons_of_mem _ (List.mem_cons_of_mem _ (List.mem_cons_of_mem _ (List.mem_cons_of_mem _ (List.mem_cons_of_mem _ (List.mem_cons_of_mem _ List.mem_cons_self)))))))))))
  have r0 : 0 ≤ a0 := hr _ List.mem_cons_self
  have r1 : 0 ≤ a2 := hr _ (List.mem_cons_of_mem _ List.mem_cons_self)
  have hm0 := (zfy_194 (w := w) (j := a0) (ms := a1) (t := a2) (u := a3) (by omega) (by omega) (by omega) (by omega) (by omega) (by omega) (by omega) )
  have hm1 := (zfy_194 (w := w) (j := a5) (ms := a1) (t := (a2 + 1)) (u := a3) (by omega) (by omega) (by omega) (by omega) (by omega) (by omega) (by omega) )
  have kW : zh_e w 208 (a2) = zk_xe w 208 (a2) := by rw [zk_xe_r (i := 208) (by decide)]; rfl
  have hm : zk_xe w 2000194 a5 + 1 ≤ zk_xe w 2000194 a0 := by
    rw [hm0, hm1]
    exact zfm_1 (by omega) (by omega) (by rw [kW]; omega) (by omega)
  have hb := zfm_bd (f := zh_e w 208) (T := zh_e w 324) (ms := a1) (t := a2 + 1) (u := a3) (by omega) (by omega)
  rw [← hm1] at hb
  exact ⟨_, List.mem_cons_self, [zk_xe w 2000194 a5], rfl, (zx_bcons (by show (0 : Int) ≤ zk_xe w 2000194 a5 ∧ zk_xe w 2000194 a5 ≤ (53440958017832439646564561705196222029239164018978106920627711233511540207954304837050194421751320395096651610017378962363547943883968071894101874391252481320004 : Int); omega) zx_bnil), (zx_cs1 (by show 0 ≤ ((-1) : Int) + (1 * (zk_xe w 2000194 a0) + ((-1) * (zk_xe w 2000194 a5) + 0)); omega) zx_cs0), (zx_eF1 (by show 0 ≤ (0 : Int) + (1 * a5 + 0); omega) (by show zk_xe w 2000194 ((0 : Int) + (1 * a5 + 0)) = (0 : Int) + (1 * (zk_xe w 2000194 a5) + 0); rw [show (0 : Int) + (1 * a5 + 0) = a5 by omega]; omega) zx_eF0), zx_k0⟩
def zx_D1271 : zx_L := zx_Lc [] 6 [(2000194, 0), (208, 2)] [] [((0, 0), [(0, 1, 0), (1, 0, 1), (2, 0, 4294967296), (3, 0, 18446744073709551616)]), ((0, 4294967296), [(1, 0, 1), (2, 0, 4294967296), (3, 0, 18446744073709551616), (5, 1, 0)])] [((0, 0), [(1, 1, 0)]), ((4294967276, 0), [(1, 0, 1)]), ((0, 0), [(2, 1, 0)]), ((4294967276, 0), [(2, 0, 1)]), ((0, 0), [(3, 1, 0)]), ((4294967276, 0), [(3, 0, 1)]), ((0, 17), [(7, 1, 0)]), ((20001, 0), [(1, 0, 1)]), ((0, 1), [(3, 1, 0)]), ((40, 0), [(3, 0, 1)]), ((0, 0), [(2, 1, 0), (4, 0, 8000)]), ((7998, 0), [(2, 0, 1), (4, 8000, 0)])] [([(0, 53440958017832439646564561705196222029239164018978106920627711233511540207954304837050194421751320395096651610017378962363547943883968071894101874391252481320004)], [((0, 1), [(6, 1, 0), (8, 0, 1)])], [(2000194, ((0, 0), [(5, 1, 0)]), ((0, 0), [(8, 1, 0)]))], [])]
theorem zx_D1271_ok {PT : Nat → zz_W → Prop} : zx_Lok 64 zHT PT zx_D1271 := by
  refine zx_Lc_ok (fun w hI hK ins hl hr he hg => ?_)
  obtain ⟨a0, a1, a2, a3, a4, a5, rfl⟩ := zx_i6 hl
  have e0 : (0 : Int) + (1 * a0 + ((-1) * a1 + ((-4294967296) * a2 + ((-18446744073709551616) * a3 + 0)))) = 0 := he _ List.mem_cons_self
  have e1 : ((-4294967296) : Int) + ((-1) * a1 + ((-4294967296) * a2 + ((-18446744073709551616) * a3 + (1 * a5 + 0)))) = 0 := he _ (List.mem_cons_of_mem _ List.mem_cons_self)
  have g0 : 0 ≤ (0 : Int) + (1 * a1 + 0) := hg _ List.mem_cons_self
  have g1 : 0 ≤ (4294967276 : Int) + ((-1) * a1 + 0) := hg _ (List.mem_cons_of_mem _ List.mem_cons_self)
  have g2 : 0 ≤ (0 : Int) + (1 * a2 + 0) := hg _ (List.mem_cons_of_mem _ (List.mem_cons_of_mem _ List.mem_cons_self))
  have g3 : 0 ≤ (4294967276 : Int) + ((-1) * a2 + 0) := hg _ (List.mem_cons_of_mem _ (List.mem_cons_of_mem _ (List.mem_cons_of_mem _ List.mem_cons_self)))
  have g4 : 0 ≤ (0 : Int) + (1 * a3 + 0) := hg _ (List.mem_cons_of_mem _ (List.mem_cons_of_mem _ (List.mem_cons_of_mem _ (List.mem_cons_of_mem _ List.mem_cons_self))))
  have g5 : 0 ≤ (4294967276 : Int) + ((-1) * a3 + 0) := hg _ (List.mem_cons_of_mem _ (List.mem_cons_of_mem _ (List.mem_cons_of_mem _ (List.mem_cons_of_mem _ (List.mem_cons_of_mem _ List.mem_cons_self)))))
  have g6 : 0 ≤ ((-17) : Int) + (1 * (zk_xe w 208 a2) + 0) := hg _ (List.mem_cons_of_mem _ (List.mem_cons_of_mem _ (List.mem_cons_of_mem _ (List.mem_cons_of_mem _ (List.mem_cons_of_mem _ (List.mem_cons_of_mem _ List.mem_cons_self))))))
  have g7 : 0 ≤ (20001 : Int) + ((-1) * a1 + 0) := hg _ (List.mem_cons_of_mem _ (List.mem_cons_of_mem _ (List.mem_cons_of_mem _ (List.mem_cons_of_mem _ (List.mem_cons_of_mem _ (List.mem_cons_of_mem _ (List.mem_cons_of_mem _ List.mem_cons_self)))))))
  have g8 : 0 ≤ ((-1) : Int) + (1 * a3 + 0) := hg _ (List.mem_cons_of_mem _ (List.mem_cons_of_mem _ (List.mem_cons_of_mem _ (List.mem_cons_of_mem _ (List.mem_cons_of_mem _ (List.mem_cons_of_mem _ (List.mem_cons_of_mem _ (List.mem_cons_of_mem _ List.mem_cons_self))))))))
  have g9 : 0 ≤ (40 : Int) + ((-1) * a3 + 0) := hg _ (List.mem_cons_of_mem _ (List.mem_cons_of_mem _ (List.mem_cons_of_mem _ (List.mem_cons_of_mem _ (List.mem_cons_of_mem _ (List.mem_cons_of_mem _ (List.mem_cons_of_mem _ (List.mem_cons_of_mem _ (List.mem_cons_of_mem _ List.mem_cons_self)))))))))
  have g10 : 0 ≤ (0 : Int) + (1 * a2 + ((-8000) * a4 + 0)) := hg _ (List.mem_cons_of_mem _ (List.mem_cons_of_mem _ (List.mem_cons_of_mem _ (List.mem_cons_of_mem _ (List.mem_cons_of_mem _ (List.mem_cons_of_mem _ (List.mem_cons_of_mem _ (List.mem_cons_of_mem _ (List.mem_cons_of_mem _ (List.mem_cons_of_mem _ List.mem_cons_self))))))))))
  have g11 : 0 ≤ (7998 : Int) + ((-1) * a2 + (8000 * a4 + 0)) := hg _ (List.mem_cons_of_mem _ (List.mem_cons_of_mem _ (List.mem_cons_of_mem _ (List.mem_cons_of_mem _ (List.mem_cons_of_mem _ (List.mem_cons_of_mem _ (List.mem_cons_of_mem _ (List.mem_cons_of_mem _ (List.mem_cons_of_mem _ (List.mem_cons_of_mem _ (List.mem_cons_of_mem _ List.mem_cons_self)))))))))))
  have r0 : 0 ≤ a0 := hr _ List.mem_cons_self
  have r1 : 0 ≤ a2 := hr _ (List.mem_cons_of_mem _ List.mem_cons_self)
  have hm0 := (zfy_194 (w := w) (j := a0) (ms := a1) (t := a2) (u := a3) (by omega) (by omega) (by omega) (by omega) (by omega) (by omega) (by omega) )
  have hm1 := (zfy_194 (w := w) (j := a5) (ms := a1) (t := (a2 + 1)) (u := a3) (by omega) (by omega) (by omega) (by omega) (by omega) (by omega) (by omega) )
  have kW : zh_e w 208 (a2) = zk_xe w 208 (a2) := by rw [zk_xe_r (i := 208) (by decide)]; rfl
  have hm : zk_xe w 2000194 a5 + 1 ≤ zk_xe w 2000194 a0 := by
    rw [hm0, hm1]
    exact zfm_1 (by omega) (by omega) (by rw [kW]; omega) (by omega)
  have hb := zfm_bd (f := zh_e w 208) (T := zh_e w 324) (ms := a1) (t := a2 + 1) (u := a3) (by omega) (by omega)
  rw [← hm1] at hb
  exact ⟨_, List.mem_cons_self, [zk_xe w 2000194 a5], rfl, (zx_bcons (by show (0 : Int) ≤ zk_xe w 2000194 a5 ∧ zk_xe w 2000194 a5 ≤ (53440958017832439646564561705196222029239164018978106920627711233511540207954304837050194421751320395096651610017378962363547943883968071894101874391252481320004 : Int); omega) zx_bnil), (zx_cs1 (by show 0 ≤ ((-1) : Int) + (1 * (zk_xe w 2000194 a0) + ((-1) * (zk_xe w 2000194 a5) + 0)); omega) zx_cs0), (zx_eF1 (by show 0 ≤ (0 : Int) + (1 * a5 + 0); omega) (by show zk_xe w 2000194 ((0 : Int) + (1 * a5 + 0)) = (0 : Int) + (1 * (zk_xe w 2000194 a5) + 0); rw [show (0 : Int) + (1 * a5 + 0) = a5 by omega]; omega) zx_eF0), zx_k0⟩
def zx_D1272 : zx_L := zx_Lc [] 5 [(2000194, 0)] [] [((0, 0), [(0, 1, 0), (1, 0, 1), (2, 0, 4294967296), (3, 0, 18446744073709551616)]), ((0, 4294967297), [(1, 0, 1), (2, 0, 4294967296), (3, 0, 18446744073709551616), (4, 1, 0)])] [((0, 0), [(1, 1, 0)]), ((4294967276, 0), [(1, 0, 1)]), ((0, 0), [(2, 1, 0)]), ((4294967276, 0), [(2, 0, 1)]), ((0, 0), [(3, 1, 0)]), ((4294967276, 0), [(3, 0, 1)]), ((20000, 0), [(1, 0, 1)])] [([(0, 53440958017832439646564561705196222029239164018978106920627711233511540207954304837050194421751320395096651610017378962363547943883968071894101874391252481320004)], [((0, 1), [(5, 1, 0), (6, 0, 1)])], [(2000194, ((0, 0), [(4, 1, 0)]), ((0, 0), [(6, 1, 0)]))], [])]
theorem zx_D1272_ok {PT : Nat → zz_W → Prop} : zx_Lok 64 zHT PT zx_D1272 := by
  refine zx_Lc_ok (fun w hI hK ins hl hr he hg => ?_)
  obtain ⟨a0, a1, a2, a3, a4, rfl⟩ := zx_i5 hl
  have e0 : (0 : Int) + (1 * a0 + ((-1) * a1 + ((-4294967296) * a2 + ((-18446744073709551616) * a3 + 0)))) = 0 := he _ List.mem_cons_self
  have e1 : ((-4294967297) : Int) + ((-1) * a1 + ((-4294967296) * a2 + ((-18446744073709551616) * a3 + (1 * a4 + 0)))) = 0 := he _ (List.mem_cons_of_mem _ List.mem_cons_self)
  have g0 : 0 ≤ (0 : Int) + (1 * a1 + 0) := hg _ List.mem_cons_self
  have g1 : 0 ≤ (4294967276 : Int) + ((-1) * a1 + 0) := hg _ (List.mem_cons_of_mem _ List.mem_cons_self)
  have g2 : 0 ≤ (0 : Int) + (1 * a2 + 0) := hg _ (List.mem_cons_of_mem _ (List.mem_cons_of_mem _ List.mem_cons_self))
  have g3 : 0 ≤ (4294967276 : Int) + ((-1) * a2 + 0) := hg _ (List.mem_cons_of_mem _ (List.mem_cons_of_mem _ (List.mem_cons_of_mem _ List.mem_cons_self)))
  have g4 : 0 ≤ (0 : Int) + (1 * a3 + 0) := hg _ (List.mem_cons_of_mem _ (List.mem_cons_of_mem _ (List.mem_cons_of_mem _ (List.mem_cons_of_mem _ List.mem_cons_self))))
  have g5 : 0 ≤ (4294967276 : Int) + ((-1) * a3 + 0) := hg _ (List.mem_cons_of_mem _ (List.mem_cons_of_mem _ (List.mem_cons_of_mem _ (List.mem_cons_of_mem _ (List.mem_cons_of_mem _ List.mem_cons_self)))))
  have g6 : 0 ≤ (20000 : Int) + ((-1) * a1 + 0) := hg _ (List.mem_cons_of_mem _ (List.mem_cons_of_mem _ (List.mem_cons_of_mem _ (List.mem_cons_of_mem _ (List.mem_cons_of_mem _ (List.mem_cons_of_mem _ List.mem_cons_self))))))
  have r0 : 0 ≤ a0 := hr _ List.mem_cons_self
  have hm0 := (zfy_194 (w := w) (j := a0) (ms := a1) (t := a2) (u := a3) (by omega) (by omega) (by omega) (by omega) (by omega) (by omega) (by omega) )
  have hm1 := (zfy_194 (w := w) (j := a4) (ms := (a1 + 1)) (t := (a2 + 1)) (u := a3) (by omega) (by omega) (by omega) (by omega) (by omega) (by omega) (by omega) )
  have hm : zk_xe w 2000194 a4 + 1 ≤ zk_xe w 2000194 a0 := by
    rw [hm0, hm1]
    exact zfm_3
  have hb := zfm_bd (f := zh_e w 208) (T := zh_e w 324) (ms := a1 + 1) (t := a2 + 1) (u := a3) (by omega) (by omega)
  rw [← hm1] at hb
  exact ⟨_, List.mem_cons_self, [zk_xe w 2000194 a4], rfl, (zx_bcons (by show (0 : Int) ≤ zk_xe w 2000194 a4 ∧ zk_xe w 2000194 a4 ≤ (53440958017832439646564561705196222029239164018978106920627711233511540207954304837050194421751320395096651610017378962363547943883968071894101874391252481320004 : Int); omega) zx_bnil), (zx_cs1 (by show 0 ≤ ((-1) : Int) + (1 * (zk_xe w 2000194 a0) + ((-1) * (zk_xe w 2000194 a4) + 0)); omega) zx_cs0), (zx_eF1 (by show 0 ≤ (0 : Int) + (1 * a4 + 0); omega) (by show zk_xe w 2000194 ((0 : Int) + (1 * a4 + 0)) = (0 : Int) + (1 * (zk_xe w 2000194 a4) + 0); rw [show (0 : Int) + (1 * a4 + 0) = a4 by omega]; omega) zx_eF0), zx_k0⟩
def zx_D1274 : zx_L := zx_Lc [] 6 [(2000176, 0), (2000190, 0), (2000189, 3), (215, 4), (217, 4), (207, 5)] [] [((0, 1), [(6, 1, 0)]), ((0, 1), [(7, 1, 0)]), ((0, 0), [(0, 0, 18446744073709551616), (1, 0, 1), (2, 0, 4294967296), (3, 1, 0)]), ((0, 0), [(4, 0, 1), (8, 1, 0)])] [((0, 0), [(0, 1, 0)]), ((4294967276, 0), [(0, 0, 1)]), ((0, 0), [(1, 1, 0)]), ((4294967276, 0), [(1, 0, 1)]), ((0, 0), [(2, 1, 0)]), ((4294967276, 0), [(2, 0, 1)]), ((0, 1), [(0, 1, 0), (1, 0, 1)]), ((0, 0), [(4, 1, 0)]), ((0, 3), [(9, 1, 0)]), ((0, 0), [(4, 1, 0), (5, 0, 64)]), ((63, 0), [(4, 0, 1), (5, 64, 0)])] [([], [((0, 0), [(5, 1, 0)]), ((0, 1), [(0, 1, 0), (5, 0, 1)]), ((0, 0), [(10, 1, 0)]), ((0, 2), [(10, 0, 1), (11, 1, 0)]), ((8000, 0), [(11, 0, 1)])], [], [])]
theorem zx_D1274_ok {PT : Nat → zz_W → Prop} : zx_Lok 64 zHT PT zx_D1274 := by
  refine zx_Lc_ok (fun w hI hK ins hl hr he hg => ?_)
  obtain ⟨a0, a1, a2, a3, a4, a5, rfl⟩ := zx_i6 hl
  have e0 : ((-1) : Int) + (1 * (zk_xe w 2000176 a0) + 0) = 0 := he _ List.mem_cons_self
  have e1 : ((-1) : Int) + (1 * (zk_xe w 2000190 a0) + 0) = 0 := he _ (List.mem_cons_of_mem _ List.mem_cons_self)
  have e2 : (0 : Int) + ((-18446744073709551616) * a0 + ((-1) * a1 + ((-4294967296) * a2 + (1 * a3 + 0)))) = 0 := he _ (List.mem_cons_of_mem _ (List.mem_cons_of_mem _ List.mem_cons_self))
  have e3 : (0 : Int) + ((-1) * a4 + (1 * (zk_xe w 2000189 a3) + 0)) = 0 := he _ (List.mem_cons_of_mem _ (List.mem_cons_of_mem _ (List.mem_cons_of_mem _ List.mem_cons_self)))
  have g0 : 0 ≤ (0 : Int) + (1 * a0 + 0) := hg _ List.mem_cons_self
  have g1 : 0 ≤ (4294967276 : Int) + ((-1) * a0 + 0) := hg _ (List.mem_cons_of_mem _ List.mem_cons_self)
  have g2 : 0 ≤ (0 : Int) + (1 * a1 + 0) := hg _ (List.mem_cons_of_mem _ (List.mem_cons_of_mem _ List.mem_cons_self))
  have g3 : 0 ≤ (4294967276 : Int) + ((-1) * a1 + 0) := hg _ (List.mem_cons_of_mem _ (List.mem_cons_of_mem _ (List.mem_cons_of_mem _ List.mem_cons_self)))
  have g4 : 0 ≤ (0 : Int) + (1 * a2 + 0) := hg _ (List.mem_cons_of_mem _ (List.mem_cons_of_mem _ (List.mem_cons_of_mem _ (List.mem_cons_of_mem _ List.mem_cons_self))))
  have g5 : 0 ≤ (4294967276 : Int) + ((-1) * a2 + 0) := hg _ (List.mem_cons_of_mem _ (List.mem_cons_of_mem _ (List.mem_cons_of_mem _ (List.mem_cons_of_mem _ (List.mem_cons_of_mem _ List.mem_cons_self)))))
  have g6 : 0 ≤ ((-1) : Int) + (1 * a0 + ((-1) * a1 + 0)) := hg _ (List.mem_cons_of_mem _ (List.mem_cons_of_mem _ (List.mem_cons_of_mem _ (List.mem_cons_of_mem _ (List.mem_cons_of_mem _ (List.mem_cons_of_mem _ List.mem_cons_self))))))
  have g7 : 0 ≤ (0 : Int) + (1 * a4 + 0) := hg _ (List.mem_cons_of_mem _ (List.mem_cons_of_mem _ (List.mem_cons_of_mem _ (List.mem_cons_of_mem _ (List.mem_cons_of_mem _ (List.mem_cons_of_mem _ (List.mem_cons_of_mem _ List.mem_cons_self)))))))
  have g8 : 0 ≤ ((-3) : Int) + (1 * (zk_xe w 215 a4) + 0) := hg _ (List.mem_cons_of_mem _ (List.mem_cons_of_mem _ (List.mem_cons_of_mem _ (List.mem_cons_of_mem _ (List.mem_cons_of_mem _ (List.mem_cons_of_mem _ (List.mem_cons_of_mem _ (List.mem_cons_of_mem _ List.mem_cons_self))))))))
  have g9 : 0 ≤ (0 : Int) + (1 * a4 + ((-64) * a5 + 0)) := hg _ (List.mem_cons_of_mem _ (List.mem_cons_of_mem _ (List.mem_cons_of_mem _ (List.mem_cons_of_mem _ (List.mem_cons_of_mem _ (List.mem_cons_of_mem _ (List.mem_cons_of_mem _ (List.mem_cons_of_mem _ (List.mem_cons_of_mem _ List.mem_cons_self)))))))))
  have g10 : 0 ≤ (63 : Int) + ((-1) * a4 + (64 * a5 + 0)) := hg _ (List.mem_cons_of_mem _ (List.mem_cons_of_mem _ (List.mem_cons_of_mem _ (List.mem_cons_of_mem _ (List.mem_cons_of_mem _ (List.mem_cons_of_mem _ (List.mem_cons_of_mem _ (List.mem_cons_of_mem _ (List.mem_cons_of_mem _ (List.mem_cons_of_mem _ List.mem_cons_self))))))))))
  have r0 : 0 ≤ a0 := hr _ List.mem_cons_self
  have r1 : 0 ≤ a0 := hr _ (List.mem_cons_of_mem _ List.mem_cons_self)
  have r2 : 0 ≤ a3 := hr _ (List.mem_cons_of_mem _ (List.mem_cons_of_mem _ List.mem_cons_self))
  have r3 : 0 ≤ a4 := hr _ (List.mem_cons_of_mem _ (List.mem_cons_of_mem _ (List.mem_cons_of_mem _ List.mem_cons_self)))
  have r4 : 0 ≤ a4 := hr _ (List.mem_cons_of_mem _ (List.mem_cons_of_mem _ (List.mem_cons_of_mem _ (List.mem_cons_of_mem _ List.mem_cons_self))))
  have r5 : 0 ≤ a5 := hr _ (List.mem_cons_of_mem _ (List.mem_cons_of_mem _ (List.mem_cons_of_mem _ (List.mem_cons_of_mem _ (List.mem_cons_of_mem _ List.mem_cons_self)))))
  have ha := zh_b1' (zfo_190.symm.trans (show zk_xe w 2000190 a0 = 1 by omega))
  have hsh := fun v v0 v1 => (zc_176 (w := w) (j := a0) (n := a0) (by omega) (by omega) (by omega) ).mp (by omega) v v0 v1 (ha v v0 v1)
  have hD := (zfo_189 (w := w) (j := a3) (u := a1) (x := a2) (n := a0) (by omega) (by omega) (by omega) (by omega) (by omega) (by omega) (by omega) )
  obtain ⟨v, i, v0, v1, i0, i1, i2, -⟩ := zfo_dr (D := zh_e w 214) (c := zh_e w 213) (u := a1) (x := a2) (n := a0) (by omega) (by omega) (by rw [← hD]; omega)
  rw [← hD] at i2
  have hq := hsh v v0 v1
  have hc := hq.2.2.2.2.1
  have ed : a4 = 64 * v + i := by omega
  have e5 : v = a5 := by omega
  have hk := (hq.2.2.2.2.2 i i0 i1).2.2
  have hk : 3 ≤ zh_e w 215 (64 * v + i) → 0 ≤ zh_e w 217 (64 * v + i) ∧ zh_e w 217 (64 * v + i) + 1 < zh_e w 207 v ∧ zh_e w 208 (8000 * v + zh_e w 217 (64 * v + i)) = 0 := hk
  have h8 := hq.1.2
  rw [← ed, e5] at hk
  rw [e5] at h8
  have kK : zh_e w 215 (a4) = zk_xe w 215 (a4) := by rw [zk_xe_r (i := 215) (by decide)]; rfl
  have kP : zh_e w 217 (a4) = zk_xe w 217 (a4) := by rw [zk_xe_r (i := 217) (by decide)]; rfl
  have kS : zh_e w 207 (a5) = zk_xe w 207 (a5) := by rw [zk_xe_r (i := 207) (by decide)]; rfl
  have hk := hk (by rw [kK]; omega)
  rw [kP, kS] at hk
  rw [kS] at h8
  exact ⟨_, List.mem_cons_self, [], rfl, zx_bnil, (zx_cs1 (by show 0 ≤ (0 : Int) + (1 * a5 + 0); omega) (zx_cs1 (by show 0 ≤ ((-1) : Int) + (1 * a0 + ((-1) * a5 + 0)); omega) (zx_cs1 (by show 0 ≤ (0 : Int) + (1 * (zk_xe w 217 a4) + 0); omega) (zx_cs1 (by show 0 ≤ ((-2) : Int) + ((-1) * (zk_xe w 217 a4) + (1 * (zk_xe w 207 a5) + 0)); omega) (zx_cs1 (by show 0 ≤ (8000 : Int) + ((-1) * (zk_xe w 207 a5) + 0); omega) zx_cs0))))), zx_eF0, zx_k0⟩
def zx_D1275 : zx_L := zx_Lc [] 13 [(2000193, 0), (2000192, 3), (2000176, 3), (2000190, 3), (208, 1), (211, 1), (324, 2), (325, 2), (215, 6), (217, 6), (2000189, 5), (2000194, 8)] [] [((0, 0), [(0, 1, 0), (1, 0, 1), (2, 0, 4294967296), (3, 0, 18446744073709551616)]), ((0, 1), [(13, 1, 0)]), ((0, 1), [(14, 1, 0)]), ((0, 1), [(15, 1, 0)]), ((0, 1), [(16, 1, 0)]), ((0, 8), [(17, 1, 0)]), ((0, 1), [(1, 0, 1), (19, 1, 0)]), ((0, 0), [(18, 0, 1), (20, 1, 0)]), ((0, 0), [(3, 0, 18446744073709551616), (4, 0, 1), (5, 1, 0), (12, 0, 4294967296)]), ((0, 0), [(6, 0, 1), (23, 1, 0)]), ((0, 4294967297), [(2, 0, 4294967296), (3, 0, 18446744073709551616), (7, 1, 0), (11, 0, 8000), (22, 0, 1)]), ((0, 0), [(1, 0, 4294967296), (2, 0, 18446744073709551616), (8, 1, 0), (9, 0, 1)]), ((0, 18446744078004518912), [(2, 0, 18446744073709551616), (9, 0, 1), (10, 1, 0), (11, 0, 34359738368000), (22, 0, 4294967296)])] [((0, 0), [(1, 1, 0)]), ((4294967276, 0), [(1, 0, 1)]), ((0, 0), [(2, 1, 0)]), ((4294967276, 0), [(2, 0, 1)]), ((0, 0), [(3, 1, 0)]), ((4294967276, 0), [(3, 0, 1)]), ((0, 0), [(9, 1, 0)]), ((4294967276, 0), [(9, 0, 1)]), ((0, 0), [(12, 1, 0)]), ((4294967276, 0), [(12, 0, 1)]), ((0, 0), [(4, 1, 0)]), ((4294967276, 0), [(4, 0, 1)]), ((0, 1), [(3, 1, 0), (4, 0, 1)]), ((0, 0), [(6, 1, 0)]), ((0, 3), [(21, 1, 0)]), ((0, 0), [(6, 1, 0), (11, 0, 64)]), ((63, 0), [(6, 0, 1), (11, 64, 0)]), ((0, 1), [(2, 1, 0)]), ((39, 0), [(2, 0, 1)]), ((20000, 0), [(9, 0, 1)]), ((6, 0), [(3, 0, 1)])] [([(0, 53440958017832439646564561705196222029239164018978106920627711233511540207954304837050194421751320395096651610017378962363547943883968071894101874391252481320004)], [((0, 1), [(24, 1, 0), (25, 0, 1)])], [(2000193, ((0, 0), [(7, 1, 0)]), ((1, 0), [])), (2000194, ((0, 0), [(10, 1, 0)]), ((0, 0), [(25, 1, 0)]))], [])]
theorem zx_D1275_ok {PT : Nat → zz_W → Prop} : zx_Lok 64 zHT PT zx_D1275 := by
  refine zx_Lc_ok (fun w hI hK ins hl hr he hg => ?_)
  obtain ⟨a0, a1, a2, a3, a4, a5, a6, a7, a8, a9, a10, a11, a12, rfl⟩ := zx_i13 hl
  have e0 : (0 : Int) + (1 * a0 + ((-1) * a1 + ((-4294967296) * a2 + ((-18446744073709551616) * a3 + 0)))) = 0 := he _ List.mem_cons_self
  have e1 : ((-1) : Int) + (1 * (zk_xe w 2000193 a0) + 0) = 0 := he _ (List.mem_cons_of_mem _ List.mem_cons_self)
  have e2 : ((-1) : Int) + (1 * (zk_xe w 2000192 a3) + 0) = 0 := he _ (List.mem_cons_of_mem _ (List.mem_cons_of_mem _ List.mem_cons_self))
  have e3 : ((-1) : Int) + (1 * (zk_xe w 2000176 a3) + 0) = 0 := he _ (List.mem_cons_of_mem _ (List.mem_cons_of_mem _ (List.mem_cons_of_mem _ List.mem_cons_self)))
  have e4 : ((-1) : Int) + (1 * (zk_xe w 2000190 a3) + 0) = 0 := he _ (List.mem_cons_of_mem _ (List.mem_cons_of_mem _ (List.mem_cons_of_mem _ (List.mem_cons_of_mem _ List.mem_cons_self))))
  have e5 : ((-8) : Int) + (1 * (zk_xe w 208 a1) + 0) = 0 := he _ (List.mem_cons_of_mem _ (List.mem_cons_of_mem _ (List.mem_cons_of_mem _ (List.mem_cons_of_mem _ (List.mem_cons_of_mem _ List.mem_cons_self)))))
  have e6 : ((-1) : Int) + ((-1) * a1 + (1 * (zk_xe w 324 a2) + 0)) = 0 := he _ (List.mem_cons_of_mem _ (List.mem_cons_of_mem _ (List.mem_cons_of_mem _ (List.mem_cons_of_mem _ (List.mem_cons_of_mem _ (List.mem_cons_of_mem _ List.mem_cons_self))))))
  have e7 : (0 : Int) + ((-1) * (zk_xe w 211 a1) + (1 * (zk_xe w 325 a2) + 0)) = 0 := he _ (List.mem_cons_of_mem _ (List.mem_cons_of_mem _ (List.mem_cons_of_mem _ (List.mem_cons_of_mem _ (List.mem_cons_of_mem _ (List.mem_cons_of_mem _ (List.mem_cons_of_mem _ List.mem_cons_self)))))))
  have e8 : (0 : Int) + ((-18446744073709551616) * a3 + ((-1) * a4 + (1 * a5 + ((-4294967296) * a12 + 0)))) = 0 := he _ (List.mem_cons_of_mem _ (List.mem_cons_of_mem _ (List.mem_cons_of_mem _ (List.mem_cons_of_mem _ (List.mem_cons_of_mem _ (List.mem_cons_of_mem _ (List.mem_cons_of_mem _ (List.mem_cons_of_mem _ List.mem_cons_self))))))))
  have e9 : (0 : Int) + ((-1) * a6 + (1 * (zk_xe w 2000189 a5) + 0)) = 0 := he _ (List.mem_cons_of_mem _ (List.mem_cons_of_mem _ (List.mem_cons_of_mem _ (List.mem_cons_of_mem _ (List.mem_cons_of_mem _ (List.mem_cons_of_mem _ (List.mem_cons_of_mem _ (List.mem_cons_of_mem _ (List.mem_cons_of_mem _ List.mem_cons_self)))))))))
  have e10 : ((-4294967297) : Int) + ((-4294967296) * a2 + ((-18446744073709551616) * a3 + (1 * a7 + ((-8000) * a11 + ((-1) * (zk_xe w 217 a6) + 0))))) = 0 := he _ (List.mem_cons_of_mem _ (List.mem_cons_of_mem _ (List.mem_cons_of_mem _ (List.mem_cons_of_mem _ (List.mem_cons_of_mem _ (List.mem_cons_of_mem _ (List.mem_cons_of_mem _ (List.mem_cons_of_mem _ (List.mem_cons_of_mem _ (List.mem_cons_of_mem _ List.mem_cons_self))))))))))
  have e11 : (0 : Int) + ((-4294967296) * a1 + ((-18446744073709551616) * a2 + (1 * a8 + ((-1) * a9 + 0)))) = 0 := he _ (List.mem_cons_of_mem _ (List.mem_cons_of_mem _ (List.mem_cons_of_mem _ (List.mem_cons_of_mem _ (List.mem_cons_of_mem _ (List.mem_cons_of_mem _ (List.mem_cons_of_mem _ (List.mem_cons_of_mem _ (List.mem_cons_of_mem _ (List.mem_cons_of_mem _ (List.mem_cons_of_mem _ List.mem_cons_self)))))))))))
  have e12 : ((-18446744078004518912) : Int) + ((-18446744073709551616) * a2 + ((-1) * a9 + (1 * a10 + ((-34359738368000) * a11 + ((-4294967296) * (zk_xe w 217 a6) + 0))))) = 0 := he _ (List.mem_cons_of_mem _ (List.mem_cons_of_mem _ (List.mem_cons_of_mem _ (List.mem_cons_of_mem _ (List.mem_cons_of_mem _ (List.mem_cons_of_mem _ (List.mem_cons_of_mem _ (List.mem_cons_of_mem _ (List.mem_cons_of_mem _ (List.mem_cons_of_mem _ (List.mem_cons_of_mem _ (List.mem_cons_of_mem _ List.mem_cons_self))))))))))))
  have g0 : 0 ≤ (0 : Int) + (1 * a1 + 0) := hg _ List.mem_cons_self
  have g1 : 0 ≤ (4294967276 : Int) + ((-1) * a1 + 0) := hg _ (List.mem_cons_of_mem _ List.mem_cons_self)
  have g2 : 0 ≤ (0 : Int) + (1 * a2 + 0) := hg _ (List.mem_cons_of_mem _ (List.mem_cons_of_mem _ List.mem_cons_self))
  have g3 : 0 ≤ (4294967276 : Int) + ((-1) * a2 + 0) := hg _ (List.mem_cons_of_mem _ (List.mem_cons_of_mem _ (List.mem_cons_of_mem _ List.mem_cons_self)))
  have g4 : 0 ≤ (0 : Int) + (1 * a3 + 0) := hg _ (List.mem_cons_of_mem _ (List.mem_cons_of_mem _ (List.mem_cons_of_mem _ (List.mem_cons_of_mem _ List.mem_cons_self))))
  have g5 : 0 ≤ (4294967276 : Int) + ((-1) * a3 + 0) := hg _ (List.mem_cons_of_mem _ (List.mem_cons_of_mem _ (List.mem_cons_of_mem _ (List.mem_cons_of_mem _ (List.mem_cons_of_mem _ List.mem_cons_self)))))
  have g6 : 0 ≤ (0 : Int) + (1 * a9 + 0) := hg _ (List.mem_cons_of_mem _ (List.mem_cons_of_mem _ (List.mem_cons_of_mem _ (List.mem_cons_of_mem _ (List.mem_cons_of_mem _ (List.mem_cons_of_mem _ List.mem_cons_self))))))
  have g7 : 0 ≤ (4294967276 : Int) + ((-1) * a9 + 0) := hg _ (List.mem_cons_of_mem _ (List.mem_cons_of_mem _ (List.mem_cons_of_mem _ (List.mem_cons_of_mem _ (List.mem_cons_of_mem _ (List.mem_cons_of_mem _ (List.mem_cons_of_mem _ List.mem_cons_self)))))))
  have g8 : 0 ≤ (0 : Int) + (1 * a12 + 0) := hg _ (List.mem_cons_of_mem _ (List.mem_cons_of_mem _ (List.mem_cons_of_mem _ (List.mem_cons_of_mem _ (List.mem_cons_of_mem _ (List.mem_cons_of_mem _ (List.mem_cons_of_mem _ (List.mem_cons_of_mem _ List.mem_cons_self))))))))
  have g9 : 0 ≤ (4294967276 : Int) + ((-1) * a12 + 0) := hg _ (List.mem_cons_of_mem _ (List.mem_cons_of_mem _ (List.mem_cons_of_mem _ (List.mem_cons_of_mem _ (List.mem_cons_of_mem _ (List.mem_cons_of_mem _ (List.mem_cons_of_mem _ (List.mem_cons_of_mem _ (List.mem_cons_of_mem _ List.mem_cons_self)))))))))
  have g10 : 0 ≤ (0 : Int) + (1 * a4 + 0) := hg _ (List.mem_cons_of_mem _ (List.mem_cons_of_mem _ (List.mem_cons_of_mem _ (List.mem_cons_of_mem _ (List.mem_cons_of_mem _ (List.mem_cons_of_mem _ (List.mem_cons_of_mem _ (List.mem_cons_of_mem _ (List.mem_cons_of_mem _ (List.mem_cons_of_mem _ List.mem_cons_self))))))))))
  have g11 : 0 ≤ (4294967276 : Int) + ((-1) * a4 + 0) := hg _ (List.mem_cons_of_mem _ (List.mem_cons_of_mem _ (List.mem_cons_of_mem _ (List.mem_cons_of_mem _ (List.mem_cons_of_mem _ (List.mem_cons_of_mem _ (List.mem_cons_of_mem _ (List.mem_cons_of_mem _ (List.mem_cons_of_mem _ (List.mem_cons_of_mem _ (List.mem_cons_of_mem _ List.mem_cons_self)))))))))))
  have g12 : 0 ≤ ((-1) : Int) + (1 * a3 + ((-1) * a4 + 0)) := hg _ (List.mem_cons_of_mem _ (List.mem_cons_of_mem _ (List.mem_cons_of_mem _ (List.mem_cons_of_mem _ (List.mem_cons_of_mem _ (List.mem_cons_of_mem _ (List.mem_cons_of_mem _ (List.mem_cons_of_mem _ (List.mem_cons_of_mem _ (List.mem_cons_of_mem _ (List.mem_cons_of_mem _ (List.mem_cons_of_mem _ List.mem_cons_self))))))))))))
  have g13 : 0 ≤ (0 : Int) + (1 * a6 + 0) := hg _ (List.mem_cons_of_mem _ (List.mem_cons_of_mem _ (List.mem_cons_of_mem _ (List.mem_cons_of_mem _ (List.mem_cons_of_mem _ (List.mem_cons_of_mem _ (List.mem_cons_of_mem _ (List.mem_cons_of_mem _ (List.mem_cons_of_mem _ (List.mem_cons_of_mem _ (List.mem_cons_of_mem _ (List.mem_cons_of_mem _ (List.mem_cons_of_mem _ List.mem_cons_self)))))))))))))
  have g14 : 0 ≤ ((-3) : Int) + (1 * (zk_xe w 215 a6) + 0) := hg _ (List.mem_cons_of_mem _ (List.mem_cons_of_mem _ (List.mem_cons_of_mem _ (List.mem_cons_of_mem _ (List.mem_cons_of_mem _ (List.mem_cons_of_mem _ (List.mem_cons_of_mem _ (List.mem_cons_of_mem _ (List.mem_cons_of_mem _ (List.mem_cons_of_mem _ (List.mem_cons_of_mem _ (List.mem_cons_of_mem _ (List.mem_cons_of_mem _ (List.mem_cons_of_mem _ List.mem_cons_self))))))))))))))
  have g15 : 0 ≤ (0 : Int) + (1 * a6 + ((-64) * a11 + 0)) := hg _ (List.mem_cons_of_mem _ (List.mem_cons_of_mem _ (List.mem_cons_of_mem _ (List.mem_cons_of_mem _ (List.mem_cons_of_mem _ (List.mem_cons_of_mem _ (List.mem_cons_of_mem _ (List.mem_cons_of_mem _ (List.mem_cons_of_mem _ (List.mem_cons_of_mem _ (List.mem_cons_of_mem _ (List.mem_cons_of_mem _ (List.mem_cons_of_mem _ (List.mem_cons_of_mem _ (List.mem_cons_of_mem _ List.mem_cons_self)))))))))))))))
  have g16 : 0 ≤ (63 : Int) + ((-1) * a6 + (64 * a11 + 0)) := hg _ (List.mem_cons_of_mem _ (List.mem_cons_of_mem _ (List.mem_cons_of_mem _ (List.mem_cons_of_mem _ (List.mem_cons_of_mem _ (List.mem_cons_of_mem _ (List.mem_cons_of_mem _ (List.mem_cons_of_mem _ (List.mem_cons_of_mem _ (List.mem_cons_of_mem _ (List.mem_cons_of_mem _ (List.mem_cons_of_mem _ (List.mem_cons_of_mem _ (List.mem_cons_of_mem _ (List.mem_cons_of_mem _ (List.mem_cons_of_mem _ List.mem_cons_self))))))))))))))))
  have g17 : 0 ≤ ((-1) : Int) + (1 * a2 + 0) := hg _ (List.mem_cons_of_mem _ (List.mem_cons_of_mem _ (List.mem_cons_of_mem _ (List.mem_cons_of_mem _ (List.mem_cons_of_mem _ (List.mem_cons_of_mem _ (List.mem_cons_of_mem _ (List.mem_cons_of_mem _ (List.mem_cons_of_mem _ (List.mem_cons_of_mem _ (List.mem_cons_of_mem _ (List.mem_cons_of_mem _ (List.mem_cons_of_mem _ (List.mem_cons_of_mem _ (List.mem_cons_of_mem _ (List.mem_cons_of_mem _ (List.mem_cons_of_mem _ List.mem_cons_self)))))))))))))))))
  have g18 : 0 ≤ (39 : Int) + ((-1) * a2 + 0) := hg _ (List.mem_cons_of_mem _ (List.mem_cons_of_mem _ (List.mem_cons_of_mem _ (List.mem_cons_of_mem _ (List.mem_cons_of_mem _ (List.mem_cons_of_mem _ (List.mem_cons_of_mem _ (List.mem_cons_of_mem _ (List.mem_cons_of_mem _ (List.mem_cons_of_mem _ (List.mem_cons_of_mem _ (List.mem_cons_of_mem _ (List.mem_cons_of_mem _ (List.mem_cons_of_mem _ (List.mem_cons_of_mem _ (List.mem_cons_of_mem _ (List.mem_cons_of_mem _ (List.mem_cons_of_mem _ List.mem_cons_self))))))))))))))))))
  have g19 : 0 ≤ (20000 : Int) + ((-1) * a9 + 0) := hg _ (List.mem_cons_of_mem _ (List.mem_cons_of_mem _ (List.mem_cons_of_mem _ (List.mem_cons_of_mem _ (List.mem_cons_of_mem _ (List.mem_cons_of_mem _ (List.mem_cons_of_mem _ (List.mem_cons_of_mem _ (List.mem_cons_of_mem _ (List.mem_cons_of_mem _ (List.mem_cons_of_mem _ (List.mem_cons_of_mem _ (List.mem_cons_of_mem _ (List.mem_cons_of_mem _ (List.mem_cons_of_mem _ (List.mem_cons_of_mem _ (List.mem_cons_of_mem _ (List.mem_cons_of_mem _ (List.mem_cons_of_mem _ List.mem_cons_self)))))))))))))))))))
  have g20 : 0 ≤ (6 : Int) + ((-1) * a3 + 0) := hg _ (List.mem_cons_of_mem _ (List.mem_cons_of_mem _ (List.mem_cons_of_mem _ (List.mem_cons_of_mem _ (List.mem_cons_of_mem _ (List.mem_cons_of_mem _ (List.mem_cons_of_mem _ (List.mem_cons_of_mem _ (List.mem_cons_of_mem _ (List.mem_cons_of_mem _ (List.mem_cons_of_mem _ (List.mem_cons_of_mem _ (List.mem_cons_of_mem _ (List.mem_cons_of_mem _ (List.mem_cons_of_mem _ (List.mem_cons_of_mem _ (List.mem_cons_of_mem _ (List.mem_cons_of_mem _ (List.mem_cons_of_mem _ (List.mem_cons_of_mem _ List.mem_cons_self))))))))))))))))))))
  have r0 : 0 ≤ a0 := hr _ List.mem_cons_self
  have r1 : 0 ≤ a3 := hr _ (List.mem_cons_of_mem _ List.mem_cons_self)
  have r2 : 0 ≤ a3 := hr _ (List.mem_cons_of_mem _ (List.mem_cons_of_mem _ List.mem_cons_self))
  have r3 : 0 ≤ a3 := hr _ (List.mem_cons_of_mem _ (List.mem_cons_of_mem _ (List.mem_cons_of_mem _ List.mem_cons_self)))
  have r4 : 0 ≤ a1 := hr _ (List.mem_cons_of_mem _ (List.mem_cons_of_mem _ (List.mem_cons_of_mem _ (List.mem_cons_of_mem _ List.mem_cons_self))))
  have r5 : 0 ≤ a1 := hr _ (List.mem_cons_of_mem _ (List.mem_cons_of_mem _ (List.mem_cons_of_mem _ (List.mem_cons_of_mem _ (List.mem_cons_of_mem _ List.mem_cons_self)))))
  have r6 : 0 ≤ a2 := hr _ (List.mem_cons_of_mem _ (List.mem_cons_of_mem _ (List.mem_cons_of_mem _ (List.mem_cons_of_mem _ (List.mem_cons_of_mem _ (List.mem_cons_of_mem _ List.mem_cons_self))))))
  have r7 : 0 ≤ a2 := hr _ (List.mem_cons_of_mem _ (List.mem_cons_of_mem _ (List.mem_cons_of_mem _ (List.mem_cons_of_mem _ (List.mem_cons_of_mem _ (List.mem_cons_of_mem _ (List.mem_cons_of_mem _ List.mem_cons_self)))))))
  have r8 : 0 ≤ a6 := hr _ (List.mem_cons_of_mem _ (List.mem_cons_of_mem _ (List.mem_cons_of_mem _ (List.mem_cons_of_mem _ (List.mem_cons_of_mem _ (List.mem_cons_of_mem _ (List.mem_cons_of_mem _ (List.mem_cons_of_mem _ List.mem_cons_self))))))))
  have r9 : 0 ≤ a6 := hr _ (List.mem_cons_of_mem _ (List.mem_cons_of_mem _ (List.mem_cons_of_mem _ (List.mem_cons_of_mem _ (List.mem_cons_of_mem _ (List.mem_cons_of_mem _ (List.mem_cons_of_mem _ (List.mem_cons_of_mem _ (List.mem_cons_of_mem _ List.mem_cons_self)))))))))
  have r10 : 0 ≤ a5 := hr _ (List.mem_cons_of_mem _ (List.mem_cons_of_mem _ (List.mem_cons_of_mem _ (List.mem_cons_of_mem _ (List.mem_cons_of_mem _ (List.mem_cons_of_mem _ (List.mem_cons_of_mem _ (List.mem_cons_of_mem _ (List.mem_cons_of_mem _ (List.mem_cons_of_mem _ List.mem_cons_self))))))))))
  have r11 : 0 ≤ a8 := hr _ (List.mem_cons_of_mem _ (List.mem_cons_of_mem _ (List.mem_cons_of_mem _ (List.mem_cons_of_mem _ (List.mem_cons_of_mem _ (List.mem_cons_of_mem _ (List.mem_cons_of_mem _ (List.mem_cons_of_mem _ (List.mem_cons_of_mem _ (List.mem_cons_of_mem _ (List.mem_cons_of_mem _ List.mem_cons_self)))))))))))
  have hd := (zfy_193 (w := w) (j := a0) (t := a1) (u := a2) (n := a3) (by omega) (by omega) (by omega) (by omega) (by omega) (by omega) (by omega) ).mp (by omega)
  have hS := zfy_Sw (w := w) (n := a3) (by omega) (by omega) (by omega) (by omega) (by omega) 
  have kW : zh_e w 208 (a1) = zk_xe w 208 (a1) := by rw [zk_xe_r (i := 208) (by decide)]; rfl
  have ha := zh_b1' (zfo_190.symm.trans (show zk_xe w 2000190 a3 = 1 by omega))
  have hsh := fun v v0 v1 => (zc_176 (w := w) (j := a3) (n := a3) (by omega) (by omega) (by omega) ).mp (by omega) v v0 v1 (ha v v0 v1)
  have hD := (zfo_189 (w := w) (j := a5) (u := a4) (x := a12) (n := a3) (by omega) (by omega) (by omega) (by omega) (by omega) (by omega) (by omega) )
  obtain ⟨v, i, v0, v1, i0, i1, i2, -⟩ := zfo_dr (D := zh_e w 214) (c := zh_e w 213) (u := a4) (x := a12) (n := a3) (by omega) (by omega) (by rw [← hD]; omega)
  rw [← hD] at i2
  have hq := hsh v v0 v1
  have hc := hq.2.2.2.2.1
  have ed : a6 = 64 * v + i := by omega
  have e5 : v = a11 := by omega
  have hk := (hq.2.2.2.2.2 i i0 i1).2.2
  have hk : 3 ≤ zh_e w 215 (64 * v + i) → 0 ≤ zh_e w 217 (64 * v + i) ∧ zh_e w 217 (64 * v + i) + 1 < zh_e w 207 v ∧ zh_e w 208 (8000 * v + zh_e w 217 (64 * v + i)) = 0 := hk
  have h8 := hq.1.2
  rw [← ed, e5] at hk
  rw [e5] at h8 v0 v1
  have kK : zh_e w 215 (a6) = zk_xe w 215 (a6) := by rw [zk_xe_r (i := 215) (by decide)]; rfl
  have kP : zh_e w 217 (a6) = zk_xe w 217 (a6) := by rw [zk_xe_r (i := 217) (by decide)]; rfl
  have hk := hk (by rw [kK]; omega)
  rw [kP] at hk
  have kC : zh_e w 211 (a1) = zk_xe w 211 (a1) := by rw [zk_xe_r (i := 211) (by decide)]; rfl
  have kT : zh_e w 324 (a2) = zk_xe w 324 (a2) := by rw [zk_xe_r (i := 324) (by decide)]; rfl
  have kQ : zh_e w 325 (a2) = zk_xe w 325 (a2) := by rw [zk_xe_r (i := 325) (by decide)]; rfl
  have yv : (8000 * a11 + zk_xe w 217 a6) / 8000 = a11 := by omega
  have yp : zfy_p (zh_e w 207) a3 (8000 * a11 + zk_xe w 217 a6) := ⟨by omega, by rw [yv]; exact v1, by rw [yv]; omega⟩
  have h := zfy_t5 hd hS (by omega) (by rw [kW]; omega) (fun _ _ _ => rfl) (fun _ _ _ => rfl) (by rw [kT]; omega) (by rw [kQ, kC]; omega) yp hk.2.2
  obtain ⟨-, nv⟩ := zfy_nx hS hd.1 (by rw [kW]; omega)
  have hm0 := (zfy_194 (w := w) (j := a8) (ms := a9) (t := a1) (u := a2) (by omega) (by omega) (by omega) (by omega) (by omega) (by omega) (by omega) )
  have hm1 := (zfy_194 (w := w) (j := a10) (ms := a9) (t := (8000 * a11 + zk_xe w 217 a6 + 1)) (u := (a2 + 1)) (by omega) (by omega) (by omega) (by omega) (by omega) (by omega) (by omega) )
  have hm : zk_xe w 2000194 a10 + 1 ≤ zk_xe w 2000194 a8 := by
    rw [hm0, hm1]
    exact zfm_4 (by omega) (by omega) (by rw [kW]; omega) (fun _ _ _ => rfl) (by rw [kT]; omega) nv
  have hb := zfm_bd (f := zh_e w 208) (T := zh_e w 324) (ms := a9) (t := 8000 * a11 + zk_xe w 217 a6 + 1) (u := a2 + 1) (by omega) (by omega)
  rw [← hm1] at hb
  exact ⟨_, List.mem_cons_self, [zk_xe w 2000194 a10], rfl, (zx_bcons (by show (0 : Int) ≤ zk_xe w 2000194 a10 ∧ zk_xe w 2000194 a10 ≤ (53440958017832439646564561705196222029239164018978106920627711233511540207954304837050194421751320395096651610017378962363547943883968071894101874391252481320004 : Int); omega) zx_bnil), (zx_cs1 (by show 0 ≤ ((-1) : Int) + (1 * (zk_xe w 2000194 a8) + ((-1) * (zk_xe w 2000194 a10) + 0)); omega) zx_cs0), (zx_eF1 (by show 0 ≤ (0 : Int) + (1 * a7 + 0); omega) (by show zk_xe w 2000193 ((0 : Int) + (1 * a7 + 0)) = (1 : Int) + (0); rw [show (0 : Int) + (1 * a7 + 0) = a7 by omega]; exact ((zfy_193 (w := w) (j := a7) (t := (8000 * a11 + zk_xe w 217 a6 + 1)) (u := (a2 + 1)) (n := a3) (by omega) (by omega) (by omega) (by omega) (by omega) (by omega) (by omega) ).mpr h).trans (by omega)) (zx_eF1 (by show 0 ≤ (0 : Int) + (1 * a10 + 0); omega) (by show zk_xe w 2000194 ((0 : Int) + (1 * a10 + 0)) = (0 : Int) + (1 * (zk_xe w 2000194 a10) + 0); rw [show (0 : Int) + (1 * a10 + 0) = a10 by omega]; omega) zx_eF0)), zx_k0⟩
def zx_D1276 : zx_L := zx_Lc [] 7 [(2000176, 0), (2000190, 0), (2000192, 0), (2000189, 3), (215, 4), (217, 4)] [] [((0, 1), [(7, 1, 0)]), ((0, 1), [(8, 1, 0)]), ((0, 1), [(9, 1, 0)]), ((0, 0), [(0, 0, 18446744073709551616), (1, 0, 1), (2, 0, 4294967296), (3, 1, 0)]), ((0, 0), [(4, 0, 1), (10, 1, 0)]), ((0, 4294967297), [(0, 0, 18446744073709551616), (5, 0, 8000), (6, 1, 0), (12, 0, 1)])] [((0, 0), [(0, 1, 0)]), ((4294967276, 0), [(0, 0, 1)]), ((0, 0), [(1, 1, 0)]), ((4294967276, 0), [(1, 0, 1)]), ((0, 0), [(2, 1, 0)]), ((4294967276, 0), [(2, 0, 1)]), ((0, 1), [(0, 1, 0), (1, 0, 1)]), ((0, 0), [(4, 1, 0)]), ((0, 3), [(11, 1, 0)]), ((0, 0), [(4, 1, 0), (5, 0, 64)]), ((63, 0), [(4, 0, 1), (5, 64, 0)]), ((6, 0), [(0, 0, 1)])] [([], [], [(2000193, ((0, 0), [(6, 1, 0)]), ((1, 0), []))], [])]
theorem zx_D1276_ok {PT : Nat → zz_W → Prop} : zx_Lok 64 zHT PT zx_D1276 := by
  refine zx_Lc_ok (fun w hI hK ins hl hr he hg => ?_)
  obtain ⟨a0, a1, a2, a3, a4, a5, a6, rfl⟩ := zx_i7 hl
  have e0 : ((-1) : Int) + (1 * (zk_xe w 2000176 a0) + 0) = 0 := he _ List.mem_cons_self
  have e1 : ((-1) : Int) + (1 * (zk_xe w 2000190 a0) + 0) = 0 := he _ (List.mem_cons_of_mem _ List.mem_cons_self)
  have e2 : ((-1) : Int) + (1 * (zk_xe w 2000192 a0) + 0) = 0 := he _ (List.mem_cons_of_mem _ (List.mem_cons_of_mem _ List.mem_cons_self))
  have e3 : (0 : Int) + ((-18446744073709551616) * a0 + ((-1) * a1 + ((-4294967296) * a2 + (1 * a3 + 0)))) = 0 := he _ (List.mem_cons_of_mem _ (List.mem_cons_of_mem _ (List.mem_cons_of_mem _ List.mem_cons_self)))
  have e4 : (0 : Int) + ((-1) * a4 + (1 * (zk_xe w 2000189 a3) + 0)) = 0 := he _ (List.mem_cons_of_mem _ (List.mem_cons_of_mem _ (List.mem_cons_of_mem _ (List.mem_cons_of_mem _ List.mem_cons_self))))
  have e5 : ((-4294967297) : Int) + ((-18446744073709551616) * a0 + ((-8000) * a5 + (1 * a6 + ((-1) * (zk_xe w 217 a4) + 0)))) = 0 := he _ (List.mem_cons_of_mem _ (List.mem_cons_of_mem _ (List.mem_cons_of_mem _ (List.mem_cons_of_mem _ (List.mem_cons_of_mem _ List.mem_cons_self)))))
  have g0 : 0 ≤ (0 : Int) + (1 * a0 + 0) := hg _ List.mem_cons_self
  have g1 : 0 ≤ (4294967276 : Int) + ((-1) * a0 + 0) := hg _ (List.mem_cons_of_mem _ List.mem_cons_self)
  have g2 : 0 ≤ (0 : Int) + (1 * a1 + 0) := hg _ (List.mem_cons_of_mem _ (List.mem_cons_of_mem _ List.mem_cons_self))
  have g3 : 0 ≤ (4294967276 : Int) + ((-1) * a1 + 0) := hg _ (List.mem_cons_of_mem _ (List.mem_cons_of_mem _ (List.mem_cons_of_mem _ List.mem_cons_self)))
  have g4 : 0 ≤ (0 : Int) + (1 * a2 + 0) := hg _ (List.mem_cons_of_mem _ (List.mem_cons_of_mem _ (List.mem_cons_of_mem _ (List.mem_cons_of_mem _ List.mem_cons_self))))
  have g5 : 0 ≤ (4294967276 : Int) + ((-1) * a2 + 0) := hg _ (List.mem_cons_of_mem _ (List.mem_cons_of_mem _ (List.mem_cons_of_mem _ (List.mem_cons_of_mem _ (List.mem_cons_of_mem _ List.mem_cons_self)))))
  have g6 : 0 ≤ ((-1) : Int) + (1 * a0 + ((-1) * a1 + 0)) := hg _ (List.mem_cons_of_mem _ (List.mem_cons_of_mem _ (List.mem_cons_of_mem _ (List.mem_cons_of_mem _ (List.mem_cons_of_mem _ (List.mem_cons_of_mem _ List.mem_cons_self))))))
  have g7 : 0 ≤ (0 : Int) + (1 * a4 + 0) := hg _ (List.mem_cons_of_mem _ (List.mem_cons_of_mem _ (List.mem_cons_of_mem _ (List.mem_cons_of_mem _ (List.mem_cons_of_mem _ (List.mem_cons_of_mem _ (List.mem_cons_of_mem _ List.mem_cons_self)))))))
  have g8 : 0 ≤ ((-3) : Int) + (1 * (zk_xe w 215 a4) + 0) := hg _ (List.mem_cons_of_mem _ (List.mem_cons_of_mem _ (List.mem_cons_of_mem _ (List.mem_cons_of_mem _ (List.mem_cons_of_mem _ (List.mem_cons_of_mem _ (List.mem_cons_of_mem _ (List.mem_cons_of_mem _ List.mem_cons_self))))))))
  have g9 : 0 ≤ (0 : Int) + (1 * a4 + ((-64) * a5 + 0)) := hg _ (List.mem_cons_of_mem _ (List.mem_cons_of_mem _ (List.mem_cons_of_mem _ (List.mem_cons_of_mem _ (List.mem_cons_of_mem _ (List.mem_cons_of_mem _ (List.mem_cons_of_mem _ (List.mem_cons_of_mem _ (List.mem_cons_of_mem _ List.mem_cons_self)))))))))
  have g10 : 0 ≤ (63 : Int) + ((-1) * a4 + (64 * a5 + 0)) := hg _ (List.mem_cons_of_mem _ (List.mem_cons_of_mem _ (List.mem_cons_of_mem _ (List.mem_cons_of_mem _ (List.mem_cons_of_mem _ (List.mem_cons_of_mem _ (List.mem_cons_of_mem _ (List.mem_cons_of_mem _ (List.mem_cons_of_mem _ (List.mem_cons_of_mem _ List.mem_cons_self))))))))))
  have g11 : 0 ≤ (6 : Int) + ((-1) * a0 + 0) := hg _ (List.mem_cons_of_mem _ (List.mem_cons_of_mem _ (List.mem_cons_of_mem _ (List.mem_cons_of_mem _ (List.mem_cons_of_mem _ (List.mem_cons_of_mem _ (List.mem_cons_of_mem _ (List.mem_cons_of_mem _ (List.mem_cons_of_mem _ (List.mem_cons_of_mem _ (List.mem_cons_of_mem _ List.mem_cons_self)))))))))))
  have r0 : 0 ≤ a0 := hr _ List.mem_cons_self
  have r1 : 0 ≤ a0 := hr _ (List.mem_cons_of_mem _ List.mem_cons_self)
  have r2 : 0 ≤ a0 := hr _ (List.mem_cons_of_mem _ (List.mem_cons_of_mem _ List.mem_cons_self))
  have r3 : 0 ≤ a3 := hr _ (List.mem_cons_of_mem _ (List.mem_cons_of_mem _ (List.mem_cons_of_mem _ List.mem_cons_self)))
  have r4 : 0 ≤ a4 := hr _ (List.mem_cons_of_mem _ (List.mem_cons_of_mem _ (List.mem_cons_of_mem _ (List.mem_cons_of_mem _ List.mem_cons_self))))
  have r5 : 0 ≤ a4 := hr _ (List.mem_cons_of_mem _ (List.mem_cons_of_mem _ (List.mem_cons_of_mem _ (List.mem_cons_of_mem _ (List.mem_cons_of_mem _ List.mem_cons_self)))))
  have hS := zfy_Sw (w := w) (n := a0) (by omega) (by omega) (by omega) (by omega) (by omega) 
  have ha := zh_b1' (zfo_190.symm.trans (show zk_xe w 2000190 a0 = 1 by omega))
  have hsh := fun v v0 v1 => (zc_176 (w := w) (j := a0) (n := a0) (by omega) (by omega) (by omega) ).mp (by omega) v v0 v1 (ha v v0 v1)
  have hD := (zfo_189 (w := w) (j := a3) (u := a1) (x := a2) (n := a0) (by omega) (by omega) (by omega) (by omega) (by omega) (by omega) (by omega) )
  obtain ⟨v, i, v0, v1, i0, i1, i2, -⟩ := zfo_dr (D := zh_e w 214) (c := zh_e w 213) (u := a1) (x := a2) (n := a0) (by omega) (by omega) (by rw [← hD]; omega)
  rw [← hD] at i2
  have hq := hsh v v0 v1
  have hc := hq.2.2.2.2.1
  have ed : a4 = 64 * v + i := by omega
  have e5 : v = a5 := by omega
  have hk := (hq.2.2.2.2.2 i i0 i1).2.2
  have hk : 3 ≤ zh_e w 215 (64 * v + i) → 0 ≤ zh_e w 217 (64 * v + i) ∧ zh_e w 217 (64 * v + i) + 1 < zh_e w 207 v ∧ zh_e w 208 (8000 * v + zh_e w 217 (64 * v + i)) = 0 := hk
  have h8 := hq.1.2
  rw [← ed, e5] at hk
  rw [e5] at h8 v0 v1
  have kK : zh_e w 215 (a4) = zk_xe w 215 (a4) := by rw [zk_xe_r (i := 215) (by decide)]; rfl
  have kP : zh_e w 217 (a4) = zk_xe w 217 (a4) := by rw [zk_xe_r (i := 217) (by decide)]; rfl
  have hk := hk (by rw [kK]; omega)
  rw [kP] at hk
  have yv : (8000 * a5 + zk_xe w 217 a4) / 8000 = a5 := by omega
  have yp : zfy_p (zh_e w 207) a0 (8000 * a5 + zk_xe w 217 a4) := ⟨by omega, by rw [yv]; exact v1, by rw [yv]; omega⟩
  have h := zfy_i (H := zh_e w 327) (T := zh_e w 324) (P := zh_e w 325) (Z := zh_e w 216) hS yp hk.2.2
  exact ⟨_, List.mem_cons_self, [], rfl, zx_bnil, zx_cs0, (zx_eF1 (by show 0 ≤ (0 : Int) + (1 * a6 + 0); omega) (by show zk_xe w 2000193 ((0 : Int) + (1 * a6 + 0)) = (1 : Int) + (0); rw [show (0 : Int) + (1 * a6 + 0) = a6 by omega]; exact ((zfy_193 (w := w) (j := a6) (t := (8000 * a5 + zk_xe w 217 a4 + 1)) (u := 1) (n := a0) (by omega) (by omega) (by omega) (by omega) (by omega) (by omega) (by omega) ).mpr h).trans (by omega)) zx_eF0), zx_k0⟩
def zx_D1277 : zx_L := zx_Lc [] 5 [(2000193, 0), (324, 4), (325, 4)] [] [((0, 0), [(0, 1, 0), (1, 0, 1), (2, 0, 4294967296), (3, 0, 18446744073709551616)]), ((0, 1), [(5, 1, 0)]), ((1, 0), [(2, 0, 1), (4, 1, 0)])] [((0, 0), [(1, 1, 0)]), ((4294967276, 0), [(1, 0, 1)]), ((0, 0), [(2, 1, 0)]), ((4294967276, 0), [(2, 0, 1)]), ((0, 0), [(3, 1, 0)]), ((4294967276, 0), [(3, 0, 1)]), ((0, 2), [(2, 1, 0)]), ((6, 0), [(3, 0, 1)]), ((0, 0), [(4, 1, 0)])] [([], [((0, 0), [(6, 1, 0)]), ((47999, 0), [(6, 0, 1)]), ((0, 0), [(7, 1, 0)]), ((7, 0), [(7, 0, 1)])], [], [])]
theorem zx_D1277_ok {PT : Nat → zz_W → Prop} : zx_Lok 64 zHT PT zx_D1277 := by
  refine zx_Lc_ok (fun w hI hK ins hl hr he hg => ?_)
  obtain ⟨a0, a1, a2, a3, a4, rfl⟩ := zx_i5 hl
  have e0 : (0 : Int) + (1 * a0 + ((-1) * a1 + ((-4294967296) * a2 + ((-18446744073709551616) * a3 + 0)))) = 0 := he _ List.mem_cons_self
  have e1 : ((-1) : Int) + (1 * (zk_xe w 2000193 a0) + 0) = 0 := he _ (List.mem_cons_of_mem _ List.mem_cons_self)
  have e2 : (1 : Int) + ((-1) * a2 + (1 * a4 + 0)) = 0 := he _ (List.mem_cons_of_mem _ (List.mem_cons_of_mem _ List.mem_cons_self))
  have g0 : 0 ≤ (0 : Int) + (1 * a1 + 0) := hg _ List.mem_cons_self
  have g1 : 0 ≤ (4294967276 : Int) + ((-1) * a1 + 0) := hg _ (List.mem_cons_of_mem _ List.mem_cons_self)
  have g2 : 0 ≤ (0 : Int) + (1 * a2 + 0) := hg _ (List.mem_cons_of_mem _ (List.mem_cons_of_mem _ List.mem_cons_self))
  have g3 : 0 ≤ (4294967276 : Int) + ((-1) * a2 + 0) := hg _ (List.mem_cons_of_mem _ (List.mem_cons_of_mem _ (List.mem_cons_of_mem _ List.mem_cons_self)))
  have g4 : 0 ≤ (0 : Int) + (1 * a3 + 0) := hg _ (List.mem_cons_of_mem _ (List.mem_cons_of_mem _ (List.mem_cons_of_mem _ (List.mem_cons_of_mem _ List.mem_cons_self))))
  have g5 : 0 ≤ (4294967276 : Int) + ((-1) * a3 + 0) := hg _ (List.mem_cons_of_mem _ (List.mem_cons_of_mem _ (List.mem_cons_of_mem _ (List.mem_cons_of_mem _ (List.mem_cons_of_mem _ List.mem_cons_self)))))
  have g6 : 0 ≤ ((-2) : Int) + (1 * a2 + 0) := hg _ (List.mem_cons_of_mem _ (List.mem_cons_of_mem _ (List.mem_cons_of_mem _ (List.mem_cons_of_mem _ (List.mem_cons_of_mem _ (List.mem_cons_of_mem _ List.mem_cons_self))))))
  have g7 : 0 ≤ (6 : Int) + ((-1) * a3 + 0) := hg _ (List.mem_cons_of_mem _ (List.mem_cons_of_mem _ (List.mem_cons_of_mem _ (List.mem_cons_of_mem _ (List.mem_cons_of_mem _ (List.mem_cons_of_mem _ (List.mem_cons_of_mem _ List.mem_cons_self)))))))
  have g8 : 0 ≤ (0 : Int) + (1 * a4 + 0) := hg _ (List.mem_cons_of_mem _ (List.mem_cons_of_mem _ (List.mem_cons_of_mem _ (List.mem_cons_of_mem _ (List.mem_cons_of_mem _ (List.mem_cons_of_mem _ (List.mem_cons_of_mem _ (List.mem_cons_of_mem _ List.mem_cons_self))))))))
  have r0 : 0 ≤ a0 := hr _ List.mem_cons_self
  have r1 : 0 ≤ a4 := hr _ (List.mem_cons_of_mem _ List.mem_cons_self)
  have r2 : 0 ≤ a4 := hr _ (List.mem_cons_of_mem _ (List.mem_cons_of_mem _ List.mem_cons_self))
  have hd := (zfy_193 (w := w) (j := a0) (t := a1) (u := a2) (n := a3) (by omega) (by omega) (by omega) (by omega) (by omega) (by omega) (by omega) ).mp (by omega)
  have kT : zh_e w 324 (a2 - 1) = zk_xe w 324 (a4) := by rw [zk_xe_r (i := 324) (by decide)]; show zk_el w 324 (a2 - 1) = zk_el w 324 (a4); rw [show a2 - 1 = a4 by omega]
  have kP : zh_e w 325 (a2 - 1) = zk_xe w 325 (a4) := by rw [zk_xe_r (i := 325) (by decide)]; show zk_el w 325 (a2 - 1) = zk_el w 325 (a4); rw [show a2 - 1 = a4 by omega]
  obtain ⟨h1, h2, -⟩ := hd.2.2.2 (a2 - 1) (by omega) (by omega)
  unfold zfy_p at h1
  rw [kT] at h1
  rw [kP] at h2
  exact ⟨_, List.mem_cons_self, [], rfl, zx_bnil, (zx_cs1 (by show 0 ≤ (0 : Int) + (1 * (zk_xe w 324 a4) + 0); omega) (zx_cs1 (by show 0 ≤ (47999 : Int) + ((-1) * (zk_xe w 324 a4) + 0); omega) (zx_cs1 (by show 0 ≤ (0 : Int) + (1 * (zk_xe w 325 a4) + 0); omega) (zx_cs1 (by show 0 ≤ (7 : Int) + ((-1) * (zk_xe w 325 a4) + 0); omega) zx_cs0)))), zx_eF0, zx_k0⟩
def zx_D1278 : zx_L := zx_Lc [] 6 [(2000194, 0), (324, 4), (208, 2)] [] [((0, 0), [(0, 1, 0), (1, 0, 1), (2, 0, 4294967296), (3, 0, 18446744073709551616)]), ((1, 0), [(3, 0, 1), (4, 1, 0)]), ((0, 0), [(1, 0, 1), (4, 0, 18446744073709551616), (5, 1, 0), (7, 0, 4294967296)])] [((0, 0), [(1, 1, 0)]), ((4294967276, 0), [(1, 0, 1)]), ((0, 0), [(2, 1, 0)]), ((4294967276, 0), [(2, 0, 1)]), ((0, 0), [(3, 1, 0)]), ((4294967276, 0), [(3, 0, 1)]), ((0, 0), [(7, 1, 0)]), ((48000, 0), [(7, 0, 1)]), ((0, 2), [(3, 1, 0)]), ((40, 0), [(3, 0, 1)]), ((20001, 0), [(1, 0, 1)]), ((0, 0), [(4, 1, 0)])] [([(0, 53440958017832439646564561705196222029239164018978106920627711233511540207954304837050194421751320395096651610017378962363547943883968071894101874391252481320004)], [], [(2000194, ((0, 0), [(5, 1, 0)]), ((0, 0), [(9, 1, 0)]))], [])]
theorem zx_D1278_ok {PT : Nat → zz_W → Prop} : zx_Lok 64 zHT PT zx_D1278 := by
  refine zx_Lc_ok (fun w hI hK ins hl hr he hg => ?_)
  obtain ⟨a0, a1, a2, a3, a4, a5, rfl⟩ := zx_i6 hl
  have e0 : (0 : Int) + (1 * a0 + ((-1) * a1 + ((-4294967296) * a2 + ((-18446744073709551616) * a3 + 0)))) = 0 := he _ List.mem_cons_self
  have e1 : (1 : Int) + ((-1) * a3 + (1 * a4 + 0)) = 0 := he _ (List.mem_cons_of_mem _ List.mem_cons_self)
  have e2 : (0 : Int) + ((-1) * a1 + ((-18446744073709551616) * a4 + (1 * a5 + ((-4294967296) * (zk_xe w 324 a4) + 0)))) = 0 := he _ (List.mem_cons_of_mem _ (List.mem_cons_of_mem _ List.mem_cons_self))
  have g0 : 0 ≤ (0 : Int) + (1 * a1 + 0) := hg _ List.mem_cons_self
  have g1 : 0 ≤ (4294967276 : Int) + ((-1) * a1 + 0) := hg _ (List.mem_cons_of_mem _ List.mem_cons_self)
  have g2 : 0 ≤ (0 : Int) + (1 * a2 + 0) := hg _ (List.mem_cons_of_mem _ (List.mem_cons_of_mem _ List.mem_cons_self))
  have g3 : 0 ≤ (4294967276 : Int) + ((-1) * a2 + 0) := hg _ (List.mem_cons_of_mem _ (List.mem_cons_of_mem _ (List.mem_cons_of_mem _ List.mem_cons_self)))
  have g4 : 0 ≤ (0 : Int) + (1 * a3 + 0) := hg _ (List.mem_cons_of_mem _ (List.mem_cons_of_mem _ (List.mem_cons_of_mem _ (List.mem_cons_of_mem _ List.mem_cons_self))))
  have g5 : 0 ≤ (4294967276 : Int) + ((-1) * a3 + 0) := hg _ (List.mem_cons_of_mem _ (List.mem_cons_of_mem _ (List.mem_cons_of_mem _ (List.mem_cons_of_mem _ (List.mem_cons_of_mem _ List.mem_cons_self)))))
  have g6 : 0 ≤ (0 : Int) + (1 * (zk_xe w 324 a4) + 0) := hg _ (List.mem_cons_of_mem _ (List.mem_cons_of_mem _ (List.mem_cons_of_mem _ (List.mem_cons_of_mem _ (List.mem_cons_of_mem _ (List.mem_cons_of_mem _ List.mem_cons_self))))))
  have g7 : 0 ≤ (48000 : Int) + ((-1) * (zk_xe w 324 a4) + 0) := hg _ (List.mem_cons_of_mem _ (List.mem_cons_of_mem _ (List.mem_cons_of_mem _ (List.mem_cons_of_mem _ (List.mem_cons_of_mem _ (List.mem_cons_of_mem _ (List.mem_cons_of_mem _ List.mem_cons_self)))))))
  have g8 : 0 ≤ ((-2) : Int) + (1 * a3 + 0) := hg _ (List.mem_cons_of_mem _ (List.mem_cons_of_mem _ (List.mem_cons_of_mem _ (List.mem_cons_of_mem _ (List.mem_cons_of_mem _ (List.mem_cons_of_mem _ (List.mem_cons_of_mem _ (List.mem_cons_of_mem _ List.mem_cons_self))))))))
  have g9 : 0 ≤ (40 : Int) + ((-1) * a3 + 0) := hg _ (List.mem_cons_of_mem _ (List.mem_cons_of_mem _ (List.mem_cons_of_mem _ (List.mem_cons_of_mem _ (List.mem_cons_of_mem _ (List.mem_cons_of_mem _ (List.mem_cons_of_mem _ (List.mem_cons_of_mem _ (List.mem_cons_of_mem _ List.mem_cons_self)))))))))
  have g10 : 0 ≤ (20001 : Int) + ((-1) * a1 + 0) := hg _ (List.mem_cons_of_mem _ (List.mem_cons_of_mem _ (List.mem_cons_of_mem _ (List.mem_cons_of_mem _ (List.mem_cons_of_mem _ (List.mem_cons_of_mem _ (List.mem_cons_of_mem _ (List.mem_cons_of_mem _ (List.mem_cons_of_mem _ (List.mem_cons_of_mem _ List.mem_cons_self))))))))))
  have g11 : 0 ≤ (0 : Int) + (1 * a4 + 0) := hg _ (List.mem_cons_of_mem _ (List.mem_cons_of_mem _ (List.mem_cons_of_mem _ (List.mem_cons_of_mem _ (List.mem_cons_of_mem _ (List.mem_cons_of_mem _ (List.mem_cons_of_mem _ (List.mem_cons_of_mem _ (List.mem_cons_of_mem _ (List.mem_cons_of_mem _ (List.mem_cons_of_mem _ List.mem_cons_self)))))))))))
  have r0 : 0 ≤ a0 := hr _ List.mem_cons_self
  have r1 : 0 ≤ a4 := hr _ (List.mem_cons_of_mem _ List.mem_cons_self)
  have r2 : 0 ≤ a2 := hr _ (List.mem_cons_of_mem _ (List.mem_cons_of_mem _ List.mem_cons_self))
  have hm1 := (zfy_194 (w := w) (j := a5) (ms := a1) (t := (zk_xe w 324 a4)) (u := a4) (by omega) (by omega) (by omega) (by omega) (by omega) (by omega) (by omega) )
  have hb := zfm_bd (f := zh_e w 208) (T := zh_e w 324) (ms := a1) (t := zk_xe w 324 a4) (u := a4) (by omega) (by omega)
  rw [← hm1] at hb
  exact ⟨_, List.mem_cons_self, [zk_xe w 2000194 a5], rfl, (zx_bcons (by show (0 : Int) ≤ zk_xe w 2000194 a5 ∧ zk_xe w 2000194 a5 ≤ (53440958017832439646564561705196222029239164018978106920627711233511540207954304837050194421751320395096651610017378962363547943883968071894101874391252481320004 : Int); omega) zx_bnil), zx_cs0, (zx_eF1 (by show 0 ≤ (0 : Int) + (1 * a5 + 0); omega) (by show zk_xe w 2000194 ((0 : Int) + (1 * a5 + 0)) = (0 : Int) + (1 * (zk_xe w 2000194 a5) + 0); rw [show (0 : Int) + (1 * a5 + 0) = a5 by omega]; omega) zx_eF0), zx_k0⟩
def zx_D1279 : zx_L := zx_Lc [] 6 [(2000194, 0), (324, 4), (208, 2), (2000194, 5)] [] [((0, 0), [(0, 1, 0), (1, 0, 1), (2, 0, 4294967296), (3, 0, 18446744073709551616)]), ((1, 0), [(3, 0, 1), (4, 1, 0)]), ((0, 0), [(1, 0, 1), (4, 0, 18446744073709551616), (5, 1, 0), (7, 0, 4294967296)])] [((0, 0), [(1, 1, 0)]), ((4294967276, 0), [(1, 0, 1)]), ((0, 0), [(2, 1, 0)]), ((4294967276, 0), [(2, 0, 1)]), ((0, 0), [(3, 1, 0)]), ((4294967276, 0), [(3, 0, 1)]), ((0, 0), [(7, 1, 0)]), ((48000, 0), [(7, 0, 1)]), ((0, 2), [(3, 1, 0)]), ((40, 0), [(3, 0, 1)]), ((20001, 0), [(1, 0, 1)]), ((0, 0), [(4, 1, 0)]), ((15, 0), [(8, 0, 1)])] [([], [((0, 1), [(6, 1, 0), (9, 0, 1)])], [], [])]
theorem zx_D1279_ok {PT : Nat → zz_W → Prop} : zx_Lok 64 zHT PT zx_D1279 := by
  refine zx_Lc_ok (fun w hI hK ins hl hr he hg => ?_)
  obtain ⟨a0, a1, a2, a3, a4, a5, rfl⟩ := zx_i6 hl
  have e0 : (0 : Int) + (1 * a0 + ((-1) * a1 + ((-4294967296) * a2 + ((-18446744073709551616) * a3 + 0)))) = 0 := he _ List.mem_cons_self
  have e1 : (1 : Int) + ((-1) * a3 + (1 * a4 + 0)) = 0 := he _ (List.mem_cons_of_mem _ List.mem_cons_self)
  have e2 : (0 : Int) + ((-1) * a1 + ((-18446744073709551616) * a4 + (1 * a5 + ((-4294967296) * (zk_xe w 324 a4) + 0)))) = 0 := he _ (List.mem_cons_of_mem _ (List.mem_cons_of_mem _ List.mem_cons_self))
  have g0 : 0 ≤ (0 : Int) + (1 * a1 + 0) := hg _ List.mem_cons_self
  have g1 : 0 ≤ (4294967276 : Int) + ((-1) * a1 + 0) := hg _ (List.mem_cons_of_mem _ List.mem_cons_self)
  have g2 : 0 ≤ (0 : Int) + (1 * a2 + 0) := hg _ (List.mem_cons_of_mem _ (List.mem_cons_of_mem _ List.mem_cons_self))
  have g3 : 0 ≤ (4294967276 : Int) + ((-1) * a2 + 0) := hg _ (List.mem_cons_of_mem _ (List.mem_cons_of_mem _ (List.mem_cons_of_mem _ List.mem_cons_self)))
  have g4 : 0 ≤ (0 : Int) + (1 * a3 + 0) := hg _ (List.mem_cons_of_mem _ (List.mem_cons_of_mem _ (List.mem_cons_of_mem _ (List.mem_cons_of_mem _ List.mem_cons_self))))
  have g5 : 0 ≤ (4294967276 : Int) + ((-1) * a3 + 0) := hg _ (List.mem_cons_of_mem _ (List.mem_cons_of_mem _ (List.mem_cons_of_mem _ (List.mem_cons_of_mem _ (List.mem_cons_of_mem _ List.mem_cons_self)))))
  have g6 : 0 ≤ (0 : Int) + (1 * (zk_xe w 324 a4) + 0) := hg _ (List.mem_cons_of_mem _ (List.mem_cons_of_mem _ (List.mem_cons_of_mem _ (List.mem_cons_of_mem _ (List.mem_cons_of_mem _ (List.mem_cons_of_mem _ List.mem_cons_self))))))
  have g7 : 0 ≤ (48000 : Int) + ((-1) * (zk_xe w 324 a4) + 0) := hg _ (List.mem_cons_of_mem _ (List.mem_cons_of_mem _ (List.mem_cons_of_mem _ (List.mem_cons_of_mem _ (List.mem_cons_of_mem _ (List.mem_cons_of_mem _ (List.mem_cons_of_mem _ List.mem_cons_self)))))))
  have g8 : 0 ≤ ((-2) : Int) + (1 * a3 + 0) := hg _ (List.mem_cons_of_mem _ (List.mem_cons_of_mem _ (List.mem_cons_of_mem _ (List.mem_cons_of_mem _ (List.mem_cons_of_mem _ (List.mem_cons_of_mem _ (List.mem_cons_of_mem _ (List.mem_cons_of_mem _ List.mem_cons_self))))))))
  have g9 : 0 ≤ (40 : Int) + ((-1) * a3 + 0) := hg _ (List.mem_cons_of_mem _ (List.mem_cons_of_mem _ (List.mem_cons_of_mem _ (List.mem_cons_of_mem _ (List.mem_cons_of_mem _ (List.mem_cons_of_mem _ (List.mem_cons_of_mem _ (List.mem_cons_of_mem _ (List.mem_cons_of_mem _ List.mem_cons_self)))))))))
  have g10 : 0 ≤ (20001 : Int) + ((-1) * a1 + 0) := hg _ (List.mem_cons_of_mem _ (List.mem_cons_of_mem _ (List.mem_cons_of_mem _ (List.mem_cons_of_mem _ (List.mem_cons_of_mem _ (List.mem_cons_of_mem _ (List.mem_cons_of_mem _ (List.mem_cons_of_mem _ (List.mem_cons_of_mem _ (List.mem_cons_of_mem _ List.mem_cons_self))))))))))
  have g11 : 0 ≤ (0 : Int) + (1 * a4 + 0) := hg _ (List.mem_cons_of_mem _ (List.mem_cons_of_mem _ (List.mem_cons_of_mem _ (List.mem_cons_of_mem _ (List.mem_cons_of_mem _ (List.mem_cons_of_mem _ (List.mem_cons_of_mem _ (List.mem_cons_of_mem _ (List.mem_cons_of_mem _ (List.mem_cons_of_mem _ (List.mem_cons_of_mem _ List.mem_cons_self)))))))))))
  have g12 : 0 ≤ (15 : Int) + ((-1) * (zk_xe w 208 a2) + 0) := hg _ (List.mem_cons_of_mem _ (List.mem_cons_of_mem _ (List.mem_cons_of_mem _ (List.mem_cons_of_mem _ (List.mem_cons_of_mem _ (List.mem_cons_of_mem _ (List.mem_cons_of_mem _ (List.mem_cons_of_mem _ (List.mem_cons_of_mem _ (List.mem_cons_of_mem _ (List.mem_cons_of_mem _ (List.mem_cons_of_mem _ List.mem_cons_self))))))))))))
  have r0 : 0 ≤ a0 := hr _ List.mem_cons_self
  have r1 : 0 ≤ a4 := hr _ (List.mem_cons_of_mem _ List.mem_cons_self)
  have r2 : 0 ≤ a2 := hr _ (List.mem_cons_of_mem _ (List.mem_cons_of_mem _ List.mem_cons_self))
  have r3 : 0 ≤ a5 := hr _ (List.mem_cons_of_mem _ (List.mem_cons_of_mem _ (List.mem_cons_of_mem _ List.mem_cons_self)))
  have hm0 := (zfy_194 (w := w) (j := a0) (ms := a1) (t := a2) (u := a3) (by omega) (by omega) (by omega) (by omega) (by omega) (by omega) (by omega) )
  have hm1 := (zfy_194 (w := w) (j := a5) (ms := a1) (t := (zk_xe w 324 a4)) (u := a4) (by omega) (by omega) (by omega) (by omega) (by omega) (by omega) (by omega) )
  have kW : zh_e w 208 (a2) = zk_xe w 208 (a2) := by rw [zk_xe_r (i := 208) (by decide)]; rfl
  have kT : zh_e w 324 (a3 - 1) = zk_xe w 324 (a4) := by rw [zk_xe_r (i := 324) (by decide)]; show zk_el w 324 (a3 - 1) = zk_el w 324 (a4); rw [show a3 - 1 = a4 by omega]
  have hm := zfm_5 (f := zh_e w 208) (T := zh_e w 324) (ms := a1) (t := a2) (u := a3) (by omega) (by omega) (by rw [kW]; omega)
  rw [kT, show a3 - 1 = a4 by omega, ← hm0, ← hm1] at hm
  exact ⟨_, List.mem_cons_self, [], rfl, zx_bnil, (zx_cs1 (by show 0 ≤ ((-1) : Int) + (1 * (zk_xe w 2000194 a0) + ((-1) * (zk_xe w 2000194 a5) + 0)); omega) zx_cs0), zx_eF0, zx_k0⟩
def zx_D1280 : zx_L := zx_Lc [] 6 [(2000194, 0), (324, 4), (208, 2), (2000194, 5)] [] [((0, 0), [(0, 1, 0), (1, 0, 1), (2, 0, 4294967296), (3, 0, 18446744073709551616)]), ((1, 0), [(3, 0, 1), (4, 1, 0)]), ((0, 0), [(1, 0, 1), (4, 0, 18446744073709551616), (5, 1, 0), (7, 0, 4294967296)])] [((0, 0), [(1, 1, 0)]), ((4294967276, 0), [(1, 0, 1)]), ((0, 0), [(2, 1, 0)]), ((4294967276, 0), [(2, 0, 1)]), ((0, 0), [(3, 1, 0)]), ((4294967276, 0), [(3, 0, 1)]), ((0, 0), [(7, 1, 0)]), ((48000, 0), [(7, 0, 1)]), ((0, 2), [(3, 1, 0)]), ((40, 0), [(3, 0, 1)]), ((20001, 0), [(1, 0, 1)]), ((0, 0), [(4, 1, 0)]), ((0, 17), [(8, 1, 0)])] [([], [((0, 1), [(6, 1, 0), (9, 0, 1)])], [], [])]
theorem zx_D1280_ok {PT : Nat → zz_W → Prop} : zx_Lok 64 zHT PT zx_D1280 := by
  refine zx_Lc_ok (fun w hI hK ins hl hr he hg => ?_)
  obtain ⟨a0, a1, a2, a3, a4, a5, rfl⟩ := zx_i6 hl
  have e0 : (0 : Int) + (1 * a0 + ((-1) * a1 + ((-4294967296) * a2 + ((-18446744073709551616) * a3 + 0)))) = 0 := he _ List.mem_cons_self
  have e1 : (1 : Int) + ((-1) * a3 + (1 * a4 + 0)) = 0 := he _ (List.mem_cons_of_mem _ List.mem_cons_self)
  have e2 : (0 : Int) + ((-1) * a1 + ((-18446744073709551616) * a4 + (1 * a5 + ((-4294967296) * (zk_xe w 324 a4) + 0)))) = 0 := he _ (List.mem_cons_of_mem _ (List.mem_cons_of_mem _ List.mem_cons_self))
  have g0 : 0 ≤ (0 : Int) + (1 * a1 + 0) := hg _ List.mem_cons_self
  have g1 : 0 ≤ (4294967276 : Int) + ((-1) * a1 + 0) := hg _ (List.mem_cons_of_mem _ List.mem_cons_self)
  have g2 : 0 ≤ (0 : Int) + (1 * a2 + 0) := hg _ (List.mem_cons_of_mem _ (List.mem_cons_of_mem _ List.mem_cons_self))
  have g3 : 0 ≤ (4294967276 : Int) + ((-1) * a2 + 0) := hg _ (List.mem_cons_of_mem _ (List.mem_cons_of_mem _ (List.mem_cons_of_mem _ List.mem_cons_self)))
  have g4 : 0 ≤ (0 : Int) + (1 * a3 + 0) := hg _ (List.mem_cons_of_mem _ (List.mem_cons_of_mem _ (List.mem_cons_of_mem _ (List.mem_cons_of_mem _ List.mem_cons_self))))
  have g5 : 0 ≤ (4294967276 : Int) + ((-1) * a3 + 0) := hg _ (List.mem_cons_of_mem _ (List.mem_cons_of_mem _ (List.mem_cons_of_mem _ (List.mem_cons_of_mem _ (List.mem_cons_of_mem _ List.mem_cons_self)))))
  have g6 : 0 ≤ (0 : Int) + (1 * (zk_xe w 324 a4) + 0) := hg _ (List.mem_cons_of_mem _ (List.mem_cons_of_mem _ (List.mem_cons_of_mem _ (List.mem_cons_of_mem _ (List.mem_cons_of_mem _ (List.mem_cons_of_mem _ List.mem_cons_self))))))
  have g7 : 0 ≤ (48000 : Int) + ((-1) * (zk_xe w 324 a4) + 0) := hg _ (List.mem_cons_of_mem _ (List.mem_cons_of_mem _ (List.mem_cons_of_mem _ (List.mem_cons_of_mem _ (List.mem_cons_of_mem _ (List.mem_cons_of_mem _ (List.mem_cons_of_mem _ List.mem_cons_self)))))))
  have g8 : 0 ≤ ((-2) : Int) + (1 * a3 + 0) := hg _ (List.mem_cons_of_mem _ (List.mem_cons_of_mem _ (List.mem_cons_of_mem _ (List.mem_cons_of_mem _ (List.mem_cons_of_mem _ (List.mem_cons_of_mem _ (List.mem_cons_of_mem _ (List.mem_cons_of_mem _ List.mem_cons_self))))))))
  have g9 : 0 ≤ (40 : Int) + ((-1) * a3 + 0) := hg _ (List.mem_cons_of_mem _ (List.mem_cons_of_mem _ (List.mem_cons_of_mem _ (List.mem_cons_of_mem _ (List.mem_cons_of_mem _ (List.mem_cons_of_mem _ (List.mem_cons_of_mem _ (List.mem_cons_of_mem _ (List.mem_cons_of_mem _ List.mem_cons_self)))))))))
  have g10 : 0 ≤ (20001 : Int) + ((-1) * a1 + 0) := hg _ (List.mem_cons_of_mem _ (List.mem_cons_of_mem _ (List.mem_cons_of_mem _ (List.mem_cons_of_mem _ (List.mem_cons_of_mem _ (List.mem_cons_of_mem _ (List.mem_cons_of_mem _ (List.mem_cons_of_mem _ (List.mem_cons_of_mem _ (List.mem_cons_of_mem _ List.mem_cons_self))))))))))
  have g11 : 0 ≤ (0 : Int) + (1 * a4 + 0) := hg _ (List.mem_cons_of_mem _ (List.mem_cons_of_mem _ (List.mem_cons_of_mem _ (List.mem_cons_of_mem _ (List.mem_cons_of_mem _ (List.mem_cons_of_mem _ (List.mem_cons_of_mem _ (List.mem_cons_of_mem _ (List.mem_cons_of_mem _ (List.mem_cons_of_mem _ (List.mem_cons_of_mem _ List.mem_cons_self)))))))))))
  have g12 : 0 ≤ ((-17) : Int) + (1 * (zk_xe w 208 a2) + 0) := hg _ (List.mem_cons_of_mem _ (List.mem_cons_of_mem _ (List.mem_cons_of_mem _ (List.mem_cons_of_mem _ (List.mem_cons_of_mem _ (List.mem_cons_of_mem _ (List.mem_cons_of_mem _ (List.mem_cons_of_mem _ (List.mem_cons_of_mem _ (List.mem_cons_of_mem _ (List.mem_cons_of_mem _ (List.mem_cons_of_mem _ List.mem_cons_self))))))))))))
  have r0 : 0 ≤ a0 := hr _ List.mem_cons_self
  have r1 : 0 ≤ a4 := hr _ (List.mem_cons_of_mem _ List.mem_cons_self)
  have r2 : 0 ≤ a2 := hr _ (List.mem_cons_of_mem _ (List.mem_cons_of_mem _ List.mem_cons_self))
  have r3 : 0 ≤ a5 := hr _ (List.mem_cons_of_mem _ (List.mem_cons_of_mem _ (List.mem_cons_of_mem _ List.mem_cons_self)))
  have hm0 := (zfy_194 (w := w) (j := a0) (ms := a1) (t := a2) (u := a3) (by omega) (by omega) (by omega) (by omega) (by omega) (by omega) (by omega) )
  have hm1 := (zfy_194 (w := w) (j := a5) (ms := a1) (t := (zk_xe w 324 a4)) (u := a4) (by omega) (by omega) (by omega) (by omega) (by omega) (by omega) (by omega) )
  have kW : zh_e w 208 (a2) = zk_xe w 208 (a2) := by rw [zk_xe_r (i := 208) (by decide)]; rfl
  have kT : zh_e w 324 (a3 - 1) = zk_xe w 324 (a4) := by rw [zk_xe_r (i := 324) (by decide)]; show zk_el w 324 (a3 - 1) = zk_el w 324 (a4); rw [show a3 - 1 = a4 by omega]
  have hm := zfm_5 (f := zh_e w 208) (T := zh_e w 324) (ms := a1) (t := a2) (u := a3) (by omega) (by omega) (by rw [kW]; omega)
  rw [kT, show a3 - 1 = a4 by omega, ← hm0, ← hm1] at hm
  exact ⟨_, List.mem_cons_self, [], rfl, zx_bnil, (zx_cs1 (by show 0 ≤ ((-1) : Int) + (1 * (zk_xe w 2000194 a0) + ((-1) * (zk_xe w 2000194 a5) + 0)); omega) zx_cs0), zx_eF0, zx_k0⟩
def zx_E780 : zx_V := zx_Vc 327 [] 5 [(2000193, 0), (2000192, 3), (2000176, 3), (2000190, 3), (208, 1), (211, 1)] [((0, 0), [(2, 1, 0), (3, 0, 1), (4, 0, 4294967296), (5, 0, 18446744073709551616)]), ((0, 1), [(7, 1, 0)]), ((0, 1), [(8, 1, 0)]), ((0, 1), [(9, 1, 0)]), ((0, 1), [(10, 1, 0)]), ((10, 0), [(0, 1, 0), (4, 0, 10), (12, 0, 1)]), ((0, 1), [(3, 0, 1), (4, 0, 4294967296), (5, 0, 18446744073709551616), (6, 1, 0)])] [((0, 0), [(3, 1, 0)]), ((4294967276, 0), [(3, 0, 1)]), ((0, 0), [(4, 1, 0)]), ((4294967276, 0), [(4, 0, 1)]), ((0, 0), [(5, 1, 0)]), ((4294967276, 0), [(5, 0, 1)]), ((0, 3), [(11, 1, 0)]), ((5, 0), [(11, 0, 1)]), ((0, 1), [(4, 1, 0)])] [(2000193, ((0, 0), [(6, 1, 0)]), ((1, 0), []))]
theorem zx_E780_ok {PT : Nat → zz_W → Prop} : zx_Vok 64 zHT PT zx_E780 := by
  refine zx_Vc_ok (fun w w' j ins hI hI' h0 hw hK hl he hg => ?_)
  obtain ⟨a0, a1, a2, a3, a4, rfl⟩ := zx_i5 hl
  have e0 : (0 : Int) + (1 * a0 + ((-1) * a1 + ((-4294967296) * a2 + ((-18446744073709551616) * a3 + 0)))) = 0 := he _ List.mem_cons_self
  have e1 : ((-1) : Int) + (1 * (zk_xe w 2000193 a0) + 0) = 0 := he _ (List.mem_cons_of_mem _ List.mem_cons_self)
  have e2 : ((-1) : Int) + (1 * (zk_xe w 2000192 a3) + 0) = 0 := he _ (List.mem_cons_of_mem _ (List.mem_cons_of_mem _ List.mem_cons_self))
  have e3 : ((-1) : Int) + (1 * (zk_xe w 2000176 a3) + 0) = 0 := he _ (List.mem_cons_of_mem _ (List.mem_cons_of_mem _ (List.mem_cons_of_mem _ List.mem_cons_self)))
  have e4 : ((-1) : Int) + (1 * (zk_xe w 2000190 a3) + 0) = 0 := he _ (List.mem_cons_of_mem _ (List.mem_cons_of_mem _ (List.mem_cons_of_mem _ (List.mem_cons_of_mem _ List.mem_cons_self))))
  have e5 : (10 : Int) + (1 * j + ((-10) * a2 + ((-1) * (zk_xe w 211 a1) + 0))) = 0 := he _ (List.mem_cons_of_mem _ (List.mem_cons_of_mem _ (List.mem_cons_of_mem _ (List.mem_cons_of_mem _ (List.mem_cons_of_mem _ List.mem_cons_self)))))
  have e6 : ((-1) : Int) + ((-1) * a1 + ((-4294967296) * a2 + ((-18446744073709551616) * a3 + (1 * a4 + 0)))) = 0 := he _ (List.mem_cons_of_mem _ (List.mem_cons_of_mem _ (List.mem_cons_of_mem _ (List.mem_cons_of_mem _ (List.mem_cons_of_mem _ (List.mem_cons_of_mem _ List.mem_cons_self))))))
  have g0 : 0 ≤ (0 : Int) + (1 * a1 + 0) := hg _ List.mem_cons_self
  have g1 : 0 ≤ (4294967276 : Int) + ((-1) * a1 + 0) := hg _ (List.mem_cons_of_mem _ List.mem_cons_self)
  have g2 : 0 ≤ (0 : Int) + (1 * a2 + 0) := hg _ (List.mem_cons_of_mem _ (List.mem_cons_of_mem _ List.mem_cons_self))
  have g3 : 0 ≤ (4294967276 : Int) + ((-1) * a2 + 0) := hg _ (List.mem_cons_of_mem _ (List.mem_cons_of_mem _ (List.mem_cons_of_mem _ List.mem_cons_self)))
  have g4 : 0 ≤ (0 : Int) + (1 * a3 + 0) := hg _ (List.mem_cons_of_mem _ (List.mem_cons_of_mem _ (List.mem_cons_of_mem _ (List.mem_cons_of_mem _ List.mem_cons_self))))
  have g5 : 0 ≤ (4294967276 : Int) + ((-1) * a3 + 0) := hg _ (List.mem_cons_of_mem _ (List.mem_cons_of_mem _ (List.mem_cons_of_mem _ (List.mem_cons_of_mem _ (List.mem_cons_of_mem _ List.mem_cons_self)))))
  have g6 : 0 ≤ ((-3) : Int) + (1 * (zk_xe w 208 a1) + 0) := hg _ (List.mem_cons_of_mem _ (List.mem_cons_of_mem _ (List.mem_cons_of_mem _ (List.mem_cons_of_mem _ (List.mem_cons_of_mem _ (List.mem_cons_of_mem _ List.mem_cons_self))))))
  have g7 : 0 ≤ (5 : Int) + ((-1) * (zk_xe w 208 a1) + 0) := hg _ (List.mem_cons_of_mem _ (List.mem_cons_of_mem _ (List.mem_cons_of_mem _ (List.mem_cons_of_mem _ (List.mem_cons_of_mem _ (List.mem_cons_of_mem _ (List.mem_cons_of_mem _ List.mem_cons_self)))))))
  have g8 : 0 ≤ ((-1) : Int) + (1 * a2 + 0) := hg _ (List.mem_cons_of_mem _ (List.mem_cons_of_mem _ (List.mem_cons_of_mem _ (List.mem_cons_of_mem _ (List.mem_cons_of_mem _ (List.mem_cons_of_mem _ (List.mem_cons_of_mem _ (List.mem_cons_of_mem _ List.mem_cons_self))))))))
  have hd := (zfy_193 (w := w) (j := a0) (t := a1) (u := a2) (n := a3) (by omega) (by omega) (by omega) (by omega) (by omega) (by omega) (by omega) ).mp (by omega)
  have hS := zfy_Sw (w := w) (n := a3) (by omega) (by omega) (by omega) (by omega) (by omega) 
  have kW : zh_e w 208 (a1) = zk_xe w 208 (a1) := by rw [zk_xe_r (i := 208) (by decide)]; rfl
  have kC : zh_e w 211 (a1) = zk_xe w 211 (a1) := by rw [zk_xe_r (i := 211) (by decide)]; rfl
  have o208 : zh_e w' 208 = zh_e w 208 := zh_e_g (hw.1 208 (by decide))
  have o209 : zh_e w' 209 = zh_e w 209 := zh_e_g (hw.1 209 (by decide))
  have o210 : zh_e w' 210 = zh_e w 210 := zh_e_g (hw.1 210 (by decide))
  have o211 : zh_e w' 211 = zh_e w 211 := zh_e_g (hw.1 211 (by decide))
  have o207 : zh_e w' 207 = zh_e w 207 := zh_e_g (hw.1 207 (by decide))
  have o324 : zh_e w' 324 = zh_e w 324 := zh_e_g (hw.1 324 (by decide))
  have o325 : zh_e w' 325 = zh_e w 325 := zh_e_g (hw.1 325 (by decide))
  have o216 : zh_e w' 216 = zh_e w 216 := zh_e_g (hw.1 216 (by decide))
  have o214 : zh_e w' 214 = zh_e w 214 := zh_e_g (hw.1 214 (by decide))
  have o213 : zh_e w' 213 = zh_e w 213 := zh_e_g (hw.1 213 (by decide))
  have h : zk_xe w' 2000193 a4 = 1 := by
    refine (zfy_193 (w := w') (j := a4) (t := (a1 + 1)) (u := a2) (n := a3) (by omega) (by omega) (by omega) (by omega) (by omega) (by omega) (by omega) ).mpr ?_
    rw [o208, o209, o210, o211, o207, o324, o325, o216, o214, o213]
    exact zfy_t1 hd hS (by omega) (by rw [kW]; omega) (by rw [kW]; omega) (by rw [kW]; omega) (fun i i0 i1 => hw.2 i i0 (fun e => i1 (by rw [kC]; omega)))
  exact (zx_eF1 (by show 0 ≤ (0 : Int) + (1 * a4 + 0); omega) (by show zk_xe w' 2000193 ((0 : Int) + (1 * a4 + 0)) = (1 : Int) + (0); rw [show (0 : Int) + (1 * a4 + 0) = a4 by omega]; exact h.trans (by omega)) zx_eF0)
def zx_E785 : zx_V := zx_Vc 327 [] 5 [(2000193, 0), (2000192, 3), (2000176, 3), (2000190, 3), (208, 1), (211, 1)] [((0, 0), [(2, 1, 0), (3, 0, 1), (4, 0, 4294967296), (5, 0, 18446744073709551616)]), ((0, 1), [(7, 1, 0)]), ((0, 1), [(8, 1, 0)]), ((0, 1), [(9, 1, 0)]), ((0, 1), [(10, 1, 0)]), ((10, 0), [(0, 1, 0), (4, 0, 10), (12, 0, 1)]), ((0, 1), [(3, 0, 1), (4, 0, 4294967296), (5, 0, 18446744073709551616), (6, 1, 0)])] [((0, 0), [(3, 1, 0)]), ((4294967276, 0), [(3, 0, 1)]), ((0, 0), [(4, 1, 0)]), ((4294967276, 0), [(4, 0, 1)]), ((0, 0), [(5, 1, 0)]), ((4294967276, 0), [(5, 0, 1)]), ((0, 7), [(11, 1, 0)]), ((7, 0), [(11, 0, 1)]), ((0, 1), [(4, 1, 0)])] [(2000193, ((0, 0), [(6, 1, 0)]), ((1, 0), []))]
theorem zx_E785_ok {PT : Nat → zz_W → Prop} : zx_Vok 64 zHT PT zx_E785 := by
  refine zx_Vc_ok (fun w w' j ins hI hI' h0 hw hK hl he hg => ?_)
  obtain ⟨a0, a1, a2, a3, a4, rfl⟩ := zx_i5 hl
  have e0 : (0 : Int) + (1 * a0 + ((-1) * a1 + ((-4294967296) * a2 + ((-18446744073709551616) * a3 + 0)))) = 0 := he _ List.mem_cons_self
  have e1 : ((-1) : Int) + (1 * (zk_xe w 2000193 a0) + 0) = 0 := he _ (List.mem_cons_of_mem _ List.mem_cons_self)
  have e2 : ((-1) : Int) + (1 * (zk_xe w 2000192 a3) + 0) = 0 := he _ (List.mem_cons_of_mem _ (List.mem_cons_of_mem _ List.mem_cons_self))
  have e3 : ((-1) : Int) + (1 * (zk_xe w 2000176 a3) + 0) = 0 := he _ (List.mem_cons_of_mem _ (List.mem_cons_of_mem _ (List.mem_cons_of_mem _ List.mem_cons_self)))
  have e4 : ((-1) : Int) + (1 * (zk_xe w 2000190 a3) + 0) = 0 := he _ (List.mem_cons_of_mem _ (List.mem_cons_of_mem _ (List.mem_cons_of_mem _ (List.mem_cons_of_mem _ List.mem_cons_self))))
  have e5 : (10 : Int) + (1 * j + ((-10) * a2 + ((-1) * (zk_xe w 211 a1) + 0))) = 0 := he _ (List.mem_cons_of_mem _ (List.mem_cons_of_mem _ (List.mem_cons_of_mem _ (List.mem_cons_of_mem _ (List.mem_cons_of_mem _ List.mem_cons_self)))))
  have e6 : ((-1) : Int) + ((-1) * a1 + ((-4294967296) * a2 + ((-18446744073709551616) * a3 + (1 * a4 + 0)))) = 0 := he _ (List.mem_cons_of_mem _ (List.mem_cons_of_mem _ (List.mem_cons_of_mem _ (List.mem_cons_of_mem _ (List.mem_cons_of_mem _ (List.mem_cons_of_mem _ List.mem_cons_self))))))
  have g0 : 0 ≤ (0 : Int) + (1 * a1 + 0) := hg _ List.mem_cons_self
  have g1 : 0 ≤ (4294967276 : Int) + ((-1) * a1 + 0) := hg _ (List.mem_cons_of_mem _ List.mem_cons_self)
  have g2 : 0 ≤ (0 : Int) + (1 * a2 + 0) := hg _ (List.mem_cons_of_mem _ (List.mem_cons_of_mem _ List.mem_cons_self))
  have g3 : 0 ≤ (4294967276 : Int) + ((-1) * a2 + 0) := hg _ (List.mem_cons_of_mem _ (List.mem_cons_of_mem _ (List.mem_cons_of_mem _ List.mem_cons_self)))
  have g4 : 0 ≤ (0 : Int) + (1 * a3 + 0) := hg _ (List.mem_cons_of_mem _ (List.mem_cons_of_mem _ (List.mem_cons_of_mem _ (List.mem_cons_of_mem _ List.mem_cons_self))))
  have g5 : 0 ≤ (4294967276 : Int) + ((-1) * a3 + 0) := hg _ (List.mem_cons_of_mem _ (List.mem_cons_of_mem _ (List.mem_cons_of_mem _ (List.mem_cons_of_mem _ (List.mem_cons_of_mem _ List.mem_cons_self)))))
  have g6 : 0 ≤ ((-7) : Int) + (1 * (zk_xe w 208 a1) + 0) := hg _ (List.mem_cons_of_mem _ (List.mem_cons_of_mem _ (List.mem_cons_of_mem _ (List.mem_cons_of_mem _ (List.mem_cons_of_mem _ (List.mem_cons_of_mem _ List.mem_cons_self))))))
  have g7 : 0 ≤ (7 : Int) + ((-1) * (zk_xe w 208 a1) + 0) := hg _ (List.mem_cons_of_mem _ (List.mem_cons_of_mem _ (List.mem_cons_of_mem _ (List.mem_cons_of_mem _ (List.mem_cons_of_mem _ (List.mem_cons_of_mem _ (List.mem_cons_of_mem _ List.mem_cons_self)))))))
  have g8 : 0 ≤ ((-1) : Int) + (1 * a2 + 0) := hg _ (List.mem_cons_of_mem _ (List.mem_cons_of_mem _ (List.mem_cons_of_mem _ (List.mem_cons_of_mem _ (List.mem_cons_of_mem _ (List.mem_cons_of_mem _ (List.mem_cons_of_mem _ (List.mem_cons_of_mem _ List.mem_cons_self))))))))
  have hd := (zfy_193 (w := w) (j := a0) (t := a1) (u := a2) (n := a3) (by omega) (by omega) (by omega) (by omega) (by omega) (by omega) (by omega) ).mp (by omega)
  have hS := zfy_Sw (w := w) (n := a3) (by omega) (by omega) (by omega) (by omega) (by omega) 
  have kW : zh_e w 208 (a1) = zk_xe w 208 (a1) := by rw [zk_xe_r (i := 208) (by decide)]; rfl
  have kC : zh_e w 211 (a1) = zk_xe w 211 (a1) := by rw [zk_xe_r (i := 211) (by decide)]; rfl
  have o208 : zh_e w' 208 = zh_e w 208 := zh_e_g (hw.1 208 (by decide))
  have o209 : zh_e w' 209 = zh_e w 209 := zh_e_g (hw.1 209 (by decide))
  have o210 : zh_e w' 210 = zh_e w 210 := zh_e_g (hw.1 210 (by decide))
  have o211 : zh_e w' 211 = zh_e w 211 := zh_e_g (hw.1 211 (by decide))
  have o207 : zh_e w' 207 = zh_e w 207 := zh_e_g (hw.1 207 (by decide))
  have o324 : zh_e w' 324 = zh_e w 324 := zh_e_g (hw.1 324 (by decide))
  have o325 : zh_e w' 325 = zh_e w 325 := zh_e_g (hw.1 325 (by decide))
  have o216 : zh_e w' 216 = zh_e w 216 := zh_e_g (hw.1 216 (by decide))
  have o214 : zh_e w' 214 = zh_e w 214 := zh_e_g (hw.1 214 (by decide))
  have o213 : zh_e w' 213 = zh_e w 213 := zh_e_g (hw.1 213 (by decide))
  have h : zk_xe w' 2000193 a4 = 1 := by
    refine (zfy_193 (w := w') (j := a4) (t := (a1 + 1)) (u := a2) (n := a3) (by omega) (by omega) (by omega) (by omega) (by omega) (by omega) (by omega) ).mpr ?_
    rw [o208, o209, o210, o211, o207, o324, o325, o216, o214, o213]
    exact zfy_t1 hd hS (by omega) (by rw [kW]; omega) (by rw [kW]; omega) (by rw [kW]; omega) (fun i i0 i1 => hw.2 i i0 (fun e => i1 (by rw [kC]; omega)))
  exact (zx_eF1 (by show 0 ≤ (0 : Int) + (1 * a4 + 0); omega) (by show zk_xe w' 2000193 ((0 : Int) + (1 * a4 + 0)) = (1 : Int) + (0); rw [show (0 : Int) + (1 * a4 + 0) = a4 by omega]; exact h.trans (by omega)) zx_eF0)
def zx_E786 : zx_V := zx_Vc 327 [] 5 [(2000193, 0), (2000192, 3), (2000176, 3), (2000190, 3), (208, 1), (211, 1)] [((0, 0), [(2, 1, 0), (3, 0, 1), (4, 0, 4294967296), (5, 0, 18446744073709551616)]), ((0, 1), [(7, 1, 0)]), ((0, 1), [(8, 1, 0)]), ((0, 1), [(9, 1, 0)]), ((0, 1), [(10, 1, 0)]), ((10, 0), [(0, 1, 0), (4, 0, 10), (12, 0, 1)]), ((0, 1), [(3, 0, 1), (4, 0, 4294967296), (5, 0, 18446744073709551616), (6, 1, 0)])] [((0, 0), [(3, 1, 0)]), ((4294967276, 0), [(3, 0, 1)]), ((0, 0), [(4, 1, 0)]), ((4294967276, 0), [(4, 0, 1)]), ((0, 0), [(5, 1, 0)]), ((4294967276, 0), [(5, 0, 1)]), ((0, 9), [(11, 1, 0)]), ((10, 0), [(11, 0, 1)]), ((0, 1), [(4, 1, 0)])] [(2000193, ((0, 0), [(6, 1, 0)]), ((1, 0), []))]
theorem zx_E786_ok {PT : Nat → zz_W → Prop} : zx_Vok 64 zHT PT zx_E786 := by
  refine zx_Vc_ok (fun w w' j ins hI hI' h0 hw hK hl he hg => ?_)
  obtain ⟨a0, a1, a2, a3, a4, rfl⟩ := zx_i5 hl
  have e0 : (0 : Int) + (1 * a0 + ((-1) * a1 + ((-4294967296) * a2 + ((-18446744073709551616) * a3 + 0)))) = 0 := he _ List.mem_cons_self
  have e1 : ((-1) : Int) + (1 * (zk_xe w 2000193 a0) + 0) = 0 := he _ (List.mem_cons_of_mem _ List.mem_cons_self)
  have e2 : ((-1) : Int) + (1 * (zk_xe w 2000192 a3) + 0) = 0 := he _ (List.mem_cons_of_mem _ (List.mem_cons_of_mem _ List.mem_cons_self))
  have e3 : ((-1) : Int) + (1 * (zk_xe w 2000176 a3) + 0) = 0 := he _ (List.mem_cons_of_mem _ (List.mem_cons_of_mem _ (List.mem_cons_of_mem _ List.mem_cons_self)))
  have e4 : ((-1) : Int) + (1 * (zk_xe w 2000190 a3) + 0) = 0 := he _ (List.mem_cons_of_mem _ (List.mem_cons_of_mem _ (List.mem_cons_of_mem _ (List.mem_cons_of_mem _ List.mem_cons_self))))
  have e5 : (10 : Int) + (1 * j + ((-10) * a2 + ((-1) * (zk_xe w 211 a1) + 0))) = 0 := he _ (List.mem_cons_of_mem _ (List.mem_cons_of_mem _ (List.mem_cons_of_mem _ (List.mem_cons_of_mem _ (List.mem_cons_of_mem _ List.mem_cons_self)))))
  have e6 : ((-1) : Int) + ((-1) * a1 + ((-4294967296) * a2 + ((-18446744073709551616) * a3 + (1 * a4 + 0)))) = 0 := he _ (List.mem_cons_of_mem _ (List.mem_cons_of_mem _ (List.mem_cons_of_mem _ (List.mem_cons_of_mem _ (List.mem_cons_of_mem _ (List.mem_cons_of_mem _ List.mem_cons_self))))))
  have g0 : 0 ≤ (0 : Int) + (1 * a1 + 0) := hg _ List.mem_cons_self
  have g1 : 0 ≤ (4294967276 : Int) + ((-1) * a1 + 0) := hg _ (List.mem_cons_of_mem _ List.mem_cons_self)
  have g2 : 0 ≤ (0 : Int) + (1 * a2 + 0) := hg _ (List.mem_cons_of_mem _ (List.mem_cons_of_mem _ List.mem_cons_self))
  have g3 : 0 ≤ (4294967276 : Int) + ((-1) * a2 + 0) := hg _ (List.mem_cons_of_mem _ (List.mem_cons_of_mem _ (List.mem_cons_of_mem _ List.mem_cons_self)))
  have g4 : 0 ≤ (0 : Int) + (1 * a3 + 0) := hg _ (List.mem_cons_of_mem _ (List.mem_cons_of_mem _ (List.mem_cons_of_mem _ (List.mem_cons_of_mem _ List.mem_cons_self))))
  have g5 : 0 ≤ (4294967276 : Int) + ((-1) * a3 + 0) := hg _ (List.mem_cons_of_mem _ (List.mem_cons_of_mem _ (List.mem_cons_of_mem _ (List.mem_cons_of_mem _ (List.mem_cons_of_mem _ List.mem_cons_self)))))
  have g6 : 0 ≤ ((-9) : Int) + (1 * (zk_xe w 208 a1) + 0) := hg _ (List.mem_cons_of_mem _ (List.mem_cons_of_mem _ (List.mem_cons_of_mem _ (List.mem_cons_of_mem _ (List.mem_cons_of_mem _ (List.mem_cons_of_mem _ List.mem_cons_self))))))
  have g7 : 0 ≤ (10 : Int) + ((-1) * (zk_xe w 208 a1) + 0) := hg _ (List.mem_cons_of_mem _ (List.mem_cons_of_mem _ (List.mem_cons_of_mem _ (List.mem_cons_of_mem _ (List.mem_cons_of_mem _ (List.mem_cons_of_mem _ (List.mem_cons_of_mem _ List.mem_cons_self)))))))
  have g8 : 0 ≤ ((-1) : Int) + (1 * a2 + 0) := hg _ (List.mem_cons_of_mem _ (List.mem_cons_of_mem _ (List.mem_cons_of_mem _ (List.mem_cons_of_mem _ (List.mem_cons_of_mem _ (List.mem_cons_of_mem _ (List.mem_cons_of_mem _ (List.mem_cons_of_mem _ List.mem_cons_self))))))))
  have hd := (zfy_193 (w := w) (j := a0) (t := a1) (u := a2) (n := a3) (by omega) (by omega) (by omega) (by omega) (by omega) (by omega) (by omega) ).mp (by omega)
  have hS := zfy_Sw (w := w) (n := a3) (by omega) (by omega) (by omega) (by omega) (by omega) 
  have kW : zh_e w 208 (a1) = zk_xe w 208 (a1) := by rw [zk_xe_r (i := 208) (by decide)]; rfl
  have kC : zh_e w 211 (a1) = zk_xe w 211 (a1) := by rw [zk_xe_r (i := 211) (by decide)]; rfl
  have o208 : zh_e w' 208 = zh_e w 208 := zh_e_g (hw.1 208 (by decide))
  have o209 : zh_e w' 209 = zh_e w 209 := zh_e_g (hw.1 209 (by decide))
  have o210 : zh_e w' 210 = zh_e w 210 := zh_e_g (hw.1 210 (by decide))
  have o211 : zh_e w' 211 = zh_e w 211 := zh_e_g (hw.1 211 (by decide))
  have o207 : zh_e w' 207 = zh_e w 207 := zh_e_g (hw.1 207 (by decide))
  have o324 : zh_e w' 324 = zh_e w 324 := zh_e_g (hw.1 324 (by decide))
  have o325 : zh_e w' 325 = zh_e w 325 := zh_e_g (hw.1 325 (by decide))
  have o216 : zh_e w' 216 = zh_e w 216 := zh_e_g (hw.1 216 (by decide))
  have o214 : zh_e w' 214 = zh_e w 214 := zh_e_g (hw.1 214 (by decide))
  have o213 : zh_e w' 213 = zh_e w 213 := zh_e_g (hw.1 213 (by decide))
  have h : zk_xe w' 2000193 a4 = 1 := by
    refine (zfy_193 (w := w') (j := a4) (t := (a1 + 1)) (u := a2) (n := a3) (by omega) (by omega) (by omega) (by omega) (by omega) (by omega) (by omega) ).mpr ?_
    rw [o208, o209, o210, o211, o207, o324, o325, o216, o214, o213]
    exact zfy_t1 hd hS (by omega) (by rw [kW]; omega) (by rw [kW]; omega) (by rw [kW]; omega) (fun i i0 i1 => hw.2 i i0 (fun e => i1 (by rw [kC]; omega)))
  exact (zx_eF1 (by show 0 ≤ (0 : Int) + (1 * a4 + 0); omega) (by show zk_xe w' 2000193 ((0 : Int) + (1 * a4 + 0)) = (1 : Int) + (0); rw [show (0 : Int) + (1 * a4 + 0) = a4 by omega]; exact h.trans (by omega)) zx_eF0)
def zx_E781 : zx_V := zx_Vc 327 [] 6 [(2000193, 0), (324, 4), (325, 4)] [((0, 0), [(2, 1, 0), (3, 0, 1), (4, 0, 4294967296), (5, 0, 18446744073709551616)]), ((0, 1), [(8, 1, 0)]), ((1, 0), [(4, 0, 1), (6, 1, 0)]), ((10, 0), [(0, 1, 0), (6, 0, 10), (10, 0, 1)]), ((0, 0), [(5, 0, 18446744073709551616), (6, 0, 4294967296), (7, 1, 0), (9, 0, 1)])] [((0, 0), [(3, 1, 0)]), ((4294967276, 0), [(3, 0, 1)]), ((0, 0), [(4, 1, 0)]), ((4294967276, 0), [(4, 0, 1)]), ((0, 0), [(5, 1, 0)]), ((4294967276, 0), [(5, 0, 1)]), ((0, 2), [(4, 1, 0)]), ((0, 0), [(6, 1, 0)]), ((0, 0), [(9, 1, 0)]), ((48000, 0), [(9, 0, 1)])] [(2000193, ((0, 0), [(7, 1, 0)]), ((1, 0), []))]
theorem zx_E781_ok {PT : Nat → zz_W → Prop} : zx_Vok 64 zHT PT zx_E781 := by
  refine zx_Vc_ok (fun w w' j ins hI hI' h0 hw hK hl he hg => ?_)
  obtain ⟨a0, a1, a2, a3, a4, a5, rfl⟩ := zx_i6 hl
  have e0 : (0 : Int) + (1 * a0 + ((-1) * a1 + ((-4294967296) * a2 + ((-18446744073709551616) * a3 + 0)))) = 0 := he _ List.mem_cons_self
  have e1 : ((-1) : Int) + (1 * (zk_xe w 2000193 a0) + 0) = 0 := he _ (List.mem_cons_of_mem _ List.mem_cons_self)
  have e2 : (1 : Int) + ((-1) * a2 + (1 * a4 + 0)) = 0 := he _ (List.mem_cons_of_mem _ (List.mem_cons_of_mem _ List.mem_cons_self))
  have e3 : (10 : Int) + (1 * j + ((-10) * a4 + ((-1) * (zk_xe w 325 a4) + 0))) = 0 := he _ (List.mem_cons_of_mem _ (List.mem_cons_of_mem _ (List.mem_cons_of_mem _ List.mem_cons_self)))
  have e4 : (0 : Int) + ((-18446744073709551616) * a3 + ((-4294967296) * a4 + (1 * a5 + ((-1) * (zk_xe w 324 a4) + 0)))) = 0 := he _ (List.mem_cons_of_mem _ (List.mem_cons_of_mem _ (List.mem_cons_of_mem _ (List.mem_cons_of_mem _ List.mem_cons_self))))
  have g0 : 0 ≤ (0 : Int) + (1 * a1 + 0) := hg _ List.mem_cons_self
  have g1 : 0 ≤ (4294967276 : Int) + ((-1) * a1 + 0) := hg _ (List.mem_cons_of_mem _ List.mem_cons_self)
  have g2 : 0 ≤ (0 : Int) + (1 * a2 + 0) := hg _ (List.mem_cons_of_mem _ (List.mem_cons_of_mem _ List.mem_cons_self))
  have g3 : 0 ≤ (4294967276 : Int) + ((-1) * a2 + 0) := hg _ (List.mem_cons_of_mem _ (List.mem_cons_of_mem _ (List.mem_cons_of_mem _ List.mem_cons_self)))
  have g4 : 0 ≤ (0 : Int) + (1 * a3 + 0) := hg _ (List.mem_cons_of_mem _ (List.mem_cons_of_mem _ (List.mem_cons_of_mem _ (List.mem_cons_of_mem _ List.mem_cons_self))))
  have g5 : 0 ≤ (4294967276 : Int) + ((-1) * a3 + 0) := hg _ (List.mem_cons_of_mem _ (List.mem_cons_of_mem _ (List.mem_cons_of_mem _ (List.mem_cons_of_mem _ (List.mem_cons_of_mem _ List.mem_cons_self)))))
  have g6 : 0 ≤ ((-2) : Int) + (1 * a2 + 0) := hg _ (List.mem_cons_of_mem _ (List.mem_cons_of_mem _ (List.mem_cons_of_mem _ (List.mem_cons_of_mem _ (List.mem_cons_of_mem _ (List.mem_cons_of_mem _ List.mem_cons_self))))))
  have g7 : 0 ≤ (0 : Int) + (1 * a4 + 0) := hg _ (List.mem_cons_of_mem _ (List.mem_cons_of_mem _ (List.mem_cons_of_mem _ (List.mem_cons_of_mem _ (List.mem_cons_of_mem _ (List.mem_cons_of_mem _ (List.mem_cons_of_mem _ List.mem_cons_self)))))))
  have g8 : 0 ≤ (0 : Int) + (1 * (zk_xe w 324 a4) + 0) := hg _ (List.mem_cons_of_mem _ (List.mem_cons_of_mem _ (List.mem_cons_of_mem _ (List.mem_cons_of_mem _ (List.mem_cons_of_mem _ (List.mem_cons_of_mem _ (List.mem_cons_of_mem _ (List.mem_cons_of_mem _ List.mem_cons_self))))))))
  have g9 : 0 ≤ (48000 : Int) + ((-1) * (zk_xe w 324 a4) + 0) := hg _ (List.mem_cons_of_mem _ (List.mem_cons_of_mem _ (List.mem_cons_of_mem _ (List.mem_cons_of_mem _ (List.mem_cons_of_mem _ (List.mem_cons_of_mem _ (List.mem_cons_of_mem _ (List.mem_cons_of_mem _ (List.mem_cons_of_mem _ List.mem_cons_self)))))))))
  have hd := (zfy_193 (w := w) (j := a0) (t := a1) (u := a2) (n := a3) (by omega) (by omega) (by omega) (by omega) (by omega) (by omega) (by omega) ).mp (by omega)
  have kT : zh_e w 324 (a2 - 1) = zk_xe w 324 (a4) := by rw [zk_xe_r (i := 324) (by decide)]; show zk_el w 324 (a2 - 1) = zk_el w 324 (a4); rw [show a2 - 1 = a4 by omega]
  have kP : zh_e w 325 (a2 - 1) = zk_xe w 325 (a4) := by rw [zk_xe_r (i := 325) (by decide)]; show zk_el w 325 (a2 - 1) = zk_el w 325 (a4); rw [show a2 - 1 = a4 by omega]
  have h2 := zfy_t6 (H' := zh_e w' 327) hd (by omega) (fun i i0 i1 => hw.2 i i0 (fun e => i1 (by rw [kP]; omega)))
  rw [kT, show a2 - 1 = a4 by omega] at h2
  have o208 : zh_e w' 208 = zh_e w 208 := zh_e_g (hw.1 208 (by decide))
  have o209 : zh_e w' 209 = zh_e w 209 := zh_e_g (hw.1 209 (by decide))
  have o210 : zh_e w' 210 = zh_e w 210 := zh_e_g (hw.1 210 (by decide))
  have o211 : zh_e w' 211 = zh_e w 211 := zh_e_g (hw.1 211 (by decide))
  have o207 : zh_e w' 207 = zh_e w 207 := zh_e_g (hw.1 207 (by decide))
  have o324 : zh_e w' 324 = zh_e w 324 := zh_e_g (hw.1 324 (by decide))
  have o325 : zh_e w' 325 = zh_e w 325 := zh_e_g (hw.1 325 (by decide))
  have o216 : zh_e w' 216 = zh_e w 216 := zh_e_g (hw.1 216 (by decide))
  have o214 : zh_e w' 214 = zh_e w 214 := zh_e_g (hw.1 214 (by decide))
  have o213 : zh_e w' 213 = zh_e w 213 := zh_e_g (hw.1 213 (by decide))
  have h : zk_xe w' 2000193 a5 = 1 := by
    refine (zfy_193 (w := w') (j := a5) (t := (zk_xe w 324 a4)) (u := a4) (n := a3) (by omega) (by omega) (by omega) (by omega) (by omega) (by omega) (by omega) ).mpr ?_
    rw [o208, o209, o210, o211, o207, o324, o325, o216, o214, o213]
    exact h2
  exact (zx_eF1 (by show 0 ≤ (0 : Int) + (1 * a5 + 0); omega) (by show zk_xe w' 2000193 ((0 : Int) + (1 * a5 + 0)) = (1 : Int) + (0); rw [show (0 : Int) + (1 * a5 + 0) = a5 by omega]; exact h.trans (by omega)) zx_eF0)
def zx_E782 : zx_V := zx_Vc 324 [] 4 [(2000193, 0)] [((0, 0), [(2, 1, 0), (3, 0, 1), (4, 0, 4294967296), (5, 0, 18446744073709551616)]), ((0, 1), [(6, 1, 0)])] [((0, 0), [(3, 1, 0)]), ((4294967276, 0), [(3, 0, 1)]), ((0, 0), [(4, 1, 0)]), ((4294967276, 0), [(4, 0, 1)]), ((0, 0), [(5, 1, 0)]), ((4294967276, 0), [(5, 0, 1)]), ((0, 0), [(0, 1, 0), (4, 0, 1)])] [(2000193, ((0, 0), [(2, 1, 0)]), ((1, 0), []))]
theorem zx_E782_ok {PT : Nat → zz_W → Prop} : zx_Vok 64 zHT PT zx_E782 := by
  refine zx_Vc_ok (fun w w' j ins hI hI' h0 hw hK hl he hg => ?_)
  obtain ⟨a0, a1, a2, a3, rfl⟩ := zx_i4 hl
  have e0 : (0 : Int) + (1 * a0 + ((-1) * a1 + ((-4294967296) * a2 + ((-18446744073709551616) * a3 + 0)))) = 0 := he _ List.mem_cons_self
  have e1 : ((-1) : Int) + (1 * (zk_xe w 2000193 a0) + 0) = 0 := he _ (List.mem_cons_of_mem _ List.mem_cons_self)
  have g0 : 0 ≤ (0 : Int) + (1 * a1 + 0) := hg _ List.mem_cons_self
  have g1 : 0 ≤ (4294967276 : Int) + ((-1) * a1 + 0) := hg _ (List.mem_cons_of_mem _ List.mem_cons_self)
  have g2 : 0 ≤ (0 : Int) + (1 * a2 + 0) := hg _ (List.mem_cons_of_mem _ (List.mem_cons_of_mem _ List.mem_cons_self))
  have g3 : 0 ≤ (4294967276 : Int) + ((-1) * a2 + 0) := hg _ (List.mem_cons_of_mem _ (List.mem_cons_of_mem _ (List.mem_cons_of_mem _ List.mem_cons_self)))
  have g4 : 0 ≤ (0 : Int) + (1 * a3 + 0) := hg _ (List.mem_cons_of_mem _ (List.mem_cons_of_mem _ (List.mem_cons_of_mem _ (List.mem_cons_of_mem _ List.mem_cons_self))))
  have g5 : 0 ≤ (4294967276 : Int) + ((-1) * a3 + 0) := hg _ (List.mem_cons_of_mem _ (List.mem_cons_of_mem _ (List.mem_cons_of_mem _ (List.mem_cons_of_mem _ (List.mem_cons_of_mem _ List.mem_cons_self)))))
  have g6 : 0 ≤ (0 : Int) + (1 * j + ((-1) * a2 + 0)) := hg _ (List.mem_cons_of_mem _ (List.mem_cons_of_mem _ (List.mem_cons_of_mem _ (List.mem_cons_of_mem _ (List.mem_cons_of_mem _ (List.mem_cons_of_mem _ List.mem_cons_self))))))
  have hd := (zfy_193 (w := w) (j := a0) (t := a1) (u := a2) (n := a3) (by omega) (by omega) (by omega) (by omega) (by omega) (by omega) (by omega) ).mp (by omega)
  have o208 : zh_e w' 208 = zh_e w 208 := zh_e_g (hw.1 208 (by decide))
  have o209 : zh_e w' 209 = zh_e w 209 := zh_e_g (hw.1 209 (by decide))
  have o210 : zh_e w' 210 = zh_e w 210 := zh_e_g (hw.1 210 (by decide))
  have o211 : zh_e w' 211 = zh_e w 211 := zh_e_g (hw.1 211 (by decide))
  have o207 : zh_e w' 207 = zh_e w 207 := zh_e_g (hw.1 207 (by decide))
  have o327 : zh_e w' 327 = zh_e w 327 := zh_e_g (hw.1 327 (by decide))
  have o325 : zh_e w' 325 = zh_e w 325 := zh_e_g (hw.1 325 (by decide))
  have o216 : zh_e w' 216 = zh_e w 216 := zh_e_g (hw.1 216 (by decide))
  have o214 : zh_e w' 214 = zh_e w 214 := zh_e_g (hw.1 214 (by decide))
  have o213 : zh_e w' 213 = zh_e w 213 := zh_e_g (hw.1 213 (by decide))
  have h : zk_xe w' 2000193 a0 = 1 := by
    refine (zfy_193 (w := w') (j := a0) (t := a1) (u := a2) (n := a3) (by omega) (by omega) (by omega) (by omega) (by omega) (by omega) (by omega) ).mpr ?_
    rw [o208, o209, o210, o211, o207, o327, o325, o216, o214, o213]
    exact zfy_k hd (fun i i0 i1 => hw.2 i (by omega) (by omega)) (fun _ _ _ => rfl)
  exact (zx_eF1 (by show 0 ≤ (0 : Int) + (1 * a0 + 0); omega) (by show zk_xe w' 2000193 ((0 : Int) + (1 * a0 + 0)) = (1 : Int) + (0); rw [show (0 : Int) + (1 * a0 + 0) = a0 by omega]; exact h.trans (by omega)) zx_eF0)
def zx_E783 : zx_V := zx_Vc 325 [] 4 [(2000193, 0)] [((0, 0), [(2, 1, 0), (3, 0, 1), (4, 0, 4294967296), (5, 0, 18446744073709551616)]), ((0, 1), [(6, 1, 0)])] [((0, 0), [(3, 1, 0)]), ((4294967276, 0), [(3, 0, 1)]), ((0, 0), [(4, 1, 0)]), ((4294967276, 0), [(4, 0, 1)]), ((0, 0), [(5, 1, 0)]), ((4294967276, 0), [(5, 0, 1)]), ((0, 0), [(0, 1, 0), (4, 0, 1)])] [(2000193, ((0, 0), [(2, 1, 0)]), ((1, 0), []))]
theorem zx_E783_ok {PT : Nat → zz_W → Prop} : zx_Vok 64 zHT PT zx_E783 := by
  refine zx_Vc_ok (fun w w' j ins hI hI' h0 hw hK hl he hg => ?_)
  obtain ⟨a0, a1, a2, a3, rfl⟩ := zx_i4 hl
  have e0 : (0 : Int) + (1 * a0 + ((-1) * a1 + ((-4294967296) * a2 + ((-18446744073709551616) * a3 + 0)))) = 0 := he _ List.mem_cons_self
  have e1 : ((-1) : Int) + (1 * (zk_xe w 2000193 a0) + 0) = 0 := he _ (List.mem_cons_of_mem _ List.mem_cons_self)
  have g0 : 0 ≤ (0 : Int) + (1 * a1 + 0) := hg _ List.mem_cons_self
  have g1 : 0 ≤ (4294967276 : Int) + ((-1) * a1 + 0) := hg _ (List.mem_cons_of_mem _ List.mem_cons_self)
  have g2 : 0 ≤ (0 : Int) + (1 * a2 + 0) := hg _ (List.mem_cons_of_mem _ (List.mem_cons_of_mem _ List.mem_cons_self))
  have g3 : 0 ≤ (4294967276 : Int) + ((-1) * a2 + 0) := hg _ (List.mem_cons_of_mem _ (List.mem_cons_of_mem _ (List.mem_cons_of_mem _ List.mem_cons_self)))
  have g4 : 0 ≤ (0 : Int) + (1 * a3 + 0) := hg _ (List.mem_cons_of_mem _ (List.mem_cons_of_mem _ (List.mem_cons_of_mem _ (List.mem_cons_of_mem _ List.mem_cons_self))))
  have g5 : 0 ≤ (4294967276 : Int) + ((-1) * a3 + 0) := hg _ (List.mem_cons_of_mem _ (List.mem_cons_of_mem _ (List.mem_cons_of_mem _ (List.mem_cons_of_mem _ (List.mem_cons_of_mem _ List.mem_cons_self)))))
  have g6 : 0 ≤ (0 : Int) + (1 * j + ((-1) * a2 + 0)) := hg _ (List.mem_cons_of_mem _ (List.mem_cons_of_mem _ (List.mem_cons_of_mem _ (List.mem_cons_of_mem _ (List.mem_cons_of_mem _ (List.mem_cons_of_mem _ List.mem_cons_self))))))
  have hd := (zfy_193 (w := w) (j := a0) (t := a1) (u := a2) (n := a3) (by omega) (by omega) (by omega) (by omega) (by omega) (by omega) (by omega) ).mp (by omega)
  have o208 : zh_e w' 208 = zh_e w 208 := zh_e_g (hw.1 208 (by decide))
  have o209 : zh_e w' 209 = zh_e w 209 := zh_e_g (hw.1 209 (by decide))
  have o210 : zh_e w' 210 = zh_e w 210 := zh_e_g (hw.1 210 (by decide))
  have o211 : zh_e w' 211 = zh_e w 211 := zh_e_g (hw.1 211 (by decide))
  have o207 : zh_e w' 207 = zh_e w 207 := zh_e_g (hw.1 207 (by decide))
  have o327 : zh_e w' 327 = zh_e w 327 := zh_e_g (hw.1 327 (by decide))
  have o324 : zh_e w' 324 = zh_e w 324 := zh_e_g (hw.1 324 (by decide))
  have o216 : zh_e w' 216 = zh_e w 216 := zh_e_g (hw.1 216 (by decide))
  have o214 : zh_e w' 214 = zh_e w 214 := zh_e_g (hw.1 214 (by decide))
  have o213 : zh_e w' 213 = zh_e w 213 := zh_e_g (hw.1 213 (by decide))
  have h : zk_xe w' 2000193 a0 = 1 := by
    refine (zfy_193 (w := w') (j := a0) (t := a1) (u := a2) (n := a3) (by omega) (by omega) (by omega) (by omega) (by omega) (by omega) (by omega) ).mpr ?_
    rw [o208, o209, o210, o211, o207, o327, o324, o216, o214, o213]
    exact zfy_k hd (fun _ _ _ => rfl) (fun i i0 i1 => hw.2 i (by omega) (by omega))
  exact (zx_eF1 (by show 0 ≤ (0 : Int) + (1 * a0 + 0); omega) (by show zk_xe w' 2000193 ((0 : Int) + (1 * a0 + 0)) = (1 : Int) + (0); rw [show (0 : Int) + (1 * a0 + 0) = a0 by omega]; exact h.trans (by omega)) zx_eF0)
def zx_E784 : zx_V := zx_Vc 324 [] 4 [(2000194, 0)] [((0, 0), [(2, 1, 0), (3, 0, 1), (4, 0, 4294967296), (5, 0, 18446744073709551616)])] [((0, 0), [(3, 1, 0)]), ((4294967276, 0), [(3, 0, 1)]), ((0, 0), [(4, 1, 0)]), ((4294967276, 0), [(4, 0, 1)]), ((0, 0), [(5, 1, 0)]), ((4294967276, 0), [(5, 0, 1)]), ((0, 0), [(0, 1, 0), (5, 0, 1)])] [(2000194, ((0, 0), [(2, 1, 0)]), ((0, 0), [(6, 1, 0)]))]
theorem zx_E784_ok {PT : Nat → zz_W → Prop} : zx_Vok 64 zHT PT zx_E784 := by
  refine zx_Vc_ok (fun w w' j ins hI hI' h0 hw hK hl he hg => ?_)
  obtain ⟨a0, a1, a2, a3, rfl⟩ := zx_i4 hl
  have e0 : (0 : Int) + (1 * a0 + ((-1) * a1 + ((-4294967296) * a2 + ((-18446744073709551616) * a3 + 0)))) = 0 := he _ List.mem_cons_self
  have g0 : 0 ≤ (0 : Int) + (1 * a1 + 0) := hg _ List.mem_cons_self
  have g1 : 0 ≤ (4294967276 : Int) + ((-1) * a1 + 0) := hg _ (List.mem_cons_of_mem _ List.mem_cons_self)
  have g2 : 0 ≤ (0 : Int) + (1 * a2 + 0) := hg _ (List.mem_cons_of_mem _ (List.mem_cons_of_mem _ List.mem_cons_self))
  have g3 : 0 ≤ (4294967276 : Int) + ((-1) * a2 + 0) := hg _ (List.mem_cons_of_mem _ (List.mem_cons_of_mem _ (List.mem_cons_of_mem _ List.mem_cons_self)))
  have g4 : 0 ≤ (0 : Int) + (1 * a3 + 0) := hg _ (List.mem_cons_of_mem _ (List.mem_cons_of_mem _ (List.mem_cons_of_mem _ (List.mem_cons_of_mem _ List.mem_cons_self))))
  have g5 : 0 ≤ (4294967276 : Int) + ((-1) * a3 + 0) := hg _ (List.mem_cons_of_mem _ (List.mem_cons_of_mem _ (List.mem_cons_of_mem _ (List.mem_cons_of_mem _ (List.mem_cons_of_mem _ List.mem_cons_self)))))
  have g6 : 0 ≤ (0 : Int) + (1 * j + ((-1) * a3 + 0)) := hg _ (List.mem_cons_of_mem _ (List.mem_cons_of_mem _ (List.mem_cons_of_mem _ (List.mem_cons_of_mem _ (List.mem_cons_of_mem _ (List.mem_cons_of_mem _ List.mem_cons_self))))))
  have hm0 := (zfy_194 (w := w) (j := a0) (ms := a1) (t := a2) (u := a3) (by omega) (by omega) (by omega) (by omega) (by omega) (by omega) (by omega) )
  have hm1 := (zfy_194 (w := w') (j := a0) (ms := a1) (t := a2) (u := a3) (by omega) (by omega) (by omega) (by omega) (by omega) (by omega) (by omega) )
  have o208 : zh_e w' 208 = zh_e w 208 := zh_e_g (hw.1 208 (by decide))
  have h : zk_xe w' 2000194 a0 = zk_xe w 2000194 a0 := by
    rw [hm0, hm1, o208]
    exact zfm_k (fun i i0 i1 => hw.2 i (by omega) (by omega))
  exact (zx_eF1 (by show 0 ≤ (0 : Int) + (1 * a0 + 0); omega) (by show zk_xe w' 2000194 ((0 : Int) + (1 * a0 + 0)) = (0 : Int) + (1 * (zk_xe w 2000194 a0) + 0); rw [show (0 : Int) + (1 * a0 + 0) = a0 by omega]; exact h.trans (by omega)) zx_eF0)
def zx_D1281 : zx_L := zx_Lc [] 1 [] [] [((0, 0), [(0, 1, 0)])] [] [([], [], [(2000195, ((0, 0), [(0, 1, 0)]), ((1, 0), []))], [])]
theorem zx_D1281_ok {PT : Nat → zz_W → Prop} : zx_Lok 64 zHT PT zx_D1281 := by
  refine zx_Lc_ok (fun w hI hK ins hl hr he hg => ?_)
  obtain ⟨a0, rfl⟩ := zx_i1 hl
  have e0 : (0 : Int) + (1 * a0 + 0) = 0 := he _ List.mem_cons_self
  have h : zk_xe w 2000195 a0 = 1 := (zfy_195 (w := w) (j := a0) (u := 0) (k := 0) (by omega) (by omega) (by omega) (by omega) (by omega) ).mpr (fun v i v0 v1 i0 i1 i2 q => by have := q (by omega); omega)
  exact ⟨_, List.mem_cons_self, [], rfl, zx_bnil, zx_cs0, (zx_eF1 (by show 0 ≤ (0 : Int) + (1 * a0 + 0); omega) (by show zk_xe w 2000195 ((0 : Int) + (1 * a0 + 0)) = (1 : Int) + (0); rw [show (0 : Int) + (1 * a0 + 0) = a0 by omega]; exact h.trans (by omega)) zx_eF0), zx_k0⟩
def zx_D1282 : zx_L := zx_Lc [] 5 [(2000195, 0), (216, 3), (321, 3)] [] [((0, 0), [(0, 1, 0), (1, 0, 1), (2, 0, 4294967296)]), ((0, 1), [(5, 1, 0)]), ((0, 0), [(1, 0, 64), (2, 0, 1), (3, 1, 0)]), ((0, 4294967296), [(1, 0, 1), (2, 0, 4294967296), (4, 1, 0)])] [((0, 0), [(1, 1, 0)]), ((4294967276, 0), [(1, 0, 1)]), ((0, 0), [(2, 1, 0)]), ((4294967276, 0), [(2, 0, 1)]), ((0, 0), [(7, 1, 0)]), ((71999, 0), [(7, 0, 1)]), ((72000, 0), [(6, 0, 1), (7, 0, 1)])] [([], [], [(2000195, ((0, 0), [(4, 1, 0)]), ((1, 0), []))], [])]
theorem zx_D1282_ok {PT : Nat → zz_W → Prop} : zx_Lok 64 zHT PT zx_D1282 := by
  refine zx_Lc_ok (fun w hI hK ins hl hr he hg => ?_)
  obtain ⟨a0, a1, a2, a3, a4, rfl⟩ := zx_i5 hl
  have e0 : (0 : Int) + (1 * a0 + ((-1) * a1 + ((-4294967296) * a2 + 0))) = 0 := he _ List.mem_cons_self
  have e1 : ((-1) : Int) + (1 * (zk_xe w 2000195 a0) + 0) = 0 := he _ (List.mem_cons_of_mem _ List.mem_cons_self)
  have e2 : (0 : Int) + ((-64) * a1 + ((-1) * a2 + (1 * a3 + 0))) = 0 := he _ (List.mem_cons_of_mem _ (List.mem_cons_of_mem _ List.mem_cons_self))
  have e3 : ((-4294967296) : Int) + ((-1) * a1 + ((-4294967296) * a2 + (1 * a4 + 0))) = 0 := he _ (List.mem_cons_of_mem _ (List.mem_cons_of_mem _ (List.mem_cons_of_mem _ List.mem_cons_self)))
  have g0 : 0 ≤ (0 : Int) + (1 * a1 + 0) := hg _ List.mem_cons_self
  have g1 : 0 ≤ (4294967276 : Int) + ((-1) * a1 + 0) := hg _ (List.mem_cons_of_mem _ List.mem_cons_self)
  have g2 : 0 ≤ (0 : Int) + (1 * a2 + 0) := hg _ (List.mem_cons_of_mem _ (List.mem_cons_of_mem _ List.mem_cons_self))
  have g3 : 0 ≤ (4294967276 : Int) + ((-1) * a2 + 0) := hg _ (List.mem_cons_of_mem _ (List.mem_cons_of_mem _ (List.mem_cons_of_mem _ List.mem_cons_self)))
  have g4 : 0 ≤ (0 : Int) + (1 * (zk_xe w 321 a3) + 0) := hg _ (List.mem_cons_of_mem _ (List.mem_cons_of_mem _ (List.mem_cons_of_mem _ (List.mem_cons_of_mem _ List.mem_cons_self))))
  have g5 : 0 ≤ (71999 : Int) + ((-1) * (zk_xe w 321 a3) + 0) := hg _ (List.mem_cons_of_mem _ (List.mem_cons_of_mem _ (List.mem_cons_of_mem _ (List.mem_cons_of_mem _ (List.mem_cons_of_mem _ List.mem_cons_self)))))
  have g6 : 0 ≤ (72000 : Int) + ((-1) * (zk_xe w 216 a3) + ((-1) * (zk_xe w 321 a3) + 0)) := hg _ (List.mem_cons_of_mem _ (List.mem_cons_of_mem _ (List.mem_cons_of_mem _ (List.mem_cons_of_mem _ (List.mem_cons_of_mem _ (List.mem_cons_of_mem _ List.mem_cons_self))))))
  have r0 : 0 ≤ a0 := hr _ List.mem_cons_self
  have r1 : 0 ≤ a3 := hr _ (List.mem_cons_of_mem _ List.mem_cons_self)
  have r2 : 0 ≤ a3 := hr _ (List.mem_cons_of_mem _ (List.mem_cons_of_mem _ List.mem_cons_self))
  have hd := (zfy_195 (w := w) (j := a0) (u := a1) (k := a2) (by omega) (by omega) (by omega) (by omega) (by omega) ).mp (by omega)
  have kZ : zh_e w 216 (64 * a1 + a2) = zk_xe w 216 (a3) := by rw [zk_xe_r (i := 216) (by decide)]; show zk_el w 216 (64 * a1 + a2) = zk_el w 216 (a3); rw [show 64 * a1 + a2 = a3 by omega]
  have kA : zh_e w 321 (64 * a1 + a2) = zk_xe w 321 (a3) := by rw [zk_xe_r (i := 321) (by decide)]; show zk_el w 321 (64 * a1 + a2) = zk_el w 321 (a3); rw [show 64 * a1 + a2 = a3 by omega]
  have h : zk_xe w 2000195 a4 = 1 := by
    refine (zfy_195 (w := w) (j := a4) (u := a1) (k := (a2 + 1)) (by omega) (by omega) (by omega) (by omega) (by omega) ).mpr (fun v i v0 v1 i0 i1 i2 q => ?_)
    by_cases c : v = a1 ∧ i = a2
    · rw [c.1, c.2, kZ, kA]
      omega
    · exact hd v i v0 v1 i0 i1 i2 (fun e => by have := q e; omega)
  exact ⟨_, List.mem_cons_self, [], rfl, zx_bnil, zx_cs0, (zx_eF1 (by show 0 ≤ (0 : Int) + (1 * a4 + 0); omega) (by show zk_xe w 2000195 ((0 : Int) + (1 * a4 + 0)) = (1 : Int) + (0); rw [show (0 : Int) + (1 * a4 + 0) = a4 by omega]; exact h.trans (by omega)) zx_eF0), zx_k0⟩
def zx_D1283 : zx_L := zx_Lc [] 4 [(2000195, 0), (213, 1)] [] [((0, 0), [(0, 1, 0), (1, 0, 1), (2, 0, 4294967296)]), ((0, 1), [(4, 1, 0)]), ((0, 1), [(1, 0, 1), (3, 1, 0)])] [((0, 0), [(1, 1, 0)]), ((4294967276, 0), [(1, 0, 1)]), ((0, 0), [(2, 1, 0)]), ((4294967276, 0), [(2, 0, 1)]), ((0, 0), [(2, 1, 0), (5, 0, 1)])] [([], [], [(2000195, ((0, 0), [(3, 1, 0)]), ((1, 0), []))], [])]
theorem zx_D1283_ok {PT : Nat → zz_W → Prop} : zx_Lok 64 zHT PT zx_D1283 := by
  refine zx_Lc_ok (fun w hI hK ins hl hr he hg => ?_)
  obtain ⟨a0, a1, a2, a3, rfl⟩ := zx_i4 hl
  have e0 : (0 : Int) + (1 * a0 + ((-1) * a1 + ((-4294967296) * a2 + 0))) = 0 := he _ List.mem_cons_self
  have e1 : ((-1) : Int) + (1 * (zk_xe w 2000195 a0) + 0) = 0 := he _ (List.mem_cons_of_mem _ List.mem_cons_self)
  have e2 : ((-1) : Int) + ((-1) * a1 + (1 * a3 + 0)) = 0 := he _ (List.mem_cons_of_mem _ (List.mem_cons_of_mem _ List.mem_cons_self))
  have g0 : 0 ≤ (0 : Int) + (1 * a1 + 0) := hg _ List.mem_cons_self
  have g1 : 0 ≤ (4294967276 : Int) + ((-1) * a1 + 0) := hg _ (List.mem_cons_of_mem _ List.mem_cons_self)
  have g2 : 0 ≤ (0 : Int) + (1 * a2 + 0) := hg _ (List.mem_cons_of_mem _ (List.mem_cons_of_mem _ List.mem_cons_self))
  have g3 : 0 ≤ (4294967276 : Int) + ((-1) * a2 + 0) := hg _ (List.mem_cons_of_mem _ (List.mem_cons_of_mem _ (List.mem_cons_of_mem _ List.mem_cons_self)))
  have g4 : 0 ≤ (0 : Int) + (1 * a2 + ((-1) * (zk_xe w 213 a1) + 0)) := hg _ (List.mem_cons_of_mem _ (List.mem_cons_of_mem _ (List.mem_cons_of_mem _ (List.mem_cons_of_mem _ List.mem_cons_self))))
  have r0 : 0 ≤ a0 := hr _ List.mem_cons_self
  have r1 : 0 ≤ a1 := hr _ (List.mem_cons_of_mem _ List.mem_cons_self)
  have hd := (zfy_195 (w := w) (j := a0) (u := a1) (k := a2) (by omega) (by omega) (by omega) (by omega) (by omega) ).mp (by omega)
  have kC : zh_e w 213 (a1) = zk_xe w 213 (a1) := by rw [zk_xe_r (i := 213) (by decide)]; rfl
  have h : zk_xe w 2000195 a3 = 1 := by
    refine (zfy_195 (w := w) (j := a3) (u := (a1 + 1)) (k := 0) (by omega) (by omega) (by omega) (by omega) (by omega) ).mpr (fun v i v0 v1 i0 i1 i2 q => ?_)
    by_cases c : v = a1 + 1
    · have := q c
      omega
    · exact hd v i v0 (by omega) i0 i1 i2 (fun e => by rw [e, kC] at i1; omega)
  exact ⟨_, List.mem_cons_self, [], rfl, zx_bnil, zx_cs0, (zx_eF1 (by show 0 ≤ (0 : Int) + (1 * a3 + 0); omega) (by show zk_xe w 2000195 ((0 : Int) + (1 * a3 + 0)) = (1 : Int) + (0); rw [show (0 : Int) + (1 * a3 + 0) = a3 by omega]; exact h.trans (by omega)) zx_eF0), zx_k0⟩
def zx_E787 : zx_V := zx_Vc 321 [] 3 [(2000195, 0)] [((0, 0), [(2, 1, 0), (3, 0, 1), (4, 0, 4294967296)]), ((0, 1), [(5, 1, 0)])] [((0, 0), [(3, 1, 0)]), ((4294967276, 0), [(3, 0, 1)]), ((0, 0), [(4, 1, 0)]), ((4294967276, 0), [(4, 0, 1)]), ((0, 0), [(0, 1, 0), (3, 0, 64), (4, 0, 1)])] [(2000195, ((0, 0), [(2, 1, 0)]), ((1, 0), []))]
theorem zx_E787_ok {PT : Nat → zz_W → Prop} : zx_Vok 64 zHT PT zx_E787 := by
  refine zx_Vc_ok (fun w w' j ins hI hI' h0 hw hK hl he hg => ?_)
  obtain ⟨a0, a1, a2, rfl⟩ := zx_i3 hl
  have e0 : (0 : Int) + (1 * a0 + ((-1) * a1 + ((-4294967296) * a2 + 0))) = 0 := he _ List.mem_cons_self
  have e1 : ((-1) : Int) + (1 * (zk_xe w 2000195 a0) + 0) = 0 := he _ (List.mem_cons_of_mem _ List.mem_cons_self)
  have g0 : 0 ≤ (0 : Int) + (1 * a1 + 0) := hg _ List.mem_cons_self
  have g1 : 0 ≤ (4294967276 : Int) + ((-1) * a1 + 0) := hg _ (List.mem_cons_of_mem _ List.mem_cons_self)
  have g2 : 0 ≤ (0 : Int) + (1 * a2 + 0) := hg _ (List.mem_cons_of_mem _ (List.mem_cons_of_mem _ List.mem_cons_self))
  have g3 : 0 ≤ (4294967276 : Int) + ((-1) * a2 + 0) := hg _ (List.mem_cons_of_mem _ (List.mem_cons_of_mem _ (List.mem_cons_of_mem _ List.mem_cons_self)))
  have g4 : 0 ≤ (0 : Int) + (1 * j + ((-64) * a1 + ((-1) * a2 + 0))) := hg _ (List.mem_cons_of_mem _ (List.mem_cons_of_mem _ (List.mem_cons_of_mem _ (List.mem_cons_of_mem _ List.mem_cons_self))))
  have hd := (zfy_195 (w := w) (j := a0) (u := a1) (k := a2) (by omega) (by omega) (by omega) (by omega) (by omega) ).mp (by omega)
  have o213 : zh_e w' 213 = zh_e w 213 := zh_e_g (hw.1 213 (by decide))
  have o215 : zh_e w' 215 = zh_e w 215 := zh_e_g (hw.1 215 (by decide))
  have o216 : zh_e w' 216 = zh_e w 216 := zh_e_g (hw.1 216 (by decide))
  have h : zk_xe w' 2000195 a0 = 1 := by
    refine (zfy_195 (w := w') (j := a0) (u := a1) (k := a2) (by omega) (by omega) (by omega) (by omega) (by omega) ).mpr (fun v i v0 v1 i0 i1 i2 q => ?_)
    rw [o213] at i1
    have ne : ¬ (64 * v + i = j) := by
      by_cases c : v = a1
      · have := q c
        omega
      · omega
    have z : zh_e w' 321 (64 * v + i) = zh_e w 321 (64 * v + i) := hw.2 _ (by omega) ne
    rw [o216, z]
    exact hd v i v0 v1 i0 i1 i2 q
  exact (zx_eF1 (by show 0 ≤ (0 : Int) + (1 * a0 + 0); omega) (by show zk_xe w' 2000195 ((0 : Int) + (1 * a0 + 0)) = (1 : Int) + (0); rw [show (0 : Int) + (1 * a0 + 0) = a0 by omega]; exact h.trans (by omega)) zx_eF0)
def zx_D1284 : zx_L := zx_Lc [] 6 [(2000195, 0), (2000189, 4), (321, 5), (216, 5), (2000176, 1), (2000190, 1)] [] [((0, 0), [(0, 1, 0), (1, 0, 1)]), ((0, 1), [(6, 1, 0)]), ((0, 0), [(1, 0, 18446744073709551616), (2, 0, 1), (3, 0, 4294967296), (4, 1, 0)]), ((0, 0), [(5, 0, 1), (7, 1, 0)]), ((0, 1), [(10, 1, 0)]), ((0, 1), [(11, 1, 0)])] [((0, 0), [(1, 1, 0)]), ((4294967276, 0), [(1, 0, 1)]), ((0, 0), [(2, 1, 0)]), ((4294967276, 0), [(2, 0, 1)]), ((0, 0), [(3, 1, 0)]), ((4294967276, 0), [(3, 0, 1)]), ((0, 1), [(1, 1, 0), (2, 0, 1)]), ((0, 0), [(5, 1, 0)])] [([], [((0, 0), [(8, 1, 0)]), ((71999, 0), [(8, 0, 1)]), ((72000, 0), [(8, 0, 1), (9, 0, 1)])], [], [])]
theorem zx_D1284_ok {PT : Nat → zz_W → Prop} : zx_Lok 64 zHT PT zx_D1284 := by
  refine zx_Lc_ok (fun w hI hK ins hl hr he hg => ?_)
  obtain ⟨a0, a1, a2, a3, a4, a5, rfl⟩ := zx_i6 hl
  have e0 : (0 : Int) + (1 * a0 + ((-1) * a1 + 0)) = 0 := he _ List.mem_cons_self
  have e1 : ((-1) : Int) + (1 * (zk_xe w 2000195 a0) + 0) = 0 := he _ (List.mem_cons_of_mem _ List.mem_cons_self)
  have e2 : (0 : Int) + ((-18446744073709551616) * a1 + ((-1) * a2 + ((-4294967296) * a3 + (1 * a4 + 0)))) = 0 := he _ (List.mem_cons_of_mem _ (List.mem_cons_of_mem _ List.mem_cons_self))
  have e3 : (0 : Int) + ((-1) * a5 + (1 * (zk_xe w 2000189 a4) + 0)) = 0 := he _ (List.mem_cons_of_mem _ (List.mem_cons_of_mem _ (List.mem_cons_of_mem _ List.mem_cons_self)))
  have e4 : ((-1) : Int) + (1 * (zk_xe w 2000176 a1) + 0) = 0 := he _ (List.mem_cons_of_mem _ (List.mem_cons_of_mem _ (List.mem_cons_of_mem _ (List.mem_cons_of_mem _ List.mem_cons_self))))
  have e5 : ((-1) : Int) + (1 * (zk_xe w 2000190 a1) + 0) = 0 := he _ (List.mem_cons_of_mem _ (List.mem_cons_of_mem _ (List.mem_cons_of_mem _ (List.mem_cons_of_mem _ (List.mem_cons_of_mem _ List.mem_cons_self)))))
  have g0 : 0 ≤ (0 : Int) + (1 * a1 + 0) := hg _ List.mem_cons_self
  have g1 : 0 ≤ (4294967276 : Int) + ((-1) * a1 + 0) := hg _ (List.mem_cons_of_mem _ List.mem_cons_self)
  have g2 : 0 ≤ (0 : Int) + (1 * a2 + 0) := hg _ (List.mem_cons_of_mem _ (List.mem_cons_of_mem _ List.mem_cons_self))
  have g3 : 0 ≤ (4294967276 : Int) + ((-1) * a2 + 0) := hg _ (List.mem_cons_of_mem _ (List.mem_cons_of_mem _ (List.mem_cons_of_mem _ List.mem_cons_self)))
  have g4 : 0 ≤ (0 : Int) + (1 * a3 + 0) := hg _ (List.mem_cons_of_mem _ (List.mem_cons_of_mem _ (List.mem_cons_of_mem _ (List.mem_cons_of_mem _ List.mem_cons_self))))
  have g5 : 0 ≤ (4294967276 : Int) + ((-1) * a3 + 0) := hg _ (List.mem_cons_of_mem _ (List.mem_cons_of_mem _ (List.mem_cons_of_mem _ (List.mem_cons_of_mem _ (List.mem_cons_of_mem _ List.mem_cons_self)))))
  have g6 : 0 ≤ ((-1) : Int) + (1 * a1 + ((-1) * a2 + 0)) := hg _ (List.mem_cons_of_mem _ (List.mem_cons_of_mem _ (List.mem_cons_of_mem _ (List.mem_cons_of_mem _ (List.mem_cons_of_mem _ (List.mem_cons_of_mem _ List.mem_cons_self))))))
  have g7 : 0 ≤ (0 : Int) + (1 * a5 + 0) := hg _ (List.mem_cons_of_mem _ (List.mem_cons_of_mem _ (List.mem_cons_of_mem _ (List.mem_cons_of_mem _ (List.mem_cons_of_mem _ (List.mem_cons_of_mem _ (List.mem_cons_of_mem _ List.mem_cons_self)))))))
  have r0 : 0 ≤ a0 := hr _ List.mem_cons_self
  have r1 : 0 ≤ a4 := hr _ (List.mem_cons_of_mem _ List.mem_cons_self)
  have r2 : 0 ≤ a5 := hr _ (List.mem_cons_of_mem _ (List.mem_cons_of_mem _ List.mem_cons_self))
  have r3 : 0 ≤ a5 := hr _ (List.mem_cons_of_mem _ (List.mem_cons_of_mem _ (List.mem_cons_of_mem _ List.mem_cons_self)))
  have r4 : 0 ≤ a1 := hr _ (List.mem_cons_of_mem _ (List.mem_cons_of_mem _ (List.mem_cons_of_mem _ (List.mem_cons_of_mem _ List.mem_cons_self))))
  have r5 : 0 ≤ a1 := hr _ (List.mem_cons_of_mem _ (List.mem_cons_of_mem _ (List.mem_cons_of_mem _ (List.mem_cons_of_mem _ (List.mem_cons_of_mem _ List.mem_cons_self)))))
  have ha := zh_b1' (zfo_190.symm.trans (show zk_xe w 2000190 a1 = 1 by omega))
  have hsh := fun v v0 v1 => (zc_176 (w := w) (j := a1) (n := a1) (by omega) (by omega) (by omega) ).mp (by omega) v v0 v1 (ha v v0 v1)
  have hD := (zfo_189 (w := w) (j := a4) (u := a2) (x := a3) (n := a1) (by omega) (by omega) (by omega) (by omega) (by omega) (by omega) (by omega) )
  have hd := (zfy_195 (w := w) (j := a0) (u := a1) (k := 0) (by omega) (by omega) (by omega) (by omega) (by omega) ).mp (by omega)
  obtain ⟨v, i, v0, v1, i0, i1, i2, -⟩ := zfo_dr (D := zh_e w 214) (c := zh_e w 213) (u := a2) (x := a3) (n := a1) (by omega) (by omega) (by rw [← hD]; omega)
  rw [← hD] at i2
  have hc := (hsh v v0 v1).2.2.2.2.1
  have q := hd v i v0 (by omega) i0 i1 (by omega) (fun e => by omega)
  have kZ : zh_e w 216 (a5) = zk_xe w 216 (a5) := by rw [zk_xe_r (i := 216) (by decide)]; rfl
  have kA : zh_e w 321 (a5) = zk_xe w 321 (a5) := by rw [zk_xe_r (i := 321) (by decide)]; rfl
  rw [show 64 * v + i = a5 by omega, kZ, kA] at q
  exact ⟨_, List.mem_cons_self, [], rfl, zx_bnil, (zx_cs1 (by show 0 ≤ (0 : Int) + (1 * (zk_xe w 321 a5) + 0); omega) (zx_cs1 (by show 0 ≤ (71999 : Int) + ((-1) * (zk_xe w 321 a5) + 0); omega) (zx_cs1 (by show 0 ≤ (72000 : Int) + ((-1) * (zk_xe w 321 a5) + ((-1) * (zk_xe w 216 a5) + 0)); omega) zx_cs0))), zx_eF0, zx_k0⟩
def zx_D1305 : zx_L := zx_Lc [] 2 [(215, 0)] [] [((0, 0), [(0, 1, 0), (1, 0, 1)])] [((0, 0), [(0, 1, 0)])] [([], [], [(215, ((0, 0), [(1, 1, 0)]), ((0, 0), [(2, 1, 0)]))], [])]
theorem zx_D1305_ok {PT : Nat → zz_W → Prop} : zx_Lok 64 zHT PT zx_D1305 := by
  refine zx_Lc_ok (fun w hI hK ins hl hr he hg => ?_)
  obtain ⟨a0, a1, rfl⟩ := zx_i2 hl
  have e0 : (0 : Int) + (1 * a0 + ((-1) * a1 + 0)) = 0 := he _ List.mem_cons_self
  have g0 : 0 ≤ (0 : Int) + (1 * a0 + 0) := hg _ List.mem_cons_self
  have r0 : 0 ≤ a0 := hr _ List.mem_cons_self
  have e : a1 = a0 := by omega
  exact ⟨_, List.mem_cons_self, [], rfl, zx_bnil, zx_cs0, (zx_eF1 (by show 0 ≤ (0 : Int) + (1 * a1 + 0); omega) (by show zk_xe w 215 ((0 : Int) + (1 * a1 + 0)) = (0 : Int) + (1 * (zk_xe w 215 a0) + 0); rw [show (0 : Int) + (1 * a1 + 0) = a1 by omega]; rw [e]; omega) zx_eF0), zx_k0⟩
def zx_D1304 : zx_L := zx_Lc [] 2 [(2000189, 0), (2000189, 1)] [] [((0, 0), [(0, 1, 0), (1, 0, 1)])] [((0, 0), [(0, 1, 0)])] [([], [((0, 0), [(2, 1, 0), (3, 0, 1)]), ((0, 0), [(2, 0, 1), (3, 1, 0)])], [], [])]
theorem zx_D1304_ok {PT : Nat → zz_W → Prop} : zx_Lok 64 zHT PT zx_D1304 := by
  refine zx_Lc_ok (fun w hI hK ins hl hr he hg => ?_)
  obtain ⟨a0, a1, rfl⟩ := zx_i2 hl
  have e0 : (0 : Int) + (1 * a0 + ((-1) * a1 + 0)) = 0 := he _ List.mem_cons_self
  have g0 : 0 ≤ (0 : Int) + (1 * a0 + 0) := hg _ List.mem_cons_self
  have r0 : 0 ≤ a0 := hr _ List.mem_cons_self
  have r1 : 0 ≤ a1 := hr _ (List.mem_cons_of_mem _ List.mem_cons_self)
  have e : a1 = a0 := by omega
  have h : zk_xe w 2000189 a1 = zk_xe w 2000189 a0 := by rw [e]
  exact ⟨_, List.mem_cons_self, [], rfl, zx_bnil, (zx_cs1 (by show 0 ≤ (0 : Int) + (1 * (zk_xe w 2000189 a0) + ((-1) * (zk_xe w 2000189 a1) + 0)); omega) (zx_cs1 (by show 0 ≤ (0 : Int) + ((-1) * (zk_xe w 2000189 a0) + (1 * (zk_xe w 2000189 a1) + 0)); omega) zx_cs0)), zx_eF0, zx_k0⟩
def zx_D1302 : zx_L := zx_Lc [] 3 [(2000082, 1), (2000083, 1)] [] [((0, 0), [(0, 1, 0), (1, 0, 4294967296), (2, 0, 1)]), ((0, 1852399981), [(3, 1, 0)]), ((0, 0), [(4, 1, 0)])] [((0, 0), [(1, 1, 0)]), ((4294967276, 0), [(1, 0, 1)]), ((0, 0), [(2, 1, 0)]), ((4294967276, 0), [(2, 0, 1)]), ((0, 1), [(1, 0, 1), (2, 1, 0)])] [([], [], [(2000196, ((0, 0), [(0, 1, 0)]), ((1, 0), []))], [])]
theorem zx_D1302_ok {PT : Nat → zz_W → Prop} : zx_Lok 64 zHT PT zx_D1302 := by
  refine zx_Lc_ok (fun w hI hK ins hl hr he hg => ?_)
  obtain ⟨a0, a1, a2, rfl⟩ := zx_i3 hl
  have e0 : (0 : Int) + (1 * a0 + ((-4294967296) * a1 + ((-1) * a2 + 0))) = 0 := he _ List.mem_cons_self
  have e1 : ((-1852399981) : Int) + (1 * (zk_xe w 2000082 a1) + 0) = 0 := he _ (List.mem_cons_of_mem _ List.mem_cons_self)
  have e2 : (0 : Int) + (1 * (zk_xe w 2000083 a1) + 0) = 0 := he _ (List.mem_cons_of_mem _ (List.mem_cons_of_mem _ List.mem_cons_self))
  have g0 : 0 ≤ (0 : Int) + (1 * a1 + 0) := hg _ List.mem_cons_self
  have g1 : 0 ≤ (4294967276 : Int) + ((-1) * a1 + 0) := hg _ (List.mem_cons_of_mem _ List.mem_cons_self)
  have g2 : 0 ≤ (0 : Int) + (1 * a2 + 0) := hg _ (List.mem_cons_of_mem _ (List.mem_cons_of_mem _ List.mem_cons_self))
  have g3 : 0 ≤ (4294967276 : Int) + ((-1) * a2 + 0) := hg _ (List.mem_cons_of_mem _ (List.mem_cons_of_mem _ (List.mem_cons_of_mem _ List.mem_cons_self)))
  have g4 : 0 ≤ ((-1) : Int) + ((-1) * a1 + (1 * a2 + 0)) := hg _ (List.mem_cons_of_mem _ (List.mem_cons_of_mem _ (List.mem_cons_of_mem _ (List.mem_cons_of_mem _ List.mem_cons_self))))
  have r0 : 0 ≤ a1 := hr _ List.mem_cons_self
  have r1 : 0 ≤ a1 := hr _ (List.mem_cons_of_mem _ List.mem_cons_self)
  have x1 := zn_82 (w := w) (i := a1) (j := a1) rfl
  have y1 := zn_83 (w := w) (i := a1) (j := a1) rfl
  have h : zk_xe w 2000196 a0 = 1 := (zfy_196 (w := w) (j := a0) (N := a2) (n := a1) (by omega) (by omega) (by omega) (by omega) (by omega) ).mpr ⟨by omega, by omega, by omega⟩
  exact ⟨_, List.mem_cons_self, [], rfl, zx_bnil, zx_cs0, (zx_eF1 (by show 0 ≤ (0 : Int) + (1 * a0 + 0); omega) (by show zk_xe w 2000196 ((0 : Int) + (1 * a0 + 0)) = (1 : Int) + (0); rw [show (0 : Int) + (1 * a0 + 0) = a0 by omega]; exact h.trans (by omega)) zx_eF0), zx_k0⟩
def zx_D1303 : zx_L := zx_Lc [] 6 [(2000196, 0), (2000082, 3), (2000083, 5), (2000084, 4)] [] [((0, 0), [(0, 1, 0), (1, 0, 4294967296), (2, 0, 1)]), ((0, 1), [(6, 1, 0)]), ((0, 1852399981), [(7, 1, 0)]), ((0, 0), [(8, 1, 0)]), ((0, 0), [(3, 0, 1), (5, 1, 0)]), ((0, 1), [(9, 1, 0)])] [((0, 0), [(1, 1, 0)]), ((4294967276, 0), [(1, 0, 1)]), ((0, 0), [(2, 1, 0)]), ((4294967276, 0), [(2, 0, 1)]), ((0, 0), [(3, 1, 0)]), ((4294967276, 0), [(3, 0, 1)]), ((0, 0), [(4, 1, 0)]), ((4294967276, 0), [(4, 0, 1)]), ((0, 0), [(2, 0, 1), (4, 1, 0)]), ((0, 1), [(3, 0, 1), (4, 1, 0)])] [([], [((0, 0), [(1, 1, 0), (3, 0, 1)]), ((0, 0), [(1, 0, 1), (3, 1, 0)])], [], [])]
theorem zx_D1303_ok {PT : Nat → zz_W → Prop} : zx_Lok 64 zHT PT zx_D1303 := by
  refine zx_Lc_ok (fun w hI hK ins hl hr he hg => ?_)
  obtain ⟨a0, a1, a2, a3, a4, a5, rfl⟩ := zx_i6 hl
  have e0 : (0 : Int) + (1 * a0 + ((-4294967296) * a1 + ((-1) * a2 + 0))) = 0 := he _ List.mem_cons_self
  have e1 : ((-1) : Int) + (1 * (zk_xe w 2000196 a0) + 0) = 0 := he _ (List.mem_cons_of_mem _ List.mem_cons_self)
  have e2 : ((-1852399981) : Int) + (1 * (zk_xe w 2000082 a3) + 0) = 0 := he _ (List.mem_cons_of_mem _ (List.mem_cons_of_mem _ List.mem_cons_self))
  have e3 : (0 : Int) + (1 * (zk_xe w 2000083 a5) + 0) = 0 := he _ (List.mem_cons_of_mem _ (List.mem_cons_of_mem _ (List.mem_cons_of_mem _ List.mem_cons_self)))
  have e4 : (0 : Int) + ((-1) * a3 + (1 * a5 + 0)) = 0 := he _ (List.mem_cons_of_mem _ (List.mem_cons_of_mem _ (List.mem_cons_of_mem _ (List.mem_cons_of_mem _ List.mem_cons_self))))
  have e5 : ((-1) : Int) + (1 * (zk_xe w 2000084 a4) + 0) = 0 := he _ (List.mem_cons_of_mem _ (List.mem_cons_of_mem _ (List.mem_cons_of_mem _ (List.mem_cons_of_mem _ (List.mem_cons_of_mem _ List.mem_cons_self)))))
  have g0 : 0 ≤ (0 : Int) + (1 * a1 + 0) := hg _ List.mem_cons_self
  have g1 : 0 ≤ (4294967276 : Int) + ((-1) * a1 + 0) := hg _ (List.mem_cons_of_mem _ List.mem_cons_self)
  have g2 : 0 ≤ (0 : Int) + (1 * a2 + 0) := hg _ (List.mem_cons_of_mem _ (List.mem_cons_of_mem _ List.mem_cons_self))
  have g3 : 0 ≤ (4294967276 : Int) + ((-1) * a2 + 0) := hg _ (List.mem_cons_of_mem _ (List.mem_cons_of_mem _ (List.mem_cons_of_mem _ List.mem_cons_self)))
  have g4 : 0 ≤ (0 : Int) + (1 * a3 + 0) := hg _ (List.mem_cons_of_mem _ (List.mem_cons_of_mem _ (List.mem_cons_of_mem _ (List.mem_cons_of_mem _ List.mem_cons_self))))
  have g5 : 0 ≤ (4294967276 : Int) + ((-1) * a3 + 0) := hg _ (List.mem_cons_of_mem _ (List.mem_cons_of_mem _ (List.mem_cons_of_mem _ (List.mem_cons_of_mem _ (List.mem_cons_of_mem _ List.mem_cons_self)))))
  have g6 : 0 ≤ (0 : Int) + (1 * a4 + 0) := hg _ (List.mem_cons_of_mem _ (List.mem_cons_of_mem _ (List.mem_cons_of_mem _ (List.mem_cons_of_mem _ (List.mem_cons_of_mem _ (List.mem_cons_of_mem _ List.mem_cons_self))))))
  have g7 : 0 ≤ (4294967276 : Int) + ((-1) * a4 + 0) := hg _ (List.mem_cons_of_mem _ (List.mem_cons_of_mem _ (List.mem_cons_of_mem _ (List.mem_cons_of_mem _ (List.mem_cons_of_mem _ (List.mem_cons_of_mem _ (List.mem_cons_of_mem _ List.mem_cons_self)))))))
  have g8 : 0 ≤ (0 : Int) + ((-1) * a2 + (1 * a4 + 0)) := hg _ (List.mem_cons_of_mem _ (List.mem_cons_of_mem _ (List.mem_cons_of_mem _ (List.mem_cons_of_mem _ (List.mem_cons_of_mem _ (List.mem_cons_of_mem _ (List.mem_cons_of_mem _ (List.mem_cons_of_mem _ List.mem_cons_self))))))))
  have g9 : 0 ≤ ((-1) : Int) + ((-1) * a3 + (1 * a4 + 0)) := hg _ (List.mem_cons_of_mem _ (List.mem_cons_of_mem _ (List.mem_cons_of_mem _ (List.mem_cons_of_mem _ (List.mem_cons_of_mem _ (List.mem_cons_of_mem _ (List.mem_cons_of_mem _ (List.mem_cons_of_mem _ (List.mem_cons_of_mem _ List.mem_cons_self)))))))))
  have r0 : 0 ≤ a0 := hr _ List.mem_cons_self
  have r1 : 0 ≤ a3 := hr _ (List.mem_cons_of_mem _ List.mem_cons_self)
  have r2 : 0 ≤ a5 := hr _ (List.mem_cons_of_mem _ (List.mem_cons_of_mem _ List.mem_cons_self))
  have r3 : 0 ≤ a4 := hr _ (List.mem_cons_of_mem _ (List.mem_cons_of_mem _ (List.mem_cons_of_mem _ List.mem_cons_self)))
  have hp := (zn_84' (w := w) (j := a4) (by omega) (by omega)).mp (by omega)
  obtain ⟨m1, m2, m3⟩ := (zfy_196 (w := w) (j := a0) (N := a2) (n := a1) (by omega) (by omega) (by omega) (by omega) (by omega) ).mp (by omega)
  have x2 := zn_82 (w := w) (i := a3) (j := a3) rfl
  have y2 := zn_83 (w := w) (i := a3) (j := a5) (by omega)
  have h : a1 = a3 := by
    by_cases c : a1 < a3
    · exact (hp.2.1 a1 a3 (by omega) c (by omega) (by omega) (by omega)).elim
    · by_cases c2 : a3 < a1
      · exact (hp.2.1 a3 a1 (by omega) c2 (by omega) (by omega) (by omega)).elim
      · omega
  exact ⟨_, List.mem_cons_self, [], rfl, zx_bnil, (zx_cs1 (by show 0 ≤ (0 : Int) + (1 * a1 + ((-1) * a3 + 0)); omega) (zx_cs1 (by show 0 ≤ (0 : Int) + ((-1) * a1 + (1 * a3 + 0)); omega) zx_cs0)), zx_eF0, zx_k0⟩
def zx_D1300 : zx_L := zx_Lc [] 2 [(2000195, 0)] [] [((0, 0), [(0, 1, 0), (1, 0, 1)]), ((0, 1), [(2, 1, 0)])] [((0, 0), [(0, 1, 0)])] [([], [], [(2000195, ((0, 0), [(1, 1, 0)]), ((1, 0), []))], [])]
theorem zx_D1300_ok {PT : Nat → zz_W → Prop} : zx_Lok 64 zHT PT zx_D1300 := by
  refine zx_Lc_ok (fun w hI hK ins hl hr he hg => ?_)
  obtain ⟨a0, a1, rfl⟩ := zx_i2 hl
  have e0 : (0 : Int) + (1 * a0 + ((-1) * a1 + 0)) = 0 := he _ List.mem_cons_self
  have e1 : ((-1) : Int) + (1 * (zk_xe w 2000195 a0) + 0) = 0 := he _ (List.mem_cons_of_mem _ List.mem_cons_self)
  have g0 : 0 ≤ (0 : Int) + (1 * a0 + 0) := hg _ List.mem_cons_self
  have r0 : 0 ≤ a0 := hr _ List.mem_cons_self
  have e : a1 = a0 := by omega
  exact ⟨_, List.mem_cons_self, [], rfl, zx_bnil, zx_cs0, (zx_eF1 (by show 0 ≤ (0 : Int) + (1 * a1 + 0); omega) (by show zk_xe w 2000195 ((0 : Int) + (1 * a1 + 0)) = (1 : Int) + (0); rw [show (0 : Int) + (1 * a1 + 0) = a1 by omega]; rw [e]; omega) zx_eF0), zx_k0⟩
def zx_D1301 : zx_L := zx_Lc [] 2 [(2000186, 0)] [] [((0, 0), [(0, 1, 0), (1, 0, 1)]), ((0, 1), [(2, 1, 0)])] [((0, 0), [(0, 1, 0)])] [([], [], [(2000186, ((0, 0), [(1, 1, 0)]), ((1, 0), []))], [])]
theorem zx_D1301_ok {PT : Nat → zz_W → Prop} : zx_Lok 64 zHT PT zx_D1301 := by
  refine zx_Lc_ok (fun w hI hK ins hl hr he hg => ?_)
  obtain ⟨a0, a1, rfl⟩ := zx_i2 hl
  have e0 : (0 : Int) + (1 * a0 + ((-1) * a1 + 0)) = 0 := he _ List.mem_cons_self
  have e1 : ((-1) : Int) + (1 * (zk_xe w 2000186 a0) + 0) = 0 := he _ (List.mem_cons_of_mem _ List.mem_cons_self)
  have g0 : 0 ≤ (0 : Int) + (1 * a0 + 0) := hg _ List.mem_cons_self
  have r0 : 0 ≤ a0 := hr _ List.mem_cons_self
  have e : a1 = a0 := by omega
  exact ⟨_, List.mem_cons_self, [], rfl, zx_bnil, zx_cs0, (zx_eF1 (by show 0 ≤ (0 : Int) + (1 * a1 + 0); omega) (by show zk_xe w 2000186 ((0 : Int) + (1 * a1 + 0)) = (1 : Int) + (0); rw [show (0 : Int) + (1 * a1 + 0) = a1 by omega]; rw [e]; omega) zx_eF0), zx_k0⟩
def zx_D1298 : zx_L := zx_Lc [] 2 [(2000176, 0), (2000190, 0), (213, 1)] [] [((0, 1), [(2, 1, 0)]), ((0, 1), [(3, 1, 0)])] [((0, 0), [(0, 1, 0)]), ((4294967276, 0), [(0, 0, 1)]), ((0, 0), [(1, 1, 0)]), ((4294967276, 0), [(1, 0, 1)]), ((0, 1), [(0, 1, 0), (1, 0, 1)])] [([], [((60, 0), [(4, 0, 1)])], [], [])]
theorem zx_D1298_ok {PT : Nat → zz_W → Prop} : zx_Lok 64 zHT PT zx_D1298 := by
  refine zx_Lc_ok (fun w hI hK ins hl hr he hg => ?_)
  obtain ⟨a0, a1, rfl⟩ := zx_i2 hl
  have e0 : ((-1) : Int) + (1 * (zk_xe w 2000176 a0) + 0) = 0 := he _ List.mem_cons_self
  have e1 : ((-1) : Int) + (1 * (zk_xe w 2000190 a0) + 0) = 0 := he _ (List.mem_cons_of_mem _ List.mem_cons_self)
  have g0 : 0 ≤ (0 : Int) + (1 * a0 + 0) := hg _ List.mem_cons_self
  have g1 : 0 ≤ (4294967276 : Int) + ((-1) * a0 + 0) := hg _ (List.mem_cons_of_mem _ List.mem_cons_self)
  have g2 : 0 ≤ (0 : Int) + (1 * a1 + 0) := hg _ (List.mem_cons_of_mem _ (List.mem_cons_of_mem _ List.mem_cons_self))
  have g3 : 0 ≤ (4294967276 : Int) + ((-1) * a1 + 0) := hg _ (List.mem_cons_of_mem _ (List.mem_cons_of_mem _ (List.mem_cons_of_mem _ List.mem_cons_self)))
  have g4 : 0 ≤ ((-1) : Int) + (1 * a0 + ((-1) * a1 + 0)) := hg _ (List.mem_cons_of_mem _ (List.mem_cons_of_mem _ (List.mem_cons_of_mem _ (List.mem_cons_of_mem _ List.mem_cons_self))))
  have r0 : 0 ≤ a0 := hr _ List.mem_cons_self
  have r1 : 0 ≤ a0 := hr _ (List.mem_cons_of_mem _ List.mem_cons_self)
  have r2 : 0 ≤ a1 := hr _ (List.mem_cons_of_mem _ (List.mem_cons_of_mem _ List.mem_cons_self))
  have ha := zh_b1' (zfo_190.symm.trans (show zk_xe w 2000190 a0 = 1 by omega))
  have hsh := (zc_176 (w := w) (j := a0) (n := a0) (by omega) (by omega) (by omega) ).mp (by omega) a1 (by omega) (by omega) (ha a1 (by omega) (by omega))
  have hc := hsh.2.2.2.2.1
  have kC : zh_e w 213 (a1) = zk_xe w 213 (a1) := by rw [zk_xe_r (i := 213) (by decide)]; rfl
  rw [kC] at hc
  exact ⟨_, List.mem_cons_self, [], rfl, zx_bnil, (zx_cs1 (by show 0 ≤ (60 : Int) + ((-1) * (zk_xe w 213 a1) + 0); omega) zx_cs0), zx_eF0, zx_k0⟩
def zx_D1299 : zx_L := zx_Lc [] 2 [(2000190, 0), (176, 1)] [] [((0, 1), [(2, 1, 0)])] [((0, 0), [(1, 1, 0)]), ((0, 1), [(0, 1, 0), (1, 0, 1)])] [([], [((0, 1), [(3, 1, 0)])], [], [])]
theorem zx_D1299_ok {PT : Nat → zz_W → Prop} : zx_Lok 64 zHT PT zx_D1299 := by
  refine zx_Lc_ok (fun w hI hK ins hl hr he hg => ?_)
  obtain ⟨a0, a1, rfl⟩ := zx_i2 hl
  have e0 : ((-1) : Int) + (1 * (zk_xe w 2000190 a0) + 0) = 0 := he _ List.mem_cons_self
  have g0 : 0 ≤ (0 : Int) + (1 * a1 + 0) := hg _ List.mem_cons_self
  have g1 : 0 ≤ ((-1) : Int) + (1 * a0 + ((-1) * a1 + 0)) := hg _ (List.mem_cons_of_mem _ List.mem_cons_self)
  have r0 : 0 ≤ a0 := hr _ List.mem_cons_self
  have r1 : 0 ≤ a1 := hr _ (List.mem_cons_of_mem _ List.mem_cons_self)
  have ha := zh_b1' (zfo_190.symm.trans (show zk_xe w 2000190 a0 = 1 by omega)) a1 (by omega) (by omega)
  have kO : zh_e w 176 (a1) = zk_xe w 176 (a1) := by rw [zk_xe_r (i := 176) (by decide)]; rfl
  rw [kO] at ha
  exact ⟨_, List.mem_cons_self, [], rfl, zx_bnil, (zx_cs1 (by show 0 ≤ ((-1) : Int) + (1 * (zk_xe w 176 a1) + 0); omega) zx_cs0), zx_eF0, zx_k0⟩
/-- OUT that waits (function 197) -/
theorem zfw_197 {w : zz_W} {j t u : Int} (e : j = t + 4294967296 * u) (t0 : 0 ≤ t) (t1 : t < 4294967296) (u0 : 0 ≤ u) (u1 : u < 4294967296) : zk_xe w 2000197 j = zfw_w (zh_e w 208) (zh_e w 207) (zh_e w 324) t u := by
  obtain ⟨d0, d1, -⟩ := zg_d3 (j := j) (n := t) (k := u) (u := 0) (by omega) t0 t1 u0 u1 (by omega) (by omega)
  rw [show (2000197 : Nat) = 2000000 + 197 from rfl, zk_xe_h]
  show zfw_w (zh_e w 208) (zh_e w 207) (zh_e w 324) (zv_dg 0 j) (zv_dg 1 j) = _
  rw [d0, d1]
theorem zfw_b {P : Prop} : 0 ≤ zh_b P ∧ zh_b P ≤ 1 := zfo_b01
theorem zfw_sb {f s T : Int → Int} : ∀ {k : Nat}, 0 ≤ zfw_s f s T k ∧ zfw_s f s T k ≤ (k : Int)
  | 0 => ⟨Int.le_refl _, Int.le_refl _⟩
  | k + 1 => by
    have q := zfw_sb (f := f) (s := s) (T := T) (k := k)
    have z := zfw_b (P := zfw_p f s (T ((k : Int) + 1)))
    show 0 ≤ zfw_s f s T k + zh_b (zfw_p f s (T ((k : Int) + 1))) ∧ zfw_s f s T k + zh_b (zfw_p f s (T ((k : Int) + 1))) ≤ ((k + 1 : Nat) : Int)
    omega
theorem zfw_wb {f s T : Int → Int} {t u : Int} (u0 : 1 ≤ u) (u1 : u ≤ 40) : 0 ≤ zfw_w f s T t u ∧ zfw_w f s T t u ≤ 40 := by
  have q := zfw_sb (f := f) (s := s) (T := T) (k := (u - 1).toNat)
  have z := zfw_b (P := zfw_p f s t)
  unfold zfw_w
  omega
theorem zfw_se {f s T T' : Int → Int} : ∀ {k : Nat}, (∀ i : Int, 1 ≤ i → i ≤ (k : Int) → T' i = T i) → zfw_s f s T' k = zfw_s f s T k
  | 0, _ => rfl
  | k + 1, h => by
    have q := zfw_se (f := f) (s := s) (T := T) (T' := T') (k := k) (fun i i0 i1 => h i i0 (by omega))
    show zfw_s f s T' k + zh_b (zfw_p f s (T' ((k : Int) + 1))) = zfw_s f s T k + zh_b (zfw_p f s (T ((k : Int) + 1)))
    rw [q, h ((k : Int) + 1) (by omega) (by omega)]
theorem zfw_20 {f A B C E D c K s : Int → Int} {n t : Int} (hS : zfy_S f A B C E D c K s n) (hp : zfy_p s n t) (h : f t = 20) : ∃ j, 8000 * (t / 8000) ≤ j ∧ j < t ∧ f j = 2 ∧ ∀ m, j < m → m < t → 3 ≤ f m ∧ f m ≤ 10 := by
  obtain ⟨-, -, -, -, -, -, q, -⟩ := zfy_st hS hp
  obtain ⟨j, j0, j1, a1, a5⟩ := q (show f (8000 * (t / 8000) + t % 8000) = 20 by rw [zfy_e]; exact h)
  refine ⟨8000 * (t / 8000) + j, by omega, by omega, a1, fun m m0 m1 => ?_⟩
  have z : 3 ≤ f (8000 * (t / 8000) + (m - 8000 * (t / 8000))) ∧ f (8000 * (t / 8000) + (m - 8000 * (t / 8000))) ≤ 10 := a5 (m - 8000 * (t / 8000)) (by omega) (by omega)
  rw [show 8000 * (t / 8000) + (m - 8000 * (t / 8000)) = m by omega] at z
  exact z
theorem zfw_00 {f A B C E D c K s : Int → Int} {n t : Int} (hS : zfy_S f A B C E D c K s n) (hp : zfy_p s n t) (h : f t = 0) : t = 8000 * (t / 8000) ∨ f (t - 1) = 1 := by
  obtain ⟨-, -, -, -, -, -, -, q⟩ := zfy_st hS hp
  rcases q (show f (8000 * (t / 8000) + t % 8000) = 0 by rw [zfy_e]; exact h) with z | z
  · exact Or.inl (by omega)
  · have z : f (8000 * (t / 8000) + (t % 8000 - 1)) = 1 := z
    rw [show 8000 * (t / 8000) + (t % 8000 - 1) = t - 1 by omega] at z
    exact Or.inr z
/-- behind a step that is none of an expression nothing waits, but behind STEP -/
theorem zfw_n {f A B C E D c K s : Int → Int} {n t : Int} (hS : zfy_S f A B C E D c K s n) (hp : zfy_p s n t) (hv : (t + 1) / 8000 = t / 8000) (h : ¬ (3 ≤ f t ∧ f t ≤ 10)) (h1 : ¬ (f t = 1)) (h2 : ¬ (f t = 2)) : ¬ zfw_p f s (t + 1) := by
  intro w
  obtain ⟨m, w1, w2, w3, w4⟩ := w
  rw [hv] at w2
  obtain ⟨p0, p1, p2⟩ := hp
  have q1 := (hS.2 (t / 8000) (by omega) p1).1
  have mv : m / 8000 = t / 8000 := by omega
  have mp : zfy_p s n m := ⟨by omega, by rw [mv]; exact p1, by rw [mv]; omega⟩
  rcases w3 with w3 | w3
  · obtain ⟨j, j0, j1, a1, a5⟩ := zfw_20 hS mp w3
    by_cases c1 : j = t
    · rw [c1] at a1
      exact h2 a1
    · by_cases c2 : t < j
      · have z := w4 j (by omega) j1
        omega
      · exact h (a5 t (by omega) (by omega))
  · rcases zfw_00 hS mp w3 with z | z
    · omega
    · by_cases c : m = t + 1
      · rw [c, show t + 1 - 1 = t by omega] at z
        exact h1 z
      · have y := w4 (m - 1) (by omega) (by omega)
        omega
/-- a step of an expression keeps what waits -/
theorem zfw_k {f s : Int → Int} {t : Int} (hv : (t + 1) / 8000 = t / 8000) (h : 3 ≤ f t ∧ f t ≤ 10) (w : zfw_p f s (t + 1)) : zfw_p f s t := by
  obtain ⟨m, w1, w2, w3, w4⟩ := w
  rw [hv] at w2
  refine ⟨m, by omega, w2, w3, fun x x0 x1 => ?_⟩
  by_cases c : x = t
  · rw [c]
    exact h
  · exact w4 x (by omega) x1
theorem zfw_o {f A B C E D c K s : Int → Int} {n t : Int} (hS : zfy_S f A B C E D c K s n) (hp : zfy_p s n t) (h : f t = 20 ∨ f t = 0) : zfw_p f s t := by
  obtain ⟨p0, p1, p2⟩ := hp
  exact ⟨t, by omega, by omega, h, fun x x0 x1 => by omega⟩
theorem zfw_j {f A B C E D c K s : Int → Int} {n t y : Int} (hS : zfy_S f A B C E D c K s n) (hp : zfy_p s n t) (hg : zfl_g f (8000 * (t / 8000)) (s (t / 8000)) t y) : ¬ zfw_p f s y := by
  obtain ⟨p0, p1, p2⟩ := hp
  have q1 := (hS.2 (t / 8000) (by omega) p1).1
  obtain ⟨g1, g2, g3⟩ := hg
  have yv : y / 8000 = t / 8000 := by omega
  rcases g3 with ⟨-, g3⟩ | ⟨-, g4, g5⟩
  · intro w
    obtain ⟨m, w1, w2, w3, w4⟩ := w
    by_cases c : y = m
    · rw [← c] at w3
      omega
    · have z := w4 y (by omega) (by omega)
      omega
  · have e : y - 1 + 1 = y := by omega
    have zv : (y - 1) / 8000 = t / 8000 := by omega
    have zp : zfy_p s n (y - 1) := ⟨by omega, by rw [zv]; exact p1, by rw [zv]; omega⟩
    have q := zfw_n (t := y - 1) hS zp (by rw [e]; omega) (by omega) (by omega) (by omega)
    rw [e] at q
    exact q
theorem zfw_le {P Q : Prop} (h : P → Q) : zh_b P ≤ zh_b Q := zfo_bm h
theorem zfw_s1 {f s T : Int → Int} {u : Int} (h : 2 ≤ u) : zfw_s f s T (u - 1).toNat = zfw_s f s T (u - 1 - 1).toNat + zh_b (zfw_p f s (T (u - 1))) := by
  rw [show (u - 1).toNat = (u - 1 - 1).toNat + 1 by omega]
  show zfw_s f s T (u - 1 - 1).toNat + zh_b (zfw_p f s (T (((u - 1 - 1).toNat : Int) + 1))) = _
  rw [show (((u - 1 - 1).toNat : Int) + 1) = u - 1 by omega]
def zx_D1310 : zx_L := zx_Lc [] 6 [(2000193, 0), (2000192, 3), (2000176, 3), (2000190, 3), (208, 1), (2000197, 4)] [] [((0, 0), [(0, 1, 0), (1, 0, 1), (2, 0, 4294967296), (3, 0, 18446744073709551616)]), ((0, 1), [(6, 1, 0)]), ((0, 1), [(7, 1, 0)]), ((0, 1), [(8, 1, 0)]), ((0, 1), [(9, 1, 0)]), ((0, 0), [(1, 0, 1), (2, 0, 4294967296), (4, 1, 0)]), ((0, 1), [(1, 0, 1), (2, 0, 4294967296), (5, 1, 0)])] [((0, 0), [(1, 1, 0)]), ((4294967276, 0), [(1, 0, 1)]), ((0, 0), [(2, 1, 0)]), ((4294967276, 0), [(2, 0, 1)]), ((0, 0), [(3, 1, 0)]), ((4294967276, 0), [(3, 0, 1)]), ((0, 1), [(2, 1, 0)]), ((40, 0), [(2, 0, 1)]), ((0, 3), [(10, 1, 0)]), ((19, 0), [(10, 0, 1)])] [([(0, 40)], [((0, 0), [(11, 1, 0), (12, 0, 1)])], [(2000197, ((0, 0), [(5, 1, 0)]), ((0, 0), [(12, 1, 0)]))], [])]
theorem zx_D1310_ok {PT : Nat → zz_W → Prop} : zx_Lok 64 zHT PT zx_D1310 := by
  refine zx_Lc_ok (fun w hI hK ins hl hr he hg => ?_)
  obtain ⟨a0, a1, a2, a3, a4, a5, rfl⟩ := zx_i6 hl
  have e0 : (0 : Int) + (1 * a0 + ((-1) * a1 + ((-4294967296) * a2 + ((-18446744073709551616) * a3 + 0)))) = 0 := he _ List.mem_cons_self
  have e1 : ((-1) : Int) + (1 * (zk_xe w 2000193 a0) + 0) = 0 := he _ (List.mem_cons_of_mem _ List.mem_cons_self)
  have e2 : ((-1) : Int) + (1 * (zk_xe w 2000192 a3) + 0) = 0 := he _ (List.mem_cons_of_mem _ (List.mem_cons_of_mem _ List.mem_cons_self))
  have e3 : ((-1) : Int) + (1 * (zk_xe w 2000176 a3) + 0) = 0 := he _ (List.mem_cons_of_mem _ (List.mem_cons_of_mem _ (List.mem_cons_of_mem _ List.mem_cons_self)))
  have e4 : ((-1) : Int) + (1 * (zk_xe w 2000190 a3) + 0) = 0 := he _ (List.mem_cons_of_mem _ (List.mem_cons_of_mem _ (List.mem_cons_of_mem _ (List.mem_cons_of_mem _ List.mem_cons_self))))
  have e5 : (0 : Int) + ((-1) * a1 + ((-4294967296) * a2 + (1 * a4 + 0))) = 0 := he _ (List.mem_cons_of_mem _ (List.mem_cons_of_mem _ (List.mem_cons_of_mem _ (List.mem_cons_of_mem _ (List.mem_cons_of_mem _ List.mem_cons_self)))))
  have e6 : ((-1) : Int) + ((-1) * a1 + ((-4294967296) * a2 + (1 * a5 + 0))) = 0 := he _ (List.mem_cons_of_mem _ (List.mem_cons_of_mem _ (List.mem_cons_of_mem _ (List.mem_cons_of_mem _ (List.mem_cons_of_mem _ (List.mem_cons_of_mem _ List.mem_cons_self))))))
  have g0 : 0 ≤ (0 : Int) + (1 * a1 + 0) := hg _ List.mem_cons_self
  have g1 : 0 ≤ (4294967276 : Int) + ((-1) * a1 + 0) := hg _ (List.mem_cons_of_mem _ List.mem_cons_self)
  have g2 : 0 ≤ (0 : Int) + (1 * a2 + 0) := hg _ (List.mem_cons_of_mem _ (List.mem_cons_of_mem _ List.mem_cons_self))
  have g3 : 0 ≤ (4294967276 : Int) + ((-1) * a2 + 0) := hg _ (List.mem_cons_of_mem _ (List.mem_cons_of_mem _ (List.mem_cons_of_mem _ List.mem_cons_self)))
  have g4 : 0 ≤ (0 : Int) + (1 * a3 + 0) := hg _ (List.mem_cons_of_mem _ (List.mem_cons_of_mem _ (List.mem_cons_of_mem _ (List.mem_cons_of_mem _ List.mem_cons_self))))
  have g5 : 0 ≤ (4294967276 : Int) + ((-1) * a3 + 0) := hg _ (List.mem_cons_of_mem _ (List.mem_cons_of_mem _ (List.mem_cons_of_mem _ (List.mem_cons_of_mem _ (List.mem_cons_of_mem _ List.mem_cons_self)))))
  have g6 : 0 ≤ ((-1) : Int) + (1 * a2 + 0) := hg _ (List.mem_cons_of_mem _ (List.mem_cons_of_mem _ (List.mem_cons_of_mem _ (List.mem_cons_of_mem _ (List.mem_cons_of_mem _ (List.mem_cons_of_mem _ List.mem_cons_self))))))
  have g7 : 0 ≤ (40 : Int) + ((-1) * a2 + 0) := hg _ (List.mem_cons_of_mem _ (List.mem_cons_of_mem _ (List.mem_cons_of_mem _ (List.mem_cons_of_mem _ (List.mem_cons_of_mem _ (List.mem_cons_of_mem _ (List.mem_cons_of_mem _ List.mem_cons_self)))))))
  have g8 : 0 ≤ ((-3) : Int) + (1 * (zk_xe w 208 a1) + 0) := hg _ (List.mem_cons_of_mem _ (List.mem_cons_of_mem _ (List.mem_cons_of_mem _ (List.mem_cons_of_mem _ (List.mem_cons_of_mem _ (List.mem_cons_of_mem _ (List.mem_cons_of_mem _ (List.mem_cons_of_mem _ List.mem_cons_self))))))))
  have g9 : 0 ≤ (19 : Int) + ((-1) * (zk_xe w 208 a1) + 0) := hg _ (List.mem_cons_of_mem _ (List.mem_cons_of_mem _ (List.mem_cons_of_mem _ (List.mem_cons_of_mem _ (List.mem_cons_of_mem _ (List.mem_cons_of_mem _ (List.mem_cons_of_mem _ (List.mem_cons_of_mem _ (List.mem_cons_of_mem _ List.mem_cons_self)))))))))
  have r0 : 0 ≤ a0 := hr _ List.mem_cons_self
  have r1 : 0 ≤ a3 := hr _ (List.mem_cons_of_mem _ List.mem_cons_self)
  have r2 : 0 ≤ a3 := hr _ (List.mem_cons_of_mem _ (List.mem_cons_of_mem _ List.mem_cons_self))
  have r3 : 0 ≤ a3 := hr _ (List.mem_cons_of_mem _ (List.mem_cons_of_mem _ (List.mem_cons_of_mem _ List.mem_cons_self)))
  have r4 : 0 ≤ a1 := hr _ (List.mem_cons_of_mem _ (List.mem_cons_of_mem _ (List.mem_cons_of_mem _ (List.mem_cons_of_mem _ List.mem_cons_self))))
  have r5 : 0 ≤ a4 := hr _ (List.mem_cons_of_mem _ (List.mem_cons_of_mem _ (List.mem_cons_of_mem _ (List.mem_cons_of_mem _ (List.mem_cons_of_mem _ List.mem_cons_self)))))
  have hd := (zfy_193 (w := w) (j := a0) (t := a1) (u := a2) (n := a3) (by omega) (by omega) (by omega) (by omega) (by omega) (by omega) (by omega) ).mp (by omega)
  have hS := zfy_Sw (w := w) (n := a3) (by omega) (by omega) (by omega) (by omega) (by omega) 
  have kW : zh_e w 208 (a1) = zk_xe w 208 (a1) := by rw [zk_xe_r (i := 208) (by decide)]; rfl
  have h0 := (zfw_197 (w := w) (j := a4) (t := a1) (u := a2) (by omega) (by omega) (by omega) (by omega) (by omega) )
  have h1 := (zfw_197 (w := w) (j := a5) (t := (a1 + 1)) (u := a2) (by omega) (by omega) (by omega) (by omega) (by omega) )
  have hb := zfw_wb (f := (zh_e w 208)) (s := (zh_e w 207)) (T := (zh_e w 324)) (t := a1 + 1) (u := a2) (by omega) (by omega)
  rw [← h1] at hb
  obtain ⟨-, nv⟩ := zfy_nx hS hd.1 (by rw [kW]; omega)
  have hp : zh_b (zfw_p (zh_e w 208) (zh_e w 207) (a1 + 1)) ≤ zh_b (zfw_p (zh_e w 208) (zh_e w 207) a1) := by
    by_cases c : zk_xe w 208 a1 ≤ 10
    · exact zfw_le (zfw_k (f := (zh_e w 208)) (s := (zh_e w 207)) nv (by rw [kW]; omega))
    · have q := zh_b0 (zfw_n hS hd.1 nv (by rw [kW]; omega) (by rw [kW]; omega) (by rw [kW]; omega))
      have hz := zfw_b (P := zfw_p (zh_e w 208) (zh_e w 207) a1)
      omega
  have hm : zk_xe w 2000197 a5 ≤ zk_xe w 2000197 a4 + (0) := by
    rw [h0, h1]
    unfold zfw_w
    omega
  exact ⟨_, List.mem_cons_self, [zk_xe w 2000197 a5], rfl, (zx_bcons (by show (0 : Int) ≤ zk_xe w 2000197 a5 ∧ zk_xe w 2000197 a5 ≤ (40 : Int); omega) zx_bnil), (zx_cs1 (by show 0 ≤ (0 : Int) + (1 * (zk_xe w 2000197 a4) + ((-1) * (zk_xe w 2000197 a5) + 0)); omega) zx_cs0), (zx_eF1 (by show 0 ≤ (0 : Int) + (1 * a5 + 0); omega) (by show zk_xe w 2000197 ((0 : Int) + (1 * a5 + 0)) = (0 : Int) + (1 * (zk_xe w 2000197 a5) + 0); rw [show (0 : Int) + (1 * a5 + 0) = a5 by omega]; omega) zx_eF0), zx_k0⟩
def zx_D1313 : zx_L := zx_Lc [] 6 [(2000193, 0), (2000192, 3), (2000176, 3), (2000190, 3), (208, 1), (2000197, 4)] [] [((0, 0), [(0, 1, 0), (1, 0, 1), (2, 0, 4294967296), (3, 0, 18446744073709551616)]), ((0, 1), [(6, 1, 0)]), ((0, 1), [(7, 1, 0)]), ((0, 1), [(8, 1, 0)]), ((0, 1), [(9, 1, 0)]), ((0, 0), [(1, 0, 1), (2, 0, 4294967296), (4, 1, 0)]), ((0, 1), [(1, 0, 1), (2, 0, 4294967296), (5, 1, 0)])] [((0, 0), [(1, 1, 0)]), ((4294967276, 0), [(1, 0, 1)]), ((0, 0), [(2, 1, 0)]), ((4294967276, 0), [(2, 0, 1)]), ((0, 0), [(3, 1, 0)]), ((4294967276, 0), [(3, 0, 1)]), ((0, 1), [(2, 1, 0)]), ((40, 0), [(2, 0, 1)]), ((0, 2), [(10, 1, 0)]), ((2, 0), [(10, 0, 1)])] [([(0, 40)], [((1, 0), [(11, 1, 0), (12, 0, 1)])], [(2000197, ((0, 0), [(5, 1, 0)]), ((0, 0), [(12, 1, 0)]))], [])]
theorem zx_D1313_ok {PT : Nat → zz_W → Prop} : zx_Lok 64 zHT PT zx_D1313 := by
  refine zx_Lc_ok (fun w hI hK ins hl hr he hg => ?_)
  obtain ⟨a0, a1, a2, a3, a4, a5, rfl⟩ := zx_i6 hl
  have e0 : (0 : Int) + (1 * a0 + ((-1) * a1 + ((-4294967296) * a2 + ((-18446744073709551616) * a3 + 0)))) = 0 := he _ List.mem_cons_self
  have e1 : ((-1) : Int) + (1 * (zk_xe w 2000193 a0) + 0) = 0 := he _ (List.mem_cons_of_mem _ List.mem_cons_self)
  have e2 : ((-1) : Int) + (1 * (zk_xe w 2000192 a3) + 0) = 0 := he _ (List.mem_cons_of_mem _ (List.mem_cons_of_mem _ List.mem_cons_self))
  have e3 : ((-1) : Int) + (1 * (zk_xe w 2000176 a3) + 0) = 0 := he _ (List.mem_cons_of_mem _ (List.mem_cons_of_mem _ (List.mem_cons_of_mem _ List.mem_cons_self)))
  have e4 : ((-1) : Int) + (1 * (zk_xe w 2000190 a3) + 0) = 0 := he _ (List.mem_cons_of_mem _ (List.mem_cons_of_mem _ (List.mem_cons_of_mem _ (List.mem_cons_of_mem _ List.mem_cons_self))))
  have e5 : (0 : Int) + ((-1) * a1 + ((-4294967296) * a2 + (1 * a4 + 0))) = 0 := he _ (List.mem_cons_of_mem _ (List.mem_cons_of_mem _ (List.mem_cons_of_mem _ (List.mem_cons_of_mem _ (List.mem_cons_of_mem _ List.mem_cons_self)))))
  have e6 : ((-1) : Int) + ((-1) * a1 + ((-4294967296) * a2 + (1 * a5 + 0))) = 0 := he _ (List.mem_cons_of_mem _ (List.mem_cons_of_mem _ (List.mem_cons_of_mem _ (List.mem_cons_of_mem _ (List.mem_cons_of_mem _ (List.mem_cons_of_mem _ List.mem_cons_self))))))
  have g0 : 0 ≤ (0 : Int) + (1 * a1 + 0) := hg _ List.mem_cons_self
  have g1 : 0 ≤ (4294967276 : Int) + ((-1) * a1 + 0) := hg _ (List.mem_cons_of_mem _ List.mem_cons_self)
  have g2 : 0 ≤ (0 : Int) + (1 * a2 + 0) := hg _ (List.mem_cons_of_mem _ (List.mem_cons_of_mem _ List.mem_cons_self))
  have g3 : 0 ≤ (4294967276 : Int) + ((-1) * a2 + 0) := hg _ (List.mem_cons_of_mem _ (List.mem_cons_of_mem _ (List.mem_cons_of_mem _ List.mem_cons_self)))
  have g4 : 0 ≤ (0 : Int) + (1 * a3 + 0) := hg _ (List.mem_cons_of_mem _ (List.mem_cons_of_mem _ (List.mem_cons_of_mem _ (List.mem_cons_of_mem _ List.mem_cons_self))))
  have g5 : 0 ≤ (4294967276 : Int) + ((-1) * a3 + 0) := hg _ (List.mem_cons_of_mem _ (List.mem_cons_of_mem _ (List.mem_cons_of_mem _ (List.mem_cons_of_mem _ (List.mem_cons_of_mem _ List.mem_cons_self)))))
  have g6 : 0 ≤ ((-1) : Int) + (1 * a2 + 0) := hg _ (List.mem_cons_of_mem _ (List.mem_cons_of_mem _ (List.mem_cons_of_mem _ (List.mem_cons_of_mem _ (List.mem_cons_of_mem _ (List.mem_cons_of_mem _ List.mem_cons_self))))))
  have g7 : 0 ≤ (40 : Int) + ((-1) * a2 + 0) := hg _ (List.mem_cons_of_mem _ (List.mem_cons_of_mem _ (List.mem_cons_of_mem _ (List.mem_cons_of_mem _ (List.mem_cons_of_mem _ (List.mem_cons_of_mem _ (List.mem_cons_of_mem _ List.mem_cons_self)))))))
  have g8 : 0 ≤ ((-2) : Int) + (1 * (zk_xe w 208 a1) + 0) := hg _ (List.mem_cons_of_mem _ (List.mem_cons_of_mem _ (List.mem_cons_of_mem _ (List.mem_cons_of_mem _ (List.mem_cons_of_mem _ (List.mem_cons_of_mem _ (List.mem_cons_of_mem _ (List.mem_cons_of_mem _ List.mem_cons_self))))))))
  have g9 : 0 ≤ (2 : Int) + ((-1) * (zk_xe w 208 a1) + 0) := hg _ (List.mem_cons_of_mem _ (List.mem_cons_of_mem _ (List.mem_cons_of_mem _ (List.mem_cons_of_mem _ (List.mem_cons_of_mem _ (List.mem_cons_of_mem _ (List.mem_cons_of_mem _ (List.mem_cons_of_mem _ (List.mem_cons_of_mem _ List.mem_cons_self)))))))))
  have r0 : 0 ≤ a0 := hr _ List.mem_cons_self
  have r1 : 0 ≤ a3 := hr _ (List.mem_cons_of_mem _ List.mem_cons_self)
  have r2 : 0 ≤ a3 := hr _ (List.mem_cons_of_mem _ (List.mem_cons_of_mem _ List.mem_cons_self))
  have r3 : 0 ≤ a3 := hr _ (List.mem_cons_of_mem _ (List.mem_cons_of_mem _ (List.mem_cons_of_mem _ List.mem_cons_self)))
  have r4 : 0 ≤ a1 := hr _ (List.mem_cons_of_mem _ (List.mem_cons_of_mem _ (List.mem_cons_of_mem _ (List.mem_cons_of_mem _ List.mem_cons_self))))
  have r5 : 0 ≤ a4 := hr _ (List.mem_cons_of_mem _ (List.mem_cons_of_mem _ (List.mem_cons_of_mem _ (List.mem_cons_of_mem _ (List.mem_cons_of_mem _ List.mem_cons_self)))))
  have hd := (zfy_193 (w := w) (j := a0) (t := a1) (u := a2) (n := a3) (by omega) (by omega) (by omega) (by omega) (by omega) (by omega) (by omega) ).mp (by omega)
  have hS := zfy_Sw (w := w) (n := a3) (by omega) (by omega) (by omega) (by omega) (by omega) 
  have kW : zh_e w 208 (a1) = zk_xe w 208 (a1) := by rw [zk_xe_r (i := 208) (by decide)]; rfl
  have h0 := (zfw_197 (w := w) (j := a4) (t := a1) (u := a2) (by omega) (by omega) (by omega) (by omega) (by omega) )
  have h1 := (zfw_197 (w := w) (j := a5) (t := (a1 + 1)) (u := a2) (by omega) (by omega) (by omega) (by omega) (by omega) )
  have hb := zfw_wb (f := (zh_e w 208)) (s := (zh_e w 207)) (T := (zh_e w 324)) (t := a1 + 1) (u := a2) (by omega) (by omega)
  rw [← h1] at hb
  have hp := zfw_b (P := zfw_p (zh_e w 208) (zh_e w 207) (a1 + 1))
  have hz := zfw_b (P := zfw_p (zh_e w 208) (zh_e w 207) a1)
  have hm : zk_xe w 2000197 a5 ≤ zk_xe w 2000197 a4 + (1) := by
    rw [h0, h1]
    unfold zfw_w
    omega
  exact ⟨_, List.mem_cons_self, [zk_xe w 2000197 a5], rfl, (zx_bcons (by show (0 : Int) ≤ zk_xe w 2000197 a5 ∧ zk_xe w 2000197 a5 ≤ (40 : Int); omega) zx_bnil), (zx_cs1 (by show 0 ≤ (1 : Int) + (1 * (zk_xe w 2000197 a4) + ((-1) * (zk_xe w 2000197 a5) + 0)); omega) zx_cs0), (zx_eF1 (by show 0 ≤ (0 : Int) + (1 * a5 + 0); omega) (by show zk_xe w 2000197 ((0 : Int) + (1 * a5 + 0)) = (0 : Int) + (1 * (zk_xe w 2000197 a5) + 0); rw [show (0 : Int) + (1 * a5 + 0) = a5 by omega]; omega) zx_eF0), zx_k0⟩
def zx_D1314 : zx_L := zx_Lc [] 6 [(2000193, 0), (2000192, 3), (2000176, 3), (2000190, 3), (208, 1), (2000197, 4)] [] [((0, 0), [(0, 1, 0), (1, 0, 1), (2, 0, 4294967296), (3, 0, 18446744073709551616)]), ((0, 1), [(6, 1, 0)]), ((0, 1), [(7, 1, 0)]), ((0, 1), [(8, 1, 0)]), ((0, 1), [(9, 1, 0)]), ((0, 0), [(1, 0, 1), (2, 0, 4294967296), (4, 1, 0)]), ((0, 1), [(1, 0, 1), (2, 0, 4294967296), (5, 1, 0)])] [((0, 0), [(1, 1, 0)]), ((4294967276, 0), [(1, 0, 1)]), ((0, 0), [(2, 1, 0)]), ((4294967276, 0), [(2, 0, 1)]), ((0, 0), [(3, 1, 0)]), ((4294967276, 0), [(3, 0, 1)]), ((0, 1), [(2, 1, 0)]), ((40, 0), [(2, 0, 1)]), ((0, 20), [(10, 1, 0)]), ((20, 0), [(10, 0, 1)])] [([(0, 40)], [((0, 1), [(11, 1, 0), (12, 0, 1)])], [(2000197, ((0, 0), [(5, 1, 0)]), ((0, 0), [(12, 1, 0)]))], [])]
theorem zx_D1314_ok {PT : Nat → zz_W → Prop} : zx_Lok 64 zHT PT zx_D1314 := by
  refine zx_Lc_ok (fun w hI hK ins hl hr he hg => ?_)
  obtain ⟨a0, a1, a2, a3, a4, a5, rfl⟩ := zx_i6 hl
  have e0 : (0 : Int) + (1 * a0 + ((-1) * a1 + ((-4294967296) * a2 + ((-18446744073709551616) * a3 + 0)))) = 0 := he _ List.mem_cons_self
  have e1 : ((-1) : Int) + (1 * (zk_xe w 2000193 a0) + 0) = 0 := he _ (List.mem_cons_of_mem _ List.mem_cons_self)
  have e2 : ((-1) : Int) + (1 * (zk_xe w 2000192 a3) + 0) = 0 := he _ (List.mem_cons_of_mem _ (List.mem_cons_of_mem _ List.mem_cons_self))
  have e3 : ((-1) : Int) + (1 * (zk_xe w 2000176 a3) + 0) = 0 := he _ (List.mem_cons_of_mem _ (List.mem_cons_of_mem _ (List.mem_cons_of_mem _ List.mem_cons_self)))
  have e4 : ((-1) : Int) + (1 * (zk_xe w 2000190 a3) + 0) = 0 := he _ (List.mem_cons_of_mem _ (List.mem_cons_of_mem _ (List.mem_cons_of_mem _ (List.mem_cons_of_mem _ List.mem_cons_self))))
  have e5 : (0 : Int) + ((-1) * a1 + ((-4294967296) * a2 + (1 * a4 + 0))) = 0 := he _ (List.mem_cons_of_mem _ (List.mem_cons_of_mem _ (List.mem_cons_of_mem _ (List.mem_cons_of_mem _ (List.mem_cons_of_mem _ List.mem_cons_self)))))
  have e6 : ((-1) : Int) + ((-1) * a1 + ((-4294967296) * a2 + (1 * a5 + 0))) = 0 := he _ (List.mem_cons_of_mem _ (List.mem_cons_of_mem _ (List.mem_cons_of_mem _ (List.mem_cons_of_mem _ (List.mem_cons_of_mem _ (List.mem_cons_of_mem _ List.mem_cons_self))))))
  have g0 : 0 ≤ (0 : Int) + (1 * a1 + 0) := hg _ List.mem_cons_self
  have g1 : 0 ≤ (4294967276 : Int) + ((-1) * a1 + 0) := hg _ (List.mem_cons_of_mem _ List.mem_cons_self)
  have g2 : 0 ≤ (0 : Int) + (1 * a2 + 0) := hg _ (List.mem_cons_of_mem _ (List.mem_cons_of_mem _ List.mem_cons_self))
  have g3 : 0 ≤ (4294967276 : Int) + ((-1) * a2 + 0) := hg _ (List.mem_cons_of_mem _ (List.mem_cons_of_mem _ (List.mem_cons_of_mem _ List.mem_cons_self)))
  have g4 : 0 ≤ (0 : Int) + (1 * a3 + 0) := hg _ (List.mem_cons_of_mem _ (List.mem_cons_of_mem _ (List.mem_cons_of_mem _ (List.mem_cons_of_mem _ List.mem_cons_self))))
  have g5 : 0 ≤ (4294967276 : Int) + ((-1) * a3 + 0) := hg _ (List.mem_cons_of_mem _ (List.mem_cons_of_mem _ (List.mem_cons_of_mem _ (List.mem_cons_of_mem _ (List.mem_cons_of_mem _ List.mem_cons_self)))))
  have g6 : 0 ≤ ((-1) : Int) + (1 * a2 + 0) := hg _ (List.mem_cons_of_mem _ (List.mem_cons_of_mem _ (List.mem_cons_of_mem _ (List.mem_cons_of_mem _ (List.mem_cons_of_mem _ (List.mem_cons_of_mem _ List.mem_cons_self))))))
  have g7 : 0 ≤ (40 : Int) + ((-1) * a2 + 0) := hg _ (List.mem_cons_of_mem _ (List.mem_cons_of_mem _ (List.mem_cons_of_mem _ (List.mem_cons_of_mem _ (List.mem_cons_of_mem _ (List.mem_cons_of_mem _ (List.mem_cons_of_mem _ List.mem_cons_self)))))))
  have g8 : 0 ≤ ((-20) : Int) + (1 * (zk_xe w 208 a1) + 0) := hg _ (List.mem_cons_of_mem _ (List.mem_cons_of_mem _ (List.mem_cons_of_mem _ (List.mem_cons_of_mem _ (List.mem_cons_of_mem _ (List.mem_cons_of_mem _ (List.mem_cons_of_mem _ (List.mem_cons_of_mem _ List.mem_cons_self))))))))
  have g9 : 0 ≤ (20 : Int) + ((-1) * (zk_xe w 208 a1) + 0) := hg _ (List.mem_cons_of_mem _ (List.mem_cons_of_mem _ (List.mem_cons_of_mem _ (List.mem_cons_of_mem _ (List.mem_cons_of_mem _ (List.mem_cons_of_mem _ (List.mem_cons_of_mem _ (List.mem_cons_of_mem _ (List.mem_cons_of_mem _ List.mem_cons_self)))))))))
  have r0 : 0 ≤ a0 := hr _ List.mem_cons_self
  have r1 : 0 ≤ a3 := hr _ (List.mem_cons_of_mem _ List.mem_cons_self)
  have r2 : 0 ≤ a3 := hr _ (List.mem_cons_of_mem _ (List.mem_cons_of_mem _ List.mem_cons_self))
  have r3 : 0 ≤ a3 := hr _ (List.mem_cons_of_mem _ (List.mem_cons_of_mem _ (List.mem_cons_of_mem _ List.mem_cons_self)))
  have r4 : 0 ≤ a1 := hr _ (List.mem_cons_of_mem _ (List.mem_cons_of_mem _ (List.mem_cons_of_mem _ (List.mem_cons_of_mem _ List.mem_cons_self))))
  have r5 : 0 ≤ a4 := hr _ (List.mem_cons_of_mem _ (List.mem_cons_of_mem _ (List.mem_cons_of_mem _ (List.mem_cons_of_mem _ (List.mem_cons_of_mem _ List.mem_cons_self)))))
  have hd := (zfy_193 (w := w) (j := a0) (t := a1) (u := a2) (n := a3) (by omega) (by omega) (by omega) (by omega) (by omega) (by omega) (by omega) ).mp (by omega)
  have hS := zfy_Sw (w := w) (n := a3) (by omega) (by omega) (by omega) (by omega) (by omega) 
  have kW : zh_e w 208 (a1) = zk_xe w 208 (a1) := by rw [zk_xe_r (i := 208) (by decide)]; rfl
  have h0 := (zfw_197 (w := w) (j := a4) (t := a1) (u := a2) (by omega) (by omega) (by omega) (by omega) (by omega) )
  have h1 := (zfw_197 (w := w) (j := a5) (t := (a1 + 1)) (u := a2) (by omega) (by omega) (by omega) (by omega) (by omega) )
  have hb := zfw_wb (f := (zh_e w 208)) (s := (zh_e w 207)) (T := (zh_e w 324)) (t := a1 + 1) (u := a2) (by omega) (by omega)
  rw [← h1] at hb
  obtain ⟨-, nv⟩ := zfy_nx hS hd.1 (by rw [kW]; omega)
  have hp := zh_b0 (zfw_n hS hd.1 nv (by rw [kW]; omega) (by rw [kW]; omega) (by rw [kW]; omega))
  have hz := zh_b1 (zfw_o hS hd.1 (by rw [kW]; omega))
  have hm : zk_xe w 2000197 a5 ≤ zk_xe w 2000197 a4 + (-1) := by
    rw [h0, h1]
    unfold zfw_w
    omega
  exact ⟨_, List.mem_cons_self, [zk_xe w 2000197 a5], rfl, (zx_bcons (by show (0 : Int) ≤ zk_xe w 2000197 a5 ∧ zk_xe w 2000197 a5 ≤ (40 : Int); omega) zx_bnil), (zx_cs1 (by show 0 ≤ ((-1) : Int) + (1 * (zk_xe w 2000197 a4) + ((-1) * (zk_xe w 2000197 a5) + 0)); omega) zx_cs0), (zx_eF1 (by show 0 ≤ (0 : Int) + (1 * a5 + 0); omega) (by show zk_xe w 2000197 ((0 : Int) + (1 * a5 + 0)) = (0 : Int) + (1 * (zk_xe w 2000197 a5) + 0); rw [show (0 : Int) + (1 * a5 + 0) = a5 by omega]; omega) zx_eF0), zx_k0⟩
def zx_D1315 : zx_L := zx_Lc [] 6 [(2000193, 0), (2000192, 3), (2000176, 3), (2000190, 3), (208, 1), (2000197, 4)] [] [((0, 0), [(0, 1, 0), (1, 0, 1), (2, 0, 4294967296), (3, 0, 18446744073709551616)]), ((0, 1), [(6, 1, 0)]), ((0, 1), [(7, 1, 0)]), ((0, 1), [(8, 1, 0)]), ((0, 1), [(9, 1, 0)]), ((0, 0), [(1, 0, 1), (2, 0, 4294967296), (4, 1, 0)]), ((0, 1), [(1, 0, 1), (2, 0, 4294967296), (5, 1, 0)])] [((0, 0), [(1, 1, 0)]), ((4294967276, 0), [(1, 0, 1)]), ((0, 0), [(2, 1, 0)]), ((4294967276, 0), [(2, 0, 1)]), ((0, 0), [(3, 1, 0)]), ((4294967276, 0), [(3, 0, 1)]), ((0, 1), [(2, 1, 0)]), ((40, 0), [(2, 0, 1)]), ((0, 0), [(10, 1, 0)]), ((0, 0), [(10, 0, 1)])] [([(0, 40)], [((0, 1), [(11, 1, 0), (12, 0, 1)])], [(2000197, ((0, 0), [(5, 1, 0)]), ((0, 0), [(12, 1, 0)]))], [])]
theorem zx_D1315_ok {PT : Nat → zz_W → Prop} : zx_Lok 64 zHT PT zx_D1315 := by
  refine zx_Lc_ok (fun w hI hK ins hl hr he hg => ?_)
  obtain ⟨a0, a1, a2, a3, a4, a5, rfl⟩ := zx_i6 hl
  have e0 : (0 : Int) + (1 * a0 + ((-1) * a1 + ((-4294967296) * a2 + ((-18446744073709551616) * a3 + 0)))) = 0 := he _ List.mem_cons_self
  have e1 : ((-1) : Int) + (1 * (zk_xe w 2000193 a0) + 0) = 0 := he _ (List.mem_cons_of_mem _ List.mem_cons_self)
  have e2 : ((-1) : Int) + (1 * (zk_xe w 2000192 a3) + 0) = 0 := he _ (List.mem_cons_of_mem _ (List.mem_cons_of_mem _ List.mem_cons_self))
  have e3 : ((-1) : Int) + (1 * (zk_xe w 2000176 a3) + 0) = 0 := he _ (List.mem_cons_of_mem _ (List.mem_cons_of_mem _ (List.mem_cons_of_mem _ List.mem_cons_self)))
  have e4 : ((-1) : Int) + (1 * (zk_xe w 2000190 a3) + 0) = 0 := he _ (List.mem_cons_of_mem _ (List.mem_cons_of_mem _ (List.mem_cons_of_mem _ (List.mem_cons_of_mem _ List.mem_cons_self))))
  have e5 : (0 : Int) + ((-1) * a1 + ((-4294967296) * a2 + (1 * a4 + 0))) = 0 := he _ (List.mem_cons_of_mem _ (List.mem_cons_of_mem _ (List.mem_cons_of_mem _ (List.mem_cons_of_mem _ (List.mem_cons_of_mem _ List.mem_cons_self)))))
  have e6 : ((-1) : Int) + ((-1) * a1 + ((-4294967296) * a2 + (1 * a5 + 0))) = 0 := he _ (List.mem_cons_of_mem _ (List.mem_cons_of_mem _ (List.mem_cons_of_mem _ (List.mem_cons_of_mem _ (List.mem_cons_of_mem _ (List.mem_cons_of_mem _ List.mem_cons_self))))))
  have g0 : 0 ≤ (0 : Int) + (1 * a1 + 0) := hg _ List.mem_cons_self
  have g1 : 0 ≤ (4294967276 : Int) + ((-1) * a1 + 0) := hg _ (List.mem_cons_of_mem _ List.mem_cons_self)
  have g2 : 0 ≤ (0 : Int) + (1 * a2 + 0) := hg _ (List.mem_cons_of_mem _ (List.mem_cons_of_mem _ List.mem_cons_self))
  have g3 : 0 ≤ (4294967276 : Int) + ((-1) * a2 + 0) := hg _ (List.mem_cons_of_mem _ (List.mem_cons_of_mem _ (List.mem_cons_of_mem _ List.mem_cons_self)))
  have g4 : 0 ≤ (0 : Int) + (1 * a3 + 0) := hg _ (List.mem_cons_of_mem _ (List.mem_cons_of_mem _ (List.mem_cons_of_mem _ (List.mem_cons_of_mem _ List.mem_cons_self))))
  have g5 : 0 ≤ (4294967276 : Int) + ((-1) * a3 + 0) := hg _ (List.mem_cons_of_mem _ (List.mem_cons_of_mem _ (List.mem_cons_of_mem _ (List.mem_cons_of_mem _ (List.mem_cons_of_mem _ List.mem_cons_self)))))
  have g6 : 0 ≤ ((-1) : Int) + (1 * a2 + 0) := hg _ (List.mem_cons_of_mem _ (List.mem_cons_of_mem _ (List.mem_cons_of_mem _ (List.mem_cons_of_mem _ (List.mem_cons_of_mem _ (List.mem_cons_of_mem _ List.mem_cons_self))))))
  have g7 : 0 ≤ (40 : Int) + ((-1) * a2 + 0) := hg _ (List.mem_cons_of_mem _ (List.mem_cons_of_mem _ (List.mem_cons_of_mem _ (List.mem_cons_of_mem _ (List.mem_cons_of_mem _ (List.mem_cons_of_mem _ (List.mem_cons_of_mem _ List.mem_cons_self)))))))
  have g8 : 0 ≤ (0 : Int) + (1 * (zk_xe w 208 a1) + 0) := hg _ (List.mem_cons_of_mem _ (List.mem_cons_of_mem _ (List.mem_cons_of_mem _ (List.mem_cons_of_mem _ (List.mem_cons_of_mem _ (List.mem_cons_of_mem _ (List.mem_cons_of_mem _ (List.mem_cons_of_mem _ List.mem_cons_self))))))))
  have g9 : 0 ≤ (0 : Int) + ((-1) * (zk_xe w 208 a1) + 0) := hg _ (List.mem_cons_of_mem _ (List.mem_cons_of_mem _ (List.mem_cons_of_mem _ (List.mem_cons_of_mem _ (List.mem_cons_of_mem _ (List.mem_cons_of_mem _ (List.mem_cons_of_mem _ (List.mem_cons_of_mem _ (List.mem_cons_of_mem _ List.mem_cons_self)))))))))
  have r0 : 0 ≤ a0 := hr _ List.mem_cons_self
  have r1 : 0 ≤ a3 := hr _ (List.mem_cons_of_mem _ List.mem_cons_self)
  have r2 : 0 ≤ a3 := hr _ (List.mem_cons_of_mem _ (List.mem_cons_of_mem _ List.mem_cons_self))
  have r3 : 0 ≤ a3 := hr _ (List.mem_cons_of_mem _ (List.mem_cons_of_mem _ (List.mem_cons_of_mem _ List.mem_cons_self)))
  have r4 : 0 ≤ a1 := hr _ (List.mem_cons_of_mem _ (List.mem_cons_of_mem _ (List.mem_cons_of_mem _ (List.mem_cons_of_mem _ List.mem_cons_self))))
  have r5 : 0 ≤ a4 := hr _ (List.mem_cons_of_mem _ (List.mem_cons_of_mem _ (List.mem_cons_of_mem _ (List.mem_cons_of_mem _ (List.mem_cons_of_mem _ List.mem_cons_self)))))
  have hd := (zfy_193 (w := w) (j := a0) (t := a1) (u := a2) (n := a3) (by omega) (by omega) (by omega) (by omega) (by omega) (by omega) (by omega) ).mp (by omega)
  have hS := zfy_Sw (w := w) (n := a3) (by omega) (by omega) (by omega) (by omega) (by omega) 
  have kW : zh_e w 208 (a1) = zk_xe w 208 (a1) := by rw [zk_xe_r (i := 208) (by decide)]; rfl
  have h0 := (zfw_197 (w := w) (j := a4) (t := a1) (u := a2) (by omega) (by omega) (by omega) (by omega) (by omega) )
  have h1 := (zfw_197 (w := w) (j := a5) (t := (a1 + 1)) (u := a2) (by omega) (by omega) (by omega) (by omega) (by omega) )
  have hb := zfw_wb (f := (zh_e w 208)) (s := (zh_e w 207)) (T := (zh_e w 324)) (t := a1 + 1) (u := a2) (by omega) (by omega)
  rw [← h1] at hb
  obtain ⟨-, nv⟩ := zfy_nx hS hd.1 (by rw [kW]; omega)
  have hp := zh_b0 (zfw_n hS hd.1 nv (by rw [kW]; omega) (by rw [kW]; omega) (by rw [kW]; omega))
  have hz := zh_b1 (zfw_o hS hd.1 (by rw [kW]; omega))
  have hm : zk_xe w 2000197 a5 ≤ zk_xe w 2000197 a4 + (-1) := by
    rw [h0, h1]
    unfold zfw_w
    omega
  exact ⟨_, List.mem_cons_self, [zk_xe w 2000197 a5], rfl, (zx_bcons (by show (0 : Int) ≤ zk_xe w 2000197 a5 ∧ zk_xe w 2000197 a5 ≤ (40 : Int); omega) zx_bnil), (zx_cs1 (by show 0 ≤ ((-1) : Int) + (1 * (zk_xe w 2000197 a4) + ((-1) * (zk_xe w 2000197 a5) + 0)); omega) zx_cs0), (zx_eF1 (by show 0 ≤ (0 : Int) + (1 * a5 + 0); omega) (by show zk_xe w 2000197 ((0 : Int) + (1 * a5 + 0)) = (0 : Int) + (1 * (zk_xe w 2000197 a5) + 0); rw [show (0 : Int) + (1 * a5 + 0) = a5 by omega]; omega) zx_eF0), zx_k0⟩
def zx_D1316 : zx_L := zx_Lc [] 7 [(2000193, 0), (2000192, 3), (2000176, 3), (2000190, 3), (208, 1), (2000197, 5), (2000186, 3), (323, 1)] [] [((0, 0), [(0, 1, 0), (1, 0, 1), (2, 0, 4294967296), (3, 0, 18446744073709551616)]), ((0, 1), [(7, 1, 0)]), ((0, 1), [(8, 1, 0)]), ((0, 1), [(9, 1, 0)]), ((0, 1), [(10, 1, 0)]), ((0, 0), [(1, 0, 1), (2, 0, 4294967296), (5, 1, 0)]), ((0, 1), [(13, 1, 0)]), ((0, 0), [(2, 0, 4294967296), (6, 1, 0), (14, 0, 1)])] [((0, 0), [(1, 1, 0)]), ((4294967276, 0), [(1, 0, 1)]), ((0, 0), [(2, 1, 0)]), ((4294967276, 0), [(2, 0, 1)]), ((0, 0), [(3, 1, 0)]), ((4294967276, 0), [(3, 0, 1)]), ((0, 1), [(2, 1, 0)]), ((40, 0), [(2, 0, 1)]), ((0, 13), [(11, 1, 0)]), ((14, 0), [(11, 0, 1)]), ((0, 0), [(1, 1, 0), (4, 0, 8000)]), ((7999, 0), [(1, 0, 1), (4, 8000, 0)]), ((0, 0), [(4, 1, 0)]), ((6, 0), [(3, 0, 1)]), ((0, 0), [(14, 1, 0)]), ((48000, 0), [(14, 0, 1)])] [([(0, 40)], [((0, 0), [(12, 1, 0), (15, 0, 1)])], [(2000197, ((0, 0), [(6, 1, 0)]), ((0, 0), [(15, 1, 0)]))], [])]
theorem zx_D1316_ok {PT : Nat → zz_W → Prop} : zx_Lok 64 zHT PT zx_D1316 := by
  refine zx_Lc_ok (fun w hI hK ins hl hr he hg => ?_)
  obtain ⟨a0, a1, a2, a3, a4, a5, a6, rfl⟩ := zx_i7 hl
  have e0 : (0 : Int) + (1 * a0 + ((-1) * a1 + ((-4294967296) * a2 + ((-18446744073709551616) * a3 + 0)))) = 0 := he _ List.mem_cons_self
  have e1 : ((-1) : Int) + (1 * (zk_xe w 2000193 a0) + 0) = 0 := he _ (List.mem_cons_of_mem _ List.mem_cons_self)
  have e2 : ((-1) : Int) + (1 * (zk_xe w 2000192 a3) + 0) = 0 := he _ (List.mem_cons_of_mem _ (List.mem_cons_of_mem _ List.mem_cons_self))
  have e3 : ((-1) : Int) + (1 * (zk_xe w 2000176 a3) + 0) = 0 := he _ (List.mem_cons_of_mem _ (List.mem_cons_of_mem _ (List.mem_cons_of_mem _ List.mem_cons_self)))
  have e4 : ((-1) : Int) + (1 * (zk_xe w 2000190 a3) + 0) = 0 := he _ (List.mem_cons_of_mem _ (List.mem_cons_of_mem _ (List.mem_cons_of_mem _ (List.mem_cons_of_mem _ List.mem_cons_self))))
  have e5 : (0 : Int) + ((-1) * a1 + ((-4294967296) * a2 + (1 * a5 + 0))) = 0 := he _ (List.mem_cons_of_mem _ (List.mem_cons_of_mem _ (List.mem_cons_of_mem _ (List.mem_cons_of_mem _ (List.mem_cons_of_mem _ List.mem_cons_self)))))
  have e6 : ((-1) : Int) + (1 * (zk_xe w 2000186 a3) + 0) = 0 := he _ (List.mem_cons_of_mem _ (List.mem_cons_of_mem _ (List.mem_cons_of_mem _ (List.mem_cons_of_mem _ (List.mem_cons_of_mem _ (List.mem_cons_of_mem _ List.mem_cons_self))))))
  have e7 : (0 : Int) + ((-4294967296) * a2 + (1 * a6 + ((-1) * (zk_xe w 323 a1) + 0))) = 0 := he _ (List.mem_cons_of_mem _ (List.mem_cons_of_mem _ (List.mem_cons_of_mem _ (List.mem_cons_of_mem _ (List.mem_cons_of_mem _ (List.mem_cons_of_mem _ (List.mem_cons_of_mem _ List.mem_cons_self)))))))
  have g0 : 0 ≤ (0 : Int) + (1 * a1 + 0) := hg _ List.mem_cons_self
  have g1 : 0 ≤ (4294967276 : Int) + ((-1) * a1 + 0) := hg _ (List.mem_cons_of_mem _ List.mem_cons_self)
  have g2 : 0 ≤ (0 : Int) + (1 * a2 + 0) := hg _ (List.mem_cons_of_mem _ (List.mem_cons_of_mem _ List.mem_cons_self))
  have g3 : 0 ≤ (4294967276 : Int) + ((-1) * a2 + 0) := hg _ (List.mem_cons_of_mem _ (List.mem_cons_of_mem _ (List.mem_cons_of_mem _ List.mem_cons_self)))
  have g4 : 0 ≤ (0 : Int) + (1 * a3 + 0) := hg _ (List.mem_cons_of_mem _ (List.mem_cons_of_mem _ (List.mem_cons_of_mem _ (List.mem_cons_of_mem _ List.mem_cons_self))))
  have g5 : 0 ≤ (4294967276 : Int) + ((-1) * a3 + 0) := hg _ (List.mem_cons_of_mem _ (List.mem_cons_of_mem _ (List.mem_cons_of_mem _ (List.mem_cons_of_mem _ (List.mem_cons_of_mem _ List.mem_cons_self)))))
  have g6 : 0 ≤ ((-1) : Int) + (1 * a2 + 0) := hg _ (List.mem_cons_of_mem _ (List.mem_cons_of_mem _ (List.mem_cons_of_mem _ (List.mem_cons_of_mem _ (List.mem_cons_of_mem _ (List.mem_cons_of_mem _ List.mem_cons_self))))))
  have g7 : 0 ≤ (40 : Int) + ((-1) * a2 + 0) := hg _ (List.mem_cons_of_mem _ (List.mem_cons_of_mem _ (List.mem_cons_of_mem _ (List.mem_cons_of_mem _ (List.mem_cons_of_mem _ (List.mem_cons_of_mem _ (List.mem_cons_of_mem _ List.mem_cons_self)))))))
  have g8 : 0 ≤ ((-13) : Int) + (1 * (zk_xe w 208 a1) + 0) := hg _ (List.mem_cons_of_mem _ (List.mem_cons_of_mem _ (List.mem_cons_of_mem _ (List.mem_cons_of_mem _ (List.mem_cons_of_mem _ (List.mem_cons_of_mem _ (List.mem_cons_of_mem _ (List.mem_cons_of_mem _ List.mem_cons_self))))))))
  have g9 : 0 ≤ (14 : Int) + ((-1) * (zk_xe w 208 a1) + 0) := hg _ (List.mem_cons_of_mem _ (List.mem_cons_of_mem _ (List.mem_cons_of_mem _ (List.mem_cons_of_mem _ (List.mem_cons_of_mem _ (List.mem_cons_of_mem _ (List.mem_cons_of_mem _ (List.mem_cons_of_mem _ (List.mem_cons_of_mem _ List.mem_cons_self)))))))))
  have g10 : 0 ≤ (0 : Int) + (1 * a1 + ((-8000) * a4 + 0)) := hg _ (List.mem_cons_of_mem _ (List.mem_cons_of_mem _ (List.mem_cons_of_mem _ (List.mem_cons_of_mem _ (List.mem_cons_of_mem _ (List.mem_cons_of_mem _ (List.mem_cons_of_mem _ (List.mem_cons_of_mem _ (List.mem_cons_of_mem _ (List.mem_cons_of_mem _ List.mem_cons_self))))))))))
  have g11 : 0 ≤ (7999 : Int) + ((-1) * a1 + (8000 * a4 + 0)) := hg _ (List.mem_cons_of_mem _ (List.mem_cons_of_mem _ (List.mem_cons_of_mem _ (List.mem_cons_of_mem _ (List.mem_cons_of_mem _ (List.mem_cons_of_mem _ (List.mem_cons_of_mem _ (List.mem_cons_of_mem _ (List.mem_cons_of_mem _ (List.mem_cons_of_mem _ (List.mem_cons_of_mem _ List.mem_cons_self)))))))))))
  have g12 : 0 ≤ (0 : Int) + (1 * a4 + 0) := hg _ (List.mem_cons_of_mem _ (List.mem_cons_of_mem _ (List.mem_cons_of_mem _ (List.mem_cons_of_mem _ (List.mem_cons_of_mem _ (List.mem_cons_of_mem _ (List.mem_cons_of_mem _ (List.mem_cons_of_mem _ (List.mem_cons_of_mem _ (List.mem_cons_of_mem _ (List.mem_cons_of_mem _ (List.mem_cons_of_mem _ List.mem_cons_self))))))))))))
  have g13 : 0 ≤ (6 : Int) + ((-1) * a3 + 0) := hg _ (List.mem_cons_of_mem _ (List.mem_cons_of_mem _ (List.mem_cons_of_mem _ (List.mem_cons_of_mem _ (List.mem_cons_of_mem _ (List.mem_cons_of_mem _ (List.mem_cons_of_mem _ (List.mem_cons_of_mem _ (List.mem_cons_of_mem _ (List.mem_cons_of_mem _ (List.mem_cons_of_mem _ (List.mem_cons_of_mem _ (List.mem_cons_of_mem _ List.mem_cons_self)))))))))))))
  have g14 : 0 ≤ (0 : Int) + (1 * (zk_xe w 323 a1) + 0) := hg _ (List.mem_cons_of_mem _ (List.mem_cons_of_mem _ (List.mem_cons_of_mem _ (List.mem_cons_of_mem _ (List.mem_cons_of_mem _ (List.mem_cons_of_mem _ (List.mem_cons_of_mem _ (List.mem_cons_of_mem _ (List.mem_cons_of_mem _ (List.mem_cons_of_mem _ (List.mem_cons_of_mem _ (List.mem_cons_of_mem _ (List.mem_cons_of_mem _ (List.mem_cons_of_mem _ List.mem_cons_self))))))))))))))
  have g15 : 0 ≤ (48000 : Int) + ((-1) * (zk_xe w 323 a1) + 0) := hg _ (List.mem_cons_of_mem _ (List.mem_cons_of_mem _ (List.mem_cons_of_mem _ (List.mem_cons_of_mem _ (List.mem_cons_of_mem _ (List.mem_cons_of_mem _ (List.mem_cons_of_mem _ (List.mem_cons_of_mem _ (List.mem_cons_of_mem _ (List.mem_cons_of_mem _ (List.mem_cons_of_mem _ (List.mem_cons_of_mem _ (List.mem_cons_of_mem _ (List.mem_cons_of_mem _ (List.mem_cons_of_mem _ List.mem_cons_self)))))))))))))))
  have r0 : 0 ≤ a0 := hr _ List.mem_cons_self
  have r1 : 0 ≤ a3 := hr _ (List.mem_cons_of_mem _ List.mem_cons_self)
  have r2 : 0 ≤ a3 := hr _ (List.mem_cons_of_mem _ (List.mem_cons_of_mem _ List.mem_cons_self))
  have r3 : 0 ≤ a3 := hr _ (List.mem_cons_of_mem _ (List.mem_cons_of_mem _ (List.mem_cons_of_mem _ List.mem_cons_self)))
  have r4 : 0 ≤ a1 := hr _ (List.mem_cons_of_mem _ (List.mem_cons_of_mem _ (List.mem_cons_of_mem _ (List.mem_cons_of_mem _ List.mem_cons_self))))
  have r5 : 0 ≤ a5 := hr _ (List.mem_cons_of_mem _ (List.mem_cons_of_mem _ (List.mem_cons_of_mem _ (List.mem_cons_of_mem _ (List.mem_cons_of_mem _ List.mem_cons_self)))))
  have r6 : 0 ≤ a3 := hr _ (List.mem_cons_of_mem _ (List.mem_cons_of_mem _ (List.mem_cons_of_mem _ (List.mem_cons_of_mem _ (List.mem_cons_of_mem _ (List.mem_cons_of_mem _ List.mem_cons_self))))))
  have r7 : 0 ≤ a1 := hr _ (List.mem_cons_of_mem _ (List.mem_cons_of_mem _ (List.mem_cons_of_mem _ (List.mem_cons_of_mem _ (List.mem_cons_of_mem _ (List.mem_cons_of_mem _ (List.mem_cons_of_mem _ List.mem_cons_self)))))))
  have hd := (zfy_193 (w := w) (j := a0) (t := a1) (u := a2) (n := a3) (by omega) (by omega) (by omega) (by omega) (by omega) (by omega) (by omega) ).mp (by omega)
  have hS := zfy_Sw (w := w) (n := a3) (by omega) (by omega) (by omega) (by omega) (by omega) 
  have kW : zh_e w 208 (a1) = zk_xe w 208 (a1) := by rw [zk_xe_r (i := 208) (by decide)]; rfl
  have kL : zh_e w 323 (a1) = zk_xe w 323 (a1) := by rw [zk_xe_r (i := 323) (by decide)]; rfl
  have e : a1 / 8000 = a4 := by omega
  have hl := zfl_186.mp (show zk_xe w 2000186 a3 = 1 by omega)
  have hp := hd.1
  unfold zfy_p at hp
  have q1 := (hS.2 (a1 / 8000) (by omega) hp.2.1).1
  have hg := hl (a1 / 8000) (by omega) hp.2.1 (a1 % 8000) (by omega) hp.2.2 (by omega) (by rw [zfy_e, kW]; unfold zfl_t; omega)
  rw [zfy_e, kL] at hg
  have hn := zh_b0 (zfw_j hS hd.1 hg)
  have hz := zfw_b (P := zfw_p (zh_e w 208) (zh_e w 207) a1)
  have h0 := (zfw_197 (w := w) (j := a5) (t := a1) (u := a2) (by omega) (by omega) (by omega) (by omega) (by omega) )
  have h1 := (zfw_197 (w := w) (j := a6) (t := (zk_xe w 323 a1)) (u := a2) (by omega) (by omega) (by omega) (by omega) (by omega) )
  have hb := zfw_wb (f := (zh_e w 208)) (s := (zh_e w 207)) (T := (zh_e w 324)) (t := zk_xe w 323 a1) (u := a2) (by omega) (by omega)
  rw [← h1] at hb
  have hm : zk_xe w 2000197 a6 ≤ zk_xe w 2000197 a5 := by
    rw [h0, h1]
    unfold zfw_w
    omega
  exact ⟨_, List.mem_cons_self, [zk_xe w 2000197 a6], rfl, (zx_bcons (by show (0 : Int) ≤ zk_xe w 2000197 a6 ∧ zk_xe w 2000197 a6 ≤ (40 : Int); omega) zx_bnil), (zx_cs1 (by show 0 ≤ (0 : Int) + (1 * (zk_xe w 2000197 a5) + ((-1) * (zk_xe w 2000197 a6) + 0)); omega) zx_cs0), (zx_eF1 (by show 0 ≤ (0 : Int) + (1 * a6 + 0); omega) (by show zk_xe w 2000197 ((0 : Int) + (1 * a6 + 0)) = (0 : Int) + (1 * (zk_xe w 2000197 a6) + 0); rw [show (0 : Int) + (1 * a6 + 0) = a6 by omega]; omega) zx_eF0), zx_k0⟩
def zx_D1317 : zx_L := zx_Lc [] 7 [(2000193, 0), (2000192, 3), (2000176, 3), (2000190, 3), (208, 1), (2000197, 5), (2000186, 3), (323, 1)] [] [((0, 0), [(0, 1, 0), (1, 0, 1), (2, 0, 4294967296), (3, 0, 18446744073709551616)]), ((0, 1), [(7, 1, 0)]), ((0, 1), [(8, 1, 0)]), ((0, 1), [(9, 1, 0)]), ((0, 1), [(10, 1, 0)]), ((0, 0), [(1, 0, 1), (2, 0, 4294967296), (5, 1, 0)]), ((0, 1), [(13, 1, 0)]), ((0, 0), [(2, 0, 4294967296), (6, 1, 0), (14, 0, 1)])] [((0, 0), [(1, 1, 0)]), ((4294967276, 0), [(1, 0, 1)]), ((0, 0), [(2, 1, 0)]), ((4294967276, 0), [(2, 0, 1)]), ((0, 0), [(3, 1, 0)]), ((4294967276, 0), [(3, 0, 1)]), ((0, 1), [(2, 1, 0)]), ((40, 0), [(2, 0, 1)]), ((0, 17), [(11, 1, 0)]), ((18, 0), [(11, 0, 1)]), ((0, 0), [(1, 1, 0), (4, 0, 8000)]), ((7999, 0), [(1, 0, 1), (4, 8000, 0)]), ((0, 0), [(4, 1, 0)]), ((6, 0), [(3, 0, 1)]), ((0, 0), [(14, 1, 0)]), ((48000, 0), [(14, 0, 1)])] [([(0, 40)], [((0, 0), [(12, 1, 0), (15, 0, 1)])], [(2000197, ((0, 0), [(6, 1, 0)]), ((0, 0), [(15, 1, 0)]))], [])]
theorem zx_D1317_ok {PT : Nat → zz_W → Prop} : zx_Lok 64 zHT PT zx_D1317 := by
  refine zx_Lc_ok (fun w hI hK ins hl hr he hg => ?_)
  obtain ⟨a0, a1, a2, a3, a4, a5, a6, rfl⟩ := zx_i7 hl
  have e0 : (0 : Int) + (1 * a0 + ((-1) * a1 + ((-4294967296) * a2 + ((-18446744073709551616) * a3 + 0)))) = 0 := he _ List.mem_cons_self
  have e1 : ((-1) : Int) + (1 * (zk_xe w 2000193 a0) + 0) = 0 := he _ (List.mem_cons_of_mem _ List.mem_cons_self)
  have e2 : ((-1) : Int) + (1 * (zk_xe w 2000192 a3) + 0) = 0 := he _ (List.mem_cons_of_mem _ (List.mem_cons_of_mem _ List.mem_cons_self))
  have e3 : ((-1) : Int) + (1 * (zk_xe w 2000176 a3) + 0) = 0 := he _ (List.mem_cons_of_mem _ (List.mem_cons_of_mem _ (List.mem_cons_of_mem _ List.mem_cons_self)))
  have e4 : ((-1) : Int) + (1 * (zk_xe w 2000190 a3) + 0) = 0 := he _ (List.mem_cons_of_mem _ (List.mem_cons_of_mem _ (List.mem_cons_of_mem _ (List.mem_cons_of_mem _ List.mem_cons_self))))
  have e5 : (0 : Int) + ((-1) * a1 + ((-4294967296) * a2 + (1 * a5 + 0))) = 0 := he _ (List.mem_cons_of_mem _ (List.mem_cons_of_mem _ (List.mem_cons_of_mem _ (List.mem_cons_of_mem _ (List.mem_cons_of_mem _ List.mem_cons_self)))))
  have e6 : ((-1) : Int) + (1 * (zk_xe w 2000186 a3) + 0) = 0 := he _ (List.mem_cons_of_mem _ (List.mem_cons_of_mem _ (List.mem_cons_of_mem _ (List.mem_cons_of_mem _ (List.mem_cons_of_mem _ (List.mem_cons_of_mem _ List.mem_cons_self))))))
  have e7 : (0 : Int) + ((-4294967296) * a2 + (1 * a6 + ((-1) * (zk_xe w 323 a1) + 0))) = 0 := he _ (List.mem_cons_of_mem _ (List.mem_cons_of_mem _ (List.mem_cons_of_mem _ (List.mem_cons_of_mem _ (List.mem_cons_of_mem _ (List.mem_cons_of_mem _ (List.mem_cons_of_mem _ List.mem_cons_self)))))))
  have g0 : 0 ≤ (0 : Int) + (1 * a1 + 0) := hg _ List.mem_cons_self
  have g1 : 0 ≤ (4294967276 : Int) + ((-1) * a1 + 0) := hg _ (List.mem_cons_of_mem _ List.mem_cons_self)
  have g2 : 0 ≤ (0 : Int) + (1 * a2 + 0) := hg _ (List.mem_cons_of_mem _ (List.mem_cons_of_mem _ List.mem_cons_self))
  have g3 : 0 ≤ (4294967276 : Int) + ((-1) * a2 + 0) := hg _ (List.mem_cons_of_mem _ (List.mem_cons_of_mem _ (List.mem_cons_of_mem _ List.mem_cons_self)))
  have g4 : 0 ≤ (0 : Int) + (1 * a3 + 0) := hg _ (List.mem_cons_of_mem _ (List.mem_cons_of_mem _ (List.mem_cons_of_mem _ (List.mem_cons_of_mem _ List.mem_cons_self))))
  have g5 : 0 ≤ (4294967276 : Int) + ((-1) * a3 + 0) := hg _ (List.mem_cons_of_mem _ (List.mem_cons_of_mem _ (List.mem_cons_of_mem _ (List.mem_cons_of_mem _ (List.mem_cons_of_mem _ List.mem_cons_self)))))
  have g6 : 0 ≤ ((-1) : Int) + (1 * a2 + 0) := hg _ (List.mem_cons_of_mem _ (List.mem_cons_of_mem _ (List.mem_cons_of_mem _ (List.mem_cons_of_mem _ (List.mem_cons_of_mem _ (List.mem_cons_of_mem _ List.mem_cons_self))))))
  have g7 : 0 ≤ (40 : Int) + ((-1) * a2 + 0) := hg _ (List.mem_cons_of_mem _ (List.mem_cons_of_mem _ (List.mem_cons_of_mem _ (List.mem_cons_of_mem _ (List.mem_cons_of_mem _ (List.mem_cons_of_mem _ (List.mem_cons_of_mem _ List.mem_cons_self)))))))
  have g8 : 0 ≤ ((-17) : Int) + (1 * (zk_xe w 208 a1) + 0) := hg _ (List.mem_cons_of_mem _ (List.mem_cons_of_mem _ (List.mem_cons_of_mem _ (List.mem_cons_of_mem _ (List.mem_cons_of_mem _ (List.mem_cons_of_mem _ (List.mem_cons_of_mem _ (List.mem_cons_of_mem _ List.mem_cons_self))))))))
  have g9 : 0 ≤ (18 : Int) + ((-1) * (zk_xe w 208 a1) + 0) := hg _ (List.mem_cons_of_mem _ (List.mem_cons_of_mem _ (List.mem_cons_of_mem _ (List.mem_cons_of_mem _ (List.mem_cons_of_mem _ (List.mem_cons_of_mem _ (List.mem_cons_of_mem _ (List.mem_cons_of_mem _ (List.mem_cons_of_mem _ List.mem_cons_self)))))))))
  have g10 : 0 ≤ (0 : Int) + (1 * a1 + ((-8000) * a4 + 0)) := hg _ (List.mem_cons_of_mem _ (List.mem_cons_of_mem _ (List.mem_cons_of_mem _ (List.mem_cons_of_mem _ (List.mem_cons_of_mem _ (List.mem_cons_of_mem _ (List.mem_cons_of_mem _ (List.mem_cons_of_mem _ (List.mem_cons_of_mem _ (List.mem_cons_of_mem _ List.mem_cons_self))))))))))
  have g11 : 0 ≤ (7999 : Int) + ((-1) * a1 + (8000 * a4 + 0)) := hg _ (List.mem_cons_of_mem _ (List.mem_cons_of_mem _ (List.mem_cons_of_mem _ (List.mem_cons_of_mem _ (List.mem_cons_of_mem _ (List.mem_cons_of_mem _ (List.mem_cons_of_mem _ (List.mem_cons_of_mem _ (List.mem_cons_of_mem _ (List.mem_cons_of_mem _ (List.mem_cons_of_mem _ List.mem_cons_self)))))))))))
  have g12 : 0 ≤ (0 : Int) + (1 * a4 + 0) := hg _ (List.mem_cons_of_mem _ (List.mem_cons_of_mem _ (List.mem_cons_of_mem _ (List.mem_cons_of_mem _ (List.mem_cons_of_mem _ (List.mem_cons_of_mem _ (List.mem_cons_of_mem _ (List.mem_cons_of_mem _ (List.mem_cons_of_mem _ (List.mem_cons_of_mem _ (List.mem_cons_of_mem _ (List.mem_cons_of_mem _ List.mem_cons_self))))))))))))
  have g13 : 0 ≤ (6 : Int) + ((-1) * a3 + 0) := hg _ (List.mem_cons_of_mem _ (List.mem_cons_of_mem _ (List.mem_cons_of_mem _ (List.mem_cons_of_mem _ (List.mem_cons_of_mem _ (List.mem_cons_of_mem _ (List.mem_cons_of_mem _ (List.mem_cons_of_mem _ (List.mem_cons_of_mem _ (List.mem_cons_of_mem _ (List.mem_cons_of_mem _ (List.mem_cons_of_mem _ (List.mem_cons_of_mem _ List.mem_cons_self)))))))))))))
  have g14 : 0 ≤ (0 : Int) + (1 * (zk_xe w 323 a1) + 0) := hg _ (List.mem_cons_of_mem _ (List.mem_cons_of_mem _ (List.mem_cons_of_mem _ (List.mem_cons_of_mem _ (List.mem_cons_of_mem _ (List.mem_cons_of_mem _ (List.mem_cons_of_mem _ (List.mem_cons_of_mem _ (List.mem_cons_of_mem _ (List.mem_cons_of_mem _ (List.mem_cons_of_mem _ (List.mem_cons_of_mem _ (List.mem_cons_of_mem _ (List.mem_cons_of_mem _ List.mem_cons_self))))))))))))))
  have g15 : 0 ≤ (48000 : Int) + ((-1) * (zk_xe w 323 a1) + 0) := hg _ (List.mem_cons_of_mem _ (List.mem_cons_of_mem _ (List.mem_cons_of_mem _ (List.mem_cons_of_mem _ (List.mem_cons_of_mem _ (List.mem_cons_of_mem _ (List.mem_cons_of_mem _ (List.mem_cons_of_mem _ (List.mem_cons_of_mem _ (List.mem_cons_of_mem _ (List.mem_cons_of_mem _ (List.mem_cons_of_mem _ (List.mem_cons_of_mem _ (List.mem_cons_of_mem _ (List.mem_cons_of_mem _ List.mem_cons_self)))))))))))))))
  have r0 : 0 ≤ a0 := hr _ List.mem_cons_self
  have r1 : 0 ≤ a3 := hr _ (List.mem_cons_of_mem _ List.mem_cons_self)
  have r2 : 0 ≤ a3 := hr _ (List.mem_cons_of_mem _ (List.mem_cons_of_mem _ List.mem_cons_self))
  have r3 : 0 ≤ a3 := hr _ (List.mem_cons_of_mem _ (List.mem_cons_of_mem _ (List.mem_cons_of_mem _ List.mem_cons_self)))
  have r4 : 0 ≤ a1 := hr _ (List.mem_cons_of_mem _ (List.mem_cons_of_mem _ (List.mem_cons_of_mem _ (List.mem_cons_of_mem _ List.mem_cons_self))))
  have r5 : 0 ≤ a5 := hr _ (List.mem_cons_of_mem _ (List.mem_cons_of_mem _ (List.mem_cons_of_mem _ (List.mem_cons_of_mem _ (List.mem_cons_of_mem _ List.mem_cons_self)))))
  have r6 : 0 ≤ a3 := hr _ (List.mem_cons_of_mem _ (List.mem_cons_of_mem _ (List.mem_cons_of_mem _ (List.mem_cons_of_mem _ (List.mem_cons_of_mem _ (List.mem_cons_of_mem _ List.mem_cons_self))))))
  have r7 : 0 ≤ a1 := hr _ (List.mem_cons_of_mem _ (List.mem_cons_of_mem _ (List.mem_cons_of_mem _ (List.mem_cons_of_mem _ (List.mem_cons_of_mem _ (List.mem_cons_of_mem _ (List.mem_cons_of_mem _ List.mem_cons_self)))))))
  have hd := (zfy_193 (w := w) (j := a0) (t := a1) (u := a2) (n := a3) (by omega) (by omega) (by omega) (by omega) (by omega) (by omega) (by omega) ).mp (by omega)
  have hS := zfy_Sw (w := w) (n := a3) (by omega) (by omega) (by omega) (by omega) (by omega) 
  have kW : zh_e w 208 (a1) = zk_xe w 208 (a1) := by rw [zk_xe_r (i := 208) (by decide)]; rfl
  have kL : zh_e w 323 (a1) = zk_xe w 323 (a1) := by rw [zk_xe_r (i := 323) (by decide)]; rfl
  have e : a1 / 8000 = a4 := by omega
  have hl := zfl_186.mp (show zk_xe w 2000186 a3 = 1 by omega)
  have hp := hd.1
  unfold zfy_p at hp
  have q1 := (hS.2 (a1 / 8000) (by omega) hp.2.1).1
  have hg := hl (a1 / 8000) (by omega) hp.2.1 (a1 % 8000) (by omega) hp.2.2 (by omega) (by rw [zfy_e, kW]; unfold zfl_t; omega)
  rw [zfy_e, kL] at hg
  have hn := zh_b0 (zfw_j hS hd.1 hg)
  have hz := zfw_b (P := zfw_p (zh_e w 208) (zh_e w 207) a1)
  have h0 := (zfw_197 (w := w) (j := a5) (t := a1) (u := a2) (by omega) (by omega) (by omega) (by omega) (by omega) )
  have h1 := (zfw_197 (w := w) (j := a6) (t := (zk_xe w 323 a1)) (u := a2) (by omega) (by omega) (by omega) (by omega) (by omega) )
  have hb := zfw_wb (f := (zh_e w 208)) (s := (zh_e w 207)) (T := (zh_e w 324)) (t := zk_xe w 323 a1) (u := a2) (by omega) (by omega)
  rw [← h1] at hb
  have hm : zk_xe w 2000197 a6 ≤ zk_xe w 2000197 a5 := by
    rw [h0, h1]
    unfold zfw_w
    omega
  exact ⟨_, List.mem_cons_self, [zk_xe w 2000197 a6], rfl, (zx_bcons (by show (0 : Int) ≤ zk_xe w 2000197 a6 ∧ zk_xe w 2000197 a6 ≤ (40 : Int); omega) zx_bnil), (zx_cs1 (by show 0 ≤ (0 : Int) + (1 * (zk_xe w 2000197 a5) + ((-1) * (zk_xe w 2000197 a6) + 0)); omega) zx_cs0), (zx_eF1 (by show 0 ≤ (0 : Int) + (1 * a6 + 0); omega) (by show zk_xe w 2000197 ((0 : Int) + (1 * a6 + 0)) = (0 : Int) + (1 * (zk_xe w 2000197 a6) + 0); rw [show (0 : Int) + (1 * a6 + 0) = a6 by omega]; omega) zx_eF0), zx_k0⟩
def zx_D1318 : zx_L := zx_Lc [] 5 [(2000197, 0), (324, 3)] [] [((0, 0), [(0, 1, 0), (1, 0, 1), (2, 0, 4294967296)]), ((1, 0), [(2, 0, 1), (3, 1, 0)]), ((0, 0), [(3, 0, 4294967296), (4, 1, 0), (6, 0, 1)])] [((0, 0), [(1, 1, 0)]), ((4294967276, 0), [(1, 0, 1)]), ((0, 0), [(2, 1, 0)]), ((4294967276, 0), [(2, 0, 1)]), ((0, 2), [(2, 1, 0)]), ((40, 0), [(2, 0, 1)]), ((0, 0), [(6, 1, 0)]), ((48000, 0), [(6, 0, 1)])] [([(0, 40)], [((0, 0), [(5, 1, 0), (7, 0, 1)])], [(2000197, ((0, 0), [(4, 1, 0)]), ((0, 0), [(7, 1, 0)]))], [])]
theorem zx_D1318_ok {PT : Nat → zz_W → Prop} : zx_Lok 64 zHT PT zx_D1318 := by
  refine zx_Lc_ok (fun w hI hK ins hl hr he hg => ?_)
  obtain ⟨a0, a1, a2, a3, a4, rfl⟩ := zx_i5 hl
  have e0 : (0 : Int) + (1 * a0 + ((-1) * a1 + ((-4294967296) * a2 + 0))) = 0 := he _ List.mem_cons_self
  have e1 : (1 : Int) + ((-1) * a2 + (1 * a3 + 0)) = 0 := he _ (List.mem_cons_of_mem _ List.mem_cons_self)
  have e2 : (0 : Int) + ((-4294967296) * a3 + (1 * a4 + ((-1) * (zk_xe w 324 a3) + 0))) = 0 := he _ (List.mem_cons_of_mem _ (List.mem_cons_of_mem _ List.mem_cons_self))
  have g0 : 0 ≤ (0 : Int) + (1 * a1 + 0) := hg _ List.mem_cons_self
  have g1 : 0 ≤ (4294967276 : Int) + ((-1) * a1 + 0) := hg _ (List.mem_cons_of_mem _ List.mem_cons_self)
  have g2 : 0 ≤ (0 : Int) + (1 * a2 + 0) := hg _ (List.mem_cons_of_mem _ (List.mem_cons_of_mem _ List.mem_cons_self))
  have g3 : 0 ≤ (4294967276 : Int) + ((-1) * a2 + 0) := hg _ (List.mem_cons_of_mem _ (List.mem_cons_of_mem _ (List.mem_cons_of_mem _ List.mem_cons_self)))
  have g4 : 0 ≤ ((-2) : Int) + (1 * a2 + 0) := hg _ (List.mem_cons_of_mem _ (List.mem_cons_of_mem _ (List.mem_cons_of_mem _ (List.mem_cons_of_mem _ List.mem_cons_self))))
  have g5 : 0 ≤ (40 : Int) + ((-1) * a2 + 0) := hg _ (List.mem_cons_of_mem _ (List.mem_cons_of_mem _ (List.mem_cons_of_mem _ (List.mem_cons_of_mem _ (List.mem_cons_of_mem _ List.mem_cons_self)))))
  have g6 : 0 ≤ (0 : Int) + (1 * (zk_xe w 324 a3) + 0) := hg _ (List.mem_cons_of_mem _ (List.mem_cons_of_mem _ (List.mem_cons_of_mem _ (List.mem_cons_of_mem _ (List.mem_cons_of_mem _ (List.mem_cons_of_mem _ List.mem_cons_self))))))
  have g7 : 0 ≤ (48000 : Int) + ((-1) * (zk_xe w 324 a3) + 0) := hg _ (List.mem_cons_of_mem _ (List.mem_cons_of_mem _ (List.mem_cons_of_mem _ (List.mem_cons_of_mem _ (List.mem_cons_of_mem _ (List.mem_cons_of_mem _ (List.mem_cons_of_mem _ List.mem_cons_self)))))))
  have r0 : 0 ≤ a0 := hr _ List.mem_cons_self
  have r1 : 0 ≤ a3 := hr _ (List.mem_cons_of_mem _ List.mem_cons_self)
  have kT : zh_e w 324 (a2 - 1) = zk_xe w 324 (a3) := by rw [zk_xe_r (i := 324) (by decide)]; show zk_el w 324 (a2 - 1) = zk_el w 324 (a3); rw [show a2 - 1 = a3 by omega]
  have h0 := (zfw_197 (w := w) (j := a0) (t := a1) (u := a2) (by omega) (by omega) (by omega) (by omega) (by omega) )
  have h1 := (zfw_197 (w := w) (j := a4) (t := (zk_xe w 324 a3)) (u := a3) (by omega) (by omega) (by omega) (by omega) (by omega) )
  have hb := zfw_wb (f := (zh_e w 208)) (s := (zh_e w 207)) (T := (zh_e w 324)) (t := zk_xe w 324 a3) (u := a3) (by omega) (by omega)
  rw [← h1] at hb
  have hz := zfw_b (P := zfw_p (zh_e w 208) (zh_e w 207) a1)
  have hs := zfw_s1 (f := (zh_e w 208)) (s := (zh_e w 207)) (T := (zh_e w 324)) (u := a2) (by omega)
  rw [kT, show a2 - 1 - 1 = a3 - 1 by omega] at hs
  have hm : zk_xe w 2000197 a4 ≤ zk_xe w 2000197 a0 := by
    rw [h0, h1]
    unfold zfw_w
    omega
  exact ⟨_, List.mem_cons_self, [zk_xe w 2000197 a4], rfl, (zx_bcons (by show (0 : Int) ≤ zk_xe w 2000197 a4 ∧ zk_xe w 2000197 a4 ≤ (40 : Int); omega) zx_bnil), (zx_cs1 (by show 0 ≤ (0 : Int) + (1 * (zk_xe w 2000197 a0) + ((-1) * (zk_xe w 2000197 a4) + 0)); omega) zx_cs0), (zx_eF1 (by show 0 ≤ (0 : Int) + (1 * a4 + 0); omega) (by show zk_xe w 2000197 ((0 : Int) + (1 * a4 + 0)) = (0 : Int) + (1 * (zk_xe w 2000197 a4) + 0); rw [show (0 : Int) + (1 * a4 + 0) = a4 by omega]; omega) zx_eF0), zx_k0⟩
def zx_D1319 : zx_L := zx_Lc [] 11 [(2000193, 0), (2000192, 3), (2000176, 3), (2000190, 3), (208, 1), (324, 2), (2000189, 5), (215, 6), (217, 6), (2000197, 9)] [] [((0, 0), [(0, 1, 0), (1, 0, 1), (2, 0, 4294967296), (3, 0, 18446744073709551616)]), ((0, 1), [(11, 1, 0)]), ((0, 1), [(12, 1, 0)]), ((0, 1), [(13, 1, 0)]), ((0, 1), [(14, 1, 0)]), ((0, 1), [(1, 0, 1), (16, 1, 0)]), ((0, 0), [(3, 0, 18446744073709551616), (4, 0, 4294967296), (5, 1, 0), (8, 0, 1)]), ((0, 0), [(6, 0, 1), (17, 1, 0)]), ((0, 0), [(1, 0, 1), (2, 0, 4294967296), (9, 1, 0)]), ((0, 4294967297), [(2, 0, 4294967296), (7, 0, 8000), (10, 1, 0), (19, 0, 1)])] [((0, 0), [(1, 1, 0)]), ((4294967276, 0), [(1, 0, 1)]), ((0, 0), [(2, 1, 0)]), ((4294967276, 0), [(2, 0, 1)]), ((0, 0), [(3, 1, 0)]), ((4294967276, 0), [(3, 0, 1)]), ((0, 1), [(2, 1, 0)]), ((40, 0), [(2, 0, 1)]), ((0, 0), [(4, 1, 0)]), ((4294967276, 0), [(4, 0, 1)]), ((0, 0), [(8, 1, 0)]), ((4294967276, 0), [(8, 0, 1)]), ((0, 8), [(15, 1, 0)]), ((8, 0), [(15, 0, 1)]), ((0, 1), [(3, 1, 0), (8, 0, 1)]), ((0, 0), [(6, 1, 0)]), ((0, 3), [(18, 1, 0)]), ((0, 0), [(6, 1, 0), (7, 0, 64)]), ((63, 0), [(6, 0, 1), (7, 64, 0)]), ((39, 0), [(2, 0, 1)]), ((6, 0), [(3, 0, 1)])] [([(0, 40)], [((0, 0), [(20, 1, 0), (21, 0, 1)])], [(2000197, ((0, 0), [(10, 1, 0)]), ((0, 0), [(21, 1, 0)]))], [])]
theorem zx_D1319_ok {PT : Nat → zz_W → Prop} : zx_Lok 64 zHT PT zx_D1319 := by
  refine zx_Lc_ok (fun w hI hK ins hl hr he hg => ?_)
  obtain ⟨a0, a1, a2, a3, a4, a5, a6, a7, a8, a9, a10, rfl⟩ := zx_i11 hl
  have e0 : (0 : Int) + (1 * a0 + ((-1) * a1 + ((-4294967296) * a2 + ((-18446744073709551616) * a3 + 0)))) = 0 := he _ List.mem_cons_self
  have e1 : ((-1) : Int) + (1 * (zk_xe w 2000193 a0) + 0) = 0 := he _ (List.mem_cons_of_mem _ List.mem_cons_self)
  have e2 : ((-1) : Int) + (1 * (zk_xe w 2000192 a3) + 0) = 0 := he _ (List.mem_cons_of_mem _ (List.mem_cons_of_mem _ List.mem_cons_self))
  have e3 : ((-1) : Int) + (1 * (zk_xe w 2000176 a3) + 0) = 0 := he _ (List.mem_cons_of_mem _ (List.mem_cons_of_mem _ (List.mem_cons_of_mem _ List.mem_cons_self)))
  have e4 : ((-1) : Int) + (1 * (zk_xe w 2000190 a3) + 0) = 0 := he _ (List.mem_cons_of_mem _ (List.mem_cons_of_mem _ (List.mem_cons_of_mem _ (List.mem_cons_of_mem _ List.mem_cons_self))))
  have e5 : ((-1) : Int) + ((-1) * a1 + (1 * (zk_xe w 324 a2) + 0)) = 0 := he _ (List.mem_cons_of_mem _ (List.mem_cons_of_mem _ (List.mem_cons_of_mem _ (List.mem_cons_of_mem _ (List.mem_cons_of_mem _ List.mem_cons_self)))))
  have e6 : (0 : Int) + ((-18446744073709551616) * a3 + ((-4294967296) * a4 + (1 * a5 + ((-1) * a8 + 0)))) = 0 := he _ (List.mem_cons_of_mem _ (List.mem_cons_of_mem _ (List.mem_cons_of_mem _ (List.mem_cons_of_mem _ (List.mem_cons_of_mem _ (List.mem_cons_of_mem _ List.mem_cons_self))))))
  have e7 : (0 : Int) + ((-1) * a6 + (1 * (zk_xe w 2000189 a5) + 0)) = 0 := he _ (List.mem_cons_of_mem _ (List.mem_cons_of_mem _ (List.mem_cons_of_mem _ (List.mem_cons_of_mem _ (List.mem_cons_of_mem _ (List.mem_cons_of_mem _ (List.mem_cons_of_mem _ List.mem_cons_self)))))))
  have e8 : (0 : Int) + ((-1) * a1 + ((-4294967296) * a2 + (1 * a9 + 0))) = 0 := he _ (List.mem_cons_of_mem _ (List.mem_cons_of_mem _ (List.mem_cons_of_mem _ (List.mem_cons_of_mem _ (List.mem_cons_of_mem _ (List.mem_cons_of_mem _ (List.mem_cons_of_mem _ (List.mem_cons_of_mem _ List.mem_cons_self))))))))
  have e9 : ((-4294967297) : Int) + ((-4294967296) * a2 + ((-8000) * a7 + (1 * a10 + ((-1) * (zk_xe w 217 a6) + 0)))) = 0 := he _ (List.mem_cons_of_mem _ (List.mem_cons_of_mem _ (List.mem_cons_of_mem _ (List.mem_cons_of_mem _ (List.mem_cons_of_mem _ (List.mem_cons_of_mem _ (List.mem_cons_of_mem _ (List.mem_cons_of_mem _ (List.mem_cons_of_mem _ List.mem_cons_self)))))))))
  have g0 : 0 ≤ (0 : Int) + (1 * a1 + 0) := hg _ List.mem_cons_self
  have g1 : 0 ≤ (4294967276 : Int) + ((-1) * a1 + 0) := hg _ (List.mem_cons_of_mem _ List.mem_cons_self)
  have g2 : 0 ≤ (0 : Int) + (1 * a2 + 0) := hg _ (List.mem_cons_of_mem _ (List.mem_cons_of_mem _ List.mem_cons_self))
  have g3 : 0 ≤ (4294967276 : Int) + ((-1) * a2 + 0) := hg _ (List.mem_cons_of_mem _ (List.mem_cons_of_mem _ (List.mem_cons_of_mem _ List.mem_cons_self)))
  have g4 : 0 ≤ (0 : Int) + (1 * a3 + 0) := hg _ (List.mem_cons_of_mem _ (List.mem_cons_of_mem _ (List.mem_cons_of_mem _ (List.mem_cons_of_mem _ List.mem_cons_self))))
  have g5 : 0 ≤ (4294967276 : Int) + ((-1) * a3 + 0) := hg _ (List.mem_cons_of_mem _ (List.mem_cons_of_mem _ (List.mem_cons_of_mem _ (List.mem_cons_of_mem _ (List.mem_cons_of_mem _ List.mem_cons_self)))))
  have g6 : 0 ≤ ((-1) : Int) + (1 * a2 + 0) := hg _ (List.mem_cons_of_mem _ (List.mem_cons_of_mem _ (List.mem_cons_of_mem _ (List.mem_cons_of_mem _ (List.mem_cons_of_mem _ (List.mem_cons_of_mem _ List.mem_cons_self))))))
  have g7 : 0 ≤ (40 : Int) + ((-1) * a2 + 0) := hg _ (List.mem_cons_of_mem _ (List.mem_cons_of_mem _ (List.mem_cons_of_mem _ (List.mem_cons_of_mem _ (List.mem_cons_of_mem _ (List.mem_cons_of_mem _ (List.mem_cons_of_mem _ List.mem_cons_self)))))))
  have g8 : 0 ≤ (0 : Int) + (1 * a4 + 0) := hg _ (List.mem_cons_of_mem _ (List.mem_cons_of_mem _ (List.mem_cons_of_mem _ (List.mem_cons_of_mem _ (List.mem_cons_of_mem _ (List.mem_cons_of_mem _ (List.mem_cons_of_mem _ (List.mem_cons_of_mem _ List.mem_cons_self))))))))
  have g9 : 0 ≤ (4294967276 : Int) + ((-1) * a4 + 0) := hg _ (List.mem_cons_of_mem _ (List.mem_cons_of_mem _ (List.mem_cons_of_mem _ (List.mem_cons_of_mem _ (List.mem_cons_of_mem _ (List.mem_cons_of_mem _ (List.mem_cons_of_mem _ (List.mem_cons_of_mem _ (List.mem_cons_of_mem _ List.mem_cons_self)))))))))
  have g10 : 0 ≤ (0 : Int) + (1 * a8 + 0) := hg _ (List.mem_cons_of_mem _ (List.mem_cons_of_mem _ (List.mem_cons_of_mem _ (List.mem_cons_of_mem _ (List.mem_cons_of_mem _ (List.mem_cons_of_mem _ (List.mem_cons_of_mem _ (List.mem_cons_of_mem _ (List.mem_cons_of_mem _ (List.mem_cons_of_mem _ List.mem_cons_self))))))))))
  have g11 : 0 ≤ (4294967276 : Int) + ((-1) * a8 + 0) := hg _ (List.mem_cons_of_mem _ (List.mem_cons_of_mem _ (List.mem_cons_of_mem _ (List.mem_cons_of_mem _ (List.mem_cons_of_mem _ (List.mem_cons_of_mem _ (List.mem_cons_of_mem _ (List.mem_cons_of_mem _ (List.mem_cons_of_mem _ (List.mem_cons_of_mem _ (List.mem_cons_of_mem _ List.mem_cons_self)))))))))))
  have g12 : 0 ≤ ((-8) : Int) + (1 * (zk_xe w 208 a1) + 0) := hg _ (List.mem_cons_of_mem _ (List.mem_cons_of_mem _ (List.mem_cons_of_mem _ (List.mem_cons_of_mem _ (List.mem_cons_of_mem _ (List.mem_cons_of_mem _ (List.mem_cons_of_mem _ (List.mem_cons_of_mem _ (List.mem_cons_of_mem _ (List.mem_cons_of_mem _ (List.mem_cons_of_mem _ (List.mem_cons_of_mem _ List.mem_cons_self))))))))))))
  have g13 : 0 ≤ (8 : Int) + ((-1) * (zk_xe w 208 a1) + 0) := hg _ (List.mem_cons_of_mem _ (List.mem_cons_of_mem _ (List.mem_cons_of_mem _ (List.mem_cons_of_mem _ (List.mem_cons_of_mem _ (List.mem_cons_of_mem _ (List.mem_cons_of_mem _ (List.mem_cons_of_mem _ (List.mem_cons_of_mem _ (List.mem_cons_of_mem _ (List.mem_cons_of_mem _ (List.mem_cons_of_mem _ (List.mem_cons_of_mem _ List.mem_cons_self)))))))))))))
  have g14 : 0 ≤ ((-1) : Int) + (1 * a3 + ((-1) * a8 + 0)) := hg _ (List.mem_cons_of_mem _ (List.mem_cons_of_mem _ (List.mem_cons_of_mem _ (List.mem_cons_of_mem _ (List.mem_cons_of_mem _ (List.mem_cons_of_mem _ (List.mem_cons_of_mem _ (List.mem_cons_of_mem _ (List.mem_cons_of_mem _ (List.mem_cons_of_mem _ (List.mem_cons_of_mem _ (List.mem_cons_of_mem _ (List.mem_cons_of_mem _ (List.mem_cons_of_mem _ List.mem_cons_self))))))))))))))
  have g15 : 0 ≤ (0 : Int) + (1 * a6 + 0) := hg _ (List.mem_cons_of_mem _ (List.mem_cons_of_mem _ (List.mem_cons_of_mem _ (List.mem_cons_of_mem _ (List.mem_cons_of_mem _ (List.mem_cons_of_mem _ (List.mem_cons_of_mem _ (List.mem_cons_of_mem _ (List.mem_cons_of_mem _ (List.mem_cons_of_mem _ (List.mem_cons_of_mem _ (List.mem_cons_of_mem _ (List.mem_cons_of_mem _ (List.mem_cons_of_mem _ (List.mem_cons_of_mem _ List.mem_cons_self)))))))))))))))
  have g16 : 0 ≤ ((-3) : Int) + (1 * (zk_xe w 215 a6) + 0) := hg _ (List.mem_cons_of_mem _ (List.mem_cons_of_mem _ (List.mem_cons_of_mem _ (List.mem_cons_of_mem _ (List.mem_cons_of_mem _ (List.mem_cons_of_mem _ (List.mem_cons_of_mem _ (List.mem_cons_of_mem _ (List.mem_cons_of_mem _ (List.mem_cons_of_mem _ (List.mem_cons_of_mem _ (List.mem_cons_of_mem _ (List.mem_cons_of_mem _ (List.mem_cons_of_mem _ (List.mem_cons_of_mem _ (List.mem_cons_of_mem _ List.mem_cons_self))))))))))))))))
  have g17 : 0 ≤ (0 : Int) + (1 * a6 + ((-64) * a7 + 0)) := hg _ (List.mem_cons_of_mem _ (List.mem_cons_of_mem _ (List.mem_cons_of_mem _ (List.mem_cons_of_mem _ (List.mem_cons_of_mem _ (List.mem_cons_of_mem _ (List.mem_cons_of_mem _ (List.mem_cons_of_mem _ (List.mem_cons_of_mem _ (List.mem_cons_of_mem _ (List.mem_cons_of_mem _ (List.mem_cons_of_mem _ (List.mem_cons_of_mem _ (List.mem_cons_of_mem _ (List.mem_cons_of_mem _ (List.mem_cons_of_mem _ (List.mem_cons_of_mem _ List.mem_cons_self)))))))))))))))))
  have g18 : 0 ≤ (63 : Int) + ((-1) * a6 + (64 * a7 + 0)) := hg _ (List.mem_cons_of_mem _ (List.mem_cons_of_mem _ (List.mem_cons_of_mem _ (List.mem_cons_of_mem _ (List.mem_cons_of_mem _ (List.mem_cons_of_mem _ (List.mem_cons_of_mem _ (List.mem_cons_of_mem _ (List.mem_cons_of_mem _ (List.mem_cons_of_mem _ (List.mem_cons_of_mem _ (List.mem_cons_of_mem _ (List.mem_cons_of_mem _ (List.mem_cons_of_mem _ (List.mem_cons_of_mem _ (List.mem_cons_of_mem _ (List.mem_cons_of_mem _ (List.mem_cons_of_mem _ List.mem_cons_self))))))))))))))))))
  have g19 : 0 ≤ (39 : Int) + ((-1) * a2 + 0) := hg _ (List.mem_cons_of_mem _ (List.mem_cons_of_mem _ (List.mem_cons_of_mem _ (List.mem_cons_of_mem _ (List.mem_cons_of_mem _ (List.mem_cons_of_mem _ (List.mem_cons_of_mem _ (List.mem_cons_of_mem _ (List.mem_cons_of_mem _ (List.mem_cons_of_mem _ (List.mem_cons_of_mem _ (List.mem_cons_of_mem _ (List.mem_cons_of_mem _ (List.mem_cons_of_mem _ (List.mem_cons_of_mem _ (List.mem_cons_of_mem _ (List.mem_cons_of_mem _ (List.mem_cons_of_mem _ (List.mem_cons_of_mem _ List.mem_cons_self)))))))))))))))))))
  have g20 : 0 ≤ (6 : Int) + ((-1) * a3 + 0) := hg _ (List.mem_cons_of_mem _ (List.mem_cons_of_mem _ (List.mem_cons_of_mem _ (List.mem_cons_of_mem _ (List.mem_cons_of_mem _ (List.mem_cons_of_mem _ (List.mem_cons_of_mem _ (List.mem_cons_of_mem _ (List.mem_cons_of_mem _ (List.mem_cons_of_mem _ (List.mem_cons_of_mem _ (List.mem_cons_of_mem _ (List.mem_cons_of_mem _ (List.mem_cons_of_mem _ (List.mem_cons_of_mem _ (List.mem_cons_of_mem _ (List.mem_cons_of_mem _ (List.mem_cons_of_mem _ (List.mem_cons_of_mem _ (List.mem_cons_of_mem _ List.mem_cons_self))))))))))))))))))))
  have r0 : 0 ≤ a0 := hr _ List.mem_cons_self
  have r1 : 0 ≤ a3 := hr _ (List.mem_cons_of_mem _ List.mem_cons_self)
  have r2 : 0 ≤ a3 := hr _ (List.mem_cons_of_mem _ (List.mem_cons_of_mem _ List.mem_cons_self))
  have r3 : 0 ≤ a3 := hr _ (List.mem_cons_of_mem _ (List.mem_cons_of_mem _ (List.mem_cons_of_mem _ List.mem_cons_self)))
  have r4 : 0 ≤ a1 := hr _ (List.mem_cons_of_mem _ (List.mem_cons_of_mem _ (List.mem_cons_of_mem _ (List.mem_cons_of_mem _ List.mem_cons_self))))
  have r5 : 0 ≤ a2 := hr _ (List.mem_cons_of_mem _ (List.mem_cons_of_mem _ (List.mem_cons_of_mem _ (List.mem_cons_of_mem _ (List.mem_cons_of_mem _ List.mem_cons_self)))))
  have r6 : 0 ≤ a5 := hr _ (List.mem_cons_of_mem _ (List.mem_cons_of_mem _ (List.mem_cons_of_mem _ (List.mem_cons_of_mem _ (List.mem_cons_of_mem _ (List.mem_cons_of_mem _ List.mem_cons_self))))))
  have r7 : 0 ≤ a6 := hr _ (List.mem_cons_of_mem _ (List.mem_cons_of_mem _ (List.mem_cons_of_mem _ (List.mem_cons_of_mem _ (List.mem_cons_of_mem _ (List.mem_cons_of_mem _ (List.mem_cons_of_mem _ List.mem_cons_self)))))))
  have r8 : 0 ≤ a6 := hr _ (List.mem_cons_of_mem _ (List.mem_cons_of_mem _ (List.mem_cons_of_mem _ (List.mem_cons_of_mem _ (List.mem_cons_of_mem _ (List.mem_cons_of_mem _ (List.mem_cons_of_mem _ (List.mem_cons_of_mem _ List.mem_cons_self))))))))
  have r9 : 0 ≤ a9 := hr _ (List.mem_cons_of_mem _ (List.mem_cons_of_mem _ (List.mem_cons_of_mem _ (List.mem_cons_of_mem _ (List.mem_cons_of_mem _ (List.mem_cons_of_mem _ (List.mem_cons_of_mem _ (List.mem_cons_of_mem _ (List.mem_cons_of_mem _ List.mem_cons_self)))))))))
  have hd := (zfy_193 (w := w) (j := a0) (t := a1) (u := a2) (n := a3) (by omega) (by omega) (by omega) (by omega) (by omega) (by omega) (by omega) ).mp (by omega)
  have hS := zfy_Sw (w := w) (n := a3) (by omega) (by omega) (by omega) (by omega) (by omega) 
  have kW : zh_e w 208 (a1) = zk_xe w 208 (a1) := by rw [zk_xe_r (i := 208) (by decide)]; rfl
  have ha := zh_b1' (zfo_190.symm.trans (show zk_xe w 2000190 a3 = 1 by omega))
  have hsh := fun v v0 v1 => (zc_176 (w := w) (j := a3) (n := a3) (by omega) (by omega) (by omega) ).mp (by omega) v v0 v1 (ha v v0 v1)
  have hD := (zfo_189 (w := w) (j := a5) (u := a8) (x := a4) (n := a3) (by omega) (by omega) (by omega) (by omega) (by omega) (by omega) (by omega) )
  obtain ⟨v, i, v0, v1, i0, i1, i2, -⟩ := zfo_dr (D := zh_e w 214) (c := zh_e w 213) (u := a8) (x := a4) (n := a3) (by omega) (by omega) (by rw [← hD]; omega)
  rw [← hD] at i2
  have hq := hsh v v0 v1
  have hc := hq.2.2.2.2.1
  have ed : a6 = 64 * v + i := by omega
  have e5 : v = a7 := by omega
  have hk := (hq.2.2.2.2.2 i i0 i1).2.2
  have hk : 3 ≤ zh_e w 215 (64 * v + i) → 0 ≤ zh_e w 217 (64 * v + i) ∧ zh_e w 217 (64 * v + i) + 1 < zh_e w 207 v ∧ zh_e w 208 (8000 * v + zh_e w 217 (64 * v + i)) = 0 := hk
  have h8 := hq.1.2
  rw [← ed, e5] at hk
  rw [e5] at h8 v0 v1
  have kK : zh_e w 215 (a6) = zk_xe w 215 (a6) := by rw [zk_xe_r (i := 215) (by decide)]; rfl
  have kP : zh_e w 217 (a6) = zk_xe w 217 (a6) := by rw [zk_xe_r (i := 217) (by decide)]; rfl
  have hk := hk (by rw [kK]; omega)
  rw [kP] at hk
  have kT : zh_e w 324 (a2) = zk_xe w 324 (a2) := by rw [zk_xe_r (i := 324) (by decide)]; rfl
  have yv : (8000 * a7 + zk_xe w 217 a6) / 8000 = a7 := by omega
  have yp : zfy_p (zh_e w 207) a3 (8000 * a7 + zk_xe w 217 a6) := ⟨by omega, by rw [yv]; exact v1, by rw [yv]; omega⟩
  have yn := zh_b0 (zfw_n hS yp (by omega) (by omega) (by omega) (by omega))
  obtain ⟨-, nv⟩ := zfy_nx hS hd.1 (by rw [kW]; omega)
  have hp := zfw_le (zfw_k (f := (zh_e w 208)) (s := (zh_e w 207)) nv (by rw [kW]; omega))
  have h0 := (zfw_197 (w := w) (j := a9) (t := a1) (u := a2) (by omega) (by omega) (by omega) (by omega) (by omega) )
  have h1 := (zfw_197 (w := w) (j := a10) (t := (8000 * a7 + zk_xe w 217 a6 + 1)) (u := (a2 + 1)) (by omega) (by omega) (by omega) (by omega) (by omega) )
  have hb := zfw_wb (f := (zh_e w 208)) (s := (zh_e w 207)) (T := (zh_e w 324)) (t := 8000 * a7 + zk_xe w 217 a6 + 1) (u := a2 + 1) (by omega) (by omega)
  rw [← h1] at hb
  have hs := zfw_s1 (f := (zh_e w 208)) (s := (zh_e w 207)) (T := (zh_e w 324)) (u := a2 + 1) (by omega)
  rw [show a2 + 1 - 1 = a2 by omega, kT, show zk_xe w 324 a2 = a1 + 1 by omega] at hs
  have hm : zk_xe w 2000197 a10 ≤ zk_xe w 2000197 a9 := by
    rw [h0, h1]
    unfold zfw_w
    rw [show a2 + 1 - 1 = a2 by omega]
    omega
  exact ⟨_, List.mem_cons_self, [zk_xe w 2000197 a10], rfl, (zx_bcons (by show (0 : Int) ≤ zk_xe w 2000197 a10 ∧ zk_xe w 2000197 a10 ≤ (40 : Int); omega) zx_bnil), (zx_cs1 (by show 0 ≤ (0 : Int) + (1 * (zk_xe w 2000197 a9) + ((-1) * (zk_xe w 2000197 a10) + 0)); omega) zx_cs0), (zx_eF1 (by show 0 ≤ (0 : Int) + (1 * a10 + 0); omega) (by show zk_xe w 2000197 ((0 : Int) + (1 * a10 + 0)) = (0 : Int) + (1 * (zk_xe w 2000197 a10) + 0); rw [show (0 : Int) + (1 * a10 + 0) = a10 by omega]; omega) zx_eF0), zx_k0⟩
def zx_D1320 : zx_L := zx_Lc [] 7 [(2000176, 0), (2000190, 0), (2000192, 0), (2000189, 3), (215, 4), (217, 4)] [] [((0, 1), [(7, 1, 0)]), ((0, 1), [(8, 1, 0)]), ((0, 1), [(9, 1, 0)]), ((0, 0), [(0, 0, 18446744073709551616), (1, 0, 1), (2, 0, 4294967296), (3, 1, 0)]), ((0, 0), [(4, 0, 1), (10, 1, 0)]), ((0, 4294967297), [(5, 0, 8000), (6, 1, 0), (12, 0, 1)])] [((0, 0), [(0, 1, 0)]), ((4294967276, 0), [(0, 0, 1)]), ((0, 0), [(1, 1, 0)]), ((4294967276, 0), [(1, 0, 1)]), ((0, 0), [(2, 1, 0)]), ((4294967276, 0), [(2, 0, 1)]), ((0, 1), [(0, 1, 0), (1, 0, 1)]), ((0, 0), [(4, 1, 0)]), ((0, 3), [(11, 1, 0)]), ((0, 0), [(4, 1, 0), (5, 0, 64)]), ((63, 0), [(4, 0, 1), (5, 64, 0)]), ((6, 0), [(0, 0, 1)])] [([], [], [(2000197, ((0, 0), [(6, 1, 0)]), ((0, 0), []))], [])]
theorem zx_D1320_ok {PT : Nat → zz_W → Prop} : zx_Lok 64 zHT PT zx_D1320 := by
  refine zx_Lc_ok (fun w hI hK ins hl hr he hg => ?_)
  obtain ⟨a0, a1, a2, a3, a4, a5, a6, rfl⟩ := zx_i7 hl
  have e0 : ((-1) : Int) + (1 * (zk_xe w 2000176 a0) + 0) = 0 := he _ List.mem_cons_self
  have e1 : ((-1) : Int) + (1 * (zk_xe w 2000190 a0) + 0) = 0 := he _ (List.mem_cons_of_mem _ List.mem_cons_self)
  have e2 : ((-1) : Int) + (1 * (zk_xe w 2000192 a0) + 0) = 0 := he _ (List.mem_cons_of_mem _ (List.mem_cons_of_mem _ List.mem_cons_self))
  have e3 : (0 : Int) + ((-18446744073709551616) * a0 + ((-1) * a1 + ((-4294967296) * a2 + (1 * a3 + 0)))) = 0 := he _ (List.mem_cons_of_mem _ (List.mem_cons_of_mem _ (List.mem_cons_of_mem _ List.mem_cons_self)))
  have e4 : (0 : Int) + ((-1) * a4 + (1 * (zk_xe w 2000189 a3) + 0)) = 0 := he _ (List.mem_cons_of_mem _ (List.mem_cons_of_mem _ (List.mem_cons_of_mem _ (List.mem_cons_of_mem _ List.mem_cons_self))))
  have e5 : ((-4294967297) : Int) + ((-8000) * a5 + (1 * a6 + ((-1) * (zk_xe w 217 a4) + 0))) = 0 := he _ (List.mem_cons_of_mem _ (List.mem_cons_of_mem _ (List.mem_cons_of_mem _ (List.mem_cons_of_mem _ (List.mem_cons_of_mem _ List.mem_cons_self)))))
  have g0 : 0 ≤ (0 : Int) + (1 * a0 + 0) := hg _ List.mem_cons_self
  have g1 : 0 ≤ (4294967276 : Int) + ((-1) * a0 + 0) := hg _ (List.mem_cons_of_mem _ List.mem_cons_self)
  have g2 : 0 ≤ (0 : Int) + (1 * a1 + 0) := hg _ (List.mem_cons_of_mem _ (List.mem_cons_of_mem _ List.mem_cons_self))
  have g3 : 0 ≤ (4294967276 : Int) + ((-1) * a1 + 0) := hg _ (List.mem_cons_of_mem _ (List.mem_cons_of_mem _ (List.mem_cons_of_mem _ List.mem_cons_self)))
  have g4 : 0 ≤ (0 : Int) + (1 * a2 + 0) := hg _ (List.mem_cons_of_mem _ (List.mem_cons_of_mem _ (List.mem_cons_of_mem _ (List.mem_cons_of_mem _ List.mem_cons_self))))
  have g5 : 0 ≤ (4294967276 : Int) + ((-1) * a2 + 0) := hg _ (List.mem_cons_of_mem _ (List.mem_cons_of_mem _ (List.mem_cons_of_mem _ (List.mem_cons_of_mem _ (List.mem_cons_of_mem _ List.mem_cons_self)))))
  have g6 : 0 ≤ ((-1) : Int) + (1 * a0 + ((-1) * a1 + 0)) := hg _ (List.mem_cons_of_mem _ (List.mem_cons_of_mem _ (List.mem_cons_of_mem _ (List.mem_cons_of_mem _ (List.mem_cons_of_mem _ (List.mem_cons_of_mem _ List.mem_cons_self))))))
  have g7 : 0 ≤ (0 : Int) + (1 * a4 + 0) := hg _ (List.mem_cons_of_mem _ (List.mem_cons_of_mem _ (List.mem_cons_of_mem _ (List.mem_cons_of_mem _ (List.mem_cons_of_mem _ (List.mem_cons_of_mem _ (List.mem_cons_of_mem _ List.mem_cons_self)))))))
  have g8 : 0 ≤ ((-3) : Int) + (1 * (zk_xe w 215 a4) + 0) := hg _ (List.mem_cons_of_mem _ (List.mem_cons_of_mem _ (List.mem_cons_of_mem _ (List.mem_cons_of_mem _ (List.mem_cons_of_mem _ (List.mem_cons_of_mem _ (List.mem_cons_of_mem _ (List.mem_cons_of_mem _ List.mem_cons_self))))))))
  have g9 : 0 ≤ (0 : Int) + (1 * a4 + ((-64) * a5 + 0)) := hg _ (List.mem_cons_of_mem _ (List.mem_cons_of_mem _ (List.mem_cons_of_mem _ (List.mem_cons_of_mem _ (List.mem_cons_of_mem _ (List.mem_cons_of_mem _ (List.mem_cons_of_mem _ (List.mem_cons_of_mem _ (List.mem_cons_of_mem _ List.mem_cons_self)))))))))
  have g10 : 0 ≤ (63 : Int) + ((-1) * a4 + (64 * a5 + 0)) := hg _ (List.mem_cons_of_mem _ (List.mem_cons_of_mem _ (List.mem_cons_of_mem _ (List.mem_cons_of_mem _ (List.mem_cons_of_mem _ (List.mem_cons_of_mem _ (List.mem_cons_of_mem _ (List.mem_cons_of_mem _ (List.mem_cons_of_mem _ (List.mem_cons_of_mem _ List.mem_cons_self))))))))))
  have g11 : 0 ≤ (6 : Int) + ((-1) * a0 + 0) := hg _ (List.mem_cons_of_mem _ (List.mem_cons_of_mem _ (List.mem_cons_of_mem _ (List.mem_cons_of_mem _ (List.mem_cons_of_mem _ (List.mem_cons_of_mem _ (List.mem_cons_of_mem _ (List.mem_cons_of_mem _ (List.mem_cons_of_mem _ (List.mem_cons_of_mem _ (List.mem_cons_of_mem _ List.mem_cons_self)))))))))))
  have r0 : 0 ≤ a0 := hr _ List.mem_cons_self
  have r1 : 0 ≤ a0 := hr _ (List.mem_cons_of_mem _ List.mem_cons_self)
  have r2 : 0 ≤ a0 := hr _ (List.mem_cons_of_mem _ (List.mem_cons_of_mem _ List.mem_cons_self))
  have r3 : 0 ≤ a3 := hr _ (List.mem_cons_of_mem _ (List.mem_cons_of_mem _ (List.mem_cons_of_mem _ List.mem_cons_self)))
  have r4 : 0 ≤ a4 := hr _ (List.mem_cons_of_mem _ (List.mem_cons_of_mem _ (List.mem_cons_of_mem _ (List.mem_cons_of_mem _ List.mem_cons_self))))
  have r5 : 0 ≤ a4 := hr _ (List.mem_cons_of_mem _ (List.mem_cons_of_mem _ (List.mem_cons_of_mem _ (List.mem_cons_of_mem _ (List.mem_cons_of_mem _ List.mem_cons_self)))))
  have hS := zfy_Sw (w := w) (n := a0) (by omega) (by omega) (by omega) (by omega) (by omega) 
  have ha := zh_b1' (zfo_190.symm.trans (show zk_xe w 2000190 a0 = 1 by omega))
  have hsh := fun v v0 v1 => (zc_176 (w := w) (j := a0) (n := a0) (by omega) (by omega) (by omega) ).mp (by omega) v v0 v1 (ha v v0 v1)
  have hD := (zfo_189 (w := w) (j := a3) (u := a1) (x := a2) (n := a0) (by omega) (by omega) (by omega) (by omega) (by omega) (by omega) (by omega) )
  obtain ⟨v, i, v0, v1, i0, i1, i2, -⟩ := zfo_dr (D := zh_e w 214) (c := zh_e w 213) (u := a1) (x := a2) (n := a0) (by omega) (by omega) (by rw [← hD]; omega)
  rw [← hD] at i2
  have hq := hsh v v0 v1
  have hc := hq.2.2.2.2.1
  have ed : a4 = 64 * v + i := by omega
  have e5 : v = a5 := by omega
  have hk := (hq.2.2.2.2.2 i i0 i1).2.2
  have hk : 3 ≤ zh_e w 215 (64 * v + i) → 0 ≤ zh_e w 217 (64 * v + i) ∧ zh_e w 217 (64 * v + i) + 1 < zh_e w 207 v ∧ zh_e w 208 (8000 * v + zh_e w 217 (64 * v + i)) = 0 := hk
  have h8 := hq.1.2
  rw [← ed, e5] at hk
  rw [e5] at h8 v0 v1
  have kK : zh_e w 215 (a4) = zk_xe w 215 (a4) := by rw [zk_xe_r (i := 215) (by decide)]; rfl
  have kP : zh_e w 217 (a4) = zk_xe w 217 (a4) := by rw [zk_xe_r (i := 217) (by decide)]; rfl
  have hk := hk (by rw [kK]; omega)
  rw [kP] at hk
  have yv : (8000 * a5 + zk_xe w 217 a4) / 8000 = a5 := by omega
  have yp : zfy_p (zh_e w 207) a0 (8000 * a5 + zk_xe w 217 a4) := ⟨by omega, by rw [yv]; exact v1, by rw [yv]; omega⟩
  have yn := zh_b0 (zfw_n hS yp (by omega) (by omega) (by omega) (by omega))
  have h1 := (zfw_197 (w := w) (j := a6) (t := (8000 * a5 + zk_xe w 217 a4 + 1)) (u := 1) (by omega) (by omega) (by omega) (by omega) (by omega) )
  have h : zk_xe w 2000197 a6 = 0 := by
    rw [h1]
    unfold zfw_w
    rw [yn]
    show (0 : Int) + 0 = 0
    rfl
  exact ⟨_, List.mem_cons_self, [], rfl, zx_bnil, zx_cs0, (zx_eF1 (by show 0 ≤ (0 : Int) + (1 * a6 + 0); omega) (by show zk_xe w 2000197 ((0 : Int) + (1 * a6 + 0)) = (0 : Int) + (0); rw [show (0 : Int) + (1 * a6 + 0) = a6 by omega]; exact h.trans (by omega)) zx_eF0), zx_k0⟩
def zx_E788 : zx_V := zx_Vc 324 [] 3 [(2000197, 0)] [((0, 0), [(2, 1, 0), (3, 0, 1), (4, 0, 4294967296)])] [((0, 0), [(3, 1, 0)]), ((4294967276, 0), [(3, 0, 1)]), ((0, 0), [(4, 1, 0)]), ((4294967276, 0), [(4, 0, 1)]), ((0, 0), [(0, 1, 0), (4, 0, 1)])] [(2000197, ((0, 0), [(2, 1, 0)]), ((0, 0), [(5, 1, 0)]))]
theorem zx_E788_ok {PT : Nat → zz_W → Prop} : zx_Vok 64 zHT PT zx_E788 := by
  refine zx_Vc_ok (fun w w' j ins hI hI' h0 hw hK hl he hg => ?_)
  obtain ⟨a0, a1, a2, rfl⟩ := zx_i3 hl
  have e0 : (0 : Int) + (1 * a0 + ((-1) * a1 + ((-4294967296) * a2 + 0))) = 0 := he _ List.mem_cons_self
  have g0 : 0 ≤ (0 : Int) + (1 * a1 + 0) := hg _ List.mem_cons_self
  have g1 : 0 ≤ (4294967276 : Int) + ((-1) * a1 + 0) := hg _ (List.mem_cons_of_mem _ List.mem_cons_self)
  have g2 : 0 ≤ (0 : Int) + (1 * a2 + 0) := hg _ (List.mem_cons_of_mem _ (List.mem_cons_of_mem _ List.mem_cons_self))
  have g3 : 0 ≤ (4294967276 : Int) + ((-1) * a2 + 0) := hg _ (List.mem_cons_of_mem _ (List.mem_cons_of_mem _ (List.mem_cons_of_mem _ List.mem_cons_self)))
  have g4 : 0 ≤ (0 : Int) + (1 * j + ((-1) * a2 + 0)) := hg _ (List.mem_cons_of_mem _ (List.mem_cons_of_mem _ (List.mem_cons_of_mem _ (List.mem_cons_of_mem _ List.mem_cons_self))))
  have h0 := (zfw_197 (w := w) (j := a0) (t := a1) (u := a2) (by omega) (by omega) (by omega) (by omega) (by omega) )
  have h1 := (zfw_197 (w := w') (j := a0) (t := a1) (u := a2) (by omega) (by omega) (by omega) (by omega) (by omega) )
  have o208 : zh_e w' 208 = zh_e w 208 := zh_e_g (hw.1 208 (by decide))
  have o207 : zh_e w' 207 = zh_e w 207 := zh_e_g (hw.1 207 (by decide))
  have h : zk_xe w' 2000197 a0 = zk_xe w 2000197 a0 := by
    rw [h0, h1, o208, o207]
    unfold zfw_w
    rw [zfw_se (T := zh_e w 324) (T' := zh_e w' 324) (k := (a2 - 1).toNat) (fun i i0 i1 => hw.2 i (by omega) (by omega))]
  exact (zx_eF1 (by show 0 ≤ (0 : Int) + (1 * a0 + 0); omega) (by show zk_xe w' 2000197 ((0 : Int) + (1 * a0 + 0)) = (0 : Int) + (1 * (zk_xe w 2000197 a0) + 0); rw [show (0 : Int) + (1 * a0 + 0) = a0 by omega]; exact h.trans (by omega)) zx_eF0)
def zx_D1330 : zx_L := zx_Lc [] 1 [] [] [] [((0, 0), [(0, 1, 0)])] [([(0, 1)], [], [(2000037, ((0, 0), [(0, 1, 0)]), ((0, 0), [(1, 1, 0)]))], [])]
theorem zx_D1330_ok {PT : Nat → zz_W → Prop} : zx_Lok 64 zHT PT zx_D1330 := by
  refine zx_Lc_ok (fun w hI hK ins hl hr he hg => ?_)
  obtain ⟨a0, rfl⟩ := zx_i1 hl
  have g0 : 0 ≤ (0 : Int) + (1 * a0 + 0) := hg _ List.mem_cons_self
  have z : zk_xe w 2000037 a0 = zh_b (zg_dr (zh_e w 61) (zh_e w 62) (zh_e w 64) a0) := rfl
  have z1 : 0 ≤ zk_xe w 2000037 a0 ∧ zk_xe w 2000037 a0 ≤ 1 := by
    rw [z]
    rcases Classical.em (zg_dr (zh_e w 61) (zh_e w 62) (zh_e w 64) a0) with h | h
    · rw [zh_b1 h]; omega
    · rw [zh_b0 h]; omega
  exact ⟨_, List.mem_cons_self, [zk_xe w 2000037 a0], rfl, (zx_bcons (by show (0 : Int) ≤ zk_xe w 2000037 a0 ∧ zk_xe w 2000037 a0 ≤ (1 : Int); omega) zx_bnil), zx_cs0, (zx_eF1 (by show 0 ≤ (0 : Int) + (1 * a0 + 0); omega) (by show zk_xe w 2000037 ((0 : Int) + (1 * a0 + 0)) = (0 : Int) + (1 * (zk_xe w 2000037 a0) + 0); rw [show (0 : Int) + (1 * a0 + 0) = a0 by omega]; omega) zx_eF0), zx_k0⟩
def zx_D1331 : zx_L := zx_Lc [] 1 [] [] [] [((0, 0), [(0, 1, 0)])] [([(0, 1)], [], [(2000038, ((0, 0), [(0, 1, 0)]), ((0, 0), [(1, 1, 0)]))], [])]
theorem zx_D1331_ok {PT : Nat → zz_W → Prop} : zx_Lok 64 zHT PT zx_D1331 := by
  refine zx_Lc_ok (fun w hI hK ins hl hr he hg => ?_)
  obtain ⟨a0, rfl⟩ := zx_i1 hl
  have g0 : 0 ≤ (0 : Int) + (1 * a0 + 0) := hg _ List.mem_cons_self
  have z : zk_xe w 2000038 a0 = zh_b (zg_dr (zh_e w 78) (zh_e w 79) (zh_e w 81) a0) := rfl
  have z1 : 0 ≤ zk_xe w 2000038 a0 ∧ zk_xe w 2000038 a0 ≤ 1 := by
    rw [z]
    rcases Classical.em (zg_dr (zh_e w 78) (zh_e w 79) (zh_e w 81) a0) with h | h
    · rw [zh_b1 h]; omega
    · rw [zh_b0 h]; omega
  exact ⟨_, List.mem_cons_self, [zk_xe w 2000038 a0], rfl, (zx_bcons (by show (0 : Int) ≤ zk_xe w 2000038 a0 ∧ zk_xe w 2000038 a0 ≤ (1 : Int); omega) zx_bnil), zx_cs0, (zx_eF1 (by show 0 ≤ (0 : Int) + (1 * a0 + 0); omega) (by show zk_xe w 2000038 ((0 : Int) + (1 * a0 + 0)) = (0 : Int) + (1 * (zk_xe w 2000038 a0) + 0); rw [show (0 : Int) + (1 * a0 + 0) = a0 by omega]; omega) zx_eF0), zx_k0⟩
def zx_D1332 : zx_L := zx_Lc [] 1 [] [] [] [((0, 0), [(0, 1, 0)])] [([(0, 1)], [], [(2000039, ((0, 0), [(0, 1, 0)]), ((0, 0), [(1, 1, 0)]))], [])]
theorem zx_D1332_ok {PT : Nat → zz_W → Prop} : zx_Lok 64 zHT PT zx_D1332 := by
  refine zx_Lc_ok (fun w hI hK ins hl hr he hg => ?_)
  obtain ⟨a0, rfl⟩ := zx_i1 hl
  have g0 : 0 ≤ (0 : Int) + (1 * a0 + 0) := hg _ List.mem_cons_self
  have z : zk_xe w 2000039 a0 = zh_b (zg_dr (zh_e w 95) (zh_e w 96) (zh_e w 98) a0) := rfl
  have z1 : 0 ≤ zk_xe w 2000039 a0 ∧ zk_xe w 2000039 a0 ≤ 1 := by
    rw [z]
    rcases Classical.em (zg_dr (zh_e w 95) (zh_e w 96) (zh_e w 98) a0) with h | h
    · rw [zh_b1 h]; omega
    · rw [zh_b0 h]; omega
  exact ⟨_, List.mem_cons_self, [zk_xe w 2000039 a0], rfl, (zx_bcons (by show (0 : Int) ≤ zk_xe w 2000039 a0 ∧ zk_xe w 2000039 a0 ≤ (1 : Int); omega) zx_bnil), zx_cs0, (zx_eF1 (by show 0 ≤ (0 : Int) + (1 * a0 + 0); omega) (by show zk_xe w 2000039 ((0 : Int) + (1 * a0 + 0)) = (0 : Int) + (1 * (zk_xe w 2000039 a0) + 0); rw [show (0 : Int) + (1 * a0 + 0) = a0 by omega]; omega) zx_eF0), zx_k0⟩
def zx_D1333 : zx_L := zx_Lc [] 1 [] [] [] [((0, 0), [(0, 1, 0)])] [([(0, 1)], [], [(2000040, ((0, 0), [(0, 1, 0)]), ((0, 0), [(1, 1, 0)]))], [])]
theorem zx_D1333_ok {PT : Nat → zz_W → Prop} : zx_Lok 64 zHT PT zx_D1333 := by
  refine zx_Lc_ok (fun w hI hK ins hl hr he hg => ?_)
  obtain ⟨a0, rfl⟩ := zx_i1 hl
  have g0 : 0 ≤ (0 : Int) + (1 * a0 + 0) := hg _ List.mem_cons_self
  have z : zk_xe w 2000040 a0 = zh_b (zg_dr (zh_e w 112) (zh_e w 113) (zh_e w 115) a0) := rfl
  have z1 : 0 ≤ zk_xe w 2000040 a0 ∧ zk_xe w 2000040 a0 ≤ 1 := by
    rw [z]
    rcases Classical.em (zg_dr (zh_e w 112) (zh_e w 113) (zh_e w 115) a0) with h | h
    · rw [zh_b1 h]; omega
    · rw [zh_b0 h]; omega
  exact ⟨_, List.mem_cons_self, [zk_xe w 2000040 a0], rfl, (zx_bcons (by show (0 : Int) ≤ zk_xe w 2000040 a0 ∧ zk_xe w 2000040 a0 ≤ (1 : Int); omega) zx_bnil), zx_cs0, (zx_eF1 (by show 0 ≤ (0 : Int) + (1 * a0 + 0); omega) (by show zk_xe w 2000040 ((0 : Int) + (1 * a0 + 0)) = (0 : Int) + (1 * (zk_xe w 2000040 a0) + 0); rw [show (0 : Int) + (1 * a0 + 0) = a0 by omega]; omega) zx_eF0), zx_k0⟩
def zx_D1334 : zx_L := zx_Lc [] 1 [] [] [] [((0, 0), [(0, 1, 0)])] [([(0, 1)], [], [(2000041, ((0, 0), [(0, 1, 0)]), ((0, 0), [(1, 1, 0)]))], [])]
theorem zx_D1334_ok {PT : Nat → zz_W → Prop} : zx_Lok 64 zHT PT zx_D1334 := by
  refine zx_Lc_ok (fun w hI hK ins hl hr he hg => ?_)
  obtain ⟨a0, rfl⟩ := zx_i1 hl
  have g0 : 0 ≤ (0 : Int) + (1 * a0 + 0) := hg _ List.mem_cons_self
  have z : zk_xe w 2000041 a0 = zh_b (zg_dr (zh_e w 129) (zh_e w 130) (zh_e w 132) a0) := rfl
  have z1 : 0 ≤ zk_xe w 2000041 a0 ∧ zk_xe w 2000041 a0 ≤ 1 := by
    rw [z]
    rcases Classical.em (zg_dr (zh_e w 129) (zh_e w 130) (zh_e w 132) a0) with h | h
    · rw [zh_b1 h]; omega
    · rw [zh_b0 h]; omega
  exact ⟨_, List.mem_cons_self, [zk_xe w 2000041 a0], rfl, (zx_bcons (by show (0 : Int) ≤ zk_xe w 2000041 a0 ∧ zk_xe w 2000041 a0 ≤ (1 : Int); omega) zx_bnil), zx_cs0, (zx_eF1 (by show 0 ≤ (0 : Int) + (1 * a0 + 0); omega) (by show zk_xe w 2000041 ((0 : Int) + (1 * a0 + 0)) = (0 : Int) + (1 * (zk_xe w 2000041 a0) + 0); rw [show (0 : Int) + (1 * a0 + 0) = a0 by omega]; omega) zx_eF0), zx_k0⟩
def zx_D1335 : zx_L := zx_Lc [] 1 [] [] [] [((0, 0), [(0, 1, 0)])] [([(0, 1)], [], [(2000042, ((0, 0), [(0, 1, 0)]), ((0, 0), [(1, 1, 0)]))], [])]
theorem zx_D1335_ok {PT : Nat → zz_W → Prop} : zx_Lok 64 zHT PT zx_D1335 := by
  refine zx_Lc_ok (fun w hI hK ins hl hr he hg => ?_)
  obtain ⟨a0, rfl⟩ := zx_i1 hl
  have g0 : 0 ≤ (0 : Int) + (1 * a0 + 0) := hg _ List.mem_cons_self
  have z : zk_xe w 2000042 a0 = zh_b (zg_dr (zh_e w 146) (zh_e w 147) (zh_e w 149) a0) := rfl
  have z1 : 0 ≤ zk_xe w 2000042 a0 ∧ zk_xe w 2000042 a0 ≤ 1 := by
    rw [z]
    rcases Classical.em (zg_dr (zh_e w 146) (zh_e w 147) (zh_e w 149) a0) with h | h
    · rw [zh_b1 h]; omega
    · rw [zh_b0 h]; omega
  exact ⟨_, List.mem_cons_self, [zk_xe w 2000042 a0], rfl, (zx_bcons (by show (0 : Int) ≤ zk_xe w 2000042 a0 ∧ zk_xe w 2000042 a0 ≤ (1 : Int); omega) zx_bnil), zx_cs0, (zx_eF1 (by show 0 ≤ (0 : Int) + (1 * a0 + 0); omega) (by show zk_xe w 2000042 ((0 : Int) + (1 * a0 + 0)) = (0 : Int) + (1 * (zk_xe w 2000042 a0) + 0); rw [show (0 : Int) + (1 * a0 + 0) = a0 by omega]; omega) zx_eF0), zx_k0⟩
def zx_D1336 : zx_L := zx_Lc [] 2 [] [] [((0, 0), [(0, 1, 0)])] [((0, 0), [(1, 1, 0)]), ((65536, 0), [(1, 0, 1)])] [([], [], [(2000169, ((0, 0), [(0, 1, 0)]), ((1, 0), [])), (2000176, ((0, 0), [(0, 1, 0)]), ((1, 0), [])), (2000182, ((0, 0), [(0, 1, 0)]), ((1, 0), [])), (2000172, ((0, 0), [(0, 1, 0), (1, 18446744073709551616, 0)]), ((1, 0), []))], [])]
theorem zx_D1336_ok {PT : Nat → zz_W → Prop} : zx_Lok 64 zHT PT zx_D1336 := by
  refine zx_Lc_ok (fun w hI hK ins hl hr he hg => ?_)
  obtain ⟨a0, a1, rfl⟩ := zx_i2 hl
  have e0 : (0 : Int) + (1 * a0 + 0) = 0 := he _ List.mem_cons_self
  have g0 : 0 ≤ (0 : Int) + (1 * a1 + 0) := hg _ List.mem_cons_self
  have g1 : 0 ≤ (65536 : Int) + ((-1) * a1 + 0) := hg _ (List.mem_cons_of_mem _ List.mem_cons_self)
  have h1 := (zj_169 (w := w) (j := a0) (by omega) (by omega)).mpr (fun u u0 u1 => absurd u1 (by omega))
  have h2 := (zc_176 (w := w) (j := a0) (n := a0) (by omega) (by omega) (by omega)).mpr (fun u u0 u1 => absurd u1 (by omega))
  have h3 := (zj_n182 (w := w) (j := a0) (n := a0) (by omega) (by omega) (by omega)).mpr (fun u u0 u1 => absurd u1 (by omega))
  have h4 := (zj_n172 (w := w) (j := a0 + 18446744073709551616 * a1) (n := a0) (N := a1) (by omega) (by omega) (by omega) (by omega) (by omega)).mpr (fun u u0 u1 => absurd u1 (by omega))
  exact ⟨_, List.mem_cons_self, [], rfl, zx_bnil, zx_cs0, (zx_eF1 (by show 0 ≤ (0 : Int) + (1 * a0 + 0); omega) (by show zk_xe w 2000169 ((0 : Int) + (1 * a0 + 0)) = (1 : Int) + (0); rw [show (0 : Int) + (1 * a0 + 0) = a0 by omega]; omega) (zx_eF1 (by show 0 ≤ (0 : Int) + (1 * a0 + 0); omega) (by show zk_xe w 2000176 ((0 : Int) + (1 * a0 + 0)) = (1 : Int) + (0); rw [show (0 : Int) + (1 * a0 + 0) = a0 by omega]; omega) (zx_eF1 (by show 0 ≤ (0 : Int) + (1 * a0 + 0); omega) (by show zk_xe w 2000182 ((0 : Int) + (1 * a0 + 0)) = (1 : Int) + (0); rw [show (0 : Int) + (1 * a0 + 0) = a0 by omega]; omega) (zx_eF1 (by show 0 ≤ (0 : Int) + (1 * a0 + (18446744073709551616 * a1 + 0)); omega) (by show zk_xe w 2000172 ((0 : Int) + (1 * a0 + (18446744073709551616 * a1 + 0))) = (1 : Int) + (0); rw [show (0 : Int) + (1 * a0 + (18446744073709551616 * a1 + 0)) = a0 + 18446744073709551616 * a1 by omega]; omega) zx_eF0)))), zx_k0⟩
end
