/-! a contract over rows of which less is said, over more; of methods that throw -/
theorem zk_J_less {HU HT : List (List zk_H)} {x : Nat} {M : zk_M} {w v : zz_W} {V : List (Nat × Int)} (h : zk_less HU HT x = true) (hm : M.1.all (fun p => !(Nat.beq p.1 x)) = true) (g6 : zk_I 64 HT w) (p6 : zk_J 64 HU M (w, V) v) : zk_J 64 HT M (w, V) v := by
  refine ⟨⟨p6.1.1, p6.1.2.1, p6.1.2.2.1, fun i h9 => ?_⟩, p6.2⟩
  rcases zk_less_at (i := i) h with ⟨-, e⟩ | ⟨e0, e1, e2⟩ | ⟨-, e⟩
  · rw [← e]
    exact p6.1.2.2.2 i (by rw [e]; exact h9)
  · have e3 : ∀ n : Nat, (i, n) ∉ M.1 := fun n hn => by
      have := List.all_eq_true.mp hm _ hn
      rw [show ((i, n) : Nat × Nat).1 = x from e0, Nat.beq_refl] at this
      cases this
    obtain ⟨j1, j2⟩ := g6.2.2.2 i h9
    have e4 := (p6.2.1.2 i (e3 999) j1 (by
      show (zz_g w i).1 ≠ 3
      have := j2.1
      omega)).1 (e3 998)
    have e4 : zz_g v i = zz_g w i := e4
    rw [e4]
    exact ⟨Nat.lt_of_lt_of_le j1 p6.2.2.1, j2⟩
  · exact absurd e h9
section ZLP
variable {l : Launch} {Ts : List Cond} {D : va_G} {cl : List vw_C} {fk : Nat → Nat → Nat} {cy : Nat → ClassId} {z0 : Nat} {sp : Nat → Nat} {tys : List (ClassId × FieldType)} {G : State → Prop}
variable {yn : Nat → MethodName} {cn : Nat → ByteArray} {ml : Nat → Nat} {rt : Nat → Option FieldType}
theorem zk_liftP {HU HT : List (List zk_H)} {PT : Nat → zz_W → Prop} {x y : Nat} {q : zk_Ct} {nx : Bool} {L : List Nat} {XE : Nat → String × Nat} (h : zk_less HU HT x = true) (hm : q.2.2.1.1.all (fun p => !(Nat.beq p.1 x)) = true) (hq : zk_PX l Ts D cl fk cy z0 sp tys G yn cn ml rt 64 HU PT y q nx L XE) : zk_PX l Ts D cl fk cy z0 sp tys G yn cn ml rt 64 HT PT y q nx L XE := by
  intro d as w s hd h5 hw hG
  obtain ⟨⟨g1, g2, g3, g4, g5, g6⟩, ge, gk⟩ := hG
  have g6 : zk_I 64 HT w := g6
  obtain ⟨v, s', Q, hQ, k1, k2, hM, hs'⟩ := hq d as w s hd h5 hw ⟨⟨g1, g2, g3, g4, g5, zk_I_less h g6⟩, ge, gk⟩
  refine ⟨v, s', Q, hQ, k1, k2, ?_, hs'⟩
  rcases hM with ⟨e, rv, m1, m2, m3⟩ | ⟨pc, p1, p2, p3⟩
  · obtain ⟨⟨a1, a2, a3, a4, a5, a6⟩, pe, pk⟩ := m2
    exact Or.inl ⟨e, rv, m1, ⟨⟨a1, a2, a3, a4, a5, zk_J_less h hm g6 a6⟩, pe, pk⟩, m3⟩
  · obtain ⟨⟨a1, a2, a3, a4, a5, a6⟩, pe, pk⟩ := p3
    exact Or.inr ⟨pc, p1, p2, ⟨⟨a1, a2, a3, a4, a5, zk_J_less h hm g6 a6⟩, pe, pk⟩⟩
end ZLP
