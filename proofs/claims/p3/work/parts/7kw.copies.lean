/-! A ROW IS COPIED INTO: what stays known -/
noncomputable section
def zk_w5 (HT : List (List zk_H)) (SU : Nat → List (Nat × Nat)) (X : zk_St) (n : Nat) (o : Option zk_A) : Option (List (Nat × zk_St)) := match o with
  | some A => some [(n, (A, X.2.1.filter (fun x => (zk_rws x.1).all (fun r => !(Nat.beq r (zk_tgc X.1)))), zk_ofc SU X.2.2 (zk_tgc X.1)))]
  | none => none
theorem zk_w5_ok {c : Nat} {HT : List (List zk_H)} {M : zk_M} {w0 : zk_W0} {PT : Nat → zz_W → Prop} {SU : Nat → List (Nat × Nat)} {TS : zk_TY} (hTT : zk_TT c HT PT SU TS) {act : zz_A} {X : zk_St} {n : Nat} {o : Option zk_A} {R : List (Nat × zk_St)} (h : zk_w5 HT SU X n o = some R) (hk : ∀ A, o = some A → zk_SW c HT M w0 act n X.1 A (fun _ w w' => ∀ a, a ≠ zk_tgc X.1 → zz_g w' a = zz_g w a)) : zk_R2 PT c HT M w0 act X R := by
  obtain ⟨A0, E, Tk⟩ := X
  unfold zk_w5 at h
  split at h
  · rename_i A
    cases h
    obtain ⟨e1, e2⟩ := hk A rfl
    intro K s f hpv hG
    obtain ⟨g1, k1, k2⟩ := hG
    obtain ⟨f', m1, m2, m3, m4⟩ := e2 K s f hpv g1
    have e1 : A0.2.2.2.1 = A.2.2.2.1 := e1
    have m4 : ∀ a, a ≠ zk_tgc A0 → zz_g f'.2.2.2 a = zz_g f.2.2.2 a := m4
    have hE' : zk_eF s (E.filter (fun x => (zk_rws x.1).all (fun r => !(Nat.beq r (zk_tgc A0))))) f'.2.2.2 := by
      intro y hy
      obtain ⟨y1, y2⟩ := List.mem_filter.mp hy
      have h1 := k1 y y1
      have h2 := zk_xe_g (w := f.2.2.2) (w' := f'.2.2.2) (i := y.1) (j := zl_ev s y.2.1) (fun r hr => m4 r (zk_nbeq (List.all_eq_true.mp y2 r hr)))
      exact ⟨h1.1, h2.trans h1.2⟩
    refine ⟨s, f', (n, (A, E.filter (fun x => (zk_rws x.1).all (fun r => !(Nat.beq r (zk_tgc A0)))), zk_ofc SU Tk (zk_tgc A0))), m1, List.mem_cons_self, m2, ⟨m3, hE', fun t ht => ?_⟩, Nat.le_of_eq (congrArg List.length e1), fun _ _ => rfl⟩
    obtain ⟨t1, t3⟩ := zk_ofc_ok ht
    refine hTT.1 t f.2.2.2 f'.2.2.2 g1.2.2.2.2.2.1 m3.2.2.2.2.2.1 (fun q hq h9 => ?_) (fun q hq h9 => ?_) (k2 t t1)
    · unfold zk_fd
      rw [m4 q.1 (t3 q hq)]
    · exact m4 q.1 (t3 q hq)
  · cases h
end
