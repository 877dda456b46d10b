/-! CONTRACTS by a list -/
noncomputable section
def zk_ctl (l : List (Nat × zk_Ct)) (y : Nat) : Option zk_Ct := match l with
  | [] => none
  | p :: r => cond (Nat.beq p.1 y) (some p.2) (zk_ctl r y)
theorem zk_ctl_mem {y : Nat} {q : zk_Ct} : ∀ {l : List (Nat × zk_Ct)}, zk_ctl l y = some q → (y, q) ∈ l
  | [], h => by cases h
  | p :: r, h => by
    unfold zk_ctl at h
    cases hb : Nat.beq p.1 y with
    | true =>
      rw [hb] at h
      cases h
      rw [← zz_beq hb]
      exact List.mem_cons_self
    | false =>
      rw [hb] at h
      exact List.mem_cons_of_mem _ (zk_ctl_mem h)
end
