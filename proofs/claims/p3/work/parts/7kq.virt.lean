/-! the virtual rows of this program (written by program) -/
noncomputable section
/-- rows; cases: conditions, value: sums over place, elements there, parameter; the first case that holds counts -/
abbrev zv_Sp : Type := List Nat × List (List zl_E × zl_E)
def zv_T (t : Nat) : zv_Sp := match t with
  | _ => ([], [])
end
