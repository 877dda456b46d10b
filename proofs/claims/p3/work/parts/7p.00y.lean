/-! what is owed -/
/-! owed: X12_showName -/
noncomputable def zQ_102 : zk_Ct := ((([], [(2, 171, ((0, 0), [])), (0, 0, ((0, 0), [(0, 1, 0)]))], [((171, 222), (0, 0, ((0, 0), [(1, 1, 0)])))], [(8, 124), (0, 54)], []), [], [202]), [(([], [], [((171, 222), (0, 0, ((0, 0), [(2, 1, 0)])))], [(8, 124), (0, 54), (0, 64)], [((0, 0), [(1, 0, 1), (2, 1, 0)]), ((10, 0), [(1, 1, 0), (2, 0, 1)])]), [], [202])], ([(171, 222), (319, 999)], []), 6)
/-- what is owed: contracts that are shown by hand -/
noncomputable def zWl : List (Nat × zk_Ct) := [(102, zQ_102)]
def zW (l : Launch) (D : va_G) (cy : Nat → ClassId) (z0 : Nat) (sp : Nat → Nat) (G : State → Prop) : Prop := ∀ p ∈ zWl, zk_Con l zTs D zcl zFK cy z0 sp (zTys cy) G zYN zCN zMQ zRT 64 zHT zPT p.1 p.2
theorem zW_102 {l : Launch} {D : va_G} {cy : Nat → ClassId} {z0 : Nat} {sp : Nat → Nat} {G : State → Prop} (h : zW l D cy z0 sp G) : zk_Con l zTs D zcl zFK cy z0 sp (zTys cy) G zYN zCN zMQ zRT 64 zHT zPT 102 zQ_102 := h (102, zQ_102) List.mem_cons_self
