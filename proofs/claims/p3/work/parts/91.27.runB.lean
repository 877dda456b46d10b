/-! a long call, run by the kernel: ToolMillModel() -/
theorem zEm8 : zz_cl zP zMQ 469 zE8.1 zE8.2.1 zE8.2.2.1 = some (zE8.2.2.2.1, zE8.2.2.2.2) := by
  unfold zE8
  exact zRv8
theorem zEm9 : zz_cl zP zMQ 469 zE9.1 zE9.2.1 zE9.2.2.1 = some (zE9.2.2.2.1, zE9.2.2.2.2) := by
  unfold zE9
  exact zRv9
set_option maxRecDepth 100000 in
theorem zr2 : zz_endv (zz_rn (zP 24) (zMQ 24) (zz_memo [zE8, zE9] (zz_cl zP zMQ 469)) [.ref 171] zWb) [] zW2 = true := by decide +kernel
set_option maxRecDepth 100000 in
theorem zR2 : zz_cl zP zMQ 470 24 [.ref 171] zWb = some ([], zW2) := zz_cl_memo (d := 469) (List.forall_mem_cons.mpr ⟨zEm8, List.forall_mem_cons.mpr ⟨zEm9, (fun _ h => absurd h List.not_mem_nil)⟩⟩) zr2
