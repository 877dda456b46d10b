/-! a long call, run by the kernel: ToolMill() -/
theorem zEm0 : zz_cl zP zMQ 469 zE0.1 zE0.2.1 zE0.2.2.1 = some (zE0.2.2.2.1, zE0.2.2.2.2) := by
  unfold zE0
  exact zRv0
theorem zEm7 : zz_cl zP zMQ 469 zE7.1 zE7.2.1 zE7.2.2.1 = some (zE7.2.2.2.1, zE7.2.2.2.2) := by
  unfold zE7
  exact zRv7
set_option maxRecDepth 100000 in
theorem zr1 : zz_endv (zz_rn (zP 0) (zMQ 0) (zz_memo [zE0, zE7] (zz_cl zP zMQ 469)) [.ref 0] zWa) [] zW1 = true := by decide +kernel
set_option maxRecDepth 100000 in
theorem zR1 : zz_cl zP zMQ 470 0 [.ref 0] zWa = some ([], zW1) := zz_cl_memo (d := 469) (List.forall_mem_cons.mpr ⟨zEm0, List.forall_mem_cons.mpr ⟨zEm7, (fun _ h => absurd h List.not_mem_nil)⟩⟩) zr1
