/-! a long call, run by the kernel: ToolMill.forget() -/
set_option maxRecDepth 100000 in
theorem zrf1 : zz_endv (zz_rn (zP 2) (zMQ 2) (zz_memo [] (zz_cl zP zMQ 15)) [.ref 0] zW3) [] zW4 = true := by decide +kernel
theorem zRf1 : zz_cl zP zMQ 16 2 [.ref 0] zW3 = some ([], zW4) := zz_cl_memo (d := 15) ((fun _ h => absurd h List.not_mem_nil)) zrf1
set_option maxRecDepth 100000 in
theorem zrf2 : zz_endv (zz_rn (zP 3) (zMQ 3) (zz_memo [] (zz_cl zP zMQ 15)) [.ref 171] zW4) [] zW5 = true := by decide +kernel
theorem zRf2 : zz_cl zP zMQ 16 3 [.ref 171] zW4 = some ([], zW5) := zz_cl_memo (d := 15) ((fun _ h => absurd h List.not_mem_nil)) zrf2
