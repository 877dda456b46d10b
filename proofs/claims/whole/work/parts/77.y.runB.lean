/-! a long call, run by the kernel: ToolMillModel() -/
set_option maxRecDepth 100000 in
theorem zr2 : zz_endv (zz_rn (zP 1) (zMQ 1) (zz_memo [] (zz_cl zP zMQ 15)) [.ref 171] zWb) [] zW2 = true := by decide +kernel
theorem zR2 : zz_cl zP zMQ 16 1 [.ref 171] zWb = some ([], zW2) := zz_cl_memo (d := 15) ((fun _ h => absurd h List.not_mem_nil)) zr2
