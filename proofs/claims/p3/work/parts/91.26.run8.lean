/-! a long call, run by the kernel: 9535 steps -/
set_option maxRecDepth 100000 in
theorem zrv8 : zz_endv (zz_rn (zP 76) (zMQ 76) (zz_memo [] (zz_cl zP zMQ 468)) [.ref 171] zV8) [] zX8 = true := by decide +kernel
theorem zRv8 : zz_cl zP zMQ 469 76 [.ref 171] zV8 = some ([], zX8) := zz_cl_memo (d := 468) ((fun _ h => absurd h List.not_mem_nil)) zrv8
