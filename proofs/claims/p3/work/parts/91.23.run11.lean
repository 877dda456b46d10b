/-! a long call, run by the kernel: 7760 steps -/
set_option maxRecDepth 100000 in
theorem zrv11 : zz_endv (zz_rn (zP 199) (zMQ 199) (zz_memo [] (zz_cl zP zMQ 466)) [.ref 171] zV11) [] zX11 = true := by decide +kernel
theorem zRv11 : zz_cl zP zMQ 467 199 [.ref 171] zV11 = some ([], zX11) := zz_cl_memo (d := 466) ((fun _ h => absurd h List.not_mem_nil)) zrv11
