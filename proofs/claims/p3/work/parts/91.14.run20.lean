/-! a long call, run by the kernel: 2350 steps -/
set_option maxRecDepth 100000 in
theorem zrv20 : zz_endv (zz_rn (zP 201) (zMQ 201) (zz_memo [] (zz_cl zP zMQ 466)) [.ref 171] zV20) [] zX20 = true := by decide +kernel
theorem zRv20 : zz_cl zP zMQ 467 201 [.ref 171] zV20 = some ([], zX20) := zz_cl_memo (d := 466) ((fun _ h => absurd h List.not_mem_nil)) zrv20
