/-! a long call, run by the kernel: 3069 steps -/
set_option maxRecDepth 100000 in
theorem zrv22 : zz_endv (zz_rn (zP 201) (zMQ 201) (zz_memo [] (zz_cl zP zMQ 466)) [.ref 171] zV22) [] zX22 = true := by decide +kernel
theorem zRv22 : zz_cl zP zMQ 467 201 [.ref 171] zV22 = some ([], zX22) := zz_cl_memo (d := 466) ((fun _ h => absurd h List.not_mem_nil)) zrv22
