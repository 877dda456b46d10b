/-! a long call, run by the kernel: 3786 steps -/
set_option maxRecDepth 100000 in
theorem zrv14 : zz_endv (zz_rn (zP 201) (zMQ 201) (zz_memo [] (zz_cl zP zMQ 466)) [.ref 171] zV14) [] zX14 = true := by decide +kernel
theorem zRv14 : zz_cl zP zMQ 467 201 [.ref 171] zV14 = some ([], zX14) := zz_cl_memo (d := 466) ((fun _ h => absurd h List.not_mem_nil)) zrv14
