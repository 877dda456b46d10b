/-! a long call, run by the kernel: 3244 steps -/
set_option maxRecDepth 100000 in
theorem zrv24 : zz_endv (zz_rn (zP 201) (zMQ 201) (zz_memo [] (zz_cl zP zMQ 466)) [.ref 171] zV24) [] zX24 = true := by decide +kernel
theorem zRv24 : zz_cl zP zMQ 467 201 [.ref 171] zV24 = some ([], zX24) := zz_cl_memo (d := 466) ((fun _ h => absurd h List.not_mem_nil)) zrv24
