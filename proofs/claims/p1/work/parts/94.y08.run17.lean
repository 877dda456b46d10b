/-! a long call, run by the kernel: 1691 steps -/
set_option maxRecDepth 100000 in
theorem zrv17 : zz_endv (zz_rn (zP 118) (zMQ 118) (zz_memo [] (zz_cl zP zMQ 12)) [.ref 171] zV17) [] zX17 = true := by decide +kernel
theorem zRv17 : zz_cl zP zMQ 13 118 [.ref 171] zV17 = some ([], zX17) := zz_cl_memo (d := 12) ((fun _ h => absurd h List.not_mem_nil)) zrv17
