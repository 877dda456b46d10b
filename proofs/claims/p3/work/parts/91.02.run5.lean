/-! a long call, run by the kernel: 20063 steps -/
set_option maxRecDepth 100000 in
theorem zrv5 : zz_endv (zz_rn (zP 112) (zMQ 112) (zz_memo [] (zz_cl zP zMQ 467)) [.ref 4, .ref 1000132] zV5) [] zX5 = true := by decide +kernel
theorem zRv5 : zz_cl zP zMQ 468 112 [.ref 4, .ref 1000132] zV5 = some ([], zX5) := zz_cl_memo (d := 467) ((fun _ h => absurd h List.not_mem_nil)) zrv5
