/-! a long call, run by the kernel: 35386 steps -/
set_option maxRecDepth 100000 in
theorem zrv1 : zz_endv (zz_rn (zP 112) (zMQ 112) (zz_memo [] (zz_cl zP zMQ 467)) [.ref 4, .ref 1000124] zV1) [] zX1 = true := by decide +kernel
theorem zRv1 : zz_cl zP zMQ 468 112 [.ref 4, .ref 1000124] zV1 = some ([], zX1) := zz_cl_memo (d := 467) ((fun _ h => absurd h List.not_mem_nil)) zrv1
