/-! a long call, run by the kernel: 18649 steps -/
set_option maxRecDepth 100000 in
theorem zrv6 : zz_endv (zz_rn (zP 112) (zMQ 112) (zz_memo [] (zz_cl zP zMQ 467)) [.ref 4, .ref 1000134] zV6) [] zX6 = true := by decide +kernel
theorem zRv6 : zz_cl zP zMQ 468 112 [.ref 4, .ref 1000134] zV6 = some ([], zX6) := zz_cl_memo (d := 467) ((fun _ h => absurd h List.not_mem_nil)) zrv6
