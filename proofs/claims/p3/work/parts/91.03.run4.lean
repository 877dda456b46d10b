/-! a long call, run by the kernel: 5618 steps -/
set_option maxRecDepth 100000 in
theorem zrv4 : zz_endv (zz_rn (zP 112) (zMQ 112) (zz_memo [] (zz_cl zP zMQ 467)) [.ref 4, .ref 1000130] zV4) [] zX4 = true := by decide +kernel
theorem zRv4 : zz_cl zP zMQ 468 112 [.ref 4, .ref 1000130] zV4 = some ([], zX4) := zz_cl_memo (d := 467) ((fun _ h => absurd h List.not_mem_nil)) zrv4
