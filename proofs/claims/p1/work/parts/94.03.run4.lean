/-! a long call, run by the kernel: 5618 steps -/
set_option maxRecDepth 100000 in
theorem zrv4 : zz_endv (zz_rn (zP 89) (zMQ 89) (zz_memo [] (zz_cl zP zMQ 13)) [.ref 4, .ref 1000006] zV4) [] zX4 = true := by decide +kernel
theorem zRv4 : zz_cl zP zMQ 14 89 [.ref 4, .ref 1000006] zV4 = some ([], zX4) := zz_cl_memo (d := 13) ((fun _ h => absurd h List.not_mem_nil)) zrv4
