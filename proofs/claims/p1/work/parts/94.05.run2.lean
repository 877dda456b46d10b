/-! a long call, run by the kernel: 7891 steps -/
set_option maxRecDepth 100000 in
theorem zrv2 : zz_endv (zz_rn (zP 89) (zMQ 89) (zz_memo [] (zz_cl zP zMQ 13)) [.ref 4, .ref 1000002] zV2) [] zX2 = true := by decide +kernel
theorem zRv2 : zz_cl zP zMQ 14 89 [.ref 4, .ref 1000002] zV2 = some ([], zX2) := zz_cl_memo (d := 13) ((fun _ h => absurd h List.not_mem_nil)) zrv2
