/-! a long call, run by the kernel: 7891 steps -/
set_option maxRecDepth 100000 in
theorem zrv2 : zz_endv (zz_rn (zP 112) (zMQ 112) (zz_memo [] (zz_cl zP zMQ 467)) [.ref 4, .ref 1000126] zV2) [] zX2 = true := by decide +kernel
theorem zRv2 : zz_cl zP zMQ 468 112 [.ref 4, .ref 1000126] zV2 = some ([], zX2) := zz_cl_memo (d := 467) ((fun _ h => absurd h List.not_mem_nil)) zrv2
