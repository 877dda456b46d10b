/-! a long call, run by the kernel: 20426 steps -/
set_option maxRecDepth 100000 in
theorem zrv3 : zz_endv (zz_rn (zP 112) (zMQ 112) (zz_memo [] (zz_cl zP zMQ 467)) [.ref 4, .ref 1000128] zV3) [] zX3 = true := by decide +kernel
theorem zRv3 : zz_cl zP zMQ 468 112 [.ref 4, .ref 1000128] zV3 = some ([], zX3) := zz_cl_memo (d := 467) ((fun _ h => absurd h List.not_mem_nil)) zrv3
