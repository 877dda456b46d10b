/-! a long call, run by the kernel: 43136 steps -/
set_option maxRecDepth 100000 in
theorem zrv7 : zz_endv (zz_rn (zP 60) (zMQ 60) (zz_memo [] (zz_cl zP zMQ 468)) [.ref 23, .ref 161, .ref 160, .int (Int32.ofNat 184)] zV7) [.int (Int32.ofNat 1)] zX7 = true := by decide +kernel
theorem zRv7 : zz_cl zP zMQ 469 60 [.ref 23, .ref 161, .ref 160, .int (Int32.ofNat 184)] zV7 = some ([.int (Int32.ofNat 1)], zX7) := zz_cl_memo (d := 468) ((fun _ h => absurd h List.not_mem_nil)) zrv7
