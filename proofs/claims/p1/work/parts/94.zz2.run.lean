/-! a long call, run by the kernel: ToolMill.source() -/
set_option maxRecDepth 100000 in
theorem zrs1 : zz_endv (zz_rn (zP 4) (zMQ 4) (zz_memo [] (zz_cl zP zMQ 14)) [.ref 0] zW3) [.int (Int32.ofNat 0)] zW6 = true := by decide +kernel
theorem zRs1 : zz_cl zP zMQ 15 4 [.ref 0] zW3 = some ([.int (Int32.ofNat 0)], zW6) := zz_cl_memo (d := 14) ((fun _ h => absurd h List.not_mem_nil)) zrs1
set_option maxRecDepth 100000 in
theorem zrs2 : zz_endv (zz_rn (zP 5) (zMQ 5) (zz_memo [] (zz_cl zP zMQ 15)) [.ref 171] zW6) [.int (Int32.ofNat 0)] zW7 = true := by decide +kernel
theorem zRs2 : zz_cl zP zMQ 16 5 [.ref 171] zW6 = some ([.int (Int32.ofNat 0)], zW7) := zz_cl_memo (d := 15) ((fun _ h => absurd h List.not_mem_nil)) zrs2
set_option maxRecDepth 100000 in
theorem zra1 : zz_endv (zz_rn (zP 6) (zMQ 6) (zz_memo [] (zz_cl zP zMQ 14)) [.ref 0] zW3) [.int (Int32.ofNat 0)] zW8 = true := by decide +kernel
theorem zRa1 : zz_cl zP zMQ 15 6 [.ref 0] zW3 = some ([.int (Int32.ofNat 0)], zW8) := zz_cl_memo (d := 14) ((fun _ h => absurd h List.not_mem_nil)) zra1
set_option maxRecDepth 100000 in
theorem zra2 : zz_endv (zz_rn (zP 7) (zMQ 7) (zz_memo [] (zz_cl zP zMQ 15)) [.ref 171] zW8) [.int (Int32.ofNat 0)] zW9 = true := by decide +kernel
theorem zRa2 : zz_cl zP zMQ 16 7 [.ref 171] zW8 = some ([.int (Int32.ofNat 0)], zW9) := zz_cl_memo (d := 15) ((fun _ h => absurd h List.not_mem_nil)) zra2
