/-! a long call, run by the kernel: 62056 steps -/
theorem zEm10 : zz_cl zP zMQ 468 zE10.1 zE10.2.1 zE10.2.2.1 = some (zE10.2.2.2.1, zE10.2.2.2.2) := by
  unfold zE10
  exact zRv10
set_option maxRecDepth 100000 in
theorem zrv9 : zz_endv (zz_rn (zP 77) (zMQ 77) (zz_memo [zE10] (zz_cl zP zMQ 468)) [.ref 171] zV9) [] zX9 = true := by decide +kernel
set_option maxRecDepth 100000 in
theorem zRv9 : zz_cl zP zMQ 469 77 [.ref 171] zV9 = some ([], zX9) := zz_cl_memo (d := 468) (List.forall_mem_cons.mpr ⟨zEm10, (fun _ h => absurd h List.not_mem_nil)⟩) zrv9
