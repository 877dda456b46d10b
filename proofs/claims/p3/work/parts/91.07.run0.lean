/-! a long call, run by the kernel: 108086 steps -/
theorem zEm1 : zz_cl zP zMQ 468 zE1.1 zE1.2.1 zE1.2.2.1 = some (zE1.2.2.2.1, zE1.2.2.2.2) := by
  unfold zE1
  exact zRv1
theorem zEm2 : zz_cl zP zMQ 468 zE2.1 zE2.2.1 zE2.2.2.1 = some (zE2.2.2.2.1, zE2.2.2.2.2) := by
  unfold zE2
  exact zRv2
theorem zEm3 : zz_cl zP zMQ 468 zE3.1 zE3.2.1 zE3.2.2.1 = some (zE3.2.2.2.1, zE3.2.2.2.2) := by
  unfold zE3
  exact zRv3
theorem zEm4 : zz_cl zP zMQ 468 zE4.1 zE4.2.1 zE4.2.2.1 = some (zE4.2.2.2.1, zE4.2.2.2.2) := by
  unfold zE4
  exact zRv4
theorem zEm5 : zz_cl zP zMQ 468 zE5.1 zE5.2.1 zE5.2.2.1 = some (zE5.2.2.2.1, zE5.2.2.2.2) := by
  unfold zE5
  exact zRv5
theorem zEm6 : zz_cl zP zMQ 468 zE6.1 zE6.2.1 zE6.2.2.1 = some (zE6.2.2.2.1, zE6.2.2.2.2) := by
  unfold zE6
  exact zRv6
set_option maxRecDepth 100000 in
theorem zrv0 : zz_endv (zz_rn (zP 49) (zMQ 49) (zz_memo [zE1, zE2, zE3, zE4, zE5, zE6] (zz_cl zP zMQ 468)) [.ref 4] zV0) [] zX0 = true := by decide +kernel
set_option maxRecDepth 100000 in
theorem zRv0 : zz_cl zP zMQ 469 49 [.ref 4] zV0 = some ([], zX0) := zz_cl_memo (d := 468) (List.forall_mem_cons.mpr ⟨zEm1, List.forall_mem_cons.mpr ⟨zEm2, List.forall_mem_cons.mpr ⟨zEm3, List.forall_mem_cons.mpr ⟨zEm4, List.forall_mem_cons.mpr ⟨zEm5, List.forall_mem_cons.mpr ⟨zEm6, (fun _ h => absurd h List.not_mem_nil)⟩⟩⟩⟩⟩⟩) zrv0
