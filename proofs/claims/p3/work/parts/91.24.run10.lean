/-! a long call, run by the kernel: 46572 steps -/
theorem zEm11 : zz_cl zP zMQ 467 zE11.1 zE11.2.1 zE11.2.2.1 = some (zE11.2.2.2.1, zE11.2.2.2.2) := by
  unfold zE11
  exact zRv11
theorem zEm12 : zz_cl zP zMQ 467 zE12.1 zE12.2.1 zE12.2.2.1 = some (zE12.2.2.2.1, zE12.2.2.2.2) := by
  unfold zE12
  exact zRv12
theorem zEm13 : zz_cl zP zMQ 467 zE13.1 zE13.2.1 zE13.2.2.1 = some (zE13.2.2.2.1, zE13.2.2.2.2) := by
  unfold zE13
  exact zRv13
theorem zEm14 : zz_cl zP zMQ 467 zE14.1 zE14.2.1 zE14.2.2.1 = some (zE14.2.2.2.1, zE14.2.2.2.2) := by
  unfold zE14
  exact zRv14
theorem zEm15 : zz_cl zP zMQ 467 zE15.1 zE15.2.1 zE15.2.2.1 = some (zE15.2.2.2.1, zE15.2.2.2.2) := by
  unfold zE15
  exact zRv15
theorem zEm16 : zz_cl zP zMQ 467 zE16.1 zE16.2.1 zE16.2.2.1 = some (zE16.2.2.2.1, zE16.2.2.2.2) := by
  unfold zE16
  exact zRv16
theorem zEm17 : zz_cl zP zMQ 467 zE17.1 zE17.2.1 zE17.2.2.1 = some (zE17.2.2.2.1, zE17.2.2.2.2) := by
  unfold zE17
  exact zRv17
theorem zEm18 : zz_cl zP zMQ 467 zE18.1 zE18.2.1 zE18.2.2.1 = some (zE18.2.2.2.1, zE18.2.2.2.2) := by
  unfold zE18
  exact zRv18
theorem zEm19 : zz_cl zP zMQ 467 zE19.1 zE19.2.1 zE19.2.2.1 = some (zE19.2.2.2.1, zE19.2.2.2.2) := by
  unfold zE19
  exact zRv19
theorem zEm20 : zz_cl zP zMQ 467 zE20.1 zE20.2.1 zE20.2.2.1 = some (zE20.2.2.2.1, zE20.2.2.2.2) := by
  unfold zE20
  exact zRv20
theorem zEm21 : zz_cl zP zMQ 467 zE21.1 zE21.2.1 zE21.2.2.1 = some (zE21.2.2.2.1, zE21.2.2.2.2) := by
  unfold zE21
  exact zRv21
theorem zEm22 : zz_cl zP zMQ 467 zE22.1 zE22.2.1 zE22.2.2.1 = some (zE22.2.2.2.1, zE22.2.2.2.2) := by
  unfold zE22
  exact zRv22
theorem zEm23 : zz_cl zP zMQ 467 zE23.1 zE23.2.1 zE23.2.2.1 = some (zE23.2.2.2.1, zE23.2.2.2.2) := by
  unfold zE23
  exact zRv23
theorem zEm24 : zz_cl zP zMQ 467 zE24.1 zE24.2.1 zE24.2.2.1 = some (zE24.2.2.2.1, zE24.2.2.2.2) := by
  unfold zE24
  exact zRv24
theorem zEm25 : zz_cl zP zMQ 467 zE25.1 zE25.2.1 zE25.2.2.1 = some (zE25.2.2.2.1, zE25.2.2.2.2) := by
  unfold zE25
  exact zRv25
set_option maxRecDepth 100000 in
theorem zrv10 : zz_endv (zz_rn (zP 85) (zMQ 85) (zz_memo [zE11, zE12, zE13, zE14, zE15, zE16, zE17, zE18, zE19, zE20, zE21, zE22, zE23, zE24, zE25] (zz_cl zP zMQ 467)) [.ref 171, .int (Int32.ofNat 6), .int (Int32.ofNat 0)] zV10) [.int (Int32.ofNat 1)] zX10 = true := by decide +kernel
set_option maxRecDepth 100000 in
theorem zRv10 : zz_cl zP zMQ 468 85 [.ref 171, .int (Int32.ofNat 6), .int (Int32.ofNat 0)] zV10 = some ([.int (Int32.ofNat 1)], zX10) := zz_cl_memo (d := 467) (List.forall_mem_cons.mpr ⟨zEm11, List.forall_mem_cons.mpr ⟨zEm12, List.forall_mem_cons.mpr ⟨zEm13, List.forall_mem_cons.mpr ⟨zEm14, List.forall_mem_cons.mpr ⟨zEm15, List.forall_mem_cons.mpr ⟨zEm16, List.forall_mem_cons.mpr ⟨zEm17, List.forall_mem_cons.mpr ⟨zEm18, List.forall_mem_cons.mpr ⟨zEm19, List.forall_mem_cons.mpr ⟨zEm20, List.forall_mem_cons.mpr ⟨zEm21, List.forall_mem_cons.mpr ⟨zEm22, List.forall_mem_cons.mpr ⟨zEm23, List.forall_mem_cons.mpr ⟨zEm24, List.forall_mem_cons.mpr ⟨zEm25, (fun _ h => absurd h List.not_mem_nil)⟩⟩⟩⟩⟩⟩⟩⟩⟩⟩⟩⟩⟩⟩⟩) zrv10
