section
/-! a long call, run by the kernel: 43136 steps -/
set_option maxRecDepth 100000 in
theorem zrv7 : zz_endv (zz_rn (zP 60) (zMQ 60) (zz_memo [] (zz_cl zP zMQ 468)) [.ref 23, .ref 161, .ref 160, .int (Int32.ofNat 184)] zV7) [.int (Int32.ofNat 1)] zX7 = true := by decide +kernel
theorem zRv7 : zz_cl zP zMQ 469 60 [.ref 23, .ref 161, .ref 160, .int (Int32.ofNat 184)] zV7 = some ([.int (Int32.ofNat 1)], zX7) := zz_cl_memo (d := 468) ((fun _ h => absurd h List.not_mem_nil)) zrv7
end
section
/-! a long call, run by the kernel: 18649 steps -/
set_option maxRecDepth 100000 in
theorem zrv6 : zz_endv (zz_rn (zP 112) (zMQ 112) (zz_memo [] (zz_cl zP zMQ 467)) [.ref 4, .ref 1000134] zV6) [] zX6 = true := by decide +kernel
theorem zRv6 : zz_cl zP zMQ 468 112 [.ref 4, .ref 1000134] zV6 = some ([], zX6) := zz_cl_memo (d := 467) ((fun _ h => absurd h List.not_mem_nil)) zrv6
end
section
/-! a long call, run by the kernel: 20063 steps -/
set_option maxRecDepth 100000 in
theorem zrv5 : zz_endv (zz_rn (zP 112) (zMQ 112) (zz_memo [] (zz_cl zP zMQ 467)) [.ref 4, .ref 1000132] zV5) [] zX5 = true := by decide +kernel
theorem zRv5 : zz_cl zP zMQ 468 112 [.ref 4, .ref 1000132] zV5 = some ([], zX5) := zz_cl_memo (d := 467) ((fun _ h => absurd h List.not_mem_nil)) zrv5
end
section
/-! a long call, run by the kernel: 5618 steps -/
set_option maxRecDepth 100000 in
theorem zrv4 : zz_endv (zz_rn (zP 112) (zMQ 112) (zz_memo [] (zz_cl zP zMQ 467)) [.ref 4, .ref 1000130] zV4) [] zX4 = true := by decide +kernel
theorem zRv4 : zz_cl zP zMQ 468 112 [.ref 4, .ref 1000130] zV4 = some ([], zX4) := zz_cl_memo (d := 467) ((fun _ h => absurd h List.not_mem_nil)) zrv4
end
section
/-! a long call, run by the kernel: 20426 steps -/
set_option maxRecDepth 100000 in
theorem zrv3 : zz_endv (zz_rn (zP 112) (zMQ 112) (zz_memo [] (zz_cl zP zMQ 467)) [.ref 4, .ref 1000128] zV3) [] zX3 = true := by decide +kernel
theorem zRv3 : zz_cl zP zMQ 468 112 [.ref 4, .ref 1000128] zV3 = some ([], zX3) := zz_cl_memo (d := 467) ((fun _ h => absurd h List.not_mem_nil)) zrv3
end
section
/-! a long call, run by the kernel: 7891 steps -/
set_option maxRecDepth 100000 in
theorem zrv2 : zz_endv (zz_rn (zP 112) (zMQ 112) (zz_memo [] (zz_cl zP zMQ 467)) [.ref 4, .ref 1000126] zV2) [] zX2 = true := by decide +kernel
theorem zRv2 : zz_cl zP zMQ 468 112 [.ref 4, .ref 1000126] zV2 = some ([], zX2) := zz_cl_memo (d := 467) ((fun _ h => absurd h List.not_mem_nil)) zrv2
end
section
/-! a long call, run by the kernel: 35386 steps -/
set_option maxRecDepth 100000 in
theorem zrv1 : zz_endv (zz_rn (zP 112) (zMQ 112) (zz_memo [] (zz_cl zP zMQ 467)) [.ref 4, .ref 1000124] zV1) [] zX1 = true := by decide +kernel
theorem zRv1 : zz_cl zP zMQ 468 112 [.ref 4, .ref 1000124] zV1 = some ([], zX1) := zz_cl_memo (d := 467) ((fun _ h => absurd h List.not_mem_nil)) zrv1
end
section
/-! a long call, run by the kernel: 108086 steps -/
theorem zEm1 : zz_cl zP zMQ 468 zE1.1 zE1.2.1 zE1.2.2.1 = some (zE1.2.2.2.1, zE1.2.2.2.2) := by
  unfold zE1
  exact zRv1
theorem zEm2 : zz_cl zP zMQ 468 zE2.1 zE2.2.1 zE2.2.2.1 = some (zE2.2.2.2.1, zE2.2.2.2.2) := by
  unfold zE2
  exact zRv2
theorem zEm3 : zz_cl zP zMQ 468 zE3.1 zE3.2.1 zE3.2.2.1 = some (zE3.2.2.2.1, zE3.2.2.2.2) := by
  unfold zE3
  exact zRv3
theorem zEm4 : zz_cl zP zMQ 468 zE4.1 zE4.2.1 zE4.2.2.1 = some (zE4.2.2.2.1, zE4.2.2.2.2) := by
  unfold zE4
  exact zRv4
theorem zEm5 : zz_cl zP zMQ 468 zE5.1 zE5.2.1 zE5.2.2.1 = some (zE5.2.2.2.1, zE5.2.2.2.2) := by
  unfold zE5
  exact zRv5
theorem zEm6 : zz_cl zP zMQ 468 zE6.1 zE6.2.1 zE6.2.2.1 = some (zE6.2.2.2.1, zE6.2.2.2.2) := by
  unfold zE6
  exact zRv6
set_option maxRecDepth 100000 in
theorem zrv0 : zz_endv (zz_rn (zP 49) (zMQ 49) (zz_memo [zE1, zE2, zE3, zE4, zE5, zE6] (zz_cl zP zMQ 468)) [.ref 4] zV0) [] zX0 = true := by decide +kernel
set_option maxRecDepth 100000 in
theorem zRv0 : zz_cl zP zMQ 469 49 [.ref 4] zV0 = some ([], zX0) := zz_cl_memo (d := 468) (List.forall_mem_cons.mpr ⟨zEm1, List.forall_mem_cons.mpr ⟨zEm2, List.forall_mem_cons.mpr ⟨zEm3, List.forall_mem_cons.mpr ⟨zEm4, List.forall_mem_cons.mpr ⟨zEm5, List.forall_mem_cons.mpr ⟨zEm6, (fun _ h => absurd h List.not_mem_nil)⟩⟩⟩⟩⟩⟩) zrv0
end
section
/-! a long call, run by the kernel: ToolMill() -/
theorem zEm0 : zz_cl zP zMQ 469 zE0.1 zE0.2.1 zE0.2.2.1 = some (zE0.2.2.2.1, zE0.2.2.2.2) := by
  unfold zE0
  exact zRv0
theorem zEm7 : zz_cl zP zMQ 469 zE7.1 zE7.2.1 zE7.2.2.1 = some (zE7.2.2.2.1, zE7.2.2.2.2) := by
  unfold zE7
  exact zRv7
set_option maxRecDepth 100000 in
theorem zr1 : zz_endv (zz_rn (zP 0) (zMQ 0) (zz_memo [zE0, zE7] (zz_cl zP zMQ 469)) [.ref 0] zWa) [] zW1 = true := by decide +kernel
set_option maxRecDepth 100000 in
theorem zR1 : zz_cl zP zMQ 470 0 [.ref 0] zWa = some ([], zW1) := zz_cl_memo (d := 469) (List.forall_mem_cons.mpr ⟨zEm0, List.forall_mem_cons.mpr ⟨zEm7, (fun _ h => absurd h List.not_mem_nil)⟩⟩) zr1
end
section
/-! a long call, run by the kernel: 2458 steps -/
set_option maxRecDepth 100000 in
theorem zrv25 : zz_endv (zz_rn (zP 201) (zMQ 201) (zz_memo [] (zz_cl zP zMQ 466)) [.ref 171] zV25) [] zX25 = true := by decide +kernel
theorem zRv25 : zz_cl zP zMQ 467 201 [.ref 171] zV25 = some ([], zX25) := zz_cl_memo (d := 466) ((fun _ h => absurd h List.not_mem_nil)) zrv25
end
section
/-! a long call, run by the kernel: 3244 steps -/
set_option maxRecDepth 100000 in
theorem zrv24 : zz_endv (zz_rn (zP 201) (zMQ 201) (zz_memo [] (zz_cl zP zMQ 466)) [.ref 171] zV24) [] zX24 = true := by decide +kernel
theorem zRv24 : zz_cl zP zMQ 467 201 [.ref 171] zV24 = some ([], zX24) := zz_cl_memo (d := 466) ((fun _ h => absurd h List.not_mem_nil)) zrv24
end
section
/-! a long call, run by the kernel: 3353 steps -/
set_option maxRecDepth 100000 in
theorem zrv23 : zz_endv (zz_rn (zP 201) (zMQ 201) (zz_memo [] (zz_cl zP zMQ 466)) [.ref 171] zV23) [] zX23 = true := by decide +kernel
theorem zRv23 : zz_cl zP zMQ 467 201 [.ref 171] zV23 = some ([], zX23) := zz_cl_memo (d := 466) ((fun _ h => absurd h List.not_mem_nil)) zrv23
end
section
/-! a long call, run by the kernel: 3069 steps -/
set_option maxRecDepth 100000 in
theorem zrv22 : zz_endv (zz_rn (zP 201) (zMQ 201) (zz_memo [] (zz_cl zP zMQ 466)) [.ref 171] zV22) [] zX22 = true := by decide +kernel
theorem zRv22 : zz_cl zP zMQ 467 201 [.ref 171] zV22 = some ([], zX22) := zz_cl_memo (d := 466) ((fun _ h => absurd h List.not_mem_nil)) zrv22
end
section
/-! a long call, run by the kernel: 2251 steps -/
set_option maxRecDepth 100000 in
theorem zrv21 : zz_endv (zz_rn (zP 201) (zMQ 201) (zz_memo [] (zz_cl zP zMQ 466)) [.ref 171] zV21) [] zX21 = true := by decide +kernel
theorem zRv21 : zz_cl zP zMQ 467 201 [.ref 171] zV21 = some ([], zX21) := zz_cl_memo (d := 466) ((fun _ h => absurd h List.not_mem_nil)) zrv21
end
section
/-! a long call, run by the kernel: 2350 steps -/
set_option maxRecDepth 100000 in
theorem zrv20 : zz_endv (zz_rn (zP 201) (zMQ 201) (zz_memo [] (zz_cl zP zMQ 466)) [.ref 171] zV20) [] zX20 = true := by decide +kernel
theorem zRv20 : zz_cl zP zMQ 467 201 [.ref 171] zV20 = some ([], zX20) := zz_cl_memo (d := 466) ((fun _ h => absurd h List.not_mem_nil)) zrv20
end
section
/-! a long call, run by the kernel: 2056 steps -/
set_option maxRecDepth 100000 in
theorem zrv19 : zz_endv (zz_rn (zP 201) (zMQ 201) (zz_memo [] (zz_cl zP zMQ 466)) [.ref 171] zV19) [] zX19 = true := by decide +kernel
theorem zRv19 : zz_cl zP zMQ 467 201 [.ref 171] zV19 = some ([], zX19) := zz_cl_memo (d := 466) ((fun _ h => absurd h List.not_mem_nil)) zrv19
end
section
/-! a long call, run by the kernel: 2236 steps -/
set_option maxRecDepth 100000 in
theorem zrv18 : zz_endv (zz_rn (zP 201) (zMQ 201) (zz_memo [] (zz_cl zP zMQ 466)) [.ref 171] zV18) [] zX18 = true := by decide +kernel
theorem zRv18 : zz_cl zP zMQ 467 201 [.ref 171] zV18 = some ([], zX18) := zz_cl_memo (d := 466) ((fun _ h => absurd h List.not_mem_nil)) zrv18
end
section
/-! a long call, run by the kernel: 1691 steps -/
set_option maxRecDepth 100000 in
theorem zrv17 : zz_endv (zz_rn (zP 201) (zMQ 201) (zz_memo [] (zz_cl zP zMQ 466)) [.ref 171] zV17) [] zX17 = true := by decide +kernel
theorem zRv17 : zz_cl zP zMQ 467 201 [.ref 171] zV17 = some ([], zX17) := zz_cl_memo (d := 466) ((fun _ h => absurd h List.not_mem_nil)) zrv17
end
section
/-! a long call, run by the kernel: 2488 steps -/
set_option maxRecDepth 100000 in
theorem zrv16 : zz_endv (zz_rn (zP 201) (zMQ 201) (zz_memo [] (zz_cl zP zMQ 466)) [.ref 171] zV16) [] zX16 = true := by decide +kernel
theorem zRv16 : zz_cl zP zMQ 467 201 [.ref 171] zV16 = some ([], zX16) := zz_cl_memo (d := 466) ((fun _ h => absurd h List.not_mem_nil)) zrv16
end
section
/-! a long call, run by the kernel: 2688 steps -/
set_option maxRecDepth 100000 in
theorem zrv15 : zz_endv (zz_rn (zP 201) (zMQ 201) (zz_memo [] (zz_cl zP zMQ 466)) [.ref 171] zV15) [] zX15 = true := by decide +kernel
theorem zRv15 : zz_cl zP zMQ 467 201 [.ref 171] zV15 = some ([], zX15) := zz_cl_memo (d := 466) ((fun _ h => absurd h List.not_mem_nil)) zrv15
end
section
/-! a long call, run by the kernel: 3786 steps -/
set_option maxRecDepth 100000 in
theorem zrv14 : zz_endv (zz_rn (zP 201) (zMQ 201) (zz_memo [] (zz_cl zP zMQ 466)) [.ref 171] zV14) [] zX14 = true := by decide +kernel
theorem zRv14 : zz_cl zP zMQ 467 201 [.ref 171] zV14 = some ([], zX14) := zz_cl_memo (d := 466) ((fun _ h => absurd h List.not_mem_nil)) zrv14
end
section
/-! a long call, run by the kernel: 2280 steps -/
set_option maxRecDepth 100000 in
theorem zrv13 : zz_endv (zz_rn (zP 201) (zMQ 201) (zz_memo [] (zz_cl zP zMQ 466)) [.ref 171] zV13) [] zX13 = true := by decide +kernel
theorem zRv13 : zz_cl zP zMQ 467 201 [.ref 171] zV13 = some ([], zX13) := zz_cl_memo (d := 466) ((fun _ h => absurd h List.not_mem_nil)) zrv13
end
section
/-! a long call, run by the kernel: 2214 steps -/
set_option maxRecDepth 100000 in
theorem zrv12 : zz_endv (zz_rn (zP 201) (zMQ 201) (zz_memo [] (zz_cl zP zMQ 466)) [.ref 171] zV12) [] zX12 = true := by decide +kernel
theorem zRv12 : zz_cl zP zMQ 467 201 [.ref 171] zV12 = some ([], zX12) := zz_cl_memo (d := 466) ((fun _ h => absurd h List.not_mem_nil)) zrv12
end
section
/-! a long call, run by the kernel: 7760 steps -/
set_option maxRecDepth 100000 in
theorem zrv11 : zz_endv (zz_rn (zP 199) (zMQ 199) (zz_memo [] (zz_cl zP zMQ 466)) [.ref 171] zV11) [] zX11 = true := by decide +kernel
theorem zRv11 : zz_cl zP zMQ 467 199 [.ref 171] zV11 = some ([], zX11) := zz_cl_memo (d := 466) ((fun _ h => absurd h List.not_mem_nil)) zrv11
end
section
/-! a long call, run by the kernel: 46572 steps -/
theorem zEm11 : zz_cl zP zMQ 467 zE11.1 zE11.2.1 zE11.2.2.1 = some (zE11.2.2.2.1, zE11.2.2.2.2) := by
  unfold zE11
  exact zRv11
theorem zEm12 : zz_cl zP zMQ 467 zE12.1 zE12.2.1 zE12.2.2.1 = some (zE12.2.2.2.1, zE12.2.2.2.2) := by
  unfold zE12
  exact zRv12
theorem zEm13 : zz_cl zP zMQ 467 zE13.1 zE13.2.1 zE13.2.2.1 = some (zE13.2.2.2.1, zE13.2.2.2.2) := by
  unfold zE13
  exact zRv13
theorem zEm14 : zz_cl zP zMQ 467 zE14.1 zE14.2.1 zE14.2.2.1 = some (zE14.2.2.2.1, zE14.2.2.2.2) := by
  unfold zE14
  exact zRv14
theorem zEm15 : zz_cl zP zMQ 467 zE15.1 zE15.2.1 zE15.2.2.1 = some (zE15.2.2.2.1, zE15.2.2.2.2) := by
  unfold zE15
  exact zRv15
theorem zEm16 : zz_cl zP zMQ 467 zE16.1 zE16.2.1 zE16.2.2.1 = some (zE16.2.2.2.1, zE16.2.2.2.2) := by
  unfold zE16
  exact zRv16
theorem zEm17 : zz_cl zP zMQ 467 zE17.1 zE17.2.1 zE17.2.2.1 = some (zE17.2.2.2.1, zE17.2.2.2.2) := by
  unfold zE17
  exact zRv17
theorem zEm18 : zz_cl zP zMQ 467 zE18.1 zE18.2.1 zE18.2.2.1 = some (zE18.2.2.2.1, zE18.2.2.2.2) := by
  unfold zE18
  exact zRv18
theorem zEm19 : zz_cl zP zMQ 467 zE19.1 zE19.2.1 zE19.2.2.1 = some (zE19.2.2.2.1, zE19.2.2.2.2) := by
  unfold zE19
  exact zRv19
theorem zEm20 : zz_cl zP zMQ 467 zE20.1 zE20.2.1 zE20.2.2.1 = some (zE20.2.2.2.1, zE20.2.2.2.2) := by
  unfold zE20
  exact zRv20
theorem zEm21 : zz_cl zP zMQ 467 zE21.1 zE21.2.1 zE21.2.2.1 = some (zE21.2.2.2.1, zE21.2.2.2.2) := by
  unfold zE21
  exact zRv21
theorem zEm22 : zz_cl zP zMQ 467 zE22.1 zE22.2.1 zE22.2.2.1 = some (zE22.2.2.2.1, zE22.2.2.2.2) := by
  unfold zE22
  exact zRv22
theorem zEm23 : zz_cl zP zMQ 467 zE23.1 zE23.2.1 zE23.2.2.1 = some (zE23.2.2.2.1, zE23.2.2.2.2) := by
  unfold zE23
  exact zRv23
theorem zEm24 : zz_cl zP zMQ 467 zE24.1 zE24.2.1 zE24.2.2.1 = some (zE24.2.2.2.1, zE24.2.2.2.2) := by
  unfold zE24
  exact zRv24
theorem zEm25 : zz_cl zP zMQ 467 zE25.1 zE25.2.1 zE25.2.2.1 = some (zE25.2.2.2.1, zE25.2.2.2.2) := by
  unfold zE25
  exact zRv25
set_option maxRecDepth 100000 in
theorem zrv10 : zz_endv (zz_rn (zP 85) (zMQ 85) (zz_memo [zE11, zE12, zE13, zE14, zE15, zE16, zE17, zE18, zE19, zE20, zE21, zE22, zE23, zE24, zE25] (zz_cl zP zMQ 467)) [.ref 171, .int (Int32.ofNat 6), .int (Int32.ofNat 0)] zV10) [.int (Int32.ofNat 1)] zX10 = true := by decide +kernel
set_option maxRecDepth 100000 in
theorem zRv10 : zz_cl zP zMQ 468 85 [.ref 171, .int (Int32.ofNat 6), .int (Int32.ofNat 0)] zV10 = some ([.int (Int32.ofNat 1)], zX10) := zz_cl_memo (d := 467) (List.forall_mem_cons.mpr ⟨zEm11, List.forall_mem_cons.mpr ⟨zEm12, List.forall_mem_cons.mpr ⟨zEm13, List.forall_mem_cons.mpr ⟨zEm14, List.forall_mem_cons.mpr ⟨zEm15, List.forall_mem_cons.mpr ⟨zEm16, List.forall_mem_cons.mpr ⟨zEm17, List.forall_mem_cons.mpr ⟨zEm18, List.forall_mem_cons.mpr ⟨zEm19, List.forall_mem_cons.mpr ⟨zEm20, List.forall_mem_cons.mpr ⟨zEm21, List.forall_mem_cons.mpr ⟨zEm22, List.forall_mem_cons.mpr ⟨zEm23, List.forall_mem_cons.mpr ⟨zEm24, List.forall_mem_cons.mpr ⟨zEm25, (fun _ h => absurd h List.not_mem_nil)⟩⟩⟩⟩⟩⟩⟩⟩⟩⟩⟩⟩⟩⟩⟩) zrv10
end
section
/-! a long call, run by the kernel: 62056 steps -/
theorem zEm10 : zz_cl zP zMQ 468 zE10.1 zE10.2.1 zE10.2.2.1 = some (zE10.2.2.2.1, zE10.2.2.2.2) := by
  unfold zE10
  exact zRv10
set_option maxRecDepth 100000 in
theorem zrv9 : zz_endv (zz_rn (zP 77) (zMQ 77) (zz_memo [zE10] (zz_cl zP zMQ 468)) [.ref 171] zV9) [] zX9 = true := by decide +kernel
set_option maxRecDepth 100000 in
theorem zRv9 : zz_cl zP zMQ 469 77 [.ref 171] zV9 = some ([], zX9) := zz_cl_memo (d := 468) (List.forall_mem_cons.mpr ⟨zEm10, (fun _ h => absurd h List.not_mem_nil)⟩) zrv9
end
section
/-! a long call, run by the kernel: 9535 steps -/
set_option maxRecDepth 100000 in
theorem zrv8 : zz_endv (zz_rn (zP 76) (zMQ 76) (zz_memo [] (zz_cl zP zMQ 468)) [.ref 171] zV8) [] zX8 = true := by decide +kernel
theorem zRv8 : zz_cl zP zMQ 469 76 [.ref 171] zV8 = some ([], zX8) := zz_cl_memo (d := 468) ((fun _ h => absurd h List.not_mem_nil)) zrv8
end
section
/-! a long call, run by the kernel: ToolMillModel() -/
theorem zEm8 : zz_cl zP zMQ 469 zE8.1 zE8.2.1 zE8.2.2.1 = some (zE8.2.2.2.1, zE8.2.2.2.2) := by
  unfold zE8
  exact zRv8
theorem zEm9 : zz_cl zP zMQ 469 zE9.1 zE9.2.1 zE9.2.2.1 = some (zE9.2.2.2.1, zE9.2.2.2.2) := by
  unfold zE9
  exact zRv9
set_option maxRecDepth 100000 in
theorem zr2 : zz_endv (zz_rn (zP 24) (zMQ 24) (zz_memo [zE8, zE9] (zz_cl zP zMQ 469)) [.ref 171] zWb) [] zW2 = true := by decide +kernel
set_option maxRecDepth 100000 in
theorem zR2 : zz_cl zP zMQ 470 24 [.ref 171] zWb = some ([], zW2) := zz_cl_memo (d := 469) (List.forall_mem_cons.mpr ⟨zEm8, List.forall_mem_cons.mpr ⟨zEm9, (fun _ h => absurd h List.not_mem_nil)⟩⟩) zr2
end
