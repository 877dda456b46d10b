/-! the constructors run: the kernel does it -/
set_option maxRecDepth 100000 in
theorem zR1 : zz_end0 (zz_cl zP zMQ 16 0 [.ref 0] zWa) zW1 = true := by decide +kernel
