/-! the constructors run: the kernel does it -/
set_option maxRecDepth 100000 in
theorem zR2 : zz_end0 (zz_cl zP zMQ 16 1 [.ref 171] zWb) zW2 = true := by decide +kernel
