/-! THE LAW'S INSTRUCTIONS, 0, 0 -/
set_option maxRecDepth 100000 in
theorem z_okL_0_0 : z_okZ 273 ((zc_L_law_0.zip zi_L_law_0).take 54) = true := by decide +kernel
