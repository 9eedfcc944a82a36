/-! THE LAW'S INSTRUCTIONS, 2, 0 -/
set_option maxRecDepth 100000 in
theorem z_okL_2_0 : z_okZ 273 ((zc_L_law_2.zip zi_L_law_2).take 54) = true := by decide +kernel
