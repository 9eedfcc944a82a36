/-! THE LAW'S INSTRUCTIONS, 3, 0 -/
set_option maxRecDepth 100000 in
theorem z_okL_3_0 : z_okZ 273 ((zc_L_law_3.zip zi_L_law_3).take 54) = true := by decide +kernel
