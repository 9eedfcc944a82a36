/-! THE LAW'S INSTRUCTIONS, 4, 0 -/
set_option maxRecDepth 100000 in
theorem z_okL_4_0 : z_okZ 273 ((zc_L_law_4.zip zi_L_law_4).take 54) = true := by decide +kernel
