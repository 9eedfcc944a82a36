/-! THE LAW'S INSTRUCTIONS, 4, 1 -/
set_option maxRecDepth 100000 in
theorem z_okL_4_1 : z_okZ 273 (((zc_L_law_4.zip zi_L_law_4).drop 54).take 54) = true := by decide +kernel
