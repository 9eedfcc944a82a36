/-! THE LAW'S INSTRUCTIONS, 2, 4 -/
set_option maxRecDepth 100000 in
theorem z_okL_2_4 : z_okZ 273 (((((zc_L_law_2.zip zi_L_law_2).drop 54).drop 54).drop 54).drop 54) = true := by decide +kernel
