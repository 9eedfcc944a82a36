/-! THE LAW'S INSTRUCTIONS, 5, 4 -/
set_option maxRecDepth 100000 in
theorem z_okL_5_4 : z_okZ 273 (((((zc_L_law_5.zip zi_L_law_5).drop 54).drop 54).drop 54).drop 54) = true := by decide +kernel
