/-! THE LAW'S INSTRUCTIONS, 6, 0 -/
set_option maxRecDepth 100000 in
theorem z_okL_6_0 : z_okZ 273 (zc_L_law_6.zip zi_L_law_6) = true := by decide +kernel
