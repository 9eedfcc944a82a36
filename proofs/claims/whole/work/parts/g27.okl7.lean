/-! THE LAW'S INSTRUCTIONS, 7 -/
set_option maxRecDepth 100000 in
theorem z_okL_H : z_okH 273 = true := by decide +kernel
