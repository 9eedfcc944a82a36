/-! THE LAW'S INSTRUCTIONS, 0 -/
set_option maxRecDepth 100000 in
theorem z_okL_0 : z_okZ 55 (((z_me 55).zip (z_mi 55)).take 54) = true := by decide +kernel
