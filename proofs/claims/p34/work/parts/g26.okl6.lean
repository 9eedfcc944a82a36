/-! THE LAW'S INSTRUCTIONS, 6 -/
set_option maxRecDepth 100000 in
theorem z_okL_6 : z_okZ 55 (((((((((z_me 55).zip (z_mi 55)).drop 54).drop 54).drop 54).drop 54).drop 54).drop 54).take 54) = true := by decide +kernel
