/-! THE LAW'S INSTRUCTIONS, 8 -/
set_option maxRecDepth 100000 in
theorem z_okL_8 : z_okZ 55 ((((((((((z_me 55).zip (z_mi 55)).drop 54).drop 54).drop 54).drop 54).drop 54).drop 54).drop 54).drop 54) = true := by decide +kernel
