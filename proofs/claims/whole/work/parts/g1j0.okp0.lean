/-! THE METHODS' INSTRUCTIONS, 240, 0 -/
set_option maxRecDepth 100000 in
theorem z_okp240_0 : z_okZ 240 (((z_me 240).zip (z_mi 240)).take 30) = true := by decide +kernel
