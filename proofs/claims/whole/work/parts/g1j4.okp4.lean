/-! THE METHODS' INSTRUCTIONS, 240, 4 -/
set_option maxRecDepth 100000 in
theorem z_okp240_4 : z_okZ 240 (((((((z_me 240).zip (z_mi 240)).drop 30).drop 30).drop 30).drop 30).take 30) = true := by decide +kernel
