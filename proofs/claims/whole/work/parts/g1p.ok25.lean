/-! THE METHODS' INSTRUCTIONS, 25 -/
set_option maxRecDepth 100000 in
theorem z_ok_250 : z_okM 250 = true := by decide +kernel
