/-! THE METHODS' INSTRUCTIONS, 19 -/
set_option maxRecDepth 100000 in
theorem z_ok_240 : z_okM 240 = true := by decide +kernel
