/-! THE METHODS' INSTRUCTIONS, 22 -/
set_option maxRecDepth 100000 in
theorem z_ok_244 : z_okM 244 = true := by decide +kernel
