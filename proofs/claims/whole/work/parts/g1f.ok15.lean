/-! THE METHODS' INSTRUCTIONS, 15 -/
set_option maxRecDepth 100000 in
theorem z_ok_236 : z_okM 236 = true := by decide +kernel
