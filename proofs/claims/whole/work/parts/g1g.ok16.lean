/-! THE METHODS' INSTRUCTIONS, 16 -/
set_option maxRecDepth 100000 in
theorem z_ok_237 : z_okM 237 = true := by decide +kernel
