/-! THE METHODS' INSTRUCTIONS, 23 -/
set_option maxRecDepth 100000 in
theorem z_ok_245 : z_okM 245 = true := by decide +kernel
