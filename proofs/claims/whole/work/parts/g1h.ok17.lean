/-! THE METHODS' INSTRUCTIONS, 17 -/
set_option maxRecDepth 100000 in
theorem z_ok_238 : z_okM 238 = true := by decide +kernel
