/-! THE METHODS' INSTRUCTIONS, 5 -/
set_option maxRecDepth 100000 in
theorem z_ok_54 : z_okM 54 = true := by decide +kernel
