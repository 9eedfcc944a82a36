/-! THE METHODS' INSTRUCTIONS, 13 -/
set_option maxRecDepth 100000 in
theorem z_ok_234 : z_okM 234 = true := by decide +kernel
