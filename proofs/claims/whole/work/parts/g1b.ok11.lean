/-! THE METHODS' INSTRUCTIONS, 11 -/
set_option maxRecDepth 100000 in
theorem z_ok_227 : z_okM 227 = true := by decide +kernel
