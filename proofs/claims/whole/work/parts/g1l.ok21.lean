/-! THE METHODS' INSTRUCTIONS, 21 -/
set_option maxRecDepth 100000 in
theorem z_ok_242 : z_okM 242 = true := by decide +kernel
set_option maxRecDepth 100000 in
theorem z_ok_243 : z_okM 243 = true := by decide +kernel
