/-! THE METHODS' INSTRUCTIONS, 20 -/
set_option maxRecDepth 100000 in
theorem z_ok_241 : z_okM 241 = true := by decide +kernel
