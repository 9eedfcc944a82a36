/-! THE METHODS' INSTRUCTIONS, 18 -/
set_option maxRecDepth 100000 in
theorem z_ok_239 : z_okM 239 = true := by decide +kernel
