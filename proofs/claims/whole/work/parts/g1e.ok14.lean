/-! THE METHODS' INSTRUCTIONS, 14 -/
set_option maxRecDepth 100000 in
theorem z_ok_235 : z_okM 235 = true := by decide +kernel
