/-! THE METHODS' INSTRUCTIONS, 24 -/
set_option maxRecDepth 100000 in
theorem z_ok_246 : z_okM 246 = true := by decide +kernel
set_option maxRecDepth 100000 in
theorem z_ok_247 : z_okM 247 = true := by decide +kernel
set_option maxRecDepth 100000 in
theorem z_ok_248 : z_okM 248 = true := by decide +kernel
set_option maxRecDepth 100000 in
theorem z_ok_249 : z_okM 249 = true := by decide +kernel
