/-! THE METHODS' INSTRUCTIONS, 10 -/
set_option maxRecDepth 100000 in
theorem z_ok_222 : z_okM 222 = true := by decide +kernel
set_option maxRecDepth 100000 in
theorem z_ok_223 : z_okM 223 = true := by decide +kernel
set_option maxRecDepth 100000 in
theorem z_ok_224 : z_okM 224 = true := by decide +kernel
set_option maxRecDepth 100000 in
theorem z_ok_225 : z_okM 225 = true := by decide +kernel
set_option maxRecDepth 100000 in
theorem z_ok_226 : z_okM 226 = true := by decide +kernel
