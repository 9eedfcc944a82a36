/-! THE METHODS' INSTRUCTIONS, 12 -/
set_option maxRecDepth 100000 in
theorem z_ok_228 : z_okM 228 = true := by decide +kernel
set_option maxRecDepth 100000 in
theorem z_ok_229 : z_okM 229 = true := by decide +kernel
set_option maxRecDepth 100000 in
theorem z_ok_230 : z_okM 230 = true := by decide +kernel
set_option maxRecDepth 100000 in
theorem z_ok_231 : z_okM 231 = true := by decide +kernel
set_option maxRecDepth 100000 in
theorem z_ok_232 : z_okM 232 = true := by decide +kernel
set_option maxRecDepth 100000 in
theorem z_ok_233 : z_okM 233 = true := by decide +kernel
