/-! THE METHODS' INSTRUCTIONS, 27 -/
set_option maxRecDepth 100000 in
theorem z_ok_268 : z_okM 268 = true := by decide +kernel
set_option maxRecDepth 100000 in
theorem z_ok_269 : z_okM 269 = true := by decide +kernel
set_option maxRecDepth 100000 in
theorem z_ok_270 : z_okM 270 = true := by decide +kernel
set_option maxRecDepth 100000 in
theorem z_ok_271 : z_okM 271 = true := by decide +kernel
set_option maxRecDepth 100000 in
theorem z_ok_272 : z_okM 272 = true := by decide +kernel
