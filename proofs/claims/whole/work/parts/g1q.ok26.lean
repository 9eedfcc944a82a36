/-! THE METHODS' INSTRUCTIONS, 26 -/
set_option maxRecDepth 100000 in
theorem z_ok_251 : z_okM 251 = true := by decide +kernel
set_option maxRecDepth 100000 in
theorem z_ok_252 : z_okM 252 = true := by decide +kernel
set_option maxRecDepth 100000 in
theorem z_ok_253 : z_okM 253 = true := by decide +kernel
set_option maxRecDepth 100000 in
theorem z_ok_254 : z_okM 254 = true := by decide +kernel
set_option maxRecDepth 100000 in
theorem z_ok_255 : z_okM 255 = true := by decide +kernel
set_option maxRecDepth 100000 in
theorem z_ok_256 : z_okM 256 = true := by decide +kernel
set_option maxRecDepth 100000 in
theorem z_ok_257 : z_okM 257 = true := by decide +kernel
set_option maxRecDepth 100000 in
theorem z_ok_258 : z_okM 258 = true := by decide +kernel
set_option maxRecDepth 100000 in
theorem z_ok_259 : z_okM 259 = true := by decide +kernel
set_option maxRecDepth 100000 in
theorem z_ok_260 : z_okM 260 = true := by decide +kernel
set_option maxRecDepth 100000 in
theorem z_ok_261 : z_okM 261 = true := by decide +kernel
set_option maxRecDepth 100000 in
theorem z_ok_262 : z_okM 262 = true := by decide +kernel
set_option maxRecDepth 100000 in
theorem z_ok_263 : z_okM 263 = true := by decide +kernel
set_option maxRecDepth 100000 in
theorem z_ok_264 : z_okM 264 = true := by decide +kernel
set_option maxRecDepth 100000 in
theorem z_ok_265 : z_okM 265 = true := by decide +kernel
set_option maxRecDepth 100000 in
theorem z_ok_266 : z_okM 266 = true := by decide +kernel
set_option maxRecDepth 100000 in
theorem z_ok_267 : z_okM 267 = true := by decide +kernel
