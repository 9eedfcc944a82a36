/-! THE METHODS' INSTRUCTIONS, 8 -/
set_option maxRecDepth 100000 in
theorem z_ok_222 : z_okM 222 = true := by decide +kernel
set_option maxRecDepth 100000 in
theorem z_ok_223 : z_okM 223 = true := by decide +kernel
set_option maxRecDepth 100000 in
theorem z_ok_224 : z_okM 224 = true := by decide +kernel
set_option maxRecDepth 100000 in
theorem z_ok_225 : z_okM 225 = true := by decide +kernel
set_option maxRecDepth 100000 in
theorem z_ok_226 : z_okM 226 = true := by decide +kernel
set_option maxRecDepth 100000 in
theorem z_ok_227 : z_okM 227 = true := by decide +kernel
set_option maxRecDepth 100000 in
theorem z_ok_228 : z_okM 228 = true := by decide +kernel
set_option maxRecDepth 100000 in
theorem z_ok_229 : z_okM 229 = true := by decide +kernel
set_option maxRecDepth 100000 in
theorem z_ok_230 : z_okM 230 = true := by decide +kernel
set_option maxRecDepth 100000 in
theorem z_ok_231 : z_okM 231 = true := by decide +kernel
set_option maxRecDepth 100000 in
theorem z_ok_232 : z_okM 232 = true := by decide +kernel
set_option maxRecDepth 100000 in
theorem z_ok_233 : z_okM 233 = true := by decide +kernel
set_option maxRecDepth 100000 in
theorem z_ok_234 : z_okM 234 = true := by decide +kernel
set_option maxRecDepth 100000 in
theorem z_ok_235 : z_okM 235 = true := by decide +kernel
set_option maxRecDepth 100000 in
theorem z_ok_236 : z_okM 236 = true := by decide +kernel
set_option maxRecDepth 100000 in
theorem z_ok_237 : z_okM 237 = true := by decide +kernel
set_option maxRecDepth 100000 in
theorem z_ok_238 : z_okM 238 = true := by decide +kernel
set_option maxRecDepth 100000 in
theorem z_ok_239 : z_okM 239 = true := by decide +kernel
set_option maxRecDepth 100000 in
theorem z_ok_240 : z_okM 240 = true := by decide +kernel
set_option maxRecDepth 100000 in
theorem z_ok_241 : z_okM 241 = true := by decide +kernel
set_option maxRecDepth 100000 in
theorem z_ok_242 : z_okM 242 = true := by decide +kernel
set_option maxRecDepth 100000 in
theorem z_ok_243 : z_okM 243 = true := by decide +kernel
set_option maxRecDepth 100000 in
theorem z_ok_244 : z_okM 244 = true := by decide +kernel
set_option maxRecDepth 100000 in
theorem z_ok_245 : z_okM 245 = true := by decide +kernel
set_option maxRecDepth 100000 in
theorem z_ok_246 : z_okM 246 = true := by decide +kernel
set_option maxRecDepth 100000 in
theorem z_ok_247 : z_okM 247 = true := by decide +kernel
set_option maxRecDepth 100000 in
theorem z_ok_248 : z_okM 248 = true := by decide +kernel
