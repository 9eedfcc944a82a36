/-! THE METHODS' INSTRUCTIONS, 7 -/
set_option maxRecDepth 100000 in
theorem z_ok_195 : z_okM 195 = true := by decide +kernel
set_option maxRecDepth 100000 in
theorem z_ok_196 : z_okM 196 = true := by decide +kernel
set_option maxRecDepth 100000 in
theorem z_ok_197 : z_okM 197 = true := by decide +kernel
set_option maxRecDepth 100000 in
theorem z_ok_198 : z_okM 198 = true := by decide +kernel
set_option maxRecDepth 100000 in
theorem z_ok_199 : z_okM 199 = true := by decide +kernel
set_option maxRecDepth 100000 in
theorem z_ok_200 : z_okM 200 = true := by decide +kernel
set_option maxRecDepth 100000 in
theorem z_ok_201 : z_okM 201 = true := by decide +kernel
set_option maxRecDepth 100000 in
theorem z_ok_202 : z_okM 202 = true := by decide +kernel
set_option maxRecDepth 100000 in
theorem z_ok_203 : z_okM 203 = true := by decide +kernel
set_option maxRecDepth 100000 in
theorem z_ok_204 : z_okM 204 = true := by decide +kernel
set_option maxRecDepth 100000 in
theorem z_ok_205 : z_okM 205 = true := by decide +kernel
set_option maxRecDepth 100000 in
theorem z_ok_206 : z_okM 206 = true := by decide +kernel
set_option maxRecDepth 100000 in
theorem z_ok_207 : z_okM 207 = true := by decide +kernel
set_option maxRecDepth 100000 in
theorem z_ok_208 : z_okM 208 = true := by decide +kernel
set_option maxRecDepth 100000 in
theorem z_ok_209 : z_okM 209 = true := by decide +kernel
set_option maxRecDepth 100000 in
theorem z_ok_210 : z_okM 210 = true := by decide +kernel
set_option maxRecDepth 100000 in
theorem z_ok_211 : z_okM 211 = true := by decide +kernel
set_option maxRecDepth 100000 in
theorem z_ok_212 : z_okM 212 = true := by decide +kernel
set_option maxRecDepth 100000 in
theorem z_ok_213 : z_okM 213 = true := by decide +kernel
set_option maxRecDepth 100000 in
theorem z_ok_214 : z_okM 214 = true := by decide +kernel
set_option maxRecDepth 100000 in
theorem z_ok_215 : z_okM 215 = true := by decide +kernel
set_option maxRecDepth 100000 in
theorem z_ok_216 : z_okM 216 = true := by decide +kernel
set_option maxRecDepth 100000 in
theorem z_ok_217 : z_okM 217 = true := by decide +kernel
set_option maxRecDepth 100000 in
theorem z_ok_218 : z_okM 218 = true := by decide +kernel
set_option maxRecDepth 100000 in
theorem z_ok_219 : z_okM 219 = true := by decide +kernel
set_option maxRecDepth 100000 in
theorem z_ok_220 : z_okM 220 = true := by decide +kernel
set_option maxRecDepth 100000 in
theorem z_ok_221 : z_okM 221 = true := by decide +kernel
