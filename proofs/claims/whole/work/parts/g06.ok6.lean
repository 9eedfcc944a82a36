/-! THE METHODS' INSTRUCTIONS, 6 -/
set_option maxRecDepth 100000 in
theorem z_ok_168 : z_okM 168 = true := by decide +kernel
set_option maxRecDepth 100000 in
theorem z_ok_169 : z_okM 169 = true := by decide +kernel
set_option maxRecDepth 100000 in
theorem z_ok_170 : z_okM 170 = true := by decide +kernel
set_option maxRecDepth 100000 in
theorem z_ok_171 : z_okM 171 = true := by decide +kernel
set_option maxRecDepth 100000 in
theorem z_ok_172 : z_okM 172 = true := by decide +kernel
set_option maxRecDepth 100000 in
theorem z_ok_173 : z_okM 173 = true := by decide +kernel
set_option maxRecDepth 100000 in
theorem z_ok_174 : z_okM 174 = true := by decide +kernel
set_option maxRecDepth 100000 in
theorem z_ok_175 : z_okM 175 = true := by decide +kernel
set_option maxRecDepth 100000 in
theorem z_ok_176 : z_okM 176 = true := by decide +kernel
set_option maxRecDepth 100000 in
theorem z_ok_177 : z_okM 177 = true := by decide +kernel
set_option maxRecDepth 100000 in
theorem z_ok_178 : z_okM 178 = true := by decide +kernel
set_option maxRecDepth 100000 in
theorem z_ok_179 : z_okM 179 = true := by decide +kernel
set_option maxRecDepth 100000 in
theorem z_ok_180 : z_okM 180 = true := by decide +kernel
set_option maxRecDepth 100000 in
theorem z_ok_181 : z_okM 181 = true := by decide +kernel
set_option maxRecDepth 100000 in
theorem z_ok_182 : z_okM 182 = true := by decide +kernel
set_option maxRecDepth 100000 in
theorem z_ok_183 : z_okM 183 = true := by decide +kernel
set_option maxRecDepth 100000 in
theorem z_ok_184 : z_okM 184 = true := by decide +kernel
set_option maxRecDepth 100000 in
theorem z_ok_185 : z_okM 185 = true := by decide +kernel
set_option maxRecDepth 100000 in
theorem z_ok_186 : z_okM 186 = true := by decide +kernel
set_option maxRecDepth 100000 in
theorem z_ok_187 : z_okM 187 = true := by decide +kernel
set_option maxRecDepth 100000 in
theorem z_ok_188 : z_okM 188 = true := by decide +kernel
set_option maxRecDepth 100000 in
theorem z_ok_189 : z_okM 189 = true := by decide +kernel
set_option maxRecDepth 100000 in
theorem z_ok_190 : z_okM 190 = true := by decide +kernel
set_option maxRecDepth 100000 in
theorem z_ok_191 : z_okM 191 = true := by decide +kernel
set_option maxRecDepth 100000 in
theorem z_ok_192 : z_okM 192 = true := by decide +kernel
set_option maxRecDepth 100000 in
theorem z_ok_193 : z_okM 193 = true := by decide +kernel
set_option maxRecDepth 100000 in
theorem z_ok_194 : z_okM 194 = true := by decide +kernel
