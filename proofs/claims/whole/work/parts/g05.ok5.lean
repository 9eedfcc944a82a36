/-! THE METHODS' INSTRUCTIONS, 5 -/
set_option maxRecDepth 100000 in
theorem z_ok_141 : z_okM 141 = true := by decide +kernel
set_option maxRecDepth 100000 in
theorem z_ok_142 : z_okM 142 = true := by decide +kernel
set_option maxRecDepth 100000 in
theorem z_ok_143 : z_okM 143 = true := by decide +kernel
set_option maxRecDepth 100000 in
theorem z_ok_144 : z_okM 144 = true := by decide +kernel
set_option maxRecDepth 100000 in
theorem z_ok_145 : z_okM 145 = true := by decide +kernel
set_option maxRecDepth 100000 in
theorem z_ok_146 : z_okM 146 = true := by decide +kernel
set_option maxRecDepth 100000 in
theorem z_ok_147 : z_okM 147 = true := by decide +kernel
set_option maxRecDepth 100000 in
theorem z_ok_148 : z_okM 148 = true := by decide +kernel
set_option maxRecDepth 100000 in
theorem z_ok_149 : z_okM 149 = true := by decide +kernel
set_option maxRecDepth 100000 in
theorem z_ok_150 : z_okM 150 = true := by decide +kernel
set_option maxRecDepth 100000 in
theorem z_ok_151 : z_okM 151 = true := by decide +kernel
set_option maxRecDepth 100000 in
theorem z_ok_152 : z_okM 152 = true := by decide +kernel
set_option maxRecDepth 100000 in
theorem z_ok_153 : z_okM 153 = true := by decide +kernel
set_option maxRecDepth 100000 in
theorem z_ok_154 : z_okM 154 = true := by decide +kernel
set_option maxRecDepth 100000 in
theorem z_ok_155 : z_okM 155 = true := by decide +kernel
set_option maxRecDepth 100000 in
theorem z_ok_156 : z_okM 156 = true := by decide +kernel
set_option maxRecDepth 100000 in
theorem z_ok_157 : z_okM 157 = true := by decide +kernel
set_option maxRecDepth 100000 in
theorem z_ok_158 : z_okM 158 = true := by decide +kernel
set_option maxRecDepth 100000 in
theorem z_ok_159 : z_okM 159 = true := by decide +kernel
set_option maxRecDepth 100000 in
theorem z_ok_160 : z_okM 160 = true := by decide +kernel
set_option maxRecDepth 100000 in
theorem z_ok_161 : z_okM 161 = true := by decide +kernel
set_option maxRecDepth 100000 in
theorem z_ok_162 : z_okM 162 = true := by decide +kernel
set_option maxRecDepth 100000 in
theorem z_ok_163 : z_okM 163 = true := by decide +kernel
set_option maxRecDepth 100000 in
theorem z_ok_164 : z_okM 164 = true := by decide +kernel
set_option maxRecDepth 100000 in
theorem z_ok_165 : z_okM 165 = true := by decide +kernel
set_option maxRecDepth 100000 in
theorem z_ok_166 : z_okM 166 = true := by decide +kernel
set_option maxRecDepth 100000 in
theorem z_ok_167 : z_okM 167 = true := by decide +kernel
