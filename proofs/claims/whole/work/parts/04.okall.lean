set_option maxRecDepth 100000 in
theorem z_ok_0 : z_okM 0 = true := by decide +kernel
set_option maxRecDepth 100000 in
theorem z_ok_1 : z_okM 1 = true := by decide +kernel
set_option maxRecDepth 100000 in
theorem z_ok_2 : z_okM 2 = true := by decide +kernel
set_option maxRecDepth 100000 in
theorem z_ok_3 : z_okM 3 = true := by decide +kernel
set_option maxRecDepth 100000 in
theorem z_ok_4 : z_okM 4 = true := by decide +kernel
set_option maxRecDepth 100000 in
theorem z_ok_5 : z_okM 5 = true := by decide +kernel
set_option maxRecDepth 100000 in
theorem z_ok_6 : z_okM 6 = true := by decide +kernel
set_option maxRecDepth 100000 in
theorem z_ok_7 : z_okM 7 = true := by decide +kernel
set_option maxRecDepth 100000 in
theorem z_ok_8 : z_okM 8 = true := by decide +kernel
set_option maxRecDepth 100000 in
theorem z_ok_9 : z_okM 9 = true := by decide +kernel
set_option maxRecDepth 100000 in
theorem z_ok_10 : z_okM 10 = true := by decide +kernel
set_option maxRecDepth 100000 in
theorem z_ok_11 : z_okM 11 = true := by decide +kernel
set_option maxRecDepth 100000 in
theorem z_ok_12 : z_okM 12 = true := by decide +kernel
set_option maxRecDepth 100000 in
theorem z_ok_13 : z_okM 13 = true := by decide +kernel
set_option maxRecDepth 100000 in
theorem z_ok_14 : z_okM 14 = true := by decide +kernel
set_option maxRecDepth 100000 in
theorem z_ok_15 : z_okM 15 = true := by decide +kernel
set_option maxRecDepth 100000 in
theorem z_ok_16 : z_okM 16 = true := by decide +kernel
set_option maxRecDepth 100000 in
theorem z_ok_17 : z_okM 17 = true := by decide +kernel
set_option maxRecDepth 100000 in
theorem z_ok_18 : z_okM 18 = true := by decide +kernel
set_option maxRecDepth 100000 in
theorem z_ok_19 : z_okM 19 = true := by decide +kernel
set_option maxRecDepth 100000 in
theorem z_ok_20 : z_okM 20 = true := by decide +kernel
set_option maxRecDepth 100000 in
theorem z_ok_21 : z_okM 21 = true := by decide +kernel
set_option maxRecDepth 100000 in
theorem z_ok_22 : z_okM 22 = true := by decide +kernel
set_option maxRecDepth 100000 in
theorem z_ok_23 : z_okM 23 = true := by decide +kernel
set_option maxRecDepth 100000 in
theorem z_ok_24 : z_okM 24 = true := by decide +kernel
set_option maxRecDepth 100000 in
theorem z_ok_25 : z_okM 25 = true := by decide +kernel
set_option maxRecDepth 100000 in
theorem z_ok_26 : z_okM 26 = true := by decide +kernel
set_option maxRecDepth 100000 in
theorem z_ok_27 : z_okM 27 = true := by decide +kernel
set_option maxRecDepth 100000 in
theorem z_ok_28 : z_okM 28 = true := by decide +kernel
set_option maxRecDepth 100000 in
theorem z_ok_29 : z_okM 29 = true := by decide +kernel
set_option maxRecDepth 100000 in
theorem z_ok_30 : z_okM 30 = true := by decide +kernel
set_option maxRecDepth 100000 in
theorem z_ok_31 : z_okM 31 = true := by decide +kernel
set_option maxRecDepth 100000 in
theorem z_ok_32 : z_okM 32 = true := by decide +kernel
set_option maxRecDepth 100000 in
theorem z_ok_33 : z_okM 33 = true := by decide +kernel
set_option maxRecDepth 100000 in
theorem z_ok_34 : z_okM 34 = true := by decide +kernel
set_option maxRecDepth 100000 in
theorem z_ok_35 : z_okM 35 = true := by decide +kernel
set_option maxRecDepth 100000 in
theorem z_ok_36 : z_okM 36 = true := by decide +kernel
set_option maxRecDepth 100000 in
theorem z_ok_37 : z_okM 37 = true := by decide +kernel
set_option maxRecDepth 100000 in
theorem z_ok_38 : z_okM 38 = true := by decide +kernel
set_option maxRecDepth 100000 in
theorem z_ok_39 : z_okM 39 = true := by decide +kernel
set_option maxRecDepth 100000 in
theorem z_ok_40 : z_okM 40 = true := by decide +kernel
set_option maxRecDepth 100000 in
theorem z_ok_41 : z_okM 41 = true := by decide +kernel
set_option maxRecDepth 100000 in
theorem z_ok_42 : z_okM 42 = true := by decide +kernel
set_option maxRecDepth 100000 in
theorem z_ok_43 : z_okM 43 = true := by decide +kernel
set_option maxRecDepth 100000 in
theorem z_ok_44 : z_okM 44 = true := by decide +kernel
set_option maxRecDepth 100000 in
theorem z_ok_45 : z_okM 45 = true := by decide +kernel
set_option maxRecDepth 100000 in
theorem z_ok_46 : z_okM 46 = true := by decide +kernel
set_option maxRecDepth 100000 in
theorem z_ok_47 : z_okM 47 = true := by decide +kernel
set_option maxRecDepth 100000 in
theorem z_ok_48 : z_okM 48 = true := by decide +kernel
set_option maxRecDepth 100000 in
theorem z_ok_49 : z_okM 49 = true := by decide +kernel
set_option maxRecDepth 100000 in
theorem z_ok_50 : z_okM 50 = true := by decide +kernel
set_option maxRecDepth 100000 in
theorem z_ok_51 : z_okM 51 = true := by decide +kernel
set_option maxRecDepth 100000 in
theorem z_ok_52 : z_okM 52 = true := by decide +kernel
set_option maxRecDepth 100000 in
theorem z_ok_53 : z_okM 53 = true := by decide +kernel
set_option maxRecDepth 100000 in
theorem z_ok_54 : z_okM 54 = true := by decide +kernel
set_option maxRecDepth 100000 in
theorem z_ok_55 : z_okM 55 = true := by decide +kernel
set_option maxRecDepth 100000 in
theorem z_ok_56 : z_okM 56 = true := by decide +kernel
set_option maxRecDepth 100000 in
theorem z_ok_57 : z_okM 57 = true := by decide +kernel
set_option maxRecDepth 100000 in
theorem z_ok_58 : z_okM 58 = true := by decide +kernel
set_option maxRecDepth 100000 in
theorem z_ok_59 : z_okM 59 = true := by decide +kernel
set_option maxRecDepth 100000 in
theorem z_ok_60 : z_okM 60 = true := by decide +kernel
set_option maxRecDepth 100000 in
theorem z_ok_61 : z_okM 61 = true := by decide +kernel
set_option maxRecDepth 100000 in
theorem z_ok_62 : z_okM 62 = true := by decide +kernel
set_option maxRecDepth 100000 in
theorem z_ok_63 : z_okM 63 = true := by decide +kernel
set_option maxRecDepth 100000 in
theorem z_ok_64 : z_okM 64 = true := by decide +kernel
set_option maxRecDepth 100000 in
theorem z_ok_65 : z_okM 65 = true := by decide +kernel
set_option maxRecDepth 100000 in
theorem z_ok_66 : z_okM 66 = true := by decide +kernel
set_option maxRecDepth 100000 in
theorem z_ok_67 : z_okM 67 = true := by decide +kernel
set_option maxRecDepth 100000 in
theorem z_ok_68 : z_okM 68 = true := by decide +kernel
set_option maxRecDepth 100000 in
theorem z_ok_69 : z_okM 69 = true := by decide +kernel
set_option maxRecDepth 100000 in
theorem z_ok_70 : z_okM 70 = true := by decide +kernel
set_option maxRecDepth 100000 in
theorem z_ok_71 : z_okM 71 = true := by decide +kernel
set_option maxRecDepth 100000 in
theorem z_ok_72 : z_okM 72 = true := by decide +kernel
set_option maxRecDepth 100000 in
theorem z_ok_73 : z_okM 73 = true := by decide +kernel
set_option maxRecDepth 100000 in
theorem z_ok_74 : z_okM 74 = true := by decide +kernel
set_option maxRecDepth 100000 in
theorem z_ok_75 : z_okM 75 = true := by decide +kernel
set_option maxRecDepth 100000 in
theorem z_ok_76 : z_okM 76 = true := by decide +kernel
set_option maxRecDepth 100000 in
theorem z_ok_77 : z_okM 77 = true := by decide +kernel
set_option maxRecDepth 100000 in
theorem z_ok_78 : z_okM 78 = true := by decide +kernel
set_option maxRecDepth 100000 in
theorem z_ok_79 : z_okM 79 = true := by decide +kernel
set_option maxRecDepth 100000 in
theorem z_ok_80 : z_okM 80 = true := by decide +kernel
set_option maxRecDepth 100000 in
theorem z_ok_81 : z_okM 81 = true := by decide +kernel
set_option maxRecDepth 100000 in
theorem z_ok_82 : z_okM 82 = true := by decide +kernel
set_option maxRecDepth 100000 in
theorem z_ok_83 : z_okM 83 = true := by decide +kernel
set_option maxRecDepth 100000 in
theorem z_ok_84 : z_okM 84 = true := by decide +kernel
set_option maxRecDepth 100000 in
theorem z_ok_85 : z_okM 85 = true := by decide +kernel
set_option maxRecDepth 100000 in
theorem z_ok_86 : z_okM 86 = true := by decide +kernel
set_option maxRecDepth 100000 in
theorem z_ok_87 : z_okM 87 = true := by decide +kernel
set_option maxRecDepth 100000 in
theorem z_ok_88 : z_okM 88 = true := by decide +kernel
set_option maxRecDepth 100000 in
theorem z_ok_89 : z_okM 89 = true := by decide +kernel
set_option maxRecDepth 100000 in
theorem z_ok_90 : z_okM 90 = true := by decide +kernel
set_option maxRecDepth 100000 in
theorem z_ok_91 : z_okM 91 = true := by decide +kernel
set_option maxRecDepth 100000 in
theorem z_ok_92 : z_okM 92 = true := by decide +kernel
set_option maxRecDepth 100000 in
theorem z_ok_93 : z_okM 93 = true := by decide +kernel
set_option maxRecDepth 100000 in
theorem z_ok_94 : z_okM 94 = true := by decide +kernel
set_option maxRecDepth 100000 in
theorem z_ok_95 : z_okM 95 = true := by decide +kernel
set_option maxRecDepth 100000 in
theorem z_ok_96 : z_okM 96 = true := by decide +kernel
set_option maxRecDepth 100000 in
theorem z_ok_97 : z_okM 97 = true := by decide +kernel
set_option maxRecDepth 100000 in
theorem z_ok_98 : z_okM 98 = true := by decide +kernel
set_option maxRecDepth 100000 in
theorem z_ok_99 : z_okM 99 = true := by decide +kernel
set_option maxRecDepth 100000 in
theorem z_ok_100 : z_okM 100 = true := by decide +kernel
set_option maxRecDepth 100000 in
theorem z_ok_101 : z_okM 101 = true := by decide +kernel
set_option maxRecDepth 100000 in
theorem z_ok_102 : z_okM 102 = true := by decide +kernel
set_option maxRecDepth 100000 in
theorem z_ok_103 : z_okM 103 = true := by decide +kernel
set_option maxRecDepth 100000 in
theorem z_ok_104 : z_okM 104 = true := by decide +kernel
set_option maxRecDepth 100000 in
theorem z_ok_105 : z_okM 105 = true := by decide +kernel
set_option maxRecDepth 100000 in
theorem z_ok_106 : z_okM 106 = true := by decide +kernel
set_option maxRecDepth 100000 in
theorem z_ok_107 : z_okM 107 = true := by decide +kernel
set_option maxRecDepth 100000 in
theorem z_ok_108 : z_okM 108 = true := by decide +kernel
set_option maxRecDepth 100000 in
theorem z_ok_109 : z_okM 109 = true := by decide +kernel
set_option maxRecDepth 100000 in
theorem z_ok_110 : z_okM 110 = true := by decide +kernel
set_option maxRecDepth 100000 in
theorem z_ok_111 : z_okM 111 = true := by decide +kernel
set_option maxRecDepth 100000 in
theorem z_ok_112 : z_okM 112 = true := by decide +kernel
set_option maxRecDepth 100000 in
theorem z_ok_113 : z_okM 113 = true := by decide +kernel
set_option maxRecDepth 100000 in
theorem z_ok_114 : z_okM 114 = true := by decide +kernel
set_option maxRecDepth 100000 in
theorem z_ok_115 : z_okM 115 = true := by decide +kernel
set_option maxRecDepth 100000 in
theorem z_ok_116 : z_okM 116 = true := by decide +kernel
set_option maxRecDepth 100000 in
theorem z_ok_117 : z_okM 117 = true := by decide +kernel
set_option maxRecDepth 100000 in
theorem z_ok_118 : z_okM 118 = true := by decide +kernel
set_option maxRecDepth 100000 in
theorem z_ok_119 : z_okM 119 = true := by decide +kernel
set_option maxRecDepth 100000 in
theorem z_ok_120 : z_okM 120 = true := by decide +kernel
set_option maxRecDepth 100000 in
theorem z_ok_121 : z_okM 121 = true := by decide +kernel
set_option maxRecDepth 100000 in
theorem z_ok_122 : z_okM 122 = true := by decide +kernel
set_option maxRecDepth 100000 in
theorem z_ok_123 : z_okM 123 = true := by decide +kernel
set_option maxRecDepth 100000 in
theorem z_ok_124 : z_okM 124 = true := by decide +kernel
set_option maxRecDepth 100000 in
theorem z_ok_125 : z_okM 125 = true := by decide +kernel
set_option maxRecDepth 100000 in
theorem z_ok_126 : z_okM 126 = true := by decide +kernel
set_option maxRecDepth 100000 in
theorem z_ok_127 : z_okM 127 = true := by decide +kernel
set_option maxRecDepth 100000 in
theorem z_ok_128 : z_okM 128 = true := by decide +kernel
set_option maxRecDepth 100000 in
theorem z_ok_129 : z_okM 129 = true := by decide +kernel
set_option maxRecDepth 100000 in
theorem z_ok_130 : z_okM 130 = true := by decide +kernel
set_option maxRecDepth 100000 in
theorem z_ok_131 : z_okM 131 = true := by decide +kernel
set_option maxRecDepth 100000 in
theorem z_ok_132 : z_okM 132 = true := by decide +kernel
set_option maxRecDepth 100000 in
theorem z_ok_133 : z_okM 133 = true := by decide +kernel
set_option maxRecDepth 100000 in
theorem z_ok_134 : z_okM 134 = true := by decide +kernel
set_option maxRecDepth 100000 in
theorem z_ok_135 : z_okM 135 = true := by decide +kernel
set_option maxRecDepth 100000 in
theorem z_ok_136 : z_okM 136 = true := by decide +kernel
set_option maxRecDepth 100000 in
theorem z_ok_137 : z_okM 137 = true := by decide +kernel
set_option maxRecDepth 100000 in
theorem z_ok_138 : z_okM 138 = true := by decide +kernel
set_option maxRecDepth 100000 in
theorem z_ok_139 : z_okM 139 = true := by decide +kernel
set_option maxRecDepth 100000 in
theorem z_ok_140 : z_okM 140 = true := by decide +kernel
set_option maxRecDepth 100000 in
theorem z_ok_141 : z_okM 141 = true := by decide +kernel
set_option maxRecDepth 100000 in
theorem z_ok_142 : z_okM 142 = true := by decide +kernel
set_option maxRecDepth 100000 in
theorem z_ok_143 : z_okM 143 = true := by decide +kernel
set_option maxRecDepth 100000 in
theorem z_ok_144 : z_okM 144 = true := by decide +kernel
set_option maxRecDepth 100000 in
theorem z_ok_145 : z_okM 145 = true := by decide +kernel
set_option maxRecDepth 100000 in
theorem z_ok_146 : z_okM 146 = true := by decide +kernel
set_option maxRecDepth 100000 in
theorem z_ok_147 : z_okM 147 = true := by decide +kernel
set_option maxRecDepth 100000 in
theorem z_ok_148 : z_okM 148 = true := by decide +kernel
set_option maxRecDepth 100000 in
theorem z_ok_149 : z_okM 149 = true := by decide +kernel
set_option maxRecDepth 100000 in
theorem z_ok_150 : z_okM 150 = true := by decide +kernel
set_option maxRecDepth 100000 in
theorem z_ok_151 : z_okM 151 = true := by decide +kernel
set_option maxRecDepth 100000 in
theorem z_ok_152 : z_okM 152 = true := by decide +kernel
set_option maxRecDepth 100000 in
theorem z_ok_153 : z_okM 153 = true := by decide +kernel
set_option maxRecDepth 100000 in
theorem z_ok_154 : z_okM 154 = true := by decide +kernel
set_option maxRecDepth 100000 in
theorem z_ok_155 : z_okM 155 = true := by decide +kernel
set_option maxRecDepth 100000 in
theorem z_ok_156 : z_okM 156 = true := by decide +kernel
set_option maxRecDepth 100000 in
theorem z_ok_157 : z_okM 157 = true := by decide +kernel
set_option maxRecDepth 100000 in
theorem z_ok_158 : z_okM 158 = true := by decide +kernel
set_option maxRecDepth 100000 in
theorem z_ok_159 : z_okM 159 = true := by decide +kernel
set_option maxRecDepth 100000 in
theorem z_ok_160 : z_okM 160 = true := by decide +kernel
set_option maxRecDepth 100000 in
theorem z_ok_161 : z_okM 161 = true := by decide +kernel
set_option maxRecDepth 100000 in
theorem z_ok_162 : z_okM 162 = true := by decide +kernel
set_option maxRecDepth 100000 in
theorem z_ok_163 : z_okM 163 = true := by decide +kernel
set_option maxRecDepth 100000 in
theorem z_ok_164 : z_okM 164 = true := by decide +kernel
set_option maxRecDepth 100000 in
theorem z_ok_165 : z_okM 165 = true := by decide +kernel
set_option maxRecDepth 100000 in
theorem z_ok_166 : z_okM 166 = true := by decide +kernel
set_option maxRecDepth 100000 in
theorem z_ok_167 : z_okM 167 = true := by decide +kernel
set_option maxRecDepth 100000 in
theorem z_ok_168 : z_okM 168 = true := by decide +kernel
set_option maxRecDepth 100000 in
theorem z_ok_169 : z_okM 169 = true := by decide +kernel
set_option maxRecDepth 100000 in
theorem z_ok_170 : z_okM 170 = true := by decide +kernel
set_option maxRecDepth 100000 in
theorem z_ok_171 : z_okM 171 = true := by decide +kernel
set_option maxRecDepth 100000 in
theorem z_ok_172 : z_okM 172 = true := by decide +kernel
set_option maxRecDepth 100000 in
theorem z_ok_173 : z_okM 173 = true := by decide +kernel
set_option maxRecDepth 100000 in
theorem z_ok_174 : z_okM 174 = true := by decide +kernel
set_option maxRecDepth 100000 in
theorem z_ok_175 : z_okM 175 = true := by decide +kernel
set_option maxRecDepth 100000 in
theorem z_ok_176 : z_okM 176 = true := by decide +kernel
set_option maxRecDepth 100000 in
theorem z_ok_177 : z_okM 177 = true := by decide +kernel
set_option maxRecDepth 100000 in
theorem z_ok_178 : z_okM 178 = true := by decide +kernel
set_option maxRecDepth 100000 in
theorem z_ok_179 : z_okM 179 = true := by decide +kernel
set_option maxRecDepth 100000 in
theorem z_ok_180 : z_okM 180 = true := by decide +kernel
set_option maxRecDepth 100000 in
theorem z_ok_181 : z_okM 181 = true := by decide +kernel
set_option maxRecDepth 100000 in
theorem z_ok_182 : z_okM 182 = true := by decide +kernel
set_option maxRecDepth 100000 in
theorem z_ok_183 : z_okM 183 = true := by decide +kernel
set_option maxRecDepth 100000 in
theorem z_ok_184 : z_okM 184 = true := by decide +kernel
set_option maxRecDepth 100000 in
theorem z_ok_185 : z_okM 185 = true := by decide +kernel
set_option maxRecDepth 100000 in
theorem z_ok_186 : z_okM 186 = true := by decide +kernel
set_option maxRecDepth 100000 in
theorem z_ok_187 : z_okM 187 = true := by decide +kernel
set_option maxRecDepth 100000 in
theorem z_ok_188 : z_okM 188 = true := by decide +kernel
set_option maxRecDepth 100000 in
theorem z_ok_189 : z_okM 189 = true := by decide +kernel
set_option maxRecDepth 100000 in
theorem z_ok_190 : z_okM 190 = true := by decide +kernel
set_option maxRecDepth 100000 in
theorem z_ok_191 : z_okM 191 = true := by decide +kernel
set_option maxRecDepth 100000 in
theorem z_ok_192 : z_okM 192 = true := by decide +kernel
set_option maxRecDepth 100000 in
theorem z_ok_193 : z_okM 193 = true := by decide +kernel
set_option maxRecDepth 100000 in
theorem z_ok_194 : z_okM 194 = true := by decide +kernel
set_option maxRecDepth 100000 in
theorem z_ok_195 : z_okM 195 = true := by decide +kernel
set_option maxRecDepth 100000 in
theorem z_ok_196 : z_okM 196 = true := by decide +kernel
set_option maxRecDepth 100000 in
theorem z_ok_197 : z_okM 197 = true := by decide +kernel
set_option maxRecDepth 100000 in
theorem z_ok_198 : z_okM 198 = true := by decide +kernel
set_option maxRecDepth 100000 in
theorem z_ok_199 : z_okM 199 = true := by decide +kernel
set_option maxRecDepth 100000 in
theorem z_ok_200 : z_okM 200 = true := by decide +kernel
set_option maxRecDepth 100000 in
theorem z_ok_201 : z_okM 201 = true := by decide +kernel
set_option maxRecDepth 100000 in
theorem z_ok_202 : z_okM 202 = true := by decide +kernel
set_option maxRecDepth 100000 in
theorem z_ok_203 : z_okM 203 = true := by decide +kernel
set_option maxRecDepth 100000 in
theorem z_ok_204 : z_okM 204 = true := by decide +kernel
set_option maxRecDepth 100000 in
theorem z_ok_205 : z_okM 205 = true := by decide +kernel
set_option maxRecDepth 100000 in
theorem z_ok_206 : z_okM 206 = true := by decide +kernel
set_option maxRecDepth 100000 in
theorem z_ok_207 : z_okM 207 = true := by decide +kernel
set_option maxRecDepth 100000 in
theorem z_ok_208 : z_okM 208 = true := by decide +kernel
set_option maxRecDepth 100000 in
theorem z_ok_209 : z_okM 209 = true := by decide +kernel
set_option maxRecDepth 100000 in
theorem z_ok_210 : z_okM 210 = true := by decide +kernel
set_option maxRecDepth 100000 in
theorem z_ok_211 : z_okM 211 = true := by decide +kernel
set_option maxRecDepth 100000 in
theorem z_ok_212 : z_okM 212 = true := by decide +kernel
set_option maxRecDepth 100000 in
theorem z_ok_213 : z_okM 213 = true := by decide +kernel
set_option maxRecDepth 100000 in
theorem z_ok_214 : z_okM 214 = true := by decide +kernel
set_option maxRecDepth 100000 in
theorem z_ok_215 : z_okM 215 = true := by decide +kernel
set_option maxRecDepth 100000 in
theorem z_ok_216 : z_okM 216 = true := by decide +kernel
set_option maxRecDepth 100000 in
theorem z_ok_217 : z_okM 217 = true := by decide +kernel
set_option maxRecDepth 100000 in
theorem z_ok_218 : z_okM 218 = true := by decide +kernel
set_option maxRecDepth 100000 in
theorem z_ok_219 : z_okM 219 = true := by decide +kernel
set_option maxRecDepth 100000 in
theorem z_ok_220 : z_okM 220 = true := by decide +kernel
set_option maxRecDepth 100000 in
theorem z_ok_221 : z_okM 221 = true := by decide +kernel
set_option maxRecDepth 100000 in
theorem z_ok_222 : z_okM 222 = true := by decide +kernel
set_option maxRecDepth 100000 in
theorem z_ok_223 : z_okM 223 = true := by decide +kernel
set_option maxRecDepth 100000 in
theorem z_ok_224 : z_okM 224 = true := by decide +kernel
set_option maxRecDepth 100000 in
theorem z_ok_225 : z_okM 225 = true := by decide +kernel
set_option maxRecDepth 100000 in
theorem z_ok_226 : z_okM 226 = true := by decide +kernel
set_option maxRecDepth 100000 in
theorem z_ok_227 : z_okM 227 = true := by decide +kernel
set_option maxRecDepth 100000 in
theorem z_ok_228 : z_okM 228 = true := by decide +kernel
set_option maxRecDepth 100000 in
theorem z_ok_229 : z_okM 229 = true := by decide +kernel
set_option maxRecDepth 100000 in
theorem z_ok_230 : z_okM 230 = true := by decide +kernel
set_option maxRecDepth 100000 in
theorem z_ok_231 : z_okM 231 = true := by decide +kernel
set_option maxRecDepth 100000 in
theorem z_ok_232 : z_okM 232 = true := by decide +kernel
set_option maxRecDepth 100000 in
theorem z_ok_233 : z_okM 233 = true := by decide +kernel
set_option maxRecDepth 100000 in
theorem z_ok_234 : z_okM 234 = true := by decide +kernel
set_option maxRecDepth 100000 in
theorem z_ok_235 : z_okM 235 = true := by decide +kernel
set_option maxRecDepth 100000 in
theorem z_ok_236 : z_okM 236 = true := by decide +kernel
set_option maxRecDepth 100000 in
theorem z_ok_237 : z_okM 237 = true := by decide +kernel
set_option maxRecDepth 100000 in
theorem z_ok_238 : z_okM 238 = true := by decide +kernel
set_option maxRecDepth 100000 in
theorem z_ok_239 : z_okM 239 = true := by decide +kernel
set_option maxRecDepth 100000 in
theorem z_ok_240 : z_okM 240 = true := by decide +kernel
set_option maxRecDepth 100000 in
theorem z_ok_241 : z_okM 241 = true := by decide +kernel
set_option maxRecDepth 100000 in
theorem z_ok_242 : z_okM 242 = true := by decide +kernel
set_option maxRecDepth 100000 in
theorem z_ok_243 : z_okM 243 = true := by decide +kernel
set_option maxRecDepth 100000 in
theorem z_ok_244 : z_okM 244 = true := by decide +kernel
set_option maxRecDepth 100000 in
theorem z_ok_245 : z_okM 245 = true := by decide +kernel
set_option maxRecDepth 100000 in
theorem z_ok_246 : z_okM 246 = true := by decide +kernel
set_option maxRecDepth 100000 in
theorem z_ok_247 : z_okM 247 = true := by decide +kernel
set_option maxRecDepth 100000 in
theorem z_ok_248 : z_okM 248 = true := by decide +kernel
set_option maxRecDepth 100000 in
theorem z_ok_249 : z_okM 249 = true := by decide +kernel
set_option maxRecDepth 100000 in
theorem z_ok_250 : z_okM 250 = true := by decide +kernel
set_option maxRecDepth 100000 in
theorem z_ok_251 : z_okM 251 = true := by decide +kernel
set_option maxRecDepth 100000 in
theorem z_ok_252 : z_okM 252 = true := by decide +kernel
set_option maxRecDepth 100000 in
theorem z_ok_253 : z_okM 253 = true := by decide +kernel
set_option maxRecDepth 100000 in
theorem z_ok_254 : z_okM 254 = true := by decide +kernel
set_option maxRecDepth 100000 in
theorem z_ok_255 : z_okM 255 = true := by decide +kernel
set_option maxRecDepth 100000 in
theorem z_ok_256 : z_okM 256 = true := by decide +kernel
set_option maxRecDepth 100000 in
theorem z_ok_257 : z_okM 257 = true := by decide +kernel
set_option maxRecDepth 100000 in
theorem z_ok_258 : z_okM 258 = true := by decide +kernel
set_option maxRecDepth 100000 in
theorem z_ok_259 : z_okM 259 = true := by decide +kernel
set_option maxRecDepth 100000 in
theorem z_ok_260 : z_okM 260 = true := by decide +kernel
set_option maxRecDepth 100000 in
theorem z_ok_261 : z_okM 261 = true := by decide +kernel
set_option maxRecDepth 100000 in
theorem z_ok_262 : z_okM 262 = true := by decide +kernel
set_option maxRecDepth 100000 in
theorem z_ok_263 : z_okM 263 = true := by decide +kernel
set_option maxRecDepth 100000 in
theorem z_ok_264 : z_okM 264 = true := by decide +kernel
set_option maxRecDepth 100000 in
theorem z_ok_265 : z_okM 265 = true := by decide +kernel
set_option maxRecDepth 100000 in
theorem z_ok_266 : z_okM 266 = true := by decide +kernel
set_option maxRecDepth 100000 in
theorem z_ok_267 : z_okM 267 = true := by decide +kernel
set_option maxRecDepth 100000 in
theorem z_ok_268 : z_okM 268 = true := by decide +kernel
set_option maxRecDepth 100000 in
theorem z_ok_269 : z_okM 269 = true := by decide +kernel
set_option maxRecDepth 100000 in
theorem z_ok_270 : z_okM 270 = true := by decide +kernel
set_option maxRecDepth 100000 in
theorem z_ok_271 : z_okM 271 = true := by decide +kernel
set_option maxRecDepth 100000 in
theorem z_ok_272 : z_okM 272 = true := by decide +kernel
