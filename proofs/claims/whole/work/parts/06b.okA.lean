theorem mz_ok_0 : mz_ok 0 = true := by decide +kernel
theorem mz_ok_1 : mz_ok 1 = true := by decide +kernel
theorem mz_ok_2 : mz_ok 2 = true := by decide +kernel
theorem mz_ok_3 : mz_ok 3 = true := by decide +kernel
theorem mz_ok_4 : mz_ok 4 = true := by decide +kernel
theorem mz_ok_5 : mz_ok 5 = true := by decide +kernel
theorem mz_ok_6 : mz_ok 6 = true := by decide +kernel
theorem mz_ok_7 : mz_ok 7 = true := by decide +kernel
theorem mz_ok_8 : mz_ok 8 = true := by decide +kernel
theorem mz_ok_9 : mz_ok 9 = true := by decide +kernel
theorem mz_ok_10 : mz_ok 10 = true := by decide +kernel
theorem mz_ok_11 : mz_ok 11 = true := by decide +kernel
theorem mz_ok_12 : mz_ok 12 = true := by decide +kernel
theorem mz_ok_13 : mz_ok 13 = true := by decide +kernel
theorem mz_ok_14 : mz_ok 14 = true := by decide +kernel
theorem mz_ok_15 : mz_ok 15 = true := by decide +kernel
theorem mz_ok_16 : mz_ok 16 = true := by decide +kernel
theorem mz_ok_17 : mz_ok 17 = true := by decide +kernel
theorem mz_ok_18 : mz_ok 18 = true := by decide +kernel
theorem mz_ok_19 : mz_ok 19 = true := by decide +kernel
theorem mz_ok_20 : mz_ok 20 = true := by decide +kernel
theorem mz_ok_21 : mz_ok 21 = true := by decide +kernel
theorem mz_ok_22 : mz_ok 22 = true := by decide +kernel
theorem mz_ok_23 : mz_ok 23 = true := by decide +kernel
theorem mz_ok_24 : mz_ok 24 = true := by decide +kernel
theorem mz_ok_25 : mz_ok 25 = true := by decide +kernel
theorem mz_ok_26 : mz_ok 26 = true := by decide +kernel
theorem mz_ok_27 : mz_ok 27 = true := by decide +kernel
theorem mz_ok_28 : mz_ok 28 = true := by decide +kernel
theorem mz_ok_29 : mz_ok 29 = true := by decide +kernel
theorem mz_ok_30 : mz_ok 30 = true := by decide +kernel
theorem mz_ok_31 : mz_ok 31 = true := by decide +kernel
theorem mz_ok_32 : mz_ok 32 = true := by decide +kernel
theorem mz_ok_33 : mz_ok 33 = true := by decide +kernel
theorem mz_ok_34 : mz_ok 34 = true := by decide +kernel
theorem mz_ok_35 : mz_ok 35 = true := by decide +kernel
theorem mz_ok_36 : mz_ok 36 = true := by decide +kernel
theorem mz_ok_37 : mz_ok 37 = true := by decide +kernel
theorem mz_ok_38 : mz_ok 38 = true := by decide +kernel
theorem mz_ok_39 : mz_ok 39 = true := by decide +kernel
theorem mz_ok_40 : mz_ok 40 = true := by decide +kernel
theorem mz_ok_41 : mz_ok 41 = true := by decide +kernel
theorem mz_ok_42 : mz_ok 42 = true := by decide +kernel
theorem mz_ok_43 : mz_ok 43 = true := by decide +kernel
theorem mz_ok_44 : mz_ok 44 = true := by decide +kernel
theorem mz_ok_45 : mz_ok 45 = true := by decide +kernel
theorem mz_ok_46 : mz_ok 46 = true := by decide +kernel
theorem mz_ok_47 : mz_ok 47 = true := by decide +kernel
theorem mz_ok_48 : mz_ok 48 = true := by decide +kernel
theorem mz_ok_49 : mz_ok 49 = true := by decide +kernel
theorem mz_ok_50 : mz_ok 50 = true := by decide +kernel
theorem mz_ok_51 : mz_ok 51 = true := by decide +kernel
theorem mz_ok_52 : mz_ok 52 = true := by decide +kernel
theorem mz_ok_53 : mz_ok 53 = true := by decide +kernel
theorem mz_ok_54 : mz_ok 54 = true := by decide +kernel
theorem mz_ok_55 : mz_ok 55 = true := by decide +kernel
theorem mz_ok_56 : mz_ok 56 = true := by decide +kernel
theorem mz_ok_57 : mz_ok 57 = true := by decide +kernel
theorem mz_ok_58 : mz_ok 58 = true := by decide +kernel
theorem mz_ok_59 : mz_ok 59 = true := by decide +kernel
theorem mz_ok_60 : mz_ok 60 = true := by decide +kernel
theorem mz_ok_61 : mz_ok 61 = true := by decide +kernel
theorem mz_ok_62 : mz_ok 62 = true := by decide +kernel
theorem mz_ok_63 : mz_ok 63 = true := by decide +kernel
theorem mz_ok_64 : mz_ok 64 = true := by decide +kernel
theorem mz_ok_65 : mz_ok 65 = true := by decide +kernel
theorem mz_ok_66 : mz_ok 66 = true := by decide +kernel
theorem mz_ok_67 : mz_ok 67 = true := by decide +kernel
theorem mz_ok_68 : mz_ok 68 = true := by decide +kernel
theorem mz_ok_69 : mz_ok 69 = true := by decide +kernel
theorem mz_ok_70 : mz_ok 70 = true := by decide +kernel
theorem mz_ok_71 : mz_ok 71 = true := by decide +kernel
theorem mz_ok_72 : mz_ok 72 = true := by decide +kernel
theorem mz_ok_73 : mz_ok 73 = true := by decide +kernel
theorem mz_ok_74 : mz_ok 74 = true := by decide +kernel
theorem mz_ok_75 : mz_ok 75 = true := by decide +kernel
theorem mz_ok_76 : mz_ok 76 = true := by decide +kernel
theorem mz_ok_77 : mz_ok 77 = true := by decide +kernel
theorem mz_ok_78 : mz_ok 78 = true := by decide +kernel
theorem mz_ok_79 : mz_ok 79 = true := by decide +kernel
theorem mz_ok_80 : mz_ok 80 = true := by decide +kernel
theorem mz_ok_81 : mz_ok 81 = true := by decide +kernel
theorem mz_ok_82 : mz_ok 82 = true := by decide +kernel
theorem mz_ok_83 : mz_ok 83 = true := by decide +kernel
theorem mz_ok_84 : mz_ok 84 = true := by decide +kernel
theorem mz_ok_85 : mz_ok 85 = true := by decide +kernel
theorem mz_ok_86 : mz_ok 86 = true := by decide +kernel
theorem mz_ok_87 : mz_ok 87 = true := by decide +kernel
theorem mz_ok_88 : mz_ok 88 = true := by decide +kernel
theorem mz_ok_89 : mz_ok 89 = true := by decide +kernel
theorem mz_ok_90 : mz_ok 90 = true := by decide +kernel
theorem mz_ok_91 : mz_ok 91 = true := by decide +kernel
theorem mz_ok_92 : mz_ok 92 = true := by decide +kernel
theorem mz_ok_93 : mz_ok 93 = true := by decide +kernel
theorem mz_ok_94 : mz_ok 94 = true := by decide +kernel
theorem mz_ok_95 : mz_ok 95 = true := by decide +kernel
theorem mz_ok_96 : mz_ok 96 = true := by decide +kernel
theorem mz_ok_97 : mz_ok 97 = true := by decide +kernel
theorem mz_ok_98 : mz_ok 98 = true := by decide +kernel
theorem mz_ok_99 : mz_ok 99 = true := by decide +kernel
theorem mz_ok_100 : mz_ok 100 = true := by decide +kernel
theorem mz_ok_101 : mz_ok 101 = true := by decide +kernel
theorem mz_ok_102 : mz_ok 102 = true := by decide +kernel
theorem mz_ok_103 : mz_ok 103 = true := by decide +kernel
theorem mz_ok_104 : mz_ok 104 = true := by decide +kernel
theorem mz_ok_105 : mz_ok 105 = true := by decide +kernel
theorem mz_ok_106 : mz_ok 106 = true := by decide +kernel
theorem mz_ok_107 : mz_ok 107 = true := by decide +kernel
theorem mz_ok_108 : mz_ok 108 = true := by decide +kernel
theorem mz_ok_109 : mz_ok 109 = true := by decide +kernel
theorem mz_ok_110 : mz_ok 110 = true := by decide +kernel
theorem mz_ok_111 : mz_ok 111 = true := by decide +kernel
theorem mz_ok_112 : mz_ok 112 = true := by decide +kernel
theorem mz_ok_113 : mz_ok 113 = true := by decide +kernel
theorem mz_ok_114 : mz_ok 114 = true := by decide +kernel
theorem mz_ok_115 : mz_ok 115 = true := by decide +kernel
theorem mz_ok_116 : mz_ok 116 = true := by decide +kernel
theorem mz_ok_117 : mz_ok 117 = true := by decide +kernel
theorem mz_ok_118 : mz_ok 118 = true := by decide +kernel
theorem mz_ok_119 : mz_ok 119 = true := by decide +kernel
theorem mz_ok_120 : mz_ok 120 = true := by decide +kernel
theorem mz_ok_121 : mz_ok 121 = true := by decide +kernel
theorem mz_ok_122 : mz_ok 122 = true := by decide +kernel
theorem mz_ok_123 : mz_ok 123 = true := by decide +kernel
theorem mz_ok_124 : mz_ok 124 = true := by decide +kernel
theorem mz_ok_125 : mz_ok 125 = true := by decide +kernel
theorem mz_ok_126 : mz_ok 126 = true := by decide +kernel
theorem mz_ok_127 : mz_ok 127 = true := by decide +kernel
theorem mz_ok_128 : mz_ok 128 = true := by decide +kernel
theorem mz_ok_129 : mz_ok 129 = true := by decide +kernel
theorem mz_ok_130 : mz_ok 130 = true := by decide +kernel
theorem mz_ok_131 : mz_ok 131 = true := by decide +kernel
theorem mz_ok_132 : mz_ok 132 = true := by decide +kernel
theorem mz_ok_133 : mz_ok 133 = true := by decide +kernel
theorem mz_ok_134 : mz_ok 134 = true := by decide +kernel
theorem mz_ok_135 : mz_ok 135 = true := by decide +kernel
theorem mz_ok_136 : mz_ok 136 = true := by decide +kernel
theorem mz_ok_137 : mz_ok 137 = true := by decide +kernel
theorem mz_ok_138 : mz_ok 138 = true := by decide +kernel
theorem mz_ok_139 : mz_ok 139 = true := by decide +kernel
theorem mz_ok_140 : mz_ok 140 = true := by decide +kernel
theorem mz_ok_141 : mz_ok 141 = true := by decide +kernel
theorem mz_ok_142 : mz_ok 142 = true := by decide +kernel
theorem mz_ok_143 : mz_ok 143 = true := by decide +kernel
theorem mz_ok_144 : mz_ok 144 = true := by decide +kernel
theorem mz_ok_145 : mz_ok 145 = true := by decide +kernel
theorem mz_ok_146 : mz_ok 146 = true := by decide +kernel
theorem mz_ok_147 : mz_ok 147 = true := by decide +kernel
theorem mz_ok_148 : mz_ok 148 = true := by decide +kernel
theorem mz_ok_149 : mz_ok 149 = true := by decide +kernel
theorem mz_ok_150 : mz_ok 150 = true := by decide +kernel
theorem mz_ok_151 : mz_ok 151 = true := by decide +kernel
theorem mz_ok_152 : mz_ok 152 = true := by decide +kernel
theorem mz_ok_153 : mz_ok 153 = true := by decide +kernel
theorem mz_ok_154 : mz_ok 154 = true := by decide +kernel
theorem mz_ok_155 : mz_ok 155 = true := by decide +kernel
theorem mz_ok_156 : mz_ok 156 = true := by decide +kernel
theorem mz_ok_157 : mz_ok 157 = true := by decide +kernel
theorem mz_ok_158 : mz_ok 158 = true := by decide +kernel
theorem mz_ok_159 : mz_ok 159 = true := by decide +kernel
theorem mz_ok_160 : mz_ok 160 = true := by decide +kernel
theorem mz_ok_161 : mz_ok 161 = true := by decide +kernel
theorem mz_ok_162 : mz_ok 162 = true := by decide +kernel
theorem mz_ok_163 : mz_ok 163 = true := by decide +kernel
theorem mz_ok_164 : mz_ok 164 = true := by decide +kernel
theorem mz_ok_165 : mz_ok 165 = true := by decide +kernel
theorem mz_ok_166 : mz_ok 166 = true := by decide +kernel
theorem mz_ok_167 : mz_ok 167 = true := by decide +kernel
theorem mz_ok_168 : mz_ok 168 = true := by decide +kernel
theorem mz_ok_169 : mz_ok 169 = true := by decide +kernel
theorem mz_ok_170 : mz_ok 170 = true := by decide +kernel
theorem mz_ok_171 : mz_ok 171 = true := by decide +kernel
theorem mz_ok_172 : mz_ok 172 = true := by decide +kernel
theorem mz_ok_173 : mz_ok 173 = true := by decide +kernel
theorem mz_ok_174 : mz_ok 174 = true := by decide +kernel
theorem mz_ok_175 : mz_ok 175 = true := by decide +kernel
theorem mz_ok_176 : mz_ok 176 = true := by decide +kernel
theorem mz_ok_177 : mz_ok 177 = true := by decide +kernel
theorem mz_ok_178 : mz_ok 178 = true := by decide +kernel
theorem mz_ok_179 : mz_ok 179 = true := by decide +kernel
theorem mz_ok_180 : mz_ok 180 = true := by decide +kernel
theorem mz_ok_181 : mz_ok 181 = true := by decide +kernel
theorem mz_ok_182 : mz_ok 182 = true := by decide +kernel
theorem mz_ok_183 : mz_ok 183 = true := by decide +kernel
theorem mz_ok_184 : mz_ok 184 = true := by decide +kernel
theorem mz_ok_185 : mz_ok 185 = true := by decide +kernel
theorem mz_ok_186 : mz_ok 186 = true := by decide +kernel
theorem mz_ok_187 : mz_ok 187 = true := by decide +kernel
theorem mz_ok_188 : mz_ok 188 = true := by decide +kernel
theorem mz_ok_189 : mz_ok 189 = true := by decide +kernel
theorem mz_ok_190 : mz_ok 190 = true := by decide +kernel
theorem mz_ok_191 : mz_ok 191 = true := by decide +kernel
theorem mz_ok_192 : mz_ok 192 = true := by decide +kernel
theorem mz_ok_193 : mz_ok 193 = true := by decide +kernel
theorem mz_ok_194 : mz_ok 194 = true := by decide +kernel
theorem mz_ok_195 : mz_ok 195 = true := by decide +kernel
theorem mz_ok_196 : mz_ok 196 = true := by decide +kernel
theorem mz_ok_197 : mz_ok 197 = true := by decide +kernel
theorem mz_ok_198 : mz_ok 198 = true := by decide +kernel
theorem mz_ok_199 : mz_ok 199 = true := by decide +kernel
theorem mz_ok_200 : mz_ok 200 = true := by decide +kernel
theorem mz_ok_201 : mz_ok 201 = true := by decide +kernel
theorem mz_ok_202 : mz_ok 202 = true := by decide +kernel
theorem mz_ok_203 : mz_ok 203 = true := by decide +kernel
theorem mz_ok_204 : mz_ok 204 = true := by decide +kernel
theorem mz_ok_205 : mz_ok 205 = true := by decide +kernel
theorem mz_ok_206 : mz_ok 206 = true := by decide +kernel
theorem mz_ok_207 : mz_ok 207 = true := by decide +kernel
theorem mz_ok_208 : mz_ok 208 = true := by decide +kernel
theorem mz_ok_209 : mz_ok 209 = true := by decide +kernel
theorem mz_ok_210 : mz_ok 210 = true := by decide +kernel
theorem mz_ok_211 : mz_ok 211 = true := by decide +kernel
theorem mz_ok_212 : mz_ok 212 = true := by decide +kernel
theorem mz_ok_213 : mz_ok 213 = true := by decide +kernel
theorem mz_ok_214 : mz_ok 214 = true := by decide +kernel
theorem mz_ok_215 : mz_ok 215 = true := by decide +kernel
theorem mz_ok_216 : mz_ok 216 = true := by decide +kernel
theorem mz_ok_217 : mz_ok 217 = true := by decide +kernel
theorem mz_ok_218 : mz_ok 218 = true := by decide +kernel
theorem mz_ok_219 : mz_ok 219 = true := by decide +kernel
theorem mz_ok_220 : mz_ok 220 = true := by decide +kernel
theorem mz_ok_221 : mz_ok 221 = true := by decide +kernel
theorem mz_ok_222 : mz_ok 222 = true := by decide +kernel
theorem mz_ok_223 : mz_ok 223 = true := by decide +kernel
theorem mz_ok_224 : mz_ok 224 = true := by decide +kernel
theorem mz_ok_225 : mz_ok 225 = true := by decide +kernel
theorem mz_ok_226 : mz_ok 226 = true := by decide +kernel
theorem mz_ok_227 : mz_ok 227 = true := by decide +kernel
theorem mz_ok_228 : mz_ok 228 = true := by decide +kernel
theorem mz_ok_229 : mz_ok 229 = true := by decide +kernel
theorem mz_ok_230 : mz_ok 230 = true := by decide +kernel
theorem mz_ok_231 : mz_ok 231 = true := by decide +kernel
theorem mz_ok_232 : mz_ok 232 = true := by decide +kernel
theorem mz_ok_233 : mz_ok 233 = true := by decide +kernel
theorem mz_ok_234 : mz_ok 234 = true := by decide +kernel
theorem mz_ok_235 : mz_ok 235 = true := by decide +kernel
theorem mz_ok_236 : mz_ok 236 = true := by decide +kernel
theorem mz_ok_237 : mz_ok 237 = true := by decide +kernel
theorem mz_ok_238 : mz_ok 238 = true := by decide +kernel
theorem mz_ok_239 : mz_ok 239 = true := by decide +kernel
theorem mz_ok_240 : mz_ok 240 = true := by decide +kernel
theorem mz_ok_241 : mz_ok 241 = true := by decide +kernel
theorem mz_ok_242 : mz_ok 242 = true := by decide +kernel
theorem mz_ok_243 : mz_ok 243 = true := by decide +kernel
theorem mz_ok_244 : mz_ok 244 = true := by decide +kernel
theorem mz_ok_245 : mz_ok 245 = true := by decide +kernel
theorem mz_ok_246 : mz_ok 246 = true := by decide +kernel
theorem mz_ok_247 : mz_ok 247 = true := by decide +kernel
theorem mz_ok_248 : mz_ok 248 = true := by decide +kernel
theorem mz_ok_249 : mz_ok 249 = true := by decide +kernel
theorem mz_ok_250 : mz_ok 250 = true := by decide +kernel
theorem mz_ok_251 : mz_ok 251 = true := by decide +kernel
theorem mz_ok_252 : mz_ok 252 = true := by decide +kernel
theorem mz_ok_253 : mz_ok 253 = true := by decide +kernel
theorem mz_ok_254 : mz_ok 254 = true := by decide +kernel
theorem mz_ok_255 : mz_ok 255 = true := by decide +kernel
theorem mz_ok_256 : mz_ok 256 = true := by decide +kernel
theorem mz_ok_257 : mz_ok 257 = true := by decide +kernel
theorem mz_ok_258 : mz_ok 258 = true := by decide +kernel
theorem mz_ok_259 : mz_ok 259 = true := by decide +kernel
theorem mz_ok_260 : mz_ok 260 = true := by decide +kernel
theorem mz_ok_261 : mz_ok 261 = true := by decide +kernel
theorem mz_ok_262 : mz_ok 262 = true := by decide +kernel
theorem mz_ok_263 : mz_ok 263 = true := by decide +kernel
theorem mz_ok_264 : mz_ok 264 = true := by decide +kernel
theorem mz_ok_265 : mz_ok 265 = true := by decide +kernel
theorem mz_ok_266 : mz_ok 266 = true := by decide +kernel
theorem mz_ok_267 : mz_ok 267 = true := by decide +kernel
theorem mz_ok_268 : mz_ok 268 = true := by decide +kernel
theorem mz_ok_269 : mz_ok 269 = true := by decide +kernel
theorem mz_ok_270 : mz_ok 270 = true := by decide +kernel
theorem mz_ok_271 : mz_ok 271 = true := by decide +kernel
theorem mz_ok_272 : mz_ok 272 = true := by decide +kernel
theorem mz_ok_273 : mz_ok 273 = true := by decide +kernel
theorem mz_ok_274 : mz_ok 274 = true := by decide +kernel
theorem mz_ok_275 : mz_ok 275 = true := by decide +kernel
theorem mz_ok_276 : mz_ok 276 = true := by decide +kernel
theorem mz_ok_277 : mz_ok 277 = true := by decide +kernel
theorem mz_ok_278 : mz_ok 278 = true := by decide +kernel
theorem mz_ok_279 : mz_ok 279 = true := by decide +kernel
theorem mz_ok_280 : mz_ok 280 = true := by decide +kernel
theorem mz_ok_281 : mz_ok 281 = true := by decide +kernel
theorem mz_ok_282 : mz_ok 282 = true := by decide +kernel
theorem mz_ok_283 : mz_ok 283 = true := by decide +kernel
theorem mz_ok_284 : mz_ok 284 = true := by decide +kernel
theorem mz_ok_285 : mz_ok 285 = true := by decide +kernel
theorem mz_ok_286 : mz_ok 286 = true := by decide +kernel
theorem mz_ok_287 : mz_ok 287 = true := by decide +kernel
theorem mz_ok_288 : mz_ok 288 = true := by decide +kernel
theorem mz_ok_289 : mz_ok 289 = true := by decide +kernel
theorem mz_ok_290 : mz_ok 290 = true := by decide +kernel
theorem mz_ok_291 : mz_ok 291 = true := by decide +kernel
theorem mz_ok_292 : mz_ok 292 = true := by decide +kernel
theorem mz_ok_293 : mz_ok 293 = true := by decide +kernel
theorem mz_ok_294 : mz_ok 294 = true := by decide +kernel
theorem mz_ok_295 : mz_ok 295 = true := by decide +kernel
theorem mz_ok_296 : mz_ok 296 = true := by decide +kernel
theorem mz_ok_297 : mz_ok 297 = true := by decide +kernel
theorem mz_ok_298 : mz_ok 298 = true := by decide +kernel
theorem mz_ok_299 : mz_ok 299 = true := by decide +kernel
theorem mz_okC_0 : ∀ q, q < 25 → mz_ok (0 + q) = true := by
  intro q h
  match q, h with
  | 0, _ => exact mz_ok_0
  | 1, _ => exact mz_ok_1
  | 2, _ => exact mz_ok_2
  | 3, _ => exact mz_ok_3
  | 4, _ => exact mz_ok_4
  | 5, _ => exact mz_ok_5
  | 6, _ => exact mz_ok_6
  | 7, _ => exact mz_ok_7
  | 8, _ => exact mz_ok_8
  | 9, _ => exact mz_ok_9
  | 10, _ => exact mz_ok_10
  | 11, _ => exact mz_ok_11
  | 12, _ => exact mz_ok_12
  | 13, _ => exact mz_ok_13
  | 14, _ => exact mz_ok_14
  | 15, _ => exact mz_ok_15
  | 16, _ => exact mz_ok_16
  | 17, _ => exact mz_ok_17
  | 18, _ => exact mz_ok_18
  | 19, _ => exact mz_ok_19
  | 20, _ => exact mz_ok_20
  | 21, _ => exact mz_ok_21
  | 22, _ => exact mz_ok_22
  | 23, _ => exact mz_ok_23
  | 24, _ => exact mz_ok_24
  | q + 25, h => exact absurd h (by omega)
theorem mz_okC_1 : ∀ q, q < 25 → mz_ok (25 + q) = true := by
  intro q h
  match q, h with
  | 0, _ => exact mz_ok_25
  | 1, _ => exact mz_ok_26
  | 2, _ => exact mz_ok_27
  | 3, _ => exact mz_ok_28
  | 4, _ => exact mz_ok_29
  | 5, _ => exact mz_ok_30
  | 6, _ => exact mz_ok_31
  | 7, _ => exact mz_ok_32
  | 8, _ => exact mz_ok_33
  | 9, _ => exact mz_ok_34
  | 10, _ => exact mz_ok_35
  | 11, _ => exact mz_ok_36
  | 12, _ => exact mz_ok_37
  | 13, _ => exact mz_ok_38
  | 14, _ => exact mz_ok_39
  | 15, _ => exact mz_ok_40
  | 16, _ => exact mz_ok_41
  | 17, _ => exact mz_ok_42
  | 18, _ => exact mz_ok_43
  | 19, _ => exact mz_ok_44
  | 20, _ => exact mz_ok_45
  | 21, _ => exact mz_ok_46
  | 22, _ => exact mz_ok_47
  | 23, _ => exact mz_ok_48
  | 24, _ => exact mz_ok_49
  | q + 25, h => exact absurd h (by omega)
theorem mz_okC_2 : ∀ q, q < 25 → mz_ok (50 + q) = true := by
  intro q h
  match q, h with
  | 0, _ => exact mz_ok_50
  | 1, _ => exact mz_ok_51
  | 2, _ => exact mz_ok_52
  | 3, _ => exact mz_ok_53
  | 4, _ => exact mz_ok_54
  | 5, _ => exact mz_ok_55
  | 6, _ => exact mz_ok_56
  | 7, _ => exact mz_ok_57
  | 8, _ => exact mz_ok_58
  | 9, _ => exact mz_ok_59
  | 10, _ => exact mz_ok_60
  | 11, _ => exact mz_ok_61
  | 12, _ => exact mz_ok_62
  | 13, _ => exact mz_ok_63
  | 14, _ => exact mz_ok_64
  | 15, _ => exact mz_ok_65
  | 16, _ => exact mz_ok_66
  | 17, _ => exact mz_ok_67
  | 18, _ => exact mz_ok_68
  | 19, _ => exact mz_ok_69
  | 20, _ => exact mz_ok_70
  | 21, _ => exact mz_ok_71
  | 22, _ => exact mz_ok_72
  | 23, _ => exact mz_ok_73
  | 24, _ => exact mz_ok_74
  | q + 25, h => exact absurd h (by omega)
theorem mz_okC_3 : ∀ q, q < 25 → mz_ok (75 + q) = true := by
  intro q h
  match q, h with
  | 0, _ => exact mz_ok_75
  | 1, _ => exact mz_ok_76
  | 2, _ => exact mz_ok_77
  | 3, _ => exact mz_ok_78
  | 4, _ => exact mz_ok_79
  | 5, _ => exact mz_ok_80
  | 6, _ => exact mz_ok_81
  | 7, _ => exact mz_ok_82
  | 8, _ => exact mz_ok_83
  | 9, _ => exact mz_ok_84
  | 10, _ => exact mz_ok_85
  | 11, _ => exact mz_ok_86
  | 12, _ => exact mz_ok_87
  | 13, _ => exact mz_ok_88
  | 14, _ => exact mz_ok_89
  | 15, _ => exact mz_ok_90
  | 16, _ => exact mz_ok_91
  | 17, _ => exact mz_ok_92
  | 18, _ => exact mz_ok_93
  | 19, _ => exact mz_ok_94
  | 20, _ => exact mz_ok_95
  | 21, _ => exact mz_ok_96
  | 22, _ => exact mz_ok_97
  | 23, _ => exact mz_ok_98
  | 24, _ => exact mz_ok_99
  | q + 25, h => exact absurd h (by omega)
theorem mz_okC_4 : ∀ q, q < 25 → mz_ok (100 + q) = true := by
  intro q h
  match q, h with
  | 0, _ => exact mz_ok_100
  | 1, _ => exact mz_ok_101
  | 2, _ => exact mz_ok_102
  | 3, _ => exact mz_ok_103
  | 4, _ => exact mz_ok_104
  | 5, _ => exact mz_ok_105
  | 6, _ => exact mz_ok_106
  | 7, _ => exact mz_ok_107
  | 8, _ => exact mz_ok_108
  | 9, _ => exact mz_ok_109
  | 10, _ => exact mz_ok_110
  | 11, _ => exact mz_ok_111
  | 12, _ => exact mz_ok_112
  | 13, _ => exact mz_ok_113
  | 14, _ => exact mz_ok_114
  | 15, _ => exact mz_ok_115
  | 16, _ => exact mz_ok_116
  | 17, _ => exact mz_ok_117
  | 18, _ => exact mz_ok_118
  | 19, _ => exact mz_ok_119
  | 20, _ => exact mz_ok_120
  | 21, _ => exact mz_ok_121
  | 22, _ => exact mz_ok_122
  | 23, _ => exact mz_ok_123
  | 24, _ => exact mz_ok_124
  | q + 25, h => exact absurd h (by omega)
theorem mz_okC_5 : ∀ q, q < 25 → mz_ok (125 + q) = true := by
  intro q h
  match q, h with
  | 0, _ => exact mz_ok_125
  | 1, _ => exact mz_ok_126
  | 2, _ => exact mz_ok_127
  | 3, _ => exact mz_ok_128
  | 4, _ => exact mz_ok_129
  | 5, _ => exact mz_ok_130
  | 6, _ => exact mz_ok_131
  | 7, _ => exact mz_ok_132
  | 8, _ => exact mz_ok_133
  | 9, _ => exact mz_ok_134
  | 10, _ => exact mz_ok_135
  | 11, _ => exact mz_ok_136
  | 12, _ => exact mz_ok_137
  | 13, _ => exact mz_ok_138
  | 14, _ => exact mz_ok_139
  | 15, _ => exact mz_ok_140
  | 16, _ => exact mz_ok_141
  | 17, _ => exact mz_ok_142
  | 18, _ => exact mz_ok_143
  | 19, _ => exact mz_ok_144
  | 20, _ => exact mz_ok_145
  | 21, _ => exact mz_ok_146
  | 22, _ => exact mz_ok_147
  | 23, _ => exact mz_ok_148
  | 24, _ => exact mz_ok_149
  | q + 25, h => exact absurd h (by omega)
theorem mz_okC_6 : ∀ q, q < 25 → mz_ok (150 + q) = true := by
  intro q h
  match q, h with
  | 0, _ => exact mz_ok_150
  | 1, _ => exact mz_ok_151
  | 2, _ => exact mz_ok_152
  | 3, _ => exact mz_ok_153
  | 4, _ => exact mz_ok_154
  | 5, _ => exact mz_ok_155
  | 6, _ => exact mz_ok_156
  | 7, _ => exact mz_ok_157
  | 8, _ => exact mz_ok_158
  | 9, _ => exact mz_ok_159
  | 10, _ => exact mz_ok_160
  | 11, _ => exact mz_ok_161
  | 12, _ => exact mz_ok_162
  | 13, _ => exact mz_ok_163
  | 14, _ => exact mz_ok_164
  | 15, _ => exact mz_ok_165
  | 16, _ => exact mz_ok_166
  | 17, _ => exact mz_ok_167
  | 18, _ => exact mz_ok_168
  | 19, _ => exact mz_ok_169
  | 20, _ => exact mz_ok_170
  | 21, _ => exact mz_ok_171
  | 22, _ => exact mz_ok_172
  | 23, _ => exact mz_ok_173
  | 24, _ => exact mz_ok_174
  | q + 25, h => exact absurd h (by omega)
theorem mz_okC_7 : ∀ q, q < 25 → mz_ok (175 + q) = true := by
  intro q h
  match q, h with
  | 0, _ => exact mz_ok_175
  | 1, _ => exact mz_ok_176
  | 2, _ => exact mz_ok_177
  | 3, _ => exact mz_ok_178
  | 4, _ => exact mz_ok_179
  | 5, _ => exact mz_ok_180
  | 6, _ => exact mz_ok_181
  | 7, _ => exact mz_ok_182
  | 8, _ => exact mz_ok_183
  | 9, _ => exact mz_ok_184
  | 10, _ => exact mz_ok_185
  | 11, _ => exact mz_ok_186
  | 12, _ => exact mz_ok_187
  | 13, _ => exact mz_ok_188
  | 14, _ => exact mz_ok_189
  | 15, _ => exact mz_ok_190
  | 16, _ => exact mz_ok_191
  | 17, _ => exact mz_ok_192
  | 18, _ => exact mz_ok_193
  | 19, _ => exact mz_ok_194
  | 20, _ => exact mz_ok_195
  | 21, _ => exact mz_ok_196
  | 22, _ => exact mz_ok_197
  | 23, _ => exact mz_ok_198
  | 24, _ => exact mz_ok_199
  | q + 25, h => exact absurd h (by omega)
theorem mz_okC_8 : ∀ q, q < 25 → mz_ok (200 + q) = true := by
  intro q h
  match q, h with
  | 0, _ => exact mz_ok_200
  | 1, _ => exact mz_ok_201
  | 2, _ => exact mz_ok_202
  | 3, _ => exact mz_ok_203
  | 4, _ => exact mz_ok_204
  | 5, _ => exact mz_ok_205
  | 6, _ => exact mz_ok_206
  | 7, _ => exact mz_ok_207
  | 8, _ => exact mz_ok_208
  | 9, _ => exact mz_ok_209
  | 10, _ => exact mz_ok_210
  | 11, _ => exact mz_ok_211
  | 12, _ => exact mz_ok_212
  | 13, _ => exact mz_ok_213
  | 14, _ => exact mz_ok_214
  | 15, _ => exact mz_ok_215
  | 16, _ => exact mz_ok_216
  | 17, _ => exact mz_ok_217
  | 18, _ => exact mz_ok_218
  | 19, _ => exact mz_ok_219
  | 20, _ => exact mz_ok_220
  | 21, _ => exact mz_ok_221
  | 22, _ => exact mz_ok_222
  | 23, _ => exact mz_ok_223
  | 24, _ => exact mz_ok_224
  | q + 25, h => exact absurd h (by omega)
theorem mz_okC_9 : ∀ q, q < 25 → mz_ok (225 + q) = true := by
  intro q h
  match q, h with
  | 0, _ => exact mz_ok_225
  | 1, _ => exact mz_ok_226
  | 2, _ => exact mz_ok_227
  | 3, _ => exact mz_ok_228
  | 4, _ => exact mz_ok_229
  | 5, _ => exact mz_ok_230
  | 6, _ => exact mz_ok_231
  | 7, _ => exact mz_ok_232
  | 8, _ => exact mz_ok_233
  | 9, _ => exact mz_ok_234
  | 10, _ => exact mz_ok_235
  | 11, _ => exact mz_ok_236
  | 12, _ => exact mz_ok_237
  | 13, _ => exact mz_ok_238
  | 14, _ => exact mz_ok_239
  | 15, _ => exact mz_ok_240
  | 16, _ => exact mz_ok_241
  | 17, _ => exact mz_ok_242
  | 18, _ => exact mz_ok_243
  | 19, _ => exact mz_ok_244
  | 20, _ => exact mz_ok_245
  | 21, _ => exact mz_ok_246
  | 22, _ => exact mz_ok_247
  | 23, _ => exact mz_ok_248
  | 24, _ => exact mz_ok_249
  | q + 25, h => exact absurd h (by omega)
theorem mz_okC_10 : ∀ q, q < 25 → mz_ok (250 + q) = true := by
  intro q h
  match q, h with
  | 0, _ => exact mz_ok_250
  | 1, _ => exact mz_ok_251
  | 2, _ => exact mz_ok_252
  | 3, _ => exact mz_ok_253
  | 4, _ => exact mz_ok_254
  | 5, _ => exact mz_ok_255
  | 6, _ => exact mz_ok_256
  | 7, _ => exact mz_ok_257
  | 8, _ => exact mz_ok_258
  | 9, _ => exact mz_ok_259
  | 10, _ => exact mz_ok_260
  | 11, _ => exact mz_ok_261
  | 12, _ => exact mz_ok_262
  | 13, _ => exact mz_ok_263
  | 14, _ => exact mz_ok_264
  | 15, _ => exact mz_ok_265
  | 16, _ => exact mz_ok_266
  | 17, _ => exact mz_ok_267
  | 18, _ => exact mz_ok_268
  | 19, _ => exact mz_ok_269
  | 20, _ => exact mz_ok_270
  | 21, _ => exact mz_ok_271
  | 22, _ => exact mz_ok_272
  | 23, _ => exact mz_ok_273
  | 24, _ => exact mz_ok_274
  | q + 25, h => exact absurd h (by omega)
theorem mz_okC_11 : ∀ q, q < 25 → mz_ok (275 + q) = true := by
  intro q h
  match q, h with
  | 0, _ => exact mz_ok_275
  | 1, _ => exact mz_ok_276
  | 2, _ => exact mz_ok_277
  | 3, _ => exact mz_ok_278
  | 4, _ => exact mz_ok_279
  | 5, _ => exact mz_ok_280
  | 6, _ => exact mz_ok_281
  | 7, _ => exact mz_ok_282
  | 8, _ => exact mz_ok_283
  | 9, _ => exact mz_ok_284
  | 10, _ => exact mz_ok_285
  | 11, _ => exact mz_ok_286
  | 12, _ => exact mz_ok_287
  | 13, _ => exact mz_ok_288
  | 14, _ => exact mz_ok_289
  | 15, _ => exact mz_ok_290
  | 16, _ => exact mz_ok_291
  | 17, _ => exact mz_ok_292
  | 18, _ => exact mz_ok_293
  | 19, _ => exact mz_ok_294
  | 20, _ => exact mz_ok_295
  | 21, _ => exact mz_ok_296
  | 22, _ => exact mz_ok_297
  | 23, _ => exact mz_ok_298
  | 24, _ => exact mz_ok_299
  | q + 25, h => exact absurd h (by omega)
theorem mz_okA (k : Nat) (h : k < 300) : mz_ok k = true := by
  if hk : k < 25 then
    have := mz_okC_0 (k - 0) (by omega)
    rwa [show 0 + (k - 0) = k by omega] at this
  else
  if hk : k < 50 then
    have := mz_okC_1 (k - 25) (by omega)
    rwa [show 25 + (k - 25) = k by omega] at this
  else
  if hk : k < 75 then
    have := mz_okC_2 (k - 50) (by omega)
    rwa [show 50 + (k - 50) = k by omega] at this
  else
  if hk : k < 100 then
    have := mz_okC_3 (k - 75) (by omega)
    rwa [show 75 + (k - 75) = k by omega] at this
  else
  if hk : k < 125 then
    have := mz_okC_4 (k - 100) (by omega)
    rwa [show 100 + (k - 100) = k by omega] at this
  else
  if hk : k < 150 then
    have := mz_okC_5 (k - 125) (by omega)
    rwa [show 125 + (k - 125) = k by omega] at this
  else
  if hk : k < 175 then
    have := mz_okC_6 (k - 150) (by omega)
    rwa [show 150 + (k - 150) = k by omega] at this
  else
  if hk : k < 200 then
    have := mz_okC_7 (k - 175) (by omega)
    rwa [show 175 + (k - 175) = k by omega] at this
  else
  if hk : k < 225 then
    have := mz_okC_8 (k - 200) (by omega)
    rwa [show 200 + (k - 200) = k by omega] at this
  else
  if hk : k < 250 then
    have := mz_okC_9 (k - 225) (by omega)
    rwa [show 225 + (k - 225) = k by omega] at this
  else
  if hk : k < 275 then
    have := mz_okC_10 (k - 250) (by omega)
    rwa [show 250 + (k - 250) = k by omega] at this
  else
  if hk : k < 300 then
    have := mz_okC_11 (k - 275) (by omega)
    rwa [show 275 + (k - 275) = k by omega] at this
  else
  exact absurd h hk
