-- The law: its loop (written by law.py)
abbrev M_Law : MethodName × ByteArray × Nat × Option FieldType := (x, code, 4, ret)
theorem d_Law_0 : decode M_Law.2.1 0 = .ok (.new 7, 3) := by decide +kernel
theorem d_Law_3 : decode M_Law.2.1 3 = .ok (.dup, 1) := by decide +kernel
theorem d_Law_4 : decode M_Law.2.1 4 = .ok (.invokespecial 9, 3) := by decide +kernel
theorem d_Law_7 : decode M_Law.2.1 7 = .ok (.astore_n 1, 1) := by decide +kernel
theorem d_Law_8 : decode M_Law.2.1 8 = .ok (.new 10, 3) := by decide +kernel
theorem d_Law_11 : decode M_Law.2.1 11 = .ok (.dup, 1) := by decide +kernel
theorem d_Law_12 : decode M_Law.2.1 12 = .ok (.invokespecial 12, 3) := by decide +kernel
theorem d_Law_15 : decode M_Law.2.1 15 = .ok (.astore_n 2, 1) := by decide +kernel
theorem d_Law_16 : decode M_Law.2.1 16 = .ok (.iconst 0, 1) := by decide +kernel
theorem d_Law_17 : decode M_Law.2.1 17 = .ok (.istore_n 3, 1) := by decide +kernel
theorem d_Law_18 : decode M_Law.2.1 18 = .ok (.iload_n 3, 1) := by decide +kernel
theorem d_Law_19 : decode M_Law.2.1 19 = .ok (.aload_n 0, 1) := by decide +kernel
theorem d_Law_20 : decode M_Law.2.1 20 = .ok (.arraylength, 1) := by decide +kernel
theorem d_Law_21 : decode M_Law.2.1 21 = .ok (.bipush 6, 2) := by decide +kernel
theorem d_Law_23 : decode M_Law.2.1 23 = .ok (.isub, 1) := by decide +kernel
theorem d_Law_24 : decode M_Law.2.1 24 = .ok (.if_icmp .gt 464, 3) := by decide +kernel
theorem d_Law_27 : decode M_Law.2.1 27 = .ok (.aload_n 0, 1) := by decide +kernel
theorem d_Law_28 : decode M_Law.2.1 28 = .ok (.iload_n 3, 1) := by decide +kernel
theorem d_Law_29 : decode M_Law.2.1 29 = .ok (.iaload, 1) := by decide +kernel
theorem d_Law_30 : decode M_Law.2.1 30 = .ok (.bipush 15, 2) := by decide +kernel
theorem d_Law_32 : decode M_Law.2.1 32 = .ok (.iand, 1) := by decide +kernel
theorem d_Law_33 : decode M_Law.2.1 33 = .ok (.tableswitch 449 0 11 #[63, 86, 129, 162, 225, 248, 281, 314, 347, 380, 393, 426], 63) := by decide +kernel
theorem d_Law_96 : decode M_Law.2.1 96 = .ok (.aload_n 1, 1) := by decide +kernel
theorem d_Law_97 : decode M_Law.2.1 97 = .ok (.aload_n 0, 1) := by decide +kernel
theorem d_Law_98 : decode M_Law.2.1 98 = .ok (.iload_n 3, 1) := by decide +kernel
theorem d_Law_99 : decode M_Law.2.1 99 = .ok (.iconst 1, 1) := by decide +kernel
theorem d_Law_100 : decode M_Law.2.1 100 = .ok (.iadd, 1) := by decide +kernel
theorem d_Law_101 : decode M_Law.2.1 101 = .ok (.iaload, 1) := by decide +kernel
theorem d_Law_102 : decode M_Law.2.1 102 = .ok (.invokevirtual 13, 3) := by decide +kernel
theorem d_Law_105 : decode M_Law.2.1 105 = .ok (.pop, 1) := by decide +kernel
theorem d_Law_106 : decode M_Law.2.1 106 = .ok (.aload_n 2, 1) := by decide +kernel
theorem d_Law_107 : decode M_Law.2.1 107 = .ok (.aload_n 0, 1) := by decide +kernel
theorem d_Law_108 : decode M_Law.2.1 108 = .ok (.iload_n 3, 1) := by decide +kernel
theorem d_Law_109 : decode M_Law.2.1 109 = .ok (.iconst 1, 1) := by decide +kernel
theorem d_Law_110 : decode M_Law.2.1 110 = .ok (.iadd, 1) := by decide +kernel
theorem d_Law_111 : decode M_Law.2.1 111 = .ok (.iaload, 1) := by decide +kernel
theorem d_Law_112 : decode M_Law.2.1 112 = .ok (.invokevirtual 17, 3) := by decide +kernel
theorem d_Law_115 : decode M_Law.2.1 115 = .ok (.pop, 1) := by decide +kernel
theorem d_Law_116 : decode M_Law.2.1 116 = .ok (.goto 366, 3) := by decide +kernel
theorem d_Law_119 : decode M_Law.2.1 119 = .ok (.aload_n 1, 1) := by decide +kernel
theorem d_Law_120 : decode M_Law.2.1 120 = .ok (.aload_n 0, 1) := by decide +kernel
theorem d_Law_121 : decode M_Law.2.1 121 = .ok (.iload_n 3, 1) := by decide +kernel
theorem d_Law_122 : decode M_Law.2.1 122 = .ok (.iconst 1, 1) := by decide +kernel
theorem d_Law_123 : decode M_Law.2.1 123 = .ok (.iadd, 1) := by decide +kernel
theorem d_Law_124 : decode M_Law.2.1 124 = .ok (.iaload, 1) := by decide +kernel
theorem d_Law_125 : decode M_Law.2.1 125 = .ok (.aload_n 0, 1) := by decide +kernel
theorem d_Law_126 : decode M_Law.2.1 126 = .ok (.iload_n 3, 1) := by decide +kernel
theorem d_Law_127 : decode M_Law.2.1 127 = .ok (.iconst 2, 1) := by decide +kernel
theorem d_Law_128 : decode M_Law.2.1 128 = .ok (.iadd, 1) := by decide +kernel
theorem d_Law_129 : decode M_Law.2.1 129 = .ok (.iaload, 1) := by decide +kernel
theorem d_Law_130 : decode M_Law.2.1 130 = .ok (.aload_n 0, 1) := by decide +kernel
theorem d_Law_131 : decode M_Law.2.1 131 = .ok (.iload_n 3, 1) := by decide +kernel
theorem d_Law_132 : decode M_Law.2.1 132 = .ok (.iconst 3, 1) := by decide +kernel
theorem d_Law_133 : decode M_Law.2.1 133 = .ok (.iadd, 1) := by decide +kernel
theorem d_Law_134 : decode M_Law.2.1 134 = .ok (.iaload, 1) := by decide +kernel
theorem d_Law_135 : decode M_Law.2.1 135 = .ok (.invokevirtual 18, 3) := by decide +kernel
theorem d_Law_138 : decode M_Law.2.1 138 = .ok (.pop, 1) := by decide +kernel
theorem d_Law_139 : decode M_Law.2.1 139 = .ok (.aload_n 2, 1) := by decide +kernel
theorem d_Law_140 : decode M_Law.2.1 140 = .ok (.aload_n 0, 1) := by decide +kernel
theorem d_Law_141 : decode M_Law.2.1 141 = .ok (.iload_n 3, 1) := by decide +kernel
theorem d_Law_142 : decode M_Law.2.1 142 = .ok (.iconst 1, 1) := by decide +kernel
theorem d_Law_143 : decode M_Law.2.1 143 = .ok (.iadd, 1) := by decide +kernel
theorem d_Law_144 : decode M_Law.2.1 144 = .ok (.iaload, 1) := by decide +kernel
theorem d_Law_145 : decode M_Law.2.1 145 = .ok (.aload_n 0, 1) := by decide +kernel
theorem d_Law_146 : decode M_Law.2.1 146 = .ok (.iload_n 3, 1) := by decide +kernel
theorem d_Law_147 : decode M_Law.2.1 147 = .ok (.iconst 2, 1) := by decide +kernel
theorem d_Law_148 : decode M_Law.2.1 148 = .ok (.iadd, 1) := by decide +kernel
theorem d_Law_149 : decode M_Law.2.1 149 = .ok (.iaload, 1) := by decide +kernel
theorem d_Law_150 : decode M_Law.2.1 150 = .ok (.aload_n 0, 1) := by decide +kernel
theorem d_Law_151 : decode M_Law.2.1 151 = .ok (.iload_n 3, 1) := by decide +kernel
theorem d_Law_152 : decode M_Law.2.1 152 = .ok (.iconst 3, 1) := by decide +kernel
theorem d_Law_153 : decode M_Law.2.1 153 = .ok (.iadd, 1) := by decide +kernel
theorem d_Law_154 : decode M_Law.2.1 154 = .ok (.iaload, 1) := by decide +kernel
theorem d_Law_155 : decode M_Law.2.1 155 = .ok (.invokevirtual 22, 3) := by decide +kernel
theorem d_Law_158 : decode M_Law.2.1 158 = .ok (.pop, 1) := by decide +kernel
theorem d_Law_159 : decode M_Law.2.1 159 = .ok (.goto 323, 3) := by decide +kernel
theorem d_Law_162 : decode M_Law.2.1 162 = .ok (.aload_n 1, 1) := by decide +kernel
theorem d_Law_163 : decode M_Law.2.1 163 = .ok (.aload_n 0, 1) := by decide +kernel
theorem d_Law_164 : decode M_Law.2.1 164 = .ok (.iload_n 3, 1) := by decide +kernel
theorem d_Law_165 : decode M_Law.2.1 165 = .ok (.iconst 1, 1) := by decide +kernel
theorem d_Law_166 : decode M_Law.2.1 166 = .ok (.iadd, 1) := by decide +kernel
theorem d_Law_167 : decode M_Law.2.1 167 = .ok (.iaload, 1) := by decide +kernel
theorem d_Law_168 : decode M_Law.2.1 168 = .ok (.aload_n 0, 1) := by decide +kernel
theorem d_Law_169 : decode M_Law.2.1 169 = .ok (.iload_n 3, 1) := by decide +kernel
theorem d_Law_170 : decode M_Law.2.1 170 = .ok (.iconst 2, 1) := by decide +kernel
theorem d_Law_171 : decode M_Law.2.1 171 = .ok (.iadd, 1) := by decide +kernel
theorem d_Law_172 : decode M_Law.2.1 172 = .ok (.iaload, 1) := by decide +kernel
theorem d_Law_173 : decode M_Law.2.1 173 = .ok (.invokevirtual 23, 3) := by decide +kernel
theorem d_Law_176 : decode M_Law.2.1 176 = .ok (.pop, 1) := by decide +kernel
theorem d_Law_177 : decode M_Law.2.1 177 = .ok (.aload_n 2, 1) := by decide +kernel
theorem d_Law_178 : decode M_Law.2.1 178 = .ok (.aload_n 0, 1) := by decide +kernel
theorem d_Law_179 : decode M_Law.2.1 179 = .ok (.iload_n 3, 1) := by decide +kernel
theorem d_Law_180 : decode M_Law.2.1 180 = .ok (.iconst 1, 1) := by decide +kernel
theorem d_Law_181 : decode M_Law.2.1 181 = .ok (.iadd, 1) := by decide +kernel
theorem d_Law_182 : decode M_Law.2.1 182 = .ok (.iaload, 1) := by decide +kernel
theorem d_Law_183 : decode M_Law.2.1 183 = .ok (.aload_n 0, 1) := by decide +kernel
theorem d_Law_184 : decode M_Law.2.1 184 = .ok (.iload_n 3, 1) := by decide +kernel
theorem d_Law_185 : decode M_Law.2.1 185 = .ok (.iconst 2, 1) := by decide +kernel
theorem d_Law_186 : decode M_Law.2.1 186 = .ok (.iadd, 1) := by decide +kernel
theorem d_Law_187 : decode M_Law.2.1 187 = .ok (.iaload, 1) := by decide +kernel
theorem d_Law_188 : decode M_Law.2.1 188 = .ok (.invokevirtual 27, 3) := by decide +kernel
theorem d_Law_191 : decode M_Law.2.1 191 = .ok (.pop, 1) := by decide +kernel
theorem d_Law_192 : decode M_Law.2.1 192 = .ok (.goto 290, 3) := by decide +kernel
theorem d_Law_195 : decode M_Law.2.1 195 = .ok (.aload_n 1, 1) := by decide +kernel
theorem d_Law_196 : decode M_Law.2.1 196 = .ok (.aload_n 0, 1) := by decide +kernel
theorem d_Law_197 : decode M_Law.2.1 197 = .ok (.iload_n 3, 1) := by decide +kernel
theorem d_Law_198 : decode M_Law.2.1 198 = .ok (.iconst 1, 1) := by decide +kernel
theorem d_Law_199 : decode M_Law.2.1 199 = .ok (.iadd, 1) := by decide +kernel
theorem d_Law_200 : decode M_Law.2.1 200 = .ok (.iaload, 1) := by decide +kernel
theorem d_Law_201 : decode M_Law.2.1 201 = .ok (.aload_n 0, 1) := by decide +kernel
theorem d_Law_202 : decode M_Law.2.1 202 = .ok (.iload_n 3, 1) := by decide +kernel
theorem d_Law_203 : decode M_Law.2.1 203 = .ok (.iconst 2, 1) := by decide +kernel
theorem d_Law_204 : decode M_Law.2.1 204 = .ok (.iadd, 1) := by decide +kernel
theorem d_Law_205 : decode M_Law.2.1 205 = .ok (.iaload, 1) := by decide +kernel
theorem d_Law_206 : decode M_Law.2.1 206 = .ok (.aload_n 0, 1) := by decide +kernel
theorem d_Law_207 : decode M_Law.2.1 207 = .ok (.iload_n 3, 1) := by decide +kernel
theorem d_Law_208 : decode M_Law.2.1 208 = .ok (.iconst 3, 1) := by decide +kernel
theorem d_Law_209 : decode M_Law.2.1 209 = .ok (.iadd, 1) := by decide +kernel
theorem d_Law_210 : decode M_Law.2.1 210 = .ok (.iaload, 1) := by decide +kernel
theorem d_Law_211 : decode M_Law.2.1 211 = .ok (.aload_n 0, 1) := by decide +kernel
theorem d_Law_212 : decode M_Law.2.1 212 = .ok (.iload_n 3, 1) := by decide +kernel
theorem d_Law_213 : decode M_Law.2.1 213 = .ok (.iconst 4, 1) := by decide +kernel
theorem d_Law_214 : decode M_Law.2.1 214 = .ok (.iadd, 1) := by decide +kernel
theorem d_Law_215 : decode M_Law.2.1 215 = .ok (.iaload, 1) := by decide +kernel
theorem d_Law_216 : decode M_Law.2.1 216 = .ok (.aload_n 0, 1) := by decide +kernel
theorem d_Law_217 : decode M_Law.2.1 217 = .ok (.iload_n 3, 1) := by decide +kernel
theorem d_Law_218 : decode M_Law.2.1 218 = .ok (.iconst 5, 1) := by decide +kernel
theorem d_Law_219 : decode M_Law.2.1 219 = .ok (.iadd, 1) := by decide +kernel
theorem d_Law_220 : decode M_Law.2.1 220 = .ok (.iaload, 1) := by decide +kernel
theorem d_Law_221 : decode M_Law.2.1 221 = .ok (.invokevirtual 28, 3) := by decide +kernel
theorem d_Law_224 : decode M_Law.2.1 224 = .ok (.pop, 1) := by decide +kernel
theorem d_Law_225 : decode M_Law.2.1 225 = .ok (.aload_n 2, 1) := by decide +kernel
theorem d_Law_226 : decode M_Law.2.1 226 = .ok (.aload_n 0, 1) := by decide +kernel
theorem d_Law_227 : decode M_Law.2.1 227 = .ok (.iload_n 3, 1) := by decide +kernel
theorem d_Law_228 : decode M_Law.2.1 228 = .ok (.iconst 1, 1) := by decide +kernel
theorem d_Law_229 : decode M_Law.2.1 229 = .ok (.iadd, 1) := by decide +kernel
theorem d_Law_230 : decode M_Law.2.1 230 = .ok (.iaload, 1) := by decide +kernel
theorem d_Law_231 : decode M_Law.2.1 231 = .ok (.aload_n 0, 1) := by decide +kernel
theorem d_Law_232 : decode M_Law.2.1 232 = .ok (.iload_n 3, 1) := by decide +kernel
theorem d_Law_233 : decode M_Law.2.1 233 = .ok (.iconst 2, 1) := by decide +kernel
theorem d_Law_234 : decode M_Law.2.1 234 = .ok (.iadd, 1) := by decide +kernel
theorem d_Law_235 : decode M_Law.2.1 235 = .ok (.iaload, 1) := by decide +kernel
theorem d_Law_236 : decode M_Law.2.1 236 = .ok (.aload_n 0, 1) := by decide +kernel
theorem d_Law_237 : decode M_Law.2.1 237 = .ok (.iload_n 3, 1) := by decide +kernel
theorem d_Law_238 : decode M_Law.2.1 238 = .ok (.iconst 3, 1) := by decide +kernel
theorem d_Law_239 : decode M_Law.2.1 239 = .ok (.iadd, 1) := by decide +kernel
theorem d_Law_240 : decode M_Law.2.1 240 = .ok (.iaload, 1) := by decide +kernel
theorem d_Law_241 : decode M_Law.2.1 241 = .ok (.aload_n 0, 1) := by decide +kernel
theorem d_Law_242 : decode M_Law.2.1 242 = .ok (.iload_n 3, 1) := by decide +kernel
theorem d_Law_243 : decode M_Law.2.1 243 = .ok (.iconst 4, 1) := by decide +kernel
theorem d_Law_244 : decode M_Law.2.1 244 = .ok (.iadd, 1) := by decide +kernel
theorem d_Law_245 : decode M_Law.2.1 245 = .ok (.iaload, 1) := by decide +kernel
theorem d_Law_246 : decode M_Law.2.1 246 = .ok (.aload_n 0, 1) := by decide +kernel
theorem d_Law_247 : decode M_Law.2.1 247 = .ok (.iload_n 3, 1) := by decide +kernel
theorem d_Law_248 : decode M_Law.2.1 248 = .ok (.iconst 5, 1) := by decide +kernel
theorem d_Law_249 : decode M_Law.2.1 249 = .ok (.iadd, 1) := by decide +kernel
theorem d_Law_250 : decode M_Law.2.1 250 = .ok (.iaload, 1) := by decide +kernel
theorem d_Law_251 : decode M_Law.2.1 251 = .ok (.invokevirtual 32, 3) := by decide +kernel
theorem d_Law_254 : decode M_Law.2.1 254 = .ok (.pop, 1) := by decide +kernel
theorem d_Law_255 : decode M_Law.2.1 255 = .ok (.goto 227, 3) := by decide +kernel
theorem d_Law_258 : decode M_Law.2.1 258 = .ok (.aload_n 1, 1) := by decide +kernel
theorem d_Law_259 : decode M_Law.2.1 259 = .ok (.aload_n 0, 1) := by decide +kernel
theorem d_Law_260 : decode M_Law.2.1 260 = .ok (.iload_n 3, 1) := by decide +kernel
theorem d_Law_261 : decode M_Law.2.1 261 = .ok (.iconst 1, 1) := by decide +kernel
theorem d_Law_262 : decode M_Law.2.1 262 = .ok (.iadd, 1) := by decide +kernel
theorem d_Law_263 : decode M_Law.2.1 263 = .ok (.iaload, 1) := by decide +kernel
theorem d_Law_264 : decode M_Law.2.1 264 = .ok (.invokevirtual 33, 3) := by decide +kernel
theorem d_Law_267 : decode M_Law.2.1 267 = .ok (.pop, 1) := by decide +kernel
theorem d_Law_268 : decode M_Law.2.1 268 = .ok (.aload_n 2, 1) := by decide +kernel
theorem d_Law_269 : decode M_Law.2.1 269 = .ok (.aload_n 0, 1) := by decide +kernel
theorem d_Law_270 : decode M_Law.2.1 270 = .ok (.iload_n 3, 1) := by decide +kernel
theorem d_Law_271 : decode M_Law.2.1 271 = .ok (.iconst 1, 1) := by decide +kernel
theorem d_Law_272 : decode M_Law.2.1 272 = .ok (.iadd, 1) := by decide +kernel
theorem d_Law_273 : decode M_Law.2.1 273 = .ok (.iaload, 1) := by decide +kernel
theorem d_Law_274 : decode M_Law.2.1 274 = .ok (.invokevirtual 36, 3) := by decide +kernel
theorem d_Law_277 : decode M_Law.2.1 277 = .ok (.pop, 1) := by decide +kernel
theorem d_Law_278 : decode M_Law.2.1 278 = .ok (.goto 204, 3) := by decide +kernel
theorem d_Law_281 : decode M_Law.2.1 281 = .ok (.aload_n 1, 1) := by decide +kernel
theorem d_Law_282 : decode M_Law.2.1 282 = .ok (.aload_n 0, 1) := by decide +kernel
theorem d_Law_283 : decode M_Law.2.1 283 = .ok (.iload_n 3, 1) := by decide +kernel
theorem d_Law_284 : decode M_Law.2.1 284 = .ok (.iconst 1, 1) := by decide +kernel
theorem d_Law_285 : decode M_Law.2.1 285 = .ok (.iadd, 1) := by decide +kernel
theorem d_Law_286 : decode M_Law.2.1 286 = .ok (.iaload, 1) := by decide +kernel
theorem d_Law_287 : decode M_Law.2.1 287 = .ok (.aload_n 0, 1) := by decide +kernel
theorem d_Law_288 : decode M_Law.2.1 288 = .ok (.iload_n 3, 1) := by decide +kernel
theorem d_Law_289 : decode M_Law.2.1 289 = .ok (.iconst 2, 1) := by decide +kernel
theorem d_Law_290 : decode M_Law.2.1 290 = .ok (.iadd, 1) := by decide +kernel
theorem d_Law_291 : decode M_Law.2.1 291 = .ok (.iaload, 1) := by decide +kernel
theorem d_Law_292 : decode M_Law.2.1 292 = .ok (.invokevirtual 37, 3) := by decide +kernel
theorem d_Law_295 : decode M_Law.2.1 295 = .ok (.pop, 1) := by decide +kernel
theorem d_Law_296 : decode M_Law.2.1 296 = .ok (.aload_n 2, 1) := by decide +kernel
theorem d_Law_297 : decode M_Law.2.1 297 = .ok (.aload_n 0, 1) := by decide +kernel
theorem d_Law_298 : decode M_Law.2.1 298 = .ok (.iload_n 3, 1) := by decide +kernel
theorem d_Law_299 : decode M_Law.2.1 299 = .ok (.iconst 1, 1) := by decide +kernel
theorem d_Law_300 : decode M_Law.2.1 300 = .ok (.iadd, 1) := by decide +kernel
theorem d_Law_301 : decode M_Law.2.1 301 = .ok (.iaload, 1) := by decide +kernel
theorem d_Law_302 : decode M_Law.2.1 302 = .ok (.aload_n 0, 1) := by decide +kernel
theorem d_Law_303 : decode M_Law.2.1 303 = .ok (.iload_n 3, 1) := by decide +kernel
theorem d_Law_304 : decode M_Law.2.1 304 = .ok (.iconst 2, 1) := by decide +kernel
theorem d_Law_305 : decode M_Law.2.1 305 = .ok (.iadd, 1) := by decide +kernel
theorem d_Law_306 : decode M_Law.2.1 306 = .ok (.iaload, 1) := by decide +kernel
theorem d_Law_307 : decode M_Law.2.1 307 = .ok (.invokevirtual 40, 3) := by decide +kernel
theorem d_Law_310 : decode M_Law.2.1 310 = .ok (.pop, 1) := by decide +kernel
theorem d_Law_311 : decode M_Law.2.1 311 = .ok (.goto 171, 3) := by decide +kernel
theorem d_Law_314 : decode M_Law.2.1 314 = .ok (.aload_n 1, 1) := by decide +kernel
theorem d_Law_315 : decode M_Law.2.1 315 = .ok (.aload_n 0, 1) := by decide +kernel
theorem d_Law_316 : decode M_Law.2.1 316 = .ok (.iload_n 3, 1) := by decide +kernel
theorem d_Law_317 : decode M_Law.2.1 317 = .ok (.iconst 1, 1) := by decide +kernel
theorem d_Law_318 : decode M_Law.2.1 318 = .ok (.iadd, 1) := by decide +kernel
theorem d_Law_319 : decode M_Law.2.1 319 = .ok (.iaload, 1) := by decide +kernel
theorem d_Law_320 : decode M_Law.2.1 320 = .ok (.aload_n 0, 1) := by decide +kernel
theorem d_Law_321 : decode M_Law.2.1 321 = .ok (.iload_n 3, 1) := by decide +kernel
theorem d_Law_322 : decode M_Law.2.1 322 = .ok (.iconst 2, 1) := by decide +kernel
theorem d_Law_323 : decode M_Law.2.1 323 = .ok (.iadd, 1) := by decide +kernel
theorem d_Law_324 : decode M_Law.2.1 324 = .ok (.iaload, 1) := by decide +kernel
theorem d_Law_325 : decode M_Law.2.1 325 = .ok (.invokevirtual 41, 3) := by decide +kernel
theorem d_Law_328 : decode M_Law.2.1 328 = .ok (.pop, 1) := by decide +kernel
theorem d_Law_329 : decode M_Law.2.1 329 = .ok (.aload_n 2, 1) := by decide +kernel
theorem d_Law_330 : decode M_Law.2.1 330 = .ok (.aload_n 0, 1) := by decide +kernel
theorem d_Law_331 : decode M_Law.2.1 331 = .ok (.iload_n 3, 1) := by decide +kernel
theorem d_Law_332 : decode M_Law.2.1 332 = .ok (.iconst 1, 1) := by decide +kernel
theorem d_Law_333 : decode M_Law.2.1 333 = .ok (.iadd, 1) := by decide +kernel
theorem d_Law_334 : decode M_Law.2.1 334 = .ok (.iaload, 1) := by decide +kernel
theorem d_Law_335 : decode M_Law.2.1 335 = .ok (.aload_n 0, 1) := by decide +kernel
theorem d_Law_336 : decode M_Law.2.1 336 = .ok (.iload_n 3, 1) := by decide +kernel
theorem d_Law_337 : decode M_Law.2.1 337 = .ok (.iconst 2, 1) := by decide +kernel
theorem d_Law_338 : decode M_Law.2.1 338 = .ok (.iadd, 1) := by decide +kernel
theorem d_Law_339 : decode M_Law.2.1 339 = .ok (.iaload, 1) := by decide +kernel
theorem d_Law_340 : decode M_Law.2.1 340 = .ok (.invokevirtual 44, 3) := by decide +kernel
theorem d_Law_343 : decode M_Law.2.1 343 = .ok (.pop, 1) := by decide +kernel
theorem d_Law_344 : decode M_Law.2.1 344 = .ok (.goto 138, 3) := by decide +kernel
theorem d_Law_347 : decode M_Law.2.1 347 = .ok (.aload_n 1, 1) := by decide +kernel
theorem d_Law_348 : decode M_Law.2.1 348 = .ok (.aload_n 0, 1) := by decide +kernel
theorem d_Law_349 : decode M_Law.2.1 349 = .ok (.iload_n 3, 1) := by decide +kernel
theorem d_Law_350 : decode M_Law.2.1 350 = .ok (.iconst 1, 1) := by decide +kernel
theorem d_Law_351 : decode M_Law.2.1 351 = .ok (.iadd, 1) := by decide +kernel
theorem d_Law_352 : decode M_Law.2.1 352 = .ok (.iaload, 1) := by decide +kernel
theorem d_Law_353 : decode M_Law.2.1 353 = .ok (.aload_n 0, 1) := by decide +kernel
theorem d_Law_354 : decode M_Law.2.1 354 = .ok (.iload_n 3, 1) := by decide +kernel
theorem d_Law_355 : decode M_Law.2.1 355 = .ok (.iconst 2, 1) := by decide +kernel
theorem d_Law_356 : decode M_Law.2.1 356 = .ok (.iadd, 1) := by decide +kernel
theorem d_Law_357 : decode M_Law.2.1 357 = .ok (.iaload, 1) := by decide +kernel
theorem d_Law_358 : decode M_Law.2.1 358 = .ok (.invokevirtual 45, 3) := by decide +kernel
theorem d_Law_361 : decode M_Law.2.1 361 = .ok (.pop, 1) := by decide +kernel
theorem d_Law_362 : decode M_Law.2.1 362 = .ok (.aload_n 2, 1) := by decide +kernel
theorem d_Law_363 : decode M_Law.2.1 363 = .ok (.aload_n 0, 1) := by decide +kernel
theorem d_Law_364 : decode M_Law.2.1 364 = .ok (.iload_n 3, 1) := by decide +kernel
theorem d_Law_365 : decode M_Law.2.1 365 = .ok (.iconst 1, 1) := by decide +kernel
theorem d_Law_366 : decode M_Law.2.1 366 = .ok (.iadd, 1) := by decide +kernel
theorem d_Law_367 : decode M_Law.2.1 367 = .ok (.iaload, 1) := by decide +kernel
theorem d_Law_368 : decode M_Law.2.1 368 = .ok (.aload_n 0, 1) := by decide +kernel
theorem d_Law_369 : decode M_Law.2.1 369 = .ok (.iload_n 3, 1) := by decide +kernel
theorem d_Law_370 : decode M_Law.2.1 370 = .ok (.iconst 2, 1) := by decide +kernel
theorem d_Law_371 : decode M_Law.2.1 371 = .ok (.iadd, 1) := by decide +kernel
theorem d_Law_372 : decode M_Law.2.1 372 = .ok (.iaload, 1) := by decide +kernel
theorem d_Law_373 : decode M_Law.2.1 373 = .ok (.invokevirtual 48, 3) := by decide +kernel
theorem d_Law_376 : decode M_Law.2.1 376 = .ok (.pop, 1) := by decide +kernel
theorem d_Law_377 : decode M_Law.2.1 377 = .ok (.goto 105, 3) := by decide +kernel
theorem d_Law_380 : decode M_Law.2.1 380 = .ok (.aload_n 1, 1) := by decide +kernel
theorem d_Law_381 : decode M_Law.2.1 381 = .ok (.aload_n 0, 1) := by decide +kernel
theorem d_Law_382 : decode M_Law.2.1 382 = .ok (.iload_n 3, 1) := by decide +kernel
theorem d_Law_383 : decode M_Law.2.1 383 = .ok (.iconst 1, 1) := by decide +kernel
theorem d_Law_384 : decode M_Law.2.1 384 = .ok (.iadd, 1) := by decide +kernel
theorem d_Law_385 : decode M_Law.2.1 385 = .ok (.iaload, 1) := by decide +kernel
theorem d_Law_386 : decode M_Law.2.1 386 = .ok (.aload_n 0, 1) := by decide +kernel
theorem d_Law_387 : decode M_Law.2.1 387 = .ok (.iload_n 3, 1) := by decide +kernel
theorem d_Law_388 : decode M_Law.2.1 388 = .ok (.iconst 2, 1) := by decide +kernel
theorem d_Law_389 : decode M_Law.2.1 389 = .ok (.iadd, 1) := by decide +kernel
theorem d_Law_390 : decode M_Law.2.1 390 = .ok (.iaload, 1) := by decide +kernel
theorem d_Law_391 : decode M_Law.2.1 391 = .ok (.invokevirtual 49, 3) := by decide +kernel
theorem d_Law_394 : decode M_Law.2.1 394 = .ok (.pop, 1) := by decide +kernel
theorem d_Law_395 : decode M_Law.2.1 395 = .ok (.aload_n 2, 1) := by decide +kernel
theorem d_Law_396 : decode M_Law.2.1 396 = .ok (.aload_n 0, 1) := by decide +kernel
theorem d_Law_397 : decode M_Law.2.1 397 = .ok (.iload_n 3, 1) := by decide +kernel
theorem d_Law_398 : decode M_Law.2.1 398 = .ok (.iconst 1, 1) := by decide +kernel
theorem d_Law_399 : decode M_Law.2.1 399 = .ok (.iadd, 1) := by decide +kernel
theorem d_Law_400 : decode M_Law.2.1 400 = .ok (.iaload, 1) := by decide +kernel
theorem d_Law_401 : decode M_Law.2.1 401 = .ok (.aload_n 0, 1) := by decide +kernel
theorem d_Law_402 : decode M_Law.2.1 402 = .ok (.iload_n 3, 1) := by decide +kernel
theorem d_Law_403 : decode M_Law.2.1 403 = .ok (.iconst 2, 1) := by decide +kernel
theorem d_Law_404 : decode M_Law.2.1 404 = .ok (.iadd, 1) := by decide +kernel
theorem d_Law_405 : decode M_Law.2.1 405 = .ok (.iaload, 1) := by decide +kernel
theorem d_Law_406 : decode M_Law.2.1 406 = .ok (.invokevirtual 52, 3) := by decide +kernel
theorem d_Law_409 : decode M_Law.2.1 409 = .ok (.pop, 1) := by decide +kernel
theorem d_Law_410 : decode M_Law.2.1 410 = .ok (.goto 72, 3) := by decide +kernel
theorem d_Law_413 : decode M_Law.2.1 413 = .ok (.aload_n 1, 1) := by decide +kernel
theorem d_Law_414 : decode M_Law.2.1 414 = .ok (.invokevirtual 53, 3) := by decide +kernel
theorem d_Law_417 : decode M_Law.2.1 417 = .ok (.pop, 1) := by decide +kernel
theorem d_Law_418 : decode M_Law.2.1 418 = .ok (.aload_n 2, 1) := by decide +kernel
theorem d_Law_419 : decode M_Law.2.1 419 = .ok (.invokevirtual 57, 3) := by decide +kernel
theorem d_Law_422 : decode M_Law.2.1 422 = .ok (.pop, 1) := by decide +kernel
theorem d_Law_423 : decode M_Law.2.1 423 = .ok (.goto 59, 3) := by decide +kernel
theorem d_Law_426 : decode M_Law.2.1 426 = .ok (.aload_n 1, 1) := by decide +kernel
theorem d_Law_427 : decode M_Law.2.1 427 = .ok (.aload_n 0, 1) := by decide +kernel
theorem d_Law_428 : decode M_Law.2.1 428 = .ok (.iload_n 3, 1) := by decide +kernel
theorem d_Law_429 : decode M_Law.2.1 429 = .ok (.iconst 1, 1) := by decide +kernel
theorem d_Law_430 : decode M_Law.2.1 430 = .ok (.iadd, 1) := by decide +kernel
theorem d_Law_431 : decode M_Law.2.1 431 = .ok (.iaload, 1) := by decide +kernel
theorem d_Law_432 : decode M_Law.2.1 432 = .ok (.aload_n 0, 1) := by decide +kernel
theorem d_Law_433 : decode M_Law.2.1 433 = .ok (.iload_n 3, 1) := by decide +kernel
theorem d_Law_434 : decode M_Law.2.1 434 = .ok (.iconst 2, 1) := by decide +kernel
theorem d_Law_435 : decode M_Law.2.1 435 = .ok (.iadd, 1) := by decide +kernel
theorem d_Law_436 : decode M_Law.2.1 436 = .ok (.iaload, 1) := by decide +kernel
theorem d_Law_437 : decode M_Law.2.1 437 = .ok (.invokevirtual 58, 3) := by decide +kernel
theorem d_Law_440 : decode M_Law.2.1 440 = .ok (.pop, 1) := by decide +kernel
theorem d_Law_441 : decode M_Law.2.1 441 = .ok (.aload_n 2, 1) := by decide +kernel
theorem d_Law_442 : decode M_Law.2.1 442 = .ok (.aload_n 0, 1) := by decide +kernel
theorem d_Law_443 : decode M_Law.2.1 443 = .ok (.iload_n 3, 1) := by decide +kernel
theorem d_Law_444 : decode M_Law.2.1 444 = .ok (.iconst 1, 1) := by decide +kernel
theorem d_Law_445 : decode M_Law.2.1 445 = .ok (.iadd, 1) := by decide +kernel
theorem d_Law_446 : decode M_Law.2.1 446 = .ok (.iaload, 1) := by decide +kernel
theorem d_Law_447 : decode M_Law.2.1 447 = .ok (.aload_n 0, 1) := by decide +kernel
theorem d_Law_448 : decode M_Law.2.1 448 = .ok (.iload_n 3, 1) := by decide +kernel
theorem d_Law_449 : decode M_Law.2.1 449 = .ok (.iconst 2, 1) := by decide +kernel
theorem d_Law_450 : decode M_Law.2.1 450 = .ok (.iadd, 1) := by decide +kernel
theorem d_Law_451 : decode M_Law.2.1 451 = .ok (.iaload, 1) := by decide +kernel
theorem d_Law_452 : decode M_Law.2.1 452 = .ok (.invokevirtual 61, 3) := by decide +kernel
theorem d_Law_455 : decode M_Law.2.1 455 = .ok (.pop, 1) := by decide +kernel
theorem d_Law_456 : decode M_Law.2.1 456 = .ok (.goto 26, 3) := by decide +kernel
theorem d_Law_459 : decode M_Law.2.1 459 = .ok (.aload_n 1, 1) := by decide +kernel
theorem d_Law_460 : decode M_Law.2.1 460 = .ok (.aload_n 0, 1) := by decide +kernel
theorem d_Law_461 : decode M_Law.2.1 461 = .ok (.iload_n 3, 1) := by decide +kernel
theorem d_Law_462 : decode M_Law.2.1 462 = .ok (.iconst 1, 1) := by decide +kernel
theorem d_Law_463 : decode M_Law.2.1 463 = .ok (.iadd, 1) := by decide +kernel
theorem d_Law_464 : decode M_Law.2.1 464 = .ok (.iaload, 1) := by decide +kernel
theorem d_Law_465 : decode M_Law.2.1 465 = .ok (.invokevirtual 62, 3) := by decide +kernel
theorem d_Law_468 : decode M_Law.2.1 468 = .ok (.aload_n 2, 1) := by decide +kernel
theorem d_Law_469 : decode M_Law.2.1 469 = .ok (.aload_n 0, 1) := by decide +kernel
theorem d_Law_470 : decode M_Law.2.1 470 = .ok (.iload_n 3, 1) := by decide +kernel
theorem d_Law_471 : decode M_Law.2.1 471 = .ok (.iconst 1, 1) := by decide +kernel
theorem d_Law_472 : decode M_Law.2.1 472 = .ok (.iadd, 1) := by decide +kernel
theorem d_Law_473 : decode M_Law.2.1 473 = .ok (.iaload, 1) := by decide +kernel
theorem d_Law_474 : decode M_Law.2.1 474 = .ok (.invokevirtual 65, 3) := by decide +kernel
theorem d_Law_477 : decode M_Law.2.1 477 = .ok (.if_icmp .eq 5, 3) := by decide +kernel
theorem d_Law_480 : decode M_Law.2.1 480 = .ok (.iconst 0, 1) := by decide +kernel
theorem d_Law_481 : decode M_Law.2.1 481 = .ok (.ireturn, 1) := by decide +kernel
theorem d_Law_482 : decode M_Law.2.1 482 = .ok (.iinc 3 6, 3) := by decide +kernel
theorem d_Law_485 : decode M_Law.2.1 485 = .ok (.goto (-467), 3) := by decide +kernel
theorem d_Law_488 : decode M_Law.2.1 488 = .ok (.iconst 1, 1) := by decide +kernel
theorem d_Law_489 : decode M_Law.2.1 489 = .ok (.ireturn, 1) := by decide +kernel
theorem z_sld {G : zG} {M : zM} {K : zK} {X : zX} {pc : Nat} {lv : List (Nat × Value)} {st : List Value} {σ : zSt} (E : zCtx G M K X) {b L : Nat} {xs : Nat → Int32} (hX : va_X b L xs (zs X) (zs X).heap ∧ b < (zs X).heap.size ∧ ¬ K.2.1 b) {i : Int32} (hin : vp_in i L) (hd : decode M.2.1 pc = .ok (.iaload, 1)) (k : zY G M K X (pc + 1) lv (.int (xs i.toNatClampNeg) :: st) σ) : zY G M K X pc lv (.int i :: .ref b :: st) σ := fun ls H locs h hP hS => va_sld E.1 E.2.1 hX.1 hX.2.1 hX.2.2 hS hin hd (k ls H locs h hP hS)
theorem z_slen {G : zG} {M : zM} {K : zK} {X : zX} {pc : Nat} {lv : List (Nat × Value)} {st : List Value} {σ : zSt} (E : zCtx G M K X) {b L : Nat} {xs : Nat → Int32} (hX : va_X b L xs (zs X) (zs X).heap ∧ b < (zs X).heap.size ∧ ¬ K.2.1 b) (hd : decode M.2.1 pc = .ok (.arraylength, 1)) (k : zY G M K X (pc + 1) lv (.int (nI L) :: st) σ) : zY G M K X pc lv (.ref b :: st) σ := fun ls H locs h hP hS => va_slen E.1 E.2.1 hX.1 hX.2.1 hX.2.2 hS hd (k ls H locs h hP hS)
abbrev lX (p : Program) (e : Env) (s : State) (m : MethodId) (b : Nat) (below : List Frame) (meth : Method) (c : Code) : zX := (p, e, s, m, #[Value.ref b], below, meth, c)
abbrev lK (s : State) (b : Nat) (below : List Frame) : zK := (room_1, fun q => s.heap.size ≤ q, 56, 40718, lw_Z below #[Value.ref b] s)
abbrev lLv (G : zG) (b i : Nat) : List (Nat × Value) := [(0, .ref b), (1, zf G 0), (2, zf G 32), (3, .int (nI i))]
theorem vp_at {i k L : Nat} (h : i + k < L) (hL : L ≤ 3072) : vp_in (nI i + nI k) L := by rw [nI_add]; exact vp_in_nI h (by omega)
set_option maxRecDepth 100000 in
set_option maxHeartbeats 4000000 in
theorem law_c96 {G : zG} {p : Program} {e : Env} {s : State} {m : MethodId} {b L i : Nat} {below : List Frame} {meth : Method} {c : Code} {xs : Nat → Int32} {σ : zSt} (hX3 : va_X b L xs s s.heap ∧ b < s.heap.size ∧ ¬ (lK s b below).2.1 b) (E : zCtx G M_Law (lK s b below) (lX p e s m b below meth c)) (k1 : vp_in (nI i + 1) L) (k2 : vp_in (nI i + 2) L) (k3 : vp_in (nI i + 3) L) (k4 : vp_in (nI i + 4) L) (k5 : vp_in (nI i + 5) L) (next : ∀ τ : zSt, INVE τ → zY G M_Law (lK s b below) (lX p e s m b below meth c) 482 (lLv G b i) [] τ) (hI : INVE σ) : zY G M_Law (lK s b below) (lX p e s m b below meth c) 96 (lLv G b i) [] σ := by
  refine z_aload_n E 1 d_Law_96 rfl rfl ?_
  refine z_aload_n E 0 d_Law_97 rfl rfl ?_
  refine z_iload_n E 3 d_Law_98 rfl rfl ?_
  refine z_iconst E (v := 1) d_Law_99 (by decide) ?_
  refine z_iadd E d_Law_100 ?_
  refine z_sld E hX3 k1 d_Law_101 ?_
  refine z_callVI [.int (xs (nI i + 1).toNatClampNeg)] [] E (s_P_begin G σ (xs (nI i + 1).toNatClampNeg)) c_Law_13 rl_P_begin rfl ⟨(Nat.le_of_ble_eq_true rfl), (Nat.le_of_ble_eq_true rfl), (Nat.le_of_ble_eq_true rfl), (Nat.le_of_ble_eq_true rfl)⟩ rfl (Nat.le_of_ble_eq_true rfl) d_Law_102 (fun x1 τ1 hp1 => ?_)
  refine z_pop E d_Law_105 rfl ?_
  refine z_aload_n E 2 d_Law_106 rfl rfl ?_
  refine z_aload_n E 0 d_Law_107 rfl rfl ?_
  refine z_iload_n E 3 d_Law_108 rfl rfl ?_
  refine z_iconst E (v := 1) d_Law_109 (by decide) ?_
  refine z_iadd E d_Law_110 ?_
  refine z_sld E hX3 k1 d_Law_111 ?_
  refine z_callVI [.int (xs (nI i + 1).toNatClampNeg)] [] E (s_Mo_begin G τ1 (xs (nI i + 1).toNatClampNeg)) c_Law_17 rl_Mo_begin rfl ⟨(Nat.le_of_ble_eq_true rfl), (Nat.le_of_ble_eq_true rfl), (Nat.le_of_ble_eq_true rfl), (Nat.le_of_ble_eq_true rfl)⟩ rfl (Nat.le_of_ble_eq_true rfl) d_Law_112 (fun x2 τ2 hp2 => ?_)
  obtain ⟨e12, hI2⟩ := INVE.begin hI hp1 hp2
  refine z_pop E d_Law_115 rfl ?_
  exact z_goto E d_Law_116 (tgt := 482) (by decide) (next τ2 hI2)
set_option maxRecDepth 100000 in
set_option maxHeartbeats 4000000 in
theorem law_c119 {G : zG} {p : Program} {e : Env} {s : State} {m : MethodId} {b L i : Nat} {below : List Frame} {meth : Method} {c : Code} {xs : Nat → Int32} {σ : zSt} (hX3 : va_X b L xs s s.heap ∧ b < s.heap.size ∧ ¬ (lK s b below).2.1 b) (E : zCtx G M_Law (lK s b below) (lX p e s m b below meth c)) (k1 : vp_in (nI i + 1) L) (k2 : vp_in (nI i + 2) L) (k3 : vp_in (nI i + 3) L) (k4 : vp_in (nI i + 4) L) (k5 : vp_in (nI i + 5) L) (next : ∀ τ : zSt, INVE τ → zY G M_Law (lK s b below) (lX p e s m b below meth c) 482 (lLv G b i) [] τ) (hI : INVE σ) : zY G M_Law (lK s b below) (lX p e s m b below meth c) 119 (lLv G b i) [] σ := by
  refine z_aload_n E 1 d_Law_119 rfl rfl ?_
  refine z_aload_n E 0 d_Law_120 rfl rfl ?_
  refine z_iload_n E 3 d_Law_121 rfl rfl ?_
  refine z_iconst E (v := 1) d_Law_122 (by decide) ?_
  refine z_iadd E d_Law_123 ?_
  refine z_sld E hX3 k1 d_Law_124 ?_
  refine z_aload_n E 0 d_Law_125 rfl rfl ?_
  refine z_iload_n E 3 d_Law_126 rfl rfl ?_
  refine z_iconst E (v := 2) d_Law_127 (by decide) ?_
  refine z_iadd E d_Law_128 ?_
  refine z_sld E hX3 k2 d_Law_129 ?_
  refine z_aload_n E 0 d_Law_130 rfl rfl ?_
  refine z_iload_n E 3 d_Law_131 rfl rfl ?_
  refine z_iconst E (v := 3) d_Law_132 (by decide) ?_
  refine z_iadd E d_Law_133 ?_
  refine z_sld E hX3 k3 d_Law_134 ?_
  obtain ⟨n1, hn1, _, hl1⟩ := hI.1.1
  refine z_callVI [.int (xs (nI i + 1).toNatClampNeg), .int (xs (nI i + 2).toNatClampNeg), .int (xs (nI i + 3).toNatClampNeg)] [] E (s_P_link G σ n1 (xs (nI i + 1).toNatClampNeg) (xs (nI i + 2).toNatClampNeg) (xs (nI i + 3).toNatClampNeg) hn1 hl1) c_Law_18 rl_P_link rfl ⟨(Nat.le_of_ble_eq_true rfl), (Nat.le_of_ble_eq_true rfl), (Nat.le_of_ble_eq_true rfl), (Nat.le_of_ble_eq_true rfl)⟩ rfl (Nat.le_of_ble_eq_true rfl) d_Law_135 (fun x1 τ1 hp1 => ?_)
  refine z_pop E d_Law_138 rfl ?_
  refine z_aload_n E 2 d_Law_139 rfl rfl ?_
  refine z_aload_n E 0 d_Law_140 rfl rfl ?_
  refine z_iload_n E 3 d_Law_141 rfl rfl ?_
  refine z_iconst E (v := 1) d_Law_142 (by decide) ?_
  refine z_iadd E d_Law_143 ?_
  refine z_sld E hX3 k1 d_Law_144 ?_
  refine z_aload_n E 0 d_Law_145 rfl rfl ?_
  refine z_iload_n E 3 d_Law_146 rfl rfl ?_
  refine z_iconst E (v := 2) d_Law_147 (by decide) ?_
  refine z_iadd E d_Law_148 ?_
  refine z_sld E hX3 k2 d_Law_149 ?_
  refine z_aload_n E 0 d_Law_150 rfl rfl ?_
  refine z_iload_n E 3 d_Law_151 rfl rfl ?_
  refine z_iconst E (v := 3) d_Law_152 (by decide) ?_
  refine z_iadd E d_Law_153 ?_
  refine z_sld E hX3 k3 d_Law_154 ?_
  obtain ⟨n2, hn2, hl2⟩ := INVE.n2 hI (link_32 hp1)
  refine z_callVI [.int (xs (nI i + 1).toNatClampNeg), .int (xs (nI i + 2).toNatClampNeg), .int (xs (nI i + 3).toNatClampNeg)] [] E (s_Mo_link G τ1 n2 (xs (nI i + 1).toNatClampNeg) (xs (nI i + 2).toNatClampNeg) (xs (nI i + 3).toNatClampNeg) hn2 hl2) c_Law_22 rl_Mo_link rfl ⟨(Nat.le_of_ble_eq_true rfl), (Nat.le_of_ble_eq_true rfl), (Nat.le_of_ble_eq_true rfl), (Nat.le_of_ble_eq_true rfl)⟩ rfl (Nat.le_of_ble_eq_true rfl) d_Law_155 (fun x2 τ2 hp2 => ?_)
  obtain ⟨e12, hI2⟩ := INVE.link hI hn1 hl1 hn2 hl2 hp1 hp2
  refine z_pop E d_Law_158 rfl ?_
  exact z_goto E d_Law_159 (tgt := 482) (by decide) (next τ2 hI2)
set_option maxRecDepth 100000 in
set_option maxHeartbeats 4000000 in
theorem law_c162 {G : zG} {p : Program} {e : Env} {s : State} {m : MethodId} {b L i : Nat} {below : List Frame} {meth : Method} {c : Code} {xs : Nat → Int32} {σ : zSt} (hX3 : va_X b L xs s s.heap ∧ b < s.heap.size ∧ ¬ (lK s b below).2.1 b) (E : zCtx G M_Law (lK s b below) (lX p e s m b below meth c)) (k1 : vp_in (nI i + 1) L) (k2 : vp_in (nI i + 2) L) (k3 : vp_in (nI i + 3) L) (k4 : vp_in (nI i + 4) L) (k5 : vp_in (nI i + 5) L) (next : ∀ τ : zSt, INVE τ → zY G M_Law (lK s b below) (lX p e s m b below meth c) 482 (lLv G b i) [] τ) (hI : INVE σ) : zY G M_Law (lK s b below) (lX p e s m b below meth c) 162 (lLv G b i) [] σ := by
  refine z_aload_n E 1 d_Law_162 rfl rfl ?_
  refine z_aload_n E 0 d_Law_163 rfl rfl ?_
  refine z_iload_n E 3 d_Law_164 rfl rfl ?_
  refine z_iconst E (v := 1) d_Law_165 (by decide) ?_
  refine z_iadd E d_Law_166 ?_
  refine z_sld E hX3 k1 d_Law_167 ?_
  refine z_aload_n E 0 d_Law_168 rfl rfl ?_
  refine z_iload_n E 3 d_Law_169 rfl rfl ?_
  refine z_iconst E (v := 2) d_Law_170 (by decide) ?_
  refine z_iadd E d_Law_171 ?_
  refine z_sld E hX3 k2 d_Law_172 ?_
  obtain ⟨n1, hn1, _, hl1⟩ := hI.1.1
  refine z_callVI [.int (xs (nI i + 1).toNatClampNeg), .int (xs (nI i + 2).toNatClampNeg)] [] E (s_P_mark G σ n1 (xs (nI i + 1).toNatClampNeg) (xs (nI i + 2).toNatClampNeg) hn1 hl1) c_Law_23 rl_P_mark rfl ⟨(Nat.le_of_ble_eq_true rfl), (Nat.le_of_ble_eq_true rfl), (Nat.le_of_ble_eq_true rfl), (Nat.le_of_ble_eq_true rfl)⟩ rfl (Nat.le_of_ble_eq_true rfl) d_Law_173 (fun x1 τ1 hp1 => ?_)
  refine z_pop E d_Law_176 rfl ?_
  refine z_aload_n E 2 d_Law_177 rfl rfl ?_
  refine z_aload_n E 0 d_Law_178 rfl rfl ?_
  refine z_iload_n E 3 d_Law_179 rfl rfl ?_
  refine z_iconst E (v := 1) d_Law_180 (by decide) ?_
  refine z_iadd E d_Law_181 ?_
  refine z_sld E hX3 k1 d_Law_182 ?_
  refine z_aload_n E 0 d_Law_183 rfl rfl ?_
  refine z_iload_n E 3 d_Law_184 rfl rfl ?_
  refine z_iconst E (v := 2) d_Law_185 (by decide) ?_
  refine z_iadd E d_Law_186 ?_
  refine z_sld E hX3 k2 d_Law_187 ?_
  obtain ⟨n2, hn2, hl2⟩ := INVE.n2 hI (mark_32 hp1)
  refine z_callVI [.int (xs (nI i + 1).toNatClampNeg), .int (xs (nI i + 2).toNatClampNeg)] [] E (s_Mo_mark G τ1 n2 (xs (nI i + 1).toNatClampNeg) (xs (nI i + 2).toNatClampNeg) hn2 hl2) c_Law_27 rl_Mo_mark rfl ⟨(Nat.le_of_ble_eq_true rfl), (Nat.le_of_ble_eq_true rfl), (Nat.le_of_ble_eq_true rfl), (Nat.le_of_ble_eq_true rfl)⟩ rfl (Nat.le_of_ble_eq_true rfl) d_Law_188 (fun x2 τ2 hp2 => ?_)
  obtain ⟨e12, hI2⟩ := INVE.mark hI hn1 hl1 hn2 hl2 hp1 hp2
  refine z_pop E d_Law_191 rfl ?_
  exact z_goto E d_Law_192 (tgt := 482) (by decide) (next τ2 hI2)
set_option maxRecDepth 100000 in
set_option maxHeartbeats 4000000 in
theorem law_c195 {G : zG} {p : Program} {e : Env} {s : State} {m : MethodId} {b L i : Nat} {below : List Frame} {meth : Method} {c : Code} {xs : Nat → Int32} {σ : zSt} (hX3 : va_X b L xs s s.heap ∧ b < s.heap.size ∧ ¬ (lK s b below).2.1 b) (E : zCtx G M_Law (lK s b below) (lX p e s m b below meth c)) (k1 : vp_in (nI i + 1) L) (k2 : vp_in (nI i + 2) L) (k3 : vp_in (nI i + 3) L) (k4 : vp_in (nI i + 4) L) (k5 : vp_in (nI i + 5) L) (next : ∀ τ : zSt, INVE τ → zY G M_Law (lK s b below) (lX p e s m b below meth c) 482 (lLv G b i) [] τ) (hI : INVE σ) : zY G M_Law (lK s b below) (lX p e s m b below meth c) 195 (lLv G b i) [] σ := by
  refine z_aload_n E 1 d_Law_195 rfl rfl ?_
  refine z_aload_n E 0 d_Law_196 rfl rfl ?_
  refine z_iload_n E 3 d_Law_197 rfl rfl ?_
  refine z_iconst E (v := 1) d_Law_198 (by decide) ?_
  refine z_iadd E d_Law_199 ?_
  refine z_sld E hX3 k1 d_Law_200 ?_
  refine z_aload_n E 0 d_Law_201 rfl rfl ?_
  refine z_iload_n E 3 d_Law_202 rfl rfl ?_
  refine z_iconst E (v := 2) d_Law_203 (by decide) ?_
  refine z_iadd E d_Law_204 ?_
  refine z_sld E hX3 k2 d_Law_205 ?_
  refine z_aload_n E 0 d_Law_206 rfl rfl ?_
  refine z_iload_n E 3 d_Law_207 rfl rfl ?_
  refine z_iconst E (v := 3) d_Law_208 (by decide) ?_
  refine z_iadd E d_Law_209 ?_
  refine z_sld E hX3 k3 d_Law_210 ?_
  refine z_aload_n E 0 d_Law_211 rfl rfl ?_
  refine z_iload_n E 3 d_Law_212 rfl rfl ?_
  refine z_iconst E (v := 4) d_Law_213 (by decide) ?_
  refine z_iadd E d_Law_214 ?_
  refine z_sld E hX3 k4 d_Law_215 ?_
  refine z_aload_n E 0 d_Law_216 rfl rfl ?_
  refine z_iload_n E 3 d_Law_217 rfl rfl ?_
  refine z_iconst E (v := 5) d_Law_218 (by decide) ?_
  refine z_iadd E d_Law_219 ?_
  refine z_sld E hX3 k5 d_Law_220 ?_
  refine z_callVI [.int (xs (nI i + 1).toNatClampNeg), .int (xs (nI i + 2).toNatClampNeg), .int (xs (nI i + 3).toNatClampNeg), .int (xs (nI i + 4).toNatClampNeg), .int (xs (nI i + 5).toNatClampNeg)] [] E (w_P_start5 G σ (xs (nI i + 1).toNatClampNeg) (xs (nI i + 2).toNatClampNeg) (xs (nI i + 3).toNatClampNeg) (xs (nI i + 4).toNatClampNeg) (xs (nI i + 5).toNatClampNeg) hI) c_Law_28 rl_P_start rfl ⟨(Nat.le_of_ble_eq_true rfl), (Nat.le_of_ble_eq_true rfl), (Nat.le_of_ble_eq_true rfl), (Nat.le_of_ble_eq_true rfl)⟩ rfl (Nat.le_of_ble_eq_true rfl) d_Law_221 (fun x1 τ1 hp1 => ?_)
  refine z_pop E d_Law_224 rfl ?_
  refine z_aload_n E 2 d_Law_225 rfl rfl ?_
  refine z_aload_n E 0 d_Law_226 rfl rfl ?_
  refine z_iload_n E 3 d_Law_227 rfl rfl ?_
  refine z_iconst E (v := 1) d_Law_228 (by decide) ?_
  refine z_iadd E d_Law_229 ?_
  refine z_sld E hX3 k1 d_Law_230 ?_
  refine z_aload_n E 0 d_Law_231 rfl rfl ?_
  refine z_iload_n E 3 d_Law_232 rfl rfl ?_
  refine z_iconst E (v := 2) d_Law_233 (by decide) ?_
  refine z_iadd E d_Law_234 ?_
  refine z_sld E hX3 k2 d_Law_235 ?_
  refine z_aload_n E 0 d_Law_236 rfl rfl ?_
  refine z_iload_n E 3 d_Law_237 rfl rfl ?_
  refine z_iconst E (v := 3) d_Law_238 (by decide) ?_
  refine z_iadd E d_Law_239 ?_
  refine z_sld E hX3 k3 d_Law_240 ?_
  refine z_aload_n E 0 d_Law_241 rfl rfl ?_
  refine z_iload_n E 3 d_Law_242 rfl rfl ?_
  refine z_iconst E (v := 4) d_Law_243 (by decide) ?_
  refine z_iadd E d_Law_244 ?_
  refine z_sld E hX3 k4 d_Law_245 ?_
  refine z_aload_n E 0 d_Law_246 rfl rfl ?_
  refine z_iload_n E 3 d_Law_247 rfl rfl ?_
  refine z_iconst E (v := 5) d_Law_248 (by decide) ?_
  refine z_iadd E d_Law_249 ?_
  refine z_sld E hX3 k5 d_Law_250 ?_
  refine z_callVI [.int (xs (nI i + 1).toNatClampNeg), .int (xs (nI i + 2).toNatClampNeg), .int (xs (nI i + 3).toNatClampNeg), .int (xs (nI i + 4).toNatClampNeg), .int (xs (nI i + 5).toNatClampNeg)] [] E (w_Mo_start5 G σ τ1 (xs (nI i + 1).toNatClampNeg) (xs (nI i + 2).toNatClampNeg) (xs (nI i + 3).toNatClampNeg) (xs (nI i + 4).toNatClampNeg) (xs (nI i + 5).toNatClampNeg) hI hp1) c_Law_32 rl_Mo_start rfl ⟨(Nat.le_of_ble_eq_true rfl), (Nat.le_of_ble_eq_true rfl), (Nat.le_of_ble_eq_true rfl), (Nat.le_of_ble_eq_true rfl)⟩ rfl (Nat.le_of_ble_eq_true rfl) d_Law_251 (fun x2 τ2 hp2 => ?_)
  obtain ⟨e12, hI2⟩ := INVE.start hI hp1 hp2
  refine z_pop E d_Law_254 rfl ?_
  exact z_goto E d_Law_255 (tgt := 482) (by decide) (next τ2 hI2)
set_option maxRecDepth 100000 in
set_option maxHeartbeats 4000000 in
theorem law_c258 {G : zG} {p : Program} {e : Env} {s : State} {m : MethodId} {b L i : Nat} {below : List Frame} {meth : Method} {c : Code} {xs : Nat → Int32} {σ : zSt} (hX3 : va_X b L xs s s.heap ∧ b < s.heap.size ∧ ¬ (lK s b below).2.1 b) (E : zCtx G M_Law (lK s b below) (lX p e s m b below meth c)) (k1 : vp_in (nI i + 1) L) (k2 : vp_in (nI i + 2) L) (k3 : vp_in (nI i + 3) L) (k4 : vp_in (nI i + 4) L) (k5 : vp_in (nI i + 5) L) (next : ∀ τ : zSt, INVE τ → zY G M_Law (lK s b below) (lX p e s m b below meth c) 482 (lLv G b i) [] τ) (hI : INVE σ) : zY G M_Law (lK s b below) (lX p e s m b below meth c) 258 (lLv G b i) [] σ := by
  refine z_aload_n E 1 d_Law_258 rfl rfl ?_
  refine z_aload_n E 0 d_Law_259 rfl rfl ?_
  refine z_iload_n E 3 d_Law_260 rfl rfl ?_
  refine z_iconst E (v := 1) d_Law_261 (by decide) ?_
  refine z_iadd E d_Law_262 ?_
  refine z_sld E hX3 k1 d_Law_263 ?_
  obtain ⟨n', R', W', p', src', mk', len', lk', pa', up', ld', A', hP⟩ := INVE.par hI
  refine z_callVI [.int (xs (nI i + 1).toNatClampNeg)] [] E (w_P_come5 G σ (xs (nI i + 1).toNatClampNeg) hP) c_Law_33 rl_P_come rfl ⟨(Nat.le_of_ble_eq_true rfl), (Nat.le_of_ble_eq_true rfl), (Nat.le_of_ble_eq_true rfl), (Nat.le_of_ble_eq_true rfl)⟩ rfl (Nat.le_of_ble_eq_true rfl) d_Law_264 (fun x1 τ1 hp1 => ?_)
  refine z_pop E d_Law_267 rfl ?_
  refine z_aload_n E 2 d_Law_268 rfl rfl ?_
  refine z_aload_n E 0 d_Law_269 rfl rfl ?_
  refine z_iload_n E 3 d_Law_270 rfl rfl ?_
  refine z_iconst E (v := 1) d_Law_271 (by decide) ?_
  refine z_iadd E d_Law_272 ?_
  refine z_sld E hX3 k1 d_Law_273 ?_
  refine z_callVI [.int (xs (nI i + 1).toNatClampNeg)] [] E (w_Mo_come5 G σ τ1 (xs (nI i + 1).toNatClampNeg) hI hP hp1) c_Law_36 rl_Mo_come rfl ⟨(Nat.le_of_ble_eq_true rfl), (Nat.le_of_ble_eq_true rfl), (Nat.le_of_ble_eq_true rfl), (Nat.le_of_ble_eq_true rfl)⟩ rfl (Nat.le_of_ble_eq_true rfl) d_Law_274 (fun x2 τ2 hp2 => ?_)
  obtain ⟨e12, hI2⟩ := INVE.come hI hP hp1 hp2
  refine z_pop E d_Law_277 rfl ?_
  exact z_goto E d_Law_278 (tgt := 482) (by decide) (next τ2 hI2)
set_option maxRecDepth 100000 in
set_option maxHeartbeats 4000000 in
theorem law_c281 {G : zG} {p : Program} {e : Env} {s : State} {m : MethodId} {b L i : Nat} {below : List Frame} {meth : Method} {c : Code} {xs : Nat → Int32} {σ : zSt} (hX3 : va_X b L xs s s.heap ∧ b < s.heap.size ∧ ¬ (lK s b below).2.1 b) (E : zCtx G M_Law (lK s b below) (lX p e s m b below meth c)) (k1 : vp_in (nI i + 1) L) (k2 : vp_in (nI i + 2) L) (k3 : vp_in (nI i + 3) L) (k4 : vp_in (nI i + 4) L) (k5 : vp_in (nI i + 5) L) (next : ∀ τ : zSt, INVE τ → zY G M_Law (lK s b below) (lX p e s m b below meth c) 482 (lLv G b i) [] τ) (hI : INVE σ) : zY G M_Law (lK s b below) (lX p e s m b below meth c) 281 (lLv G b i) [] σ := by
  refine z_aload_n E 1 d_Law_281 rfl rfl ?_
  refine z_aload_n E 0 d_Law_282 rfl rfl ?_
  refine z_iload_n E 3 d_Law_283 rfl rfl ?_
  refine z_iconst E (v := 1) d_Law_284 (by decide) ?_
  refine z_iadd E d_Law_285 ?_
  refine z_sld E hX3 k1 d_Law_286 ?_
  refine z_aload_n E 0 d_Law_287 rfl rfl ?_
  refine z_iload_n E 3 d_Law_288 rfl rfl ?_
  refine z_iconst E (v := 2) d_Law_289 (by decide) ?_
  refine z_iadd E d_Law_290 ?_
  refine z_sld E hX3 k2 d_Law_291 ?_
  obtain ⟨n', R', W', p', src', mk', len', lk', pa', up', ld', A', hP⟩ := INVE.par hI
  refine z_callVI [.int (xs (nI i + 1).toNatClampNeg), .int (xs (nI i + 2).toNatClampNeg)] [] E (w_P_flow5 G σ (xs (nI i + 1).toNatClampNeg) (xs (nI i + 2).toNatClampNeg) hP) c_Law_37 rl_P_flow rfl ⟨(Nat.le_of_ble_eq_true rfl), (Nat.le_of_ble_eq_true rfl), (Nat.le_of_ble_eq_true rfl), (Nat.le_of_ble_eq_true rfl)⟩ rfl (Nat.le_of_ble_eq_true rfl) d_Law_292 (fun x1 τ1 hp1 => ?_)
  refine z_pop E d_Law_295 rfl ?_
  refine z_aload_n E 2 d_Law_296 rfl rfl ?_
  refine z_aload_n E 0 d_Law_297 rfl rfl ?_
  refine z_iload_n E 3 d_Law_298 rfl rfl ?_
  refine z_iconst E (v := 1) d_Law_299 (by decide) ?_
  refine z_iadd E d_Law_300 ?_
  refine z_sld E hX3 k1 d_Law_301 ?_
  refine z_aload_n E 0 d_Law_302 rfl rfl ?_
  refine z_iload_n E 3 d_Law_303 rfl rfl ?_
  refine z_iconst E (v := 2) d_Law_304 (by decide) ?_
  refine z_iadd E d_Law_305 ?_
  refine z_sld E hX3 k2 d_Law_306 ?_
  refine z_callVI [.int (xs (nI i + 1).toNatClampNeg), .int (xs (nI i + 2).toNatClampNeg)] [] E (w_Mo_flow5 G σ τ1 (xs (nI i + 1).toNatClampNeg) (xs (nI i + 2).toNatClampNeg) hI hP hp1) c_Law_40 rl_Mo_flow rfl ⟨(Nat.le_of_ble_eq_true rfl), (Nat.le_of_ble_eq_true rfl), (Nat.le_of_ble_eq_true rfl), (Nat.le_of_ble_eq_true rfl)⟩ rfl (Nat.le_of_ble_eq_true rfl) d_Law_307 (fun x2 τ2 hp2 => ?_)
  obtain ⟨e12, hI2⟩ := INVE.flow hI hP hp1 hp2
  refine z_pop E d_Law_310 rfl ?_
  exact z_goto E d_Law_311 (tgt := 482) (by decide) (next τ2 hI2)
set_option maxRecDepth 100000 in
set_option maxHeartbeats 4000000 in
theorem law_c314 {G : zG} {p : Program} {e : Env} {s : State} {m : MethodId} {b L i : Nat} {below : List Frame} {meth : Method} {c : Code} {xs : Nat → Int32} {σ : zSt} (hX3 : va_X b L xs s s.heap ∧ b < s.heap.size ∧ ¬ (lK s b below).2.1 b) (E : zCtx G M_Law (lK s b below) (lX p e s m b below meth c)) (k1 : vp_in (nI i + 1) L) (k2 : vp_in (nI i + 2) L) (k3 : vp_in (nI i + 3) L) (k4 : vp_in (nI i + 4) L) (k5 : vp_in (nI i + 5) L) (next : ∀ τ : zSt, INVE τ → zY G M_Law (lK s b below) (lX p e s m b below meth c) 482 (lLv G b i) [] τ) (hI : INVE σ) : zY G M_Law (lK s b below) (lX p e s m b below meth c) 314 (lLv G b i) [] σ := by
  refine z_aload_n E 1 d_Law_314 rfl rfl ?_
  refine z_aload_n E 0 d_Law_315 rfl rfl ?_
  refine z_iload_n E 3 d_Law_316 rfl rfl ?_
  refine z_iconst E (v := 1) d_Law_317 (by decide) ?_
  refine z_iadd E d_Law_318 ?_
  refine z_sld E hX3 k1 d_Law_319 ?_
  refine z_aload_n E 0 d_Law_320 rfl rfl ?_
  refine z_iload_n E 3 d_Law_321 rfl rfl ?_
  refine z_iconst E (v := 2) d_Law_322 (by decide) ?_
  refine z_iadd E d_Law_323 ?_
  refine z_sld E hX3 k2 d_Law_324 ?_
  refine z_callVI [.int (xs (nI i + 1).toNatClampNeg), .int (xs (nI i + 2).toNatClampNeg)] [] E (w_P_told5 G σ (xs (nI i + 1).toNatClampNeg) (xs (nI i + 2).toNatClampNeg) hI) c_Law_41 rl_P_told rfl ⟨(Nat.le_of_ble_eq_true rfl), (Nat.le_of_ble_eq_true rfl), (Nat.le_of_ble_eq_true rfl), (Nat.le_of_ble_eq_true rfl)⟩ rfl (Nat.le_of_ble_eq_true rfl) d_Law_325 (fun x1 τ1 hp1 => ?_)
  refine z_pop E d_Law_328 rfl ?_
  refine z_aload_n E 2 d_Law_329 rfl rfl ?_
  refine z_aload_n E 0 d_Law_330 rfl rfl ?_
  refine z_iload_n E 3 d_Law_331 rfl rfl ?_
  refine z_iconst E (v := 1) d_Law_332 (by decide) ?_
  refine z_iadd E d_Law_333 ?_
  refine z_sld E hX3 k1 d_Law_334 ?_
  refine z_aload_n E 0 d_Law_335 rfl rfl ?_
  refine z_iload_n E 3 d_Law_336 rfl rfl ?_
  refine z_iconst E (v := 2) d_Law_337 (by decide) ?_
  refine z_iadd E d_Law_338 ?_
  refine z_sld E hX3 k2 d_Law_339 ?_
  refine z_callVI [.int (xs (nI i + 1).toNatClampNeg), .int (xs (nI i + 2).toNatClampNeg)] [] E (w_Mo_told5 G τ1 (xs (nI i + 1).toNatClampNeg) (xs (nI i + 2).toNatClampNeg) (by rw [hp1.1]; exact hI)) c_Law_44 rl_Mo_told rfl ⟨(Nat.le_of_ble_eq_true rfl), (Nat.le_of_ble_eq_true rfl), (Nat.le_of_ble_eq_true rfl), (Nat.le_of_ble_eq_true rfl)⟩ rfl (Nat.le_of_ble_eq_true rfl) d_Law_340 (fun x2 τ2 hp2 => ?_)
  obtain ⟨e12, hI2⟩ := INVE.told hI hp1 hp2
  refine z_pop E d_Law_343 rfl ?_
  exact z_goto E d_Law_344 (tgt := 482) (by decide) (next τ2 hI2)
set_option maxRecDepth 100000 in
set_option maxHeartbeats 4000000 in
theorem law_c347 {G : zG} {p : Program} {e : Env} {s : State} {m : MethodId} {b L i : Nat} {below : List Frame} {meth : Method} {c : Code} {xs : Nat → Int32} {σ : zSt} (hX3 : va_X b L xs s s.heap ∧ b < s.heap.size ∧ ¬ (lK s b below).2.1 b) (E : zCtx G M_Law (lK s b below) (lX p e s m b below meth c)) (k1 : vp_in (nI i + 1) L) (k2 : vp_in (nI i + 2) L) (k3 : vp_in (nI i + 3) L) (k4 : vp_in (nI i + 4) L) (k5 : vp_in (nI i + 5) L) (next : ∀ τ : zSt, INVE τ → zY G M_Law (lK s b below) (lX p e s m b below meth c) 482 (lLv G b i) [] τ) (hI : INVE σ) : zY G M_Law (lK s b below) (lX p e s m b below meth c) 347 (lLv G b i) [] σ := by
  refine z_aload_n E 1 d_Law_347 rfl rfl ?_
  refine z_aload_n E 0 d_Law_348 rfl rfl ?_
  refine z_iload_n E 3 d_Law_349 rfl rfl ?_
  refine z_iconst E (v := 1) d_Law_350 (by decide) ?_
  refine z_iadd E d_Law_351 ?_
  refine z_sld E hX3 k1 d_Law_352 ?_
  refine z_aload_n E 0 d_Law_353 rfl rfl ?_
  refine z_iload_n E 3 d_Law_354 rfl rfl ?_
  refine z_iconst E (v := 2) d_Law_355 (by decide) ?_
  refine z_iadd E d_Law_356 ?_
  refine z_sld E hX3 k2 d_Law_357 ?_
  refine z_callVI [.int (xs (nI i + 1).toNatClampNeg), .int (xs (nI i + 2).toNatClampNeg)] [] E (w_P_past5 G σ (xs (nI i + 1).toNatClampNeg) (xs (nI i + 2).toNatClampNeg) hI) c_Law_45 rl_P_past rfl ⟨(Nat.le_of_ble_eq_true rfl), (Nat.le_of_ble_eq_true rfl), (Nat.le_of_ble_eq_true rfl), (Nat.le_of_ble_eq_true rfl)⟩ rfl (Nat.le_of_ble_eq_true rfl) d_Law_358 (fun x1 τ1 hp1 => ?_)
  refine z_pop E d_Law_361 rfl ?_
  refine z_aload_n E 2 d_Law_362 rfl rfl ?_
  refine z_aload_n E 0 d_Law_363 rfl rfl ?_
  refine z_iload_n E 3 d_Law_364 rfl rfl ?_
  refine z_iconst E (v := 1) d_Law_365 (by decide) ?_
  refine z_iadd E d_Law_366 ?_
  refine z_sld E hX3 k1 d_Law_367 ?_
  refine z_aload_n E 0 d_Law_368 rfl rfl ?_
  refine z_iload_n E 3 d_Law_369 rfl rfl ?_
  refine z_iconst E (v := 2) d_Law_370 (by decide) ?_
  refine z_iadd E d_Law_371 ?_
  refine z_sld E hX3 k2 d_Law_372 ?_
  refine z_callVI [.int (xs (nI i + 1).toNatClampNeg), .int (xs (nI i + 2).toNatClampNeg)] [] E (w_Mo_past5 G τ1 (xs (nI i + 1).toNatClampNeg) (xs (nI i + 2).toNatClampNeg) (by rw [hp1.1]; exact hI)) c_Law_48 rl_Mo_past rfl ⟨(Nat.le_of_ble_eq_true rfl), (Nat.le_of_ble_eq_true rfl), (Nat.le_of_ble_eq_true rfl), (Nat.le_of_ble_eq_true rfl)⟩ rfl (Nat.le_of_ble_eq_true rfl) d_Law_373 (fun x2 τ2 hp2 => ?_)
  obtain ⟨e12, hI2⟩ := INVE.past hI hp1 hp2
  refine z_pop E d_Law_376 rfl ?_
  exact z_goto E d_Law_377 (tgt := 482) (by decide) (next τ2 hI2)
set_option maxRecDepth 100000 in
set_option maxHeartbeats 4000000 in
theorem law_c380 {G : zG} {p : Program} {e : Env} {s : State} {m : MethodId} {b L i : Nat} {below : List Frame} {meth : Method} {c : Code} {xs : Nat → Int32} {σ : zSt} (hX3 : va_X b L xs s s.heap ∧ b < s.heap.size ∧ ¬ (lK s b below).2.1 b) (E : zCtx G M_Law (lK s b below) (lX p e s m b below meth c)) (k1 : vp_in (nI i + 1) L) (k2 : vp_in (nI i + 2) L) (k3 : vp_in (nI i + 3) L) (k4 : vp_in (nI i + 4) L) (k5 : vp_in (nI i + 5) L) (next : ∀ τ : zSt, INVE τ → zY G M_Law (lK s b below) (lX p e s m b below meth c) 482 (lLv G b i) [] τ) (hI : INVE σ) : zY G M_Law (lK s b below) (lX p e s m b below meth c) 380 (lLv G b i) [] σ := by
  refine z_aload_n E 1 d_Law_380 rfl rfl ?_
  refine z_aload_n E 0 d_Law_381 rfl rfl ?_
  refine z_iload_n E 3 d_Law_382 rfl rfl ?_
  refine z_iconst E (v := 1) d_Law_383 (by decide) ?_
  refine z_iadd E d_Law_384 ?_
  refine z_sld E hX3 k1 d_Law_385 ?_
  refine z_aload_n E 0 d_Law_386 rfl rfl ?_
  refine z_iload_n E 3 d_Law_387 rfl rfl ?_
  refine z_iconst E (v := 2) d_Law_388 (by decide) ?_
  refine z_iadd E d_Law_389 ?_
  refine z_sld E hX3 k2 d_Law_390 ?_
  refine z_callVI [.int (xs (nI i + 1).toNatClampNeg), .int (xs (nI i + 2).toNatClampNeg)] [] E (w_P_inStep5 G σ (xs (nI i + 1).toNatClampNeg) (xs (nI i + 2).toNatClampNeg) hI) c_Law_49 rl_P_inStep rfl ⟨(Nat.le_of_ble_eq_true rfl), (Nat.le_of_ble_eq_true rfl), (Nat.le_of_ble_eq_true rfl), (Nat.le_of_ble_eq_true rfl)⟩ rfl (Nat.le_of_ble_eq_true rfl) d_Law_391 (fun x1 τ1 hp1 => ?_)
  refine z_pop E d_Law_394 rfl ?_
  refine z_aload_n E 2 d_Law_395 rfl rfl ?_
  refine z_aload_n E 0 d_Law_396 rfl rfl ?_
  refine z_iload_n E 3 d_Law_397 rfl rfl ?_
  refine z_iconst E (v := 1) d_Law_398 (by decide) ?_
  refine z_iadd E d_Law_399 ?_
  refine z_sld E hX3 k1 d_Law_400 ?_
  refine z_aload_n E 0 d_Law_401 rfl rfl ?_
  refine z_iload_n E 3 d_Law_402 rfl rfl ?_
  refine z_iconst E (v := 2) d_Law_403 (by decide) ?_
  refine z_iadd E d_Law_404 ?_
  refine z_sld E hX3 k2 d_Law_405 ?_
  refine z_callVI [.int (xs (nI i + 1).toNatClampNeg), .int (xs (nI i + 2).toNatClampNeg)] [] E (w_Mo_inStep5 G τ1 (xs (nI i + 1).toNatClampNeg) (xs (nI i + 2).toNatClampNeg) (by rw [hp1.1]; exact hI)) c_Law_52 rl_Mo_inStep rfl ⟨(Nat.le_of_ble_eq_true rfl), (Nat.le_of_ble_eq_true rfl), (Nat.le_of_ble_eq_true rfl), (Nat.le_of_ble_eq_true rfl)⟩ rfl (Nat.le_of_ble_eq_true rfl) d_Law_406 (fun x2 τ2 hp2 => ?_)
  obtain ⟨e12, hI2⟩ := INVE.inStep hI hp1 hp2
  refine z_pop E d_Law_409 rfl ?_
  exact z_goto E d_Law_410 (tgt := 482) (by decide) (next τ2 hI2)
set_option maxRecDepth 100000 in
set_option maxHeartbeats 4000000 in
theorem law_c413 {G : zG} {p : Program} {e : Env} {s : State} {m : MethodId} {b L i : Nat} {below : List Frame} {meth : Method} {c : Code} {xs : Nat → Int32} {σ : zSt} (hX3 : va_X b L xs s s.heap ∧ b < s.heap.size ∧ ¬ (lK s b below).2.1 b) (E : zCtx G M_Law (lK s b below) (lX p e s m b below meth c)) (k1 : vp_in (nI i + 1) L) (k2 : vp_in (nI i + 2) L) (k3 : vp_in (nI i + 3) L) (k4 : vp_in (nI i + 4) L) (k5 : vp_in (nI i + 5) L) (next : ∀ τ : zSt, INVE τ → zY G M_Law (lK s b below) (lX p e s m b below meth c) 482 (lLv G b i) [] τ) (hI : INVE σ) : zY G M_Law (lK s b below) (lX p e s m b below meth c) 413 (lLv G b i) [] σ := by
  refine z_aload_n E 1 d_Law_413 rfl rfl ?_
  refine z_callVI [] [] E (w_P_differ5 G σ  hI) c_Law_53 rl_P_differ rfl ⟨(Nat.le_of_ble_eq_true rfl), (Nat.le_of_ble_eq_true rfl), (Nat.le_of_ble_eq_true rfl), (Nat.le_of_ble_eq_true rfl)⟩ rfl (Nat.le_of_ble_eq_true rfl) d_Law_414 (fun x1 τ1 hp1 => ?_)
  refine z_pop E d_Law_417 rfl ?_
  refine z_aload_n E 2 d_Law_418 rfl rfl ?_
  refine z_callVI [] [] E (w_Mo_differ5 G τ1  (by rw [hp1.1]; exact hI)) c_Law_57 rl_Mo_differ rfl ⟨(Nat.le_of_ble_eq_true rfl), (Nat.le_of_ble_eq_true rfl), (Nat.le_of_ble_eq_true rfl), (Nat.le_of_ble_eq_true rfl)⟩ rfl (Nat.le_of_ble_eq_true rfl) d_Law_419 (fun x2 τ2 hp2 => ?_)
  obtain ⟨e12, hI2⟩ := INVE.differ hI hp1 hp2
  refine z_pop E d_Law_422 rfl ?_
  exact z_goto E d_Law_423 (tgt := 482) (by decide) (next τ2 hI2)
set_option maxRecDepth 100000 in
set_option maxHeartbeats 4000000 in
theorem law_c426 {G : zG} {p : Program} {e : Env} {s : State} {m : MethodId} {b L i : Nat} {below : List Frame} {meth : Method} {c : Code} {xs : Nat → Int32} {σ : zSt} (hX3 : va_X b L xs s s.heap ∧ b < s.heap.size ∧ ¬ (lK s b below).2.1 b) (E : zCtx G M_Law (lK s b below) (lX p e s m b below meth c)) (k1 : vp_in (nI i + 1) L) (k2 : vp_in (nI i + 2) L) (k3 : vp_in (nI i + 3) L) (k4 : vp_in (nI i + 4) L) (k5 : vp_in (nI i + 5) L) (next : ∀ τ : zSt, INVE τ → zY G M_Law (lK s b below) (lX p e s m b below meth c) 482 (lLv G b i) [] τ) (hI : INVE σ) : zY G M_Law (lK s b below) (lX p e s m b below meth c) 426 (lLv G b i) [] σ := by
  refine z_aload_n E 1 d_Law_426 rfl rfl ?_
  refine z_aload_n E 0 d_Law_427 rfl rfl ?_
  refine z_iload_n E 3 d_Law_428 rfl rfl ?_
  refine z_iconst E (v := 1) d_Law_429 (by decide) ?_
  refine z_iadd E d_Law_430 ?_
  refine z_sld E hX3 k1 d_Law_431 ?_
  refine z_aload_n E 0 d_Law_432 rfl rfl ?_
  refine z_iload_n E 3 d_Law_433 rfl rfl ?_
  refine z_iconst E (v := 2) d_Law_434 (by decide) ?_
  refine z_iadd E d_Law_435 ?_
  refine z_sld E hX3 k2 d_Law_436 ?_
  refine z_callVI [.int (xs (nI i + 1).toNatClampNeg), .int (xs (nI i + 2).toNatClampNeg)] [] E (w_P_letter5 G σ (xs (nI i + 1).toNatClampNeg) (xs (nI i + 2).toNatClampNeg) hI) c_Law_58 rl_P_letter rfl ⟨(Nat.le_of_ble_eq_true rfl), (Nat.le_of_ble_eq_true rfl), (Nat.le_of_ble_eq_true rfl), (Nat.le_of_ble_eq_true rfl)⟩ rfl (Nat.le_of_ble_eq_true rfl) d_Law_437 (fun x1 τ1 hp1 => ?_)
  refine z_pop E d_Law_440 rfl ?_
  refine z_aload_n E 2 d_Law_441 rfl rfl ?_
  refine z_aload_n E 0 d_Law_442 rfl rfl ?_
  refine z_iload_n E 3 d_Law_443 rfl rfl ?_
  refine z_iconst E (v := 1) d_Law_444 (by decide) ?_
  refine z_iadd E d_Law_445 ?_
  refine z_sld E hX3 k1 d_Law_446 ?_
  refine z_aload_n E 0 d_Law_447 rfl rfl ?_
  refine z_iload_n E 3 d_Law_448 rfl rfl ?_
  refine z_iconst E (v := 2) d_Law_449 (by decide) ?_
  refine z_iadd E d_Law_450 ?_
  refine z_sld E hX3 k2 d_Law_451 ?_
  refine z_callVI [.int (xs (nI i + 1).toNatClampNeg), .int (xs (nI i + 2).toNatClampNeg)] [] E (w_Mo_letter5 G τ1 (xs (nI i + 1).toNatClampNeg) (xs (nI i + 2).toNatClampNeg) (by rw [hp1.1]; exact hI)) c_Law_61 rl_Mo_letter rfl ⟨(Nat.le_of_ble_eq_true rfl), (Nat.le_of_ble_eq_true rfl), (Nat.le_of_ble_eq_true rfl), (Nat.le_of_ble_eq_true rfl)⟩ rfl (Nat.le_of_ble_eq_true rfl) d_Law_452 (fun x2 τ2 hp2 => ?_)
  obtain ⟨e12, hI2⟩ := INVE.letter hI hp1 hp2
  refine z_pop E d_Law_455 rfl ?_
  exact z_goto E d_Law_456 (tgt := 482) (by decide) (next τ2 hI2)
set_option maxRecDepth 100000 in
set_option maxHeartbeats 4000000 in
theorem law_c459 {G : zG} {p : Program} {e : Env} {s : State} {m : MethodId} {b L i : Nat} {below : List Frame} {meth : Method} {c : Code} {xs : Nat → Int32} {σ : zSt} (hX3 : va_X b L xs s s.heap ∧ b < s.heap.size ∧ ¬ (lK s b below).2.1 b) (E : zCtx G M_Law (lK s b below) (lX p e s m b below meth c)) (k1 : vp_in (nI i + 1) L) (k2 : vp_in (nI i + 2) L) (k3 : vp_in (nI i + 3) L) (k4 : vp_in (nI i + 4) L) (k5 : vp_in (nI i + 5) L) (next : ∀ τ : zSt, INVE τ → zY G M_Law (lK s b below) (lX p e s m b below meth c) 482 (lLv G b i) [] τ) (hI : INVE σ) : zY G M_Law (lK s b below) (lX p e s m b below meth c) 459 (lLv G b i) [] σ := by
  refine z_aload_n E 1 d_Law_459 rfl rfl ?_
  refine z_aload_n E 0 d_Law_460 rfl rfl ?_
  refine z_iload_n E 3 d_Law_461 rfl rfl ?_
  refine z_iconst E (v := 1) d_Law_462 (by decide) ?_
  refine z_iadd E d_Law_463 ?_
  refine z_sld E hX3 k1 d_Law_464 ?_
  refine z_callVI [.int (xs (nI i + 1).toNatClampNeg)] [] E (w_P_count5 G σ (xs (nI i + 1).toNatClampNeg) hI) c_Law_62 rl_P_count rfl ⟨(Nat.le_of_ble_eq_true rfl), (Nat.le_of_ble_eq_true rfl), (Nat.le_of_ble_eq_true rfl), (Nat.le_of_ble_eq_true rfl)⟩ rfl (Nat.le_of_ble_eq_true rfl) d_Law_465 (fun x1 τ1 hp1 => ?_)
  refine z_aload_n E 2 d_Law_468 rfl rfl ?_
  refine z_aload_n E 0 d_Law_469 rfl rfl ?_
  refine z_iload_n E 3 d_Law_470 rfl rfl ?_
  refine z_iconst E (v := 1) d_Law_471 (by decide) ?_
  refine z_iadd E d_Law_472 ?_
  refine z_sld E hX3 k1 d_Law_473 ?_
  refine z_callVI [.int (xs (nI i + 1).toNatClampNeg)] [.int x1] E (w_Mo_count5 G τ1 (xs (nI i + 1).toNatClampNeg) (by rw [hp1.1]; exact hI)) c_Law_65 rl_Mo_count rfl ⟨(Nat.le_of_ble_eq_true rfl), (Nat.le_of_ble_eq_true rfl), (Nat.le_of_ble_eq_true rfl), (Nat.le_of_ble_eq_true rfl)⟩ rfl (Nat.le_of_ble_eq_true rfl) d_Law_474 (fun x2 τ2 hp2 => ?_)
  obtain ⟨e12, hI2⟩ := INVE.count hI hp1 hp2
  exact z_icmp_eq E d_Law_477 (tgt := 482) (by decide) ⟨fun _ => next τ2 hI2, fun q => absurd e12 q⟩
set_option maxRecDepth 100000 in
set_option maxHeartbeats 4000000 in
theorem law_loop {G : zG} {p : Program} {e : Env} {s : State} {m : MethodId} {b L : Nat} {below : List Frame} {meth : Method} {c : Code} {xs : Nat → Int32} (hL : L ≤ 3072) (hX : va_X b L xs s s.heap) (hb : b < s.heap.size) (E : zCtx G M_Law (lK s b below) (lX p e s m b below meth c)) : ∀ (k i : Nat) (σ : zSt), L - i = k → i ≤ 3078 → INVE σ → zY G M_Law (lK s b below) (lX p e s m b below meth c) 18 (lLv G b i) [] σ := by
  intro k
  induction k using Nat.strongRecOn with
  | ind k IH =>
    intro i σ hk hi hI
    have hX3 : va_X b L xs s s.heap ∧ b < s.heap.size ∧ ¬ (lK s b below).2.1 b := ⟨hX, hb, Nat.not_le.mpr hb⟩
    refine z_iload_n E 3 d_Law_18 rfl rfl ?_
    refine z_aload_n E 0 d_Law_19 rfl rfl ?_
    refine z_slen E hX3 d_Law_20 ?_
    refine z_bipush E (v := 6) d_Law_21 (by decide) ?_
    refine z_isub E d_Law_23 ?_
    have e6 : (nI L - 6).toInt = (L : Int) - 6 := pk_sub_toInt (a := L) (b := 6) (by omega) (by decide)
    refine z_icmp_gt E d_Law_24 (tgt := 488) (by decide) ⟨fun _ => ?_, fun hle => ?_⟩
    · refine z_iconst E (v := 1) d_Law_488 (by decide) ?_
      exact fun ls H locs h hP hS => va_forget (fun q hq => hS.2.2 q hq) (lw_ret E.1 E.2.1 E.2.2.2.1 E.2.2.2.2.2.2.2.2.2.1 d_Law_489)
    have h6 : i + 6 ≤ L := by
      have h1 := i32_le.mp (Int32.not_lt.mp hle)
      rw [e6, nI_toInt (by omega)] at h1
      omega
    have k0 : vp_in (nI i) L := vp_in_nI (by omega) (by omega)
    have k1 : vp_in (nI i + 1) L := vp_at (k := 1) (by omega) hL
    have k2 : vp_in (nI i + 2) L := vp_at (k := 2) (by omega) hL
    have k3 : vp_in (nI i + 3) L := vp_at (k := 3) (by omega) hL
    have k4 : vp_in (nI i + 4) L := vp_at (k := 4) (by omega) hL
    have k5 : vp_in (nI i + 5) L := vp_at (k := 5) (by omega) hL
    have next : ∀ τ : zSt, INVE τ → zY G M_Law (lK s b below) (lX p e s m b below meth c) 482 (lLv G b i) [] τ := by
      intro τ hτ
      refine z_iinc E 3 [1, 2, 3, 0] (v := nI i + 6) (lv' := [(0, .ref b), (1, zf G 0), (2, zf G 32), (3, .int (nI i + 6))]) d_Law_482 rfl rfl (by decide) rfl ?_
      rw [show nI i + 6 = nI (i + 6) from nI_add i 6]
      exact z_goto E d_Law_485 (tgt := 18) (by decide) (IH (L - (i + 6)) (by omega) (i + 6) τ rfl (by omega) hτ)
    refine z_aload_n E 0 d_Law_27 rfl rfl ?_
    refine z_iload_n E 3 d_Law_28 rfl rfl ?_
    refine z_sld E hX3 k0 d_Law_29 ?_
    refine z_bipush E (v := 15) d_Law_30 (by decide) ?_
    refine z_iand E d_Law_32 ?_
    exact z_table E d_Law_33 (tO := 482) (tgts := [96, 119, 162, 195, 258, 281, 314, 347, 380, 413, 426, 459]) (by decide) (by decide) (by decide) ⟨z_tcons (fun _ => law_c96 hX3 E k1 k2 k3 k4 k5 next hI) (z_tcons (fun _ => law_c119 hX3 E k1 k2 k3 k4 k5 next hI) (z_tcons (fun _ => law_c162 hX3 E k1 k2 k3 k4 k5 next hI) (z_tcons (fun _ => law_c195 hX3 E k1 k2 k3 k4 k5 next hI) (z_tcons (fun _ => law_c258 hX3 E k1 k2 k3 k4 k5 next hI) (z_tcons (fun _ => law_c281 hX3 E k1 k2 k3 k4 k5 next hI) (z_tcons (fun _ => law_c314 hX3 E k1 k2 k3 k4 k5 next hI) (z_tcons (fun _ => law_c347 hX3 E k1 k2 k3 k4 k5 next hI) (z_tcons (fun _ => law_c380 hX3 E k1 k2 k3 k4 k5 next hI) (z_tcons (fun _ => law_c413 hX3 E k1 k2 k3 k4 k5 next hI) (z_tcons (fun _ => law_c426 hX3 E k1 k2 k3 k4 k5 next hI) (z_tcons (fun _ => law_c459 hX3 E k1 k2 k3 k4 k5 next hI) (z_tnil)))))))))))), fun _ => next σ hI⟩
