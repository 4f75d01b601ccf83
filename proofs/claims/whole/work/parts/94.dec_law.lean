abbrev b_law_law : ByteArray := code
abbrev cw0 : Cond := Cond.code objectInit ⟨#[0xb1]⟩ 1 none
theorem d_law_law_0 : decode b_law_law 0 = .ok (.new 7, 3) := by decide +kernel
theorem d_law_law_3 : decode b_law_law 3 = .ok (.dup, 1) := by decide +kernel
theorem d_law_law_4 : decode b_law_law 4 = .ok (.invokespecial 9, 3) := by decide +kernel
theorem d_law_law_7 : decode b_law_law 7 = .ok (.astore_n 1, 1) := by decide +kernel
theorem d_law_law_8 : decode b_law_law 8 = .ok (.new 10, 3) := by decide +kernel
theorem d_law_law_11 : decode b_law_law 11 = .ok (.dup, 1) := by decide +kernel
theorem d_law_law_12 : decode b_law_law 12 = .ok (.invokespecial 12, 3) := by decide +kernel
theorem d_law_law_15 : decode b_law_law 15 = .ok (.astore_n 2, 1) := by decide +kernel
theorem d_law_law_16 : decode b_law_law 16 = .ok (.iconst 0, 1) := by decide +kernel
theorem d_law_law_17 : decode b_law_law 17 = .ok (.istore_n 3, 1) := by decide +kernel
theorem d_law_law_18 : decode b_law_law 18 = .ok (.iload_n 3, 1) := by decide +kernel
theorem d_law_law_19 : decode b_law_law 19 = .ok (.aload_n 0, 1) := by decide +kernel
theorem d_law_law_20 : decode b_law_law 20 = .ok (.arraylength, 1) := by decide +kernel
theorem d_law_law_21 : decode b_law_law 21 = .ok (.bipush 7, 2) := by decide +kernel
theorem d_law_law_23 : decode b_law_law 23 = .ok (.isub, 1) := by decide +kernel
theorem d_law_law_24 : decode b_law_law 24 = .ok (.if_icmp .gt 574, 3) := by decide +kernel
theorem d_law_law_27 : decode b_law_law 27 = .ok (.aload_n 0, 1) := by decide +kernel
theorem d_law_law_28 : decode b_law_law 28 = .ok (.iload_n 3, 1) := by decide +kernel
theorem d_law_law_29 : decode b_law_law 29 = .ok (.iaload, 1) := by decide +kernel
theorem d_law_law_30 : decode b_law_law 30 = .ok (.bipush 15, 2) := by decide +kernel
theorem d_law_law_32 : decode b_law_law 32 = .ok (.iand, 1) := by decide +kernel
theorem d_law_law_33 : decode b_law_law 33 = .ok (.tableswitch 559 0 15 #[79, 112, 145, 220, 233, 286, 349, 382, 395, 418, 431, 444, 467, 500, 523, 536], 79) := by decide +kernel
theorem d_law_law_112 : decode b_law_law 112 = .ok (.aload_n 1, 1) := by decide +kernel
theorem d_law_law_113 : decode b_law_law 113 = .ok (.aload_n 0, 1) := by decide +kernel
theorem d_law_law_114 : decode b_law_law 114 = .ok (.iload_n 3, 1) := by decide +kernel
theorem d_law_law_115 : decode b_law_law 115 = .ok (.iconst 1, 1) := by decide +kernel
theorem d_law_law_116 : decode b_law_law 116 = .ok (.iadd, 1) := by decide +kernel
theorem d_law_law_117 : decode b_law_law 117 = .ok (.iaload, 1) := by decide +kernel
theorem d_law_law_118 : decode b_law_law 118 = .ok (.aload_n 0, 1) := by decide +kernel
theorem d_law_law_119 : decode b_law_law 119 = .ok (.iload_n 3, 1) := by decide +kernel
theorem d_law_law_120 : decode b_law_law 120 = .ok (.iconst 2, 1) := by decide +kernel
theorem d_law_law_121 : decode b_law_law 121 = .ok (.iadd, 1) := by decide +kernel
theorem d_law_law_122 : decode b_law_law 122 = .ok (.iaload, 1) := by decide +kernel
theorem d_law_law_123 : decode b_law_law 123 = .ok (.invokevirtual 13, 3) := by decide +kernel
theorem d_law_law_126 : decode b_law_law 126 = .ok (.aload_n 2, 1) := by decide +kernel
theorem d_law_law_127 : decode b_law_law 127 = .ok (.aload_n 0, 1) := by decide +kernel
theorem d_law_law_128 : decode b_law_law 128 = .ok (.iload_n 3, 1) := by decide +kernel
theorem d_law_law_129 : decode b_law_law 129 = .ok (.iconst 1, 1) := by decide +kernel
theorem d_law_law_130 : decode b_law_law 130 = .ok (.iadd, 1) := by decide +kernel
theorem d_law_law_131 : decode b_law_law 131 = .ok (.iaload, 1) := by decide +kernel
theorem d_law_law_132 : decode b_law_law 132 = .ok (.aload_n 0, 1) := by decide +kernel
theorem d_law_law_133 : decode b_law_law 133 = .ok (.iload_n 3, 1) := by decide +kernel
theorem d_law_law_134 : decode b_law_law 134 = .ok (.iconst 2, 1) := by decide +kernel
theorem d_law_law_135 : decode b_law_law 135 = .ok (.iadd, 1) := by decide +kernel
theorem d_law_law_136 : decode b_law_law 136 = .ok (.iaload, 1) := by decide +kernel
theorem d_law_law_137 : decode b_law_law 137 = .ok (.invokevirtual 17, 3) := by decide +kernel
theorem d_law_law_140 : decode b_law_law 140 = .ok (.if_icmp .eq 452, 3) := by decide +kernel
theorem d_law_law_143 : decode b_law_law 143 = .ok (.iconst 0, 1) := by decide +kernel
theorem d_law_law_144 : decode b_law_law 144 = .ok (.ireturn, 1) := by decide +kernel
theorem d_law_law_145 : decode b_law_law 145 = .ok (.aload_n 1, 1) := by decide +kernel
theorem d_law_law_146 : decode b_law_law 146 = .ok (.aload_n 0, 1) := by decide +kernel
theorem d_law_law_147 : decode b_law_law 147 = .ok (.iload_n 3, 1) := by decide +kernel
theorem d_law_law_148 : decode b_law_law 148 = .ok (.iconst 1, 1) := by decide +kernel
theorem d_law_law_149 : decode b_law_law 149 = .ok (.iadd, 1) := by decide +kernel
theorem d_law_law_150 : decode b_law_law 150 = .ok (.iaload, 1) := by decide +kernel
theorem d_law_law_151 : decode b_law_law 151 = .ok (.aload_n 0, 1) := by decide +kernel
theorem d_law_law_152 : decode b_law_law 152 = .ok (.iload_n 3, 1) := by decide +kernel
theorem d_law_law_153 : decode b_law_law 153 = .ok (.iconst 2, 1) := by decide +kernel
theorem d_law_law_154 : decode b_law_law 154 = .ok (.iadd, 1) := by decide +kernel
theorem d_law_law_155 : decode b_law_law 155 = .ok (.iaload, 1) := by decide +kernel
theorem d_law_law_156 : decode b_law_law 156 = .ok (.invokevirtual 18, 3) := by decide +kernel
theorem d_law_law_159 : decode b_law_law 159 = .ok (.aload_n 2, 1) := by decide +kernel
theorem d_law_law_160 : decode b_law_law 160 = .ok (.aload_n 0, 1) := by decide +kernel
theorem d_law_law_161 : decode b_law_law 161 = .ok (.iload_n 3, 1) := by decide +kernel
theorem d_law_law_162 : decode b_law_law 162 = .ok (.iconst 1, 1) := by decide +kernel
theorem d_law_law_163 : decode b_law_law 163 = .ok (.iadd, 1) := by decide +kernel
theorem d_law_law_164 : decode b_law_law 164 = .ok (.iaload, 1) := by decide +kernel
theorem d_law_law_165 : decode b_law_law 165 = .ok (.aload_n 0, 1) := by decide +kernel
theorem d_law_law_166 : decode b_law_law 166 = .ok (.iload_n 3, 1) := by decide +kernel
theorem d_law_law_167 : decode b_law_law 167 = .ok (.iconst 2, 1) := by decide +kernel
theorem d_law_law_168 : decode b_law_law 168 = .ok (.iadd, 1) := by decide +kernel
theorem d_law_law_169 : decode b_law_law 169 = .ok (.iaload, 1) := by decide +kernel
theorem d_law_law_170 : decode b_law_law 170 = .ok (.invokevirtual 21, 3) := by decide +kernel
theorem d_law_law_173 : decode b_law_law 173 = .ok (.if_icmp .eq 419, 3) := by decide +kernel
theorem d_law_law_176 : decode b_law_law 176 = .ok (.iconst 0, 1) := by decide +kernel
theorem d_law_law_177 : decode b_law_law 177 = .ok (.ireturn, 1) := by decide +kernel
theorem d_law_law_178 : decode b_law_law 178 = .ok (.aload_n 1, 1) := by decide +kernel
theorem d_law_law_179 : decode b_law_law 179 = .ok (.aload_n 0, 1) := by decide +kernel
theorem d_law_law_180 : decode b_law_law 180 = .ok (.iload_n 3, 1) := by decide +kernel
theorem d_law_law_181 : decode b_law_law 181 = .ok (.iconst 1, 1) := by decide +kernel
theorem d_law_law_182 : decode b_law_law 182 = .ok (.iadd, 1) := by decide +kernel
theorem d_law_law_183 : decode b_law_law 183 = .ok (.iaload, 1) := by decide +kernel
theorem d_law_law_184 : decode b_law_law 184 = .ok (.aload_n 0, 1) := by decide +kernel
theorem d_law_law_185 : decode b_law_law 185 = .ok (.iload_n 3, 1) := by decide +kernel
theorem d_law_law_186 : decode b_law_law 186 = .ok (.iconst 2, 1) := by decide +kernel
theorem d_law_law_187 : decode b_law_law 187 = .ok (.iadd, 1) := by decide +kernel
theorem d_law_law_188 : decode b_law_law 188 = .ok (.iaload, 1) := by decide +kernel
theorem d_law_law_189 : decode b_law_law 189 = .ok (.aload_n 0, 1) := by decide +kernel
theorem d_law_law_190 : decode b_law_law 190 = .ok (.iload_n 3, 1) := by decide +kernel
theorem d_law_law_191 : decode b_law_law 191 = .ok (.iconst 3, 1) := by decide +kernel
theorem d_law_law_192 : decode b_law_law 192 = .ok (.iadd, 1) := by decide +kernel
theorem d_law_law_193 : decode b_law_law 193 = .ok (.iaload, 1) := by decide +kernel
theorem d_law_law_194 : decode b_law_law 194 = .ok (.aload_n 0, 1) := by decide +kernel
theorem d_law_law_195 : decode b_law_law 195 = .ok (.iload_n 3, 1) := by decide +kernel
theorem d_law_law_196 : decode b_law_law 196 = .ok (.iconst 4, 1) := by decide +kernel
theorem d_law_law_197 : decode b_law_law 197 = .ok (.iadd, 1) := by decide +kernel
theorem d_law_law_198 : decode b_law_law 198 = .ok (.iaload, 1) := by decide +kernel
theorem d_law_law_199 : decode b_law_law 199 = .ok (.aload_n 0, 1) := by decide +kernel
theorem d_law_law_200 : decode b_law_law 200 = .ok (.iload_n 3, 1) := by decide +kernel
theorem d_law_law_201 : decode b_law_law 201 = .ok (.iconst 5, 1) := by decide +kernel
theorem d_law_law_202 : decode b_law_law 202 = .ok (.iadd, 1) := by decide +kernel
theorem d_law_law_203 : decode b_law_law 203 = .ok (.iaload, 1) := by decide +kernel
theorem d_law_law_204 : decode b_law_law 204 = .ok (.aload_n 0, 1) := by decide +kernel
theorem d_law_law_205 : decode b_law_law 205 = .ok (.iload_n 3, 1) := by decide +kernel
theorem d_law_law_206 : decode b_law_law 206 = .ok (.bipush 6, 2) := by decide +kernel
theorem d_law_law_208 : decode b_law_law 208 = .ok (.iadd, 1) := by decide +kernel
theorem d_law_law_209 : decode b_law_law 209 = .ok (.iaload, 1) := by decide +kernel
theorem d_law_law_210 : decode b_law_law 210 = .ok (.invokevirtual 22, 3) := by decide +kernel
theorem d_law_law_213 : decode b_law_law 213 = .ok (.aload_n 2, 1) := by decide +kernel
theorem d_law_law_214 : decode b_law_law 214 = .ok (.aload_n 0, 1) := by decide +kernel
theorem d_law_law_215 : decode b_law_law 215 = .ok (.iload_n 3, 1) := by decide +kernel
theorem d_law_law_216 : decode b_law_law 216 = .ok (.iconst 1, 1) := by decide +kernel
theorem d_law_law_217 : decode b_law_law 217 = .ok (.iadd, 1) := by decide +kernel
theorem d_law_law_218 : decode b_law_law 218 = .ok (.iaload, 1) := by decide +kernel
theorem d_law_law_219 : decode b_law_law 219 = .ok (.aload_n 0, 1) := by decide +kernel
theorem d_law_law_220 : decode b_law_law 220 = .ok (.iload_n 3, 1) := by decide +kernel
theorem d_law_law_221 : decode b_law_law 221 = .ok (.iconst 2, 1) := by decide +kernel
theorem d_law_law_222 : decode b_law_law 222 = .ok (.iadd, 1) := by decide +kernel
theorem d_law_law_223 : decode b_law_law 223 = .ok (.iaload, 1) := by decide +kernel
theorem d_law_law_224 : decode b_law_law 224 = .ok (.aload_n 0, 1) := by decide +kernel
theorem d_law_law_225 : decode b_law_law 225 = .ok (.iload_n 3, 1) := by decide +kernel
theorem d_law_law_226 : decode b_law_law 226 = .ok (.iconst 3, 1) := by decide +kernel
theorem d_law_law_227 : decode b_law_law 227 = .ok (.iadd, 1) := by decide +kernel
theorem d_law_law_228 : decode b_law_law 228 = .ok (.iaload, 1) := by decide +kernel
theorem d_law_law_229 : decode b_law_law 229 = .ok (.aload_n 0, 1) := by decide +kernel
theorem d_law_law_230 : decode b_law_law 230 = .ok (.iload_n 3, 1) := by decide +kernel
theorem d_law_law_231 : decode b_law_law 231 = .ok (.iconst 4, 1) := by decide +kernel
theorem d_law_law_232 : decode b_law_law 232 = .ok (.iadd, 1) := by decide +kernel
theorem d_law_law_233 : decode b_law_law 233 = .ok (.iaload, 1) := by decide +kernel
theorem d_law_law_234 : decode b_law_law 234 = .ok (.aload_n 0, 1) := by decide +kernel
theorem d_law_law_235 : decode b_law_law 235 = .ok (.iload_n 3, 1) := by decide +kernel
theorem d_law_law_236 : decode b_law_law 236 = .ok (.iconst 5, 1) := by decide +kernel
theorem d_law_law_237 : decode b_law_law 237 = .ok (.iadd, 1) := by decide +kernel
theorem d_law_law_238 : decode b_law_law 238 = .ok (.iaload, 1) := by decide +kernel
theorem d_law_law_239 : decode b_law_law 239 = .ok (.aload_n 0, 1) := by decide +kernel
theorem d_law_law_240 : decode b_law_law 240 = .ok (.iload_n 3, 1) := by decide +kernel
theorem d_law_law_241 : decode b_law_law 241 = .ok (.bipush 6, 2) := by decide +kernel
theorem d_law_law_243 : decode b_law_law 243 = .ok (.iadd, 1) := by decide +kernel
theorem d_law_law_244 : decode b_law_law 244 = .ok (.iaload, 1) := by decide +kernel
theorem d_law_law_245 : decode b_law_law 245 = .ok (.invokevirtual 26, 3) := by decide +kernel
theorem d_law_law_248 : decode b_law_law 248 = .ok (.if_icmp .eq 344, 3) := by decide +kernel
theorem d_law_law_251 : decode b_law_law 251 = .ok (.iconst 0, 1) := by decide +kernel
theorem d_law_law_252 : decode b_law_law 252 = .ok (.ireturn, 1) := by decide +kernel
theorem d_law_law_253 : decode b_law_law 253 = .ok (.aload_n 1, 1) := by decide +kernel
theorem d_law_law_254 : decode b_law_law 254 = .ok (.invokevirtual 27, 3) := by decide +kernel
theorem d_law_law_257 : decode b_law_law 257 = .ok (.aload_n 2, 1) := by decide +kernel
theorem d_law_law_258 : decode b_law_law 258 = .ok (.invokevirtual 31, 3) := by decide +kernel
theorem d_law_law_261 : decode b_law_law 261 = .ok (.if_icmp .eq 331, 3) := by decide +kernel
theorem d_law_law_264 : decode b_law_law 264 = .ok (.iconst 0, 1) := by decide +kernel
theorem d_law_law_265 : decode b_law_law 265 = .ok (.ireturn, 1) := by decide +kernel
theorem d_law_law_266 : decode b_law_law 266 = .ok (.aload_n 1, 1) := by decide +kernel
theorem d_law_law_267 : decode b_law_law 267 = .ok (.aload_n 0, 1) := by decide +kernel
theorem d_law_law_268 : decode b_law_law 268 = .ok (.iload_n 3, 1) := by decide +kernel
theorem d_law_law_269 : decode b_law_law 269 = .ok (.iconst 1, 1) := by decide +kernel
theorem d_law_law_270 : decode b_law_law 270 = .ok (.iadd, 1) := by decide +kernel
theorem d_law_law_271 : decode b_law_law 271 = .ok (.iaload, 1) := by decide +kernel
theorem d_law_law_272 : decode b_law_law 272 = .ok (.aload_n 0, 1) := by decide +kernel
theorem d_law_law_273 : decode b_law_law 273 = .ok (.iload_n 3, 1) := by decide +kernel
theorem d_law_law_274 : decode b_law_law 274 = .ok (.iconst 2, 1) := by decide +kernel
theorem d_law_law_275 : decode b_law_law 275 = .ok (.iadd, 1) := by decide +kernel
theorem d_law_law_276 : decode b_law_law 276 = .ok (.iaload, 1) := by decide +kernel
theorem d_law_law_277 : decode b_law_law 277 = .ok (.aload_n 0, 1) := by decide +kernel
theorem d_law_law_278 : decode b_law_law 278 = .ok (.iload_n 3, 1) := by decide +kernel
theorem d_law_law_279 : decode b_law_law 279 = .ok (.iconst 3, 1) := by decide +kernel
theorem d_law_law_280 : decode b_law_law 280 = .ok (.iadd, 1) := by decide +kernel
theorem d_law_law_281 : decode b_law_law 281 = .ok (.iaload, 1) := by decide +kernel
theorem d_law_law_282 : decode b_law_law 282 = .ok (.aload_n 0, 1) := by decide +kernel
theorem d_law_law_283 : decode b_law_law 283 = .ok (.iload_n 3, 1) := by decide +kernel
theorem d_law_law_284 : decode b_law_law 284 = .ok (.iconst 4, 1) := by decide +kernel
theorem d_law_law_285 : decode b_law_law 285 = .ok (.iadd, 1) := by decide +kernel
theorem d_law_law_286 : decode b_law_law 286 = .ok (.iaload, 1) := by decide +kernel
theorem d_law_law_287 : decode b_law_law 287 = .ok (.invokevirtual 32, 3) := by decide +kernel
theorem d_law_law_290 : decode b_law_law 290 = .ok (.aload_n 2, 1) := by decide +kernel
theorem d_law_law_291 : decode b_law_law 291 = .ok (.aload_n 0, 1) := by decide +kernel
theorem d_law_law_292 : decode b_law_law 292 = .ok (.iload_n 3, 1) := by decide +kernel
theorem d_law_law_293 : decode b_law_law 293 = .ok (.iconst 1, 1) := by decide +kernel
theorem d_law_law_294 : decode b_law_law 294 = .ok (.iadd, 1) := by decide +kernel
theorem d_law_law_295 : decode b_law_law 295 = .ok (.iaload, 1) := by decide +kernel
theorem d_law_law_296 : decode b_law_law 296 = .ok (.aload_n 0, 1) := by decide +kernel
theorem d_law_law_297 : decode b_law_law 297 = .ok (.iload_n 3, 1) := by decide +kernel
theorem d_law_law_298 : decode b_law_law 298 = .ok (.iconst 2, 1) := by decide +kernel
theorem d_law_law_299 : decode b_law_law 299 = .ok (.iadd, 1) := by decide +kernel
theorem d_law_law_300 : decode b_law_law 300 = .ok (.iaload, 1) := by decide +kernel
theorem d_law_law_301 : decode b_law_law 301 = .ok (.aload_n 0, 1) := by decide +kernel
theorem d_law_law_302 : decode b_law_law 302 = .ok (.iload_n 3, 1) := by decide +kernel
theorem d_law_law_303 : decode b_law_law 303 = .ok (.iconst 3, 1) := by decide +kernel
theorem d_law_law_304 : decode b_law_law 304 = .ok (.iadd, 1) := by decide +kernel
theorem d_law_law_305 : decode b_law_law 305 = .ok (.iaload, 1) := by decide +kernel
theorem d_law_law_306 : decode b_law_law 306 = .ok (.aload_n 0, 1) := by decide +kernel
theorem d_law_law_307 : decode b_law_law 307 = .ok (.iload_n 3, 1) := by decide +kernel
theorem d_law_law_308 : decode b_law_law 308 = .ok (.iconst 4, 1) := by decide +kernel
theorem d_law_law_309 : decode b_law_law 309 = .ok (.iadd, 1) := by decide +kernel
theorem d_law_law_310 : decode b_law_law 310 = .ok (.iaload, 1) := by decide +kernel
theorem d_law_law_311 : decode b_law_law 311 = .ok (.invokevirtual 36, 3) := by decide +kernel
theorem d_law_law_314 : decode b_law_law 314 = .ok (.if_icmp .eq 278, 3) := by decide +kernel
theorem d_law_law_317 : decode b_law_law 317 = .ok (.iconst 0, 1) := by decide +kernel
theorem d_law_law_318 : decode b_law_law 318 = .ok (.ireturn, 1) := by decide +kernel
theorem d_law_law_319 : decode b_law_law 319 = .ok (.aload_n 1, 1) := by decide +kernel
theorem d_law_law_320 : decode b_law_law 320 = .ok (.aload_n 0, 1) := by decide +kernel
theorem d_law_law_321 : decode b_law_law 321 = .ok (.iload_n 3, 1) := by decide +kernel
theorem d_law_law_322 : decode b_law_law 322 = .ok (.iconst 1, 1) := by decide +kernel
theorem d_law_law_323 : decode b_law_law 323 = .ok (.iadd, 1) := by decide +kernel
theorem d_law_law_324 : decode b_law_law 324 = .ok (.iaload, 1) := by decide +kernel
theorem d_law_law_325 : decode b_law_law 325 = .ok (.aload_n 0, 1) := by decide +kernel
theorem d_law_law_326 : decode b_law_law 326 = .ok (.iload_n 3, 1) := by decide +kernel
theorem d_law_law_327 : decode b_law_law 327 = .ok (.iconst 2, 1) := by decide +kernel
theorem d_law_law_328 : decode b_law_law 328 = .ok (.iadd, 1) := by decide +kernel
theorem d_law_law_329 : decode b_law_law 329 = .ok (.iaload, 1) := by decide +kernel
theorem d_law_law_330 : decode b_law_law 330 = .ok (.aload_n 0, 1) := by decide +kernel
theorem d_law_law_331 : decode b_law_law 331 = .ok (.iload_n 3, 1) := by decide +kernel
theorem d_law_law_332 : decode b_law_law 332 = .ok (.iconst 3, 1) := by decide +kernel
theorem d_law_law_333 : decode b_law_law 333 = .ok (.iadd, 1) := by decide +kernel
theorem d_law_law_334 : decode b_law_law 334 = .ok (.iaload, 1) := by decide +kernel
theorem d_law_law_335 : decode b_law_law 335 = .ok (.aload_n 0, 1) := by decide +kernel
theorem d_law_law_336 : decode b_law_law 336 = .ok (.iload_n 3, 1) := by decide +kernel
theorem d_law_law_337 : decode b_law_law 337 = .ok (.iconst 4, 1) := by decide +kernel
theorem d_law_law_338 : decode b_law_law 338 = .ok (.iadd, 1) := by decide +kernel
theorem d_law_law_339 : decode b_law_law 339 = .ok (.iaload, 1) := by decide +kernel
theorem d_law_law_340 : decode b_law_law 340 = .ok (.aload_n 0, 1) := by decide +kernel
theorem d_law_law_341 : decode b_law_law 341 = .ok (.iload_n 3, 1) := by decide +kernel
theorem d_law_law_342 : decode b_law_law 342 = .ok (.iconst 5, 1) := by decide +kernel
theorem d_law_law_343 : decode b_law_law 343 = .ok (.iadd, 1) := by decide +kernel
theorem d_law_law_344 : decode b_law_law 344 = .ok (.iaload, 1) := by decide +kernel
theorem d_law_law_345 : decode b_law_law 345 = .ok (.invokevirtual 37, 3) := by decide +kernel
theorem d_law_law_348 : decode b_law_law 348 = .ok (.aload_n 2, 1) := by decide +kernel
theorem d_law_law_349 : decode b_law_law 349 = .ok (.aload_n 0, 1) := by decide +kernel
theorem d_law_law_350 : decode b_law_law 350 = .ok (.iload_n 3, 1) := by decide +kernel
theorem d_law_law_351 : decode b_law_law 351 = .ok (.iconst 1, 1) := by decide +kernel
theorem d_law_law_352 : decode b_law_law 352 = .ok (.iadd, 1) := by decide +kernel
theorem d_law_law_353 : decode b_law_law 353 = .ok (.iaload, 1) := by decide +kernel
theorem d_law_law_354 : decode b_law_law 354 = .ok (.aload_n 0, 1) := by decide +kernel
theorem d_law_law_355 : decode b_law_law 355 = .ok (.iload_n 3, 1) := by decide +kernel
theorem d_law_law_356 : decode b_law_law 356 = .ok (.iconst 2, 1) := by decide +kernel
theorem d_law_law_357 : decode b_law_law 357 = .ok (.iadd, 1) := by decide +kernel
theorem d_law_law_358 : decode b_law_law 358 = .ok (.iaload, 1) := by decide +kernel
theorem d_law_law_359 : decode b_law_law 359 = .ok (.aload_n 0, 1) := by decide +kernel
theorem d_law_law_360 : decode b_law_law 360 = .ok (.iload_n 3, 1) := by decide +kernel
theorem d_law_law_361 : decode b_law_law 361 = .ok (.iconst 3, 1) := by decide +kernel
theorem d_law_law_362 : decode b_law_law 362 = .ok (.iadd, 1) := by decide +kernel
theorem d_law_law_363 : decode b_law_law 363 = .ok (.iaload, 1) := by decide +kernel
theorem d_law_law_364 : decode b_law_law 364 = .ok (.aload_n 0, 1) := by decide +kernel
theorem d_law_law_365 : decode b_law_law 365 = .ok (.iload_n 3, 1) := by decide +kernel
theorem d_law_law_366 : decode b_law_law 366 = .ok (.iconst 4, 1) := by decide +kernel
theorem d_law_law_367 : decode b_law_law 367 = .ok (.iadd, 1) := by decide +kernel
theorem d_law_law_368 : decode b_law_law 368 = .ok (.iaload, 1) := by decide +kernel
theorem d_law_law_369 : decode b_law_law 369 = .ok (.aload_n 0, 1) := by decide +kernel
theorem d_law_law_370 : decode b_law_law 370 = .ok (.iload_n 3, 1) := by decide +kernel
theorem d_law_law_371 : decode b_law_law 371 = .ok (.iconst 5, 1) := by decide +kernel
theorem d_law_law_372 : decode b_law_law 372 = .ok (.iadd, 1) := by decide +kernel
theorem d_law_law_373 : decode b_law_law 373 = .ok (.iaload, 1) := by decide +kernel
theorem d_law_law_374 : decode b_law_law 374 = .ok (.invokevirtual 41, 3) := by decide +kernel
theorem d_law_law_377 : decode b_law_law 377 = .ok (.if_icmp .eq 215, 3) := by decide +kernel
theorem d_law_law_380 : decode b_law_law 380 = .ok (.iconst 0, 1) := by decide +kernel
theorem d_law_law_381 : decode b_law_law 381 = .ok (.ireturn, 1) := by decide +kernel
theorem d_law_law_382 : decode b_law_law 382 = .ok (.aload_n 1, 1) := by decide +kernel
theorem d_law_law_383 : decode b_law_law 383 = .ok (.aload_n 0, 1) := by decide +kernel
theorem d_law_law_384 : decode b_law_law 384 = .ok (.iload_n 3, 1) := by decide +kernel
theorem d_law_law_385 : decode b_law_law 385 = .ok (.iconst 1, 1) := by decide +kernel
theorem d_law_law_386 : decode b_law_law 386 = .ok (.iadd, 1) := by decide +kernel
theorem d_law_law_387 : decode b_law_law 387 = .ok (.iaload, 1) := by decide +kernel
theorem d_law_law_388 : decode b_law_law 388 = .ok (.aload_n 0, 1) := by decide +kernel
theorem d_law_law_389 : decode b_law_law 389 = .ok (.iload_n 3, 1) := by decide +kernel
theorem d_law_law_390 : decode b_law_law 390 = .ok (.iconst 2, 1) := by decide +kernel
theorem d_law_law_391 : decode b_law_law 391 = .ok (.iadd, 1) := by decide +kernel
theorem d_law_law_392 : decode b_law_law 392 = .ok (.iaload, 1) := by decide +kernel
theorem d_law_law_393 : decode b_law_law 393 = .ok (.invokevirtual 42, 3) := by decide +kernel
theorem d_law_law_396 : decode b_law_law 396 = .ok (.aload_n 2, 1) := by decide +kernel
theorem d_law_law_397 : decode b_law_law 397 = .ok (.aload_n 0, 1) := by decide +kernel
theorem d_law_law_398 : decode b_law_law 398 = .ok (.iload_n 3, 1) := by decide +kernel
theorem d_law_law_399 : decode b_law_law 399 = .ok (.iconst 1, 1) := by decide +kernel
theorem d_law_law_400 : decode b_law_law 400 = .ok (.iadd, 1) := by decide +kernel
theorem d_law_law_401 : decode b_law_law 401 = .ok (.iaload, 1) := by decide +kernel
theorem d_law_law_402 : decode b_law_law 402 = .ok (.aload_n 0, 1) := by decide +kernel
theorem d_law_law_403 : decode b_law_law 403 = .ok (.iload_n 3, 1) := by decide +kernel
theorem d_law_law_404 : decode b_law_law 404 = .ok (.iconst 2, 1) := by decide +kernel
theorem d_law_law_405 : decode b_law_law 405 = .ok (.iadd, 1) := by decide +kernel
theorem d_law_law_406 : decode b_law_law 406 = .ok (.iaload, 1) := by decide +kernel
theorem d_law_law_407 : decode b_law_law 407 = .ok (.invokevirtual 45, 3) := by decide +kernel
theorem d_law_law_410 : decode b_law_law 410 = .ok (.if_icmp .eq 182, 3) := by decide +kernel
theorem d_law_law_413 : decode b_law_law 413 = .ok (.iconst 0, 1) := by decide +kernel
theorem d_law_law_414 : decode b_law_law 414 = .ok (.ireturn, 1) := by decide +kernel
theorem d_law_law_415 : decode b_law_law 415 = .ok (.aload_n 1, 1) := by decide +kernel
theorem d_law_law_416 : decode b_law_law 416 = .ok (.invokevirtual 46, 3) := by decide +kernel
theorem d_law_law_419 : decode b_law_law 419 = .ok (.aload_n 2, 1) := by decide +kernel
theorem d_law_law_420 : decode b_law_law 420 = .ok (.invokevirtual 49, 3) := by decide +kernel
theorem d_law_law_423 : decode b_law_law 423 = .ok (.if_icmp .eq 169, 3) := by decide +kernel
theorem d_law_law_426 : decode b_law_law 426 = .ok (.iconst 0, 1) := by decide +kernel
theorem d_law_law_427 : decode b_law_law 427 = .ok (.ireturn, 1) := by decide +kernel
theorem d_law_law_428 : decode b_law_law 428 = .ok (.aload_n 1, 1) := by decide +kernel
theorem d_law_law_429 : decode b_law_law 429 = .ok (.aload_n 0, 1) := by decide +kernel
theorem d_law_law_430 : decode b_law_law 430 = .ok (.iload_n 3, 1) := by decide +kernel
theorem d_law_law_431 : decode b_law_law 431 = .ok (.iconst 1, 1) := by decide +kernel
theorem d_law_law_432 : decode b_law_law 432 = .ok (.iadd, 1) := by decide +kernel
theorem d_law_law_433 : decode b_law_law 433 = .ok (.iaload, 1) := by decide +kernel
theorem d_law_law_434 : decode b_law_law 434 = .ok (.invokevirtual 50, 3) := by decide +kernel
theorem d_law_law_437 : decode b_law_law 437 = .ok (.aload_n 2, 1) := by decide +kernel
theorem d_law_law_438 : decode b_law_law 438 = .ok (.aload_n 0, 1) := by decide +kernel
theorem d_law_law_439 : decode b_law_law 439 = .ok (.iload_n 3, 1) := by decide +kernel
theorem d_law_law_440 : decode b_law_law 440 = .ok (.iconst 1, 1) := by decide +kernel
theorem d_law_law_441 : decode b_law_law 441 = .ok (.iadd, 1) := by decide +kernel
theorem d_law_law_442 : decode b_law_law 442 = .ok (.iaload, 1) := by decide +kernel
theorem d_law_law_443 : decode b_law_law 443 = .ok (.invokevirtual 54, 3) := by decide +kernel
theorem d_law_law_446 : decode b_law_law 446 = .ok (.if_icmp .eq 146, 3) := by decide +kernel
theorem d_law_law_449 : decode b_law_law 449 = .ok (.iconst 0, 1) := by decide +kernel
theorem d_law_law_450 : decode b_law_law 450 = .ok (.ireturn, 1) := by decide +kernel
theorem d_law_law_451 : decode b_law_law 451 = .ok (.aload_n 1, 1) := by decide +kernel
theorem d_law_law_452 : decode b_law_law 452 = .ok (.invokevirtual 55, 3) := by decide +kernel
theorem d_law_law_455 : decode b_law_law 455 = .ok (.aload_n 2, 1) := by decide +kernel
theorem d_law_law_456 : decode b_law_law 456 = .ok (.invokevirtual 58, 3) := by decide +kernel
theorem d_law_law_459 : decode b_law_law 459 = .ok (.if_icmp .eq 133, 3) := by decide +kernel
theorem d_law_law_462 : decode b_law_law 462 = .ok (.iconst 0, 1) := by decide +kernel
theorem d_law_law_463 : decode b_law_law 463 = .ok (.ireturn, 1) := by decide +kernel
theorem d_law_law_464 : decode b_law_law 464 = .ok (.aload_n 1, 1) := by decide +kernel
theorem d_law_law_465 : decode b_law_law 465 = .ok (.invokevirtual 59, 3) := by decide +kernel
theorem d_law_law_468 : decode b_law_law 468 = .ok (.aload_n 2, 1) := by decide +kernel
theorem d_law_law_469 : decode b_law_law 469 = .ok (.invokevirtual 62, 3) := by decide +kernel
theorem d_law_law_472 : decode b_law_law 472 = .ok (.if_icmp .eq 120, 3) := by decide +kernel
theorem d_law_law_475 : decode b_law_law 475 = .ok (.iconst 0, 1) := by decide +kernel
theorem d_law_law_476 : decode b_law_law 476 = .ok (.ireturn, 1) := by decide +kernel
theorem d_law_law_477 : decode b_law_law 477 = .ok (.aload_n 1, 1) := by decide +kernel
theorem d_law_law_478 : decode b_law_law 478 = .ok (.aload_n 0, 1) := by decide +kernel
theorem d_law_law_479 : decode b_law_law 479 = .ok (.iload_n 3, 1) := by decide +kernel
theorem d_law_law_480 : decode b_law_law 480 = .ok (.iconst 1, 1) := by decide +kernel
theorem d_law_law_481 : decode b_law_law 481 = .ok (.iadd, 1) := by decide +kernel
theorem d_law_law_482 : decode b_law_law 482 = .ok (.iaload, 1) := by decide +kernel
theorem d_law_law_483 : decode b_law_law 483 = .ok (.invokevirtual 63, 3) := by decide +kernel
theorem d_law_law_486 : decode b_law_law 486 = .ok (.aload_n 2, 1) := by decide +kernel
theorem d_law_law_487 : decode b_law_law 487 = .ok (.aload_n 0, 1) := by decide +kernel
theorem d_law_law_488 : decode b_law_law 488 = .ok (.iload_n 3, 1) := by decide +kernel
theorem d_law_law_489 : decode b_law_law 489 = .ok (.iconst 1, 1) := by decide +kernel
theorem d_law_law_490 : decode b_law_law 490 = .ok (.iadd, 1) := by decide +kernel
theorem d_law_law_491 : decode b_law_law 491 = .ok (.iaload, 1) := by decide +kernel
theorem d_law_law_492 : decode b_law_law 492 = .ok (.invokevirtual 66, 3) := by decide +kernel
theorem d_law_law_495 : decode b_law_law 495 = .ok (.if_icmp .eq 97, 3) := by decide +kernel
theorem d_law_law_498 : decode b_law_law 498 = .ok (.iconst 0, 1) := by decide +kernel
theorem d_law_law_499 : decode b_law_law 499 = .ok (.ireturn, 1) := by decide +kernel
theorem d_law_law_500 : decode b_law_law 500 = .ok (.aload_n 1, 1) := by decide +kernel
theorem d_law_law_501 : decode b_law_law 501 = .ok (.aload_n 0, 1) := by decide +kernel
theorem d_law_law_502 : decode b_law_law 502 = .ok (.iload_n 3, 1) := by decide +kernel
theorem d_law_law_503 : decode b_law_law 503 = .ok (.iconst 1, 1) := by decide +kernel
theorem d_law_law_504 : decode b_law_law 504 = .ok (.iadd, 1) := by decide +kernel
theorem d_law_law_505 : decode b_law_law 505 = .ok (.iaload, 1) := by decide +kernel
theorem d_law_law_506 : decode b_law_law 506 = .ok (.aload_n 0, 1) := by decide +kernel
theorem d_law_law_507 : decode b_law_law 507 = .ok (.iload_n 3, 1) := by decide +kernel
theorem d_law_law_508 : decode b_law_law 508 = .ok (.iconst 2, 1) := by decide +kernel
theorem d_law_law_509 : decode b_law_law 509 = .ok (.iadd, 1) := by decide +kernel
theorem d_law_law_510 : decode b_law_law 510 = .ok (.iaload, 1) := by decide +kernel
theorem d_law_law_511 : decode b_law_law 511 = .ok (.invokevirtual 67, 3) := by decide +kernel
theorem d_law_law_514 : decode b_law_law 514 = .ok (.aload_n 2, 1) := by decide +kernel
theorem d_law_law_515 : decode b_law_law 515 = .ok (.aload_n 0, 1) := by decide +kernel
theorem d_law_law_516 : decode b_law_law 516 = .ok (.iload_n 3, 1) := by decide +kernel
theorem d_law_law_517 : decode b_law_law 517 = .ok (.iconst 1, 1) := by decide +kernel
theorem d_law_law_518 : decode b_law_law 518 = .ok (.iadd, 1) := by decide +kernel
theorem d_law_law_519 : decode b_law_law 519 = .ok (.iaload, 1) := by decide +kernel
theorem d_law_law_520 : decode b_law_law 520 = .ok (.aload_n 0, 1) := by decide +kernel
theorem d_law_law_521 : decode b_law_law 521 = .ok (.iload_n 3, 1) := by decide +kernel
theorem d_law_law_522 : decode b_law_law 522 = .ok (.iconst 2, 1) := by decide +kernel
theorem d_law_law_523 : decode b_law_law 523 = .ok (.iadd, 1) := by decide +kernel
theorem d_law_law_524 : decode b_law_law 524 = .ok (.iaload, 1) := by decide +kernel
theorem d_law_law_525 : decode b_law_law 525 = .ok (.invokevirtual 70, 3) := by decide +kernel
theorem d_law_law_528 : decode b_law_law 528 = .ok (.if_icmp .eq 64, 3) := by decide +kernel
theorem d_law_law_531 : decode b_law_law 531 = .ok (.iconst 0, 1) := by decide +kernel
theorem d_law_law_532 : decode b_law_law 532 = .ok (.ireturn, 1) := by decide +kernel
theorem d_law_law_533 : decode b_law_law 533 = .ok (.aload_n 1, 1) := by decide +kernel
theorem d_law_law_534 : decode b_law_law 534 = .ok (.aload_n 0, 1) := by decide +kernel
theorem d_law_law_535 : decode b_law_law 535 = .ok (.iload_n 3, 1) := by decide +kernel
theorem d_law_law_536 : decode b_law_law 536 = .ok (.iconst 1, 1) := by decide +kernel
theorem d_law_law_537 : decode b_law_law 537 = .ok (.iadd, 1) := by decide +kernel
theorem d_law_law_538 : decode b_law_law 538 = .ok (.iaload, 1) := by decide +kernel
theorem d_law_law_539 : decode b_law_law 539 = .ok (.invokevirtual 71, 3) := by decide +kernel
theorem d_law_law_542 : decode b_law_law 542 = .ok (.aload_n 2, 1) := by decide +kernel
theorem d_law_law_543 : decode b_law_law 543 = .ok (.aload_n 0, 1) := by decide +kernel
theorem d_law_law_544 : decode b_law_law 544 = .ok (.iload_n 3, 1) := by decide +kernel
theorem d_law_law_545 : decode b_law_law 545 = .ok (.iconst 1, 1) := by decide +kernel
theorem d_law_law_546 : decode b_law_law 546 = .ok (.iadd, 1) := by decide +kernel
theorem d_law_law_547 : decode b_law_law 547 = .ok (.iaload, 1) := by decide +kernel
theorem d_law_law_548 : decode b_law_law 548 = .ok (.invokevirtual 74, 3) := by decide +kernel
theorem d_law_law_551 : decode b_law_law 551 = .ok (.if_icmp .eq 41, 3) := by decide +kernel
theorem d_law_law_554 : decode b_law_law 554 = .ok (.iconst 0, 1) := by decide +kernel
theorem d_law_law_555 : decode b_law_law 555 = .ok (.ireturn, 1) := by decide +kernel
theorem d_law_law_556 : decode b_law_law 556 = .ok (.aload_n 1, 1) := by decide +kernel
theorem d_law_law_557 : decode b_law_law 557 = .ok (.invokevirtual 75, 3) := by decide +kernel
theorem d_law_law_560 : decode b_law_law 560 = .ok (.aload_n 2, 1) := by decide +kernel
theorem d_law_law_561 : decode b_law_law 561 = .ok (.invokevirtual 79, 3) := by decide +kernel
theorem d_law_law_564 : decode b_law_law 564 = .ok (.if_icmp .eq 28, 3) := by decide +kernel
theorem d_law_law_567 : decode b_law_law 567 = .ok (.iconst 0, 1) := by decide +kernel
theorem d_law_law_568 : decode b_law_law 568 = .ok (.ireturn, 1) := by decide +kernel
theorem d_law_law_569 : decode b_law_law 569 = .ok (.aload_n 1, 1) := by decide +kernel
theorem d_law_law_570 : decode b_law_law 570 = .ok (.aload_n 0, 1) := by decide +kernel
theorem d_law_law_571 : decode b_law_law 571 = .ok (.iload_n 3, 1) := by decide +kernel
theorem d_law_law_572 : decode b_law_law 572 = .ok (.iconst 1, 1) := by decide +kernel
theorem d_law_law_573 : decode b_law_law 573 = .ok (.iadd, 1) := by decide +kernel
theorem d_law_law_574 : decode b_law_law 574 = .ok (.iaload, 1) := by decide +kernel
theorem d_law_law_575 : decode b_law_law 575 = .ok (.invokevirtual 80, 3) := by decide +kernel
theorem d_law_law_578 : decode b_law_law 578 = .ok (.aload_n 2, 1) := by decide +kernel
theorem d_law_law_579 : decode b_law_law 579 = .ok (.aload_n 0, 1) := by decide +kernel
theorem d_law_law_580 : decode b_law_law 580 = .ok (.iload_n 3, 1) := by decide +kernel
theorem d_law_law_581 : decode b_law_law 581 = .ok (.iconst 1, 1) := by decide +kernel
theorem d_law_law_582 : decode b_law_law 582 = .ok (.iadd, 1) := by decide +kernel
theorem d_law_law_583 : decode b_law_law 583 = .ok (.iaload, 1) := by decide +kernel
theorem d_law_law_584 : decode b_law_law 584 = .ok (.invokevirtual 83, 3) := by decide +kernel
theorem d_law_law_587 : decode b_law_law 587 = .ok (.if_icmp .eq 5, 3) := by decide +kernel
theorem d_law_law_590 : decode b_law_law 590 = .ok (.iconst 0, 1) := by decide +kernel
theorem d_law_law_591 : decode b_law_law 591 = .ok (.ireturn, 1) := by decide +kernel
theorem d_law_law_592 : decode b_law_law 592 = .ok (.iinc 3 7, 3) := by decide +kernel
theorem d_law_law_595 : decode b_law_law 595 = .ok (.goto (-577), 3) := by decide +kernel
theorem d_law_law_598 : decode b_law_law 598 = .ok (.iconst 1, 1) := by decide +kernel
theorem d_law_law_599 : decode b_law_law 599 = .ok (.ireturn, 1) := by decide +kernel
