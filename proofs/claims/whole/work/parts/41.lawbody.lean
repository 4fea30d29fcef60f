/-! THE LAW: its body (printed by our translator) -/
theorem d_X_law_0 : decode b_X_law 0 = .ok (.new 8, 3) := by decide +kernel
theorem d_X_law_3 : decode b_X_law 3 = .ok (.dup, 1) := by decide +kernel
theorem d_X_law_4 : decode b_X_law 4 = .ok (.invokespecial 48, 3) := by decide +kernel
theorem d_X_law_7 : decode b_X_law 7 = .ok (.astore_n 1, 1) := by decide +kernel
theorem d_X_law_8 : decode b_X_law 8 = .ok (.new 49, 3) := by decide +kernel
theorem d_X_law_11 : decode b_X_law 11 = .ok (.dup, 1) := by decide +kernel
theorem d_X_law_12 : decode b_X_law 12 = .ok (.invokespecial 51, 3) := by decide +kernel
theorem d_X_law_15 : decode b_X_law 15 = .ok (.astore_n 2, 1) := by decide +kernel
theorem d_X_law_16 : decode b_X_law 16 = .ok (.iconst 1, 1) := by decide +kernel
theorem d_X_law_17 : decode b_X_law 17 = .ok (.newarray .long, 2) := by decide +kernel
theorem d_X_law_19 : decode b_X_law 19 = .ok (.astore_n 3, 1) := by decide +kernel
theorem d_X_law_20 : decode b_X_law 20 = .ok (.iconst 0, 1) := by decide +kernel
theorem d_X_law_21 : decode b_X_law 21 = .ok (.istore 4, 2) := by decide +kernel
theorem d_X_law_23 : decode b_X_law 23 = .ok (.iload 4, 2) := by decide +kernel
theorem d_X_law_25 : decode b_X_law 25 = .ok (.aload_n 0, 1) := by decide +kernel
theorem d_X_law_26 : decode b_X_law 26 = .ok (.arraylength, 1) := by decide +kernel
theorem d_X_law_27 : decode b_X_law 27 = .ok (.bipush 6, 2) := by decide +kernel
theorem d_X_law_29 : decode b_X_law 29 = .ok (.isub, 1) := by decide +kernel
theorem d_X_law_30 : decode b_X_law 30 = .ok (.if_icmp .gt 784, 3) := by decide +kernel
theorem d_X_law_33 : decode b_X_law 33 = .ok (.aload_n 0, 1) := by decide +kernel
theorem d_X_law_34 : decode b_X_law 34 = .ok (.iload 4, 2) := by decide +kernel
theorem d_X_law_36 : decode b_X_law 36 = .ok (.iaload, 1) := by decide +kernel
theorem d_X_law_37 : decode b_X_law 37 = .ok (.bipush 15, 2) := by decide +kernel
theorem d_X_law_39 : decode b_X_law 39 = .ok (.iand, 1) := by decide +kernel
theorem d_X_law_40 : decode b_X_law 40 = .ok (.tableswitch 768 0 13 #[72, 128, 188, 236, 340, 353, 397, 441, 454, 558, 571, 627, 690, 743], 72) := by decide +kernel
theorem d_X_law_112 : decode b_X_law 112 = .ok (.aload_n 1, 1) := by decide +kernel
theorem d_X_law_113 : decode b_X_law 113 = .ok (.aload_n 0, 1) := by decide +kernel
theorem d_X_law_114 : decode b_X_law 114 = .ok (.iload 4, 2) := by decide +kernel
theorem d_X_law_116 : decode b_X_law 116 = .ok (.iconst 1, 1) := by decide +kernel
theorem d_X_law_117 : decode b_X_law 117 = .ok (.iadd, 1) := by decide +kernel
theorem d_X_law_118 : decode b_X_law 118 = .ok (.iaload, 1) := by decide +kernel
theorem d_X_law_119 : decode b_X_law 119 = .ok (.aload_n 3, 1) := by decide +kernel
theorem d_X_law_120 : decode b_X_law 120 = .ok (.invokestatic 52, 3) := by decide +kernel
theorem d_X_law_123 : decode b_X_law 123 = .ok (.istore 5, 2) := by decide +kernel
theorem d_X_law_125 : decode b_X_law 125 = .ok (.aload_n 2, 1) := by decide +kernel
theorem d_X_law_126 : decode b_X_law 126 = .ok (.aload_n 0, 1) := by decide +kernel
theorem d_X_law_127 : decode b_X_law 127 = .ok (.iload 4, 2) := by decide +kernel
theorem d_X_law_129 : decode b_X_law 129 = .ok (.iconst 1, 1) := by decide +kernel
theorem d_X_law_130 : decode b_X_law 130 = .ok (.iadd, 1) := by decide +kernel
theorem d_X_law_131 : decode b_X_law 131 = .ok (.iaload, 1) := by decide +kernel
theorem d_X_law_132 : decode b_X_law 132 = .ok (.invokevirtual 57, 3) := by decide +kernel
theorem d_X_law_135 : decode b_X_law 135 = .ok (.istore 6, 2) := by decide +kernel
theorem d_X_law_137 : decode b_X_law 137 = .ok (.aload_n 2, 1) := by decide +kernel
theorem d_X_law_138 : decode b_X_law 138 = .ok (.invokevirtual 58, 3) := by decide +kernel
theorem d_X_law_141 : decode b_X_law 141 = .ok (.iload 5, 2) := by decide +kernel
theorem d_X_law_143 : decode b_X_law 143 = .ok (.if_icmp .eq 5, 3) := by decide +kernel
theorem d_X_law_146 : decode b_X_law 146 = .ok (.iconst 0, 1) := by decide +kernel
theorem d_X_law_147 : decode b_X_law 147 = .ok (.ireturn, 1) := by decide +kernel
theorem d_X_law_148 : decode b_X_law 148 = .ok (.iload 5, 2) := by decide +kernel
theorem d_X_law_150 : decode b_X_law 150 = .ok (.ifCond .ne 15, 3) := by decide +kernel
theorem d_X_law_153 : decode b_X_law 153 = .ok (.aload_n 3, 1) := by decide +kernel
theorem d_X_law_154 : decode b_X_law 154 = .ok (.iconst 0, 1) := by decide +kernel
theorem d_X_law_155 : decode b_X_law 155 = .ok (.laload, 1) := by decide +kernel
theorem d_X_law_156 : decode b_X_law 156 = .ok (.iload 6, 2) := by decide +kernel
theorem d_X_law_158 : decode b_X_law 158 = .ok (.i2l, 1) := by decide +kernel
theorem d_X_law_159 : decode b_X_law 159 = .ok (.lcmp, 1) := by decide +kernel
theorem d_X_law_160 : decode b_X_law 160 = .ok (.ifCond .eq 5, 3) := by decide +kernel
theorem d_X_law_163 : decode b_X_law 163 = .ok (.iconst 0, 1) := by decide +kernel
theorem d_X_law_164 : decode b_X_law 164 = .ok (.ireturn, 1) := by decide +kernel
theorem d_X_law_165 : decode b_X_law 165 = .ok (.goto 643, 3) := by decide +kernel
theorem d_X_law_168 : decode b_X_law 168 = .ok (.aload_n 1, 1) := by decide +kernel
theorem d_X_law_169 : decode b_X_law 169 = .ok (.aload_n 0, 1) := by decide +kernel
theorem d_X_law_170 : decode b_X_law 170 = .ok (.iload 4, 2) := by decide +kernel
theorem d_X_law_172 : decode b_X_law 172 = .ok (.iconst 1, 1) := by decide +kernel
theorem d_X_law_173 : decode b_X_law 173 = .ok (.iadd, 1) := by decide +kernel
theorem d_X_law_174 : decode b_X_law 174 = .ok (.iaload, 1) := by decide +kernel
theorem d_X_law_175 : decode b_X_law 175 = .ok (.aload_n 0, 1) := by decide +kernel
theorem d_X_law_176 : decode b_X_law 176 = .ok (.iload 4, 2) := by decide +kernel
theorem d_X_law_178 : decode b_X_law 178 = .ok (.iconst 2, 1) := by decide +kernel
theorem d_X_law_179 : decode b_X_law 179 = .ok (.iadd, 1) := by decide +kernel
theorem d_X_law_180 : decode b_X_law 180 = .ok (.iaload, 1) := by decide +kernel
theorem d_X_law_181 : decode b_X_law 181 = .ok (.aload_n 0, 1) := by decide +kernel
theorem d_X_law_182 : decode b_X_law 182 = .ok (.iload 4, 2) := by decide +kernel
theorem d_X_law_184 : decode b_X_law 184 = .ok (.iconst 3, 1) := by decide +kernel
theorem d_X_law_185 : decode b_X_law 185 = .ok (.iadd, 1) := by decide +kernel
theorem d_X_law_186 : decode b_X_law 186 = .ok (.iaload, 1) := by decide +kernel
theorem d_X_law_187 : decode b_X_law 187 = .ok (.invokestatic 61, 3) := by decide +kernel
theorem d_X_law_190 : decode b_X_law 190 = .ok (.istore 5, 2) := by decide +kernel
theorem d_X_law_192 : decode b_X_law 192 = .ok (.aload_n 2, 1) := by decide +kernel
theorem d_X_law_193 : decode b_X_law 193 = .ok (.aload_n 0, 1) := by decide +kernel
theorem d_X_law_194 : decode b_X_law 194 = .ok (.iload 4, 2) := by decide +kernel
theorem d_X_law_196 : decode b_X_law 196 = .ok (.iconst 1, 1) := by decide +kernel
theorem d_X_law_197 : decode b_X_law 197 = .ok (.iadd, 1) := by decide +kernel
theorem d_X_law_198 : decode b_X_law 198 = .ok (.iaload, 1) := by decide +kernel
theorem d_X_law_199 : decode b_X_law 199 = .ok (.aload_n 0, 1) := by decide +kernel
theorem d_X_law_200 : decode b_X_law 200 = .ok (.iload 4, 2) := by decide +kernel
theorem d_X_law_202 : decode b_X_law 202 = .ok (.iconst 2, 1) := by decide +kernel
theorem d_X_law_203 : decode b_X_law 203 = .ok (.iadd, 1) := by decide +kernel
theorem d_X_law_204 : decode b_X_law 204 = .ok (.iaload, 1) := by decide +kernel
theorem d_X_law_205 : decode b_X_law 205 = .ok (.aload_n 0, 1) := by decide +kernel
theorem d_X_law_206 : decode b_X_law 206 = .ok (.iload 4, 2) := by decide +kernel
theorem d_X_law_208 : decode b_X_law 208 = .ok (.iconst 3, 1) := by decide +kernel
theorem d_X_law_209 : decode b_X_law 209 = .ok (.iadd, 1) := by decide +kernel
theorem d_X_law_210 : decode b_X_law 210 = .ok (.iaload, 1) := by decide +kernel
theorem d_X_law_211 : decode b_X_law 211 = .ok (.invokevirtual 64, 3) := by decide +kernel
theorem d_X_law_214 : decode b_X_law 214 = .ok (.aload_n 2, 1) := by decide +kernel
theorem d_X_law_215 : decode b_X_law 215 = .ok (.invokevirtual 58, 3) := by decide +kernel
theorem d_X_law_218 : decode b_X_law 218 = .ok (.iload 5, 2) := by decide +kernel
theorem d_X_law_220 : decode b_X_law 220 = .ok (.if_icmp .eq 5, 3) := by decide +kernel
theorem d_X_law_223 : decode b_X_law 223 = .ok (.iconst 0, 1) := by decide +kernel
theorem d_X_law_224 : decode b_X_law 224 = .ok (.ireturn, 1) := by decide +kernel
theorem d_X_law_225 : decode b_X_law 225 = .ok (.goto 583, 3) := by decide +kernel
theorem d_X_law_228 : decode b_X_law 228 = .ok (.aload_n 1, 1) := by decide +kernel
theorem d_X_law_229 : decode b_X_law 229 = .ok (.aload_n 0, 1) := by decide +kernel
theorem d_X_law_230 : decode b_X_law 230 = .ok (.iload 4, 2) := by decide +kernel
theorem d_X_law_232 : decode b_X_law 232 = .ok (.iconst 1, 1) := by decide +kernel
theorem d_X_law_233 : decode b_X_law 233 = .ok (.iadd, 1) := by decide +kernel
theorem d_X_law_234 : decode b_X_law 234 = .ok (.iaload, 1) := by decide +kernel
theorem d_X_law_235 : decode b_X_law 235 = .ok (.aload_n 0, 1) := by decide +kernel
theorem d_X_law_236 : decode b_X_law 236 = .ok (.iload 4, 2) := by decide +kernel
theorem d_X_law_238 : decode b_X_law 238 = .ok (.iconst 2, 1) := by decide +kernel
theorem d_X_law_239 : decode b_X_law 239 = .ok (.iadd, 1) := by decide +kernel
theorem d_X_law_240 : decode b_X_law 240 = .ok (.iaload, 1) := by decide +kernel
theorem d_X_law_241 : decode b_X_law 241 = .ok (.invokestatic 65, 3) := by decide +kernel
theorem d_X_law_244 : decode b_X_law 244 = .ok (.istore 5, 2) := by decide +kernel
theorem d_X_law_246 : decode b_X_law 246 = .ok (.aload_n 2, 1) := by decide +kernel
theorem d_X_law_247 : decode b_X_law 247 = .ok (.aload_n 0, 1) := by decide +kernel
theorem d_X_law_248 : decode b_X_law 248 = .ok (.iload 4, 2) := by decide +kernel
theorem d_X_law_250 : decode b_X_law 250 = .ok (.iconst 1, 1) := by decide +kernel
theorem d_X_law_251 : decode b_X_law 251 = .ok (.iadd, 1) := by decide +kernel
theorem d_X_law_252 : decode b_X_law 252 = .ok (.iaload, 1) := by decide +kernel
theorem d_X_law_253 : decode b_X_law 253 = .ok (.aload_n 0, 1) := by decide +kernel
theorem d_X_law_254 : decode b_X_law 254 = .ok (.iload 4, 2) := by decide +kernel
theorem d_X_law_256 : decode b_X_law 256 = .ok (.iconst 2, 1) := by decide +kernel
theorem d_X_law_257 : decode b_X_law 257 = .ok (.iadd, 1) := by decide +kernel
theorem d_X_law_258 : decode b_X_law 258 = .ok (.iaload, 1) := by decide +kernel
theorem d_X_law_259 : decode b_X_law 259 = .ok (.invokevirtual 68, 3) := by decide +kernel
theorem d_X_law_262 : decode b_X_law 262 = .ok (.aload_n 2, 1) := by decide +kernel
theorem d_X_law_263 : decode b_X_law 263 = .ok (.invokevirtual 58, 3) := by decide +kernel
theorem d_X_law_266 : decode b_X_law 266 = .ok (.iload 5, 2) := by decide +kernel
theorem d_X_law_268 : decode b_X_law 268 = .ok (.if_icmp .eq 5, 3) := by decide +kernel
theorem d_X_law_271 : decode b_X_law 271 = .ok (.iconst 0, 1) := by decide +kernel
theorem d_X_law_272 : decode b_X_law 272 = .ok (.ireturn, 1) := by decide +kernel
theorem d_X_law_273 : decode b_X_law 273 = .ok (.goto 535, 3) := by decide +kernel
theorem d_X_law_276 : decode b_X_law 276 = .ok (.aload_n 1, 1) := by decide +kernel
theorem d_X_law_277 : decode b_X_law 277 = .ok (.aload_n 0, 1) := by decide +kernel
theorem d_X_law_278 : decode b_X_law 278 = .ok (.iload 4, 2) := by decide +kernel
theorem d_X_law_280 : decode b_X_law 280 = .ok (.iconst 1, 1) := by decide +kernel
theorem d_X_law_281 : decode b_X_law 281 = .ok (.iadd, 1) := by decide +kernel
theorem d_X_law_282 : decode b_X_law 282 = .ok (.iaload, 1) := by decide +kernel
theorem d_X_law_283 : decode b_X_law 283 = .ok (.aload_n 0, 1) := by decide +kernel
theorem d_X_law_284 : decode b_X_law 284 = .ok (.iload 4, 2) := by decide +kernel
theorem d_X_law_286 : decode b_X_law 286 = .ok (.iconst 2, 1) := by decide +kernel
theorem d_X_law_287 : decode b_X_law 287 = .ok (.iadd, 1) := by decide +kernel
theorem d_X_law_288 : decode b_X_law 288 = .ok (.iaload, 1) := by decide +kernel
theorem d_X_law_289 : decode b_X_law 289 = .ok (.aload_n 0, 1) := by decide +kernel
theorem d_X_law_290 : decode b_X_law 290 = .ok (.iload 4, 2) := by decide +kernel
theorem d_X_law_292 : decode b_X_law 292 = .ok (.iconst 3, 1) := by decide +kernel
theorem d_X_law_293 : decode b_X_law 293 = .ok (.iadd, 1) := by decide +kernel
theorem d_X_law_294 : decode b_X_law 294 = .ok (.iaload, 1) := by decide +kernel
theorem d_X_law_295 : decode b_X_law 295 = .ok (.aload_n 0, 1) := by decide +kernel
theorem d_X_law_296 : decode b_X_law 296 = .ok (.iload 4, 2) := by decide +kernel
theorem d_X_law_298 : decode b_X_law 298 = .ok (.iconst 4, 1) := by decide +kernel
theorem d_X_law_299 : decode b_X_law 299 = .ok (.iadd, 1) := by decide +kernel
theorem d_X_law_300 : decode b_X_law 300 = .ok (.iaload, 1) := by decide +kernel
theorem d_X_law_301 : decode b_X_law 301 = .ok (.aload_n 0, 1) := by decide +kernel
theorem d_X_law_302 : decode b_X_law 302 = .ok (.iload 4, 2) := by decide +kernel
theorem d_X_law_304 : decode b_X_law 304 = .ok (.iconst 5, 1) := by decide +kernel
theorem d_X_law_305 : decode b_X_law 305 = .ok (.iadd, 1) := by decide +kernel
theorem d_X_law_306 : decode b_X_law 306 = .ok (.iaload, 1) := by decide +kernel
theorem d_X_law_307 : decode b_X_law 307 = .ok (.aload_n 3, 1) := by decide +kernel
theorem d_X_law_308 : decode b_X_law 308 = .ok (.invokestatic 69, 3) := by decide +kernel
theorem d_X_law_311 : decode b_X_law 311 = .ok (.istore 5, 2) := by decide +kernel
theorem d_X_law_313 : decode b_X_law 313 = .ok (.aload_n 2, 1) := by decide +kernel
theorem d_X_law_314 : decode b_X_law 314 = .ok (.aload_n 0, 1) := by decide +kernel
theorem d_X_law_315 : decode b_X_law 315 = .ok (.iload 4, 2) := by decide +kernel
theorem d_X_law_317 : decode b_X_law 317 = .ok (.iconst 1, 1) := by decide +kernel
theorem d_X_law_318 : decode b_X_law 318 = .ok (.iadd, 1) := by decide +kernel
theorem d_X_law_319 : decode b_X_law 319 = .ok (.iaload, 1) := by decide +kernel
theorem d_X_law_320 : decode b_X_law 320 = .ok (.aload_n 0, 1) := by decide +kernel
theorem d_X_law_321 : decode b_X_law 321 = .ok (.iload 4, 2) := by decide +kernel
theorem d_X_law_323 : decode b_X_law 323 = .ok (.iconst 2, 1) := by decide +kernel
theorem d_X_law_324 : decode b_X_law 324 = .ok (.iadd, 1) := by decide +kernel
theorem d_X_law_325 : decode b_X_law 325 = .ok (.iaload, 1) := by decide +kernel
theorem d_X_law_326 : decode b_X_law 326 = .ok (.aload_n 0, 1) := by decide +kernel
theorem d_X_law_327 : decode b_X_law 327 = .ok (.iload 4, 2) := by decide +kernel
theorem d_X_law_329 : decode b_X_law 329 = .ok (.iconst 3, 1) := by decide +kernel
theorem d_X_law_330 : decode b_X_law 330 = .ok (.iadd, 1) := by decide +kernel
theorem d_X_law_331 : decode b_X_law 331 = .ok (.iaload, 1) := by decide +kernel
theorem d_X_law_332 : decode b_X_law 332 = .ok (.aload_n 0, 1) := by decide +kernel
theorem d_X_law_333 : decode b_X_law 333 = .ok (.iload 4, 2) := by decide +kernel
theorem d_X_law_335 : decode b_X_law 335 = .ok (.iconst 4, 1) := by decide +kernel
theorem d_X_law_336 : decode b_X_law 336 = .ok (.iadd, 1) := by decide +kernel
theorem d_X_law_337 : decode b_X_law 337 = .ok (.iaload, 1) := by decide +kernel
theorem d_X_law_338 : decode b_X_law 338 = .ok (.aload_n 0, 1) := by decide +kernel
theorem d_X_law_339 : decode b_X_law 339 = .ok (.iload 4, 2) := by decide +kernel
theorem d_X_law_341 : decode b_X_law 341 = .ok (.iconst 5, 1) := by decide +kernel
theorem d_X_law_342 : decode b_X_law 342 = .ok (.iadd, 1) := by decide +kernel
theorem d_X_law_343 : decode b_X_law 343 = .ok (.iaload, 1) := by decide +kernel
theorem d_X_law_344 : decode b_X_law 344 = .ok (.invokevirtual 72, 3) := by decide +kernel
theorem d_X_law_347 : decode b_X_law 347 = .ok (.istore 6, 2) := by decide +kernel
theorem d_X_law_349 : decode b_X_law 349 = .ok (.aload_n 2, 1) := by decide +kernel
theorem d_X_law_350 : decode b_X_law 350 = .ok (.invokevirtual 58, 3) := by decide +kernel
theorem d_X_law_353 : decode b_X_law 353 = .ok (.iload 5, 2) := by decide +kernel
theorem d_X_law_355 : decode b_X_law 355 = .ok (.if_icmp .eq 5, 3) := by decide +kernel
theorem d_X_law_358 : decode b_X_law 358 = .ok (.iconst 0, 1) := by decide +kernel
theorem d_X_law_359 : decode b_X_law 359 = .ok (.ireturn, 1) := by decide +kernel
theorem d_X_law_360 : decode b_X_law 360 = .ok (.iload 5, 2) := by decide +kernel
theorem d_X_law_362 : decode b_X_law 362 = .ok (.ifCond .ne 15, 3) := by decide +kernel
theorem d_X_law_365 : decode b_X_law 365 = .ok (.aload_n 3, 1) := by decide +kernel
theorem d_X_law_366 : decode b_X_law 366 = .ok (.iconst 0, 1) := by decide +kernel
theorem d_X_law_367 : decode b_X_law 367 = .ok (.laload, 1) := by decide +kernel
theorem d_X_law_368 : decode b_X_law 368 = .ok (.iload 6, 2) := by decide +kernel
theorem d_X_law_370 : decode b_X_law 370 = .ok (.i2l, 1) := by decide +kernel
theorem d_X_law_371 : decode b_X_law 371 = .ok (.lcmp, 1) := by decide +kernel
theorem d_X_law_372 : decode b_X_law 372 = .ok (.ifCond .eq 5, 3) := by decide +kernel
theorem d_X_law_375 : decode b_X_law 375 = .ok (.iconst 0, 1) := by decide +kernel
theorem d_X_law_376 : decode b_X_law 376 = .ok (.ireturn, 1) := by decide +kernel
theorem d_X_law_377 : decode b_X_law 377 = .ok (.goto 431, 3) := by decide +kernel
theorem d_X_law_380 : decode b_X_law 380 = .ok (.aload_n 1, 1) := by decide +kernel
theorem d_X_law_381 : decode b_X_law 381 = .ok (.invokevirtual 73, 3) := by decide +kernel
theorem d_X_law_384 : decode b_X_law 384 = .ok (.aload_n 2, 1) := by decide +kernel
theorem d_X_law_385 : decode b_X_law 385 = .ok (.invokevirtual 76, 3) := by decide +kernel
theorem d_X_law_388 : decode b_X_law 388 = .ok (.if_icmp .eq 420, 3) := by decide +kernel
theorem d_X_law_391 : decode b_X_law 391 = .ok (.iconst 0, 1) := by decide +kernel
theorem d_X_law_392 : decode b_X_law 392 = .ok (.ireturn, 1) := by decide +kernel
theorem d_X_law_393 : decode b_X_law 393 = .ok (.aload_n 1, 1) := by decide +kernel
theorem d_X_law_394 : decode b_X_law 394 = .ok (.aload_n 3, 1) := by decide +kernel
theorem d_X_law_395 : decode b_X_law 395 = .ok (.invokestatic 77, 3) := by decide +kernel
theorem d_X_law_398 : decode b_X_law 398 = .ok (.istore 5, 2) := by decide +kernel
theorem d_X_law_400 : decode b_X_law 400 = .ok (.aload_n 2, 1) := by decide +kernel
theorem d_X_law_401 : decode b_X_law 401 = .ok (.invokevirtual 80, 3) := by decide +kernel
theorem d_X_law_404 : decode b_X_law 404 = .ok (.istore 6, 2) := by decide +kernel
theorem d_X_law_406 : decode b_X_law 406 = .ok (.aload_n 2, 1) := by decide +kernel
theorem d_X_law_407 : decode b_X_law 407 = .ok (.invokevirtual 58, 3) := by decide +kernel
theorem d_X_law_410 : decode b_X_law 410 = .ok (.iload 5, 2) := by decide +kernel
theorem d_X_law_412 : decode b_X_law 412 = .ok (.if_icmp .eq 5, 3) := by decide +kernel
theorem d_X_law_415 : decode b_X_law 415 = .ok (.iconst 0, 1) := by decide +kernel
theorem d_X_law_416 : decode b_X_law 416 = .ok (.ireturn, 1) := by decide +kernel
theorem d_X_law_417 : decode b_X_law 417 = .ok (.iload 5, 2) := by decide +kernel
theorem d_X_law_419 : decode b_X_law 419 = .ok (.ifCond .ne 15, 3) := by decide +kernel
theorem d_X_law_422 : decode b_X_law 422 = .ok (.aload_n 3, 1) := by decide +kernel
theorem d_X_law_423 : decode b_X_law 423 = .ok (.iconst 0, 1) := by decide +kernel
theorem d_X_law_424 : decode b_X_law 424 = .ok (.laload, 1) := by decide +kernel
theorem d_X_law_425 : decode b_X_law 425 = .ok (.iload 6, 2) := by decide +kernel
theorem d_X_law_427 : decode b_X_law 427 = .ok (.i2l, 1) := by decide +kernel
theorem d_X_law_428 : decode b_X_law 428 = .ok (.lcmp, 1) := by decide +kernel
theorem d_X_law_429 : decode b_X_law 429 = .ok (.ifCond .eq 5, 3) := by decide +kernel
theorem d_X_law_432 : decode b_X_law 432 = .ok (.iconst 0, 1) := by decide +kernel
theorem d_X_law_433 : decode b_X_law 433 = .ok (.ireturn, 1) := by decide +kernel
theorem d_X_law_434 : decode b_X_law 434 = .ok (.goto 374, 3) := by decide +kernel
theorem d_X_law_437 : decode b_X_law 437 = .ok (.aload_n 1, 1) := by decide +kernel
theorem d_X_law_438 : decode b_X_law 438 = .ok (.aload_n 3, 1) := by decide +kernel
theorem d_X_law_439 : decode b_X_law 439 = .ok (.invokestatic 81, 3) := by decide +kernel
theorem d_X_law_442 : decode b_X_law 442 = .ok (.istore 5, 2) := by decide +kernel
theorem d_X_law_444 : decode b_X_law 444 = .ok (.aload_n 2, 1) := by decide +kernel
theorem d_X_law_445 : decode b_X_law 445 = .ok (.invokevirtual 83, 3) := by decide +kernel
theorem d_X_law_448 : decode b_X_law 448 = .ok (.istore 6, 2) := by decide +kernel
theorem d_X_law_450 : decode b_X_law 450 = .ok (.aload_n 2, 1) := by decide +kernel
theorem d_X_law_451 : decode b_X_law 451 = .ok (.invokevirtual 58, 3) := by decide +kernel
theorem d_X_law_454 : decode b_X_law 454 = .ok (.iload 5, 2) := by decide +kernel
theorem d_X_law_456 : decode b_X_law 456 = .ok (.if_icmp .eq 5, 3) := by decide +kernel
theorem d_X_law_459 : decode b_X_law 459 = .ok (.iconst 0, 1) := by decide +kernel
theorem d_X_law_460 : decode b_X_law 460 = .ok (.ireturn, 1) := by decide +kernel
theorem d_X_law_461 : decode b_X_law 461 = .ok (.iload 5, 2) := by decide +kernel
theorem d_X_law_463 : decode b_X_law 463 = .ok (.ifCond .ne 15, 3) := by decide +kernel
theorem d_X_law_466 : decode b_X_law 466 = .ok (.aload_n 3, 1) := by decide +kernel
theorem d_X_law_467 : decode b_X_law 467 = .ok (.iconst 0, 1) := by decide +kernel
theorem d_X_law_468 : decode b_X_law 468 = .ok (.laload, 1) := by decide +kernel
theorem d_X_law_469 : decode b_X_law 469 = .ok (.iload 6, 2) := by decide +kernel
theorem d_X_law_471 : decode b_X_law 471 = .ok (.i2l, 1) := by decide +kernel
theorem d_X_law_472 : decode b_X_law 472 = .ok (.lcmp, 1) := by decide +kernel
theorem d_X_law_473 : decode b_X_law 473 = .ok (.ifCond .eq 5, 3) := by decide +kernel
theorem d_X_law_476 : decode b_X_law 476 = .ok (.iconst 0, 1) := by decide +kernel
theorem d_X_law_477 : decode b_X_law 477 = .ok (.ireturn, 1) := by decide +kernel
theorem d_X_law_478 : decode b_X_law 478 = .ok (.goto 330, 3) := by decide +kernel
theorem d_X_law_481 : decode b_X_law 481 = .ok (.aload_n 1, 1) := by decide +kernel
theorem d_X_law_482 : decode b_X_law 482 = .ok (.invokevirtual 84, 3) := by decide +kernel
theorem d_X_law_485 : decode b_X_law 485 = .ok (.aload_n 2, 1) := by decide +kernel
theorem d_X_law_486 : decode b_X_law 486 = .ok (.invokevirtual 87, 3) := by decide +kernel
theorem d_X_law_489 : decode b_X_law 489 = .ok (.if_icmp .eq 319, 3) := by decide +kernel
theorem d_X_law_492 : decode b_X_law 492 = .ok (.iconst 0, 1) := by decide +kernel
theorem d_X_law_493 : decode b_X_law 493 = .ok (.ireturn, 1) := by decide +kernel
theorem d_X_law_494 : decode b_X_law 494 = .ok (.aload_n 1, 1) := by decide +kernel
theorem d_X_law_495 : decode b_X_law 495 = .ok (.aload_n 0, 1) := by decide +kernel
theorem d_X_law_496 : decode b_X_law 496 = .ok (.iload 4, 2) := by decide +kernel
theorem d_X_law_498 : decode b_X_law 498 = .ok (.iconst 1, 1) := by decide +kernel
theorem d_X_law_499 : decode b_X_law 499 = .ok (.iadd, 1) := by decide +kernel
theorem d_X_law_500 : decode b_X_law 500 = .ok (.iaload, 1) := by decide +kernel
theorem d_X_law_501 : decode b_X_law 501 = .ok (.aload_n 0, 1) := by decide +kernel
theorem d_X_law_502 : decode b_X_law 502 = .ok (.iload 4, 2) := by decide +kernel
theorem d_X_law_504 : decode b_X_law 504 = .ok (.iconst 2, 1) := by decide +kernel
theorem d_X_law_505 : decode b_X_law 505 = .ok (.iadd, 1) := by decide +kernel
theorem d_X_law_506 : decode b_X_law 506 = .ok (.iaload, 1) := by decide +kernel
theorem d_X_law_507 : decode b_X_law 507 = .ok (.aload_n 0, 1) := by decide +kernel
theorem d_X_law_508 : decode b_X_law 508 = .ok (.iload 4, 2) := by decide +kernel
theorem d_X_law_510 : decode b_X_law 510 = .ok (.iconst 3, 1) := by decide +kernel
theorem d_X_law_511 : decode b_X_law 511 = .ok (.iadd, 1) := by decide +kernel
theorem d_X_law_512 : decode b_X_law 512 = .ok (.iaload, 1) := by decide +kernel
theorem d_X_law_513 : decode b_X_law 513 = .ok (.aload_n 0, 1) := by decide +kernel
theorem d_X_law_514 : decode b_X_law 514 = .ok (.iload 4, 2) := by decide +kernel
theorem d_X_law_516 : decode b_X_law 516 = .ok (.iconst 4, 1) := by decide +kernel
theorem d_X_law_517 : decode b_X_law 517 = .ok (.iadd, 1) := by decide +kernel
theorem d_X_law_518 : decode b_X_law 518 = .ok (.iaload, 1) := by decide +kernel
theorem d_X_law_519 : decode b_X_law 519 = .ok (.aload_n 0, 1) := by decide +kernel
theorem d_X_law_520 : decode b_X_law 520 = .ok (.iload 4, 2) := by decide +kernel
theorem d_X_law_522 : decode b_X_law 522 = .ok (.iconst 5, 1) := by decide +kernel
theorem d_X_law_523 : decode b_X_law 523 = .ok (.iadd, 1) := by decide +kernel
theorem d_X_law_524 : decode b_X_law 524 = .ok (.iaload, 1) := by decide +kernel
theorem d_X_law_525 : decode b_X_law 525 = .ok (.aload_n 3, 1) := by decide +kernel
theorem d_X_law_526 : decode b_X_law 526 = .ok (.invokestatic 88, 3) := by decide +kernel
theorem d_X_law_529 : decode b_X_law 529 = .ok (.istore 5, 2) := by decide +kernel
theorem d_X_law_531 : decode b_X_law 531 = .ok (.aload_n 2, 1) := by decide +kernel
theorem d_X_law_532 : decode b_X_law 532 = .ok (.aload_n 0, 1) := by decide +kernel
theorem d_X_law_533 : decode b_X_law 533 = .ok (.iload 4, 2) := by decide +kernel
theorem d_X_law_535 : decode b_X_law 535 = .ok (.iconst 1, 1) := by decide +kernel
theorem d_X_law_536 : decode b_X_law 536 = .ok (.iadd, 1) := by decide +kernel
theorem d_X_law_537 : decode b_X_law 537 = .ok (.iaload, 1) := by decide +kernel
theorem d_X_law_538 : decode b_X_law 538 = .ok (.aload_n 0, 1) := by decide +kernel
theorem d_X_law_539 : decode b_X_law 539 = .ok (.iload 4, 2) := by decide +kernel
theorem d_X_law_541 : decode b_X_law 541 = .ok (.iconst 2, 1) := by decide +kernel
theorem d_X_law_542 : decode b_X_law 542 = .ok (.iadd, 1) := by decide +kernel
theorem d_X_law_543 : decode b_X_law 543 = .ok (.iaload, 1) := by decide +kernel
theorem d_X_law_544 : decode b_X_law 544 = .ok (.aload_n 0, 1) := by decide +kernel
theorem d_X_law_545 : decode b_X_law 545 = .ok (.iload 4, 2) := by decide +kernel
theorem d_X_law_547 : decode b_X_law 547 = .ok (.iconst 3, 1) := by decide +kernel
theorem d_X_law_548 : decode b_X_law 548 = .ok (.iadd, 1) := by decide +kernel
theorem d_X_law_549 : decode b_X_law 549 = .ok (.iaload, 1) := by decide +kernel
theorem d_X_law_550 : decode b_X_law 550 = .ok (.aload_n 0, 1) := by decide +kernel
theorem d_X_law_551 : decode b_X_law 551 = .ok (.iload 4, 2) := by decide +kernel
theorem d_X_law_553 : decode b_X_law 553 = .ok (.iconst 4, 1) := by decide +kernel
theorem d_X_law_554 : decode b_X_law 554 = .ok (.iadd, 1) := by decide +kernel
theorem d_X_law_555 : decode b_X_law 555 = .ok (.iaload, 1) := by decide +kernel
theorem d_X_law_556 : decode b_X_law 556 = .ok (.aload_n 0, 1) := by decide +kernel
theorem d_X_law_557 : decode b_X_law 557 = .ok (.iload 4, 2) := by decide +kernel
theorem d_X_law_559 : decode b_X_law 559 = .ok (.iconst 5, 1) := by decide +kernel
theorem d_X_law_560 : decode b_X_law 560 = .ok (.iadd, 1) := by decide +kernel
theorem d_X_law_561 : decode b_X_law 561 = .ok (.iaload, 1) := by decide +kernel
theorem d_X_law_562 : decode b_X_law 562 = .ok (.invokevirtual 90, 3) := by decide +kernel
theorem d_X_law_565 : decode b_X_law 565 = .ok (.istore 6, 2) := by decide +kernel
theorem d_X_law_567 : decode b_X_law 567 = .ok (.aload_n 2, 1) := by decide +kernel
theorem d_X_law_568 : decode b_X_law 568 = .ok (.invokevirtual 58, 3) := by decide +kernel
theorem d_X_law_571 : decode b_X_law 571 = .ok (.iload 5, 2) := by decide +kernel
theorem d_X_law_573 : decode b_X_law 573 = .ok (.if_icmp .eq 5, 3) := by decide +kernel
theorem d_X_law_576 : decode b_X_law 576 = .ok (.iconst 0, 1) := by decide +kernel
theorem d_X_law_577 : decode b_X_law 577 = .ok (.ireturn, 1) := by decide +kernel
theorem d_X_law_578 : decode b_X_law 578 = .ok (.iload 5, 2) := by decide +kernel
theorem d_X_law_580 : decode b_X_law 580 = .ok (.ifCond .ne 15, 3) := by decide +kernel
theorem d_X_law_583 : decode b_X_law 583 = .ok (.aload_n 3, 1) := by decide +kernel
theorem d_X_law_584 : decode b_X_law 584 = .ok (.iconst 0, 1) := by decide +kernel
theorem d_X_law_585 : decode b_X_law 585 = .ok (.laload, 1) := by decide +kernel
theorem d_X_law_586 : decode b_X_law 586 = .ok (.iload 6, 2) := by decide +kernel
theorem d_X_law_588 : decode b_X_law 588 = .ok (.i2l, 1) := by decide +kernel
theorem d_X_law_589 : decode b_X_law 589 = .ok (.lcmp, 1) := by decide +kernel
theorem d_X_law_590 : decode b_X_law 590 = .ok (.ifCond .eq 5, 3) := by decide +kernel
theorem d_X_law_593 : decode b_X_law 593 = .ok (.iconst 0, 1) := by decide +kernel
theorem d_X_law_594 : decode b_X_law 594 = .ok (.ireturn, 1) := by decide +kernel
theorem d_X_law_595 : decode b_X_law 595 = .ok (.goto 213, 3) := by decide +kernel
theorem d_X_law_598 : decode b_X_law 598 = .ok (.aload_n 1, 1) := by decide +kernel
theorem d_X_law_599 : decode b_X_law 599 = .ok (.invokevirtual 91, 3) := by decide +kernel
theorem d_X_law_602 : decode b_X_law 602 = .ok (.aload_n 2, 1) := by decide +kernel
theorem d_X_law_603 : decode b_X_law 603 = .ok (.invokevirtual 94, 3) := by decide +kernel
theorem d_X_law_606 : decode b_X_law 606 = .ok (.if_icmp .eq 202, 3) := by decide +kernel
theorem d_X_law_609 : decode b_X_law 609 = .ok (.iconst 0, 1) := by decide +kernel
theorem d_X_law_610 : decode b_X_law 610 = .ok (.ireturn, 1) := by decide +kernel
theorem d_X_law_611 : decode b_X_law 611 = .ok (.aload_n 1, 1) := by decide +kernel
theorem d_X_law_612 : decode b_X_law 612 = .ok (.aload_n 0, 1) := by decide +kernel
theorem d_X_law_613 : decode b_X_law 613 = .ok (.iload 4, 2) := by decide +kernel
theorem d_X_law_615 : decode b_X_law 615 = .ok (.iconst 1, 1) := by decide +kernel
theorem d_X_law_616 : decode b_X_law 616 = .ok (.iadd, 1) := by decide +kernel
theorem d_X_law_617 : decode b_X_law 617 = .ok (.iaload, 1) := by decide +kernel
theorem d_X_law_618 : decode b_X_law 618 = .ok (.aload_n 3, 1) := by decide +kernel
theorem d_X_law_619 : decode b_X_law 619 = .ok (.invokestatic 95, 3) := by decide +kernel
theorem d_X_law_622 : decode b_X_law 622 = .ok (.istore 5, 2) := by decide +kernel
theorem d_X_law_624 : decode b_X_law 624 = .ok (.aload_n 2, 1) := by decide +kernel
theorem d_X_law_625 : decode b_X_law 625 = .ok (.aload_n 0, 1) := by decide +kernel
theorem d_X_law_626 : decode b_X_law 626 = .ok (.iload 4, 2) := by decide +kernel
theorem d_X_law_628 : decode b_X_law 628 = .ok (.iconst 1, 1) := by decide +kernel
theorem d_X_law_629 : decode b_X_law 629 = .ok (.iadd, 1) := by decide +kernel
theorem d_X_law_630 : decode b_X_law 630 = .ok (.iaload, 1) := by decide +kernel
theorem d_X_law_631 : decode b_X_law 631 = .ok (.invokevirtual 97, 3) := by decide +kernel
theorem d_X_law_634 : decode b_X_law 634 = .ok (.istore 6, 2) := by decide +kernel
theorem d_X_law_636 : decode b_X_law 636 = .ok (.aload_n 2, 1) := by decide +kernel
theorem d_X_law_637 : decode b_X_law 637 = .ok (.invokevirtual 58, 3) := by decide +kernel
theorem d_X_law_640 : decode b_X_law 640 = .ok (.iload 5, 2) := by decide +kernel
theorem d_X_law_642 : decode b_X_law 642 = .ok (.if_icmp .eq 5, 3) := by decide +kernel
theorem d_X_law_645 : decode b_X_law 645 = .ok (.iconst 0, 1) := by decide +kernel
theorem d_X_law_646 : decode b_X_law 646 = .ok (.ireturn, 1) := by decide +kernel
theorem d_X_law_647 : decode b_X_law 647 = .ok (.iload 5, 2) := by decide +kernel
theorem d_X_law_649 : decode b_X_law 649 = .ok (.ifCond .ne 15, 3) := by decide +kernel
theorem d_X_law_652 : decode b_X_law 652 = .ok (.aload_n 3, 1) := by decide +kernel
theorem d_X_law_653 : decode b_X_law 653 = .ok (.iconst 0, 1) := by decide +kernel
theorem d_X_law_654 : decode b_X_law 654 = .ok (.laload, 1) := by decide +kernel
theorem d_X_law_655 : decode b_X_law 655 = .ok (.iload 6, 2) := by decide +kernel
theorem d_X_law_657 : decode b_X_law 657 = .ok (.i2l, 1) := by decide +kernel
theorem d_X_law_658 : decode b_X_law 658 = .ok (.lcmp, 1) := by decide +kernel
theorem d_X_law_659 : decode b_X_law 659 = .ok (.ifCond .eq 5, 3) := by decide +kernel
theorem d_X_law_662 : decode b_X_law 662 = .ok (.iconst 0, 1) := by decide +kernel
theorem d_X_law_663 : decode b_X_law 663 = .ok (.ireturn, 1) := by decide +kernel
theorem d_X_law_664 : decode b_X_law 664 = .ok (.goto 144, 3) := by decide +kernel
theorem d_X_law_667 : decode b_X_law 667 = .ok (.aload_n 1, 1) := by decide +kernel
theorem d_X_law_668 : decode b_X_law 668 = .ok (.aload_n 0, 1) := by decide +kernel
theorem d_X_law_669 : decode b_X_law 669 = .ok (.iload 4, 2) := by decide +kernel
theorem d_X_law_671 : decode b_X_law 671 = .ok (.iconst 1, 1) := by decide +kernel
theorem d_X_law_672 : decode b_X_law 672 = .ok (.iadd, 1) := by decide +kernel
theorem d_X_law_673 : decode b_X_law 673 = .ok (.iaload, 1) := by decide +kernel
theorem d_X_law_674 : decode b_X_law 674 = .ok (.aload_n 3, 1) := by decide +kernel
theorem d_X_law_675 : decode b_X_law 675 = .ok (.invokestatic 98, 3) := by decide +kernel
theorem d_X_law_678 : decode b_X_law 678 = .ok (.istore 5, 2) := by decide +kernel
theorem d_X_law_680 : decode b_X_law 680 = .ok (.aload_n 2, 1) := by decide +kernel
theorem d_X_law_681 : decode b_X_law 681 = .ok (.aload_n 0, 1) := by decide +kernel
theorem d_X_law_682 : decode b_X_law 682 = .ok (.iload 4, 2) := by decide +kernel
theorem d_X_law_684 : decode b_X_law 684 = .ok (.iconst 1, 1) := by decide +kernel
theorem d_X_law_685 : decode b_X_law 685 = .ok (.iadd, 1) := by decide +kernel
theorem d_X_law_686 : decode b_X_law 686 = .ok (.iaload, 1) := by decide +kernel
theorem d_X_law_687 : decode b_X_law 687 = .ok (.invokevirtual 100, 3) := by decide +kernel
theorem d_X_law_690 : decode b_X_law 690 = .ok (.istore 6, 2) := by decide +kernel
theorem d_X_law_692 : decode b_X_law 692 = .ok (.aload_n 2, 1) := by decide +kernel
theorem d_X_law_693 : decode b_X_law 693 = .ok (.invokevirtual 58, 3) := by decide +kernel
theorem d_X_law_696 : decode b_X_law 696 = .ok (.iload 5, 2) := by decide +kernel
theorem d_X_law_698 : decode b_X_law 698 = .ok (.if_icmp .eq 5, 3) := by decide +kernel
theorem d_X_law_701 : decode b_X_law 701 = .ok (.iconst 0, 1) := by decide +kernel
theorem d_X_law_702 : decode b_X_law 702 = .ok (.ireturn, 1) := by decide +kernel
theorem d_X_law_703 : decode b_X_law 703 = .ok (.iload 5, 2) := by decide +kernel
theorem d_X_law_705 : decode b_X_law 705 = .ok (.ifCond .ne 22, 3) := by decide +kernel
theorem d_X_law_708 : decode b_X_law 708 = .ok (.aload_n 3, 1) := by decide +kernel
theorem d_X_law_709 : decode b_X_law 709 = .ok (.iconst 0, 1) := by decide +kernel
theorem d_X_law_710 : decode b_X_law 710 = .ok (.laload, 1) := by decide +kernel
theorem d_X_law_711 : decode b_X_law 711 = .ok (.iload 6, 2) := by decide +kernel
theorem d_X_law_713 : decode b_X_law 713 = .ok (.ifCond .eq 7, 3) := by decide +kernel
theorem d_X_law_716 : decode b_X_law 716 = .ok (.lconst 1, 1) := by decide +kernel
theorem d_X_law_717 : decode b_X_law 717 = .ok (.goto 4, 3) := by decide +kernel
theorem d_X_law_720 : decode b_X_law 720 = .ok (.lconst 0, 1) := by decide +kernel
theorem d_X_law_721 : decode b_X_law 721 = .ok (.lcmp, 1) := by decide +kernel
theorem d_X_law_722 : decode b_X_law 722 = .ok (.ifCond .eq 5, 3) := by decide +kernel
theorem d_X_law_725 : decode b_X_law 725 = .ok (.iconst 0, 1) := by decide +kernel
theorem d_X_law_726 : decode b_X_law 726 = .ok (.ireturn, 1) := by decide +kernel
theorem d_X_law_727 : decode b_X_law 727 = .ok (.goto 81, 3) := by decide +kernel
theorem d_X_law_730 : decode b_X_law 730 = .ok (.aload_n 1, 1) := by decide +kernel
theorem d_X_law_731 : decode b_X_law 731 = .ok (.aload_n 0, 1) := by decide +kernel
theorem d_X_law_732 : decode b_X_law 732 = .ok (.iload 4, 2) := by decide +kernel
theorem d_X_law_734 : decode b_X_law 734 = .ok (.iconst 1, 1) := by decide +kernel
theorem d_X_law_735 : decode b_X_law 735 = .ok (.iadd, 1) := by decide +kernel
theorem d_X_law_736 : decode b_X_law 736 = .ok (.iaload, 1) := by decide +kernel
theorem d_X_law_737 : decode b_X_law 737 = .ok (.aload_n 0, 1) := by decide +kernel
theorem d_X_law_738 : decode b_X_law 738 = .ok (.iload 4, 2) := by decide +kernel
theorem d_X_law_740 : decode b_X_law 740 = .ok (.iconst 2, 1) := by decide +kernel
theorem d_X_law_741 : decode b_X_law 741 = .ok (.iadd, 1) := by decide +kernel
theorem d_X_law_742 : decode b_X_law 742 = .ok (.iaload, 1) := by decide +kernel
theorem d_X_law_743 : decode b_X_law 743 = .ok (.ifCond .eq 7, 3) := by decide +kernel
theorem d_X_law_746 : decode b_X_law 746 = .ok (.iconst 1, 1) := by decide +kernel
theorem d_X_law_747 : decode b_X_law 747 = .ok (.goto 4, 3) := by decide +kernel
theorem d_X_law_750 : decode b_X_law 750 = .ok (.iconst 0, 1) := by decide +kernel
theorem d_X_law_751 : decode b_X_law 751 = .ok (.invokevirtual 101, 3) := by decide +kernel
theorem d_X_law_754 : decode b_X_law 754 = .ok (.aload_n 2, 1) := by decide +kernel
theorem d_X_law_755 : decode b_X_law 755 = .ok (.aload_n 0, 1) := by decide +kernel
theorem d_X_law_756 : decode b_X_law 756 = .ok (.iload 4, 2) := by decide +kernel
theorem d_X_law_758 : decode b_X_law 758 = .ok (.iconst 1, 1) := by decide +kernel
theorem d_X_law_759 : decode b_X_law 759 = .ok (.iadd, 1) := by decide +kernel
theorem d_X_law_760 : decode b_X_law 760 = .ok (.iaload, 1) := by decide +kernel
theorem d_X_law_761 : decode b_X_law 761 = .ok (.aload_n 0, 1) := by decide +kernel
theorem d_X_law_762 : decode b_X_law 762 = .ok (.iload 4, 2) := by decide +kernel
theorem d_X_law_764 : decode b_X_law 764 = .ok (.iconst 2, 1) := by decide +kernel
theorem d_X_law_765 : decode b_X_law 765 = .ok (.iadd, 1) := by decide +kernel
theorem d_X_law_766 : decode b_X_law 766 = .ok (.iaload, 1) := by decide +kernel
theorem d_X_law_767 : decode b_X_law 767 = .ok (.ifCond .eq 7, 3) := by decide +kernel
theorem d_X_law_770 : decode b_X_law 770 = .ok (.iconst 1, 1) := by decide +kernel
theorem d_X_law_771 : decode b_X_law 771 = .ok (.goto 4, 3) := by decide +kernel
theorem d_X_law_774 : decode b_X_law 774 = .ok (.iconst 0, 1) := by decide +kernel
theorem d_X_law_775 : decode b_X_law 775 = .ok (.invokevirtual 105, 3) := by decide +kernel
theorem d_X_law_778 : decode b_X_law 778 = .ok (.if_icmp .eq 30, 3) := by decide +kernel
theorem d_X_law_781 : decode b_X_law 781 = .ok (.iconst 0, 1) := by decide +kernel
theorem d_X_law_782 : decode b_X_law 782 = .ok (.ireturn, 1) := by decide +kernel
theorem d_X_law_783 : decode b_X_law 783 = .ok (.aload_n 1, 1) := by decide +kernel
theorem d_X_law_784 : decode b_X_law 784 = .ok (.aload_n 0, 1) := by decide +kernel
theorem d_X_law_785 : decode b_X_law 785 = .ok (.iload 4, 2) := by decide +kernel
theorem d_X_law_787 : decode b_X_law 787 = .ok (.iconst 1, 1) := by decide +kernel
theorem d_X_law_788 : decode b_X_law 788 = .ok (.iadd, 1) := by decide +kernel
theorem d_X_law_789 : decode b_X_law 789 = .ok (.iaload, 1) := by decide +kernel
theorem d_X_law_790 : decode b_X_law 790 = .ok (.invokevirtual 106, 3) := by decide +kernel
theorem d_X_law_793 : decode b_X_law 793 = .ok (.aload_n 2, 1) := by decide +kernel
theorem d_X_law_794 : decode b_X_law 794 = .ok (.aload_n 0, 1) := by decide +kernel
theorem d_X_law_795 : decode b_X_law 795 = .ok (.iload 4, 2) := by decide +kernel
theorem d_X_law_797 : decode b_X_law 797 = .ok (.iconst 1, 1) := by decide +kernel
theorem d_X_law_798 : decode b_X_law 798 = .ok (.iadd, 1) := by decide +kernel
theorem d_X_law_799 : decode b_X_law 799 = .ok (.iaload, 1) := by decide +kernel
theorem d_X_law_800 : decode b_X_law 800 = .ok (.invokevirtual 109, 3) := by decide +kernel
theorem d_X_law_803 : decode b_X_law 803 = .ok (.if_icmp .eq 5, 3) := by decide +kernel
theorem d_X_law_806 : decode b_X_law 806 = .ok (.iconst 0, 1) := by decide +kernel
theorem d_X_law_807 : decode b_X_law 807 = .ok (.ireturn, 1) := by decide +kernel
theorem d_X_law_808 : decode b_X_law 808 = .ok (.iinc 4 6, 3) := by decide +kernel
theorem d_X_law_811 : decode b_X_law 811 = .ok (.goto (-788), 3) := by decide +kernel
theorem d_X_law_814 : decode b_X_law 814 = .ok (.iconst 1, 1) := by decide +kernel
theorem d_X_law_815 : decode b_X_law 815 = .ok (.ireturn, 1) := by decide +kernel
def lay_X_law (pc : Nat) : List Nat := if pc = 0 then [] else if pc = 23 then [1, 2, 3, 4] else if pc = 112 then [1, 2, 3, 4] else if pc = 165 then [1, 2, 3, 4] else if pc = 168 then [1, 2, 3, 4] else if pc = 228 then [1, 2, 3, 4] else if pc = 276 then [1, 2, 3, 4] else if pc = 377 then [1, 2, 3, 4] else if pc = 380 then [1, 2, 3, 4] else if pc = 393 then [1, 2, 3, 4] else if pc = 434 then [1, 2, 3, 4] else if pc = 437 then [1, 2, 3, 4] else if pc = 478 then [1, 2, 3, 4] else if pc = 481 then [1, 2, 3, 4] else if pc = 494 then [1, 2, 3, 4] else if pc = 595 then [1, 2, 3, 4] else if pc = 598 then [1, 2, 3, 4] else if pc = 611 then [1, 2, 3, 4] else if pc = 664 then [1, 2, 3, 4] else if pc = 667 then [1, 2, 3, 4] else if pc = 721 then [1, 2, 3, 4] else if pc = 727 then [1, 2, 3, 4] else if pc = 730 then [1, 2, 3, 4] else if pc = 751 then [1, 2, 3, 4] else if pc = 775 then [1, 2, 3, 4] else if pc = 783 then [1, 2, 3, 4] else if pc = 808 then [1, 2, 3, 4] else []
noncomputable def sg_X_law_0 (L : Nat) (xs : Nat → Int32)  (w : hy_W) : Option hy_N := (hy_nw w (.inl (5, [.null, .null, .null, .null, .null, .int 0])) 6).bind fun w1 => hy_bv (f_H_init [.ref w.1.length] w1) fun w4 => (hy_nw w4 (.inl (6, [.int 0, .int 0, .null, .null, .null, .null, .null, .null, .int 0, .null, .null, .int 0, .null, .null, .int 0, .null, .null, .null, .null, .int 0, .null, .null, .null, .null, .int 0, .null])) 26).bind fun w7 => hy_bv (f_M_init [.ref w4.1.length] w7) fun w10 => (hy_na w10 1 1).bind fun w13 => some (.inl (23, [.ref w.1.length, .ref w4.1.length, .ref w10.1.length, .int 0], w13))
noncomputable def sg_X_law_23 (L : Nat) (xs : Nat → Int32) (v1 : Nat) (v2 : Nat) (v3 : Nat) (v4 : Int32) (w : hy_W) : Option hy_N := if ((Int32.ofNat L) - 6) < v4 then (some (.inr (.inl (some (.int 1)), w))) else ((hy_sc L xs v4).bind fun x2 => if (x2 &&& 15) = (0 : Int32) then (some (.inl (112, [.ref v1, .ref v2, .ref v3, .int v4], w))) else (if (x2 &&& 15) = (1 : Int32) then (some (.inl (168, [.ref v1, .ref v2, .ref v3, .int v4], w))) else (if (x2 &&& 15) = (2 : Int32) then (some (.inl (228, [.ref v1, .ref v2, .ref v3, .int v4], w))) else (if (x2 &&& 15) = (3 : Int32) then (some (.inl (276, [.ref v1, .ref v2, .ref v3, .int v4], w))) else (if (x2 &&& 15) = (4 : Int32) then (some (.inl (380, [.ref v1, .ref v2, .ref v3, .int v4], w))) else (if (x2 &&& 15) = (5 : Int32) then (some (.inl (393, [.ref v1, .ref v2, .ref v3, .int v4], w))) else (if (x2 &&& 15) = (6 : Int32) then (some (.inl (437, [.ref v1, .ref v2, .ref v3, .int v4], w))) else (if (x2 &&& 15) = (7 : Int32) then (some (.inl (481, [.ref v1, .ref v2, .ref v3, .int v4], w))) else (if (x2 &&& 15) = (8 : Int32) then (some (.inl (494, [.ref v1, .ref v2, .ref v3, .int v4], w))) else (if (x2 &&& 15) = (9 : Int32) then (some (.inl (598, [.ref v1, .ref v2, .ref v3, .int v4], w))) else (if (x2 &&& 15) = (10 : Int32) then (some (.inl (611, [.ref v1, .ref v2, .ref v3, .int v4], w))) else (if (x2 &&& 15) = (11 : Int32) then (some (.inl (667, [.ref v1, .ref v2, .ref v3, .int v4], w))) else (if (x2 &&& 15) = (12 : Int32) then (some (.inl (730, [.ref v1, .ref v2, .ref v3, .int v4], w))) else (if (x2 &&& 15) = (13 : Int32) then (some (.inl (783, [.ref v1, .ref v2, .ref v3, .int v4], w))) else (some (.inl (808, [.ref v1, .ref v2, .ref v3, .int v4], w)))))))))))))))))
noncomputable def sg_X_law_112 (L : Nat) (xs : Nat → Int32) (v1 : Nat) (v2 : Nat) (v3 : Nat) (v4 : Int32) (w : hy_W) : Option hy_N := (hy_sc L xs (v4 + 1)).bind fun x1 => hy_bi (f_X_choose [.ref v1, .int x1, .ref v3] w) fun x4 w2 => (hy_sc L xs (v4 + 1)).bind fun x5 => if hy_ob w2 v2 6 = true then hy_bi (f_M_choose [.ref v2, .int x5] w2) fun x8 w6 => if hy_ob w6 v2 6 = true then hy_bi (f_M_thrown [.ref v2] w6) fun x12 w10 => if x12 = x4 then (if x4 = 0 then ((hy_al w10 v3 0).bind fun x16 => if (lg_cmp x16 ((x8 : Int32).toInt64)) = 0 then (some (.inl (165, [.ref v1, .ref v2, .ref v3, .int v4], w10))) else (some (.inr (.inl (some (.int 0)), w10)))) else (some (.inl (165, [.ref v1, .ref v2, .ref v3, .int v4], w10)))) else (some (.inr (.inl (some (.int 0)), w10))) else none else none
noncomputable def sg_X_law_165 (L : Nat) (xs : Nat → Int32) (v1 : Nat) (v2 : Nat) (v3 : Nat) (v4 : Int32) (w : hy_W) : Option hy_N := some (.inl (808, [.ref v1, .ref v2, .ref v3, .int v4], w))
noncomputable def sg_X_law_168 (L : Nat) (xs : Nat → Int32) (v1 : Nat) (v2 : Nat) (v3 : Nat) (v4 : Int32) (w : hy_W) : Option hy_N := (hy_sc L xs (v4 + 1)).bind fun x1 => (hy_sc L xs (v4 + 2)).bind fun x2 => (hy_sc L xs (v4 + 3)).bind fun x3 => hy_bi (f_X_letters [.ref v1, .int x1, .int x2, .int x3] w) fun x6 w4 => (hy_sc L xs (v4 + 1)).bind fun x7 => (hy_sc L xs (v4 + 2)).bind fun x8 => (hy_sc L xs (v4 + 3)).bind fun x9 => if hy_ob w4 v2 6 = true then hy_bv (f_M_letters [.ref v2, .int x7, .int x8, .int x9] w4) fun w10 => if hy_ob w10 v2 6 = true then hy_bi (f_M_thrown [.ref v2] w10) fun x16 w14 => if x16 = x6 then (some (.inl (808, [.ref v1, .ref v2, .ref v3, .int v4], w14))) else (some (.inr (.inl (some (.int 0)), w14))) else none else none
noncomputable def sg_X_law_228 (L : Nat) (xs : Nat → Int32) (v1 : Nat) (v2 : Nat) (v3 : Nat) (v4 : Int32) (w : hy_W) : Option hy_N := (hy_sc L xs (v4 + 1)).bind fun x1 => (hy_sc L xs (v4 + 2)).bind fun x2 => hy_bi (f_X_least [.ref v1, .int x1, .int x2] w) fun x5 w3 => (hy_sc L xs (v4 + 1)).bind fun x6 => (hy_sc L xs (v4 + 2)).bind fun x7 => if hy_ob w3 v2 6 = true then hy_bv (f_M_least [.ref v2, .int x6, .int x7] w3) fun w8 => if hy_ob w8 v2 6 = true then hy_bi (f_M_thrown [.ref v2] w8) fun x14 w12 => if x14 = x5 then (some (.inl (808, [.ref v1, .ref v2, .ref v3, .int v4], w12))) else (some (.inr (.inl (some (.int 0)), w12))) else none else none
noncomputable def sg_X_law_276 (L : Nat) (xs : Nat → Int32) (v1 : Nat) (v2 : Nat) (v3 : Nat) (v4 : Int32) (w : hy_W) : Option hy_N := (hy_sc L xs (v4 + 1)).bind fun x1 => (hy_sc L xs (v4 + 2)).bind fun x2 => (hy_sc L xs (v4 + 3)).bind fun x3 => (hy_sc L xs (v4 + 4)).bind fun x4 => (hy_sc L xs (v4 + 5)).bind fun x5 => hy_bi (f_X_tell [.ref v1, .int x1, .int x2, .int x3, .int x4, .int x5, .ref v3] w) fun x8 w6 => (hy_sc L xs (v4 + 1)).bind fun x9 => (hy_sc L xs (v4 + 2)).bind fun x10 => (hy_sc L xs (v4 + 3)).bind fun x11 => (hy_sc L xs (v4 + 4)).bind fun x12 => (hy_sc L xs (v4 + 5)).bind fun x13 => if hy_ob w6 v2 6 = true then hy_bi (f_M_tell [.ref v2, .int x9, .int x10, .int x11, .int x12, .int x13] w6) fun x16 w14 => if hy_ob w14 v2 6 = true then hy_bi (f_M_thrown [.ref v2] w14) fun x20 w18 => if x20 = x8 then (if x8 = 0 then ((hy_al w18 v3 0).bind fun x24 => if (lg_cmp x24 ((x16 : Int32).toInt64)) = 0 then (some (.inl (377, [.ref v1, .ref v2, .ref v3, .int v4], w18))) else (some (.inr (.inl (some (.int 0)), w18)))) else (some (.inl (377, [.ref v1, .ref v2, .ref v3, .int v4], w18)))) else (some (.inr (.inl (some (.int 0)), w18))) else none else none
noncomputable def sg_X_law_377 (L : Nat) (xs : Nat → Int32) (v1 : Nat) (v2 : Nat) (v3 : Nat) (v4 : Int32) (w : hy_W) : Option hy_N := some (.inl (808, [.ref v1, .ref v2, .ref v3, .int v4], w))
noncomputable def sg_X_law_380 (L : Nat) (xs : Nat → Int32) (v1 : Nat) (v2 : Nat) (v3 : Nat) (v4 : Int32) (w : hy_W) : Option hy_N := if hy_ob w v1 5 = true then hy_bi (f_H_drop [.ref v1] w) fun x3 w1 => if hy_ob w1 v2 6 = true then hy_bi (f_M_drop [.ref v2] w1) fun x7 w5 => if x3 = x7 then (some (.inl (808, [.ref v1, .ref v2, .ref v3, .int v4], w5))) else (some (.inr (.inl (some (.int 0)), w5))) else none else none
noncomputable def sg_X_law_393 (L : Nat) (xs : Nat → Int32) (v1 : Nat) (v2 : Nat) (v3 : Nat) (v4 : Int32) (w : hy_W) : Option hy_N := hy_bi (f_X_pattern [.ref v1, .ref v3] w) fun x3 w1 => if hy_ob w1 v2 6 = true then hy_bi (f_M_pattern [.ref v2] w1) fun x6 w4 => if hy_ob w4 v2 6 = true then hy_bi (f_M_thrown [.ref v2] w4) fun x10 w8 => if x10 = x3 then (if x3 = 0 then ((hy_al w8 v3 0).bind fun x14 => if (lg_cmp x14 ((x6 : Int32).toInt64)) = 0 then (some (.inl (434, [.ref v1, .ref v2, .ref v3, .int v4], w8))) else (some (.inr (.inl (some (.int 0)), w8)))) else (some (.inl (434, [.ref v1, .ref v2, .ref v3, .int v4], w8)))) else (some (.inr (.inl (some (.int 0)), w8))) else none else none
noncomputable def sg_X_law_434 (L : Nat) (xs : Nat → Int32) (v1 : Nat) (v2 : Nat) (v3 : Nat) (v4 : Int32) (w : hy_W) : Option hy_N := some (.inl (808, [.ref v1, .ref v2, .ref v3, .int v4], w))
noncomputable def sg_X_law_437 (L : Nat) (xs : Nat → Int32) (v1 : Nat) (v2 : Nat) (v3 : Nat) (v4 : Int32) (w : hy_W) : Option hy_N := hy_bi (f_X_exception [.ref v1, .ref v3] w) fun x3 w1 => if hy_ob w1 v2 6 = true then hy_bi (f_M_exception [.ref v2] w1) fun x6 w4 => if hy_ob w4 v2 6 = true then hy_bi (f_M_thrown [.ref v2] w4) fun x10 w8 => if x10 = x3 then (if x3 = 0 then ((hy_al w8 v3 0).bind fun x14 => if (lg_cmp x14 ((x6 : Int32).toInt64)) = 0 then (some (.inl (478, [.ref v1, .ref v2, .ref v3, .int v4], w8))) else (some (.inr (.inl (some (.int 0)), w8)))) else (some (.inl (478, [.ref v1, .ref v2, .ref v3, .int v4], w8)))) else (some (.inr (.inl (some (.int 0)), w8))) else none else none
noncomputable def sg_X_law_478 (L : Nat) (xs : Nat → Int32) (v1 : Nat) (v2 : Nat) (v3 : Nat) (v4 : Int32) (w : hy_W) : Option hy_N := some (.inl (808, [.ref v1, .ref v2, .ref v3, .int v4], w))
noncomputable def sg_X_law_481 (L : Nat) (xs : Nat → Int32) (v1 : Nat) (v2 : Nat) (v3 : Nat) (v4 : Int32) (w : hy_W) : Option hy_N := if hy_ob w v1 5 = true then hy_bi (f_H_forget [.ref v1] w) fun x3 w1 => if hy_ob w1 v2 6 = true then hy_bi (f_M_forget [.ref v2] w1) fun x7 w5 => if x3 = x7 then (some (.inl (808, [.ref v1, .ref v2, .ref v3, .int v4], w5))) else (some (.inr (.inl (some (.int 0)), w5))) else none else none
noncomputable def sg_X_law_494 (L : Nat) (xs : Nat → Int32) (v1 : Nat) (v2 : Nat) (v3 : Nat) (v4 : Int32) (w : hy_W) : Option hy_N := (hy_sc L xs (v4 + 1)).bind fun x1 => (hy_sc L xs (v4 + 2)).bind fun x2 => (hy_sc L xs (v4 + 3)).bind fun x3 => (hy_sc L xs (v4 + 4)).bind fun x4 => (hy_sc L xs (v4 + 5)).bind fun x5 => hy_bi (f_X_add [.ref v1, .int x1, .int x2, .int x3, .int x4, .int x5, .ref v3] w) fun x8 w6 => (hy_sc L xs (v4 + 1)).bind fun x9 => (hy_sc L xs (v4 + 2)).bind fun x10 => (hy_sc L xs (v4 + 3)).bind fun x11 => (hy_sc L xs (v4 + 4)).bind fun x12 => (hy_sc L xs (v4 + 5)).bind fun x13 => if hy_ob w6 v2 6 = true then hy_bi (f_M_add [.ref v2, .int x9, .int x10, .int x11, .int x12, .int x13] w6) fun x16 w14 => if hy_ob w14 v2 6 = true then hy_bi (f_M_thrown [.ref v2] w14) fun x20 w18 => if x20 = x8 then (if x8 = 0 then ((hy_al w18 v3 0).bind fun x24 => if (lg_cmp x24 ((x16 : Int32).toInt64)) = 0 then (some (.inl (595, [.ref v1, .ref v2, .ref v3, .int v4], w18))) else (some (.inr (.inl (some (.int 0)), w18)))) else (some (.inl (595, [.ref v1, .ref v2, .ref v3, .int v4], w18)))) else (some (.inr (.inl (some (.int 0)), w18))) else none else none
noncomputable def sg_X_law_595 (L : Nat) (xs : Nat → Int32) (v1 : Nat) (v2 : Nat) (v3 : Nat) (v4 : Int32) (w : hy_W) : Option hy_N := some (.inl (808, [.ref v1, .ref v2, .ref v3, .int v4], w))
noncomputable def sg_X_law_598 (L : Nat) (xs : Nat → Int32) (v1 : Nat) (v2 : Nat) (v3 : Nat) (v4 : Int32) (w : hy_W) : Option hy_N := if hy_ob w v1 5 = true then hy_bi (f_H_clear [.ref v1] w) fun x3 w1 => if hy_ob w1 v2 6 = true then hy_bi (f_M_clear [.ref v2] w1) fun x7 w5 => if x3 = x7 then (some (.inl (808, [.ref v1, .ref v2, .ref v3, .int v4], w5))) else (some (.inr (.inl (some (.int 0)), w5))) else none else none
noncomputable def sg_X_law_611 (L : Nat) (xs : Nat → Int32) (v1 : Nat) (v2 : Nat) (v3 : Nat) (v4 : Int32) (w : hy_W) : Option hy_N := (hy_sc L xs (v4 + 1)).bind fun x1 => hy_bi (f_X_value [.ref v1, .int x1, .ref v3] w) fun x4 w2 => (hy_sc L xs (v4 + 1)).bind fun x5 => if hy_ob w2 v2 6 = true then hy_bi (f_M_value [.ref v2, .int x5] w2) fun x8 w6 => if hy_ob w6 v2 6 = true then hy_bi (f_M_thrown [.ref v2] w6) fun x12 w10 => if x12 = x4 then (if x4 = 0 then ((hy_al w10 v3 0).bind fun x16 => if (lg_cmp x16 ((x8 : Int32).toInt64)) = 0 then (some (.inl (664, [.ref v1, .ref v2, .ref v3, .int v4], w10))) else (some (.inr (.inl (some (.int 0)), w10)))) else (some (.inl (664, [.ref v1, .ref v2, .ref v3, .int v4], w10)))) else (some (.inr (.inl (some (.int 0)), w10))) else none else none
noncomputable def sg_X_law_664 (L : Nat) (xs : Nat → Int32) (v1 : Nat) (v2 : Nat) (v3 : Nat) (v4 : Int32) (w : hy_W) : Option hy_N := some (.inl (808, [.ref v1, .ref v2, .ref v3, .int v4], w))
noncomputable def sg_X_law_667 (L : Nat) (xs : Nat → Int32) (v1 : Nat) (v2 : Nat) (v3 : Nat) (v4 : Int32) (w : hy_W) : Option hy_N := (hy_sc L xs (v4 + 1)).bind fun x1 => hy_bi (f_X_breaks [.ref v1, .int x1, .ref v3] w) fun x4 w2 => (hy_sc L xs (v4 + 1)).bind fun x5 => if hy_ob w2 v2 6 = true then hy_bi (f_M_breaks [.ref v2, .int x5] w2) fun x8 w6 => if hy_ob w6 v2 6 = true then hy_bi (f_M_thrown [.ref v2] w6) fun x12 w10 => if x12 = x4 then (if x4 = 0 then ((hy_al w10 v3 0).bind fun x16 => if x8 = 0 then (some (.inl (721, [.ref v1, .ref v2, .ref v3, .int v4, .long 0, .long x16], w10))) else (some (.inl (721, [.ref v1, .ref v2, .ref v3, .int v4, .long 1, .long x16], w10)))) else (some (.inl (727, [.ref v1, .ref v2, .ref v3, .int v4], w10)))) else (some (.inr (.inl (some (.int 0)), w10))) else none else none
noncomputable def sg_X_law_721 (L : Nat) (xs : Nat → Int32) (v1 : Nat) (v2 : Nat) (v3 : Nat) (v4 : Int32) (s0 : Int64) (s1 : Int64) (w : hy_W) : Option hy_N := if (lg_cmp s1 s0) = 0 then (some (.inl (727, [.ref v1, .ref v2, .ref v3, .int v4], w))) else (some (.inr (.inl (some (.int 0)), w)))
noncomputable def sg_X_law_727 (L : Nat) (xs : Nat → Int32) (v1 : Nat) (v2 : Nat) (v3 : Nat) (v4 : Int32) (w : hy_W) : Option hy_N := some (.inl (808, [.ref v1, .ref v2, .ref v3, .int v4], w))
noncomputable def sg_X_law_730 (L : Nat) (xs : Nat → Int32) (v1 : Nat) (v2 : Nat) (v3 : Nat) (v4 : Int32) (w : hy_W) : Option hy_N := (hy_sc L xs (v4 + 1)).bind fun x1 => (hy_sc L xs (v4 + 2)).bind fun x2 => if x2 = 0 then (some (.inl (751, [.ref v1, .ref v2, .ref v3, .int v4, .int 0, .int x1, .ref v1], w))) else (some (.inl (751, [.ref v1, .ref v2, .ref v3, .int v4, .int 1, .int x1, .ref v1], w)))
noncomputable def sg_X_law_751 (L : Nat) (xs : Nat → Int32) (v1 : Nat) (v2 : Nat) (v3 : Nat) (v4 : Int32) (s0 : Int32) (s1 : Int32) (s2 : Nat) (w : hy_W) : Option hy_N := if hy_ob w s2 5 = true then hy_bi (f_H_word [.ref s2, .int s1, .int s0] w) fun x3 w1 => (hy_sc L xs (v4 + 1)).bind fun x5 => (hy_sc L xs (v4 + 2)).bind fun x6 => if x6 = 0 then (some (.inl (775, [.ref v1, .ref v2, .ref v3, .int v4, .int 0, .int x5, .ref v2, .int x3], w1))) else (some (.inl (775, [.ref v1, .ref v2, .ref v3, .int v4, .int 1, .int x5, .ref v2, .int x3], w1))) else none
noncomputable def sg_X_law_775 (L : Nat) (xs : Nat → Int32) (v1 : Nat) (v2 : Nat) (v3 : Nat) (v4 : Int32) (s0 : Int32) (s1 : Int32) (s2 : Nat) (s3 : Int32) (w : hy_W) : Option hy_N := if hy_ob w s2 6 = true then hy_bi (f_M_word [.ref s2, .int s1, .int s0] w) fun x3 w1 => if s3 = x3 then (some (.inl (808, [.ref v1, .ref v2, .ref v3, .int v4], w1))) else (some (.inr (.inl (some (.int 0)), w1))) else none
noncomputable def sg_X_law_783 (L : Nat) (xs : Nat → Int32) (v1 : Nat) (v2 : Nat) (v3 : Nat) (v4 : Int32) (w : hy_W) : Option hy_N := (hy_sc L xs (v4 + 1)).bind fun x1 => if hy_ob w v1 5 = true then hy_bi (f_H_count [.ref v1, .int x1] w) fun x4 w2 => (hy_sc L xs (v4 + 1)).bind fun x6 => if hy_ob w2 v2 6 = true then hy_bi (f_M_count [.ref v2, .int x6] w2) fun x9 w7 => if x4 = x9 then (some (.inl (808, [.ref v1, .ref v2, .ref v3, .int v4], w7))) else (some (.inr (.inl (some (.int 0)), w7))) else none else none
noncomputable def sg_X_law_808 (L : Nat) (xs : Nat → Int32) (v1 : Nat) (v2 : Nat) (v3 : Nat) (v4 : Int32) (w : hy_W) : Option hy_N := some (.inl (23, [.ref v1, .ref v2, .ref v3, .int (v4 + 6)], w))
noncomputable def nx_X_law (L : Nat) (xs : Nat → Int32) (q : hy_P) : Option hy_N := match q with
  | (0, [], w) => sg_X_law_0 L xs  w
  | (23, [.ref v1, .ref v2, .ref v3, .int v4], w) => sg_X_law_23 L xs v1 v2 v3 v4 w
  | (112, [.ref v1, .ref v2, .ref v3, .int v4], w) => sg_X_law_112 L xs v1 v2 v3 v4 w
  | (165, [.ref v1, .ref v2, .ref v3, .int v4], w) => sg_X_law_165 L xs v1 v2 v3 v4 w
  | (168, [.ref v1, .ref v2, .ref v3, .int v4], w) => sg_X_law_168 L xs v1 v2 v3 v4 w
  | (228, [.ref v1, .ref v2, .ref v3, .int v4], w) => sg_X_law_228 L xs v1 v2 v3 v4 w
  | (276, [.ref v1, .ref v2, .ref v3, .int v4], w) => sg_X_law_276 L xs v1 v2 v3 v4 w
  | (377, [.ref v1, .ref v2, .ref v3, .int v4], w) => sg_X_law_377 L xs v1 v2 v3 v4 w
  | (380, [.ref v1, .ref v2, .ref v3, .int v4], w) => sg_X_law_380 L xs v1 v2 v3 v4 w
  | (393, [.ref v1, .ref v2, .ref v3, .int v4], w) => sg_X_law_393 L xs v1 v2 v3 v4 w
  | (434, [.ref v1, .ref v2, .ref v3, .int v4], w) => sg_X_law_434 L xs v1 v2 v3 v4 w
  | (437, [.ref v1, .ref v2, .ref v3, .int v4], w) => sg_X_law_437 L xs v1 v2 v3 v4 w
  | (478, [.ref v1, .ref v2, .ref v3, .int v4], w) => sg_X_law_478 L xs v1 v2 v3 v4 w
  | (481, [.ref v1, .ref v2, .ref v3, .int v4], w) => sg_X_law_481 L xs v1 v2 v3 v4 w
  | (494, [.ref v1, .ref v2, .ref v3, .int v4], w) => sg_X_law_494 L xs v1 v2 v3 v4 w
  | (595, [.ref v1, .ref v2, .ref v3, .int v4], w) => sg_X_law_595 L xs v1 v2 v3 v4 w
  | (598, [.ref v1, .ref v2, .ref v3, .int v4], w) => sg_X_law_598 L xs v1 v2 v3 v4 w
  | (611, [.ref v1, .ref v2, .ref v3, .int v4], w) => sg_X_law_611 L xs v1 v2 v3 v4 w
  | (664, [.ref v1, .ref v2, .ref v3, .int v4], w) => sg_X_law_664 L xs v1 v2 v3 v4 w
  | (667, [.ref v1, .ref v2, .ref v3, .int v4], w) => sg_X_law_667 L xs v1 v2 v3 v4 w
  | (721, [.ref v1, .ref v2, .ref v3, .int v4, .long s0, .long s1], w) => sg_X_law_721 L xs v1 v2 v3 v4 s0 s1 w
  | (727, [.ref v1, .ref v2, .ref v3, .int v4], w) => sg_X_law_727 L xs v1 v2 v3 v4 w
  | (730, [.ref v1, .ref v2, .ref v3, .int v4], w) => sg_X_law_730 L xs v1 v2 v3 v4 w
  | (751, [.ref v1, .ref v2, .ref v3, .int v4, .int s0, .int s1, .ref s2], w) => sg_X_law_751 L xs v1 v2 v3 v4 s0 s1 s2 w
  | (775, [.ref v1, .ref v2, .ref v3, .int v4, .int s0, .int s1, .ref s2, .int s3], w) => sg_X_law_775 L xs v1 v2 v3 v4 s0 s1 s2 s3 w
  | (783, [.ref v1, .ref v2, .ref v3, .int v4], w) => sg_X_law_783 L xs v1 v2 v3 v4 w
  | (808, [.ref v1, .ref v2, .ref v3, .int v4], w) => sg_X_law_808 L xs v1 v2 v3 v4 w
  | _ => none
noncomputable def f_X_law (L : Nat) (xs : Nat → Int32) (w : hy_W) : Option hy_O := hy_fx (nx_X_law L xs) (0, [], w)
set_option maxHeartbeats 4000000 in
set_option maxRecDepth 100000 in
theorem sk_X_law_0 {p : Program} {l : Launch} {e : Env} {s : State} {m : MethodId} {b L : Nat} {xs : Nat → Int32} {below : List Frame} {meth : Method} {c : Code} {G : hy_G} {ad0 : Nat → Nat} {n0 : Nat} {o : hy_O} (hl9 : l.flags = flags0) (ho : o.1 = .inl (some (.int 1))) (hX : va_X b L xs s s.heap) (hbl : b < s.heap.size) (hbA : ¬ (fun q : Nat => s.heap.size ≤ q) b) (hr9 : meth.sig.returnType = ret) (B : hy_B p l e room_1 s m #[Value.ref b] below meth c "HyphenPatternsLaw" code 7 ret [] G (fun q : Nat => s.heap.size ≤ q))  (w : hy_W) (nx : hy_N) (h : sg_X_law_0 L xs  w = some nx) (K : hy_NxL lay_X_law b p l e room_1 s m #[Value.ref b] below meth c 7 G (fun q : Nat => s.heap.size ≤ q) ad0 n0 (lw_Z below #[Value.ref b] s) o nx) : hy_AtL lay_X_law b p l e room_1 s m #[Value.ref b] below meth c 7 G (fun q : Nat => s.heap.size ≤ q) ad0 n0 (lw_Z below #[Value.ref b] s) (0, [], w) := by
  intro ad H locs cells slots ls S hok hl
  have hx := B.1
  have hb := B.2.1
  dsimp only at S hok
  have hl : lv_has ls 7 [(0, .ref b)] := hl
  show W p l e room_1 s m #[Value.ref b] below meth c H locs cells slots (lw_Z below #[Value.ref b] s) (F0 m 0 ls [])
  unfold sg_X_law_0 at h
  obtain ⟨w1, hw1, h⟩ := hy_bd h
  refine hy_new B S hw1 rfl i_5 t_5 t_5_ok tw_23 tw_24 tw_1 hy_df5 hy_no5 d_X_law_0 (fun ad2 a_q3 H hag ha_q3 S hl_w1 => ?_)
  refine lv_dup hx hb d_X_law_3 rfl ?_
  obtain ⟨w4, hq_w4, h⟩ := hy_bv_spec h
  refine hy_callv (hy_runI (rest := [.ref a_q3]) (As := []) (r := w.1.length) (b := a_q3) B S rfl ha_q3 (by rfl) (c_H_init hl9 G ad2 hq_w4) (hy_okr (by omega) hy_ok0) tw_27 tw_1 tw_25 tw_26 rfl (by decide) rfl (Nat.le_of_ble_eq_true rfl) (Nat.le_of_ble_eq_true rfl) hl.1 (Nat.le_of_ble_eq_true rfl) d_X_law_4) (fun ad5 H locs cells slots hag hl_w4 S => ?_)
  have ha_q3 : ad5 w.1.length = a_q3 := (hag w.1.length (by omega)).trans ha_q3
  refine lv_astore_n (lv' := [(1, .ref a_q3), (0, .ref b)]) hx hb d_X_law_7 rfl hl (Nat.le_of_ble_eq_true rfl) rfl (fun ls hl => ?_)
  obtain ⟨w7, hw7, h⟩ := hy_bd h
  refine hy_new B S hw7 rfl i_6 t_6 t_6_ok tw_644 tw_645 tw_9 hy_df6 hy_no6 d_X_law_8 (fun ad8 a_q9 H hag ha_q9 S hl_w7 => ?_)
  have ha_q3 : ad8 w.1.length = a_q3 := (hag w.1.length (by omega)).trans ha_q3
  refine lv_dup hx hb d_X_law_11 rfl ?_
  obtain ⟨w10, hq_w10, h⟩ := hy_bv_spec h
  refine hy_callv (hy_runI (rest := [.ref a_q9]) (As := []) (r := w4.1.length) (b := a_q9) B S rfl ha_q9 (by rfl) (c_M_init hl9 G ad8 hq_w10) (hy_okr (by omega) hy_ok0) tw_648 tw_9 tw_646 tw_647 rfl (by decide) rfl (Nat.le_of_ble_eq_true rfl) (Nat.le_of_ble_eq_true rfl) hl.1 (Nat.le_of_ble_eq_true rfl) d_X_law_12) (fun ad11 H locs cells slots hag hl_w10 S => ?_)
  have ha_q3 : ad11 w.1.length = a_q3 := (hag w.1.length (by omega)).trans ha_q3
  have ha_q9 : ad11 w4.1.length = a_q9 := (hag w4.1.length (by omega)).trans ha_q9
  refine lv_astore_n (lv' := [(2, .ref a_q9), (1, .ref a_q3), (0, .ref b)]) hx hb d_X_law_15 rfl hl (Nat.le_of_ble_eq_true rfl) rfl (fun ls hl => ?_)
  refine lv_iconst (v := 1) hx hb d_X_law_16 (by decide) ?_
  obtain ⟨w13, hw13, h⟩ := hy_bd h
  refine hy_newl B S hw13 d_X_law_17 (fun ad14 a_q15 H _ hag ha_q15 S hl_w13 => ?_)
  have ha_q3 : ad14 w.1.length = a_q3 := (hag w.1.length (by omega)).trans ha_q3
  have ha_q9 : ad14 w4.1.length = a_q9 := (hag w4.1.length (by omega)).trans ha_q9
  refine lv_astore_n (lv' := [(3, .ref a_q15), (2, .ref a_q9), (1, .ref a_q3), (0, .ref b)]) hx hb d_X_law_19 rfl hl (Nat.le_of_ble_eq_true rfl) rfl (fun ls hl => ?_)
  refine lv_iconst (v := 0) hx hb d_X_law_20 (by decide) ?_
  refine lv_istore (lv' := [(4, .int 0), (3, .ref a_q15), (2, .ref a_q9), (1, .ref a_q3), (0, .ref b)]) hx hb d_X_law_21 hl (Nat.le_of_ble_eq_true rfl) rfl (fun ls hl => ?_)
  cases h
  exact hy_jumpL K S (hy_okr (by omega) (hy_okr (by omega) (hy_okr (by omega) (hy_oki hy_ok0)))) (lv_sub hl [3, 2, 1, 0, 4] rfl) (by subst ha_q3 ha_q9 ha_q15; rfl) (by subst ha_q3 ha_q9 ha_q15; rfl)
set_option maxHeartbeats 4000000 in
set_option maxRecDepth 100000 in
theorem sk_X_law_23 {p : Program} {l : Launch} {e : Env} {s : State} {m : MethodId} {b L : Nat} {xs : Nat → Int32} {below : List Frame} {meth : Method} {c : Code} {G : hy_G} {ad0 : Nat → Nat} {n0 : Nat} {o : hy_O} (hl9 : l.flags = flags0) (ho : o.1 = .inl (some (.int 1))) (hX : va_X b L xs s s.heap) (hbl : b < s.heap.size) (hbA : ¬ (fun q : Nat => s.heap.size ≤ q) b) (hr9 : meth.sig.returnType = ret) (B : hy_B p l e room_1 s m #[Value.ref b] below meth c "HyphenPatternsLaw" code 7 ret [] G (fun q : Nat => s.heap.size ≤ q)) (v1 : Nat) (v2 : Nat) (v3 : Nat) (v4 : Int32) (w : hy_W) (nx : hy_N) (h : sg_X_law_23 L xs v1 v2 v3 v4 w = some nx) (K : hy_NxL lay_X_law b p l e room_1 s m #[Value.ref b] below meth c 7 G (fun q : Nat => s.heap.size ≤ q) ad0 n0 (lw_Z below #[Value.ref b] s) o nx) : hy_AtL lay_X_law b p l e room_1 s m #[Value.ref b] below meth c 7 G (fun q : Nat => s.heap.size ≤ q) ad0 n0 (lw_Z below #[Value.ref b] s) (23, [.ref v1, .ref v2, .ref v3, .int v4], w) := by
  intro ad H locs cells slots ls S hok hl
  have hx := B.1
  have hb := B.2.1
  dsimp only at S hok
  have hl : lv_has ls 7 [(1, .ref (ad v1)), (2, .ref (ad v2)), (3, .ref (ad v3)), (4, .int v4), (0, .ref b)] := hl
  show W p l e room_1 s m #[Value.ref b] below meth c H locs cells slots (lw_Z below #[Value.ref b] s) (F0 m 23 ls [])
  have hv_v1 : v1 < w.1.length := hok (.ref v1) (List.mem_of_getElem? (i := 0) rfl) v1 rfl
  obtain ⟨a_v1, ha_v1⟩ : ∃ a, ad v1 = a := ⟨_, rfl⟩
  rw [ha_v1] at hl
  have hv_v2 : v2 < w.1.length := hok (.ref v2) (List.mem_of_getElem? (i := 1) rfl) v2 rfl
  obtain ⟨a_v2, ha_v2⟩ : ∃ a, ad v2 = a := ⟨_, rfl⟩
  rw [ha_v2] at hl
  have hv_v3 : v3 < w.1.length := hok (.ref v3) (List.mem_of_getElem? (i := 2) rfl) v3 rfl
  obtain ⟨a_v3, ha_v3⟩ : ∃ a, ad v3 = a := ⟨_, rfl⟩
  rw [ha_v3] at hl
  unfold sg_X_law_23 at h
  refine lv_iload hx hb d_X_law_23 (lv_at hl 3 rfl) ?_
  refine lv_aload_n hx hb d_X_law_25 rfl (lv_at hl 4 rfl) ?_
  refine va_slen hx hb hX hbl hbA S.2.1 d_X_law_26 ?_
  refine lv_bipush (v := 6) hx hb d_X_law_27 (by decide) ?_
  refine lv_isub hx hb d_X_law_29 ?_
  refine lv_icmp_gt (tgt := 814) hx hb d_X_law_30 (by decide) (fun c1 => ?_) (fun c1 => ?_)
  · rw [if_pos c1] at h
    refine lv_iconst (v := 1) hx hb d_X_law_814 (by decide) ?_
    cases h
    cases K
    refine va_forget (fun q hq => S.2.1.2.2 q hq) ?_
    refine W.widen (k := 601024) (n := 7293034) (by have : cells + _ = 601024 := S.2.2.2.2.1; omega) (by have : slots + _ = 7293034 := S.2.2.2.2.2; omega) ?_
    exact lw_ret hx hb hr9 B.2.2.2.2.2.2.1 d_X_law_815
  · rw [if_neg c1] at h
    refine lv_aload_n hx hb d_X_law_33 rfl (lv_at hl 4 rfl) ?_
    refine lv_iload hx hb d_X_law_34 (lv_at hl 3 rfl) ?_
    obtain ⟨x2, hx2, h⟩ := hy_bd h
    refine hy_sld hx hb hX hbl hbA S hx2 d_X_law_36 ?_
    refine lv_bipush (v := 15) hx hb d_X_law_37 (by decide) ?_
    refine lv_iand hx hb d_X_law_39 ?_
    by_cases c3 : (x2 &&& 15) = (0 : Int32)
    · rw [if_pos c3] at h
      rw [c3]
      refine lv_tableIn (off := 72) (tgt := 112) hx hb d_X_law_40 (by decide) (by decide) (by decide) (by decide) ?_
      cases h
      exact hy_jumpL K S (hy_okr (by omega) (hy_okr (by omega) (hy_okr (by omega) (hy_oki hy_ok0)))) (lv_sub hl [0, 1, 2, 3, 4] rfl) (by subst ha_v1 ha_v2 ha_v3; rfl) (by subst ha_v1 ha_v2 ha_v3; rfl)
    rw [if_neg c3] at h
    by_cases c4 : (x2 &&& 15) = (1 : Int32)
    · rw [if_pos c4] at h
      rw [c4]
      refine lv_tableIn (off := 128) (tgt := 168) hx hb d_X_law_40 (by decide) (by decide) (by decide) (by decide) ?_
      cases h
      exact hy_jumpL K S (hy_okr (by omega) (hy_okr (by omega) (hy_okr (by omega) (hy_oki hy_ok0)))) (lv_sub hl [0, 1, 2, 3, 4] rfl) (by subst ha_v1 ha_v2 ha_v3; rfl) (by subst ha_v1 ha_v2 ha_v3; rfl)
    rw [if_neg c4] at h
    by_cases c5 : (x2 &&& 15) = (2 : Int32)
    · rw [if_pos c5] at h
      rw [c5]
      refine lv_tableIn (off := 188) (tgt := 228) hx hb d_X_law_40 (by decide) (by decide) (by decide) (by decide) ?_
      cases h
      exact hy_jumpL K S (hy_okr (by omega) (hy_okr (by omega) (hy_okr (by omega) (hy_oki hy_ok0)))) (lv_sub hl [0, 1, 2, 3, 4] rfl) (by subst ha_v1 ha_v2 ha_v3; rfl) (by subst ha_v1 ha_v2 ha_v3; rfl)
    rw [if_neg c5] at h
    by_cases c6 : (x2 &&& 15) = (3 : Int32)
    · rw [if_pos c6] at h
      rw [c6]
      refine lv_tableIn (off := 236) (tgt := 276) hx hb d_X_law_40 (by decide) (by decide) (by decide) (by decide) ?_
      cases h
      exact hy_jumpL K S (hy_okr (by omega) (hy_okr (by omega) (hy_okr (by omega) (hy_oki hy_ok0)))) (lv_sub hl [0, 1, 2, 3, 4] rfl) (by subst ha_v1 ha_v2 ha_v3; rfl) (by subst ha_v1 ha_v2 ha_v3; rfl)
    rw [if_neg c6] at h
    by_cases c7 : (x2 &&& 15) = (4 : Int32)
    · rw [if_pos c7] at h
      rw [c7]
      refine lv_tableIn (off := 340) (tgt := 380) hx hb d_X_law_40 (by decide) (by decide) (by decide) (by decide) ?_
      cases h
      exact hy_jumpL K S (hy_okr (by omega) (hy_okr (by omega) (hy_okr (by omega) (hy_oki hy_ok0)))) (lv_sub hl [0, 1, 2, 3, 4] rfl) (by subst ha_v1 ha_v2 ha_v3; rfl) (by subst ha_v1 ha_v2 ha_v3; rfl)
    rw [if_neg c7] at h
    by_cases c8 : (x2 &&& 15) = (5 : Int32)
    · rw [if_pos c8] at h
      rw [c8]
      refine lv_tableIn (off := 353) (tgt := 393) hx hb d_X_law_40 (by decide) (by decide) (by decide) (by decide) ?_
      cases h
      exact hy_jumpL K S (hy_okr (by omega) (hy_okr (by omega) (hy_okr (by omega) (hy_oki hy_ok0)))) (lv_sub hl [0, 1, 2, 3, 4] rfl) (by subst ha_v1 ha_v2 ha_v3; rfl) (by subst ha_v1 ha_v2 ha_v3; rfl)
    rw [if_neg c8] at h
    by_cases c9 : (x2 &&& 15) = (6 : Int32)
    · rw [if_pos c9] at h
      rw [c9]
      refine lv_tableIn (off := 397) (tgt := 437) hx hb d_X_law_40 (by decide) (by decide) (by decide) (by decide) ?_
      cases h
      exact hy_jumpL K S (hy_okr (by omega) (hy_okr (by omega) (hy_okr (by omega) (hy_oki hy_ok0)))) (lv_sub hl [0, 1, 2, 3, 4] rfl) (by subst ha_v1 ha_v2 ha_v3; rfl) (by subst ha_v1 ha_v2 ha_v3; rfl)
    rw [if_neg c9] at h
    by_cases c10 : (x2 &&& 15) = (7 : Int32)
    · rw [if_pos c10] at h
      rw [c10]
      refine lv_tableIn (off := 441) (tgt := 481) hx hb d_X_law_40 (by decide) (by decide) (by decide) (by decide) ?_
      cases h
      exact hy_jumpL K S (hy_okr (by omega) (hy_okr (by omega) (hy_okr (by omega) (hy_oki hy_ok0)))) (lv_sub hl [0, 1, 2, 3, 4] rfl) (by subst ha_v1 ha_v2 ha_v3; rfl) (by subst ha_v1 ha_v2 ha_v3; rfl)
    rw [if_neg c10] at h
    by_cases c11 : (x2 &&& 15) = (8 : Int32)
    · rw [if_pos c11] at h
      rw [c11]
      refine lv_tableIn (off := 454) (tgt := 494) hx hb d_X_law_40 (by decide) (by decide) (by decide) (by decide) ?_
      cases h
      exact hy_jumpL K S (hy_okr (by omega) (hy_okr (by omega) (hy_okr (by omega) (hy_oki hy_ok0)))) (lv_sub hl [0, 1, 2, 3, 4] rfl) (by subst ha_v1 ha_v2 ha_v3; rfl) (by subst ha_v1 ha_v2 ha_v3; rfl)
    rw [if_neg c11] at h
    by_cases c12 : (x2 &&& 15) = (9 : Int32)
    · rw [if_pos c12] at h
      rw [c12]
      refine lv_tableIn (off := 558) (tgt := 598) hx hb d_X_law_40 (by decide) (by decide) (by decide) (by decide) ?_
      cases h
      exact hy_jumpL K S (hy_okr (by omega) (hy_okr (by omega) (hy_okr (by omega) (hy_oki hy_ok0)))) (lv_sub hl [0, 1, 2, 3, 4] rfl) (by subst ha_v1 ha_v2 ha_v3; rfl) (by subst ha_v1 ha_v2 ha_v3; rfl)
    rw [if_neg c12] at h
    by_cases c13 : (x2 &&& 15) = (10 : Int32)
    · rw [if_pos c13] at h
      rw [c13]
      refine lv_tableIn (off := 571) (tgt := 611) hx hb d_X_law_40 (by decide) (by decide) (by decide) (by decide) ?_
      cases h
      exact hy_jumpL K S (hy_okr (by omega) (hy_okr (by omega) (hy_okr (by omega) (hy_oki hy_ok0)))) (lv_sub hl [0, 1, 2, 3, 4] rfl) (by subst ha_v1 ha_v2 ha_v3; rfl) (by subst ha_v1 ha_v2 ha_v3; rfl)
    rw [if_neg c13] at h
    by_cases c14 : (x2 &&& 15) = (11 : Int32)
    · rw [if_pos c14] at h
      rw [c14]
      refine lv_tableIn (off := 627) (tgt := 667) hx hb d_X_law_40 (by decide) (by decide) (by decide) (by decide) ?_
      cases h
      exact hy_jumpL K S (hy_okr (by omega) (hy_okr (by omega) (hy_okr (by omega) (hy_oki hy_ok0)))) (lv_sub hl [0, 1, 2, 3, 4] rfl) (by subst ha_v1 ha_v2 ha_v3; rfl) (by subst ha_v1 ha_v2 ha_v3; rfl)
    rw [if_neg c14] at h
    by_cases c15 : (x2 &&& 15) = (12 : Int32)
    · rw [if_pos c15] at h
      rw [c15]
      refine lv_tableIn (off := 690) (tgt := 730) hx hb d_X_law_40 (by decide) (by decide) (by decide) (by decide) ?_
      cases h
      exact hy_jumpL K S (hy_okr (by omega) (hy_okr (by omega) (hy_okr (by omega) (hy_oki hy_ok0)))) (lv_sub hl [0, 1, 2, 3, 4] rfl) (by subst ha_v1 ha_v2 ha_v3; rfl) (by subst ha_v1 ha_v2 ha_v3; rfl)
    rw [if_neg c15] at h
    by_cases c16 : (x2 &&& 15) = (13 : Int32)
    · rw [if_pos c16] at h
      rw [c16]
      refine lv_tableIn (off := 743) (tgt := 783) hx hb d_X_law_40 (by decide) (by decide) (by decide) (by decide) ?_
      cases h
      exact hy_jumpL K S (hy_okr (by omega) (hy_okr (by omega) (hy_okr (by omega) (hy_oki hy_ok0)))) (lv_sub hl [0, 1, 2, 3, 4] rfl) (by subst ha_v1 ha_v2 ha_v3; rfl) (by subst ha_v1 ha_v2 ha_v3; rfl)
    rw [if_neg c16] at h
    refine lv_tableOut (tgt := 808) hx hb d_X_law_40 (hy_sw14 c3 c4 c5 c6 c7 c8 c9 c10 c11 c12 c13 c14 c15 c16) (by decide) ?_
    cases h
    exact hy_jumpL K S (hy_okr (by omega) (hy_okr (by omega) (hy_okr (by omega) (hy_oki hy_ok0)))) (lv_sub hl [0, 1, 2, 3, 4] rfl) (by subst ha_v1 ha_v2 ha_v3; rfl) (by subst ha_v1 ha_v2 ha_v3; rfl)
set_option maxHeartbeats 4000000 in
set_option maxRecDepth 100000 in
theorem sk_X_law_112 {p : Program} {l : Launch} {e : Env} {s : State} {m : MethodId} {b L : Nat} {xs : Nat → Int32} {below : List Frame} {meth : Method} {c : Code} {G : hy_G} {ad0 : Nat → Nat} {n0 : Nat} {o : hy_O} (hl9 : l.flags = flags0) (ho : o.1 = .inl (some (.int 1))) (hX : va_X b L xs s s.heap) (hbl : b < s.heap.size) (hbA : ¬ (fun q : Nat => s.heap.size ≤ q) b) (hr9 : meth.sig.returnType = ret) (B : hy_B p l e room_1 s m #[Value.ref b] below meth c "HyphenPatternsLaw" code 7 ret [] G (fun q : Nat => s.heap.size ≤ q)) (v1 : Nat) (v2 : Nat) (v3 : Nat) (v4 : Int32) (w : hy_W) (nx : hy_N) (h : sg_X_law_112 L xs v1 v2 v3 v4 w = some nx) (K : hy_NxL lay_X_law b p l e room_1 s m #[Value.ref b] below meth c 7 G (fun q : Nat => s.heap.size ≤ q) ad0 n0 (lw_Z below #[Value.ref b] s) o nx) : hy_AtL lay_X_law b p l e room_1 s m #[Value.ref b] below meth c 7 G (fun q : Nat => s.heap.size ≤ q) ad0 n0 (lw_Z below #[Value.ref b] s) (112, [.ref v1, .ref v2, .ref v3, .int v4], w) := by
  intro ad H locs cells slots ls S hok hl
  have hx := B.1
  have hb := B.2.1
  dsimp only at S hok
  have hl : lv_has ls 7 [(1, .ref (ad v1)), (2, .ref (ad v2)), (3, .ref (ad v3)), (4, .int v4), (0, .ref b)] := hl
  show W p l e room_1 s m #[Value.ref b] below meth c H locs cells slots (lw_Z below #[Value.ref b] s) (F0 m 112 ls [])
  have hv_v1 : v1 < w.1.length := hok (.ref v1) (List.mem_of_getElem? (i := 0) rfl) v1 rfl
  obtain ⟨a_v1, ha_v1⟩ : ∃ a, ad v1 = a := ⟨_, rfl⟩
  rw [ha_v1] at hl
  have hv_v2 : v2 < w.1.length := hok (.ref v2) (List.mem_of_getElem? (i := 1) rfl) v2 rfl
  obtain ⟨a_v2, ha_v2⟩ : ∃ a, ad v2 = a := ⟨_, rfl⟩
  rw [ha_v2] at hl
  have hv_v3 : v3 < w.1.length := hok (.ref v3) (List.mem_of_getElem? (i := 2) rfl) v3 rfl
  obtain ⟨a_v3, ha_v3⟩ : ∃ a, ad v3 = a := ⟨_, rfl⟩
  rw [ha_v3] at hl
  unfold sg_X_law_112 at h
  refine lv_aload_n hx hb d_X_law_112 rfl (lv_at hl 0 rfl) ?_
  refine lv_aload_n hx hb d_X_law_113 rfl (lv_at hl 4 rfl) ?_
  refine lv_iload hx hb d_X_law_114 (lv_at hl 3 rfl) ?_
  refine lv_iconst (v := 1) hx hb d_X_law_116 (by decide) ?_
  refine lv_iadd hx hb d_X_law_117 ?_
  obtain ⟨x1, hx1, h⟩ := hy_bd h
  refine hy_sld hx hb hX hbl hbA S hx1 d_X_law_118 ?_
  refine lv_aload_n hx hb d_X_law_119 rfl (lv_at hl 2 rfl) ?_
  obtain ⟨x4, w2, hq_w2, h⟩ := hy_bi_spec h
  refine hy_calli (hy_runSW (rest := []) (As := [.ref a_v1, .int x1, .ref a_v3]) B S (by subst ha_v1 ha_v3; rfl) (c_X_choose hl9 G ad hq_w2) (hy_okr (by omega) (hy_oki (hy_okr (by omega) hy_ok0))) tw_309 tw_0 tw_307 tw_308 (by decide) rfl (Nat.le_of_ble_eq_true rfl) (Nat.le_of_ble_eq_true rfl) hl.1 (Nat.le_of_ble_eq_true rfl) d_X_law_120) (fun ad3 H locs cells slots hag hl_w2 S => ?_)
  have ha_v1 : ad3 v1 = a_v1 := (hag v1 (by omega)).trans ha_v1
  have ha_v2 : ad3 v2 = a_v2 := (hag v2 (by omega)).trans ha_v2
  have ha_v3 : ad3 v3 = a_v3 := (hag v3 (by omega)).trans ha_v3
  refine lv_istore (lv' := [(5, .int x4), (1, .ref a_v1), (2, .ref a_v2), (3, .ref a_v3), (4, .int v4), (0, .ref b)]) hx hb d_X_law_123 hl (Nat.le_of_ble_eq_true rfl) rfl (fun ls hl => ?_)
  refine lv_aload_n hx hb d_X_law_125 rfl (lv_at hl 2 rfl) ?_
  refine lv_aload_n hx hb d_X_law_126 rfl (lv_at hl 5 rfl) ?_
  refine lv_iload hx hb d_X_law_127 (lv_at hl 4 rfl) ?_
  refine lv_iconst (v := 1) hx hb d_X_law_129 (by decide) ?_
  refine lv_iadd hx hb d_X_law_130 ?_
  obtain ⟨x5, hx5, h⟩ := hy_bd h
  refine hy_sld hx hb hX hbl hbA S hx5 d_X_law_131 ?_
  obtain ⟨ob9, h⟩ := hy_if h
  obtain ⟨fs_ob9, hf_ob9, hg_ob9⟩ := hy_ob_spec ob9
  obtain ⟨x8, w6, hq_w6, h⟩ := hy_bi_spec h
  refine hy_calli (hy_runV (rest := []) (As := [.int x5]) (r := v2) (b := a_v2) B S rfl ha_v2 (by rfl) (c_M_choose hl9 G ad3 hq_w6) (hy_okr (by omega) (hy_oki hy_ok0)) tw_736 tw_9 tw_733 tw_734 sl_M_choose (by decide) rfl (Nat.le_of_ble_eq_true rfl) (Nat.le_of_ble_eq_true rfl) hf_ob9 hg_ob9 rfl hl.1 (Nat.le_of_ble_eq_true rfl) d_X_law_132) (fun ad7 H locs cells slots hag hl_w6 S => ?_)
  have ha_v1 : ad7 v1 = a_v1 := (hag v1 (by omega)).trans ha_v1
  have ha_v2 : ad7 v2 = a_v2 := (hag v2 (by omega)).trans ha_v2
  have ha_v3 : ad7 v3 = a_v3 := (hag v3 (by omega)).trans ha_v3
  refine lv_istore (lv' := [(6, .int x8), (5, .int x4), (1, .ref a_v1), (2, .ref a_v2), (3, .ref a_v3), (4, .int v4), (0, .ref b)]) hx hb d_X_law_135 hl (Nat.le_of_ble_eq_true rfl) rfl (fun ls hl => ?_)
  refine lv_aload_n hx hb d_X_law_137 rfl (lv_at hl 3 rfl) ?_
  obtain ⟨ob13, h⟩ := hy_if h
  obtain ⟨fs_ob13, hf_ob13, hg_ob13⟩ := hy_ob_spec ob13
  obtain ⟨x12, w10, hq_w10, h⟩ := hy_bi_spec h
  refine hy_calli (hy_runV (rest := []) (As := []) (r := v2) (b := a_v2) B S rfl ha_v2 (by rfl) (c_M_thrown hl9 G ad7 hq_w10) (hy_okr (by omega) hy_ok0) tw_732 tw_9 tw_729 tw_730 sl_M_thrown (by decide) rfl (Nat.le_of_ble_eq_true rfl) (Nat.le_of_ble_eq_true rfl) hf_ob13 hg_ob13 rfl hl.1 (Nat.le_of_ble_eq_true rfl) d_X_law_138) (fun ad11 H locs cells slots hag hl_w10 S => ?_)
  have ha_v1 : ad11 v1 = a_v1 := (hag v1 (by omega)).trans ha_v1
  have ha_v2 : ad11 v2 = a_v2 := (hag v2 (by omega)).trans ha_v2
  have ha_v3 : ad11 v3 = a_v3 := (hag v3 (by omega)).trans ha_v3
  refine lv_iload hx hb d_X_law_141 (lv_at hl 1 rfl) ?_
  refine lv_icmp_eq (tgt := 148) hx hb d_X_law_143 (by decide) (fun c14 => ?_) (fun c14 => ?_)
  · rw [if_pos c14] at h
    refine lv_iload hx hb d_X_law_148 (lv_at hl 1 rfl) ?_
    refine lv_if_ne (tgt := 165) hx hb d_X_law_150 (by decide) (fun c15 => ?_) (fun c15 => ?_)
    · rw [if_neg c15] at h
      cases h
      exact hy_jumpL K S (hy_okr (by omega) (hy_okr (by omega) (hy_okr (by omega) (hy_oki hy_ok0)))) (lv_sub hl [2, 3, 4, 5, 6] rfl) (by subst ha_v1 ha_v2 ha_v3; rfl) (by subst ha_v1 ha_v2 ha_v3; rfl)
    · rw [if_pos c15] at h
      refine lv_aload_n hx hb d_X_law_153 rfl (lv_at hl 4 rfl) ?_
      refine lv_iconst (v := 0) hx hb d_X_law_154 (by decide) ?_
      obtain ⟨x16, hx16, h⟩ := hy_bd h
      refine hy_lald B S ha_v3 hx16 d_X_law_155 ?_
      refine lv_iload hx hb d_X_law_156 (lv_at hl 0 rfl) ?_
      refine lv_i2l (v := (x8 : Int32).toInt64) hx hb d_X_law_158 rfl ?_
      refine W.lcmp hx hb d_X_law_159 ?_
      refine lv_if_eq (tgt := 165) hx hb d_X_law_160 (by decide) (fun c17 => ?_) (fun c17 => ?_)
      · rw [if_pos c17] at h
        cases h
        exact hy_jumpL K S (hy_okr (by omega) (hy_okr (by omega) (hy_okr (by omega) (hy_oki hy_ok0)))) (lv_sub hl [2, 3, 4, 5, 6] rfl) (by subst ha_v1 ha_v2 ha_v3; rfl) (by subst ha_v1 ha_v2 ha_v3; rfl)
      · rw [if_neg c17] at h
        refine lv_iconst (v := 0) hx hb d_X_law_163 (by decide) ?_
        cases h
        cases K
        exact absurd ho (hy_ne1 _)
  · rw [if_neg c14] at h
    refine lv_iconst (v := 0) hx hb d_X_law_146 (by decide) ?_
    cases h
    cases K
    exact absurd ho (hy_ne1 _)
set_option maxHeartbeats 4000000 in
set_option maxRecDepth 100000 in
theorem sk_X_law_165 {p : Program} {l : Launch} {e : Env} {s : State} {m : MethodId} {b L : Nat} {xs : Nat → Int32} {below : List Frame} {meth : Method} {c : Code} {G : hy_G} {ad0 : Nat → Nat} {n0 : Nat} {o : hy_O} (hl9 : l.flags = flags0) (ho : o.1 = .inl (some (.int 1))) (hX : va_X b L xs s s.heap) (hbl : b < s.heap.size) (hbA : ¬ (fun q : Nat => s.heap.size ≤ q) b) (hr9 : meth.sig.returnType = ret) (B : hy_B p l e room_1 s m #[Value.ref b] below meth c "HyphenPatternsLaw" code 7 ret [] G (fun q : Nat => s.heap.size ≤ q)) (v1 : Nat) (v2 : Nat) (v3 : Nat) (v4 : Int32) (w : hy_W) (nx : hy_N) (h : sg_X_law_165 L xs v1 v2 v3 v4 w = some nx) (K : hy_NxL lay_X_law b p l e room_1 s m #[Value.ref b] below meth c 7 G (fun q : Nat => s.heap.size ≤ q) ad0 n0 (lw_Z below #[Value.ref b] s) o nx) : hy_AtL lay_X_law b p l e room_1 s m #[Value.ref b] below meth c 7 G (fun q : Nat => s.heap.size ≤ q) ad0 n0 (lw_Z below #[Value.ref b] s) (165, [.ref v1, .ref v2, .ref v3, .int v4], w) := by
  intro ad H locs cells slots ls S hok hl
  have hx := B.1
  have hb := B.2.1
  dsimp only at S hok
  have hl : lv_has ls 7 [(1, .ref (ad v1)), (2, .ref (ad v2)), (3, .ref (ad v3)), (4, .int v4), (0, .ref b)] := hl
  show W p l e room_1 s m #[Value.ref b] below meth c H locs cells slots (lw_Z below #[Value.ref b] s) (F0 m 165 ls [])
  have hv_v1 : v1 < w.1.length := hok (.ref v1) (List.mem_of_getElem? (i := 0) rfl) v1 rfl
  obtain ⟨a_v1, ha_v1⟩ : ∃ a, ad v1 = a := ⟨_, rfl⟩
  rw [ha_v1] at hl
  have hv_v2 : v2 < w.1.length := hok (.ref v2) (List.mem_of_getElem? (i := 1) rfl) v2 rfl
  obtain ⟨a_v2, ha_v2⟩ : ∃ a, ad v2 = a := ⟨_, rfl⟩
  rw [ha_v2] at hl
  have hv_v3 : v3 < w.1.length := hok (.ref v3) (List.mem_of_getElem? (i := 2) rfl) v3 rfl
  obtain ⟨a_v3, ha_v3⟩ : ∃ a, ad v3 = a := ⟨_, rfl⟩
  rw [ha_v3] at hl
  unfold sg_X_law_165 at h
  refine lv_goto (tgt := 808) hx hb d_X_law_165 (by decide) ?_
  cases h
  exact hy_jumpL K S (hy_okr (by omega) (hy_okr (by omega) (hy_okr (by omega) (hy_oki hy_ok0)))) (lv_sub hl [0, 1, 2, 3, 4] rfl) (by subst ha_v1 ha_v2 ha_v3; rfl) (by subst ha_v1 ha_v2 ha_v3; rfl)
set_option maxHeartbeats 4000000 in
set_option maxRecDepth 100000 in
theorem sk_X_law_168 {p : Program} {l : Launch} {e : Env} {s : State} {m : MethodId} {b L : Nat} {xs : Nat → Int32} {below : List Frame} {meth : Method} {c : Code} {G : hy_G} {ad0 : Nat → Nat} {n0 : Nat} {o : hy_O} (hl9 : l.flags = flags0) (ho : o.1 = .inl (some (.int 1))) (hX : va_X b L xs s s.heap) (hbl : b < s.heap.size) (hbA : ¬ (fun q : Nat => s.heap.size ≤ q) b) (hr9 : meth.sig.returnType = ret) (B : hy_B p l e room_1 s m #[Value.ref b] below meth c "HyphenPatternsLaw" code 7 ret [] G (fun q : Nat => s.heap.size ≤ q)) (v1 : Nat) (v2 : Nat) (v3 : Nat) (v4 : Int32) (w : hy_W) (nx : hy_N) (h : sg_X_law_168 L xs v1 v2 v3 v4 w = some nx) (K : hy_NxL lay_X_law b p l e room_1 s m #[Value.ref b] below meth c 7 G (fun q : Nat => s.heap.size ≤ q) ad0 n0 (lw_Z below #[Value.ref b] s) o nx) : hy_AtL lay_X_law b p l e room_1 s m #[Value.ref b] below meth c 7 G (fun q : Nat => s.heap.size ≤ q) ad0 n0 (lw_Z below #[Value.ref b] s) (168, [.ref v1, .ref v2, .ref v3, .int v4], w) := by
  intro ad H locs cells slots ls S hok hl
  have hx := B.1
  have hb := B.2.1
  dsimp only at S hok
  have hl : lv_has ls 7 [(1, .ref (ad v1)), (2, .ref (ad v2)), (3, .ref (ad v3)), (4, .int v4), (0, .ref b)] := hl
  show W p l e room_1 s m #[Value.ref b] below meth c H locs cells slots (lw_Z below #[Value.ref b] s) (F0 m 168 ls [])
  have hv_v1 : v1 < w.1.length := hok (.ref v1) (List.mem_of_getElem? (i := 0) rfl) v1 rfl
  obtain ⟨a_v1, ha_v1⟩ : ∃ a, ad v1 = a := ⟨_, rfl⟩
  rw [ha_v1] at hl
  have hv_v2 : v2 < w.1.length := hok (.ref v2) (List.mem_of_getElem? (i := 1) rfl) v2 rfl
  obtain ⟨a_v2, ha_v2⟩ : ∃ a, ad v2 = a := ⟨_, rfl⟩
  rw [ha_v2] at hl
  have hv_v3 : v3 < w.1.length := hok (.ref v3) (List.mem_of_getElem? (i := 2) rfl) v3 rfl
  obtain ⟨a_v3, ha_v3⟩ : ∃ a, ad v3 = a := ⟨_, rfl⟩
  rw [ha_v3] at hl
  unfold sg_X_law_168 at h
  refine lv_aload_n hx hb d_X_law_168 rfl (lv_at hl 0 rfl) ?_
  refine lv_aload_n hx hb d_X_law_169 rfl (lv_at hl 4 rfl) ?_
  refine lv_iload hx hb d_X_law_170 (lv_at hl 3 rfl) ?_
  refine lv_iconst (v := 1) hx hb d_X_law_172 (by decide) ?_
  refine lv_iadd hx hb d_X_law_173 ?_
  obtain ⟨x1, hx1, h⟩ := hy_bd h
  refine hy_sld hx hb hX hbl hbA S hx1 d_X_law_174 ?_
  refine lv_aload_n hx hb d_X_law_175 rfl (lv_at hl 4 rfl) ?_
  refine lv_iload hx hb d_X_law_176 (lv_at hl 3 rfl) ?_
  refine lv_iconst (v := 2) hx hb d_X_law_178 (by decide) ?_
  refine lv_iadd hx hb d_X_law_179 ?_
  obtain ⟨x2, hx2, h⟩ := hy_bd h
  refine hy_sld hx hb hX hbl hbA S hx2 d_X_law_180 ?_
  refine lv_aload_n hx hb d_X_law_181 rfl (lv_at hl 4 rfl) ?_
  refine lv_iload hx hb d_X_law_182 (lv_at hl 3 rfl) ?_
  refine lv_iconst (v := 3) hx hb d_X_law_184 (by decide) ?_
  refine lv_iadd hx hb d_X_law_185 ?_
  obtain ⟨x3, hx3, h⟩ := hy_bd h
  refine hy_sld hx hb hX hbl hbA S hx3 d_X_law_186 ?_
  obtain ⟨x6, w4, hq_w4, h⟩ := hy_bi_spec h
  refine hy_calli (hy_runSW (rest := []) (As := [.ref a_v1, .int x1, .int x2, .int x3]) B S (by subst ha_v1; rfl) (c_X_letters hl9 G ad hq_w4) (hy_okr (by omega) (hy_oki (hy_oki (hy_oki hy_ok0)))) tw_385 tw_0 tw_383 tw_384 (by decide) rfl (Nat.le_of_ble_eq_true rfl) (Nat.le_of_ble_eq_true rfl) hl.1 (Nat.le_of_ble_eq_true rfl) d_X_law_187) (fun ad5 H locs cells slots hag hl_w4 S => ?_)
  have ha_v1 : ad5 v1 = a_v1 := (hag v1 (by omega)).trans ha_v1
  have ha_v2 : ad5 v2 = a_v2 := (hag v2 (by omega)).trans ha_v2
  have ha_v3 : ad5 v3 = a_v3 := (hag v3 (by omega)).trans ha_v3
  refine lv_istore (lv' := [(5, .int x6), (1, .ref a_v1), (2, .ref a_v2), (3, .ref a_v3), (4, .int v4), (0, .ref b)]) hx hb d_X_law_190 hl (Nat.le_of_ble_eq_true rfl) rfl (fun ls hl => ?_)
  refine lv_aload_n hx hb d_X_law_192 rfl (lv_at hl 2 rfl) ?_
  refine lv_aload_n hx hb d_X_law_193 rfl (lv_at hl 5 rfl) ?_
  refine lv_iload hx hb d_X_law_194 (lv_at hl 4 rfl) ?_
  refine lv_iconst (v := 1) hx hb d_X_law_196 (by decide) ?_
  refine lv_iadd hx hb d_X_law_197 ?_
  obtain ⟨x7, hx7, h⟩ := hy_bd h
  refine hy_sld hx hb hX hbl hbA S hx7 d_X_law_198 ?_
  refine lv_aload_n hx hb d_X_law_199 rfl (lv_at hl 5 rfl) ?_
  refine lv_iload hx hb d_X_law_200 (lv_at hl 4 rfl) ?_
  refine lv_iconst (v := 2) hx hb d_X_law_202 (by decide) ?_
  refine lv_iadd hx hb d_X_law_203 ?_
  obtain ⟨x8, hx8, h⟩ := hy_bd h
  refine hy_sld hx hb hX hbl hbA S hx8 d_X_law_204 ?_
  refine lv_aload_n hx hb d_X_law_205 rfl (lv_at hl 5 rfl) ?_
  refine lv_iload hx hb d_X_law_206 (lv_at hl 4 rfl) ?_
  refine lv_iconst (v := 3) hx hb d_X_law_208 (by decide) ?_
  refine lv_iadd hx hb d_X_law_209 ?_
  obtain ⟨x9, hx9, h⟩ := hy_bd h
  refine hy_sld hx hb hX hbl hbA S hx9 d_X_law_210 ?_
  obtain ⟨ob13, h⟩ := hy_if h
  obtain ⟨fs_ob13, hf_ob13, hg_ob13⟩ := hy_ob_spec ob13
  obtain ⟨w10, hq_w10, h⟩ := hy_bv_spec h
  refine hy_callv (hy_runV (rest := []) (As := [.int x7, .int x8, .int x9]) (r := v2) (b := a_v2) B S rfl ha_v2 (by rfl) (c_M_letters hl9 G ad5 hq_w10) (hy_okr (by omega) (hy_oki (hy_oki (hy_oki hy_ok0)))) tw_744 tw_9 tw_741 tw_742 sl_M_letters (by decide) rfl (Nat.le_of_ble_eq_true rfl) (Nat.le_of_ble_eq_true rfl) hf_ob13 hg_ob13 rfl hl.1 (Nat.le_of_ble_eq_true rfl) d_X_law_211) (fun ad11 H locs cells slots hag hl_w10 S => ?_)
  have ha_v1 : ad11 v1 = a_v1 := (hag v1 (by omega)).trans ha_v1
  have ha_v2 : ad11 v2 = a_v2 := (hag v2 (by omega)).trans ha_v2
  have ha_v3 : ad11 v3 = a_v3 := (hag v3 (by omega)).trans ha_v3
  refine lv_aload_n hx hb d_X_law_214 rfl (lv_at hl 2 rfl) ?_
  obtain ⟨ob17, h⟩ := hy_if h
  obtain ⟨fs_ob17, hf_ob17, hg_ob17⟩ := hy_ob_spec ob17
  obtain ⟨x16, w14, hq_w14, h⟩ := hy_bi_spec h
  refine hy_calli (hy_runV (rest := []) (As := []) (r := v2) (b := a_v2) B S rfl ha_v2 (by rfl) (c_M_thrown hl9 G ad11 hq_w14) (hy_okr (by omega) hy_ok0) tw_732 tw_9 tw_729 tw_730 sl_M_thrown (by decide) rfl (Nat.le_of_ble_eq_true rfl) (Nat.le_of_ble_eq_true rfl) hf_ob17 hg_ob17 rfl hl.1 (Nat.le_of_ble_eq_true rfl) d_X_law_215) (fun ad15 H locs cells slots hag hl_w14 S => ?_)
  have ha_v1 : ad15 v1 = a_v1 := (hag v1 (by omega)).trans ha_v1
  have ha_v2 : ad15 v2 = a_v2 := (hag v2 (by omega)).trans ha_v2
  have ha_v3 : ad15 v3 = a_v3 := (hag v3 (by omega)).trans ha_v3
  refine lv_iload hx hb d_X_law_218 (lv_at hl 0 rfl) ?_
  refine lv_icmp_eq (tgt := 225) hx hb d_X_law_220 (by decide) (fun c18 => ?_) (fun c18 => ?_)
  · rw [if_pos c18] at h
    refine lv_goto (tgt := 808) hx hb d_X_law_225 (by decide) ?_
    cases h
    exact hy_jumpL K S (hy_okr (by omega) (hy_okr (by omega) (hy_okr (by omega) (hy_oki hy_ok0)))) (lv_sub hl [1, 2, 3, 4, 5] rfl) (by subst ha_v1 ha_v2 ha_v3; rfl) (by subst ha_v1 ha_v2 ha_v3; rfl)
  · rw [if_neg c18] at h
    refine lv_iconst (v := 0) hx hb d_X_law_223 (by decide) ?_
    cases h
    cases K
    exact absurd ho (hy_ne1 _)
set_option maxHeartbeats 4000000 in
set_option maxRecDepth 100000 in
theorem sk_X_law_228 {p : Program} {l : Launch} {e : Env} {s : State} {m : MethodId} {b L : Nat} {xs : Nat → Int32} {below : List Frame} {meth : Method} {c : Code} {G : hy_G} {ad0 : Nat → Nat} {n0 : Nat} {o : hy_O} (hl9 : l.flags = flags0) (ho : o.1 = .inl (some (.int 1))) (hX : va_X b L xs s s.heap) (hbl : b < s.heap.size) (hbA : ¬ (fun q : Nat => s.heap.size ≤ q) b) (hr9 : meth.sig.returnType = ret) (B : hy_B p l e room_1 s m #[Value.ref b] below meth c "HyphenPatternsLaw" code 7 ret [] G (fun q : Nat => s.heap.size ≤ q)) (v1 : Nat) (v2 : Nat) (v3 : Nat) (v4 : Int32) (w : hy_W) (nx : hy_N) (h : sg_X_law_228 L xs v1 v2 v3 v4 w = some nx) (K : hy_NxL lay_X_law b p l e room_1 s m #[Value.ref b] below meth c 7 G (fun q : Nat => s.heap.size ≤ q) ad0 n0 (lw_Z below #[Value.ref b] s) o nx) : hy_AtL lay_X_law b p l e room_1 s m #[Value.ref b] below meth c 7 G (fun q : Nat => s.heap.size ≤ q) ad0 n0 (lw_Z below #[Value.ref b] s) (228, [.ref v1, .ref v2, .ref v3, .int v4], w) := by
  intro ad H locs cells slots ls S hok hl
  have hx := B.1
  have hb := B.2.1
  dsimp only at S hok
  have hl : lv_has ls 7 [(1, .ref (ad v1)), (2, .ref (ad v2)), (3, .ref (ad v3)), (4, .int v4), (0, .ref b)] := hl
  show W p l e room_1 s m #[Value.ref b] below meth c H locs cells slots (lw_Z below #[Value.ref b] s) (F0 m 228 ls [])
  have hv_v1 : v1 < w.1.length := hok (.ref v1) (List.mem_of_getElem? (i := 0) rfl) v1 rfl
  obtain ⟨a_v1, ha_v1⟩ : ∃ a, ad v1 = a := ⟨_, rfl⟩
  rw [ha_v1] at hl
  have hv_v2 : v2 < w.1.length := hok (.ref v2) (List.mem_of_getElem? (i := 1) rfl) v2 rfl
  obtain ⟨a_v2, ha_v2⟩ : ∃ a, ad v2 = a := ⟨_, rfl⟩
  rw [ha_v2] at hl
  have hv_v3 : v3 < w.1.length := hok (.ref v3) (List.mem_of_getElem? (i := 2) rfl) v3 rfl
  obtain ⟨a_v3, ha_v3⟩ : ∃ a, ad v3 = a := ⟨_, rfl⟩
  rw [ha_v3] at hl
  unfold sg_X_law_228 at h
  refine lv_aload_n hx hb d_X_law_228 rfl (lv_at hl 0 rfl) ?_
  refine lv_aload_n hx hb d_X_law_229 rfl (lv_at hl 4 rfl) ?_
  refine lv_iload hx hb d_X_law_230 (lv_at hl 3 rfl) ?_
  refine lv_iconst (v := 1) hx hb d_X_law_232 (by decide) ?_
  refine lv_iadd hx hb d_X_law_233 ?_
  obtain ⟨x1, hx1, h⟩ := hy_bd h
  refine hy_sld hx hb hX hbl hbA S hx1 d_X_law_234 ?_
  refine lv_aload_n hx hb d_X_law_235 rfl (lv_at hl 4 rfl) ?_
  refine lv_iload hx hb d_X_law_236 (lv_at hl 3 rfl) ?_
  refine lv_iconst (v := 2) hx hb d_X_law_238 (by decide) ?_
  refine lv_iadd hx hb d_X_law_239 ?_
  obtain ⟨x2, hx2, h⟩ := hy_bd h
  refine hy_sld hx hb hX hbl hbA S hx2 d_X_law_240 ?_
  obtain ⟨x5, w3, hq_w3, h⟩ := hy_bi_spec h
  refine hy_calli (hy_runSW (rest := []) (As := [.ref a_v1, .int x1, .int x2]) B S (by subst ha_v1; rfl) (c_X_least hl9 G ad hq_w3) (hy_okr (by omega) (hy_oki (hy_oki hy_ok0))) tw_435 tw_0 tw_433 tw_434 (by decide) rfl (Nat.le_of_ble_eq_true rfl) (Nat.le_of_ble_eq_true rfl) hl.1 (Nat.le_of_ble_eq_true rfl) d_X_law_241) (fun ad4 H locs cells slots hag hl_w3 S => ?_)
  have ha_v1 : ad4 v1 = a_v1 := (hag v1 (by omega)).trans ha_v1
  have ha_v2 : ad4 v2 = a_v2 := (hag v2 (by omega)).trans ha_v2
  have ha_v3 : ad4 v3 = a_v3 := (hag v3 (by omega)).trans ha_v3
  refine lv_istore (lv' := [(5, .int x5), (1, .ref a_v1), (2, .ref a_v2), (3, .ref a_v3), (4, .int v4), (0, .ref b)]) hx hb d_X_law_244 hl (Nat.le_of_ble_eq_true rfl) rfl (fun ls hl => ?_)
  refine lv_aload_n hx hb d_X_law_246 rfl (lv_at hl 2 rfl) ?_
  refine lv_aload_n hx hb d_X_law_247 rfl (lv_at hl 5 rfl) ?_
  refine lv_iload hx hb d_X_law_248 (lv_at hl 4 rfl) ?_
  refine lv_iconst (v := 1) hx hb d_X_law_250 (by decide) ?_
  refine lv_iadd hx hb d_X_law_251 ?_
  obtain ⟨x6, hx6, h⟩ := hy_bd h
  refine hy_sld hx hb hX hbl hbA S hx6 d_X_law_252 ?_
  refine lv_aload_n hx hb d_X_law_253 rfl (lv_at hl 5 rfl) ?_
  refine lv_iload hx hb d_X_law_254 (lv_at hl 4 rfl) ?_
  refine lv_iconst (v := 2) hx hb d_X_law_256 (by decide) ?_
  refine lv_iadd hx hb d_X_law_257 ?_
  obtain ⟨x7, hx7, h⟩ := hy_bd h
  refine hy_sld hx hb hX hbl hbA S hx7 d_X_law_258 ?_
  obtain ⟨ob11, h⟩ := hy_if h
  obtain ⟨fs_ob11, hf_ob11, hg_ob11⟩ := hy_ob_spec ob11
  obtain ⟨w8, hq_w8, h⟩ := hy_bv_spec h
  refine hy_callv (hy_runV (rest := []) (As := [.int x6, .int x7]) (r := v2) (b := a_v2) B S rfl ha_v2 (by rfl) (c_M_least hl9 G ad4 hq_w8) (hy_okr (by omega) (hy_oki (hy_oki hy_ok0))) tw_753 tw_9 tw_750 tw_751 sl_M_least (by decide) rfl (Nat.le_of_ble_eq_true rfl) (Nat.le_of_ble_eq_true rfl) hf_ob11 hg_ob11 rfl hl.1 (Nat.le_of_ble_eq_true rfl) d_X_law_259) (fun ad9 H locs cells slots hag hl_w8 S => ?_)
  have ha_v1 : ad9 v1 = a_v1 := (hag v1 (by omega)).trans ha_v1
  have ha_v2 : ad9 v2 = a_v2 := (hag v2 (by omega)).trans ha_v2
  have ha_v3 : ad9 v3 = a_v3 := (hag v3 (by omega)).trans ha_v3
  refine lv_aload_n hx hb d_X_law_262 rfl (lv_at hl 2 rfl) ?_
  obtain ⟨ob15, h⟩ := hy_if h
  obtain ⟨fs_ob15, hf_ob15, hg_ob15⟩ := hy_ob_spec ob15
  obtain ⟨x14, w12, hq_w12, h⟩ := hy_bi_spec h
  refine hy_calli (hy_runV (rest := []) (As := []) (r := v2) (b := a_v2) B S rfl ha_v2 (by rfl) (c_M_thrown hl9 G ad9 hq_w12) (hy_okr (by omega) hy_ok0) tw_732 tw_9 tw_729 tw_730 sl_M_thrown (by decide) rfl (Nat.le_of_ble_eq_true rfl) (Nat.le_of_ble_eq_true rfl) hf_ob15 hg_ob15 rfl hl.1 (Nat.le_of_ble_eq_true rfl) d_X_law_263) (fun ad13 H locs cells slots hag hl_w12 S => ?_)
  have ha_v1 : ad13 v1 = a_v1 := (hag v1 (by omega)).trans ha_v1
  have ha_v2 : ad13 v2 = a_v2 := (hag v2 (by omega)).trans ha_v2
  have ha_v3 : ad13 v3 = a_v3 := (hag v3 (by omega)).trans ha_v3
  refine lv_iload hx hb d_X_law_266 (lv_at hl 0 rfl) ?_
  refine lv_icmp_eq (tgt := 273) hx hb d_X_law_268 (by decide) (fun c16 => ?_) (fun c16 => ?_)
  · rw [if_pos c16] at h
    refine lv_goto (tgt := 808) hx hb d_X_law_273 (by decide) ?_
    cases h
    exact hy_jumpL K S (hy_okr (by omega) (hy_okr (by omega) (hy_okr (by omega) (hy_oki hy_ok0)))) (lv_sub hl [1, 2, 3, 4, 5] rfl) (by subst ha_v1 ha_v2 ha_v3; rfl) (by subst ha_v1 ha_v2 ha_v3; rfl)
  · rw [if_neg c16] at h
    refine lv_iconst (v := 0) hx hb d_X_law_271 (by decide) ?_
    cases h
    cases K
    exact absurd ho (hy_ne1 _)
set_option maxHeartbeats 4000000 in
set_option maxRecDepth 100000 in
theorem sk_X_law_276 {p : Program} {l : Launch} {e : Env} {s : State} {m : MethodId} {b L : Nat} {xs : Nat → Int32} {below : List Frame} {meth : Method} {c : Code} {G : hy_G} {ad0 : Nat → Nat} {n0 : Nat} {o : hy_O} (hl9 : l.flags = flags0) (ho : o.1 = .inl (some (.int 1))) (hX : va_X b L xs s s.heap) (hbl : b < s.heap.size) (hbA : ¬ (fun q : Nat => s.heap.size ≤ q) b) (hr9 : meth.sig.returnType = ret) (B : hy_B p l e room_1 s m #[Value.ref b] below meth c "HyphenPatternsLaw" code 7 ret [] G (fun q : Nat => s.heap.size ≤ q)) (v1 : Nat) (v2 : Nat) (v3 : Nat) (v4 : Int32) (w : hy_W) (nx : hy_N) (h : sg_X_law_276 L xs v1 v2 v3 v4 w = some nx) (K : hy_NxL lay_X_law b p l e room_1 s m #[Value.ref b] below meth c 7 G (fun q : Nat => s.heap.size ≤ q) ad0 n0 (lw_Z below #[Value.ref b] s) o nx) : hy_AtL lay_X_law b p l e room_1 s m #[Value.ref b] below meth c 7 G (fun q : Nat => s.heap.size ≤ q) ad0 n0 (lw_Z below #[Value.ref b] s) (276, [.ref v1, .ref v2, .ref v3, .int v4], w) := by
  intro ad H locs cells slots ls S hok hl
  have hx := B.1
  have hb := B.2.1
  dsimp only at S hok
  have hl : lv_has ls 7 [(1, .ref (ad v1)), (2, .ref (ad v2)), (3, .ref (ad v3)), (4, .int v4), (0, .ref b)] := hl
  show W p l e room_1 s m #[Value.ref b] below meth c H locs cells slots (lw_Z below #[Value.ref b] s) (F0 m 276 ls [])
  have hv_v1 : v1 < w.1.length := hok (.ref v1) (List.mem_of_getElem? (i := 0) rfl) v1 rfl
  obtain ⟨a_v1, ha_v1⟩ : ∃ a, ad v1 = a := ⟨_, rfl⟩
  rw [ha_v1] at hl
  have hv_v2 : v2 < w.1.length := hok (.ref v2) (List.mem_of_getElem? (i := 1) rfl) v2 rfl
  obtain ⟨a_v2, ha_v2⟩ : ∃ a, ad v2 = a := ⟨_, rfl⟩
  rw [ha_v2] at hl
  have hv_v3 : v3 < w.1.length := hok (.ref v3) (List.mem_of_getElem? (i := 2) rfl) v3 rfl
  obtain ⟨a_v3, ha_v3⟩ : ∃ a, ad v3 = a := ⟨_, rfl⟩
  rw [ha_v3] at hl
  unfold sg_X_law_276 at h
  refine lv_aload_n hx hb d_X_law_276 rfl (lv_at hl 0 rfl) ?_
  refine lv_aload_n hx hb d_X_law_277 rfl (lv_at hl 4 rfl) ?_
  refine lv_iload hx hb d_X_law_278 (lv_at hl 3 rfl) ?_
  refine lv_iconst (v := 1) hx hb d_X_law_280 (by decide) ?_
  refine lv_iadd hx hb d_X_law_281 ?_
  obtain ⟨x1, hx1, h⟩ := hy_bd h
  refine hy_sld hx hb hX hbl hbA S hx1 d_X_law_282 ?_
  refine lv_aload_n hx hb d_X_law_283 rfl (lv_at hl 4 rfl) ?_
  refine lv_iload hx hb d_X_law_284 (lv_at hl 3 rfl) ?_
  refine lv_iconst (v := 2) hx hb d_X_law_286 (by decide) ?_
  refine lv_iadd hx hb d_X_law_287 ?_
  obtain ⟨x2, hx2, h⟩ := hy_bd h
  refine hy_sld hx hb hX hbl hbA S hx2 d_X_law_288 ?_
  refine lv_aload_n hx hb d_X_law_289 rfl (lv_at hl 4 rfl) ?_
  refine lv_iload hx hb d_X_law_290 (lv_at hl 3 rfl) ?_
  refine lv_iconst (v := 3) hx hb d_X_law_292 (by decide) ?_
  refine lv_iadd hx hb d_X_law_293 ?_
  obtain ⟨x3, hx3, h⟩ := hy_bd h
  refine hy_sld hx hb hX hbl hbA S hx3 d_X_law_294 ?_
  refine lv_aload_n hx hb d_X_law_295 rfl (lv_at hl 4 rfl) ?_
  refine lv_iload hx hb d_X_law_296 (lv_at hl 3 rfl) ?_
  refine lv_iconst (v := 4) hx hb d_X_law_298 (by decide) ?_
  refine lv_iadd hx hb d_X_law_299 ?_
  obtain ⟨x4, hx4, h⟩ := hy_bd h
  refine hy_sld hx hb hX hbl hbA S hx4 d_X_law_300 ?_
  refine lv_aload_n hx hb d_X_law_301 rfl (lv_at hl 4 rfl) ?_
  refine lv_iload hx hb d_X_law_302 (lv_at hl 3 rfl) ?_
  refine lv_iconst (v := 5) hx hb d_X_law_304 (by decide) ?_
  refine lv_iadd hx hb d_X_law_305 ?_
  obtain ⟨x5, hx5, h⟩ := hy_bd h
  refine hy_sld hx hb hX hbl hbA S hx5 d_X_law_306 ?_
  refine lv_aload_n hx hb d_X_law_307 rfl (lv_at hl 2 rfl) ?_
  obtain ⟨x8, w6, hq_w6, h⟩ := hy_bi_spec h
  refine hy_calli (hy_runSW (rest := []) (As := [.ref a_v1, .int x1, .int x2, .int x3, .int x4, .int x5, .ref a_v3]) B S (by subst ha_v1 ha_v3; rfl) (c_X_tell hl9 G ad hq_w6) (hy_okr (by omega) (hy_oki (hy_oki (hy_oki (hy_oki (hy_oki (hy_okr (by omega) hy_ok0))))))) tw_443 tw_0 tw_441 tw_442 (by decide) rfl (Nat.le_of_ble_eq_true rfl) (Nat.le_of_ble_eq_true rfl) hl.1 (Nat.le_of_ble_eq_true rfl) d_X_law_308) (fun ad7 H locs cells slots hag hl_w6 S => ?_)
  have ha_v1 : ad7 v1 = a_v1 := (hag v1 (by omega)).trans ha_v1
  have ha_v2 : ad7 v2 = a_v2 := (hag v2 (by omega)).trans ha_v2
  have ha_v3 : ad7 v3 = a_v3 := (hag v3 (by omega)).trans ha_v3
  refine lv_istore (lv' := [(5, .int x8), (1, .ref a_v1), (2, .ref a_v2), (3, .ref a_v3), (4, .int v4), (0, .ref b)]) hx hb d_X_law_311 hl (Nat.le_of_ble_eq_true rfl) rfl (fun ls hl => ?_)
  refine lv_aload_n hx hb d_X_law_313 rfl (lv_at hl 2 rfl) ?_
  refine lv_aload_n hx hb d_X_law_314 rfl (lv_at hl 5 rfl) ?_
  refine lv_iload hx hb d_X_law_315 (lv_at hl 4 rfl) ?_
  refine lv_iconst (v := 1) hx hb d_X_law_317 (by decide) ?_
  refine lv_iadd hx hb d_X_law_318 ?_
  obtain ⟨x9, hx9, h⟩ := hy_bd h
  refine hy_sld hx hb hX hbl hbA S hx9 d_X_law_319 ?_
  refine lv_aload_n hx hb d_X_law_320 rfl (lv_at hl 5 rfl) ?_
  refine lv_iload hx hb d_X_law_321 (lv_at hl 4 rfl) ?_
  refine lv_iconst (v := 2) hx hb d_X_law_323 (by decide) ?_
  refine lv_iadd hx hb d_X_law_324 ?_
  obtain ⟨x10, hx10, h⟩ := hy_bd h
  refine hy_sld hx hb hX hbl hbA S hx10 d_X_law_325 ?_
  refine lv_aload_n hx hb d_X_law_326 rfl (lv_at hl 5 rfl) ?_
  refine lv_iload hx hb d_X_law_327 (lv_at hl 4 rfl) ?_
  refine lv_iconst (v := 3) hx hb d_X_law_329 (by decide) ?_
  refine lv_iadd hx hb d_X_law_330 ?_
  obtain ⟨x11, hx11, h⟩ := hy_bd h
  refine hy_sld hx hb hX hbl hbA S hx11 d_X_law_331 ?_
  refine lv_aload_n hx hb d_X_law_332 rfl (lv_at hl 5 rfl) ?_
  refine lv_iload hx hb d_X_law_333 (lv_at hl 4 rfl) ?_
  refine lv_iconst (v := 4) hx hb d_X_law_335 (by decide) ?_
  refine lv_iadd hx hb d_X_law_336 ?_
  obtain ⟨x12, hx12, h⟩ := hy_bd h
  refine hy_sld hx hb hX hbl hbA S hx12 d_X_law_337 ?_
  refine lv_aload_n hx hb d_X_law_338 rfl (lv_at hl 5 rfl) ?_
  refine lv_iload hx hb d_X_law_339 (lv_at hl 4 rfl) ?_
  refine lv_iconst (v := 5) hx hb d_X_law_341 (by decide) ?_
  refine lv_iadd hx hb d_X_law_342 ?_
  obtain ⟨x13, hx13, h⟩ := hy_bd h
  refine hy_sld hx hb hX hbl hbA S hx13 d_X_law_343 ?_
  obtain ⟨ob17, h⟩ := hy_if h
  obtain ⟨fs_ob17, hf_ob17, hg_ob17⟩ := hy_ob_spec ob17
  obtain ⟨x16, w14, hq_w14, h⟩ := hy_bi_spec h
  refine hy_calli (hy_runV (rest := []) (As := [.int x9, .int x10, .int x11, .int x12, .int x13]) (r := v2) (b := a_v2) B S rfl ha_v2 (by rfl) (c_M_tell hl9 G ad7 hq_w14) (hy_okr (by omega) (hy_oki (hy_oki (hy_oki (hy_oki (hy_oki hy_ok0)))))) tw_757 tw_9 tw_754 tw_755 sl_M_tell (by decide) rfl (Nat.le_of_ble_eq_true rfl) (Nat.le_of_ble_eq_true rfl) hf_ob17 hg_ob17 rfl hl.1 (Nat.le_of_ble_eq_true rfl) d_X_law_344) (fun ad15 H locs cells slots hag hl_w14 S => ?_)
  have ha_v1 : ad15 v1 = a_v1 := (hag v1 (by omega)).trans ha_v1
  have ha_v2 : ad15 v2 = a_v2 := (hag v2 (by omega)).trans ha_v2
  have ha_v3 : ad15 v3 = a_v3 := (hag v3 (by omega)).trans ha_v3
  refine lv_istore (lv' := [(6, .int x16), (5, .int x8), (1, .ref a_v1), (2, .ref a_v2), (3, .ref a_v3), (4, .int v4), (0, .ref b)]) hx hb d_X_law_347 hl (Nat.le_of_ble_eq_true rfl) rfl (fun ls hl => ?_)
  refine lv_aload_n hx hb d_X_law_349 rfl (lv_at hl 3 rfl) ?_
  obtain ⟨ob21, h⟩ := hy_if h
  obtain ⟨fs_ob21, hf_ob21, hg_ob21⟩ := hy_ob_spec ob21
  obtain ⟨x20, w18, hq_w18, h⟩ := hy_bi_spec h
  refine hy_calli (hy_runV (rest := []) (As := []) (r := v2) (b := a_v2) B S rfl ha_v2 (by rfl) (c_M_thrown hl9 G ad15 hq_w18) (hy_okr (by omega) hy_ok0) tw_732 tw_9 tw_729 tw_730 sl_M_thrown (by decide) rfl (Nat.le_of_ble_eq_true rfl) (Nat.le_of_ble_eq_true rfl) hf_ob21 hg_ob21 rfl hl.1 (Nat.le_of_ble_eq_true rfl) d_X_law_350) (fun ad19 H locs cells slots hag hl_w18 S => ?_)
  have ha_v1 : ad19 v1 = a_v1 := (hag v1 (by omega)).trans ha_v1
  have ha_v2 : ad19 v2 = a_v2 := (hag v2 (by omega)).trans ha_v2
  have ha_v3 : ad19 v3 = a_v3 := (hag v3 (by omega)).trans ha_v3
  refine lv_iload hx hb d_X_law_353 (lv_at hl 1 rfl) ?_
  refine lv_icmp_eq (tgt := 360) hx hb d_X_law_355 (by decide) (fun c22 => ?_) (fun c22 => ?_)
  · rw [if_pos c22] at h
    refine lv_iload hx hb d_X_law_360 (lv_at hl 1 rfl) ?_
    refine lv_if_ne (tgt := 377) hx hb d_X_law_362 (by decide) (fun c23 => ?_) (fun c23 => ?_)
    · rw [if_neg c23] at h
      cases h
      exact hy_jumpL K S (hy_okr (by omega) (hy_okr (by omega) (hy_okr (by omega) (hy_oki hy_ok0)))) (lv_sub hl [2, 3, 4, 5, 6] rfl) (by subst ha_v1 ha_v2 ha_v3; rfl) (by subst ha_v1 ha_v2 ha_v3; rfl)
    · rw [if_pos c23] at h
      refine lv_aload_n hx hb d_X_law_365 rfl (lv_at hl 4 rfl) ?_
      refine lv_iconst (v := 0) hx hb d_X_law_366 (by decide) ?_
      obtain ⟨x24, hx24, h⟩ := hy_bd h
      refine hy_lald B S ha_v3 hx24 d_X_law_367 ?_
      refine lv_iload hx hb d_X_law_368 (lv_at hl 0 rfl) ?_
      refine lv_i2l (v := (x16 : Int32).toInt64) hx hb d_X_law_370 rfl ?_
      refine W.lcmp hx hb d_X_law_371 ?_
      refine lv_if_eq (tgt := 377) hx hb d_X_law_372 (by decide) (fun c25 => ?_) (fun c25 => ?_)
      · rw [if_pos c25] at h
        cases h
        exact hy_jumpL K S (hy_okr (by omega) (hy_okr (by omega) (hy_okr (by omega) (hy_oki hy_ok0)))) (lv_sub hl [2, 3, 4, 5, 6] rfl) (by subst ha_v1 ha_v2 ha_v3; rfl) (by subst ha_v1 ha_v2 ha_v3; rfl)
      · rw [if_neg c25] at h
        refine lv_iconst (v := 0) hx hb d_X_law_375 (by decide) ?_
        cases h
        cases K
        exact absurd ho (hy_ne1 _)
  · rw [if_neg c22] at h
    refine lv_iconst (v := 0) hx hb d_X_law_358 (by decide) ?_
    cases h
    cases K
    exact absurd ho (hy_ne1 _)
set_option maxHeartbeats 4000000 in
set_option maxRecDepth 100000 in
theorem sk_X_law_377 {p : Program} {l : Launch} {e : Env} {s : State} {m : MethodId} {b L : Nat} {xs : Nat → Int32} {below : List Frame} {meth : Method} {c : Code} {G : hy_G} {ad0 : Nat → Nat} {n0 : Nat} {o : hy_O} (hl9 : l.flags = flags0) (ho : o.1 = .inl (some (.int 1))) (hX : va_X b L xs s s.heap) (hbl : b < s.heap.size) (hbA : ¬ (fun q : Nat => s.heap.size ≤ q) b) (hr9 : meth.sig.returnType = ret) (B : hy_B p l e room_1 s m #[Value.ref b] below meth c "HyphenPatternsLaw" code 7 ret [] G (fun q : Nat => s.heap.size ≤ q)) (v1 : Nat) (v2 : Nat) (v3 : Nat) (v4 : Int32) (w : hy_W) (nx : hy_N) (h : sg_X_law_377 L xs v1 v2 v3 v4 w = some nx) (K : hy_NxL lay_X_law b p l e room_1 s m #[Value.ref b] below meth c 7 G (fun q : Nat => s.heap.size ≤ q) ad0 n0 (lw_Z below #[Value.ref b] s) o nx) : hy_AtL lay_X_law b p l e room_1 s m #[Value.ref b] below meth c 7 G (fun q : Nat => s.heap.size ≤ q) ad0 n0 (lw_Z below #[Value.ref b] s) (377, [.ref v1, .ref v2, .ref v3, .int v4], w) := by
  intro ad H locs cells slots ls S hok hl
  have hx := B.1
  have hb := B.2.1
  dsimp only at S hok
  have hl : lv_has ls 7 [(1, .ref (ad v1)), (2, .ref (ad v2)), (3, .ref (ad v3)), (4, .int v4), (0, .ref b)] := hl
  show W p l e room_1 s m #[Value.ref b] below meth c H locs cells slots (lw_Z below #[Value.ref b] s) (F0 m 377 ls [])
  have hv_v1 : v1 < w.1.length := hok (.ref v1) (List.mem_of_getElem? (i := 0) rfl) v1 rfl
  obtain ⟨a_v1, ha_v1⟩ : ∃ a, ad v1 = a := ⟨_, rfl⟩
  rw [ha_v1] at hl
  have hv_v2 : v2 < w.1.length := hok (.ref v2) (List.mem_of_getElem? (i := 1) rfl) v2 rfl
  obtain ⟨a_v2, ha_v2⟩ : ∃ a, ad v2 = a := ⟨_, rfl⟩
  rw [ha_v2] at hl
  have hv_v3 : v3 < w.1.length := hok (.ref v3) (List.mem_of_getElem? (i := 2) rfl) v3 rfl
  obtain ⟨a_v3, ha_v3⟩ : ∃ a, ad v3 = a := ⟨_, rfl⟩
  rw [ha_v3] at hl
  unfold sg_X_law_377 at h
  refine lv_goto (tgt := 808) hx hb d_X_law_377 (by decide) ?_
  cases h
  exact hy_jumpL K S (hy_okr (by omega) (hy_okr (by omega) (hy_okr (by omega) (hy_oki hy_ok0)))) (lv_sub hl [0, 1, 2, 3, 4] rfl) (by subst ha_v1 ha_v2 ha_v3; rfl) (by subst ha_v1 ha_v2 ha_v3; rfl)
set_option maxHeartbeats 4000000 in
set_option maxRecDepth 100000 in
theorem sk_X_law_380 {p : Program} {l : Launch} {e : Env} {s : State} {m : MethodId} {b L : Nat} {xs : Nat → Int32} {below : List Frame} {meth : Method} {c : Code} {G : hy_G} {ad0 : Nat → Nat} {n0 : Nat} {o : hy_O} (hl9 : l.flags = flags0) (ho : o.1 = .inl (some (.int 1))) (hX : va_X b L xs s s.heap) (hbl : b < s.heap.size) (hbA : ¬ (fun q : Nat => s.heap.size ≤ q) b) (hr9 : meth.sig.returnType = ret) (B : hy_B p l e room_1 s m #[Value.ref b] below meth c "HyphenPatternsLaw" code 7 ret [] G (fun q : Nat => s.heap.size ≤ q)) (v1 : Nat) (v2 : Nat) (v3 : Nat) (v4 : Int32) (w : hy_W) (nx : hy_N) (h : sg_X_law_380 L xs v1 v2 v3 v4 w = some nx) (K : hy_NxL lay_X_law b p l e room_1 s m #[Value.ref b] below meth c 7 G (fun q : Nat => s.heap.size ≤ q) ad0 n0 (lw_Z below #[Value.ref b] s) o nx) : hy_AtL lay_X_law b p l e room_1 s m #[Value.ref b] below meth c 7 G (fun q : Nat => s.heap.size ≤ q) ad0 n0 (lw_Z below #[Value.ref b] s) (380, [.ref v1, .ref v2, .ref v3, .int v4], w) := by
  intro ad H locs cells slots ls S hok hl
  have hx := B.1
  have hb := B.2.1
  dsimp only at S hok
  have hl : lv_has ls 7 [(1, .ref (ad v1)), (2, .ref (ad v2)), (3, .ref (ad v3)), (4, .int v4), (0, .ref b)] := hl
  show W p l e room_1 s m #[Value.ref b] below meth c H locs cells slots (lw_Z below #[Value.ref b] s) (F0 m 380 ls [])
  have hv_v1 : v1 < w.1.length := hok (.ref v1) (List.mem_of_getElem? (i := 0) rfl) v1 rfl
  obtain ⟨a_v1, ha_v1⟩ : ∃ a, ad v1 = a := ⟨_, rfl⟩
  rw [ha_v1] at hl
  have hv_v2 : v2 < w.1.length := hok (.ref v2) (List.mem_of_getElem? (i := 1) rfl) v2 rfl
  obtain ⟨a_v2, ha_v2⟩ : ∃ a, ad v2 = a := ⟨_, rfl⟩
  rw [ha_v2] at hl
  have hv_v3 : v3 < w.1.length := hok (.ref v3) (List.mem_of_getElem? (i := 2) rfl) v3 rfl
  obtain ⟨a_v3, ha_v3⟩ : ∃ a, ad v3 = a := ⟨_, rfl⟩
  rw [ha_v3] at hl
  unfold sg_X_law_380 at h
  refine lv_aload_n hx hb d_X_law_380 rfl (lv_at hl 0 rfl) ?_
  obtain ⟨ob4, h⟩ := hy_if h
  obtain ⟨fs_ob4, hf_ob4, hg_ob4⟩ := hy_ob_spec ob4
  obtain ⟨x3, w1, hq_w1, h⟩ := hy_bi_spec h
  refine hy_calli (hy_runV (rest := []) (As := []) (r := v1) (b := a_v1) B S rfl ha_v1 (by rfl) (c_H_drop hl9 G ad hq_w1) (hy_okr (by omega) hy_ok0) tw_185 tw_1 tw_182 tw_183 sl_H_drop (by decide) rfl (Nat.le_of_ble_eq_true rfl) (Nat.le_of_ble_eq_true rfl) hf_ob4 hg_ob4 rfl hl.1 (Nat.le_of_ble_eq_true rfl) d_X_law_381) (fun ad2 H locs cells slots hag hl_w1 S => ?_)
  have ha_v1 : ad2 v1 = a_v1 := (hag v1 (by omega)).trans ha_v1
  have ha_v2 : ad2 v2 = a_v2 := (hag v2 (by omega)).trans ha_v2
  have ha_v3 : ad2 v3 = a_v3 := (hag v3 (by omega)).trans ha_v3
  refine lv_aload_n hx hb d_X_law_384 rfl (lv_at hl 1 rfl) ?_
  obtain ⟨ob8, h⟩ := hy_if h
  obtain ⟨fs_ob8, hf_ob8, hg_ob8⟩ := hy_ob_spec ob8
  obtain ⟨x7, w5, hq_w5, h⟩ := hy_bi_spec h
  refine hy_calli (hy_runV (rest := [.int x3]) (As := []) (r := v2) (b := a_v2) B S rfl ha_v2 (by rfl) (c_M_drop hl9 G ad2 hq_w5) (hy_okr (by omega) hy_ok0) tw_773 tw_9 tw_770 tw_771 sl_M_drop (by decide) rfl (Nat.le_of_ble_eq_true rfl) (Nat.le_of_ble_eq_true rfl) hf_ob8 hg_ob8 rfl hl.1 (Nat.le_of_ble_eq_true rfl) d_X_law_385) (fun ad6 H locs cells slots hag hl_w5 S => ?_)
  have ha_v1 : ad6 v1 = a_v1 := (hag v1 (by omega)).trans ha_v1
  have ha_v2 : ad6 v2 = a_v2 := (hag v2 (by omega)).trans ha_v2
  have ha_v3 : ad6 v3 = a_v3 := (hag v3 (by omega)).trans ha_v3
  refine lv_icmp_eq (tgt := 808) hx hb d_X_law_388 (by decide) (fun c9 => ?_) (fun c9 => ?_)
  · rw [if_pos c9] at h
    cases h
    exact hy_jumpL K S (hy_okr (by omega) (hy_okr (by omega) (hy_okr (by omega) (hy_oki hy_ok0)))) (lv_sub hl [0, 1, 2, 3, 4] rfl) (by subst ha_v1 ha_v2 ha_v3; rfl) (by subst ha_v1 ha_v2 ha_v3; rfl)
  · rw [if_neg c9] at h
    refine lv_iconst (v := 0) hx hb d_X_law_391 (by decide) ?_
    cases h
    cases K
    exact absurd ho (hy_ne1 _)
set_option maxHeartbeats 4000000 in
set_option maxRecDepth 100000 in
theorem sk_X_law_393 {p : Program} {l : Launch} {e : Env} {s : State} {m : MethodId} {b L : Nat} {xs : Nat → Int32} {below : List Frame} {meth : Method} {c : Code} {G : hy_G} {ad0 : Nat → Nat} {n0 : Nat} {o : hy_O} (hl9 : l.flags = flags0) (ho : o.1 = .inl (some (.int 1))) (hX : va_X b L xs s s.heap) (hbl : b < s.heap.size) (hbA : ¬ (fun q : Nat => s.heap.size ≤ q) b) (hr9 : meth.sig.returnType = ret) (B : hy_B p l e room_1 s m #[Value.ref b] below meth c "HyphenPatternsLaw" code 7 ret [] G (fun q : Nat => s.heap.size ≤ q)) (v1 : Nat) (v2 : Nat) (v3 : Nat) (v4 : Int32) (w : hy_W) (nx : hy_N) (h : sg_X_law_393 L xs v1 v2 v3 v4 w = some nx) (K : hy_NxL lay_X_law b p l e room_1 s m #[Value.ref b] below meth c 7 G (fun q : Nat => s.heap.size ≤ q) ad0 n0 (lw_Z below #[Value.ref b] s) o nx) : hy_AtL lay_X_law b p l e room_1 s m #[Value.ref b] below meth c 7 G (fun q : Nat => s.heap.size ≤ q) ad0 n0 (lw_Z below #[Value.ref b] s) (393, [.ref v1, .ref v2, .ref v3, .int v4], w) := by
  intro ad H locs cells slots ls S hok hl
  have hx := B.1
  have hb := B.2.1
  dsimp only at S hok
  have hl : lv_has ls 7 [(1, .ref (ad v1)), (2, .ref (ad v2)), (3, .ref (ad v3)), (4, .int v4), (0, .ref b)] := hl
  show W p l e room_1 s m #[Value.ref b] below meth c H locs cells slots (lw_Z below #[Value.ref b] s) (F0 m 393 ls [])
  have hv_v1 : v1 < w.1.length := hok (.ref v1) (List.mem_of_getElem? (i := 0) rfl) v1 rfl
  obtain ⟨a_v1, ha_v1⟩ : ∃ a, ad v1 = a := ⟨_, rfl⟩
  rw [ha_v1] at hl
  have hv_v2 : v2 < w.1.length := hok (.ref v2) (List.mem_of_getElem? (i := 1) rfl) v2 rfl
  obtain ⟨a_v2, ha_v2⟩ : ∃ a, ad v2 = a := ⟨_, rfl⟩
  rw [ha_v2] at hl
  have hv_v3 : v3 < w.1.length := hok (.ref v3) (List.mem_of_getElem? (i := 2) rfl) v3 rfl
  obtain ⟨a_v3, ha_v3⟩ : ∃ a, ad v3 = a := ⟨_, rfl⟩
  rw [ha_v3] at hl
  unfold sg_X_law_393 at h
  refine lv_aload_n hx hb d_X_law_393 rfl (lv_at hl 0 rfl) ?_
  refine lv_aload_n hx hb d_X_law_394 rfl (lv_at hl 2 rfl) ?_
  obtain ⟨x3, w1, hq_w1, h⟩ := hy_bi_spec h
  refine hy_calli (hy_runSW (rest := []) (As := [.ref a_v1, .ref a_v3]) B S (by subst ha_v1 ha_v3; rfl) (c_X_pattern hl9 G ad hq_w1) (hy_okr (by omega) (hy_okr (by omega) hy_ok0)) tw_468 tw_0 tw_466 tw_467 (by decide) rfl (Nat.le_of_ble_eq_true rfl) (Nat.le_of_ble_eq_true rfl) hl.1 (Nat.le_of_ble_eq_true rfl) d_X_law_395) (fun ad2 H locs cells slots hag hl_w1 S => ?_)
  have ha_v1 : ad2 v1 = a_v1 := (hag v1 (by omega)).trans ha_v1
  have ha_v2 : ad2 v2 = a_v2 := (hag v2 (by omega)).trans ha_v2
  have ha_v3 : ad2 v3 = a_v3 := (hag v3 (by omega)).trans ha_v3
  refine lv_istore (lv' := [(5, .int x3), (1, .ref a_v1), (2, .ref a_v2), (3, .ref a_v3), (4, .int v4), (0, .ref b)]) hx hb d_X_law_398 hl (Nat.le_of_ble_eq_true rfl) rfl (fun ls hl => ?_)
  refine lv_aload_n hx hb d_X_law_400 rfl (lv_at hl 2 rfl) ?_
  obtain ⟨ob7, h⟩ := hy_if h
  obtain ⟨fs_ob7, hf_ob7, hg_ob7⟩ := hy_ob_spec ob7
  obtain ⟨x6, w4, hq_w4, h⟩ := hy_bi_spec h
  refine hy_calli (hy_runV (rest := []) (As := []) (r := v2) (b := a_v2) B S rfl ha_v2 (by rfl) (c_M_pattern hl9 G ad2 hq_w4) (hy_okr (by omega) hy_ok0) tw_777 tw_9 tw_774 tw_775 sl_M_pattern (by decide) rfl (Nat.le_of_ble_eq_true rfl) (Nat.le_of_ble_eq_true rfl) hf_ob7 hg_ob7 rfl hl.1 (Nat.le_of_ble_eq_true rfl) d_X_law_401) (fun ad5 H locs cells slots hag hl_w4 S => ?_)
  have ha_v1 : ad5 v1 = a_v1 := (hag v1 (by omega)).trans ha_v1
  have ha_v2 : ad5 v2 = a_v2 := (hag v2 (by omega)).trans ha_v2
  have ha_v3 : ad5 v3 = a_v3 := (hag v3 (by omega)).trans ha_v3
  refine lv_istore (lv' := [(6, .int x6), (5, .int x3), (1, .ref a_v1), (2, .ref a_v2), (3, .ref a_v3), (4, .int v4), (0, .ref b)]) hx hb d_X_law_404 hl (Nat.le_of_ble_eq_true rfl) rfl (fun ls hl => ?_)
  refine lv_aload_n hx hb d_X_law_406 rfl (lv_at hl 3 rfl) ?_
  obtain ⟨ob11, h⟩ := hy_if h
  obtain ⟨fs_ob11, hf_ob11, hg_ob11⟩ := hy_ob_spec ob11
  obtain ⟨x10, w8, hq_w8, h⟩ := hy_bi_spec h
  refine hy_calli (hy_runV (rest := []) (As := []) (r := v2) (b := a_v2) B S rfl ha_v2 (by rfl) (c_M_thrown hl9 G ad5 hq_w8) (hy_okr (by omega) hy_ok0) tw_732 tw_9 tw_729 tw_730 sl_M_thrown (by decide) rfl (Nat.le_of_ble_eq_true rfl) (Nat.le_of_ble_eq_true rfl) hf_ob11 hg_ob11 rfl hl.1 (Nat.le_of_ble_eq_true rfl) d_X_law_407) (fun ad9 H locs cells slots hag hl_w8 S => ?_)
  have ha_v1 : ad9 v1 = a_v1 := (hag v1 (by omega)).trans ha_v1
  have ha_v2 : ad9 v2 = a_v2 := (hag v2 (by omega)).trans ha_v2
  have ha_v3 : ad9 v3 = a_v3 := (hag v3 (by omega)).trans ha_v3
  refine lv_iload hx hb d_X_law_410 (lv_at hl 1 rfl) ?_
  refine lv_icmp_eq (tgt := 417) hx hb d_X_law_412 (by decide) (fun c12 => ?_) (fun c12 => ?_)
  · rw [if_pos c12] at h
    refine lv_iload hx hb d_X_law_417 (lv_at hl 1 rfl) ?_
    refine lv_if_ne (tgt := 434) hx hb d_X_law_419 (by decide) (fun c13 => ?_) (fun c13 => ?_)
    · rw [if_neg c13] at h
      cases h
      exact hy_jumpL K S (hy_okr (by omega) (hy_okr (by omega) (hy_okr (by omega) (hy_oki hy_ok0)))) (lv_sub hl [2, 3, 4, 5, 6] rfl) (by subst ha_v1 ha_v2 ha_v3; rfl) (by subst ha_v1 ha_v2 ha_v3; rfl)
    · rw [if_pos c13] at h
      refine lv_aload_n hx hb d_X_law_422 rfl (lv_at hl 4 rfl) ?_
      refine lv_iconst (v := 0) hx hb d_X_law_423 (by decide) ?_
      obtain ⟨x14, hx14, h⟩ := hy_bd h
      refine hy_lald B S ha_v3 hx14 d_X_law_424 ?_
      refine lv_iload hx hb d_X_law_425 (lv_at hl 0 rfl) ?_
      refine lv_i2l (v := (x6 : Int32).toInt64) hx hb d_X_law_427 rfl ?_
      refine W.lcmp hx hb d_X_law_428 ?_
      refine lv_if_eq (tgt := 434) hx hb d_X_law_429 (by decide) (fun c15 => ?_) (fun c15 => ?_)
      · rw [if_pos c15] at h
        cases h
        exact hy_jumpL K S (hy_okr (by omega) (hy_okr (by omega) (hy_okr (by omega) (hy_oki hy_ok0)))) (lv_sub hl [2, 3, 4, 5, 6] rfl) (by subst ha_v1 ha_v2 ha_v3; rfl) (by subst ha_v1 ha_v2 ha_v3; rfl)
      · rw [if_neg c15] at h
        refine lv_iconst (v := 0) hx hb d_X_law_432 (by decide) ?_
        cases h
        cases K
        exact absurd ho (hy_ne1 _)
  · rw [if_neg c12] at h
    refine lv_iconst (v := 0) hx hb d_X_law_415 (by decide) ?_
    cases h
    cases K
    exact absurd ho (hy_ne1 _)
set_option maxHeartbeats 4000000 in
set_option maxRecDepth 100000 in
theorem sk_X_law_434 {p : Program} {l : Launch} {e : Env} {s : State} {m : MethodId} {b L : Nat} {xs : Nat → Int32} {below : List Frame} {meth : Method} {c : Code} {G : hy_G} {ad0 : Nat → Nat} {n0 : Nat} {o : hy_O} (hl9 : l.flags = flags0) (ho : o.1 = .inl (some (.int 1))) (hX : va_X b L xs s s.heap) (hbl : b < s.heap.size) (hbA : ¬ (fun q : Nat => s.heap.size ≤ q) b) (hr9 : meth.sig.returnType = ret) (B : hy_B p l e room_1 s m #[Value.ref b] below meth c "HyphenPatternsLaw" code 7 ret [] G (fun q : Nat => s.heap.size ≤ q)) (v1 : Nat) (v2 : Nat) (v3 : Nat) (v4 : Int32) (w : hy_W) (nx : hy_N) (h : sg_X_law_434 L xs v1 v2 v3 v4 w = some nx) (K : hy_NxL lay_X_law b p l e room_1 s m #[Value.ref b] below meth c 7 G (fun q : Nat => s.heap.size ≤ q) ad0 n0 (lw_Z below #[Value.ref b] s) o nx) : hy_AtL lay_X_law b p l e room_1 s m #[Value.ref b] below meth c 7 G (fun q : Nat => s.heap.size ≤ q) ad0 n0 (lw_Z below #[Value.ref b] s) (434, [.ref v1, .ref v2, .ref v3, .int v4], w) := by
  intro ad H locs cells slots ls S hok hl
  have hx := B.1
  have hb := B.2.1
  dsimp only at S hok
  have hl : lv_has ls 7 [(1, .ref (ad v1)), (2, .ref (ad v2)), (3, .ref (ad v3)), (4, .int v4), (0, .ref b)] := hl
  show W p l e room_1 s m #[Value.ref b] below meth c H locs cells slots (lw_Z below #[Value.ref b] s) (F0 m 434 ls [])
  have hv_v1 : v1 < w.1.length := hok (.ref v1) (List.mem_of_getElem? (i := 0) rfl) v1 rfl
  obtain ⟨a_v1, ha_v1⟩ : ∃ a, ad v1 = a := ⟨_, rfl⟩
  rw [ha_v1] at hl
  have hv_v2 : v2 < w.1.length := hok (.ref v2) (List.mem_of_getElem? (i := 1) rfl) v2 rfl
  obtain ⟨a_v2, ha_v2⟩ : ∃ a, ad v2 = a := ⟨_, rfl⟩
  rw [ha_v2] at hl
  have hv_v3 : v3 < w.1.length := hok (.ref v3) (List.mem_of_getElem? (i := 2) rfl) v3 rfl
  obtain ⟨a_v3, ha_v3⟩ : ∃ a, ad v3 = a := ⟨_, rfl⟩
  rw [ha_v3] at hl
  unfold sg_X_law_434 at h
  refine lv_goto (tgt := 808) hx hb d_X_law_434 (by decide) ?_
  cases h
  exact hy_jumpL K S (hy_okr (by omega) (hy_okr (by omega) (hy_okr (by omega) (hy_oki hy_ok0)))) (lv_sub hl [0, 1, 2, 3, 4] rfl) (by subst ha_v1 ha_v2 ha_v3; rfl) (by subst ha_v1 ha_v2 ha_v3; rfl)
set_option maxHeartbeats 4000000 in
set_option maxRecDepth 100000 in
theorem sk_X_law_437 {p : Program} {l : Launch} {e : Env} {s : State} {m : MethodId} {b L : Nat} {xs : Nat → Int32} {below : List Frame} {meth : Method} {c : Code} {G : hy_G} {ad0 : Nat → Nat} {n0 : Nat} {o : hy_O} (hl9 : l.flags = flags0) (ho : o.1 = .inl (some (.int 1))) (hX : va_X b L xs s s.heap) (hbl : b < s.heap.size) (hbA : ¬ (fun q : Nat => s.heap.size ≤ q) b) (hr9 : meth.sig.returnType = ret) (B : hy_B p l e room_1 s m #[Value.ref b] below meth c "HyphenPatternsLaw" code 7 ret [] G (fun q : Nat => s.heap.size ≤ q)) (v1 : Nat) (v2 : Nat) (v3 : Nat) (v4 : Int32) (w : hy_W) (nx : hy_N) (h : sg_X_law_437 L xs v1 v2 v3 v4 w = some nx) (K : hy_NxL lay_X_law b p l e room_1 s m #[Value.ref b] below meth c 7 G (fun q : Nat => s.heap.size ≤ q) ad0 n0 (lw_Z below #[Value.ref b] s) o nx) : hy_AtL lay_X_law b p l e room_1 s m #[Value.ref b] below meth c 7 G (fun q : Nat => s.heap.size ≤ q) ad0 n0 (lw_Z below #[Value.ref b] s) (437, [.ref v1, .ref v2, .ref v3, .int v4], w) := by
  intro ad H locs cells slots ls S hok hl
  have hx := B.1
  have hb := B.2.1
  dsimp only at S hok
  have hl : lv_has ls 7 [(1, .ref (ad v1)), (2, .ref (ad v2)), (3, .ref (ad v3)), (4, .int v4), (0, .ref b)] := hl
  show W p l e room_1 s m #[Value.ref b] below meth c H locs cells slots (lw_Z below #[Value.ref b] s) (F0 m 437 ls [])
  have hv_v1 : v1 < w.1.length := hok (.ref v1) (List.mem_of_getElem? (i := 0) rfl) v1 rfl
  obtain ⟨a_v1, ha_v1⟩ : ∃ a, ad v1 = a := ⟨_, rfl⟩
  rw [ha_v1] at hl
  have hv_v2 : v2 < w.1.length := hok (.ref v2) (List.mem_of_getElem? (i := 1) rfl) v2 rfl
  obtain ⟨a_v2, ha_v2⟩ : ∃ a, ad v2 = a := ⟨_, rfl⟩
  rw [ha_v2] at hl
  have hv_v3 : v3 < w.1.length := hok (.ref v3) (List.mem_of_getElem? (i := 2) rfl) v3 rfl
  obtain ⟨a_v3, ha_v3⟩ : ∃ a, ad v3 = a := ⟨_, rfl⟩
  rw [ha_v3] at hl
  unfold sg_X_law_437 at h
  refine lv_aload_n hx hb d_X_law_437 rfl (lv_at hl 0 rfl) ?_
  refine lv_aload_n hx hb d_X_law_438 rfl (lv_at hl 2 rfl) ?_
  obtain ⟨x3, w1, hq_w1, h⟩ := hy_bi_spec h
  refine hy_calli (hy_runSW (rest := []) (As := [.ref a_v1, .ref a_v3]) B S (by subst ha_v1 ha_v3; rfl) (c_X_exception hl9 G ad hq_w1) (hy_okr (by omega) (hy_okr (by omega) hy_ok0)) tw_598 tw_0 tw_596 tw_597 (by decide) rfl (Nat.le_of_ble_eq_true rfl) (Nat.le_of_ble_eq_true rfl) hl.1 (Nat.le_of_ble_eq_true rfl) d_X_law_439) (fun ad2 H locs cells slots hag hl_w1 S => ?_)
  have ha_v1 : ad2 v1 = a_v1 := (hag v1 (by omega)).trans ha_v1
  have ha_v2 : ad2 v2 = a_v2 := (hag v2 (by omega)).trans ha_v2
  have ha_v3 : ad2 v3 = a_v3 := (hag v3 (by omega)).trans ha_v3
  refine lv_istore (lv' := [(5, .int x3), (1, .ref a_v1), (2, .ref a_v2), (3, .ref a_v3), (4, .int v4), (0, .ref b)]) hx hb d_X_law_442 hl (Nat.le_of_ble_eq_true rfl) rfl (fun ls hl => ?_)
  refine lv_aload_n hx hb d_X_law_444 rfl (lv_at hl 2 rfl) ?_
  obtain ⟨ob7, h⟩ := hy_if h
  obtain ⟨fs_ob7, hf_ob7, hg_ob7⟩ := hy_ob_spec ob7
  obtain ⟨x6, w4, hq_w4, h⟩ := hy_bi_spec h
  refine hy_calli (hy_runV (rest := []) (As := []) (r := v2) (b := a_v2) B S rfl ha_v2 (by rfl) (c_M_exception hl9 G ad2 hq_w4) (hy_okr (by omega) hy_ok0) tw_793 tw_9 tw_790 tw_791 sl_M_exception (by decide) rfl (Nat.le_of_ble_eq_true rfl) (Nat.le_of_ble_eq_true rfl) hf_ob7 hg_ob7 rfl hl.1 (Nat.le_of_ble_eq_true rfl) d_X_law_445) (fun ad5 H locs cells slots hag hl_w4 S => ?_)
  have ha_v1 : ad5 v1 = a_v1 := (hag v1 (by omega)).trans ha_v1
  have ha_v2 : ad5 v2 = a_v2 := (hag v2 (by omega)).trans ha_v2
  have ha_v3 : ad5 v3 = a_v3 := (hag v3 (by omega)).trans ha_v3
  refine lv_istore (lv' := [(6, .int x6), (5, .int x3), (1, .ref a_v1), (2, .ref a_v2), (3, .ref a_v3), (4, .int v4), (0, .ref b)]) hx hb d_X_law_448 hl (Nat.le_of_ble_eq_true rfl) rfl (fun ls hl => ?_)
  refine lv_aload_n hx hb d_X_law_450 rfl (lv_at hl 3 rfl) ?_
  obtain ⟨ob11, h⟩ := hy_if h
  obtain ⟨fs_ob11, hf_ob11, hg_ob11⟩ := hy_ob_spec ob11
  obtain ⟨x10, w8, hq_w8, h⟩ := hy_bi_spec h
  refine hy_calli (hy_runV (rest := []) (As := []) (r := v2) (b := a_v2) B S rfl ha_v2 (by rfl) (c_M_thrown hl9 G ad5 hq_w8) (hy_okr (by omega) hy_ok0) tw_732 tw_9 tw_729 tw_730 sl_M_thrown (by decide) rfl (Nat.le_of_ble_eq_true rfl) (Nat.le_of_ble_eq_true rfl) hf_ob11 hg_ob11 rfl hl.1 (Nat.le_of_ble_eq_true rfl) d_X_law_451) (fun ad9 H locs cells slots hag hl_w8 S => ?_)
  have ha_v1 : ad9 v1 = a_v1 := (hag v1 (by omega)).trans ha_v1
  have ha_v2 : ad9 v2 = a_v2 := (hag v2 (by omega)).trans ha_v2
  have ha_v3 : ad9 v3 = a_v3 := (hag v3 (by omega)).trans ha_v3
  refine lv_iload hx hb d_X_law_454 (lv_at hl 1 rfl) ?_
  refine lv_icmp_eq (tgt := 461) hx hb d_X_law_456 (by decide) (fun c12 => ?_) (fun c12 => ?_)
  · rw [if_pos c12] at h
    refine lv_iload hx hb d_X_law_461 (lv_at hl 1 rfl) ?_
    refine lv_if_ne (tgt := 478) hx hb d_X_law_463 (by decide) (fun c13 => ?_) (fun c13 => ?_)
    · rw [if_neg c13] at h
      cases h
      exact hy_jumpL K S (hy_okr (by omega) (hy_okr (by omega) (hy_okr (by omega) (hy_oki hy_ok0)))) (lv_sub hl [2, 3, 4, 5, 6] rfl) (by subst ha_v1 ha_v2 ha_v3; rfl) (by subst ha_v1 ha_v2 ha_v3; rfl)
    · rw [if_pos c13] at h
      refine lv_aload_n hx hb d_X_law_466 rfl (lv_at hl 4 rfl) ?_
      refine lv_iconst (v := 0) hx hb d_X_law_467 (by decide) ?_
      obtain ⟨x14, hx14, h⟩ := hy_bd h
      refine hy_lald B S ha_v3 hx14 d_X_law_468 ?_
      refine lv_iload hx hb d_X_law_469 (lv_at hl 0 rfl) ?_
      refine lv_i2l (v := (x6 : Int32).toInt64) hx hb d_X_law_471 rfl ?_
      refine W.lcmp hx hb d_X_law_472 ?_
      refine lv_if_eq (tgt := 478) hx hb d_X_law_473 (by decide) (fun c15 => ?_) (fun c15 => ?_)
      · rw [if_pos c15] at h
        cases h
        exact hy_jumpL K S (hy_okr (by omega) (hy_okr (by omega) (hy_okr (by omega) (hy_oki hy_ok0)))) (lv_sub hl [2, 3, 4, 5, 6] rfl) (by subst ha_v1 ha_v2 ha_v3; rfl) (by subst ha_v1 ha_v2 ha_v3; rfl)
      · rw [if_neg c15] at h
        refine lv_iconst (v := 0) hx hb d_X_law_476 (by decide) ?_
        cases h
        cases K
        exact absurd ho (hy_ne1 _)
  · rw [if_neg c12] at h
    refine lv_iconst (v := 0) hx hb d_X_law_459 (by decide) ?_
    cases h
    cases K
    exact absurd ho (hy_ne1 _)
set_option maxHeartbeats 4000000 in
set_option maxRecDepth 100000 in
theorem sk_X_law_478 {p : Program} {l : Launch} {e : Env} {s : State} {m : MethodId} {b L : Nat} {xs : Nat → Int32} {below : List Frame} {meth : Method} {c : Code} {G : hy_G} {ad0 : Nat → Nat} {n0 : Nat} {o : hy_O} (hl9 : l.flags = flags0) (ho : o.1 = .inl (some (.int 1))) (hX : va_X b L xs s s.heap) (hbl : b < s.heap.size) (hbA : ¬ (fun q : Nat => s.heap.size ≤ q) b) (hr9 : meth.sig.returnType = ret) (B : hy_B p l e room_1 s m #[Value.ref b] below meth c "HyphenPatternsLaw" code 7 ret [] G (fun q : Nat => s.heap.size ≤ q)) (v1 : Nat) (v2 : Nat) (v3 : Nat) (v4 : Int32) (w : hy_W) (nx : hy_N) (h : sg_X_law_478 L xs v1 v2 v3 v4 w = some nx) (K : hy_NxL lay_X_law b p l e room_1 s m #[Value.ref b] below meth c 7 G (fun q : Nat => s.heap.size ≤ q) ad0 n0 (lw_Z below #[Value.ref b] s) o nx) : hy_AtL lay_X_law b p l e room_1 s m #[Value.ref b] below meth c 7 G (fun q : Nat => s.heap.size ≤ q) ad0 n0 (lw_Z below #[Value.ref b] s) (478, [.ref v1, .ref v2, .ref v3, .int v4], w) := by
  intro ad H locs cells slots ls S hok hl
  have hx := B.1
  have hb := B.2.1
  dsimp only at S hok
  have hl : lv_has ls 7 [(1, .ref (ad v1)), (2, .ref (ad v2)), (3, .ref (ad v3)), (4, .int v4), (0, .ref b)] := hl
  show W p l e room_1 s m #[Value.ref b] below meth c H locs cells slots (lw_Z below #[Value.ref b] s) (F0 m 478 ls [])
  have hv_v1 : v1 < w.1.length := hok (.ref v1) (List.mem_of_getElem? (i := 0) rfl) v1 rfl
  obtain ⟨a_v1, ha_v1⟩ : ∃ a, ad v1 = a := ⟨_, rfl⟩
  rw [ha_v1] at hl
  have hv_v2 : v2 < w.1.length := hok (.ref v2) (List.mem_of_getElem? (i := 1) rfl) v2 rfl
  obtain ⟨a_v2, ha_v2⟩ : ∃ a, ad v2 = a := ⟨_, rfl⟩
  rw [ha_v2] at hl
  have hv_v3 : v3 < w.1.length := hok (.ref v3) (List.mem_of_getElem? (i := 2) rfl) v3 rfl
  obtain ⟨a_v3, ha_v3⟩ : ∃ a, ad v3 = a := ⟨_, rfl⟩
  rw [ha_v3] at hl
  unfold sg_X_law_478 at h
  refine lv_goto (tgt := 808) hx hb d_X_law_478 (by decide) ?_
  cases h
  exact hy_jumpL K S (hy_okr (by omega) (hy_okr (by omega) (hy_okr (by omega) (hy_oki hy_ok0)))) (lv_sub hl [0, 1, 2, 3, 4] rfl) (by subst ha_v1 ha_v2 ha_v3; rfl) (by subst ha_v1 ha_v2 ha_v3; rfl)
set_option maxHeartbeats 4000000 in
set_option maxRecDepth 100000 in
theorem sk_X_law_481 {p : Program} {l : Launch} {e : Env} {s : State} {m : MethodId} {b L : Nat} {xs : Nat → Int32} {below : List Frame} {meth : Method} {c : Code} {G : hy_G} {ad0 : Nat → Nat} {n0 : Nat} {o : hy_O} (hl9 : l.flags = flags0) (ho : o.1 = .inl (some (.int 1))) (hX : va_X b L xs s s.heap) (hbl : b < s.heap.size) (hbA : ¬ (fun q : Nat => s.heap.size ≤ q) b) (hr9 : meth.sig.returnType = ret) (B : hy_B p l e room_1 s m #[Value.ref b] below meth c "HyphenPatternsLaw" code 7 ret [] G (fun q : Nat => s.heap.size ≤ q)) (v1 : Nat) (v2 : Nat) (v3 : Nat) (v4 : Int32) (w : hy_W) (nx : hy_N) (h : sg_X_law_481 L xs v1 v2 v3 v4 w = some nx) (K : hy_NxL lay_X_law b p l e room_1 s m #[Value.ref b] below meth c 7 G (fun q : Nat => s.heap.size ≤ q) ad0 n0 (lw_Z below #[Value.ref b] s) o nx) : hy_AtL lay_X_law b p l e room_1 s m #[Value.ref b] below meth c 7 G (fun q : Nat => s.heap.size ≤ q) ad0 n0 (lw_Z below #[Value.ref b] s) (481, [.ref v1, .ref v2, .ref v3, .int v4], w) := by
  intro ad H locs cells slots ls S hok hl
  have hx := B.1
  have hb := B.2.1
  dsimp only at S hok
  have hl : lv_has ls 7 [(1, .ref (ad v1)), (2, .ref (ad v2)), (3, .ref (ad v3)), (4, .int v4), (0, .ref b)] := hl
  show W p l e room_1 s m #[Value.ref b] below meth c H locs cells slots (lw_Z below #[Value.ref b] s) (F0 m 481 ls [])
  have hv_v1 : v1 < w.1.length := hok (.ref v1) (List.mem_of_getElem? (i := 0) rfl) v1 rfl
  obtain ⟨a_v1, ha_v1⟩ : ∃ a, ad v1 = a := ⟨_, rfl⟩
  rw [ha_v1] at hl
  have hv_v2 : v2 < w.1.length := hok (.ref v2) (List.mem_of_getElem? (i := 1) rfl) v2 rfl
  obtain ⟨a_v2, ha_v2⟩ : ∃ a, ad v2 = a := ⟨_, rfl⟩
  rw [ha_v2] at hl
  have hv_v3 : v3 < w.1.length := hok (.ref v3) (List.mem_of_getElem? (i := 2) rfl) v3 rfl
  obtain ⟨a_v3, ha_v3⟩ : ∃ a, ad v3 = a := ⟨_, rfl⟩
  rw [ha_v3] at hl
  unfold sg_X_law_481 at h
  refine lv_aload_n hx hb d_X_law_481 rfl (lv_at hl 0 rfl) ?_
  obtain ⟨ob4, h⟩ := hy_if h
  obtain ⟨fs_ob4, hf_ob4, hg_ob4⟩ := hy_ob_spec ob4
  obtain ⟨x3, w1, hq_w1, h⟩ := hy_bi_spec h
  refine hy_calli (hy_runV (rest := []) (As := []) (r := v1) (b := a_v1) B S rfl ha_v1 (by rfl) (c_H_forget hl9 G ad hq_w1) (hy_okr (by omega) hy_ok0) tw_193 tw_1 tw_190 tw_191 sl_H_forget (by decide) rfl (Nat.le_of_ble_eq_true rfl) (Nat.le_of_ble_eq_true rfl) hf_ob4 hg_ob4 rfl hl.1 (Nat.le_of_ble_eq_true rfl) d_X_law_482) (fun ad2 H locs cells slots hag hl_w1 S => ?_)
  have ha_v1 : ad2 v1 = a_v1 := (hag v1 (by omega)).trans ha_v1
  have ha_v2 : ad2 v2 = a_v2 := (hag v2 (by omega)).trans ha_v2
  have ha_v3 : ad2 v3 = a_v3 := (hag v3 (by omega)).trans ha_v3
  refine lv_aload_n hx hb d_X_law_485 rfl (lv_at hl 1 rfl) ?_
  obtain ⟨ob8, h⟩ := hy_if h
  obtain ⟨fs_ob8, hf_ob8, hg_ob8⟩ := hy_ob_spec ob8
  obtain ⟨x7, w5, hq_w5, h⟩ := hy_bi_spec h
  refine hy_calli (hy_runV (rest := [.int x3]) (As := []) (r := v2) (b := a_v2) B S rfl ha_v2 (by rfl) (c_M_forget hl9 G ad2 hq_w5) (hy_okr (by omega) hy_ok0) tw_805 tw_9 tw_802 tw_803 sl_M_forget (by decide) rfl (Nat.le_of_ble_eq_true rfl) (Nat.le_of_ble_eq_true rfl) hf_ob8 hg_ob8 rfl hl.1 (Nat.le_of_ble_eq_true rfl) d_X_law_486) (fun ad6 H locs cells slots hag hl_w5 S => ?_)
  have ha_v1 : ad6 v1 = a_v1 := (hag v1 (by omega)).trans ha_v1
  have ha_v2 : ad6 v2 = a_v2 := (hag v2 (by omega)).trans ha_v2
  have ha_v3 : ad6 v3 = a_v3 := (hag v3 (by omega)).trans ha_v3
  refine lv_icmp_eq (tgt := 808) hx hb d_X_law_489 (by decide) (fun c9 => ?_) (fun c9 => ?_)
  · rw [if_pos c9] at h
    cases h
    exact hy_jumpL K S (hy_okr (by omega) (hy_okr (by omega) (hy_okr (by omega) (hy_oki hy_ok0)))) (lv_sub hl [0, 1, 2, 3, 4] rfl) (by subst ha_v1 ha_v2 ha_v3; rfl) (by subst ha_v1 ha_v2 ha_v3; rfl)
  · rw [if_neg c9] at h
    refine lv_iconst (v := 0) hx hb d_X_law_492 (by decide) ?_
    cases h
    cases K
    exact absurd ho (hy_ne1 _)
set_option maxHeartbeats 4000000 in
set_option maxRecDepth 100000 in
theorem sk_X_law_494 {p : Program} {l : Launch} {e : Env} {s : State} {m : MethodId} {b L : Nat} {xs : Nat → Int32} {below : List Frame} {meth : Method} {c : Code} {G : hy_G} {ad0 : Nat → Nat} {n0 : Nat} {o : hy_O} (hl9 : l.flags = flags0) (ho : o.1 = .inl (some (.int 1))) (hX : va_X b L xs s s.heap) (hbl : b < s.heap.size) (hbA : ¬ (fun q : Nat => s.heap.size ≤ q) b) (hr9 : meth.sig.returnType = ret) (B : hy_B p l e room_1 s m #[Value.ref b] below meth c "HyphenPatternsLaw" code 7 ret [] G (fun q : Nat => s.heap.size ≤ q)) (v1 : Nat) (v2 : Nat) (v3 : Nat) (v4 : Int32) (w : hy_W) (nx : hy_N) (h : sg_X_law_494 L xs v1 v2 v3 v4 w = some nx) (K : hy_NxL lay_X_law b p l e room_1 s m #[Value.ref b] below meth c 7 G (fun q : Nat => s.heap.size ≤ q) ad0 n0 (lw_Z below #[Value.ref b] s) o nx) : hy_AtL lay_X_law b p l e room_1 s m #[Value.ref b] below meth c 7 G (fun q : Nat => s.heap.size ≤ q) ad0 n0 (lw_Z below #[Value.ref b] s) (494, [.ref v1, .ref v2, .ref v3, .int v4], w) := by
  intro ad H locs cells slots ls S hok hl
  have hx := B.1
  have hb := B.2.1
  dsimp only at S hok
  have hl : lv_has ls 7 [(1, .ref (ad v1)), (2, .ref (ad v2)), (3, .ref (ad v3)), (4, .int v4), (0, .ref b)] := hl
  show W p l e room_1 s m #[Value.ref b] below meth c H locs cells slots (lw_Z below #[Value.ref b] s) (F0 m 494 ls [])
  have hv_v1 : v1 < w.1.length := hok (.ref v1) (List.mem_of_getElem? (i := 0) rfl) v1 rfl
  obtain ⟨a_v1, ha_v1⟩ : ∃ a, ad v1 = a := ⟨_, rfl⟩
  rw [ha_v1] at hl
  have hv_v2 : v2 < w.1.length := hok (.ref v2) (List.mem_of_getElem? (i := 1) rfl) v2 rfl
  obtain ⟨a_v2, ha_v2⟩ : ∃ a, ad v2 = a := ⟨_, rfl⟩
  rw [ha_v2] at hl
  have hv_v3 : v3 < w.1.length := hok (.ref v3) (List.mem_of_getElem? (i := 2) rfl) v3 rfl
  obtain ⟨a_v3, ha_v3⟩ : ∃ a, ad v3 = a := ⟨_, rfl⟩
  rw [ha_v3] at hl
  unfold sg_X_law_494 at h
  refine lv_aload_n hx hb d_X_law_494 rfl (lv_at hl 0 rfl) ?_
  refine lv_aload_n hx hb d_X_law_495 rfl (lv_at hl 4 rfl) ?_
  refine lv_iload hx hb d_X_law_496 (lv_at hl 3 rfl) ?_
  refine lv_iconst (v := 1) hx hb d_X_law_498 (by decide) ?_
  refine lv_iadd hx hb d_X_law_499 ?_
  obtain ⟨x1, hx1, h⟩ := hy_bd h
  refine hy_sld hx hb hX hbl hbA S hx1 d_X_law_500 ?_
  refine lv_aload_n hx hb d_X_law_501 rfl (lv_at hl 4 rfl) ?_
  refine lv_iload hx hb d_X_law_502 (lv_at hl 3 rfl) ?_
  refine lv_iconst (v := 2) hx hb d_X_law_504 (by decide) ?_
  refine lv_iadd hx hb d_X_law_505 ?_
  obtain ⟨x2, hx2, h⟩ := hy_bd h
  refine hy_sld hx hb hX hbl hbA S hx2 d_X_law_506 ?_
  refine lv_aload_n hx hb d_X_law_507 rfl (lv_at hl 4 rfl) ?_
  refine lv_iload hx hb d_X_law_508 (lv_at hl 3 rfl) ?_
  refine lv_iconst (v := 3) hx hb d_X_law_510 (by decide) ?_
  refine lv_iadd hx hb d_X_law_511 ?_
  obtain ⟨x3, hx3, h⟩ := hy_bd h
  refine hy_sld hx hb hX hbl hbA S hx3 d_X_law_512 ?_
  refine lv_aload_n hx hb d_X_law_513 rfl (lv_at hl 4 rfl) ?_
  refine lv_iload hx hb d_X_law_514 (lv_at hl 3 rfl) ?_
  refine lv_iconst (v := 4) hx hb d_X_law_516 (by decide) ?_
  refine lv_iadd hx hb d_X_law_517 ?_
  obtain ⟨x4, hx4, h⟩ := hy_bd h
  refine hy_sld hx hb hX hbl hbA S hx4 d_X_law_518 ?_
  refine lv_aload_n hx hb d_X_law_519 rfl (lv_at hl 4 rfl) ?_
  refine lv_iload hx hb d_X_law_520 (lv_at hl 3 rfl) ?_
  refine lv_iconst (v := 5) hx hb d_X_law_522 (by decide) ?_
  refine lv_iadd hx hb d_X_law_523 ?_
  obtain ⟨x5, hx5, h⟩ := hy_bd h
  refine hy_sld hx hb hX hbl hbA S hx5 d_X_law_524 ?_
  refine lv_aload_n hx hb d_X_law_525 rfl (lv_at hl 2 rfl) ?_
  obtain ⟨x8, w6, hq_w6, h⟩ := hy_bi_spec h
  refine hy_calli (hy_runSW (rest := []) (As := [.ref a_v1, .int x1, .int x2, .int x3, .int x4, .int x5, .ref a_v3]) B S (by subst ha_v1 ha_v3; rfl) (c_X_add hl9 G ad hq_w6) (hy_okr (by omega) (hy_oki (hy_oki (hy_oki (hy_oki (hy_oki (hy_okr (by omega) hy_ok0))))))) tw_614 tw_0 tw_612 tw_613 (by decide) rfl (Nat.le_of_ble_eq_true rfl) (Nat.le_of_ble_eq_true rfl) hl.1 (Nat.le_of_ble_eq_true rfl) d_X_law_526) (fun ad7 H locs cells slots hag hl_w6 S => ?_)
  have ha_v1 : ad7 v1 = a_v1 := (hag v1 (by omega)).trans ha_v1
  have ha_v2 : ad7 v2 = a_v2 := (hag v2 (by omega)).trans ha_v2
  have ha_v3 : ad7 v3 = a_v3 := (hag v3 (by omega)).trans ha_v3
  refine lv_istore (lv' := [(5, .int x8), (1, .ref a_v1), (2, .ref a_v2), (3, .ref a_v3), (4, .int v4), (0, .ref b)]) hx hb d_X_law_529 hl (Nat.le_of_ble_eq_true rfl) rfl (fun ls hl => ?_)
  refine lv_aload_n hx hb d_X_law_531 rfl (lv_at hl 2 rfl) ?_
  refine lv_aload_n hx hb d_X_law_532 rfl (lv_at hl 5 rfl) ?_
  refine lv_iload hx hb d_X_law_533 (lv_at hl 4 rfl) ?_
  refine lv_iconst (v := 1) hx hb d_X_law_535 (by decide) ?_
  refine lv_iadd hx hb d_X_law_536 ?_
  obtain ⟨x9, hx9, h⟩ := hy_bd h
  refine hy_sld hx hb hX hbl hbA S hx9 d_X_law_537 ?_
  refine lv_aload_n hx hb d_X_law_538 rfl (lv_at hl 5 rfl) ?_
  refine lv_iload hx hb d_X_law_539 (lv_at hl 4 rfl) ?_
  refine lv_iconst (v := 2) hx hb d_X_law_541 (by decide) ?_
  refine lv_iadd hx hb d_X_law_542 ?_
  obtain ⟨x10, hx10, h⟩ := hy_bd h
  refine hy_sld hx hb hX hbl hbA S hx10 d_X_law_543 ?_
  refine lv_aload_n hx hb d_X_law_544 rfl (lv_at hl 5 rfl) ?_
  refine lv_iload hx hb d_X_law_545 (lv_at hl 4 rfl) ?_
  refine lv_iconst (v := 3) hx hb d_X_law_547 (by decide) ?_
  refine lv_iadd hx hb d_X_law_548 ?_
  obtain ⟨x11, hx11, h⟩ := hy_bd h
  refine hy_sld hx hb hX hbl hbA S hx11 d_X_law_549 ?_
  refine lv_aload_n hx hb d_X_law_550 rfl (lv_at hl 5 rfl) ?_
  refine lv_iload hx hb d_X_law_551 (lv_at hl 4 rfl) ?_
  refine lv_iconst (v := 4) hx hb d_X_law_553 (by decide) ?_
  refine lv_iadd hx hb d_X_law_554 ?_
  obtain ⟨x12, hx12, h⟩ := hy_bd h
  refine hy_sld hx hb hX hbl hbA S hx12 d_X_law_555 ?_
  refine lv_aload_n hx hb d_X_law_556 rfl (lv_at hl 5 rfl) ?_
  refine lv_iload hx hb d_X_law_557 (lv_at hl 4 rfl) ?_
  refine lv_iconst (v := 5) hx hb d_X_law_559 (by decide) ?_
  refine lv_iadd hx hb d_X_law_560 ?_
  obtain ⟨x13, hx13, h⟩ := hy_bd h
  refine hy_sld hx hb hX hbl hbA S hx13 d_X_law_561 ?_
  obtain ⟨ob17, h⟩ := hy_if h
  obtain ⟨fs_ob17, hf_ob17, hg_ob17⟩ := hy_ob_spec ob17
  obtain ⟨x16, w14, hq_w14, h⟩ := hy_bi_spec h
  refine hy_calli (hy_runV (rest := []) (As := [.int x9, .int x10, .int x11, .int x12, .int x13]) (r := v2) (b := a_v2) B S rfl ha_v2 (by rfl) (c_M_add hl9 G ad7 hq_w14) (hy_okr (by omega) (hy_oki (hy_oki (hy_oki (hy_oki (hy_oki hy_ok0)))))) tw_817 tw_9 tw_814 tw_815 sl_M_add (by decide) rfl (Nat.le_of_ble_eq_true rfl) (Nat.le_of_ble_eq_true rfl) hf_ob17 hg_ob17 rfl hl.1 (Nat.le_of_ble_eq_true rfl) d_X_law_562) (fun ad15 H locs cells slots hag hl_w14 S => ?_)
  have ha_v1 : ad15 v1 = a_v1 := (hag v1 (by omega)).trans ha_v1
  have ha_v2 : ad15 v2 = a_v2 := (hag v2 (by omega)).trans ha_v2
  have ha_v3 : ad15 v3 = a_v3 := (hag v3 (by omega)).trans ha_v3
  refine lv_istore (lv' := [(6, .int x16), (5, .int x8), (1, .ref a_v1), (2, .ref a_v2), (3, .ref a_v3), (4, .int v4), (0, .ref b)]) hx hb d_X_law_565 hl (Nat.le_of_ble_eq_true rfl) rfl (fun ls hl => ?_)
  refine lv_aload_n hx hb d_X_law_567 rfl (lv_at hl 3 rfl) ?_
  obtain ⟨ob21, h⟩ := hy_if h
  obtain ⟨fs_ob21, hf_ob21, hg_ob21⟩ := hy_ob_spec ob21
  obtain ⟨x20, w18, hq_w18, h⟩ := hy_bi_spec h
  refine hy_calli (hy_runV (rest := []) (As := []) (r := v2) (b := a_v2) B S rfl ha_v2 (by rfl) (c_M_thrown hl9 G ad15 hq_w18) (hy_okr (by omega) hy_ok0) tw_732 tw_9 tw_729 tw_730 sl_M_thrown (by decide) rfl (Nat.le_of_ble_eq_true rfl) (Nat.le_of_ble_eq_true rfl) hf_ob21 hg_ob21 rfl hl.1 (Nat.le_of_ble_eq_true rfl) d_X_law_568) (fun ad19 H locs cells slots hag hl_w18 S => ?_)
  have ha_v1 : ad19 v1 = a_v1 := (hag v1 (by omega)).trans ha_v1
  have ha_v2 : ad19 v2 = a_v2 := (hag v2 (by omega)).trans ha_v2
  have ha_v3 : ad19 v3 = a_v3 := (hag v3 (by omega)).trans ha_v3
  refine lv_iload hx hb d_X_law_571 (lv_at hl 1 rfl) ?_
  refine lv_icmp_eq (tgt := 578) hx hb d_X_law_573 (by decide) (fun c22 => ?_) (fun c22 => ?_)
  · rw [if_pos c22] at h
    refine lv_iload hx hb d_X_law_578 (lv_at hl 1 rfl) ?_
    refine lv_if_ne (tgt := 595) hx hb d_X_law_580 (by decide) (fun c23 => ?_) (fun c23 => ?_)
    · rw [if_neg c23] at h
      cases h
      exact hy_jumpL K S (hy_okr (by omega) (hy_okr (by omega) (hy_okr (by omega) (hy_oki hy_ok0)))) (lv_sub hl [2, 3, 4, 5, 6] rfl) (by subst ha_v1 ha_v2 ha_v3; rfl) (by subst ha_v1 ha_v2 ha_v3; rfl)
    · rw [if_pos c23] at h
      refine lv_aload_n hx hb d_X_law_583 rfl (lv_at hl 4 rfl) ?_
      refine lv_iconst (v := 0) hx hb d_X_law_584 (by decide) ?_
      obtain ⟨x24, hx24, h⟩ := hy_bd h
      refine hy_lald B S ha_v3 hx24 d_X_law_585 ?_
      refine lv_iload hx hb d_X_law_586 (lv_at hl 0 rfl) ?_
      refine lv_i2l (v := (x16 : Int32).toInt64) hx hb d_X_law_588 rfl ?_
      refine W.lcmp hx hb d_X_law_589 ?_
      refine lv_if_eq (tgt := 595) hx hb d_X_law_590 (by decide) (fun c25 => ?_) (fun c25 => ?_)
      · rw [if_pos c25] at h
        cases h
        exact hy_jumpL K S (hy_okr (by omega) (hy_okr (by omega) (hy_okr (by omega) (hy_oki hy_ok0)))) (lv_sub hl [2, 3, 4, 5, 6] rfl) (by subst ha_v1 ha_v2 ha_v3; rfl) (by subst ha_v1 ha_v2 ha_v3; rfl)
      · rw [if_neg c25] at h
        refine lv_iconst (v := 0) hx hb d_X_law_593 (by decide) ?_
        cases h
        cases K
        exact absurd ho (hy_ne1 _)
  · rw [if_neg c22] at h
    refine lv_iconst (v := 0) hx hb d_X_law_576 (by decide) ?_
    cases h
    cases K
    exact absurd ho (hy_ne1 _)
set_option maxHeartbeats 4000000 in
set_option maxRecDepth 100000 in
theorem sk_X_law_595 {p : Program} {l : Launch} {e : Env} {s : State} {m : MethodId} {b L : Nat} {xs : Nat → Int32} {below : List Frame} {meth : Method} {c : Code} {G : hy_G} {ad0 : Nat → Nat} {n0 : Nat} {o : hy_O} (hl9 : l.flags = flags0) (ho : o.1 = .inl (some (.int 1))) (hX : va_X b L xs s s.heap) (hbl : b < s.heap.size) (hbA : ¬ (fun q : Nat => s.heap.size ≤ q) b) (hr9 : meth.sig.returnType = ret) (B : hy_B p l e room_1 s m #[Value.ref b] below meth c "HyphenPatternsLaw" code 7 ret [] G (fun q : Nat => s.heap.size ≤ q)) (v1 : Nat) (v2 : Nat) (v3 : Nat) (v4 : Int32) (w : hy_W) (nx : hy_N) (h : sg_X_law_595 L xs v1 v2 v3 v4 w = some nx) (K : hy_NxL lay_X_law b p l e room_1 s m #[Value.ref b] below meth c 7 G (fun q : Nat => s.heap.size ≤ q) ad0 n0 (lw_Z below #[Value.ref b] s) o nx) : hy_AtL lay_X_law b p l e room_1 s m #[Value.ref b] below meth c 7 G (fun q : Nat => s.heap.size ≤ q) ad0 n0 (lw_Z below #[Value.ref b] s) (595, [.ref v1, .ref v2, .ref v3, .int v4], w) := by
  intro ad H locs cells slots ls S hok hl
  have hx := B.1
  have hb := B.2.1
  dsimp only at S hok
  have hl : lv_has ls 7 [(1, .ref (ad v1)), (2, .ref (ad v2)), (3, .ref (ad v3)), (4, .int v4), (0, .ref b)] := hl
  show W p l e room_1 s m #[Value.ref b] below meth c H locs cells slots (lw_Z below #[Value.ref b] s) (F0 m 595 ls [])
  have hv_v1 : v1 < w.1.length := hok (.ref v1) (List.mem_of_getElem? (i := 0) rfl) v1 rfl
  obtain ⟨a_v1, ha_v1⟩ : ∃ a, ad v1 = a := ⟨_, rfl⟩
  rw [ha_v1] at hl
  have hv_v2 : v2 < w.1.length := hok (.ref v2) (List.mem_of_getElem? (i := 1) rfl) v2 rfl
  obtain ⟨a_v2, ha_v2⟩ : ∃ a, ad v2 = a := ⟨_, rfl⟩
  rw [ha_v2] at hl
  have hv_v3 : v3 < w.1.length := hok (.ref v3) (List.mem_of_getElem? (i := 2) rfl) v3 rfl
  obtain ⟨a_v3, ha_v3⟩ : ∃ a, ad v3 = a := ⟨_, rfl⟩
  rw [ha_v3] at hl
  unfold sg_X_law_595 at h
  refine lv_goto (tgt := 808) hx hb d_X_law_595 (by decide) ?_
  cases h
  exact hy_jumpL K S (hy_okr (by omega) (hy_okr (by omega) (hy_okr (by omega) (hy_oki hy_ok0)))) (lv_sub hl [0, 1, 2, 3, 4] rfl) (by subst ha_v1 ha_v2 ha_v3; rfl) (by subst ha_v1 ha_v2 ha_v3; rfl)
set_option maxHeartbeats 4000000 in
set_option maxRecDepth 100000 in
theorem sk_X_law_598 {p : Program} {l : Launch} {e : Env} {s : State} {m : MethodId} {b L : Nat} {xs : Nat → Int32} {below : List Frame} {meth : Method} {c : Code} {G : hy_G} {ad0 : Nat → Nat} {n0 : Nat} {o : hy_O} (hl9 : l.flags = flags0) (ho : o.1 = .inl (some (.int 1))) (hX : va_X b L xs s s.heap) (hbl : b < s.heap.size) (hbA : ¬ (fun q : Nat => s.heap.size ≤ q) b) (hr9 : meth.sig.returnType = ret) (B : hy_B p l e room_1 s m #[Value.ref b] below meth c "HyphenPatternsLaw" code 7 ret [] G (fun q : Nat => s.heap.size ≤ q)) (v1 : Nat) (v2 : Nat) (v3 : Nat) (v4 : Int32) (w : hy_W) (nx : hy_N) (h : sg_X_law_598 L xs v1 v2 v3 v4 w = some nx) (K : hy_NxL lay_X_law b p l e room_1 s m #[Value.ref b] below meth c 7 G (fun q : Nat => s.heap.size ≤ q) ad0 n0 (lw_Z below #[Value.ref b] s) o nx) : hy_AtL lay_X_law b p l e room_1 s m #[Value.ref b] below meth c 7 G (fun q : Nat => s.heap.size ≤ q) ad0 n0 (lw_Z below #[Value.ref b] s) (598, [.ref v1, .ref v2, .ref v3, .int v4], w) := by
  intro ad H locs cells slots ls S hok hl
  have hx := B.1
  have hb := B.2.1
  dsimp only at S hok
  have hl : lv_has ls 7 [(1, .ref (ad v1)), (2, .ref (ad v2)), (3, .ref (ad v3)), (4, .int v4), (0, .ref b)] := hl
  show W p l e room_1 s m #[Value.ref b] below meth c H locs cells slots (lw_Z below #[Value.ref b] s) (F0 m 598 ls [])
  have hv_v1 : v1 < w.1.length := hok (.ref v1) (List.mem_of_getElem? (i := 0) rfl) v1 rfl
  obtain ⟨a_v1, ha_v1⟩ : ∃ a, ad v1 = a := ⟨_, rfl⟩
  rw [ha_v1] at hl
  have hv_v2 : v2 < w.1.length := hok (.ref v2) (List.mem_of_getElem? (i := 1) rfl) v2 rfl
  obtain ⟨a_v2, ha_v2⟩ : ∃ a, ad v2 = a := ⟨_, rfl⟩
  rw [ha_v2] at hl
  have hv_v3 : v3 < w.1.length := hok (.ref v3) (List.mem_of_getElem? (i := 2) rfl) v3 rfl
  obtain ⟨a_v3, ha_v3⟩ : ∃ a, ad v3 = a := ⟨_, rfl⟩
  rw [ha_v3] at hl
  unfold sg_X_law_598 at h
  refine lv_aload_n hx hb d_X_law_598 rfl (lv_at hl 0 rfl) ?_
  obtain ⟨ob4, h⟩ := hy_if h
  obtain ⟨fs_ob4, hf_ob4, hg_ob4⟩ := hy_ob_spec ob4
  obtain ⟨x3, w1, hq_w1, h⟩ := hy_bi_spec h
  refine hy_calli (hy_runV (rest := []) (As := []) (r := v1) (b := a_v1) B S rfl ha_v1 (by rfl) (c_H_clear hl9 G ad hq_w1) (hy_okr (by omega) hy_ok0) tw_205 tw_1 tw_202 tw_203 sl_H_clear (by decide) rfl (Nat.le_of_ble_eq_true rfl) (Nat.le_of_ble_eq_true rfl) hf_ob4 hg_ob4 rfl hl.1 (Nat.le_of_ble_eq_true rfl) d_X_law_599) (fun ad2 H locs cells slots hag hl_w1 S => ?_)
  have ha_v1 : ad2 v1 = a_v1 := (hag v1 (by omega)).trans ha_v1
  have ha_v2 : ad2 v2 = a_v2 := (hag v2 (by omega)).trans ha_v2
  have ha_v3 : ad2 v3 = a_v3 := (hag v3 (by omega)).trans ha_v3
  refine lv_aload_n hx hb d_X_law_602 rfl (lv_at hl 1 rfl) ?_
  obtain ⟨ob8, h⟩ := hy_if h
  obtain ⟨fs_ob8, hf_ob8, hg_ob8⟩ := hy_ob_spec ob8
  obtain ⟨x7, w5, hq_w5, h⟩ := hy_bi_spec h
  refine hy_calli (hy_runV (rest := [.int x3]) (As := []) (r := v2) (b := a_v2) B S rfl ha_v2 (by rfl) (c_M_clear hl9 G ad2 hq_w5) (hy_okr (by omega) hy_ok0) tw_821 tw_9 tw_818 tw_819 sl_M_clear (by decide) rfl (Nat.le_of_ble_eq_true rfl) (Nat.le_of_ble_eq_true rfl) hf_ob8 hg_ob8 rfl hl.1 (Nat.le_of_ble_eq_true rfl) d_X_law_603) (fun ad6 H locs cells slots hag hl_w5 S => ?_)
  have ha_v1 : ad6 v1 = a_v1 := (hag v1 (by omega)).trans ha_v1
  have ha_v2 : ad6 v2 = a_v2 := (hag v2 (by omega)).trans ha_v2
  have ha_v3 : ad6 v3 = a_v3 := (hag v3 (by omega)).trans ha_v3
  refine lv_icmp_eq (tgt := 808) hx hb d_X_law_606 (by decide) (fun c9 => ?_) (fun c9 => ?_)
  · rw [if_pos c9] at h
    cases h
    exact hy_jumpL K S (hy_okr (by omega) (hy_okr (by omega) (hy_okr (by omega) (hy_oki hy_ok0)))) (lv_sub hl [0, 1, 2, 3, 4] rfl) (by subst ha_v1 ha_v2 ha_v3; rfl) (by subst ha_v1 ha_v2 ha_v3; rfl)
  · rw [if_neg c9] at h
    refine lv_iconst (v := 0) hx hb d_X_law_609 (by decide) ?_
    cases h
    cases K
    exact absurd ho (hy_ne1 _)
set_option maxHeartbeats 4000000 in
set_option maxRecDepth 100000 in
theorem sk_X_law_611 {p : Program} {l : Launch} {e : Env} {s : State} {m : MethodId} {b L : Nat} {xs : Nat → Int32} {below : List Frame} {meth : Method} {c : Code} {G : hy_G} {ad0 : Nat → Nat} {n0 : Nat} {o : hy_O} (hl9 : l.flags = flags0) (ho : o.1 = .inl (some (.int 1))) (hX : va_X b L xs s s.heap) (hbl : b < s.heap.size) (hbA : ¬ (fun q : Nat => s.heap.size ≤ q) b) (hr9 : meth.sig.returnType = ret) (B : hy_B p l e room_1 s m #[Value.ref b] below meth c "HyphenPatternsLaw" code 7 ret [] G (fun q : Nat => s.heap.size ≤ q)) (v1 : Nat) (v2 : Nat) (v3 : Nat) (v4 : Int32) (w : hy_W) (nx : hy_N) (h : sg_X_law_611 L xs v1 v2 v3 v4 w = some nx) (K : hy_NxL lay_X_law b p l e room_1 s m #[Value.ref b] below meth c 7 G (fun q : Nat => s.heap.size ≤ q) ad0 n0 (lw_Z below #[Value.ref b] s) o nx) : hy_AtL lay_X_law b p l e room_1 s m #[Value.ref b] below meth c 7 G (fun q : Nat => s.heap.size ≤ q) ad0 n0 (lw_Z below #[Value.ref b] s) (611, [.ref v1, .ref v2, .ref v3, .int v4], w) := by
  intro ad H locs cells slots ls S hok hl
  have hx := B.1
  have hb := B.2.1
  dsimp only at S hok
  have hl : lv_has ls 7 [(1, .ref (ad v1)), (2, .ref (ad v2)), (3, .ref (ad v3)), (4, .int v4), (0, .ref b)] := hl
  show W p l e room_1 s m #[Value.ref b] below meth c H locs cells slots (lw_Z below #[Value.ref b] s) (F0 m 611 ls [])
  have hv_v1 : v1 < w.1.length := hok (.ref v1) (List.mem_of_getElem? (i := 0) rfl) v1 rfl
  obtain ⟨a_v1, ha_v1⟩ : ∃ a, ad v1 = a := ⟨_, rfl⟩
  rw [ha_v1] at hl
  have hv_v2 : v2 < w.1.length := hok (.ref v2) (List.mem_of_getElem? (i := 1) rfl) v2 rfl
  obtain ⟨a_v2, ha_v2⟩ : ∃ a, ad v2 = a := ⟨_, rfl⟩
  rw [ha_v2] at hl
  have hv_v3 : v3 < w.1.length := hok (.ref v3) (List.mem_of_getElem? (i := 2) rfl) v3 rfl
  obtain ⟨a_v3, ha_v3⟩ : ∃ a, ad v3 = a := ⟨_, rfl⟩
  rw [ha_v3] at hl
  unfold sg_X_law_611 at h
  refine lv_aload_n hx hb d_X_law_611 rfl (lv_at hl 0 rfl) ?_
  refine lv_aload_n hx hb d_X_law_612 rfl (lv_at hl 4 rfl) ?_
  refine lv_iload hx hb d_X_law_613 (lv_at hl 3 rfl) ?_
  refine lv_iconst (v := 1) hx hb d_X_law_615 (by decide) ?_
  refine lv_iadd hx hb d_X_law_616 ?_
  obtain ⟨x1, hx1, h⟩ := hy_bd h
  refine hy_sld hx hb hX hbl hbA S hx1 d_X_law_617 ?_
  refine lv_aload_n hx hb d_X_law_618 rfl (lv_at hl 2 rfl) ?_
  obtain ⟨x4, w2, hq_w2, h⟩ := hy_bi_spec h
  refine hy_calli (hy_runSW (rest := []) (As := [.ref a_v1, .int x1, .ref a_v3]) B S (by subst ha_v1 ha_v3; rfl) (c_X_value hl9 G ad hq_w2) (hy_okr (by omega) (hy_oki (hy_okr (by omega) hy_ok0))) tw_621 tw_0 tw_619 tw_620 (by decide) rfl (Nat.le_of_ble_eq_true rfl) (Nat.le_of_ble_eq_true rfl) hl.1 (Nat.le_of_ble_eq_true rfl) d_X_law_619) (fun ad3 H locs cells slots hag hl_w2 S => ?_)
  have ha_v1 : ad3 v1 = a_v1 := (hag v1 (by omega)).trans ha_v1
  have ha_v2 : ad3 v2 = a_v2 := (hag v2 (by omega)).trans ha_v2
  have ha_v3 : ad3 v3 = a_v3 := (hag v3 (by omega)).trans ha_v3
  refine lv_istore (lv' := [(5, .int x4), (1, .ref a_v1), (2, .ref a_v2), (3, .ref a_v3), (4, .int v4), (0, .ref b)]) hx hb d_X_law_622 hl (Nat.le_of_ble_eq_true rfl) rfl (fun ls hl => ?_)
  refine lv_aload_n hx hb d_X_law_624 rfl (lv_at hl 2 rfl) ?_
  refine lv_aload_n hx hb d_X_law_625 rfl (lv_at hl 5 rfl) ?_
  refine lv_iload hx hb d_X_law_626 (lv_at hl 4 rfl) ?_
  refine lv_iconst (v := 1) hx hb d_X_law_628 (by decide) ?_
  refine lv_iadd hx hb d_X_law_629 ?_
  obtain ⟨x5, hx5, h⟩ := hy_bd h
  refine hy_sld hx hb hX hbl hbA S hx5 d_X_law_630 ?_
  obtain ⟨ob9, h⟩ := hy_if h
  obtain ⟨fs_ob9, hf_ob9, hg_ob9⟩ := hy_ob_spec ob9
  obtain ⟨x8, w6, hq_w6, h⟩ := hy_bi_spec h
  refine hy_calli (hy_runV (rest := []) (As := [.int x5]) (r := v2) (b := a_v2) B S rfl ha_v2 (by rfl) (c_M_value hl9 G ad3 hq_w6) (hy_okr (by omega) (hy_oki hy_ok0)) tw_825 tw_9 tw_822 tw_823 sl_M_value (by decide) rfl (Nat.le_of_ble_eq_true rfl) (Nat.le_of_ble_eq_true rfl) hf_ob9 hg_ob9 rfl hl.1 (Nat.le_of_ble_eq_true rfl) d_X_law_631) (fun ad7 H locs cells slots hag hl_w6 S => ?_)
  have ha_v1 : ad7 v1 = a_v1 := (hag v1 (by omega)).trans ha_v1
  have ha_v2 : ad7 v2 = a_v2 := (hag v2 (by omega)).trans ha_v2
  have ha_v3 : ad7 v3 = a_v3 := (hag v3 (by omega)).trans ha_v3
  refine lv_istore (lv' := [(6, .int x8), (5, .int x4), (1, .ref a_v1), (2, .ref a_v2), (3, .ref a_v3), (4, .int v4), (0, .ref b)]) hx hb d_X_law_634 hl (Nat.le_of_ble_eq_true rfl) rfl (fun ls hl => ?_)
  refine lv_aload_n hx hb d_X_law_636 rfl (lv_at hl 3 rfl) ?_
  obtain ⟨ob13, h⟩ := hy_if h
  obtain ⟨fs_ob13, hf_ob13, hg_ob13⟩ := hy_ob_spec ob13
  obtain ⟨x12, w10, hq_w10, h⟩ := hy_bi_spec h
  refine hy_calli (hy_runV (rest := []) (As := []) (r := v2) (b := a_v2) B S rfl ha_v2 (by rfl) (c_M_thrown hl9 G ad7 hq_w10) (hy_okr (by omega) hy_ok0) tw_732 tw_9 tw_729 tw_730 sl_M_thrown (by decide) rfl (Nat.le_of_ble_eq_true rfl) (Nat.le_of_ble_eq_true rfl) hf_ob13 hg_ob13 rfl hl.1 (Nat.le_of_ble_eq_true rfl) d_X_law_637) (fun ad11 H locs cells slots hag hl_w10 S => ?_)
  have ha_v1 : ad11 v1 = a_v1 := (hag v1 (by omega)).trans ha_v1
  have ha_v2 : ad11 v2 = a_v2 := (hag v2 (by omega)).trans ha_v2
  have ha_v3 : ad11 v3 = a_v3 := (hag v3 (by omega)).trans ha_v3
  refine lv_iload hx hb d_X_law_640 (lv_at hl 1 rfl) ?_
  refine lv_icmp_eq (tgt := 647) hx hb d_X_law_642 (by decide) (fun c14 => ?_) (fun c14 => ?_)
  · rw [if_pos c14] at h
    refine lv_iload hx hb d_X_law_647 (lv_at hl 1 rfl) ?_
    refine lv_if_ne (tgt := 664) hx hb d_X_law_649 (by decide) (fun c15 => ?_) (fun c15 => ?_)
    · rw [if_neg c15] at h
      cases h
      exact hy_jumpL K S (hy_okr (by omega) (hy_okr (by omega) (hy_okr (by omega) (hy_oki hy_ok0)))) (lv_sub hl [2, 3, 4, 5, 6] rfl) (by subst ha_v1 ha_v2 ha_v3; rfl) (by subst ha_v1 ha_v2 ha_v3; rfl)
    · rw [if_pos c15] at h
      refine lv_aload_n hx hb d_X_law_652 rfl (lv_at hl 4 rfl) ?_
      refine lv_iconst (v := 0) hx hb d_X_law_653 (by decide) ?_
      obtain ⟨x16, hx16, h⟩ := hy_bd h
      refine hy_lald B S ha_v3 hx16 d_X_law_654 ?_
      refine lv_iload hx hb d_X_law_655 (lv_at hl 0 rfl) ?_
      refine lv_i2l (v := (x8 : Int32).toInt64) hx hb d_X_law_657 rfl ?_
      refine W.lcmp hx hb d_X_law_658 ?_
      refine lv_if_eq (tgt := 664) hx hb d_X_law_659 (by decide) (fun c17 => ?_) (fun c17 => ?_)
      · rw [if_pos c17] at h
        cases h
        exact hy_jumpL K S (hy_okr (by omega) (hy_okr (by omega) (hy_okr (by omega) (hy_oki hy_ok0)))) (lv_sub hl [2, 3, 4, 5, 6] rfl) (by subst ha_v1 ha_v2 ha_v3; rfl) (by subst ha_v1 ha_v2 ha_v3; rfl)
      · rw [if_neg c17] at h
        refine lv_iconst (v := 0) hx hb d_X_law_662 (by decide) ?_
        cases h
        cases K
        exact absurd ho (hy_ne1 _)
  · rw [if_neg c14] at h
    refine lv_iconst (v := 0) hx hb d_X_law_645 (by decide) ?_
    cases h
    cases K
    exact absurd ho (hy_ne1 _)
set_option maxHeartbeats 4000000 in
set_option maxRecDepth 100000 in
theorem sk_X_law_664 {p : Program} {l : Launch} {e : Env} {s : State} {m : MethodId} {b L : Nat} {xs : Nat → Int32} {below : List Frame} {meth : Method} {c : Code} {G : hy_G} {ad0 : Nat → Nat} {n0 : Nat} {o : hy_O} (hl9 : l.flags = flags0) (ho : o.1 = .inl (some (.int 1))) (hX : va_X b L xs s s.heap) (hbl : b < s.heap.size) (hbA : ¬ (fun q : Nat => s.heap.size ≤ q) b) (hr9 : meth.sig.returnType = ret) (B : hy_B p l e room_1 s m #[Value.ref b] below meth c "HyphenPatternsLaw" code 7 ret [] G (fun q : Nat => s.heap.size ≤ q)) (v1 : Nat) (v2 : Nat) (v3 : Nat) (v4 : Int32) (w : hy_W) (nx : hy_N) (h : sg_X_law_664 L xs v1 v2 v3 v4 w = some nx) (K : hy_NxL lay_X_law b p l e room_1 s m #[Value.ref b] below meth c 7 G (fun q : Nat => s.heap.size ≤ q) ad0 n0 (lw_Z below #[Value.ref b] s) o nx) : hy_AtL lay_X_law b p l e room_1 s m #[Value.ref b] below meth c 7 G (fun q : Nat => s.heap.size ≤ q) ad0 n0 (lw_Z below #[Value.ref b] s) (664, [.ref v1, .ref v2, .ref v3, .int v4], w) := by
  intro ad H locs cells slots ls S hok hl
  have hx := B.1
  have hb := B.2.1
  dsimp only at S hok
  have hl : lv_has ls 7 [(1, .ref (ad v1)), (2, .ref (ad v2)), (3, .ref (ad v3)), (4, .int v4), (0, .ref b)] := hl
  show W p l e room_1 s m #[Value.ref b] below meth c H locs cells slots (lw_Z below #[Value.ref b] s) (F0 m 664 ls [])
  have hv_v1 : v1 < w.1.length := hok (.ref v1) (List.mem_of_getElem? (i := 0) rfl) v1 rfl
  obtain ⟨a_v1, ha_v1⟩ : ∃ a, ad v1 = a := ⟨_, rfl⟩
  rw [ha_v1] at hl
  have hv_v2 : v2 < w.1.length := hok (.ref v2) (List.mem_of_getElem? (i := 1) rfl) v2 rfl
  obtain ⟨a_v2, ha_v2⟩ : ∃ a, ad v2 = a := ⟨_, rfl⟩
  rw [ha_v2] at hl
  have hv_v3 : v3 < w.1.length := hok (.ref v3) (List.mem_of_getElem? (i := 2) rfl) v3 rfl
  obtain ⟨a_v3, ha_v3⟩ : ∃ a, ad v3 = a := ⟨_, rfl⟩
  rw [ha_v3] at hl
  unfold sg_X_law_664 at h
  refine lv_goto (tgt := 808) hx hb d_X_law_664 (by decide) ?_
  cases h
  exact hy_jumpL K S (hy_okr (by omega) (hy_okr (by omega) (hy_okr (by omega) (hy_oki hy_ok0)))) (lv_sub hl [0, 1, 2, 3, 4] rfl) (by subst ha_v1 ha_v2 ha_v3; rfl) (by subst ha_v1 ha_v2 ha_v3; rfl)
set_option maxHeartbeats 4000000 in
set_option maxRecDepth 100000 in
theorem sk_X_law_667 {p : Program} {l : Launch} {e : Env} {s : State} {m : MethodId} {b L : Nat} {xs : Nat → Int32} {below : List Frame} {meth : Method} {c : Code} {G : hy_G} {ad0 : Nat → Nat} {n0 : Nat} {o : hy_O} (hl9 : l.flags = flags0) (ho : o.1 = .inl (some (.int 1))) (hX : va_X b L xs s s.heap) (hbl : b < s.heap.size) (hbA : ¬ (fun q : Nat => s.heap.size ≤ q) b) (hr9 : meth.sig.returnType = ret) (B : hy_B p l e room_1 s m #[Value.ref b] below meth c "HyphenPatternsLaw" code 7 ret [] G (fun q : Nat => s.heap.size ≤ q)) (v1 : Nat) (v2 : Nat) (v3 : Nat) (v4 : Int32) (w : hy_W) (nx : hy_N) (h : sg_X_law_667 L xs v1 v2 v3 v4 w = some nx) (K : hy_NxL lay_X_law b p l e room_1 s m #[Value.ref b] below meth c 7 G (fun q : Nat => s.heap.size ≤ q) ad0 n0 (lw_Z below #[Value.ref b] s) o nx) : hy_AtL lay_X_law b p l e room_1 s m #[Value.ref b] below meth c 7 G (fun q : Nat => s.heap.size ≤ q) ad0 n0 (lw_Z below #[Value.ref b] s) (667, [.ref v1, .ref v2, .ref v3, .int v4], w) := by
  intro ad H locs cells slots ls S hok hl
  have hx := B.1
  have hb := B.2.1
  dsimp only at S hok
  have hl : lv_has ls 7 [(1, .ref (ad v1)), (2, .ref (ad v2)), (3, .ref (ad v3)), (4, .int v4), (0, .ref b)] := hl
  show W p l e room_1 s m #[Value.ref b] below meth c H locs cells slots (lw_Z below #[Value.ref b] s) (F0 m 667 ls [])
  have hv_v1 : v1 < w.1.length := hok (.ref v1) (List.mem_of_getElem? (i := 0) rfl) v1 rfl
  obtain ⟨a_v1, ha_v1⟩ : ∃ a, ad v1 = a := ⟨_, rfl⟩
  rw [ha_v1] at hl
  have hv_v2 : v2 < w.1.length := hok (.ref v2) (List.mem_of_getElem? (i := 1) rfl) v2 rfl
  obtain ⟨a_v2, ha_v2⟩ : ∃ a, ad v2 = a := ⟨_, rfl⟩
  rw [ha_v2] at hl
  have hv_v3 : v3 < w.1.length := hok (.ref v3) (List.mem_of_getElem? (i := 2) rfl) v3 rfl
  obtain ⟨a_v3, ha_v3⟩ : ∃ a, ad v3 = a := ⟨_, rfl⟩
  rw [ha_v3] at hl
  unfold sg_X_law_667 at h
  refine lv_aload_n hx hb d_X_law_667 rfl (lv_at hl 0 rfl) ?_
  refine lv_aload_n hx hb d_X_law_668 rfl (lv_at hl 4 rfl) ?_
  refine lv_iload hx hb d_X_law_669 (lv_at hl 3 rfl) ?_
  refine lv_iconst (v := 1) hx hb d_X_law_671 (by decide) ?_
  refine lv_iadd hx hb d_X_law_672 ?_
  obtain ⟨x1, hx1, h⟩ := hy_bd h
  refine hy_sld hx hb hX hbl hbA S hx1 d_X_law_673 ?_
  refine lv_aload_n hx hb d_X_law_674 rfl (lv_at hl 2 rfl) ?_
  obtain ⟨x4, w2, hq_w2, h⟩ := hy_bi_spec h
  refine hy_calli (hy_runSW (rest := []) (As := [.ref a_v1, .int x1, .ref a_v3]) B S (by subst ha_v1 ha_v3; rfl) (c_X_breaks hl9 G ad hq_w2) (hy_okr (by omega) (hy_oki (hy_okr (by omega) hy_ok0))) tw_638 tw_0 tw_636 tw_637 (by decide) rfl (Nat.le_of_ble_eq_true rfl) (Nat.le_of_ble_eq_true rfl) hl.1 (Nat.le_of_ble_eq_true rfl) d_X_law_675) (fun ad3 H locs cells slots hag hl_w2 S => ?_)
  have ha_v1 : ad3 v1 = a_v1 := (hag v1 (by omega)).trans ha_v1
  have ha_v2 : ad3 v2 = a_v2 := (hag v2 (by omega)).trans ha_v2
  have ha_v3 : ad3 v3 = a_v3 := (hag v3 (by omega)).trans ha_v3
  refine lv_istore (lv' := [(5, .int x4), (1, .ref a_v1), (2, .ref a_v2), (3, .ref a_v3), (4, .int v4), (0, .ref b)]) hx hb d_X_law_678 hl (Nat.le_of_ble_eq_true rfl) rfl (fun ls hl => ?_)
  refine lv_aload_n hx hb d_X_law_680 rfl (lv_at hl 2 rfl) ?_
  refine lv_aload_n hx hb d_X_law_681 rfl (lv_at hl 5 rfl) ?_
  refine lv_iload hx hb d_X_law_682 (lv_at hl 4 rfl) ?_
  refine lv_iconst (v := 1) hx hb d_X_law_684 (by decide) ?_
  refine lv_iadd hx hb d_X_law_685 ?_
  obtain ⟨x5, hx5, h⟩ := hy_bd h
  refine hy_sld hx hb hX hbl hbA S hx5 d_X_law_686 ?_
  obtain ⟨ob9, h⟩ := hy_if h
  obtain ⟨fs_ob9, hf_ob9, hg_ob9⟩ := hy_ob_spec ob9
  obtain ⟨x8, w6, hq_w6, h⟩ := hy_bi_spec h
  refine hy_calli (hy_runV (rest := []) (As := [.int x5]) (r := v2) (b := a_v2) B S rfl ha_v2 (by rfl) (c_M_breaks hl9 G ad3 hq_w6) (hy_okr (by omega) (hy_oki hy_ok0)) tw_873 tw_9 tw_870 tw_871 sl_M_breaks (by decide) rfl (Nat.le_of_ble_eq_true rfl) (Nat.le_of_ble_eq_true rfl) hf_ob9 hg_ob9 rfl hl.1 (Nat.le_of_ble_eq_true rfl) d_X_law_687) (fun ad7 H locs cells slots hag hl_w6 S => ?_)
  have ha_v1 : ad7 v1 = a_v1 := (hag v1 (by omega)).trans ha_v1
  have ha_v2 : ad7 v2 = a_v2 := (hag v2 (by omega)).trans ha_v2
  have ha_v3 : ad7 v3 = a_v3 := (hag v3 (by omega)).trans ha_v3
  refine lv_istore (lv' := [(6, .int x8), (5, .int x4), (1, .ref a_v1), (2, .ref a_v2), (3, .ref a_v3), (4, .int v4), (0, .ref b)]) hx hb d_X_law_690 hl (Nat.le_of_ble_eq_true rfl) rfl (fun ls hl => ?_)
  refine lv_aload_n hx hb d_X_law_692 rfl (lv_at hl 3 rfl) ?_
  obtain ⟨ob13, h⟩ := hy_if h
  obtain ⟨fs_ob13, hf_ob13, hg_ob13⟩ := hy_ob_spec ob13
  obtain ⟨x12, w10, hq_w10, h⟩ := hy_bi_spec h
  refine hy_calli (hy_runV (rest := []) (As := []) (r := v2) (b := a_v2) B S rfl ha_v2 (by rfl) (c_M_thrown hl9 G ad7 hq_w10) (hy_okr (by omega) hy_ok0) tw_732 tw_9 tw_729 tw_730 sl_M_thrown (by decide) rfl (Nat.le_of_ble_eq_true rfl) (Nat.le_of_ble_eq_true rfl) hf_ob13 hg_ob13 rfl hl.1 (Nat.le_of_ble_eq_true rfl) d_X_law_693) (fun ad11 H locs cells slots hag hl_w10 S => ?_)
  have ha_v1 : ad11 v1 = a_v1 := (hag v1 (by omega)).trans ha_v1
  have ha_v2 : ad11 v2 = a_v2 := (hag v2 (by omega)).trans ha_v2
  have ha_v3 : ad11 v3 = a_v3 := (hag v3 (by omega)).trans ha_v3
  refine lv_iload hx hb d_X_law_696 (lv_at hl 1 rfl) ?_
  refine lv_icmp_eq (tgt := 703) hx hb d_X_law_698 (by decide) (fun c14 => ?_) (fun c14 => ?_)
  · rw [if_pos c14] at h
    refine lv_iload hx hb d_X_law_703 (lv_at hl 1 rfl) ?_
    refine lv_if_ne (tgt := 727) hx hb d_X_law_705 (by decide) (fun c15 => ?_) (fun c15 => ?_)
    · rw [if_neg c15] at h
      cases h
      exact hy_jumpL K S (hy_okr (by omega) (hy_okr (by omega) (hy_okr (by omega) (hy_oki hy_ok0)))) (lv_sub hl [2, 3, 4, 5, 6] rfl) (by subst ha_v1 ha_v2 ha_v3; rfl) (by subst ha_v1 ha_v2 ha_v3; rfl)
    · rw [if_pos c15] at h
      refine lv_aload_n hx hb d_X_law_708 rfl (lv_at hl 4 rfl) ?_
      refine lv_iconst (v := 0) hx hb d_X_law_709 (by decide) ?_
      obtain ⟨x16, hx16, h⟩ := hy_bd h
      refine hy_lald B S ha_v3 hx16 d_X_law_710 ?_
      refine lv_iload hx hb d_X_law_711 (lv_at hl 0 rfl) ?_
      refine lv_if_eq (tgt := 720) hx hb d_X_law_713 (by decide) (fun c17 => ?_) (fun c17 => ?_)
      · rw [if_pos c17] at h
        refine lv_lconst (v := 0) hx hb d_X_law_720 (by decide) ?_
        cases h
        exact hy_jumpL K S (hy_okr (by omega) (hy_okr (by omega) (hy_okr (by omega) (hy_oki (hy_okl (hy_okl hy_ok0)))))) (lv_sub hl [2, 3, 4, 5, 6] rfl) (by subst ha_v1 ha_v2 ha_v3; rfl) (by subst ha_v1 ha_v2 ha_v3; rfl)
      · rw [if_neg c17] at h
        refine lv_lconst (v := 1) hx hb d_X_law_716 (by decide) ?_
        refine lv_goto (tgt := 721) hx hb d_X_law_717 (by decide) ?_
        cases h
        exact hy_jumpL K S (hy_okr (by omega) (hy_okr (by omega) (hy_okr (by omega) (hy_oki (hy_okl (hy_okl hy_ok0)))))) (lv_sub hl [2, 3, 4, 5, 6] rfl) (by subst ha_v1 ha_v2 ha_v3; rfl) (by subst ha_v1 ha_v2 ha_v3; rfl)
  · rw [if_neg c14] at h
    refine lv_iconst (v := 0) hx hb d_X_law_701 (by decide) ?_
    cases h
    cases K
    exact absurd ho (hy_ne1 _)
set_option maxHeartbeats 4000000 in
set_option maxRecDepth 100000 in
theorem sk_X_law_721 {p : Program} {l : Launch} {e : Env} {s : State} {m : MethodId} {b L : Nat} {xs : Nat → Int32} {below : List Frame} {meth : Method} {c : Code} {G : hy_G} {ad0 : Nat → Nat} {n0 : Nat} {o : hy_O} (hl9 : l.flags = flags0) (ho : o.1 = .inl (some (.int 1))) (hX : va_X b L xs s s.heap) (hbl : b < s.heap.size) (hbA : ¬ (fun q : Nat => s.heap.size ≤ q) b) (hr9 : meth.sig.returnType = ret) (B : hy_B p l e room_1 s m #[Value.ref b] below meth c "HyphenPatternsLaw" code 7 ret [] G (fun q : Nat => s.heap.size ≤ q)) (v1 : Nat) (v2 : Nat) (v3 : Nat) (v4 : Int32) (s0 : Int64) (s1 : Int64) (w : hy_W) (nx : hy_N) (h : sg_X_law_721 L xs v1 v2 v3 v4 s0 s1 w = some nx) (K : hy_NxL lay_X_law b p l e room_1 s m #[Value.ref b] below meth c 7 G (fun q : Nat => s.heap.size ≤ q) ad0 n0 (lw_Z below #[Value.ref b] s) o nx) : hy_AtL lay_X_law b p l e room_1 s m #[Value.ref b] below meth c 7 G (fun q : Nat => s.heap.size ≤ q) ad0 n0 (lw_Z below #[Value.ref b] s) (721, [.ref v1, .ref v2, .ref v3, .int v4, .long s0, .long s1], w) := by
  intro ad H locs cells slots ls S hok hl
  have hx := B.1
  have hb := B.2.1
  dsimp only at S hok
  have hl : lv_has ls 7 [(1, .ref (ad v1)), (2, .ref (ad v2)), (3, .ref (ad v3)), (4, .int v4), (0, .ref b)] := hl
  show W p l e room_1 s m #[Value.ref b] below meth c H locs cells slots (lw_Z below #[Value.ref b] s) (F0 m 721 ls [.long s0, .long s1])
  have hv_v1 : v1 < w.1.length := hok (.ref v1) (List.mem_of_getElem? (i := 0) rfl) v1 rfl
  obtain ⟨a_v1, ha_v1⟩ : ∃ a, ad v1 = a := ⟨_, rfl⟩
  rw [ha_v1] at hl
  have hv_v2 : v2 < w.1.length := hok (.ref v2) (List.mem_of_getElem? (i := 1) rfl) v2 rfl
  obtain ⟨a_v2, ha_v2⟩ : ∃ a, ad v2 = a := ⟨_, rfl⟩
  rw [ha_v2] at hl
  have hv_v3 : v3 < w.1.length := hok (.ref v3) (List.mem_of_getElem? (i := 2) rfl) v3 rfl
  obtain ⟨a_v3, ha_v3⟩ : ∃ a, ad v3 = a := ⟨_, rfl⟩
  rw [ha_v3] at hl
  unfold sg_X_law_721 at h
  refine W.lcmp hx hb d_X_law_721 ?_
  refine lv_if_eq (tgt := 727) hx hb d_X_law_722 (by decide) (fun c1 => ?_) (fun c1 => ?_)
  · rw [if_pos c1] at h
    cases h
    exact hy_jumpL K S (hy_okr (by omega) (hy_okr (by omega) (hy_okr (by omega) (hy_oki hy_ok0)))) (lv_sub hl [0, 1, 2, 3, 4] rfl) (by subst ha_v1 ha_v2 ha_v3; rfl) (by subst ha_v1 ha_v2 ha_v3; rfl)
  · rw [if_neg c1] at h
    refine lv_iconst (v := 0) hx hb d_X_law_725 (by decide) ?_
    cases h
    cases K
    exact absurd ho (hy_ne1 _)
set_option maxHeartbeats 4000000 in
set_option maxRecDepth 100000 in
theorem sk_X_law_727 {p : Program} {l : Launch} {e : Env} {s : State} {m : MethodId} {b L : Nat} {xs : Nat → Int32} {below : List Frame} {meth : Method} {c : Code} {G : hy_G} {ad0 : Nat → Nat} {n0 : Nat} {o : hy_O} (hl9 : l.flags = flags0) (ho : o.1 = .inl (some (.int 1))) (hX : va_X b L xs s s.heap) (hbl : b < s.heap.size) (hbA : ¬ (fun q : Nat => s.heap.size ≤ q) b) (hr9 : meth.sig.returnType = ret) (B : hy_B p l e room_1 s m #[Value.ref b] below meth c "HyphenPatternsLaw" code 7 ret [] G (fun q : Nat => s.heap.size ≤ q)) (v1 : Nat) (v2 : Nat) (v3 : Nat) (v4 : Int32) (w : hy_W) (nx : hy_N) (h : sg_X_law_727 L xs v1 v2 v3 v4 w = some nx) (K : hy_NxL lay_X_law b p l e room_1 s m #[Value.ref b] below meth c 7 G (fun q : Nat => s.heap.size ≤ q) ad0 n0 (lw_Z below #[Value.ref b] s) o nx) : hy_AtL lay_X_law b p l e room_1 s m #[Value.ref b] below meth c 7 G (fun q : Nat => s.heap.size ≤ q) ad0 n0 (lw_Z below #[Value.ref b] s) (727, [.ref v1, .ref v2, .ref v3, .int v4], w) := by
  intro ad H locs cells slots ls S hok hl
  have hx := B.1
  have hb := B.2.1
  dsimp only at S hok
  have hl : lv_has ls 7 [(1, .ref (ad v1)), (2, .ref (ad v2)), (3, .ref (ad v3)), (4, .int v4), (0, .ref b)] := hl
  show W p l e room_1 s m #[Value.ref b] below meth c H locs cells slots (lw_Z below #[Value.ref b] s) (F0 m 727 ls [])
  have hv_v1 : v1 < w.1.length := hok (.ref v1) (List.mem_of_getElem? (i := 0) rfl) v1 rfl
  obtain ⟨a_v1, ha_v1⟩ : ∃ a, ad v1 = a := ⟨_, rfl⟩
  rw [ha_v1] at hl
  have hv_v2 : v2 < w.1.length := hok (.ref v2) (List.mem_of_getElem? (i := 1) rfl) v2 rfl
  obtain ⟨a_v2, ha_v2⟩ : ∃ a, ad v2 = a := ⟨_, rfl⟩
  rw [ha_v2] at hl
  have hv_v3 : v3 < w.1.length := hok (.ref v3) (List.mem_of_getElem? (i := 2) rfl) v3 rfl
  obtain ⟨a_v3, ha_v3⟩ : ∃ a, ad v3 = a := ⟨_, rfl⟩
  rw [ha_v3] at hl
  unfold sg_X_law_727 at h
  refine lv_goto (tgt := 808) hx hb d_X_law_727 (by decide) ?_
  cases h
  exact hy_jumpL K S (hy_okr (by omega) (hy_okr (by omega) (hy_okr (by omega) (hy_oki hy_ok0)))) (lv_sub hl [0, 1, 2, 3, 4] rfl) (by subst ha_v1 ha_v2 ha_v3; rfl) (by subst ha_v1 ha_v2 ha_v3; rfl)
set_option maxHeartbeats 4000000 in
set_option maxRecDepth 100000 in
theorem sk_X_law_730 {p : Program} {l : Launch} {e : Env} {s : State} {m : MethodId} {b L : Nat} {xs : Nat → Int32} {below : List Frame} {meth : Method} {c : Code} {G : hy_G} {ad0 : Nat → Nat} {n0 : Nat} {o : hy_O} (hl9 : l.flags = flags0) (ho : o.1 = .inl (some (.int 1))) (hX : va_X b L xs s s.heap) (hbl : b < s.heap.size) (hbA : ¬ (fun q : Nat => s.heap.size ≤ q) b) (hr9 : meth.sig.returnType = ret) (B : hy_B p l e room_1 s m #[Value.ref b] below meth c "HyphenPatternsLaw" code 7 ret [] G (fun q : Nat => s.heap.size ≤ q)) (v1 : Nat) (v2 : Nat) (v3 : Nat) (v4 : Int32) (w : hy_W) (nx : hy_N) (h : sg_X_law_730 L xs v1 v2 v3 v4 w = some nx) (K : hy_NxL lay_X_law b p l e room_1 s m #[Value.ref b] below meth c 7 G (fun q : Nat => s.heap.size ≤ q) ad0 n0 (lw_Z below #[Value.ref b] s) o nx) : hy_AtL lay_X_law b p l e room_1 s m #[Value.ref b] below meth c 7 G (fun q : Nat => s.heap.size ≤ q) ad0 n0 (lw_Z below #[Value.ref b] s) (730, [.ref v1, .ref v2, .ref v3, .int v4], w) := by
  intro ad H locs cells slots ls S hok hl
  have hx := B.1
  have hb := B.2.1
  dsimp only at S hok
  have hl : lv_has ls 7 [(1, .ref (ad v1)), (2, .ref (ad v2)), (3, .ref (ad v3)), (4, .int v4), (0, .ref b)] := hl
  show W p l e room_1 s m #[Value.ref b] below meth c H locs cells slots (lw_Z below #[Value.ref b] s) (F0 m 730 ls [])
  have hv_v1 : v1 < w.1.length := hok (.ref v1) (List.mem_of_getElem? (i := 0) rfl) v1 rfl
  obtain ⟨a_v1, ha_v1⟩ : ∃ a, ad v1 = a := ⟨_, rfl⟩
  rw [ha_v1] at hl
  have hv_v2 : v2 < w.1.length := hok (.ref v2) (List.mem_of_getElem? (i := 1) rfl) v2 rfl
  obtain ⟨a_v2, ha_v2⟩ : ∃ a, ad v2 = a := ⟨_, rfl⟩
  rw [ha_v2] at hl
  have hv_v3 : v3 < w.1.length := hok (.ref v3) (List.mem_of_getElem? (i := 2) rfl) v3 rfl
  obtain ⟨a_v3, ha_v3⟩ : ∃ a, ad v3 = a := ⟨_, rfl⟩
  rw [ha_v3] at hl
  unfold sg_X_law_730 at h
  refine lv_aload_n hx hb d_X_law_730 rfl (lv_at hl 0 rfl) ?_
  refine lv_aload_n hx hb d_X_law_731 rfl (lv_at hl 4 rfl) ?_
  refine lv_iload hx hb d_X_law_732 (lv_at hl 3 rfl) ?_
  refine lv_iconst (v := 1) hx hb d_X_law_734 (by decide) ?_
  refine lv_iadd hx hb d_X_law_735 ?_
  obtain ⟨x1, hx1, h⟩ := hy_bd h
  refine hy_sld hx hb hX hbl hbA S hx1 d_X_law_736 ?_
  refine lv_aload_n hx hb d_X_law_737 rfl (lv_at hl 4 rfl) ?_
  refine lv_iload hx hb d_X_law_738 (lv_at hl 3 rfl) ?_
  refine lv_iconst (v := 2) hx hb d_X_law_740 (by decide) ?_
  refine lv_iadd hx hb d_X_law_741 ?_
  obtain ⟨x2, hx2, h⟩ := hy_bd h
  refine hy_sld hx hb hX hbl hbA S hx2 d_X_law_742 ?_
  refine lv_if_eq (tgt := 750) hx hb d_X_law_743 (by decide) (fun c3 => ?_) (fun c3 => ?_)
  · rw [if_pos c3] at h
    refine lv_iconst (v := 0) hx hb d_X_law_750 (by decide) ?_
    cases h
    exact hy_jumpL K S (hy_okr (by omega) (hy_okr (by omega) (hy_okr (by omega) (hy_oki (hy_oki (hy_oki (hy_okr (by omega) hy_ok0))))))) (lv_sub hl [0, 1, 2, 3, 4] rfl) (by subst ha_v1 ha_v2 ha_v3; rfl) (by subst ha_v1 ha_v2 ha_v3; rfl)
  · rw [if_neg c3] at h
    refine lv_iconst (v := 1) hx hb d_X_law_746 (by decide) ?_
    refine lv_goto (tgt := 751) hx hb d_X_law_747 (by decide) ?_
    cases h
    exact hy_jumpL K S (hy_okr (by omega) (hy_okr (by omega) (hy_okr (by omega) (hy_oki (hy_oki (hy_oki (hy_okr (by omega) hy_ok0))))))) (lv_sub hl [0, 1, 2, 3, 4] rfl) (by subst ha_v1 ha_v2 ha_v3; rfl) (by subst ha_v1 ha_v2 ha_v3; rfl)
set_option maxHeartbeats 4000000 in
set_option maxRecDepth 100000 in
theorem sk_X_law_751 {p : Program} {l : Launch} {e : Env} {s : State} {m : MethodId} {b L : Nat} {xs : Nat → Int32} {below : List Frame} {meth : Method} {c : Code} {G : hy_G} {ad0 : Nat → Nat} {n0 : Nat} {o : hy_O} (hl9 : l.flags = flags0) (ho : o.1 = .inl (some (.int 1))) (hX : va_X b L xs s s.heap) (hbl : b < s.heap.size) (hbA : ¬ (fun q : Nat => s.heap.size ≤ q) b) (hr9 : meth.sig.returnType = ret) (B : hy_B p l e room_1 s m #[Value.ref b] below meth c "HyphenPatternsLaw" code 7 ret [] G (fun q : Nat => s.heap.size ≤ q)) (v1 : Nat) (v2 : Nat) (v3 : Nat) (v4 : Int32) (s0 : Int32) (s1 : Int32) (s2 : Nat) (w : hy_W) (nx : hy_N) (h : sg_X_law_751 L xs v1 v2 v3 v4 s0 s1 s2 w = some nx) (K : hy_NxL lay_X_law b p l e room_1 s m #[Value.ref b] below meth c 7 G (fun q : Nat => s.heap.size ≤ q) ad0 n0 (lw_Z below #[Value.ref b] s) o nx) : hy_AtL lay_X_law b p l e room_1 s m #[Value.ref b] below meth c 7 G (fun q : Nat => s.heap.size ≤ q) ad0 n0 (lw_Z below #[Value.ref b] s) (751, [.ref v1, .ref v2, .ref v3, .int v4, .int s0, .int s1, .ref s2], w) := by
  intro ad H locs cells slots ls S hok hl
  have hx := B.1
  have hb := B.2.1
  dsimp only at S hok
  have hl : lv_has ls 7 [(1, .ref (ad v1)), (2, .ref (ad v2)), (3, .ref (ad v3)), (4, .int v4), (0, .ref b)] := hl
  show W p l e room_1 s m #[Value.ref b] below meth c H locs cells slots (lw_Z below #[Value.ref b] s) (F0 m 751 ls [.int s0, .int s1, .ref (ad s2)])
  have hv_v1 : v1 < w.1.length := hok (.ref v1) (List.mem_of_getElem? (i := 0) rfl) v1 rfl
  obtain ⟨a_v1, ha_v1⟩ : ∃ a, ad v1 = a := ⟨_, rfl⟩
  rw [ha_v1] at hl
  have hv_v2 : v2 < w.1.length := hok (.ref v2) (List.mem_of_getElem? (i := 1) rfl) v2 rfl
  obtain ⟨a_v2, ha_v2⟩ : ∃ a, ad v2 = a := ⟨_, rfl⟩
  rw [ha_v2] at hl
  have hv_v3 : v3 < w.1.length := hok (.ref v3) (List.mem_of_getElem? (i := 2) rfl) v3 rfl
  obtain ⟨a_v3, ha_v3⟩ : ∃ a, ad v3 = a := ⟨_, rfl⟩
  rw [ha_v3] at hl
  have hv_s2 : s2 < w.1.length := hok (.ref s2) (List.mem_of_getElem? (i := 6) rfl) s2 rfl
  obtain ⟨a_s2, ha_s2⟩ : ∃ a, ad s2 = a := ⟨_, rfl⟩
  rw [ha_s2]
  unfold sg_X_law_751 at h
  obtain ⟨ob4, h⟩ := hy_if h
  obtain ⟨fs_ob4, hf_ob4, hg_ob4⟩ := hy_ob_spec ob4
  obtain ⟨x3, w1, hq_w1, h⟩ := hy_bi_spec h
  refine hy_calli (hy_runV (rest := []) (As := [.int s1, .int s0]) (r := s2) (b := a_s2) B S rfl ha_s2 (by rfl) (c_H_word hl9 G ad hq_w1) (hy_okr (by omega) (hy_oki (hy_oki hy_ok0))) tw_209 tw_1 tw_206 tw_207 sl_H_word (by decide) rfl (Nat.le_of_ble_eq_true rfl) (Nat.le_of_ble_eq_true rfl) hf_ob4 hg_ob4 rfl hl.1 (Nat.le_of_ble_eq_true rfl) d_X_law_751) (fun ad2 H locs cells slots hag hl_w1 S => ?_)
  have ha_v1 : ad2 v1 = a_v1 := (hag v1 (by omega)).trans ha_v1
  have ha_v2 : ad2 v2 = a_v2 := (hag v2 (by omega)).trans ha_v2
  have ha_v3 : ad2 v3 = a_v3 := (hag v3 (by omega)).trans ha_v3
  refine lv_aload_n hx hb d_X_law_754 rfl (lv_at hl 1 rfl) ?_
  refine lv_aload_n hx hb d_X_law_755 rfl (lv_at hl 4 rfl) ?_
  refine lv_iload hx hb d_X_law_756 (lv_at hl 3 rfl) ?_
  refine lv_iconst (v := 1) hx hb d_X_law_758 (by decide) ?_
  refine lv_iadd hx hb d_X_law_759 ?_
  obtain ⟨x5, hx5, h⟩ := hy_bd h
  refine hy_sld hx hb hX hbl hbA S hx5 d_X_law_760 ?_
  refine lv_aload_n hx hb d_X_law_761 rfl (lv_at hl 4 rfl) ?_
  refine lv_iload hx hb d_X_law_762 (lv_at hl 3 rfl) ?_
  refine lv_iconst (v := 2) hx hb d_X_law_764 (by decide) ?_
  refine lv_iadd hx hb d_X_law_765 ?_
  obtain ⟨x6, hx6, h⟩ := hy_bd h
  refine hy_sld hx hb hX hbl hbA S hx6 d_X_law_766 ?_
  refine lv_if_eq (tgt := 774) hx hb d_X_law_767 (by decide) (fun c7 => ?_) (fun c7 => ?_)
  · rw [if_pos c7] at h
    refine lv_iconst (v := 0) hx hb d_X_law_774 (by decide) ?_
    cases h
    exact hy_jumpL K S (hy_okr (by omega) (hy_okr (by omega) (hy_okr (by omega) (hy_oki (hy_oki (hy_oki (hy_okr (by omega) (hy_oki hy_ok0)))))))) (lv_sub hl [0, 1, 2, 3, 4] rfl) (by subst ha_v1 ha_v2 ha_v3; rfl) (by subst ha_v1 ha_v2 ha_v3; rfl)
  · rw [if_neg c7] at h
    refine lv_iconst (v := 1) hx hb d_X_law_770 (by decide) ?_
    refine lv_goto (tgt := 775) hx hb d_X_law_771 (by decide) ?_
    cases h
    exact hy_jumpL K S (hy_okr (by omega) (hy_okr (by omega) (hy_okr (by omega) (hy_oki (hy_oki (hy_oki (hy_okr (by omega) (hy_oki hy_ok0)))))))) (lv_sub hl [0, 1, 2, 3, 4] rfl) (by subst ha_v1 ha_v2 ha_v3; rfl) (by subst ha_v1 ha_v2 ha_v3; rfl)
set_option maxHeartbeats 4000000 in
set_option maxRecDepth 100000 in
theorem sk_X_law_775 {p : Program} {l : Launch} {e : Env} {s : State} {m : MethodId} {b L : Nat} {xs : Nat → Int32} {below : List Frame} {meth : Method} {c : Code} {G : hy_G} {ad0 : Nat → Nat} {n0 : Nat} {o : hy_O} (hl9 : l.flags = flags0) (ho : o.1 = .inl (some (.int 1))) (hX : va_X b L xs s s.heap) (hbl : b < s.heap.size) (hbA : ¬ (fun q : Nat => s.heap.size ≤ q) b) (hr9 : meth.sig.returnType = ret) (B : hy_B p l e room_1 s m #[Value.ref b] below meth c "HyphenPatternsLaw" code 7 ret [] G (fun q : Nat => s.heap.size ≤ q)) (v1 : Nat) (v2 : Nat) (v3 : Nat) (v4 : Int32) (s0 : Int32) (s1 : Int32) (s2 : Nat) (s3 : Int32) (w : hy_W) (nx : hy_N) (h : sg_X_law_775 L xs v1 v2 v3 v4 s0 s1 s2 s3 w = some nx) (K : hy_NxL lay_X_law b p l e room_1 s m #[Value.ref b] below meth c 7 G (fun q : Nat => s.heap.size ≤ q) ad0 n0 (lw_Z below #[Value.ref b] s) o nx) : hy_AtL lay_X_law b p l e room_1 s m #[Value.ref b] below meth c 7 G (fun q : Nat => s.heap.size ≤ q) ad0 n0 (lw_Z below #[Value.ref b] s) (775, [.ref v1, .ref v2, .ref v3, .int v4, .int s0, .int s1, .ref s2, .int s3], w) := by
  intro ad H locs cells slots ls S hok hl
  have hx := B.1
  have hb := B.2.1
  dsimp only at S hok
  have hl : lv_has ls 7 [(1, .ref (ad v1)), (2, .ref (ad v2)), (3, .ref (ad v3)), (4, .int v4), (0, .ref b)] := hl
  show W p l e room_1 s m #[Value.ref b] below meth c H locs cells slots (lw_Z below #[Value.ref b] s) (F0 m 775 ls [.int s0, .int s1, .ref (ad s2), .int s3])
  have hv_v1 : v1 < w.1.length := hok (.ref v1) (List.mem_of_getElem? (i := 0) rfl) v1 rfl
  obtain ⟨a_v1, ha_v1⟩ : ∃ a, ad v1 = a := ⟨_, rfl⟩
  rw [ha_v1] at hl
  have hv_v2 : v2 < w.1.length := hok (.ref v2) (List.mem_of_getElem? (i := 1) rfl) v2 rfl
  obtain ⟨a_v2, ha_v2⟩ : ∃ a, ad v2 = a := ⟨_, rfl⟩
  rw [ha_v2] at hl
  have hv_v3 : v3 < w.1.length := hok (.ref v3) (List.mem_of_getElem? (i := 2) rfl) v3 rfl
  obtain ⟨a_v3, ha_v3⟩ : ∃ a, ad v3 = a := ⟨_, rfl⟩
  rw [ha_v3] at hl
  have hv_s2 : s2 < w.1.length := hok (.ref s2) (List.mem_of_getElem? (i := 6) rfl) s2 rfl
  obtain ⟨a_s2, ha_s2⟩ : ∃ a, ad s2 = a := ⟨_, rfl⟩
  rw [ha_s2]
  unfold sg_X_law_775 at h
  obtain ⟨ob4, h⟩ := hy_if h
  obtain ⟨fs_ob4, hf_ob4, hg_ob4⟩ := hy_ob_spec ob4
  obtain ⟨x3, w1, hq_w1, h⟩ := hy_bi_spec h
  refine hy_calli (hy_runV (rest := [.int s3]) (As := [.int s1, .int s0]) (r := s2) (b := a_s2) B S rfl ha_s2 (by rfl) (c_M_word hl9 G ad hq_w1) (hy_okr (by omega) (hy_oki (hy_oki hy_ok0))) tw_881 tw_9 tw_878 tw_879 sl_M_word (by decide) rfl (Nat.le_of_ble_eq_true rfl) (Nat.le_of_ble_eq_true rfl) hf_ob4 hg_ob4 rfl hl.1 (Nat.le_of_ble_eq_true rfl) d_X_law_775) (fun ad2 H locs cells slots hag hl_w1 S => ?_)
  have ha_v1 : ad2 v1 = a_v1 := (hag v1 (by omega)).trans ha_v1
  have ha_v2 : ad2 v2 = a_v2 := (hag v2 (by omega)).trans ha_v2
  have ha_v3 : ad2 v3 = a_v3 := (hag v3 (by omega)).trans ha_v3
  refine lv_icmp_eq (tgt := 808) hx hb d_X_law_778 (by decide) (fun c5 => ?_) (fun c5 => ?_)
  · rw [if_pos c5] at h
    cases h
    exact hy_jumpL K S (hy_okr (by omega) (hy_okr (by omega) (hy_okr (by omega) (hy_oki hy_ok0)))) (lv_sub hl [0, 1, 2, 3, 4] rfl) (by subst ha_v1 ha_v2 ha_v3; rfl) (by subst ha_v1 ha_v2 ha_v3; rfl)
  · rw [if_neg c5] at h
    refine lv_iconst (v := 0) hx hb d_X_law_781 (by decide) ?_
    cases h
    cases K
    exact absurd ho (hy_ne1 _)
set_option maxHeartbeats 4000000 in
set_option maxRecDepth 100000 in
theorem sk_X_law_783 {p : Program} {l : Launch} {e : Env} {s : State} {m : MethodId} {b L : Nat} {xs : Nat → Int32} {below : List Frame} {meth : Method} {c : Code} {G : hy_G} {ad0 : Nat → Nat} {n0 : Nat} {o : hy_O} (hl9 : l.flags = flags0) (ho : o.1 = .inl (some (.int 1))) (hX : va_X b L xs s s.heap) (hbl : b < s.heap.size) (hbA : ¬ (fun q : Nat => s.heap.size ≤ q) b) (hr9 : meth.sig.returnType = ret) (B : hy_B p l e room_1 s m #[Value.ref b] below meth c "HyphenPatternsLaw" code 7 ret [] G (fun q : Nat => s.heap.size ≤ q)) (v1 : Nat) (v2 : Nat) (v3 : Nat) (v4 : Int32) (w : hy_W) (nx : hy_N) (h : sg_X_law_783 L xs v1 v2 v3 v4 w = some nx) (K : hy_NxL lay_X_law b p l e room_1 s m #[Value.ref b] below meth c 7 G (fun q : Nat => s.heap.size ≤ q) ad0 n0 (lw_Z below #[Value.ref b] s) o nx) : hy_AtL lay_X_law b p l e room_1 s m #[Value.ref b] below meth c 7 G (fun q : Nat => s.heap.size ≤ q) ad0 n0 (lw_Z below #[Value.ref b] s) (783, [.ref v1, .ref v2, .ref v3, .int v4], w) := by
  intro ad H locs cells slots ls S hok hl
  have hx := B.1
  have hb := B.2.1
  dsimp only at S hok
  have hl : lv_has ls 7 [(1, .ref (ad v1)), (2, .ref (ad v2)), (3, .ref (ad v3)), (4, .int v4), (0, .ref b)] := hl
  show W p l e room_1 s m #[Value.ref b] below meth c H locs cells slots (lw_Z below #[Value.ref b] s) (F0 m 783 ls [])
  have hv_v1 : v1 < w.1.length := hok (.ref v1) (List.mem_of_getElem? (i := 0) rfl) v1 rfl
  obtain ⟨a_v1, ha_v1⟩ : ∃ a, ad v1 = a := ⟨_, rfl⟩
  rw [ha_v1] at hl
  have hv_v2 : v2 < w.1.length := hok (.ref v2) (List.mem_of_getElem? (i := 1) rfl) v2 rfl
  obtain ⟨a_v2, ha_v2⟩ : ∃ a, ad v2 = a := ⟨_, rfl⟩
  rw [ha_v2] at hl
  have hv_v3 : v3 < w.1.length := hok (.ref v3) (List.mem_of_getElem? (i := 2) rfl) v3 rfl
  obtain ⟨a_v3, ha_v3⟩ : ∃ a, ad v3 = a := ⟨_, rfl⟩
  rw [ha_v3] at hl
  unfold sg_X_law_783 at h
  refine lv_aload_n hx hb d_X_law_783 rfl (lv_at hl 0 rfl) ?_
  refine lv_aload_n hx hb d_X_law_784 rfl (lv_at hl 4 rfl) ?_
  refine lv_iload hx hb d_X_law_785 (lv_at hl 3 rfl) ?_
  refine lv_iconst (v := 1) hx hb d_X_law_787 (by decide) ?_
  refine lv_iadd hx hb d_X_law_788 ?_
  obtain ⟨x1, hx1, h⟩ := hy_bd h
  refine hy_sld hx hb hX hbl hbA S hx1 d_X_law_789 ?_
  obtain ⟨ob5, h⟩ := hy_if h
  obtain ⟨fs_ob5, hf_ob5, hg_ob5⟩ := hy_ob_spec ob5
  obtain ⟨x4, w2, hq_w2, h⟩ := hy_bi_spec h
  refine hy_calli (hy_runV (rest := []) (As := [.int x1]) (r := v1) (b := a_v1) B S rfl ha_v1 (by rfl) (c_H_count hl9 G ad hq_w2) (hy_okr (by omega) (hy_oki hy_ok0)) tw_229 tw_1 tw_226 tw_227 sl_H_count (by decide) rfl (Nat.le_of_ble_eq_true rfl) (Nat.le_of_ble_eq_true rfl) hf_ob5 hg_ob5 rfl hl.1 (Nat.le_of_ble_eq_true rfl) d_X_law_790) (fun ad3 H locs cells slots hag hl_w2 S => ?_)
  have ha_v1 : ad3 v1 = a_v1 := (hag v1 (by omega)).trans ha_v1
  have ha_v2 : ad3 v2 = a_v2 := (hag v2 (by omega)).trans ha_v2
  have ha_v3 : ad3 v3 = a_v3 := (hag v3 (by omega)).trans ha_v3
  refine lv_aload_n hx hb d_X_law_793 rfl (lv_at hl 1 rfl) ?_
  refine lv_aload_n hx hb d_X_law_794 rfl (lv_at hl 4 rfl) ?_
  refine lv_iload hx hb d_X_law_795 (lv_at hl 3 rfl) ?_
  refine lv_iconst (v := 1) hx hb d_X_law_797 (by decide) ?_
  refine lv_iadd hx hb d_X_law_798 ?_
  obtain ⟨x6, hx6, h⟩ := hy_bd h
  refine hy_sld hx hb hX hbl hbA S hx6 d_X_law_799 ?_
  obtain ⟨ob10, h⟩ := hy_if h
  obtain ⟨fs_ob10, hf_ob10, hg_ob10⟩ := hy_ob_spec ob10
  obtain ⟨x9, w7, hq_w7, h⟩ := hy_bi_spec h
  refine hy_calli (hy_runV (rest := [.int x4]) (As := [.int x6]) (r := v2) (b := a_v2) B S rfl ha_v2 (by rfl) (c_M_count hl9 G ad3 hq_w7) (hy_okr (by omega) (hy_oki hy_ok0)) tw_885 tw_9 tw_882 tw_883 sl_M_count (by decide) rfl (Nat.le_of_ble_eq_true rfl) (Nat.le_of_ble_eq_true rfl) hf_ob10 hg_ob10 rfl hl.1 (Nat.le_of_ble_eq_true rfl) d_X_law_800) (fun ad8 H locs cells slots hag hl_w7 S => ?_)
  have ha_v1 : ad8 v1 = a_v1 := (hag v1 (by omega)).trans ha_v1
  have ha_v2 : ad8 v2 = a_v2 := (hag v2 (by omega)).trans ha_v2
  have ha_v3 : ad8 v3 = a_v3 := (hag v3 (by omega)).trans ha_v3
  refine lv_icmp_eq (tgt := 808) hx hb d_X_law_803 (by decide) (fun c11 => ?_) (fun c11 => ?_)
  · rw [if_pos c11] at h
    cases h
    exact hy_jumpL K S (hy_okr (by omega) (hy_okr (by omega) (hy_okr (by omega) (hy_oki hy_ok0)))) (lv_sub hl [0, 1, 2, 3, 4] rfl) (by subst ha_v1 ha_v2 ha_v3; rfl) (by subst ha_v1 ha_v2 ha_v3; rfl)
  · rw [if_neg c11] at h
    refine lv_iconst (v := 0) hx hb d_X_law_806 (by decide) ?_
    cases h
    cases K
    exact absurd ho (hy_ne1 _)
set_option maxHeartbeats 4000000 in
set_option maxRecDepth 100000 in
theorem sk_X_law_808 {p : Program} {l : Launch} {e : Env} {s : State} {m : MethodId} {b L : Nat} {xs : Nat → Int32} {below : List Frame} {meth : Method} {c : Code} {G : hy_G} {ad0 : Nat → Nat} {n0 : Nat} {o : hy_O} (hl9 : l.flags = flags0) (ho : o.1 = .inl (some (.int 1))) (hX : va_X b L xs s s.heap) (hbl : b < s.heap.size) (hbA : ¬ (fun q : Nat => s.heap.size ≤ q) b) (hr9 : meth.sig.returnType = ret) (B : hy_B p l e room_1 s m #[Value.ref b] below meth c "HyphenPatternsLaw" code 7 ret [] G (fun q : Nat => s.heap.size ≤ q)) (v1 : Nat) (v2 : Nat) (v3 : Nat) (v4 : Int32) (w : hy_W) (nx : hy_N) (h : sg_X_law_808 L xs v1 v2 v3 v4 w = some nx) (K : hy_NxL lay_X_law b p l e room_1 s m #[Value.ref b] below meth c 7 G (fun q : Nat => s.heap.size ≤ q) ad0 n0 (lw_Z below #[Value.ref b] s) o nx) : hy_AtL lay_X_law b p l e room_1 s m #[Value.ref b] below meth c 7 G (fun q : Nat => s.heap.size ≤ q) ad0 n0 (lw_Z below #[Value.ref b] s) (808, [.ref v1, .ref v2, .ref v3, .int v4], w) := by
  intro ad H locs cells slots ls S hok hl
  have hx := B.1
  have hb := B.2.1
  dsimp only at S hok
  have hl : lv_has ls 7 [(1, .ref (ad v1)), (2, .ref (ad v2)), (3, .ref (ad v3)), (4, .int v4), (0, .ref b)] := hl
  show W p l e room_1 s m #[Value.ref b] below meth c H locs cells slots (lw_Z below #[Value.ref b] s) (F0 m 808 ls [])
  have hv_v1 : v1 < w.1.length := hok (.ref v1) (List.mem_of_getElem? (i := 0) rfl) v1 rfl
  obtain ⟨a_v1, ha_v1⟩ : ∃ a, ad v1 = a := ⟨_, rfl⟩
  rw [ha_v1] at hl
  have hv_v2 : v2 < w.1.length := hok (.ref v2) (List.mem_of_getElem? (i := 1) rfl) v2 rfl
  obtain ⟨a_v2, ha_v2⟩ : ∃ a, ad v2 = a := ⟨_, rfl⟩
  rw [ha_v2] at hl
  have hv_v3 : v3 < w.1.length := hok (.ref v3) (List.mem_of_getElem? (i := 2) rfl) v3 rfl
  obtain ⟨a_v3, ha_v3⟩ : ∃ a, ad v3 = a := ⟨_, rfl⟩
  rw [ha_v3] at hl
  unfold sg_X_law_808 at h
  refine lv_iinc (v := (v4 + 6)) (lv' := [(4, .int (v4 + 6)), (1, .ref a_v1), (2, .ref a_v2), (3, .ref a_v3), (0, .ref b)]) hx hb d_X_law_808 hl (k := 3) rfl rfl (Nat.le_of_ble_eq_true rfl) rfl (fun ls hl => ?_)
  refine lv_goto (tgt := 23) hx hb d_X_law_811 (by decide) ?_
  cases h
  exact hy_jumpL K S (hy_okr (by omega) (hy_okr (by omega) (hy_okr (by omega) (hy_oki hy_ok0)))) (lv_sub hl [1, 2, 3, 0, 4] rfl) (by subst ha_v1 ha_v2 ha_v3; rfl) (by subst ha_v1 ha_v2 ha_v3; rfl)
set_option maxHeartbeats 4000000 in
theorem nk_X_law {p : Program} {l : Launch} {e : Env} {s : State} {m : MethodId} {b L : Nat} {xs : Nat → Int32} {below : List Frame} {meth : Method} {c : Code} {G : hy_G} {ad0 : Nat → Nat} {n0 : Nat} {o : hy_O} (hl9 : l.flags = flags0) (ho : o.1 = .inl (some (.int 1))) (hX : va_X b L xs s s.heap) (hbl : b < s.heap.size) (hbA : ¬ (fun q : Nat => s.heap.size ≤ q) b) (hr9 : meth.sig.returnType = ret) (B : hy_B p l e room_1 s m #[Value.ref b] below meth c "HyphenPatternsLaw" code 7 ret [] G (fun q : Nat => s.heap.size ≤ q)) (q : hy_P) (nx : hy_N) (hq : nx_X_law L xs q = some nx) (K : hy_NxL lay_X_law b p l e room_1 s m #[Value.ref b] below meth c 7 G (fun q : Nat => s.heap.size ≤ q) ad0 n0 (lw_Z below #[Value.ref b] s) o nx) : hy_AtL lay_X_law b p l e room_1 s m #[Value.ref b] below meth c 7 G (fun q : Nat => s.heap.size ≤ q) ad0 n0 (lw_Z below #[Value.ref b] s) q := by
  unfold nx_X_law at hq
  split at hq
  · exact sk_X_law_0 hl9 ho hX hbl hbA hr9 B _ nx hq K
  · exact sk_X_law_23 hl9 ho hX hbl hbA hr9 B _ _ _ _ _ nx hq K
  · exact sk_X_law_112 hl9 ho hX hbl hbA hr9 B _ _ _ _ _ nx hq K
  · exact sk_X_law_165 hl9 ho hX hbl hbA hr9 B _ _ _ _ _ nx hq K
  · exact sk_X_law_168 hl9 ho hX hbl hbA hr9 B _ _ _ _ _ nx hq K
  · exact sk_X_law_228 hl9 ho hX hbl hbA hr9 B _ _ _ _ _ nx hq K
  · exact sk_X_law_276 hl9 ho hX hbl hbA hr9 B _ _ _ _ _ nx hq K
  · exact sk_X_law_377 hl9 ho hX hbl hbA hr9 B _ _ _ _ _ nx hq K
  · exact sk_X_law_380 hl9 ho hX hbl hbA hr9 B _ _ _ _ _ nx hq K
  · exact sk_X_law_393 hl9 ho hX hbl hbA hr9 B _ _ _ _ _ nx hq K
  · exact sk_X_law_434 hl9 ho hX hbl hbA hr9 B _ _ _ _ _ nx hq K
  · exact sk_X_law_437 hl9 ho hX hbl hbA hr9 B _ _ _ _ _ nx hq K
  · exact sk_X_law_478 hl9 ho hX hbl hbA hr9 B _ _ _ _ _ nx hq K
  · exact sk_X_law_481 hl9 ho hX hbl hbA hr9 B _ _ _ _ _ nx hq K
  · exact sk_X_law_494 hl9 ho hX hbl hbA hr9 B _ _ _ _ _ nx hq K
  · exact sk_X_law_595 hl9 ho hX hbl hbA hr9 B _ _ _ _ _ nx hq K
  · exact sk_X_law_598 hl9 ho hX hbl hbA hr9 B _ _ _ _ _ nx hq K
  · exact sk_X_law_611 hl9 ho hX hbl hbA hr9 B _ _ _ _ _ nx hq K
  · exact sk_X_law_664 hl9 ho hX hbl hbA hr9 B _ _ _ _ _ nx hq K
  · exact sk_X_law_667 hl9 ho hX hbl hbA hr9 B _ _ _ _ _ nx hq K
  · exact sk_X_law_721 hl9 ho hX hbl hbA hr9 B _ _ _ _ _ _ _ nx hq K
  · exact sk_X_law_727 hl9 ho hX hbl hbA hr9 B _ _ _ _ _ nx hq K
  · exact sk_X_law_730 hl9 ho hX hbl hbA hr9 B _ _ _ _ _ nx hq K
  · exact sk_X_law_751 hl9 ho hX hbl hbA hr9 B _ _ _ _ _ _ _ _ nx hq K
  · exact sk_X_law_775 hl9 ho hX hbl hbA hr9 B _ _ _ _ _ _ _ _ _ nx hq K
  · exact sk_X_law_783 hl9 ho hX hbl hbA hr9 B _ _ _ _ _ nx hq K
  · exact sk_X_law_808 hl9 ho hX hbl hbA hr9 B _ _ _ _ _ nx hq K
  · cases hq
