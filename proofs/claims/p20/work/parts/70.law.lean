/-! the law's cases; laid by program -/
abbrev cc_L_law : ByteArray := code
theorem dd_L_law_0 : decode cc_L_law 0 = .ok (.new 8, 3) := by decide +kernel
theorem dd_L_law_3 : decode cc_L_law 3 = .ok (.dup, 1) := by decide +kernel
theorem dd_L_law_4 : decode cc_L_law 4 = .ok (.invokespecial 25, 3) := by decide +kernel
theorem dd_L_law_7 : decode cc_L_law 7 = .ok (.astore_n 1, 1) := by decide +kernel
theorem dd_L_law_8 : decode cc_L_law 8 = .ok (.new 26, 3) := by decide +kernel
theorem dd_L_law_11 : decode cc_L_law 11 = .ok (.dup, 1) := by decide +kernel
theorem dd_L_law_12 : decode cc_L_law 12 = .ok (.invokespecial 28, 3) := by decide +kernel
theorem dd_L_law_15 : decode cc_L_law 15 = .ok (.astore_n 2, 1) := by decide +kernel
theorem dd_L_law_16 : decode cc_L_law 16 = .ok (.iconst 1, 1) := by decide +kernel
theorem dd_L_law_17 : decode cc_L_law 17 = .ok (.newarray .long, 2) := by decide +kernel
theorem dd_L_law_19 : decode cc_L_law 19 = .ok (.astore_n 3, 1) := by decide +kernel
theorem dd_L_law_20 : decode cc_L_law 20 = .ok (.iconst 0, 1) := by decide +kernel
theorem dd_L_law_21 : decode cc_L_law 21 = .ok (.istore 4, 2) := by decide +kernel
theorem dd_L_law_23 : decode cc_L_law 23 = .ok (.iload 4, 2) := by decide +kernel
theorem dd_L_law_25 : decode cc_L_law 25 = .ok (.aload_n 0, 1) := by decide +kernel
theorem dd_L_law_26 : decode cc_L_law 26 = .ok (.arraylength, 1) := by decide +kernel
theorem dd_L_law_27 : decode cc_L_law 27 = .ok (.bipush (7), 2) := by decide +kernel
theorem dd_L_law_29 : decode cc_L_law 29 = .ok (.isub, 1) := by decide +kernel
theorem dd_L_law_30 : decode cc_L_law 30 = .ok (.if_icmp .gt (740), 3) := by decide +kernel
theorem dd_L_law_33 : decode cc_L_law 33 = .ok (.aload_n 0, 1) := by decide +kernel
theorem dd_L_law_34 : decode cc_L_law 34 = .ok (.iload 4, 2) := by decide +kernel
theorem dd_L_law_36 : decode cc_L_law 36 = .ok (.iaload, 1) := by decide +kernel
theorem dd_L_law_37 : decode cc_L_law 37 = .ok (.bipush (31), 2) := by decide +kernel
theorem dd_L_law_39 : decode cc_L_law 39 = .ok (.iand, 1) := by decide +kernel
theorem dd_L_law_40 : decode cc_L_law 40 = .ok (.tableswitch (724) (0) (18) #[92, 117, 128, 153, 166, 293, 321, 346, 374, 411, 448, 485, 498, 547, 572, 597, 613, 662, 687], 92) := by decide +kernel
theorem dd_L_law_132 : decode cc_L_law 132 = .ok (.aload_n 1, 1) := by decide +kernel
theorem dd_L_law_133 : decode cc_L_law 133 = .ok (.aload_n 0, 1) := by decide +kernel
theorem dd_L_law_134 : decode cc_L_law 134 = .ok (.iload 4, 2) := by decide +kernel
theorem dd_L_law_136 : decode cc_L_law 136 = .ok (.iconst 1, 1) := by decide +kernel
theorem dd_L_law_137 : decode cc_L_law 137 = .ok (.iadd, 1) := by decide +kernel
theorem dd_L_law_138 : decode cc_L_law 138 = .ok (.iaload, 1) := by decide +kernel
theorem dd_L_law_139 : decode cc_L_law 139 = .ok (.invokevirtual 29, 3) := by decide +kernel
theorem dd_L_law_142 : decode cc_L_law 142 = .ok (.pop, 1) := by decide +kernel
theorem dd_L_law_143 : decode cc_L_law 143 = .ok (.aload_n 2, 1) := by decide +kernel
theorem dd_L_law_144 : decode cc_L_law 144 = .ok (.aload_n 0, 1) := by decide +kernel
theorem dd_L_law_145 : decode cc_L_law 145 = .ok (.iload 4, 2) := by decide +kernel
theorem dd_L_law_147 : decode cc_L_law 147 = .ok (.iconst 1, 1) := by decide +kernel
theorem dd_L_law_148 : decode cc_L_law 148 = .ok (.iadd, 1) := by decide +kernel
theorem dd_L_law_149 : decode cc_L_law 149 = .ok (.iaload, 1) := by decide +kernel
theorem dd_L_law_150 : decode cc_L_law 150 = .ok (.invokevirtual 33, 3) := by decide +kernel
theorem dd_L_law_153 : decode cc_L_law 153 = .ok (.pop, 1) := by decide +kernel
theorem dd_L_law_154 : decode cc_L_law 154 = .ok (.goto (610), 3) := by decide +kernel
theorem dd_L_law_157 : decode cc_L_law 157 = .ok (.aload_n 1, 1) := by decide +kernel
theorem dd_L_law_158 : decode cc_L_law 158 = .ok (.invokevirtual 34, 3) := by decide +kernel
theorem dd_L_law_161 : decode cc_L_law 161 = .ok (.aload_n 2, 1) := by decide +kernel
theorem dd_L_law_162 : decode cc_L_law 162 = .ok (.invokevirtual 37, 3) := by decide +kernel
theorem dd_L_law_165 : decode cc_L_law 165 = .ok (.goto (599), 3) := by decide +kernel
theorem dd_L_law_168 : decode cc_L_law 168 = .ok (.aload_n 1, 1) := by decide +kernel
theorem dd_L_law_169 : decode cc_L_law 169 = .ok (.aload_n 0, 1) := by decide +kernel
theorem dd_L_law_170 : decode cc_L_law 170 = .ok (.iload 4, 2) := by decide +kernel
theorem dd_L_law_172 : decode cc_L_law 172 = .ok (.iconst 1, 1) := by decide +kernel
theorem dd_L_law_173 : decode cc_L_law 173 = .ok (.iadd, 1) := by decide +kernel
theorem dd_L_law_174 : decode cc_L_law 174 = .ok (.iaload, 1) := by decide +kernel
theorem dd_L_law_175 : decode cc_L_law 175 = .ok (.invokevirtual 38, 3) := by decide +kernel
theorem dd_L_law_178 : decode cc_L_law 178 = .ok (.pop, 1) := by decide +kernel
theorem dd_L_law_179 : decode cc_L_law 179 = .ok (.aload_n 2, 1) := by decide +kernel
theorem dd_L_law_180 : decode cc_L_law 180 = .ok (.aload_n 0, 1) := by decide +kernel
theorem dd_L_law_181 : decode cc_L_law 181 = .ok (.iload 4, 2) := by decide +kernel
theorem dd_L_law_183 : decode cc_L_law 183 = .ok (.iconst 1, 1) := by decide +kernel
theorem dd_L_law_184 : decode cc_L_law 184 = .ok (.iadd, 1) := by decide +kernel
theorem dd_L_law_185 : decode cc_L_law 185 = .ok (.iaload, 1) := by decide +kernel
theorem dd_L_law_186 : decode cc_L_law 186 = .ok (.invokevirtual 41, 3) := by decide +kernel
theorem dd_L_law_189 : decode cc_L_law 189 = .ok (.pop, 1) := by decide +kernel
theorem dd_L_law_190 : decode cc_L_law 190 = .ok (.goto (574), 3) := by decide +kernel
theorem dd_L_law_193 : decode cc_L_law 193 = .ok (.aload_n 1, 1) := by decide +kernel
theorem dd_L_law_194 : decode cc_L_law 194 = .ok (.invokevirtual 42, 3) := by decide +kernel
theorem dd_L_law_197 : decode cc_L_law 197 = .ok (.pop, 1) := by decide +kernel
theorem dd_L_law_198 : decode cc_L_law 198 = .ok (.aload_n 2, 1) := by decide +kernel
theorem dd_L_law_199 : decode cc_L_law 199 = .ok (.invokevirtual 46, 3) := by decide +kernel
theorem dd_L_law_202 : decode cc_L_law 202 = .ok (.pop, 1) := by decide +kernel
theorem dd_L_law_203 : decode cc_L_law 203 = .ok (.goto (561), 3) := by decide +kernel
theorem dd_L_law_206 : decode cc_L_law 206 = .ok (.aload_n 1, 1) := by decide +kernel
theorem dd_L_law_207 : decode cc_L_law 207 = .ok (.aload_n 0, 1) := by decide +kernel
theorem dd_L_law_208 : decode cc_L_law 208 = .ok (.iload 4, 2) := by decide +kernel
theorem dd_L_law_210 : decode cc_L_law 210 = .ok (.iconst 1, 1) := by decide +kernel
theorem dd_L_law_211 : decode cc_L_law 211 = .ok (.iadd, 1) := by decide +kernel
theorem dd_L_law_212 : decode cc_L_law 212 = .ok (.iaload, 1) := by decide +kernel
theorem dd_L_law_213 : decode cc_L_law 213 = .ok (.aload_n 0, 1) := by decide +kernel
theorem dd_L_law_214 : decode cc_L_law 214 = .ok (.iload 4, 2) := by decide +kernel
theorem dd_L_law_216 : decode cc_L_law 216 = .ok (.iconst 2, 1) := by decide +kernel
theorem dd_L_law_217 : decode cc_L_law 217 = .ok (.iadd, 1) := by decide +kernel
theorem dd_L_law_218 : decode cc_L_law 218 = .ok (.iaload, 1) := by decide +kernel
theorem dd_L_law_219 : decode cc_L_law 219 = .ok (.aload_n 0, 1) := by decide +kernel
theorem dd_L_law_220 : decode cc_L_law 220 = .ok (.iload 4, 2) := by decide +kernel
theorem dd_L_law_222 : decode cc_L_law 222 = .ok (.iconst 3, 1) := by decide +kernel
theorem dd_L_law_223 : decode cc_L_law 223 = .ok (.iadd, 1) := by decide +kernel
theorem dd_L_law_224 : decode cc_L_law 224 = .ok (.iaload, 1) := by decide +kernel
theorem dd_L_law_225 : decode cc_L_law 225 = .ok (.i2l, 1) := by decide +kernel
theorem dd_L_law_226 : decode cc_L_law 226 = .ok (.bipush (32), 2) := by decide +kernel
theorem dd_L_law_228 : decode cc_L_law 228 = .ok (.lshl, 1) := by decide +kernel
theorem dd_L_law_229 : decode cc_L_law 229 = .ok (.aload_n 0, 1) := by decide +kernel
theorem dd_L_law_230 : decode cc_L_law 230 = .ok (.iload 4, 2) := by decide +kernel
theorem dd_L_law_232 : decode cc_L_law 232 = .ok (.iconst 4, 1) := by decide +kernel
theorem dd_L_law_233 : decode cc_L_law 233 = .ok (.iadd, 1) := by decide +kernel
theorem dd_L_law_234 : decode cc_L_law 234 = .ok (.iaload, 1) := by decide +kernel
theorem dd_L_law_235 : decode cc_L_law 235 = .ok (.i2l, 1) := by decide +kernel
theorem dd_L_law_236 : decode cc_L_law 236 = .ok (.ldc2_w 47, 3) := by decide +kernel
theorem dd_L_law_239 : decode cc_L_law 239 = .ok (.land, 1) := by decide +kernel
theorem dd_L_law_240 : decode cc_L_law 240 = .ok (.lor, 1) := by decide +kernel
theorem dd_L_law_241 : decode cc_L_law 241 = .ok (.aload_n 0, 1) := by decide +kernel
theorem dd_L_law_242 : decode cc_L_law 242 = .ok (.iload 4, 2) := by decide +kernel
theorem dd_L_law_244 : decode cc_L_law 244 = .ok (.iconst 5, 1) := by decide +kernel
theorem dd_L_law_245 : decode cc_L_law 245 = .ok (.iadd, 1) := by decide +kernel
theorem dd_L_law_246 : decode cc_L_law 246 = .ok (.iaload, 1) := by decide +kernel
theorem dd_L_law_247 : decode cc_L_law 247 = .ok (.i2l, 1) := by decide +kernel
theorem dd_L_law_248 : decode cc_L_law 248 = .ok (.bipush (32), 2) := by decide +kernel
theorem dd_L_law_250 : decode cc_L_law 250 = .ok (.lshl, 1) := by decide +kernel
theorem dd_L_law_251 : decode cc_L_law 251 = .ok (.aload_n 0, 1) := by decide +kernel
theorem dd_L_law_252 : decode cc_L_law 252 = .ok (.iload 4, 2) := by decide +kernel
theorem dd_L_law_254 : decode cc_L_law 254 = .ok (.bipush (6), 2) := by decide +kernel
theorem dd_L_law_256 : decode cc_L_law 256 = .ok (.iadd, 1) := by decide +kernel
theorem dd_L_law_257 : decode cc_L_law 257 = .ok (.iaload, 1) := by decide +kernel
theorem dd_L_law_258 : decode cc_L_law 258 = .ok (.i2l, 1) := by decide +kernel
theorem dd_L_law_259 : decode cc_L_law 259 = .ok (.ldc2_w 47, 3) := by decide +kernel
theorem dd_L_law_262 : decode cc_L_law 262 = .ok (.land, 1) := by decide +kernel
theorem dd_L_law_263 : decode cc_L_law 263 = .ok (.lor, 1) := by decide +kernel
theorem dd_L_law_264 : decode cc_L_law 264 = .ok (.invokevirtual 49, 3) := by decide +kernel
theorem dd_L_law_267 : decode cc_L_law 267 = .ok (.pop, 1) := by decide +kernel
theorem dd_L_law_268 : decode cc_L_law 268 = .ok (.aload_n 2, 1) := by decide +kernel
theorem dd_L_law_269 : decode cc_L_law 269 = .ok (.aload_n 0, 1) := by decide +kernel
theorem dd_L_law_270 : decode cc_L_law 270 = .ok (.iload 4, 2) := by decide +kernel
theorem dd_L_law_272 : decode cc_L_law 272 = .ok (.iconst 1, 1) := by decide +kernel
theorem dd_L_law_273 : decode cc_L_law 273 = .ok (.iadd, 1) := by decide +kernel
theorem dd_L_law_274 : decode cc_L_law 274 = .ok (.iaload, 1) := by decide +kernel
theorem dd_L_law_275 : decode cc_L_law 275 = .ok (.aload_n 0, 1) := by decide +kernel
theorem dd_L_law_276 : decode cc_L_law 276 = .ok (.iload 4, 2) := by decide +kernel
theorem dd_L_law_278 : decode cc_L_law 278 = .ok (.iconst 2, 1) := by decide +kernel
theorem dd_L_law_279 : decode cc_L_law 279 = .ok (.iadd, 1) := by decide +kernel
theorem dd_L_law_280 : decode cc_L_law 280 = .ok (.iaload, 1) := by decide +kernel
theorem dd_L_law_281 : decode cc_L_law 281 = .ok (.aload_n 0, 1) := by decide +kernel
theorem dd_L_law_282 : decode cc_L_law 282 = .ok (.iload 4, 2) := by decide +kernel
theorem dd_L_law_284 : decode cc_L_law 284 = .ok (.iconst 3, 1) := by decide +kernel
theorem dd_L_law_285 : decode cc_L_law 285 = .ok (.iadd, 1) := by decide +kernel
theorem dd_L_law_286 : decode cc_L_law 286 = .ok (.iaload, 1) := by decide +kernel
theorem dd_L_law_287 : decode cc_L_law 287 = .ok (.i2l, 1) := by decide +kernel
theorem dd_L_law_288 : decode cc_L_law 288 = .ok (.bipush (32), 2) := by decide +kernel
theorem dd_L_law_290 : decode cc_L_law 290 = .ok (.lshl, 1) := by decide +kernel
theorem dd_L_law_291 : decode cc_L_law 291 = .ok (.aload_n 0, 1) := by decide +kernel
theorem dd_L_law_292 : decode cc_L_law 292 = .ok (.iload 4, 2) := by decide +kernel
theorem dd_L_law_294 : decode cc_L_law 294 = .ok (.iconst 4, 1) := by decide +kernel
theorem dd_L_law_295 : decode cc_L_law 295 = .ok (.iadd, 1) := by decide +kernel
theorem dd_L_law_296 : decode cc_L_law 296 = .ok (.iaload, 1) := by decide +kernel
theorem dd_L_law_297 : decode cc_L_law 297 = .ok (.i2l, 1) := by decide +kernel
theorem dd_L_law_298 : decode cc_L_law 298 = .ok (.ldc2_w 47, 3) := by decide +kernel
theorem dd_L_law_301 : decode cc_L_law 301 = .ok (.land, 1) := by decide +kernel
theorem dd_L_law_302 : decode cc_L_law 302 = .ok (.lor, 1) := by decide +kernel
theorem dd_L_law_303 : decode cc_L_law 303 = .ok (.aload_n 0, 1) := by decide +kernel
theorem dd_L_law_304 : decode cc_L_law 304 = .ok (.iload 4, 2) := by decide +kernel
theorem dd_L_law_306 : decode cc_L_law 306 = .ok (.iconst 5, 1) := by decide +kernel
theorem dd_L_law_307 : decode cc_L_law 307 = .ok (.iadd, 1) := by decide +kernel
theorem dd_L_law_308 : decode cc_L_law 308 = .ok (.iaload, 1) := by decide +kernel
theorem dd_L_law_309 : decode cc_L_law 309 = .ok (.i2l, 1) := by decide +kernel
theorem dd_L_law_310 : decode cc_L_law 310 = .ok (.bipush (32), 2) := by decide +kernel
theorem dd_L_law_312 : decode cc_L_law 312 = .ok (.lshl, 1) := by decide +kernel
theorem dd_L_law_313 : decode cc_L_law 313 = .ok (.aload_n 0, 1) := by decide +kernel
theorem dd_L_law_314 : decode cc_L_law 314 = .ok (.iload 4, 2) := by decide +kernel
theorem dd_L_law_316 : decode cc_L_law 316 = .ok (.bipush (6), 2) := by decide +kernel
theorem dd_L_law_318 : decode cc_L_law 318 = .ok (.iadd, 1) := by decide +kernel
theorem dd_L_law_319 : decode cc_L_law 319 = .ok (.iaload, 1) := by decide +kernel
theorem dd_L_law_320 : decode cc_L_law 320 = .ok (.i2l, 1) := by decide +kernel
theorem dd_L_law_321 : decode cc_L_law 321 = .ok (.ldc2_w 47, 3) := by decide +kernel
theorem dd_L_law_324 : decode cc_L_law 324 = .ok (.land, 1) := by decide +kernel
theorem dd_L_law_325 : decode cc_L_law 325 = .ok (.lor, 1) := by decide +kernel
theorem dd_L_law_326 : decode cc_L_law 326 = .ok (.invokevirtual 53, 3) := by decide +kernel
theorem dd_L_law_329 : decode cc_L_law 329 = .ok (.pop, 1) := by decide +kernel
theorem dd_L_law_330 : decode cc_L_law 330 = .ok (.goto (434), 3) := by decide +kernel
theorem dd_L_law_333 : decode cc_L_law 333 = .ok (.aload_n 1, 1) := by decide +kernel
theorem dd_L_law_334 : decode cc_L_law 334 = .ok (.aload_n 0, 1) := by decide +kernel
theorem dd_L_law_335 : decode cc_L_law 335 = .ok (.iload 4, 2) := by decide +kernel
theorem dd_L_law_337 : decode cc_L_law 337 = .ok (.iconst 1, 1) := by decide +kernel
theorem dd_L_law_338 : decode cc_L_law 338 = .ok (.iadd, 1) := by decide +kernel
theorem dd_L_law_339 : decode cc_L_law 339 = .ok (.iaload, 1) := by decide +kernel
theorem dd_L_law_340 : decode cc_L_law 340 = .ok (.aload_n 3, 1) := by decide +kernel
theorem dd_L_law_341 : decode cc_L_law 341 = .ok (.invokestatic 54, 3) := by decide +kernel
theorem dd_L_law_344 : decode cc_L_law 344 = .ok (.istore 5, 2) := by decide +kernel
theorem dd_L_law_346 : decode cc_L_law 346 = .ok (.aload_n 2, 1) := by decide +kernel
theorem dd_L_law_347 : decode cc_L_law 347 = .ok (.aload_n 0, 1) := by decide +kernel
theorem dd_L_law_348 : decode cc_L_law 348 = .ok (.iload 4, 2) := by decide +kernel
theorem dd_L_law_350 : decode cc_L_law 350 = .ok (.iconst 1, 1) := by decide +kernel
theorem dd_L_law_351 : decode cc_L_law 351 = .ok (.iadd, 1) := by decide +kernel
theorem dd_L_law_352 : decode cc_L_law 352 = .ok (.iaload, 1) := by decide +kernel
theorem dd_L_law_353 : decode cc_L_law 353 = .ok (.invokevirtual 59, 3) := by decide +kernel
theorem dd_L_law_356 : decode cc_L_law 356 = .ok (.lstore 6, 2) := by decide +kernel
theorem dd_L_law_358 : decode cc_L_law 358 = .ok (.goto (406), 3) := by decide +kernel
theorem dd_L_law_361 : decode cc_L_law 361 = .ok (.aload_n 1, 1) := by decide +kernel
theorem dd_L_law_362 : decode cc_L_law 362 = .ok (.aload_n 0, 1) := by decide +kernel
theorem dd_L_law_363 : decode cc_L_law 363 = .ok (.iload 4, 2) := by decide +kernel
theorem dd_L_law_365 : decode cc_L_law 365 = .ok (.iconst 1, 1) := by decide +kernel
theorem dd_L_law_366 : decode cc_L_law 366 = .ok (.iadd, 1) := by decide +kernel
theorem dd_L_law_367 : decode cc_L_law 367 = .ok (.iaload, 1) := by decide +kernel
theorem dd_L_law_368 : decode cc_L_law 368 = .ok (.invokevirtual 60, 3) := by decide +kernel
theorem dd_L_law_371 : decode cc_L_law 371 = .ok (.pop, 1) := by decide +kernel
theorem dd_L_law_372 : decode cc_L_law 372 = .ok (.aload_n 2, 1) := by decide +kernel
theorem dd_L_law_373 : decode cc_L_law 373 = .ok (.aload_n 0, 1) := by decide +kernel
theorem dd_L_law_374 : decode cc_L_law 374 = .ok (.iload 4, 2) := by decide +kernel
theorem dd_L_law_376 : decode cc_L_law 376 = .ok (.iconst 1, 1) := by decide +kernel
theorem dd_L_law_377 : decode cc_L_law 377 = .ok (.iadd, 1) := by decide +kernel
theorem dd_L_law_378 : decode cc_L_law 378 = .ok (.iaload, 1) := by decide +kernel
theorem dd_L_law_379 : decode cc_L_law 379 = .ok (.invokevirtual 63, 3) := by decide +kernel
theorem dd_L_law_382 : decode cc_L_law 382 = .ok (.pop, 1) := by decide +kernel
theorem dd_L_law_383 : decode cc_L_law 383 = .ok (.goto (381), 3) := by decide +kernel
theorem dd_L_law_386 : decode cc_L_law 386 = .ok (.aload_n 1, 1) := by decide +kernel
theorem dd_L_law_387 : decode cc_L_law 387 = .ok (.aload_n 0, 1) := by decide +kernel
theorem dd_L_law_388 : decode cc_L_law 388 = .ok (.iload 4, 2) := by decide +kernel
theorem dd_L_law_390 : decode cc_L_law 390 = .ok (.iconst 1, 1) := by decide +kernel
theorem dd_L_law_391 : decode cc_L_law 391 = .ok (.iadd, 1) := by decide +kernel
theorem dd_L_law_392 : decode cc_L_law 392 = .ok (.iaload, 1) := by decide +kernel
theorem dd_L_law_393 : decode cc_L_law 393 = .ok (.aload_n 3, 1) := by decide +kernel
theorem dd_L_law_394 : decode cc_L_law 394 = .ok (.invokestatic 64, 3) := by decide +kernel
theorem dd_L_law_397 : decode cc_L_law 397 = .ok (.istore 5, 2) := by decide +kernel
theorem dd_L_law_399 : decode cc_L_law 399 = .ok (.aload_n 2, 1) := by decide +kernel
theorem dd_L_law_400 : decode cc_L_law 400 = .ok (.aload_n 0, 1) := by decide +kernel
theorem dd_L_law_401 : decode cc_L_law 401 = .ok (.iload 4, 2) := by decide +kernel
theorem dd_L_law_403 : decode cc_L_law 403 = .ok (.iconst 1, 1) := by decide +kernel
theorem dd_L_law_404 : decode cc_L_law 404 = .ok (.iadd, 1) := by decide +kernel
theorem dd_L_law_405 : decode cc_L_law 405 = .ok (.iaload, 1) := by decide +kernel
theorem dd_L_law_406 : decode cc_L_law 406 = .ok (.invokevirtual 66, 3) := by decide +kernel
theorem dd_L_law_409 : decode cc_L_law 409 = .ok (.istore 6, 2) := by decide +kernel
theorem dd_L_law_411 : decode cc_L_law 411 = .ok (.goto (353), 3) := by decide +kernel
theorem dd_L_law_414 : decode cc_L_law 414 = .ok (.aload_n 1, 1) := by decide +kernel
theorem dd_L_law_415 : decode cc_L_law 415 = .ok (.aload_n 0, 1) := by decide +kernel
theorem dd_L_law_416 : decode cc_L_law 416 = .ok (.iload 4, 2) := by decide +kernel
theorem dd_L_law_418 : decode cc_L_law 418 = .ok (.iconst 1, 1) := by decide +kernel
theorem dd_L_law_419 : decode cc_L_law 419 = .ok (.iadd, 1) := by decide +kernel
theorem dd_L_law_420 : decode cc_L_law 420 = .ok (.iaload, 1) := by decide +kernel
theorem dd_L_law_421 : decode cc_L_law 421 = .ok (.aload_n 0, 1) := by decide +kernel
theorem dd_L_law_422 : decode cc_L_law 422 = .ok (.iload 4, 2) := by decide +kernel
theorem dd_L_law_424 : decode cc_L_law 424 = .ok (.iconst 2, 1) := by decide +kernel
theorem dd_L_law_425 : decode cc_L_law 425 = .ok (.iadd, 1) := by decide +kernel
theorem dd_L_law_426 : decode cc_L_law 426 = .ok (.iaload, 1) := by decide +kernel
theorem dd_L_law_427 : decode cc_L_law 427 = .ok (.invokevirtual 67, 3) := by decide +kernel
theorem dd_L_law_430 : decode cc_L_law 430 = .ok (.pop, 1) := by decide +kernel
theorem dd_L_law_431 : decode cc_L_law 431 = .ok (.aload_n 2, 1) := by decide +kernel
theorem dd_L_law_432 : decode cc_L_law 432 = .ok (.aload_n 0, 1) := by decide +kernel
theorem dd_L_law_433 : decode cc_L_law 433 = .ok (.iload 4, 2) := by decide +kernel
theorem dd_L_law_435 : decode cc_L_law 435 = .ok (.iconst 1, 1) := by decide +kernel
theorem dd_L_law_436 : decode cc_L_law 436 = .ok (.iadd, 1) := by decide +kernel
theorem dd_L_law_437 : decode cc_L_law 437 = .ok (.iaload, 1) := by decide +kernel
theorem dd_L_law_438 : decode cc_L_law 438 = .ok (.aload_n 0, 1) := by decide +kernel
theorem dd_L_law_439 : decode cc_L_law 439 = .ok (.iload 4, 2) := by decide +kernel
theorem dd_L_law_441 : decode cc_L_law 441 = .ok (.iconst 2, 1) := by decide +kernel
theorem dd_L_law_442 : decode cc_L_law 442 = .ok (.iadd, 1) := by decide +kernel
theorem dd_L_law_443 : decode cc_L_law 443 = .ok (.iaload, 1) := by decide +kernel
theorem dd_L_law_444 : decode cc_L_law 444 = .ok (.invokevirtual 71, 3) := by decide +kernel
theorem dd_L_law_447 : decode cc_L_law 447 = .ok (.pop, 1) := by decide +kernel
theorem dd_L_law_448 : decode cc_L_law 448 = .ok (.goto (316), 3) := by decide +kernel
theorem dd_L_law_451 : decode cc_L_law 451 = .ok (.aload_n 1, 1) := by decide +kernel
theorem dd_L_law_452 : decode cc_L_law 452 = .ok (.aload_n 0, 1) := by decide +kernel
theorem dd_L_law_453 : decode cc_L_law 453 = .ok (.iload 4, 2) := by decide +kernel
theorem dd_L_law_455 : decode cc_L_law 455 = .ok (.iconst 1, 1) := by decide +kernel
theorem dd_L_law_456 : decode cc_L_law 456 = .ok (.iadd, 1) := by decide +kernel
theorem dd_L_law_457 : decode cc_L_law 457 = .ok (.iaload, 1) := by decide +kernel
theorem dd_L_law_458 : decode cc_L_law 458 = .ok (.aload_n 0, 1) := by decide +kernel
theorem dd_L_law_459 : decode cc_L_law 459 = .ok (.iload 4, 2) := by decide +kernel
theorem dd_L_law_461 : decode cc_L_law 461 = .ok (.iconst 2, 1) := by decide +kernel
theorem dd_L_law_462 : decode cc_L_law 462 = .ok (.iadd, 1) := by decide +kernel
theorem dd_L_law_463 : decode cc_L_law 463 = .ok (.iaload, 1) := by decide +kernel
theorem dd_L_law_464 : decode cc_L_law 464 = .ok (.invokevirtual 72, 3) := by decide +kernel
theorem dd_L_law_467 : decode cc_L_law 467 = .ok (.pop, 1) := by decide +kernel
theorem dd_L_law_468 : decode cc_L_law 468 = .ok (.aload_n 2, 1) := by decide +kernel
theorem dd_L_law_469 : decode cc_L_law 469 = .ok (.aload_n 0, 1) := by decide +kernel
theorem dd_L_law_470 : decode cc_L_law 470 = .ok (.iload 4, 2) := by decide +kernel
theorem dd_L_law_472 : decode cc_L_law 472 = .ok (.iconst 1, 1) := by decide +kernel
theorem dd_L_law_473 : decode cc_L_law 473 = .ok (.iadd, 1) := by decide +kernel
theorem dd_L_law_474 : decode cc_L_law 474 = .ok (.iaload, 1) := by decide +kernel
theorem dd_L_law_475 : decode cc_L_law 475 = .ok (.aload_n 0, 1) := by decide +kernel
theorem dd_L_law_476 : decode cc_L_law 476 = .ok (.iload 4, 2) := by decide +kernel
theorem dd_L_law_478 : decode cc_L_law 478 = .ok (.iconst 2, 1) := by decide +kernel
theorem dd_L_law_479 : decode cc_L_law 479 = .ok (.iadd, 1) := by decide +kernel
theorem dd_L_law_480 : decode cc_L_law 480 = .ok (.iaload, 1) := by decide +kernel
theorem dd_L_law_481 : decode cc_L_law 481 = .ok (.invokevirtual 75, 3) := by decide +kernel
theorem dd_L_law_484 : decode cc_L_law 484 = .ok (.pop, 1) := by decide +kernel
theorem dd_L_law_485 : decode cc_L_law 485 = .ok (.goto (279), 3) := by decide +kernel
theorem dd_L_law_488 : decode cc_L_law 488 = .ok (.aload_n 1, 1) := by decide +kernel
theorem dd_L_law_489 : decode cc_L_law 489 = .ok (.aload_n 0, 1) := by decide +kernel
theorem dd_L_law_490 : decode cc_L_law 490 = .ok (.iload 4, 2) := by decide +kernel
theorem dd_L_law_492 : decode cc_L_law 492 = .ok (.iconst 1, 1) := by decide +kernel
theorem dd_L_law_493 : decode cc_L_law 493 = .ok (.iadd, 1) := by decide +kernel
theorem dd_L_law_494 : decode cc_L_law 494 = .ok (.iaload, 1) := by decide +kernel
theorem dd_L_law_495 : decode cc_L_law 495 = .ok (.aload_n 0, 1) := by decide +kernel
theorem dd_L_law_496 : decode cc_L_law 496 = .ok (.iload 4, 2) := by decide +kernel
theorem dd_L_law_498 : decode cc_L_law 498 = .ok (.iconst 2, 1) := by decide +kernel
theorem dd_L_law_499 : decode cc_L_law 499 = .ok (.iadd, 1) := by decide +kernel
theorem dd_L_law_500 : decode cc_L_law 500 = .ok (.iaload, 1) := by decide +kernel
theorem dd_L_law_501 : decode cc_L_law 501 = .ok (.invokevirtual 76, 3) := by decide +kernel
theorem dd_L_law_504 : decode cc_L_law 504 = .ok (.pop, 1) := by decide +kernel
theorem dd_L_law_505 : decode cc_L_law 505 = .ok (.aload_n 2, 1) := by decide +kernel
theorem dd_L_law_506 : decode cc_L_law 506 = .ok (.aload_n 0, 1) := by decide +kernel
theorem dd_L_law_507 : decode cc_L_law 507 = .ok (.iload 4, 2) := by decide +kernel
theorem dd_L_law_509 : decode cc_L_law 509 = .ok (.iconst 1, 1) := by decide +kernel
theorem dd_L_law_510 : decode cc_L_law 510 = .ok (.iadd, 1) := by decide +kernel
theorem dd_L_law_511 : decode cc_L_law 511 = .ok (.iaload, 1) := by decide +kernel
theorem dd_L_law_512 : decode cc_L_law 512 = .ok (.aload_n 0, 1) := by decide +kernel
theorem dd_L_law_513 : decode cc_L_law 513 = .ok (.iload 4, 2) := by decide +kernel
theorem dd_L_law_515 : decode cc_L_law 515 = .ok (.iconst 2, 1) := by decide +kernel
theorem dd_L_law_516 : decode cc_L_law 516 = .ok (.iadd, 1) := by decide +kernel
theorem dd_L_law_517 : decode cc_L_law 517 = .ok (.iaload, 1) := by decide +kernel
theorem dd_L_law_518 : decode cc_L_law 518 = .ok (.invokevirtual 80, 3) := by decide +kernel
theorem dd_L_law_521 : decode cc_L_law 521 = .ok (.pop, 1) := by decide +kernel
theorem dd_L_law_522 : decode cc_L_law 522 = .ok (.goto (242), 3) := by decide +kernel
theorem dd_L_law_525 : decode cc_L_law 525 = .ok (.aload_n 1, 1) := by decide +kernel
theorem dd_L_law_526 : decode cc_L_law 526 = .ok (.invokevirtual 81, 3) := by decide +kernel
theorem dd_L_law_529 : decode cc_L_law 529 = .ok (.pop, 1) := by decide +kernel
theorem dd_L_law_530 : decode cc_L_law 530 = .ok (.aload_n 2, 1) := by decide +kernel
theorem dd_L_law_531 : decode cc_L_law 531 = .ok (.invokevirtual 84, 3) := by decide +kernel
theorem dd_L_law_534 : decode cc_L_law 534 = .ok (.pop, 1) := by decide +kernel
theorem dd_L_law_535 : decode cc_L_law 535 = .ok (.goto (229), 3) := by decide +kernel
theorem dd_L_law_538 : decode cc_L_law 538 = .ok (.aload_n 1, 1) := by decide +kernel
theorem dd_L_law_539 : decode cc_L_law 539 = .ok (.aload_n 0, 1) := by decide +kernel
theorem dd_L_law_540 : decode cc_L_law 540 = .ok (.iload 4, 2) := by decide +kernel
theorem dd_L_law_542 : decode cc_L_law 542 = .ok (.iconst 1, 1) := by decide +kernel
theorem dd_L_law_543 : decode cc_L_law 543 = .ok (.iadd, 1) := by decide +kernel
theorem dd_L_law_544 : decode cc_L_law 544 = .ok (.iaload, 1) := by decide +kernel
theorem dd_L_law_545 : decode cc_L_law 545 = .ok (.aload_n 0, 1) := by decide +kernel
theorem dd_L_law_546 : decode cc_L_law 546 = .ok (.iload 4, 2) := by decide +kernel
theorem dd_L_law_548 : decode cc_L_law 548 = .ok (.iconst 2, 1) := by decide +kernel
theorem dd_L_law_549 : decode cc_L_law 549 = .ok (.iadd, 1) := by decide +kernel
theorem dd_L_law_550 : decode cc_L_law 550 = .ok (.iaload, 1) := by decide +kernel
theorem dd_L_law_551 : decode cc_L_law 551 = .ok (.aload_n 0, 1) := by decide +kernel
theorem dd_L_law_552 : decode cc_L_law 552 = .ok (.iload 4, 2) := by decide +kernel
theorem dd_L_law_554 : decode cc_L_law 554 = .ok (.iconst 3, 1) := by decide +kernel
theorem dd_L_law_555 : decode cc_L_law 555 = .ok (.iadd, 1) := by decide +kernel
theorem dd_L_law_556 : decode cc_L_law 556 = .ok (.iaload, 1) := by decide +kernel
theorem dd_L_law_557 : decode cc_L_law 557 = .ok (.invokevirtual 85, 3) := by decide +kernel
theorem dd_L_law_560 : decode cc_L_law 560 = .ok (.pop, 1) := by decide +kernel
theorem dd_L_law_561 : decode cc_L_law 561 = .ok (.aload_n 2, 1) := by decide +kernel
theorem dd_L_law_562 : decode cc_L_law 562 = .ok (.aload_n 0, 1) := by decide +kernel
theorem dd_L_law_563 : decode cc_L_law 563 = .ok (.iload 4, 2) := by decide +kernel
theorem dd_L_law_565 : decode cc_L_law 565 = .ok (.iconst 1, 1) := by decide +kernel
theorem dd_L_law_566 : decode cc_L_law 566 = .ok (.iadd, 1) := by decide +kernel
theorem dd_L_law_567 : decode cc_L_law 567 = .ok (.iaload, 1) := by decide +kernel
theorem dd_L_law_568 : decode cc_L_law 568 = .ok (.aload_n 0, 1) := by decide +kernel
theorem dd_L_law_569 : decode cc_L_law 569 = .ok (.iload 4, 2) := by decide +kernel
theorem dd_L_law_571 : decode cc_L_law 571 = .ok (.iconst 2, 1) := by decide +kernel
theorem dd_L_law_572 : decode cc_L_law 572 = .ok (.iadd, 1) := by decide +kernel
theorem dd_L_law_573 : decode cc_L_law 573 = .ok (.iaload, 1) := by decide +kernel
theorem dd_L_law_574 : decode cc_L_law 574 = .ok (.aload_n 0, 1) := by decide +kernel
theorem dd_L_law_575 : decode cc_L_law 575 = .ok (.iload 4, 2) := by decide +kernel
theorem dd_L_law_577 : decode cc_L_law 577 = .ok (.iconst 3, 1) := by decide +kernel
theorem dd_L_law_578 : decode cc_L_law 578 = .ok (.iadd, 1) := by decide +kernel
theorem dd_L_law_579 : decode cc_L_law 579 = .ok (.iaload, 1) := by decide +kernel
theorem dd_L_law_580 : decode cc_L_law 580 = .ok (.invokevirtual 89, 3) := by decide +kernel
theorem dd_L_law_583 : decode cc_L_law 583 = .ok (.pop, 1) := by decide +kernel
theorem dd_L_law_584 : decode cc_L_law 584 = .ok (.goto (180), 3) := by decide +kernel
theorem dd_L_law_587 : decode cc_L_law 587 = .ok (.aload_n 1, 1) := by decide +kernel
theorem dd_L_law_588 : decode cc_L_law 588 = .ok (.aload_n 0, 1) := by decide +kernel
theorem dd_L_law_589 : decode cc_L_law 589 = .ok (.iload 4, 2) := by decide +kernel
theorem dd_L_law_591 : decode cc_L_law 591 = .ok (.iconst 1, 1) := by decide +kernel
theorem dd_L_law_592 : decode cc_L_law 592 = .ok (.iadd, 1) := by decide +kernel
theorem dd_L_law_593 : decode cc_L_law 593 = .ok (.iaload, 1) := by decide +kernel
theorem dd_L_law_594 : decode cc_L_law 594 = .ok (.invokevirtual 90, 3) := by decide +kernel
theorem dd_L_law_597 : decode cc_L_law 597 = .ok (.pop, 1) := by decide +kernel
theorem dd_L_law_598 : decode cc_L_law 598 = .ok (.aload_n 2, 1) := by decide +kernel
theorem dd_L_law_599 : decode cc_L_law 599 = .ok (.aload_n 0, 1) := by decide +kernel
theorem dd_L_law_600 : decode cc_L_law 600 = .ok (.iload 4, 2) := by decide +kernel
theorem dd_L_law_602 : decode cc_L_law 602 = .ok (.iconst 1, 1) := by decide +kernel
theorem dd_L_law_603 : decode cc_L_law 603 = .ok (.iadd, 1) := by decide +kernel
theorem dd_L_law_604 : decode cc_L_law 604 = .ok (.iaload, 1) := by decide +kernel
theorem dd_L_law_605 : decode cc_L_law 605 = .ok (.invokevirtual 93, 3) := by decide +kernel
theorem dd_L_law_608 : decode cc_L_law 608 = .ok (.pop, 1) := by decide +kernel
theorem dd_L_law_609 : decode cc_L_law 609 = .ok (.goto (155), 3) := by decide +kernel
theorem dd_L_law_612 : decode cc_L_law 612 = .ok (.aload_n 1, 1) := by decide +kernel
theorem dd_L_law_613 : decode cc_L_law 613 = .ok (.aload_n 0, 1) := by decide +kernel
theorem dd_L_law_614 : decode cc_L_law 614 = .ok (.iload 4, 2) := by decide +kernel
theorem dd_L_law_616 : decode cc_L_law 616 = .ok (.iconst 1, 1) := by decide +kernel
theorem dd_L_law_617 : decode cc_L_law 617 = .ok (.iadd, 1) := by decide +kernel
theorem dd_L_law_618 : decode cc_L_law 618 = .ok (.iaload, 1) := by decide +kernel
theorem dd_L_law_619 : decode cc_L_law 619 = .ok (.invokevirtual 94, 3) := by decide +kernel
theorem dd_L_law_622 : decode cc_L_law 622 = .ok (.pop, 1) := by decide +kernel
theorem dd_L_law_623 : decode cc_L_law 623 = .ok (.aload_n 2, 1) := by decide +kernel
theorem dd_L_law_624 : decode cc_L_law 624 = .ok (.aload_n 0, 1) := by decide +kernel
theorem dd_L_law_625 : decode cc_L_law 625 = .ok (.iload 4, 2) := by decide +kernel
theorem dd_L_law_627 : decode cc_L_law 627 = .ok (.iconst 1, 1) := by decide +kernel
theorem dd_L_law_628 : decode cc_L_law 628 = .ok (.iadd, 1) := by decide +kernel
theorem dd_L_law_629 : decode cc_L_law 629 = .ok (.iaload, 1) := by decide +kernel
theorem dd_L_law_630 : decode cc_L_law 630 = .ok (.invokevirtual 97, 3) := by decide +kernel
theorem dd_L_law_633 : decode cc_L_law 633 = .ok (.pop, 1) := by decide +kernel
theorem dd_L_law_634 : decode cc_L_law 634 = .ok (.goto (130), 3) := by decide +kernel
theorem dd_L_law_637 : decode cc_L_law 637 = .ok (.aload_n 1, 1) := by decide +kernel
theorem dd_L_law_638 : decode cc_L_law 638 = .ok (.aload_n 3, 1) := by decide +kernel
theorem dd_L_law_639 : decode cc_L_law 639 = .ok (.invokestatic 98, 3) := by decide +kernel
theorem dd_L_law_642 : decode cc_L_law 642 = .ok (.istore 5, 2) := by decide +kernel
theorem dd_L_law_644 : decode cc_L_law 644 = .ok (.aload_n 2, 1) := by decide +kernel
theorem dd_L_law_645 : decode cc_L_law 645 = .ok (.invokevirtual 101, 3) := by decide +kernel
theorem dd_L_law_648 : decode cc_L_law 648 = .ok (.istore 6, 2) := by decide +kernel
theorem dd_L_law_650 : decode cc_L_law 650 = .ok (.goto (114), 3) := by decide +kernel
theorem dd_L_law_653 : decode cc_L_law 653 = .ok (.aload_n 1, 1) := by decide +kernel
theorem dd_L_law_654 : decode cc_L_law 654 = .ok (.aload_n 0, 1) := by decide +kernel
theorem dd_L_law_655 : decode cc_L_law 655 = .ok (.iload 4, 2) := by decide +kernel
theorem dd_L_law_657 : decode cc_L_law 657 = .ok (.iconst 1, 1) := by decide +kernel
theorem dd_L_law_658 : decode cc_L_law 658 = .ok (.iadd, 1) := by decide +kernel
theorem dd_L_law_659 : decode cc_L_law 659 = .ok (.iaload, 1) := by decide +kernel
theorem dd_L_law_660 : decode cc_L_law 660 = .ok (.aload_n 0, 1) := by decide +kernel
theorem dd_L_law_661 : decode cc_L_law 661 = .ok (.iload 4, 2) := by decide +kernel
theorem dd_L_law_663 : decode cc_L_law 663 = .ok (.iconst 2, 1) := by decide +kernel
theorem dd_L_law_664 : decode cc_L_law 664 = .ok (.iadd, 1) := by decide +kernel
theorem dd_L_law_665 : decode cc_L_law 665 = .ok (.iaload, 1) := by decide +kernel
theorem dd_L_law_666 : decode cc_L_law 666 = .ok (.aload_n 0, 1) := by decide +kernel
theorem dd_L_law_667 : decode cc_L_law 667 = .ok (.iload 4, 2) := by decide +kernel
theorem dd_L_law_669 : decode cc_L_law 669 = .ok (.iconst 3, 1) := by decide +kernel
theorem dd_L_law_670 : decode cc_L_law 670 = .ok (.iadd, 1) := by decide +kernel
theorem dd_L_law_671 : decode cc_L_law 671 = .ok (.iaload, 1) := by decide +kernel
theorem dd_L_law_672 : decode cc_L_law 672 = .ok (.invokevirtual 102, 3) := by decide +kernel
theorem dd_L_law_675 : decode cc_L_law 675 = .ok (.pop, 1) := by decide +kernel
theorem dd_L_law_676 : decode cc_L_law 676 = .ok (.aload_n 2, 1) := by decide +kernel
theorem dd_L_law_677 : decode cc_L_law 677 = .ok (.aload_n 0, 1) := by decide +kernel
theorem dd_L_law_678 : decode cc_L_law 678 = .ok (.iload 4, 2) := by decide +kernel
theorem dd_L_law_680 : decode cc_L_law 680 = .ok (.iconst 1, 1) := by decide +kernel
theorem dd_L_law_681 : decode cc_L_law 681 = .ok (.iadd, 1) := by decide +kernel
theorem dd_L_law_682 : decode cc_L_law 682 = .ok (.iaload, 1) := by decide +kernel
theorem dd_L_law_683 : decode cc_L_law 683 = .ok (.aload_n 0, 1) := by decide +kernel
theorem dd_L_law_684 : decode cc_L_law 684 = .ok (.iload 4, 2) := by decide +kernel
theorem dd_L_law_686 : decode cc_L_law 686 = .ok (.iconst 2, 1) := by decide +kernel
theorem dd_L_law_687 : decode cc_L_law 687 = .ok (.iadd, 1) := by decide +kernel
theorem dd_L_law_688 : decode cc_L_law 688 = .ok (.iaload, 1) := by decide +kernel
theorem dd_L_law_689 : decode cc_L_law 689 = .ok (.aload_n 0, 1) := by decide +kernel
theorem dd_L_law_690 : decode cc_L_law 690 = .ok (.iload 4, 2) := by decide +kernel
theorem dd_L_law_692 : decode cc_L_law 692 = .ok (.iconst 3, 1) := by decide +kernel
theorem dd_L_law_693 : decode cc_L_law 693 = .ok (.iadd, 1) := by decide +kernel
theorem dd_L_law_694 : decode cc_L_law 694 = .ok (.iaload, 1) := by decide +kernel
theorem dd_L_law_695 : decode cc_L_law 695 = .ok (.invokevirtual 105, 3) := by decide +kernel
theorem dd_L_law_698 : decode cc_L_law 698 = .ok (.pop, 1) := by decide +kernel
theorem dd_L_law_699 : decode cc_L_law 699 = .ok (.goto (65), 3) := by decide +kernel
theorem dd_L_law_702 : decode cc_L_law 702 = .ok (.aload_n 1, 1) := by decide +kernel
theorem dd_L_law_703 : decode cc_L_law 703 = .ok (.aload_n 0, 1) := by decide +kernel
theorem dd_L_law_704 : decode cc_L_law 704 = .ok (.iload 4, 2) := by decide +kernel
theorem dd_L_law_706 : decode cc_L_law 706 = .ok (.iconst 1, 1) := by decide +kernel
theorem dd_L_law_707 : decode cc_L_law 707 = .ok (.iadd, 1) := by decide +kernel
theorem dd_L_law_708 : decode cc_L_law 708 = .ok (.iaload, 1) := by decide +kernel
theorem dd_L_law_709 : decode cc_L_law 709 = .ok (.invokevirtual 106, 3) := by decide +kernel
theorem dd_L_law_712 : decode cc_L_law 712 = .ok (.pop, 1) := by decide +kernel
theorem dd_L_law_713 : decode cc_L_law 713 = .ok (.aload_n 2, 1) := by decide +kernel
theorem dd_L_law_714 : decode cc_L_law 714 = .ok (.aload_n 0, 1) := by decide +kernel
theorem dd_L_law_715 : decode cc_L_law 715 = .ok (.iload 4, 2) := by decide +kernel
theorem dd_L_law_717 : decode cc_L_law 717 = .ok (.iconst 1, 1) := by decide +kernel
theorem dd_L_law_718 : decode cc_L_law 718 = .ok (.iadd, 1) := by decide +kernel
theorem dd_L_law_719 : decode cc_L_law 719 = .ok (.iaload, 1) := by decide +kernel
theorem dd_L_law_720 : decode cc_L_law 720 = .ok (.invokevirtual 109, 3) := by decide +kernel
theorem dd_L_law_723 : decode cc_L_law 723 = .ok (.pop, 1) := by decide +kernel
theorem dd_L_law_724 : decode cc_L_law 724 = .ok (.goto (40), 3) := by decide +kernel
theorem dd_L_law_727 : decode cc_L_law 727 = .ok (.aload_n 1, 1) := by decide +kernel
theorem dd_L_law_728 : decode cc_L_law 728 = .ok (.aload_n 0, 1) := by decide +kernel
theorem dd_L_law_729 : decode cc_L_law 729 = .ok (.iload 4, 2) := by decide +kernel
theorem dd_L_law_731 : decode cc_L_law 731 = .ok (.iconst 1, 1) := by decide +kernel
theorem dd_L_law_732 : decode cc_L_law 732 = .ok (.iadd, 1) := by decide +kernel
theorem dd_L_law_733 : decode cc_L_law 733 = .ok (.iaload, 1) := by decide +kernel
theorem dd_L_law_734 : decode cc_L_law 734 = .ok (.aload_n 0, 1) := by decide +kernel
theorem dd_L_law_735 : decode cc_L_law 735 = .ok (.iload 4, 2) := by decide +kernel
theorem dd_L_law_737 : decode cc_L_law 737 = .ok (.iconst 2, 1) := by decide +kernel
theorem dd_L_law_738 : decode cc_L_law 738 = .ok (.iadd, 1) := by decide +kernel
theorem dd_L_law_739 : decode cc_L_law 739 = .ok (.iaload, 1) := by decide +kernel
theorem dd_L_law_740 : decode cc_L_law 740 = .ok (.invokevirtual 110, 3) := by decide +kernel
theorem dd_L_law_743 : decode cc_L_law 743 = .ok (.aload_n 2, 1) := by decide +kernel
theorem dd_L_law_744 : decode cc_L_law 744 = .ok (.aload_n 0, 1) := by decide +kernel
theorem dd_L_law_745 : decode cc_L_law 745 = .ok (.iload 4, 2) := by decide +kernel
theorem dd_L_law_747 : decode cc_L_law 747 = .ok (.iconst 1, 1) := by decide +kernel
theorem dd_L_law_748 : decode cc_L_law 748 = .ok (.iadd, 1) := by decide +kernel
theorem dd_L_law_749 : decode cc_L_law 749 = .ok (.iaload, 1) := by decide +kernel
theorem dd_L_law_750 : decode cc_L_law 750 = .ok (.aload_n 0, 1) := by decide +kernel
theorem dd_L_law_751 : decode cc_L_law 751 = .ok (.iload 4, 2) := by decide +kernel
theorem dd_L_law_753 : decode cc_L_law 753 = .ok (.iconst 2, 1) := by decide +kernel
theorem dd_L_law_754 : decode cc_L_law 754 = .ok (.iadd, 1) := by decide +kernel
theorem dd_L_law_755 : decode cc_L_law 755 = .ok (.iaload, 1) := by decide +kernel
theorem dd_L_law_756 : decode cc_L_law 756 = .ok (.invokevirtual 113, 3) := by decide +kernel
theorem dd_L_law_759 : decode cc_L_law 759 = .ok (.if_icmp .eq (5), 3) := by decide +kernel
theorem dd_L_law_762 : decode cc_L_law 762 = .ok (.iconst 0, 1) := by decide +kernel
theorem dd_L_law_763 : decode cc_L_law 763 = .ok (.ireturn, 1) := by decide +kernel
theorem dd_L_law_764 : decode cc_L_law 764 = .ok (.iinc 4 (7), 3) := by decide +kernel
theorem dd_L_law_767 : decode cc_L_law 767 = .ok (.goto (-744), 3) := by decide +kernel
theorem dd_L_law_770 : decode cc_L_law 770 = .ok (.iconst 1, 1) := by decide +kernel
theorem dd_L_law_771 : decode cc_L_law 771 = .ok (.ireturn, 1) := by decide +kernel
theorem ap3 {D : va_G} {cl : List vw_C} {a b c : va_W} {H : Heap} (h : va_P D cl ((a ++ b) ++ c) H) : va_P D cl ((c ++ a) ++ b) H := by rw [List.append_assoc]; exact h.turn
theorem ad3 {A : Nat → Prop} {a b c : va_W} (h : va_D A ((a ++ b) ++ c)) : va_D A ((c ++ a) ++ b) := by rw [List.append_assoc]; exact h.turn
theorem ap4 {D : va_G} {cl : List vw_C} {a b c : va_W} {H : Heap} (h : va_P D cl ((c ++ a) ++ b) H) : va_P D cl ((a ++ b) ++ c) H := by rw [List.append_assoc] at h; exact h.turn
theorem ad4 {A : Nat → Prop} {a b c : va_W} (h : va_D A ((c ++ a) ++ b)) : va_D A ((a ++ b) ++ c) := by rw [List.append_assoc] at h; exact h.turn
abbrev LW (kc : Nat → ClassId) (ad am : Nat → Nat) (o : Nat) (I : MI) (J : MJ) (I' : MI) (J' : MJ) (f : Nat → Int64) : va_W := (outc kc o f ++ wM kc am I' J') ++ wC kc ad I J
abbrev LA (s : State) : Nat → Prop := fun q => s.heap.size ≤ q
theorem la_eq {s : State} {H : Heap} {locs : List Loc} (hS : va_S (LA s) s.heap H locs) : ∀ q : Nat, q < s.heap.size → H[q]? = s.heap[q]? := fun q h => hS.2.1 q h (Nat.not_le.mpr h)
theorem la_st {s : State} {H : Heap} {locs : List Loc} (hS : va_S (LA s) s.heap H locs) : HSt s.heap H := fun q cell h _ => by rw [la_eq hS q (Array.getElem?_eq_some_iff.mp h).1]; exact h
theorem la_bt {tw : Nat} {s U : State} {H : Heap} {locs : List Loc} (h : BT tw s) (hS : va_S (LA s) s.heap H locs) (hU : U.heap = H) (hW : s.WarmedH U.vm) : BT tw U := by
  rw [show BT tw U = (va_Z "OpenDeal$Numbers" "WITNESSES" "[I" (.ref tw) (fun _ => False) U U.heap ∧ va_T .int tw 4 (fun j => .int (wtv j)) (fun _ => False) U U.heap) from rfl, hU]
  exact ⟨va_Z.moved hW.alike (va_Z.kept h.1 (fun a ha _ => la_eq hS a ha)), va_T.moved hW.alike (va_T.kept h.2 (fun a ha _ => la_eq hS a ha))⟩
theorem la_tw {ic : Nat} {X : String} {s U : State} {H : Heap} {locs : List Loc} (h : TW ic X s) (hS : va_S (LA s) s.heap H locs) (hU : U.heap = H) (hW : s.WarmedH U.vm) : TW ic X U := tw_to h (by rw [hU]; exact la_st hS) hW
def LBt (tw q1 q2 q3 : Nat) (s : State) : Prop := BT tw s ∧ TW 119 "java/lang/IndexOutOfBoundsException" s ∧ TW 223 "java/lang/IllegalStateException" s ∧ vk_R "OpenDeal" 117 "no such seal" q1 s ∧ vk_R "OpenDeal" 136 "no such place, or no prime" q2 s ∧ vk_R "OpenDeal" 221 "not all secrets are shown" q3 s
abbrev lgp (a b : Int32) : Int64 := (a.toInt64 <<< ((32 : Int32).toInt64 &&& 63)) ||| (b.toInt64 &&& 4294967295)
theorem ix_nat {L j : Nat} (h : j < L) (hL : L ≤ 3584) : (Int32.ofNat j).toNatClampNeg = j := Int32.toNatClampNeg_ofNat_of_lt (by omega)
theorem ix_in {L j : Nat} (h : j < L) (hL : L ≤ 3584) : vp_in (Int32.ofNat j) L := by
  have h1 := ix_nat h hL
  have h2 : ¬ (Int32.ofNat j) < 0 := fun h3 => absurd ((Int32.lt_iff_toInt_lt).mp h3) (by rw [Int32.toInt_ofNat_of_lt (by omega)]; simp)
  unfold vp_in
  rw [h1]
  intro h3
  rcases h3 with h3 | h3
  · exact h2 h3
  · omega
theorem ix_add {i k : Nat} : Int32.ofNat (7 * i) + Int32.ofNat k = Int32.ofNat (7 * i + k) := (Int32.ofNat_add ..).symm
section LX
variable {p : Program} {l : Launch} {e : Env} {R : Room} {s : State} {m : MethodId} {args : Array Value} {below : List Frame} {meth : Method} {c : Code} {H : Heap} {locs : List Loc} {cells slots : Nat} {Q : State → Prop}
variable {cc : ByteArray} {pc : Nat} {ls : Array Slot} {rest : List Value} {b L i : Nat} {xs : Nat → Int32}
/-- script[i + k] -/
theorem lx {k : Int} (kn : Nat) (hx : p.tables.exec = Jvm.exec) (hb : c.code = cc) (hX : va_X b L xs s s.heap) (hbl : b < s.heap.size) (hS : va_S (LA s) s.heap H locs) (hL : L ≤ 3584) (hi : 7 * i + 7 ≤ L) (g0 : ls[0]? = some (.val (.ref b))) (g4 : ls[4]? = some (.val (.int (Int32.ofNat (7 * i))))) (hkn : kn < 7) (hk : Int32.ofInt k = Int32.ofNat kn)
    (d1 : decode cc pc = .ok (.aload_n 0, 1)) (d2 : decode cc (pc + 1) = .ok (.iload 4, 2)) (d3 : decode cc (pc + 3) = .ok (.iconst k, 1)) (d4 : decode cc (pc + 4) = .ok (.iadd, 1)) (d5 : decode cc (pc + 5) = .ok (.iaload, 1))
    (kk : W p l e R s m args below meth c H locs cells slots Q (F0 m (pc + 6) ls (.int (xs (7 * i + kn)) :: rest))) : W p l e R s m args below meth c H locs cells slots Q (F0 m pc ls rest) := by
  refine lv_aload_n hx hb d1 rfl g0 ?_
  refine lv_iload hx hb d2 g4 ?_
  refine lv_iconst (v := Int32.ofNat kn) hx hb d3 hk ?_
  refine lv_iadd hx hb d4 ?_
  rw [ix_add]
  refine va_sld (A := LA s) hx hb hX hbl (Nat.not_le.mpr hbl) hS (ix_in (by omega) hL) d5 ?_
  rw [ix_nat (L := L) (by omega) hL]
  exact kk
theorem lx6 {k : Int} (kn : Nat) (hx : p.tables.exec = Jvm.exec) (hb : c.code = cc) (hX : va_X b L xs s s.heap) (hbl : b < s.heap.size) (hS : va_S (LA s) s.heap H locs) (hL : L ≤ 3584) (hi : 7 * i + 7 ≤ L) (g0 : ls[0]? = some (.val (.ref b))) (g4 : ls[4]? = some (.val (.int (Int32.ofNat (7 * i))))) (hkn : kn < 7) (hk : (Int8.ofInt k).toInt32 = Int32.ofNat kn)
    (d1 : decode cc pc = .ok (.aload_n 0, 1)) (d2 : decode cc (pc + 1) = .ok (.iload 4, 2)) (d3 : decode cc (pc + 3) = .ok (.bipush k, 2)) (d4 : decode cc (pc + 5) = .ok (.iadd, 1)) (d5 : decode cc (pc + 6) = .ok (.iaload, 1))
    (kk : W p l e R s m args below meth c H locs cells slots Q (F0 m (pc + 7) ls (.int (xs (7 * i + kn)) :: rest))) : W p l e R s m args below meth c H locs cells slots Q (F0 m pc ls rest) := by
  refine lv_aload_n hx hb d1 rfl g0 ?_
  refine lv_iload hx hb d2 g4 ?_
  refine lv_bipush (v := Int32.ofNat kn) hx hb d3 hk ?_
  refine lv_iadd hx hb d4 ?_
  rw [ix_add]
  refine va_sld (A := LA s) hx hb hX hbl (Nat.not_le.mpr hbl) hS (ix_in (by omega) hL) d5 ?_
  rw [ix_nat (L := L) (by omega) hL]
  exact kk
end LX
theorem lcmp_self (x : Int64) : lg_cmp x x = 0 := by simp [lg_cmp]

