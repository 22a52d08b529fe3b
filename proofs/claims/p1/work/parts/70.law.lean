/-! the law's cases; laid by program -/
abbrev cc_L_law : ByteArray := code
theorem dd_L_law_0 : decode cc_L_law 0 = .ok (.new 8, 3) := by decide +kernel
theorem dd_L_law_3 : decode cc_L_law 3 = .ok (.dup, 1) := by decide +kernel
theorem dd_L_law_4 : decode cc_L_law 4 = .ok (.invokespecial 25, 3) := by decide +kernel
theorem dd_L_law_7 : decode cc_L_law 7 = .ok (.astore_n 1, 1) := by decide +kernel
theorem dd_L_law_8 : decode cc_L_law 8 = .ok (.new 26, 3) := by decide +kernel
theorem dd_L_law_11 : decode cc_L_law 11 = .ok (.dup, 1) := by decide +kernel
theorem dd_L_law_12 : decode cc_L_law 12 = .ok (.invokespecial 28, 3) := by decide +kernel
theorem dd_L_law_15 : decode cc_L_law 15 = .ok (.astore_n 2, 1) := by decide +kernel
theorem dd_L_law_16 : decode cc_L_law 16 = .ok (.iconst 1, 1) := by decide +kernel
theorem dd_L_law_17 : decode cc_L_law 17 = .ok (.newarray .long, 2) := by decide +kernel
theorem dd_L_law_19 : decode cc_L_law 19 = .ok (.astore_n 3, 1) := by decide +kernel
theorem dd_L_law_20 : decode cc_L_law 20 = .ok (.iconst 0, 1) := by decide +kernel
theorem dd_L_law_21 : decode cc_L_law 21 = .ok (.istore 4, 2) := by decide +kernel
theorem dd_L_law_23 : decode cc_L_law 23 = .ok (.iload 4, 2) := by decide +kernel
theorem dd_L_law_25 : decode cc_L_law 25 = .ok (.aload_n 0, 1) := by decide +kernel
theorem dd_L_law_26 : decode cc_L_law 26 = .ok (.arraylength, 1) := by decide +kernel
theorem dd_L_law_27 : decode cc_L_law 27 = .ok (.bipush (7), 2) := by decide +kernel
theorem dd_L_law_29 : decode cc_L_law 29 = .ok (.isub, 1) := by decide +kernel
theorem dd_L_law_30 : decode cc_L_law 30 = .ok (.if_icmp .gt (823), 3) := by decide +kernel
theorem dd_L_law_33 : decode cc_L_law 33 = .ok (.aload_n 0, 1) := by decide +kernel
theorem dd_L_law_34 : decode cc_L_law 34 = .ok (.iload 4, 2) := by decide +kernel
theorem dd_L_law_36 : decode cc_L_law 36 = .ok (.iaload, 1) := by decide +kernel
theorem dd_L_law_37 : decode cc_L_law 37 = .ok (.bipush (31), 2) := by decide +kernel
theorem dd_L_law_39 : decode cc_L_law 39 = .ok (.iand, 1) := by decide +kernel
theorem dd_L_law_40 : decode cc_L_law 40 = .ok (.tableswitch (807) (0) (18) #[92, 117, 128, 153, 166, 293, 348, 373, 429, 466, 503, 540, 553, 602, 627, 652, 696, 745, 770], 92) := by decide +kernel
theorem dd_L_law_132 : decode cc_L_law 132 = .ok (.aload_n 1, 1) := by decide +kernel
theorem dd_L_law_133 : decode cc_L_law 133 = .ok (.aload_n 0, 1) := by decide +kernel
theorem dd_L_law_134 : decode cc_L_law 134 = .ok (.iload 4, 2) := by decide +kernel
theorem dd_L_law_136 : decode cc_L_law 136 = .ok (.iconst 1, 1) := by decide +kernel
theorem dd_L_law_137 : decode cc_L_law 137 = .ok (.iadd, 1) := by decide +kernel
theorem dd_L_law_138 : decode cc_L_law 138 = .ok (.iaload, 1) := by decide +kernel
theorem dd_L_law_139 : decode cc_L_law 139 = .ok (.invokevirtual 29, 3) := by decide +kernel
theorem dd_L_law_142 : decode cc_L_law 142 = .ok (.aload_n 2, 1) := by decide +kernel
theorem dd_L_law_143 : decode cc_L_law 143 = .ok (.aload_n 0, 1) := by decide +kernel
theorem dd_L_law_144 : decode cc_L_law 144 = .ok (.iload 4, 2) := by decide +kernel
theorem dd_L_law_146 : decode cc_L_law 146 = .ok (.iconst 1, 1) := by decide +kernel
theorem dd_L_law_147 : decode cc_L_law 147 = .ok (.iadd, 1) := by decide +kernel
theorem dd_L_law_148 : decode cc_L_law 148 = .ok (.iaload, 1) := by decide +kernel
theorem dd_L_law_149 : decode cc_L_law 149 = .ok (.invokevirtual 33, 3) := by decide +kernel
theorem dd_L_law_152 : decode cc_L_law 152 = .ok (.if_icmp .eq (695), 3) := by decide +kernel
theorem dd_L_law_155 : decode cc_L_law 155 = .ok (.iconst 0, 1) := by decide +kernel
theorem dd_L_law_156 : decode cc_L_law 156 = .ok (.ireturn, 1) := by decide +kernel
theorem dd_L_law_157 : decode cc_L_law 157 = .ok (.aload_n 1, 1) := by decide +kernel
theorem dd_L_law_158 : decode cc_L_law 158 = .ok (.invokevirtual 34, 3) := by decide +kernel
theorem dd_L_law_161 : decode cc_L_law 161 = .ok (.aload_n 2, 1) := by decide +kernel
theorem dd_L_law_162 : decode cc_L_law 162 = .ok (.invokevirtual 37, 3) := by decide +kernel
theorem dd_L_law_165 : decode cc_L_law 165 = .ok (.goto (682), 3) := by decide +kernel
theorem dd_L_law_168 : decode cc_L_law 168 = .ok (.aload_n 1, 1) := by decide +kernel
theorem dd_L_law_169 : decode cc_L_law 169 = .ok (.aload_n 0, 1) := by decide +kernel
theorem dd_L_law_170 : decode cc_L_law 170 = .ok (.iload 4, 2) := by decide +kernel
theorem dd_L_law_172 : decode cc_L_law 172 = .ok (.iconst 1, 1) := by decide +kernel
theorem dd_L_law_173 : decode cc_L_law 173 = .ok (.iadd, 1) := by decide +kernel
theorem dd_L_law_174 : decode cc_L_law 174 = .ok (.iaload, 1) := by decide +kernel
theorem dd_L_law_175 : decode cc_L_law 175 = .ok (.invokevirtual 38, 3) := by decide +kernel
theorem dd_L_law_178 : decode cc_L_law 178 = .ok (.aload_n 2, 1) := by decide +kernel
theorem dd_L_law_179 : decode cc_L_law 179 = .ok (.aload_n 0, 1) := by decide +kernel
theorem dd_L_law_180 : decode cc_L_law 180 = .ok (.iload 4, 2) := by decide +kernel
theorem dd_L_law_182 : decode cc_L_law 182 = .ok (.iconst 1, 1) := by decide +kernel
theorem dd_L_law_183 : decode cc_L_law 183 = .ok (.iadd, 1) := by decide +kernel
theorem dd_L_law_184 : decode cc_L_law 184 = .ok (.iaload, 1) := by decide +kernel
theorem dd_L_law_185 : decode cc_L_law 185 = .ok (.invokevirtual 41, 3) := by decide +kernel
theorem dd_L_law_188 : decode cc_L_law 188 = .ok (.if_icmp .eq (659), 3) := by decide +kernel
theorem dd_L_law_191 : decode cc_L_law 191 = .ok (.iconst 0, 1) := by decide +kernel
theorem dd_L_law_192 : decode cc_L_law 192 = .ok (.ireturn, 1) := by decide +kernel
theorem dd_L_law_193 : decode cc_L_law 193 = .ok (.aload_n 1, 1) := by decide +kernel
theorem dd_L_law_194 : decode cc_L_law 194 = .ok (.invokevirtual 42, 3) := by decide +kernel
theorem dd_L_law_197 : decode cc_L_law 197 = .ok (.aload_n 2, 1) := by decide +kernel
theorem dd_L_law_198 : decode cc_L_law 198 = .ok (.invokevirtual 46, 3) := by decide +kernel
theorem dd_L_law_201 : decode cc_L_law 201 = .ok (.if_icmp .eq (646), 3) := by decide +kernel
theorem dd_L_law_204 : decode cc_L_law 204 = .ok (.iconst 0, 1) := by decide +kernel
theorem dd_L_law_205 : decode cc_L_law 205 = .ok (.ireturn, 1) := by decide +kernel
theorem dd_L_law_206 : decode cc_L_law 206 = .ok (.aload_n 1, 1) := by decide +kernel
theorem dd_L_law_207 : decode cc_L_law 207 = .ok (.aload_n 0, 1) := by decide +kernel
theorem dd_L_law_208 : decode cc_L_law 208 = .ok (.iload 4, 2) := by decide +kernel
theorem dd_L_law_210 : decode cc_L_law 210 = .ok (.iconst 1, 1) := by decide +kernel
theorem dd_L_law_211 : decode cc_L_law 211 = .ok (.iadd, 1) := by decide +kernel
theorem dd_L_law_212 : decode cc_L_law 212 = .ok (.iaload, 1) := by decide +kernel
theorem dd_L_law_213 : decode cc_L_law 213 = .ok (.aload_n 0, 1) := by decide +kernel
theorem dd_L_law_214 : decode cc_L_law 214 = .ok (.iload 4, 2) := by decide +kernel
theorem dd_L_law_216 : decode cc_L_law 216 = .ok (.iconst 2, 1) := by decide +kernel
theorem dd_L_law_217 : decode cc_L_law 217 = .ok (.iadd, 1) := by decide +kernel
theorem dd_L_law_218 : decode cc_L_law 218 = .ok (.iaload, 1) := by decide +kernel
theorem dd_L_law_219 : decode cc_L_law 219 = .ok (.aload_n 0, 1) := by decide +kernel
theorem dd_L_law_220 : decode cc_L_law 220 = .ok (.iload 4, 2) := by decide +kernel
theorem dd_L_law_222 : decode cc_L_law 222 = .ok (.iconst 3, 1) := by decide +kernel
theorem dd_L_law_223 : decode cc_L_law 223 = .ok (.iadd, 1) := by decide +kernel
theorem dd_L_law_224 : decode cc_L_law 224 = .ok (.iaload, 1) := by decide +kernel
theorem dd_L_law_225 : decode cc_L_law 225 = .ok (.i2l, 1) := by decide +kernel
theorem dd_L_law_226 : decode cc_L_law 226 = .ok (.bipush (32), 2) := by decide +kernel
theorem dd_L_law_228 : decode cc_L_law 228 = .ok (.lshl, 1) := by decide +kernel
theorem dd_L_law_229 : decode cc_L_law 229 = .ok (.aload_n 0, 1) := by decide +kernel
theorem dd_L_law_230 : decode cc_L_law 230 = .ok (.iload 4, 2) := by decide +kernel
theorem dd_L_law_232 : decode cc_L_law 232 = .ok (.iconst 4, 1) := by decide +kernel
theorem dd_L_law_233 : decode cc_L_law 233 = .ok (.iadd, 1) := by decide +kernel
theorem dd_L_law_234 : decode cc_L_law 234 = .ok (.iaload, 1) := by decide +kernel
theorem dd_L_law_235 : decode cc_L_law 235 = .ok (.i2l, 1) := by decide +kernel
theorem dd_L_law_236 : decode cc_L_law 236 = .ok (.ldc2_w 47, 3) := by decide +kernel
theorem dd_L_law_239 : decode cc_L_law 239 = .ok (.land, 1) := by decide +kernel
theorem dd_L_law_240 : decode cc_L_law 240 = .ok (.lor, 1) := by decide +kernel
theorem dd_L_law_241 : decode cc_L_law 241 = .ok (.aload_n 0, 1) := by decide +kernel
theorem dd_L_law_242 : decode cc_L_law 242 = .ok (.iload 4, 2) := by decide +kernel
theorem dd_L_law_244 : decode cc_L_law 244 = .ok (.iconst 5, 1) := by decide +kernel
theorem dd_L_law_245 : decode cc_L_law 245 = .ok (.iadd, 1) := by decide +kernel
theorem dd_L_law_246 : decode cc_L_law 246 = .ok (.iaload, 1) := by decide +kernel
theorem dd_L_law_247 : decode cc_L_law 247 = .ok (.i2l, 1) := by decide +kernel
theorem dd_L_law_248 : decode cc_L_law 248 = .ok (.bipush (32), 2) := by decide +kernel
theorem dd_L_law_250 : decode cc_L_law 250 = .ok (.lshl, 1) := by decide +kernel
theorem dd_L_law_251 : decode cc_L_law 251 = .ok (.aload_n 0, 1) := by decide +kernel
theorem dd_L_law_252 : decode cc_L_law 252 = .ok (.iload 4, 2) := by decide +kernel
theorem dd_L_law_254 : decode cc_L_law 254 = .ok (.bipush (6), 2) := by decide +kernel
theorem dd_L_law_256 : decode cc_L_law 256 = .ok (.iadd, 1) := by decide +kernel
theorem dd_L_law_257 : decode cc_L_law 257 = .ok (.iaload, 1) := by decide +kernel
theorem dd_L_law_258 : decode cc_L_law 258 = .ok (.i2l, 1) := by decide +kernel
theorem dd_L_law_259 : decode cc_L_law 259 = .ok (.ldc2_w 47, 3) := by decide +kernel
theorem dd_L_law_262 : decode cc_L_law 262 = .ok (.land, 1) := by decide +kernel
theorem dd_L_law_263 : decode cc_L_law 263 = .ok (.lor, 1) := by decide +kernel
theorem dd_L_law_264 : decode cc_L_law 264 = .ok (.invokevirtual 49, 3) := by decide +kernel
theorem dd_L_law_267 : decode cc_L_law 267 = .ok (.aload_n 2, 1) := by decide +kernel
theorem dd_L_law_268 : decode cc_L_law 268 = .ok (.aload_n 0, 1) := by decide +kernel
theorem dd_L_law_269 : decode cc_L_law 269 = .ok (.iload 4, 2) := by decide +kernel
theorem dd_L_law_271 : decode cc_L_law 271 = .ok (.iconst 1, 1) := by decide +kernel
theorem dd_L_law_272 : decode cc_L_law 272 = .ok (.iadd, 1) := by decide +kernel
theorem dd_L_law_273 : decode cc_L_law 273 = .ok (.iaload, 1) := by decide +kernel
theorem dd_L_law_274 : decode cc_L_law 274 = .ok (.aload_n 0, 1) := by decide +kernel
theorem dd_L_law_275 : decode cc_L_law 275 = .ok (.iload 4, 2) := by decide +kernel
theorem dd_L_law_277 : decode cc_L_law 277 = .ok (.iconst 2, 1) := by decide +kernel
theorem dd_L_law_278 : decode cc_L_law 278 = .ok (.iadd, 1) := by decide +kernel
theorem dd_L_law_279 : decode cc_L_law 279 = .ok (.iaload, 1) := by decide +kernel
theorem dd_L_law_280 : decode cc_L_law 280 = .ok (.aload_n 0, 1) := by decide +kernel
theorem dd_L_law_281 : decode cc_L_law 281 = .ok (.iload 4, 2) := by decide +kernel
theorem dd_L_law_283 : decode cc_L_law 283 = .ok (.iconst 3, 1) := by decide +kernel
theorem dd_L_law_284 : decode cc_L_law 284 = .ok (.iadd, 1) := by decide +kernel
theorem dd_L_law_285 : decode cc_L_law 285 = .ok (.iaload, 1) := by decide +kernel
theorem dd_L_law_286 : decode cc_L_law 286 = .ok (.i2l, 1) := by decide +kernel
theorem dd_L_law_287 : decode cc_L_law 287 = .ok (.bipush (32), 2) := by decide +kernel
theorem dd_L_law_289 : decode cc_L_law 289 = .ok (.lshl, 1) := by decide +kernel
theorem dd_L_law_290 : decode cc_L_law 290 = .ok (.aload_n 0, 1) := by decide +kernel
theorem dd_L_law_291 : decode cc_L_law 291 = .ok (.iload 4, 2) := by decide +kernel
theorem dd_L_law_293 : decode cc_L_law 293 = .ok (.iconst 4, 1) := by decide +kernel
theorem dd_L_law_294 : decode cc_L_law 294 = .ok (.iadd, 1) := by decide +kernel
theorem dd_L_law_295 : decode cc_L_law 295 = .ok (.iaload, 1) := by decide +kernel
theorem dd_L_law_296 : decode cc_L_law 296 = .ok (.i2l, 1) := by decide +kernel
theorem dd_L_law_297 : decode cc_L_law 297 = .ok (.ldc2_w 47, 3) := by decide +kernel
theorem dd_L_law_300 : decode cc_L_law 300 = .ok (.land, 1) := by decide +kernel
theorem dd_L_law_301 : decode cc_L_law 301 = .ok (.lor, 1) := by decide +kernel
theorem dd_L_law_302 : decode cc_L_law 302 = .ok (.aload_n 0, 1) := by decide +kernel
theorem dd_L_law_303 : decode cc_L_law 303 = .ok (.iload 4, 2) := by decide +kernel
theorem dd_L_law_305 : decode cc_L_law 305 = .ok (.iconst 5, 1) := by decide +kernel
theorem dd_L_law_306 : decode cc_L_law 306 = .ok (.iadd, 1) := by decide +kernel
theorem dd_L_law_307 : decode cc_L_law 307 = .ok (.iaload, 1) := by decide +kernel
theorem dd_L_law_308 : decode cc_L_law 308 = .ok (.i2l, 1) := by decide +kernel
theorem dd_L_law_309 : decode cc_L_law 309 = .ok (.bipush (32), 2) := by decide +kernel
theorem dd_L_law_311 : decode cc_L_law 311 = .ok (.lshl, 1) := by decide +kernel
theorem dd_L_law_312 : decode cc_L_law 312 = .ok (.aload_n 0, 1) := by decide +kernel
theorem dd_L_law_313 : decode cc_L_law 313 = .ok (.iload 4, 2) := by decide +kernel
theorem dd_L_law_315 : decode cc_L_law 315 = .ok (.bipush (6), 2) := by decide +kernel
theorem dd_L_law_317 : decode cc_L_law 317 = .ok (.iadd, 1) := by decide +kernel
theorem dd_L_law_318 : decode cc_L_law 318 = .ok (.iaload, 1) := by decide +kernel
theorem dd_L_law_319 : decode cc_L_law 319 = .ok (.i2l, 1) := by decide +kernel
theorem dd_L_law_320 : decode cc_L_law 320 = .ok (.ldc2_w 47, 3) := by decide +kernel
theorem dd_L_law_323 : decode cc_L_law 323 = .ok (.land, 1) := by decide +kernel
theorem dd_L_law_324 : decode cc_L_law 324 = .ok (.lor, 1) := by decide +kernel
theorem dd_L_law_325 : decode cc_L_law 325 = .ok (.invokevirtual 53, 3) := by decide +kernel
theorem dd_L_law_328 : decode cc_L_law 328 = .ok (.if_icmp .eq (519), 3) := by decide +kernel
theorem dd_L_law_331 : decode cc_L_law 331 = .ok (.iconst 0, 1) := by decide +kernel
theorem dd_L_law_332 : decode cc_L_law 332 = .ok (.ireturn, 1) := by decide +kernel
theorem dd_L_law_333 : decode cc_L_law 333 = .ok (.aload_n 1, 1) := by decide +kernel
theorem dd_L_law_334 : decode cc_L_law 334 = .ok (.aload_n 0, 1) := by decide +kernel
theorem dd_L_law_335 : decode cc_L_law 335 = .ok (.iload 4, 2) := by decide +kernel
theorem dd_L_law_337 : decode cc_L_law 337 = .ok (.iconst 1, 1) := by decide +kernel
theorem dd_L_law_338 : decode cc_L_law 338 = .ok (.iadd, 1) := by decide +kernel
theorem dd_L_law_339 : decode cc_L_law 339 = .ok (.iaload, 1) := by decide +kernel
theorem dd_L_law_340 : decode cc_L_law 340 = .ok (.aload_n 3, 1) := by decide +kernel
theorem dd_L_law_341 : decode cc_L_law 341 = .ok (.invokestatic 54, 3) := by decide +kernel
theorem dd_L_law_344 : decode cc_L_law 344 = .ok (.istore 5, 2) := by decide +kernel
theorem dd_L_law_346 : decode cc_L_law 346 = .ok (.aload_n 2, 1) := by decide +kernel
theorem dd_L_law_347 : decode cc_L_law 347 = .ok (.aload_n 0, 1) := by decide +kernel
theorem dd_L_law_348 : decode cc_L_law 348 = .ok (.iload 4, 2) := by decide +kernel
theorem dd_L_law_350 : decode cc_L_law 350 = .ok (.iconst 1, 1) := by decide +kernel
theorem dd_L_law_351 : decode cc_L_law 351 = .ok (.iadd, 1) := by decide +kernel
theorem dd_L_law_352 : decode cc_L_law 352 = .ok (.iaload, 1) := by decide +kernel
theorem dd_L_law_353 : decode cc_L_law 353 = .ok (.invokevirtual 59, 3) := by decide +kernel
theorem dd_L_law_356 : decode cc_L_law 356 = .ok (.lstore 6, 2) := by decide +kernel
theorem dd_L_law_358 : decode cc_L_law 358 = .ok (.aload_n 2, 1) := by decide +kernel
theorem dd_L_law_359 : decode cc_L_law 359 = .ok (.invokevirtual 60, 3) := by decide +kernel
theorem dd_L_law_362 : decode cc_L_law 362 = .ok (.iload 5, 2) := by decide +kernel
theorem dd_L_law_364 : decode cc_L_law 364 = .ok (.if_icmp .eq (5), 3) := by decide +kernel
theorem dd_L_law_367 : decode cc_L_law 367 = .ok (.iconst 0, 1) := by decide +kernel
theorem dd_L_law_368 : decode cc_L_law 368 = .ok (.ireturn, 1) := by decide +kernel
theorem dd_L_law_369 : decode cc_L_law 369 = .ok (.iload 5, 2) := by decide +kernel
theorem dd_L_law_371 : decode cc_L_law 371 = .ok (.ifCond .ne (14), 3) := by decide +kernel
theorem dd_L_law_374 : decode cc_L_law 374 = .ok (.aload_n 3, 1) := by decide +kernel
theorem dd_L_law_375 : decode cc_L_law 375 = .ok (.iconst 0, 1) := by decide +kernel
theorem dd_L_law_376 : decode cc_L_law 376 = .ok (.laload, 1) := by decide +kernel
theorem dd_L_law_377 : decode cc_L_law 377 = .ok (.lload 6, 2) := by decide +kernel
theorem dd_L_law_379 : decode cc_L_law 379 = .ok (.lcmp, 1) := by decide +kernel
theorem dd_L_law_380 : decode cc_L_law 380 = .ok (.ifCond .eq (5), 3) := by decide +kernel
theorem dd_L_law_383 : decode cc_L_law 383 = .ok (.iconst 0, 1) := by decide +kernel
theorem dd_L_law_384 : decode cc_L_law 384 = .ok (.ireturn, 1) := by decide +kernel
theorem dd_L_law_385 : decode cc_L_law 385 = .ok (.goto (462), 3) := by decide +kernel
theorem dd_L_law_388 : decode cc_L_law 388 = .ok (.aload_n 1, 1) := by decide +kernel
theorem dd_L_law_389 : decode cc_L_law 389 = .ok (.aload_n 0, 1) := by decide +kernel
theorem dd_L_law_390 : decode cc_L_law 390 = .ok (.iload 4, 2) := by decide +kernel
theorem dd_L_law_392 : decode cc_L_law 392 = .ok (.iconst 1, 1) := by decide +kernel
theorem dd_L_law_393 : decode cc_L_law 393 = .ok (.iadd, 1) := by decide +kernel
theorem dd_L_law_394 : decode cc_L_law 394 = .ok (.iaload, 1) := by decide +kernel
theorem dd_L_law_395 : decode cc_L_law 395 = .ok (.invokevirtual 63, 3) := by decide +kernel
theorem dd_L_law_398 : decode cc_L_law 398 = .ok (.aload_n 2, 1) := by decide +kernel
theorem dd_L_law_399 : decode cc_L_law 399 = .ok (.aload_n 0, 1) := by decide +kernel
theorem dd_L_law_400 : decode cc_L_law 400 = .ok (.iload 4, 2) := by decide +kernel
theorem dd_L_law_402 : decode cc_L_law 402 = .ok (.iconst 1, 1) := by decide +kernel
theorem dd_L_law_403 : decode cc_L_law 403 = .ok (.iadd, 1) := by decide +kernel
theorem dd_L_law_404 : decode cc_L_law 404 = .ok (.iaload, 1) := by decide +kernel
theorem dd_L_law_405 : decode cc_L_law 405 = .ok (.invokevirtual 66, 3) := by decide +kernel
theorem dd_L_law_408 : decode cc_L_law 408 = .ok (.if_icmp .eq (439), 3) := by decide +kernel
theorem dd_L_law_411 : decode cc_L_law 411 = .ok (.iconst 0, 1) := by decide +kernel
theorem dd_L_law_412 : decode cc_L_law 412 = .ok (.ireturn, 1) := by decide +kernel
theorem dd_L_law_413 : decode cc_L_law 413 = .ok (.aload_n 1, 1) := by decide +kernel
theorem dd_L_law_414 : decode cc_L_law 414 = .ok (.aload_n 0, 1) := by decide +kernel
theorem dd_L_law_415 : decode cc_L_law 415 = .ok (.iload 4, 2) := by decide +kernel
theorem dd_L_law_417 : decode cc_L_law 417 = .ok (.iconst 1, 1) := by decide +kernel
theorem dd_L_law_418 : decode cc_L_law 418 = .ok (.iadd, 1) := by decide +kernel
theorem dd_L_law_419 : decode cc_L_law 419 = .ok (.iaload, 1) := by decide +kernel
theorem dd_L_law_420 : decode cc_L_law 420 = .ok (.aload_n 3, 1) := by decide +kernel
theorem dd_L_law_421 : decode cc_L_law 421 = .ok (.invokestatic 67, 3) := by decide +kernel
theorem dd_L_law_424 : decode cc_L_law 424 = .ok (.istore 5, 2) := by decide +kernel
theorem dd_L_law_426 : decode cc_L_law 426 = .ok (.aload_n 2, 1) := by decide +kernel
theorem dd_L_law_427 : decode cc_L_law 427 = .ok (.aload_n 0, 1) := by decide +kernel
theorem dd_L_law_428 : decode cc_L_law 428 = .ok (.iload 4, 2) := by decide +kernel
theorem dd_L_law_430 : decode cc_L_law 430 = .ok (.iconst 1, 1) := by decide +kernel
theorem dd_L_law_431 : decode cc_L_law 431 = .ok (.iadd, 1) := by decide +kernel
theorem dd_L_law_432 : decode cc_L_law 432 = .ok (.iaload, 1) := by decide +kernel
theorem dd_L_law_433 : decode cc_L_law 433 = .ok (.invokevirtual 69, 3) := by decide +kernel
theorem dd_L_law_436 : decode cc_L_law 436 = .ok (.istore 6, 2) := by decide +kernel
theorem dd_L_law_438 : decode cc_L_law 438 = .ok (.aload_n 2, 1) := by decide +kernel
theorem dd_L_law_439 : decode cc_L_law 439 = .ok (.invokevirtual 60, 3) := by decide +kernel
theorem dd_L_law_442 : decode cc_L_law 442 = .ok (.iload 5, 2) := by decide +kernel
theorem dd_L_law_444 : decode cc_L_law 444 = .ok (.if_icmp .eq (5), 3) := by decide +kernel
theorem dd_L_law_447 : decode cc_L_law 447 = .ok (.iconst 0, 1) := by decide +kernel
theorem dd_L_law_448 : decode cc_L_law 448 = .ok (.ireturn, 1) := by decide +kernel
theorem dd_L_law_449 : decode cc_L_law 449 = .ok (.iload 5, 2) := by decide +kernel
theorem dd_L_law_451 : decode cc_L_law 451 = .ok (.ifCond .ne (15), 3) := by decide +kernel
theorem dd_L_law_454 : decode cc_L_law 454 = .ok (.aload_n 3, 1) := by decide +kernel
theorem dd_L_law_455 : decode cc_L_law 455 = .ok (.iconst 0, 1) := by decide +kernel
theorem dd_L_law_456 : decode cc_L_law 456 = .ok (.laload, 1) := by decide +kernel
theorem dd_L_law_457 : decode cc_L_law 457 = .ok (.iload 6, 2) := by decide +kernel
theorem dd_L_law_459 : decode cc_L_law 459 = .ok (.i2l, 1) := by decide +kernel
theorem dd_L_law_460 : decode cc_L_law 460 = .ok (.lcmp, 1) := by decide +kernel
theorem dd_L_law_461 : decode cc_L_law 461 = .ok (.ifCond .eq (5), 3) := by decide +kernel
theorem dd_L_law_464 : decode cc_L_law 464 = .ok (.iconst 0, 1) := by decide +kernel
theorem dd_L_law_465 : decode cc_L_law 465 = .ok (.ireturn, 1) := by decide +kernel
theorem dd_L_law_466 : decode cc_L_law 466 = .ok (.goto (381), 3) := by decide +kernel
theorem dd_L_law_469 : decode cc_L_law 469 = .ok (.aload_n 1, 1) := by decide +kernel
theorem dd_L_law_470 : decode cc_L_law 470 = .ok (.aload_n 0, 1) := by decide +kernel
theorem dd_L_law_471 : decode cc_L_law 471 = .ok (.iload 4, 2) := by decide +kernel
theorem dd_L_law_473 : decode cc_L_law 473 = .ok (.iconst 1, 1) := by decide +kernel
theorem dd_L_law_474 : decode cc_L_law 474 = .ok (.iadd, 1) := by decide +kernel
theorem dd_L_law_475 : decode cc_L_law 475 = .ok (.iaload, 1) := by decide +kernel
theorem dd_L_law_476 : decode cc_L_law 476 = .ok (.aload_n 0, 1) := by decide +kernel
theorem dd_L_law_477 : decode cc_L_law 477 = .ok (.iload 4, 2) := by decide +kernel
theorem dd_L_law_479 : decode cc_L_law 479 = .ok (.iconst 2, 1) := by decide +kernel
theorem dd_L_law_480 : decode cc_L_law 480 = .ok (.iadd, 1) := by decide +kernel
theorem dd_L_law_481 : decode cc_L_law 481 = .ok (.iaload, 1) := by decide +kernel
theorem dd_L_law_482 : decode cc_L_law 482 = .ok (.invokevirtual 70, 3) := by decide +kernel
theorem dd_L_law_485 : decode cc_L_law 485 = .ok (.aload_n 2, 1) := by decide +kernel
theorem dd_L_law_486 : decode cc_L_law 486 = .ok (.aload_n 0, 1) := by decide +kernel
theorem dd_L_law_487 : decode cc_L_law 487 = .ok (.iload 4, 2) := by decide +kernel
theorem dd_L_law_489 : decode cc_L_law 489 = .ok (.iconst 1, 1) := by decide +kernel
theorem dd_L_law_490 : decode cc_L_law 490 = .ok (.iadd, 1) := by decide +kernel
theorem dd_L_law_491 : decode cc_L_law 491 = .ok (.iaload, 1) := by decide +kernel
theorem dd_L_law_492 : decode cc_L_law 492 = .ok (.aload_n 0, 1) := by decide +kernel
theorem dd_L_law_493 : decode cc_L_law 493 = .ok (.iload 4, 2) := by decide +kernel
theorem dd_L_law_495 : decode cc_L_law 495 = .ok (.iconst 2, 1) := by decide +kernel
theorem dd_L_law_496 : decode cc_L_law 496 = .ok (.iadd, 1) := by decide +kernel
theorem dd_L_law_497 : decode cc_L_law 497 = .ok (.iaload, 1) := by decide +kernel
theorem dd_L_law_498 : decode cc_L_law 498 = .ok (.invokevirtual 74, 3) := by decide +kernel
theorem dd_L_law_501 : decode cc_L_law 501 = .ok (.if_icmp .eq (346), 3) := by decide +kernel
theorem dd_L_law_504 : decode cc_L_law 504 = .ok (.iconst 0, 1) := by decide +kernel
theorem dd_L_law_505 : decode cc_L_law 505 = .ok (.ireturn, 1) := by decide +kernel
theorem dd_L_law_506 : decode cc_L_law 506 = .ok (.aload_n 1, 1) := by decide +kernel
theorem dd_L_law_507 : decode cc_L_law 507 = .ok (.aload_n 0, 1) := by decide +kernel
theorem dd_L_law_508 : decode cc_L_law 508 = .ok (.iload 4, 2) := by decide +kernel
theorem dd_L_law_510 : decode cc_L_law 510 = .ok (.iconst 1, 1) := by decide +kernel
theorem dd_L_law_511 : decode cc_L_law 511 = .ok (.iadd, 1) := by decide +kernel
theorem dd_L_law_512 : decode cc_L_law 512 = .ok (.iaload, 1) := by decide +kernel
theorem dd_L_law_513 : decode cc_L_law 513 = .ok (.aload_n 0, 1) := by decide +kernel
theorem dd_L_law_514 : decode cc_L_law 514 = .ok (.iload 4, 2) := by decide +kernel
theorem dd_L_law_516 : decode cc_L_law 516 = .ok (.iconst 2, 1) := by decide +kernel
theorem dd_L_law_517 : decode cc_L_law 517 = .ok (.iadd, 1) := by decide +kernel
theorem dd_L_law_518 : decode cc_L_law 518 = .ok (.iaload, 1) := by decide +kernel
theorem dd_L_law_519 : decode cc_L_law 519 = .ok (.invokevirtual 75, 3) := by decide +kernel
theorem dd_L_law_522 : decode cc_L_law 522 = .ok (.aload_n 2, 1) := by decide +kernel
theorem dd_L_law_523 : decode cc_L_law 523 = .ok (.aload_n 0, 1) := by decide +kernel
theorem dd_L_law_524 : decode cc_L_law 524 = .ok (.iload 4, 2) := by decide +kernel
theorem dd_L_law_526 : decode cc_L_law 526 = .ok (.iconst 1, 1) := by decide +kernel
theorem dd_L_law_527 : decode cc_L_law 527 = .ok (.iadd, 1) := by decide +kernel
theorem dd_L_law_528 : decode cc_L_law 528 = .ok (.iaload, 1) := by decide +kernel
theorem dd_L_law_529 : decode cc_L_law 529 = .ok (.aload_n 0, 1) := by decide +kernel
theorem dd_L_law_530 : decode cc_L_law 530 = .ok (.iload 4, 2) := by decide +kernel
theorem dd_L_law_532 : decode cc_L_law 532 = .ok (.iconst 2, 1) := by decide +kernel
theorem dd_L_law_533 : decode cc_L_law 533 = .ok (.iadd, 1) := by decide +kernel
theorem dd_L_law_534 : decode cc_L_law 534 = .ok (.iaload, 1) := by decide +kernel
theorem dd_L_law_535 : decode cc_L_law 535 = .ok (.invokevirtual 78, 3) := by decide +kernel
theorem dd_L_law_538 : decode cc_L_law 538 = .ok (.if_icmp .eq (309), 3) := by decide +kernel
theorem dd_L_law_541 : decode cc_L_law 541 = .ok (.iconst 0, 1) := by decide +kernel
theorem dd_L_law_542 : decode cc_L_law 542 = .ok (.ireturn, 1) := by decide +kernel
theorem dd_L_law_543 : decode cc_L_law 543 = .ok (.aload_n 1, 1) := by decide +kernel
theorem dd_L_law_544 : decode cc_L_law 544 = .ok (.aload_n 0, 1) := by decide +kernel
theorem dd_L_law_545 : decode cc_L_law 545 = .ok (.iload 4, 2) := by decide +kernel
theorem dd_L_law_547 : decode cc_L_law 547 = .ok (.iconst 1, 1) := by decide +kernel
theorem dd_L_law_548 : decode cc_L_law 548 = .ok (.iadd, 1) := by decide +kernel
theorem dd_L_law_549 : decode cc_L_law 549 = .ok (.iaload, 1) := by decide +kernel
theorem dd_L_law_550 : decode cc_L_law 550 = .ok (.aload_n 0, 1) := by decide +kernel
theorem dd_L_law_551 : decode cc_L_law 551 = .ok (.iload 4, 2) := by decide +kernel
theorem dd_L_law_553 : decode cc_L_law 553 = .ok (.iconst 2, 1) := by decide +kernel
theorem dd_L_law_554 : decode cc_L_law 554 = .ok (.iadd, 1) := by decide +kernel
theorem dd_L_law_555 : decode cc_L_law 555 = .ok (.iaload, 1) := by decide +kernel
theorem dd_L_law_556 : decode cc_L_law 556 = .ok (.invokevirtual 79, 3) := by decide +kernel
theorem dd_L_law_559 : decode cc_L_law 559 = .ok (.aload_n 2, 1) := by decide +kernel
theorem dd_L_law_560 : decode cc_L_law 560 = .ok (.aload_n 0, 1) := by decide +kernel
theorem dd_L_law_561 : decode cc_L_law 561 = .ok (.iload 4, 2) := by decide +kernel
theorem dd_L_law_563 : decode cc_L_law 563 = .ok (.iconst 1, 1) := by decide +kernel
theorem dd_L_law_564 : decode cc_L_law 564 = .ok (.iadd, 1) := by decide +kernel
theorem dd_L_law_565 : decode cc_L_law 565 = .ok (.iaload, 1) := by decide +kernel
theorem dd_L_law_566 : decode cc_L_law 566 = .ok (.aload_n 0, 1) := by decide +kernel
theorem dd_L_law_567 : decode cc_L_law 567 = .ok (.iload 4, 2) := by decide +kernel
theorem dd_L_law_569 : decode cc_L_law 569 = .ok (.iconst 2, 1) := by decide +kernel
theorem dd_L_law_570 : decode cc_L_law 570 = .ok (.iadd, 1) := by decide +kernel
theorem dd_L_law_571 : decode cc_L_law 571 = .ok (.iaload, 1) := by decide +kernel
theorem dd_L_law_572 : decode cc_L_law 572 = .ok (.invokevirtual 83, 3) := by decide +kernel
theorem dd_L_law_575 : decode cc_L_law 575 = .ok (.if_icmp .eq (272), 3) := by decide +kernel
theorem dd_L_law_578 : decode cc_L_law 578 = .ok (.iconst 0, 1) := by decide +kernel
theorem dd_L_law_579 : decode cc_L_law 579 = .ok (.ireturn, 1) := by decide +kernel
theorem dd_L_law_580 : decode cc_L_law 580 = .ok (.aload_n 1, 1) := by decide +kernel
theorem dd_L_law_581 : decode cc_L_law 581 = .ok (.invokevirtual 84, 3) := by decide +kernel
theorem dd_L_law_584 : decode cc_L_law 584 = .ok (.aload_n 2, 1) := by decide +kernel
theorem dd_L_law_585 : decode cc_L_law 585 = .ok (.invokevirtual 87, 3) := by decide +kernel
theorem dd_L_law_588 : decode cc_L_law 588 = .ok (.if_icmp .eq (259), 3) := by decide +kernel
theorem dd_L_law_591 : decode cc_L_law 591 = .ok (.iconst 0, 1) := by decide +kernel
theorem dd_L_law_592 : decode cc_L_law 592 = .ok (.ireturn, 1) := by decide +kernel
theorem dd_L_law_593 : decode cc_L_law 593 = .ok (.aload_n 1, 1) := by decide +kernel
theorem dd_L_law_594 : decode cc_L_law 594 = .ok (.aload_n 0, 1) := by decide +kernel
theorem dd_L_law_595 : decode cc_L_law 595 = .ok (.iload 4, 2) := by decide +kernel
theorem dd_L_law_597 : decode cc_L_law 597 = .ok (.iconst 1, 1) := by decide +kernel
theorem dd_L_law_598 : decode cc_L_law 598 = .ok (.iadd, 1) := by decide +kernel
theorem dd_L_law_599 : decode cc_L_law 599 = .ok (.iaload, 1) := by decide +kernel
theorem dd_L_law_600 : decode cc_L_law 600 = .ok (.aload_n 0, 1) := by decide +kernel
theorem dd_L_law_601 : decode cc_L_law 601 = .ok (.iload 4, 2) := by decide +kernel
theorem dd_L_law_603 : decode cc_L_law 603 = .ok (.iconst 2, 1) := by decide +kernel
theorem dd_L_law_604 : decode cc_L_law 604 = .ok (.iadd, 1) := by decide +kernel
theorem dd_L_law_605 : decode cc_L_law 605 = .ok (.iaload, 1) := by decide +kernel
theorem dd_L_law_606 : decode cc_L_law 606 = .ok (.aload_n 0, 1) := by decide +kernel
theorem dd_L_law_607 : decode cc_L_law 607 = .ok (.iload 4, 2) := by decide +kernel
theorem dd_L_law_609 : decode cc_L_law 609 = .ok (.iconst 3, 1) := by decide +kernel
theorem dd_L_law_610 : decode cc_L_law 610 = .ok (.iadd, 1) := by decide +kernel
theorem dd_L_law_611 : decode cc_L_law 611 = .ok (.iaload, 1) := by decide +kernel
theorem dd_L_law_612 : decode cc_L_law 612 = .ok (.invokevirtual 88, 3) := by decide +kernel
theorem dd_L_law_615 : decode cc_L_law 615 = .ok (.aload_n 2, 1) := by decide +kernel
theorem dd_L_law_616 : decode cc_L_law 616 = .ok (.aload_n 0, 1) := by decide +kernel
theorem dd_L_law_617 : decode cc_L_law 617 = .ok (.iload 4, 2) := by decide +kernel
theorem dd_L_law_619 : decode cc_L_law 619 = .ok (.iconst 1, 1) := by decide +kernel
theorem dd_L_law_620 : decode cc_L_law 620 = .ok (.iadd, 1) := by decide +kernel
theorem dd_L_law_621 : decode cc_L_law 621 = .ok (.iaload, 1) := by decide +kernel
theorem dd_L_law_622 : decode cc_L_law 622 = .ok (.aload_n 0, 1) := by decide +kernel
theorem dd_L_law_623 : decode cc_L_law 623 = .ok (.iload 4, 2) := by decide +kernel
theorem dd_L_law_625 : decode cc_L_law 625 = .ok (.iconst 2, 1) := by decide +kernel
theorem dd_L_law_626 : decode cc_L_law 626 = .ok (.iadd, 1) := by decide +kernel
theorem dd_L_law_627 : decode cc_L_law 627 = .ok (.iaload, 1) := by decide +kernel
theorem dd_L_law_628 : decode cc_L_law 628 = .ok (.aload_n 0, 1) := by decide +kernel
theorem dd_L_law_629 : decode cc_L_law 629 = .ok (.iload 4, 2) := by decide +kernel
theorem dd_L_law_631 : decode cc_L_law 631 = .ok (.iconst 3, 1) := by decide +kernel
theorem dd_L_law_632 : decode cc_L_law 632 = .ok (.iadd, 1) := by decide +kernel
theorem dd_L_law_633 : decode cc_L_law 633 = .ok (.iaload, 1) := by decide +kernel
theorem dd_L_law_634 : decode cc_L_law 634 = .ok (.invokevirtual 92, 3) := by decide +kernel
theorem dd_L_law_637 : decode cc_L_law 637 = .ok (.if_icmp .eq (210), 3) := by decide +kernel
theorem dd_L_law_640 : decode cc_L_law 640 = .ok (.iconst 0, 1) := by decide +kernel
theorem dd_L_law_641 : decode cc_L_law 641 = .ok (.ireturn, 1) := by decide +kernel
theorem dd_L_law_642 : decode cc_L_law 642 = .ok (.aload_n 1, 1) := by decide +kernel
theorem dd_L_law_643 : decode cc_L_law 643 = .ok (.aload_n 0, 1) := by decide +kernel
theorem dd_L_law_644 : decode cc_L_law 644 = .ok (.iload 4, 2) := by decide +kernel
theorem dd_L_law_646 : decode cc_L_law 646 = .ok (.iconst 1, 1) := by decide +kernel
theorem dd_L_law_647 : decode cc_L_law 647 = .ok (.iadd, 1) := by decide +kernel
theorem dd_L_law_648 : decode cc_L_law 648 = .ok (.iaload, 1) := by decide +kernel
theorem dd_L_law_649 : decode cc_L_law 649 = .ok (.invokevirtual 93, 3) := by decide +kernel
theorem dd_L_law_652 : decode cc_L_law 652 = .ok (.aload_n 2, 1) := by decide +kernel
theorem dd_L_law_653 : decode cc_L_law 653 = .ok (.aload_n 0, 1) := by decide +kernel
theorem dd_L_law_654 : decode cc_L_law 654 = .ok (.iload 4, 2) := by decide +kernel
theorem dd_L_law_656 : decode cc_L_law 656 = .ok (.iconst 1, 1) := by decide +kernel
theorem dd_L_law_657 : decode cc_L_law 657 = .ok (.iadd, 1) := by decide +kernel
theorem dd_L_law_658 : decode cc_L_law 658 = .ok (.iaload, 1) := by decide +kernel
theorem dd_L_law_659 : decode cc_L_law 659 = .ok (.invokevirtual 96, 3) := by decide +kernel
theorem dd_L_law_662 : decode cc_L_law 662 = .ok (.if_icmp .eq (185), 3) := by decide +kernel
theorem dd_L_law_665 : decode cc_L_law 665 = .ok (.iconst 0, 1) := by decide +kernel
theorem dd_L_law_666 : decode cc_L_law 666 = .ok (.ireturn, 1) := by decide +kernel
theorem dd_L_law_667 : decode cc_L_law 667 = .ok (.aload_n 1, 1) := by decide +kernel
theorem dd_L_law_668 : decode cc_L_law 668 = .ok (.aload_n 0, 1) := by decide +kernel
theorem dd_L_law_669 : decode cc_L_law 669 = .ok (.iload 4, 2) := by decide +kernel
theorem dd_L_law_671 : decode cc_L_law 671 = .ok (.iconst 1, 1) := by decide +kernel
theorem dd_L_law_672 : decode cc_L_law 672 = .ok (.iadd, 1) := by decide +kernel
theorem dd_L_law_673 : decode cc_L_law 673 = .ok (.iaload, 1) := by decide +kernel
theorem dd_L_law_674 : decode cc_L_law 674 = .ok (.invokevirtual 97, 3) := by decide +kernel
theorem dd_L_law_677 : decode cc_L_law 677 = .ok (.aload_n 2, 1) := by decide +kernel
theorem dd_L_law_678 : decode cc_L_law 678 = .ok (.aload_n 0, 1) := by decide +kernel
theorem dd_L_law_679 : decode cc_L_law 679 = .ok (.iload 4, 2) := by decide +kernel
theorem dd_L_law_681 : decode cc_L_law 681 = .ok (.iconst 1, 1) := by decide +kernel
theorem dd_L_law_682 : decode cc_L_law 682 = .ok (.iadd, 1) := by decide +kernel
theorem dd_L_law_683 : decode cc_L_law 683 = .ok (.iaload, 1) := by decide +kernel
theorem dd_L_law_684 : decode cc_L_law 684 = .ok (.invokevirtual 100, 3) := by decide +kernel
theorem dd_L_law_687 : decode cc_L_law 687 = .ok (.if_icmp .eq (160), 3) := by decide +kernel
theorem dd_L_law_690 : decode cc_L_law 690 = .ok (.iconst 0, 1) := by decide +kernel
theorem dd_L_law_691 : decode cc_L_law 691 = .ok (.ireturn, 1) := by decide +kernel
theorem dd_L_law_692 : decode cc_L_law 692 = .ok (.aload_n 1, 1) := by decide +kernel
theorem dd_L_law_693 : decode cc_L_law 693 = .ok (.aload_n 3, 1) := by decide +kernel
theorem dd_L_law_694 : decode cc_L_law 694 = .ok (.invokestatic 101, 3) := by decide +kernel
theorem dd_L_law_697 : decode cc_L_law 697 = .ok (.istore 5, 2) := by decide +kernel
theorem dd_L_law_699 : decode cc_L_law 699 = .ok (.aload_n 2, 1) := by decide +kernel
theorem dd_L_law_700 : decode cc_L_law 700 = .ok (.invokevirtual 104, 3) := by decide +kernel
theorem dd_L_law_703 : decode cc_L_law 703 = .ok (.istore 6, 2) := by decide +kernel
theorem dd_L_law_705 : decode cc_L_law 705 = .ok (.aload_n 2, 1) := by decide +kernel
theorem dd_L_law_706 : decode cc_L_law 706 = .ok (.invokevirtual 60, 3) := by decide +kernel
theorem dd_L_law_709 : decode cc_L_law 709 = .ok (.iload 5, 2) := by decide +kernel
theorem dd_L_law_711 : decode cc_L_law 711 = .ok (.if_icmp .eq (5), 3) := by decide +kernel
theorem dd_L_law_714 : decode cc_L_law 714 = .ok (.iconst 0, 1) := by decide +kernel
theorem dd_L_law_715 : decode cc_L_law 715 = .ok (.ireturn, 1) := by decide +kernel
theorem dd_L_law_716 : decode cc_L_law 716 = .ok (.iload 5, 2) := by decide +kernel
theorem dd_L_law_718 : decode cc_L_law 718 = .ok (.ifCond .ne (15), 3) := by decide +kernel
theorem dd_L_law_721 : decode cc_L_law 721 = .ok (.aload_n 3, 1) := by decide +kernel
theorem dd_L_law_722 : decode cc_L_law 722 = .ok (.iconst 0, 1) := by decide +kernel
theorem dd_L_law_723 : decode cc_L_law 723 = .ok (.laload, 1) := by decide +kernel
theorem dd_L_law_724 : decode cc_L_law 724 = .ok (.iload 6, 2) := by decide +kernel
theorem dd_L_law_726 : decode cc_L_law 726 = .ok (.i2l, 1) := by decide +kernel
theorem dd_L_law_727 : decode cc_L_law 727 = .ok (.lcmp, 1) := by decide +kernel
theorem dd_L_law_728 : decode cc_L_law 728 = .ok (.ifCond .eq (5), 3) := by decide +kernel
theorem dd_L_law_731 : decode cc_L_law 731 = .ok (.iconst 0, 1) := by decide +kernel
theorem dd_L_law_732 : decode cc_L_law 732 = .ok (.ireturn, 1) := by decide +kernel
theorem dd_L_law_733 : decode cc_L_law 733 = .ok (.goto (114), 3) := by decide +kernel
theorem dd_L_law_736 : decode cc_L_law 736 = .ok (.aload_n 1, 1) := by decide +kernel
theorem dd_L_law_737 : decode cc_L_law 737 = .ok (.aload_n 0, 1) := by decide +kernel
theorem dd_L_law_738 : decode cc_L_law 738 = .ok (.iload 4, 2) := by decide +kernel
theorem dd_L_law_740 : decode cc_L_law 740 = .ok (.iconst 1, 1) := by decide +kernel
theorem dd_L_law_741 : decode cc_L_law 741 = .ok (.iadd, 1) := by decide +kernel
theorem dd_L_law_742 : decode cc_L_law 742 = .ok (.iaload, 1) := by decide +kernel
theorem dd_L_law_743 : decode cc_L_law 743 = .ok (.aload_n 0, 1) := by decide +kernel
theorem dd_L_law_744 : decode cc_L_law 744 = .ok (.iload 4, 2) := by decide +kernel
theorem dd_L_law_746 : decode cc_L_law 746 = .ok (.iconst 2, 1) := by decide +kernel
theorem dd_L_law_747 : decode cc_L_law 747 = .ok (.iadd, 1) := by decide +kernel
theorem dd_L_law_748 : decode cc_L_law 748 = .ok (.iaload, 1) := by decide +kernel
theorem dd_L_law_749 : decode cc_L_law 749 = .ok (.aload_n 0, 1) := by decide +kernel
theorem dd_L_law_750 : decode cc_L_law 750 = .ok (.iload 4, 2) := by decide +kernel
theorem dd_L_law_752 : decode cc_L_law 752 = .ok (.iconst 3, 1) := by decide +kernel
theorem dd_L_law_753 : decode cc_L_law 753 = .ok (.iadd, 1) := by decide +kernel
theorem dd_L_law_754 : decode cc_L_law 754 = .ok (.iaload, 1) := by decide +kernel
theorem dd_L_law_755 : decode cc_L_law 755 = .ok (.invokevirtual 105, 3) := by decide +kernel
theorem dd_L_law_758 : decode cc_L_law 758 = .ok (.aload_n 2, 1) := by decide +kernel
theorem dd_L_law_759 : decode cc_L_law 759 = .ok (.aload_n 0, 1) := by decide +kernel
theorem dd_L_law_760 : decode cc_L_law 760 = .ok (.iload 4, 2) := by decide +kernel
theorem dd_L_law_762 : decode cc_L_law 762 = .ok (.iconst 1, 1) := by decide +kernel
theorem dd_L_law_763 : decode cc_L_law 763 = .ok (.iadd, 1) := by decide +kernel
theorem dd_L_law_764 : decode cc_L_law 764 = .ok (.iaload, 1) := by decide +kernel
theorem dd_L_law_765 : decode cc_L_law 765 = .ok (.aload_n 0, 1) := by decide +kernel
theorem dd_L_law_766 : decode cc_L_law 766 = .ok (.iload 4, 2) := by decide +kernel
theorem dd_L_law_768 : decode cc_L_law 768 = .ok (.iconst 2, 1) := by decide +kernel
theorem dd_L_law_769 : decode cc_L_law 769 = .ok (.iadd, 1) := by decide +kernel
theorem dd_L_law_770 : decode cc_L_law 770 = .ok (.iaload, 1) := by decide +kernel
theorem dd_L_law_771 : decode cc_L_law 771 = .ok (.aload_n 0, 1) := by decide +kernel
theorem dd_L_law_772 : decode cc_L_law 772 = .ok (.iload 4, 2) := by decide +kernel
theorem dd_L_law_774 : decode cc_L_law 774 = .ok (.iconst 3, 1) := by decide +kernel
theorem dd_L_law_775 : decode cc_L_law 775 = .ok (.iadd, 1) := by decide +kernel
theorem dd_L_law_776 : decode cc_L_law 776 = .ok (.iaload, 1) := by decide +kernel
theorem dd_L_law_777 : decode cc_L_law 777 = .ok (.invokevirtual 108, 3) := by decide +kernel
theorem dd_L_law_780 : decode cc_L_law 780 = .ok (.if_icmp .eq (67), 3) := by decide +kernel
theorem dd_L_law_783 : decode cc_L_law 783 = .ok (.iconst 0, 1) := by decide +kernel
theorem dd_L_law_784 : decode cc_L_law 784 = .ok (.ireturn, 1) := by decide +kernel
theorem dd_L_law_785 : decode cc_L_law 785 = .ok (.aload_n 1, 1) := by decide +kernel
theorem dd_L_law_786 : decode cc_L_law 786 = .ok (.aload_n 0, 1) := by decide +kernel
theorem dd_L_law_787 : decode cc_L_law 787 = .ok (.iload 4, 2) := by decide +kernel
theorem dd_L_law_789 : decode cc_L_law 789 = .ok (.iconst 1, 1) := by decide +kernel
theorem dd_L_law_790 : decode cc_L_law 790 = .ok (.iadd, 1) := by decide +kernel
theorem dd_L_law_791 : decode cc_L_law 791 = .ok (.iaload, 1) := by decide +kernel
theorem dd_L_law_792 : decode cc_L_law 792 = .ok (.invokevirtual 109, 3) := by decide +kernel
theorem dd_L_law_795 : decode cc_L_law 795 = .ok (.aload_n 2, 1) := by decide +kernel
theorem dd_L_law_796 : decode cc_L_law 796 = .ok (.aload_n 0, 1) := by decide +kernel
theorem dd_L_law_797 : decode cc_L_law 797 = .ok (.iload 4, 2) := by decide +kernel
theorem dd_L_law_799 : decode cc_L_law 799 = .ok (.iconst 1, 1) := by decide +kernel
theorem dd_L_law_800 : decode cc_L_law 800 = .ok (.iadd, 1) := by decide +kernel
theorem dd_L_law_801 : decode cc_L_law 801 = .ok (.iaload, 1) := by decide +kernel
theorem dd_L_law_802 : decode cc_L_law 802 = .ok (.invokevirtual 112, 3) := by decide +kernel
theorem dd_L_law_805 : decode cc_L_law 805 = .ok (.if_icmp .eq (42), 3) := by decide +kernel
theorem dd_L_law_808 : decode cc_L_law 808 = .ok (.iconst 0, 1) := by decide +kernel
theorem dd_L_law_809 : decode cc_L_law 809 = .ok (.ireturn, 1) := by decide +kernel
theorem dd_L_law_810 : decode cc_L_law 810 = .ok (.aload_n 1, 1) := by decide +kernel
theorem dd_L_law_811 : decode cc_L_law 811 = .ok (.aload_n 0, 1) := by decide +kernel
theorem dd_L_law_812 : decode cc_L_law 812 = .ok (.iload 4, 2) := by decide +kernel
theorem dd_L_law_814 : decode cc_L_law 814 = .ok (.iconst 1, 1) := by decide +kernel
theorem dd_L_law_815 : decode cc_L_law 815 = .ok (.iadd, 1) := by decide +kernel
theorem dd_L_law_816 : decode cc_L_law 816 = .ok (.iaload, 1) := by decide +kernel
theorem dd_L_law_817 : decode cc_L_law 817 = .ok (.aload_n 0, 1) := by decide +kernel
theorem dd_L_law_818 : decode cc_L_law 818 = .ok (.iload 4, 2) := by decide +kernel
theorem dd_L_law_820 : decode cc_L_law 820 = .ok (.iconst 2, 1) := by decide +kernel
theorem dd_L_law_821 : decode cc_L_law 821 = .ok (.iadd, 1) := by decide +kernel
theorem dd_L_law_822 : decode cc_L_law 822 = .ok (.iaload, 1) := by decide +kernel
theorem dd_L_law_823 : decode cc_L_law 823 = .ok (.invokevirtual 113, 3) := by decide +kernel
theorem dd_L_law_826 : decode cc_L_law 826 = .ok (.aload_n 2, 1) := by decide +kernel
theorem dd_L_law_827 : decode cc_L_law 827 = .ok (.aload_n 0, 1) := by decide +kernel
theorem dd_L_law_828 : decode cc_L_law 828 = .ok (.iload 4, 2) := by decide +kernel
theorem dd_L_law_830 : decode cc_L_law 830 = .ok (.iconst 1, 1) := by decide +kernel
theorem dd_L_law_831 : decode cc_L_law 831 = .ok (.iadd, 1) := by decide +kernel
theorem dd_L_law_832 : decode cc_L_law 832 = .ok (.iaload, 1) := by decide +kernel
theorem dd_L_law_833 : decode cc_L_law 833 = .ok (.aload_n 0, 1) := by decide +kernel
theorem dd_L_law_834 : decode cc_L_law 834 = .ok (.iload 4, 2) := by decide +kernel
theorem dd_L_law_836 : decode cc_L_law 836 = .ok (.iconst 2, 1) := by decide +kernel
theorem dd_L_law_837 : decode cc_L_law 837 = .ok (.iadd, 1) := by decide +kernel
theorem dd_L_law_838 : decode cc_L_law 838 = .ok (.iaload, 1) := by decide +kernel
theorem dd_L_law_839 : decode cc_L_law 839 = .ok (.invokevirtual 116, 3) := by decide +kernel
theorem dd_L_law_842 : decode cc_L_law 842 = .ok (.if_icmp .eq (5), 3) := by decide +kernel
theorem dd_L_law_845 : decode cc_L_law 845 = .ok (.iconst 0, 1) := by decide +kernel
theorem dd_L_law_846 : decode cc_L_law 846 = .ok (.ireturn, 1) := by decide +kernel
theorem dd_L_law_847 : decode cc_L_law 847 = .ok (.iinc 4 (7), 3) := by decide +kernel
theorem dd_L_law_850 : decode cc_L_law 850 = .ok (.goto (-827), 3) := by decide +kernel
theorem dd_L_law_853 : decode cc_L_law 853 = .ok (.iconst 1, 1) := by decide +kernel
theorem dd_L_law_854 : decode cc_L_law 854 = .ok (.ireturn, 1) := by decide +kernel
theorem ap3 {D : va_G} {cl : List vw_C} {a b c : va_W} {H : Heap} (h : va_P D cl ((a ++ b) ++ c) H) : va_P D cl ((c ++ a) ++ b) H := by rw [List.append_assoc]; exact h.turn
theorem ad3 {A : Nat → Prop} {a b c : va_W} (h : va_D A ((a ++ b) ++ c)) : va_D A ((c ++ a) ++ b) := by rw [List.append_assoc]; exact h.turn
theorem ap4 {D : va_G} {cl : List vw_C} {a b c : va_W} {H : Heap} (h : va_P D cl ((c ++ a) ++ b) H) : va_P D cl ((a ++ b) ++ c) H := by rw [List.append_assoc] at h; exact h.turn
theorem ad4 {A : Nat → Prop} {a b c : va_W} (h : va_D A ((c ++ a) ++ b)) : va_D A ((a ++ b) ++ c) := by rw [List.append_assoc] at h; exact h.turn
abbrev LW (kc : Nat → ClassId) (ad am : Nat → Nat) (o : Nat) (I : MI) (J : MJ) (I' : MI) (J' : MJ) (f : Nat → Int64) : va_W := (outc kc o f ++ wM kc am I' J') ++ wC kc ad I J
abbrev LA (s : State) : Nat → Prop := fun q => s.heap.size ≤ q
theorem la_eq {s : State} {H : Heap} {locs : List Loc} (hS : va_S (LA s) s.heap H locs) : ∀ q : Nat, q < s.heap.size → H[q]? = s.heap[q]? := fun q h => hS.2.1 q h (Nat.not_le.mpr h)
theorem la_st {s : State} {H : Heap} {locs : List Loc} (hS : va_S (LA s) s.heap H locs) : HSt s.heap H := fun q cell h _ => by rw [la_eq hS q (Array.getElem?_eq_some_iff.mp h).1]; exact h
theorem la_bt {tw : Nat} {s U : State} {H : Heap} {locs : List Loc} (h : BT tw s) (hS : va_S (LA s) s.heap H locs) (hU : U.heap = H) (hW : s.WarmedH U.vm) : BT tw U := by
  rw [show BT tw U = (va_Z "OpenDeal$Numbers" "WITNESSES" "[I" (.ref tw) (fun _ => False) U U.heap ∧ va_T .int tw 4 (fun j => .int (wtv j)) (fun _ => False) U U.heap) from rfl, hU]
  exact ⟨va_Z.moved hW.alike (va_Z.kept h.1 (fun a ha _ => la_eq hS a ha)), va_T.moved hW.alike (va_T.kept h.2 (fun a ha _ => la_eq hS a ha))⟩
theorem la_tw {ic : Nat} {X : String} {s U : State} {H : Heap} {locs : List Loc} (h : TW ic X s) (hS : va_S (LA s) s.heap H locs) (hU : U.heap = H) (hW : s.WarmedH U.vm) : TW ic X U := tw_to h (by rw [hU]; exact la_st hS) hW
def LBt (tw q1 q2 q3 : Nat) (s : State) : Prop := BT tw s ∧ TW 119 "java/lang/IndexOutOfBoundsException" s ∧ TW 223 "java/lang/IllegalStateException" s ∧ vk_R "OpenDeal" 117 "no such seal" q1 s ∧ vk_R "OpenDeal" 136 "no such place, or no prime" q2 s ∧ vk_R "OpenDeal" 221 "not all secrets are shown" q3 s
abbrev lgp (a b : Int32) : Int64 := (a.toInt64 <<< ((32 : Int32).toInt64 &&& 63)) ||| (b.toInt64 &&& 4294967295)
theorem ix_nat {L j : Nat} (h : j < L) (hL : L ≤ 3584) : (Int32.ofNat j).toNatClampNeg = j := Int32.toNatClampNeg_ofNat_of_lt (by omega)
theorem ix_in {L j : Nat} (h : j < L) (hL : L ≤ 3584) : vp_in (Int32.ofNat j) L := by
  have h1 := ix_nat h hL
  have h2 : ¬ (Int32.ofNat j) < 0 := fun h3 => absurd ((Int32.lt_iff_toInt_lt).mp h3) (by rw [Int32.toInt_ofNat_of_lt (by omega)]; simp)
  unfold vp_in
  rw [h1]
  intro h3
  rcases h3 with h3 | h3
  · exact h2 h3
  · omega
theorem ix_add {i k : Nat} : Int32.ofNat (7 * i) + Int32.ofNat k = Int32.ofNat (7 * i + k) := (Int32.ofNat_add ..).symm
section LX
variable {p : Program} {l : Launch} {e : Env} {R : Room} {s : State} {m : MethodId} {args : Array Value} {below : List Frame} {meth : Method} {c : Code} {H : Heap} {locs : List Loc} {cells slots : Nat} {Q : State → Prop}
variable {cc : ByteArray} {pc : Nat} {ls : Array Slot} {rest : List Value} {b L i : Nat} {xs : Nat → Int32}
/-- script[i + k] -/
theorem lx {k : Int} (kn : Nat) (hx : p.tables.exec = Jvm.exec) (hb : c.code = cc) (hX : va_X b L xs s s.heap) (hbl : b < s.heap.size) (hS : va_S (LA s) s.heap H locs) (hL : L ≤ 3584) (hi : 7 * i + 7 ≤ L) (g0 : ls[0]? = some (.val (.ref b))) (g4 : ls[4]? = some (.val (.int (Int32.ofNat (7 * i))))) (hkn : kn < 7) (hk : Int32.ofInt k = Int32.ofNat kn)
    (d1 : decode cc pc = .ok (.aload_n 0, 1)) (d2 : decode cc (pc + 1) = .ok (.iload 4, 2)) (d3 : decode cc (pc + 3) = .ok (.iconst k, 1)) (d4 : decode cc (pc + 4) = .ok (.iadd, 1)) (d5 : decode cc (pc + 5) = .ok (.iaload, 1))
    (kk : W p l e R s m args below meth c H locs cells slots Q (F0 m (pc + 6) ls (.int (xs (7 * i + kn)) :: rest))) : W p l e R s m args below meth c H locs cells slots Q (F0 m pc ls rest) := by
  refine lv_aload_n hx hb d1 rfl g0 ?_
  refine lv_iload hx hb d2 g4 ?_
  refine lv_iconst (v := Int32.ofNat kn) hx hb d3 hk ?_
  refine lv_iadd hx hb d4 ?_
  rw [ix_add]
  refine va_sld (A := LA s) hx hb hX hbl (Nat.not_le.mpr hbl) hS (ix_in (by omega) hL) d5 ?_
  rw [ix_nat (L := L) (by omega) hL]
  exact kk
theorem lx6 {k : Int} (kn : Nat) (hx : p.tables.exec = Jvm.exec) (hb : c.code = cc) (hX : va_X b L xs s s.heap) (hbl : b < s.heap.size) (hS : va_S (LA s) s.heap H locs) (hL : L ≤ 3584) (hi : 7 * i + 7 ≤ L) (g0 : ls[0]? = some (.val (.ref b))) (g4 : ls[4]? = some (.val (.int (Int32.ofNat (7 * i))))) (hkn : kn < 7) (hk : (Int8.ofInt k).toInt32 = Int32.ofNat kn)
    (d1 : decode cc pc = .ok (.aload_n 0, 1)) (d2 : decode cc (pc + 1) = .ok (.iload 4, 2)) (d3 : decode cc (pc + 3) = .ok (.bipush k, 2)) (d4 : decode cc (pc + 5) = .ok (.iadd, 1)) (d5 : decode cc (pc + 6) = .ok (.iaload, 1))
    (kk : W p l e R s m args below meth c H locs cells slots Q (F0 m (pc + 7) ls (.int (xs (7 * i + kn)) :: rest))) : W p l e R s m args below meth c H locs cells slots Q (F0 m pc ls rest) := by
  refine lv_aload_n hx hb d1 rfl g0 ?_
  refine lv_iload hx hb d2 g4 ?_
  refine lv_bipush (v := Int32.ofNat kn) hx hb d3 hk ?_
  refine lv_iadd hx hb d4 ?_
  rw [ix_add]
  refine va_sld (A := LA s) hx hb hX hbl (Nat.not_le.mpr hbl) hS (ix_in (by omega) hL) d5 ?_
  rw [ix_nat (L := L) (by omega) hL]
  exact kk
end LX
theorem lcmp_self (x : Int64) : lg_cmp x x = 0 := by simp [lg_cmp]

