/-! names: the law's instructions -/
theorem d_law_0 : decode code 0 = .ok (.new 8, 3) := by decide +kernel
theorem d_law_3 : decode code 3 = .ok (.dup, 1) := by decide +kernel
theorem d_law_4 : decode code 4 = .ok (.invokespecial 74, 3) := by decide +kernel
theorem d_law_7 : decode code 7 = .ok (.astore_n 1, 1) := by decide +kernel
theorem d_law_8 : decode code 8 = .ok (.new 75, 3) := by decide +kernel
theorem d_law_11 : decode code 11 = .ok (.dup, 1) := by decide +kernel
theorem d_law_12 : decode code 12 = .ok (.invokespecial 77, 3) := by decide +kernel
theorem d_law_15 : decode code 15 = .ok (.astore_n 2, 1) := by decide +kernel
theorem d_law_16 : decode code 16 = .ok (.iconst 1, 1) := by decide +kernel
theorem d_law_17 : decode code 17 = .ok (.newarray .long, 2) := by decide +kernel
theorem d_law_19 : decode code 19 = .ok (.astore_n 3, 1) := by decide +kernel
theorem d_law_20 : decode code 20 = .ok (.iconst 0, 1) := by decide +kernel
theorem d_law_21 : decode code 21 = .ok (.istore 4, 2) := by decide +kernel
theorem d_law_23 : decode code 23 = .ok (.iload 4, 2) := by decide +kernel
theorem d_law_25 : decode code 25 = .ok (.aload_n 0, 1) := by decide +kernel
theorem d_law_26 : decode code 26 = .ok (.arraylength, 1) := by decide +kernel
theorem d_law_27 : decode code 27 = .ok (.bipush 6, 2) := by decide +kernel
theorem d_law_29 : decode code 29 = .ok (.isub, 1) := by decide +kernel
theorem d_law_30 : decode code 30 = .ok (.if_icmp .gt 1261, 3) := by decide +kernel
theorem d_law_33 : decode code 33 = .ok (.aload_n 0, 1) := by decide +kernel
theorem d_law_34 : decode code 34 = .ok (.iload 4, 2) := by decide +kernel
theorem d_law_36 : decode code 36 = .ok (.iaload, 1) := by decide +kernel
theorem d_law_37 : decode code 37 = .ok (.bipush 31, 2) := by decide +kernel
theorem d_law_39 : decode code 39 = .ok (.iand, 1) := by decide +kernel
theorem d_law_40 : decode code 40 = .ok (.tableswitch 1245 0 19 #[96, 200, 236, 249, 305, 373, 386, 454, 534, 614, 670, 726, 825, 893, 960, 1028, 1084, 1152, 1165, 1201], 96) := by decide +kernel
theorem d_law_136 : decode code 136 = .ok (.aload_n 1, 1) := by decide +kernel
theorem d_law_137 : decode code 137 = .ok (.aload_n 0, 1) := by decide +kernel
theorem d_law_138 : decode code 138 = .ok (.iload 4, 2) := by decide +kernel
theorem d_law_140 : decode code 140 = .ok (.iconst 1, 1) := by decide +kernel
theorem d_law_141 : decode code 141 = .ok (.iadd, 1) := by decide +kernel
theorem d_law_142 : decode code 142 = .ok (.iaload, 1) := by decide +kernel
theorem d_law_143 : decode code 143 = .ok (.aload_n 0, 1) := by decide +kernel
theorem d_law_144 : decode code 144 = .ok (.iload 4, 2) := by decide +kernel
theorem d_law_146 : decode code 146 = .ok (.iconst 2, 1) := by decide +kernel
theorem d_law_147 : decode code 147 = .ok (.iadd, 1) := by decide +kernel
theorem d_law_148 : decode code 148 = .ok (.iaload, 1) := by decide +kernel
theorem d_law_149 : decode code 149 = .ok (.aload_n 0, 1) := by decide +kernel
theorem d_law_150 : decode code 150 = .ok (.iload 4, 2) := by decide +kernel
theorem d_law_152 : decode code 152 = .ok (.iconst 3, 1) := by decide +kernel
theorem d_law_153 : decode code 153 = .ok (.iadd, 1) := by decide +kernel
theorem d_law_154 : decode code 154 = .ok (.iaload, 1) := by decide +kernel
theorem d_law_155 : decode code 155 = .ok (.aload_n 0, 1) := by decide +kernel
theorem d_law_156 : decode code 156 = .ok (.iload 4, 2) := by decide +kernel
theorem d_law_158 : decode code 158 = .ok (.iconst 4, 1) := by decide +kernel
theorem d_law_159 : decode code 159 = .ok (.iadd, 1) := by decide +kernel
theorem d_law_160 : decode code 160 = .ok (.iaload, 1) := by decide +kernel
theorem d_law_161 : decode code 161 = .ok (.aload_n 0, 1) := by decide +kernel
theorem d_law_162 : decode code 162 = .ok (.iload 4, 2) := by decide +kernel
theorem d_law_164 : decode code 164 = .ok (.iconst 5, 1) := by decide +kernel
theorem d_law_165 : decode code 165 = .ok (.iadd, 1) := by decide +kernel
theorem d_law_166 : decode code 166 = .ok (.iaload, 1) := by decide +kernel
theorem d_law_167 : decode code 167 = .ok (.aload_n 3, 1) := by decide +kernel
theorem d_law_168 : decode code 168 = .ok (.invokestatic 78, 3) := by decide +kernel
theorem d_law_171 : decode code 171 = .ok (.istore 5, 2) := by decide +kernel
theorem d_law_173 : decode code 173 = .ok (.aload_n 2, 1) := by decide +kernel
theorem d_law_174 : decode code 174 = .ok (.aload_n 0, 1) := by decide +kernel
theorem d_law_175 : decode code 175 = .ok (.iload 4, 2) := by decide +kernel
theorem d_law_177 : decode code 177 = .ok (.iconst 1, 1) := by decide +kernel
theorem d_law_178 : decode code 178 = .ok (.iadd, 1) := by decide +kernel
theorem d_law_179 : decode code 179 = .ok (.iaload, 1) := by decide +kernel
theorem d_law_180 : decode code 180 = .ok (.aload_n 0, 1) := by decide +kernel
theorem d_law_181 : decode code 181 = .ok (.iload 4, 2) := by decide +kernel
theorem d_law_183 : decode code 183 = .ok (.iconst 2, 1) := by decide +kernel
theorem d_law_184 : decode code 184 = .ok (.iadd, 1) := by decide +kernel
theorem d_law_185 : decode code 185 = .ok (.iaload, 1) := by decide +kernel
theorem d_law_186 : decode code 186 = .ok (.aload_n 0, 1) := by decide +kernel
theorem d_law_187 : decode code 187 = .ok (.iload 4, 2) := by decide +kernel
theorem d_law_189 : decode code 189 = .ok (.iconst 3, 1) := by decide +kernel
theorem d_law_190 : decode code 190 = .ok (.iadd, 1) := by decide +kernel
theorem d_law_191 : decode code 191 = .ok (.iaload, 1) := by decide +kernel
theorem d_law_192 : decode code 192 = .ok (.aload_n 0, 1) := by decide +kernel
theorem d_law_193 : decode code 193 = .ok (.iload 4, 2) := by decide +kernel
theorem d_law_195 : decode code 195 = .ok (.iconst 4, 1) := by decide +kernel
theorem d_law_196 : decode code 196 = .ok (.iadd, 1) := by decide +kernel
theorem d_law_197 : decode code 197 = .ok (.iaload, 1) := by decide +kernel
theorem d_law_198 : decode code 198 = .ok (.aload_n 0, 1) := by decide +kernel
theorem d_law_199 : decode code 199 = .ok (.iload 4, 2) := by decide +kernel
theorem d_law_201 : decode code 201 = .ok (.iconst 5, 1) := by decide +kernel
theorem d_law_202 : decode code 202 = .ok (.iadd, 1) := by decide +kernel
theorem d_law_203 : decode code 203 = .ok (.iaload, 1) := by decide +kernel
theorem d_law_204 : decode code 204 = .ok (.invokevirtual 83, 3) := by decide +kernel
theorem d_law_207 : decode code 207 = .ok (.istore 6, 2) := by decide +kernel
theorem d_law_209 : decode code 209 = .ok (.aload_n 2, 1) := by decide +kernel
theorem d_law_210 : decode code 210 = .ok (.invokevirtual 84, 3) := by decide +kernel
theorem d_law_213 : decode code 213 = .ok (.iload 5, 2) := by decide +kernel
theorem d_law_215 : decode code 215 = .ok (.if_icmp .eq 5, 3) := by decide +kernel
theorem d_law_218 : decode code 218 = .ok (.iconst 0, 1) := by decide +kernel
theorem d_law_219 : decode code 219 = .ok (.ireturn, 1) := by decide +kernel
theorem d_law_220 : decode code 220 = .ok (.iload 5, 2) := by decide +kernel
theorem d_law_222 : decode code 222 = .ok (.ifCond .ne 15, 3) := by decide +kernel
theorem d_law_225 : decode code 225 = .ok (.aload_n 3, 1) := by decide +kernel
theorem d_law_226 : decode code 226 = .ok (.iconst 0, 1) := by decide +kernel
theorem d_law_227 : decode code 227 = .ok (.laload, 1) := by decide +kernel
theorem d_law_228 : decode code 228 = .ok (.iload 6, 2) := by decide +kernel
theorem d_law_230 : decode code 230 = .ok (.i2l, 1) := by decide +kernel
theorem d_law_231 : decode code 231 = .ok (.lcmp, 1) := by decide +kernel
theorem d_law_232 : decode code 232 = .ok (.ifCond .eq 5, 3) := by decide +kernel
theorem d_law_235 : decode code 235 = .ok (.iconst 0, 1) := by decide +kernel
theorem d_law_236 : decode code 236 = .ok (.ireturn, 1) := by decide +kernel
theorem d_law_237 : decode code 237 = .ok (.goto 1048, 3) := by decide +kernel
theorem d_law_240 : decode code 240 = .ok (.aload_n 1, 1) := by decide +kernel
theorem d_law_241 : decode code 241 = .ok (.aload_n 0, 1) := by decide +kernel
theorem d_law_242 : decode code 242 = .ok (.iload 4, 2) := by decide +kernel
theorem d_law_244 : decode code 244 = .ok (.iconst 1, 1) := by decide +kernel
theorem d_law_245 : decode code 245 = .ok (.iadd, 1) := by decide +kernel
theorem d_law_246 : decode code 246 = .ok (.iaload, 1) := by decide +kernel
theorem d_law_247 : decode code 247 = .ok (.invokestatic 87, 3) := by decide +kernel
theorem d_law_250 : decode code 250 = .ok (.istore 5, 2) := by decide +kernel
theorem d_law_252 : decode code 252 = .ok (.aload_n 2, 1) := by decide +kernel
theorem d_law_253 : decode code 253 = .ok (.aload_n 0, 1) := by decide +kernel
theorem d_law_254 : decode code 254 = .ok (.iload 4, 2) := by decide +kernel
theorem d_law_256 : decode code 256 = .ok (.iconst 1, 1) := by decide +kernel
theorem d_law_257 : decode code 257 = .ok (.iadd, 1) := by decide +kernel
theorem d_law_258 : decode code 258 = .ok (.iaload, 1) := by decide +kernel
theorem d_law_259 : decode code 259 = .ok (.invokevirtual 90, 3) := by decide +kernel
theorem d_law_262 : decode code 262 = .ok (.aload_n 2, 1) := by decide +kernel
theorem d_law_263 : decode code 263 = .ok (.invokevirtual 84, 3) := by decide +kernel
theorem d_law_266 : decode code 266 = .ok (.iload 5, 2) := by decide +kernel
theorem d_law_268 : decode code 268 = .ok (.if_icmp .eq 5, 3) := by decide +kernel
theorem d_law_271 : decode code 271 = .ok (.iconst 0, 1) := by decide +kernel
theorem d_law_272 : decode code 272 = .ok (.ireturn, 1) := by decide +kernel
theorem d_law_273 : decode code 273 = .ok (.goto 1012, 3) := by decide +kernel
theorem d_law_276 : decode code 276 = .ok (.aload_n 1, 1) := by decide +kernel
theorem d_law_277 : decode code 277 = .ok (.invokevirtual 91, 3) := by decide +kernel
theorem d_law_280 : decode code 280 = .ok (.aload_n 2, 1) := by decide +kernel
theorem d_law_281 : decode code 281 = .ok (.invokevirtual 94, 3) := by decide +kernel
theorem d_law_284 : decode code 284 = .ok (.if_icmp .eq 1001, 3) := by decide +kernel
theorem d_law_287 : decode code 287 = .ok (.iconst 0, 1) := by decide +kernel
theorem d_law_288 : decode code 288 = .ok (.ireturn, 1) := by decide +kernel
theorem d_law_289 : decode code 289 = .ok (.aload_n 1, 1) := by decide +kernel
theorem d_law_290 : decode code 290 = .ok (.aload_n 0, 1) := by decide +kernel
theorem d_law_291 : decode code 291 = .ok (.iload 4, 2) := by decide +kernel
theorem d_law_293 : decode code 293 = .ok (.iconst 1, 1) := by decide +kernel
theorem d_law_294 : decode code 294 = .ok (.iadd, 1) := by decide +kernel
theorem d_law_295 : decode code 295 = .ok (.iaload, 1) := by decide +kernel
theorem d_law_296 : decode code 296 = .ok (.aload_n 3, 1) := by decide +kernel
theorem d_law_297 : decode code 297 = .ok (.invokestatic 95, 3) := by decide +kernel
theorem d_law_300 : decode code 300 = .ok (.istore 5, 2) := by decide +kernel
theorem d_law_302 : decode code 302 = .ok (.aload_n 2, 1) := by decide +kernel
theorem d_law_303 : decode code 303 = .ok (.aload_n 0, 1) := by decide +kernel
theorem d_law_304 : decode code 304 = .ok (.iload 4, 2) := by decide +kernel
theorem d_law_306 : decode code 306 = .ok (.iconst 1, 1) := by decide +kernel
theorem d_law_307 : decode code 307 = .ok (.iadd, 1) := by decide +kernel
theorem d_law_308 : decode code 308 = .ok (.iaload, 1) := by decide +kernel
theorem d_law_309 : decode code 309 = .ok (.invokevirtual 98, 3) := by decide +kernel
theorem d_law_312 : decode code 312 = .ok (.istore 6, 2) := by decide +kernel
theorem d_law_314 : decode code 314 = .ok (.aload_n 2, 1) := by decide +kernel
theorem d_law_315 : decode code 315 = .ok (.invokevirtual 84, 3) := by decide +kernel
theorem d_law_318 : decode code 318 = .ok (.iload 5, 2) := by decide +kernel
theorem d_law_320 : decode code 320 = .ok (.if_icmp .eq 5, 3) := by decide +kernel
theorem d_law_323 : decode code 323 = .ok (.iconst 0, 1) := by decide +kernel
theorem d_law_324 : decode code 324 = .ok (.ireturn, 1) := by decide +kernel
theorem d_law_325 : decode code 325 = .ok (.iload 5, 2) := by decide +kernel
theorem d_law_327 : decode code 327 = .ok (.ifCond .ne 15, 3) := by decide +kernel
theorem d_law_330 : decode code 330 = .ok (.aload_n 3, 1) := by decide +kernel
theorem d_law_331 : decode code 331 = .ok (.iconst 0, 1) := by decide +kernel
theorem d_law_332 : decode code 332 = .ok (.laload, 1) := by decide +kernel
theorem d_law_333 : decode code 333 = .ok (.iload 6, 2) := by decide +kernel
theorem d_law_335 : decode code 335 = .ok (.i2l, 1) := by decide +kernel
theorem d_law_336 : decode code 336 = .ok (.lcmp, 1) := by decide +kernel
theorem d_law_337 : decode code 337 = .ok (.ifCond .eq 5, 3) := by decide +kernel
theorem d_law_340 : decode code 340 = .ok (.iconst 0, 1) := by decide +kernel
theorem d_law_341 : decode code 341 = .ok (.ireturn, 1) := by decide +kernel
theorem d_law_342 : decode code 342 = .ok (.goto 943, 3) := by decide +kernel
theorem d_law_345 : decode code 345 = .ok (.aload_n 1, 1) := by decide +kernel
theorem d_law_346 : decode code 346 = .ok (.aload_n 0, 1) := by decide +kernel
theorem d_law_347 : decode code 347 = .ok (.iload 4, 2) := by decide +kernel
theorem d_law_349 : decode code 349 = .ok (.iconst 1, 1) := by decide +kernel
theorem d_law_350 : decode code 350 = .ok (.iadd, 1) := by decide +kernel
theorem d_law_351 : decode code 351 = .ok (.iaload, 1) := by decide +kernel
theorem d_law_352 : decode code 352 = .ok (.aload_n 0, 1) := by decide +kernel
theorem d_law_353 : decode code 353 = .ok (.iload 4, 2) := by decide +kernel
theorem d_law_355 : decode code 355 = .ok (.iconst 2, 1) := by decide +kernel
theorem d_law_356 : decode code 356 = .ok (.iadd, 1) := by decide +kernel
theorem d_law_357 : decode code 357 = .ok (.iaload, 1) := by decide +kernel
theorem d_law_358 : decode code 358 = .ok (.aload_n 3, 1) := by decide +kernel
theorem d_law_359 : decode code 359 = .ok (.invokestatic 99, 3) := by decide +kernel
theorem d_law_362 : decode code 362 = .ok (.istore 5, 2) := by decide +kernel
theorem d_law_364 : decode code 364 = .ok (.aload_n 2, 1) := by decide +kernel
theorem d_law_365 : decode code 365 = .ok (.aload_n 0, 1) := by decide +kernel
theorem d_law_366 : decode code 366 = .ok (.iload 4, 2) := by decide +kernel
theorem d_law_368 : decode code 368 = .ok (.iconst 1, 1) := by decide +kernel
theorem d_law_369 : decode code 369 = .ok (.iadd, 1) := by decide +kernel
theorem d_law_370 : decode code 370 = .ok (.iaload, 1) := by decide +kernel
theorem d_law_371 : decode code 371 = .ok (.aload_n 0, 1) := by decide +kernel
theorem d_law_372 : decode code 372 = .ok (.iload 4, 2) := by decide +kernel
theorem d_law_374 : decode code 374 = .ok (.iconst 2, 1) := by decide +kernel
theorem d_law_375 : decode code 375 = .ok (.iadd, 1) := by decide +kernel
theorem d_law_376 : decode code 376 = .ok (.iaload, 1) := by decide +kernel
theorem d_law_377 : decode code 377 = .ok (.invokevirtual 102, 3) := by decide +kernel
theorem d_law_380 : decode code 380 = .ok (.istore 6, 2) := by decide +kernel
theorem d_law_382 : decode code 382 = .ok (.aload_n 2, 1) := by decide +kernel
theorem d_law_383 : decode code 383 = .ok (.invokevirtual 84, 3) := by decide +kernel
theorem d_law_386 : decode code 386 = .ok (.iload 5, 2) := by decide +kernel
theorem d_law_388 : decode code 388 = .ok (.if_icmp .eq 5, 3) := by decide +kernel
theorem d_law_391 : decode code 391 = .ok (.iconst 0, 1) := by decide +kernel
theorem d_law_392 : decode code 392 = .ok (.ireturn, 1) := by decide +kernel
theorem d_law_393 : decode code 393 = .ok (.iload 5, 2) := by decide +kernel
theorem d_law_395 : decode code 395 = .ok (.ifCond .ne 15, 3) := by decide +kernel
theorem d_law_398 : decode code 398 = .ok (.aload_n 3, 1) := by decide +kernel
theorem d_law_399 : decode code 399 = .ok (.iconst 0, 1) := by decide +kernel
theorem d_law_400 : decode code 400 = .ok (.laload, 1) := by decide +kernel
theorem d_law_401 : decode code 401 = .ok (.iload 6, 2) := by decide +kernel
theorem d_law_403 : decode code 403 = .ok (.i2l, 1) := by decide +kernel
theorem d_law_404 : decode code 404 = .ok (.lcmp, 1) := by decide +kernel
theorem d_law_405 : decode code 405 = .ok (.ifCond .eq 5, 3) := by decide +kernel
theorem d_law_408 : decode code 408 = .ok (.iconst 0, 1) := by decide +kernel
theorem d_law_409 : decode code 409 = .ok (.ireturn, 1) := by decide +kernel
theorem d_law_410 : decode code 410 = .ok (.goto 875, 3) := by decide +kernel
theorem d_law_413 : decode code 413 = .ok (.aload_n 1, 1) := by decide +kernel
theorem d_law_414 : decode code 414 = .ok (.invokevirtual 103, 3) := by decide +kernel
theorem d_law_417 : decode code 417 = .ok (.aload_n 2, 1) := by decide +kernel
theorem d_law_418 : decode code 418 = .ok (.invokevirtual 106, 3) := by decide +kernel
theorem d_law_421 : decode code 421 = .ok (.if_icmp .eq 864, 3) := by decide +kernel
theorem d_law_424 : decode code 424 = .ok (.iconst 0, 1) := by decide +kernel
theorem d_law_425 : decode code 425 = .ok (.ireturn, 1) := by decide +kernel
theorem d_law_426 : decode code 426 = .ok (.aload_n 1, 1) := by decide +kernel
theorem d_law_427 : decode code 427 = .ok (.aload_n 0, 1) := by decide +kernel
theorem d_law_428 : decode code 428 = .ok (.iload 4, 2) := by decide +kernel
theorem d_law_430 : decode code 430 = .ok (.iconst 1, 1) := by decide +kernel
theorem d_law_431 : decode code 431 = .ok (.iadd, 1) := by decide +kernel
theorem d_law_432 : decode code 432 = .ok (.iaload, 1) := by decide +kernel
theorem d_law_433 : decode code 433 = .ok (.aload_n 0, 1) := by decide +kernel
theorem d_law_434 : decode code 434 = .ok (.iload 4, 2) := by decide +kernel
theorem d_law_436 : decode code 436 = .ok (.iconst 2, 1) := by decide +kernel
theorem d_law_437 : decode code 437 = .ok (.iadd, 1) := by decide +kernel
theorem d_law_438 : decode code 438 = .ok (.iaload, 1) := by decide +kernel
theorem d_law_439 : decode code 439 = .ok (.aload_n 3, 1) := by decide +kernel
theorem d_law_440 : decode code 440 = .ok (.invokestatic 107, 3) := by decide +kernel
theorem d_law_443 : decode code 443 = .ok (.istore 5, 2) := by decide +kernel
theorem d_law_445 : decode code 445 = .ok (.aload_n 2, 1) := by decide +kernel
theorem d_law_446 : decode code 446 = .ok (.aload_n 0, 1) := by decide +kernel
theorem d_law_447 : decode code 447 = .ok (.iload 4, 2) := by decide +kernel
theorem d_law_449 : decode code 449 = .ok (.iconst 1, 1) := by decide +kernel
theorem d_law_450 : decode code 450 = .ok (.iadd, 1) := by decide +kernel
theorem d_law_451 : decode code 451 = .ok (.iaload, 1) := by decide +kernel
theorem d_law_452 : decode code 452 = .ok (.aload_n 0, 1) := by decide +kernel
theorem d_law_453 : decode code 453 = .ok (.iload 4, 2) := by decide +kernel
theorem d_law_455 : decode code 455 = .ok (.iconst 2, 1) := by decide +kernel
theorem d_law_456 : decode code 456 = .ok (.iadd, 1) := by decide +kernel
theorem d_law_457 : decode code 457 = .ok (.iaload, 1) := by decide +kernel
theorem d_law_458 : decode code 458 = .ok (.invokevirtual 109, 3) := by decide +kernel
theorem d_law_461 : decode code 461 = .ok (.istore 6, 2) := by decide +kernel
theorem d_law_463 : decode code 463 = .ok (.aload_n 2, 1) := by decide +kernel
theorem d_law_464 : decode code 464 = .ok (.invokevirtual 84, 3) := by decide +kernel
theorem d_law_467 : decode code 467 = .ok (.iload 5, 2) := by decide +kernel
theorem d_law_469 : decode code 469 = .ok (.if_icmp .eq 5, 3) := by decide +kernel
theorem d_law_472 : decode code 472 = .ok (.iconst 0, 1) := by decide +kernel
theorem d_law_473 : decode code 473 = .ok (.ireturn, 1) := by decide +kernel
theorem d_law_474 : decode code 474 = .ok (.iload 5, 2) := by decide +kernel
theorem d_law_476 : decode code 476 = .ok (.ifCond .ne 15, 3) := by decide +kernel
theorem d_law_479 : decode code 479 = .ok (.aload_n 3, 1) := by decide +kernel
theorem d_law_480 : decode code 480 = .ok (.iconst 0, 1) := by decide +kernel
theorem d_law_481 : decode code 481 = .ok (.laload, 1) := by decide +kernel
theorem d_law_482 : decode code 482 = .ok (.iload 6, 2) := by decide +kernel
theorem d_law_484 : decode code 484 = .ok (.i2l, 1) := by decide +kernel
theorem d_law_485 : decode code 485 = .ok (.lcmp, 1) := by decide +kernel
theorem d_law_486 : decode code 486 = .ok (.ifCond .eq 5, 3) := by decide +kernel
theorem d_law_489 : decode code 489 = .ok (.iconst 0, 1) := by decide +kernel
theorem d_law_490 : decode code 490 = .ok (.ireturn, 1) := by decide +kernel
theorem d_law_491 : decode code 491 = .ok (.goto 794, 3) := by decide +kernel
theorem d_law_494 : decode code 494 = .ok (.aload_n 1, 1) := by decide +kernel
theorem d_law_495 : decode code 495 = .ok (.aload_n 0, 1) := by decide +kernel
theorem d_law_496 : decode code 496 = .ok (.iload 4, 2) := by decide +kernel
theorem d_law_498 : decode code 498 = .ok (.iconst 1, 1) := by decide +kernel
theorem d_law_499 : decode code 499 = .ok (.iadd, 1) := by decide +kernel
theorem d_law_500 : decode code 500 = .ok (.iaload, 1) := by decide +kernel
theorem d_law_501 : decode code 501 = .ok (.aload_n 0, 1) := by decide +kernel
theorem d_law_502 : decode code 502 = .ok (.iload 4, 2) := by decide +kernel
theorem d_law_504 : decode code 504 = .ok (.iconst 2, 1) := by decide +kernel
theorem d_law_505 : decode code 505 = .ok (.iadd, 1) := by decide +kernel
theorem d_law_506 : decode code 506 = .ok (.iaload, 1) := by decide +kernel
theorem d_law_507 : decode code 507 = .ok (.aload_n 0, 1) := by decide +kernel
theorem d_law_508 : decode code 508 = .ok (.iload 4, 2) := by decide +kernel
theorem d_law_510 : decode code 510 = .ok (.iconst 3, 1) := by decide +kernel
theorem d_law_511 : decode code 511 = .ok (.iadd, 1) := by decide +kernel
theorem d_law_512 : decode code 512 = .ok (.iaload, 1) := by decide +kernel
theorem d_law_513 : decode code 513 = .ok (.aload_n 3, 1) := by decide +kernel
theorem d_law_514 : decode code 514 = .ok (.invokestatic 110, 3) := by decide +kernel
theorem d_law_517 : decode code 517 = .ok (.istore 5, 2) := by decide +kernel
theorem d_law_519 : decode code 519 = .ok (.aload_n 2, 1) := by decide +kernel
theorem d_law_520 : decode code 520 = .ok (.aload_n 0, 1) := by decide +kernel
theorem d_law_521 : decode code 521 = .ok (.iload 4, 2) := by decide +kernel
theorem d_law_523 : decode code 523 = .ok (.iconst 1, 1) := by decide +kernel
theorem d_law_524 : decode code 524 = .ok (.iadd, 1) := by decide +kernel
theorem d_law_525 : decode code 525 = .ok (.iaload, 1) := by decide +kernel
theorem d_law_526 : decode code 526 = .ok (.aload_n 0, 1) := by decide +kernel
theorem d_law_527 : decode code 527 = .ok (.iload 4, 2) := by decide +kernel
theorem d_law_529 : decode code 529 = .ok (.iconst 2, 1) := by decide +kernel
theorem d_law_530 : decode code 530 = .ok (.iadd, 1) := by decide +kernel
theorem d_law_531 : decode code 531 = .ok (.iaload, 1) := by decide +kernel
theorem d_law_532 : decode code 532 = .ok (.aload_n 0, 1) := by decide +kernel
theorem d_law_533 : decode code 533 = .ok (.iload 4, 2) := by decide +kernel
theorem d_law_535 : decode code 535 = .ok (.iconst 3, 1) := by decide +kernel
theorem d_law_536 : decode code 536 = .ok (.iadd, 1) := by decide +kernel
theorem d_law_537 : decode code 537 = .ok (.iaload, 1) := by decide +kernel
theorem d_law_538 : decode code 538 = .ok (.invokevirtual 113, 3) := by decide +kernel
theorem d_law_541 : decode code 541 = .ok (.istore 6, 2) := by decide +kernel
theorem d_law_543 : decode code 543 = .ok (.aload_n 2, 1) := by decide +kernel
theorem d_law_544 : decode code 544 = .ok (.invokevirtual 84, 3) := by decide +kernel
theorem d_law_547 : decode code 547 = .ok (.iload 5, 2) := by decide +kernel
theorem d_law_549 : decode code 549 = .ok (.if_icmp .eq 5, 3) := by decide +kernel
theorem d_law_552 : decode code 552 = .ok (.iconst 0, 1) := by decide +kernel
theorem d_law_553 : decode code 553 = .ok (.ireturn, 1) := by decide +kernel
theorem d_law_554 : decode code 554 = .ok (.iload 5, 2) := by decide +kernel
theorem d_law_556 : decode code 556 = .ok (.ifCond .ne 15, 3) := by decide +kernel
theorem d_law_559 : decode code 559 = .ok (.aload_n 3, 1) := by decide +kernel
theorem d_law_560 : decode code 560 = .ok (.iconst 0, 1) := by decide +kernel
theorem d_law_561 : decode code 561 = .ok (.laload, 1) := by decide +kernel
theorem d_law_562 : decode code 562 = .ok (.iload 6, 2) := by decide +kernel
theorem d_law_564 : decode code 564 = .ok (.i2l, 1) := by decide +kernel
theorem d_law_565 : decode code 565 = .ok (.lcmp, 1) := by decide +kernel
theorem d_law_566 : decode code 566 = .ok (.ifCond .eq 5, 3) := by decide +kernel
theorem d_law_569 : decode code 569 = .ok (.iconst 0, 1) := by decide +kernel
theorem d_law_570 : decode code 570 = .ok (.ireturn, 1) := by decide +kernel
theorem d_law_571 : decode code 571 = .ok (.goto 714, 3) := by decide +kernel
theorem d_law_574 : decode code 574 = .ok (.aload_n 1, 1) := by decide +kernel
theorem d_law_575 : decode code 575 = .ok (.aload_n 0, 1) := by decide +kernel
theorem d_law_576 : decode code 576 = .ok (.iload 4, 2) := by decide +kernel
theorem d_law_578 : decode code 578 = .ok (.iconst 1, 1) := by decide +kernel
theorem d_law_579 : decode code 579 = .ok (.iadd, 1) := by decide +kernel
theorem d_law_580 : decode code 580 = .ok (.iaload, 1) := by decide +kernel
theorem d_law_581 : decode code 581 = .ok (.aload_n 0, 1) := by decide +kernel
theorem d_law_582 : decode code 582 = .ok (.iload 4, 2) := by decide +kernel
theorem d_law_584 : decode code 584 = .ok (.iconst 2, 1) := by decide +kernel
theorem d_law_585 : decode code 585 = .ok (.iadd, 1) := by decide +kernel
theorem d_law_586 : decode code 586 = .ok (.iaload, 1) := by decide +kernel
theorem d_law_587 : decode code 587 = .ok (.aload_n 0, 1) := by decide +kernel
theorem d_law_588 : decode code 588 = .ok (.iload 4, 2) := by decide +kernel
theorem d_law_590 : decode code 590 = .ok (.iconst 3, 1) := by decide +kernel
theorem d_law_591 : decode code 591 = .ok (.iadd, 1) := by decide +kernel
theorem d_law_592 : decode code 592 = .ok (.iaload, 1) := by decide +kernel
theorem d_law_593 : decode code 593 = .ok (.aload_n 3, 1) := by decide +kernel
theorem d_law_594 : decode code 594 = .ok (.invokestatic 114, 3) := by decide +kernel
theorem d_law_597 : decode code 597 = .ok (.istore 5, 2) := by decide +kernel
theorem d_law_599 : decode code 599 = .ok (.aload_n 2, 1) := by decide +kernel
theorem d_law_600 : decode code 600 = .ok (.aload_n 0, 1) := by decide +kernel
theorem d_law_601 : decode code 601 = .ok (.iload 4, 2) := by decide +kernel
theorem d_law_603 : decode code 603 = .ok (.iconst 1, 1) := by decide +kernel
theorem d_law_604 : decode code 604 = .ok (.iadd, 1) := by decide +kernel
theorem d_law_605 : decode code 605 = .ok (.iaload, 1) := by decide +kernel
theorem d_law_606 : decode code 606 = .ok (.aload_n 0, 1) := by decide +kernel
theorem d_law_607 : decode code 607 = .ok (.iload 4, 2) := by decide +kernel
theorem d_law_609 : decode code 609 = .ok (.iconst 2, 1) := by decide +kernel
theorem d_law_610 : decode code 610 = .ok (.iadd, 1) := by decide +kernel
theorem d_law_611 : decode code 611 = .ok (.iaload, 1) := by decide +kernel
theorem d_law_612 : decode code 612 = .ok (.aload_n 0, 1) := by decide +kernel
theorem d_law_613 : decode code 613 = .ok (.iload 4, 2) := by decide +kernel
theorem d_law_615 : decode code 615 = .ok (.iconst 3, 1) := by decide +kernel
theorem d_law_616 : decode code 616 = .ok (.iadd, 1) := by decide +kernel
theorem d_law_617 : decode code 617 = .ok (.iaload, 1) := by decide +kernel
theorem d_law_618 : decode code 618 = .ok (.invokevirtual 116, 3) := by decide +kernel
theorem d_law_621 : decode code 621 = .ok (.istore 6, 2) := by decide +kernel
theorem d_law_623 : decode code 623 = .ok (.aload_n 2, 1) := by decide +kernel
theorem d_law_624 : decode code 624 = .ok (.invokevirtual 84, 3) := by decide +kernel
theorem d_law_627 : decode code 627 = .ok (.iload 5, 2) := by decide +kernel
theorem d_law_629 : decode code 629 = .ok (.if_icmp .eq 5, 3) := by decide +kernel
theorem d_law_632 : decode code 632 = .ok (.iconst 0, 1) := by decide +kernel
theorem d_law_633 : decode code 633 = .ok (.ireturn, 1) := by decide +kernel
theorem d_law_634 : decode code 634 = .ok (.iload 5, 2) := by decide +kernel
theorem d_law_636 : decode code 636 = .ok (.ifCond .ne 15, 3) := by decide +kernel
theorem d_law_639 : decode code 639 = .ok (.aload_n 3, 1) := by decide +kernel
theorem d_law_640 : decode code 640 = .ok (.iconst 0, 1) := by decide +kernel
theorem d_law_641 : decode code 641 = .ok (.laload, 1) := by decide +kernel
theorem d_law_642 : decode code 642 = .ok (.iload 6, 2) := by decide +kernel
theorem d_law_644 : decode code 644 = .ok (.i2l, 1) := by decide +kernel
theorem d_law_645 : decode code 645 = .ok (.lcmp, 1) := by decide +kernel
theorem d_law_646 : decode code 646 = .ok (.ifCond .eq 5, 3) := by decide +kernel
theorem d_law_649 : decode code 649 = .ok (.iconst 0, 1) := by decide +kernel
theorem d_law_650 : decode code 650 = .ok (.ireturn, 1) := by decide +kernel
theorem d_law_651 : decode code 651 = .ok (.goto 634, 3) := by decide +kernel
theorem d_law_654 : decode code 654 = .ok (.aload_n 1, 1) := by decide +kernel
theorem d_law_655 : decode code 655 = .ok (.aload_n 0, 1) := by decide +kernel
theorem d_law_656 : decode code 656 = .ok (.iload 4, 2) := by decide +kernel
theorem d_law_658 : decode code 658 = .ok (.iconst 1, 1) := by decide +kernel
theorem d_law_659 : decode code 659 = .ok (.iadd, 1) := by decide +kernel
theorem d_law_660 : decode code 660 = .ok (.iaload, 1) := by decide +kernel
theorem d_law_661 : decode code 661 = .ok (.aload_n 3, 1) := by decide +kernel
theorem d_law_662 : decode code 662 = .ok (.invokestatic 117, 3) := by decide +kernel
theorem d_law_665 : decode code 665 = .ok (.istore 5, 2) := by decide +kernel
theorem d_law_667 : decode code 667 = .ok (.aload_n 2, 1) := by decide +kernel
theorem d_law_668 : decode code 668 = .ok (.aload_n 0, 1) := by decide +kernel
theorem d_law_669 : decode code 669 = .ok (.iload 4, 2) := by decide +kernel
theorem d_law_671 : decode code 671 = .ok (.iconst 1, 1) := by decide +kernel
theorem d_law_672 : decode code 672 = .ok (.iadd, 1) := by decide +kernel
theorem d_law_673 : decode code 673 = .ok (.iaload, 1) := by decide +kernel
theorem d_law_674 : decode code 674 = .ok (.invokevirtual 119, 3) := by decide +kernel
theorem d_law_677 : decode code 677 = .ok (.istore 6, 2) := by decide +kernel
theorem d_law_679 : decode code 679 = .ok (.aload_n 2, 1) := by decide +kernel
theorem d_law_680 : decode code 680 = .ok (.invokevirtual 84, 3) := by decide +kernel
theorem d_law_683 : decode code 683 = .ok (.iload 5, 2) := by decide +kernel
theorem d_law_685 : decode code 685 = .ok (.if_icmp .eq 5, 3) := by decide +kernel
theorem d_law_688 : decode code 688 = .ok (.iconst 0, 1) := by decide +kernel
theorem d_law_689 : decode code 689 = .ok (.ireturn, 1) := by decide +kernel
theorem d_law_690 : decode code 690 = .ok (.iload 5, 2) := by decide +kernel
theorem d_law_692 : decode code 692 = .ok (.ifCond .ne 15, 3) := by decide +kernel
theorem d_law_695 : decode code 695 = .ok (.aload_n 3, 1) := by decide +kernel
theorem d_law_696 : decode code 696 = .ok (.iconst 0, 1) := by decide +kernel
theorem d_law_697 : decode code 697 = .ok (.laload, 1) := by decide +kernel
theorem d_law_698 : decode code 698 = .ok (.iload 6, 2) := by decide +kernel
theorem d_law_700 : decode code 700 = .ok (.i2l, 1) := by decide +kernel
theorem d_law_701 : decode code 701 = .ok (.lcmp, 1) := by decide +kernel
theorem d_law_702 : decode code 702 = .ok (.ifCond .eq 5, 3) := by decide +kernel
theorem d_law_705 : decode code 705 = .ok (.iconst 0, 1) := by decide +kernel
theorem d_law_706 : decode code 706 = .ok (.ireturn, 1) := by decide +kernel
theorem d_law_707 : decode code 707 = .ok (.goto 578, 3) := by decide +kernel
theorem d_law_710 : decode code 710 = .ok (.aload_n 1, 1) := by decide +kernel
theorem d_law_711 : decode code 711 = .ok (.aload_n 0, 1) := by decide +kernel
theorem d_law_712 : decode code 712 = .ok (.iload 4, 2) := by decide +kernel
theorem d_law_714 : decode code 714 = .ok (.iconst 1, 1) := by decide +kernel
theorem d_law_715 : decode code 715 = .ok (.iadd, 1) := by decide +kernel
theorem d_law_716 : decode code 716 = .ok (.iaload, 1) := by decide +kernel
theorem d_law_717 : decode code 717 = .ok (.aload_n 3, 1) := by decide +kernel
theorem d_law_718 : decode code 718 = .ok (.invokestatic 120, 3) := by decide +kernel
theorem d_law_721 : decode code 721 = .ok (.istore 5, 2) := by decide +kernel
theorem d_law_723 : decode code 723 = .ok (.aload_n 2, 1) := by decide +kernel
theorem d_law_724 : decode code 724 = .ok (.aload_n 0, 1) := by decide +kernel
theorem d_law_725 : decode code 725 = .ok (.iload 4, 2) := by decide +kernel
theorem d_law_727 : decode code 727 = .ok (.iconst 1, 1) := by decide +kernel
theorem d_law_728 : decode code 728 = .ok (.iadd, 1) := by decide +kernel
theorem d_law_729 : decode code 729 = .ok (.iaload, 1) := by decide +kernel
theorem d_law_730 : decode code 730 = .ok (.invokevirtual 122, 3) := by decide +kernel
theorem d_law_733 : decode code 733 = .ok (.istore 6, 2) := by decide +kernel
theorem d_law_735 : decode code 735 = .ok (.aload_n 2, 1) := by decide +kernel
theorem d_law_736 : decode code 736 = .ok (.invokevirtual 84, 3) := by decide +kernel
theorem d_law_739 : decode code 739 = .ok (.iload 5, 2) := by decide +kernel
theorem d_law_741 : decode code 741 = .ok (.if_icmp .eq 5, 3) := by decide +kernel
theorem d_law_744 : decode code 744 = .ok (.iconst 0, 1) := by decide +kernel
theorem d_law_745 : decode code 745 = .ok (.ireturn, 1) := by decide +kernel
theorem d_law_746 : decode code 746 = .ok (.iload 5, 2) := by decide +kernel
theorem d_law_748 : decode code 748 = .ok (.ifCond .ne 15, 3) := by decide +kernel
theorem d_law_751 : decode code 751 = .ok (.aload_n 3, 1) := by decide +kernel
theorem d_law_752 : decode code 752 = .ok (.iconst 0, 1) := by decide +kernel
theorem d_law_753 : decode code 753 = .ok (.laload, 1) := by decide +kernel
theorem d_law_754 : decode code 754 = .ok (.iload 6, 2) := by decide +kernel
theorem d_law_756 : decode code 756 = .ok (.i2l, 1) := by decide +kernel
theorem d_law_757 : decode code 757 = .ok (.lcmp, 1) := by decide +kernel
theorem d_law_758 : decode code 758 = .ok (.ifCond .eq 5, 3) := by decide +kernel
theorem d_law_761 : decode code 761 = .ok (.iconst 0, 1) := by decide +kernel
theorem d_law_762 : decode code 762 = .ok (.ireturn, 1) := by decide +kernel
theorem d_law_763 : decode code 763 = .ok (.goto 522, 3) := by decide +kernel
theorem d_law_766 : decode code 766 = .ok (.aload_n 1, 1) := by decide +kernel
theorem d_law_767 : decode code 767 = .ok (.aload_n 0, 1) := by decide +kernel
theorem d_law_768 : decode code 768 = .ok (.iload 4, 2) := by decide +kernel
theorem d_law_770 : decode code 770 = .ok (.iconst 1, 1) := by decide +kernel
theorem d_law_771 : decode code 771 = .ok (.iadd, 1) := by decide +kernel
theorem d_law_772 : decode code 772 = .ok (.iaload, 1) := by decide +kernel
theorem d_law_773 : decode code 773 = .ok (.aload_n 0, 1) := by decide +kernel
theorem d_law_774 : decode code 774 = .ok (.iload 4, 2) := by decide +kernel
theorem d_law_776 : decode code 776 = .ok (.iconst 2, 1) := by decide +kernel
theorem d_law_777 : decode code 777 = .ok (.iadd, 1) := by decide +kernel
theorem d_law_778 : decode code 778 = .ok (.iaload, 1) := by decide +kernel
theorem d_law_779 : decode code 779 = .ok (.aload_n 0, 1) := by decide +kernel
theorem d_law_780 : decode code 780 = .ok (.iload 4, 2) := by decide +kernel
theorem d_law_782 : decode code 782 = .ok (.iconst 3, 1) := by decide +kernel
theorem d_law_783 : decode code 783 = .ok (.iadd, 1) := by decide +kernel
theorem d_law_784 : decode code 784 = .ok (.iaload, 1) := by decide +kernel
theorem d_law_785 : decode code 785 = .ok (.aload_n 0, 1) := by decide +kernel
theorem d_law_786 : decode code 786 = .ok (.iload 4, 2) := by decide +kernel
theorem d_law_788 : decode code 788 = .ok (.iconst 4, 1) := by decide +kernel
theorem d_law_789 : decode code 789 = .ok (.iadd, 1) := by decide +kernel
theorem d_law_790 : decode code 790 = .ok (.iaload, 1) := by decide +kernel
theorem d_law_791 : decode code 791 = .ok (.aload_n 3, 1) := by decide +kernel
theorem d_law_792 : decode code 792 = .ok (.invokestatic 123, 3) := by decide +kernel
theorem d_law_795 : decode code 795 = .ok (.istore 5, 2) := by decide +kernel
theorem d_law_797 : decode code 797 = .ok (.aload_n 2, 1) := by decide +kernel
theorem d_law_798 : decode code 798 = .ok (.aload_n 0, 1) := by decide +kernel
theorem d_law_799 : decode code 799 = .ok (.iload 4, 2) := by decide +kernel
theorem d_law_801 : decode code 801 = .ok (.iconst 1, 1) := by decide +kernel
theorem d_law_802 : decode code 802 = .ok (.iadd, 1) := by decide +kernel
theorem d_law_803 : decode code 803 = .ok (.iaload, 1) := by decide +kernel
theorem d_law_804 : decode code 804 = .ok (.aload_n 0, 1) := by decide +kernel
theorem d_law_805 : decode code 805 = .ok (.iload 4, 2) := by decide +kernel
theorem d_law_807 : decode code 807 = .ok (.iconst 2, 1) := by decide +kernel
theorem d_law_808 : decode code 808 = .ok (.iadd, 1) := by decide +kernel
theorem d_law_809 : decode code 809 = .ok (.iaload, 1) := by decide +kernel
theorem d_law_810 : decode code 810 = .ok (.aload_n 0, 1) := by decide +kernel
theorem d_law_811 : decode code 811 = .ok (.iload 4, 2) := by decide +kernel
theorem d_law_813 : decode code 813 = .ok (.iconst 3, 1) := by decide +kernel
theorem d_law_814 : decode code 814 = .ok (.iadd, 1) := by decide +kernel
theorem d_law_815 : decode code 815 = .ok (.iaload, 1) := by decide +kernel
theorem d_law_816 : decode code 816 = .ok (.aload_n 0, 1) := by decide +kernel
theorem d_law_817 : decode code 817 = .ok (.iload 4, 2) := by decide +kernel
theorem d_law_819 : decode code 819 = .ok (.iconst 4, 1) := by decide +kernel
theorem d_law_820 : decode code 820 = .ok (.iadd, 1) := by decide +kernel
theorem d_law_821 : decode code 821 = .ok (.iaload, 1) := by decide +kernel
theorem d_law_822 : decode code 822 = .ok (.invokevirtual 126, 3) := by decide +kernel
theorem d_law_825 : decode code 825 = .ok (.istore 6, 2) := by decide +kernel
theorem d_law_827 : decode code 827 = .ok (.aload_n 2, 1) := by decide +kernel
theorem d_law_828 : decode code 828 = .ok (.invokevirtual 84, 3) := by decide +kernel
theorem d_law_831 : decode code 831 = .ok (.iload 5, 2) := by decide +kernel
theorem d_law_833 : decode code 833 = .ok (.if_icmp .eq 5, 3) := by decide +kernel
theorem d_law_836 : decode code 836 = .ok (.iconst 0, 1) := by decide +kernel
theorem d_law_837 : decode code 837 = .ok (.ireturn, 1) := by decide +kernel
theorem d_law_838 : decode code 838 = .ok (.iload 5, 2) := by decide +kernel
theorem d_law_840 : decode code 840 = .ok (.ifCond .ne 22, 3) := by decide +kernel
theorem d_law_843 : decode code 843 = .ok (.aload_n 3, 1) := by decide +kernel
theorem d_law_844 : decode code 844 = .ok (.iconst 0, 1) := by decide +kernel
theorem d_law_845 : decode code 845 = .ok (.laload, 1) := by decide +kernel
theorem d_law_846 : decode code 846 = .ok (.iload 6, 2) := by decide +kernel
theorem d_law_848 : decode code 848 = .ok (.ifCond .eq 7, 3) := by decide +kernel
theorem d_law_851 : decode code 851 = .ok (.lconst 1, 1) := by decide +kernel
theorem d_law_852 : decode code 852 = .ok (.goto 4, 3) := by decide +kernel
theorem d_law_855 : decode code 855 = .ok (.lconst 0, 1) := by decide +kernel
theorem d_law_856 : decode code 856 = .ok (.lcmp, 1) := by decide +kernel
theorem d_law_857 : decode code 857 = .ok (.ifCond .eq 5, 3) := by decide +kernel
theorem d_law_860 : decode code 860 = .ok (.iconst 0, 1) := by decide +kernel
theorem d_law_861 : decode code 861 = .ok (.ireturn, 1) := by decide +kernel
theorem d_law_862 : decode code 862 = .ok (.goto 423, 3) := by decide +kernel
theorem d_law_865 : decode code 865 = .ok (.aload_n 1, 1) := by decide +kernel
theorem d_law_866 : decode code 866 = .ok (.aload_n 0, 1) := by decide +kernel
theorem d_law_867 : decode code 867 = .ok (.iload 4, 2) := by decide +kernel
theorem d_law_869 : decode code 869 = .ok (.iconst 1, 1) := by decide +kernel
theorem d_law_870 : decode code 870 = .ok (.iadd, 1) := by decide +kernel
theorem d_law_871 : decode code 871 = .ok (.iaload, 1) := by decide +kernel
theorem d_law_872 : decode code 872 = .ok (.aload_n 0, 1) := by decide +kernel
theorem d_law_873 : decode code 873 = .ok (.iload 4, 2) := by decide +kernel
theorem d_law_875 : decode code 875 = .ok (.iconst 2, 1) := by decide +kernel
theorem d_law_876 : decode code 876 = .ok (.iadd, 1) := by decide +kernel
theorem d_law_877 : decode code 877 = .ok (.iaload, 1) := by decide +kernel
theorem d_law_878 : decode code 878 = .ok (.aload_n 3, 1) := by decide +kernel
theorem d_law_879 : decode code 879 = .ok (.invokestatic 127, 3) := by decide +kernel
theorem d_law_882 : decode code 882 = .ok (.istore 5, 2) := by decide +kernel
theorem d_law_884 : decode code 884 = .ok (.aload_n 2, 1) := by decide +kernel
theorem d_law_885 : decode code 885 = .ok (.aload_n 0, 1) := by decide +kernel
theorem d_law_886 : decode code 886 = .ok (.iload 4, 2) := by decide +kernel
theorem d_law_888 : decode code 888 = .ok (.iconst 1, 1) := by decide +kernel
theorem d_law_889 : decode code 889 = .ok (.iadd, 1) := by decide +kernel
theorem d_law_890 : decode code 890 = .ok (.iaload, 1) := by decide +kernel
theorem d_law_891 : decode code 891 = .ok (.aload_n 0, 1) := by decide +kernel
theorem d_law_892 : decode code 892 = .ok (.iload 4, 2) := by decide +kernel
theorem d_law_894 : decode code 894 = .ok (.iconst 2, 1) := by decide +kernel
theorem d_law_895 : decode code 895 = .ok (.iadd, 1) := by decide +kernel
theorem d_law_896 : decode code 896 = .ok (.iaload, 1) := by decide +kernel
theorem d_law_897 : decode code 897 = .ok (.invokevirtual 129, 3) := by decide +kernel
theorem d_law_900 : decode code 900 = .ok (.istore 6, 2) := by decide +kernel
theorem d_law_902 : decode code 902 = .ok (.aload_n 2, 1) := by decide +kernel
theorem d_law_903 : decode code 903 = .ok (.invokevirtual 84, 3) := by decide +kernel
theorem d_law_906 : decode code 906 = .ok (.iload 5, 2) := by decide +kernel
theorem d_law_908 : decode code 908 = .ok (.if_icmp .eq 5, 3) := by decide +kernel
theorem d_law_911 : decode code 911 = .ok (.iconst 0, 1) := by decide +kernel
theorem d_law_912 : decode code 912 = .ok (.ireturn, 1) := by decide +kernel
theorem d_law_913 : decode code 913 = .ok (.iload 5, 2) := by decide +kernel
theorem d_law_915 : decode code 915 = .ok (.ifCond .ne 15, 3) := by decide +kernel
theorem d_law_918 : decode code 918 = .ok (.aload_n 3, 1) := by decide +kernel
theorem d_law_919 : decode code 919 = .ok (.iconst 0, 1) := by decide +kernel
theorem d_law_920 : decode code 920 = .ok (.laload, 1) := by decide +kernel
theorem d_law_921 : decode code 921 = .ok (.iload 6, 2) := by decide +kernel
theorem d_law_923 : decode code 923 = .ok (.i2l, 1) := by decide +kernel
theorem d_law_924 : decode code 924 = .ok (.lcmp, 1) := by decide +kernel
theorem d_law_925 : decode code 925 = .ok (.ifCond .eq 5, 3) := by decide +kernel
theorem d_law_928 : decode code 928 = .ok (.iconst 0, 1) := by decide +kernel
theorem d_law_929 : decode code 929 = .ok (.ireturn, 1) := by decide +kernel
theorem d_law_930 : decode code 930 = .ok (.goto 355, 3) := by decide +kernel
theorem d_law_933 : decode code 933 = .ok (.aload_n 1, 1) := by decide +kernel
theorem d_law_934 : decode code 934 = .ok (.aload_n 0, 1) := by decide +kernel
theorem d_law_935 : decode code 935 = .ok (.iload 4, 2) := by decide +kernel
theorem d_law_937 : decode code 937 = .ok (.iconst 1, 1) := by decide +kernel
theorem d_law_938 : decode code 938 = .ok (.iadd, 1) := by decide +kernel
theorem d_law_939 : decode code 939 = .ok (.iaload, 1) := by decide +kernel
theorem d_law_940 : decode code 940 = .ok (.aload_n 0, 1) := by decide +kernel
theorem d_law_941 : decode code 941 = .ok (.iload 4, 2) := by decide +kernel
theorem d_law_943 : decode code 943 = .ok (.iconst 2, 1) := by decide +kernel
theorem d_law_944 : decode code 944 = .ok (.iadd, 1) := by decide +kernel
theorem d_law_945 : decode code 945 = .ok (.iaload, 1) := by decide +kernel
theorem d_law_946 : decode code 946 = .ok (.aload_n 3, 1) := by decide +kernel
theorem d_law_947 : decode code 947 = .ok (.invokestatic 130, 3) := by decide +kernel
theorem d_law_950 : decode code 950 = .ok (.istore 5, 2) := by decide +kernel
theorem d_law_952 : decode code 952 = .ok (.aload_n 2, 1) := by decide +kernel
theorem d_law_953 : decode code 953 = .ok (.aload_n 0, 1) := by decide +kernel
theorem d_law_954 : decode code 954 = .ok (.iload 4, 2) := by decide +kernel
theorem d_law_956 : decode code 956 = .ok (.iconst 1, 1) := by decide +kernel
theorem d_law_957 : decode code 957 = .ok (.iadd, 1) := by decide +kernel
theorem d_law_958 : decode code 958 = .ok (.iaload, 1) := by decide +kernel
theorem d_law_959 : decode code 959 = .ok (.aload_n 0, 1) := by decide +kernel
theorem d_law_960 : decode code 960 = .ok (.iload 4, 2) := by decide +kernel
theorem d_law_962 : decode code 962 = .ok (.iconst 2, 1) := by decide +kernel
theorem d_law_963 : decode code 963 = .ok (.iadd, 1) := by decide +kernel
theorem d_law_964 : decode code 964 = .ok (.iaload, 1) := by decide +kernel
theorem d_law_965 : decode code 965 = .ok (.invokevirtual 132, 3) := by decide +kernel
theorem d_law_968 : decode code 968 = .ok (.lstore 6, 2) := by decide +kernel
theorem d_law_970 : decode code 970 = .ok (.aload_n 2, 1) := by decide +kernel
theorem d_law_971 : decode code 971 = .ok (.invokevirtual 84, 3) := by decide +kernel
theorem d_law_974 : decode code 974 = .ok (.iload 5, 2) := by decide +kernel
theorem d_law_976 : decode code 976 = .ok (.if_icmp .eq 5, 3) := by decide +kernel
theorem d_law_979 : decode code 979 = .ok (.iconst 0, 1) := by decide +kernel
theorem d_law_980 : decode code 980 = .ok (.ireturn, 1) := by decide +kernel
theorem d_law_981 : decode code 981 = .ok (.iload 5, 2) := by decide +kernel
theorem d_law_983 : decode code 983 = .ok (.ifCond .ne 14, 3) := by decide +kernel
theorem d_law_986 : decode code 986 = .ok (.aload_n 3, 1) := by decide +kernel
theorem d_law_987 : decode code 987 = .ok (.iconst 0, 1) := by decide +kernel
theorem d_law_988 : decode code 988 = .ok (.laload, 1) := by decide +kernel
theorem d_law_989 : decode code 989 = .ok (.lload 6, 2) := by decide +kernel
theorem d_law_991 : decode code 991 = .ok (.lcmp, 1) := by decide +kernel
theorem d_law_992 : decode code 992 = .ok (.ifCond .eq 5, 3) := by decide +kernel
theorem d_law_995 : decode code 995 = .ok (.iconst 0, 1) := by decide +kernel
theorem d_law_996 : decode code 996 = .ok (.ireturn, 1) := by decide +kernel
theorem d_law_997 : decode code 997 = .ok (.goto 288, 3) := by decide +kernel
theorem d_law_1000 : decode code 1000 = .ok (.aload_n 1, 1) := by decide +kernel
theorem d_law_1001 : decode code 1001 = .ok (.aload_n 0, 1) := by decide +kernel
theorem d_law_1002 : decode code 1002 = .ok (.iload 4, 2) := by decide +kernel
theorem d_law_1004 : decode code 1004 = .ok (.iconst 1, 1) := by decide +kernel
theorem d_law_1005 : decode code 1005 = .ok (.iadd, 1) := by decide +kernel
theorem d_law_1006 : decode code 1006 = .ok (.iaload, 1) := by decide +kernel
theorem d_law_1007 : decode code 1007 = .ok (.aload_n 0, 1) := by decide +kernel
theorem d_law_1008 : decode code 1008 = .ok (.iload 4, 2) := by decide +kernel
theorem d_law_1010 : decode code 1010 = .ok (.iconst 2, 1) := by decide +kernel
theorem d_law_1011 : decode code 1011 = .ok (.iadd, 1) := by decide +kernel
theorem d_law_1012 : decode code 1012 = .ok (.iaload, 1) := by decide +kernel
theorem d_law_1013 : decode code 1013 = .ok (.aload_n 3, 1) := by decide +kernel
theorem d_law_1014 : decode code 1014 = .ok (.invokestatic 133, 3) := by decide +kernel
theorem d_law_1017 : decode code 1017 = .ok (.istore 5, 2) := by decide +kernel
theorem d_law_1019 : decode code 1019 = .ok (.aload_n 2, 1) := by decide +kernel
theorem d_law_1020 : decode code 1020 = .ok (.aload_n 0, 1) := by decide +kernel
theorem d_law_1021 : decode code 1021 = .ok (.iload 4, 2) := by decide +kernel
theorem d_law_1023 : decode code 1023 = .ok (.iconst 1, 1) := by decide +kernel
theorem d_law_1024 : decode code 1024 = .ok (.iadd, 1) := by decide +kernel
theorem d_law_1025 : decode code 1025 = .ok (.iaload, 1) := by decide +kernel
theorem d_law_1026 : decode code 1026 = .ok (.aload_n 0, 1) := by decide +kernel
theorem d_law_1027 : decode code 1027 = .ok (.iload 4, 2) := by decide +kernel
theorem d_law_1029 : decode code 1029 = .ok (.iconst 2, 1) := by decide +kernel
theorem d_law_1030 : decode code 1030 = .ok (.iadd, 1) := by decide +kernel
theorem d_law_1031 : decode code 1031 = .ok (.iaload, 1) := by decide +kernel
theorem d_law_1032 : decode code 1032 = .ok (.invokevirtual 135, 3) := by decide +kernel
theorem d_law_1035 : decode code 1035 = .ok (.istore 6, 2) := by decide +kernel
theorem d_law_1037 : decode code 1037 = .ok (.aload_n 2, 1) := by decide +kernel
theorem d_law_1038 : decode code 1038 = .ok (.invokevirtual 84, 3) := by decide +kernel
theorem d_law_1041 : decode code 1041 = .ok (.iload 5, 2) := by decide +kernel
theorem d_law_1043 : decode code 1043 = .ok (.if_icmp .eq 5, 3) := by decide +kernel
theorem d_law_1046 : decode code 1046 = .ok (.iconst 0, 1) := by decide +kernel
theorem d_law_1047 : decode code 1047 = .ok (.ireturn, 1) := by decide +kernel
theorem d_law_1048 : decode code 1048 = .ok (.iload 5, 2) := by decide +kernel
theorem d_law_1050 : decode code 1050 = .ok (.ifCond .ne 15, 3) := by decide +kernel
theorem d_law_1053 : decode code 1053 = .ok (.aload_n 3, 1) := by decide +kernel
theorem d_law_1054 : decode code 1054 = .ok (.iconst 0, 1) := by decide +kernel
theorem d_law_1055 : decode code 1055 = .ok (.laload, 1) := by decide +kernel
theorem d_law_1056 : decode code 1056 = .ok (.iload 6, 2) := by decide +kernel
theorem d_law_1058 : decode code 1058 = .ok (.i2l, 1) := by decide +kernel
theorem d_law_1059 : decode code 1059 = .ok (.lcmp, 1) := by decide +kernel
theorem d_law_1060 : decode code 1060 = .ok (.ifCond .eq 5, 3) := by decide +kernel
theorem d_law_1063 : decode code 1063 = .ok (.iconst 0, 1) := by decide +kernel
theorem d_law_1064 : decode code 1064 = .ok (.ireturn, 1) := by decide +kernel
theorem d_law_1065 : decode code 1065 = .ok (.goto 220, 3) := by decide +kernel
theorem d_law_1068 : decode code 1068 = .ok (.aload_n 1, 1) := by decide +kernel
theorem d_law_1069 : decode code 1069 = .ok (.aload_n 0, 1) := by decide +kernel
theorem d_law_1070 : decode code 1070 = .ok (.iload 4, 2) := by decide +kernel
theorem d_law_1072 : decode code 1072 = .ok (.iconst 1, 1) := by decide +kernel
theorem d_law_1073 : decode code 1073 = .ok (.iadd, 1) := by decide +kernel
theorem d_law_1074 : decode code 1074 = .ok (.iaload, 1) := by decide +kernel
theorem d_law_1075 : decode code 1075 = .ok (.aload_n 3, 1) := by decide +kernel
theorem d_law_1076 : decode code 1076 = .ok (.invokestatic 136, 3) := by decide +kernel
theorem d_law_1079 : decode code 1079 = .ok (.istore 5, 2) := by decide +kernel
theorem d_law_1081 : decode code 1081 = .ok (.aload_n 2, 1) := by decide +kernel
theorem d_law_1082 : decode code 1082 = .ok (.aload_n 0, 1) := by decide +kernel
theorem d_law_1083 : decode code 1083 = .ok (.iload 4, 2) := by decide +kernel
theorem d_law_1085 : decode code 1085 = .ok (.iconst 1, 1) := by decide +kernel
theorem d_law_1086 : decode code 1086 = .ok (.iadd, 1) := by decide +kernel
theorem d_law_1087 : decode code 1087 = .ok (.iaload, 1) := by decide +kernel
theorem d_law_1088 : decode code 1088 = .ok (.invokevirtual 138, 3) := by decide +kernel
theorem d_law_1091 : decode code 1091 = .ok (.istore 6, 2) := by decide +kernel
theorem d_law_1093 : decode code 1093 = .ok (.aload_n 2, 1) := by decide +kernel
theorem d_law_1094 : decode code 1094 = .ok (.invokevirtual 84, 3) := by decide +kernel
theorem d_law_1097 : decode code 1097 = .ok (.iload 5, 2) := by decide +kernel
theorem d_law_1099 : decode code 1099 = .ok (.if_icmp .eq 5, 3) := by decide +kernel
theorem d_law_1102 : decode code 1102 = .ok (.iconst 0, 1) := by decide +kernel
theorem d_law_1103 : decode code 1103 = .ok (.ireturn, 1) := by decide +kernel
theorem d_law_1104 : decode code 1104 = .ok (.iload 5, 2) := by decide +kernel
theorem d_law_1106 : decode code 1106 = .ok (.ifCond .ne 15, 3) := by decide +kernel
theorem d_law_1109 : decode code 1109 = .ok (.aload_n 3, 1) := by decide +kernel
theorem d_law_1110 : decode code 1110 = .ok (.iconst 0, 1) := by decide +kernel
theorem d_law_1111 : decode code 1111 = .ok (.laload, 1) := by decide +kernel
theorem d_law_1112 : decode code 1112 = .ok (.iload 6, 2) := by decide +kernel
theorem d_law_1114 : decode code 1114 = .ok (.i2l, 1) := by decide +kernel
theorem d_law_1115 : decode code 1115 = .ok (.lcmp, 1) := by decide +kernel
theorem d_law_1116 : decode code 1116 = .ok (.ifCond .eq 5, 3) := by decide +kernel
theorem d_law_1119 : decode code 1119 = .ok (.iconst 0, 1) := by decide +kernel
theorem d_law_1120 : decode code 1120 = .ok (.ireturn, 1) := by decide +kernel
theorem d_law_1121 : decode code 1121 = .ok (.goto 164, 3) := by decide +kernel
theorem d_law_1124 : decode code 1124 = .ok (.aload_n 1, 1) := by decide +kernel
theorem d_law_1125 : decode code 1125 = .ok (.aload_n 0, 1) := by decide +kernel
theorem d_law_1126 : decode code 1126 = .ok (.iload 4, 2) := by decide +kernel
theorem d_law_1128 : decode code 1128 = .ok (.iconst 1, 1) := by decide +kernel
theorem d_law_1129 : decode code 1129 = .ok (.iadd, 1) := by decide +kernel
theorem d_law_1130 : decode code 1130 = .ok (.iaload, 1) := by decide +kernel
theorem d_law_1131 : decode code 1131 = .ok (.aload_n 0, 1) := by decide +kernel
theorem d_law_1132 : decode code 1132 = .ok (.iload 4, 2) := by decide +kernel
theorem d_law_1134 : decode code 1134 = .ok (.iconst 2, 1) := by decide +kernel
theorem d_law_1135 : decode code 1135 = .ok (.iadd, 1) := by decide +kernel
theorem d_law_1136 : decode code 1136 = .ok (.iaload, 1) := by decide +kernel
theorem d_law_1137 : decode code 1137 = .ok (.aload_n 3, 1) := by decide +kernel
theorem d_law_1138 : decode code 1138 = .ok (.invokestatic 139, 3) := by decide +kernel
theorem d_law_1141 : decode code 1141 = .ok (.istore 5, 2) := by decide +kernel
theorem d_law_1143 : decode code 1143 = .ok (.aload_n 2, 1) := by decide +kernel
theorem d_law_1144 : decode code 1144 = .ok (.aload_n 0, 1) := by decide +kernel
theorem d_law_1145 : decode code 1145 = .ok (.iload 4, 2) := by decide +kernel
theorem d_law_1147 : decode code 1147 = .ok (.iconst 1, 1) := by decide +kernel
theorem d_law_1148 : decode code 1148 = .ok (.iadd, 1) := by decide +kernel
theorem d_law_1149 : decode code 1149 = .ok (.iaload, 1) := by decide +kernel
theorem d_law_1150 : decode code 1150 = .ok (.aload_n 0, 1) := by decide +kernel
theorem d_law_1151 : decode code 1151 = .ok (.iload 4, 2) := by decide +kernel
theorem d_law_1153 : decode code 1153 = .ok (.iconst 2, 1) := by decide +kernel
theorem d_law_1154 : decode code 1154 = .ok (.iadd, 1) := by decide +kernel
theorem d_law_1155 : decode code 1155 = .ok (.iaload, 1) := by decide +kernel
theorem d_law_1156 : decode code 1156 = .ok (.invokevirtual 141, 3) := by decide +kernel
theorem d_law_1159 : decode code 1159 = .ok (.istore 6, 2) := by decide +kernel
theorem d_law_1161 : decode code 1161 = .ok (.aload_n 2, 1) := by decide +kernel
theorem d_law_1162 : decode code 1162 = .ok (.invokevirtual 84, 3) := by decide +kernel
theorem d_law_1165 : decode code 1165 = .ok (.iload 5, 2) := by decide +kernel
theorem d_law_1167 : decode code 1167 = .ok (.if_icmp .eq 5, 3) := by decide +kernel
theorem d_law_1170 : decode code 1170 = .ok (.iconst 0, 1) := by decide +kernel
theorem d_law_1171 : decode code 1171 = .ok (.ireturn, 1) := by decide +kernel
theorem d_law_1172 : decode code 1172 = .ok (.iload 5, 2) := by decide +kernel
theorem d_law_1174 : decode code 1174 = .ok (.ifCond .ne 15, 3) := by decide +kernel
theorem d_law_1177 : decode code 1177 = .ok (.aload_n 3, 1) := by decide +kernel
theorem d_law_1178 : decode code 1178 = .ok (.iconst 0, 1) := by decide +kernel
theorem d_law_1179 : decode code 1179 = .ok (.laload, 1) := by decide +kernel
theorem d_law_1180 : decode code 1180 = .ok (.iload 6, 2) := by decide +kernel
theorem d_law_1182 : decode code 1182 = .ok (.i2l, 1) := by decide +kernel
theorem d_law_1183 : decode code 1183 = .ok (.lcmp, 1) := by decide +kernel
theorem d_law_1184 : decode code 1184 = .ok (.ifCond .eq 5, 3) := by decide +kernel
theorem d_law_1187 : decode code 1187 = .ok (.iconst 0, 1) := by decide +kernel
theorem d_law_1188 : decode code 1188 = .ok (.ireturn, 1) := by decide +kernel
theorem d_law_1189 : decode code 1189 = .ok (.goto 96, 3) := by decide +kernel
theorem d_law_1192 : decode code 1192 = .ok (.aload_n 1, 1) := by decide +kernel
theorem d_law_1193 : decode code 1193 = .ok (.invokevirtual 142, 3) := by decide +kernel
theorem d_law_1196 : decode code 1196 = .ok (.aload_n 2, 1) := by decide +kernel
theorem d_law_1197 : decode code 1197 = .ok (.invokevirtual 145, 3) := by decide +kernel
theorem d_law_1200 : decode code 1200 = .ok (.if_icmp .eq 85, 3) := by decide +kernel
theorem d_law_1203 : decode code 1203 = .ok (.iconst 0, 1) := by decide +kernel
theorem d_law_1204 : decode code 1204 = .ok (.ireturn, 1) := by decide +kernel
theorem d_law_1205 : decode code 1205 = .ok (.aload_n 1, 1) := by decide +kernel
theorem d_law_1206 : decode code 1206 = .ok (.aload_n 0, 1) := by decide +kernel
theorem d_law_1207 : decode code 1207 = .ok (.iload 4, 2) := by decide +kernel
theorem d_law_1209 : decode code 1209 = .ok (.iconst 1, 1) := by decide +kernel
theorem d_law_1210 : decode code 1210 = .ok (.iadd, 1) := by decide +kernel
theorem d_law_1211 : decode code 1211 = .ok (.iaload, 1) := by decide +kernel
theorem d_law_1212 : decode code 1212 = .ok (.invokestatic 146, 3) := by decide +kernel
theorem d_law_1215 : decode code 1215 = .ok (.istore 5, 2) := by decide +kernel
theorem d_law_1217 : decode code 1217 = .ok (.aload_n 2, 1) := by decide +kernel
theorem d_law_1218 : decode code 1218 = .ok (.aload_n 0, 1) := by decide +kernel
theorem d_law_1219 : decode code 1219 = .ok (.iload 4, 2) := by decide +kernel
theorem d_law_1221 : decode code 1221 = .ok (.iconst 1, 1) := by decide +kernel
theorem d_law_1222 : decode code 1222 = .ok (.iadd, 1) := by decide +kernel
theorem d_law_1223 : decode code 1223 = .ok (.iaload, 1) := by decide +kernel
theorem d_law_1224 : decode code 1224 = .ok (.invokevirtual 148, 3) := by decide +kernel
theorem d_law_1227 : decode code 1227 = .ok (.aload_n 2, 1) := by decide +kernel
theorem d_law_1228 : decode code 1228 = .ok (.invokevirtual 84, 3) := by decide +kernel
theorem d_law_1231 : decode code 1231 = .ok (.iload 5, 2) := by decide +kernel
theorem d_law_1233 : decode code 1233 = .ok (.if_icmp .eq 5, 3) := by decide +kernel
theorem d_law_1236 : decode code 1236 = .ok (.iconst 0, 1) := by decide +kernel
theorem d_law_1237 : decode code 1237 = .ok (.ireturn, 1) := by decide +kernel
theorem d_law_1238 : decode code 1238 = .ok (.goto 47, 3) := by decide +kernel
theorem d_law_1241 : decode code 1241 = .ok (.aload_n 1, 1) := by decide +kernel
theorem d_law_1242 : decode code 1242 = .ok (.aload_n 3, 1) := by decide +kernel
theorem d_law_1243 : decode code 1243 = .ok (.invokestatic 149, 3) := by decide +kernel
theorem d_law_1246 : decode code 1246 = .ok (.istore 5, 2) := by decide +kernel
theorem d_law_1248 : decode code 1248 = .ok (.aload_n 2, 1) := by decide +kernel
theorem d_law_1249 : decode code 1249 = .ok (.invokevirtual 152, 3) := by decide +kernel
theorem d_law_1252 : decode code 1252 = .ok (.istore 6, 2) := by decide +kernel
theorem d_law_1254 : decode code 1254 = .ok (.aload_n 2, 1) := by decide +kernel
theorem d_law_1255 : decode code 1255 = .ok (.invokevirtual 84, 3) := by decide +kernel
theorem d_law_1258 : decode code 1258 = .ok (.iload 5, 2) := by decide +kernel
theorem d_law_1260 : decode code 1260 = .ok (.if_icmp .eq 5, 3) := by decide +kernel
theorem d_law_1263 : decode code 1263 = .ok (.iconst 0, 1) := by decide +kernel
theorem d_law_1264 : decode code 1264 = .ok (.ireturn, 1) := by decide +kernel
theorem d_law_1265 : decode code 1265 = .ok (.iload 5, 2) := by decide +kernel
theorem d_law_1267 : decode code 1267 = .ok (.ifCond .ne 15, 3) := by decide +kernel
theorem d_law_1270 : decode code 1270 = .ok (.aload_n 3, 1) := by decide +kernel
theorem d_law_1271 : decode code 1271 = .ok (.iconst 0, 1) := by decide +kernel
theorem d_law_1272 : decode code 1272 = .ok (.laload, 1) := by decide +kernel
theorem d_law_1273 : decode code 1273 = .ok (.iload 6, 2) := by decide +kernel
theorem d_law_1275 : decode code 1275 = .ok (.i2l, 1) := by decide +kernel
theorem d_law_1276 : decode code 1276 = .ok (.lcmp, 1) := by decide +kernel
theorem d_law_1277 : decode code 1277 = .ok (.ifCond .eq 5, 3) := by decide +kernel
theorem d_law_1280 : decode code 1280 = .ok (.iconst 0, 1) := by decide +kernel
theorem d_law_1281 : decode code 1281 = .ok (.ireturn, 1) := by decide +kernel
theorem d_law_1282 : decode code 1282 = .ok (.goto 3, 3) := by decide +kernel
theorem d_law_1285 : decode code 1285 = .ok (.iinc 4 6, 3) := by decide +kernel
theorem d_law_1288 : decode code 1288 = .ok (.goto (-1265), 3) := by decide +kernel
theorem d_law_1291 : decode code 1291 = .ok (.iconst 1, 1) := by decide +kernel
theorem d_law_1292 : decode code 1292 = .ok (.ireturn, 1) := by decide +kernel
