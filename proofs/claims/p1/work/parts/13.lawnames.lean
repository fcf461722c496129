abbrev cL_law : ByteArray := code
abbrev yL_law : MethodName := ⟨"DrawingVaultLaw", "law", "([I)Z"⟩
theorem dL_law_0 : decode cL_law 0 = .ok (.new 8, 3) := by decide +kernel
theorem dL_law_3 : decode cL_law 3 = .ok (.dup, 1) := by decide +kernel
theorem dL_law_4 : decode cL_law 4 = .ok (.invokespecial 75, 3) := by decide +kernel
theorem dL_law_7 : decode cL_law 7 = .ok (.astore_n 1, 1) := by decide +kernel
theorem dL_law_8 : decode cL_law 8 = .ok (.new 76, 3) := by decide +kernel
theorem dL_law_11 : decode cL_law 11 = .ok (.dup, 1) := by decide +kernel
theorem dL_law_12 : decode cL_law 12 = .ok (.invokespecial 78, 3) := by decide +kernel
theorem dL_law_15 : decode cL_law 15 = .ok (.astore_n 2, 1) := by decide +kernel
theorem dL_law_16 : decode cL_law 16 = .ok (.iconst 1, 1) := by decide +kernel
theorem dL_law_17 : decode cL_law 17 = .ok (.newarray .long, 2) := by decide +kernel
theorem dL_law_19 : decode cL_law 19 = .ok (.astore_n 3, 1) := by decide +kernel
theorem dL_law_20 : decode cL_law 20 = .ok (.iconst 0, 1) := by decide +kernel
theorem dL_law_21 : decode cL_law 21 = .ok (.istore 4, 2) := by decide +kernel
theorem dL_law_23 : decode cL_law 23 = .ok (.iload 4, 2) := by decide +kernel
theorem dL_law_25 : decode cL_law 25 = .ok (.aload_n 0, 1) := by decide +kernel
theorem dL_law_26 : decode cL_law 26 = .ok (.arraylength, 1) := by decide +kernel
theorem dL_law_27 : decode cL_law 27 = .ok (.bipush 6, 2) := by decide +kernel
theorem dL_law_29 : decode cL_law 29 = .ok (.isub, 1) := by decide +kernel
theorem dL_law_30 : decode cL_law 30 = .ok (.if_icmp .gt 1739, 3) := by decide +kernel
theorem dL_law_33 : decode cL_law 33 = .ok (.aload_n 0, 1) := by decide +kernel
theorem dL_law_34 : decode cL_law 34 = .ok (.iload 4, 2) := by decide +kernel
theorem dL_law_36 : decode cL_law 36 = .ok (.iaload, 1) := by decide +kernel
theorem dL_law_37 : decode cL_law 37 = .ok (.bipush 31, 2) := by decide +kernel
theorem dL_law_39 : decode cL_law 39 = .ok (.iand, 1) := by decide +kernel
theorem dL_law_40 : decode cL_law 40 = .ok (.tableswitch 1723 0 22 #[108, 183, 239, 314, 389, 488, 575, 686, 773, 841, 928, 1015, 1102, 1170, 1183, 1263, 1355, 1423, 1503, 1568, 1660, 1685, 1698], 108) := by decide +kernel
theorem dL_law_148 : decode cL_law 148 = .ok (.aload_n 1, 1) := by decide +kernel
theorem dL_law_149 : decode cL_law 149 = .ok (.aload_n 0, 1) := by decide +kernel
theorem dL_law_150 : decode cL_law 150 = .ok (.iload 4, 2) := by decide +kernel
theorem dL_law_152 : decode cL_law 152 = .ok (.iconst 1, 1) := by decide +kernel
theorem dL_law_153 : decode cL_law 153 = .ok (.iadd, 1) := by decide +kernel
theorem dL_law_154 : decode cL_law 154 = .ok (.iaload, 1) := by decide +kernel
theorem dL_law_155 : decode cL_law 155 = .ok (.aload_n 0, 1) := by decide +kernel
theorem dL_law_156 : decode cL_law 156 = .ok (.iload 4, 2) := by decide +kernel
theorem dL_law_158 : decode cL_law 158 = .ok (.iconst 2, 1) := by decide +kernel
theorem dL_law_159 : decode cL_law 159 = .ok (.iadd, 1) := by decide +kernel
theorem dL_law_160 : decode cL_law 160 = .ok (.iaload, 1) := by decide +kernel
theorem dL_law_161 : decode cL_law 161 = .ok (.aload_n 3, 1) := by decide +kernel
theorem dL_law_162 : decode cL_law 162 = .ok (.invokestatic 79, 3) := by decide +kernel
theorem dL_law_165 : decode cL_law 165 = .ok (.istore 5, 2) := by decide +kernel
theorem dL_law_167 : decode cL_law 167 = .ok (.aload_n 2, 1) := by decide +kernel
theorem dL_law_168 : decode cL_law 168 = .ok (.aload_n 0, 1) := by decide +kernel
theorem dL_law_169 : decode cL_law 169 = .ok (.iload 4, 2) := by decide +kernel
theorem dL_law_171 : decode cL_law 171 = .ok (.iconst 1, 1) := by decide +kernel
theorem dL_law_172 : decode cL_law 172 = .ok (.iadd, 1) := by decide +kernel
theorem dL_law_173 : decode cL_law 173 = .ok (.iaload, 1) := by decide +kernel
theorem dL_law_174 : decode cL_law 174 = .ok (.aload_n 0, 1) := by decide +kernel
theorem dL_law_175 : decode cL_law 175 = .ok (.iload 4, 2) := by decide +kernel
theorem dL_law_177 : decode cL_law 177 = .ok (.iconst 2, 1) := by decide +kernel
theorem dL_law_178 : decode cL_law 178 = .ok (.iadd, 1) := by decide +kernel
theorem dL_law_179 : decode cL_law 179 = .ok (.iaload, 1) := by decide +kernel
theorem dL_law_180 : decode cL_law 180 = .ok (.invokevirtual 84, 3) := by decide +kernel
theorem dL_law_183 : decode cL_law 183 = .ok (.istore 6, 2) := by decide +kernel
theorem dL_law_185 : decode cL_law 185 = .ok (.aload_n 2, 1) := by decide +kernel
theorem dL_law_186 : decode cL_law 186 = .ok (.invokevirtual 85, 3) := by decide +kernel
theorem dL_law_189 : decode cL_law 189 = .ok (.iload 5, 2) := by decide +kernel
theorem dL_law_191 : decode cL_law 191 = .ok (.if_icmp .eq 5, 3) := by decide +kernel
theorem dL_law_196 : decode cL_law 196 = .ok (.iload 5, 2) := by decide +kernel
theorem dL_law_198 : decode cL_law 198 = .ok (.ifCond .ne 22, 3) := by decide +kernel
theorem dL_law_201 : decode cL_law 201 = .ok (.aload_n 3, 1) := by decide +kernel
theorem dL_law_202 : decode cL_law 202 = .ok (.iconst 0, 1) := by decide +kernel
theorem dL_law_203 : decode cL_law 203 = .ok (.laload, 1) := by decide +kernel
theorem dL_law_204 : decode cL_law 204 = .ok (.iload 6, 2) := by decide +kernel
theorem dL_law_206 : decode cL_law 206 = .ok (.ifCond .eq 7, 3) := by decide +kernel
theorem dL_law_209 : decode cL_law 209 = .ok (.lconst 1, 1) := by decide +kernel
theorem dL_law_210 : decode cL_law 210 = .ok (.goto 4, 3) := by decide +kernel
theorem dL_law_213 : decode cL_law 213 = .ok (.lconst 0, 1) := by decide +kernel
theorem dL_law_214 : decode cL_law 214 = .ok (.lcmp, 1) := by decide +kernel
theorem dL_law_215 : decode cL_law 215 = .ok (.ifCond .eq 5, 3) := by decide +kernel
theorem dL_law_218 : decode cL_law 218 = .ok (.iconst 0, 1) := by decide +kernel
theorem dL_law_219 : decode cL_law 219 = .ok (.ireturn, 1) := by decide +kernel
theorem dL_law_220 : decode cL_law 220 = .ok (.goto 1543, 3) := by decide +kernel
theorem dL_law_223 : decode cL_law 223 = .ok (.aload_n 1, 1) := by decide +kernel
theorem dL_law_224 : decode cL_law 224 = .ok (.aload_n 0, 1) := by decide +kernel
theorem dL_law_225 : decode cL_law 225 = .ok (.iload 4, 2) := by decide +kernel
theorem dL_law_227 : decode cL_law 227 = .ok (.iconst 1, 1) := by decide +kernel
theorem dL_law_228 : decode cL_law 228 = .ok (.iadd, 1) := by decide +kernel
theorem dL_law_229 : decode cL_law 229 = .ok (.iaload, 1) := by decide +kernel
theorem dL_law_230 : decode cL_law 230 = .ok (.aload_n 3, 1) := by decide +kernel
theorem dL_law_231 : decode cL_law 231 = .ok (.invokestatic 89, 3) := by decide +kernel
theorem dL_law_234 : decode cL_law 234 = .ok (.istore 5, 2) := by decide +kernel
theorem dL_law_236 : decode cL_law 236 = .ok (.aload_n 2, 1) := by decide +kernel
theorem dL_law_237 : decode cL_law 237 = .ok (.aload_n 0, 1) := by decide +kernel
theorem dL_law_238 : decode cL_law 238 = .ok (.iload 4, 2) := by decide +kernel
theorem dL_law_240 : decode cL_law 240 = .ok (.iconst 1, 1) := by decide +kernel
theorem dL_law_241 : decode cL_law 241 = .ok (.iadd, 1) := by decide +kernel
theorem dL_law_242 : decode cL_law 242 = .ok (.iaload, 1) := by decide +kernel
theorem dL_law_243 : decode cL_law 243 = .ok (.invokevirtual 92, 3) := by decide +kernel
theorem dL_law_246 : decode cL_law 246 = .ok (.istore 6, 2) := by decide +kernel
theorem dL_law_248 : decode cL_law 248 = .ok (.aload_n 2, 1) := by decide +kernel
theorem dL_law_249 : decode cL_law 249 = .ok (.invokevirtual 85, 3) := by decide +kernel
theorem dL_law_252 : decode cL_law 252 = .ok (.iload 5, 2) := by decide +kernel
theorem dL_law_254 : decode cL_law 254 = .ok (.if_icmp .eq 5, 3) := by decide +kernel
theorem dL_law_259 : decode cL_law 259 = .ok (.iload 5, 2) := by decide +kernel
theorem dL_law_261 : decode cL_law 261 = .ok (.ifCond .ne 15, 3) := by decide +kernel
theorem dL_law_264 : decode cL_law 264 = .ok (.aload_n 3, 1) := by decide +kernel
theorem dL_law_265 : decode cL_law 265 = .ok (.iconst 0, 1) := by decide +kernel
theorem dL_law_266 : decode cL_law 266 = .ok (.laload, 1) := by decide +kernel
theorem dL_law_267 : decode cL_law 267 = .ok (.iload 6, 2) := by decide +kernel
theorem dL_law_269 : decode cL_law 269 = .ok (.i2l, 1) := by decide +kernel
theorem dL_law_270 : decode cL_law 270 = .ok (.lcmp, 1) := by decide +kernel
theorem dL_law_271 : decode cL_law 271 = .ok (.ifCond .eq 5, 3) := by decide +kernel
theorem dL_law_276 : decode cL_law 276 = .ok (.goto 1487, 3) := by decide +kernel
theorem dL_law_279 : decode cL_law 279 = .ok (.aload_n 1, 1) := by decide +kernel
theorem dL_law_280 : decode cL_law 280 = .ok (.aload_n 0, 1) := by decide +kernel
theorem dL_law_281 : decode cL_law 281 = .ok (.iload 4, 2) := by decide +kernel
theorem dL_law_283 : decode cL_law 283 = .ok (.iconst 1, 1) := by decide +kernel
theorem dL_law_284 : decode cL_law 284 = .ok (.iadd, 1) := by decide +kernel
theorem dL_law_285 : decode cL_law 285 = .ok (.iaload, 1) := by decide +kernel
theorem dL_law_286 : decode cL_law 286 = .ok (.aload_n 0, 1) := by decide +kernel
theorem dL_law_287 : decode cL_law 287 = .ok (.iload 4, 2) := by decide +kernel
theorem dL_law_289 : decode cL_law 289 = .ok (.iconst 2, 1) := by decide +kernel
theorem dL_law_290 : decode cL_law 290 = .ok (.iadd, 1) := by decide +kernel
theorem dL_law_291 : decode cL_law 291 = .ok (.iaload, 1) := by decide +kernel
theorem dL_law_292 : decode cL_law 292 = .ok (.aload_n 3, 1) := by decide +kernel
theorem dL_law_293 : decode cL_law 293 = .ok (.invokestatic 93, 3) := by decide +kernel
theorem dL_law_296 : decode cL_law 296 = .ok (.istore 5, 2) := by decide +kernel
theorem dL_law_298 : decode cL_law 298 = .ok (.aload_n 2, 1) := by decide +kernel
theorem dL_law_299 : decode cL_law 299 = .ok (.aload_n 0, 1) := by decide +kernel
theorem dL_law_300 : decode cL_law 300 = .ok (.iload 4, 2) := by decide +kernel
theorem dL_law_302 : decode cL_law 302 = .ok (.iconst 1, 1) := by decide +kernel
theorem dL_law_303 : decode cL_law 303 = .ok (.iadd, 1) := by decide +kernel
theorem dL_law_304 : decode cL_law 304 = .ok (.iaload, 1) := by decide +kernel
theorem dL_law_305 : decode cL_law 305 = .ok (.aload_n 0, 1) := by decide +kernel
theorem dL_law_306 : decode cL_law 306 = .ok (.iload 4, 2) := by decide +kernel
theorem dL_law_308 : decode cL_law 308 = .ok (.iconst 2, 1) := by decide +kernel
theorem dL_law_309 : decode cL_law 309 = .ok (.iadd, 1) := by decide +kernel
theorem dL_law_310 : decode cL_law 310 = .ok (.iaload, 1) := by decide +kernel
theorem dL_law_311 : decode cL_law 311 = .ok (.invokevirtual 95, 3) := by decide +kernel
theorem dL_law_314 : decode cL_law 314 = .ok (.istore 6, 2) := by decide +kernel
theorem dL_law_316 : decode cL_law 316 = .ok (.aload_n 2, 1) := by decide +kernel
theorem dL_law_317 : decode cL_law 317 = .ok (.invokevirtual 85, 3) := by decide +kernel
theorem dL_law_320 : decode cL_law 320 = .ok (.iload 5, 2) := by decide +kernel
theorem dL_law_322 : decode cL_law 322 = .ok (.if_icmp .eq 5, 3) := by decide +kernel
theorem dL_law_327 : decode cL_law 327 = .ok (.iload 5, 2) := by decide +kernel
theorem dL_law_329 : decode cL_law 329 = .ok (.ifCond .ne 22, 3) := by decide +kernel
theorem dL_law_332 : decode cL_law 332 = .ok (.aload_n 3, 1) := by decide +kernel
theorem dL_law_333 : decode cL_law 333 = .ok (.iconst 0, 1) := by decide +kernel
theorem dL_law_334 : decode cL_law 334 = .ok (.laload, 1) := by decide +kernel
theorem dL_law_335 : decode cL_law 335 = .ok (.iload 6, 2) := by decide +kernel
theorem dL_law_337 : decode cL_law 337 = .ok (.ifCond .eq 7, 3) := by decide +kernel
theorem dL_law_344 : decode cL_law 344 = .ok (.lconst 0, 1) := by decide +kernel
theorem dL_law_345 : decode cL_law 345 = .ok (.lcmp, 1) := by decide +kernel
theorem dL_law_346 : decode cL_law 346 = .ok (.ifCond .eq 5, 3) := by decide +kernel
theorem dL_law_351 : decode cL_law 351 = .ok (.goto 1412, 3) := by decide +kernel
theorem dL_law_354 : decode cL_law 354 = .ok (.aload_n 1, 1) := by decide +kernel
theorem dL_law_355 : decode cL_law 355 = .ok (.aload_n 0, 1) := by decide +kernel
theorem dL_law_356 : decode cL_law 356 = .ok (.iload 4, 2) := by decide +kernel
theorem dL_law_358 : decode cL_law 358 = .ok (.iconst 1, 1) := by decide +kernel
theorem dL_law_359 : decode cL_law 359 = .ok (.iadd, 1) := by decide +kernel
theorem dL_law_360 : decode cL_law 360 = .ok (.iaload, 1) := by decide +kernel
theorem dL_law_361 : decode cL_law 361 = .ok (.aload_n 0, 1) := by decide +kernel
theorem dL_law_362 : decode cL_law 362 = .ok (.iload 4, 2) := by decide +kernel
theorem dL_law_364 : decode cL_law 364 = .ok (.iconst 2, 1) := by decide +kernel
theorem dL_law_365 : decode cL_law 365 = .ok (.iadd, 1) := by decide +kernel
theorem dL_law_366 : decode cL_law 366 = .ok (.iaload, 1) := by decide +kernel
theorem dL_law_367 : decode cL_law 367 = .ok (.aload_n 3, 1) := by decide +kernel
theorem dL_law_368 : decode cL_law 368 = .ok (.invokestatic 96, 3) := by decide +kernel
theorem dL_law_371 : decode cL_law 371 = .ok (.istore 5, 2) := by decide +kernel
theorem dL_law_373 : decode cL_law 373 = .ok (.aload_n 2, 1) := by decide +kernel
theorem dL_law_374 : decode cL_law 374 = .ok (.aload_n 0, 1) := by decide +kernel
theorem dL_law_375 : decode cL_law 375 = .ok (.iload 4, 2) := by decide +kernel
theorem dL_law_377 : decode cL_law 377 = .ok (.iconst 1, 1) := by decide +kernel
theorem dL_law_378 : decode cL_law 378 = .ok (.iadd, 1) := by decide +kernel
theorem dL_law_379 : decode cL_law 379 = .ok (.iaload, 1) := by decide +kernel
theorem dL_law_380 : decode cL_law 380 = .ok (.aload_n 0, 1) := by decide +kernel
theorem dL_law_381 : decode cL_law 381 = .ok (.iload 4, 2) := by decide +kernel
theorem dL_law_383 : decode cL_law 383 = .ok (.iconst 2, 1) := by decide +kernel
theorem dL_law_384 : decode cL_law 384 = .ok (.iadd, 1) := by decide +kernel
theorem dL_law_385 : decode cL_law 385 = .ok (.iaload, 1) := by decide +kernel
theorem dL_law_386 : decode cL_law 386 = .ok (.invokevirtual 98, 3) := by decide +kernel
theorem dL_law_389 : decode cL_law 389 = .ok (.istore 6, 2) := by decide +kernel
theorem dL_law_391 : decode cL_law 391 = .ok (.aload_n 2, 1) := by decide +kernel
theorem dL_law_392 : decode cL_law 392 = .ok (.invokevirtual 85, 3) := by decide +kernel
theorem dL_law_395 : decode cL_law 395 = .ok (.iload 5, 2) := by decide +kernel
theorem dL_law_397 : decode cL_law 397 = .ok (.if_icmp .eq 5, 3) := by decide +kernel
theorem dL_law_402 : decode cL_law 402 = .ok (.iload 5, 2) := by decide +kernel
theorem dL_law_404 : decode cL_law 404 = .ok (.ifCond .ne 22, 3) := by decide +kernel
theorem dL_law_407 : decode cL_law 407 = .ok (.aload_n 3, 1) := by decide +kernel
theorem dL_law_408 : decode cL_law 408 = .ok (.iconst 0, 1) := by decide +kernel
theorem dL_law_409 : decode cL_law 409 = .ok (.laload, 1) := by decide +kernel
theorem dL_law_410 : decode cL_law 410 = .ok (.iload 6, 2) := by decide +kernel
theorem dL_law_412 : decode cL_law 412 = .ok (.ifCond .eq 7, 3) := by decide +kernel
theorem dL_law_419 : decode cL_law 419 = .ok (.lconst 0, 1) := by decide +kernel
theorem dL_law_420 : decode cL_law 420 = .ok (.lcmp, 1) := by decide +kernel
theorem dL_law_421 : decode cL_law 421 = .ok (.ifCond .eq 5, 3) := by decide +kernel
theorem dL_law_426 : decode cL_law 426 = .ok (.goto 1337, 3) := by decide +kernel
theorem dL_law_429 : decode cL_law 429 = .ok (.aload_n 1, 1) := by decide +kernel
theorem dL_law_430 : decode cL_law 430 = .ok (.aload_n 0, 1) := by decide +kernel
theorem dL_law_431 : decode cL_law 431 = .ok (.iload 4, 2) := by decide +kernel
theorem dL_law_433 : decode cL_law 433 = .ok (.iconst 1, 1) := by decide +kernel
theorem dL_law_434 : decode cL_law 434 = .ok (.iadd, 1) := by decide +kernel
theorem dL_law_435 : decode cL_law 435 = .ok (.iaload, 1) := by decide +kernel
theorem dL_law_436 : decode cL_law 436 = .ok (.aload_n 0, 1) := by decide +kernel
theorem dL_law_437 : decode cL_law 437 = .ok (.iload 4, 2) := by decide +kernel
theorem dL_law_439 : decode cL_law 439 = .ok (.iconst 2, 1) := by decide +kernel
theorem dL_law_440 : decode cL_law 440 = .ok (.iadd, 1) := by decide +kernel
theorem dL_law_441 : decode cL_law 441 = .ok (.iaload, 1) := by decide +kernel
theorem dL_law_442 : decode cL_law 442 = .ok (.aload_n 0, 1) := by decide +kernel
theorem dL_law_443 : decode cL_law 443 = .ok (.iload 4, 2) := by decide +kernel
theorem dL_law_445 : decode cL_law 445 = .ok (.iconst 3, 1) := by decide +kernel
theorem dL_law_446 : decode cL_law 446 = .ok (.iadd, 1) := by decide +kernel
theorem dL_law_447 : decode cL_law 447 = .ok (.iaload, 1) := by decide +kernel
theorem dL_law_448 : decode cL_law 448 = .ok (.aload_n 0, 1) := by decide +kernel
theorem dL_law_449 : decode cL_law 449 = .ok (.iload 4, 2) := by decide +kernel
theorem dL_law_451 : decode cL_law 451 = .ok (.iconst 4, 1) := by decide +kernel
theorem dL_law_452 : decode cL_law 452 = .ok (.iadd, 1) := by decide +kernel
theorem dL_law_453 : decode cL_law 453 = .ok (.iaload, 1) := by decide +kernel
theorem dL_law_454 : decode cL_law 454 = .ok (.aload_n 3, 1) := by decide +kernel
theorem dL_law_455 : decode cL_law 455 = .ok (.invokestatic 99, 3) := by decide +kernel
theorem dL_law_458 : decode cL_law 458 = .ok (.istore 5, 2) := by decide +kernel
theorem dL_law_460 : decode cL_law 460 = .ok (.aload_n 2, 1) := by decide +kernel
theorem dL_law_461 : decode cL_law 461 = .ok (.aload_n 0, 1) := by decide +kernel
theorem dL_law_462 : decode cL_law 462 = .ok (.iload 4, 2) := by decide +kernel
theorem dL_law_464 : decode cL_law 464 = .ok (.iconst 1, 1) := by decide +kernel
theorem dL_law_465 : decode cL_law 465 = .ok (.iadd, 1) := by decide +kernel
theorem dL_law_466 : decode cL_law 466 = .ok (.iaload, 1) := by decide +kernel
theorem dL_law_467 : decode cL_law 467 = .ok (.aload_n 0, 1) := by decide +kernel
theorem dL_law_468 : decode cL_law 468 = .ok (.iload 4, 2) := by decide +kernel
theorem dL_law_470 : decode cL_law 470 = .ok (.iconst 2, 1) := by decide +kernel
theorem dL_law_471 : decode cL_law 471 = .ok (.iadd, 1) := by decide +kernel
theorem dL_law_472 : decode cL_law 472 = .ok (.iaload, 1) := by decide +kernel
theorem dL_law_473 : decode cL_law 473 = .ok (.aload_n 0, 1) := by decide +kernel
theorem dL_law_474 : decode cL_law 474 = .ok (.iload 4, 2) := by decide +kernel
theorem dL_law_476 : decode cL_law 476 = .ok (.iconst 3, 1) := by decide +kernel
theorem dL_law_477 : decode cL_law 477 = .ok (.iadd, 1) := by decide +kernel
theorem dL_law_478 : decode cL_law 478 = .ok (.iaload, 1) := by decide +kernel
theorem dL_law_479 : decode cL_law 479 = .ok (.aload_n 0, 1) := by decide +kernel
theorem dL_law_480 : decode cL_law 480 = .ok (.iload 4, 2) := by decide +kernel
theorem dL_law_482 : decode cL_law 482 = .ok (.iconst 4, 1) := by decide +kernel
theorem dL_law_483 : decode cL_law 483 = .ok (.iadd, 1) := by decide +kernel
theorem dL_law_484 : decode cL_law 484 = .ok (.iaload, 1) := by decide +kernel
theorem dL_law_485 : decode cL_law 485 = .ok (.invokevirtual 102, 3) := by decide +kernel
theorem dL_law_488 : decode cL_law 488 = .ok (.istore 6, 2) := by decide +kernel
theorem dL_law_490 : decode cL_law 490 = .ok (.aload_n 2, 1) := by decide +kernel
theorem dL_law_491 : decode cL_law 491 = .ok (.invokevirtual 85, 3) := by decide +kernel
theorem dL_law_494 : decode cL_law 494 = .ok (.iload 5, 2) := by decide +kernel
theorem dL_law_496 : decode cL_law 496 = .ok (.if_icmp .eq 5, 3) := by decide +kernel
theorem dL_law_501 : decode cL_law 501 = .ok (.iload 5, 2) := by decide +kernel
theorem dL_law_503 : decode cL_law 503 = .ok (.ifCond .ne 22, 3) := by decide +kernel
theorem dL_law_506 : decode cL_law 506 = .ok (.aload_n 3, 1) := by decide +kernel
theorem dL_law_507 : decode cL_law 507 = .ok (.iconst 0, 1) := by decide +kernel
theorem dL_law_508 : decode cL_law 508 = .ok (.laload, 1) := by decide +kernel
theorem dL_law_509 : decode cL_law 509 = .ok (.iload 6, 2) := by decide +kernel
theorem dL_law_511 : decode cL_law 511 = .ok (.ifCond .eq 7, 3) := by decide +kernel
theorem dL_law_518 : decode cL_law 518 = .ok (.lconst 0, 1) := by decide +kernel
theorem dL_law_519 : decode cL_law 519 = .ok (.lcmp, 1) := by decide +kernel
theorem dL_law_520 : decode cL_law 520 = .ok (.ifCond .eq 5, 3) := by decide +kernel
theorem dL_law_525 : decode cL_law 525 = .ok (.goto 1238, 3) := by decide +kernel
theorem dL_law_528 : decode cL_law 528 = .ok (.aload_n 1, 1) := by decide +kernel
theorem dL_law_529 : decode cL_law 529 = .ok (.aload_n 0, 1) := by decide +kernel
theorem dL_law_530 : decode cL_law 530 = .ok (.iload 4, 2) := by decide +kernel
theorem dL_law_532 : decode cL_law 532 = .ok (.iconst 1, 1) := by decide +kernel
theorem dL_law_533 : decode cL_law 533 = .ok (.iadd, 1) := by decide +kernel
theorem dL_law_534 : decode cL_law 534 = .ok (.iaload, 1) := by decide +kernel
theorem dL_law_535 : decode cL_law 535 = .ok (.aload_n 0, 1) := by decide +kernel
theorem dL_law_536 : decode cL_law 536 = .ok (.iload 4, 2) := by decide +kernel
theorem dL_law_538 : decode cL_law 538 = .ok (.iconst 2, 1) := by decide +kernel
theorem dL_law_539 : decode cL_law 539 = .ok (.iadd, 1) := by decide +kernel
theorem dL_law_540 : decode cL_law 540 = .ok (.iaload, 1) := by decide +kernel
theorem dL_law_541 : decode cL_law 541 = .ok (.aload_n 0, 1) := by decide +kernel
theorem dL_law_542 : decode cL_law 542 = .ok (.iload 4, 2) := by decide +kernel
theorem dL_law_544 : decode cL_law 544 = .ok (.iconst 3, 1) := by decide +kernel
theorem dL_law_545 : decode cL_law 545 = .ok (.iadd, 1) := by decide +kernel
theorem dL_law_546 : decode cL_law 546 = .ok (.iaload, 1) := by decide +kernel
theorem dL_law_547 : decode cL_law 547 = .ok (.aload_n 3, 1) := by decide +kernel
theorem dL_law_548 : decode cL_law 548 = .ok (.invokestatic 103, 3) := by decide +kernel
theorem dL_law_551 : decode cL_law 551 = .ok (.istore 5, 2) := by decide +kernel
theorem dL_law_553 : decode cL_law 553 = .ok (.aload_n 2, 1) := by decide +kernel
theorem dL_law_554 : decode cL_law 554 = .ok (.aload_n 0, 1) := by decide +kernel
theorem dL_law_555 : decode cL_law 555 = .ok (.iload 4, 2) := by decide +kernel
theorem dL_law_557 : decode cL_law 557 = .ok (.iconst 1, 1) := by decide +kernel
theorem dL_law_558 : decode cL_law 558 = .ok (.iadd, 1) := by decide +kernel
theorem dL_law_559 : decode cL_law 559 = .ok (.iaload, 1) := by decide +kernel
theorem dL_law_560 : decode cL_law 560 = .ok (.aload_n 0, 1) := by decide +kernel
theorem dL_law_561 : decode cL_law 561 = .ok (.iload 4, 2) := by decide +kernel
theorem dL_law_563 : decode cL_law 563 = .ok (.iconst 2, 1) := by decide +kernel
theorem dL_law_564 : decode cL_law 564 = .ok (.iadd, 1) := by decide +kernel
theorem dL_law_565 : decode cL_law 565 = .ok (.iaload, 1) := by decide +kernel
theorem dL_law_566 : decode cL_law 566 = .ok (.aload_n 0, 1) := by decide +kernel
theorem dL_law_567 : decode cL_law 567 = .ok (.iload 4, 2) := by decide +kernel
theorem dL_law_569 : decode cL_law 569 = .ok (.iconst 3, 1) := by decide +kernel
theorem dL_law_570 : decode cL_law 570 = .ok (.iadd, 1) := by decide +kernel
theorem dL_law_571 : decode cL_law 571 = .ok (.iaload, 1) := by decide +kernel
theorem dL_law_572 : decode cL_law 572 = .ok (.invokevirtual 106, 3) := by decide +kernel
theorem dL_law_575 : decode cL_law 575 = .ok (.istore 6, 2) := by decide +kernel
theorem dL_law_577 : decode cL_law 577 = .ok (.aload_n 2, 1) := by decide +kernel
theorem dL_law_578 : decode cL_law 578 = .ok (.invokevirtual 85, 3) := by decide +kernel
theorem dL_law_581 : decode cL_law 581 = .ok (.iload 5, 2) := by decide +kernel
theorem dL_law_583 : decode cL_law 583 = .ok (.if_icmp .eq 5, 3) := by decide +kernel
theorem dL_law_588 : decode cL_law 588 = .ok (.iload 5, 2) := by decide +kernel
theorem dL_law_590 : decode cL_law 590 = .ok (.ifCond .ne 22, 3) := by decide +kernel
theorem dL_law_593 : decode cL_law 593 = .ok (.aload_n 3, 1) := by decide +kernel
theorem dL_law_594 : decode cL_law 594 = .ok (.iconst 0, 1) := by decide +kernel
theorem dL_law_595 : decode cL_law 595 = .ok (.laload, 1) := by decide +kernel
theorem dL_law_596 : decode cL_law 596 = .ok (.iload 6, 2) := by decide +kernel
theorem dL_law_598 : decode cL_law 598 = .ok (.ifCond .eq 7, 3) := by decide +kernel
theorem dL_law_605 : decode cL_law 605 = .ok (.lconst 0, 1) := by decide +kernel
theorem dL_law_606 : decode cL_law 606 = .ok (.lcmp, 1) := by decide +kernel
theorem dL_law_607 : decode cL_law 607 = .ok (.ifCond .eq 5, 3) := by decide +kernel
theorem dL_law_612 : decode cL_law 612 = .ok (.goto 1151, 3) := by decide +kernel
theorem dL_law_615 : decode cL_law 615 = .ok (.aload_n 1, 1) := by decide +kernel
theorem dL_law_616 : decode cL_law 616 = .ok (.aload_n 0, 1) := by decide +kernel
theorem dL_law_617 : decode cL_law 617 = .ok (.iload 4, 2) := by decide +kernel
theorem dL_law_619 : decode cL_law 619 = .ok (.iconst 1, 1) := by decide +kernel
theorem dL_law_620 : decode cL_law 620 = .ok (.iadd, 1) := by decide +kernel
theorem dL_law_621 : decode cL_law 621 = .ok (.iaload, 1) := by decide +kernel
theorem dL_law_622 : decode cL_law 622 = .ok (.aload_n 0, 1) := by decide +kernel
theorem dL_law_623 : decode cL_law 623 = .ok (.iload 4, 2) := by decide +kernel
theorem dL_law_625 : decode cL_law 625 = .ok (.iconst 2, 1) := by decide +kernel
theorem dL_law_626 : decode cL_law 626 = .ok (.iadd, 1) := by decide +kernel
theorem dL_law_627 : decode cL_law 627 = .ok (.iaload, 1) := by decide +kernel
theorem dL_law_628 : decode cL_law 628 = .ok (.aload_n 0, 1) := by decide +kernel
theorem dL_law_629 : decode cL_law 629 = .ok (.iload 4, 2) := by decide +kernel
theorem dL_law_631 : decode cL_law 631 = .ok (.iconst 3, 1) := by decide +kernel
theorem dL_law_632 : decode cL_law 632 = .ok (.iadd, 1) := by decide +kernel
theorem dL_law_633 : decode cL_law 633 = .ok (.iaload, 1) := by decide +kernel
theorem dL_law_634 : decode cL_law 634 = .ok (.aload_n 0, 1) := by decide +kernel
theorem dL_law_635 : decode cL_law 635 = .ok (.iload 4, 2) := by decide +kernel
theorem dL_law_637 : decode cL_law 637 = .ok (.iconst 4, 1) := by decide +kernel
theorem dL_law_638 : decode cL_law 638 = .ok (.iadd, 1) := by decide +kernel
theorem dL_law_639 : decode cL_law 639 = .ok (.iaload, 1) := by decide +kernel
theorem dL_law_640 : decode cL_law 640 = .ok (.aload_n 0, 1) := by decide +kernel
theorem dL_law_641 : decode cL_law 641 = .ok (.iload 4, 2) := by decide +kernel
theorem dL_law_643 : decode cL_law 643 = .ok (.iconst 5, 1) := by decide +kernel
theorem dL_law_644 : decode cL_law 644 = .ok (.iadd, 1) := by decide +kernel
theorem dL_law_645 : decode cL_law 645 = .ok (.iaload, 1) := by decide +kernel
theorem dL_law_646 : decode cL_law 646 = .ok (.aload_n 3, 1) := by decide +kernel
theorem dL_law_647 : decode cL_law 647 = .ok (.invokestatic 107, 3) := by decide +kernel
theorem dL_law_650 : decode cL_law 650 = .ok (.istore 5, 2) := by decide +kernel
theorem dL_law_652 : decode cL_law 652 = .ok (.aload_n 2, 1) := by decide +kernel
theorem dL_law_653 : decode cL_law 653 = .ok (.aload_n 0, 1) := by decide +kernel
theorem dL_law_654 : decode cL_law 654 = .ok (.iload 4, 2) := by decide +kernel
theorem dL_law_656 : decode cL_law 656 = .ok (.iconst 1, 1) := by decide +kernel
theorem dL_law_657 : decode cL_law 657 = .ok (.iadd, 1) := by decide +kernel
theorem dL_law_658 : decode cL_law 658 = .ok (.iaload, 1) := by decide +kernel
theorem dL_law_659 : decode cL_law 659 = .ok (.aload_n 0, 1) := by decide +kernel
theorem dL_law_660 : decode cL_law 660 = .ok (.iload 4, 2) := by decide +kernel
theorem dL_law_662 : decode cL_law 662 = .ok (.iconst 2, 1) := by decide +kernel
theorem dL_law_663 : decode cL_law 663 = .ok (.iadd, 1) := by decide +kernel
theorem dL_law_664 : decode cL_law 664 = .ok (.iaload, 1) := by decide +kernel
theorem dL_law_665 : decode cL_law 665 = .ok (.aload_n 0, 1) := by decide +kernel
theorem dL_law_666 : decode cL_law 666 = .ok (.iload 4, 2) := by decide +kernel
theorem dL_law_668 : decode cL_law 668 = .ok (.iconst 3, 1) := by decide +kernel
theorem dL_law_669 : decode cL_law 669 = .ok (.iadd, 1) := by decide +kernel
theorem dL_law_670 : decode cL_law 670 = .ok (.iaload, 1) := by decide +kernel
theorem dL_law_671 : decode cL_law 671 = .ok (.aload_n 0, 1) := by decide +kernel
theorem dL_law_672 : decode cL_law 672 = .ok (.iload 4, 2) := by decide +kernel
theorem dL_law_674 : decode cL_law 674 = .ok (.iconst 4, 1) := by decide +kernel
theorem dL_law_675 : decode cL_law 675 = .ok (.iadd, 1) := by decide +kernel
theorem dL_law_676 : decode cL_law 676 = .ok (.iaload, 1) := by decide +kernel
theorem dL_law_677 : decode cL_law 677 = .ok (.aload_n 0, 1) := by decide +kernel
theorem dL_law_678 : decode cL_law 678 = .ok (.iload 4, 2) := by decide +kernel
theorem dL_law_680 : decode cL_law 680 = .ok (.iconst 5, 1) := by decide +kernel
theorem dL_law_681 : decode cL_law 681 = .ok (.iadd, 1) := by decide +kernel
theorem dL_law_682 : decode cL_law 682 = .ok (.iaload, 1) := by decide +kernel
theorem dL_law_683 : decode cL_law 683 = .ok (.invokevirtual 110, 3) := by decide +kernel
theorem dL_law_686 : decode cL_law 686 = .ok (.istore 6, 2) := by decide +kernel
theorem dL_law_688 : decode cL_law 688 = .ok (.aload_n 2, 1) := by decide +kernel
theorem dL_law_689 : decode cL_law 689 = .ok (.invokevirtual 85, 3) := by decide +kernel
theorem dL_law_692 : decode cL_law 692 = .ok (.iload 5, 2) := by decide +kernel
theorem dL_law_694 : decode cL_law 694 = .ok (.if_icmp .eq 5, 3) := by decide +kernel
theorem dL_law_699 : decode cL_law 699 = .ok (.iload 5, 2) := by decide +kernel
theorem dL_law_701 : decode cL_law 701 = .ok (.ifCond .ne 22, 3) := by decide +kernel
theorem dL_law_704 : decode cL_law 704 = .ok (.aload_n 3, 1) := by decide +kernel
theorem dL_law_705 : decode cL_law 705 = .ok (.iconst 0, 1) := by decide +kernel
theorem dL_law_706 : decode cL_law 706 = .ok (.laload, 1) := by decide +kernel
theorem dL_law_707 : decode cL_law 707 = .ok (.iload 6, 2) := by decide +kernel
theorem dL_law_709 : decode cL_law 709 = .ok (.ifCond .eq 7, 3) := by decide +kernel
theorem dL_law_716 : decode cL_law 716 = .ok (.lconst 0, 1) := by decide +kernel
theorem dL_law_717 : decode cL_law 717 = .ok (.lcmp, 1) := by decide +kernel
theorem dL_law_718 : decode cL_law 718 = .ok (.ifCond .eq 5, 3) := by decide +kernel
theorem dL_law_723 : decode cL_law 723 = .ok (.goto 1040, 3) := by decide +kernel
theorem dL_law_726 : decode cL_law 726 = .ok (.aload_n 1, 1) := by decide +kernel
theorem dL_law_727 : decode cL_law 727 = .ok (.aload_n 0, 1) := by decide +kernel
theorem dL_law_728 : decode cL_law 728 = .ok (.iload 4, 2) := by decide +kernel
theorem dL_law_730 : decode cL_law 730 = .ok (.iconst 1, 1) := by decide +kernel
theorem dL_law_731 : decode cL_law 731 = .ok (.iadd, 1) := by decide +kernel
theorem dL_law_732 : decode cL_law 732 = .ok (.iaload, 1) := by decide +kernel
theorem dL_law_733 : decode cL_law 733 = .ok (.aload_n 0, 1) := by decide +kernel
theorem dL_law_734 : decode cL_law 734 = .ok (.iload 4, 2) := by decide +kernel
theorem dL_law_736 : decode cL_law 736 = .ok (.iconst 2, 1) := by decide +kernel
theorem dL_law_737 : decode cL_law 737 = .ok (.iadd, 1) := by decide +kernel
theorem dL_law_738 : decode cL_law 738 = .ok (.iaload, 1) := by decide +kernel
theorem dL_law_739 : decode cL_law 739 = .ok (.aload_n 0, 1) := by decide +kernel
theorem dL_law_740 : decode cL_law 740 = .ok (.iload 4, 2) := by decide +kernel
theorem dL_law_742 : decode cL_law 742 = .ok (.iconst 3, 1) := by decide +kernel
theorem dL_law_743 : decode cL_law 743 = .ok (.iadd, 1) := by decide +kernel
theorem dL_law_744 : decode cL_law 744 = .ok (.iaload, 1) := by decide +kernel
theorem dL_law_745 : decode cL_law 745 = .ok (.aload_n 3, 1) := by decide +kernel
theorem dL_law_746 : decode cL_law 746 = .ok (.invokestatic 111, 3) := by decide +kernel
theorem dL_law_749 : decode cL_law 749 = .ok (.istore 5, 2) := by decide +kernel
theorem dL_law_751 : decode cL_law 751 = .ok (.aload_n 2, 1) := by decide +kernel
theorem dL_law_752 : decode cL_law 752 = .ok (.aload_n 0, 1) := by decide +kernel
theorem dL_law_753 : decode cL_law 753 = .ok (.iload 4, 2) := by decide +kernel
theorem dL_law_755 : decode cL_law 755 = .ok (.iconst 1, 1) := by decide +kernel
theorem dL_law_756 : decode cL_law 756 = .ok (.iadd, 1) := by decide +kernel
theorem dL_law_757 : decode cL_law 757 = .ok (.iaload, 1) := by decide +kernel
theorem dL_law_758 : decode cL_law 758 = .ok (.aload_n 0, 1) := by decide +kernel
theorem dL_law_759 : decode cL_law 759 = .ok (.iload 4, 2) := by decide +kernel
theorem dL_law_761 : decode cL_law 761 = .ok (.iconst 2, 1) := by decide +kernel
theorem dL_law_762 : decode cL_law 762 = .ok (.iadd, 1) := by decide +kernel
theorem dL_law_763 : decode cL_law 763 = .ok (.iaload, 1) := by decide +kernel
theorem dL_law_764 : decode cL_law 764 = .ok (.aload_n 0, 1) := by decide +kernel
theorem dL_law_765 : decode cL_law 765 = .ok (.iload 4, 2) := by decide +kernel
theorem dL_law_767 : decode cL_law 767 = .ok (.iconst 3, 1) := by decide +kernel
theorem dL_law_768 : decode cL_law 768 = .ok (.iadd, 1) := by decide +kernel
theorem dL_law_769 : decode cL_law 769 = .ok (.iaload, 1) := by decide +kernel
theorem dL_law_770 : decode cL_law 770 = .ok (.invokevirtual 113, 3) := by decide +kernel
theorem dL_law_773 : decode cL_law 773 = .ok (.istore 6, 2) := by decide +kernel
theorem dL_law_775 : decode cL_law 775 = .ok (.aload_n 2, 1) := by decide +kernel
theorem dL_law_776 : decode cL_law 776 = .ok (.invokevirtual 85, 3) := by decide +kernel
theorem dL_law_779 : decode cL_law 779 = .ok (.iload 5, 2) := by decide +kernel
theorem dL_law_781 : decode cL_law 781 = .ok (.if_icmp .eq 5, 3) := by decide +kernel
theorem dL_law_786 : decode cL_law 786 = .ok (.iload 5, 2) := by decide +kernel
theorem dL_law_788 : decode cL_law 788 = .ok (.ifCond .ne 22, 3) := by decide +kernel
theorem dL_law_791 : decode cL_law 791 = .ok (.aload_n 3, 1) := by decide +kernel
theorem dL_law_792 : decode cL_law 792 = .ok (.iconst 0, 1) := by decide +kernel
theorem dL_law_793 : decode cL_law 793 = .ok (.laload, 1) := by decide +kernel
theorem dL_law_794 : decode cL_law 794 = .ok (.iload 6, 2) := by decide +kernel
theorem dL_law_796 : decode cL_law 796 = .ok (.ifCond .eq 7, 3) := by decide +kernel
theorem dL_law_803 : decode cL_law 803 = .ok (.lconst 0, 1) := by decide +kernel
theorem dL_law_804 : decode cL_law 804 = .ok (.lcmp, 1) := by decide +kernel
theorem dL_law_805 : decode cL_law 805 = .ok (.ifCond .eq 5, 3) := by decide +kernel
theorem dL_law_810 : decode cL_law 810 = .ok (.goto 953, 3) := by decide +kernel
theorem dL_law_813 : decode cL_law 813 = .ok (.aload_n 1, 1) := by decide +kernel
theorem dL_law_814 : decode cL_law 814 = .ok (.aload_n 0, 1) := by decide +kernel
theorem dL_law_815 : decode cL_law 815 = .ok (.iload 4, 2) := by decide +kernel
theorem dL_law_817 : decode cL_law 817 = .ok (.iconst 1, 1) := by decide +kernel
theorem dL_law_818 : decode cL_law 818 = .ok (.iadd, 1) := by decide +kernel
theorem dL_law_819 : decode cL_law 819 = .ok (.iaload, 1) := by decide +kernel
theorem dL_law_820 : decode cL_law 820 = .ok (.aload_n 0, 1) := by decide +kernel
theorem dL_law_821 : decode cL_law 821 = .ok (.iload 4, 2) := by decide +kernel
theorem dL_law_823 : decode cL_law 823 = .ok (.iconst 2, 1) := by decide +kernel
theorem dL_law_824 : decode cL_law 824 = .ok (.iadd, 1) := by decide +kernel
theorem dL_law_825 : decode cL_law 825 = .ok (.iaload, 1) := by decide +kernel
theorem dL_law_826 : decode cL_law 826 = .ok (.aload_n 3, 1) := by decide +kernel
theorem dL_law_827 : decode cL_law 827 = .ok (.invokestatic 114, 3) := by decide +kernel
theorem dL_law_830 : decode cL_law 830 = .ok (.istore 5, 2) := by decide +kernel
theorem dL_law_832 : decode cL_law 832 = .ok (.aload_n 2, 1) := by decide +kernel
theorem dL_law_833 : decode cL_law 833 = .ok (.aload_n 0, 1) := by decide +kernel
theorem dL_law_834 : decode cL_law 834 = .ok (.iload 4, 2) := by decide +kernel
theorem dL_law_836 : decode cL_law 836 = .ok (.iconst 1, 1) := by decide +kernel
theorem dL_law_837 : decode cL_law 837 = .ok (.iadd, 1) := by decide +kernel
theorem dL_law_838 : decode cL_law 838 = .ok (.iaload, 1) := by decide +kernel
theorem dL_law_839 : decode cL_law 839 = .ok (.aload_n 0, 1) := by decide +kernel
theorem dL_law_840 : decode cL_law 840 = .ok (.iload 4, 2) := by decide +kernel
theorem dL_law_842 : decode cL_law 842 = .ok (.iconst 2, 1) := by decide +kernel
theorem dL_law_843 : decode cL_law 843 = .ok (.iadd, 1) := by decide +kernel
theorem dL_law_844 : decode cL_law 844 = .ok (.iaload, 1) := by decide +kernel
theorem dL_law_845 : decode cL_law 845 = .ok (.invokevirtual 116, 3) := by decide +kernel
theorem dL_law_848 : decode cL_law 848 = .ok (.istore 6, 2) := by decide +kernel
theorem dL_law_850 : decode cL_law 850 = .ok (.aload_n 2, 1) := by decide +kernel
theorem dL_law_851 : decode cL_law 851 = .ok (.invokevirtual 85, 3) := by decide +kernel
theorem dL_law_854 : decode cL_law 854 = .ok (.iload 5, 2) := by decide +kernel
theorem dL_law_856 : decode cL_law 856 = .ok (.if_icmp .eq 5, 3) := by decide +kernel
theorem dL_law_861 : decode cL_law 861 = .ok (.iload 5, 2) := by decide +kernel
theorem dL_law_863 : decode cL_law 863 = .ok (.ifCond .ne 15, 3) := by decide +kernel
theorem dL_law_866 : decode cL_law 866 = .ok (.aload_n 3, 1) := by decide +kernel
theorem dL_law_867 : decode cL_law 867 = .ok (.iconst 0, 1) := by decide +kernel
theorem dL_law_868 : decode cL_law 868 = .ok (.laload, 1) := by decide +kernel
theorem dL_law_869 : decode cL_law 869 = .ok (.iload 6, 2) := by decide +kernel
theorem dL_law_871 : decode cL_law 871 = .ok (.i2l, 1) := by decide +kernel
theorem dL_law_872 : decode cL_law 872 = .ok (.lcmp, 1) := by decide +kernel
theorem dL_law_873 : decode cL_law 873 = .ok (.ifCond .eq 5, 3) := by decide +kernel
theorem dL_law_878 : decode cL_law 878 = .ok (.goto 885, 3) := by decide +kernel
theorem dL_law_881 : decode cL_law 881 = .ok (.aload_n 1, 1) := by decide +kernel
theorem dL_law_882 : decode cL_law 882 = .ok (.aload_n 0, 1) := by decide +kernel
theorem dL_law_883 : decode cL_law 883 = .ok (.iload 4, 2) := by decide +kernel
theorem dL_law_885 : decode cL_law 885 = .ok (.iconst 1, 1) := by decide +kernel
theorem dL_law_886 : decode cL_law 886 = .ok (.iadd, 1) := by decide +kernel
theorem dL_law_887 : decode cL_law 887 = .ok (.iaload, 1) := by decide +kernel
theorem dL_law_888 : decode cL_law 888 = .ok (.aload_n 0, 1) := by decide +kernel
theorem dL_law_889 : decode cL_law 889 = .ok (.iload 4, 2) := by decide +kernel
theorem dL_law_891 : decode cL_law 891 = .ok (.iconst 2, 1) := by decide +kernel
theorem dL_law_892 : decode cL_law 892 = .ok (.iadd, 1) := by decide +kernel
theorem dL_law_893 : decode cL_law 893 = .ok (.iaload, 1) := by decide +kernel
theorem dL_law_894 : decode cL_law 894 = .ok (.aload_n 0, 1) := by decide +kernel
theorem dL_law_895 : decode cL_law 895 = .ok (.iload 4, 2) := by decide +kernel
theorem dL_law_897 : decode cL_law 897 = .ok (.iconst 3, 1) := by decide +kernel
theorem dL_law_898 : decode cL_law 898 = .ok (.iadd, 1) := by decide +kernel
theorem dL_law_899 : decode cL_law 899 = .ok (.iaload, 1) := by decide +kernel
theorem dL_law_900 : decode cL_law 900 = .ok (.aload_n 3, 1) := by decide +kernel
theorem dL_law_901 : decode cL_law 901 = .ok (.invokestatic 117, 3) := by decide +kernel
theorem dL_law_904 : decode cL_law 904 = .ok (.istore 5, 2) := by decide +kernel
theorem dL_law_906 : decode cL_law 906 = .ok (.aload_n 2, 1) := by decide +kernel
theorem dL_law_907 : decode cL_law 907 = .ok (.aload_n 0, 1) := by decide +kernel
theorem dL_law_908 : decode cL_law 908 = .ok (.iload 4, 2) := by decide +kernel
theorem dL_law_910 : decode cL_law 910 = .ok (.iconst 1, 1) := by decide +kernel
theorem dL_law_911 : decode cL_law 911 = .ok (.iadd, 1) := by decide +kernel
theorem dL_law_912 : decode cL_law 912 = .ok (.iaload, 1) := by decide +kernel
theorem dL_law_913 : decode cL_law 913 = .ok (.aload_n 0, 1) := by decide +kernel
theorem dL_law_914 : decode cL_law 914 = .ok (.iload 4, 2) := by decide +kernel
theorem dL_law_916 : decode cL_law 916 = .ok (.iconst 2, 1) := by decide +kernel
theorem dL_law_917 : decode cL_law 917 = .ok (.iadd, 1) := by decide +kernel
theorem dL_law_918 : decode cL_law 918 = .ok (.iaload, 1) := by decide +kernel
theorem dL_law_919 : decode cL_law 919 = .ok (.aload_n 0, 1) := by decide +kernel
theorem dL_law_920 : decode cL_law 920 = .ok (.iload 4, 2) := by decide +kernel
theorem dL_law_922 : decode cL_law 922 = .ok (.iconst 3, 1) := by decide +kernel
theorem dL_law_923 : decode cL_law 923 = .ok (.iadd, 1) := by decide +kernel
theorem dL_law_924 : decode cL_law 924 = .ok (.iaload, 1) := by decide +kernel
theorem dL_law_925 : decode cL_law 925 = .ok (.invokevirtual 119, 3) := by decide +kernel
theorem dL_law_928 : decode cL_law 928 = .ok (.istore 6, 2) := by decide +kernel
theorem dL_law_930 : decode cL_law 930 = .ok (.aload_n 2, 1) := by decide +kernel
theorem dL_law_931 : decode cL_law 931 = .ok (.invokevirtual 85, 3) := by decide +kernel
theorem dL_law_934 : decode cL_law 934 = .ok (.iload 5, 2) := by decide +kernel
theorem dL_law_936 : decode cL_law 936 = .ok (.if_icmp .eq 5, 3) := by decide +kernel
theorem dL_law_941 : decode cL_law 941 = .ok (.iload 5, 2) := by decide +kernel
theorem dL_law_943 : decode cL_law 943 = .ok (.ifCond .ne 22, 3) := by decide +kernel
theorem dL_law_946 : decode cL_law 946 = .ok (.aload_n 3, 1) := by decide +kernel
theorem dL_law_947 : decode cL_law 947 = .ok (.iconst 0, 1) := by decide +kernel
theorem dL_law_948 : decode cL_law 948 = .ok (.laload, 1) := by decide +kernel
theorem dL_law_949 : decode cL_law 949 = .ok (.iload 6, 2) := by decide +kernel
theorem dL_law_951 : decode cL_law 951 = .ok (.ifCond .eq 7, 3) := by decide +kernel
theorem dL_law_958 : decode cL_law 958 = .ok (.lconst 0, 1) := by decide +kernel
theorem dL_law_959 : decode cL_law 959 = .ok (.lcmp, 1) := by decide +kernel
theorem dL_law_960 : decode cL_law 960 = .ok (.ifCond .eq 5, 3) := by decide +kernel
theorem dL_law_965 : decode cL_law 965 = .ok (.goto 798, 3) := by decide +kernel
theorem dL_law_968 : decode cL_law 968 = .ok (.aload_n 1, 1) := by decide +kernel
theorem dL_law_969 : decode cL_law 969 = .ok (.aload_n 0, 1) := by decide +kernel
theorem dL_law_970 : decode cL_law 970 = .ok (.iload 4, 2) := by decide +kernel
theorem dL_law_972 : decode cL_law 972 = .ok (.iconst 1, 1) := by decide +kernel
theorem dL_law_973 : decode cL_law 973 = .ok (.iadd, 1) := by decide +kernel
theorem dL_law_974 : decode cL_law 974 = .ok (.iaload, 1) := by decide +kernel
theorem dL_law_975 : decode cL_law 975 = .ok (.aload_n 0, 1) := by decide +kernel
theorem dL_law_976 : decode cL_law 976 = .ok (.iload 4, 2) := by decide +kernel
theorem dL_law_978 : decode cL_law 978 = .ok (.iconst 2, 1) := by decide +kernel
theorem dL_law_979 : decode cL_law 979 = .ok (.iadd, 1) := by decide +kernel
theorem dL_law_980 : decode cL_law 980 = .ok (.iaload, 1) := by decide +kernel
theorem dL_law_981 : decode cL_law 981 = .ok (.aload_n 0, 1) := by decide +kernel
theorem dL_law_982 : decode cL_law 982 = .ok (.iload 4, 2) := by decide +kernel
theorem dL_law_984 : decode cL_law 984 = .ok (.iconst 3, 1) := by decide +kernel
theorem dL_law_985 : decode cL_law 985 = .ok (.iadd, 1) := by decide +kernel
theorem dL_law_986 : decode cL_law 986 = .ok (.iaload, 1) := by decide +kernel
theorem dL_law_987 : decode cL_law 987 = .ok (.aload_n 3, 1) := by decide +kernel
theorem dL_law_988 : decode cL_law 988 = .ok (.invokestatic 120, 3) := by decide +kernel
theorem dL_law_991 : decode cL_law 991 = .ok (.istore 5, 2) := by decide +kernel
theorem dL_law_993 : decode cL_law 993 = .ok (.aload_n 2, 1) := by decide +kernel
theorem dL_law_994 : decode cL_law 994 = .ok (.aload_n 0, 1) := by decide +kernel
theorem dL_law_995 : decode cL_law 995 = .ok (.iload 4, 2) := by decide +kernel
theorem dL_law_997 : decode cL_law 997 = .ok (.iconst 1, 1) := by decide +kernel
theorem dL_law_998 : decode cL_law 998 = .ok (.iadd, 1) := by decide +kernel
theorem dL_law_999 : decode cL_law 999 = .ok (.iaload, 1) := by decide +kernel
theorem dL_law_1000 : decode cL_law 1000 = .ok (.aload_n 0, 1) := by decide +kernel
theorem dL_law_1001 : decode cL_law 1001 = .ok (.iload 4, 2) := by decide +kernel
theorem dL_law_1003 : decode cL_law 1003 = .ok (.iconst 2, 1) := by decide +kernel
theorem dL_law_1004 : decode cL_law 1004 = .ok (.iadd, 1) := by decide +kernel
theorem dL_law_1005 : decode cL_law 1005 = .ok (.iaload, 1) := by decide +kernel
theorem dL_law_1006 : decode cL_law 1006 = .ok (.aload_n 0, 1) := by decide +kernel
theorem dL_law_1007 : decode cL_law 1007 = .ok (.iload 4, 2) := by decide +kernel
theorem dL_law_1009 : decode cL_law 1009 = .ok (.iconst 3, 1) := by decide +kernel
theorem dL_law_1010 : decode cL_law 1010 = .ok (.iadd, 1) := by decide +kernel
theorem dL_law_1011 : decode cL_law 1011 = .ok (.iaload, 1) := by decide +kernel
theorem dL_law_1012 : decode cL_law 1012 = .ok (.invokevirtual 122, 3) := by decide +kernel
theorem dL_law_1015 : decode cL_law 1015 = .ok (.istore 6, 2) := by decide +kernel
theorem dL_law_1017 : decode cL_law 1017 = .ok (.aload_n 2, 1) := by decide +kernel
theorem dL_law_1018 : decode cL_law 1018 = .ok (.invokevirtual 85, 3) := by decide +kernel
theorem dL_law_1021 : decode cL_law 1021 = .ok (.iload 5, 2) := by decide +kernel
theorem dL_law_1023 : decode cL_law 1023 = .ok (.if_icmp .eq 5, 3) := by decide +kernel
theorem dL_law_1028 : decode cL_law 1028 = .ok (.iload 5, 2) := by decide +kernel
theorem dL_law_1030 : decode cL_law 1030 = .ok (.ifCond .ne 22, 3) := by decide +kernel
theorem dL_law_1033 : decode cL_law 1033 = .ok (.aload_n 3, 1) := by decide +kernel
theorem dL_law_1034 : decode cL_law 1034 = .ok (.iconst 0, 1) := by decide +kernel
theorem dL_law_1035 : decode cL_law 1035 = .ok (.laload, 1) := by decide +kernel
theorem dL_law_1036 : decode cL_law 1036 = .ok (.iload 6, 2) := by decide +kernel
theorem dL_law_1038 : decode cL_law 1038 = .ok (.ifCond .eq 7, 3) := by decide +kernel
theorem dL_law_1045 : decode cL_law 1045 = .ok (.lconst 0, 1) := by decide +kernel
theorem dL_law_1046 : decode cL_law 1046 = .ok (.lcmp, 1) := by decide +kernel
theorem dL_law_1047 : decode cL_law 1047 = .ok (.ifCond .eq 5, 3) := by decide +kernel
theorem dL_law_1052 : decode cL_law 1052 = .ok (.goto 711, 3) := by decide +kernel
theorem dL_law_1055 : decode cL_law 1055 = .ok (.aload_n 1, 1) := by decide +kernel
theorem dL_law_1056 : decode cL_law 1056 = .ok (.aload_n 0, 1) := by decide +kernel
theorem dL_law_1057 : decode cL_law 1057 = .ok (.iload 4, 2) := by decide +kernel
theorem dL_law_1059 : decode cL_law 1059 = .ok (.iconst 1, 1) := by decide +kernel
theorem dL_law_1060 : decode cL_law 1060 = .ok (.iadd, 1) := by decide +kernel
theorem dL_law_1061 : decode cL_law 1061 = .ok (.iaload, 1) := by decide +kernel
theorem dL_law_1062 : decode cL_law 1062 = .ok (.aload_n 0, 1) := by decide +kernel
theorem dL_law_1063 : decode cL_law 1063 = .ok (.iload 4, 2) := by decide +kernel
theorem dL_law_1065 : decode cL_law 1065 = .ok (.iconst 2, 1) := by decide +kernel
theorem dL_law_1066 : decode cL_law 1066 = .ok (.iadd, 1) := by decide +kernel
theorem dL_law_1067 : decode cL_law 1067 = .ok (.iaload, 1) := by decide +kernel
theorem dL_law_1068 : decode cL_law 1068 = .ok (.aload_n 0, 1) := by decide +kernel
theorem dL_law_1069 : decode cL_law 1069 = .ok (.iload 4, 2) := by decide +kernel
theorem dL_law_1071 : decode cL_law 1071 = .ok (.iconst 3, 1) := by decide +kernel
theorem dL_law_1072 : decode cL_law 1072 = .ok (.iadd, 1) := by decide +kernel
theorem dL_law_1073 : decode cL_law 1073 = .ok (.iaload, 1) := by decide +kernel
theorem dL_law_1074 : decode cL_law 1074 = .ok (.aload_n 3, 1) := by decide +kernel
theorem dL_law_1075 : decode cL_law 1075 = .ok (.invokestatic 123, 3) := by decide +kernel
theorem dL_law_1078 : decode cL_law 1078 = .ok (.istore 5, 2) := by decide +kernel
theorem dL_law_1080 : decode cL_law 1080 = .ok (.aload_n 2, 1) := by decide +kernel
theorem dL_law_1081 : decode cL_law 1081 = .ok (.aload_n 0, 1) := by decide +kernel
theorem dL_law_1082 : decode cL_law 1082 = .ok (.iload 4, 2) := by decide +kernel
theorem dL_law_1084 : decode cL_law 1084 = .ok (.iconst 1, 1) := by decide +kernel
theorem dL_law_1085 : decode cL_law 1085 = .ok (.iadd, 1) := by decide +kernel
theorem dL_law_1086 : decode cL_law 1086 = .ok (.iaload, 1) := by decide +kernel
theorem dL_law_1087 : decode cL_law 1087 = .ok (.aload_n 0, 1) := by decide +kernel
theorem dL_law_1088 : decode cL_law 1088 = .ok (.iload 4, 2) := by decide +kernel
theorem dL_law_1090 : decode cL_law 1090 = .ok (.iconst 2, 1) := by decide +kernel
theorem dL_law_1091 : decode cL_law 1091 = .ok (.iadd, 1) := by decide +kernel
theorem dL_law_1092 : decode cL_law 1092 = .ok (.iaload, 1) := by decide +kernel
theorem dL_law_1093 : decode cL_law 1093 = .ok (.aload_n 0, 1) := by decide +kernel
theorem dL_law_1094 : decode cL_law 1094 = .ok (.iload 4, 2) := by decide +kernel
theorem dL_law_1096 : decode cL_law 1096 = .ok (.iconst 3, 1) := by decide +kernel
theorem dL_law_1097 : decode cL_law 1097 = .ok (.iadd, 1) := by decide +kernel
theorem dL_law_1098 : decode cL_law 1098 = .ok (.iaload, 1) := by decide +kernel
theorem dL_law_1099 : decode cL_law 1099 = .ok (.invokevirtual 125, 3) := by decide +kernel
theorem dL_law_1102 : decode cL_law 1102 = .ok (.istore 6, 2) := by decide +kernel
theorem dL_law_1104 : decode cL_law 1104 = .ok (.aload_n 2, 1) := by decide +kernel
theorem dL_law_1105 : decode cL_law 1105 = .ok (.invokevirtual 85, 3) := by decide +kernel
theorem dL_law_1108 : decode cL_law 1108 = .ok (.iload 5, 2) := by decide +kernel
theorem dL_law_1110 : decode cL_law 1110 = .ok (.if_icmp .eq 5, 3) := by decide +kernel
theorem dL_law_1115 : decode cL_law 1115 = .ok (.iload 5, 2) := by decide +kernel
theorem dL_law_1117 : decode cL_law 1117 = .ok (.ifCond .ne 22, 3) := by decide +kernel
theorem dL_law_1120 : decode cL_law 1120 = .ok (.aload_n 3, 1) := by decide +kernel
theorem dL_law_1121 : decode cL_law 1121 = .ok (.iconst 0, 1) := by decide +kernel
theorem dL_law_1122 : decode cL_law 1122 = .ok (.laload, 1) := by decide +kernel
theorem dL_law_1123 : decode cL_law 1123 = .ok (.iload 6, 2) := by decide +kernel
theorem dL_law_1125 : decode cL_law 1125 = .ok (.ifCond .eq 7, 3) := by decide +kernel
theorem dL_law_1132 : decode cL_law 1132 = .ok (.lconst 0, 1) := by decide +kernel
theorem dL_law_1133 : decode cL_law 1133 = .ok (.lcmp, 1) := by decide +kernel
theorem dL_law_1134 : decode cL_law 1134 = .ok (.ifCond .eq 5, 3) := by decide +kernel
theorem dL_law_1139 : decode cL_law 1139 = .ok (.goto 624, 3) := by decide +kernel
theorem dL_law_1142 : decode cL_law 1142 = .ok (.aload_n 1, 1) := by decide +kernel
theorem dL_law_1143 : decode cL_law 1143 = .ok (.aload_n 0, 1) := by decide +kernel
theorem dL_law_1144 : decode cL_law 1144 = .ok (.iload 4, 2) := by decide +kernel
theorem dL_law_1146 : decode cL_law 1146 = .ok (.iconst 1, 1) := by decide +kernel
theorem dL_law_1147 : decode cL_law 1147 = .ok (.iadd, 1) := by decide +kernel
theorem dL_law_1148 : decode cL_law 1148 = .ok (.iaload, 1) := by decide +kernel
theorem dL_law_1149 : decode cL_law 1149 = .ok (.aload_n 0, 1) := by decide +kernel
theorem dL_law_1150 : decode cL_law 1150 = .ok (.iload 4, 2) := by decide +kernel
theorem dL_law_1152 : decode cL_law 1152 = .ok (.iconst 2, 1) := by decide +kernel
theorem dL_law_1153 : decode cL_law 1153 = .ok (.iadd, 1) := by decide +kernel
theorem dL_law_1154 : decode cL_law 1154 = .ok (.iaload, 1) := by decide +kernel
theorem dL_law_1155 : decode cL_law 1155 = .ok (.aload_n 3, 1) := by decide +kernel
theorem dL_law_1156 : decode cL_law 1156 = .ok (.invokestatic 126, 3) := by decide +kernel
theorem dL_law_1159 : decode cL_law 1159 = .ok (.istore 5, 2) := by decide +kernel
theorem dL_law_1161 : decode cL_law 1161 = .ok (.aload_n 2, 1) := by decide +kernel
theorem dL_law_1162 : decode cL_law 1162 = .ok (.aload_n 0, 1) := by decide +kernel
theorem dL_law_1163 : decode cL_law 1163 = .ok (.iload 4, 2) := by decide +kernel
theorem dL_law_1165 : decode cL_law 1165 = .ok (.iconst 1, 1) := by decide +kernel
theorem dL_law_1166 : decode cL_law 1166 = .ok (.iadd, 1) := by decide +kernel
theorem dL_law_1167 : decode cL_law 1167 = .ok (.iaload, 1) := by decide +kernel
theorem dL_law_1168 : decode cL_law 1168 = .ok (.aload_n 0, 1) := by decide +kernel
theorem dL_law_1169 : decode cL_law 1169 = .ok (.iload 4, 2) := by decide +kernel
theorem dL_law_1171 : decode cL_law 1171 = .ok (.iconst 2, 1) := by decide +kernel
theorem dL_law_1172 : decode cL_law 1172 = .ok (.iadd, 1) := by decide +kernel
theorem dL_law_1173 : decode cL_law 1173 = .ok (.iaload, 1) := by decide +kernel
theorem dL_law_1174 : decode cL_law 1174 = .ok (.invokevirtual 128, 3) := by decide +kernel
theorem dL_law_1177 : decode cL_law 1177 = .ok (.istore 6, 2) := by decide +kernel
theorem dL_law_1179 : decode cL_law 1179 = .ok (.aload_n 2, 1) := by decide +kernel
theorem dL_law_1180 : decode cL_law 1180 = .ok (.invokevirtual 85, 3) := by decide +kernel
theorem dL_law_1183 : decode cL_law 1183 = .ok (.iload 5, 2) := by decide +kernel
theorem dL_law_1185 : decode cL_law 1185 = .ok (.if_icmp .eq 5, 3) := by decide +kernel
theorem dL_law_1190 : decode cL_law 1190 = .ok (.iload 5, 2) := by decide +kernel
theorem dL_law_1192 : decode cL_law 1192 = .ok (.ifCond .ne 15, 3) := by decide +kernel
theorem dL_law_1195 : decode cL_law 1195 = .ok (.aload_n 3, 1) := by decide +kernel
theorem dL_law_1196 : decode cL_law 1196 = .ok (.iconst 0, 1) := by decide +kernel
theorem dL_law_1197 : decode cL_law 1197 = .ok (.laload, 1) := by decide +kernel
theorem dL_law_1198 : decode cL_law 1198 = .ok (.iload 6, 2) := by decide +kernel
theorem dL_law_1200 : decode cL_law 1200 = .ok (.i2l, 1) := by decide +kernel
theorem dL_law_1201 : decode cL_law 1201 = .ok (.lcmp, 1) := by decide +kernel
theorem dL_law_1202 : decode cL_law 1202 = .ok (.ifCond .eq 5, 3) := by decide +kernel
theorem dL_law_1207 : decode cL_law 1207 = .ok (.goto 556, 3) := by decide +kernel
theorem dL_law_1210 : decode cL_law 1210 = .ok (.aload_n 1, 1) := by decide +kernel
theorem dL_law_1211 : decode cL_law 1211 = .ok (.invokevirtual 129, 3) := by decide +kernel
theorem dL_law_1214 : decode cL_law 1214 = .ok (.aload_n 2, 1) := by decide +kernel
theorem dL_law_1215 : decode cL_law 1215 = .ok (.invokevirtual 132, 3) := by decide +kernel
theorem dL_law_1218 : decode cL_law 1218 = .ok (.if_icmp .eq 545, 3) := by decide +kernel
theorem dL_law_1223 : decode cL_law 1223 = .ok (.aload_n 1, 1) := by decide +kernel
theorem dL_law_1224 : decode cL_law 1224 = .ok (.aload_n 0, 1) := by decide +kernel
theorem dL_law_1225 : decode cL_law 1225 = .ok (.iload 4, 2) := by decide +kernel
theorem dL_law_1227 : decode cL_law 1227 = .ok (.iconst 1, 1) := by decide +kernel
theorem dL_law_1228 : decode cL_law 1228 = .ok (.iadd, 1) := by decide +kernel
theorem dL_law_1229 : decode cL_law 1229 = .ok (.iaload, 1) := by decide +kernel
theorem dL_law_1230 : decode cL_law 1230 = .ok (.aload_n 0, 1) := by decide +kernel
theorem dL_law_1231 : decode cL_law 1231 = .ok (.iload 4, 2) := by decide +kernel
theorem dL_law_1233 : decode cL_law 1233 = .ok (.iconst 2, 1) := by decide +kernel
theorem dL_law_1234 : decode cL_law 1234 = .ok (.iadd, 1) := by decide +kernel
theorem dL_law_1235 : decode cL_law 1235 = .ok (.iaload, 1) := by decide +kernel
theorem dL_law_1236 : decode cL_law 1236 = .ok (.aload_n 0, 1) := by decide +kernel
theorem dL_law_1237 : decode cL_law 1237 = .ok (.iload 4, 2) := by decide +kernel
theorem dL_law_1239 : decode cL_law 1239 = .ok (.iconst 3, 1) := by decide +kernel
theorem dL_law_1240 : decode cL_law 1240 = .ok (.iadd, 1) := by decide +kernel
theorem dL_law_1241 : decode cL_law 1241 = .ok (.iaload, 1) := by decide +kernel
theorem dL_law_1242 : decode cL_law 1242 = .ok (.aload_n 3, 1) := by decide +kernel
theorem dL_law_1243 : decode cL_law 1243 = .ok (.invokestatic 133, 3) := by decide +kernel
theorem dL_law_1246 : decode cL_law 1246 = .ok (.istore 5, 2) := by decide +kernel
theorem dL_law_1248 : decode cL_law 1248 = .ok (.aload_n 2, 1) := by decide +kernel
theorem dL_law_1249 : decode cL_law 1249 = .ok (.aload_n 0, 1) := by decide +kernel
theorem dL_law_1250 : decode cL_law 1250 = .ok (.iload 4, 2) := by decide +kernel
theorem dL_law_1252 : decode cL_law 1252 = .ok (.iconst 1, 1) := by decide +kernel
theorem dL_law_1253 : decode cL_law 1253 = .ok (.iadd, 1) := by decide +kernel
theorem dL_law_1254 : decode cL_law 1254 = .ok (.iaload, 1) := by decide +kernel
theorem dL_law_1255 : decode cL_law 1255 = .ok (.aload_n 0, 1) := by decide +kernel
theorem dL_law_1256 : decode cL_law 1256 = .ok (.iload 4, 2) := by decide +kernel
theorem dL_law_1258 : decode cL_law 1258 = .ok (.iconst 2, 1) := by decide +kernel
theorem dL_law_1259 : decode cL_law 1259 = .ok (.iadd, 1) := by decide +kernel
theorem dL_law_1260 : decode cL_law 1260 = .ok (.iaload, 1) := by decide +kernel
theorem dL_law_1261 : decode cL_law 1261 = .ok (.aload_n 0, 1) := by decide +kernel
theorem dL_law_1262 : decode cL_law 1262 = .ok (.iload 4, 2) := by decide +kernel
theorem dL_law_1264 : decode cL_law 1264 = .ok (.iconst 3, 1) := by decide +kernel
theorem dL_law_1265 : decode cL_law 1265 = .ok (.iadd, 1) := by decide +kernel
theorem dL_law_1266 : decode cL_law 1266 = .ok (.iaload, 1) := by decide +kernel
theorem dL_law_1267 : decode cL_law 1267 = .ok (.invokevirtual 135, 3) := by decide +kernel
theorem dL_law_1270 : decode cL_law 1270 = .ok (.istore 6, 2) := by decide +kernel
theorem dL_law_1272 : decode cL_law 1272 = .ok (.aload_n 2, 1) := by decide +kernel
theorem dL_law_1273 : decode cL_law 1273 = .ok (.invokevirtual 85, 3) := by decide +kernel
theorem dL_law_1276 : decode cL_law 1276 = .ok (.iload 5, 2) := by decide +kernel
theorem dL_law_1278 : decode cL_law 1278 = .ok (.if_icmp .eq 5, 3) := by decide +kernel
theorem dL_law_1283 : decode cL_law 1283 = .ok (.iload 5, 2) := by decide +kernel
theorem dL_law_1285 : decode cL_law 1285 = .ok (.ifCond .ne 15, 3) := by decide +kernel
theorem dL_law_1300 : decode cL_law 1300 = .ok (.goto 463, 3) := by decide +kernel
theorem dL_law_1303 : decode cL_law 1303 = .ok (.aload_n 1, 1) := by decide +kernel
theorem dL_law_1304 : decode cL_law 1304 = .ok (.aload_n 0, 1) := by decide +kernel
theorem dL_law_1305 : decode cL_law 1305 = .ok (.iload 4, 2) := by decide +kernel
theorem dL_law_1307 : decode cL_law 1307 = .ok (.iconst 1, 1) := by decide +kernel
theorem dL_law_1308 : decode cL_law 1308 = .ok (.iadd, 1) := by decide +kernel
theorem dL_law_1309 : decode cL_law 1309 = .ok (.iaload, 1) := by decide +kernel
theorem dL_law_1310 : decode cL_law 1310 = .ok (.aload_n 0, 1) := by decide +kernel
theorem dL_law_1311 : decode cL_law 1311 = .ok (.iload 4, 2) := by decide +kernel
theorem dL_law_1313 : decode cL_law 1313 = .ok (.iconst 2, 1) := by decide +kernel
theorem dL_law_1314 : decode cL_law 1314 = .ok (.iadd, 1) := by decide +kernel
theorem dL_law_1315 : decode cL_law 1315 = .ok (.iaload, 1) := by decide +kernel
theorem dL_law_1316 : decode cL_law 1316 = .ok (.aload_n 0, 1) := by decide +kernel
theorem dL_law_1317 : decode cL_law 1317 = .ok (.iload 4, 2) := by decide +kernel
theorem dL_law_1319 : decode cL_law 1319 = .ok (.iconst 3, 1) := by decide +kernel
theorem dL_law_1320 : decode cL_law 1320 = .ok (.iadd, 1) := by decide +kernel
theorem dL_law_1321 : decode cL_law 1321 = .ok (.iaload, 1) := by decide +kernel
theorem dL_law_1322 : decode cL_law 1322 = .ok (.aload_n 0, 1) := by decide +kernel
theorem dL_law_1323 : decode cL_law 1323 = .ok (.iload 4, 2) := by decide +kernel
theorem dL_law_1325 : decode cL_law 1325 = .ok (.iconst 4, 1) := by decide +kernel
theorem dL_law_1326 : decode cL_law 1326 = .ok (.iadd, 1) := by decide +kernel
theorem dL_law_1327 : decode cL_law 1327 = .ok (.iaload, 1) := by decide +kernel
theorem dL_law_1328 : decode cL_law 1328 = .ok (.aload_n 3, 1) := by decide +kernel
theorem dL_law_1329 : decode cL_law 1329 = .ok (.invokestatic 136, 3) := by decide +kernel
theorem dL_law_1332 : decode cL_law 1332 = .ok (.istore 5, 2) := by decide +kernel
theorem dL_law_1334 : decode cL_law 1334 = .ok (.aload_n 2, 1) := by decide +kernel
theorem dL_law_1335 : decode cL_law 1335 = .ok (.aload_n 0, 1) := by decide +kernel
theorem dL_law_1336 : decode cL_law 1336 = .ok (.iload 4, 2) := by decide +kernel
theorem dL_law_1338 : decode cL_law 1338 = .ok (.iconst 1, 1) := by decide +kernel
theorem dL_law_1339 : decode cL_law 1339 = .ok (.iadd, 1) := by decide +kernel
theorem dL_law_1340 : decode cL_law 1340 = .ok (.iaload, 1) := by decide +kernel
theorem dL_law_1341 : decode cL_law 1341 = .ok (.aload_n 0, 1) := by decide +kernel
theorem dL_law_1342 : decode cL_law 1342 = .ok (.iload 4, 2) := by decide +kernel
theorem dL_law_1344 : decode cL_law 1344 = .ok (.iconst 2, 1) := by decide +kernel
theorem dL_law_1345 : decode cL_law 1345 = .ok (.iadd, 1) := by decide +kernel
theorem dL_law_1346 : decode cL_law 1346 = .ok (.iaload, 1) := by decide +kernel
theorem dL_law_1347 : decode cL_law 1347 = .ok (.aload_n 0, 1) := by decide +kernel
theorem dL_law_1348 : decode cL_law 1348 = .ok (.iload 4, 2) := by decide +kernel
theorem dL_law_1350 : decode cL_law 1350 = .ok (.iconst 3, 1) := by decide +kernel
theorem dL_law_1351 : decode cL_law 1351 = .ok (.iadd, 1) := by decide +kernel
theorem dL_law_1352 : decode cL_law 1352 = .ok (.iaload, 1) := by decide +kernel
theorem dL_law_1353 : decode cL_law 1353 = .ok (.aload_n 0, 1) := by decide +kernel
theorem dL_law_1354 : decode cL_law 1354 = .ok (.iload 4, 2) := by decide +kernel
theorem dL_law_1356 : decode cL_law 1356 = .ok (.iconst 4, 1) := by decide +kernel
theorem dL_law_1357 : decode cL_law 1357 = .ok (.iadd, 1) := by decide +kernel
theorem dL_law_1358 : decode cL_law 1358 = .ok (.iaload, 1) := by decide +kernel
theorem dL_law_1359 : decode cL_law 1359 = .ok (.invokevirtual 138, 3) := by decide +kernel
theorem dL_law_1362 : decode cL_law 1362 = .ok (.istore 6, 2) := by decide +kernel
theorem dL_law_1364 : decode cL_law 1364 = .ok (.aload_n 2, 1) := by decide +kernel
theorem dL_law_1365 : decode cL_law 1365 = .ok (.invokevirtual 85, 3) := by decide +kernel
theorem dL_law_1368 : decode cL_law 1368 = .ok (.iload 5, 2) := by decide +kernel
theorem dL_law_1370 : decode cL_law 1370 = .ok (.if_icmp .eq 5, 3) := by decide +kernel
theorem dL_law_1375 : decode cL_law 1375 = .ok (.iload 5, 2) := by decide +kernel
theorem dL_law_1377 : decode cL_law 1377 = .ok (.ifCond .ne 15, 3) := by decide +kernel
theorem dL_law_1392 : decode cL_law 1392 = .ok (.goto 371, 3) := by decide +kernel
theorem dL_law_1395 : decode cL_law 1395 = .ok (.aload_n 1, 1) := by decide +kernel
theorem dL_law_1396 : decode cL_law 1396 = .ok (.aload_n 0, 1) := by decide +kernel
theorem dL_law_1397 : decode cL_law 1397 = .ok (.iload 4, 2) := by decide +kernel
theorem dL_law_1399 : decode cL_law 1399 = .ok (.iconst 1, 1) := by decide +kernel
theorem dL_law_1400 : decode cL_law 1400 = .ok (.iadd, 1) := by decide +kernel
theorem dL_law_1401 : decode cL_law 1401 = .ok (.iaload, 1) := by decide +kernel
theorem dL_law_1402 : decode cL_law 1402 = .ok (.aload_n 0, 1) := by decide +kernel
theorem dL_law_1403 : decode cL_law 1403 = .ok (.iload 4, 2) := by decide +kernel
theorem dL_law_1405 : decode cL_law 1405 = .ok (.iconst 2, 1) := by decide +kernel
theorem dL_law_1406 : decode cL_law 1406 = .ok (.iadd, 1) := by decide +kernel
theorem dL_law_1407 : decode cL_law 1407 = .ok (.iaload, 1) := by decide +kernel
theorem dL_law_1408 : decode cL_law 1408 = .ok (.aload_n 3, 1) := by decide +kernel
theorem dL_law_1409 : decode cL_law 1409 = .ok (.invokestatic 139, 3) := by decide +kernel
theorem dL_law_1412 : decode cL_law 1412 = .ok (.istore 5, 2) := by decide +kernel
theorem dL_law_1414 : decode cL_law 1414 = .ok (.aload_n 2, 1) := by decide +kernel
theorem dL_law_1415 : decode cL_law 1415 = .ok (.aload_n 0, 1) := by decide +kernel
theorem dL_law_1416 : decode cL_law 1416 = .ok (.iload 4, 2) := by decide +kernel
theorem dL_law_1418 : decode cL_law 1418 = .ok (.iconst 1, 1) := by decide +kernel
theorem dL_law_1419 : decode cL_law 1419 = .ok (.iadd, 1) := by decide +kernel
theorem dL_law_1420 : decode cL_law 1420 = .ok (.iaload, 1) := by decide +kernel
theorem dL_law_1421 : decode cL_law 1421 = .ok (.aload_n 0, 1) := by decide +kernel
theorem dL_law_1422 : decode cL_law 1422 = .ok (.iload 4, 2) := by decide +kernel
theorem dL_law_1424 : decode cL_law 1424 = .ok (.iconst 2, 1) := by decide +kernel
theorem dL_law_1425 : decode cL_law 1425 = .ok (.iadd, 1) := by decide +kernel
theorem dL_law_1426 : decode cL_law 1426 = .ok (.iaload, 1) := by decide +kernel
theorem dL_law_1427 : decode cL_law 1427 = .ok (.invokevirtual 141, 3) := by decide +kernel
theorem dL_law_1430 : decode cL_law 1430 = .ok (.istore 6, 2) := by decide +kernel
theorem dL_law_1432 : decode cL_law 1432 = .ok (.aload_n 2, 1) := by decide +kernel
theorem dL_law_1433 : decode cL_law 1433 = .ok (.invokevirtual 85, 3) := by decide +kernel
theorem dL_law_1436 : decode cL_law 1436 = .ok (.iload 5, 2) := by decide +kernel
theorem dL_law_1438 : decode cL_law 1438 = .ok (.if_icmp .eq 5, 3) := by decide +kernel
theorem dL_law_1443 : decode cL_law 1443 = .ok (.iload 5, 2) := by decide +kernel
theorem dL_law_1445 : decode cL_law 1445 = .ok (.ifCond .ne 15, 3) := by decide +kernel
theorem dL_law_1460 : decode cL_law 1460 = .ok (.goto 303, 3) := by decide +kernel
theorem dL_law_1463 : decode cL_law 1463 = .ok (.aload_n 1, 1) := by decide +kernel
theorem dL_law_1464 : decode cL_law 1464 = .ok (.aload_n 0, 1) := by decide +kernel
theorem dL_law_1465 : decode cL_law 1465 = .ok (.iload 4, 2) := by decide +kernel
theorem dL_law_1467 : decode cL_law 1467 = .ok (.iconst 1, 1) := by decide +kernel
theorem dL_law_1468 : decode cL_law 1468 = .ok (.iadd, 1) := by decide +kernel
theorem dL_law_1469 : decode cL_law 1469 = .ok (.iaload, 1) := by decide +kernel
theorem dL_law_1470 : decode cL_law 1470 = .ok (.aload_n 0, 1) := by decide +kernel
theorem dL_law_1471 : decode cL_law 1471 = .ok (.iload 4, 2) := by decide +kernel
theorem dL_law_1473 : decode cL_law 1473 = .ok (.iconst 2, 1) := by decide +kernel
theorem dL_law_1474 : decode cL_law 1474 = .ok (.iadd, 1) := by decide +kernel
theorem dL_law_1475 : decode cL_law 1475 = .ok (.iaload, 1) := by decide +kernel
theorem dL_law_1476 : decode cL_law 1476 = .ok (.aload_n 0, 1) := by decide +kernel
theorem dL_law_1477 : decode cL_law 1477 = .ok (.iload 4, 2) := by decide +kernel
theorem dL_law_1479 : decode cL_law 1479 = .ok (.iconst 3, 1) := by decide +kernel
theorem dL_law_1480 : decode cL_law 1480 = .ok (.iadd, 1) := by decide +kernel
theorem dL_law_1481 : decode cL_law 1481 = .ok (.iaload, 1) := by decide +kernel
theorem dL_law_1482 : decode cL_law 1482 = .ok (.aload_n 3, 1) := by decide +kernel
theorem dL_law_1483 : decode cL_law 1483 = .ok (.invokestatic 142, 3) := by decide +kernel
theorem dL_law_1486 : decode cL_law 1486 = .ok (.istore 5, 2) := by decide +kernel
theorem dL_law_1488 : decode cL_law 1488 = .ok (.aload_n 2, 1) := by decide +kernel
theorem dL_law_1489 : decode cL_law 1489 = .ok (.aload_n 0, 1) := by decide +kernel
theorem dL_law_1490 : decode cL_law 1490 = .ok (.iload 4, 2) := by decide +kernel
theorem dL_law_1492 : decode cL_law 1492 = .ok (.iconst 1, 1) := by decide +kernel
theorem dL_law_1493 : decode cL_law 1493 = .ok (.iadd, 1) := by decide +kernel
theorem dL_law_1494 : decode cL_law 1494 = .ok (.iaload, 1) := by decide +kernel
theorem dL_law_1495 : decode cL_law 1495 = .ok (.aload_n 0, 1) := by decide +kernel
theorem dL_law_1496 : decode cL_law 1496 = .ok (.iload 4, 2) := by decide +kernel
theorem dL_law_1498 : decode cL_law 1498 = .ok (.iconst 2, 1) := by decide +kernel
theorem dL_law_1499 : decode cL_law 1499 = .ok (.iadd, 1) := by decide +kernel
theorem dL_law_1500 : decode cL_law 1500 = .ok (.iaload, 1) := by decide +kernel
theorem dL_law_1501 : decode cL_law 1501 = .ok (.aload_n 0, 1) := by decide +kernel
theorem dL_law_1502 : decode cL_law 1502 = .ok (.iload 4, 2) := by decide +kernel
theorem dL_law_1504 : decode cL_law 1504 = .ok (.iconst 3, 1) := by decide +kernel
theorem dL_law_1505 : decode cL_law 1505 = .ok (.iadd, 1) := by decide +kernel
theorem dL_law_1506 : decode cL_law 1506 = .ok (.iaload, 1) := by decide +kernel
theorem dL_law_1507 : decode cL_law 1507 = .ok (.invokevirtual 144, 3) := by decide +kernel
theorem dL_law_1510 : decode cL_law 1510 = .ok (.istore 6, 2) := by decide +kernel
theorem dL_law_1512 : decode cL_law 1512 = .ok (.aload_n 2, 1) := by decide +kernel
theorem dL_law_1513 : decode cL_law 1513 = .ok (.invokevirtual 85, 3) := by decide +kernel
theorem dL_law_1516 : decode cL_law 1516 = .ok (.iload 5, 2) := by decide +kernel
theorem dL_law_1518 : decode cL_law 1518 = .ok (.if_icmp .eq 5, 3) := by decide +kernel
theorem dL_law_1523 : decode cL_law 1523 = .ok (.iload 5, 2) := by decide +kernel
theorem dL_law_1525 : decode cL_law 1525 = .ok (.ifCond .ne 15, 3) := by decide +kernel
theorem dL_law_1540 : decode cL_law 1540 = .ok (.goto 223, 3) := by decide +kernel
theorem dL_law_1543 : decode cL_law 1543 = .ok (.aload_n 1, 1) := by decide +kernel
theorem dL_law_1544 : decode cL_law 1544 = .ok (.aload_n 0, 1) := by decide +kernel
theorem dL_law_1545 : decode cL_law 1545 = .ok (.iload 4, 2) := by decide +kernel
theorem dL_law_1547 : decode cL_law 1547 = .ok (.iconst 1, 1) := by decide +kernel
theorem dL_law_1548 : decode cL_law 1548 = .ok (.iadd, 1) := by decide +kernel
theorem dL_law_1549 : decode cL_law 1549 = .ok (.iaload, 1) := by decide +kernel
theorem dL_law_1550 : decode cL_law 1550 = .ok (.aload_n 0, 1) := by decide +kernel
theorem dL_law_1551 : decode cL_law 1551 = .ok (.iload 4, 2) := by decide +kernel
theorem dL_law_1553 : decode cL_law 1553 = .ok (.iconst 2, 1) := by decide +kernel
theorem dL_law_1554 : decode cL_law 1554 = .ok (.iadd, 1) := by decide +kernel
theorem dL_law_1555 : decode cL_law 1555 = .ok (.iaload, 1) := by decide +kernel
theorem dL_law_1556 : decode cL_law 1556 = .ok (.ifCond .eq 7, 3) := by decide +kernel
theorem dL_law_1559 : decode cL_law 1559 = .ok (.iconst 1, 1) := by decide +kernel
theorem dL_law_1560 : decode cL_law 1560 = .ok (.goto 4, 3) := by decide +kernel
theorem dL_law_1563 : decode cL_law 1563 = .ok (.iconst 0, 1) := by decide +kernel
theorem dL_law_1564 : decode cL_law 1564 = .ok (.aload_n 0, 1) := by decide +kernel
theorem dL_law_1565 : decode cL_law 1565 = .ok (.iload 4, 2) := by decide +kernel
theorem dL_law_1567 : decode cL_law 1567 = .ok (.iconst 3, 1) := by decide +kernel
theorem dL_law_1568 : decode cL_law 1568 = .ok (.iadd, 1) := by decide +kernel
theorem dL_law_1569 : decode cL_law 1569 = .ok (.iaload, 1) := by decide +kernel
theorem dL_law_1570 : decode cL_law 1570 = .ok (.invokevirtual 145, 3) := by decide +kernel
theorem dL_law_1573 : decode cL_law 1573 = .ok (.aload_n 2, 1) := by decide +kernel
theorem dL_law_1574 : decode cL_law 1574 = .ok (.aload_n 0, 1) := by decide +kernel
theorem dL_law_1575 : decode cL_law 1575 = .ok (.iload 4, 2) := by decide +kernel
theorem dL_law_1577 : decode cL_law 1577 = .ok (.iconst 1, 1) := by decide +kernel
theorem dL_law_1578 : decode cL_law 1578 = .ok (.iadd, 1) := by decide +kernel
theorem dL_law_1579 : decode cL_law 1579 = .ok (.iaload, 1) := by decide +kernel
theorem dL_law_1580 : decode cL_law 1580 = .ok (.aload_n 0, 1) := by decide +kernel
theorem dL_law_1581 : decode cL_law 1581 = .ok (.iload 4, 2) := by decide +kernel
theorem dL_law_1583 : decode cL_law 1583 = .ok (.iconst 2, 1) := by decide +kernel
theorem dL_law_1584 : decode cL_law 1584 = .ok (.iadd, 1) := by decide +kernel
theorem dL_law_1585 : decode cL_law 1585 = .ok (.iaload, 1) := by decide +kernel
theorem dL_law_1586 : decode cL_law 1586 = .ok (.ifCond .eq 7, 3) := by decide +kernel
theorem dL_law_1589 : decode cL_law 1589 = .ok (.iconst 1, 1) := by decide +kernel
theorem dL_law_1590 : decode cL_law 1590 = .ok (.goto 4, 3) := by decide +kernel
theorem dL_law_1593 : decode cL_law 1593 = .ok (.iconst 0, 1) := by decide +kernel
theorem dL_law_1594 : decode cL_law 1594 = .ok (.aload_n 0, 1) := by decide +kernel
theorem dL_law_1595 : decode cL_law 1595 = .ok (.iload 4, 2) := by decide +kernel
theorem dL_law_1597 : decode cL_law 1597 = .ok (.iconst 3, 1) := by decide +kernel
theorem dL_law_1598 : decode cL_law 1598 = .ok (.iadd, 1) := by decide +kernel
theorem dL_law_1599 : decode cL_law 1599 = .ok (.iaload, 1) := by decide +kernel
theorem dL_law_1600 : decode cL_law 1600 = .ok (.invokevirtual 149, 3) := by decide +kernel
theorem dL_law_1603 : decode cL_law 1603 = .ok (.if_icmp .eq 160, 3) := by decide +kernel
theorem dL_law_1608 : decode cL_law 1608 = .ok (.aload_n 1, 1) := by decide +kernel
theorem dL_law_1609 : decode cL_law 1609 = .ok (.aload_n 0, 1) := by decide +kernel
theorem dL_law_1610 : decode cL_law 1610 = .ok (.iload 4, 2) := by decide +kernel
theorem dL_law_1612 : decode cL_law 1612 = .ok (.iconst 1, 1) := by decide +kernel
theorem dL_law_1613 : decode cL_law 1613 = .ok (.iadd, 1) := by decide +kernel
theorem dL_law_1614 : decode cL_law 1614 = .ok (.iaload, 1) := by decide +kernel
theorem dL_law_1615 : decode cL_law 1615 = .ok (.aload_n 0, 1) := by decide +kernel
theorem dL_law_1616 : decode cL_law 1616 = .ok (.iload 4, 2) := by decide +kernel
theorem dL_law_1618 : decode cL_law 1618 = .ok (.iconst 2, 1) := by decide +kernel
theorem dL_law_1619 : decode cL_law 1619 = .ok (.iadd, 1) := by decide +kernel
theorem dL_law_1620 : decode cL_law 1620 = .ok (.iaload, 1) := by decide +kernel
theorem dL_law_1621 : decode cL_law 1621 = .ok (.aload_n 0, 1) := by decide +kernel
theorem dL_law_1622 : decode cL_law 1622 = .ok (.iload 4, 2) := by decide +kernel
theorem dL_law_1624 : decode cL_law 1624 = .ok (.iconst 3, 1) := by decide +kernel
theorem dL_law_1625 : decode cL_law 1625 = .ok (.iadd, 1) := by decide +kernel
theorem dL_law_1626 : decode cL_law 1626 = .ok (.iaload, 1) := by decide +kernel
theorem dL_law_1627 : decode cL_law 1627 = .ok (.aload_n 0, 1) := by decide +kernel
theorem dL_law_1628 : decode cL_law 1628 = .ok (.iload 4, 2) := by decide +kernel
theorem dL_law_1630 : decode cL_law 1630 = .ok (.iconst 4, 1) := by decide +kernel
theorem dL_law_1631 : decode cL_law 1631 = .ok (.iadd, 1) := by decide +kernel
theorem dL_law_1632 : decode cL_law 1632 = .ok (.iaload, 1) := by decide +kernel
theorem dL_law_1633 : decode cL_law 1633 = .ok (.aload_n 3, 1) := by decide +kernel
theorem dL_law_1634 : decode cL_law 1634 = .ok (.invokestatic 150, 3) := by decide +kernel
theorem dL_law_1637 : decode cL_law 1637 = .ok (.istore 5, 2) := by decide +kernel
theorem dL_law_1639 : decode cL_law 1639 = .ok (.aload_n 2, 1) := by decide +kernel
theorem dL_law_1640 : decode cL_law 1640 = .ok (.aload_n 0, 1) := by decide +kernel
theorem dL_law_1641 : decode cL_law 1641 = .ok (.iload 4, 2) := by decide +kernel
theorem dL_law_1643 : decode cL_law 1643 = .ok (.iconst 1, 1) := by decide +kernel
theorem dL_law_1644 : decode cL_law 1644 = .ok (.iadd, 1) := by decide +kernel
theorem dL_law_1645 : decode cL_law 1645 = .ok (.iaload, 1) := by decide +kernel
theorem dL_law_1646 : decode cL_law 1646 = .ok (.aload_n 0, 1) := by decide +kernel
theorem dL_law_1647 : decode cL_law 1647 = .ok (.iload 4, 2) := by decide +kernel
theorem dL_law_1649 : decode cL_law 1649 = .ok (.iconst 2, 1) := by decide +kernel
theorem dL_law_1650 : decode cL_law 1650 = .ok (.iadd, 1) := by decide +kernel
theorem dL_law_1651 : decode cL_law 1651 = .ok (.iaload, 1) := by decide +kernel
theorem dL_law_1652 : decode cL_law 1652 = .ok (.aload_n 0, 1) := by decide +kernel
theorem dL_law_1653 : decode cL_law 1653 = .ok (.iload 4, 2) := by decide +kernel
theorem dL_law_1655 : decode cL_law 1655 = .ok (.iconst 3, 1) := by decide +kernel
theorem dL_law_1656 : decode cL_law 1656 = .ok (.iadd, 1) := by decide +kernel
theorem dL_law_1657 : decode cL_law 1657 = .ok (.iaload, 1) := by decide +kernel
theorem dL_law_1658 : decode cL_law 1658 = .ok (.aload_n 0, 1) := by decide +kernel
theorem dL_law_1659 : decode cL_law 1659 = .ok (.iload 4, 2) := by decide +kernel
theorem dL_law_1661 : decode cL_law 1661 = .ok (.iconst 4, 1) := by decide +kernel
theorem dL_law_1662 : decode cL_law 1662 = .ok (.iadd, 1) := by decide +kernel
theorem dL_law_1663 : decode cL_law 1663 = .ok (.iaload, 1) := by decide +kernel
theorem dL_law_1664 : decode cL_law 1664 = .ok (.invokevirtual 152, 3) := by decide +kernel
theorem dL_law_1667 : decode cL_law 1667 = .ok (.istore 6, 2) := by decide +kernel
theorem dL_law_1669 : decode cL_law 1669 = .ok (.aload_n 2, 1) := by decide +kernel
theorem dL_law_1670 : decode cL_law 1670 = .ok (.invokevirtual 85, 3) := by decide +kernel
theorem dL_law_1673 : decode cL_law 1673 = .ok (.iload 5, 2) := by decide +kernel
theorem dL_law_1675 : decode cL_law 1675 = .ok (.if_icmp .eq 5, 3) := by decide +kernel
theorem dL_law_1680 : decode cL_law 1680 = .ok (.iload 5, 2) := by decide +kernel
theorem dL_law_1682 : decode cL_law 1682 = .ok (.ifCond .ne 15, 3) := by decide +kernel
theorem dL_law_1697 : decode cL_law 1697 = .ok (.goto 66, 3) := by decide +kernel
theorem dL_law_1700 : decode cL_law 1700 = .ok (.aload_n 1, 1) := by decide +kernel
theorem dL_law_1701 : decode cL_law 1701 = .ok (.aload_n 0, 1) := by decide +kernel
theorem dL_law_1702 : decode cL_law 1702 = .ok (.iload 4, 2) := by decide +kernel
theorem dL_law_1704 : decode cL_law 1704 = .ok (.iconst 1, 1) := by decide +kernel
theorem dL_law_1705 : decode cL_law 1705 = .ok (.iadd, 1) := by decide +kernel
theorem dL_law_1706 : decode cL_law 1706 = .ok (.iaload, 1) := by decide +kernel
theorem dL_law_1707 : decode cL_law 1707 = .ok (.invokevirtual 153, 3) := by decide +kernel
theorem dL_law_1710 : decode cL_law 1710 = .ok (.aload_n 2, 1) := by decide +kernel
theorem dL_law_1711 : decode cL_law 1711 = .ok (.aload_n 0, 1) := by decide +kernel
theorem dL_law_1712 : decode cL_law 1712 = .ok (.iload 4, 2) := by decide +kernel
theorem dL_law_1714 : decode cL_law 1714 = .ok (.iconst 1, 1) := by decide +kernel
theorem dL_law_1715 : decode cL_law 1715 = .ok (.iadd, 1) := by decide +kernel
theorem dL_law_1716 : decode cL_law 1716 = .ok (.iaload, 1) := by decide +kernel
theorem dL_law_1717 : decode cL_law 1717 = .ok (.invokevirtual 157, 3) := by decide +kernel
theorem dL_law_1720 : decode cL_law 1720 = .ok (.if_icmp .eq 43, 3) := by decide +kernel
theorem dL_law_1723 : decode cL_law 1723 = .ok (.iconst 0, 1) := by decide +kernel
theorem dL_law_1724 : decode cL_law 1724 = .ok (.ireturn, 1) := by decide +kernel
theorem dL_law_1725 : decode cL_law 1725 = .ok (.aload_n 1, 1) := by decide +kernel
theorem dL_law_1726 : decode cL_law 1726 = .ok (.invokevirtual 158, 3) := by decide +kernel
theorem dL_law_1729 : decode cL_law 1729 = .ok (.aload_n 2, 1) := by decide +kernel
theorem dL_law_1730 : decode cL_law 1730 = .ok (.invokevirtual 161, 3) := by decide +kernel
theorem dL_law_1733 : decode cL_law 1733 = .ok (.if_icmp .eq 30, 3) := by decide +kernel
theorem dL_law_1738 : decode cL_law 1738 = .ok (.aload_n 1, 1) := by decide +kernel
theorem dL_law_1739 : decode cL_law 1739 = .ok (.aload_n 0, 1) := by decide +kernel
theorem dL_law_1740 : decode cL_law 1740 = .ok (.iload 4, 2) := by decide +kernel
theorem dL_law_1742 : decode cL_law 1742 = .ok (.iconst 1, 1) := by decide +kernel
theorem dL_law_1743 : decode cL_law 1743 = .ok (.iadd, 1) := by decide +kernel
theorem dL_law_1744 : decode cL_law 1744 = .ok (.iaload, 1) := by decide +kernel
theorem dL_law_1745 : decode cL_law 1745 = .ok (.invokevirtual 162, 3) := by decide +kernel
theorem dL_law_1748 : decode cL_law 1748 = .ok (.aload_n 2, 1) := by decide +kernel
theorem dL_law_1749 : decode cL_law 1749 = .ok (.aload_n 0, 1) := by decide +kernel
theorem dL_law_1750 : decode cL_law 1750 = .ok (.iload 4, 2) := by decide +kernel
theorem dL_law_1752 : decode cL_law 1752 = .ok (.iconst 1, 1) := by decide +kernel
theorem dL_law_1753 : decode cL_law 1753 = .ok (.iadd, 1) := by decide +kernel
theorem dL_law_1754 : decode cL_law 1754 = .ok (.iaload, 1) := by decide +kernel
theorem dL_law_1755 : decode cL_law 1755 = .ok (.invokevirtual 165, 3) := by decide +kernel
theorem dL_law_1758 : decode cL_law 1758 = .ok (.if_icmp .eq 5, 3) := by decide +kernel
theorem dL_law_1763 : decode cL_law 1763 = .ok (.iinc 4 6, 3) := by decide +kernel
theorem dL_law_1766 : decode cL_law 1766 = .ok (.goto (-1743), 3) := by decide +kernel
theorem dL_law_1769 : decode cL_law 1769 = .ok (.iconst 1, 1) := by decide +kernel
theorem dL_law_1770 : decode cL_law 1770 = .ok (.ireturn, 1) := by decide +kernel
theorem wd_392 : (.classLink "DrawingVaultLaw" 8 "DrawingVault" : Cond) ∈ aw := aw_in (tb_1 (List.mem_of_getElem? (i := 17) rfl)) rfl
theorem wd_393 : (.instantiable "DrawingVault" 9 : Cond) ∈ aw := aw_in (tb_1 (List.mem_of_getElem? (i := 18) rfl)) rfl
theorem wd_394 : (.code ⟨"DrawingVault", "<init>", "()V"⟩ prog_1_method_1_code 1 (Option.none : Option Jvm.ClassFile.FieldType) : Cond) ∈ aw := aw_in (tb_1 (List.mem_of_getElem? (i := 21) rfl)) rfl
theorem wd_395 : (.methodLink "DrawingVaultLaw" 75 ⟨"DrawingVault", "<init>", "()V"⟩ : Cond) ∈ aw := aw_in (tb_1 (List.mem_of_getElem? (i := 19) rfl)) rfl
theorem wd_396 : (.instanceMethod ⟨"DrawingVault", "<init>", "()V"⟩ : Cond) ∈ aw := aw_in (tb_1 (List.mem_of_getElem? (i := 20) rfl)) rfl
theorem wd_397 : (.classLink "DrawingVaultLaw" 76 "DrawingVaultModel" : Cond) ∈ aw := aw_in (tb_4 (List.mem_of_getElem? (i := 20) rfl)) rfl
theorem wd_398 : (.instantiable "DrawingVaultModel" 11 : Cond) ∈ aw := aw_in (tb_4 (List.mem_of_getElem? (i := 21) rfl)) rfl
theorem wd_399 : (.code ⟨"DrawingVaultModel", "<init>", "()V"⟩ prog_9_method_1_code 1 (Option.none : Option Jvm.ClassFile.FieldType) : Cond) ∈ aw := aw_in (tb_4 (List.mem_of_getElem? (i := 24) rfl)) rfl
theorem wd_400 : (.methodLink "DrawingVaultLaw" 78 ⟨"DrawingVaultModel", "<init>", "()V"⟩ : Cond) ∈ aw := aw_in (tb_4 (List.mem_of_getElem? (i := 22) rfl)) rfl
theorem wd_401 : (.instanceMethod ⟨"DrawingVaultModel", "<init>", "()V"⟩ : Cond) ∈ aw := aw_in (tb_4 (List.mem_of_getElem? (i := 23) rfl)) rfl
theorem wd_402 : (.codeWith ⟨"DrawingVaultLaw", "person", "(LDrawingVault;II[J)I"⟩ method_3_code 5 (Option.some .int) [(0, 17, 20, 13)] : Cond) ∈ aw := aw_in (tb_1 (List.mem_of_getElem? (i := 238) rfl)) rfl
theorem wd_403 : (.methodLink "DrawingVaultLaw" 79 ⟨"DrawingVaultLaw", "person", "(LDrawingVault;II[J)I"⟩ : Cond) ∈ aw := aw_in (tb_1 (List.mem_of_getElem? (i := 236) rfl)) rfl
theorem wd_404 : (.static ⟨"DrawingVaultLaw", "person", "(LDrawingVault;II[J)I"⟩ : Cond) ∈ aw := aw_in (tb_1 (List.mem_of_getElem? (i := 237) rfl)) rfl
theorem wd_405 : (.initialized "DrawingVaultLaw" : Cond) ∈ aw := aw_in (tb_1 (List.mem_of_getElem? (i := 0) rfl)) rfl
theorem wd_406 : (.code ⟨"DrawingVaultModel", "person", "(II)Z"⟩ prog_9_method_31_code 4 (Option.some .boolean) : Cond) ∈ aw := aw_in (tb_4 (List.mem_of_getElem? (i := 72) rfl)) rfl
theorem wd_407 : (.methodLink "DrawingVaultLaw" 84 ⟨"DrawingVaultModel", "person", "(II)Z"⟩ : Cond) ∈ aw := aw_in (tb_4 (List.mem_of_getElem? (i := 69) rfl)) rfl
theorem wd_408 : (.instanceMethod ⟨"DrawingVaultModel", "person", "(II)Z"⟩ : Cond) ∈ aw := aw_in (tb_4 (List.mem_of_getElem? (i := 70) rfl)) rfl
theorem wd_409 : (.selects "DrawingVaultModel" ⟨"DrawingVaultModel", "person", "(II)Z"⟩ ⟨"DrawingVaultModel", "person", "(II)Z"⟩ : Cond) ∈ aw := aw_in (tb_4 (List.mem_of_getElem? (i := 71) rfl)) rfl
theorem wd_410 : (.code ⟨"DrawingVaultModel", "thrown", "()I"⟩ prog_9_method_2_code 1 (Option.some .int) : Cond) ∈ aw := aw_in (tb_4 (List.mem_of_getElem? (i := 68) rfl)) rfl
theorem wd_411 : (.methodLink "DrawingVaultLaw" 85 ⟨"DrawingVaultModel", "thrown", "()I"⟩ : Cond) ∈ aw := aw_in (tb_4 (List.mem_of_getElem? (i := 65) rfl)) rfl
theorem wd_412 : (.instanceMethod ⟨"DrawingVaultModel", "thrown", "()I"⟩ : Cond) ∈ aw := aw_in (tb_4 (List.mem_of_getElem? (i := 66) rfl)) rfl
theorem wd_413 : (.selects "DrawingVaultModel" ⟨"DrawingVaultModel", "thrown", "()I"⟩ ⟨"DrawingVaultModel", "thrown", "()I"⟩ : Cond) ∈ aw := aw_in (tb_4 (List.mem_of_getElem? (i := 67) rfl)) rfl
theorem wd_414 : (.codeWith ⟨"DrawingVaultLaw", "drawing", "(LDrawingVault;I[J)I"⟩ method_4_code 4 (Option.some .int) [(0, 9, 12, 13)] : Cond) ∈ aw := aw_in (tb_2 (List.mem_of_getElem? (i := 111) rfl)) rfl
theorem wd_415 : (.methodLink "DrawingVaultLaw" 89 ⟨"DrawingVaultLaw", "drawing", "(LDrawingVault;I[J)I"⟩ : Cond) ∈ aw := aw_in (tb_2 (List.mem_of_getElem? (i := 109) rfl)) rfl
theorem wd_416 : (.static ⟨"DrawingVaultLaw", "drawing", "(LDrawingVault;I[J)I"⟩ : Cond) ∈ aw := aw_in (tb_2 (List.mem_of_getElem? (i := 110) rfl)) rfl
theorem wd_417 : (.code ⟨"DrawingVaultModel", "drawing", "(I)I"⟩ prog_9_method_33_code 4 (Option.some .int) : Cond) ∈ aw := aw_in (tb_4 (List.mem_of_getElem? (i := 147) rfl)) rfl
theorem wd_418 : (.methodLink "DrawingVaultLaw" 92 ⟨"DrawingVaultModel", "drawing", "(I)I"⟩ : Cond) ∈ aw := aw_in (tb_4 (List.mem_of_getElem? (i := 144) rfl)) rfl
theorem wd_419 : (.instanceMethod ⟨"DrawingVaultModel", "drawing", "(I)I"⟩ : Cond) ∈ aw := aw_in (tb_4 (List.mem_of_getElem? (i := 145) rfl)) rfl
theorem wd_420 : (.selects "DrawingVaultModel" ⟨"DrawingVaultModel", "drawing", "(I)I"⟩ ⟨"DrawingVaultModel", "drawing", "(I)I"⟩ : Cond) ∈ aw := aw_in (tb_4 (List.mem_of_getElem? (i := 146) rfl)) rfl
theorem wd_421 : (.codeWith ⟨"DrawingVaultLaw", "out", "(LDrawingVault;II[J)I"⟩ method_5_code 5 (Option.some .int) [(0, 17, 20, 13)] : Cond) ∈ aw := aw_in (tb_2 (List.mem_of_getElem? (i := 208) rfl)) rfl
theorem wd_422 : (.methodLink "DrawingVaultLaw" 93 ⟨"DrawingVaultLaw", "out", "(LDrawingVault;II[J)I"⟩ : Cond) ∈ aw := aw_in (tb_2 (List.mem_of_getElem? (i := 206) rfl)) rfl
theorem wd_423 : (.static ⟨"DrawingVaultLaw", "out", "(LDrawingVault;II[J)I"⟩ : Cond) ∈ aw := aw_in (tb_2 (List.mem_of_getElem? (i := 207) rfl)) rfl
theorem wd_424 : (.code ⟨"DrawingVaultModel", "out", "(II)Z"⟩ prog_9_method_35_code 5 (Option.some .boolean) : Cond) ∈ aw := aw_in (tb_4 (List.mem_of_getElem? (i := 162) rfl)) rfl
theorem wd_425 : (.methodLink "DrawingVaultLaw" 95 ⟨"DrawingVaultModel", "out", "(II)Z"⟩ : Cond) ∈ aw := aw_in (tb_4 (List.mem_of_getElem? (i := 159) rfl)) rfl
theorem wd_426 : (.instanceMethod ⟨"DrawingVaultModel", "out", "(II)Z"⟩ : Cond) ∈ aw := aw_in (tb_4 (List.mem_of_getElem? (i := 160) rfl)) rfl
theorem wd_427 : (.selects "DrawingVaultModel" ⟨"DrawingVaultModel", "out", "(II)Z"⟩ ⟨"DrawingVaultModel", "out", "(II)Z"⟩ : Cond) ∈ aw := aw_in (tb_4 (List.mem_of_getElem? (i := 161) rfl)) rfl
theorem wd_428 : (.codeWith ⟨"DrawingVaultLaw", "undo", "(LDrawingVault;II[J)I"⟩ method_6_code 5 (Option.some .int) [(0, 17, 20, 13)] : Cond) ∈ aw := aw_in (tb_2 (List.mem_of_getElem? (i := 223) rfl)) rfl
theorem wd_429 : (.methodLink "DrawingVaultLaw" 96 ⟨"DrawingVaultLaw", "undo", "(LDrawingVault;II[J)I"⟩ : Cond) ∈ aw := aw_in (tb_2 (List.mem_of_getElem? (i := 221) rfl)) rfl
theorem wd_430 : (.static ⟨"DrawingVaultLaw", "undo", "(LDrawingVault;II[J)I"⟩ : Cond) ∈ aw := aw_in (tb_2 (List.mem_of_getElem? (i := 222) rfl)) rfl
theorem wd_431 : (.code ⟨"DrawingVaultModel", "undo", "(II)Z"⟩ prog_9_method_37_code 3 (Option.some .boolean) : Cond) ∈ aw := aw_in (tb_4 (List.mem_of_getElem? (i := 170) rfl)) rfl
theorem wd_432 : (.methodLink "DrawingVaultLaw" 98 ⟨"DrawingVaultModel", "undo", "(II)Z"⟩ : Cond) ∈ aw := aw_in (tb_4 (List.mem_of_getElem? (i := 167) rfl)) rfl
theorem wd_433 : (.instanceMethod ⟨"DrawingVaultModel", "undo", "(II)Z"⟩ : Cond) ∈ aw := aw_in (tb_4 (List.mem_of_getElem? (i := 168) rfl)) rfl
theorem wd_434 : (.selects "DrawingVaultModel" ⟨"DrawingVaultModel", "undo", "(II)Z"⟩ ⟨"DrawingVaultModel", "undo", "(II)Z"⟩ : Cond) ∈ aw := aw_in (tb_4 (List.mem_of_getElem? (i := 169) rfl)) rfl
theorem wd_435 : (.codeWith ⟨"DrawingVaultLaw", "put", "(LDrawingVault;IIII[J)I"⟩ method_7_code 7 (Option.some .int) [(0, 21, 24, 13)] : Cond) ∈ aw := aw_in (tb_3 (List.mem_of_getElem? (i := 5) rfl)) rfl
theorem wd_436 : (.methodLink "DrawingVaultLaw" 99 ⟨"DrawingVaultLaw", "put", "(LDrawingVault;IIII[J)I"⟩ : Cond) ∈ aw := aw_in (tb_3 (List.mem_of_getElem? (i := 3) rfl)) rfl
theorem wd_437 : (.static ⟨"DrawingVaultLaw", "put", "(LDrawingVault;IIII[J)I"⟩ : Cond) ∈ aw := aw_in (tb_3 (List.mem_of_getElem? (i := 4) rfl)) rfl
theorem wd_438 : (.code ⟨"DrawingVaultModel", "put", "(IIII)Z"⟩ prog_9_method_39_code 7 (Option.some .boolean) : Cond) ∈ aw := aw_in (tb_4 (List.mem_of_getElem? (i := 178) rfl)) rfl
theorem wd_439 : (.methodLink "DrawingVaultLaw" 102 ⟨"DrawingVaultModel", "put", "(IIII)Z"⟩ : Cond) ∈ aw := aw_in (tb_4 (List.mem_of_getElem? (i := 175) rfl)) rfl
theorem wd_440 : (.instanceMethod ⟨"DrawingVaultModel", "put", "(IIII)Z"⟩ : Cond) ∈ aw := aw_in (tb_4 (List.mem_of_getElem? (i := 176) rfl)) rfl
theorem wd_441 : (.selects "DrawingVaultModel" ⟨"DrawingVaultModel", "put", "(IIII)Z"⟩ ⟨"DrawingVaultModel", "put", "(IIII)Z"⟩ : Cond) ∈ aw := aw_in (tb_4 (List.mem_of_getElem? (i := 177) rfl)) rfl
theorem wd_442 : (.codeWith ⟨"DrawingVaultLaw", "resize", "(LDrawingVault;III[J)I"⟩ method_8_code 6 (Option.some .int) [(0, 19, 22, 13)] : Cond) ∈ aw := aw_in (tb_3 (List.mem_of_getElem? (i := 25) rfl)) rfl
theorem wd_443 : (.methodLink "DrawingVaultLaw" 103 ⟨"DrawingVaultLaw", "resize", "(LDrawingVault;III[J)I"⟩ : Cond) ∈ aw := aw_in (tb_3 (List.mem_of_getElem? (i := 23) rfl)) rfl
theorem wd_444 : (.static ⟨"DrawingVaultLaw", "resize", "(LDrawingVault;III[J)I"⟩ : Cond) ∈ aw := aw_in (tb_3 (List.mem_of_getElem? (i := 24) rfl)) rfl
theorem wd_445 : (.code ⟨"DrawingVaultModel", "resize", "(III)Z"⟩ prog_9_method_40_code 7 (Option.some .boolean) : Cond) ∈ aw := aw_in (tb_4 (List.mem_of_getElem? (i := 186) rfl)) rfl
theorem wd_446 : (.methodLink "DrawingVaultLaw" 106 ⟨"DrawingVaultModel", "resize", "(III)Z"⟩ : Cond) ∈ aw := aw_in (tb_4 (List.mem_of_getElem? (i := 183) rfl)) rfl
theorem wd_447 : (.instanceMethod ⟨"DrawingVaultModel", "resize", "(III)Z"⟩ : Cond) ∈ aw := aw_in (tb_4 (List.mem_of_getElem? (i := 184) rfl)) rfl
theorem wd_448 : (.selects "DrawingVaultModel" ⟨"DrawingVaultModel", "resize", "(III)Z"⟩ ⟨"DrawingVaultModel", "resize", "(III)Z"⟩ : Cond) ∈ aw := aw_in (tb_4 (List.mem_of_getElem? (i := 185) rfl)) rfl
theorem wd_449 : (.codeWith ⟨"DrawingVaultLaw", "ref", "(LDrawingVault;IIIII[J)I"⟩ method_9_code 8 (Option.some .int) [(0, 23, 26, 13)] : Cond) ∈ aw := aw_in (tb_3 (List.mem_of_getElem? (i := 37) rfl)) rfl
theorem wd_450 : (.methodLink "DrawingVaultLaw" 107 ⟨"DrawingVaultLaw", "ref", "(LDrawingVault;IIIII[J)I"⟩ : Cond) ∈ aw := aw_in (tb_3 (List.mem_of_getElem? (i := 35) rfl)) rfl
theorem wd_451 : (.static ⟨"DrawingVaultLaw", "ref", "(LDrawingVault;IIIII[J)I"⟩ : Cond) ∈ aw := aw_in (tb_3 (List.mem_of_getElem? (i := 36) rfl)) rfl
theorem wd_452 : (.code ⟨"DrawingVaultModel", "ref", "(IIIII)Z"⟩ prog_9_method_41_code 11 (Option.some .boolean) : Cond) ∈ aw := aw_in (tb_4 (List.mem_of_getElem? (i := 190) rfl)) rfl
theorem wd_453 : (.methodLink "DrawingVaultLaw" 110 ⟨"DrawingVaultModel", "ref", "(IIIII)Z"⟩ : Cond) ∈ aw := aw_in (tb_4 (List.mem_of_getElem? (i := 187) rfl)) rfl
theorem wd_454 : (.instanceMethod ⟨"DrawingVaultModel", "ref", "(IIIII)Z"⟩ : Cond) ∈ aw := aw_in (tb_4 (List.mem_of_getElem? (i := 188) rfl)) rfl
theorem wd_455 : (.selects "DrawingVaultModel" ⟨"DrawingVaultModel", "ref", "(IIIII)Z"⟩ ⟨"DrawingVaultModel", "ref", "(IIIII)Z"⟩ : Cond) ∈ aw := aw_in (tb_4 (List.mem_of_getElem? (i := 189) rfl)) rfl
theorem wd_456 : (.codeWith ⟨"DrawingVaultLaw", "drop", "(LDrawingVault;III[J)I"⟩ method_10_code 6 (Option.some .int) [(0, 19, 22, 13)] : Cond) ∈ aw := aw_in (tb_3 (List.mem_of_getElem? (i := 52) rfl)) rfl
theorem wd_457 : (.methodLink "DrawingVaultLaw" 111 ⟨"DrawingVaultLaw", "drop", "(LDrawingVault;III[J)I"⟩ : Cond) ∈ aw := aw_in (tb_3 (List.mem_of_getElem? (i := 50) rfl)) rfl
theorem wd_458 : (.static ⟨"DrawingVaultLaw", "drop", "(LDrawingVault;III[J)I"⟩ : Cond) ∈ aw := aw_in (tb_3 (List.mem_of_getElem? (i := 51) rfl)) rfl
theorem wd_459 : (.code ⟨"DrawingVaultModel", "drop", "(III)Z"⟩ prog_9_method_42_code 8 (Option.some .boolean) : Cond) ∈ aw := aw_in (tb_4 (List.mem_of_getElem? (i := 194) rfl)) rfl
theorem wd_460 : (.methodLink "DrawingVaultLaw" 113 ⟨"DrawingVaultModel", "drop", "(III)Z"⟩ : Cond) ∈ aw := aw_in (tb_4 (List.mem_of_getElem? (i := 191) rfl)) rfl
theorem wd_461 : (.instanceMethod ⟨"DrawingVaultModel", "drop", "(III)Z"⟩ : Cond) ∈ aw := aw_in (tb_4 (List.mem_of_getElem? (i := 192) rfl)) rfl
theorem wd_462 : (.selects "DrawingVaultModel" ⟨"DrawingVaultModel", "drop", "(III)Z"⟩ ⟨"DrawingVaultModel", "drop", "(III)Z"⟩ : Cond) ∈ aw := aw_in (tb_4 (List.mem_of_getElem? (i := 193) rfl)) rfl
theorem wd_463 : (.codeWith ⟨"DrawingVaultLaw", "checkIn", "(LDrawingVault;II[J)I"⟩ method_11_code 5 (Option.some .int) [(0, 10, 13, 13)] : Cond) ∈ aw := aw_in (tb_3 (List.mem_of_getElem? (i := 67) rfl)) rfl
theorem wd_464 : (.methodLink "DrawingVaultLaw" 114 ⟨"DrawingVaultLaw", "checkIn", "(LDrawingVault;II[J)I"⟩ : Cond) ∈ aw := aw_in (tb_3 (List.mem_of_getElem? (i := 65) rfl)) rfl
theorem wd_465 : (.static ⟨"DrawingVaultLaw", "checkIn", "(LDrawingVault;II[J)I"⟩ : Cond) ∈ aw := aw_in (tb_3 (List.mem_of_getElem? (i := 66) rfl)) rfl
theorem wd_466 : (.code ⟨"DrawingVaultModel", "checkIn", "(II)I"⟩ prog_9_method_48_code 7 (Option.some .int) : Cond) ∈ aw := aw_in (tb_4 (List.mem_of_getElem? (i := 198) rfl)) rfl
theorem wd_467 : (.methodLink "DrawingVaultLaw" 116 ⟨"DrawingVaultModel", "checkIn", "(II)I"⟩ : Cond) ∈ aw := aw_in (tb_4 (List.mem_of_getElem? (i := 195) rfl)) rfl
theorem wd_468 : (.instanceMethod ⟨"DrawingVaultModel", "checkIn", "(II)I"⟩ : Cond) ∈ aw := aw_in (tb_4 (List.mem_of_getElem? (i := 196) rfl)) rfl
theorem wd_469 : (.selects "DrawingVaultModel" ⟨"DrawingVaultModel", "checkIn", "(II)I"⟩ ⟨"DrawingVaultModel", "checkIn", "(II)I"⟩ : Cond) ∈ aw := aw_in (tb_4 (List.mem_of_getElem? (i := 197) rfl)) rfl
theorem wd_470 : (.codeWith ⟨"DrawingVaultLaw", "check", "(LDrawingVault;III[J)I"⟩ method_12_code 6 (Option.some .int) [(0, 19, 22, 13)] : Cond) ∈ aw := aw_in (tb_3 (List.mem_of_getElem? (i := 95) rfl)) rfl
theorem wd_471 : (.methodLink "DrawingVaultLaw" 117 ⟨"DrawingVaultLaw", "check", "(LDrawingVault;III[J)I"⟩ : Cond) ∈ aw := aw_in (tb_3 (List.mem_of_getElem? (i := 93) rfl)) rfl
theorem wd_472 : (.static ⟨"DrawingVaultLaw", "check", "(LDrawingVault;III[J)I"⟩ : Cond) ∈ aw := aw_in (tb_3 (List.mem_of_getElem? (i := 94) rfl)) rfl
theorem wd_473 : (.code ⟨"DrawingVaultModel", "check", "(III)Z"⟩ prog_9_method_50_code 5 (Option.some .boolean) : Cond) ∈ aw := aw_in (tb_4 (List.mem_of_getElem? (i := 234) rfl)) rfl
theorem wd_474 : (.methodLink "DrawingVaultLaw" 119 ⟨"DrawingVaultModel", "check", "(III)Z"⟩ : Cond) ∈ aw := aw_in (tb_4 (List.mem_of_getElem? (i := 231) rfl)) rfl
theorem wd_475 : (.instanceMethod ⟨"DrawingVaultModel", "check", "(III)Z"⟩ : Cond) ∈ aw := aw_in (tb_4 (List.mem_of_getElem? (i := 232) rfl)) rfl
theorem wd_476 : (.selects "DrawingVaultModel" ⟨"DrawingVaultModel", "check", "(III)Z"⟩ ⟨"DrawingVaultModel", "check", "(III)Z"⟩ : Cond) ∈ aw := aw_in (tb_4 (List.mem_of_getElem? (i := 233) rfl)) rfl
theorem wd_477 : (.codeWith ⟨"DrawingVaultLaw", "release", "(LDrawingVault;III[J)I"⟩ method_13_code 6 (Option.some .int) [(0, 19, 22, 13)] : Cond) ∈ aw := aw_in (tb_3 (List.mem_of_getElem? (i := 110) rfl)) rfl
theorem wd_478 : (.methodLink "DrawingVaultLaw" 120 ⟨"DrawingVaultLaw", "release", "(LDrawingVault;III[J)I"⟩ : Cond) ∈ aw := aw_in (tb_3 (List.mem_of_getElem? (i := 108) rfl)) rfl
theorem wd_479 : (.static ⟨"DrawingVaultLaw", "release", "(LDrawingVault;III[J)I"⟩ : Cond) ∈ aw := aw_in (tb_3 (List.mem_of_getElem? (i := 109) rfl)) rfl
theorem wd_480 : (.code ⟨"DrawingVaultModel", "release", "(III)Z"⟩ prog_9_method_52_code 5 (Option.some .boolean) : Cond) ∈ aw := aw_in (tb_5 (List.mem_of_getElem? (i := 6) rfl)) rfl
theorem wd_481 : (.methodLink "DrawingVaultLaw" 122 ⟨"DrawingVaultModel", "release", "(III)Z"⟩ : Cond) ∈ aw := aw_in (tb_5 (List.mem_of_getElem? (i := 3) rfl)) rfl
theorem wd_482 : (.instanceMethod ⟨"DrawingVaultModel", "release", "(III)Z"⟩ : Cond) ∈ aw := aw_in (tb_5 (List.mem_of_getElem? (i := 4) rfl)) rfl
theorem wd_483 : (.selects "DrawingVaultModel" ⟨"DrawingVaultModel", "release", "(III)Z"⟩ ⟨"DrawingVaultModel", "release", "(III)Z"⟩ : Cond) ∈ aw := aw_in (tb_5 (List.mem_of_getElem? (i := 5) rfl)) rfl
theorem wd_484 : (.codeWith ⟨"DrawingVaultLaw", "withdraw", "(LDrawingVault;III[J)I"⟩ method_14_code 6 (Option.some .int) [(0, 19, 22, 13)] : Cond) ∈ aw := aw_in (tb_3 (List.mem_of_getElem? (i := 137) rfl)) rfl
theorem wd_485 : (.methodLink "DrawingVaultLaw" 123 ⟨"DrawingVaultLaw", "withdraw", "(LDrawingVault;III[J)I"⟩ : Cond) ∈ aw := aw_in (tb_3 (List.mem_of_getElem? (i := 135) rfl)) rfl
theorem wd_486 : (.static ⟨"DrawingVaultLaw", "withdraw", "(LDrawingVault;III[J)I"⟩ : Cond) ∈ aw := aw_in (tb_3 (List.mem_of_getElem? (i := 136) rfl)) rfl
theorem wd_487 : (.code ⟨"DrawingVaultModel", "withdraw", "(III)Z"⟩ prog_9_method_54_code 5 (Option.some .boolean) : Cond) ∈ aw := aw_in (tb_5 (List.mem_of_getElem? (i := 26) rfl)) rfl
theorem wd_488 : (.methodLink "DrawingVaultLaw" 125 ⟨"DrawingVaultModel", "withdraw", "(III)Z"⟩ : Cond) ∈ aw := aw_in (tb_5 (List.mem_of_getElem? (i := 23) rfl)) rfl
theorem wd_489 : (.instanceMethod ⟨"DrawingVaultModel", "withdraw", "(III)Z"⟩ : Cond) ∈ aw := aw_in (tb_5 (List.mem_of_getElem? (i := 24) rfl)) rfl
theorem wd_490 : (.selects "DrawingVaultModel" ⟨"DrawingVaultModel", "withdraw", "(III)Z"⟩ ⟨"DrawingVaultModel", "withdraw", "(III)Z"⟩ : Cond) ∈ aw := aw_in (tb_5 (List.mem_of_getElem? (i := 25) rfl)) rfl
theorem wd_491 : (.codeWith ⟨"DrawingVaultLaw", "baseline", "(LDrawingVault;II[J)I"⟩ method_15_code 5 (Option.some .int) [(0, 10, 13, 13)] : Cond) ∈ aw := aw_in (tb_3 (List.mem_of_getElem? (i := 160) rfl)) rfl
theorem wd_492 : (.methodLink "DrawingVaultLaw" 126 ⟨"DrawingVaultLaw", "baseline", "(LDrawingVault;II[J)I"⟩ : Cond) ∈ aw := aw_in (tb_3 (List.mem_of_getElem? (i := 158) rfl)) rfl
theorem wd_493 : (.static ⟨"DrawingVaultLaw", "baseline", "(LDrawingVault;II[J)I"⟩ : Cond) ∈ aw := aw_in (tb_3 (List.mem_of_getElem? (i := 159) rfl)) rfl
theorem wd_494 : (.code ⟨"DrawingVaultModel", "baseline", "(II)I"⟩ prog_9_method_57_code 8 (Option.some .int) : Cond) ∈ aw := aw_in (tb_5 (List.mem_of_getElem? (i := 34) rfl)) rfl
theorem wd_495 : (.methodLink "DrawingVaultLaw" 128 ⟨"DrawingVaultModel", "baseline", "(II)I"⟩ : Cond) ∈ aw := aw_in (tb_5 (List.mem_of_getElem? (i := 31) rfl)) rfl
theorem wd_496 : (.instanceMethod ⟨"DrawingVaultModel", "baseline", "(II)I"⟩ : Cond) ∈ aw := aw_in (tb_5 (List.mem_of_getElem? (i := 32) rfl)) rfl
theorem wd_497 : (.selects "DrawingVaultModel" ⟨"DrawingVaultModel", "baseline", "(II)I"⟩ ⟨"DrawingVaultModel", "baseline", "(II)I"⟩ : Cond) ∈ aw := aw_in (tb_5 (List.mem_of_getElem? (i := 33) rfl)) rfl
theorem wd_498 : (.code ⟨"DrawingVault", "why", "()I"⟩ prog_1_method_15_code 1 (Option.some .int) : Cond) ∈ aw := aw_in (tb_1 (List.mem_of_getElem? (i := 130) rfl)) rfl
theorem wd_499 : (.methodLink "DrawingVaultLaw" 129 ⟨"DrawingVault", "why", "()I"⟩ : Cond) ∈ aw := aw_in (tb_1 (List.mem_of_getElem? (i := 127) rfl)) rfl
theorem wd_500 : (.instanceMethod ⟨"DrawingVault", "why", "()I"⟩ : Cond) ∈ aw := aw_in (tb_1 (List.mem_of_getElem? (i := 128) rfl)) rfl
theorem wd_501 : (.selects "DrawingVault" ⟨"DrawingVault", "why", "()I"⟩ ⟨"DrawingVault", "why", "()I"⟩ : Cond) ∈ aw := aw_in (tb_1 (List.mem_of_getElem? (i := 129) rfl)) rfl
theorem wd_502 : (.code ⟨"DrawingVaultModel", "why", "()I"⟩ prog_9_method_58_code 1 (Option.some .int) : Cond) ∈ aw := aw_in (tb_5 (List.mem_of_getElem? (i := 46) rfl)) rfl
theorem wd_503 : (.methodLink "DrawingVaultLaw" 132 ⟨"DrawingVaultModel", "why", "()I"⟩ : Cond) ∈ aw := aw_in (tb_5 (List.mem_of_getElem? (i := 43) rfl)) rfl
theorem wd_504 : (.instanceMethod ⟨"DrawingVaultModel", "why", "()I"⟩ : Cond) ∈ aw := aw_in (tb_5 (List.mem_of_getElem? (i := 44) rfl)) rfl
theorem wd_505 : (.selects "DrawingVaultModel" ⟨"DrawingVaultModel", "why", "()I"⟩ ⟨"DrawingVaultModel", "why", "()I"⟩ : Cond) ∈ aw := aw_in (tb_5 (List.mem_of_getElem? (i := 45) rfl)) rfl
theorem wd_506 : (.codeWith ⟨"DrawingVaultLaw", "look", "(LDrawingVault;III[J)I"⟩ method_16_code 6 (Option.some .int) [(0, 12, 15, 60)] : Cond) ∈ aw := aw_in (tb_3 (List.mem_of_getElem? (i := 192) rfl)) rfl
theorem wd_507 : (.methodLink "DrawingVaultLaw" 133 ⟨"DrawingVaultLaw", "look", "(LDrawingVault;III[J)I"⟩ : Cond) ∈ aw := aw_in (tb_3 (List.mem_of_getElem? (i := 190) rfl)) rfl
theorem wd_508 : (.static ⟨"DrawingVaultLaw", "look", "(LDrawingVault;III[J)I"⟩ : Cond) ∈ aw := aw_in (tb_3 (List.mem_of_getElem? (i := 191) rfl)) rfl
theorem wd_509 : (.code ⟨"DrawingVaultModel", "look", "(III)I"⟩ prog_9_method_59_code 6 (Option.some .int) : Cond) ∈ aw := aw_in (tb_5 (List.mem_of_getElem? (i := 50) rfl)) rfl
theorem wd_510 : (.methodLink "DrawingVaultLaw" 135 ⟨"DrawingVaultModel", "look", "(III)I"⟩ : Cond) ∈ aw := aw_in (tb_5 (List.mem_of_getElem? (i := 47) rfl)) rfl
theorem wd_511 : (.instanceMethod ⟨"DrawingVaultModel", "look", "(III)I"⟩ : Cond) ∈ aw := aw_in (tb_5 (List.mem_of_getElem? (i := 48) rfl)) rfl
theorem wd_512 : (.selects "DrawingVaultModel" ⟨"DrawingVaultModel", "look", "(III)I"⟩ ⟨"DrawingVaultModel", "look", "(III)I"⟩ : Cond) ∈ aw := aw_in (tb_5 (List.mem_of_getElem? (i := 49) rfl)) rfl
theorem wd_513 : (.codeWith ⟨"DrawingVaultLaw", "reference", "(LDrawingVault;IIII[J)I"⟩ method_17_code 7 (Option.some .int) [(0, 14, 17, 60)] : Cond) ∈ aw := aw_in (tb_3 (List.mem_of_getElem? (i := 222) rfl)) rfl
theorem wd_514 : (.methodLink "DrawingVaultLaw" 136 ⟨"DrawingVaultLaw", "reference", "(LDrawingVault;IIII[J)I"⟩ : Cond) ∈ aw := aw_in (tb_3 (List.mem_of_getElem? (i := 220) rfl)) rfl
theorem wd_515 : (.static ⟨"DrawingVaultLaw", "reference", "(LDrawingVault;IIII[J)I"⟩ : Cond) ∈ aw := aw_in (tb_3 (List.mem_of_getElem? (i := 221) rfl)) rfl
theorem wd_516 : (.code ⟨"DrawingVaultModel", "reference", "(IIII)I"⟩ prog_9_method_60_code 7 (Option.some .int) : Cond) ∈ aw := aw_in (tb_5 (List.mem_of_getElem? (i := 54) rfl)) rfl
theorem wd_517 : (.methodLink "DrawingVaultLaw" 138 ⟨"DrawingVaultModel", "reference", "(IIII)I"⟩ : Cond) ∈ aw := aw_in (tb_5 (List.mem_of_getElem? (i := 51) rfl)) rfl
theorem wd_518 : (.instanceMethod ⟨"DrawingVaultModel", "reference", "(IIII)I"⟩ : Cond) ∈ aw := aw_in (tb_5 (List.mem_of_getElem? (i := 52) rfl)) rfl
theorem wd_519 : (.selects "DrawingVaultModel" ⟨"DrawingVaultModel", "reference", "(IIII)I"⟩ ⟨"DrawingVaultModel", "reference", "(IIII)I"⟩ : Cond) ∈ aw := aw_in (tb_5 (List.mem_of_getElem? (i := 53) rfl)) rfl
theorem wd_520 : (.codeWith ⟨"DrawingVaultLaw", "about", "(LDrawingVault;II[J)I"⟩ method_18_code 5 (Option.some .int) [(0, 10, 13, 60)] : Cond) ∈ aw := aw_in (tb_3 (List.mem_of_getElem? (i := 229) rfl)) rfl
theorem wd_521 : (.methodLink "DrawingVaultLaw" 139 ⟨"DrawingVaultLaw", "about", "(LDrawingVault;II[J)I"⟩ : Cond) ∈ aw := aw_in (tb_3 (List.mem_of_getElem? (i := 227) rfl)) rfl
theorem wd_522 : (.static ⟨"DrawingVaultLaw", "about", "(LDrawingVault;II[J)I"⟩ : Cond) ∈ aw := aw_in (tb_3 (List.mem_of_getElem? (i := 228) rfl)) rfl
theorem wd_523 : (.code ⟨"DrawingVaultModel", "about", "(II)I"⟩ prog_9_method_61_code 7 (Option.some .int) : Cond) ∈ aw := aw_in (tb_5 (List.mem_of_getElem? (i := 58) rfl)) rfl
theorem wd_524 : (.methodLink "DrawingVaultLaw" 141 ⟨"DrawingVaultModel", "about", "(II)I"⟩ : Cond) ∈ aw := aw_in (tb_5 (List.mem_of_getElem? (i := 55) rfl)) rfl
theorem wd_525 : (.instanceMethod ⟨"DrawingVaultModel", "about", "(II)I"⟩ : Cond) ∈ aw := aw_in (tb_5 (List.mem_of_getElem? (i := 56) rfl)) rfl
theorem wd_526 : (.selects "DrawingVaultModel" ⟨"DrawingVaultModel", "about", "(II)I"⟩ ⟨"DrawingVaultModel", "about", "(II)I"⟩ : Cond) ∈ aw := aw_in (tb_5 (List.mem_of_getElem? (i := 57) rfl)) rfl
theorem wd_527 : (.codeWith ⟨"DrawingVaultLaw", "inBaseline", "(LDrawingVault;III[J)I"⟩ method_19_code 6 (Option.some .int) [(0, 12, 15, 60)] : Cond) ∈ aw := aw_in (tb_3 (List.mem_of_getElem? (i := 239) rfl)) rfl
theorem wd_528 : (.methodLink "DrawingVaultLaw" 142 ⟨"DrawingVaultLaw", "inBaseline", "(LDrawingVault;III[J)I"⟩ : Cond) ∈ aw := aw_in (tb_3 (List.mem_of_getElem? (i := 237) rfl)) rfl
theorem wd_529 : (.static ⟨"DrawingVaultLaw", "inBaseline", "(LDrawingVault;III[J)I"⟩ : Cond) ∈ aw := aw_in (tb_3 (List.mem_of_getElem? (i := 238) rfl)) rfl
theorem wd_530 : (.code ⟨"DrawingVaultModel", "inBaseline", "(III)I"⟩ prog_9_method_62_code 9 (Option.some .int) : Cond) ∈ aw := aw_in (tb_5 (List.mem_of_getElem? (i := 62) rfl)) rfl
theorem wd_531 : (.methodLink "DrawingVaultLaw" 144 ⟨"DrawingVaultModel", "inBaseline", "(III)I"⟩ : Cond) ∈ aw := aw_in (tb_5 (List.mem_of_getElem? (i := 59) rfl)) rfl
theorem wd_532 : (.instanceMethod ⟨"DrawingVaultModel", "inBaseline", "(III)I"⟩ : Cond) ∈ aw := aw_in (tb_5 (List.mem_of_getElem? (i := 60) rfl)) rfl
theorem wd_533 : (.selects "DrawingVaultModel" ⟨"DrawingVaultModel", "inBaseline", "(III)I"⟩ ⟨"DrawingVaultModel", "inBaseline", "(III)I"⟩ : Cond) ∈ aw := aw_in (tb_5 (List.mem_of_getElem? (i := 61) rfl)) rfl
theorem wd_534 : (.code ⟨"DrawingVault", "user", "(IZI)I"⟩ prog_1_method_20_code 7 (Option.some .int) : Cond) ∈ aw := aw_in (tb_1 (List.mem_of_getElem? (i := 134) rfl)) rfl
theorem wd_535 : (.methodLink "DrawingVaultLaw" 145 ⟨"DrawingVault", "user", "(IZI)I"⟩ : Cond) ∈ aw := aw_in (tb_1 (List.mem_of_getElem? (i := 131) rfl)) rfl
theorem wd_536 : (.instanceMethod ⟨"DrawingVault", "user", "(IZI)I"⟩ : Cond) ∈ aw := aw_in (tb_1 (List.mem_of_getElem? (i := 132) rfl)) rfl
theorem wd_537 : (.selects "DrawingVault" ⟨"DrawingVault", "user", "(IZI)I"⟩ ⟨"DrawingVault", "user", "(IZI)I"⟩ : Cond) ∈ aw := aw_in (tb_1 (List.mem_of_getElem? (i := 133) rfl)) rfl
theorem wd_538 : (.code ⟨"DrawingVaultModel", "user", "(IZI)I"⟩ prog_9_method_63_code 9 (Option.some .int) : Cond) ∈ aw := aw_in (tb_5 (List.mem_of_getElem? (i := 66) rfl)) rfl
theorem wd_539 : (.methodLink "DrawingVaultLaw" 149 ⟨"DrawingVaultModel", "user", "(IZI)I"⟩ : Cond) ∈ aw := aw_in (tb_5 (List.mem_of_getElem? (i := 63) rfl)) rfl
theorem wd_540 : (.instanceMethod ⟨"DrawingVaultModel", "user", "(IZI)I"⟩ : Cond) ∈ aw := aw_in (tb_5 (List.mem_of_getElem? (i := 64) rfl)) rfl
theorem wd_541 : (.selects "DrawingVaultModel" ⟨"DrawingVaultModel", "user", "(IZI)I"⟩ ⟨"DrawingVaultModel", "user", "(IZI)I"⟩ : Cond) ∈ aw := aw_in (tb_5 (List.mem_of_getElem? (i := 65) rfl)) rfl
theorem wd_542 : (.codeWith ⟨"DrawingVaultLaw", "difference", "(LDrawingVault;IIII[J)I"⟩ method_20_code 7 (Option.some .int) [(0, 14, 17, 60)] : Cond) ∈ aw := aw_in (tb_4 (List.mem_of_getElem? (i := 10) rfl)) rfl
theorem wd_543 : (.methodLink "DrawingVaultLaw" 150 ⟨"DrawingVaultLaw", "difference", "(LDrawingVault;IIII[J)I"⟩ : Cond) ∈ aw := aw_in (tb_4 (List.mem_of_getElem? (i := 8) rfl)) rfl
theorem wd_544 : (.static ⟨"DrawingVaultLaw", "difference", "(LDrawingVault;IIII[J)I"⟩ : Cond) ∈ aw := aw_in (tb_4 (List.mem_of_getElem? (i := 9) rfl)) rfl
theorem wd_545 : (.code ⟨"DrawingVaultModel", "difference", "(IIII)I"⟩ prog_9_method_64_code 12 (Option.some .int) : Cond) ∈ aw := aw_in (tb_5 (List.mem_of_getElem? (i := 70) rfl)) rfl
theorem wd_546 : (.methodLink "DrawingVaultLaw" 152 ⟨"DrawingVaultModel", "difference", "(IIII)I"⟩ : Cond) ∈ aw := aw_in (tb_5 (List.mem_of_getElem? (i := 67) rfl)) rfl
theorem wd_547 : (.instanceMethod ⟨"DrawingVaultModel", "difference", "(IIII)I"⟩ : Cond) ∈ aw := aw_in (tb_5 (List.mem_of_getElem? (i := 68) rfl)) rfl
theorem wd_548 : (.selects "DrawingVaultModel" ⟨"DrawingVaultModel", "difference", "(IIII)I"⟩ ⟨"DrawingVaultModel", "difference", "(IIII)I"⟩ : Cond) ∈ aw := aw_in (tb_5 (List.mem_of_getElem? (i := 69) rfl)) rfl
theorem wd_549 : (.code ⟨"DrawingVault", "failAfter", "(I)Z"⟩ prog_1_method_22_code 2 (Option.some .boolean) : Cond) ∈ aw := aw_in (tb_1 (List.mem_of_getElem? (i := 170) rfl)) rfl
theorem wd_550 : (.methodLink "DrawingVaultLaw" 153 ⟨"DrawingVault", "failAfter", "(I)Z"⟩ : Cond) ∈ aw := aw_in (tb_1 (List.mem_of_getElem? (i := 167) rfl)) rfl
theorem wd_551 : (.instanceMethod ⟨"DrawingVault", "failAfter", "(I)Z"⟩ : Cond) ∈ aw := aw_in (tb_1 (List.mem_of_getElem? (i := 168) rfl)) rfl
theorem wd_552 : (.selects "DrawingVault" ⟨"DrawingVault", "failAfter", "(I)Z"⟩ ⟨"DrawingVault", "failAfter", "(I)Z"⟩ : Cond) ∈ aw := aw_in (tb_1 (List.mem_of_getElem? (i := 169) rfl)) rfl
theorem wd_553 : (.code ⟨"DrawingVaultModel", "failAfter", "(I)Z"⟩ prog_9_method_65_code 2 (Option.some .boolean) : Cond) ∈ aw := aw_in (tb_5 (List.mem_of_getElem? (i := 74) rfl)) rfl
theorem wd_554 : (.methodLink "DrawingVaultLaw" 157 ⟨"DrawingVaultModel", "failAfter", "(I)Z"⟩ : Cond) ∈ aw := aw_in (tb_5 (List.mem_of_getElem? (i := 71) rfl)) rfl
theorem wd_555 : (.instanceMethod ⟨"DrawingVaultModel", "failAfter", "(I)Z"⟩ : Cond) ∈ aw := aw_in (tb_5 (List.mem_of_getElem? (i := 72) rfl)) rfl
theorem wd_556 : (.selects "DrawingVaultModel" ⟨"DrawingVaultModel", "failAfter", "(I)Z"⟩ ⟨"DrawingVaultModel", "failAfter", "(I)Z"⟩ : Cond) ∈ aw := aw_in (tb_5 (List.mem_of_getElem? (i := 73) rfl)) rfl
theorem wd_557 : (.code ⟨"DrawingVault", "start", "()I"⟩ prog_1_method_23_code 2 (Option.some .int) : Cond) ∈ aw := aw_in (tb_1 (List.mem_of_getElem? (i := 178) rfl)) rfl
theorem wd_558 : (.methodLink "DrawingVaultLaw" 158 ⟨"DrawingVault", "start", "()I"⟩ : Cond) ∈ aw := aw_in (tb_1 (List.mem_of_getElem? (i := 175) rfl)) rfl
theorem wd_559 : (.instanceMethod ⟨"DrawingVault", "start", "()I"⟩ : Cond) ∈ aw := aw_in (tb_1 (List.mem_of_getElem? (i := 176) rfl)) rfl
theorem wd_560 : (.selects "DrawingVault" ⟨"DrawingVault", "start", "()I"⟩ ⟨"DrawingVault", "start", "()I"⟩ : Cond) ∈ aw := aw_in (tb_1 (List.mem_of_getElem? (i := 177) rfl)) rfl
theorem wd_561 : (.code ⟨"DrawingVaultModel", "start", "()I"⟩ prog_9_method_66_code 3 (Option.some .int) : Cond) ∈ aw := aw_in (tb_5 (List.mem_of_getElem? (i := 78) rfl)) rfl
theorem wd_562 : (.methodLink "DrawingVaultLaw" 161 ⟨"DrawingVaultModel", "start", "()I"⟩ : Cond) ∈ aw := aw_in (tb_5 (List.mem_of_getElem? (i := 75) rfl)) rfl
theorem wd_563 : (.instanceMethod ⟨"DrawingVaultModel", "start", "()I"⟩ : Cond) ∈ aw := aw_in (tb_5 (List.mem_of_getElem? (i := 76) rfl)) rfl
theorem wd_564 : (.selects "DrawingVaultModel" ⟨"DrawingVaultModel", "start", "()I"⟩ ⟨"DrawingVaultModel", "start", "()I"⟩ : Cond) ∈ aw := aw_in (tb_5 (List.mem_of_getElem? (i := 77) rfl)) rfl
theorem wd_565 : (.code ⟨"DrawingVault", "count", "(I)I"⟩ prog_1_method_24_code 2 (Option.some .int) : Cond) ∈ aw := aw_in (tb_1 (List.mem_of_getElem? (i := 197) rfl)) rfl
theorem wd_566 : (.methodLink "DrawingVaultLaw" 162 ⟨"DrawingVault", "count", "(I)I"⟩ : Cond) ∈ aw := aw_in (tb_1 (List.mem_of_getElem? (i := 194) rfl)) rfl
theorem wd_567 : (.instanceMethod ⟨"DrawingVault", "count", "(I)I"⟩ : Cond) ∈ aw := aw_in (tb_1 (List.mem_of_getElem? (i := 195) rfl)) rfl
theorem wd_568 : (.selects "DrawingVault" ⟨"DrawingVault", "count", "(I)I"⟩ ⟨"DrawingVault", "count", "(I)I"⟩ : Cond) ∈ aw := aw_in (tb_1 (List.mem_of_getElem? (i := 196) rfl)) rfl
theorem wd_569 : (.code ⟨"DrawingVaultModel", "count", "(I)I"⟩ prog_9_method_67_code 4 (Option.some .int) : Cond) ∈ aw := aw_in (tb_5 (List.mem_of_getElem? (i := 82) rfl)) rfl
theorem wd_570 : (.methodLink "DrawingVaultLaw" 165 ⟨"DrawingVaultModel", "count", "(I)I"⟩ : Cond) ∈ aw := aw_in (tb_5 (List.mem_of_getElem? (i := 79) rfl)) rfl
theorem wd_571 : (.instanceMethod ⟨"DrawingVaultModel", "count", "(I)I"⟩ : Cond) ∈ aw := aw_in (tb_5 (List.mem_of_getElem? (i := 80) rfl)) rfl
theorem wd_572 : (.selects "DrawingVaultModel" ⟨"DrawingVaultModel", "count", "(I)I"⟩ ⟨"DrawingVaultModel", "count", "(I)I"⟩ : Cond) ∈ aw := aw_in (tb_5 (List.mem_of_getElem? (i := 81) rfl)) rfl
theorem nb_1 : (.methodLinkNest "DrawingVault" 32 ⟨"DrawingVault$ChunkSet", "<init>", "()V"⟩ "DrawingVault" : Cond) ∈ lw_tbl := tb_1 (List.mem_of_getElem? (i := 53) rfl)
theorem nb_2 : (.methodLinkNest "DrawingVault" 39 ⟨"DrawingVault$Pages", "<init>", "()V"⟩ "DrawingVault" : Cond) ∈ lw_tbl := tb_1 (List.mem_of_getElem? (i := 72) rfl)
theorem nb_3 : (.arrayOver (.object "DrawingVault$Drawing") : Cond) ∈ lw_tbl := tb_1 (List.mem_of_getElem? (i := 26) rfl)
theorem nb_4 : (.arrayOver (.object "DrawingVault$Baseline") : Cond) ∈ lw_tbl := tb_1 (List.mem_of_getElem? (i := 28) rfl)
theorem nb_5 : (.castable "java/lang/IndexOutOfBoundsException" "java/lang/IndexOutOfBoundsException" : Cond) ∈ lw_tbl := tb_3 (List.mem_of_getElem? (i := 200) rfl)
theorem nb_6 : (.declares ⟨"java/lang/RuntimeException", "<init>", "()V"⟩ : Cond) ∈ lw_tbl := tb_2 (List.mem_of_getElem? (i := 11) rfl)
theorem nb_7 : (.declares ⟨"java/lang/Exception", "<init>", "()V"⟩ : Cond) ∈ lw_tbl := tb_2 (List.mem_of_getElem? (i := 13) rfl)
theorem nb_8 : (.declares ⟨"java/lang/Throwable", "<init>", "()V"⟩ : Cond) ∈ lw_tbl := tb_2 (List.mem_of_getElem? (i := 15) rfl)
theorem nb_9 : (.laysStatic "java/lang/Throwable" "UNASSIGNED_STACK" "[Ljava/lang/StackTraceElement;" : Cond) ∈ lw_tbl := tb_2 (List.mem_of_getElem? (i := 35) rfl)
theorem nb_10 : (.laysStatic "java/lang/Throwable" "SUPPRESSED_SENTINEL" "Ljava/util/List;" : Cond) ∈ lw_tbl := tb_2 (List.mem_of_getElem? (i := 37) rfl)
