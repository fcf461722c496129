theorem dL_law_216 : decode cL_law 216 = .ok (.aload_n 1, 1) := by decide +kernel
theorem dL_law_217 : decode cL_law 217 = .ok (.aload_n 0, 1) := by decide +kernel
theorem dL_law_218 : decode cL_law 218 = .ok (.iload 4, 2) := by decide +kernel
theorem dL_law_220 : decode cL_law 220 = .ok (.iconst 1, 1) := by decide +kernel
theorem dL_law_221 : decode cL_law 221 = .ok (.iadd, 1) := by decide +kernel
theorem dL_law_222 : decode cL_law 222 = .ok (.iaload, 1) := by decide +kernel
theorem dL_law_223 : decode cL_law 223 = .ok (.aload_n 0, 1) := by decide +kernel
theorem dL_law_224 : decode cL_law 224 = .ok (.iload 4, 2) := by decide +kernel
theorem dL_law_226 : decode cL_law 226 = .ok (.iconst 2, 1) := by decide +kernel
theorem dL_law_227 : decode cL_law 227 = .ok (.iadd, 1) := by decide +kernel
theorem dL_law_228 : decode cL_law 228 = .ok (.iaload, 1) := by decide +kernel
theorem dL_law_229 : decode cL_law 229 = .ok (.aload_n 3, 1) := by decide +kernel
theorem dL_law_230 : decode cL_law 230 = .ok (.invokestatic 89, 3) := by decide +kernel
theorem dL_law_233 : decode cL_law 233 = .ok (.istore 5, 2) := by decide +kernel
theorem dL_law_235 : decode cL_law 235 = .ok (.aload_n 2, 1) := by decide +kernel
theorem dL_law_236 : decode cL_law 236 = .ok (.aload_n 0, 1) := by decide +kernel
theorem dL_law_237 : decode cL_law 237 = .ok (.iload 4, 2) := by decide +kernel
theorem dL_law_239 : decode cL_law 239 = .ok (.iconst 1, 1) := by decide +kernel
theorem dL_law_240 : decode cL_law 240 = .ok (.iadd, 1) := by decide +kernel
theorem dL_law_241 : decode cL_law 241 = .ok (.iaload, 1) := by decide +kernel
theorem dL_law_242 : decode cL_law 242 = .ok (.aload_n 0, 1) := by decide +kernel
theorem dL_law_243 : decode cL_law 243 = .ok (.iload 4, 2) := by decide +kernel
theorem dL_law_245 : decode cL_law 245 = .ok (.iconst 2, 1) := by decide +kernel
theorem dL_law_246 : decode cL_law 246 = .ok (.iadd, 1) := by decide +kernel
theorem dL_law_247 : decode cL_law 247 = .ok (.iaload, 1) := by decide +kernel
theorem dL_law_248 : decode cL_law 248 = .ok (.invokevirtual 91, 3) := by decide +kernel
theorem dL_law_251 : decode cL_law 251 = .ok (.istore 6, 2) := by decide +kernel
theorem dL_law_253 : decode cL_law 253 = .ok (.goto 964, 3) := by decide +kernel
theorem dL_law_256 : decode cL_law 256 = .ok (.aload_n 1, 1) := by decide +kernel
theorem dL_law_257 : decode cL_law 257 = .ok (.aload_n 0, 1) := by decide +kernel
theorem dL_law_258 : decode cL_law 258 = .ok (.iload 4, 2) := by decide +kernel
theorem dL_law_260 : decode cL_law 260 = .ok (.iconst 1, 1) := by decide +kernel
theorem dL_law_261 : decode cL_law 261 = .ok (.iadd, 1) := by decide +kernel
theorem dL_law_262 : decode cL_law 262 = .ok (.iaload, 1) := by decide +kernel
theorem dL_law_263 : decode cL_law 263 = .ok (.aload_n 0, 1) := by decide +kernel
theorem dL_law_264 : decode cL_law 264 = .ok (.iload 4, 2) := by decide +kernel
theorem dL_law_266 : decode cL_law 266 = .ok (.iconst 2, 1) := by decide +kernel
theorem dL_law_267 : decode cL_law 267 = .ok (.iadd, 1) := by decide +kernel
theorem dL_law_268 : decode cL_law 268 = .ok (.iaload, 1) := by decide +kernel
theorem dL_law_269 : decode cL_law 269 = .ok (.aload_n 3, 1) := by decide +kernel
theorem dL_law_270 : decode cL_law 270 = .ok (.invokestatic 92, 3) := by decide +kernel
theorem dL_law_273 : decode cL_law 273 = .ok (.istore 5, 2) := by decide +kernel
theorem dL_law_275 : decode cL_law 275 = .ok (.aload_n 2, 1) := by decide +kernel
theorem dL_law_276 : decode cL_law 276 = .ok (.aload_n 0, 1) := by decide +kernel
theorem dL_law_277 : decode cL_law 277 = .ok (.iload 4, 2) := by decide +kernel
theorem dL_law_279 : decode cL_law 279 = .ok (.iconst 1, 1) := by decide +kernel
theorem dL_law_280 : decode cL_law 280 = .ok (.iadd, 1) := by decide +kernel
theorem dL_law_281 : decode cL_law 281 = .ok (.iaload, 1) := by decide +kernel
theorem dL_law_282 : decode cL_law 282 = .ok (.aload_n 0, 1) := by decide +kernel
theorem dL_law_283 : decode cL_law 283 = .ok (.iload 4, 2) := by decide +kernel
theorem dL_law_285 : decode cL_law 285 = .ok (.iconst 2, 1) := by decide +kernel
theorem dL_law_286 : decode cL_law 286 = .ok (.iadd, 1) := by decide +kernel
theorem dL_law_287 : decode cL_law 287 = .ok (.iaload, 1) := by decide +kernel
theorem dL_law_288 : decode cL_law 288 = .ok (.invokevirtual 94, 3) := by decide +kernel
theorem dL_law_291 : decode cL_law 291 = .ok (.istore 6, 2) := by decide +kernel
theorem dL_law_293 : decode cL_law 293 = .ok (.goto 924, 3) := by decide +kernel
theorem dL_law_296 : decode cL_law 296 = .ok (.aload_n 1, 1) := by decide +kernel
theorem dL_law_297 : decode cL_law 297 = .ok (.aload_n 0, 1) := by decide +kernel
theorem dL_law_298 : decode cL_law 298 = .ok (.iload 4, 2) := by decide +kernel
theorem dL_law_300 : decode cL_law 300 = .ok (.iconst 1, 1) := by decide +kernel
theorem dL_law_301 : decode cL_law 301 = .ok (.iadd, 1) := by decide +kernel
theorem dL_law_302 : decode cL_law 302 = .ok (.iaload, 1) := by decide +kernel
theorem dL_law_303 : decode cL_law 303 = .ok (.aload_n 0, 1) := by decide +kernel
theorem dL_law_304 : decode cL_law 304 = .ok (.iload 4, 2) := by decide +kernel
theorem dL_law_306 : decode cL_law 306 = .ok (.iconst 2, 1) := by decide +kernel
theorem dL_law_307 : decode cL_law 307 = .ok (.iadd, 1) := by decide +kernel
theorem dL_law_308 : decode cL_law 308 = .ok (.iaload, 1) := by decide +kernel
theorem dL_law_309 : decode cL_law 309 = .ok (.aload_n 0, 1) := by decide +kernel
theorem dL_law_310 : decode cL_law 310 = .ok (.iload 4, 2) := by decide +kernel
theorem dL_law_312 : decode cL_law 312 = .ok (.iconst 3, 1) := by decide +kernel
theorem dL_law_313 : decode cL_law 313 = .ok (.iadd, 1) := by decide +kernel
theorem dL_law_314 : decode cL_law 314 = .ok (.iaload, 1) := by decide +kernel
theorem dL_law_315 : decode cL_law 315 = .ok (.aload_n 0, 1) := by decide +kernel
theorem dL_law_316 : decode cL_law 316 = .ok (.iload 4, 2) := by decide +kernel
theorem dL_law_318 : decode cL_law 318 = .ok (.iconst 4, 1) := by decide +kernel
theorem dL_law_319 : decode cL_law 319 = .ok (.iadd, 1) := by decide +kernel
theorem dL_law_320 : decode cL_law 320 = .ok (.iaload, 1) := by decide +kernel
theorem dL_law_321 : decode cL_law 321 = .ok (.aload_n 3, 1) := by decide +kernel
theorem dL_law_322 : decode cL_law 322 = .ok (.invokestatic 95, 3) := by decide +kernel
theorem dL_law_325 : decode cL_law 325 = .ok (.istore 5, 2) := by decide +kernel
theorem dL_law_327 : decode cL_law 327 = .ok (.aload_n 2, 1) := by decide +kernel
theorem dL_law_328 : decode cL_law 328 = .ok (.aload_n 0, 1) := by decide +kernel
theorem dL_law_329 : decode cL_law 329 = .ok (.iload 4, 2) := by decide +kernel
theorem dL_law_331 : decode cL_law 331 = .ok (.iconst 1, 1) := by decide +kernel
theorem dL_law_332 : decode cL_law 332 = .ok (.iadd, 1) := by decide +kernel
theorem dL_law_333 : decode cL_law 333 = .ok (.iaload, 1) := by decide +kernel
theorem dL_law_334 : decode cL_law 334 = .ok (.aload_n 0, 1) := by decide +kernel
theorem dL_law_335 : decode cL_law 335 = .ok (.iload 4, 2) := by decide +kernel
theorem dL_law_337 : decode cL_law 337 = .ok (.iconst 2, 1) := by decide +kernel
theorem dL_law_338 : decode cL_law 338 = .ok (.iadd, 1) := by decide +kernel
theorem dL_law_339 : decode cL_law 339 = .ok (.iaload, 1) := by decide +kernel
theorem dL_law_340 : decode cL_law 340 = .ok (.aload_n 0, 1) := by decide +kernel
theorem dL_law_341 : decode cL_law 341 = .ok (.iload 4, 2) := by decide +kernel
theorem dL_law_343 : decode cL_law 343 = .ok (.iconst 3, 1) := by decide +kernel
theorem dL_law_344 : decode cL_law 344 = .ok (.iadd, 1) := by decide +kernel
theorem dL_law_345 : decode cL_law 345 = .ok (.iaload, 1) := by decide +kernel
theorem dL_law_346 : decode cL_law 346 = .ok (.aload_n 0, 1) := by decide +kernel
theorem dL_law_347 : decode cL_law 347 = .ok (.iload 4, 2) := by decide +kernel
theorem dL_law_349 : decode cL_law 349 = .ok (.iconst 4, 1) := by decide +kernel
theorem dL_law_350 : decode cL_law 350 = .ok (.iadd, 1) := by decide +kernel
theorem dL_law_351 : decode cL_law 351 = .ok (.iaload, 1) := by decide +kernel
theorem dL_law_352 : decode cL_law 352 = .ok (.invokevirtual 98, 3) := by decide +kernel
theorem dL_law_355 : decode cL_law 355 = .ok (.istore 6, 2) := by decide +kernel
theorem dL_law_357 : decode cL_law 357 = .ok (.goto 860, 3) := by decide +kernel
theorem dL_law_360 : decode cL_law 360 = .ok (.aload_n 1, 1) := by decide +kernel
theorem dL_law_361 : decode cL_law 361 = .ok (.aload_n 0, 1) := by decide +kernel
theorem dL_law_362 : decode cL_law 362 = .ok (.iload 4, 2) := by decide +kernel
theorem dL_law_364 : decode cL_law 364 = .ok (.iconst 1, 1) := by decide +kernel
theorem dL_law_365 : decode cL_law 365 = .ok (.iadd, 1) := by decide +kernel
theorem dL_law_366 : decode cL_law 366 = .ok (.iaload, 1) := by decide +kernel
theorem dL_law_367 : decode cL_law 367 = .ok (.aload_n 0, 1) := by decide +kernel
theorem dL_law_368 : decode cL_law 368 = .ok (.iload 4, 2) := by decide +kernel
theorem dL_law_370 : decode cL_law 370 = .ok (.iconst 2, 1) := by decide +kernel
theorem dL_law_371 : decode cL_law 371 = .ok (.iadd, 1) := by decide +kernel
theorem dL_law_372 : decode cL_law 372 = .ok (.iaload, 1) := by decide +kernel
theorem dL_law_373 : decode cL_law 373 = .ok (.aload_n 0, 1) := by decide +kernel
theorem dL_law_374 : decode cL_law 374 = .ok (.iload 4, 2) := by decide +kernel
theorem dL_law_376 : decode cL_law 376 = .ok (.iconst 3, 1) := by decide +kernel
theorem dL_law_377 : decode cL_law 377 = .ok (.iadd, 1) := by decide +kernel
theorem dL_law_378 : decode cL_law 378 = .ok (.iaload, 1) := by decide +kernel
theorem dL_law_379 : decode cL_law 379 = .ok (.aload_n 3, 1) := by decide +kernel
theorem dL_law_380 : decode cL_law 380 = .ok (.invokestatic 99, 3) := by decide +kernel
theorem dL_law_383 : decode cL_law 383 = .ok (.istore 5, 2) := by decide +kernel
theorem dL_law_385 : decode cL_law 385 = .ok (.aload_n 2, 1) := by decide +kernel
theorem dL_law_386 : decode cL_law 386 = .ok (.aload_n 0, 1) := by decide +kernel
theorem dL_law_387 : decode cL_law 387 = .ok (.iload 4, 2) := by decide +kernel
theorem dL_law_389 : decode cL_law 389 = .ok (.iconst 1, 1) := by decide +kernel
theorem dL_law_390 : decode cL_law 390 = .ok (.iadd, 1) := by decide +kernel
theorem dL_law_391 : decode cL_law 391 = .ok (.iaload, 1) := by decide +kernel
theorem dL_law_392 : decode cL_law 392 = .ok (.aload_n 0, 1) := by decide +kernel
theorem dL_law_393 : decode cL_law 393 = .ok (.iload 4, 2) := by decide +kernel
theorem dL_law_395 : decode cL_law 395 = .ok (.iconst 2, 1) := by decide +kernel
theorem dL_law_396 : decode cL_law 396 = .ok (.iadd, 1) := by decide +kernel
theorem dL_law_397 : decode cL_law 397 = .ok (.iaload, 1) := by decide +kernel
theorem dL_law_398 : decode cL_law 398 = .ok (.aload_n 0, 1) := by decide +kernel
theorem dL_law_399 : decode cL_law 399 = .ok (.iload 4, 2) := by decide +kernel
theorem dL_law_401 : decode cL_law 401 = .ok (.iconst 3, 1) := by decide +kernel
theorem dL_law_402 : decode cL_law 402 = .ok (.iadd, 1) := by decide +kernel
theorem dL_law_403 : decode cL_law 403 = .ok (.iaload, 1) := by decide +kernel
theorem dL_law_404 : decode cL_law 404 = .ok (.invokevirtual 102, 3) := by decide +kernel
theorem dL_law_407 : decode cL_law 407 = .ok (.istore 6, 2) := by decide +kernel
theorem dL_law_409 : decode cL_law 409 = .ok (.goto 808, 3) := by decide +kernel
theorem dL_law_412 : decode cL_law 412 = .ok (.aload_n 1, 1) := by decide +kernel
theorem dL_law_413 : decode cL_law 413 = .ok (.aload_n 0, 1) := by decide +kernel
theorem dL_law_414 : decode cL_law 414 = .ok (.iload 4, 2) := by decide +kernel
theorem dL_law_416 : decode cL_law 416 = .ok (.iconst 1, 1) := by decide +kernel
theorem dL_law_417 : decode cL_law 417 = .ok (.iadd, 1) := by decide +kernel
theorem dL_law_418 : decode cL_law 418 = .ok (.iaload, 1) := by decide +kernel
theorem dL_law_419 : decode cL_law 419 = .ok (.aload_n 0, 1) := by decide +kernel
theorem dL_law_420 : decode cL_law 420 = .ok (.iload 4, 2) := by decide +kernel
theorem dL_law_422 : decode cL_law 422 = .ok (.iconst 2, 1) := by decide +kernel
theorem dL_law_423 : decode cL_law 423 = .ok (.iadd, 1) := by decide +kernel
theorem dL_law_424 : decode cL_law 424 = .ok (.iaload, 1) := by decide +kernel
theorem dL_law_425 : decode cL_law 425 = .ok (.aload_n 0, 1) := by decide +kernel
theorem dL_law_426 : decode cL_law 426 = .ok (.iload 4, 2) := by decide +kernel
theorem dL_law_428 : decode cL_law 428 = .ok (.iconst 3, 1) := by decide +kernel
theorem dL_law_429 : decode cL_law 429 = .ok (.iadd, 1) := by decide +kernel
theorem dL_law_430 : decode cL_law 430 = .ok (.iaload, 1) := by decide +kernel
theorem dL_law_431 : decode cL_law 431 = .ok (.aload_n 0, 1) := by decide +kernel
theorem dL_law_432 : decode cL_law 432 = .ok (.iload 4, 2) := by decide +kernel
theorem dL_law_434 : decode cL_law 434 = .ok (.iconst 4, 1) := by decide +kernel
theorem dL_law_435 : decode cL_law 435 = .ok (.iadd, 1) := by decide +kernel
theorem dL_law_436 : decode cL_law 436 = .ok (.iaload, 1) := by decide +kernel
theorem dL_law_437 : decode cL_law 437 = .ok (.aload_n 0, 1) := by decide +kernel
theorem dL_law_438 : decode cL_law 438 = .ok (.iload 4, 2) := by decide +kernel
theorem dL_law_440 : decode cL_law 440 = .ok (.iconst 5, 1) := by decide +kernel
theorem dL_law_441 : decode cL_law 441 = .ok (.iadd, 1) := by decide +kernel
theorem dL_law_442 : decode cL_law 442 = .ok (.iaload, 1) := by decide +kernel
theorem dL_law_443 : decode cL_law 443 = .ok (.aload_n 3, 1) := by decide +kernel
theorem dL_law_444 : decode cL_law 444 = .ok (.invokestatic 103, 3) := by decide +kernel
theorem dL_law_447 : decode cL_law 447 = .ok (.istore 5, 2) := by decide +kernel
theorem dL_law_449 : decode cL_law 449 = .ok (.aload_n 2, 1) := by decide +kernel
theorem dL_law_450 : decode cL_law 450 = .ok (.aload_n 0, 1) := by decide +kernel
theorem dL_law_451 : decode cL_law 451 = .ok (.iload 4, 2) := by decide +kernel
theorem dL_law_453 : decode cL_law 453 = .ok (.iconst 1, 1) := by decide +kernel
theorem dL_law_454 : decode cL_law 454 = .ok (.iadd, 1) := by decide +kernel
theorem dL_law_455 : decode cL_law 455 = .ok (.iaload, 1) := by decide +kernel
theorem dL_law_456 : decode cL_law 456 = .ok (.aload_n 0, 1) := by decide +kernel
theorem dL_law_457 : decode cL_law 457 = .ok (.iload 4, 2) := by decide +kernel
theorem dL_law_459 : decode cL_law 459 = .ok (.iconst 2, 1) := by decide +kernel
theorem dL_law_460 : decode cL_law 460 = .ok (.iadd, 1) := by decide +kernel
theorem dL_law_461 : decode cL_law 461 = .ok (.iaload, 1) := by decide +kernel
theorem dL_law_462 : decode cL_law 462 = .ok (.aload_n 0, 1) := by decide +kernel
theorem dL_law_463 : decode cL_law 463 = .ok (.iload 4, 2) := by decide +kernel
theorem dL_law_465 : decode cL_law 465 = .ok (.iconst 3, 1) := by decide +kernel
theorem dL_law_466 : decode cL_law 466 = .ok (.iadd, 1) := by decide +kernel
theorem dL_law_467 : decode cL_law 467 = .ok (.iaload, 1) := by decide +kernel
theorem dL_law_468 : decode cL_law 468 = .ok (.aload_n 0, 1) := by decide +kernel
theorem dL_law_469 : decode cL_law 469 = .ok (.iload 4, 2) := by decide +kernel
theorem dL_law_471 : decode cL_law 471 = .ok (.iconst 4, 1) := by decide +kernel
theorem dL_law_472 : decode cL_law 472 = .ok (.iadd, 1) := by decide +kernel
theorem dL_law_473 : decode cL_law 473 = .ok (.iaload, 1) := by decide +kernel
theorem dL_law_474 : decode cL_law 474 = .ok (.aload_n 0, 1) := by decide +kernel
theorem dL_law_475 : decode cL_law 475 = .ok (.iload 4, 2) := by decide +kernel
theorem dL_law_477 : decode cL_law 477 = .ok (.iconst 5, 1) := by decide +kernel
theorem dL_law_478 : decode cL_law 478 = .ok (.iadd, 1) := by decide +kernel
theorem dL_law_479 : decode cL_law 479 = .ok (.iaload, 1) := by decide +kernel
theorem dL_law_480 : decode cL_law 480 = .ok (.invokevirtual 106, 3) := by decide +kernel
theorem dL_law_483 : decode cL_law 483 = .ok (.istore 6, 2) := by decide +kernel
theorem dL_law_485 : decode cL_law 485 = .ok (.goto 732, 3) := by decide +kernel
theorem dL_law_488 : decode cL_law 488 = .ok (.aload_n 1, 1) := by decide +kernel
theorem dL_law_489 : decode cL_law 489 = .ok (.aload_n 0, 1) := by decide +kernel
theorem dL_law_490 : decode cL_law 490 = .ok (.iload 4, 2) := by decide +kernel
theorem dL_law_492 : decode cL_law 492 = .ok (.iconst 1, 1) := by decide +kernel
theorem dL_law_493 : decode cL_law 493 = .ok (.iadd, 1) := by decide +kernel
theorem dL_law_494 : decode cL_law 494 = .ok (.iaload, 1) := by decide +kernel
theorem dL_law_495 : decode cL_law 495 = .ok (.aload_n 0, 1) := by decide +kernel
theorem dL_law_496 : decode cL_law 496 = .ok (.iload 4, 2) := by decide +kernel
theorem dL_law_498 : decode cL_law 498 = .ok (.iconst 2, 1) := by decide +kernel
theorem dL_law_499 : decode cL_law 499 = .ok (.iadd, 1) := by decide +kernel
theorem dL_law_500 : decode cL_law 500 = .ok (.iaload, 1) := by decide +kernel
theorem dL_law_501 : decode cL_law 501 = .ok (.aload_n 0, 1) := by decide +kernel
theorem dL_law_502 : decode cL_law 502 = .ok (.iload 4, 2) := by decide +kernel
theorem dL_law_504 : decode cL_law 504 = .ok (.iconst 3, 1) := by decide +kernel
theorem dL_law_505 : decode cL_law 505 = .ok (.iadd, 1) := by decide +kernel
theorem dL_law_506 : decode cL_law 506 = .ok (.iaload, 1) := by decide +kernel
theorem dL_law_507 : decode cL_law 507 = .ok (.aload_n 3, 1) := by decide +kernel
theorem dL_law_508 : decode cL_law 508 = .ok (.invokestatic 107, 3) := by decide +kernel
theorem dL_law_511 : decode cL_law 511 = .ok (.istore 5, 2) := by decide +kernel
theorem dL_law_513 : decode cL_law 513 = .ok (.aload_n 2, 1) := by decide +kernel
theorem dL_law_514 : decode cL_law 514 = .ok (.aload_n 0, 1) := by decide +kernel
theorem dL_law_515 : decode cL_law 515 = .ok (.iload 4, 2) := by decide +kernel
theorem dL_law_517 : decode cL_law 517 = .ok (.iconst 1, 1) := by decide +kernel
theorem dL_law_518 : decode cL_law 518 = .ok (.iadd, 1) := by decide +kernel
theorem dL_law_519 : decode cL_law 519 = .ok (.iaload, 1) := by decide +kernel
theorem dL_law_520 : decode cL_law 520 = .ok (.aload_n 0, 1) := by decide +kernel
theorem dL_law_521 : decode cL_law 521 = .ok (.iload 4, 2) := by decide +kernel
theorem dL_law_523 : decode cL_law 523 = .ok (.iconst 2, 1) := by decide +kernel
theorem dL_law_524 : decode cL_law 524 = .ok (.iadd, 1) := by decide +kernel
theorem dL_law_525 : decode cL_law 525 = .ok (.iaload, 1) := by decide +kernel
theorem dL_law_526 : decode cL_law 526 = .ok (.aload_n 0, 1) := by decide +kernel
theorem dL_law_527 : decode cL_law 527 = .ok (.iload 4, 2) := by decide +kernel
theorem dL_law_529 : decode cL_law 529 = .ok (.iconst 3, 1) := by decide +kernel
theorem dL_law_530 : decode cL_law 530 = .ok (.iadd, 1) := by decide +kernel
theorem dL_law_531 : decode cL_law 531 = .ok (.iaload, 1) := by decide +kernel
theorem dL_law_532 : decode cL_law 532 = .ok (.invokevirtual 109, 3) := by decide +kernel
theorem dL_law_535 : decode cL_law 535 = .ok (.istore 6, 2) := by decide +kernel
theorem dL_law_537 : decode cL_law 537 = .ok (.goto 680, 3) := by decide +kernel
theorem wd_803 : (.codeWith ⟨"DrawingVaultLaw", "out", "(LDrawingVault;II[J)I"⟩ method_5_code 5 (Option.some .int) [(0, 17, 20, 13)] : Cond) ∈ aw := aw_in (tb_2 (List.mem_of_getElem? (i := 208) rfl)) rfl
theorem wd_804 : (.methodLink "DrawingVaultLaw" 89 ⟨"DrawingVaultLaw", "out", "(LDrawingVault;II[J)I"⟩ : Cond) ∈ aw := aw_in (tb_2 (List.mem_of_getElem? (i := 206) rfl)) rfl
theorem wd_805 : (.static ⟨"DrawingVaultLaw", "out", "(LDrawingVault;II[J)I"⟩ : Cond) ∈ aw := aw_in (tb_2 (List.mem_of_getElem? (i := 207) rfl)) rfl
theorem wd_806 : (.code ⟨"DrawingVaultModel", "out", "(II)Z"⟩ prog_9_method_35_code 5 (Option.some .boolean) : Cond) ∈ aw := aw_in (tb_4 (List.mem_of_getElem? (i := 162) rfl)) rfl
theorem wd_807 : (.methodLink "DrawingVaultLaw" 91 ⟨"DrawingVaultModel", "out", "(II)Z"⟩ : Cond) ∈ aw := aw_in (tb_4 (List.mem_of_getElem? (i := 159) rfl)) rfl
theorem wd_808 : (.instanceMethod ⟨"DrawingVaultModel", "out", "(II)Z"⟩ : Cond) ∈ aw := aw_in (tb_4 (List.mem_of_getElem? (i := 160) rfl)) rfl
theorem wd_809 : (.selects "DrawingVaultModel" ⟨"DrawingVaultModel", "out", "(II)Z"⟩ ⟨"DrawingVaultModel", "out", "(II)Z"⟩ : Cond) ∈ aw := aw_in (tb_4 (List.mem_of_getElem? (i := 161) rfl)) rfl
theorem wd_810 : (.codeWith ⟨"DrawingVaultLaw", "undo", "(LDrawingVault;II[J)I"⟩ method_6_code 5 (Option.some .int) [(0, 17, 20, 13)] : Cond) ∈ aw := aw_in (tb_2 (List.mem_of_getElem? (i := 223) rfl)) rfl
theorem wd_811 : (.methodLink "DrawingVaultLaw" 92 ⟨"DrawingVaultLaw", "undo", "(LDrawingVault;II[J)I"⟩ : Cond) ∈ aw := aw_in (tb_2 (List.mem_of_getElem? (i := 221) rfl)) rfl
theorem wd_812 : (.static ⟨"DrawingVaultLaw", "undo", "(LDrawingVault;II[J)I"⟩ : Cond) ∈ aw := aw_in (tb_2 (List.mem_of_getElem? (i := 222) rfl)) rfl
theorem wd_813 : (.code ⟨"DrawingVaultModel", "undo", "(II)Z"⟩ prog_9_method_37_code 3 (Option.some .boolean) : Cond) ∈ aw := aw_in (tb_4 (List.mem_of_getElem? (i := 170) rfl)) rfl
theorem wd_814 : (.methodLink "DrawingVaultLaw" 94 ⟨"DrawingVaultModel", "undo", "(II)Z"⟩ : Cond) ∈ aw := aw_in (tb_4 (List.mem_of_getElem? (i := 167) rfl)) rfl
theorem wd_815 : (.instanceMethod ⟨"DrawingVaultModel", "undo", "(II)Z"⟩ : Cond) ∈ aw := aw_in (tb_4 (List.mem_of_getElem? (i := 168) rfl)) rfl
theorem wd_816 : (.selects "DrawingVaultModel" ⟨"DrawingVaultModel", "undo", "(II)Z"⟩ ⟨"DrawingVaultModel", "undo", "(II)Z"⟩ : Cond) ∈ aw := aw_in (tb_4 (List.mem_of_getElem? (i := 169) rfl)) rfl
theorem wd_817 : (.codeWith ⟨"DrawingVaultLaw", "put", "(LDrawingVault;IIII[J)I"⟩ method_7_code 7 (Option.some .int) [(0, 21, 24, 13)] : Cond) ∈ aw := aw_in (tb_3 (List.mem_of_getElem? (i := 5) rfl)) rfl
theorem wd_818 : (.methodLink "DrawingVaultLaw" 95 ⟨"DrawingVaultLaw", "put", "(LDrawingVault;IIII[J)I"⟩ : Cond) ∈ aw := aw_in (tb_3 (List.mem_of_getElem? (i := 3) rfl)) rfl
theorem wd_819 : (.static ⟨"DrawingVaultLaw", "put", "(LDrawingVault;IIII[J)I"⟩ : Cond) ∈ aw := aw_in (tb_3 (List.mem_of_getElem? (i := 4) rfl)) rfl
theorem wd_820 : (.code ⟨"DrawingVaultModel", "put", "(IIII)Z"⟩ prog_9_method_39_code 7 (Option.some .boolean) : Cond) ∈ aw := aw_in (tb_4 (List.mem_of_getElem? (i := 178) rfl)) rfl
theorem wd_821 : (.methodLink "DrawingVaultLaw" 98 ⟨"DrawingVaultModel", "put", "(IIII)Z"⟩ : Cond) ∈ aw := aw_in (tb_4 (List.mem_of_getElem? (i := 175) rfl)) rfl
theorem wd_822 : (.instanceMethod ⟨"DrawingVaultModel", "put", "(IIII)Z"⟩ : Cond) ∈ aw := aw_in (tb_4 (List.mem_of_getElem? (i := 176) rfl)) rfl
theorem wd_823 : (.selects "DrawingVaultModel" ⟨"DrawingVaultModel", "put", "(IIII)Z"⟩ ⟨"DrawingVaultModel", "put", "(IIII)Z"⟩ : Cond) ∈ aw := aw_in (tb_4 (List.mem_of_getElem? (i := 177) rfl)) rfl
theorem wd_824 : (.codeWith ⟨"DrawingVaultLaw", "resize", "(LDrawingVault;III[J)I"⟩ method_8_code 6 (Option.some .int) [(0, 19, 22, 13)] : Cond) ∈ aw := aw_in (tb_3 (List.mem_of_getElem? (i := 25) rfl)) rfl
theorem wd_825 : (.methodLink "DrawingVaultLaw" 99 ⟨"DrawingVaultLaw", "resize", "(LDrawingVault;III[J)I"⟩ : Cond) ∈ aw := aw_in (tb_3 (List.mem_of_getElem? (i := 23) rfl)) rfl
theorem wd_826 : (.static ⟨"DrawingVaultLaw", "resize", "(LDrawingVault;III[J)I"⟩ : Cond) ∈ aw := aw_in (tb_3 (List.mem_of_getElem? (i := 24) rfl)) rfl
theorem wd_827 : (.code ⟨"DrawingVaultModel", "resize", "(III)Z"⟩ prog_9_method_40_code 7 (Option.some .boolean) : Cond) ∈ aw := aw_in (tb_4 (List.mem_of_getElem? (i := 186) rfl)) rfl
theorem wd_828 : (.methodLink "DrawingVaultLaw" 102 ⟨"DrawingVaultModel", "resize", "(III)Z"⟩ : Cond) ∈ aw := aw_in (tb_4 (List.mem_of_getElem? (i := 183) rfl)) rfl
theorem wd_829 : (.instanceMethod ⟨"DrawingVaultModel", "resize", "(III)Z"⟩ : Cond) ∈ aw := aw_in (tb_4 (List.mem_of_getElem? (i := 184) rfl)) rfl
theorem wd_830 : (.selects "DrawingVaultModel" ⟨"DrawingVaultModel", "resize", "(III)Z"⟩ ⟨"DrawingVaultModel", "resize", "(III)Z"⟩ : Cond) ∈ aw := aw_in (tb_4 (List.mem_of_getElem? (i := 185) rfl)) rfl
theorem wd_831 : (.codeWith ⟨"DrawingVaultLaw", "ref", "(LDrawingVault;IIIII[J)I"⟩ method_9_code 8 (Option.some .int) [(0, 23, 26, 13)] : Cond) ∈ aw := aw_in (tb_3 (List.mem_of_getElem? (i := 37) rfl)) rfl
theorem wd_832 : (.methodLink "DrawingVaultLaw" 103 ⟨"DrawingVaultLaw", "ref", "(LDrawingVault;IIIII[J)I"⟩ : Cond) ∈ aw := aw_in (tb_3 (List.mem_of_getElem? (i := 35) rfl)) rfl
theorem wd_833 : (.static ⟨"DrawingVaultLaw", "ref", "(LDrawingVault;IIIII[J)I"⟩ : Cond) ∈ aw := aw_in (tb_3 (List.mem_of_getElem? (i := 36) rfl)) rfl
theorem wd_834 : (.code ⟨"DrawingVaultModel", "ref", "(IIIII)Z"⟩ prog_9_method_41_code 11 (Option.some .boolean) : Cond) ∈ aw := aw_in (tb_4 (List.mem_of_getElem? (i := 190) rfl)) rfl
theorem wd_835 : (.methodLink "DrawingVaultLaw" 106 ⟨"DrawingVaultModel", "ref", "(IIIII)Z"⟩ : Cond) ∈ aw := aw_in (tb_4 (List.mem_of_getElem? (i := 187) rfl)) rfl
theorem wd_836 : (.instanceMethod ⟨"DrawingVaultModel", "ref", "(IIIII)Z"⟩ : Cond) ∈ aw := aw_in (tb_4 (List.mem_of_getElem? (i := 188) rfl)) rfl
theorem wd_837 : (.selects "DrawingVaultModel" ⟨"DrawingVaultModel", "ref", "(IIIII)Z"⟩ ⟨"DrawingVaultModel", "ref", "(IIIII)Z"⟩ : Cond) ∈ aw := aw_in (tb_4 (List.mem_of_getElem? (i := 189) rfl)) rfl
theorem wd_838 : (.codeWith ⟨"DrawingVaultLaw", "drop", "(LDrawingVault;III[J)I"⟩ method_10_code 6 (Option.some .int) [(0, 19, 22, 13)] : Cond) ∈ aw := aw_in (tb_3 (List.mem_of_getElem? (i := 52) rfl)) rfl
theorem wd_839 : (.methodLink "DrawingVaultLaw" 107 ⟨"DrawingVaultLaw", "drop", "(LDrawingVault;III[J)I"⟩ : Cond) ∈ aw := aw_in (tb_3 (List.mem_of_getElem? (i := 50) rfl)) rfl
theorem wd_840 : (.static ⟨"DrawingVaultLaw", "drop", "(LDrawingVault;III[J)I"⟩ : Cond) ∈ aw := aw_in (tb_3 (List.mem_of_getElem? (i := 51) rfl)) rfl
theorem wd_841 : (.code ⟨"DrawingVaultModel", "drop", "(III)Z"⟩ prog_9_method_42_code 8 (Option.some .boolean) : Cond) ∈ aw := aw_in (tb_4 (List.mem_of_getElem? (i := 194) rfl)) rfl
theorem wd_842 : (.methodLink "DrawingVaultLaw" 109 ⟨"DrawingVaultModel", "drop", "(III)Z"⟩ : Cond) ∈ aw := aw_in (tb_4 (List.mem_of_getElem? (i := 191) rfl)) rfl
theorem wd_843 : (.instanceMethod ⟨"DrawingVaultModel", "drop", "(III)Z"⟩ : Cond) ∈ aw := aw_in (tb_4 (List.mem_of_getElem? (i := 192) rfl)) rfl
theorem wd_844 : (.selects "DrawingVaultModel" ⟨"DrawingVaultModel", "drop", "(III)Z"⟩ ⟨"DrawingVaultModel", "drop", "(III)Z"⟩ : Cond) ∈ aw := aw_in (tb_4 (List.mem_of_getElem? (i := 193) rfl)) rfl
def LC_2 (n : Nat) (σ : hT) (v1 v2 v3 v4 v5 : Int32) : Option (Int32 × hT) := Option.bind (L_out n σ v1 v2) fun ⟨y1, σ2⟩ => Option.bind (M_out n σ2 v1 v2) fun ⟨y4, σ5⟩ => some (1, σ5)
def LC_3 (n : Nat) (σ : hT) (v1 v2 v3 v4 v5 : Int32) : Option (Int32 × hT) := Option.bind (L_undo n σ v1 v2) fun ⟨y1, σ2⟩ => Option.bind (M_undo n σ2 v1 v2) fun ⟨y4, σ5⟩ => some (1, σ5)
def LC_4 (n : Nat) (σ : hT) (v1 v2 v3 v4 v5 : Int32) : Option (Int32 × hT) := Option.bind (L_put σ v1 v2 v3 v4) fun ⟨y1, σ2⟩ => Option.bind (M_put σ2 v1 v2 v3 v4) fun ⟨y4, σ5⟩ => some (1, σ5)
def LC_5 (n : Nat) (σ : hT) (v1 v2 v3 v4 v5 : Int32) : Option (Int32 × hT) := Option.bind (L_resize n σ v1 v2 v3) fun ⟨y1, σ2⟩ => Option.bind (M_resize n σ2 v1 v2 v3) fun ⟨y4, σ5⟩ => some (1, σ5)
def LC_6 (n : Nat) (σ : hT) (v1 v2 v3 v4 v5 : Int32) : Option (Int32 × hT) := Option.bind (L_ref σ v1 v2 v3 v4 v5) fun ⟨y1, σ2⟩ => Option.bind (M_ref σ2 v1 v2 v3 v4 v5) fun ⟨y4, σ5⟩ => some (1, σ5)
def LC_7 (n : Nat) (σ : hT) (v1 v2 v3 v4 v5 : Int32) : Option (Int32 × hT) := Option.bind (L_drop n σ v1 v2 v3) fun ⟨y1, σ2⟩ => Option.bind (M_drop n σ2 v1 v2 v3) fun ⟨y4, σ5⟩ => some (1, σ5)
set_option maxHeartbeats 4000000 in
set_option maxRecDepth 100000 in
theorem lawc_2 {p : Program} {l : Launch} {e : Env} {s : State} {m : MethodId} {below : List Frame} {meth : Method} {c : Code} {b L : Nat} {xs : Nat → Int32} {A : Nat → Prop} {H : Heap} {locs : List Loc} {ls : Array Slot} {dC : Nat → ClassId} {dI : Nat → Nat → Nat} {Q : State → Prop} {kc ks : Nat} (hfl : l.stackTraces = false) (C : lawH p s m meth c b L xs A) (ad : Nat → Nat → Nat) (ca : Nat → Nat → ClassId) (dom : List (Nat × Nat)) (σ : hT) (i : Int32) (n : Nat) (v1 v2 v3 v4 v5 : Int32)
    (hv1 : vp_in (i + 1) L) (hv2 : vp_in (i + 2) L) (hv3 : vp_in (i + 3) L) (hv4 : vp_in (i + 4) L) (hv5 : vp_in (i + 5) L) (e1 : xs (i + 1).toNatClampNeg = v1) (e2 : xs (i + 2).toNatClampNeg = v2) (e3 : xs (i + 3).toNatClampNeg = v3) (e4 : xs (i + 4).toNatClampNeg = v4) (e5 : xs (i + 5).toNatClampNeg = v5)
    (hmV : (0, 0) ∈ dom) (hmM : (4, 0) ∈ dom) (hmO : (24, 0) ∈ dom) (hN : dom.Nodup) (hC : clo dom σ.2.2) (hP : va_P (dC, dI) kCl (w9 ad ca dom σ) H) (hD : va_D A (w9 ad ca dom σ)) (hK : hkt (dC, dI) ca dom s) (hS : va_S A s.heap H locs) (hl : lv_has ls 7 [(4, .int i), (3, .ref (ad 24 0)), (2, .ref (ad 4 0)), (1, .ref (ad 0 0)), (0, .ref b)]) (hkc : kc + 16 ≤ 601024) (hks : ks + 101 ≤ 7293033) (σ' : hT) (hf : LC_2 n σ v1 v2 v3 v4 v5 = some (1, σ'))
    (kk : ∀ (ad' : Nat → Nat → Nat) (ca' : Nat → Nat → ClassId) (dom' : List (Nat × Nat)) (H' : Heap) (locs' : List Loc) (ls' : Array Slot), dom' = dom → dom'.Nodup → clo dom' σ'.2.2 → va_P (dC, dI) kCl (w9 ad' ca' dom' σ') H' → va_D A (w9 ad' ca' dom' σ') → hkt (dC, dI) ca' dom' s → va_S A s.heap H' locs' → lv_has ls' 7 [(4, .int i), (3, .ref (ad' 24 0)), (2, .ref (ad' 4 0)), (1, .ref (ad' 0 0)), (0, .ref b)] → W p l e room_1 s m #[Value.ref b] below meth c H' locs' (kc + 16) (ks + 101) Q (F0 m 1217 ls' [])) :
    W p l e room_1 s m #[Value.ref b] below meth c H locs kc ks Q (F0 m 216 ls []) := by
  obtain ⟨hx, hb, hr, hml, hown, hts, hX, hbl, hbA, hlocks, hA, hA2, hG, hE0⟩ := C
  unfold LC_2 at hf
  refine lv_aload_n (pc := 216) hx hb dL_law_216 rfl (lv_at hl 3 rfl) ?_
  refine lv_aload_n (pc := 217) hx hb dL_law_217 rfl (lv_at hl 4 rfl) ?_
  refine lv_iload (pc := 218) hx hb dL_law_218 (lv_at hl 0 rfl) ?_
  refine lv_iconst (pc := 220) (v := 1) hx hb dL_law_220 (by decide) ?_
  refine lv_iadd (pc := 221) hx hb dL_law_221 ?_
  refine va_sld (A := A) (pc := 222) hx hb hX hbl hbA hS hv1 dL_law_222 ?_
  refine W.eq (g2 := F0 m 223 ls [.int v1, .ref (ad 0 0)]) (by rw [e1]) ?_
  refine lv_aload_n (pc := 223) hx hb dL_law_223 rfl (lv_at hl 4 rfl) ?_
  refine lv_iload (pc := 224) hx hb dL_law_224 (lv_at hl 0 rfl) ?_
  refine lv_iconst (pc := 226) (v := 2) hx hb dL_law_226 (by decide) ?_
  refine lv_iadd (pc := 227) hx hb dL_law_227 ?_
  refine va_sld (A := A) (pc := 228) hx hb hX hbl hbA hS hv2 dL_law_228 ?_
  refine W.eq (g2 := F0 m 229 ls [.int v2, .int v1, .ref (ad 0 0)]) (by rw [e2]) ?_
  refine lv_aload_n (pc := 229) hx hb dL_law_229 rfl (lv_at hl 1 rfl) ?_
  obtain ⟨⟨y1, σ2⟩, hy1, hf⟩ := ob hf
  have hE := xE.mono hE0 (fun q z => hA2 q (w9_xA hD z))
  have hSA : ∀ q : Nat, q < s.heap.size → A q → xS ad dom q := fun q h z => absurd (hA2 q z) (Nat.not_le.mpr h)
  have hFc := w9_free hD hS hA
  refine va_calli (pc := 230) (hxR (As := [.ref (ad 0 0), .int v1, .int v2, .ref (ad 24 0)]) (rest := []) ⟨hx, hb, hml, hown, hts⟩ (t_L_out l dC dI ad ca dom H.size n σ v1 v2 hmV hmO hN hC hfl y1 σ2 hy1) 4 wd_804 wd_805 wd_777 wd_803 rfl rfl ⟨Nat.le_of_ble_eq_true rfl, Nat.le_of_ble_eq_true rfl⟩ (by decide +kernel) ⟨hX_blind, hX_pre hP hK hD hG hE hS hSA⟩ rfl rfl hl.1 rfl (lv_room (Nat.le_of_ble_eq_true rfl)) dL_law_230 ⟨show kc + 0 + 1 ≤ 601024 by omega, show ks + 0 + 6 ≤ 7293033 by omega⟩) hS (fun q _ h => hFc q h) hFc (fun r9 u t H1 locs ht hvm hr9 hB hz1 hk1 hS => ?_)
  obtain ⟨hP, hD, hC⟩ := hB
  rw [ht] at hP
  replace hD := hD.weaken (fun _ _ _ h => hFc _ h)
  generalize H1 = H at hP hS ⊢
  refine W.widen (k := (kc + 1)) (n := (ks + 6)) (by omega) (by omega) ?_
  refine W.eq (g2 := F0 m 233 ls [.int y1]) (by rw [hr9]) ?_
  refine lv_istore (pc := 233) hx hb dL_law_233 hl (by decide) rfl (fun ls hl => ?_)
  have hl : lv_has ls 7 [(5, .int y1), (4, .int i), (3, .ref (ad 24 0)), (2, .ref (ad 4 0)), (1, .ref (ad 0 0)), (0, .ref b)] := hl
  refine lv_aload_n (pc := 235) hx hb dL_law_235 rfl (lv_at hl 3 rfl) ?_
  refine lv_aload_n (pc := 236) hx hb dL_law_236 rfl (lv_at hl 5 rfl) ?_
  refine lv_iload (pc := 237) hx hb dL_law_237 (lv_at hl 1 rfl) ?_
  refine lv_iconst (pc := 239) (v := 1) hx hb dL_law_239 (by decide) ?_
  refine lv_iadd (pc := 240) hx hb dL_law_240 ?_
  refine va_sld (A := A) (pc := 241) hx hb hX hbl hbA hS hv1 dL_law_241 ?_
  refine W.eq (g2 := F0 m 242 ls [.int v1, .ref (ad 4 0)]) (by rw [e1]) ?_
  refine lv_aload_n (pc := 242) hx hb dL_law_242 rfl (lv_at hl 5 rfl) ?_
  refine lv_iload (pc := 243) hx hb dL_law_243 (lv_at hl 1 rfl) ?_
  refine lv_iconst (pc := 245) (v := 2) hx hb dL_law_245 (by decide) ?_
  refine lv_iadd (pc := 246) hx hb dL_law_246 ?_
  refine va_sld (A := A) (pc := 247) hx hb hX hbl hbA hS hv2 dL_law_247 ?_
  refine W.eq (g2 := F0 m 248 ls [.int v2, .int v1, .ref (ad 4 0)]) (by rw [e2]) ?_
  obtain ⟨q3, hq3, eq3⟩ := at_4 (ad := ad) (ca := ca) (σ := σ2) hmM
  obtain ⟨⟨y4, σ5⟩, hy4, hf⟩ := ob hf
  have hFc := w9_free hD hS hA
  refine va_calli (pc := 248) (va_runV (As := [.int v1, .int v2]) (rest := []) ⟨hx, hb, hml, hown, hts⟩ (t_M_out l dC dI ad ca dom H.size n σ2 v1 v2 hmM hN hC y4 σ5 hy4) (cwV 2 hts (gV wd_807 wd_808 wd_809 wd_50 wd_806) rfl rfl rfl (by decide +kernel) ⟨Nat.le_of_ble_eq_true rfl, Nat.le_of_ble_eq_true rfl⟩) ⟨hW_blind, va_recv (q := (RM, TM, 11)) (q0 := q3) (ci := 4) hK.1 hP rfl eq3, hW_pre hP hK hD hG⟩ rfl rfl hl.1 rfl (lv_room (Nat.le_of_ble_eq_true rfl)) dL_law_248 ⟨show kc + 1 + 0 ≤ 601024 by omega, show ks + 6 + 0 ≤ 7293033 by omega⟩) hS (fun q _ h => hFc q h) hFc (fun r9 u t H1 locs ht hvm hr9 hB hz1 hk1 hS => ?_)
  obtain ⟨hP, hD, hC⟩ := hB
  rw [ht] at hP
  replace hD := hD.weaken (fun _ _ _ h => hFc _ h)
  generalize H1 = H at hP hS ⊢
  refine W.eq (g2 := F0 m 251 ls [.int y4]) (by rw [hr9]) ?_
  refine lv_istore (pc := 251) hx hb dL_law_251 hl (by decide) rfl (fun ls hl => ?_)
  have hl : lv_has ls 7 [(6, .int y4), (5, .int y1), (4, .int i), (3, .ref (ad 24 0)), (2, .ref (ad 4 0)), (1, .ref (ad 0 0)), (0, .ref b)] := hl
  refine lv_goto (pc := 253) (tgt := 1217) hx hb dL_law_253 rfl ?_
  obtain ⟨-, h9⟩ := Prod.mk.inj (Option.some.inj hf)
  subst h9
  have hl := lv_sub hl (l' := [(4, .int i), (3, .ref (ad 24 0)), (2, .ref (ad 4 0)), (1, .ref (ad 0 0)), (0, .ref b)]) [2, 3, 4, 5, 6] rfl
  refine W.widen (k := kc + 16) (n := ks + 101) (by omega) (by omega) ?_
  exact kk ad ca dom H _ ls rfl hN hC hP hD hK hS hl
set_option maxHeartbeats 4000000 in
set_option maxRecDepth 100000 in
theorem lawc_3 {p : Program} {l : Launch} {e : Env} {s : State} {m : MethodId} {below : List Frame} {meth : Method} {c : Code} {b L : Nat} {xs : Nat → Int32} {A : Nat → Prop} {H : Heap} {locs : List Loc} {ls : Array Slot} {dC : Nat → ClassId} {dI : Nat → Nat → Nat} {Q : State → Prop} {kc ks : Nat} (hfl : l.stackTraces = false) (C : lawH p s m meth c b L xs A) (ad : Nat → Nat → Nat) (ca : Nat → Nat → ClassId) (dom : List (Nat × Nat)) (σ : hT) (i : Int32) (n : Nat) (v1 v2 v3 v4 v5 : Int32)
    (hv1 : vp_in (i + 1) L) (hv2 : vp_in (i + 2) L) (hv3 : vp_in (i + 3) L) (hv4 : vp_in (i + 4) L) (hv5 : vp_in (i + 5) L) (e1 : xs (i + 1).toNatClampNeg = v1) (e2 : xs (i + 2).toNatClampNeg = v2) (e3 : xs (i + 3).toNatClampNeg = v3) (e4 : xs (i + 4).toNatClampNeg = v4) (e5 : xs (i + 5).toNatClampNeg = v5)
    (hmV : (0, 0) ∈ dom) (hmM : (4, 0) ∈ dom) (hmO : (24, 0) ∈ dom) (hN : dom.Nodup) (hC : clo dom σ.2.2) (hP : va_P (dC, dI) kCl (w9 ad ca dom σ) H) (hD : va_D A (w9 ad ca dom σ)) (hK : hkt (dC, dI) ca dom s) (hS : va_S A s.heap H locs) (hl : lv_has ls 7 [(4, .int i), (3, .ref (ad 24 0)), (2, .ref (ad 4 0)), (1, .ref (ad 0 0)), (0, .ref b)]) (hkc : kc + 16 ≤ 601024) (hks : ks + 101 ≤ 7293033) (σ' : hT) (hf : LC_3 n σ v1 v2 v3 v4 v5 = some (1, σ'))
    (kk : ∀ (ad' : Nat → Nat → Nat) (ca' : Nat → Nat → ClassId) (dom' : List (Nat × Nat)) (H' : Heap) (locs' : List Loc) (ls' : Array Slot), dom' = dom → dom'.Nodup → clo dom' σ'.2.2 → va_P (dC, dI) kCl (w9 ad' ca' dom' σ') H' → va_D A (w9 ad' ca' dom' σ') → hkt (dC, dI) ca' dom' s → va_S A s.heap H' locs' → lv_has ls' 7 [(4, .int i), (3, .ref (ad' 24 0)), (2, .ref (ad' 4 0)), (1, .ref (ad' 0 0)), (0, .ref b)] → W p l e room_1 s m #[Value.ref b] below meth c H' locs' (kc + 16) (ks + 101) Q (F0 m 1217 ls' [])) :
    W p l e room_1 s m #[Value.ref b] below meth c H locs kc ks Q (F0 m 256 ls []) := by
  obtain ⟨hx, hb, hr, hml, hown, hts, hX, hbl, hbA, hlocks, hA, hA2, hG, hE0⟩ := C
  unfold LC_3 at hf
  refine lv_aload_n (pc := 256) hx hb dL_law_256 rfl (lv_at hl 3 rfl) ?_
  refine lv_aload_n (pc := 257) hx hb dL_law_257 rfl (lv_at hl 4 rfl) ?_
  refine lv_iload (pc := 258) hx hb dL_law_258 (lv_at hl 0 rfl) ?_
  refine lv_iconst (pc := 260) (v := 1) hx hb dL_law_260 (by decide) ?_
  refine lv_iadd (pc := 261) hx hb dL_law_261 ?_
  refine va_sld (A := A) (pc := 262) hx hb hX hbl hbA hS hv1 dL_law_262 ?_
  refine W.eq (g2 := F0 m 263 ls [.int v1, .ref (ad 0 0)]) (by rw [e1]) ?_
  refine lv_aload_n (pc := 263) hx hb dL_law_263 rfl (lv_at hl 4 rfl) ?_
  refine lv_iload (pc := 264) hx hb dL_law_264 (lv_at hl 0 rfl) ?_
  refine lv_iconst (pc := 266) (v := 2) hx hb dL_law_266 (by decide) ?_
  refine lv_iadd (pc := 267) hx hb dL_law_267 ?_
  refine va_sld (A := A) (pc := 268) hx hb hX hbl hbA hS hv2 dL_law_268 ?_
  refine W.eq (g2 := F0 m 269 ls [.int v2, .int v1, .ref (ad 0 0)]) (by rw [e2]) ?_
  refine lv_aload_n (pc := 269) hx hb dL_law_269 rfl (lv_at hl 1 rfl) ?_
  obtain ⟨⟨y1, σ2⟩, hy1, hf⟩ := ob hf
  have hE := xE.mono hE0 (fun q z => hA2 q (w9_xA hD z))
  have hSA : ∀ q : Nat, q < s.heap.size → A q → xS ad dom q := fun q h z => absurd (hA2 q z) (Nat.not_le.mpr h)
  have hFc := w9_free hD hS hA
  refine va_calli (pc := 270) (hxR (As := [.ref (ad 0 0), .int v1, .int v2, .ref (ad 24 0)]) (rest := []) ⟨hx, hb, hml, hown, hts⟩ (t_L_undo l dC dI ad ca dom H.size n σ v1 v2 hmV hmO hN hC hfl y1 σ2 hy1) 4 wd_811 wd_812 wd_777 wd_810 rfl rfl ⟨Nat.le_of_ble_eq_true rfl, Nat.le_of_ble_eq_true rfl⟩ (by decide +kernel) ⟨hX_blind, hX_pre hP hK hD hG hE hS hSA⟩ rfl rfl hl.1 rfl (lv_room (Nat.le_of_ble_eq_true rfl)) dL_law_270 ⟨show kc + 0 + 1 ≤ 601024 by omega, show ks + 0 + 6 ≤ 7293033 by omega⟩) hS (fun q _ h => hFc q h) hFc (fun r9 u t H1 locs ht hvm hr9 hB hz1 hk1 hS => ?_)
  obtain ⟨hP, hD, hC⟩ := hB
  rw [ht] at hP
  replace hD := hD.weaken (fun _ _ _ h => hFc _ h)
  generalize H1 = H at hP hS ⊢
  refine W.widen (k := (kc + 1)) (n := (ks + 6)) (by omega) (by omega) ?_
  refine W.eq (g2 := F0 m 273 ls [.int y1]) (by rw [hr9]) ?_
  refine lv_istore (pc := 273) hx hb dL_law_273 hl (by decide) rfl (fun ls hl => ?_)
  have hl : lv_has ls 7 [(5, .int y1), (4, .int i), (3, .ref (ad 24 0)), (2, .ref (ad 4 0)), (1, .ref (ad 0 0)), (0, .ref b)] := hl
  refine lv_aload_n (pc := 275) hx hb dL_law_275 rfl (lv_at hl 3 rfl) ?_
  refine lv_aload_n (pc := 276) hx hb dL_law_276 rfl (lv_at hl 5 rfl) ?_
  refine lv_iload (pc := 277) hx hb dL_law_277 (lv_at hl 1 rfl) ?_
  refine lv_iconst (pc := 279) (v := 1) hx hb dL_law_279 (by decide) ?_
  refine lv_iadd (pc := 280) hx hb dL_law_280 ?_
  refine va_sld (A := A) (pc := 281) hx hb hX hbl hbA hS hv1 dL_law_281 ?_
  refine W.eq (g2 := F0 m 282 ls [.int v1, .ref (ad 4 0)]) (by rw [e1]) ?_
  refine lv_aload_n (pc := 282) hx hb dL_law_282 rfl (lv_at hl 5 rfl) ?_
  refine lv_iload (pc := 283) hx hb dL_law_283 (lv_at hl 1 rfl) ?_
  refine lv_iconst (pc := 285) (v := 2) hx hb dL_law_285 (by decide) ?_
  refine lv_iadd (pc := 286) hx hb dL_law_286 ?_
  refine va_sld (A := A) (pc := 287) hx hb hX hbl hbA hS hv2 dL_law_287 ?_
  refine W.eq (g2 := F0 m 288 ls [.int v2, .int v1, .ref (ad 4 0)]) (by rw [e2]) ?_
  obtain ⟨q3, hq3, eq3⟩ := at_4 (ad := ad) (ca := ca) (σ := σ2) hmM
  obtain ⟨⟨y4, σ5⟩, hy4, hf⟩ := ob hf
  have hFc := w9_free hD hS hA
  refine va_calli (pc := 288) (va_runV (As := [.int v1, .int v2]) (rest := []) ⟨hx, hb, hml, hown, hts⟩ (t_M_undo l dC dI ad ca dom H.size n σ2 v1 v2 hmM hN hC y4 σ5 hy4) (cwV 2 hts (gV wd_814 wd_815 wd_816 wd_50 wd_813) rfl rfl rfl (by decide +kernel) ⟨Nat.le_of_ble_eq_true rfl, Nat.le_of_ble_eq_true rfl⟩) ⟨hW_blind, va_recv (q := (RM, TM, 11)) (q0 := q3) (ci := 4) hK.1 hP rfl eq3, hW_pre hP hK hD hG⟩ rfl rfl hl.1 rfl (lv_room (Nat.le_of_ble_eq_true rfl)) dL_law_288 ⟨show kc + 1 + 0 ≤ 601024 by omega, show ks + 6 + 0 ≤ 7293033 by omega⟩) hS (fun q _ h => hFc q h) hFc (fun r9 u t H1 locs ht hvm hr9 hB hz1 hk1 hS => ?_)
  obtain ⟨hP, hD, hC⟩ := hB
  rw [ht] at hP
  replace hD := hD.weaken (fun _ _ _ h => hFc _ h)
  generalize H1 = H at hP hS ⊢
  refine W.eq (g2 := F0 m 291 ls [.int y4]) (by rw [hr9]) ?_
  refine lv_istore (pc := 291) hx hb dL_law_291 hl (by decide) rfl (fun ls hl => ?_)
  have hl : lv_has ls 7 [(6, .int y4), (5, .int y1), (4, .int i), (3, .ref (ad 24 0)), (2, .ref (ad 4 0)), (1, .ref (ad 0 0)), (0, .ref b)] := hl
  refine lv_goto (pc := 293) (tgt := 1217) hx hb dL_law_293 rfl ?_
  obtain ⟨-, h9⟩ := Prod.mk.inj (Option.some.inj hf)
  subst h9
  have hl := lv_sub hl (l' := [(4, .int i), (3, .ref (ad 24 0)), (2, .ref (ad 4 0)), (1, .ref (ad 0 0)), (0, .ref b)]) [2, 3, 4, 5, 6] rfl
  refine W.widen (k := kc + 16) (n := ks + 101) (by omega) (by omega) ?_
  exact kk ad ca dom H _ ls rfl hN hC hP hD hK hS hl
set_option maxHeartbeats 4000000 in
set_option maxRecDepth 100000 in
theorem lawc_4 {p : Program} {l : Launch} {e : Env} {s : State} {m : MethodId} {below : List Frame} {meth : Method} {c : Code} {b L : Nat} {xs : Nat → Int32} {A : Nat → Prop} {H : Heap} {locs : List Loc} {ls : Array Slot} {dC : Nat → ClassId} {dI : Nat → Nat → Nat} {Q : State → Prop} {kc ks : Nat} (hfl : l.stackTraces = false) (C : lawH p s m meth c b L xs A) (ad : Nat → Nat → Nat) (ca : Nat → Nat → ClassId) (dom : List (Nat × Nat)) (σ : hT) (i : Int32) (n : Nat) (v1 v2 v3 v4 v5 : Int32)
    (hv1 : vp_in (i + 1) L) (hv2 : vp_in (i + 2) L) (hv3 : vp_in (i + 3) L) (hv4 : vp_in (i + 4) L) (hv5 : vp_in (i + 5) L) (e1 : xs (i + 1).toNatClampNeg = v1) (e2 : xs (i + 2).toNatClampNeg = v2) (e3 : xs (i + 3).toNatClampNeg = v3) (e4 : xs (i + 4).toNatClampNeg = v4) (e5 : xs (i + 5).toNatClampNeg = v5)
    (hmV : (0, 0) ∈ dom) (hmM : (4, 0) ∈ dom) (hmO : (24, 0) ∈ dom) (hN : dom.Nodup) (hC : clo dom σ.2.2) (hP : va_P (dC, dI) kCl (w9 ad ca dom σ) H) (hD : va_D A (w9 ad ca dom σ)) (hK : hkt (dC, dI) ca dom s) (hS : va_S A s.heap H locs) (hl : lv_has ls 7 [(4, .int i), (3, .ref (ad 24 0)), (2, .ref (ad 4 0)), (1, .ref (ad 0 0)), (0, .ref b)]) (hkc : kc + 16 ≤ 601024) (hks : ks + 101 ≤ 7293033) (σ' : hT) (hf : LC_4 n σ v1 v2 v3 v4 v5 = some (1, σ'))
    (kk : ∀ (ad' : Nat → Nat → Nat) (ca' : Nat → Nat → ClassId) (dom' : List (Nat × Nat)) (H' : Heap) (locs' : List Loc) (ls' : Array Slot), dom' = dom → dom'.Nodup → clo dom' σ'.2.2 → va_P (dC, dI) kCl (w9 ad' ca' dom' σ') H' → va_D A (w9 ad' ca' dom' σ') → hkt (dC, dI) ca' dom' s → va_S A s.heap H' locs' → lv_has ls' 7 [(4, .int i), (3, .ref (ad' 24 0)), (2, .ref (ad' 4 0)), (1, .ref (ad' 0 0)), (0, .ref b)] → W p l e room_1 s m #[Value.ref b] below meth c H' locs' (kc + 16) (ks + 101) Q (F0 m 1217 ls' [])) :
    W p l e room_1 s m #[Value.ref b] below meth c H locs kc ks Q (F0 m 296 ls []) := by
  obtain ⟨hx, hb, hr, hml, hown, hts, hX, hbl, hbA, hlocks, hA, hA2, hG, hE0⟩ := C
  unfold LC_4 at hf
  refine lv_aload_n (pc := 296) hx hb dL_law_296 rfl (lv_at hl 3 rfl) ?_
  refine lv_aload_n (pc := 297) hx hb dL_law_297 rfl (lv_at hl 4 rfl) ?_
  refine lv_iload (pc := 298) hx hb dL_law_298 (lv_at hl 0 rfl) ?_
  refine lv_iconst (pc := 300) (v := 1) hx hb dL_law_300 (by decide) ?_
  refine lv_iadd (pc := 301) hx hb dL_law_301 ?_
  refine va_sld (A := A) (pc := 302) hx hb hX hbl hbA hS hv1 dL_law_302 ?_
  refine W.eq (g2 := F0 m 303 ls [.int v1, .ref (ad 0 0)]) (by rw [e1]) ?_
  refine lv_aload_n (pc := 303) hx hb dL_law_303 rfl (lv_at hl 4 rfl) ?_
  refine lv_iload (pc := 304) hx hb dL_law_304 (lv_at hl 0 rfl) ?_
  refine lv_iconst (pc := 306) (v := 2) hx hb dL_law_306 (by decide) ?_
  refine lv_iadd (pc := 307) hx hb dL_law_307 ?_
  refine va_sld (A := A) (pc := 308) hx hb hX hbl hbA hS hv2 dL_law_308 ?_
  refine W.eq (g2 := F0 m 309 ls [.int v2, .int v1, .ref (ad 0 0)]) (by rw [e2]) ?_
  refine lv_aload_n (pc := 309) hx hb dL_law_309 rfl (lv_at hl 4 rfl) ?_
  refine lv_iload (pc := 310) hx hb dL_law_310 (lv_at hl 0 rfl) ?_
  refine lv_iconst (pc := 312) (v := 3) hx hb dL_law_312 (by decide) ?_
  refine lv_iadd (pc := 313) hx hb dL_law_313 ?_
  refine va_sld (A := A) (pc := 314) hx hb hX hbl hbA hS hv3 dL_law_314 ?_
  refine W.eq (g2 := F0 m 315 ls [.int v3, .int v2, .int v1, .ref (ad 0 0)]) (by rw [e3]) ?_
  refine lv_aload_n (pc := 315) hx hb dL_law_315 rfl (lv_at hl 4 rfl) ?_
  refine lv_iload (pc := 316) hx hb dL_law_316 (lv_at hl 0 rfl) ?_
  refine lv_iconst (pc := 318) (v := 4) hx hb dL_law_318 (by decide) ?_
  refine lv_iadd (pc := 319) hx hb dL_law_319 ?_
  refine va_sld (A := A) (pc := 320) hx hb hX hbl hbA hS hv4 dL_law_320 ?_
  refine W.eq (g2 := F0 m 321 ls [.int v4, .int v3, .int v2, .int v1, .ref (ad 0 0)]) (by rw [e4]) ?_
  refine lv_aload_n (pc := 321) hx hb dL_law_321 rfl (lv_at hl 1 rfl) ?_
  obtain ⟨⟨y1, σ2⟩, hy1, hf⟩ := ob hf
  have hE := xE.mono hE0 (fun q z => hA2 q (w9_xA hD z))
  have hSA : ∀ q : Nat, q < s.heap.size → A q → xS ad dom q := fun q h z => absurd (hA2 q z) (Nat.not_le.mpr h)
  have hFc := w9_free hD hS hA
  refine va_calli (pc := 322) (hxR (As := [.ref (ad 0 0), .int v1, .int v2, .int v3, .int v4, .ref (ad 24 0)]) (rest := []) ⟨hx, hb, hml, hown, hts⟩ (t_L_put l dC dI ad ca dom H.size σ v1 v2 v3 v4 hmV hmO hN hC hfl y1 σ2 hy1) 6 wd_818 wd_819 wd_777 wd_817 rfl rfl ⟨Nat.le_of_ble_eq_true rfl, Nat.le_of_ble_eq_true rfl⟩ (by decide +kernel) ⟨hX_blind, hX_pre hP hK hD hG hE hS hSA⟩ rfl rfl hl.1 rfl (lv_room (Nat.le_of_ble_eq_true rfl)) dL_law_322 ⟨show kc + 0 + 1 ≤ 601024 by omega, show ks + 0 + 6 ≤ 7293033 by omega⟩) hS (fun q _ h => hFc q h) hFc (fun r9 u t H1 locs ht hvm hr9 hB hz1 hk1 hS => ?_)
  obtain ⟨hP, hD, hC⟩ := hB
  rw [ht] at hP
  replace hD := hD.weaken (fun _ _ _ h => hFc _ h)
  generalize H1 = H at hP hS ⊢
  refine W.widen (k := (kc + 1)) (n := (ks + 6)) (by omega) (by omega) ?_
  refine W.eq (g2 := F0 m 325 ls [.int y1]) (by rw [hr9]) ?_
  refine lv_istore (pc := 325) hx hb dL_law_325 hl (by decide) rfl (fun ls hl => ?_)
  have hl : lv_has ls 7 [(5, .int y1), (4, .int i), (3, .ref (ad 24 0)), (2, .ref (ad 4 0)), (1, .ref (ad 0 0)), (0, .ref b)] := hl
  refine lv_aload_n (pc := 327) hx hb dL_law_327 rfl (lv_at hl 3 rfl) ?_
  refine lv_aload_n (pc := 328) hx hb dL_law_328 rfl (lv_at hl 5 rfl) ?_
  refine lv_iload (pc := 329) hx hb dL_law_329 (lv_at hl 1 rfl) ?_
  refine lv_iconst (pc := 331) (v := 1) hx hb dL_law_331 (by decide) ?_
  refine lv_iadd (pc := 332) hx hb dL_law_332 ?_
  refine va_sld (A := A) (pc := 333) hx hb hX hbl hbA hS hv1 dL_law_333 ?_
  refine W.eq (g2 := F0 m 334 ls [.int v1, .ref (ad 4 0)]) (by rw [e1]) ?_
  refine lv_aload_n (pc := 334) hx hb dL_law_334 rfl (lv_at hl 5 rfl) ?_
  refine lv_iload (pc := 335) hx hb dL_law_335 (lv_at hl 1 rfl) ?_
  refine lv_iconst (pc := 337) (v := 2) hx hb dL_law_337 (by decide) ?_
  refine lv_iadd (pc := 338) hx hb dL_law_338 ?_
  refine va_sld (A := A) (pc := 339) hx hb hX hbl hbA hS hv2 dL_law_339 ?_
  refine W.eq (g2 := F0 m 340 ls [.int v2, .int v1, .ref (ad 4 0)]) (by rw [e2]) ?_
  refine lv_aload_n (pc := 340) hx hb dL_law_340 rfl (lv_at hl 5 rfl) ?_
  refine lv_iload (pc := 341) hx hb dL_law_341 (lv_at hl 1 rfl) ?_
  refine lv_iconst (pc := 343) (v := 3) hx hb dL_law_343 (by decide) ?_
  refine lv_iadd (pc := 344) hx hb dL_law_344 ?_
  refine va_sld (A := A) (pc := 345) hx hb hX hbl hbA hS hv3 dL_law_345 ?_
  refine W.eq (g2 := F0 m 346 ls [.int v3, .int v2, .int v1, .ref (ad 4 0)]) (by rw [e3]) ?_
  refine lv_aload_n (pc := 346) hx hb dL_law_346 rfl (lv_at hl 5 rfl) ?_
  refine lv_iload (pc := 347) hx hb dL_law_347 (lv_at hl 1 rfl) ?_
  refine lv_iconst (pc := 349) (v := 4) hx hb dL_law_349 (by decide) ?_
  refine lv_iadd (pc := 350) hx hb dL_law_350 ?_
  refine va_sld (A := A) (pc := 351) hx hb hX hbl hbA hS hv4 dL_law_351 ?_
  refine W.eq (g2 := F0 m 352 ls [.int v4, .int v3, .int v2, .int v1, .ref (ad 4 0)]) (by rw [e4]) ?_
  obtain ⟨q3, hq3, eq3⟩ := at_4 (ad := ad) (ca := ca) (σ := σ2) hmM
  obtain ⟨⟨y4, σ5⟩, hy4, hf⟩ := ob hf
  have hFc := w9_free hD hS hA
  refine va_calli (pc := 352) (va_runV (As := [.int v1, .int v2, .int v3, .int v4]) (rest := []) ⟨hx, hb, hml, hown, hts⟩ (t_M_put l dC dI ad ca dom H.size σ2 v1 v2 v3 v4 hmM hN hC y4 σ5 hy4) (cwV 4 hts (gV wd_821 wd_822 wd_823 wd_50 wd_820) rfl rfl rfl (by decide +kernel) ⟨Nat.le_of_ble_eq_true rfl, Nat.le_of_ble_eq_true rfl⟩) ⟨hW_blind, va_recv (q := (RM, TM, 11)) (q0 := q3) (ci := 4) hK.1 hP rfl eq3, hW_pre hP hK hD hG⟩ rfl rfl hl.1 rfl (lv_room (Nat.le_of_ble_eq_true rfl)) dL_law_352 ⟨show kc + 1 + 0 ≤ 601024 by omega, show ks + 6 + 0 ≤ 7293033 by omega⟩) hS (fun q _ h => hFc q h) hFc (fun r9 u t H1 locs ht hvm hr9 hB hz1 hk1 hS => ?_)
  obtain ⟨hP, hD, hC⟩ := hB
  rw [ht] at hP
  replace hD := hD.weaken (fun _ _ _ h => hFc _ h)
  generalize H1 = H at hP hS ⊢
  refine W.eq (g2 := F0 m 355 ls [.int y4]) (by rw [hr9]) ?_
  refine lv_istore (pc := 355) hx hb dL_law_355 hl (by decide) rfl (fun ls hl => ?_)
  have hl : lv_has ls 7 [(6, .int y4), (5, .int y1), (4, .int i), (3, .ref (ad 24 0)), (2, .ref (ad 4 0)), (1, .ref (ad 0 0)), (0, .ref b)] := hl
  refine lv_goto (pc := 357) (tgt := 1217) hx hb dL_law_357 rfl ?_
  obtain ⟨-, h9⟩ := Prod.mk.inj (Option.some.inj hf)
  subst h9
  have hl := lv_sub hl (l' := [(4, .int i), (3, .ref (ad 24 0)), (2, .ref (ad 4 0)), (1, .ref (ad 0 0)), (0, .ref b)]) [2, 3, 4, 5, 6] rfl
  refine W.widen (k := kc + 16) (n := ks + 101) (by omega) (by omega) ?_
  exact kk ad ca dom H _ ls rfl hN hC hP hD hK hS hl
set_option maxHeartbeats 4000000 in
set_option maxRecDepth 100000 in
theorem lawc_5 {p : Program} {l : Launch} {e : Env} {s : State} {m : MethodId} {below : List Frame} {meth : Method} {c : Code} {b L : Nat} {xs : Nat → Int32} {A : Nat → Prop} {H : Heap} {locs : List Loc} {ls : Array Slot} {dC : Nat → ClassId} {dI : Nat → Nat → Nat} {Q : State → Prop} {kc ks : Nat} (hfl : l.stackTraces = false) (C : lawH p s m meth c b L xs A) (ad : Nat → Nat → Nat) (ca : Nat → Nat → ClassId) (dom : List (Nat × Nat)) (σ : hT) (i : Int32) (n : Nat) (v1 v2 v3 v4 v5 : Int32)
    (hv1 : vp_in (i + 1) L) (hv2 : vp_in (i + 2) L) (hv3 : vp_in (i + 3) L) (hv4 : vp_in (i + 4) L) (hv5 : vp_in (i + 5) L) (e1 : xs (i + 1).toNatClampNeg = v1) (e2 : xs (i + 2).toNatClampNeg = v2) (e3 : xs (i + 3).toNatClampNeg = v3) (e4 : xs (i + 4).toNatClampNeg = v4) (e5 : xs (i + 5).toNatClampNeg = v5)
    (hmV : (0, 0) ∈ dom) (hmM : (4, 0) ∈ dom) (hmO : (24, 0) ∈ dom) (hN : dom.Nodup) (hC : clo dom σ.2.2) (hP : va_P (dC, dI) kCl (w9 ad ca dom σ) H) (hD : va_D A (w9 ad ca dom σ)) (hK : hkt (dC, dI) ca dom s) (hS : va_S A s.heap H locs) (hl : lv_has ls 7 [(4, .int i), (3, .ref (ad 24 0)), (2, .ref (ad 4 0)), (1, .ref (ad 0 0)), (0, .ref b)]) (hkc : kc + 16 ≤ 601024) (hks : ks + 101 ≤ 7293033) (σ' : hT) (hf : LC_5 n σ v1 v2 v3 v4 v5 = some (1, σ'))
    (kk : ∀ (ad' : Nat → Nat → Nat) (ca' : Nat → Nat → ClassId) (dom' : List (Nat × Nat)) (H' : Heap) (locs' : List Loc) (ls' : Array Slot), dom' = dom → dom'.Nodup → clo dom' σ'.2.2 → va_P (dC, dI) kCl (w9 ad' ca' dom' σ') H' → va_D A (w9 ad' ca' dom' σ') → hkt (dC, dI) ca' dom' s → va_S A s.heap H' locs' → lv_has ls' 7 [(4, .int i), (3, .ref (ad' 24 0)), (2, .ref (ad' 4 0)), (1, .ref (ad' 0 0)), (0, .ref b)] → W p l e room_1 s m #[Value.ref b] below meth c H' locs' (kc + 16) (ks + 101) Q (F0 m 1217 ls' [])) :
    W p l e room_1 s m #[Value.ref b] below meth c H locs kc ks Q (F0 m 360 ls []) := by
  obtain ⟨hx, hb, hr, hml, hown, hts, hX, hbl, hbA, hlocks, hA, hA2, hG, hE0⟩ := C
  unfold LC_5 at hf
  refine lv_aload_n (pc := 360) hx hb dL_law_360 rfl (lv_at hl 3 rfl) ?_
  refine lv_aload_n (pc := 361) hx hb dL_law_361 rfl (lv_at hl 4 rfl) ?_
  refine lv_iload (pc := 362) hx hb dL_law_362 (lv_at hl 0 rfl) ?_
  refine lv_iconst (pc := 364) (v := 1) hx hb dL_law_364 (by decide) ?_
  refine lv_iadd (pc := 365) hx hb dL_law_365 ?_
  refine va_sld (A := A) (pc := 366) hx hb hX hbl hbA hS hv1 dL_law_366 ?_
  refine W.eq (g2 := F0 m 367 ls [.int v1, .ref (ad 0 0)]) (by rw [e1]) ?_
  refine lv_aload_n (pc := 367) hx hb dL_law_367 rfl (lv_at hl 4 rfl) ?_
  refine lv_iload (pc := 368) hx hb dL_law_368 (lv_at hl 0 rfl) ?_
  refine lv_iconst (pc := 370) (v := 2) hx hb dL_law_370 (by decide) ?_
  refine lv_iadd (pc := 371) hx hb dL_law_371 ?_
  refine va_sld (A := A) (pc := 372) hx hb hX hbl hbA hS hv2 dL_law_372 ?_
  refine W.eq (g2 := F0 m 373 ls [.int v2, .int v1, .ref (ad 0 0)]) (by rw [e2]) ?_
  refine lv_aload_n (pc := 373) hx hb dL_law_373 rfl (lv_at hl 4 rfl) ?_
  refine lv_iload (pc := 374) hx hb dL_law_374 (lv_at hl 0 rfl) ?_
  refine lv_iconst (pc := 376) (v := 3) hx hb dL_law_376 (by decide) ?_
  refine lv_iadd (pc := 377) hx hb dL_law_377 ?_
  refine va_sld (A := A) (pc := 378) hx hb hX hbl hbA hS hv3 dL_law_378 ?_
  refine W.eq (g2 := F0 m 379 ls [.int v3, .int v2, .int v1, .ref (ad 0 0)]) (by rw [e3]) ?_
  refine lv_aload_n (pc := 379) hx hb dL_law_379 rfl (lv_at hl 1 rfl) ?_
  obtain ⟨⟨y1, σ2⟩, hy1, hf⟩ := ob hf
  have hE := xE.mono hE0 (fun q z => hA2 q (w9_xA hD z))
  have hSA : ∀ q : Nat, q < s.heap.size → A q → xS ad dom q := fun q h z => absurd (hA2 q z) (Nat.not_le.mpr h)
  have hFc := w9_free hD hS hA
  refine va_calli (pc := 380) (hxR (As := [.ref (ad 0 0), .int v1, .int v2, .int v3, .ref (ad 24 0)]) (rest := []) ⟨hx, hb, hml, hown, hts⟩ (t_L_resize l dC dI ad ca dom H.size n σ v1 v2 v3 hmV hmO hN hC hfl y1 σ2 hy1) 5 wd_825 wd_826 wd_777 wd_824 rfl rfl ⟨Nat.le_of_ble_eq_true rfl, Nat.le_of_ble_eq_true rfl⟩ (by decide +kernel) ⟨hX_blind, hX_pre hP hK hD hG hE hS hSA⟩ rfl rfl hl.1 rfl (lv_room (Nat.le_of_ble_eq_true rfl)) dL_law_380 ⟨show kc + 0 + 1 ≤ 601024 by omega, show ks + 0 + 6 ≤ 7293033 by omega⟩) hS (fun q _ h => hFc q h) hFc (fun r9 u t H1 locs ht hvm hr9 hB hz1 hk1 hS => ?_)
  obtain ⟨hP, hD, hC⟩ := hB
  rw [ht] at hP
  replace hD := hD.weaken (fun _ _ _ h => hFc _ h)
  generalize H1 = H at hP hS ⊢
  refine W.widen (k := (kc + 1)) (n := (ks + 6)) (by omega) (by omega) ?_
  refine W.eq (g2 := F0 m 383 ls [.int y1]) (by rw [hr9]) ?_
  refine lv_istore (pc := 383) hx hb dL_law_383 hl (by decide) rfl (fun ls hl => ?_)
  have hl : lv_has ls 7 [(5, .int y1), (4, .int i), (3, .ref (ad 24 0)), (2, .ref (ad 4 0)), (1, .ref (ad 0 0)), (0, .ref b)] := hl
  refine lv_aload_n (pc := 385) hx hb dL_law_385 rfl (lv_at hl 3 rfl) ?_
  refine lv_aload_n (pc := 386) hx hb dL_law_386 rfl (lv_at hl 5 rfl) ?_
  refine lv_iload (pc := 387) hx hb dL_law_387 (lv_at hl 1 rfl) ?_
  refine lv_iconst (pc := 389) (v := 1) hx hb dL_law_389 (by decide) ?_
  refine lv_iadd (pc := 390) hx hb dL_law_390 ?_
  refine va_sld (A := A) (pc := 391) hx hb hX hbl hbA hS hv1 dL_law_391 ?_
  refine W.eq (g2 := F0 m 392 ls [.int v1, .ref (ad 4 0)]) (by rw [e1]) ?_
  refine lv_aload_n (pc := 392) hx hb dL_law_392 rfl (lv_at hl 5 rfl) ?_
  refine lv_iload (pc := 393) hx hb dL_law_393 (lv_at hl 1 rfl) ?_
  refine lv_iconst (pc := 395) (v := 2) hx hb dL_law_395 (by decide) ?_
  refine lv_iadd (pc := 396) hx hb dL_law_396 ?_
  refine va_sld (A := A) (pc := 397) hx hb hX hbl hbA hS hv2 dL_law_397 ?_
  refine W.eq (g2 := F0 m 398 ls [.int v2, .int v1, .ref (ad 4 0)]) (by rw [e2]) ?_
  refine lv_aload_n (pc := 398) hx hb dL_law_398 rfl (lv_at hl 5 rfl) ?_
  refine lv_iload (pc := 399) hx hb dL_law_399 (lv_at hl 1 rfl) ?_
  refine lv_iconst (pc := 401) (v := 3) hx hb dL_law_401 (by decide) ?_
  refine lv_iadd (pc := 402) hx hb dL_law_402 ?_
  refine va_sld (A := A) (pc := 403) hx hb hX hbl hbA hS hv3 dL_law_403 ?_
  refine W.eq (g2 := F0 m 404 ls [.int v3, .int v2, .int v1, .ref (ad 4 0)]) (by rw [e3]) ?_
  obtain ⟨q3, hq3, eq3⟩ := at_4 (ad := ad) (ca := ca) (σ := σ2) hmM
  obtain ⟨⟨y4, σ5⟩, hy4, hf⟩ := ob hf
  have hFc := w9_free hD hS hA
  refine va_calli (pc := 404) (va_runV (As := [.int v1, .int v2, .int v3]) (rest := []) ⟨hx, hb, hml, hown, hts⟩ (t_M_resize l dC dI ad ca dom H.size n σ2 v1 v2 v3 hmM hN hC y4 σ5 hy4) (cwV 3 hts (gV wd_828 wd_829 wd_830 wd_50 wd_827) rfl rfl rfl (by decide +kernel) ⟨Nat.le_of_ble_eq_true rfl, Nat.le_of_ble_eq_true rfl⟩) ⟨hW_blind, va_recv (q := (RM, TM, 11)) (q0 := q3) (ci := 4) hK.1 hP rfl eq3, hW_pre hP hK hD hG⟩ rfl rfl hl.1 rfl (lv_room (Nat.le_of_ble_eq_true rfl)) dL_law_404 ⟨show kc + 1 + 0 ≤ 601024 by omega, show ks + 6 + 0 ≤ 7293033 by omega⟩) hS (fun q _ h => hFc q h) hFc (fun r9 u t H1 locs ht hvm hr9 hB hz1 hk1 hS => ?_)
  obtain ⟨hP, hD, hC⟩ := hB
  rw [ht] at hP
  replace hD := hD.weaken (fun _ _ _ h => hFc _ h)
  generalize H1 = H at hP hS ⊢
  refine W.eq (g2 := F0 m 407 ls [.int y4]) (by rw [hr9]) ?_
  refine lv_istore (pc := 407) hx hb dL_law_407 hl (by decide) rfl (fun ls hl => ?_)
  have hl : lv_has ls 7 [(6, .int y4), (5, .int y1), (4, .int i), (3, .ref (ad 24 0)), (2, .ref (ad 4 0)), (1, .ref (ad 0 0)), (0, .ref b)] := hl
  refine lv_goto (pc := 409) (tgt := 1217) hx hb dL_law_409 rfl ?_
  obtain ⟨-, h9⟩ := Prod.mk.inj (Option.some.inj hf)
  subst h9
  have hl := lv_sub hl (l' := [(4, .int i), (3, .ref (ad 24 0)), (2, .ref (ad 4 0)), (1, .ref (ad 0 0)), (0, .ref b)]) [2, 3, 4, 5, 6] rfl
  refine W.widen (k := kc + 16) (n := ks + 101) (by omega) (by omega) ?_
  exact kk ad ca dom H _ ls rfl hN hC hP hD hK hS hl
set_option maxHeartbeats 4000000 in
set_option maxRecDepth 100000 in
theorem lawc_6 {p : Program} {l : Launch} {e : Env} {s : State} {m : MethodId} {below : List Frame} {meth : Method} {c : Code} {b L : Nat} {xs : Nat → Int32} {A : Nat → Prop} {H : Heap} {locs : List Loc} {ls : Array Slot} {dC : Nat → ClassId} {dI : Nat → Nat → Nat} {Q : State → Prop} {kc ks : Nat} (hfl : l.stackTraces = false) (C : lawH p s m meth c b L xs A) (ad : Nat → Nat → Nat) (ca : Nat → Nat → ClassId) (dom : List (Nat × Nat)) (σ : hT) (i : Int32) (n : Nat) (v1 v2 v3 v4 v5 : Int32)
    (hv1 : vp_in (i + 1) L) (hv2 : vp_in (i + 2) L) (hv3 : vp_in (i + 3) L) (hv4 : vp_in (i + 4) L) (hv5 : vp_in (i + 5) L) (e1 : xs (i + 1).toNatClampNeg = v1) (e2 : xs (i + 2).toNatClampNeg = v2) (e3 : xs (i + 3).toNatClampNeg = v3) (e4 : xs (i + 4).toNatClampNeg = v4) (e5 : xs (i + 5).toNatClampNeg = v5)
    (hmV : (0, 0) ∈ dom) (hmM : (4, 0) ∈ dom) (hmO : (24, 0) ∈ dom) (hN : dom.Nodup) (hC : clo dom σ.2.2) (hP : va_P (dC, dI) kCl (w9 ad ca dom σ) H) (hD : va_D A (w9 ad ca dom σ)) (hK : hkt (dC, dI) ca dom s) (hS : va_S A s.heap H locs) (hl : lv_has ls 7 [(4, .int i), (3, .ref (ad 24 0)), (2, .ref (ad 4 0)), (1, .ref (ad 0 0)), (0, .ref b)]) (hkc : kc + 16 ≤ 601024) (hks : ks + 101 ≤ 7293033) (σ' : hT) (hf : LC_6 n σ v1 v2 v3 v4 v5 = some (1, σ'))
    (kk : ∀ (ad' : Nat → Nat → Nat) (ca' : Nat → Nat → ClassId) (dom' : List (Nat × Nat)) (H' : Heap) (locs' : List Loc) (ls' : Array Slot), dom' = dom → dom'.Nodup → clo dom' σ'.2.2 → va_P (dC, dI) kCl (w9 ad' ca' dom' σ') H' → va_D A (w9 ad' ca' dom' σ') → hkt (dC, dI) ca' dom' s → va_S A s.heap H' locs' → lv_has ls' 7 [(4, .int i), (3, .ref (ad' 24 0)), (2, .ref (ad' 4 0)), (1, .ref (ad' 0 0)), (0, .ref b)] → W p l e room_1 s m #[Value.ref b] below meth c H' locs' (kc + 16) (ks + 101) Q (F0 m 1217 ls' [])) :
    W p l e room_1 s m #[Value.ref b] below meth c H locs kc ks Q (F0 m 412 ls []) := by
  obtain ⟨hx, hb, hr, hml, hown, hts, hX, hbl, hbA, hlocks, hA, hA2, hG, hE0⟩ := C
  unfold LC_6 at hf
  refine lv_aload_n (pc := 412) hx hb dL_law_412 rfl (lv_at hl 3 rfl) ?_
  refine lv_aload_n (pc := 413) hx hb dL_law_413 rfl (lv_at hl 4 rfl) ?_
  refine lv_iload (pc := 414) hx hb dL_law_414 (lv_at hl 0 rfl) ?_
  refine lv_iconst (pc := 416) (v := 1) hx hb dL_law_416 (by decide) ?_
  refine lv_iadd (pc := 417) hx hb dL_law_417 ?_
  refine va_sld (A := A) (pc := 418) hx hb hX hbl hbA hS hv1 dL_law_418 ?_
  refine W.eq (g2 := F0 m 419 ls [.int v1, .ref (ad 0 0)]) (by rw [e1]) ?_
  refine lv_aload_n (pc := 419) hx hb dL_law_419 rfl (lv_at hl 4 rfl) ?_
  refine lv_iload (pc := 420) hx hb dL_law_420 (lv_at hl 0 rfl) ?_
  refine lv_iconst (pc := 422) (v := 2) hx hb dL_law_422 (by decide) ?_
  refine lv_iadd (pc := 423) hx hb dL_law_423 ?_
  refine va_sld (A := A) (pc := 424) hx hb hX hbl hbA hS hv2 dL_law_424 ?_
  refine W.eq (g2 := F0 m 425 ls [.int v2, .int v1, .ref (ad 0 0)]) (by rw [e2]) ?_
  refine lv_aload_n (pc := 425) hx hb dL_law_425 rfl (lv_at hl 4 rfl) ?_
  refine lv_iload (pc := 426) hx hb dL_law_426 (lv_at hl 0 rfl) ?_
  refine lv_iconst (pc := 428) (v := 3) hx hb dL_law_428 (by decide) ?_
  refine lv_iadd (pc := 429) hx hb dL_law_429 ?_
  refine va_sld (A := A) (pc := 430) hx hb hX hbl hbA hS hv3 dL_law_430 ?_
  refine W.eq (g2 := F0 m 431 ls [.int v3, .int v2, .int v1, .ref (ad 0 0)]) (by rw [e3]) ?_
  refine lv_aload_n (pc := 431) hx hb dL_law_431 rfl (lv_at hl 4 rfl) ?_
  refine lv_iload (pc := 432) hx hb dL_law_432 (lv_at hl 0 rfl) ?_
  refine lv_iconst (pc := 434) (v := 4) hx hb dL_law_434 (by decide) ?_
  refine lv_iadd (pc := 435) hx hb dL_law_435 ?_
  refine va_sld (A := A) (pc := 436) hx hb hX hbl hbA hS hv4 dL_law_436 ?_
  refine W.eq (g2 := F0 m 437 ls [.int v4, .int v3, .int v2, .int v1, .ref (ad 0 0)]) (by rw [e4]) ?_
  refine lv_aload_n (pc := 437) hx hb dL_law_437 rfl (lv_at hl 4 rfl) ?_
  refine lv_iload (pc := 438) hx hb dL_law_438 (lv_at hl 0 rfl) ?_
  refine lv_iconst (pc := 440) (v := 5) hx hb dL_law_440 (by decide) ?_
  refine lv_iadd (pc := 441) hx hb dL_law_441 ?_
  refine va_sld (A := A) (pc := 442) hx hb hX hbl hbA hS hv5 dL_law_442 ?_
  refine W.eq (g2 := F0 m 443 ls [.int v5, .int v4, .int v3, .int v2, .int v1, .ref (ad 0 0)]) (by rw [e5]) ?_
  refine lv_aload_n (pc := 443) hx hb dL_law_443 rfl (lv_at hl 1 rfl) ?_
  obtain ⟨⟨y1, σ2⟩, hy1, hf⟩ := ob hf
  have hE := xE.mono hE0 (fun q z => hA2 q (w9_xA hD z))
  have hSA : ∀ q : Nat, q < s.heap.size → A q → xS ad dom q := fun q h z => absurd (hA2 q z) (Nat.not_le.mpr h)
  have hFc := w9_free hD hS hA
  refine va_calli (pc := 444) (hxR (As := [.ref (ad 0 0), .int v1, .int v2, .int v3, .int v4, .int v5, .ref (ad 24 0)]) (rest := []) ⟨hx, hb, hml, hown, hts⟩ (t_L_ref l dC dI ad ca dom H.size σ v1 v2 v3 v4 v5 hmV hmO hN hC hfl y1 σ2 hy1) 7 wd_832 wd_833 wd_777 wd_831 rfl rfl ⟨Nat.le_of_ble_eq_true rfl, Nat.le_of_ble_eq_true rfl⟩ (by decide +kernel) ⟨hX_blind, hX_pre hP hK hD hG hE hS hSA⟩ rfl rfl hl.1 rfl (lv_room (Nat.le_of_ble_eq_true rfl)) dL_law_444 ⟨show kc + 0 + 1 ≤ 601024 by omega, show ks + 0 + 6 ≤ 7293033 by omega⟩) hS (fun q _ h => hFc q h) hFc (fun r9 u t H1 locs ht hvm hr9 hB hz1 hk1 hS => ?_)
  obtain ⟨hP, hD, hC⟩ := hB
  rw [ht] at hP
  replace hD := hD.weaken (fun _ _ _ h => hFc _ h)
  generalize H1 = H at hP hS ⊢
  refine W.widen (k := (kc + 1)) (n := (ks + 6)) (by omega) (by omega) ?_
  refine W.eq (g2 := F0 m 447 ls [.int y1]) (by rw [hr9]) ?_
  refine lv_istore (pc := 447) hx hb dL_law_447 hl (by decide) rfl (fun ls hl => ?_)
  have hl : lv_has ls 7 [(5, .int y1), (4, .int i), (3, .ref (ad 24 0)), (2, .ref (ad 4 0)), (1, .ref (ad 0 0)), (0, .ref b)] := hl
  refine lv_aload_n (pc := 449) hx hb dL_law_449 rfl (lv_at hl 3 rfl) ?_
  refine lv_aload_n (pc := 450) hx hb dL_law_450 rfl (lv_at hl 5 rfl) ?_
  refine lv_iload (pc := 451) hx hb dL_law_451 (lv_at hl 1 rfl) ?_
  refine lv_iconst (pc := 453) (v := 1) hx hb dL_law_453 (by decide) ?_
  refine lv_iadd (pc := 454) hx hb dL_law_454 ?_
  refine va_sld (A := A) (pc := 455) hx hb hX hbl hbA hS hv1 dL_law_455 ?_
  refine W.eq (g2 := F0 m 456 ls [.int v1, .ref (ad 4 0)]) (by rw [e1]) ?_
  refine lv_aload_n (pc := 456) hx hb dL_law_456 rfl (lv_at hl 5 rfl) ?_
  refine lv_iload (pc := 457) hx hb dL_law_457 (lv_at hl 1 rfl) ?_
  refine lv_iconst (pc := 459) (v := 2) hx hb dL_law_459 (by decide) ?_
  refine lv_iadd (pc := 460) hx hb dL_law_460 ?_
  refine va_sld (A := A) (pc := 461) hx hb hX hbl hbA hS hv2 dL_law_461 ?_
  refine W.eq (g2 := F0 m 462 ls [.int v2, .int v1, .ref (ad 4 0)]) (by rw [e2]) ?_
  refine lv_aload_n (pc := 462) hx hb dL_law_462 rfl (lv_at hl 5 rfl) ?_
  refine lv_iload (pc := 463) hx hb dL_law_463 (lv_at hl 1 rfl) ?_
  refine lv_iconst (pc := 465) (v := 3) hx hb dL_law_465 (by decide) ?_
  refine lv_iadd (pc := 466) hx hb dL_law_466 ?_
  refine va_sld (A := A) (pc := 467) hx hb hX hbl hbA hS hv3 dL_law_467 ?_
  refine W.eq (g2 := F0 m 468 ls [.int v3, .int v2, .int v1, .ref (ad 4 0)]) (by rw [e3]) ?_
  refine lv_aload_n (pc := 468) hx hb dL_law_468 rfl (lv_at hl 5 rfl) ?_
  refine lv_iload (pc := 469) hx hb dL_law_469 (lv_at hl 1 rfl) ?_
  refine lv_iconst (pc := 471) (v := 4) hx hb dL_law_471 (by decide) ?_
  refine lv_iadd (pc := 472) hx hb dL_law_472 ?_
  refine va_sld (A := A) (pc := 473) hx hb hX hbl hbA hS hv4 dL_law_473 ?_
  refine W.eq (g2 := F0 m 474 ls [.int v4, .int v3, .int v2, .int v1, .ref (ad 4 0)]) (by rw [e4]) ?_
  refine lv_aload_n (pc := 474) hx hb dL_law_474 rfl (lv_at hl 5 rfl) ?_
  refine lv_iload (pc := 475) hx hb dL_law_475 (lv_at hl 1 rfl) ?_
  refine lv_iconst (pc := 477) (v := 5) hx hb dL_law_477 (by decide) ?_
  refine lv_iadd (pc := 478) hx hb dL_law_478 ?_
  refine va_sld (A := A) (pc := 479) hx hb hX hbl hbA hS hv5 dL_law_479 ?_
  refine W.eq (g2 := F0 m 480 ls [.int v5, .int v4, .int v3, .int v2, .int v1, .ref (ad 4 0)]) (by rw [e5]) ?_
  obtain ⟨q3, hq3, eq3⟩ := at_4 (ad := ad) (ca := ca) (σ := σ2) hmM
  obtain ⟨⟨y4, σ5⟩, hy4, hf⟩ := ob hf
  have hFc := w9_free hD hS hA
  refine va_calli (pc := 480) (va_runV (As := [.int v1, .int v2, .int v3, .int v4, .int v5]) (rest := []) ⟨hx, hb, hml, hown, hts⟩ (t_M_ref l dC dI ad ca dom H.size σ2 v1 v2 v3 v4 v5 hmM hN hC y4 σ5 hy4) (cwV 5 hts (gV wd_835 wd_836 wd_837 wd_50 wd_834) rfl rfl rfl (by decide +kernel) ⟨Nat.le_of_ble_eq_true rfl, Nat.le_of_ble_eq_true rfl⟩) ⟨hW_blind, va_recv (q := (RM, TM, 11)) (q0 := q3) (ci := 4) hK.1 hP rfl eq3, hW_pre hP hK hD hG⟩ rfl rfl hl.1 rfl (lv_room (Nat.le_of_ble_eq_true rfl)) dL_law_480 ⟨show kc + 1 + 0 ≤ 601024 by omega, show ks + 6 + 0 ≤ 7293033 by omega⟩) hS (fun q _ h => hFc q h) hFc (fun r9 u t H1 locs ht hvm hr9 hB hz1 hk1 hS => ?_)
  obtain ⟨hP, hD, hC⟩ := hB
  rw [ht] at hP
  replace hD := hD.weaken (fun _ _ _ h => hFc _ h)
  generalize H1 = H at hP hS ⊢
  refine W.eq (g2 := F0 m 483 ls [.int y4]) (by rw [hr9]) ?_
  refine lv_istore (pc := 483) hx hb dL_law_483 hl (by decide) rfl (fun ls hl => ?_)
  have hl : lv_has ls 7 [(6, .int y4), (5, .int y1), (4, .int i), (3, .ref (ad 24 0)), (2, .ref (ad 4 0)), (1, .ref (ad 0 0)), (0, .ref b)] := hl
  refine lv_goto (pc := 485) (tgt := 1217) hx hb dL_law_485 rfl ?_
  obtain ⟨-, h9⟩ := Prod.mk.inj (Option.some.inj hf)
  subst h9
  have hl := lv_sub hl (l' := [(4, .int i), (3, .ref (ad 24 0)), (2, .ref (ad 4 0)), (1, .ref (ad 0 0)), (0, .ref b)]) [2, 3, 4, 5, 6] rfl
  refine W.widen (k := kc + 16) (n := ks + 101) (by omega) (by omega) ?_
  exact kk ad ca dom H _ ls rfl hN hC hP hD hK hS hl
set_option maxHeartbeats 4000000 in
set_option maxRecDepth 100000 in
theorem lawc_7 {p : Program} {l : Launch} {e : Env} {s : State} {m : MethodId} {below : List Frame} {meth : Method} {c : Code} {b L : Nat} {xs : Nat → Int32} {A : Nat → Prop} {H : Heap} {locs : List Loc} {ls : Array Slot} {dC : Nat → ClassId} {dI : Nat → Nat → Nat} {Q : State → Prop} {kc ks : Nat} (hfl : l.stackTraces = false) (C : lawH p s m meth c b L xs A) (ad : Nat → Nat → Nat) (ca : Nat → Nat → ClassId) (dom : List (Nat × Nat)) (σ : hT) (i : Int32) (n : Nat) (v1 v2 v3 v4 v5 : Int32)
    (hv1 : vp_in (i + 1) L) (hv2 : vp_in (i + 2) L) (hv3 : vp_in (i + 3) L) (hv4 : vp_in (i + 4) L) (hv5 : vp_in (i + 5) L) (e1 : xs (i + 1).toNatClampNeg = v1) (e2 : xs (i + 2).toNatClampNeg = v2) (e3 : xs (i + 3).toNatClampNeg = v3) (e4 : xs (i + 4).toNatClampNeg = v4) (e5 : xs (i + 5).toNatClampNeg = v5)
    (hmV : (0, 0) ∈ dom) (hmM : (4, 0) ∈ dom) (hmO : (24, 0) ∈ dom) (hN : dom.Nodup) (hC : clo dom σ.2.2) (hP : va_P (dC, dI) kCl (w9 ad ca dom σ) H) (hD : va_D A (w9 ad ca dom σ)) (hK : hkt (dC, dI) ca dom s) (hS : va_S A s.heap H locs) (hl : lv_has ls 7 [(4, .int i), (3, .ref (ad 24 0)), (2, .ref (ad 4 0)), (1, .ref (ad 0 0)), (0, .ref b)]) (hkc : kc + 16 ≤ 601024) (hks : ks + 101 ≤ 7293033) (σ' : hT) (hf : LC_7 n σ v1 v2 v3 v4 v5 = some (1, σ'))
    (kk : ∀ (ad' : Nat → Nat → Nat) (ca' : Nat → Nat → ClassId) (dom' : List (Nat × Nat)) (H' : Heap) (locs' : List Loc) (ls' : Array Slot), dom' = dom → dom'.Nodup → clo dom' σ'.2.2 → va_P (dC, dI) kCl (w9 ad' ca' dom' σ') H' → va_D A (w9 ad' ca' dom' σ') → hkt (dC, dI) ca' dom' s → va_S A s.heap H' locs' → lv_has ls' 7 [(4, .int i), (3, .ref (ad' 24 0)), (2, .ref (ad' 4 0)), (1, .ref (ad' 0 0)), (0, .ref b)] → W p l e room_1 s m #[Value.ref b] below meth c H' locs' (kc + 16) (ks + 101) Q (F0 m 1217 ls' [])) :
    W p l e room_1 s m #[Value.ref b] below meth c H locs kc ks Q (F0 m 488 ls []) := by
  obtain ⟨hx, hb, hr, hml, hown, hts, hX, hbl, hbA, hlocks, hA, hA2, hG, hE0⟩ := C
  unfold LC_7 at hf
  refine lv_aload_n (pc := 488) hx hb dL_law_488 rfl (lv_at hl 3 rfl) ?_
  refine lv_aload_n (pc := 489) hx hb dL_law_489 rfl (lv_at hl 4 rfl) ?_
  refine lv_iload (pc := 490) hx hb dL_law_490 (lv_at hl 0 rfl) ?_
  refine lv_iconst (pc := 492) (v := 1) hx hb dL_law_492 (by decide) ?_
  refine lv_iadd (pc := 493) hx hb dL_law_493 ?_
  refine va_sld (A := A) (pc := 494) hx hb hX hbl hbA hS hv1 dL_law_494 ?_
  refine W.eq (g2 := F0 m 495 ls [.int v1, .ref (ad 0 0)]) (by rw [e1]) ?_
  refine lv_aload_n (pc := 495) hx hb dL_law_495 rfl (lv_at hl 4 rfl) ?_
  refine lv_iload (pc := 496) hx hb dL_law_496 (lv_at hl 0 rfl) ?_
  refine lv_iconst (pc := 498) (v := 2) hx hb dL_law_498 (by decide) ?_
  refine lv_iadd (pc := 499) hx hb dL_law_499 ?_
  refine va_sld (A := A) (pc := 500) hx hb hX hbl hbA hS hv2 dL_law_500 ?_
  refine W.eq (g2 := F0 m 501 ls [.int v2, .int v1, .ref (ad 0 0)]) (by rw [e2]) ?_
  refine lv_aload_n (pc := 501) hx hb dL_law_501 rfl (lv_at hl 4 rfl) ?_
  refine lv_iload (pc := 502) hx hb dL_law_502 (lv_at hl 0 rfl) ?_
  refine lv_iconst (pc := 504) (v := 3) hx hb dL_law_504 (by decide) ?_
  refine lv_iadd (pc := 505) hx hb dL_law_505 ?_
  refine va_sld (A := A) (pc := 506) hx hb hX hbl hbA hS hv3 dL_law_506 ?_
  refine W.eq (g2 := F0 m 507 ls [.int v3, .int v2, .int v1, .ref (ad 0 0)]) (by rw [e3]) ?_
  refine lv_aload_n (pc := 507) hx hb dL_law_507 rfl (lv_at hl 1 rfl) ?_
  obtain ⟨⟨y1, σ2⟩, hy1, hf⟩ := ob hf
  have hE := xE.mono hE0 (fun q z => hA2 q (w9_xA hD z))
  have hSA : ∀ q : Nat, q < s.heap.size → A q → xS ad dom q := fun q h z => absurd (hA2 q z) (Nat.not_le.mpr h)
  have hFc := w9_free hD hS hA
  refine va_calli (pc := 508) (hxR (As := [.ref (ad 0 0), .int v1, .int v2, .int v3, .ref (ad 24 0)]) (rest := []) ⟨hx, hb, hml, hown, hts⟩ (t_L_drop l dC dI ad ca dom H.size n σ v1 v2 v3 hmV hmO hN hC hfl y1 σ2 hy1) 5 wd_839 wd_840 wd_777 wd_838 rfl rfl ⟨Nat.le_of_ble_eq_true rfl, Nat.le_of_ble_eq_true rfl⟩ (by decide +kernel) ⟨hX_blind, hX_pre hP hK hD hG hE hS hSA⟩ rfl rfl hl.1 rfl (lv_room (Nat.le_of_ble_eq_true rfl)) dL_law_508 ⟨show kc + 0 + 1 ≤ 601024 by omega, show ks + 0 + 6 ≤ 7293033 by omega⟩) hS (fun q _ h => hFc q h) hFc (fun r9 u t H1 locs ht hvm hr9 hB hz1 hk1 hS => ?_)
  obtain ⟨hP, hD, hC⟩ := hB
  rw [ht] at hP
  replace hD := hD.weaken (fun _ _ _ h => hFc _ h)
  generalize H1 = H at hP hS ⊢
  refine W.widen (k := (kc + 1)) (n := (ks + 6)) (by omega) (by omega) ?_
  refine W.eq (g2 := F0 m 511 ls [.int y1]) (by rw [hr9]) ?_
  refine lv_istore (pc := 511) hx hb dL_law_511 hl (by decide) rfl (fun ls hl => ?_)
  have hl : lv_has ls 7 [(5, .int y1), (4, .int i), (3, .ref (ad 24 0)), (2, .ref (ad 4 0)), (1, .ref (ad 0 0)), (0, .ref b)] := hl
  refine lv_aload_n (pc := 513) hx hb dL_law_513 rfl (lv_at hl 3 rfl) ?_
  refine lv_aload_n (pc := 514) hx hb dL_law_514 rfl (lv_at hl 5 rfl) ?_
  refine lv_iload (pc := 515) hx hb dL_law_515 (lv_at hl 1 rfl) ?_
  refine lv_iconst (pc := 517) (v := 1) hx hb dL_law_517 (by decide) ?_
  refine lv_iadd (pc := 518) hx hb dL_law_518 ?_
  refine va_sld (A := A) (pc := 519) hx hb hX hbl hbA hS hv1 dL_law_519 ?_
  refine W.eq (g2 := F0 m 520 ls [.int v1, .ref (ad 4 0)]) (by rw [e1]) ?_
  refine lv_aload_n (pc := 520) hx hb dL_law_520 rfl (lv_at hl 5 rfl) ?_
  refine lv_iload (pc := 521) hx hb dL_law_521 (lv_at hl 1 rfl) ?_
  refine lv_iconst (pc := 523) (v := 2) hx hb dL_law_523 (by decide) ?_
  refine lv_iadd (pc := 524) hx hb dL_law_524 ?_
  refine va_sld (A := A) (pc := 525) hx hb hX hbl hbA hS hv2 dL_law_525 ?_
  refine W.eq (g2 := F0 m 526 ls [.int v2, .int v1, .ref (ad 4 0)]) (by rw [e2]) ?_
  refine lv_aload_n (pc := 526) hx hb dL_law_526 rfl (lv_at hl 5 rfl) ?_
  refine lv_iload (pc := 527) hx hb dL_law_527 (lv_at hl 1 rfl) ?_
  refine lv_iconst (pc := 529) (v := 3) hx hb dL_law_529 (by decide) ?_
  refine lv_iadd (pc := 530) hx hb dL_law_530 ?_
  refine va_sld (A := A) (pc := 531) hx hb hX hbl hbA hS hv3 dL_law_531 ?_
  refine W.eq (g2 := F0 m 532 ls [.int v3, .int v2, .int v1, .ref (ad 4 0)]) (by rw [e3]) ?_
  obtain ⟨q3, hq3, eq3⟩ := at_4 (ad := ad) (ca := ca) (σ := σ2) hmM
  obtain ⟨⟨y4, σ5⟩, hy4, hf⟩ := ob hf
  have hFc := w9_free hD hS hA
  refine va_calli (pc := 532) (va_runV (As := [.int v1, .int v2, .int v3]) (rest := []) ⟨hx, hb, hml, hown, hts⟩ (t_M_drop l dC dI ad ca dom H.size n σ2 v1 v2 v3 hmM hN hC y4 σ5 hy4) (cwV 3 hts (gV wd_842 wd_843 wd_844 wd_50 wd_841) rfl rfl rfl (by decide +kernel) ⟨Nat.le_of_ble_eq_true rfl, Nat.le_of_ble_eq_true rfl⟩) ⟨hW_blind, va_recv (q := (RM, TM, 11)) (q0 := q3) (ci := 4) hK.1 hP rfl eq3, hW_pre hP hK hD hG⟩ rfl rfl hl.1 rfl (lv_room (Nat.le_of_ble_eq_true rfl)) dL_law_532 ⟨show kc + 1 + 0 ≤ 601024 by omega, show ks + 6 + 0 ≤ 7293033 by omega⟩) hS (fun q _ h => hFc q h) hFc (fun r9 u t H1 locs ht hvm hr9 hB hz1 hk1 hS => ?_)
  obtain ⟨hP, hD, hC⟩ := hB
  rw [ht] at hP
  replace hD := hD.weaken (fun _ _ _ h => hFc _ h)
  generalize H1 = H at hP hS ⊢
  refine W.eq (g2 := F0 m 535 ls [.int y4]) (by rw [hr9]) ?_
  refine lv_istore (pc := 535) hx hb dL_law_535 hl (by decide) rfl (fun ls hl => ?_)
  have hl : lv_has ls 7 [(6, .int y4), (5, .int y1), (4, .int i), (3, .ref (ad 24 0)), (2, .ref (ad 4 0)), (1, .ref (ad 0 0)), (0, .ref b)] := hl
  refine lv_goto (pc := 537) (tgt := 1217) hx hb dL_law_537 rfl ?_
  obtain ⟨-, h9⟩ := Prod.mk.inj (Option.some.inj hf)
  subst h9
  have hl := lv_sub hl (l' := [(4, .int i), (3, .ref (ad 24 0)), (2, .ref (ad 4 0)), (1, .ref (ad 0 0)), (0, .ref b)]) [2, 3, 4, 5, 6] rfl
  refine W.widen (k := kc + 16) (n := ks + 101) (by omega) (by omega) ?_
  exact kk ad ca dom H _ ls rfl hN hC hP hD hK hS hl
