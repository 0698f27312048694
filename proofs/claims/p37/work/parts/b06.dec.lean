/-! THE LAW'S DECODE ROWS, 6 -/
theorem dL_law_242 : decode cL_law 242 = .ok (.iastore, 1) := by decide +kernel
theorem dL_law_243 : decode cL_law 243 = .ok (.aload_n 3, 1) := by decide +kernel
theorem dL_law_244 : decode cL_law 244 = .ok (.iload 13, 2) := by decide +kernel
theorem dL_law_246 : decode cL_law 246 = .ok (.iconst 4, 1) := by decide +kernel
theorem dL_law_247 : decode cL_law 247 = .ok (.iadd, 1) := by decide +kernel
theorem dL_law_248 : decode cL_law 248 = .ok (.iconst 0, 1) := by decide +kernel
theorem dL_law_249 : decode cL_law 249 = .ok (.iastore, 1) := by decide +kernel
theorem dL_law_250 : decode cL_law 250 = .ok (.goto 1718, 3) := by decide +kernel
theorem dL_law_253 : decode cL_law 253 = .ok (.iload 10, 2) := by decide +kernel
theorem dL_law_255 : decode cL_law 255 = .ok (.bipush 7, 2) := by decide +kernel
theorem dL_law_257 : decode cL_law 257 = .ok (.if_icmp .ge 140, 3) := by decide +kernel
theorem dL_law_260 : decode cL_law 260 = .ok (.iload 14, 2) := by decide +kernel
theorem dL_law_262 : decode cL_law 262 = .ok (.iconst 3, 1) := by decide +kernel
theorem dL_law_263 : decode cL_law 263 = .ok (.irem, 1) := by decide +kernel
theorem dL_law_264 : decode cL_law 264 = .ok (.ifCond .ne 26, 3) := by decide +kernel
theorem dL_law_267 : decode cL_law 267 = .ok (.aload_n 1, 1) := by decide +kernel
theorem dL_law_268 : decode cL_law 268 = .ok (.iconst 2, 1) := by decide +kernel
theorem dL_law_269 : decode cL_law 269 = .ok (.iload 12, 2) := by decide +kernel
theorem dL_law_271 : decode cL_law 271 = .ok (.iload 15, 2) := by decide +kernel
theorem dL_law_273 : decode cL_law 273 = .ok (.iload 16, 2) := by decide +kernel
theorem dL_law_275 : decode cL_law 275 = .ok (.iload 14, 2) := by decide +kernel
theorem dL_law_277 : decode cL_law 277 = .ok (.bipush 48, 2) := by decide +kernel
theorem dL_law_279 : decode cL_law 279 = .ok (.idiv, 1) := by decide +kernel
theorem dL_law_280 : decode cL_law 280 = .ok (.iconst 2, 1) := by decide +kernel
theorem dL_law_281 : decode cL_law 281 = .ok (.irem, 1) := by decide +kernel
theorem dL_law_282 : decode cL_law 282 = .ok (.iconst 0, 1) := by decide +kernel
theorem dL_law_283 : decode cL_law 283 = .ok (.iconst 0, 1) := by decide +kernel
theorem dL_law_284 : decode cL_law 284 = .ok (.invokestatic 149, 3) := by decide +kernel
theorem dL_law_287 : decode cL_law 287 = .ok (.goto 19, 3) := by decide +kernel
theorem dL_law_290 : decode cL_law 290 = .ok (.aload_n 1, 1) := by decide +kernel
theorem dL_law_291 : decode cL_law 291 = .ok (.iconst 1, 1) := by decide +kernel
theorem dL_law_292 : decode cL_law 292 = .ok (.iload 12, 2) := by decide +kernel
theorem dL_law_294 : decode cL_law 294 = .ok (.iload 15, 2) := by decide +kernel
theorem dL_law_296 : decode cL_law 296 = .ok (.iload 16, 2) := by decide +kernel
theorem dL_law_298 : decode cL_law 298 = .ok (.sipush 10000, 3) := by decide +kernel
theorem dL_law_301 : decode cL_law 301 = .ok (.iconst 1, 1) := by decide +kernel
theorem dL_law_302 : decode cL_law 302 = .ok (.iconst 0, 1) := by decide +kernel
theorem dL_law_303 : decode cL_law 303 = .ok (.invokestatic 149, 3) := by decide +kernel
theorem dL_law_306 : decode cL_law 306 = .ok (.istore 18, 2) := by decide +kernel
theorem dL_law_308 : decode cL_law 308 = .ok (.aload_n 3, 1) := by decide +kernel
theorem dL_law_309 : decode cL_law 309 = .ok (.iload 13, 2) := by decide +kernel
theorem dL_law_311 : decode cL_law 311 = .ok (.iaload, 1) := by decide +kernel
theorem dL_law_312 : decode cL_law 312 = .ok (.ifCond .ne 18, 3) := by decide +kernel
theorem dL_law_315 : decode cL_law 315 = .ok (.iload 18, 2) := by decide +kernel
theorem dL_law_317 : decode cL_law 317 = .ok (.ldc 113, 2) := by decide +kernel
theorem dL_law_319 : decode cL_law 319 = .ok (.if_icmp .ne 7, 3) := by decide +kernel
theorem dL_law_322 : decode cL_law 322 = .ok (.iconst 1, 1) := by decide +kernel
theorem dL_law_323 : decode cL_law 323 = .ok (.goto 38, 3) := by decide +kernel
theorem dL_law_326 : decode cL_law 326 = .ok (.iconst 0, 1) := by decide +kernel
theorem dL_law_327 : decode cL_law 327 = .ok (.goto 34, 3) := by decide +kernel
theorem dL_law_330 : decode cL_law 330 = .ok (.iload 18, 2) := by decide +kernel
theorem dL_law_332 : decode cL_law 332 = .ok (.ldc 107, 2) := by decide +kernel
theorem dL_law_334 : decode cL_law 334 = .ok (.if_icmp .eq 26, 3) := by decide +kernel
theorem dL_law_337 : decode cL_law 337 = .ok (.iload 18, 2) := by decide +kernel
theorem dL_law_339 : decode cL_law 339 = .ok (.ldc 110, 2) := by decide +kernel
theorem dL_law_341 : decode cL_law 341 = .ok (.if_icmp .eq 19, 3) := by decide +kernel
theorem dL_law_344 : decode cL_law 344 = .ok (.iload 14, 2) := by decide +kernel
theorem dL_law_346 : decode cL_law 346 = .ok (.iconst 3, 1) := by decide +kernel
theorem dL_law_347 : decode cL_law 347 = .ok (.irem, 1) := by decide +kernel
theorem dL_law_348 : decode cL_law 348 = .ok (.ifCond .gt 8, 3) := by decide +kernel
theorem dL_law_351 : decode cL_law 351 = .ok (.iload 18, 2) := by decide +kernel
theorem dL_law_353 : decode cL_law 353 = .ok (.ifCond .lt 7, 3) := by decide +kernel
theorem dL_law_356 : decode cL_law 356 = .ok (.iconst 1, 1) := by decide +kernel
theorem dL_law_357 : decode cL_law 357 = .ok (.goto 4, 3) := by decide +kernel
theorem dL_law_360 : decode cL_law 360 = .ok (.iconst 0, 1) := by decide +kernel
theorem dL_law_361 : decode cL_law 361 = .ok (.istore 7, 2) := by decide +kernel
theorem dL_law_363 : decode cL_law 363 = .ok (.aload_n 3, 1) := by decide +kernel
theorem dL_law_364 : decode cL_law 364 = .ok (.iload 13, 2) := by decide +kernel
theorem dL_law_366 : decode cL_law 366 = .ok (.iconst 2, 1) := by decide +kernel
theorem dL_law_367 : decode cL_law 367 = .ok (.iadd, 1) := by decide +kernel
theorem dL_law_368 : decode cL_law 368 = .ok (.aload_n 3, 1) := by decide +kernel
theorem dL_law_369 : decode cL_law 369 = .ok (.iload 13, 2) := by decide +kernel
theorem dL_law_371 : decode cL_law 371 = .ok (.iaload, 1) := by decide +kernel
theorem dL_law_372 : decode cL_law 372 = .ok (.iconst 1, 1) := by decide +kernel
theorem dL_law_373 : decode cL_law 373 = .ok (.if_icmp .ne 14, 3) := by decide +kernel
theorem dL_law_376 : decode cL_law 376 = .ok (.iload 18, 2) := by decide +kernel
theorem dL_law_378 : decode cL_law 378 = .ok (.ldc 113, 2) := by decide +kernel
theorem dL_law_380 : decode cL_law 380 = .ok (.if_icmp .eq 7, 3) := by decide +kernel
theorem dL_law_383 : decode cL_law 383 = .ok (.iconst 1, 1) := by decide +kernel
theorem dL_law_384 : decode cL_law 384 = .ok (.goto 9, 3) := by decide +kernel
theorem dL_law_387 : decode cL_law 387 = .ok (.aload_n 3, 1) := by decide +kernel
theorem dL_law_388 : decode cL_law 388 = .ok (.iload 13, 2) := by decide +kernel
theorem dL_law_390 : decode cL_law 390 = .ok (.iconst 2, 1) := by decide +kernel
theorem dL_law_391 : decode cL_law 391 = .ok (.iadd, 1) := by decide +kernel
theorem dL_law_392 : decode cL_law 392 = .ok (.iaload, 1) := by decide +kernel
theorem dL_law_393 : decode cL_law 393 = .ok (.iastore, 1) := by decide +kernel
theorem dL_law_394 : decode cL_law 394 = .ok (.goto 1574, 3) := by decide +kernel
theorem dL_law_397 : decode cL_law 397 = .ok (.iload 10, 2) := by decide +kernel
theorem dL_law_399 : decode cL_law 399 = .ok (.bipush 17, 2) := by decide +kernel
theorem dL_law_401 : decode cL_law 401 = .ok (.if_icmp .ge 147, 3) := by decide +kernel
theorem dL_law_404 : decode cL_law 404 = .ok (.iload 14, 2) := by decide +kernel
theorem dL_law_406 : decode cL_law 406 = .ok (.bipush 48, 2) := by decide +kernel
theorem dL_law_408 : decode cL_law 408 = .ok (.idiv, 1) := by decide +kernel
theorem dL_law_409 : decode cL_law 409 = .ok (.bipush 9, 2) := by decide +kernel
theorem dL_law_411 : decode cL_law 411 = .ok (.irem, 1) := by decide +kernel
theorem dL_law_412 : decode cL_law 412 = .ok (.ifCond .ne 7, 3) := by decide +kernel
theorem dL_law_415 : decode cL_law 415 = .ok (.iconst 1, 1) := by decide +kernel
theorem dL_law_416 : decode cL_law 416 = .ok (.goto 4, 3) := by decide +kernel
theorem dL_law_419 : decode cL_law 419 = .ok (.iconst 0, 1) := by decide +kernel
theorem dL_law_420 : decode cL_law 420 = .ok (.istore 18, 2) := by decide +kernel
theorem dL_law_422 : decode cL_law 422 = .ok (.iload 18, 2) := by decide +kernel
theorem dL_law_424 : decode cL_law 424 = .ok (.ifCond .eq 20, 3) := by decide +kernel
theorem dL_law_427 : decode cL_law 427 = .ok (.aload_n 1, 1) := by decide +kernel
theorem dL_law_428 : decode cL_law 428 = .ok (.iconst 5, 1) := by decide +kernel
theorem dL_law_429 : decode cL_law 429 = .ok (.iload 12, 2) := by decide +kernel
theorem dL_law_431 : decode cL_law 431 = .ok (.iload 15, 2) := by decide +kernel
theorem dL_law_433 : decode cL_law 433 = .ok (.iload 16, 2) := by decide +kernel
theorem dL_law_435 : decode cL_law 435 = .ok (.iconst 0, 1) := by decide +kernel
theorem dL_law_436 : decode cL_law 436 = .ok (.iconst 0, 1) := by decide +kernel
theorem dL_law_437 : decode cL_law 437 = .ok (.iconst 0, 1) := by decide +kernel
theorem dL_law_438 : decode cL_law 438 = .ok (.invokestatic 149, 3) := by decide +kernel
theorem dL_law_441 : decode cL_law 441 = .ok (.goto 36, 3) := by decide +kernel
theorem dL_law_444 : decode cL_law 444 = .ok (.aload_n 1, 1) := by decide +kernel
theorem dL_law_445 : decode cL_law 445 = .ok (.iconst 4, 1) := by decide +kernel
theorem dL_law_446 : decode cL_law 446 = .ok (.iload 12, 2) := by decide +kernel
theorem dL_law_448 : decode cL_law 448 = .ok (.iload 14, 2) := by decide +kernel
theorem dL_law_450 : decode cL_law 450 = .ok (.bipush 48, 2) := by decide +kernel
theorem dL_law_452 : decode cL_law 452 = .ok (.idiv, 1) := by decide +kernel
theorem dL_law_453 : decode cL_law 453 = .ok (.bipush 7, 2) := by decide +kernel
theorem dL_law_455 : decode cL_law 455 = .ok (.irem, 1) := by decide +kernel
theorem dL_law_456 : decode cL_law 456 = .ok (.iload 15, 2) := by decide +kernel
theorem dL_law_458 : decode cL_law 458 = .ok (.iload 16, 2) := by decide +kernel
theorem dL_law_460 : decode cL_law 460 = .ok (.sipush 10000, 3) := by decide +kernel
theorem dL_law_463 : decode cL_law 463 = .ok (.iload 14, 2) := by decide +kernel
theorem dL_law_465 : decode cL_law 465 = .ok (.sipush 432, 3) := by decide +kernel
theorem dL_law_468 : decode cL_law 468 = .ok (.idiv, 1) := by decide +kernel
theorem dL_law_469 : decode cL_law 469 = .ok (.bipush 9, 2) := by decide +kernel
theorem dL_law_471 : decode cL_law 471 = .ok (.irem, 1) := by decide +kernel
theorem dL_law_472 : decode cL_law 472 = .ok (.iconst 4, 1) := by decide +kernel
theorem dL_law_473 : decode cL_law 473 = .ok (.isub, 1) := by decide +kernel
theorem dL_law_474 : decode cL_law 474 = .ok (.invokestatic 149, 3) := by decide +kernel
theorem dL_law_477 : decode cL_law 477 = .ok (.istore 19, 2) := by decide +kernel
theorem dL_law_479 : decode cL_law 479 = .ok (.iload 19, 2) := by decide +kernel
theorem dL_law_481 : decode cL_law 481 = .ok (.aload_n 3, 1) := by decide +kernel
theorem dL_law_482 : decode cL_law 482 = .ok (.iload 13, 2) := by decide +kernel
theorem dL_law_484 : decode cL_law 484 = .ok (.iaload, 1) := by decide +kernel
theorem dL_law_485 : decode cL_law 485 = .ok (.iconst 1, 1) := by decide +kernel
theorem dL_law_486 : decode cL_law 486 = .ok (.if_icmp .ne 25, 3) := by decide +kernel
theorem dL_law_489 : decode cL_law 489 = .ok (.aload_n 3, 1) := by decide +kernel
theorem dL_law_490 : decode cL_law 490 = .ok (.iload 13, 2) := by decide +kernel
theorem dL_law_492 : decode cL_law 492 = .ok (.iconst 3, 1) := by decide +kernel
theorem dL_law_493 : decode cL_law 493 = .ok (.iadd, 1) := by decide +kernel
theorem dL_law_494 : decode cL_law 494 = .ok (.iaload, 1) := by decide +kernel
theorem dL_law_495 : decode cL_law 495 = .ok (.bipush 12, 2) := by decide +kernel
theorem dL_law_497 : decode cL_law 497 = .ok (.if_icmp .ge 14, 3) := by decide +kernel
theorem dL_law_500 : decode cL_law 500 = .ok (.aload_n 3, 1) := by decide +kernel
theorem dL_law_501 : decode cL_law 501 = .ok (.iload 13, 2) := by decide +kernel
theorem dL_law_503 : decode cL_law 503 = .ok (.iconst 3, 1) := by decide +kernel
theorem dL_law_504 : decode cL_law 504 = .ok (.iadd, 1) := by decide +kernel
theorem dL_law_505 : decode cL_law 505 = .ok (.iaload, 1) := by decide +kernel
