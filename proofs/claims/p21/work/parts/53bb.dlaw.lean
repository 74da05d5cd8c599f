theorem dL_law_251 : decode cL_law 251 = .ok (.iload 6, 2) := by decide +kernel
theorem dL_law_253 : decode cL_law 253 = .ok (.ifCond .eq 31, 3) := by decide +kernel
theorem dL_law_256 : decode cL_law 256 = .ok (.aload 10, 2) := by decide +kernel
theorem dL_law_258 : decode cL_law 258 = .ok (.iload 12, 2) := by decide +kernel
theorem dL_law_260 : decode cL_law 260 = .ok (.aaload, 1) := by decide +kernel
theorem dL_law_261 : decode cL_law 261 = .ok (.iconst 4, 1) := by decide +kernel
theorem dL_law_262 : decode cL_law 262 = .ok (.iaload, 1) := by decide +kernel
theorem dL_law_263 : decode cL_law 263 = .ok (.iconst 2, 1) := by decide +kernel
theorem dL_law_264 : decode cL_law 264 = .ok (.if_icmp .ne 20, 3) := by decide +kernel
theorem dL_law_267 : decode cL_law 267 = .ok (.aload 11, 2) := by decide +kernel
theorem dL_law_269 : decode cL_law 269 = .ok (.iload 12, 2) := by decide +kernel
theorem dL_law_271 : decode cL_law 271 = .ok (.iaload, 1) := by decide +kernel
theorem dL_law_272 : decode cL_law 272 = .ok (.aload 10, 2) := by decide +kernel
theorem dL_law_274 : decode cL_law 274 = .ok (.iload 12, 2) := by decide +kernel
theorem dL_law_276 : decode cL_law 276 = .ok (.aaload, 1) := by decide +kernel
theorem dL_law_277 : decode cL_law 277 = .ok (.iconst 1, 1) := by decide +kernel
theorem dL_law_278 : decode cL_law 278 = .ok (.iaload, 1) := by decide +kernel
theorem dL_law_279 : decode cL_law 279 = .ok (.if_icmp .eq 5, 3) := by decide +kernel
theorem dL_law_282 : decode cL_law 282 = .ok (.iconst 0, 1) := by decide +kernel
theorem dL_law_283 : decode cL_law 283 = .ok (.ireturn, 1) := by decide +kernel
theorem dL_law_284 : decode cL_law 284 = .ok (.iinc 12 1, 3) := by decide +kernel
theorem dL_law_287 : decode cL_law 287 = .ok (.goto (-131), 3) := by decide +kernel
theorem dL_law_290 : decode cL_law 290 = .ok (.aload_n 1, 1) := by decide +kernel
theorem dL_law_291 : decode cL_law 291 = .ok (.iconst 1, 1) := by decide +kernel
theorem dL_law_292 : decode cL_law 292 = .ok (.invokevirtual 85, 3) := by decide +kernel
theorem dL_law_295 : decode cL_law 295 = .ok (.istore 12, 2) := by decide +kernel
theorem dL_law_297 : decode cL_law 297 = .ok (.aload_n 2, 1) := by decide +kernel
theorem dL_law_298 : decode cL_law 298 = .ok (.invokevirtual 88, 3) := by decide +kernel
theorem dL_law_301 : decode cL_law 301 = .ok (.pop, 1) := by decide +kernel
theorem dL_law_302 : decode cL_law 302 = .ok (.iconst 0, 1) := by decide +kernel
theorem dL_law_303 : decode cL_law 303 = .ok (.istore 13, 2) := by decide +kernel
theorem dL_law_305 : decode cL_law 305 = .ok (.iconst 0, 1) := by decide +kernel
theorem dL_law_306 : decode cL_law 306 = .ok (.istore 14, 2) := by decide +kernel
theorem dL_law_308 : decode cL_law 308 = .ok (.iconst 0, 1) := by decide +kernel
theorem dL_law_309 : decode cL_law 309 = .ok (.istore 15, 2) := by decide +kernel
theorem dL_law_311 : decode cL_law 311 = .ok (.iload 15, 2) := by decide +kernel
theorem dL_law_313 : decode cL_law 313 = .ok (.iload 5, 2) := by decide +kernel
theorem dL_law_315 : decode cL_law 315 = .ok (.if_icmp .ge 712, 3) := by decide +kernel
theorem dL_law_318 : decode cL_law 318 = .ok (.aload_n 1, 1) := by decide +kernel
theorem dL_law_319 : decode cL_law 319 = .ok (.iload 15, 2) := by decide +kernel
theorem dL_law_321 : decode cL_law 321 = .ok (.iconst 4, 1) := by decide +kernel
theorem dL_law_322 : decode cL_law 322 = .ok (.invokevirtual 99, 3) := by decide +kernel
theorem dL_law_325 : decode cL_law 325 = .ok (.istore 16, 2) := by decide +kernel
theorem dL_law_327 : decode cL_law 327 = .ok (.iload 6, 2) := by decide +kernel
theorem dL_law_329 : decode cL_law 329 = .ok (.ifCond .eq 18, 3) := by decide +kernel
theorem dL_law_332 : decode cL_law 332 = .ok (.aload 10, 2) := by decide +kernel
theorem dL_law_334 : decode cL_law 334 = .ok (.iload 15, 2) := by decide +kernel
theorem dL_law_336 : decode cL_law 336 = .ok (.aaload, 1) := by decide +kernel
theorem dL_law_337 : decode cL_law 337 = .ok (.iconst 4, 1) := by decide +kernel
theorem dL_law_338 : decode cL_law 338 = .ok (.iaload, 1) := by decide +kernel
theorem dL_law_339 : decode cL_law 339 = .ok (.iconst 1, 1) := by decide +kernel
theorem dL_law_340 : decode cL_law 340 = .ok (.if_icmp .ne 7, 3) := by decide +kernel
theorem dL_law_343 : decode cL_law 343 = .ok (.iconst 1, 1) := by decide +kernel
theorem dL_law_344 : decode cL_law 344 = .ok (.goto 4, 3) := by decide +kernel
theorem dL_law_347 : decode cL_law 347 = .ok (.iconst 0, 1) := by decide +kernel
theorem dL_law_348 : decode cL_law 348 = .ok (.istore 17, 2) := by decide +kernel
theorem dL_law_350 : decode cL_law 350 = .ok (.iload 17, 2) := by decide +kernel
theorem dL_law_352 : decode cL_law 352 = .ok (.ifCond .eq 29, 3) := by decide +kernel
theorem dL_law_355 : decode cL_law 355 = .ok (.aload 10, 2) := by decide +kernel
theorem dL_law_357 : decode cL_law 357 = .ok (.iload 15, 2) := by decide +kernel
theorem dL_law_359 : decode cL_law 359 = .ok (.aaload, 1) := by decide +kernel
theorem dL_law_360 : decode cL_law 360 = .ok (.iconst 3, 1) := by decide +kernel
theorem dL_law_361 : decode cL_law 361 = .ok (.iaload, 1) := by decide +kernel
theorem dL_law_362 : decode cL_law 362 = .ok (.ifCond .ne 19, 3) := by decide +kernel
theorem dL_law_365 : decode cL_law 365 = .ok (.aload 9, 2) := by decide +kernel
theorem dL_law_367 : decode cL_law 367 = .ok (.iload 15, 2) := by decide +kernel
theorem dL_law_369 : decode cL_law 369 = .ok (.aaload, 1) := by decide +kernel
theorem dL_law_370 : decode cL_law 370 = .ok (.iconst 5, 1) := by decide +kernel
theorem dL_law_371 : decode cL_law 371 = .ok (.iaload, 1) := by decide +kernel
theorem dL_law_372 : decode cL_law 372 = .ok (.bipush 30, 2) := by decide +kernel
theorem dL_law_374 : decode cL_law 374 = .ok (.if_icmp .le 7, 3) := by decide +kernel
theorem dL_law_377 : decode cL_law 377 = .ok (.iconst 1, 1) := by decide +kernel
theorem dL_law_378 : decode cL_law 378 = .ok (.goto 4, 3) := by decide +kernel
theorem dL_law_381 : decode cL_law 381 = .ok (.iconst 0, 1) := by decide +kernel
theorem dL_law_382 : decode cL_law 382 = .ok (.istore 18, 2) := by decide +kernel
theorem dL_law_384 : decode cL_law 384 = .ok (.iload 17, 2) := by decide +kernel
theorem dL_law_386 : decode cL_law 386 = .ok (.ifCond .eq 29, 3) := by decide +kernel
theorem dL_law_389 : decode cL_law 389 = .ok (.aload 10, 2) := by decide +kernel
theorem dL_law_391 : decode cL_law 391 = .ok (.iload 15, 2) := by decide +kernel
theorem dL_law_393 : decode cL_law 393 = .ok (.aaload, 1) := by decide +kernel
theorem dL_law_394 : decode cL_law 394 = .ok (.iconst 3, 1) := by decide +kernel
theorem dL_law_395 : decode cL_law 395 = .ok (.iaload, 1) := by decide +kernel
theorem dL_law_396 : decode cL_law 396 = .ok (.ifCond .ne 19, 3) := by decide +kernel
theorem dL_law_399 : decode cL_law 399 = .ok (.aload 9, 2) := by decide +kernel
theorem dL_law_401 : decode cL_law 401 = .ok (.iload 15, 2) := by decide +kernel
theorem dL_law_403 : decode cL_law 403 = .ok (.aaload, 1) := by decide +kernel
theorem dL_law_404 : decode cL_law 404 = .ok (.iconst 5, 1) := by decide +kernel
theorem dL_law_405 : decode cL_law 405 = .ok (.iaload, 1) := by decide +kernel
theorem dL_law_406 : decode cL_law 406 = .ok (.bipush 30, 2) := by decide +kernel
theorem dL_law_408 : decode cL_law 408 = .ok (.if_icmp .gt 7, 3) := by decide +kernel
theorem dL_law_411 : decode cL_law 411 = .ok (.iconst 1, 1) := by decide +kernel
theorem dL_law_412 : decode cL_law 412 = .ok (.goto 4, 3) := by decide +kernel
theorem dL_law_415 : decode cL_law 415 = .ok (.iconst 0, 1) := by decide +kernel
theorem dL_law_416 : decode cL_law 416 = .ok (.istore 19, 2) := by decide +kernel
theorem dL_law_418 : decode cL_law 418 = .ok (.iload 7, 2) := by decide +kernel
theorem dL_law_420 : decode cL_law 420 = .ok (.iconst 5, 1) := by decide +kernel
theorem dL_law_421 : decode cL_law 421 = .ok (.irem, 1) := by decide +kernel
theorem dL_law_422 : decode cL_law 422 = .ok (.ifCond .ne 32, 3) := by decide +kernel
theorem dL_law_425 : decode cL_law 425 = .ok (.aload 9, 2) := by decide +kernel
theorem dL_law_427 : decode cL_law 427 = .ok (.iload 15, 2) := by decide +kernel
theorem dL_law_429 : decode cL_law 429 = .ok (.aaload, 1) := by decide +kernel
theorem dL_law_430 : decode cL_law 430 = .ok (.iconst 4, 1) := by decide +kernel
theorem dL_law_431 : decode cL_law 431 = .ok (.iaload, 1) := by decide +kernel
theorem dL_law_432 : decode cL_law 432 = .ok (.ifCond .le 22, 3) := by decide +kernel
theorem dL_law_435 : decode cL_law 435 = .ok (.iload 6, 2) := by decide +kernel
theorem dL_law_437 : decode cL_law 437 = .ok (.ifCond .eq 13, 3) := by decide +kernel
theorem dL_law_440 : decode cL_law 440 = .ok (.aload 10, 2) := by decide +kernel
theorem dL_law_442 : decode cL_law 442 = .ok (.iload 15, 2) := by decide +kernel
theorem dL_law_444 : decode cL_law 444 = .ok (.aaload, 1) := by decide +kernel
theorem dL_law_445 : decode cL_law 445 = .ok (.iconst 4, 1) := by decide +kernel
theorem dL_law_446 : decode cL_law 446 = .ok (.iaload, 1) := by decide +kernel
theorem dL_law_447 : decode cL_law 447 = .ok (.ifCond .ne 7, 3) := by decide +kernel
theorem dL_law_450 : decode cL_law 450 = .ok (.iconst 1, 1) := by decide +kernel
theorem dL_law_451 : decode cL_law 451 = .ok (.goto 4, 3) := by decide +kernel
theorem dL_law_454 : decode cL_law 454 = .ok (.iconst 0, 1) := by decide +kernel
theorem dL_law_455 : decode cL_law 455 = .ok (.istore 20, 2) := by decide +kernel
theorem dL_law_457 : decode cL_law 457 = .ok (.iload 16, 2) := by decide +kernel
theorem dL_law_459 : decode cL_law 459 = .ok (.iload 18, 2) := by decide +kernel
theorem dL_law_461 : decode cL_law 461 = .ok (.ifCond .eq 20, 3) := by decide +kernel
theorem dL_law_464 : decode cL_law 464 = .ok (.bipush 9, 2) := by decide +kernel
theorem dL_law_466 : decode cL_law 466 = .ok (.aload 9, 2) := by decide +kernel
theorem dL_law_468 : decode cL_law 468 = .ok (.iload 15, 2) := by decide +kernel
theorem dL_law_470 : decode cL_law 470 = .ok (.aaload, 1) := by decide +kernel
theorem dL_law_471 : decode cL_law 471 = .ok (.iconst 4, 1) := by decide +kernel
theorem dL_law_472 : decode cL_law 472 = .ok (.iaload, 1) := by decide +kernel
theorem dL_law_473 : decode cL_law 473 = .ok (.iconst 2, 1) := by decide +kernel
theorem dL_law_474 : decode cL_law 474 = .ok (.iadd, 1) := by decide +kernel
theorem dL_law_475 : decode cL_law 475 = .ok (.invokestatic 108, 3) := by decide +kernel
theorem dL_law_478 : decode cL_law 478 = .ok (.goto 27, 3) := by decide +kernel
theorem dL_law_481 : decode cL_law 481 = .ok (.iload 20, 2) := by decide +kernel
theorem dL_law_483 : decode cL_law 483 = .ok (.ifCond .eq 15, 3) := by decide +kernel
theorem dL_law_486 : decode cL_law 486 = .ok (.aload 9, 2) := by decide +kernel
theorem dL_law_488 : decode cL_law 488 = .ok (.iload 15, 2) := by decide +kernel
theorem dL_law_490 : decode cL_law 490 = .ok (.aaload, 1) := by decide +kernel
theorem dL_law_491 : decode cL_law 491 = .ok (.iconst 4, 1) := by decide +kernel
theorem dL_law_492 : decode cL_law 492 = .ok (.iaload, 1) := by decide +kernel
theorem dL_law_493 : decode cL_law 493 = .ok (.iconst 1, 1) := by decide +kernel
theorem dL_law_494 : decode cL_law 494 = .ok (.isub, 1) := by decide +kernel
theorem dL_law_495 : decode cL_law 495 = .ok (.goto 10, 3) := by decide +kernel
theorem dL_law_498 : decode cL_law 498 = .ok (.aload 9, 2) := by decide +kernel
