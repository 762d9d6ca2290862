theorem goodIn_hd {big a : List Cond} {c : Cond} (hm : c ∈ big) (hg : goodWord c = true) (ha : GoodIn big a) : GoodIn big (c :: a) := fun w h => (List.mem_cons.mp h).elim (fun e => by rw [e]; exact ⟨hm, good_of_word hg⟩) (ha w)
theorem dL_act_197 : decode cL_act 197 = .ok (.bipush 40, 2) := by decide +kernel
theorem dL_act_199 : decode cL_act 199 = .ok (.if_icmp .ge 40, 3) := by decide +kernel
theorem dL_act_202 : decode cL_act 202 = .ok (.aload_n 1, 1) := by decide +kernel
theorem dL_act_203 : decode cL_act 203 = .ok (.getfield 25, 3) := by decide +kernel
theorem dL_act_206 : decode cL_act 206 = .ok (.iload 5, 2) := by decide +kernel
theorem dL_act_208 : decode cL_act 208 = .ok (.aaload, 1) := by decide +kernel
theorem dL_act_209 : decode cL_act 209 = .ok (.arraylength, 1) := by decide +kernel
theorem dL_act_210 : decode cL_act 210 = .ok (.bipush 8, 2) := by decide +kernel
theorem dL_act_212 : decode cL_act 212 = .ok (.if_icmp .ge 27, 3) := by decide +kernel
theorem dL_act_215 : decode cL_act 215 = .ok (.aload_n 1, 1) := by decide +kernel
theorem dL_act_216 : decode cL_act 216 = .ok (.iload 5, 2) := by decide +kernel
theorem dL_act_218 : decode cL_act 218 = .ok (.aload_n 1, 1) := by decide +kernel
theorem dL_act_219 : decode cL_act 219 = .ok (.getfield 25, 3) := by decide +kernel
theorem dL_act_222 : decode cL_act 222 = .ok (.iload 5, 2) := by decide +kernel
theorem dL_act_224 : decode cL_act 224 = .ok (.aaload, 1) := by decide +kernel
theorem dL_act_225 : decode cL_act 225 = .ok (.arraylength, 1) := by decide +kernel
theorem dL_act_226 : decode cL_act 226 = .ok (.iconst 1, 1) := by decide +kernel
theorem dL_act_227 : decode cL_act 227 = .ok (.iadd, 1) := by decide +kernel
theorem dL_act_228 : decode cL_act 228 = .ok (.aconst_null, 1) := by decide +kernel
theorem dL_act_229 : decode cL_act 229 = .ok (.invokevirtual 28, 3) := by decide +kernel
theorem dL_act_232 : decode cL_act 232 = .ok (.ifCond .eq 7, 3) := by decide +kernel
theorem dL_act_235 : decode cL_act 235 = .ok (.iconst 1, 1) := by decide +kernel
theorem dL_act_236 : decode cL_act 236 = .ok (.goto 4, 3) := by decide +kernel
theorem dL_act_239 : decode cL_act 239 = .ok (.iconst 0, 1) := by decide +kernel
theorem dL_act_240 : decode cL_act 240 = .ok (.istore 8, 2) := by decide +kernel
theorem dL_act_242 : decode cL_act 242 = .ok (.aload_n 0, 1) := by decide +kernel
theorem dL_act_243 : decode cL_act 243 = .ok (.iload 5, 2) := by decide +kernel
theorem dL_act_245 : decode cL_act 245 = .ok (.iload 7, 2) := by decide +kernel
theorem dL_act_247 : decode cL_act 247 = .ok (.invokevirtual 32, 3) := by decide +kernel
theorem dL_act_250 : decode cL_act 250 = .ok (.istore 6, 2) := by decide +kernel
theorem dL_act_252 : decode cL_act 252 = .ok (.goto 8, 3) := by decide +kernel
theorem dL_act_255 : decode cL_act 255 = .ok (.astore 9, 2) := by decide +kernel
theorem dL_act_257 : decode cL_act 257 = .ok (.iconst (-1), 1) := by decide +kernel
theorem dL_act_258 : decode cL_act 258 = .ok (.istore 6, 2) := by decide +kernel
theorem dL_act_260 : decode cL_act 260 = .ok (.iload 6, 2) := by decide +kernel
theorem dL_act_262 : decode cL_act 262 = .ok (.iload 8, 2) := by decide +kernel
theorem dL_act_264 : decode cL_act 264 = .ok (.ifCond .eq 11, 3) := by decide +kernel
theorem dL_act_267 : decode cL_act 267 = .ok (.aload_n 1, 1) := by decide +kernel
theorem dL_act_268 : decode cL_act 268 = .ok (.getfield 21, 3) := by decide +kernel
theorem dL_act_271 : decode cL_act 271 = .ok (.arraylength, 1) := by decide +kernel
theorem dL_act_272 : decode cL_act 272 = .ok (.goto 4, 3) := by decide +kernel
theorem dL_act_275 : decode cL_act 275 = .ok (.iconst (-1), 1) := by decide +kernel
theorem dL_act_276 : decode cL_act 276 = .ok (.if_icmp .eq 5, 3) := by decide +kernel
theorem dL_act_279 : decode cL_act 279 = .ok (.iconst 0, 1) := by decide +kernel
theorem dL_act_280 : decode cL_act 280 = .ok (.ireturn, 1) := by decide +kernel
theorem dL_act_281 : decode cL_act 281 = .ok (.iload 8, 2) := by decide +kernel
theorem dL_act_283 : decode cL_act 283 = .ok (.ifCond .ne 5, 3) := by decide +kernel
theorem dL_act_286 : decode cL_act 286 = .ok (.iconst 1, 1) := by decide +kernel
theorem dL_act_287 : decode cL_act 287 = .ok (.ireturn, 1) := by decide +kernel
theorem dL_act_288 : decode cL_act 288 = .ok (.aload_n 1, 1) := by decide +kernel
theorem dL_act_289 : decode cL_act 289 = .ok (.getfield 25, 3) := by decide +kernel
theorem dL_act_292 : decode cL_act 292 = .ok (.iload 5, 2) := by decide +kernel
theorem dL_act_294 : decode cL_act 294 = .ok (.aload_n 1, 1) := by decide +kernel
theorem dL_act_295 : decode cL_act 295 = .ok (.getfield 25, 3) := by decide +kernel
theorem dL_act_298 : decode cL_act 298 = .ok (.iload 5, 2) := by decide +kernel
theorem dL_act_300 : decode cL_act 300 = .ok (.aaload, 1) := by decide +kernel
theorem dL_act_301 : decode cL_act 301 = .ok (.aload_n 1, 1) := by decide +kernel
theorem dL_act_302 : decode cL_act 302 = .ok (.getfield 21, 3) := by decide +kernel
theorem dL_act_305 : decode cL_act 305 = .ok (.arraylength, 1) := by decide +kernel
theorem dL_act_306 : decode cL_act 306 = .ok (.invokestatic 39, 3) := by decide +kernel
theorem dL_act_309 : decode cL_act 309 = .ok (.aastore, 1) := by decide +kernel
theorem dL_act_310 : decode cL_act 310 = .ok (.aload_n 1, 1) := by decide +kernel
theorem dL_act_311 : decode cL_act 311 = .ok (.aload_n 1, 1) := by decide +kernel
theorem dL_act_312 : decode cL_act 312 = .ok (.getfield 21, 3) := by decide +kernel
theorem dL_act_315 : decode cL_act 315 = .ok (.iload 7, 2) := by decide +kernel
theorem dL_act_317 : decode cL_act 317 = .ok (.invokestatic 39, 3) := by decide +kernel
theorem dL_act_320 : decode cL_act 320 = .ok (.putfield 21, 3) := by decide +kernel
theorem dL_act_323 : decode cL_act 323 = .ok (.iconst 1, 1) := by decide +kernel
theorem dL_act_324 : decode cL_act 324 = .ok (.ireturn, 1) := by decide +kernel
theorem dL_act_325 : decode cL_act 325 = .ok (.bipush 8, 2) := by decide +kernel
theorem dL_act_327 : decode cL_act 327 = .ok (.newarray .int, 2) := by decide +kernel
theorem dL_act_329 : decode cL_act 329 = .ok (.dup, 1) := by decide +kernel
theorem dL_act_330 : decode cL_act 330 = .ok (.iconst 0, 1) := by decide +kernel
theorem dL_act_331 : decode cL_act 331 = .ok (.iload 5, 2) := by decide +kernel
theorem dL_act_333 : decode cL_act 333 = .ok (.iastore, 1) := by decide +kernel
theorem dL_act_334 : decode cL_act 334 = .ok (.dup, 1) := by decide +kernel
theorem dL_act_335 : decode cL_act 335 = .ok (.iconst 1, 1) := by decide +kernel
theorem dL_act_336 : decode cL_act 336 = .ok (.iconst 1, 1) := by decide +kernel
theorem dL_act_337 : decode cL_act 337 = .ok (.iload_n 2, 1) := by decide +kernel
theorem dL_act_338 : decode cL_act 338 = .ok (.iconst 4, 1) := by decide +kernel
theorem dL_act_339 : decode cL_act 339 = .ok (.ishr, 1) := by decide +kernel
theorem dL_act_340 : decode cL_act 340 = .ok (.bipush 15, 2) := by decide +kernel
theorem dL_act_342 : decode cL_act 342 = .ok (.invokestatic 15, 3) := by decide +kernel
theorem dL_act_345 : decode cL_act 345 = .ok (.iadd, 1) := by decide +kernel
theorem dL_act_346 : decode cL_act 346 = .ok (.iastore, 1) := by decide +kernel
theorem dL_act_347 : decode cL_act 347 = .ok (.dup, 1) := by decide +kernel
theorem dL_act_348 : decode cL_act 348 = .ok (.iconst 2, 1) := by decide +kernel
theorem dL_act_349 : decode cL_act 349 = .ok (.iconst 1, 1) := by decide +kernel
theorem dL_act_350 : decode cL_act 350 = .ok (.iload_n 2, 1) := by decide +kernel
theorem dL_act_351 : decode cL_act 351 = .ok (.bipush 8, 2) := by decide +kernel
theorem dL_act_353 : decode cL_act 353 = .ok (.ishr, 1) := by decide +kernel
theorem dL_act_354 : decode cL_act 354 = .ok (.bipush 6, 2) := by decide +kernel
theorem dL_act_356 : decode cL_act 356 = .ok (.invokestatic 15, 3) := by decide +kernel
theorem dL_act_359 : decode cL_act 359 = .ok (.iadd, 1) := by decide +kernel
theorem dL_act_360 : decode cL_act 360 = .ok (.iastore, 1) := by decide +kernel
theorem dL_act_361 : decode cL_act 361 = .ok (.dup, 1) := by decide +kernel
theorem dL_act_362 : decode cL_act 362 = .ok (.iconst 3, 1) := by decide +kernel
theorem dL_act_363 : decode cL_act 363 = .ok (.iload_n 2, 1) := by decide +kernel
theorem dL_act_364 : decode cL_act 364 = .ok (.iconst 3, 1) := by decide +kernel
theorem dL_act_365 : decode cL_act 365 = .ok (.ishr, 1) := by decide +kernel
theorem dL_act_366 : decode cL_act 366 = .ok (.bipush 9, 2) := by decide +kernel
theorem dL_act_368 : decode cL_act 368 = .ok (.invokestatic 15, 3) := by decide +kernel
theorem dL_act_371 : decode cL_act 371 = .ok (.iastore, 1) := by decide +kernel
theorem dL_act_372 : decode cL_act 372 = .ok (.dup, 1) := by decide +kernel
theorem dL_act_373 : decode cL_act 373 = .ok (.iconst 4, 1) := by decide +kernel
theorem dL_act_374 : decode cL_act 374 = .ok (.iconst 0, 1) := by decide +kernel
theorem dL_act_375 : decode cL_act 375 = .ok (.iastore, 1) := by decide +kernel
theorem dL_act_376 : decode cL_act 376 = .ok (.dup, 1) := by decide +kernel
theorem dL_act_377 : decode cL_act 377 = .ok (.iconst 5, 1) := by decide +kernel
theorem dL_act_378 : decode cL_act 378 = .ok (.iload 5, 2) := by decide +kernel
theorem dL_act_380 : decode cL_act 380 = .ok (.iastore, 1) := by decide +kernel
theorem dL_act_381 : decode cL_act 381 = .ok (.dup, 1) := by decide +kernel
theorem dL_act_382 : decode cL_act 382 = .ok (.bipush 6, 2) := by decide +kernel
theorem dL_act_384 : decode cL_act 384 = .ok (.bipush 10, 2) := by decide +kernel
theorem dL_act_386 : decode cL_act 386 = .ok (.iastore, 1) := by decide +kernel
theorem dL_act_387 : decode cL_act 387 = .ok (.dup, 1) := by decide +kernel
theorem dL_act_388 : decode cL_act 388 = .ok (.bipush 7, 2) := by decide +kernel
theorem dL_act_390 : decode cL_act 390 = .ok (.iconst (-1), 1) := by decide +kernel
theorem dL_act_391 : decode cL_act 391 = .ok (.iastore, 1) := by decide +kernel
theorem dL_act_392 : decode cL_act 392 = .ok (.astore 7, 2) := by decide +kernel
theorem dL_act_394 : decode cL_act 394 = .ok (.aload_n 0, 1) := by decide +kernel
theorem dL_act_395 : decode cL_act 395 = .ok (.iload 5, 2) := by decide +kernel
theorem dL_act_397 : decode cL_act 397 = .ok (.aload 7, 2) := by decide +kernel
theorem dL_act_399 : decode cL_act 399 = .ok (.iconst 1, 1) := by decide +kernel
theorem dL_act_400 : decode cL_act 400 = .ok (.iaload, 1) := by decide +kernel
theorem dL_act_401 : decode cL_act 401 = .ok (.aload 7, 2) := by decide +kernel
theorem dL_act_403 : decode cL_act 403 = .ok (.iconst 2, 1) := by decide +kernel
theorem dL_act_404 : decode cL_act 404 = .ok (.iaload, 1) := by decide +kernel
theorem dL_act_405 : decode cL_act 405 = .ok (.aload 7, 2) := by decide +kernel
theorem dL_act_407 : decode cL_act 407 = .ok (.iconst 3, 1) := by decide +kernel
theorem dL_act_408 : decode cL_act 408 = .ok (.iaload, 1) := by decide +kernel
theorem dL_act_409 : decode cL_act 409 = .ok (.invokevirtual 43, 3) := by decide +kernel
theorem dL_act_412 : decode cL_act 412 = .ok (.istore 6, 2) := by decide +kernel
theorem dL_act_414 : decode cL_act 414 = .ok (.goto 8, 3) := by decide +kernel
theorem dL_act_417 : decode cL_act 417 = .ok (.astore 8, 2) := by decide +kernel
theorem dL_act_419 : decode cL_act 419 = .ok (.iconst (-1), 1) := by decide +kernel
theorem dL_act_420 : decode cL_act 420 = .ok (.istore 6, 2) := by decide +kernel
theorem dL_act_422 : decode cL_act 422 = .ok (.aload_n 1, 1) := by decide +kernel
theorem dL_act_423 : decode cL_act 423 = .ok (.getfield 9, 3) := by decide +kernel
theorem dL_act_426 : decode cL_act 426 = .ok (.arraylength, 1) := by decide +kernel
theorem dL_act_427 : decode cL_act 427 = .ok (.istore 8, 2) := by decide +kernel
theorem dL_act_429 : decode cL_act 429 = .ok (.iload 6, 2) := by decide +kernel
theorem dL_act_431 : decode cL_act 431 = .ok (.iload 8, 2) := by decide +kernel
theorem dL_act_433 : decode cL_act 433 = .ok (.iconst 5, 1) := by decide +kernel
theorem dL_act_434 : decode cL_act 434 = .ok (.if_icmp .ge 8, 3) := by decide +kernel
theorem dL_act_437 : decode cL_act 437 = .ok (.iload 8, 2) := by decide +kernel
theorem dL_act_439 : decode cL_act 439 = .ok (.goto 4, 3) := by decide +kernel
theorem dL_act_442 : decode cL_act 442 = .ok (.iconst (-1), 1) := by decide +kernel
theorem dL_act_443 : decode cL_act 443 = .ok (.if_icmp .eq 5, 3) := by decide +kernel
theorem dL_act_446 : decode cL_act 446 = .ok (.iconst 0, 1) := by decide +kernel
theorem dL_act_447 : decode cL_act 447 = .ok (.ireturn, 1) := by decide +kernel
theorem dL_act_448 : decode cL_act 448 = .ok (.iload 6, 2) := by decide +kernel
theorem dL_act_450 : decode cL_act 450 = .ok (.ifCond .ge 5, 3) := by decide +kernel
theorem dL_act_453 : decode cL_act 453 = .ok (.iconst 1, 1) := by decide +kernel
theorem dL_act_454 : decode cL_act 454 = .ok (.ireturn, 1) := by decide +kernel
theorem dL_act_455 : decode cL_act 455 = .ok (.iload 8, 2) := by decide +kernel
theorem dL_act_457 : decode cL_act 457 = .ok (.iconst 1, 1) := by decide +kernel
theorem dL_act_458 : decode cL_act 458 = .ok (.iadd, 1) := by decide +kernel
theorem dL_act_459 : decode cL_act 459 = .ok (.anewarray 47, 3) := by decide +kernel
theorem dL_act_462 : decode cL_act 462 = .ok (.astore 9, 2) := by decide +kernel
theorem dL_act_464 : decode cL_act 464 = .ok (.iconst 0, 1) := by decide +kernel
theorem dL_act_465 : decode cL_act 465 = .ok (.istore 10, 2) := by decide +kernel
theorem dL_act_467 : decode cL_act 467 = .ok (.iload 10, 2) := by decide +kernel
theorem dL_act_469 : decode cL_act 469 = .ok (.iload 8, 2) := by decide +kernel
theorem dL_act_471 : decode cL_act 471 = .ok (.if_icmp .ge 21, 3) := by decide +kernel
theorem dL_act_474 : decode cL_act 474 = .ok (.aload 9, 2) := by decide +kernel
theorem dL_act_476 : decode cL_act 476 = .ok (.iload 10, 2) := by decide +kernel
theorem dL_act_478 : decode cL_act 478 = .ok (.aload_n 1, 1) := by decide +kernel
theorem dL_act_479 : decode cL_act 479 = .ok (.getfield 9, 3) := by decide +kernel
theorem dL_act_482 : decode cL_act 482 = .ok (.iload 10, 2) := by decide +kernel
theorem dL_act_484 : decode cL_act 484 = .ok (.aaload, 1) := by decide +kernel
theorem dL_act_485 : decode cL_act 485 = .ok (.aastore, 1) := by decide +kernel
theorem dL_act_486 : decode cL_act 486 = .ok (.iinc 10 1, 3) := by decide +kernel
theorem dL_act_489 : decode cL_act 489 = .ok (.goto (-22), 3) := by decide +kernel
theorem dL_act_492 : decode cL_act 492 = .ok (.aload 9, 2) := by decide +kernel
theorem dL_act_494 : decode cL_act 494 = .ok (.iload 8, 2) := by decide +kernel
theorem dL_act_496 : decode cL_act 496 = .ok (.aload 7, 2) := by decide +kernel
theorem dL_act_498 : decode cL_act 498 = .ok (.aastore, 1) := by decide +kernel
theorem dL_act_499 : decode cL_act 499 = .ok (.aload_n 1, 1) := by decide +kernel
theorem dL_act_500 : decode cL_act 500 = .ok (.aload 9, 2) := by decide +kernel
theorem dL_act_502 : decode cL_act 502 = .ok (.putfield 9, 3) := by decide +kernel
theorem dL_act_505 : decode cL_act 505 = .ok (.iconst 1, 1) := by decide +kernel
theorem dL_act_506 : decode cL_act 506 = .ok (.ireturn, 1) := by decide +kernel
theorem dL_act_507 : decode cL_act 507 = .ok (.aload 4, 2) := by decide +kernel
theorem dL_act_509 : decode cL_act 509 = .ok (.iconst 3, 1) := by decide +kernel
theorem dL_act_510 : decode cL_act 510 = .ok (.iaload, 1) := by decide +kernel
theorem dL_act_511 : decode cL_act 511 = .ok (.istore 7, 2) := by decide +kernel
theorem dL_act_513 : decode cL_act 513 = .ok (.aload 4, 2) := by decide +kernel
theorem dL_act_515 : decode cL_act 515 = .ok (.iconst 3, 1) := by decide +kernel
theorem dL_act_516 : decode cL_act 516 = .ok (.iload_n 2, 1) := by decide +kernel
theorem dL_act_517 : decode cL_act 517 = .ok (.bipush 6, 2) := by decide +kernel
theorem dL_act_519 : decode cL_act 519 = .ok (.ishr, 1) := by decide +kernel
theorem dL_act_520 : decode cL_act 520 = .ok (.bipush 9, 2) := by decide +kernel
theorem dL_act_522 : decode cL_act 522 = .ok (.invokestatic 15, 3) := by decide +kernel
theorem dL_act_525 : decode cL_act 525 = .ok (.iastore, 1) := by decide +kernel
theorem dL_act_526 : decode cL_act 526 = .ok (.aload_n 0, 1) := by decide +kernel
theorem dL_act_527 : decode cL_act 527 = .ok (.iload_n 3, 1) := by decide +kernel
theorem dL_act_528 : decode cL_act 528 = .ok (.aload 4, 2) := by decide +kernel
theorem dL_act_530 : decode cL_act 530 = .ok (.iconst 3, 1) := by decide +kernel
theorem dL_act_531 : decode cL_act 531 = .ok (.iaload, 1) := by decide +kernel
theorem dL_act_532 : decode cL_act 532 = .ok (.invokevirtual 48, 3) := by decide +kernel
theorem dL_act_535 : decode cL_act 535 = .ok (.iload 7, 2) := by decide +kernel
theorem dL_act_537 : decode cL_act 537 = .ok (.if_icmp .ne 7, 3) := by decide +kernel
theorem dL_act_540 : decode cL_act 540 = .ok (.iconst 1, 1) := by decide +kernel
theorem dL_act_541 : decode cL_act 541 = .ok (.goto 4, 3) := by decide +kernel
theorem dL_act_544 : decode cL_act 544 = .ok (.iconst 0, 1) := by decide +kernel
theorem dL_act_545 : decode cL_act 545 = .ok (.ireturn, 1) := by decide +kernel
theorem dL_act_546 : decode cL_act 546 = .ok (.iload_n 2, 1) := by decide +kernel
theorem dL_act_547 : decode cL_act 547 = .ok (.bipush 8, 2) := by decide +kernel
theorem dL_act_549 : decode cL_act 549 = .ok (.ishr, 1) := by decide +kernel
theorem dL_act_550 : decode cL_act 550 = .ok (.iconst 3, 1) := by decide +kernel
theorem dL_act_551 : decode cL_act 551 = .ok (.invokestatic 15, 3) := by decide +kernel
theorem dL_act_554 : decode cL_act 554 = .ok (.ifCond .le 5, 3) := by decide +kernel
theorem dL_act_557 : decode cL_act 557 = .ok (.iconst 1, 1) := by decide +kernel
theorem dL_act_558 : decode cL_act 558 = .ok (.ireturn, 1) := by decide +kernel
theorem dL_act_559 : decode cL_act 559 = .ok (.aload 4, 2) := by decide +kernel
theorem dL_act_561 : decode cL_act 561 = .ok (.iconst 4, 1) := by decide +kernel
theorem dL_act_562 : decode cL_act 562 = .ok (.iaload, 1) := by decide +kernel
theorem dL_act_563 : decode cL_act 563 = .ok (.istore 7, 2) := by decide +kernel
theorem dL_act_565 : decode cL_act 565 = .ok (.aload 4, 2) := by decide +kernel
theorem dL_act_567 : decode cL_act 567 = .ok (.iconst 4, 1) := by decide +kernel
theorem dL_act_568 : decode cL_act 568 = .ok (.iconst 0, 1) := by decide +kernel
theorem dL_act_569 : decode cL_act 569 = .ok (.iastore, 1) := by decide +kernel
theorem dL_act_570 : decode cL_act 570 = .ok (.aload_n 0, 1) := by decide +kernel
theorem dL_act_571 : decode cL_act 571 = .ok (.iload_n 3, 1) := by decide +kernel
theorem dL_act_572 : decode cL_act 572 = .ok (.invokevirtual 51, 3) := by decide +kernel
theorem dL_act_575 : decode cL_act 575 = .ok (.iload 7, 2) := by decide +kernel
theorem dL_act_577 : decode cL_act 577 = .ok (.if_icmp .ne 7, 3) := by decide +kernel
theorem dL_act_580 : decode cL_act 580 = .ok (.iconst 1, 1) := by decide +kernel
theorem dL_act_581 : decode cL_act 581 = .ok (.goto 4, 3) := by decide +kernel
theorem dL_act_584 : decode cL_act 584 = .ok (.iconst 0, 1) := by decide +kernel
theorem dL_act_585 : decode cL_act 585 = .ok (.ireturn, 1) := by decide +kernel
theorem dL_act_586 : decode cL_act 586 = .ok (.aload_n 1, 1) := by decide +kernel
theorem dL_act_587 : decode cL_act 587 = .ok (.aload 4, 2) := by decide +kernel
theorem dL_act_589 : decode cL_act 589 = .ok (.iload 5, 2) := by decide +kernel
theorem dL_act_591 : decode cL_act 591 = .ok (.invokevirtual 55, 3) := by decide +kernel
theorem dL_act_594 : decode cL_act 594 = .ok (.ifCond .eq 16, 3) := by decide +kernel
theorem dL_act_597 : decode cL_act 597 = .ok (.aload 4, 2) := by decide +kernel
theorem dL_act_599 : decode cL_act 599 = .ok (.iconst 5, 1) := by decide +kernel
theorem dL_act_600 : decode cL_act 600 = .ok (.iaload, 1) := by decide +kernel
theorem dL_act_601 : decode cL_act 601 = .ok (.iload 5, 2) := by decide +kernel
theorem dL_act_603 : decode cL_act 603 = .ok (.isub, 1) := by decide +kernel
theorem dL_act_604 : decode cL_act 604 = .ok (.invokestatic 59, 3) := by decide +kernel
theorem dL_act_607 : decode cL_act 607 = .ok (.goto 4, 3) := by decide +kernel
theorem dL_act_610 : decode cL_act 610 = .ok (.iconst (-1), 1) := by decide +kernel
theorem dL_act_611 : decode cL_act 611 = .ok (.istore 7, 2) := by decide +kernel
theorem dL_act_613 : decode cL_act 613 = .ok (.aload_n 0, 1) := by decide +kernel
theorem dL_act_614 : decode cL_act 614 = .ok (.iload_n 3, 1) := by decide +kernel
theorem dL_act_615 : decode cL_act 615 = .ok (.iload 5, 2) := by decide +kernel
theorem dL_act_617 : decode cL_act 617 = .ok (.invokevirtual 64, 3) := by decide +kernel
theorem dL_act_620 : decode cL_act 620 = .ok (.istore 6, 2) := by decide +kernel
theorem dL_act_622 : decode cL_act 622 = .ok (.goto 8, 3) := by decide +kernel
theorem dL_act_625 : decode cL_act 625 = .ok (.astore 8, 2) := by decide +kernel
theorem dL_act_627 : decode cL_act 627 = .ok (.iconst (-1), 1) := by decide +kernel
theorem dL_act_628 : decode cL_act 628 = .ok (.istore 6, 2) := by decide +kernel
theorem dL_act_630 : decode cL_act 630 = .ok (.iload 7, 2) := by decide +kernel
theorem dL_act_632 : decode cL_act 632 = .ok (.ifCond .lt 20, 3) := by decide +kernel
theorem dL_act_635 : decode cL_act 635 = .ok (.aload 4, 2) := by decide +kernel
theorem dL_act_637 : decode cL_act 637 = .ok (.iconst 5, 1) := by decide +kernel
theorem dL_act_638 : decode cL_act 638 = .ok (.iload 5, 2) := by decide +kernel
theorem dL_act_640 : decode cL_act 640 = .ok (.iastore, 1) := by decide +kernel
theorem dL_act_641 : decode cL_act 641 = .ok (.aload_n 1, 1) := by decide +kernel
theorem dL_act_642 : decode cL_act 642 = .ok (.dup, 1) := by decide +kernel
theorem dL_act_643 : decode cL_act 643 = .ok (.getfield 67, 3) := by decide +kernel
theorem dL_act_646 : decode cL_act 646 = .ok (.iload 7, 2) := by decide +kernel
theorem dL_act_648 : decode cL_act 648 = .ok (.iadd, 1) := by decide +kernel
theorem dL_act_649 : decode cL_act 649 = .ok (.putfield 67, 3) := by decide +kernel
theorem dL_act_652 : decode cL_act 652 = .ok (.iload 6, 2) := by decide +kernel
theorem dL_act_654 : decode cL_act 654 = .ok (.iload 7, 2) := by decide +kernel
theorem dL_act_656 : decode cL_act 656 = .ok (.if_icmp .ne 7, 3) := by decide +kernel
theorem dL_act_659 : decode cL_act 659 = .ok (.iconst 1, 1) := by decide +kernel
theorem dL_act_660 : decode cL_act 660 = .ok (.goto 4, 3) := by decide +kernel
theorem dL_act_663 : decode cL_act 663 = .ok (.iconst 0, 1) := by decide +kernel
theorem dL_act_664 : decode cL_act 664 = .ok (.ireturn, 1) := by decide +kernel
theorem dL_act_665 : decode cL_act 665 = .ok (.aload_n 1, 1) := by decide +kernel
theorem dL_act_666 : decode cL_act 666 = .ok (.getfield 25, 3) := by decide +kernel
theorem dL_act_669 : decode cL_act 669 = .ok (.aload 4, 2) := by decide +kernel
theorem dL_act_671 : decode cL_act 671 = .ok (.iconst 5, 1) := by decide +kernel
theorem dL_act_672 : decode cL_act 672 = .ok (.iaload, 1) := by decide +kernel
theorem dL_act_673 : decode cL_act 673 = .ok (.aaload, 1) := by decide +kernel
theorem dL_act_674 : decode cL_act 674 = .ok (.arraylength, 1) := by decide +kernel
theorem dL_act_675 : decode cL_act 675 = .ok (.istore 7, 2) := by decide +kernel
theorem dL_act_677 : decode cL_act 677 = .ok (.iload_n 2, 1) := by decide +kernel
theorem dL_act_678 : decode cL_act 678 = .ok (.bipush 7, 2) := by decide +kernel
theorem dL_act_680 : decode cL_act 680 = .ok (.ishr, 1) := by decide +kernel
theorem dL_act_681 : decode cL_act 681 = .ok (.iconst 4, 1) := by decide +kernel
theorem dL_act_682 : decode cL_act 682 = .ok (.invokestatic 15, 3) := by decide +kernel
theorem dL_act_685 : decode cL_act 685 = .ok (.ifCond .ne 14, 3) := by decide +kernel
theorem dL_act_688 : decode cL_act 688 = .ok (.iload_n 2, 1) := by decide +kernel
theorem dL_act_689 : decode cL_act 689 = .ok (.iconst 4, 1) := by decide +kernel
theorem dL_act_690 : decode cL_act 690 = .ok (.ishr, 1) := by decide +kernel
theorem dL_act_691 : decode cL_act 691 = .ok (.bipush 21, 2) := by decide +kernel
theorem dL_act_693 : decode cL_act 693 = .ok (.invokestatic 15, 3) := by decide +kernel
theorem dL_act_696 : decode cL_act 696 = .ok (.goto 36, 3) := by decide +kernel
theorem dL_act_699 : decode cL_act 699 = .ok (.iload_n 2, 1) := by decide +kernel
theorem dL_act_700 : decode cL_act 700 = .ok (.bipush 9, 2) := by decide +kernel
theorem dL_act_702 : decode cL_act 702 = .ok (.ishr, 1) := by decide +kernel
theorem dL_act_703 : decode cL_act 703 = .ok (.iconst 3, 1) := by decide +kernel
theorem dL_act_704 : decode cL_act 704 = .ok (.invokestatic 15, 3) := by decide +kernel
theorem dL_act_707 : decode cL_act 707 = .ok (.ifCond .ne 8, 3) := by decide +kernel
theorem dL_act_710 : decode cL_act 710 = .ok (.bipush 10, 2) := by decide +kernel
theorem dL_act_712 : decode cL_act 712 = .ok (.goto 20, 3) := by decide +kernel
theorem dL_act_715 : decode cL_act 715 = .ok (.aload 4, 2) := by decide +kernel
theorem dL_act_717 : decode cL_act 717 = .ok (.bipush 7, 2) := by decide +kernel
theorem dL_act_719 : decode cL_act 719 = .ok (.iaload, 1) := by decide +kernel
theorem dL_act_720 : decode cL_act 720 = .ok (.ifCond .ge 8, 3) := by decide +kernel
theorem dL_act_723 : decode cL_act 723 = .ok (.iload 7, 2) := by decide +kernel
theorem dL_act_725 : decode cL_act 725 = .ok (.goto 7, 3) := by decide +kernel
theorem dL_act_728 : decode cL_act 728 = .ok (.iload 7, 2) := by decide +kernel
theorem dL_act_730 : decode cL_act 730 = .ok (.iconst 1, 1) := by decide +kernel
theorem dL_act_731 : decode cL_act 731 = .ok (.iadd, 1) := by decide +kernel
theorem dL_act_732 : decode cL_act 732 = .ok (.istore 8, 2) := by decide +kernel
theorem dL_act_734 : decode cL_act 734 = .ok (.iload 8, 2) := by decide +kernel
theorem dL_act_736 : decode cL_act 736 = .ok (.aload 4, 2) := by decide +kernel
theorem dL_act_738 : decode cL_act 738 = .ok (.bipush 7, 2) := by decide +kernel
theorem dL_act_740 : decode cL_act 740 = .ok (.iaload, 1) := by decide +kernel
theorem dL_act_741 : decode cL_act 741 = .ok (.ifCond .ge 8, 3) := by decide +kernel
theorem dL_act_744 : decode cL_act 744 = .ok (.iload 7, 2) := by decide +kernel
theorem dL_act_746 : decode cL_act 746 = .ok (.goto 7, 3) := by decide +kernel
theorem dL_act_749 : decode cL_act 749 = .ok (.iload 7, 2) := by decide +kernel
theorem dL_act_751 : decode cL_act 751 = .ok (.iconst 1, 1) := by decide +kernel
theorem dL_act_752 : decode cL_act 752 = .ok (.iadd, 1) := by decide +kernel
theorem dL_act_753 : decode cL_act 753 = .ok (.if_icmp .lt 44, 3) := by decide +kernel
theorem dL_act_756 : decode cL_act 756 = .ok (.iload 8, 2) := by decide +kernel
theorem dL_act_758 : decode cL_act 758 = .ok (.aload 4, 2) := by decide +kernel
theorem dL_act_760 : decode cL_act 760 = .ok (.bipush 6, 2) := by decide +kernel
theorem dL_act_762 : decode cL_act 762 = .ok (.iaload, 1) := by decide +kernel
theorem dL_act_763 : decode cL_act 763 = .ok (.if_icmp .le 30, 3) := by decide +kernel
theorem dL_act_766 : decode cL_act 766 = .ok (.aload 4, 2) := by decide +kernel
theorem dL_act_768 : decode cL_act 768 = .ok (.bipush 7, 2) := by decide +kernel
theorem dL_act_770 : decode cL_act 770 = .ok (.iaload, 1) := by decide +kernel
theorem dL_act_771 : decode cL_act 771 = .ok (.ifCond .lt 22, 3) := by decide +kernel
theorem dL_act_774 : decode cL_act 774 = .ok (.aload_n 1, 1) := by decide +kernel
theorem dL_act_775 : decode cL_act 775 = .ok (.getfield 21, 3) := by decide +kernel
theorem dL_act_778 : decode cL_act 778 = .ok (.aload 4, 2) := by decide +kernel
theorem dL_act_780 : decode cL_act 780 = .ok (.bipush 7, 2) := by decide +kernel
theorem dL_act_782 : decode cL_act 782 = .ok (.iaload, 1) := by decide +kernel
theorem dL_act_783 : decode cL_act 783 = .ok (.iaload, 1) := by decide +kernel
theorem dL_act_784 : decode cL_act 784 = .ok (.aload_n 1, 1) := by decide +kernel
theorem dL_act_785 : decode cL_act 785 = .ok (.aload 4, 2) := by decide +kernel
theorem dL_act_787 : decode cL_act 787 = .ok (.invokevirtual 71, 3) := by decide +kernel
theorem dL_act_790 : decode cL_act 790 = .ok (.if_icmp .gt 7, 3) := by decide +kernel
theorem dL_act_793 : decode cL_act 793 = .ok (.iconst 1, 1) := by decide +kernel
theorem dL_act_794 : decode cL_act 794 = .ok (.goto 4, 3) := by decide +kernel
theorem dL_act_797 : decode cL_act 797 = .ok (.iconst 0, 1) := by decide +kernel
theorem dL_act_798 : decode cL_act 798 = .ok (.istore 9, 2) := by decide +kernel
theorem dL_act_800 : decode cL_act 800 = .ok (.iload 9, 2) := by decide +kernel
theorem dL_act_802 : decode cL_act 802 = .ok (.ifCond .eq 22, 3) := by decide +kernel
theorem dL_act_805 : decode cL_act 805 = .ok (.aload 4, 2) := by decide +kernel
theorem dL_act_807 : decode cL_act 807 = .ok (.iload 8, 2) := by decide +kernel
theorem dL_act_809 : decode cL_act 809 = .ok (.aload 4, 2) := by decide +kernel
theorem dL_act_811 : decode cL_act 811 = .ok (.bipush 6, 2) := by decide +kernel
theorem dL_act_813 : decode cL_act 813 = .ok (.iaload, 1) := by decide +kernel
theorem dL_act_814 : decode cL_act 814 = .ok (.isub, 1) := by decide +kernel
theorem dL_act_815 : decode cL_act 815 = .ok (.invokestatic 59, 3) := by decide +kernel
theorem dL_act_818 : decode cL_act 818 = .ok (.invokestatic 75, 3) := by decide +kernel
theorem dL_act_821 : decode cL_act 821 = .ok (.goto 5, 3) := by decide +kernel
theorem dL_act_824 : decode cL_act 824 = .ok (.bipush (-2), 2) := by decide +kernel
theorem dL_act_826 : decode cL_act 826 = .ok (.istore 10, 2) := by decide +kernel
theorem dL_act_828 : decode cL_act 828 = .ok (.iload 9, 2) := by decide +kernel
theorem dL_act_830 : decode cL_act 830 = .ok (.ifCond .eq 42, 3) := by decide +kernel
theorem dL_act_833 : decode cL_act 833 = .ok (.aload 4, 2) := by decide +kernel
theorem dL_act_835 : decode cL_act 835 = .ok (.bipush 7, 2) := by decide +kernel
theorem dL_act_837 : decode cL_act 837 = .ok (.iaload, 1) := by decide +kernel
theorem dL_act_838 : decode cL_act 838 = .ok (.ifCond .lt 34, 3) := by decide +kernel
theorem dL_act_841 : decode cL_act 841 = .ok (.iload 8, 2) := by decide +kernel
theorem dL_act_843 : decode cL_act 843 = .ok (.aload 4, 2) := by decide +kernel
theorem dL_act_845 : decode cL_act 845 = .ok (.bipush 6, 2) := by decide +kernel
theorem dL_act_847 : decode cL_act 847 = .ok (.iaload, 1) := by decide +kernel
theorem dL_act_848 : decode cL_act 848 = .ok (.if_icmp .ge 24, 3) := by decide +kernel
theorem dL_act_851 : decode cL_act 851 = .ok (.iload 10, 2) := by decide +kernel
theorem dL_act_853 : decode cL_act 853 = .ok (.aload_n 1, 1) := by decide +kernel
theorem dL_act_854 : decode cL_act 854 = .ok (.getfield 21, 3) := by decide +kernel
theorem dL_act_857 : decode cL_act 857 = .ok (.aload 4, 2) := by decide +kernel
theorem dL_act_859 : decode cL_act 859 = .ok (.bipush 7, 2) := by decide +kernel
theorem dL_act_861 : decode cL_act 861 = .ok (.iaload, 1) := by decide +kernel
theorem dL_act_862 : decode cL_act 862 = .ok (.iaload, 1) := by decide +kernel
theorem dL_act_863 : decode cL_act 863 = .ok (.bipush 20, 2) := by decide +kernel
theorem dL_act_865 : decode cL_act 865 = .ok (.idiv, 1) := by decide +kernel
theorem dL_act_866 : decode cL_act 866 = .ok (.iconst 1, 1) := by decide +kernel
theorem dL_act_867 : decode cL_act 867 = .ok (.iadd, 1) := by decide +kernel
theorem dL_act_868 : decode cL_act 868 = .ok (.imul, 1) := by decide +kernel
theorem dL_act_869 : decode cL_act 869 = .ok (.goto 4, 3) := by decide +kernel
theorem dL_act_872 : decode cL_act 872 = .ok (.iconst 0, 1) := by decide +kernel
theorem dL_act_873 : decode cL_act 873 = .ok (.istore 11, 2) := by decide +kernel
theorem dL_act_875 : decode cL_act 875 = .ok (.aload 4, 2) := by decide +kernel
theorem dL_act_877 : decode cL_act 877 = .ok (.iconst 4, 1) := by decide +kernel
theorem dL_act_878 : decode cL_act 878 = .ok (.iaload, 1) := by decide +kernel
theorem dL_act_879 : decode cL_act 879 = .ok (.iload 11, 2) := by decide +kernel
theorem dL_act_881 : decode cL_act 881 = .ok (.iadd, 1) := by decide +kernel
theorem dL_act_882 : decode cL_act 882 = .ok (.bipush 99, 2) := by decide +kernel
theorem dL_act_884 : decode cL_act 884 = .ok (.if_icmp .le 42, 3) := by decide +kernel
theorem dL_act_887 : decode cL_act 887 = .ok (.iconst (-1), 1) := by decide +kernel
theorem dL_act_888 : decode cL_act 888 = .ok (.istore 10, 2) := by decide +kernel
theorem dL_act_890 : decode cL_act 890 = .ok (.aload_n 1, 1) := by decide +kernel
theorem dL_act_891 : decode cL_act 891 = .ok (.getfield 79, 3) := by decide +kernel
theorem dL_act_894 : decode cL_act 894 = .ok (.aload 4, 2) := by decide +kernel
theorem dL_act_896 : decode cL_act 896 = .ok (.bipush 7, 2) := by decide +kernel
theorem dL_act_898 : decode cL_act 898 = .ok (.iaload, 1) := by decide +kernel
theorem dL_act_899 : decode cL_act 899 = .ok (.iconst 1, 1) := by decide +kernel
theorem dL_act_900 : decode cL_act 900 = .ok (.bastore, 1) := by decide +kernel
theorem dL_act_901 : decode cL_act 901 = .ok (.aload_n 1, 1) := by decide +kernel
theorem dL_act_902 : decode cL_act 902 = .ok (.dup, 1) := by decide +kernel
theorem dL_act_903 : decode cL_act 903 = .ok (.getfield 83, 3) := by decide +kernel
theorem dL_act_906 : decode cL_act 906 = .ok (.iconst 1, 1) := by decide +kernel
theorem dL_act_907 : decode cL_act 907 = .ok (.iadd, 1) := by decide +kernel
theorem dL_act_908 : decode cL_act 908 = .ok (.putfield 83, 3) := by decide +kernel
theorem dL_act_911 : decode cL_act 911 = .ok (.aload 4, 2) := by decide +kernel
theorem dL_act_913 : decode cL_act 913 = .ok (.bipush 7, 2) := by decide +kernel
theorem dL_act_915 : decode cL_act 915 = .ok (.iconst (-1), 1) := by decide +kernel
theorem dL_act_916 : decode cL_act 916 = .ok (.iastore, 1) := by decide +kernel
theorem dL_act_917 : decode cL_act 917 = .ok (.aload 4, 2) := by decide +kernel
theorem dL_act_919 : decode cL_act 919 = .ok (.iconst 4, 1) := by decide +kernel
theorem dL_act_920 : decode cL_act 920 = .ok (.bipush 99, 2) := by decide +kernel
theorem dL_act_922 : decode cL_act 922 = .ok (.iastore, 1) := by decide +kernel
theorem dL_act_923 : decode cL_act 923 = .ok (.goto 35, 3) := by decide +kernel
theorem dL_act_926 : decode cL_act 926 = .ok (.iload 9, 2) := by decide +kernel
theorem dL_act_928 : decode cL_act 928 = .ok (.ifCond .eq 30, 3) := by decide +kernel
theorem dL_act_931 : decode cL_act 931 = .ok (.aload 4, 2) := by decide +kernel
theorem dL_act_933 : decode cL_act 933 = .ok (.iconst 4, 1) := by decide +kernel
theorem dL_act_934 : decode cL_act 934 = .ok (.dup2, 1) := by decide +kernel
theorem dL_act_935 : decode cL_act 935 = .ok (.iaload, 1) := by decide +kernel
theorem dL_act_936 : decode cL_act 936 = .ok (.iload 11, 2) := by decide +kernel
theorem dL_act_938 : decode cL_act 938 = .ok (.iadd, 1) := by decide +kernel
theorem dL_act_939 : decode cL_act 939 = .ok (.iastore, 1) := by decide +kernel
theorem dL_act_940 : decode cL_act 940 = .ok (.aload 4, 2) := by decide +kernel
theorem dL_act_942 : decode cL_act 942 = .ok (.bipush 6, 2) := by decide +kernel
theorem dL_act_944 : decode cL_act 944 = .ok (.iload 8, 2) := by decide +kernel
theorem dL_act_946 : decode cL_act 946 = .ok (.iastore, 1) := by decide +kernel
theorem dL_act_947 : decode cL_act 947 = .ok (.aload_n 1, 1) := by decide +kernel
theorem dL_act_948 : decode cL_act 948 = .ok (.dup, 1) := by decide +kernel
theorem dL_act_949 : decode cL_act 949 = .ok (.getfield 67, 3) := by decide +kernel
theorem dL_act_952 : decode cL_act 952 = .ok (.iload 10, 2) := by decide +kernel
theorem dL_act_954 : decode cL_act 954 = .ok (.iadd, 1) := by decide +kernel
theorem dL_act_955 : decode cL_act 955 = .ok (.putfield 67, 3) := by decide +kernel
theorem dL_act_958 : decode cL_act 958 = .ok (.aload_n 0, 1) := by decide +kernel
theorem dL_act_959 : decode cL_act 959 = .ok (.iload_n 3, 1) := by decide +kernel
theorem dL_act_960 : decode cL_act 960 = .ok (.iload 8, 2) := by decide +kernel
theorem dL_act_962 : decode cL_act 962 = .ok (.invokevirtual 86, 3) := by decide +kernel
theorem dL_act_965 : decode cL_act 965 = .ok (.istore 6, 2) := by decide +kernel
theorem dL_act_967 : decode cL_act 967 = .ok (.goto 9, 3) := by decide +kernel
theorem dL_act_970 : decode cL_act 970 = .ok (.astore 12, 2) := by decide +kernel
theorem dL_act_972 : decode cL_act 972 = .ok (.bipush (-2), 2) := by decide +kernel
theorem dL_act_974 : decode cL_act 974 = .ok (.istore 6, 2) := by decide +kernel
theorem dL_act_976 : decode cL_act 976 = .ok (.iload 6, 2) := by decide +kernel
theorem dL_act_978 : decode cL_act 978 = .ok (.iload 10, 2) := by decide +kernel
theorem dL_act_980 : decode cL_act 980 = .ok (.if_icmp .ne 7, 3) := by decide +kernel
theorem dL_act_983 : decode cL_act 983 = .ok (.iconst 1, 1) := by decide +kernel
theorem dL_act_984 : decode cL_act 984 = .ok (.goto 4, 3) := by decide +kernel
theorem dL_act_987 : decode cL_act 987 = .ok (.iconst 0, 1) := by decide +kernel
theorem dL_act_988 : decode cL_act 988 = .ok (.ireturn, 1) := by decide +kernel
theorem dL_act_989 : decode cL_act 989 = .ok (.aload_n 1, 1) := by decide +kernel
theorem dL_act_990 : decode cL_act 990 = .ok (.getfield 25, 3) := by decide +kernel
theorem dL_act_993 : decode cL_act 993 = .ok (.aload 4, 2) := by decide +kernel
theorem dL_act_995 : decode cL_act 995 = .ok (.iconst 5, 1) := by decide +kernel
theorem dL_act_996 : decode cL_act 996 = .ok (.iaload, 1) := by decide +kernel
theorem dL_act_997 : decode cL_act 997 = .ok (.aaload, 1) := by decide +kernel
theorem dL_act_998 : decode cL_act 998 = .ok (.arraylength, 1) := by decide +kernel
theorem dL_act_999 : decode cL_act 999 = .ok (.istore 7, 2) := by decide +kernel
theorem dL_act_1001 : decode cL_act 1001 = .ok (.aload 4, 2) := by decide +kernel
theorem dL_act_1003 : decode cL_act 1003 = .ok (.bipush 7, 2) := by decide +kernel
theorem dL_act_1005 : decode cL_act 1005 = .ok (.iaload, 1) := by decide +kernel
theorem dL_act_1006 : decode cL_act 1006 = .ok (.ifCond .ge 22, 3) := by decide +kernel
theorem dL_act_1009 : decode cL_act 1009 = .ok (.iload 7, 2) := by decide +kernel
theorem dL_act_1011 : decode cL_act 1011 = .ok (.ifCond .le 17, 3) := by decide +kernel
theorem dL_act_1014 : decode cL_act 1014 = .ok (.aload 4, 2) := by decide +kernel
theorem dL_act_1016 : decode cL_act 1016 = .ok (.bipush 6, 2) := by decide +kernel
theorem dL_act_1018 : decode cL_act 1018 = .ok (.iaload, 1) := by decide +kernel
theorem dL_act_1019 : decode cL_act 1019 = .ok (.iload 7, 2) := by decide +kernel
theorem dL_act_1021 : decode cL_act 1021 = .ok (.if_icmp .ne 7, 3) := by decide +kernel
theorem dL_act_1024 : decode cL_act 1024 = .ok (.iconst 1, 1) := by decide +kernel
theorem dL_act_1025 : decode cL_act 1025 = .ok (.goto 4, 3) := by decide +kernel
theorem dL_act_1028 : decode cL_act 1028 = .ok (.iconst 0, 1) := by decide +kernel
theorem dL_act_1029 : decode cL_act 1029 = .ok (.istore 8, 2) := by decide +kernel
theorem dL_act_1031 : decode cL_act 1031 = .ok (.aload_n 0, 1) := by decide +kernel
theorem dL_act_1032 : decode cL_act 1032 = .ok (.iload_n 3, 1) := by decide +kernel
theorem dL_act_1033 : decode cL_act 1033 = .ok (.invokevirtual 89, 3) := by decide +kernel
theorem dL_act_1036 : decode cL_act 1036 = .ok (.istore 6, 2) := by decide +kernel
theorem dL_act_1038 : decode cL_act 1038 = .ok (.goto 8, 3) := by decide +kernel
theorem dL_act_1041 : decode cL_act 1041 = .ok (.astore 9, 2) := by decide +kernel
theorem dL_act_1043 : decode cL_act 1043 = .ok (.iconst (-1), 1) := by decide +kernel
theorem dL_act_1044 : decode cL_act 1044 = .ok (.istore 6, 2) := by decide +kernel
theorem dL_act_1046 : decode cL_act 1046 = .ok (.iload 6, 2) := by decide +kernel
theorem dL_act_1048 : decode cL_act 1048 = .ok (.iload 8, 2) := by decide +kernel
theorem dL_act_1050 : decode cL_act 1050 = .ok (.ifCond .eq 20, 3) := by decide +kernel
theorem dL_act_1053 : decode cL_act 1053 = .ok (.aload_n 1, 1) := by decide +kernel
theorem dL_act_1054 : decode cL_act 1054 = .ok (.getfield 25, 3) := by decide +kernel
theorem dL_act_1057 : decode cL_act 1057 = .ok (.aload 4, 2) := by decide +kernel
theorem dL_act_1059 : decode cL_act 1059 = .ok (.iconst 5, 1) := by decide +kernel
theorem dL_act_1060 : decode cL_act 1060 = .ok (.iaload, 1) := by decide +kernel
theorem dL_act_1061 : decode cL_act 1061 = .ok (.aaload, 1) := by decide +kernel
theorem dL_act_1062 : decode cL_act 1062 = .ok (.iload 7, 2) := by decide +kernel
theorem dL_act_1064 : decode cL_act 1064 = .ok (.iconst 1, 1) := by decide +kernel
theorem dL_act_1065 : decode cL_act 1065 = .ok (.isub, 1) := by decide +kernel
theorem dL_act_1066 : decode cL_act 1066 = .ok (.iaload, 1) := by decide +kernel
theorem dL_act_1067 : decode cL_act 1067 = .ok (.goto 4, 3) := by decide +kernel
theorem dL_act_1070 : decode cL_act 1070 = .ok (.iconst (-1), 1) := by decide +kernel
theorem dL_act_1071 : decode cL_act 1071 = .ok (.if_icmp .eq 5, 3) := by decide +kernel
theorem dL_act_1074 : decode cL_act 1074 = .ok (.iconst 0, 1) := by decide +kernel
theorem dL_act_1075 : decode cL_act 1075 = .ok (.ireturn, 1) := by decide +kernel
theorem dL_act_1076 : decode cL_act 1076 = .ok (.iload 8, 2) := by decide +kernel
theorem dL_act_1078 : decode cL_act 1078 = .ok (.ifCond .ne 5, 3) := by decide +kernel
theorem dL_act_1081 : decode cL_act 1081 = .ok (.iconst 1, 1) := by decide +kernel
theorem dL_act_1082 : decode cL_act 1082 = .ok (.ireturn, 1) := by decide +kernel
theorem dL_act_1083 : decode cL_act 1083 = .ok (.aload 4, 2) := by decide +kernel
theorem dL_act_1085 : decode cL_act 1085 = .ok (.bipush 7, 2) := by decide +kernel
theorem dL_act_1087 : decode cL_act 1087 = .ok (.iload 6, 2) := by decide +kernel
theorem dL_act_1089 : decode cL_act 1089 = .ok (.iastore, 1) := by decide +kernel
theorem dL_act_1090 : decode cL_act 1090 = .ok (.aload_n 1, 1) := by decide +kernel
theorem dL_act_1091 : decode cL_act 1091 = .ok (.getfield 25, 3) := by decide +kernel
theorem dL_act_1094 : decode cL_act 1094 = .ok (.aload 4, 2) := by decide +kernel
theorem dL_act_1096 : decode cL_act 1096 = .ok (.iconst 5, 1) := by decide +kernel
theorem dL_act_1097 : decode cL_act 1097 = .ok (.iaload, 1) := by decide +kernel
theorem dL_act_1098 : decode cL_act 1098 = .ok (.aload_n 1, 1) := by decide +kernel
theorem dL_act_1099 : decode cL_act 1099 = .ok (.getfield 25, 3) := by decide +kernel
theorem dL_act_1102 : decode cL_act 1102 = .ok (.aload 4, 2) := by decide +kernel
theorem dL_act_1104 : decode cL_act 1104 = .ok (.iconst 5, 1) := by decide +kernel
theorem dL_act_1105 : decode cL_act 1105 = .ok (.iaload, 1) := by decide +kernel
theorem dL_act_1106 : decode cL_act 1106 = .ok (.aaload, 1) := by decide +kernel
theorem dL_act_1107 : decode cL_act 1107 = .ok (.invokestatic 92, 3) := by decide +kernel
theorem dL_act_1110 : decode cL_act 1110 = .ok (.aastore, 1) := by decide +kernel
theorem dL_act_1111 : decode cL_act 1111 = .ok (.iconst 1, 1) := by decide +kernel
theorem dL_act_1112 : decode cL_act 1112 = .ok (.ireturn, 1) := by decide +kernel
theorem dL_act_1113 : decode cL_act 1113 = .ok (.aload_n 1, 1) := by decide +kernel
theorem dL_act_1114 : decode cL_act 1114 = .ok (.getfield 25, 3) := by decide +kernel
theorem dL_act_1117 : decode cL_act 1117 = .ok (.aload 4, 2) := by decide +kernel
theorem dL_act_1119 : decode cL_act 1119 = .ok (.iconst 5, 1) := by decide +kernel
theorem dL_act_1120 : decode cL_act 1120 = .ok (.iaload, 1) := by decide +kernel
theorem dL_act_1121 : decode cL_act 1121 = .ok (.aaload, 1) := by decide +kernel
theorem dL_act_1122 : decode cL_act 1122 = .ok (.arraylength, 1) := by decide +kernel
theorem dL_act_1123 : decode cL_act 1123 = .ok (.istore 7, 2) := by decide +kernel
theorem dL_act_1125 : decode cL_act 1125 = .ok (.aload 4, 2) := by decide +kernel
theorem dL_act_1127 : decode cL_act 1127 = .ok (.bipush 7, 2) := by decide +kernel
theorem dL_act_1129 : decode cL_act 1129 = .ok (.iaload, 1) := by decide +kernel
theorem dL_act_1130 : decode cL_act 1130 = .ok (.ifCond .lt 43, 3) := by decide +kernel
theorem dL_act_1133 : decode cL_act 1133 = .ok (.aload 4, 2) := by decide +kernel
theorem dL_act_1135 : decode cL_act 1135 = .ok (.bipush 6, 2) := by decide +kernel
theorem dL_act_1137 : decode cL_act 1137 = .ok (.iaload, 1) := by decide +kernel
theorem dL_act_1138 : decode cL_act 1138 = .ok (.iload 7, 2) := by decide +kernel
theorem dL_act_1140 : decode cL_act 1140 = .ok (.iconst 1, 1) := by decide +kernel
theorem dL_act_1141 : decode cL_act 1141 = .ok (.iadd, 1) := by decide +kernel
theorem dL_act_1142 : decode cL_act 1142 = .ok (.if_icmp .ne 31, 3) := by decide +kernel
theorem dL_act_1145 : decode cL_act 1145 = .ok (.iload 7, 2) := by decide +kernel
theorem dL_act_1147 : decode cL_act 1147 = .ok (.bipush 8, 2) := by decide +kernel
theorem dL_act_1149 : decode cL_act 1149 = .ok (.if_icmp .ge 24, 3) := by decide +kernel
theorem dL_act_1152 : decode cL_act 1152 = .ok (.aload_n 1, 1) := by decide +kernel
theorem dL_act_1153 : decode cL_act 1153 = .ok (.aload 4, 2) := by decide +kernel
theorem dL_act_1155 : decode cL_act 1155 = .ok (.iconst 5, 1) := by decide +kernel
theorem dL_act_1156 : decode cL_act 1156 = .ok (.iaload, 1) := by decide +kernel
theorem dL_act_1157 : decode cL_act 1157 = .ok (.iload 7, 2) := by decide +kernel
theorem dL_act_1159 : decode cL_act 1159 = .ok (.iconst 1, 1) := by decide +kernel
theorem dL_act_1160 : decode cL_act 1160 = .ok (.iadd, 1) := by decide +kernel
theorem dL_act_1161 : decode cL_act 1161 = .ok (.aload 4, 2) := by decide +kernel
theorem dL_act_1163 : decode cL_act 1163 = .ok (.invokevirtual 28, 3) := by decide +kernel
theorem dL_act_1166 : decode cL_act 1166 = .ok (.ifCond .eq 7, 3) := by decide +kernel
theorem dL_act_1169 : decode cL_act 1169 = .ok (.iconst 1, 1) := by decide +kernel
theorem dL_act_1170 : decode cL_act 1170 = .ok (.goto 4, 3) := by decide +kernel
theorem dL_act_1173 : decode cL_act 1173 = .ok (.iconst 0, 1) := by decide +kernel
theorem dL_act_1174 : decode cL_act 1174 = .ok (.istore 8, 2) := by decide +kernel
theorem dL_act_1176 : decode cL_act 1176 = .ok (.aload_n 0, 1) := by decide +kernel
theorem dL_act_1177 : decode cL_act 1177 = .ok (.iload_n 3, 1) := by decide +kernel
theorem dL_act_1178 : decode cL_act 1178 = .ok (.invokevirtual 96, 3) := by decide +kernel
theorem dL_act_1181 : decode cL_act 1181 = .ok (.istore 6, 2) := by decide +kernel
theorem dL_act_1183 : decode cL_act 1183 = .ok (.goto 8, 3) := by decide +kernel
theorem dL_act_1186 : decode cL_act 1186 = .ok (.astore 9, 2) := by decide +kernel
theorem dL_act_1188 : decode cL_act 1188 = .ok (.iconst (-1), 1) := by decide +kernel
theorem dL_act_1189 : decode cL_act 1189 = .ok (.istore 6, 2) := by decide +kernel
theorem dL_act_1191 : decode cL_act 1191 = .ok (.iload 6, 2) := by decide +kernel
theorem dL_act_1193 : decode cL_act 1193 = .ok (.iload 8, 2) := by decide +kernel
theorem dL_act_1195 : decode cL_act 1195 = .ok (.ifCond .eq 10, 3) := by decide +kernel
theorem dL_act_1198 : decode cL_act 1198 = .ok (.iload 7, 2) := by decide +kernel
theorem dL_act_1200 : decode cL_act 1200 = .ok (.iconst 1, 1) := by decide +kernel
theorem dL_act_1201 : decode cL_act 1201 = .ok (.iadd, 1) := by decide +kernel
theorem dL_act_1202 : decode cL_act 1202 = .ok (.goto 4, 3) := by decide +kernel
theorem dL_act_1205 : decode cL_act 1205 = .ok (.iconst (-1), 1) := by decide +kernel
theorem dL_act_1206 : decode cL_act 1206 = .ok (.if_icmp .eq 5, 3) := by decide +kernel
theorem dL_act_1209 : decode cL_act 1209 = .ok (.iconst 0, 1) := by decide +kernel
theorem dL_act_1210 : decode cL_act 1210 = .ok (.ireturn, 1) := by decide +kernel
theorem dL_act_1211 : decode cL_act 1211 = .ok (.iload 8, 2) := by decide +kernel
theorem dL_act_1213 : decode cL_act 1213 = .ok (.ifCond .ne 5, 3) := by decide +kernel
theorem dL_act_1216 : decode cL_act 1216 = .ok (.iconst 1, 1) := by decide +kernel
theorem dL_act_1217 : decode cL_act 1217 = .ok (.ireturn, 1) := by decide +kernel
theorem dL_act_1218 : decode cL_act 1218 = .ok (.aload_n 1, 1) := by decide +kernel
theorem dL_act_1219 : decode cL_act 1219 = .ok (.getfield 25, 3) := by decide +kernel
theorem dL_act_1222 : decode cL_act 1222 = .ok (.aload 4, 2) := by decide +kernel
theorem dL_act_1224 : decode cL_act 1224 = .ok (.iconst 5, 1) := by decide +kernel
theorem dL_act_1225 : decode cL_act 1225 = .ok (.iaload, 1) := by decide +kernel
theorem dL_act_1226 : decode cL_act 1226 = .ok (.aload_n 1, 1) := by decide +kernel
theorem dL_act_1227 : decode cL_act 1227 = .ok (.getfield 25, 3) := by decide +kernel
theorem dL_act_1230 : decode cL_act 1230 = .ok (.aload 4, 2) := by decide +kernel
theorem dL_act_1232 : decode cL_act 1232 = .ok (.iconst 5, 1) := by decide +kernel
theorem dL_act_1233 : decode cL_act 1233 = .ok (.iaload, 1) := by decide +kernel
theorem dL_act_1234 : decode cL_act 1234 = .ok (.aaload, 1) := by decide +kernel
theorem dL_act_1235 : decode cL_act 1235 = .ok (.aload 4, 2) := by decide +kernel
theorem dL_act_1237 : decode cL_act 1237 = .ok (.bipush 7, 2) := by decide +kernel
theorem dL_act_1239 : decode cL_act 1239 = .ok (.iaload, 1) := by decide +kernel
theorem dL_act_1240 : decode cL_act 1240 = .ok (.invokestatic 39, 3) := by decide +kernel
theorem dL_act_1243 : decode cL_act 1243 = .ok (.aastore, 1) := by decide +kernel
theorem dL_act_1244 : decode cL_act 1244 = .ok (.aload 4, 2) := by decide +kernel
theorem dL_act_1246 : decode cL_act 1246 = .ok (.bipush 7, 2) := by decide +kernel
theorem dL_act_1248 : decode cL_act 1248 = .ok (.iconst (-1), 1) := by decide +kernel
theorem dL_act_1249 : decode cL_act 1249 = .ok (.iastore, 1) := by decide +kernel
theorem dL_act_1250 : decode cL_act 1250 = .ok (.iconst 1, 1) := by decide +kernel
theorem dL_act_1251 : decode cL_act 1251 = .ok (.ireturn, 1) := by decide +kernel
set_option maxRecDepth 20000 in
theorem ggL_build_X3_init : GoodIn wsL_build wsX3_init := goodIn_r _ [5, 6, 7, 8, 9, 10, 11, 12, 13, 14, 15, 16, 318, 319, 320, 321, 322, 323] (by decide +kernel) (by decide +kernel)
set_option maxRecDepth 20000 in
theorem gL_build_X3_init_n99 : GoodIn wsL_build (wsX3_init) := ggL_build_X3_init
set_option maxRecDepth 20000 in
theorem ggL_build_L_cell : GoodIn wsL_build wsL_cell := goodIn_r _ [20, 21] (by decide +kernel) (by decide +kernel)
set_option maxRecDepth 20000 in
theorem gL_build_L_cell : GoodIn wsL_build (va_wsS RL 100 yL_cell wsL_cell) := goodIn_app (goodIn_of _ (by decide +kernel)) ggL_build_L_cell
set_option maxRecDepth 20000 in
theorem ggL_build_L_below : GoodIn wsL_build wsL_below := goodIn_r _ [24, 25] (by decide +kernel) (by decide +kernel)
set_option maxRecDepth 20000 in
theorem gL_build_L_below : GoodIn wsL_build (va_wsS RL 15 yL_below wsL_below) := goodIn_app (goodIn_of _ (by decide +kernel)) ggL_build_L_below
set_option maxRecDepth 20000 in
theorem ggL_build_L_act : GoodIn wsL_build wsL_act := goodIn_ca (goodIn_ca (goodIn_ca (goodIn_hd (List.mem_of_getElem? (i := 28) rfl) (by decide +kernel) (goodIn_app (goodIn_app (goodIn_app (goodIn_app (goodIn_app (goodIn_app (goodIn_r wsL_act_r1 [29, 30, 31, 32, 10, 33, 34, 35, 36, 37, 38, 39, 40, 22, 23, 19, 24, 25, 41, 42, 43, 3, 44, 14] (by decide +kernel) (by decide +kernel)) (goodIn_app (goodIn_r wsL_act_r2 [45, 46, 47, 48, 49, 50, 51, 52, 53, 54, 55, 56, 57, 58, 59, 60, 61, 62, 63, 64, 65, 66, 67, 68] (by decide +kernel) (by decide +kernel)) (goodIn_app (goodIn_r wsL_act_r3 [69, 70, 71, 72, 73, 74, 75, 76, 77, 78, 79, 80, 81, 82, 83, 84, 85, 86, 87, 88, 89, 90, 91, 92] (by decide +kernel) (by decide +kernel)) (goodIn_app (goodIn_r wsL_act_r4 [93, 94, 95, 96, 97, 98, 99, 100, 101, 102, 103, 104, 105, 106, 107, 108, 109, 110, 111, 112, 113, 114, 115, 116] (by decide +kernel) (by decide +kernel)) (goodIn_app (goodIn_r wsL_act_r5 [117, 118, 119, 120, 121, 122, 123, 124, 125, 126, 7, 8, 127, 128, 129, 130, 131, 132, 133, 134, 135, 136, 137, 138] (by decide +kernel) (by decide +kernel)) (goodIn_app (goodIn_r wsL_act_r6 [139, 140, 141, 142, 143, 144, 145, 146, 147, 148, 149, 150, 151, 152, 153, 154, 155, 156, 157, 158, 159, 160, 161, 162] (by decide +kernel) (by decide +kernel)) (goodIn_app (goodIn_r wsL_act_r7 [163, 164, 165, 166, 167, 168, 169, 170, 171, 172, 173, 174, 175, 176, 177, 178, 179, 180, 181, 182, 183, 184, 185, 186] (by decide +kernel) (by decide +kernel)) (goodIn_app (goodIn_r wsL_act_r8 [187, 188, 189, 190, 191, 192, 193, 194, 195, 196, 197, 198, 199, 200, 201, 202, 203, 204, 205, 206, 207, 208, 209, 210] (by decide +kernel) (by decide +kernel)) (goodIn_app (goodIn_r wsL_act_r9 [211, 212, 213, 214, 215, 216, 217, 218, 219, 220, 221, 222, 223, 224, 225, 226, 227, 228, 229, 230, 231, 232, 233, 234] (by decide +kernel) (by decide +kernel)) (goodIn_app (goodIn_r wsL_act_r10 [235, 236, 237, 238, 11, 239, 240, 241, 242, 243, 244, 245, 246, 247, 248, 249, 250, 251, 252, 253, 254, 255, 256, 257] (by decide +kernel) (by decide +kernel)) (goodIn_app (goodIn_r wsL_act_r11 [258, 259, 260, 261, 262, 263, 264, 265, 266, 267, 268, 269, 270, 271, 272, 273, 274, 275, 276, 277, 278, 279, 280, 281] (by decide +kernel) (by decide +kernel)) (goodIn_app (goodIn_r wsL_act_r12 [282, 283, 284, 285, 286, 287, 288, 289, 290, 291, 292, 293, 294, 295, 296, 297, 298, 299, 300, 301, 302, 303, 304, 305] (by decide +kernel) (by decide +kernel)) (goodIn_r wsL_act_r13 [306, 307, 308, 309, 310, 311, 312, 313, 314, 315, 316, 317] (by decide +kernel) (by decide +kernel)))))))))))))) (goodIn_r wsX30 [318, 319, 320, 321, 322, 323] (by decide +kernel) (by decide +kernel))) (goodIn_r wsX20 [324, 325, 326, 327] (by decide +kernel) (by decide +kernel))) (goodIn_r wsX00 [328, 329, 330, 331, 332, 333, 334] (by decide +kernel) (by decide +kernel))) (goodIn_r wsJx4a65c0 [335, 336, 337] (by decide +kernel) (by decide +kernel))) (goodIn_r wsX10 [338, 339, 340, 341, 342, 343, 344, 345] (by decide +kernel) (by decide +kernel)))) (goodIn_sub (fun _ h => List.mem_cons_of_mem _ (List.mem_append_left _ (List.mem_append_left _ (List.mem_append_right _ h)))) (by decide +kernel))) (goodIn_sub (fun _ h => List.mem_cons_of_mem _ (List.mem_append_left _ (List.mem_append_right _ h))) (by decide +kernel))) (goodIn_sub (fun _ h => List.mem_cons_of_mem _ (List.mem_append_right _ h)) (by decide +kernel))
set_option maxRecDepth 20000 in
theorem gL_build_L_act : GoodIn wsL_build (va_wsS RL 103 yL_act wsL_act) := goodIn_app (goodIn_of _ (by decide +kernel)) ggL_build_L_act
theorem dL_build_0 : decode cL_build 0 = .ok (.new 10, 3) := by decide +kernel
theorem dL_build_3 : decode cL_build 3 = .ok (.dup, 1) := by decide +kernel
theorem dL_build_4 : decode cL_build 4 = .ok (.invokespecial 99, 3) := by decide +kernel
theorem dL_build_7 : decode cL_build 7 = .ok (.astore_n 3, 1) := by decide +kernel
theorem dL_build_8 : decode cL_build 8 = .ok (.iconst 0, 1) := by decide +kernel
theorem dL_build_9 : decode cL_build 9 = .ok (.istore 4, 2) := by decide +kernel
theorem dL_build_11 : decode cL_build 11 = .ok (.iload 4, 2) := by decide +kernel
theorem dL_build_13 : decode cL_build 13 = .ok (.iload_n 2, 1) := by decide +kernel
theorem dL_build_14 : decode cL_build 14 = .ok (.if_icmp .ge 83, 3) := by decide +kernel
theorem dL_build_17 : decode cL_build 17 = .ok (.aload_n 1, 1) := by decide +kernel
theorem dL_build_18 : decode cL_build 18 = .ok (.iload 4, 2) := by decide +kernel
theorem dL_build_20 : decode cL_build 20 = .ok (.bipush 16, 2) := by decide +kernel
theorem dL_build_22 : decode cL_build 22 = .ok (.irem, 1) := by decide +kernel
theorem dL_build_23 : decode cL_build 23 = .ok (.invokestatic 100, 3) := by decide +kernel
theorem dL_build_26 : decode cL_build 26 = .ok (.iload 4, 2) := by decide +kernel
theorem dL_build_28 : decode cL_build 28 = .ok (.bipush 16, 2) := by decide +kernel
theorem dL_build_30 : decode cL_build 30 = .ok (.idiv, 1) := by decide +kernel
theorem dL_build_31 : decode cL_build 31 = .ok (.iconst 3, 1) := by decide +kernel
theorem dL_build_32 : decode cL_build 32 = .ok (.imul, 1) := by decide +kernel
theorem dL_build_33 : decode cL_build 33 = .ok (.ishr, 1) := by decide +kernel
theorem dL_build_34 : decode cL_build 34 = .ok (.bipush 71, 2) := by decide +kernel
theorem dL_build_36 : decode cL_build 36 = .ok (.iload 4, 2) := by decide +kernel
theorem dL_build_38 : decode cL_build 38 = .ok (.imul, 1) := by decide +kernel
theorem dL_build_39 : decode cL_build 39 = .ok (.iadd, 1) := by decide +kernel
theorem dL_build_40 : decode cL_build 40 = .ok (.istore 5, 2) := by decide +kernel
theorem dL_build_42 : decode cL_build 42 = .ok (.iload 4, 2) := by decide +kernel
theorem dL_build_44 : decode cL_build 44 = .ok (.bipush 12, 2) := by decide +kernel
theorem dL_build_46 : decode cL_build 46 = .ok (.if_icmp .ge 33, 3) := by decide +kernel
theorem dL_build_49 : decode cL_build 49 = .ok (.iload 5, 2) := by decide +kernel
theorem dL_build_51 : decode cL_build 51 = .ok (.sipush 10000, 3) := by decide +kernel
theorem dL_build_54 : decode cL_build 54 = .ok (.invokestatic 15, 3) := by decide +kernel
theorem dL_build_57 : decode cL_build 57 = .ok (.bipush 14, 2) := by decide +kernel
theorem dL_build_59 : decode cL_build 59 = .ok (.imul, 1) := by decide +kernel
theorem dL_build_60 : decode cL_build 60 = .ok (.iload 4, 2) := by decide +kernel
theorem dL_build_62 : decode cL_build 62 = .ok (.iconst 4, 1) := by decide +kernel
theorem dL_build_63 : decode cL_build 63 = .ok (.irem, 1) := by decide +kernel
theorem dL_build_64 : decode cL_build 64 = .ok (.iconst 3, 1) := by decide +kernel
theorem dL_build_65 : decode cL_build 65 = .ok (.if_icmp .ne 7, 3) := by decide +kernel
theorem dL_build_68 : decode cL_build 68 = .ok (.iconst 3, 1) := by decide +kernel
theorem dL_build_69 : decode cL_build 69 = .ok (.goto 7, 3) := by decide +kernel
theorem dL_build_72 : decode cL_build 72 = .ok (.iload 4, 2) := by decide +kernel
theorem dL_build_74 : decode cL_build 74 = .ok (.iconst 3, 1) := by decide +kernel
theorem dL_build_75 : decode cL_build 75 = .ok (.irem, 1) := by decide +kernel
theorem dL_build_76 : decode cL_build 76 = .ok (.iadd, 1) := by decide +kernel
theorem dL_build_77 : decode cL_build 77 = .ok (.istore 5, 2) := by decide +kernel
theorem dL_build_79 : decode cL_build 79 = .ok (.aload_n 0, 1) := by decide +kernel
theorem dL_build_80 : decode cL_build 80 = .ok (.aload_n 3, 1) := by decide +kernel
theorem dL_build_81 : decode cL_build 81 = .ok (.iload 5, 2) := by decide +kernel
theorem dL_build_83 : decode cL_build 83 = .ok (.invokestatic 103, 3) := by decide +kernel
theorem dL_build_86 : decode cL_build 86 = .ok (.ifCond .ne 5, 3) := by decide +kernel
theorem dL_build_89 : decode cL_build 89 = .ok (.aconst_null, 1) := by decide +kernel
theorem dL_build_90 : decode cL_build 90 = .ok (.areturn, 1) := by decide +kernel
theorem dL_build_91 : decode cL_build 91 = .ok (.iinc 4 1, 3) := by decide +kernel
theorem dL_build_94 : decode cL_build 94 = .ok (.goto (-83), 3) := by decide +kernel
theorem dL_build_97 : decode cL_build 97 = .ok (.aload_n 3, 1) := by decide +kernel
theorem dL_build_98 : decode cL_build 98 = .ok (.areturn, 1) := by decide +kernel
set_option maxRecDepth 20000 in
theorem ggL_law_X2_init : GoodIn wsL_law wsX2_init := goodIn_r _ [12, 13, 14, 15, 16, 17, 18, 19, 20, 21, 22, 23, 24, 25, 26, 27, 28, 29, 30, 31, 32, 33, 34, 35, 36, 37, 447, 448, 449, 450, 451, 452, 453] (by decide +kernel) (by decide +kernel)
set_option maxRecDepth 20000 in
theorem gL_law_X2_init : GoodIn wsL_law (wsX2_init) := ggL_law_X2_init
set_option maxRecDepth 20000 in
theorem ggL_law_L_build : GoodIn wsL_law wsL_build := goodIn_ca (goodIn_ca (goodIn_ca (goodIn_hd (List.mem_of_getElem? (i := 41) rfl) (by decide +kernel) (goodIn_app (goodIn_app (goodIn_app (goodIn_app (goodIn_app (goodIn_app (goodIn_r wsL_build_r1 [42, 43, 44, 45, 46, 47, 14, 15, 48, 5, 49, 50, 51, 52, 3, 53, 54, 55, 40, 56, 57, 58, 59, 60] (by decide +kernel) (by decide +kernel)) (goodIn_app ((show GoodIn wsL_law [Cond.constant RL 7 (2147483647), Cond.methodLink RL 103 yL_act, Cond.static yL_act, Cond.codeWith yL_act cL_act 13 (some .boolean) [(242, 252, 255, 37), (394, 414, 417, 37), (613, 622, 625, 37), (958, 967, 970, 37), (1031, 1038, 1041, 37), (1176, 1183, 1186, 37)], Cond.classLink RL 37 "java/lang/IllegalStateException", Cond.fieldLink RL 9 "TreadCranesLaw$Sim" "cranes" "[[I", Cond.fieldLink RL 21 "TreadCranesLaw$Sim" "weights" "[I", Cond.fieldLink RL 25 "TreadCranesLaw$Sim" "quay" "[[I", Cond.classLink RL 47 "[I", Cond.methodLink RL 59 Lib.Math.abs.name, Cond.static Lib.Math.abs.name, Cond.initialized "java/lang/Math", Cond.code Lib.Math.abs.name Lib.Math.abs.code 1 (some .int), Cond.fieldLink RL 67 "TreadCranesLaw$Sim" "ticks" "I", Cond.fieldLink RL 79 "TreadCranesLaw$Sim" "isBroken" "[Z", Cond.fieldLink RL 83 "TreadCranesLaw$Sim" "broken" "I", Cond.methodLink RL 28 yX3_areFine, Cond.instanceMethod yX3_areFine, Cond.selects RX3 yX3_areFine yX3_areFine, Cond.code yX3_areFine cX3_areFine 8 (some .boolean), Cond.methodLink RX3 32 yX3_isFine, Cond.static yX3_isFine, Cond.code yX3_isFine cX3_isFine 2 (some .boolean), Cond.methodLink RL 32 yX2_land] from goodIn_hd (List.mem_of_getElem? (i := 61) rfl) (by decide +kernel) (goodIn_hd (List.mem_of_getElem? (i := 62) rfl) (by decide +kernel) (goodIn_hd (List.mem_of_getElem? (i := 63) rfl) (by decide +kernel) (goodIn_hd (List.mem_of_getElem? (i := 64) rfl) (by decide +kernel) (goodIn_r _ [65, 66, 67, 68, 69, 6, 7, 8, 9, 70, 71, 72, 73, 74, 75, 76, 77, 78, 79, 80] (by decide +kernel) (by decide +kernel))))))) (goodIn_app (goodIn_r wsL_build_r3 [81, 82, 2, 83, 84, 85, 21, 16, 86, 87, 88, 89, 90, 91, 92, 93, 94, 95, 96, 97, 98, 99, 100, 101] (by decide +kernel) (by decide +kernel)) (goodIn_app (goodIn_r wsL_build_r4 [102, 103, 104, 105, 106, 107, 20, 108, 109, 110, 111, 112, 113, 114, 115, 116, 117, 118, 17, 119, 120, 121, 122, 22] (by decide +kernel) (by decide +kernel)) (goodIn_app (goodIn_r wsL_build_r5 [123, 124, 125, 126, 127, 128, 129, 130, 131, 132, 133, 134, 135, 136, 137, 138, 139, 140, 141, 27, 142, 143, 144, 145] (by decide +kernel) (by decide +kernel)) (goodIn_app (goodIn_r wsL_build_r6 [146, 147, 148, 149, 150, 151, 152, 153, 154, 155, 156, 157, 158, 159, 160, 161, 162, 163, 164, 165, 166, 167, 168, 169] (by decide +kernel) (by decide +kernel)) (goodIn_app (goodIn_r wsL_build_r7 [170, 171, 172, 173, 26, 174, 175, 176, 177, 178, 179, 180, 181, 182, 183, 184, 185, 186, 187, 188, 189, 190, 191, 192] (by decide +kernel) (by decide +kernel)) (goodIn_app (goodIn_r wsL_build_r8 [193, 194, 195, 196, 197, 198, 199, 200, 201, 202, 203, 204, 205, 206, 207, 208, 209, 210, 211, 212, 213, 214, 215, 216] (by decide +kernel) (by decide +kernel)) (goodIn_app (goodIn_r wsL_build_r9 [217, 218, 219, 220, 221, 222, 223, 224, 225, 226, 227, 228, 229, 230, 231, 232, 233, 234, 235, 236, 237, 238, 239, 240] (by decide +kernel) (by decide +kernel)) (goodIn_app (goodIn_r wsL_build_r10 [241, 242, 243, 244, 245, 246, 247, 248, 249, 250, 251, 252, 253, 254, 255, 256, 257, 258, 259, 260, 261, 262, 263, 264] (by decide +kernel) (by decide +kernel)) (goodIn_app (goodIn_r wsL_build_r11 [265, 266, 267, 268, 269, 270, 271, 272, 273, 274, 275, 276, 277, 278, 279, 280, 281, 282, 283, 284, 285, 286, 287, 288] (by decide +kernel) (by decide +kernel)) (goodIn_app (goodIn_r wsL_build_r12 [289, 290, 291, 292, 293, 294, 295, 296, 297, 298, 299, 300, 301, 302, 303, 304, 305, 306, 307, 308, 309, 310, 311, 312] (by decide +kernel) (by decide +kernel)) (goodIn_app (goodIn_r wsL_build_r13 [313, 314, 315, 316, 317, 318, 319, 320, 321, 322, 323, 324, 325, 326, 327, 328, 329, 330, 331, 332, 333, 334, 335, 336] (by decide +kernel) (by decide +kernel)) (goodIn_r wsL_build_r14 [337, 338, 339, 340, 341] (by decide +kernel) (by decide +kernel))))))))))))))) (goodIn_r wsX30 [454, 455, 456, 457, 458, 459] (by decide +kernel) (by decide +kernel))) (goodIn_r wsX20 [447, 448, 449, 450] (by decide +kernel) (by decide +kernel))) (goodIn_r wsX00 [460, 461, 462, 463, 464, 465, 466] (by decide +kernel) (by decide +kernel))) (goodIn_r wsJx4a65c0 [451, 452, 453] (by decide +kernel) (by decide +kernel))) (goodIn_r wsX10 [467, 468, 469, 470, 471, 472, 473, 474] (by decide +kernel) (by decide +kernel)))) (goodIn_sub (fun _ h => List.mem_append_left _ (List.mem_append_left _ (List.mem_append_right _ h))) (by decide +kernel))) (goodIn_sub (fun _ h => List.mem_append_left _ (List.mem_append_right _ h)) (by decide +kernel))) (goodIn_sub (fun _ h => List.mem_append_right _ h) (by decide +kernel))
set_option maxRecDepth 20000 in
theorem gL_law_L_build : GoodIn wsL_law (va_wsS RL 108 yL_build wsL_build) := goodIn_app (goodIn_of _ (by decide +kernel)) ggL_law_L_build
set_option maxRecDepth 20000 in
theorem ggL_law_L_cell : GoodIn wsL_law wsL_cell := goodIn_r _ [56, 57] (by decide +kernel) (by decide +kernel)
set_option maxRecDepth 20000 in
theorem gL_law_L_cell : GoodIn wsL_law (va_wsS RL 100 yL_cell wsL_cell) := goodIn_app (goodIn_of _ (by decide +kernel)) ggL_law_L_cell
set_option maxRecDepth 20000 in
theorem ggL_law_X2_count : GoodIn wsL_law wsX2_count := goodIn_ca (goodIn_r _ [345, 346, 347, 2, 348, 92, 93, 97, 98, 99, 349, 350, 351, 352, 267, 21, 22, 105, 106, 107, 20, 108, 109, 353, 354, 355, 356, 110, 111, 112, 113, 114, 115, 116, 117, 118, 17, 94, 95, 96, 357, 358, 359, 360, 123, 293, 126, 127, 128, 129, 130, 131, 132, 133, 134, 135, 136, 137, 138, 139, 140, 141, 27, 275, 276, 277, 278, 279, 201, 8, 202, 280, 175, 176, 447, 448, 449, 450, 451, 452, 453, 460, 461, 462, 463, 464, 465, 466, 467, 468, 469, 470, 471, 472, 473, 474] (by decide +kernel) (by decide +kernel)) (goodIn_sub (fun _ h => List.mem_append_left _ (List.mem_append_right _ h)) (by decide +kernel))
set_option maxRecDepth 20000 in
theorem gL_law_X2_count : GoodIn wsL_law (wsV RL 111 RX2 yX2_count wsX2_count) := goodIn_app (goodIn_of _ (by decide +kernel)) ggL_law_X2_count
set_option maxRecDepth 20000 in
theorem ggL_law_X2_barrel : GoodIn wsL_law wsX2_barrel := goodIn_ca (goodIn_r _ [364, 92, 93, 21, 365, 105, 106, 107, 20, 108, 109, 97, 98, 2, 99, 346, 347, 348, 126, 127, 128, 129, 130, 131, 132, 133, 134, 135, 136, 137, 138, 139, 140, 141, 27, 366, 367, 368, 369, 294, 211, 114, 321, 322, 110, 111, 112, 113, 115, 116, 117, 118, 17, 94, 95, 96, 447, 448, 449, 450, 451, 452, 453, 460, 461, 462, 463, 464, 465, 466] (by decide +kernel) (by decide +kernel)) (goodIn_sub (fun _ h => List.mem_append_left _ (List.mem_append_right _ h)) (by decide +kernel))
set_option maxRecDepth 20000 in
theorem gL_law_X2_barrel : GoodIn wsL_law (wsV RL 114 RX2 yX2_barrel wsX2_barrel) := goodIn_app (goodIn_of _ (by decide +kernel)) ggL_law_X2_barrel
set_option maxRecDepth 20000 in
theorem ggL_law_X2_crane : GoodIn wsL_law wsX2_crane := goodIn_ca (goodIn_r _ [373, 22, 123, 249, 250, 251, 2, 252, 92, 93, 105, 106, 107, 20, 108, 109, 97, 98, 99, 346, 347, 348, 126, 127, 128, 129, 130, 131, 132, 133, 134, 135, 136, 137, 138, 139, 140, 141, 27, 374, 375, 376, 377, 378, 379, 248, 257, 124, 125, 293, 380, 381, 382, 88, 383, 300, 301, 145, 302, 241, 242, 447, 448, 449, 450, 451, 452, 453, 467, 468, 469, 470, 471, 472, 473, 474, 460, 461, 462, 463, 464, 465, 466] (by decide +kernel) (by decide +kernel)) (goodIn_sub (fun _ h => List.mem_append_left _ (List.mem_append_right _ h)) (by decide +kernel))
set_option maxRecDepth 20000 in
theorem gL_law_X2_crane : GoodIn wsL_law (wsV RL 118 RX2 yX2_crane wsX2_crane) := goodIn_app (goodIn_of _ (by decide +kernel)) ggL_law_X2_crane
set_option maxRecDepth 20000 in
theorem ggL_law_L_act : GoodIn wsL_law wsL_act := goodIn_ca (goodIn_ca (goodIn_ca (goodIn_hd (List.mem_of_getElem? (i := 64) rfl) (by decide +kernel) (goodIn_app (goodIn_app (goodIn_app (goodIn_app (goodIn_app (goodIn_app (goodIn_r wsL_act_r1 [65, 66, 67, 68, 5, 69, 6, 7, 8, 9, 70, 71, 72, 58, 59, 40, 60, 61, 73, 74, 75, 44, 76, 52] (by decide +kernel) (by decide +kernel)) (goodIn_app (goodIn_r wsL_act_r2 [77, 78, 79, 80, 81, 82, 2, 83, 84, 85, 21, 16, 86, 87, 88, 89, 90, 91, 92, 93, 94, 95, 96, 97] (by decide +kernel) (by decide +kernel)) (goodIn_app (goodIn_r wsL_act_r3 [98, 99, 100, 101, 102, 103, 104, 105, 106, 107, 20, 108, 109, 110, 111, 112, 113, 114, 115, 116, 117, 118, 17, 119] (by decide +kernel) (by decide +kernel)) (goodIn_app (goodIn_r wsL_act_r4 [120, 121, 122, 22, 123, 124, 125, 126, 127, 128, 129, 130, 131, 132, 133, 134, 135, 136, 137, 138, 139, 140, 141, 27] (by decide +kernel) (by decide +kernel)) (goodIn_app (goodIn_r wsL_act_r5 [142, 143, 144, 145, 146, 147, 148, 149, 150, 151, 14, 15, 152, 153, 154, 155, 156, 157, 158, 159, 160, 161, 162, 163] (by decide +kernel) (by decide +kernel)) (goodIn_app (goodIn_r wsL_act_r6 [164, 165, 166, 167, 168, 169, 170, 171, 172, 173, 26, 174, 175, 176, 177, 178, 179, 180, 181, 182, 183, 184, 185, 186] (by decide +kernel) (by decide +kernel)) (goodIn_app (goodIn_r wsL_act_r7 [187, 188, 189, 190, 191, 192, 193, 194, 195, 196, 197, 198, 199, 200, 201, 202, 203, 204, 205, 206, 207, 208, 209, 210] (by decide +kernel) (by decide +kernel)) (goodIn_app (goodIn_r wsL_act_r8 [211, 212, 213, 214, 215, 216, 217, 218, 219, 220, 221, 222, 223, 224, 225, 226, 227, 228, 229, 230, 231, 232, 233, 234] (by decide +kernel) (by decide +kernel)) (goodIn_app (goodIn_r wsL_act_r9 [235, 236, 237, 238, 239, 240, 241, 242, 243, 244, 245, 246, 247, 248, 249, 250, 251, 252, 253, 254, 255, 256, 257, 258] (by decide +kernel) (by decide +kernel)) (goodIn_app (goodIn_r wsL_act_r10 [259, 260, 261, 262, 49, 263, 264, 265, 266, 267, 268, 269, 270, 271, 272, 273, 274, 275, 276, 277, 278, 279, 280, 281] (by decide +kernel) (by decide +kernel)) (goodIn_app (goodIn_r wsL_act_r11 [282, 283, 284, 285, 286, 287, 288, 289, 290, 291, 292, 293, 294, 295, 296, 297, 298, 299, 300, 301, 302, 303, 304, 305] (by decide +kernel) (by decide +kernel)) (goodIn_app (goodIn_r wsL_act_r12 [306, 307, 308, 309, 310, 311, 312, 313, 314, 315, 316, 317, 318, 319, 320, 321, 322, 323, 324, 325, 326, 327, 328, 329] (by decide +kernel) (by decide +kernel)) (goodIn_r wsL_act_r13 [330, 331, 332, 333, 334, 335, 336, 337, 338, 339, 340, 341] (by decide +kernel) (by decide +kernel)))))))))))))) (goodIn_r wsX30 [454, 455, 456, 457, 458, 459] (by decide +kernel) (by decide +kernel))) (goodIn_r wsX20 [447, 448, 449, 450] (by decide +kernel) (by decide +kernel))) (goodIn_r wsX00 [460, 461, 462, 463, 464, 465, 466] (by decide +kernel) (by decide +kernel))) (goodIn_r wsJx4a65c0 [451, 452, 453] (by decide +kernel) (by decide +kernel))) (goodIn_r wsX10 [467, 468, 469, 470, 471, 472, 473, 474] (by decide +kernel) (by decide +kernel)))) (goodIn_sub (fun _ h => List.mem_append_left _ (List.mem_append_left _ (List.mem_append_right _ h))) (by decide +kernel))) (goodIn_sub (fun _ h => List.mem_append_left _ (List.mem_append_right _ h)) (by decide +kernel))) (goodIn_sub (fun _ h => List.mem_append_right _ h) (by decide +kernel))
set_option maxRecDepth 20000 in
theorem gL_law_L_act : GoodIn wsL_law (va_wsS RL 103 yL_act wsL_act) := goodIn_app (goodIn_of _ (by decide +kernel)) ggL_law_L_act
set_option maxRecDepth 20000 in
theorem ggL_law_X2_place : GoodIn wsL_law wsX2_place := goodIn_ca (goodIn_r _ [387, 89, 90, 2, 91, 92, 93, 94, 95, 96, 97, 98, 99, 346, 347, 348, 388, 389, 390, 391, 110, 111, 112, 113, 114, 115, 116, 117, 118, 17, 380, 381, 382, 88, 392, 393, 394, 395, 294, 212, 396, 397, 398, 399, 22, 123, 124, 105, 106, 107, 20, 108, 109, 126, 127, 128, 129, 130, 131, 132, 133, 134, 135, 136, 137, 138, 139, 140, 141, 27, 460, 461, 462, 463, 464, 465, 466, 447, 448, 449, 450, 467, 468, 469, 470, 471, 472, 473, 474, 451, 452, 453] (by decide +kernel) (by decide +kernel)) (goodIn_sub (fun _ h => List.mem_append_left _ (List.mem_append_right _ h)) (by decide +kernel))
set_option maxRecDepth 20000 in
theorem gL_law_X2_place : GoodIn wsL_law (wsV RL 121 RX2 yX2_place wsX2_place) := goodIn_app (goodIn_of _ (by decide +kernel)) ggL_law_X2_place
set_option maxRecDepth 20000 in
theorem ggL_law_X2_digest : GoodIn wsL_law wsX2_digest := goodIn_r _ [403, 404, 405, 21, 365, 22, 123, 349, 350, 351, 2, 352, 267, 105, 106, 107, 20, 108, 109, 353, 354, 355, 356, 110, 111, 112, 113, 114, 115, 116, 117, 118, 17, 94, 95, 96, 97, 98, 99, 357, 358, 359, 360, 293, 126, 127, 128, 129, 130, 131, 132, 133, 134, 135, 136, 137, 138, 139, 140, 141, 27, 275, 276, 277, 278, 279, 201, 8, 202, 280, 175, 176, 388, 389, 390, 391, 380, 381, 382, 88, 392, 393, 394, 395, 294, 212, 396, 397, 398, 399, 124, 366, 367, 368, 369, 211, 321, 322, 374, 375, 376, 377, 378, 379, 248, 257, 125, 383, 300, 301, 145, 302, 241, 242, 447, 448, 449, 450, 451, 452, 453, 460, 461, 462, 463, 464, 465, 466, 467, 468, 469, 470, 471, 472, 473, 474] (by decide +kernel) (by decide +kernel)
set_option maxRecDepth 20000 in
theorem gL_law_X2_digest : GoodIn wsL_law (wsV RL 124 RX2 yX2_digest wsX2_digest) := goodIn_app (goodIn_of _ (by decide +kernel)) ggL_law_X2_digest
set_option maxRecDepth 20000 in
theorem ggL_law_L_below : GoodIn wsL_law wsL_below := goodIn_r _ [60, 61] (by decide +kernel) (by decide +kernel)
set_option maxRecDepth 20000 in
theorem gL_law_L_below : GoodIn wsL_law (va_wsS RL 15 yL_below wsL_below) := goodIn_app (goodIn_of _ (by decide +kernel)) ggL_law_L_below
set_option maxRecDepth 20000 in
theorem ggL_law_X2_best : GoodIn wsL_law wsX2_best := goodIn_ca (goodIn_r _ [409, 22, 123, 89, 90, 2, 91, 92, 93, 94, 95, 96, 97, 98, 99, 105, 106, 107, 20, 108, 109, 126, 127, 128, 129, 130, 131, 132, 133, 134, 135, 136, 137, 138, 139, 140, 141, 27, 410, 411, 412, 413, 294, 125, 124, 280, 175, 8, 176, 115, 116, 117, 118, 17, 295, 296, 297, 145, 298, 299, 300, 301, 302, 241, 242, 414, 415, 416, 417, 293, 268, 269, 270, 271, 239, 240, 272, 273, 274, 7, 9, 110, 111, 112, 113, 114, 275, 276, 277, 278, 279, 201, 202, 307, 308, 309, 310, 311, 312, 313, 314, 315, 316, 317, 281, 447, 448, 449, 450, 451, 452, 453, 460, 461, 462, 463, 464, 465, 466, 467, 468, 469, 470, 471, 472, 473, 474] (by decide +kernel) (by decide +kernel)) (goodIn_sub (fun _ h => List.mem_append_left _ (List.mem_append_right _ h)) (by decide +kernel))
set_option maxRecDepth 20000 in
theorem gL_law_X2_best : GoodIn wsL_law (wsV RL 128 RX2 yX2_best wsX2_best) := goodIn_app (goodIn_of _ (by decide +kernel)) ggL_law_X2_best
set_option maxRecDepth 20000 in
theorem ggL_law_X2_move : GoodIn wsL_law wsX2_move := goodIn_ca (goodIn_r _ [421, 22, 123, 249, 250, 251, 2, 252, 92, 93, 105, 106, 107, 20, 108, 109, 97, 98, 99, 89, 90, 91, 94, 95, 96, 126, 127, 128, 129, 130, 131, 132, 133, 134, 135, 136, 137, 138, 139, 140, 141, 27, 410, 411, 412, 413, 294, 125, 124, 280, 175, 8, 176, 115, 116, 117, 118, 17, 295, 296, 297, 145, 298, 299, 300, 301, 302, 241, 242, 414, 415, 416, 417, 293, 268, 269, 270, 271, 239, 240, 272, 273, 274, 7, 9, 110, 111, 112, 113, 114, 275, 276, 277, 278, 279, 201, 202, 307, 308, 309, 310, 311, 312, 313, 314, 315, 316, 317, 281, 447, 448, 449, 450, 451, 452, 453, 460, 461, 462, 463, 464, 465, 466, 467, 468, 469, 470, 471, 472, 473, 474] (by decide +kernel) (by decide +kernel)) (goodIn_sub (fun _ h => List.mem_append_left _ (List.mem_append_right _ h)) (by decide +kernel))
set_option maxRecDepth 20000 in
theorem gL_law_X2_move : GoodIn wsL_law (wsV RL 131 RX2 yX2_move wsX2_move) := goodIn_app (goodIn_of _ (by decide +kernel)) ggL_law_X2_move
set_option maxRecDepth 20000 in
theorem ggL_law_X2_within : GoodIn wsL_law wsX2_within := goodIn_ca (goodIn_r _ [425, 22, 123, 21, 365, 211, 294, 249, 250, 251, 2, 252, 92, 93, 105, 106, 107, 20, 108, 109, 97, 98, 99, 126, 127, 128, 129, 130, 131, 132, 133, 134, 135, 136, 137, 138, 139, 140, 141, 27, 268, 269, 270, 145, 271, 239, 240, 272, 273, 274, 7, 8, 9, 295, 296, 297, 298, 299, 300, 301, 302, 241, 242, 447, 448, 449, 450, 460, 461, 462, 463, 464, 465, 466, 451, 452, 453, 467, 468, 469, 470, 471, 472, 473, 474] (by decide +kernel) (by decide +kernel)) (goodIn_sub (fun _ h => List.mem_append_left _ (List.mem_append_right _ h)) (by decide +kernel))
set_option maxRecDepth 20000 in
theorem gL_law_X2_within : GoodIn wsL_law (wsV RL 135 RX2 yX2_within wsX2_within) := goodIn_app (goodIn_of _ (by decide +kernel)) ggL_law_X2_within
set_option maxRecDepth 20000 in
theorem ggL_law_X2_lasts : GoodIn wsL_law wsX2_lasts := goodIn_ca (goodIn_ca (goodIn_r _ [429, 22, 123, 257, 249, 250, 251, 2, 252, 92, 93, 105, 106, 107, 20, 108, 109, 97, 98, 99, 100, 101, 102, 103, 104, 430, 316, 317, 126, 127, 128, 129, 130, 131, 132, 133, 134, 135, 136, 137, 138, 139, 140, 141, 27, 447, 448, 449, 450, 467, 468, 469, 470, 471, 472, 473, 474, 451, 452, 453] (by decide +kernel) (by decide +kernel)) (goodIn_sub (fun _ h => List.mem_append_left _ (List.mem_append_right _ h)) (by decide +kernel))) (goodIn_sub (fun _ h => List.mem_append_right _ h) (by decide +kernel))
set_option maxRecDepth 20000 in
theorem gL_law_X2_lasts : GoodIn wsL_law (wsV RL 138 RX2 yX2_lasts wsX2_lasts) := goodIn_app (goodIn_of _ (by decide +kernel)) ggL_law_X2_lasts
set_option maxRecDepth 20000 in
theorem ggL_law_X3_isSame : GoodIn wsL_law wsX3_isSame := goodIn_ca (goodIn_hd (List.mem_of_getElem? (i := 434) rfl) (by decide +kernel) (goodIn_app (goodIn_app (goodIn_app (goodIn_app (goodIn_app (goodIn_app (goodIn_r wsX3_isSame_r1 [49, 50, 5, 52, 435, 175, 8, 176, 53, 436, 437, 438, 362, 363, 2, 364, 92, 93, 21, 365, 105, 106, 107, 20] (by decide +kernel) (by decide +kernel)) (goodIn_app (goodIn_r wsX3_isSame_r2 [108, 109, 97, 98, 99, 346, 347, 348, 126, 127, 128, 129, 130, 131, 132, 133, 134, 135, 136, 137, 138, 139, 140, 141] (by decide +kernel) (by decide +kernel)) (goodIn_app (goodIn_r wsX3_isSame_r3 [27, 366, 367, 368, 369, 294, 211, 114, 321, 322, 110, 111, 112, 113, 115, 116, 117, 118, 17, 94, 95, 96, 439, 385] (by decide +kernel) (by decide +kernel)) (goodIn_app (goodIn_r wsX3_isSame_r4 [386, 387, 89, 90, 91, 388, 389, 390, 391, 380, 381, 382, 88, 392, 393, 394, 395, 212, 396, 397, 398, 399, 22, 123] (by decide +kernel) (by decide +kernel)) (goodIn_app (goodIn_r wsX3_isSame_r5 [124, 440, 371, 372, 373, 249, 250, 251, 252, 374, 375, 376, 377, 378, 379, 248, 257, 125, 293, 383, 300, 301, 145, 302] (by decide +kernel) (by decide +kernel)) (goodIn_app (goodIn_r wsX3_isSame_r6 [241, 242, 441, 283, 284, 44, 285, 442, 343, 344, 345, 349, 350, 351, 352, 267, 353, 354, 355, 356, 357, 358, 359, 360] (by decide +kernel) (by decide +kernel)) (goodIn_r wsX3_isSame_r7 [275, 276, 277, 278, 279, 201, 202, 280, 443, 444, 445, 446] (by decide +kernel) (by decide +kernel)))))))) (goodIn_r wsX30 [454, 455, 456, 457, 458, 459] (by decide +kernel) (by decide +kernel))) (goodIn_r wsX20 [447, 448, 449, 450] (by decide +kernel) (by decide +kernel))) (goodIn_r wsJx4a65c0 [451, 452, 453] (by decide +kernel) (by decide +kernel))) (goodIn_r wsX00 [460, 461, 462, 463, 464, 465, 466] (by decide +kernel) (by decide +kernel))) (goodIn_r wsX10 [467, 468, 469, 470, 471, 472, 473, 474] (by decide +kernel) (by decide +kernel)))) (goodIn_sub (fun _ h => List.mem_append_left _ (List.mem_append_right _ h)) (by decide +kernel))
set_option maxRecDepth 20000 in
theorem gL_law_X3_isSame : GoodIn wsL_law (wsV RL 141 RX3 yX3_isSame wsX3_isSame) := goodIn_app (goodIn_of _ (by decide +kernel)) ggL_law_X3_isSame
theorem dL_law_0 : decode cL_law 0 = .ok (.new 33, 3) := by decide +kernel
theorem dL_law_3 : decode cL_law 3 = .ok (.dup, 1) := by decide +kernel
theorem dL_law_4 : decode cL_law 4 = .ok (.invokespecial 107, 3) := by decide +kernel
theorem dL_law_7 : decode cL_law 7 = .ok (.astore_n 1, 1) := by decide +kernel
theorem dL_law_8 : decode cL_law 8 = .ok (.aload_n 1, 1) := by decide +kernel
theorem dL_law_9 : decode cL_law 9 = .ok (.aload_n 0, 1) := by decide +kernel
theorem dL_law_10 : decode cL_law 10 = .ok (.bipush 30, 2) := by decide +kernel
theorem dL_law_12 : decode cL_law 12 = .ok (.invokestatic 108, 3) := by decide +kernel
theorem dL_law_15 : decode cL_law 15 = .ok (.astore_n 2, 1) := by decide +kernel
theorem dL_law_16 : decode cL_law 16 = .ok (.aload_n 2, 1) := by decide +kernel
theorem dL_law_17 : decode cL_law 17 = .ok (.ifnonnull 5, 3) := by decide +kernel
theorem dL_law_20 : decode cL_law 20 = .ok (.iconst 0, 1) := by decide +kernel
theorem dL_law_21 : decode cL_law 21 = .ok (.ireturn, 1) := by decide +kernel
theorem dL_law_22 : decode cL_law 22 = .ok (.iconst 0, 1) := by decide +kernel
theorem dL_law_23 : decode cL_law 23 = .ok (.istore_n 3, 1) := by decide +kernel
theorem dL_law_24 : decode cL_law 24 = .ok (.iload_n 3, 1) := by decide +kernel
theorem dL_law_25 : decode cL_law 25 = .ok (.bipush 60, 2) := by decide +kernel
theorem dL_law_27 : decode cL_law 27 = .ok (.if_icmp .ge 1193, 3) := by decide +kernel
theorem dL_law_30 : decode cL_law 30 = .ok (.aload_n 0, 1) := by decide +kernel
theorem dL_law_31 : decode cL_law 31 = .ok (.iload_n 3, 1) := by decide +kernel
theorem dL_law_32 : decode cL_law 32 = .ok (.bipush 16, 2) := by decide +kernel
theorem dL_law_34 : decode cL_law 34 = .ok (.irem, 1) := by decide +kernel
theorem dL_law_35 : decode cL_law 35 = .ok (.invokestatic 100, 3) := by decide +kernel
theorem dL_law_38 : decode cL_law 38 = .ok (.iload_n 3, 1) := by decide +kernel
theorem dL_law_39 : decode cL_law 39 = .ok (.bipush 16, 2) := by decide +kernel
theorem dL_law_41 : decode cL_law 41 = .ok (.idiv, 1) := by decide +kernel
theorem dL_law_42 : decode cL_law 42 = .ok (.iconst 4, 1) := by decide +kernel
theorem dL_law_43 : decode cL_law 43 = .ok (.imul, 1) := by decide +kernel
theorem dL_law_44 : decode cL_law 44 = .ok (.ishr, 1) := by decide +kernel
theorem dL_law_45 : decode cL_law 45 = .ok (.bipush 59, 2) := by decide +kernel
theorem dL_law_47 : decode cL_law 47 = .ok (.iload_n 3, 1) := by decide +kernel
theorem dL_law_48 : decode cL_law 48 = .ok (.imul, 1) := by decide +kernel
theorem dL_law_49 : decode cL_law 49 = .ok (.iadd, 1) := by decide +kernel
theorem dL_law_50 : decode cL_law 50 = .ok (.istore 4, 2) := by decide +kernel
theorem dL_law_52 : decode cL_law 52 = .ok (.aload_n 1, 1) := by decide +kernel
theorem dL_law_53 : decode cL_law 53 = .ok (.iconst 1, 1) := by decide +kernel
theorem dL_law_54 : decode cL_law 54 = .ok (.invokevirtual 111, 3) := by decide +kernel
theorem dL_law_57 : decode cL_law 57 = .ok (.istore 5, 2) := by decide +kernel
theorem dL_law_59 : decode cL_law 59 = .ok (.aload_n 1, 1) := by decide +kernel
theorem dL_law_60 : decode cL_law 60 = .ok (.iconst 5, 1) := by decide +kernel
theorem dL_law_61 : decode cL_law 61 = .ok (.invokevirtual 111, 3) := by decide +kernel
theorem dL_law_64 : decode cL_law 64 = .ok (.istore 6, 2) := by decide +kernel
theorem dL_law_66 : decode cL_law 66 = .ok (.aload_n 1, 1) := by decide +kernel
theorem dL_law_67 : decode cL_law 67 = .ok (.iconst 0, 1) := by decide +kernel
theorem dL_law_68 : decode cL_law 68 = .ok (.invokevirtual 111, 3) := by decide +kernel
theorem dL_law_71 : decode cL_law 71 = .ok (.istore 7, 2) := by decide +kernel
theorem dL_law_73 : decode cL_law 73 = .ok (.aload_n 1, 1) := by decide +kernel
theorem dL_law_74 : decode cL_law 74 = .ok (.iconst 4, 1) := by decide +kernel
theorem dL_law_75 : decode cL_law 75 = .ok (.invokevirtual 111, 3) := by decide +kernel
theorem dL_law_78 : decode cL_law 78 = .ok (.istore 8, 2) := by decide +kernel
theorem dL_law_80 : decode cL_law 80 = .ok (.iload 5, 2) := by decide +kernel
theorem dL_law_82 : decode cL_law 82 = .ok (.newarray .boolean, 2) := by decide +kernel
theorem dL_law_84 : decode cL_law 84 = .ok (.astore 9, 2) := by decide +kernel
theorem dL_law_86 : decode cL_law 86 = .ok (.iconst 0, 1) := by decide +kernel
theorem dL_law_87 : decode cL_law 87 = .ok (.istore 10, 2) := by decide +kernel
theorem dL_law_89 : decode cL_law 89 = .ok (.iload 10, 2) := by decide +kernel
theorem dL_law_91 : decode cL_law 91 = .ok (.iload 5, 2) := by decide +kernel
theorem dL_law_93 : decode cL_law 93 = .ok (.if_icmp .ge 30, 3) := by decide +kernel
theorem dL_law_96 : decode cL_law 96 = .ok (.aload 9, 2) := by decide +kernel
theorem dL_law_98 : decode cL_law 98 = .ok (.iload 10, 2) := by decide +kernel
theorem dL_law_100 : decode cL_law 100 = .ok (.aload_n 1, 1) := by decide +kernel
theorem dL_law_101 : decode cL_law 101 = .ok (.iload 10, 2) := by decide +kernel
theorem dL_law_103 : decode cL_law 103 = .ok (.iconst 4, 1) := by decide +kernel
theorem dL_law_104 : decode cL_law 104 = .ok (.invokevirtual 114, 3) := by decide +kernel
theorem dL_law_107 : decode cL_law 107 = .ok (.iconst 1, 1) := by decide +kernel
theorem dL_law_108 : decode cL_law 108 = .ok (.if_icmp .ne 7, 3) := by decide +kernel
theorem dL_law_111 : decode cL_law 111 = .ok (.iconst 1, 1) := by decide +kernel
theorem dL_law_112 : decode cL_law 112 = .ok (.goto 4, 3) := by decide +kernel
theorem dL_law_115 : decode cL_law 115 = .ok (.iconst 0, 1) := by decide +kernel
theorem dL_law_116 : decode cL_law 116 = .ok (.bastore, 1) := by decide +kernel
theorem dL_law_117 : decode cL_law 117 = .ok (.iinc 10 1, 3) := by decide +kernel
theorem dL_law_120 : decode cL_law 120 = .ok (.goto (-31), 3) := by decide +kernel
theorem dL_law_123 : decode cL_law 123 = .ok (.iload 6, 2) := by decide +kernel
theorem dL_law_125 : decode cL_law 125 = .ok (.bipush 9, 2) := by decide +kernel
theorem dL_law_127 : decode cL_law 127 = .ok (.multianewarray 117 2, 4) := by decide +kernel
theorem dL_law_131 : decode cL_law 131 = .ok (.astore 10, 2) := by decide +kernel
theorem dL_law_133 : decode cL_law 133 = .ok (.iconst 0, 1) := by decide +kernel
theorem dL_law_134 : decode cL_law 134 = .ok (.istore 11, 2) := by decide +kernel
theorem dL_law_136 : decode cL_law 136 = .ok (.iload 11, 2) := by decide +kernel
theorem dL_law_138 : decode cL_law 138 = .ok (.iload 6, 2) := by decide +kernel
theorem dL_law_140 : decode cL_law 140 = .ok (.if_icmp .ge 41, 3) := by decide +kernel
theorem dL_law_143 : decode cL_law 143 = .ok (.iconst 0, 1) := by decide +kernel
theorem dL_law_144 : decode cL_law 144 = .ok (.istore 12, 2) := by decide +kernel
theorem dL_law_146 : decode cL_law 146 = .ok (.iload 12, 2) := by decide +kernel
theorem dL_law_148 : decode cL_law 148 = .ok (.bipush 9, 2) := by decide +kernel
theorem dL_law_150 : decode cL_law 150 = .ok (.if_icmp .ge 25, 3) := by decide +kernel
theorem dL_law_153 : decode cL_law 153 = .ok (.aload 10, 2) := by decide +kernel
theorem dL_law_155 : decode cL_law 155 = .ok (.iload 11, 2) := by decide +kernel
theorem dL_law_157 : decode cL_law 157 = .ok (.aaload, 1) := by decide +kernel
theorem dL_law_158 : decode cL_law 158 = .ok (.iload 12, 2) := by decide +kernel
theorem dL_law_160 : decode cL_law 160 = .ok (.aload_n 1, 1) := by decide +kernel
theorem dL_law_161 : decode cL_law 161 = .ok (.iload 11, 2) := by decide +kernel
theorem dL_law_163 : decode cL_law 163 = .ok (.iload 12, 2) := by decide +kernel
theorem dL_law_165 : decode cL_law 165 = .ok (.invokevirtual 118, 3) := by decide +kernel
theorem dL_law_168 : decode cL_law 168 = .ok (.iastore, 1) := by decide +kernel
theorem dL_law_169 : decode cL_law 169 = .ok (.iinc 12 1, 3) := by decide +kernel
theorem dL_law_172 : decode cL_law 172 = .ok (.goto (-26), 3) := by decide +kernel
theorem dL_law_175 : decode cL_law 175 = .ok (.iinc 11 1, 3) := by decide +kernel
theorem dL_law_178 : decode cL_law 178 = .ok (.goto (-42), 3) := by decide +kernel
theorem dL_law_181 : decode cL_law 181 = .ok (.aload_n 1, 1) := by decide +kernel
theorem dL_law_182 : decode cL_law 182 = .ok (.aload_n 2, 1) := by decide +kernel
theorem dL_law_183 : decode cL_law 183 = .ok (.iload 4, 2) := by decide +kernel
theorem dL_law_185 : decode cL_law 185 = .ok (.invokestatic 103, 3) := by decide +kernel
theorem dL_law_188 : decode cL_law 188 = .ok (.ifCond .ne 5, 3) := by decide +kernel
theorem dL_law_191 : decode cL_law 191 = .ok (.iconst 0, 1) := by decide +kernel
theorem dL_law_192 : decode cL_law 192 = .ok (.ireturn, 1) := by decide +kernel
theorem dL_law_193 : decode cL_law 193 = .ok (.aload_n 1, 1) := by decide +kernel
theorem dL_law_194 : decode cL_law 194 = .ok (.iconst 0, 1) := by decide +kernel
theorem dL_law_195 : decode cL_law 195 = .ok (.invokevirtual 111, 3) := by decide +kernel
theorem dL_law_198 : decode cL_law 198 = .ok (.iload 7, 2) := by decide +kernel
theorem dL_law_200 : decode cL_law 200 = .ok (.if_icmp .lt 38, 3) := by decide +kernel
theorem dL_law_203 : decode cL_law 203 = .ok (.aload_n 1, 1) := by decide +kernel
theorem dL_law_204 : decode cL_law 204 = .ok (.iconst 0, 1) := by decide +kernel
theorem dL_law_205 : decode cL_law 205 = .ok (.invokevirtual 111, 3) := by decide +kernel
theorem dL_law_208 : decode cL_law 208 = .ok (.iload 7, 2) := by decide +kernel
theorem dL_law_210 : decode cL_law 210 = .ok (.bipush 35, 2) := by decide +kernel
theorem dL_law_212 : decode cL_law 212 = .ok (.iadd, 1) := by decide +kernel
theorem dL_law_213 : decode cL_law 213 = .ok (.if_icmp .gt 25, 3) := by decide +kernel
theorem dL_law_216 : decode cL_law 216 = .ok (.aload_n 1, 1) := by decide +kernel
theorem dL_law_217 : decode cL_law 217 = .ok (.iconst 4, 1) := by decide +kernel
theorem dL_law_218 : decode cL_law 218 = .ok (.invokevirtual 111, 3) := by decide +kernel
theorem dL_law_221 : decode cL_law 221 = .ok (.iload 8, 2) := by decide +kernel
theorem dL_law_223 : decode cL_law 223 = .ok (.if_icmp .lt 15, 3) := by decide +kernel
theorem dL_law_226 : decode cL_law 226 = .ok (.aload_n 1, 1) := by decide +kernel
theorem dL_law_227 : decode cL_law 227 = .ok (.iconst 4, 1) := by decide +kernel
theorem dL_law_228 : decode cL_law 228 = .ok (.invokevirtual 111, 3) := by decide +kernel
theorem dL_law_231 : decode cL_law 231 = .ok (.iload 8, 2) := by decide +kernel
theorem dL_law_233 : decode cL_law 233 = .ok (.iconst 1, 1) := by decide +kernel
theorem dL_law_234 : decode cL_law 234 = .ok (.iadd, 1) := by decide +kernel
theorem dL_law_235 : decode cL_law 235 = .ok (.if_icmp .le 5, 3) := by decide +kernel
theorem dL_law_238 : decode cL_law 238 = .ok (.iconst 0, 1) := by decide +kernel
theorem dL_law_239 : decode cL_law 239 = .ok (.ireturn, 1) := by decide +kernel
theorem dL_law_240 : decode cL_law 240 = .ok (.iconst 0, 1) := by decide +kernel
theorem dL_law_241 : decode cL_law 241 = .ok (.istore 11, 2) := by decide +kernel
theorem dL_law_243 : decode cL_law 243 = .ok (.iload 11, 2) := by decide +kernel
theorem dL_law_245 : decode cL_law 245 = .ok (.iload 5, 2) := by decide +kernel
theorem dL_law_247 : decode cL_law 247 = .ok (.if_icmp .ge 30, 3) := by decide +kernel
theorem dL_law_250 : decode cL_law 250 = .ok (.aload 9, 2) := by decide +kernel
theorem dL_law_252 : decode cL_law 252 = .ok (.iload 11, 2) := by decide +kernel
theorem dL_law_254 : decode cL_law 254 = .ok (.baload, 1) := by decide +kernel
theorem dL_law_255 : decode cL_law 255 = .ok (.ifCond .eq 16, 3) := by decide +kernel
theorem dL_law_258 : decode cL_law 258 = .ok (.aload_n 1, 1) := by decide +kernel
theorem dL_law_259 : decode cL_law 259 = .ok (.iload 11, 2) := by decide +kernel
theorem dL_law_261 : decode cL_law 261 = .ok (.iconst 4, 1) := by decide +kernel
theorem dL_law_262 : decode cL_law 262 = .ok (.invokevirtual 114, 3) := by decide +kernel
theorem dL_law_265 : decode cL_law 265 = .ok (.iconst 1, 1) := by decide +kernel
theorem dL_law_266 : decode cL_law 266 = .ok (.if_icmp .eq 5, 3) := by decide +kernel
theorem dL_law_269 : decode cL_law 269 = .ok (.iconst 0, 1) := by decide +kernel
theorem dL_law_270 : decode cL_law 270 = .ok (.ireturn, 1) := by decide +kernel
theorem dL_law_271 : decode cL_law 271 = .ok (.iinc 11 1, 3) := by decide +kernel
theorem dL_law_274 : decode cL_law 274 = .ok (.goto (-31), 3) := by decide +kernel
theorem dL_law_277 : decode cL_law 277 = .ok (.iconst 0, 1) := by decide +kernel
theorem dL_law_278 : decode cL_law 278 = .ok (.istore 11, 2) := by decide +kernel
theorem dL_law_280 : decode cL_law 280 = .ok (.iconst 0, 1) := by decide +kernel
theorem dL_law_281 : decode cL_law 281 = .ok (.istore 12, 2) := by decide +kernel
theorem dL_law_283 : decode cL_law 283 = .ok (.iload 12, 2) := by decide +kernel
theorem dL_law_285 : decode cL_law 285 = .ok (.iload 6, 2) := by decide +kernel
theorem dL_law_287 : decode cL_law 287 = .ok (.if_icmp .ge 208, 3) := by decide +kernel
theorem dL_law_290 : decode cL_law 290 = .ok (.iconst 0, 1) := by decide +kernel
theorem dL_law_291 : decode cL_law 291 = .ok (.istore 13, 2) := by decide +kernel
theorem dL_law_293 : decode cL_law 293 = .ok (.iconst 0, 1) := by decide +kernel
theorem dL_law_294 : decode cL_law 294 = .ok (.istore 14, 2) := by decide +kernel
theorem dL_law_296 : decode cL_law 296 = .ok (.iload 14, 2) := by decide +kernel
theorem dL_law_298 : decode cL_law 298 = .ok (.bipush 9, 2) := by decide +kernel
theorem dL_law_300 : decode cL_law 300 = .ok (.if_icmp .ge 38, 3) := by decide +kernel
theorem dL_law_303 : decode cL_law 303 = .ok (.iload 13, 2) := by decide +kernel
theorem dL_law_305 : decode cL_law 305 = .ok (.aload_n 1, 1) := by decide +kernel
theorem dL_law_306 : decode cL_law 306 = .ok (.iload 12, 2) := by decide +kernel
theorem dL_law_308 : decode cL_law 308 = .ok (.iload 14, 2) := by decide +kernel
theorem dL_law_310 : decode cL_law 310 = .ok (.invokevirtual 118, 3) := by decide +kernel
theorem dL_law_313 : decode cL_law 313 = .ok (.aload 10, 2) := by decide +kernel
theorem dL_law_315 : decode cL_law 315 = .ok (.iload 12, 2) := by decide +kernel
theorem dL_law_317 : decode cL_law 317 = .ok (.aaload, 1) := by decide +kernel
theorem dL_law_318 : decode cL_law 318 = .ok (.iload 14, 2) := by decide +kernel
theorem dL_law_320 : decode cL_law 320 = .ok (.iaload, 1) := by decide +kernel
theorem dL_law_321 : decode cL_law 321 = .ok (.if_icmp .eq 7, 3) := by decide +kernel
theorem dL_law_324 : decode cL_law 324 = .ok (.iconst 1, 1) := by decide +kernel
theorem dL_law_325 : decode cL_law 325 = .ok (.goto 4, 3) := by decide +kernel
theorem dL_law_328 : decode cL_law 328 = .ok (.iconst 0, 1) := by decide +kernel
theorem dL_law_329 : decode cL_law 329 = .ok (.ior, 1) := by decide +kernel
theorem dL_law_330 : decode cL_law 330 = .ok (.istore 13, 2) := by decide +kernel
theorem dL_law_332 : decode cL_law 332 = .ok (.iinc 14 1, 3) := by decide +kernel
theorem dL_law_335 : decode cL_law 335 = .ok (.goto (-39), 3) := by decide +kernel
theorem dL_law_338 : decode cL_law 338 = .ok (.iload 11, 2) := by decide +kernel
theorem dL_law_340 : decode cL_law 340 = .ok (.iload 13, 2) := by decide +kernel
theorem dL_law_342 : decode cL_law 342 = .ok (.ifCond .eq 7, 3) := by decide +kernel
theorem dL_law_345 : decode cL_law 345 = .ok (.iconst 1, 1) := by decide +kernel
theorem dL_law_346 : decode cL_law 346 = .ok (.goto 4, 3) := by decide +kernel
theorem dL_law_349 : decode cL_law 349 = .ok (.iconst 0, 1) := by decide +kernel
theorem dL_law_350 : decode cL_law 350 = .ok (.iadd, 1) := by decide +kernel
theorem dL_law_351 : decode cL_law 351 = .ok (.istore 11, 2) := by decide +kernel
theorem dL_law_353 : decode cL_law 353 = .ok (.aload_n 1, 1) := by decide +kernel
theorem dL_law_354 : decode cL_law 354 = .ok (.iload 12, 2) := by decide +kernel
theorem dL_law_356 : decode cL_law 356 = .ok (.iconst 0, 1) := by decide +kernel
theorem dL_law_357 : decode cL_law 357 = .ok (.invokevirtual 118, 3) := by decide +kernel
theorem dL_law_360 : decode cL_law 360 = .ok (.aload 10, 2) := by decide +kernel
theorem dL_law_362 : decode cL_law 362 = .ok (.iload 12, 2) := by decide +kernel
theorem dL_law_364 : decode cL_law 364 = .ok (.aaload, 1) := by decide +kernel
theorem dL_law_365 : decode cL_law 365 = .ok (.iconst 0, 1) := by decide +kernel
theorem dL_law_366 : decode cL_law 366 = .ok (.iaload, 1) := by decide +kernel
theorem dL_law_367 : decode cL_law 367 = .ok (.if_icmp .ne 37, 3) := by decide +kernel
theorem dL_law_370 : decode cL_law 370 = .ok (.aload_n 1, 1) := by decide +kernel
theorem dL_law_371 : decode cL_law 371 = .ok (.iload 12, 2) := by decide +kernel
theorem dL_law_373 : decode cL_law 373 = .ok (.iconst 1, 1) := by decide +kernel
theorem dL_law_374 : decode cL_law 374 = .ok (.invokevirtual 118, 3) := by decide +kernel
theorem dL_law_377 : decode cL_law 377 = .ok (.aload 10, 2) := by decide +kernel
theorem dL_law_379 : decode cL_law 379 = .ok (.iload 12, 2) := by decide +kernel
theorem dL_law_381 : decode cL_law 381 = .ok (.aaload, 1) := by decide +kernel
theorem dL_law_382 : decode cL_law 382 = .ok (.iconst 1, 1) := by decide +kernel
theorem dL_law_383 : decode cL_law 383 = .ok (.iaload, 1) := by decide +kernel
theorem dL_law_384 : decode cL_law 384 = .ok (.if_icmp .ne 20, 3) := by decide +kernel
theorem dL_law_387 : decode cL_law 387 = .ok (.aload_n 1, 1) := by decide +kernel
theorem dL_law_388 : decode cL_law 388 = .ok (.iload 12, 2) := by decide +kernel
theorem dL_law_390 : decode cL_law 390 = .ok (.iconst 2, 1) := by decide +kernel
theorem dL_law_391 : decode cL_law 391 = .ok (.invokevirtual 118, 3) := by decide +kernel
theorem dL_law_394 : decode cL_law 394 = .ok (.aload 10, 2) := by decide +kernel
theorem dL_law_396 : decode cL_law 396 = .ok (.iload 12, 2) := by decide +kernel
theorem dL_law_398 : decode cL_law 398 = .ok (.aaload, 1) := by decide +kernel
theorem dL_law_399 : decode cL_law 399 = .ok (.iconst 2, 1) := by decide +kernel
theorem dL_law_400 : decode cL_law 400 = .ok (.iaload, 1) := by decide +kernel
theorem dL_law_401 : decode cL_law 401 = .ok (.if_icmp .eq 5, 3) := by decide +kernel
theorem dL_law_404 : decode cL_law 404 = .ok (.iconst 0, 1) := by decide +kernel
theorem dL_law_405 : decode cL_law 405 = .ok (.ireturn, 1) := by decide +kernel
theorem dL_law_406 : decode cL_law 406 = .ok (.aload_n 1, 1) := by decide +kernel
theorem dL_law_407 : decode cL_law 407 = .ok (.iload 12, 2) := by decide +kernel
theorem dL_law_409 : decode cL_law 409 = .ok (.iconst 4, 1) := by decide +kernel
theorem dL_law_410 : decode cL_law 410 = .ok (.invokevirtual 118, 3) := by decide +kernel
theorem dL_law_413 : decode cL_law 413 = .ok (.aload 10, 2) := by decide +kernel
theorem dL_law_415 : decode cL_law 415 = .ok (.iload 12, 2) := by decide +kernel
theorem dL_law_417 : decode cL_law 417 = .ok (.aaload, 1) := by decide +kernel
theorem dL_law_418 : decode cL_law 418 = .ok (.iconst 4, 1) := by decide +kernel
theorem dL_law_419 : decode cL_law 419 = .ok (.iaload, 1) := by decide +kernel
theorem dL_law_420 : decode cL_law 420 = .ok (.if_icmp .le 69, 3) := by decide +kernel
theorem dL_law_423 : decode cL_law 423 = .ok (.aload 10, 2) := by decide +kernel
theorem dL_law_425 : decode cL_law 425 = .ok (.iload 12, 2) := by decide +kernel
theorem dL_law_427 : decode cL_law 427 = .ok (.aaload, 1) := by decide +kernel
theorem dL_law_428 : decode cL_law 428 = .ok (.bipush 7, 2) := by decide +kernel
theorem dL_law_430 : decode cL_law 430 = .ok (.iaload, 1) := by decide +kernel
theorem dL_law_431 : decode cL_law 431 = .ok (.ifCond .lt 56, 3) := by decide +kernel
theorem dL_law_434 : decode cL_law 434 = .ok (.aload_n 1, 1) := by decide +kernel
theorem dL_law_435 : decode cL_law 435 = .ok (.iload 12, 2) := by decide +kernel
theorem dL_law_437 : decode cL_law 437 = .ok (.bipush 7, 2) := by decide +kernel
theorem dL_law_439 : decode cL_law 439 = .ok (.invokevirtual 118, 3) := by decide +kernel
theorem dL_law_442 : decode cL_law 442 = .ok (.ifCond .lt 22, 3) := by decide +kernel
theorem dL_law_445 : decode cL_law 445 = .ok (.aload_n 1, 1) := by decide +kernel
theorem dL_law_446 : decode cL_law 446 = .ok (.iload 12, 2) := by decide +kernel
theorem dL_law_448 : decode cL_law 448 = .ok (.bipush 6, 2) := by decide +kernel
theorem dL_law_450 : decode cL_law 450 = .ok (.invokevirtual 118, 3) := by decide +kernel
theorem dL_law_453 : decode cL_law 453 = .ok (.aload 10, 2) := by decide +kernel
theorem dL_law_455 : decode cL_law 455 = .ok (.iload 12, 2) := by decide +kernel
theorem dL_law_457 : decode cL_law 457 = .ok (.aaload, 1) := by decide +kernel
theorem dL_law_458 : decode cL_law 458 = .ok (.bipush 6, 2) := by decide +kernel
theorem dL_law_460 : decode cL_law 460 = .ok (.iaload, 1) := by decide +kernel
theorem dL_law_461 : decode cL_law 461 = .ok (.if_icmp .ge 26, 3) := by decide +kernel
theorem dL_law_464 : decode cL_law 464 = .ok (.aload_n 1, 1) := by decide +kernel
theorem dL_law_465 : decode cL_law 465 = .ok (.iload 12, 2) := by decide +kernel
theorem dL_law_467 : decode cL_law 467 = .ok (.bipush 7, 2) := by decide +kernel
theorem dL_law_469 : decode cL_law 469 = .ok (.invokevirtual 118, 3) := by decide +kernel
theorem dL_law_472 : decode cL_law 472 = .ok (.ifCond .ge 17, 3) := by decide +kernel
theorem dL_law_475 : decode cL_law 475 = .ok (.aload_n 1, 1) := by decide +kernel
theorem dL_law_476 : decode cL_law 476 = .ok (.iload 12, 2) := by decide +kernel
theorem dL_law_478 : decode cL_law 478 = .ok (.iconst 4, 1) := by decide +kernel
theorem dL_law_479 : decode cL_law 479 = .ok (.invokevirtual 118, 3) := by decide +kernel
theorem dL_law_482 : decode cL_law 482 = .ok (.bipush 99, 2) := by decide +kernel
theorem dL_law_484 : decode cL_law 484 = .ok (.if_icmp .eq 5, 3) := by decide +kernel
theorem dL_law_487 : decode cL_law 487 = .ok (.iconst 0, 1) := by decide +kernel
theorem dL_law_488 : decode cL_law 488 = .ok (.ireturn, 1) := by decide +kernel
theorem dL_law_489 : decode cL_law 489 = .ok (.iinc 12 1, 3) := by decide +kernel
theorem dL_law_492 : decode cL_law 492 = .ok (.goto (-209), 3) := by decide +kernel
theorem dL_law_495 : decode cL_law 495 = .ok (.iload 11, 2) := by decide +kernel
theorem dL_law_497 : decode cL_law 497 = .ok (.iconst 1, 1) := by decide +kernel
theorem dL_law_498 : decode cL_law 498 = .ok (.if_icmp .le 5, 3) := by decide +kernel
theorem dL_law_501 : decode cL_law 501 = .ok (.iconst 0, 1) := by decide +kernel
theorem dL_law_502 : decode cL_law 502 = .ok (.ireturn, 1) := by decide +kernel
theorem dL_law_503 : decode cL_law 503 = .ok (.aload_n 1, 1) := by decide +kernel
theorem dL_law_504 : decode cL_law 504 = .ok (.iconst 5, 1) := by decide +kernel
theorem dL_law_505 : decode cL_law 505 = .ok (.invokevirtual 111, 3) := by decide +kernel
theorem dL_law_508 : decode cL_law 508 = .ok (.istore 6, 2) := by decide +kernel
theorem dL_law_510 : decode cL_law 510 = .ok (.aload_n 1, 1) := by decide +kernel
theorem dL_law_511 : decode cL_law 511 = .ok (.iconst 1, 1) := by decide +kernel
theorem dL_law_512 : decode cL_law 512 = .ok (.invokevirtual 111, 3) := by decide +kernel
theorem dL_law_515 : decode cL_law 515 = .ok (.istore 5, 2) := by decide +kernel
theorem dL_law_517 : decode cL_law 517 = .ok (.iconst 0, 1) := by decide +kernel
theorem dL_law_518 : decode cL_law 518 = .ok (.istore 12, 2) := by decide +kernel
theorem dL_law_520 : decode cL_law 520 = .ok (.iconst 0, 1) := by decide +kernel
theorem dL_law_521 : decode cL_law 521 = .ok (.istore 13, 2) := by decide +kernel
theorem dL_law_523 : decode cL_law 523 = .ok (.iconst 0, 1) := by decide +kernel
theorem dL_law_524 : decode cL_law 524 = .ok (.istore 14, 2) := by decide +kernel
theorem dL_law_526 : decode cL_law 526 = .ok (.iload 14, 2) := by decide +kernel
theorem dL_law_528 : decode cL_law 528 = .ok (.iload 5, 2) := by decide +kernel
theorem dL_law_530 : decode cL_law 530 = .ok (.if_icmp .ge 191, 3) := by decide +kernel
theorem dL_law_533 : decode cL_law 533 = .ok (.aload_n 1, 1) := by decide +kernel
theorem dL_law_534 : decode cL_law 534 = .ok (.iload 14, 2) := by decide +kernel
theorem dL_law_536 : decode cL_law 536 = .ok (.iconst 1, 1) := by decide +kernel
theorem dL_law_537 : decode cL_law 537 = .ok (.invokevirtual 114, 3) := by decide +kernel
theorem dL_law_540 : decode cL_law 540 = .ok (.istore 15, 2) := by decide +kernel
theorem dL_law_542 : decode cL_law 542 = .ok (.aload_n 1, 1) := by decide +kernel
theorem dL_law_543 : decode cL_law 543 = .ok (.iload 14, 2) := by decide +kernel
theorem dL_law_545 : decode cL_law 545 = .ok (.iconst 3, 1) := by decide +kernel
theorem dL_law_546 : decode cL_law 546 = .ok (.invokevirtual 114, 3) := by decide +kernel
theorem dL_law_549 : decode cL_law 549 = .ok (.istore 16, 2) := by decide +kernel
theorem dL_law_551 : decode cL_law 551 = .ok (.iload 15, 2) := by decide +kernel
theorem dL_law_553 : decode cL_law 553 = .ok (.ifCond .lt 7, 3) := by decide +kernel
theorem dL_law_556 : decode cL_law 556 = .ok (.iconst 1, 1) := by decide +kernel
theorem dL_law_557 : decode cL_law 557 = .ok (.goto 4, 3) := by decide +kernel
theorem dL_law_560 : decode cL_law 560 = .ok (.iconst 0, 1) := by decide +kernel
theorem dL_law_561 : decode cL_law 561 = .ok (.iload 16, 2) := by decide +kernel
theorem dL_law_563 : decode cL_law 563 = .ok (.ifCond .lt 7, 3) := by decide +kernel
theorem dL_law_566 : decode cL_law 566 = .ok (.iconst 1, 1) := by decide +kernel
theorem dL_law_567 : decode cL_law 567 = .ok (.goto 4, 3) := by decide +kernel
theorem dL_law_570 : decode cL_law 570 = .ok (.iconst 0, 1) := by decide +kernel
theorem dL_law_571 : decode cL_law 571 = .ok (.iadd, 1) := by decide +kernel
theorem dL_law_572 : decode cL_law 572 = .ok (.aload_n 1, 1) := by decide +kernel
theorem dL_law_573 : decode cL_law 573 = .ok (.iload 14, 2) := by decide +kernel
theorem dL_law_575 : decode cL_law 575 = .ok (.iconst 4, 1) := by decide +kernel
theorem dL_law_576 : decode cL_law 576 = .ok (.invokevirtual 114, 3) := by decide +kernel
theorem dL_law_579 : decode cL_law 579 = .ok (.iadd, 1) := by decide +kernel
theorem dL_law_580 : decode cL_law 580 = .ok (.istore 17, 2) := by decide +kernel
theorem dL_law_582 : decode cL_law 582 = .ok (.iload 17, 2) := by decide +kernel
theorem dL_law_584 : decode cL_law 584 = .ok (.iconst 1, 1) := by decide +kernel
theorem dL_law_585 : decode cL_law 585 = .ok (.if_icmp .ne 98, 3) := by decide +kernel
theorem dL_law_588 : decode cL_law 588 = .ok (.iload 16, 2) := by decide +kernel
theorem dL_law_590 : decode cL_law 590 = .ok (.ifCond .lt 16, 3) := by decide +kernel
theorem dL_law_593 : decode cL_law 593 = .ok (.aload_n 1, 1) := by decide +kernel
theorem dL_law_594 : decode cL_law 594 = .ok (.iload 16, 2) := by decide +kernel
theorem dL_law_596 : decode cL_law 596 = .ok (.bipush 7, 2) := by decide +kernel
theorem dL_law_598 : decode cL_law 598 = .ok (.invokevirtual 118, 3) := by decide +kernel
theorem dL_law_601 : decode cL_law 601 = .ok (.iload 14, 2) := by decide +kernel
theorem dL_law_603 : decode cL_law 603 = .ok (.if_icmp .ne 80, 3) := by decide +kernel
theorem dL_law_606 : decode cL_law 606 = .ok (.iload 15, 2) := by decide +kernel
theorem dL_law_608 : decode cL_law 608 = .ok (.ifCond .lt 20, 3) := by decide +kernel
theorem dL_law_611 : decode cL_law 611 = .ok (.aload_n 1, 1) := by decide +kernel
theorem dL_law_612 : decode cL_law 612 = .ok (.iload 14, 2) := by decide +kernel
theorem dL_law_614 : decode cL_law 614 = .ok (.iconst 2, 1) := by decide +kernel
theorem dL_law_615 : decode cL_law 615 = .ok (.invokevirtual 114, 3) := by decide +kernel
theorem dL_law_618 : decode cL_law 618 = .ok (.aload_n 1, 1) := by decide +kernel
theorem dL_law_619 : decode cL_law 619 = .ok (.iload 15, 2) := by decide +kernel
theorem dL_law_621 : decode cL_law 621 = .ok (.iconst 0, 1) := by decide +kernel
theorem dL_law_622 : decode cL_law 622 = .ok (.invokevirtual 121, 3) := by decide +kernel
theorem dL_law_625 : decode cL_law 625 = .ok (.if_icmp .ge 58, 3) := by decide +kernel
theorem dL_law_628 : decode cL_law 628 = .ok (.iload 15, 2) := by decide +kernel
theorem dL_law_630 : decode cL_law 630 = .ok (.ifCond .ge 13, 3) := by decide +kernel
theorem dL_law_633 : decode cL_law 633 = .ok (.aload_n 1, 1) := by decide +kernel
theorem dL_law_634 : decode cL_law 634 = .ok (.iload 14, 2) := by decide +kernel
theorem dL_law_636 : decode cL_law 636 = .ok (.iconst 2, 1) := by decide +kernel
theorem dL_law_637 : decode cL_law 637 = .ok (.invokevirtual 114, 3) := by decide +kernel
theorem dL_law_640 : decode cL_law 640 = .ok (.ifCond .ne 43, 3) := by decide +kernel
theorem dL_law_643 : decode cL_law 643 = .ok (.iload 15, 2) := by decide +kernel
theorem dL_law_645 : decode cL_law 645 = .ok (.ifCond .lt 40, 3) := by decide +kernel
theorem dL_law_648 : decode cL_law 648 = .ok (.aload_n 1, 1) := by decide +kernel
theorem dL_law_649 : decode cL_law 649 = .ok (.iload 14, 2) := by decide +kernel
theorem dL_law_651 : decode cL_law 651 = .ok (.iconst 2, 1) := by decide +kernel
theorem dL_law_652 : decode cL_law 652 = .ok (.invokevirtual 114, 3) := by decide +kernel
theorem dL_law_655 : decode cL_law 655 = .ok (.ifCond .ne 7, 3) := by decide +kernel
theorem dL_law_658 : decode cL_law 658 = .ok (.iconst 1, 1) := by decide +kernel
theorem dL_law_659 : decode cL_law 659 = .ok (.goto 4, 3) := by decide +kernel
theorem dL_law_662 : decode cL_law 662 = .ok (.iconst 0, 1) := by decide +kernel
theorem dL_law_663 : decode cL_law 663 = .ok (.aload_n 1, 1) := by decide +kernel
theorem dL_law_664 : decode cL_law 664 = .ok (.iload 15, 2) := by decide +kernel
theorem dL_law_666 : decode cL_law 666 = .ok (.iconst 1, 1) := by decide +kernel
theorem dL_law_667 : decode cL_law 667 = .ok (.invokevirtual 121, 3) := by decide +kernel
theorem dL_law_670 : decode cL_law 670 = .ok (.iload 14, 2) := by decide +kernel
theorem dL_law_672 : decode cL_law 672 = .ok (.if_icmp .ne 7, 3) := by decide +kernel
theorem dL_law_675 : decode cL_law 675 = .ok (.iconst 1, 1) := by decide +kernel
theorem dL_law_676 : decode cL_law 676 = .ok (.goto 4, 3) := by decide +kernel
theorem dL_law_679 : decode cL_law 679 = .ok (.iconst 0, 1) := by decide +kernel
theorem dL_law_680 : decode cL_law 680 = .ok (.if_icmp .eq 5, 3) := by decide +kernel
theorem dL_law_683 : decode cL_law 683 = .ok (.iconst 0, 1) := by decide +kernel
theorem dL_law_684 : decode cL_law 684 = .ok (.ireturn, 1) := by decide +kernel
theorem dL_law_685 : decode cL_law 685 = .ok (.iload 12, 2) := by decide +kernel
theorem dL_law_687 : decode cL_law 687 = .ok (.iload 15, 2) := by decide +kernel
theorem dL_law_689 : decode cL_law 689 = .ok (.ifCond .lt 7, 3) := by decide +kernel
theorem dL_law_692 : decode cL_law 692 = .ok (.iconst 1, 1) := by decide +kernel
theorem dL_law_693 : decode cL_law 693 = .ok (.goto 4, 3) := by decide +kernel
theorem dL_law_696 : decode cL_law 696 = .ok (.iconst 0, 1) := by decide +kernel
theorem dL_law_697 : decode cL_law 697 = .ok (.iadd, 1) := by decide +kernel
theorem dL_law_698 : decode cL_law 698 = .ok (.istore 12, 2) := by decide +kernel
theorem dL_law_700 : decode cL_law 700 = .ok (.iload 13, 2) := by decide +kernel
theorem dL_law_702 : decode cL_law 702 = .ok (.iload 16, 2) := by decide +kernel
theorem dL_law_704 : decode cL_law 704 = .ok (.ifCond .lt 7, 3) := by decide +kernel
theorem dL_law_707 : decode cL_law 707 = .ok (.iconst 1, 1) := by decide +kernel
theorem dL_law_708 : decode cL_law 708 = .ok (.goto 4, 3) := by decide +kernel
theorem dL_law_711 : decode cL_law 711 = .ok (.iconst 0, 1) := by decide +kernel
theorem dL_law_712 : decode cL_law 712 = .ok (.iadd, 1) := by decide +kernel
theorem dL_law_713 : decode cL_law 713 = .ok (.istore 13, 2) := by decide +kernel
theorem dL_law_715 : decode cL_law 715 = .ok (.iinc 14 1, 3) := by decide +kernel
theorem dL_law_718 : decode cL_law 718 = .ok (.goto (-192), 3) := by decide +kernel
theorem dL_law_721 : decode cL_law 721 = .ok (.iconst 0, 1) := by decide +kernel
theorem dL_law_722 : decode cL_law 722 = .ok (.istore 14, 2) := by decide +kernel
theorem dL_law_724 : decode cL_law 724 = .ok (.iconst 0, 1) := by decide +kernel
theorem dL_law_725 : decode cL_law 725 = .ok (.istore 15, 2) := by decide +kernel
theorem dL_law_727 : decode cL_law 727 = .ok (.iconst 0, 1) := by decide +kernel
theorem dL_law_728 : decode cL_law 728 = .ok (.istore 16, 2) := by decide +kernel
theorem dL_law_730 : decode cL_law 730 = .ok (.iload 16, 2) := by decide +kernel
theorem dL_law_732 : decode cL_law 732 = .ok (.bipush 16, 2) := by decide +kernel
theorem dL_law_734 : decode cL_law 734 = .ok (.if_icmp .ge 129, 3) := by decide +kernel
theorem dL_law_737 : decode cL_law 737 = .ok (.iload 14, 2) := by decide +kernel
theorem dL_law_739 : decode cL_law 739 = .ok (.aload_n 1, 1) := by decide +kernel
theorem dL_law_740 : decode cL_law 740 = .ok (.iload 16, 2) := by decide +kernel
theorem dL_law_742 : decode cL_law 742 = .ok (.iconst 0, 1) := by decide +kernel
theorem dL_law_743 : decode cL_law 743 = .ok (.invokevirtual 121, 3) := by decide +kernel
theorem dL_law_746 : decode cL_law 746 = .ok (.iadd, 1) := by decide +kernel
theorem dL_law_747 : decode cL_law 747 = .ok (.istore 14, 2) := by decide +kernel
theorem dL_law_749 : decode cL_law 749 = .ok (.iload 15, 2) := by decide +kernel
theorem dL_law_751 : decode cL_law 751 = .ok (.aload_n 1, 1) := by decide +kernel
theorem dL_law_752 : decode cL_law 752 = .ok (.iload 16, 2) := by decide +kernel
theorem dL_law_754 : decode cL_law 754 = .ok (.iconst 3, 1) := by decide +kernel
theorem dL_law_755 : decode cL_law 755 = .ok (.invokevirtual 121, 3) := by decide +kernel
theorem dL_law_758 : decode cL_law 758 = .ok (.iadd, 1) := by decide +kernel
theorem dL_law_759 : decode cL_law 759 = .ok (.istore 15, 2) := by decide +kernel
theorem dL_law_761 : decode cL_law 761 = .ok (.aload_n 1, 1) := by decide +kernel
theorem dL_law_762 : decode cL_law 762 = .ok (.iload 16, 2) := by decide +kernel
theorem dL_law_764 : decode cL_law 764 = .ok (.iconst 0, 1) := by decide +kernel
theorem dL_law_765 : decode cL_law 765 = .ok (.invokevirtual 121, 3) := by decide +kernel
theorem dL_law_768 : decode cL_law 768 = .ok (.bipush 8, 2) := by decide +kernel
theorem dL_law_770 : decode cL_law 770 = .ok (.if_icmp .gt 85, 3) := by decide +kernel
theorem dL_law_773 : decode cL_law 773 = .ok (.aload_n 1, 1) := by decide +kernel
theorem dL_law_774 : decode cL_law 774 = .ok (.iload 16, 2) := by decide +kernel
theorem dL_law_776 : decode cL_law 776 = .ok (.iconst 0, 1) := by decide +kernel
theorem dL_law_777 : decode cL_law 777 = .ok (.invokevirtual 121, 3) := by decide +kernel
theorem dL_law_780 : decode cL_law 780 = .ok (.aload_n 1, 1) := by decide +kernel
theorem dL_law_781 : decode cL_law 781 = .ok (.bipush 6, 2) := by decide +kernel
theorem dL_law_783 : decode cL_law 783 = .ok (.invokevirtual 111, 3) := by decide +kernel
theorem dL_law_786 : decode cL_law 786 = .ok (.if_icmp .gt 69, 3) := by decide +kernel
theorem dL_law_789 : decode cL_law 789 = .ok (.aload_n 1, 1) := by decide +kernel
theorem dL_law_790 : decode cL_law 790 = .ok (.iload 16, 2) := by decide +kernel
theorem dL_law_792 : decode cL_law 792 = .ok (.iconst 0, 1) := by decide +kernel
theorem dL_law_793 : decode cL_law 793 = .ok (.invokevirtual 121, 3) := by decide +kernel
theorem dL_law_796 : decode cL_law 796 = .ok (.ifCond .ne 7, 3) := by decide +kernel
theorem dL_law_799 : decode cL_law 799 = .ok (.iconst 1, 1) := by decide +kernel
theorem dL_law_800 : decode cL_law 800 = .ok (.goto 4, 3) := by decide +kernel
theorem dL_law_803 : decode cL_law 803 = .ok (.iconst 0, 1) := by decide +kernel
theorem dL_law_804 : decode cL_law 804 = .ok (.aload_n 1, 1) := by decide +kernel
theorem dL_law_805 : decode cL_law 805 = .ok (.iload 16, 2) := by decide +kernel
theorem dL_law_807 : decode cL_law 807 = .ok (.iconst 1, 1) := by decide +kernel
theorem dL_law_808 : decode cL_law 808 = .ok (.invokevirtual 121, 3) := by decide +kernel
theorem dL_law_811 : decode cL_law 811 = .ok (.ifCond .ge 7, 3) := by decide +kernel
theorem dL_law_814 : decode cL_law 814 = .ok (.iconst 1, 1) := by decide +kernel
theorem dL_law_815 : decode cL_law 815 = .ok (.goto 4, 3) := by decide +kernel
theorem dL_law_818 : decode cL_law 818 = .ok (.iconst 0, 1) := by decide +kernel
theorem dL_law_819 : decode cL_law 819 = .ok (.if_icmp .ne 36, 3) := by decide +kernel
theorem dL_law_822 : decode cL_law 822 = .ok (.aload_n 1, 1) := by decide +kernel
theorem dL_law_823 : decode cL_law 823 = .ok (.iload 16, 2) := by decide +kernel
theorem dL_law_825 : decode cL_law 825 = .ok (.iconst 0, 1) := by decide +kernel
theorem dL_law_826 : decode cL_law 826 = .ok (.invokevirtual 121, 3) := by decide +kernel
theorem dL_law_829 : decode cL_law 829 = .ok (.ifCond .ne 7, 3) := by decide +kernel
theorem dL_law_832 : decode cL_law 832 = .ok (.iconst 1, 1) := by decide +kernel
theorem dL_law_833 : decode cL_law 833 = .ok (.goto 4, 3) := by decide +kernel
theorem dL_law_836 : decode cL_law 836 = .ok (.iconst 0, 1) := by decide +kernel
theorem dL_law_837 : decode cL_law 837 = .ok (.aload_n 1, 1) := by decide +kernel
theorem dL_law_838 : decode cL_law 838 = .ok (.iload 16, 2) := by decide +kernel
theorem dL_law_840 : decode cL_law 840 = .ok (.iconst 2, 1) := by decide +kernel
theorem dL_law_841 : decode cL_law 841 = .ok (.invokevirtual 121, 3) := by decide +kernel
theorem dL_law_844 : decode cL_law 844 = .ok (.ifCond .ne 7, 3) := by decide +kernel
theorem dL_law_847 : decode cL_law 847 = .ok (.iconst 1, 1) := by decide +kernel
theorem dL_law_848 : decode cL_law 848 = .ok (.goto 4, 3) := by decide +kernel
theorem dL_law_851 : decode cL_law 851 = .ok (.iconst 0, 1) := by decide +kernel
theorem dL_law_852 : decode cL_law 852 = .ok (.if_icmp .eq 5, 3) := by decide +kernel
theorem dL_law_855 : decode cL_law 855 = .ok (.iconst 0, 1) := by decide +kernel
theorem dL_law_856 : decode cL_law 856 = .ok (.ireturn, 1) := by decide +kernel
theorem dL_law_857 : decode cL_law 857 = .ok (.iinc 16 1, 3) := by decide +kernel
theorem dL_law_860 : decode cL_law 860 = .ok (.goto (-130), 3) := by decide +kernel
theorem dL_law_863 : decode cL_law 863 = .ok (.iload 14, 2) := by decide +kernel
theorem dL_law_865 : decode cL_law 865 = .ok (.iload 12, 2) := by decide +kernel
theorem dL_law_867 : decode cL_law 867 = .ok (.if_icmp .ne 46, 3) := by decide +kernel
theorem dL_law_870 : decode cL_law 870 = .ok (.iload 15, 2) := by decide +kernel
theorem dL_law_872 : decode cL_law 872 = .ok (.iload 6, 2) := by decide +kernel
theorem dL_law_874 : decode cL_law 874 = .ok (.if_icmp .ne 39, 3) := by decide +kernel
theorem dL_law_877 : decode cL_law 877 = .ok (.aload_n 1, 1) := by decide +kernel
theorem dL_law_878 : decode cL_law 878 = .ok (.iconst 2, 1) := by decide +kernel
theorem dL_law_879 : decode cL_law 879 = .ok (.invokevirtual 111, 3) := by decide +kernel
theorem dL_law_882 : decode cL_law 882 = .ok (.iload 12, 2) := by decide +kernel
theorem dL_law_884 : decode cL_law 884 = .ok (.if_icmp .ne 29, 3) := by decide +kernel
theorem dL_law_887 : decode cL_law 887 = .ok (.aload_n 1, 1) := by decide +kernel
theorem dL_law_888 : decode cL_law 888 = .ok (.iconst 3, 1) := by decide +kernel
theorem dL_law_889 : decode cL_law 889 = .ok (.invokevirtual 111, 3) := by decide +kernel
theorem dL_law_892 : decode cL_law 892 = .ok (.iload 13, 2) := by decide +kernel
theorem dL_law_894 : decode cL_law 894 = .ok (.if_icmp .ne 19, 3) := by decide +kernel
theorem dL_law_897 : decode cL_law 897 = .ok (.iload 12, 2) := by decide +kernel
theorem dL_law_899 : decode cL_law 899 = .ok (.iload 13, 2) := by decide +kernel
theorem dL_law_901 : decode cL_law 901 = .ok (.iadd, 1) := by decide +kernel
theorem dL_law_902 : decode cL_law 902 = .ok (.aload_n 1, 1) := by decide +kernel
theorem dL_law_903 : decode cL_law 903 = .ok (.iconst 4, 1) := by decide +kernel
theorem dL_law_904 : decode cL_law 904 = .ok (.invokevirtual 111, 3) := by decide +kernel
theorem dL_law_907 : decode cL_law 907 = .ok (.iadd, 1) := by decide +kernel
theorem dL_law_908 : decode cL_law 908 = .ok (.iload 5, 2) := by decide +kernel
theorem dL_law_910 : decode cL_law 910 = .ok (.if_icmp .eq 5, 3) := by decide +kernel
theorem dL_law_913 : decode cL_law 913 = .ok (.iconst 0, 1) := by decide +kernel
theorem dL_law_914 : decode cL_law 914 = .ok (.ireturn, 1) := by decide +kernel
theorem dL_law_915 : decode cL_law 915 = .ok (.aload_n 1, 1) := by decide +kernel
theorem dL_law_916 : decode cL_law 916 = .ok (.invokevirtual 124, 3) := by decide +kernel
theorem dL_law_919 : decode cL_law 919 = .ok (.lstore 16, 2) := by decide +kernel
theorem dL_law_921 : decode cL_law 921 = .ok (.iload 4, 2) := by decide +kernel
theorem dL_law_923 : decode cL_law 923 = .ok (.iconst 3, 1) := by decide +kernel
theorem dL_law_924 : decode cL_law 924 = .ok (.ishr, 1) := by decide +kernel
theorem dL_law_925 : decode cL_law 925 = .ok (.bipush 16, 2) := by decide +kernel
theorem dL_law_927 : decode cL_law 927 = .ok (.invokestatic 15, 3) := by decide +kernel
theorem dL_law_930 : decode cL_law 930 = .ok (.istore 18, 2) := by decide +kernel
theorem dL_law_932 : decode cL_law 932 = .ok (.iconst 3, 1) := by decide +kernel
theorem dL_law_933 : decode cL_law 933 = .ok (.iload 4, 2) := by decide +kernel
theorem dL_law_935 : decode cL_law 935 = .ok (.iconst 5, 1) := by decide +kernel
theorem dL_law_936 : decode cL_law 936 = .ok (.ishr, 1) := by decide +kernel
theorem dL_law_937 : decode cL_law 937 = .ok (.bipush 8, 2) := by decide +kernel
theorem dL_law_939 : decode cL_law 939 = .ok (.invokestatic 15, 3) := by decide +kernel
theorem dL_law_942 : decode cL_law 942 = .ok (.iadd, 1) := by decide +kernel
theorem dL_law_943 : decode cL_law 943 = .ok (.istore 19, 2) := by decide +kernel
theorem dL_law_945 : decode cL_law 945 = .ok (.aload_n 1, 1) := by decide +kernel
theorem dL_law_946 : decode cL_law 946 = .ok (.iload 18, 2) := by decide +kernel
theorem dL_law_948 : decode cL_law 948 = .ok (.iload 19, 2) := by decide +kernel
theorem dL_law_950 : decode cL_law 950 = .ok (.invokevirtual 128, 3) := by decide +kernel
theorem dL_law_953 : decode cL_law 953 = .ok (.istore 20, 2) := by decide +kernel
theorem dL_law_955 : decode cL_law 955 = .ok (.iconst 0, 1) := by decide +kernel
theorem dL_law_956 : decode cL_law 956 = .ok (.istore 21, 2) := by decide +kernel
theorem dL_law_958 : decode cL_law 958 = .ok (.iload 21, 2) := by decide +kernel
theorem dL_law_960 : decode cL_law 960 = .ok (.iload 6, 2) := by decide +kernel
theorem dL_law_962 : decode cL_law 962 = .ok (.if_icmp .ge 222, 3) := by decide +kernel
theorem dL_law_965 : decode cL_law 965 = .ok (.aload_n 1, 1) := by decide +kernel
theorem dL_law_966 : decode cL_law 966 = .ok (.iload 21, 2) := by decide +kernel
theorem dL_law_968 : decode cL_law 968 = .ok (.iload 18, 2) := by decide +kernel
theorem dL_law_970 : decode cL_law 970 = .ok (.iload 19, 2) := by decide +kernel
theorem dL_law_972 : decode cL_law 972 = .ok (.invokevirtual 131, 3) := by decide +kernel
theorem dL_law_975 : decode cL_law 975 = .ok (.istore 22, 2) := by decide +kernel
theorem dL_law_977 : decode cL_law 977 = .ok (.aload_n 1, 1) := by decide +kernel
theorem dL_law_978 : decode cL_law 978 = .ok (.iload 21, 2) := by decide +kernel
theorem dL_law_980 : decode cL_law 980 = .ok (.iconst 5, 1) := by decide +kernel
theorem dL_law_981 : decode cL_law 981 = .ok (.invokevirtual 118, 3) := by decide +kernel
theorem dL_law_984 : decode cL_law 984 = .ok (.istore 23, 2) := by decide +kernel
theorem dL_law_986 : decode cL_law 986 = .ok (.aload_n 1, 1) := by decide +kernel
theorem dL_law_987 : decode cL_law 987 = .ok (.iload 21, 2) := by decide +kernel
theorem dL_law_989 : decode cL_law 989 = .ok (.bipush 6, 2) := by decide +kernel
theorem dL_law_991 : decode cL_law 991 = .ok (.invokevirtual 118, 3) := by decide +kernel
theorem dL_law_994 : decode cL_law 994 = .ok (.aload_n 1, 1) := by decide +kernel
theorem dL_law_995 : decode cL_law 995 = .ok (.iload 23, 2) := by decide +kernel
theorem dL_law_997 : decode cL_law 997 = .ok (.iconst 0, 1) := by decide +kernel
theorem dL_law_998 : decode cL_law 998 = .ok (.invokevirtual 121, 3) := by decide +kernel
theorem dL_law_1001 : decode cL_law 1001 = .ok (.aload_n 1, 1) := by decide +kernel
theorem dL_law_1002 : decode cL_law 1002 = .ok (.iload 21, 2) := by decide +kernel
theorem dL_law_1004 : decode cL_law 1004 = .ok (.bipush 7, 2) := by decide +kernel
theorem dL_law_1006 : decode cL_law 1006 = .ok (.invokevirtual 118, 3) := by decide +kernel
theorem dL_law_1009 : decode cL_law 1009 = .ok (.ifCond .ge 7, 3) := by decide +kernel
theorem dL_law_1012 : decode cL_law 1012 = .ok (.iconst 0, 1) := by decide +kernel
theorem dL_law_1013 : decode cL_law 1013 = .ok (.goto 4, 3) := by decide +kernel
theorem dL_law_1016 : decode cL_law 1016 = .ok (.iconst 1, 1) := by decide +kernel
theorem dL_law_1017 : decode cL_law 1017 = .ok (.iadd, 1) := by decide +kernel
theorem dL_law_1018 : decode cL_law 1018 = .ok (.if_icmp .lt 86, 3) := by decide +kernel
theorem dL_law_1021 : decode cL_law 1021 = .ok (.iload 23, 2) := by decide +kernel
theorem dL_law_1023 : decode cL_law 1023 = .ok (.aload_n 1, 1) := by decide +kernel
theorem dL_law_1024 : decode cL_law 1024 = .ok (.iload 21, 2) := by decide +kernel
theorem dL_law_1026 : decode cL_law 1026 = .ok (.iconst 0, 1) := by decide +kernel
theorem dL_law_1027 : decode cL_law 1027 = .ok (.invokevirtual 118, 3) := by decide +kernel
theorem dL_law_1030 : decode cL_law 1030 = .ok (.isub, 1) := by decide +kernel
theorem dL_law_1031 : decode cL_law 1031 = .ok (.invokestatic 59, 3) := by decide +kernel
theorem dL_law_1034 : decode cL_law 1034 = .ok (.aload_n 1, 1) := by decide +kernel
theorem dL_law_1035 : decode cL_law 1035 = .ok (.iload 21, 2) := by decide +kernel
theorem dL_law_1037 : decode cL_law 1037 = .ok (.iconst 1, 1) := by decide +kernel
theorem dL_law_1038 : decode cL_law 1038 = .ok (.invokevirtual 118, 3) := by decide +kernel
theorem dL_law_1041 : decode cL_law 1041 = .ok (.if_icmp .gt 63, 3) := by decide +kernel
theorem dL_law_1044 : decode cL_law 1044 = .ok (.aload_n 1, 1) := by decide +kernel
theorem dL_law_1045 : decode cL_law 1045 = .ok (.iload 21, 2) := by decide +kernel
theorem dL_law_1047 : decode cL_law 1047 = .ok (.bipush 8, 2) := by decide +kernel
theorem dL_law_1049 : decode cL_law 1049 = .ok (.invokevirtual 118, 3) := by decide +kernel
theorem dL_law_1052 : decode cL_law 1052 = .ok (.bipush 12, 2) := by decide +kernel
theorem dL_law_1054 : decode cL_law 1054 = .ok (.aload_n 1, 1) := by decide +kernel
theorem dL_law_1055 : decode cL_law 1055 = .ok (.iload 21, 2) := by decide +kernel
theorem dL_law_1057 : decode cL_law 1057 = .ok (.iconst 3, 1) := by decide +kernel
theorem dL_law_1058 : decode cL_law 1058 = .ok (.invokevirtual 118, 3) := by decide +kernel
theorem dL_law_1061 : decode cL_law 1061 = .ok (.imul, 1) := by decide +kernel
theorem dL_law_1062 : decode cL_law 1062 = .ok (.aload_n 1, 1) := by decide +kernel
theorem dL_law_1063 : decode cL_law 1063 = .ok (.iload 21, 2) := by decide +kernel
theorem dL_law_1065 : decode cL_law 1065 = .ok (.iconst 2, 1) := by decide +kernel
theorem dL_law_1066 : decode cL_law 1066 = .ok (.invokevirtual 118, 3) := by decide +kernel
theorem dL_law_1069 : decode cL_law 1069 = .ok (.idiv, 1) := by decide +kernel
theorem dL_law_1070 : decode cL_law 1070 = .ok (.if_icmp .ne 34, 3) := by decide +kernel
theorem dL_law_1073 : decode cL_law 1073 = .ok (.aload_n 1, 1) := by decide +kernel
theorem dL_law_1074 : decode cL_law 1074 = .ok (.iload 21, 2) := by decide +kernel
theorem dL_law_1076 : decode cL_law 1076 = .ok (.invokevirtual 135, 3) := by decide +kernel
theorem dL_law_1079 : decode cL_law 1079 = .ok (.iload 12, 2) := by decide +kernel
theorem dL_law_1081 : decode cL_law 1081 = .ok (.if_icmp .gt 23, 3) := by decide +kernel
theorem dL_law_1084 : decode cL_law 1084 = .ok (.aload_n 1, 1) := by decide +kernel
theorem dL_law_1085 : decode cL_law 1085 = .ok (.iload 21, 2) := by decide +kernel
theorem dL_law_1087 : decode cL_law 1087 = .ok (.iconst 1, 1) := by decide +kernel
theorem dL_law_1088 : decode cL_law 1088 = .ok (.invokevirtual 138, 3) := by decide +kernel
theorem dL_law_1091 : decode cL_law 1091 = .ok (.bipush 99, 2) := by decide +kernel
theorem dL_law_1093 : decode cL_law 1093 = .ok (.aload_n 1, 1) := by decide +kernel
theorem dL_law_1094 : decode cL_law 1094 = .ok (.iload 21, 2) := by decide +kernel
theorem dL_law_1096 : decode cL_law 1096 = .ok (.iconst 4, 1) := by decide +kernel
theorem dL_law_1097 : decode cL_law 1097 = .ok (.invokevirtual 118, 3) := by decide +kernel
theorem dL_law_1100 : decode cL_law 1100 = .ok (.isub, 1) := by decide +kernel
theorem dL_law_1101 : decode cL_law 1101 = .ok (.if_icmp .eq 5, 3) := by decide +kernel
theorem dL_law_1104 : decode cL_law 1104 = .ok (.iconst 0, 1) := by decide +kernel
theorem dL_law_1105 : decode cL_law 1105 = .ok (.ireturn, 1) := by decide +kernel
theorem dL_law_1106 : decode cL_law 1106 = .ok (.iload 22, 2) := by decide +kernel
theorem dL_law_1108 : decode cL_law 1108 = .ok (.ifCond .lt 70, 3) := by decide +kernel
theorem dL_law_1111 : decode cL_law 1111 = .ok (.iload 20, 2) := by decide +kernel
theorem dL_law_1113 : decode cL_law 1113 = .ok (.ifCond .lt 63, 3) := by decide +kernel
theorem dL_law_1116 : decode cL_law 1116 = .ok (.aload_n 1, 1) := by decide +kernel
theorem dL_law_1117 : decode cL_law 1117 = .ok (.iload 20, 2) := by decide +kernel
theorem dL_law_1119 : decode cL_law 1119 = .ok (.iload 18, 2) := by decide +kernel
theorem dL_law_1121 : decode cL_law 1121 = .ok (.iload 19, 2) := by decide +kernel
theorem dL_law_1123 : decode cL_law 1123 = .ok (.invokevirtual 131, 3) := by decide +kernel
theorem dL_law_1126 : decode cL_law 1126 = .ok (.iload 22, 2) := by decide +kernel
theorem dL_law_1128 : decode cL_law 1128 = .ok (.if_icmp .gt 48, 3) := by decide +kernel
theorem dL_law_1131 : decode cL_law 1131 = .ok (.aload_n 1, 1) := by decide +kernel
theorem dL_law_1132 : decode cL_law 1132 = .ok (.iload 20, 2) := by decide +kernel
theorem dL_law_1134 : decode cL_law 1134 = .ok (.iload 18, 2) := by decide +kernel
theorem dL_law_1136 : decode cL_law 1136 = .ok (.iload 19, 2) := by decide +kernel
theorem dL_law_1138 : decode cL_law 1138 = .ok (.invokevirtual 131, 3) := by decide +kernel
theorem dL_law_1141 : decode cL_law 1141 = .ok (.iload 22, 2) := by decide +kernel
theorem dL_law_1143 : decode cL_law 1143 = .ok (.if_icmp .ne 10, 3) := by decide +kernel
theorem dL_law_1146 : decode cL_law 1146 = .ok (.iload 20, 2) := by decide +kernel
theorem dL_law_1148 : decode cL_law 1148 = .ok (.iload 21, 2) := by decide +kernel
theorem dL_law_1150 : decode cL_law 1150 = .ok (.if_icmp .gt 26, 3) := by decide +kernel
theorem dL_law_1153 : decode cL_law 1153 = .ok (.aload_n 1, 1) := by decide +kernel
theorem dL_law_1154 : decode cL_law 1154 = .ok (.iload 18, 2) := by decide +kernel
theorem dL_law_1156 : decode cL_law 1156 = .ok (.iconst 0, 1) := by decide +kernel
theorem dL_law_1157 : decode cL_law 1157 = .ok (.invokevirtual 121, 3) := by decide +kernel
theorem dL_law_1160 : decode cL_law 1160 = .ok (.ifCond .eq 16, 3) := by decide +kernel
theorem dL_law_1163 : decode cL_law 1163 = .ok (.iload 22, 2) := by decide +kernel
theorem dL_law_1165 : decode cL_law 1165 = .ok (.iload 18, 2) := by decide +kernel
theorem dL_law_1167 : decode cL_law 1167 = .ok (.iload 19, 2) := by decide +kernel
theorem dL_law_1169 : decode cL_law 1169 = .ok (.isub, 1) := by decide +kernel
theorem dL_law_1170 : decode cL_law 1170 = .ok (.invokestatic 59, 3) := by decide +kernel
theorem dL_law_1173 : decode cL_law 1173 = .ok (.if_icmp .ge 5, 3) := by decide +kernel
theorem dL_law_1176 : decode cL_law 1176 = .ok (.iconst 0, 1) := by decide +kernel
theorem dL_law_1177 : decode cL_law 1177 = .ok (.ireturn, 1) := by decide +kernel
theorem dL_law_1178 : decode cL_law 1178 = .ok (.iinc 21 1, 3) := by decide +kernel
theorem dL_law_1181 : decode cL_law 1181 = .ok (.goto (-223), 3) := by decide +kernel
theorem dL_law_1184 : decode cL_law 1184 = .ok (.iload 20, 2) := by decide +kernel
theorem dL_law_1186 : decode cL_law 1186 = .ok (.ifCond .lt 16, 3) := by decide +kernel
theorem dL_law_1189 : decode cL_law 1189 = .ok (.aload_n 1, 1) := by decide +kernel
theorem dL_law_1190 : decode cL_law 1190 = .ok (.iload 20, 2) := by decide +kernel
theorem dL_law_1192 : decode cL_law 1192 = .ok (.iload 18, 2) := by decide +kernel
theorem dL_law_1194 : decode cL_law 1194 = .ok (.iload 19, 2) := by decide +kernel
theorem dL_law_1196 : decode cL_law 1196 = .ok (.invokevirtual 131, 3) := by decide +kernel
theorem dL_law_1199 : decode cL_law 1199 = .ok (.ifCond .lt 13, 3) := by decide +kernel
theorem dL_law_1202 : decode cL_law 1202 = .ok (.aload_n 1, 1) := by decide +kernel
theorem dL_law_1203 : decode cL_law 1203 = .ok (.invokevirtual 124, 3) := by decide +kernel
theorem dL_law_1206 : decode cL_law 1206 = .ok (.lload 16, 2) := by decide +kernel
theorem dL_law_1208 : decode cL_law 1208 = .ok (.lcmp, 1) := by decide +kernel
theorem dL_law_1209 : decode cL_law 1209 = .ok (.ifCond .eq 5, 3) := by decide +kernel
theorem dL_law_1212 : decode cL_law 1212 = .ok (.iconst 0, 1) := by decide +kernel
theorem dL_law_1213 : decode cL_law 1213 = .ok (.ireturn, 1) := by decide +kernel
theorem dL_law_1214 : decode cL_law 1214 = .ok (.iinc 3 1, 3) := by decide +kernel
theorem dL_law_1217 : decode cL_law 1217 = .ok (.goto (-1193), 3) := by decide +kernel
theorem dL_law_1220 : decode cL_law 1220 = .ok (.aload_n 2, 1) := by decide +kernel
theorem dL_law_1221 : decode cL_law 1221 = .ok (.aload_n 1, 1) := by decide +kernel
theorem dL_law_1222 : decode cL_law 1222 = .ok (.invokevirtual 141, 3) := by decide +kernel
theorem dL_law_1225 : decode cL_law 1225 = .ok (.ireturn, 1) := by decide +kernel
