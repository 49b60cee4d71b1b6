/-! ===== the law: its cases and its loop (written by lawc.py) ===== -/
theorem dLw_0 : decode code 0 = .ok (.new 8, 3) := by decide +kernel
theorem dLw_3 : decode code 3 = .ok (.dup, 1) := by decide +kernel
theorem dLw_4 : decode code 4 = .ok (.invokespecial 19, 3) := by decide +kernel
theorem dLw_7 : decode code 7 = .ok (.astore_n 1, 1) := by decide +kernel
theorem dLw_8 : decode code 8 = .ok (.new 20, 3) := by decide +kernel
theorem dLw_11 : decode code 11 = .ok (.dup, 1) := by decide +kernel
theorem dLw_12 : decode code 12 = .ok (.invokespecial 22, 3) := by decide +kernel
theorem dLw_15 : decode code 15 = .ok (.astore_n 2, 1) := by decide +kernel
theorem dLw_16 : decode code 16 = .ok (.iconst 1, 1) := by decide +kernel
theorem dLw_17 : decode code 17 = .ok (.newarray .long, 2) := by decide +kernel
theorem dLw_19 : decode code 19 = .ok (.astore_n 3, 1) := by decide +kernel
theorem dLw_20 : decode code 20 = .ok (.iconst 0, 1) := by decide +kernel
theorem dLw_21 : decode code 21 = .ok (.istore 4, 2) := by decide +kernel
theorem dLw_23 : decode code 23 = .ok (.iload 4, 2) := by decide +kernel
theorem dLw_25 : decode code 25 = .ok (.aload_n 0, 1) := by decide +kernel
theorem dLw_26 : decode code 26 = .ok (.arraylength, 1) := by decide +kernel
theorem dLw_27 : decode code 27 = .ok (.iconst 5, 1) := by decide +kernel
theorem dLw_28 : decode code 28 = .ok (.isub, 1) := by decide +kernel
theorem dLw_29 : decode code 29 = .ok (.if_icmp .gt 1730, 3) := by decide +kernel
theorem dLw_32 : decode code 32 = .ok (.aload_n 0, 1) := by decide +kernel
theorem dLw_33 : decode code 33 = .ok (.iload 4, 2) := by decide +kernel
theorem dLw_35 : decode code 35 = .ok (.iaload, 1) := by decide +kernel
theorem dLw_36 : decode code 36 = .ok (.bipush 63, 2) := by decide +kernel
theorem dLw_38 : decode code 38 = .ok (.iand, 1) := by decide +kernel
theorem dLw_39 : decode code 39 = .ok (.tableswitch 1714 0 46 #[201,226,251,264,277,345,382,419,480,529,578,615,640,653,714,727,764,777,802,839,876,901,962,1011,1048,1085,1098,1135,1172,1209,1222,1259,1296,1321,1358,1383,1408,1445,1494,1507,1532,1545,1570,1583,1608,1633,1658], 201) := by decide +kernel
theorem dLw_240 : decode code 240 = .ok (.aload_n 1, 1) := by decide +kernel
theorem dLw_241 : decode code 241 = .ok (.aload_n 0, 1) := by decide +kernel
theorem dLw_242 : decode code 242 = .ok (.iload 4, 2) := by decide +kernel
theorem dLw_244 : decode code 244 = .ok (.iconst 1, 1) := by decide +kernel
theorem dLw_245 : decode code 245 = .ok (.iadd, 1) := by decide +kernel
theorem dLw_246 : decode code 246 = .ok (.iaload, 1) := by decide +kernel
theorem dLw_247 : decode code 247 = .ok (.invokevirtual 23, 3) := by decide +kernel
theorem dLw_250 : decode code 250 = .ok (.aload_n 2, 1) := by decide +kernel
theorem dLw_251 : decode code 251 = .ok (.aload_n 0, 1) := by decide +kernel
theorem dLw_252 : decode code 252 = .ok (.iload 4, 2) := by decide +kernel
theorem dLw_254 : decode code 254 = .ok (.iconst 1, 1) := by decide +kernel
theorem dLw_255 : decode code 255 = .ok (.iadd, 1) := by decide +kernel
theorem dLw_256 : decode code 256 = .ok (.iaload, 1) := by decide +kernel
theorem dLw_257 : decode code 257 = .ok (.invokevirtual 26, 3) := by decide +kernel
theorem dLw_260 : decode code 260 = .ok (.if_icmp .eq 1493, 3) := by decide +kernel
theorem dLw_263 : decode code 263 = .ok (.iconst 0, 1) := by decide +kernel
theorem dLw_264 : decode code 264 = .ok (.ireturn, 1) := by decide +kernel
theorem dLw_265 : decode code 265 = .ok (.aload_n 1, 1) := by decide +kernel
theorem dLw_266 : decode code 266 = .ok (.aload_n 0, 1) := by decide +kernel
theorem dLw_267 : decode code 267 = .ok (.iload 4, 2) := by decide +kernel
theorem dLw_269 : decode code 269 = .ok (.iconst 1, 1) := by decide +kernel
theorem dLw_270 : decode code 270 = .ok (.iadd, 1) := by decide +kernel
theorem dLw_271 : decode code 271 = .ok (.iaload, 1) := by decide +kernel
theorem dLw_272 : decode code 272 = .ok (.invokevirtual 27, 3) := by decide +kernel
theorem dLw_275 : decode code 275 = .ok (.aload_n 2, 1) := by decide +kernel
theorem dLw_276 : decode code 276 = .ok (.aload_n 0, 1) := by decide +kernel
theorem dLw_277 : decode code 277 = .ok (.iload 4, 2) := by decide +kernel
theorem dLw_279 : decode code 279 = .ok (.iconst 1, 1) := by decide +kernel
theorem dLw_280 : decode code 280 = .ok (.iadd, 1) := by decide +kernel
theorem dLw_281 : decode code 281 = .ok (.iaload, 1) := by decide +kernel
theorem dLw_282 : decode code 282 = .ok (.invokevirtual 31, 3) := by decide +kernel
theorem dLw_285 : decode code 285 = .ok (.if_icmp .eq 1468, 3) := by decide +kernel
theorem dLw_288 : decode code 288 = .ok (.iconst 0, 1) := by decide +kernel
theorem dLw_289 : decode code 289 = .ok (.ireturn, 1) := by decide +kernel
theorem dLw_290 : decode code 290 = .ok (.aload_n 1, 1) := by decide +kernel
theorem dLw_291 : decode code 291 = .ok (.invokevirtual 32, 3) := by decide +kernel
theorem dLw_294 : decode code 294 = .ok (.aload_n 2, 1) := by decide +kernel
theorem dLw_295 : decode code 295 = .ok (.invokevirtual 36, 3) := by decide +kernel
theorem dLw_298 : decode code 298 = .ok (.if_icmp .eq 1455, 3) := by decide +kernel
theorem dLw_301 : decode code 301 = .ok (.iconst 0, 1) := by decide +kernel
theorem dLw_302 : decode code 302 = .ok (.ireturn, 1) := by decide +kernel
theorem dLw_303 : decode code 303 = .ok (.aload_n 1, 1) := by decide +kernel
theorem dLw_304 : decode code 304 = .ok (.invokevirtual 37, 3) := by decide +kernel
theorem dLw_307 : decode code 307 = .ok (.aload_n 2, 1) := by decide +kernel
theorem dLw_308 : decode code 308 = .ok (.invokevirtual 40, 3) := by decide +kernel
theorem dLw_311 : decode code 311 = .ok (.if_icmp .eq 1442, 3) := by decide +kernel
theorem dLw_314 : decode code 314 = .ok (.iconst 0, 1) := by decide +kernel
theorem dLw_315 : decode code 315 = .ok (.ireturn, 1) := by decide +kernel
theorem dLw_316 : decode code 316 = .ok (.aload_n 1, 1) := by decide +kernel
theorem dLw_317 : decode code 317 = .ok (.aload_n 0, 1) := by decide +kernel
theorem dLw_318 : decode code 318 = .ok (.iload 4, 2) := by decide +kernel
theorem dLw_320 : decode code 320 = .ok (.iconst 1, 1) := by decide +kernel
theorem dLw_321 : decode code 321 = .ok (.iadd, 1) := by decide +kernel
theorem dLw_322 : decode code 322 = .ok (.iaload, 1) := by decide +kernel
theorem dLw_323 : decode code 323 = .ok (.aload_n 0, 1) := by decide +kernel
theorem dLw_324 : decode code 324 = .ok (.iload 4, 2) := by decide +kernel
theorem dLw_326 : decode code 326 = .ok (.iconst 2, 1) := by decide +kernel
theorem dLw_327 : decode code 327 = .ok (.iadd, 1) := by decide +kernel
theorem dLw_328 : decode code 328 = .ok (.iaload, 1) := by decide +kernel
theorem dLw_329 : decode code 329 = .ok (.aload_n 3, 1) := by decide +kernel
theorem dLw_330 : decode code 330 = .ok (.invokestatic 41, 3) := by decide +kernel
theorem dLw_333 : decode code 333 = .ok (.istore 5, 2) := by decide +kernel
theorem dLw_335 : decode code 335 = .ok (.aload_n 2, 1) := by decide +kernel
theorem dLw_336 : decode code 336 = .ok (.aload_n 0, 1) := by decide +kernel
theorem dLw_337 : decode code 337 = .ok (.iload 4, 2) := by decide +kernel
theorem dLw_339 : decode code 339 = .ok (.iconst 1, 1) := by decide +kernel
theorem dLw_340 : decode code 340 = .ok (.iadd, 1) := by decide +kernel
theorem dLw_341 : decode code 341 = .ok (.iaload, 1) := by decide +kernel
theorem dLw_342 : decode code 342 = .ok (.aload_n 0, 1) := by decide +kernel
theorem dLw_343 : decode code 343 = .ok (.iload 4, 2) := by decide +kernel
theorem dLw_345 : decode code 345 = .ok (.iconst 2, 1) := by decide +kernel
theorem dLw_346 : decode code 346 = .ok (.iadd, 1) := by decide +kernel
theorem dLw_347 : decode code 347 = .ok (.iaload, 1) := by decide +kernel
theorem dLw_348 : decode code 348 = .ok (.invokevirtual 46, 3) := by decide +kernel
theorem dLw_351 : decode code 351 = .ok (.istore 6, 2) := by decide +kernel
theorem dLw_353 : decode code 353 = .ok (.aload_n 2, 1) := by decide +kernel
theorem dLw_354 : decode code 354 = .ok (.invokevirtual 47, 3) := by decide +kernel
theorem dLw_357 : decode code 357 = .ok (.iload 5, 2) := by decide +kernel
theorem dLw_359 : decode code 359 = .ok (.if_icmp .eq 5, 3) := by decide +kernel
theorem dLw_362 : decode code 362 = .ok (.iconst 0, 1) := by decide +kernel
theorem dLw_363 : decode code 363 = .ok (.ireturn, 1) := by decide +kernel
theorem dLw_364 : decode code 364 = .ok (.iload 5, 2) := by decide +kernel
theorem dLw_366 : decode code 366 = .ok (.ifCond .ne 15, 3) := by decide +kernel
theorem dLw_369 : decode code 369 = .ok (.aload_n 3, 1) := by decide +kernel
theorem dLw_370 : decode code 370 = .ok (.iconst 0, 1) := by decide +kernel
theorem dLw_371 : decode code 371 = .ok (.laload, 1) := by decide +kernel
theorem dLw_372 : decode code 372 = .ok (.iload 6, 2) := by decide +kernel
theorem dLw_374 : decode code 374 = .ok (.i2l, 1) := by decide +kernel
theorem dLw_375 : decode code 375 = .ok (.lcmp, 1) := by decide +kernel
theorem dLw_376 : decode code 376 = .ok (.ifCond .eq 5, 3) := by decide +kernel
theorem dLw_379 : decode code 379 = .ok (.iconst 0, 1) := by decide +kernel
theorem dLw_380 : decode code 380 = .ok (.ireturn, 1) := by decide +kernel
theorem dLw_381 : decode code 381 = .ok (.goto 1372, 3) := by decide +kernel
theorem dLw_384 : decode code 384 = .ok (.aload_n 1, 1) := by decide +kernel
theorem dLw_385 : decode code 385 = .ok (.aload_n 0, 1) := by decide +kernel
theorem dLw_386 : decode code 386 = .ok (.iload 4, 2) := by decide +kernel
theorem dLw_388 : decode code 388 = .ok (.iconst 1, 1) := by decide +kernel
theorem dLw_389 : decode code 389 = .ok (.iadd, 1) := by decide +kernel
theorem dLw_390 : decode code 390 = .ok (.iaload, 1) := by decide +kernel
theorem dLw_391 : decode code 391 = .ok (.aload_n 0, 1) := by decide +kernel
theorem dLw_392 : decode code 392 = .ok (.iload 4, 2) := by decide +kernel
theorem dLw_394 : decode code 394 = .ok (.iconst 2, 1) := by decide +kernel
theorem dLw_395 : decode code 395 = .ok (.iadd, 1) := by decide +kernel
theorem dLw_396 : decode code 396 = .ok (.iaload, 1) := by decide +kernel
theorem dLw_397 : decode code 397 = .ok (.invokevirtual 50, 3) := by decide +kernel
theorem dLw_400 : decode code 400 = .ok (.aload_n 2, 1) := by decide +kernel
theorem dLw_401 : decode code 401 = .ok (.aload_n 0, 1) := by decide +kernel
theorem dLw_402 : decode code 402 = .ok (.iload 4, 2) := by decide +kernel
theorem dLw_404 : decode code 404 = .ok (.iconst 1, 1) := by decide +kernel
theorem dLw_405 : decode code 405 = .ok (.iadd, 1) := by decide +kernel
theorem dLw_406 : decode code 406 = .ok (.iaload, 1) := by decide +kernel
theorem dLw_407 : decode code 407 = .ok (.aload_n 0, 1) := by decide +kernel
theorem dLw_408 : decode code 408 = .ok (.iload 4, 2) := by decide +kernel
theorem dLw_410 : decode code 410 = .ok (.iconst 2, 1) := by decide +kernel
theorem dLw_411 : decode code 411 = .ok (.iadd, 1) := by decide +kernel
theorem dLw_412 : decode code 412 = .ok (.iaload, 1) := by decide +kernel
theorem dLw_413 : decode code 413 = .ok (.invokevirtual 53, 3) := by decide +kernel
theorem dLw_416 : decode code 416 = .ok (.if_icmp .eq 1337, 3) := by decide +kernel
theorem dLw_419 : decode code 419 = .ok (.iconst 0, 1) := by decide +kernel
theorem dLw_420 : decode code 420 = .ok (.ireturn, 1) := by decide +kernel
theorem dLw_421 : decode code 421 = .ok (.aload_n 1, 1) := by decide +kernel
theorem dLw_422 : decode code 422 = .ok (.aload_n 0, 1) := by decide +kernel
theorem dLw_423 : decode code 423 = .ok (.iload 4, 2) := by decide +kernel
theorem dLw_425 : decode code 425 = .ok (.iconst 1, 1) := by decide +kernel
theorem dLw_426 : decode code 426 = .ok (.iadd, 1) := by decide +kernel
theorem dLw_427 : decode code 427 = .ok (.iaload, 1) := by decide +kernel
theorem dLw_428 : decode code 428 = .ok (.aload_n 0, 1) := by decide +kernel
theorem dLw_429 : decode code 429 = .ok (.iload 4, 2) := by decide +kernel
theorem dLw_431 : decode code 431 = .ok (.iconst 2, 1) := by decide +kernel
theorem dLw_432 : decode code 432 = .ok (.iadd, 1) := by decide +kernel
theorem dLw_433 : decode code 433 = .ok (.iaload, 1) := by decide +kernel
theorem dLw_434 : decode code 434 = .ok (.invokevirtual 54, 3) := by decide +kernel
theorem dLw_437 : decode code 437 = .ok (.aload_n 2, 1) := by decide +kernel
theorem dLw_438 : decode code 438 = .ok (.aload_n 0, 1) := by decide +kernel
theorem dLw_439 : decode code 439 = .ok (.iload 4, 2) := by decide +kernel
theorem dLw_441 : decode code 441 = .ok (.iconst 1, 1) := by decide +kernel
theorem dLw_442 : decode code 442 = .ok (.iadd, 1) := by decide +kernel
theorem dLw_443 : decode code 443 = .ok (.iaload, 1) := by decide +kernel
theorem dLw_444 : decode code 444 = .ok (.aload_n 0, 1) := by decide +kernel
theorem dLw_445 : decode code 445 = .ok (.iload 4, 2) := by decide +kernel
theorem dLw_447 : decode code 447 = .ok (.iconst 2, 1) := by decide +kernel
theorem dLw_448 : decode code 448 = .ok (.iadd, 1) := by decide +kernel
theorem dLw_449 : decode code 449 = .ok (.iaload, 1) := by decide +kernel
theorem dLw_450 : decode code 450 = .ok (.invokevirtual 58, 3) := by decide +kernel
theorem dLw_453 : decode code 453 = .ok (.if_icmp .eq 1300, 3) := by decide +kernel
theorem dLw_456 : decode code 456 = .ok (.iconst 0, 1) := by decide +kernel
theorem dLw_457 : decode code 457 = .ok (.ireturn, 1) := by decide +kernel
theorem dLw_458 : decode code 458 = .ok (.aload_n 1, 1) := by decide +kernel
theorem dLw_459 : decode code 459 = .ok (.aload_n 0, 1) := by decide +kernel
theorem dLw_460 : decode code 460 = .ok (.iload 4, 2) := by decide +kernel
theorem dLw_462 : decode code 462 = .ok (.iconst 1, 1) := by decide +kernel
theorem dLw_463 : decode code 463 = .ok (.iadd, 1) := by decide +kernel
theorem dLw_464 : decode code 464 = .ok (.iaload, 1) := by decide +kernel
theorem dLw_465 : decode code 465 = .ok (.aload_n 0, 1) := by decide +kernel
theorem dLw_466 : decode code 466 = .ok (.iload 4, 2) := by decide +kernel
theorem dLw_468 : decode code 468 = .ok (.iconst 2, 1) := by decide +kernel
theorem dLw_469 : decode code 469 = .ok (.iadd, 1) := by decide +kernel
theorem dLw_470 : decode code 470 = .ok (.iaload, 1) := by decide +kernel
theorem dLw_471 : decode code 471 = .ok (.aload_n 0, 1) := by decide +kernel
theorem dLw_472 : decode code 472 = .ok (.iload 4, 2) := by decide +kernel
theorem dLw_474 : decode code 474 = .ok (.iconst 3, 1) := by decide +kernel
theorem dLw_475 : decode code 475 = .ok (.iadd, 1) := by decide +kernel
theorem dLw_476 : decode code 476 = .ok (.iaload, 1) := by decide +kernel
theorem dLw_477 : decode code 477 = .ok (.aload_n 0, 1) := by decide +kernel
theorem dLw_478 : decode code 478 = .ok (.iload 4, 2) := by decide +kernel
theorem dLw_480 : decode code 480 = .ok (.iconst 4, 1) := by decide +kernel
theorem dLw_481 : decode code 481 = .ok (.iadd, 1) := by decide +kernel
theorem dLw_482 : decode code 482 = .ok (.iaload, 1) := by decide +kernel
theorem dLw_483 : decode code 483 = .ok (.invokevirtual 59, 3) := by decide +kernel
theorem dLw_486 : decode code 486 = .ok (.aload_n 2, 1) := by decide +kernel
theorem dLw_487 : decode code 487 = .ok (.aload_n 0, 1) := by decide +kernel
theorem dLw_488 : decode code 488 = .ok (.iload 4, 2) := by decide +kernel
theorem dLw_490 : decode code 490 = .ok (.iconst 1, 1) := by decide +kernel
theorem dLw_491 : decode code 491 = .ok (.iadd, 1) := by decide +kernel
theorem dLw_492 : decode code 492 = .ok (.iaload, 1) := by decide +kernel
theorem dLw_493 : decode code 493 = .ok (.aload_n 0, 1) := by decide +kernel
theorem dLw_494 : decode code 494 = .ok (.iload 4, 2) := by decide +kernel
theorem dLw_496 : decode code 496 = .ok (.iconst 2, 1) := by decide +kernel
theorem dLw_497 : decode code 497 = .ok (.iadd, 1) := by decide +kernel
theorem dLw_498 : decode code 498 = .ok (.iaload, 1) := by decide +kernel
theorem dLw_499 : decode code 499 = .ok (.aload_n 0, 1) := by decide +kernel
theorem dLw_500 : decode code 500 = .ok (.iload 4, 2) := by decide +kernel
theorem dLw_502 : decode code 502 = .ok (.iconst 3, 1) := by decide +kernel
theorem dLw_503 : decode code 503 = .ok (.iadd, 1) := by decide +kernel
theorem dLw_504 : decode code 504 = .ok (.iaload, 1) := by decide +kernel
theorem dLw_505 : decode code 505 = .ok (.aload_n 0, 1) := by decide +kernel
theorem dLw_506 : decode code 506 = .ok (.iload 4, 2) := by decide +kernel
theorem dLw_508 : decode code 508 = .ok (.iconst 4, 1) := by decide +kernel
theorem dLw_509 : decode code 509 = .ok (.iadd, 1) := by decide +kernel
theorem dLw_510 : decode code 510 = .ok (.iaload, 1) := by decide +kernel
theorem dLw_511 : decode code 511 = .ok (.invokevirtual 63, 3) := by decide +kernel
theorem dLw_514 : decode code 514 = .ok (.if_icmp .eq 1239, 3) := by decide +kernel
theorem dLw_517 : decode code 517 = .ok (.iconst 0, 1) := by decide +kernel
theorem dLw_518 : decode code 518 = .ok (.ireturn, 1) := by decide +kernel
theorem dLw_519 : decode code 519 = .ok (.aload_n 1, 1) := by decide +kernel
theorem dLw_520 : decode code 520 = .ok (.aload_n 0, 1) := by decide +kernel
theorem dLw_521 : decode code 521 = .ok (.iload 4, 2) := by decide +kernel
theorem dLw_523 : decode code 523 = .ok (.iconst 1, 1) := by decide +kernel
theorem dLw_524 : decode code 524 = .ok (.iadd, 1) := by decide +kernel
theorem dLw_525 : decode code 525 = .ok (.iaload, 1) := by decide +kernel
theorem dLw_526 : decode code 526 = .ok (.aload_n 0, 1) := by decide +kernel
theorem dLw_527 : decode code 527 = .ok (.iload 4, 2) := by decide +kernel
theorem dLw_529 : decode code 529 = .ok (.iconst 2, 1) := by decide +kernel
theorem dLw_530 : decode code 530 = .ok (.iadd, 1) := by decide +kernel
theorem dLw_531 : decode code 531 = .ok (.iaload, 1) := by decide +kernel
theorem dLw_532 : decode code 532 = .ok (.aload_n 0, 1) := by decide +kernel
theorem dLw_533 : decode code 533 = .ok (.iload 4, 2) := by decide +kernel
theorem dLw_535 : decode code 535 = .ok (.iconst 3, 1) := by decide +kernel
theorem dLw_536 : decode code 536 = .ok (.iadd, 1) := by decide +kernel
theorem dLw_537 : decode code 537 = .ok (.iaload, 1) := by decide +kernel
theorem dLw_538 : decode code 538 = .ok (.invokevirtual 64, 3) := by decide +kernel
theorem dLw_541 : decode code 541 = .ok (.aload_n 2, 1) := by decide +kernel
theorem dLw_542 : decode code 542 = .ok (.aload_n 0, 1) := by decide +kernel
theorem dLw_543 : decode code 543 = .ok (.iload 4, 2) := by decide +kernel
theorem dLw_545 : decode code 545 = .ok (.iconst 1, 1) := by decide +kernel
theorem dLw_546 : decode code 546 = .ok (.iadd, 1) := by decide +kernel
theorem dLw_547 : decode code 547 = .ok (.iaload, 1) := by decide +kernel
theorem dLw_548 : decode code 548 = .ok (.aload_n 0, 1) := by decide +kernel
theorem dLw_549 : decode code 549 = .ok (.iload 4, 2) := by decide +kernel
theorem dLw_551 : decode code 551 = .ok (.iconst 2, 1) := by decide +kernel
theorem dLw_552 : decode code 552 = .ok (.iadd, 1) := by decide +kernel
theorem dLw_553 : decode code 553 = .ok (.iaload, 1) := by decide +kernel
theorem dLw_554 : decode code 554 = .ok (.aload_n 0, 1) := by decide +kernel
theorem dLw_555 : decode code 555 = .ok (.iload 4, 2) := by decide +kernel
theorem dLw_557 : decode code 557 = .ok (.iconst 3, 1) := by decide +kernel
theorem dLw_558 : decode code 558 = .ok (.iadd, 1) := by decide +kernel
theorem dLw_559 : decode code 559 = .ok (.iaload, 1) := by decide +kernel
theorem dLw_560 : decode code 560 = .ok (.invokevirtual 68, 3) := by decide +kernel
theorem dLw_563 : decode code 563 = .ok (.if_icmp .eq 1190, 3) := by decide +kernel
theorem dLw_566 : decode code 566 = .ok (.iconst 0, 1) := by decide +kernel
theorem dLw_567 : decode code 567 = .ok (.ireturn, 1) := by decide +kernel
theorem dLw_568 : decode code 568 = .ok (.aload_n 1, 1) := by decide +kernel
theorem dLw_569 : decode code 569 = .ok (.aload_n 0, 1) := by decide +kernel
theorem dLw_570 : decode code 570 = .ok (.iload 4, 2) := by decide +kernel
theorem dLw_572 : decode code 572 = .ok (.iconst 1, 1) := by decide +kernel
theorem dLw_573 : decode code 573 = .ok (.iadd, 1) := by decide +kernel
theorem dLw_574 : decode code 574 = .ok (.iaload, 1) := by decide +kernel
theorem dLw_575 : decode code 575 = .ok (.aload_n 0, 1) := by decide +kernel
theorem dLw_576 : decode code 576 = .ok (.iload 4, 2) := by decide +kernel
theorem dLw_578 : decode code 578 = .ok (.iconst 2, 1) := by decide +kernel
theorem dLw_579 : decode code 579 = .ok (.iadd, 1) := by decide +kernel
theorem dLw_580 : decode code 580 = .ok (.iaload, 1) := by decide +kernel
theorem dLw_581 : decode code 581 = .ok (.aload_n 0, 1) := by decide +kernel
theorem dLw_582 : decode code 582 = .ok (.iload 4, 2) := by decide +kernel
theorem dLw_584 : decode code 584 = .ok (.iconst 3, 1) := by decide +kernel
theorem dLw_585 : decode code 585 = .ok (.iadd, 1) := by decide +kernel
theorem dLw_586 : decode code 586 = .ok (.iaload, 1) := by decide +kernel
theorem dLw_587 : decode code 587 = .ok (.invokevirtual 69, 3) := by decide +kernel
theorem dLw_590 : decode code 590 = .ok (.aload_n 2, 1) := by decide +kernel
theorem dLw_591 : decode code 591 = .ok (.aload_n 0, 1) := by decide +kernel
theorem dLw_592 : decode code 592 = .ok (.iload 4, 2) := by decide +kernel
theorem dLw_594 : decode code 594 = .ok (.iconst 1, 1) := by decide +kernel
theorem dLw_595 : decode code 595 = .ok (.iadd, 1) := by decide +kernel
theorem dLw_596 : decode code 596 = .ok (.iaload, 1) := by decide +kernel
theorem dLw_597 : decode code 597 = .ok (.aload_n 0, 1) := by decide +kernel
theorem dLw_598 : decode code 598 = .ok (.iload 4, 2) := by decide +kernel
theorem dLw_600 : decode code 600 = .ok (.iconst 2, 1) := by decide +kernel
theorem dLw_601 : decode code 601 = .ok (.iadd, 1) := by decide +kernel
theorem dLw_602 : decode code 602 = .ok (.iaload, 1) := by decide +kernel
theorem dLw_603 : decode code 603 = .ok (.aload_n 0, 1) := by decide +kernel
theorem dLw_604 : decode code 604 = .ok (.iload 4, 2) := by decide +kernel
theorem dLw_606 : decode code 606 = .ok (.iconst 3, 1) := by decide +kernel
theorem dLw_607 : decode code 607 = .ok (.iadd, 1) := by decide +kernel
theorem dLw_608 : decode code 608 = .ok (.iaload, 1) := by decide +kernel
theorem dLw_609 : decode code 609 = .ok (.invokevirtual 72, 3) := by decide +kernel
theorem dLw_612 : decode code 612 = .ok (.if_icmp .eq 1141, 3) := by decide +kernel
theorem dLw_615 : decode code 615 = .ok (.iconst 0, 1) := by decide +kernel
theorem dLw_616 : decode code 616 = .ok (.ireturn, 1) := by decide +kernel
theorem dLw_617 : decode code 617 = .ok (.aload_n 1, 1) := by decide +kernel
theorem dLw_618 : decode code 618 = .ok (.aload_n 0, 1) := by decide +kernel
theorem dLw_619 : decode code 619 = .ok (.iload 4, 2) := by decide +kernel
theorem dLw_621 : decode code 621 = .ok (.iconst 1, 1) := by decide +kernel
theorem dLw_622 : decode code 622 = .ok (.iadd, 1) := by decide +kernel
theorem dLw_623 : decode code 623 = .ok (.iaload, 1) := by decide +kernel
theorem dLw_624 : decode code 624 = .ok (.aload_n 0, 1) := by decide +kernel
theorem dLw_625 : decode code 625 = .ok (.iload 4, 2) := by decide +kernel
theorem dLw_627 : decode code 627 = .ok (.iconst 2, 1) := by decide +kernel
theorem dLw_628 : decode code 628 = .ok (.iadd, 1) := by decide +kernel
theorem dLw_629 : decode code 629 = .ok (.iaload, 1) := by decide +kernel
theorem dLw_630 : decode code 630 = .ok (.invokevirtual 73, 3) := by decide +kernel
theorem dLw_633 : decode code 633 = .ok (.aload_n 2, 1) := by decide +kernel
theorem dLw_634 : decode code 634 = .ok (.aload_n 0, 1) := by decide +kernel
theorem dLw_635 : decode code 635 = .ok (.iload 4, 2) := by decide +kernel
theorem dLw_637 : decode code 637 = .ok (.iconst 1, 1) := by decide +kernel
theorem dLw_638 : decode code 638 = .ok (.iadd, 1) := by decide +kernel
theorem dLw_639 : decode code 639 = .ok (.iaload, 1) := by decide +kernel
theorem dLw_640 : decode code 640 = .ok (.aload_n 0, 1) := by decide +kernel
theorem dLw_641 : decode code 641 = .ok (.iload 4, 2) := by decide +kernel
theorem dLw_643 : decode code 643 = .ok (.iconst 2, 1) := by decide +kernel
theorem dLw_644 : decode code 644 = .ok (.iadd, 1) := by decide +kernel
theorem dLw_645 : decode code 645 = .ok (.iaload, 1) := by decide +kernel
theorem dLw_646 : decode code 646 = .ok (.invokevirtual 76, 3) := by decide +kernel
theorem dLw_649 : decode code 649 = .ok (.if_icmp .eq 1104, 3) := by decide +kernel
theorem dLw_652 : decode code 652 = .ok (.iconst 0, 1) := by decide +kernel
theorem dLw_653 : decode code 653 = .ok (.ireturn, 1) := by decide +kernel
theorem dLw_654 : decode code 654 = .ok (.aload_n 1, 1) := by decide +kernel
theorem dLw_655 : decode code 655 = .ok (.aload_n 0, 1) := by decide +kernel
theorem dLw_656 : decode code 656 = .ok (.iload 4, 2) := by decide +kernel
theorem dLw_658 : decode code 658 = .ok (.iconst 1, 1) := by decide +kernel
theorem dLw_659 : decode code 659 = .ok (.iadd, 1) := by decide +kernel
theorem dLw_660 : decode code 660 = .ok (.iaload, 1) := by decide +kernel
theorem dLw_661 : decode code 661 = .ok (.invokevirtual 77, 3) := by decide +kernel
theorem dLw_664 : decode code 664 = .ok (.aload_n 2, 1) := by decide +kernel
theorem dLw_665 : decode code 665 = .ok (.aload_n 0, 1) := by decide +kernel
theorem dLw_666 : decode code 666 = .ok (.iload 4, 2) := by decide +kernel
theorem dLw_668 : decode code 668 = .ok (.iconst 1, 1) := by decide +kernel
theorem dLw_669 : decode code 669 = .ok (.iadd, 1) := by decide +kernel
theorem dLw_670 : decode code 670 = .ok (.iaload, 1) := by decide +kernel
theorem dLw_671 : decode code 671 = .ok (.invokevirtual 80, 3) := by decide +kernel
theorem dLw_674 : decode code 674 = .ok (.if_icmp .eq 1079, 3) := by decide +kernel
theorem dLw_677 : decode code 677 = .ok (.iconst 0, 1) := by decide +kernel
theorem dLw_678 : decode code 678 = .ok (.ireturn, 1) := by decide +kernel
theorem dLw_679 : decode code 679 = .ok (.aload_n 1, 1) := by decide +kernel
theorem dLw_680 : decode code 680 = .ok (.invokevirtual 81, 3) := by decide +kernel
theorem dLw_683 : decode code 683 = .ok (.aload_n 2, 1) := by decide +kernel
theorem dLw_684 : decode code 684 = .ok (.invokevirtual 84, 3) := by decide +kernel
theorem dLw_687 : decode code 687 = .ok (.if_icmp .eq 1066, 3) := by decide +kernel
theorem dLw_690 : decode code 690 = .ok (.iconst 0, 1) := by decide +kernel
theorem dLw_691 : decode code 691 = .ok (.ireturn, 1) := by decide +kernel
theorem dLw_692 : decode code 692 = .ok (.aload_n 1, 1) := by decide +kernel
theorem dLw_693 : decode code 693 = .ok (.aload_n 0, 1) := by decide +kernel
theorem dLw_694 : decode code 694 = .ok (.iload 4, 2) := by decide +kernel
theorem dLw_696 : decode code 696 = .ok (.iconst 1, 1) := by decide +kernel
theorem dLw_697 : decode code 697 = .ok (.iadd, 1) := by decide +kernel
theorem dLw_698 : decode code 698 = .ok (.iaload, 1) := by decide +kernel
theorem dLw_699 : decode code 699 = .ok (.aload_n 0, 1) := by decide +kernel
theorem dLw_700 : decode code 700 = .ok (.iload 4, 2) := by decide +kernel
theorem dLw_702 : decode code 702 = .ok (.iconst 2, 1) := by decide +kernel
theorem dLw_703 : decode code 703 = .ok (.iadd, 1) := by decide +kernel
theorem dLw_704 : decode code 704 = .ok (.iaload, 1) := by decide +kernel
theorem dLw_705 : decode code 705 = .ok (.aload_n 0, 1) := by decide +kernel
theorem dLw_706 : decode code 706 = .ok (.iload 4, 2) := by decide +kernel
theorem dLw_708 : decode code 708 = .ok (.iconst 3, 1) := by decide +kernel
theorem dLw_709 : decode code 709 = .ok (.iadd, 1) := by decide +kernel
theorem dLw_710 : decode code 710 = .ok (.iaload, 1) := by decide +kernel
theorem dLw_711 : decode code 711 = .ok (.aload_n 0, 1) := by decide +kernel
theorem dLw_712 : decode code 712 = .ok (.iload 4, 2) := by decide +kernel
theorem dLw_714 : decode code 714 = .ok (.iconst 4, 1) := by decide +kernel
theorem dLw_715 : decode code 715 = .ok (.iadd, 1) := by decide +kernel
theorem dLw_716 : decode code 716 = .ok (.iaload, 1) := by decide +kernel
theorem dLw_717 : decode code 717 = .ok (.invokevirtual 85, 3) := by decide +kernel
theorem dLw_720 : decode code 720 = .ok (.aload_n 2, 1) := by decide +kernel
theorem dLw_721 : decode code 721 = .ok (.aload_n 0, 1) := by decide +kernel
theorem dLw_722 : decode code 722 = .ok (.iload 4, 2) := by decide +kernel
theorem dLw_724 : decode code 724 = .ok (.iconst 1, 1) := by decide +kernel
theorem dLw_725 : decode code 725 = .ok (.iadd, 1) := by decide +kernel
theorem dLw_726 : decode code 726 = .ok (.iaload, 1) := by decide +kernel
theorem dLw_727 : decode code 727 = .ok (.aload_n 0, 1) := by decide +kernel
theorem dLw_728 : decode code 728 = .ok (.iload 4, 2) := by decide +kernel
theorem dLw_730 : decode code 730 = .ok (.iconst 2, 1) := by decide +kernel
theorem dLw_731 : decode code 731 = .ok (.iadd, 1) := by decide +kernel
theorem dLw_732 : decode code 732 = .ok (.iaload, 1) := by decide +kernel
theorem dLw_733 : decode code 733 = .ok (.aload_n 0, 1) := by decide +kernel
theorem dLw_734 : decode code 734 = .ok (.iload 4, 2) := by decide +kernel
theorem dLw_736 : decode code 736 = .ok (.iconst 3, 1) := by decide +kernel
theorem dLw_737 : decode code 737 = .ok (.iadd, 1) := by decide +kernel
theorem dLw_738 : decode code 738 = .ok (.iaload, 1) := by decide +kernel
theorem dLw_739 : decode code 739 = .ok (.aload_n 0, 1) := by decide +kernel
theorem dLw_740 : decode code 740 = .ok (.iload 4, 2) := by decide +kernel
theorem dLw_742 : decode code 742 = .ok (.iconst 4, 1) := by decide +kernel
theorem dLw_743 : decode code 743 = .ok (.iadd, 1) := by decide +kernel
theorem dLw_744 : decode code 744 = .ok (.iaload, 1) := by decide +kernel
theorem dLw_745 : decode code 745 = .ok (.invokevirtual 88, 3) := by decide +kernel
theorem dLw_748 : decode code 748 = .ok (.if_icmp .eq 1005, 3) := by decide +kernel
theorem dLw_751 : decode code 751 = .ok (.iconst 0, 1) := by decide +kernel
theorem dLw_752 : decode code 752 = .ok (.ireturn, 1) := by decide +kernel
theorem dLw_753 : decode code 753 = .ok (.aload_n 1, 1) := by decide +kernel
theorem dLw_754 : decode code 754 = .ok (.invokevirtual 89, 3) := by decide +kernel
theorem dLw_757 : decode code 757 = .ok (.aload_n 2, 1) := by decide +kernel
theorem dLw_758 : decode code 758 = .ok (.invokevirtual 92, 3) := by decide +kernel
theorem dLw_761 : decode code 761 = .ok (.if_icmp .eq 992, 3) := by decide +kernel
theorem dLw_764 : decode code 764 = .ok (.iconst 0, 1) := by decide +kernel
theorem dLw_765 : decode code 765 = .ok (.ireturn, 1) := by decide +kernel
theorem dLw_766 : decode code 766 = .ok (.aload_n 1, 1) := by decide +kernel
theorem dLw_767 : decode code 767 = .ok (.aload_n 0, 1) := by decide +kernel
theorem dLw_768 : decode code 768 = .ok (.iload 4, 2) := by decide +kernel
theorem dLw_770 : decode code 770 = .ok (.iconst 1, 1) := by decide +kernel
theorem dLw_771 : decode code 771 = .ok (.iadd, 1) := by decide +kernel
theorem dLw_772 : decode code 772 = .ok (.iaload, 1) := by decide +kernel
theorem dLw_773 : decode code 773 = .ok (.aload_n 0, 1) := by decide +kernel
theorem dLw_774 : decode code 774 = .ok (.iload 4, 2) := by decide +kernel
theorem dLw_776 : decode code 776 = .ok (.iconst 2, 1) := by decide +kernel
theorem dLw_777 : decode code 777 = .ok (.iadd, 1) := by decide +kernel
theorem dLw_778 : decode code 778 = .ok (.iaload, 1) := by decide +kernel
theorem dLw_779 : decode code 779 = .ok (.invokevirtual 93, 3) := by decide +kernel
theorem dLw_782 : decode code 782 = .ok (.aload_n 2, 1) := by decide +kernel
theorem dLw_783 : decode code 783 = .ok (.aload_n 0, 1) := by decide +kernel
theorem dLw_784 : decode code 784 = .ok (.iload 4, 2) := by decide +kernel
theorem dLw_786 : decode code 786 = .ok (.iconst 1, 1) := by decide +kernel
theorem dLw_787 : decode code 787 = .ok (.iadd, 1) := by decide +kernel
theorem dLw_788 : decode code 788 = .ok (.iaload, 1) := by decide +kernel
theorem dLw_789 : decode code 789 = .ok (.aload_n 0, 1) := by decide +kernel
theorem dLw_790 : decode code 790 = .ok (.iload 4, 2) := by decide +kernel
theorem dLw_792 : decode code 792 = .ok (.iconst 2, 1) := by decide +kernel
theorem dLw_793 : decode code 793 = .ok (.iadd, 1) := by decide +kernel
theorem dLw_794 : decode code 794 = .ok (.iaload, 1) := by decide +kernel
theorem dLw_795 : decode code 795 = .ok (.invokevirtual 96, 3) := by decide +kernel
theorem dLw_798 : decode code 798 = .ok (.if_icmp .eq 955, 3) := by decide +kernel
theorem dLw_801 : decode code 801 = .ok (.iconst 0, 1) := by decide +kernel
theorem dLw_802 : decode code 802 = .ok (.ireturn, 1) := by decide +kernel
theorem dLw_803 : decode code 803 = .ok (.aload_n 1, 1) := by decide +kernel
theorem dLw_804 : decode code 804 = .ok (.invokevirtual 97, 3) := by decide +kernel
theorem dLw_807 : decode code 807 = .ok (.aload_n 2, 1) := by decide +kernel
theorem dLw_808 : decode code 808 = .ok (.invokevirtual 100, 3) := by decide +kernel
theorem dLw_811 : decode code 811 = .ok (.if_icmp .eq 942, 3) := by decide +kernel
theorem dLw_814 : decode code 814 = .ok (.iconst 0, 1) := by decide +kernel
theorem dLw_815 : decode code 815 = .ok (.ireturn, 1) := by decide +kernel
theorem dLw_816 : decode code 816 = .ok (.aload_n 1, 1) := by decide +kernel
theorem dLw_817 : decode code 817 = .ok (.aload_n 0, 1) := by decide +kernel
theorem dLw_818 : decode code 818 = .ok (.iload 4, 2) := by decide +kernel
theorem dLw_820 : decode code 820 = .ok (.iconst 1, 1) := by decide +kernel
theorem dLw_821 : decode code 821 = .ok (.iadd, 1) := by decide +kernel
theorem dLw_822 : decode code 822 = .ok (.iaload, 1) := by decide +kernel
theorem dLw_823 : decode code 823 = .ok (.invokevirtual 101, 3) := by decide +kernel
theorem dLw_826 : decode code 826 = .ok (.aload_n 2, 1) := by decide +kernel
theorem dLw_827 : decode code 827 = .ok (.aload_n 0, 1) := by decide +kernel
theorem dLw_828 : decode code 828 = .ok (.iload 4, 2) := by decide +kernel
theorem dLw_830 : decode code 830 = .ok (.iconst 1, 1) := by decide +kernel
theorem dLw_831 : decode code 831 = .ok (.iadd, 1) := by decide +kernel
theorem dLw_832 : decode code 832 = .ok (.iaload, 1) := by decide +kernel
theorem dLw_833 : decode code 833 = .ok (.invokevirtual 104, 3) := by decide +kernel
theorem dLw_836 : decode code 836 = .ok (.if_icmp .eq 917, 3) := by decide +kernel
theorem dLw_839 : decode code 839 = .ok (.iconst 0, 1) := by decide +kernel
theorem dLw_840 : decode code 840 = .ok (.ireturn, 1) := by decide +kernel
theorem dLw_841 : decode code 841 = .ok (.aload_n 1, 1) := by decide +kernel
theorem dLw_842 : decode code 842 = .ok (.aload_n 0, 1) := by decide +kernel
theorem dLw_843 : decode code 843 = .ok (.iload 4, 2) := by decide +kernel
theorem dLw_845 : decode code 845 = .ok (.iconst 1, 1) := by decide +kernel
theorem dLw_846 : decode code 846 = .ok (.iadd, 1) := by decide +kernel
theorem dLw_847 : decode code 847 = .ok (.iaload, 1) := by decide +kernel
theorem dLw_848 : decode code 848 = .ok (.aload_n 0, 1) := by decide +kernel
theorem dLw_849 : decode code 849 = .ok (.iload 4, 2) := by decide +kernel
theorem dLw_851 : decode code 851 = .ok (.iconst 2, 1) := by decide +kernel
theorem dLw_852 : decode code 852 = .ok (.iadd, 1) := by decide +kernel
theorem dLw_853 : decode code 853 = .ok (.iaload, 1) := by decide +kernel
theorem dLw_854 : decode code 854 = .ok (.invokevirtual 105, 3) := by decide +kernel
theorem dLw_857 : decode code 857 = .ok (.aload_n 2, 1) := by decide +kernel
theorem dLw_858 : decode code 858 = .ok (.aload_n 0, 1) := by decide +kernel
theorem dLw_859 : decode code 859 = .ok (.iload 4, 2) := by decide +kernel
theorem dLw_861 : decode code 861 = .ok (.iconst 1, 1) := by decide +kernel
theorem dLw_862 : decode code 862 = .ok (.iadd, 1) := by decide +kernel
theorem dLw_863 : decode code 863 = .ok (.iaload, 1) := by decide +kernel
theorem dLw_864 : decode code 864 = .ok (.aload_n 0, 1) := by decide +kernel
theorem dLw_865 : decode code 865 = .ok (.iload 4, 2) := by decide +kernel
theorem dLw_867 : decode code 867 = .ok (.iconst 2, 1) := by decide +kernel
theorem dLw_868 : decode code 868 = .ok (.iadd, 1) := by decide +kernel
theorem dLw_869 : decode code 869 = .ok (.iaload, 1) := by decide +kernel
theorem dLw_870 : decode code 870 = .ok (.invokevirtual 108, 3) := by decide +kernel
theorem dLw_873 : decode code 873 = .ok (.if_icmp .eq 880, 3) := by decide +kernel
theorem dLw_876 : decode code 876 = .ok (.iconst 0, 1) := by decide +kernel
theorem dLw_877 : decode code 877 = .ok (.ireturn, 1) := by decide +kernel
theorem dLw_878 : decode code 878 = .ok (.aload_n 1, 1) := by decide +kernel
theorem dLw_879 : decode code 879 = .ok (.aload_n 0, 1) := by decide +kernel
theorem dLw_880 : decode code 880 = .ok (.iload 4, 2) := by decide +kernel
theorem dLw_882 : decode code 882 = .ok (.iconst 1, 1) := by decide +kernel
theorem dLw_883 : decode code 883 = .ok (.iadd, 1) := by decide +kernel
theorem dLw_884 : decode code 884 = .ok (.iaload, 1) := by decide +kernel
theorem dLw_885 : decode code 885 = .ok (.aload_n 0, 1) := by decide +kernel
theorem dLw_886 : decode code 886 = .ok (.iload 4, 2) := by decide +kernel
theorem dLw_888 : decode code 888 = .ok (.iconst 2, 1) := by decide +kernel
theorem dLw_889 : decode code 889 = .ok (.iadd, 1) := by decide +kernel
theorem dLw_890 : decode code 890 = .ok (.iaload, 1) := by decide +kernel
theorem dLw_891 : decode code 891 = .ok (.invokevirtual 109, 3) := by decide +kernel
theorem dLw_894 : decode code 894 = .ok (.aload_n 2, 1) := by decide +kernel
theorem dLw_895 : decode code 895 = .ok (.aload_n 0, 1) := by decide +kernel
theorem dLw_896 : decode code 896 = .ok (.iload 4, 2) := by decide +kernel
theorem dLw_898 : decode code 898 = .ok (.iconst 1, 1) := by decide +kernel
theorem dLw_899 : decode code 899 = .ok (.iadd, 1) := by decide +kernel
theorem dLw_900 : decode code 900 = .ok (.iaload, 1) := by decide +kernel
theorem dLw_901 : decode code 901 = .ok (.aload_n 0, 1) := by decide +kernel
theorem dLw_902 : decode code 902 = .ok (.iload 4, 2) := by decide +kernel
theorem dLw_904 : decode code 904 = .ok (.iconst 2, 1) := by decide +kernel
theorem dLw_905 : decode code 905 = .ok (.iadd, 1) := by decide +kernel
theorem dLw_906 : decode code 906 = .ok (.iaload, 1) := by decide +kernel
theorem dLw_907 : decode code 907 = .ok (.invokevirtual 112, 3) := by decide +kernel
theorem dLw_910 : decode code 910 = .ok (.if_icmp .eq 843, 3) := by decide +kernel
theorem dLw_913 : decode code 913 = .ok (.iconst 0, 1) := by decide +kernel
theorem dLw_914 : decode code 914 = .ok (.ireturn, 1) := by decide +kernel
theorem dLw_915 : decode code 915 = .ok (.aload_n 1, 1) := by decide +kernel
theorem dLw_916 : decode code 916 = .ok (.aload_n 0, 1) := by decide +kernel
theorem dLw_917 : decode code 917 = .ok (.iload 4, 2) := by decide +kernel
theorem dLw_919 : decode code 919 = .ok (.iconst 1, 1) := by decide +kernel
theorem dLw_920 : decode code 920 = .ok (.iadd, 1) := by decide +kernel
theorem dLw_921 : decode code 921 = .ok (.iaload, 1) := by decide +kernel
theorem dLw_922 : decode code 922 = .ok (.invokevirtual 113, 3) := by decide +kernel
theorem dLw_925 : decode code 925 = .ok (.aload_n 2, 1) := by decide +kernel
theorem dLw_926 : decode code 926 = .ok (.aload_n 0, 1) := by decide +kernel
theorem dLw_927 : decode code 927 = .ok (.iload 4, 2) := by decide +kernel
theorem dLw_929 : decode code 929 = .ok (.iconst 1, 1) := by decide +kernel
theorem dLw_930 : decode code 930 = .ok (.iadd, 1) := by decide +kernel
theorem dLw_931 : decode code 931 = .ok (.iaload, 1) := by decide +kernel
theorem dLw_932 : decode code 932 = .ok (.invokevirtual 116, 3) := by decide +kernel
theorem dLw_935 : decode code 935 = .ok (.if_icmp .eq 818, 3) := by decide +kernel
theorem dLw_938 : decode code 938 = .ok (.iconst 0, 1) := by decide +kernel
theorem dLw_939 : decode code 939 = .ok (.ireturn, 1) := by decide +kernel
theorem dLw_940 : decode code 940 = .ok (.aload_n 1, 1) := by decide +kernel
theorem dLw_941 : decode code 941 = .ok (.aload_n 0, 1) := by decide +kernel
theorem dLw_942 : decode code 942 = .ok (.iload 4, 2) := by decide +kernel
theorem dLw_944 : decode code 944 = .ok (.iconst 1, 1) := by decide +kernel
theorem dLw_945 : decode code 945 = .ok (.iadd, 1) := by decide +kernel
theorem dLw_946 : decode code 946 = .ok (.iaload, 1) := by decide +kernel
theorem dLw_947 : decode code 947 = .ok (.aload_n 0, 1) := by decide +kernel
theorem dLw_948 : decode code 948 = .ok (.iload 4, 2) := by decide +kernel
theorem dLw_950 : decode code 950 = .ok (.iconst 2, 1) := by decide +kernel
theorem dLw_951 : decode code 951 = .ok (.iadd, 1) := by decide +kernel
theorem dLw_952 : decode code 952 = .ok (.iaload, 1) := by decide +kernel
theorem dLw_953 : decode code 953 = .ok (.aload_n 0, 1) := by decide +kernel
theorem dLw_954 : decode code 954 = .ok (.iload 4, 2) := by decide +kernel
theorem dLw_956 : decode code 956 = .ok (.iconst 3, 1) := by decide +kernel
theorem dLw_957 : decode code 957 = .ok (.iadd, 1) := by decide +kernel
theorem dLw_958 : decode code 958 = .ok (.iaload, 1) := by decide +kernel
theorem dLw_959 : decode code 959 = .ok (.aload_n 0, 1) := by decide +kernel
theorem dLw_960 : decode code 960 = .ok (.iload 4, 2) := by decide +kernel
theorem dLw_962 : decode code 962 = .ok (.iconst 4, 1) := by decide +kernel
theorem dLw_963 : decode code 963 = .ok (.iadd, 1) := by decide +kernel
theorem dLw_964 : decode code 964 = .ok (.iaload, 1) := by decide +kernel
theorem dLw_965 : decode code 965 = .ok (.invokevirtual 117, 3) := by decide +kernel
theorem dLw_968 : decode code 968 = .ok (.aload_n 2, 1) := by decide +kernel
theorem dLw_969 : decode code 969 = .ok (.aload_n 0, 1) := by decide +kernel
theorem dLw_970 : decode code 970 = .ok (.iload 4, 2) := by decide +kernel
theorem dLw_972 : decode code 972 = .ok (.iconst 1, 1) := by decide +kernel
theorem dLw_973 : decode code 973 = .ok (.iadd, 1) := by decide +kernel
theorem dLw_974 : decode code 974 = .ok (.iaload, 1) := by decide +kernel
theorem dLw_975 : decode code 975 = .ok (.aload_n 0, 1) := by decide +kernel
theorem dLw_976 : decode code 976 = .ok (.iload 4, 2) := by decide +kernel
theorem dLw_978 : decode code 978 = .ok (.iconst 2, 1) := by decide +kernel
theorem dLw_979 : decode code 979 = .ok (.iadd, 1) := by decide +kernel
theorem dLw_980 : decode code 980 = .ok (.iaload, 1) := by decide +kernel
theorem dLw_981 : decode code 981 = .ok (.aload_n 0, 1) := by decide +kernel
theorem dLw_982 : decode code 982 = .ok (.iload 4, 2) := by decide +kernel
theorem dLw_984 : decode code 984 = .ok (.iconst 3, 1) := by decide +kernel
theorem dLw_985 : decode code 985 = .ok (.iadd, 1) := by decide +kernel
theorem dLw_986 : decode code 986 = .ok (.iaload, 1) := by decide +kernel
theorem dLw_987 : decode code 987 = .ok (.aload_n 0, 1) := by decide +kernel
theorem dLw_988 : decode code 988 = .ok (.iload 4, 2) := by decide +kernel
theorem dLw_990 : decode code 990 = .ok (.iconst 4, 1) := by decide +kernel
theorem dLw_991 : decode code 991 = .ok (.iadd, 1) := by decide +kernel
theorem dLw_992 : decode code 992 = .ok (.iaload, 1) := by decide +kernel
theorem dLw_993 : decode code 993 = .ok (.invokevirtual 120, 3) := by decide +kernel
theorem dLw_996 : decode code 996 = .ok (.if_icmp .eq 757, 3) := by decide +kernel
theorem dLw_999 : decode code 999 = .ok (.iconst 0, 1) := by decide +kernel
theorem dLw_1000 : decode code 1000 = .ok (.ireturn, 1) := by decide +kernel
theorem dLw_1001 : decode code 1001 = .ok (.aload_n 1, 1) := by decide +kernel
theorem dLw_1002 : decode code 1002 = .ok (.aload_n 0, 1) := by decide +kernel
theorem dLw_1003 : decode code 1003 = .ok (.iload 4, 2) := by decide +kernel
theorem dLw_1005 : decode code 1005 = .ok (.iconst 1, 1) := by decide +kernel
theorem dLw_1006 : decode code 1006 = .ok (.iadd, 1) := by decide +kernel
theorem dLw_1007 : decode code 1007 = .ok (.iaload, 1) := by decide +kernel
theorem dLw_1008 : decode code 1008 = .ok (.aload_n 0, 1) := by decide +kernel
theorem dLw_1009 : decode code 1009 = .ok (.iload 4, 2) := by decide +kernel
theorem dLw_1011 : decode code 1011 = .ok (.iconst 2, 1) := by decide +kernel
theorem dLw_1012 : decode code 1012 = .ok (.iadd, 1) := by decide +kernel
theorem dLw_1013 : decode code 1013 = .ok (.iaload, 1) := by decide +kernel
theorem dLw_1014 : decode code 1014 = .ok (.aload_n 0, 1) := by decide +kernel
theorem dLw_1015 : decode code 1015 = .ok (.iload 4, 2) := by decide +kernel
theorem dLw_1017 : decode code 1017 = .ok (.iconst 3, 1) := by decide +kernel
theorem dLw_1018 : decode code 1018 = .ok (.iadd, 1) := by decide +kernel
theorem dLw_1019 : decode code 1019 = .ok (.iaload, 1) := by decide +kernel
theorem dLw_1020 : decode code 1020 = .ok (.invokevirtual 121, 3) := by decide +kernel
theorem dLw_1023 : decode code 1023 = .ok (.aload_n 2, 1) := by decide +kernel
theorem dLw_1024 : decode code 1024 = .ok (.aload_n 0, 1) := by decide +kernel
theorem dLw_1025 : decode code 1025 = .ok (.iload 4, 2) := by decide +kernel
theorem dLw_1027 : decode code 1027 = .ok (.iconst 1, 1) := by decide +kernel
theorem dLw_1028 : decode code 1028 = .ok (.iadd, 1) := by decide +kernel
theorem dLw_1029 : decode code 1029 = .ok (.iaload, 1) := by decide +kernel
theorem dLw_1030 : decode code 1030 = .ok (.aload_n 0, 1) := by decide +kernel
theorem dLw_1031 : decode code 1031 = .ok (.iload 4, 2) := by decide +kernel
theorem dLw_1033 : decode code 1033 = .ok (.iconst 2, 1) := by decide +kernel
theorem dLw_1034 : decode code 1034 = .ok (.iadd, 1) := by decide +kernel
theorem dLw_1035 : decode code 1035 = .ok (.iaload, 1) := by decide +kernel
theorem dLw_1036 : decode code 1036 = .ok (.aload_n 0, 1) := by decide +kernel
theorem dLw_1037 : decode code 1037 = .ok (.iload 4, 2) := by decide +kernel
theorem dLw_1039 : decode code 1039 = .ok (.iconst 3, 1) := by decide +kernel
theorem dLw_1040 : decode code 1040 = .ok (.iadd, 1) := by decide +kernel
theorem dLw_1041 : decode code 1041 = .ok (.iaload, 1) := by decide +kernel
theorem dLw_1042 : decode code 1042 = .ok (.invokevirtual 124, 3) := by decide +kernel
theorem dLw_1045 : decode code 1045 = .ok (.if_icmp .eq 708, 3) := by decide +kernel
theorem dLw_1048 : decode code 1048 = .ok (.iconst 0, 1) := by decide +kernel
theorem dLw_1049 : decode code 1049 = .ok (.ireturn, 1) := by decide +kernel
theorem dLw_1050 : decode code 1050 = .ok (.aload_n 1, 1) := by decide +kernel
theorem dLw_1051 : decode code 1051 = .ok (.aload_n 0, 1) := by decide +kernel
theorem dLw_1052 : decode code 1052 = .ok (.iload 4, 2) := by decide +kernel
theorem dLw_1054 : decode code 1054 = .ok (.iconst 1, 1) := by decide +kernel
theorem dLw_1055 : decode code 1055 = .ok (.iadd, 1) := by decide +kernel
theorem dLw_1056 : decode code 1056 = .ok (.iaload, 1) := by decide +kernel
theorem dLw_1057 : decode code 1057 = .ok (.aload_n 0, 1) := by decide +kernel
theorem dLw_1058 : decode code 1058 = .ok (.iload 4, 2) := by decide +kernel
theorem dLw_1060 : decode code 1060 = .ok (.iconst 2, 1) := by decide +kernel
theorem dLw_1061 : decode code 1061 = .ok (.iadd, 1) := by decide +kernel
theorem dLw_1062 : decode code 1062 = .ok (.iaload, 1) := by decide +kernel
theorem dLw_1063 : decode code 1063 = .ok (.invokevirtual 125, 3) := by decide +kernel
theorem dLw_1066 : decode code 1066 = .ok (.aload_n 2, 1) := by decide +kernel
theorem dLw_1067 : decode code 1067 = .ok (.aload_n 0, 1) := by decide +kernel
theorem dLw_1068 : decode code 1068 = .ok (.iload 4, 2) := by decide +kernel
theorem dLw_1070 : decode code 1070 = .ok (.iconst 1, 1) := by decide +kernel
theorem dLw_1071 : decode code 1071 = .ok (.iadd, 1) := by decide +kernel
theorem dLw_1072 : decode code 1072 = .ok (.iaload, 1) := by decide +kernel
theorem dLw_1073 : decode code 1073 = .ok (.aload_n 0, 1) := by decide +kernel
theorem dLw_1074 : decode code 1074 = .ok (.iload 4, 2) := by decide +kernel
theorem dLw_1076 : decode code 1076 = .ok (.iconst 2, 1) := by decide +kernel
theorem dLw_1077 : decode code 1077 = .ok (.iadd, 1) := by decide +kernel
theorem dLw_1078 : decode code 1078 = .ok (.iaload, 1) := by decide +kernel
theorem dLw_1079 : decode code 1079 = .ok (.invokevirtual 128, 3) := by decide +kernel
theorem dLw_1082 : decode code 1082 = .ok (.if_icmp .eq 671, 3) := by decide +kernel
theorem dLw_1085 : decode code 1085 = .ok (.iconst 0, 1) := by decide +kernel
theorem dLw_1086 : decode code 1086 = .ok (.ireturn, 1) := by decide +kernel
theorem dLw_1087 : decode code 1087 = .ok (.aload_n 1, 1) := by decide +kernel
theorem dLw_1088 : decode code 1088 = .ok (.aload_n 0, 1) := by decide +kernel
theorem dLw_1089 : decode code 1089 = .ok (.iload 4, 2) := by decide +kernel
theorem dLw_1091 : decode code 1091 = .ok (.iconst 1, 1) := by decide +kernel
theorem dLw_1092 : decode code 1092 = .ok (.iadd, 1) := by decide +kernel
theorem dLw_1093 : decode code 1093 = .ok (.iaload, 1) := by decide +kernel
theorem dLw_1094 : decode code 1094 = .ok (.aload_n 0, 1) := by decide +kernel
theorem dLw_1095 : decode code 1095 = .ok (.iload 4, 2) := by decide +kernel
theorem dLw_1097 : decode code 1097 = .ok (.iconst 2, 1) := by decide +kernel
theorem dLw_1098 : decode code 1098 = .ok (.iadd, 1) := by decide +kernel
theorem dLw_1099 : decode code 1099 = .ok (.iaload, 1) := by decide +kernel
theorem dLw_1100 : decode code 1100 = .ok (.invokevirtual 129, 3) := by decide +kernel
theorem dLw_1103 : decode code 1103 = .ok (.aload_n 2, 1) := by decide +kernel
theorem dLw_1104 : decode code 1104 = .ok (.aload_n 0, 1) := by decide +kernel
theorem dLw_1105 : decode code 1105 = .ok (.iload 4, 2) := by decide +kernel
theorem dLw_1107 : decode code 1107 = .ok (.iconst 1, 1) := by decide +kernel
theorem dLw_1108 : decode code 1108 = .ok (.iadd, 1) := by decide +kernel
theorem dLw_1109 : decode code 1109 = .ok (.iaload, 1) := by decide +kernel
theorem dLw_1110 : decode code 1110 = .ok (.aload_n 0, 1) := by decide +kernel
theorem dLw_1111 : decode code 1111 = .ok (.iload 4, 2) := by decide +kernel
theorem dLw_1113 : decode code 1113 = .ok (.iconst 2, 1) := by decide +kernel
theorem dLw_1114 : decode code 1114 = .ok (.iadd, 1) := by decide +kernel
theorem dLw_1115 : decode code 1115 = .ok (.iaload, 1) := by decide +kernel
theorem dLw_1116 : decode code 1116 = .ok (.invokevirtual 132, 3) := by decide +kernel
theorem dLw_1119 : decode code 1119 = .ok (.if_icmp .eq 634, 3) := by decide +kernel
theorem dLw_1122 : decode code 1122 = .ok (.iconst 0, 1) := by decide +kernel
theorem dLw_1123 : decode code 1123 = .ok (.ireturn, 1) := by decide +kernel
theorem dLw_1124 : decode code 1124 = .ok (.aload_n 1, 1) := by decide +kernel
theorem dLw_1125 : decode code 1125 = .ok (.invokevirtual 133, 3) := by decide +kernel
theorem dLw_1128 : decode code 1128 = .ok (.aload_n 2, 1) := by decide +kernel
theorem dLw_1129 : decode code 1129 = .ok (.invokevirtual 136, 3) := by decide +kernel
theorem dLw_1132 : decode code 1132 = .ok (.if_icmp .eq 621, 3) := by decide +kernel
theorem dLw_1135 : decode code 1135 = .ok (.iconst 0, 1) := by decide +kernel
theorem dLw_1136 : decode code 1136 = .ok (.ireturn, 1) := by decide +kernel
theorem dLw_1137 : decode code 1137 = .ok (.aload_n 1, 1) := by decide +kernel
theorem dLw_1138 : decode code 1138 = .ok (.aload_n 0, 1) := by decide +kernel
theorem dLw_1139 : decode code 1139 = .ok (.iload 4, 2) := by decide +kernel
theorem dLw_1141 : decode code 1141 = .ok (.iconst 1, 1) := by decide +kernel
theorem dLw_1142 : decode code 1142 = .ok (.iadd, 1) := by decide +kernel
theorem dLw_1143 : decode code 1143 = .ok (.iaload, 1) := by decide +kernel
theorem dLw_1144 : decode code 1144 = .ok (.aload_n 0, 1) := by decide +kernel
theorem dLw_1145 : decode code 1145 = .ok (.iload 4, 2) := by decide +kernel
theorem dLw_1147 : decode code 1147 = .ok (.iconst 2, 1) := by decide +kernel
theorem dLw_1148 : decode code 1148 = .ok (.iadd, 1) := by decide +kernel
theorem dLw_1149 : decode code 1149 = .ok (.iaload, 1) := by decide +kernel
theorem dLw_1150 : decode code 1150 = .ok (.invokevirtual 137, 3) := by decide +kernel
theorem dLw_1153 : decode code 1153 = .ok (.aload_n 2, 1) := by decide +kernel
theorem dLw_1154 : decode code 1154 = .ok (.aload_n 0, 1) := by decide +kernel
theorem dLw_1155 : decode code 1155 = .ok (.iload 4, 2) := by decide +kernel
theorem dLw_1157 : decode code 1157 = .ok (.iconst 1, 1) := by decide +kernel
theorem dLw_1158 : decode code 1158 = .ok (.iadd, 1) := by decide +kernel
theorem dLw_1159 : decode code 1159 = .ok (.iaload, 1) := by decide +kernel
theorem dLw_1160 : decode code 1160 = .ok (.aload_n 0, 1) := by decide +kernel
theorem dLw_1161 : decode code 1161 = .ok (.iload 4, 2) := by decide +kernel
theorem dLw_1163 : decode code 1163 = .ok (.iconst 2, 1) := by decide +kernel
theorem dLw_1164 : decode code 1164 = .ok (.iadd, 1) := by decide +kernel
theorem dLw_1165 : decode code 1165 = .ok (.iaload, 1) := by decide +kernel
theorem dLw_1166 : decode code 1166 = .ok (.invokevirtual 140, 3) := by decide +kernel
theorem dLw_1169 : decode code 1169 = .ok (.if_icmp .eq 584, 3) := by decide +kernel
theorem dLw_1172 : decode code 1172 = .ok (.iconst 0, 1) := by decide +kernel
theorem dLw_1173 : decode code 1173 = .ok (.ireturn, 1) := by decide +kernel
theorem dLw_1174 : decode code 1174 = .ok (.aload_n 1, 1) := by decide +kernel
theorem dLw_1175 : decode code 1175 = .ok (.aload_n 0, 1) := by decide +kernel
theorem dLw_1176 : decode code 1176 = .ok (.iload 4, 2) := by decide +kernel
theorem dLw_1178 : decode code 1178 = .ok (.iconst 1, 1) := by decide +kernel
theorem dLw_1179 : decode code 1179 = .ok (.iadd, 1) := by decide +kernel
theorem dLw_1180 : decode code 1180 = .ok (.iaload, 1) := by decide +kernel
theorem dLw_1181 : decode code 1181 = .ok (.aload_n 0, 1) := by decide +kernel
theorem dLw_1182 : decode code 1182 = .ok (.iload 4, 2) := by decide +kernel
theorem dLw_1184 : decode code 1184 = .ok (.iconst 2, 1) := by decide +kernel
theorem dLw_1185 : decode code 1185 = .ok (.iadd, 1) := by decide +kernel
theorem dLw_1186 : decode code 1186 = .ok (.iaload, 1) := by decide +kernel
theorem dLw_1187 : decode code 1187 = .ok (.invokevirtual 141, 3) := by decide +kernel
theorem dLw_1190 : decode code 1190 = .ok (.aload_n 2, 1) := by decide +kernel
theorem dLw_1191 : decode code 1191 = .ok (.aload_n 0, 1) := by decide +kernel
theorem dLw_1192 : decode code 1192 = .ok (.iload 4, 2) := by decide +kernel
theorem dLw_1194 : decode code 1194 = .ok (.iconst 1, 1) := by decide +kernel
theorem dLw_1195 : decode code 1195 = .ok (.iadd, 1) := by decide +kernel
theorem dLw_1196 : decode code 1196 = .ok (.iaload, 1) := by decide +kernel
theorem dLw_1197 : decode code 1197 = .ok (.aload_n 0, 1) := by decide +kernel
theorem dLw_1198 : decode code 1198 = .ok (.iload 4, 2) := by decide +kernel
theorem dLw_1200 : decode code 1200 = .ok (.iconst 2, 1) := by decide +kernel
theorem dLw_1201 : decode code 1201 = .ok (.iadd, 1) := by decide +kernel
theorem dLw_1202 : decode code 1202 = .ok (.iaload, 1) := by decide +kernel
theorem dLw_1203 : decode code 1203 = .ok (.invokevirtual 144, 3) := by decide +kernel
theorem dLw_1206 : decode code 1206 = .ok (.if_icmp .eq 547, 3) := by decide +kernel
theorem dLw_1209 : decode code 1209 = .ok (.iconst 0, 1) := by decide +kernel
theorem dLw_1210 : decode code 1210 = .ok (.ireturn, 1) := by decide +kernel
theorem dLw_1211 : decode code 1211 = .ok (.aload_n 1, 1) := by decide +kernel
theorem dLw_1212 : decode code 1212 = .ok (.aload_n 0, 1) := by decide +kernel
theorem dLw_1213 : decode code 1213 = .ok (.iload 4, 2) := by decide +kernel
theorem dLw_1215 : decode code 1215 = .ok (.iconst 1, 1) := by decide +kernel
theorem dLw_1216 : decode code 1216 = .ok (.iadd, 1) := by decide +kernel
theorem dLw_1217 : decode code 1217 = .ok (.iaload, 1) := by decide +kernel
theorem dLw_1218 : decode code 1218 = .ok (.aload_n 0, 1) := by decide +kernel
theorem dLw_1219 : decode code 1219 = .ok (.iload 4, 2) := by decide +kernel
theorem dLw_1221 : decode code 1221 = .ok (.iconst 2, 1) := by decide +kernel
theorem dLw_1222 : decode code 1222 = .ok (.iadd, 1) := by decide +kernel
theorem dLw_1223 : decode code 1223 = .ok (.iaload, 1) := by decide +kernel
theorem dLw_1224 : decode code 1224 = .ok (.invokevirtual 145, 3) := by decide +kernel
theorem dLw_1227 : decode code 1227 = .ok (.aload_n 2, 1) := by decide +kernel
theorem dLw_1228 : decode code 1228 = .ok (.aload_n 0, 1) := by decide +kernel
theorem dLw_1229 : decode code 1229 = .ok (.iload 4, 2) := by decide +kernel
theorem dLw_1231 : decode code 1231 = .ok (.iconst 1, 1) := by decide +kernel
theorem dLw_1232 : decode code 1232 = .ok (.iadd, 1) := by decide +kernel
theorem dLw_1233 : decode code 1233 = .ok (.iaload, 1) := by decide +kernel
theorem dLw_1234 : decode code 1234 = .ok (.aload_n 0, 1) := by decide +kernel
theorem dLw_1235 : decode code 1235 = .ok (.iload 4, 2) := by decide +kernel
theorem dLw_1237 : decode code 1237 = .ok (.iconst 2, 1) := by decide +kernel
theorem dLw_1238 : decode code 1238 = .ok (.iadd, 1) := by decide +kernel
theorem dLw_1239 : decode code 1239 = .ok (.iaload, 1) := by decide +kernel
theorem dLw_1240 : decode code 1240 = .ok (.invokevirtual 148, 3) := by decide +kernel
theorem dLw_1243 : decode code 1243 = .ok (.if_icmp .eq 510, 3) := by decide +kernel
theorem dLw_1246 : decode code 1246 = .ok (.iconst 0, 1) := by decide +kernel
theorem dLw_1247 : decode code 1247 = .ok (.ireturn, 1) := by decide +kernel
theorem dLw_1248 : decode code 1248 = .ok (.aload_n 1, 1) := by decide +kernel
theorem dLw_1249 : decode code 1249 = .ok (.invokevirtual 149, 3) := by decide +kernel
theorem dLw_1252 : decode code 1252 = .ok (.aload_n 2, 1) := by decide +kernel
theorem dLw_1253 : decode code 1253 = .ok (.invokevirtual 152, 3) := by decide +kernel
theorem dLw_1256 : decode code 1256 = .ok (.if_icmp .eq 497, 3) := by decide +kernel
theorem dLw_1259 : decode code 1259 = .ok (.iconst 0, 1) := by decide +kernel
theorem dLw_1260 : decode code 1260 = .ok (.ireturn, 1) := by decide +kernel
theorem dLw_1261 : decode code 1261 = .ok (.aload_n 1, 1) := by decide +kernel
theorem dLw_1262 : decode code 1262 = .ok (.aload_n 0, 1) := by decide +kernel
theorem dLw_1263 : decode code 1263 = .ok (.iload 4, 2) := by decide +kernel
theorem dLw_1265 : decode code 1265 = .ok (.iconst 1, 1) := by decide +kernel
theorem dLw_1266 : decode code 1266 = .ok (.iadd, 1) := by decide +kernel
theorem dLw_1267 : decode code 1267 = .ok (.iaload, 1) := by decide +kernel
theorem dLw_1268 : decode code 1268 = .ok (.aload_n 0, 1) := by decide +kernel
theorem dLw_1269 : decode code 1269 = .ok (.iload 4, 2) := by decide +kernel
theorem dLw_1271 : decode code 1271 = .ok (.iconst 2, 1) := by decide +kernel
theorem dLw_1272 : decode code 1272 = .ok (.iadd, 1) := by decide +kernel
theorem dLw_1273 : decode code 1273 = .ok (.iaload, 1) := by decide +kernel
theorem dLw_1274 : decode code 1274 = .ok (.invokevirtual 153, 3) := by decide +kernel
theorem dLw_1277 : decode code 1277 = .ok (.aload_n 2, 1) := by decide +kernel
theorem dLw_1278 : decode code 1278 = .ok (.aload_n 0, 1) := by decide +kernel
theorem dLw_1279 : decode code 1279 = .ok (.iload 4, 2) := by decide +kernel
theorem dLw_1281 : decode code 1281 = .ok (.iconst 1, 1) := by decide +kernel
theorem dLw_1282 : decode code 1282 = .ok (.iadd, 1) := by decide +kernel
theorem dLw_1283 : decode code 1283 = .ok (.iaload, 1) := by decide +kernel
theorem dLw_1284 : decode code 1284 = .ok (.aload_n 0, 1) := by decide +kernel
theorem dLw_1285 : decode code 1285 = .ok (.iload 4, 2) := by decide +kernel
theorem dLw_1287 : decode code 1287 = .ok (.iconst 2, 1) := by decide +kernel
theorem dLw_1288 : decode code 1288 = .ok (.iadd, 1) := by decide +kernel
theorem dLw_1289 : decode code 1289 = .ok (.iaload, 1) := by decide +kernel
theorem dLw_1290 : decode code 1290 = .ok (.invokevirtual 156, 3) := by decide +kernel
theorem dLw_1293 : decode code 1293 = .ok (.if_icmp .eq 460, 3) := by decide +kernel
theorem dLw_1296 : decode code 1296 = .ok (.iconst 0, 1) := by decide +kernel
theorem dLw_1297 : decode code 1297 = .ok (.ireturn, 1) := by decide +kernel
theorem dLw_1298 : decode code 1298 = .ok (.aload_n 1, 1) := by decide +kernel
theorem dLw_1299 : decode code 1299 = .ok (.aload_n 0, 1) := by decide +kernel
theorem dLw_1300 : decode code 1300 = .ok (.iload 4, 2) := by decide +kernel
theorem dLw_1302 : decode code 1302 = .ok (.iconst 1, 1) := by decide +kernel
theorem dLw_1303 : decode code 1303 = .ok (.iadd, 1) := by decide +kernel
theorem dLw_1304 : decode code 1304 = .ok (.iaload, 1) := by decide +kernel
theorem dLw_1305 : decode code 1305 = .ok (.aload_n 0, 1) := by decide +kernel
theorem dLw_1306 : decode code 1306 = .ok (.iload 4, 2) := by decide +kernel
theorem dLw_1308 : decode code 1308 = .ok (.iconst 2, 1) := by decide +kernel
theorem dLw_1309 : decode code 1309 = .ok (.iadd, 1) := by decide +kernel
theorem dLw_1310 : decode code 1310 = .ok (.iaload, 1) := by decide +kernel
theorem dLw_1311 : decode code 1311 = .ok (.invokevirtual 157, 3) := by decide +kernel
theorem dLw_1314 : decode code 1314 = .ok (.aload_n 2, 1) := by decide +kernel
theorem dLw_1315 : decode code 1315 = .ok (.aload_n 0, 1) := by decide +kernel
theorem dLw_1316 : decode code 1316 = .ok (.iload 4, 2) := by decide +kernel
theorem dLw_1318 : decode code 1318 = .ok (.iconst 1, 1) := by decide +kernel
theorem dLw_1319 : decode code 1319 = .ok (.iadd, 1) := by decide +kernel
theorem dLw_1320 : decode code 1320 = .ok (.iaload, 1) := by decide +kernel
theorem dLw_1321 : decode code 1321 = .ok (.aload_n 0, 1) := by decide +kernel
theorem dLw_1322 : decode code 1322 = .ok (.iload 4, 2) := by decide +kernel
theorem dLw_1324 : decode code 1324 = .ok (.iconst 2, 1) := by decide +kernel
theorem dLw_1325 : decode code 1325 = .ok (.iadd, 1) := by decide +kernel
theorem dLw_1326 : decode code 1326 = .ok (.iaload, 1) := by decide +kernel
theorem dLw_1327 : decode code 1327 = .ok (.invokevirtual 160, 3) := by decide +kernel
theorem dLw_1330 : decode code 1330 = .ok (.if_icmp .eq 423, 3) := by decide +kernel
theorem dLw_1333 : decode code 1333 = .ok (.iconst 0, 1) := by decide +kernel
theorem dLw_1334 : decode code 1334 = .ok (.ireturn, 1) := by decide +kernel
theorem dLw_1335 : decode code 1335 = .ok (.aload_n 1, 1) := by decide +kernel
theorem dLw_1336 : decode code 1336 = .ok (.aload_n 0, 1) := by decide +kernel
theorem dLw_1337 : decode code 1337 = .ok (.iload 4, 2) := by decide +kernel
theorem dLw_1339 : decode code 1339 = .ok (.iconst 1, 1) := by decide +kernel
theorem dLw_1340 : decode code 1340 = .ok (.iadd, 1) := by decide +kernel
theorem dLw_1341 : decode code 1341 = .ok (.iaload, 1) := by decide +kernel
theorem dLw_1342 : decode code 1342 = .ok (.invokevirtual 161, 3) := by decide +kernel
theorem dLw_1345 : decode code 1345 = .ok (.aload_n 2, 1) := by decide +kernel
theorem dLw_1346 : decode code 1346 = .ok (.aload_n 0, 1) := by decide +kernel
theorem dLw_1347 : decode code 1347 = .ok (.iload 4, 2) := by decide +kernel
theorem dLw_1349 : decode code 1349 = .ok (.iconst 1, 1) := by decide +kernel
theorem dLw_1350 : decode code 1350 = .ok (.iadd, 1) := by decide +kernel
theorem dLw_1351 : decode code 1351 = .ok (.iaload, 1) := by decide +kernel
theorem dLw_1352 : decode code 1352 = .ok (.invokevirtual 164, 3) := by decide +kernel
theorem dLw_1355 : decode code 1355 = .ok (.if_icmp .eq 398, 3) := by decide +kernel
theorem dLw_1358 : decode code 1358 = .ok (.iconst 0, 1) := by decide +kernel
theorem dLw_1359 : decode code 1359 = .ok (.ireturn, 1) := by decide +kernel
theorem dLw_1360 : decode code 1360 = .ok (.aload_n 1, 1) := by decide +kernel
theorem dLw_1361 : decode code 1361 = .ok (.aload_n 0, 1) := by decide +kernel
theorem dLw_1362 : decode code 1362 = .ok (.iload 4, 2) := by decide +kernel
theorem dLw_1364 : decode code 1364 = .ok (.iconst 1, 1) := by decide +kernel
theorem dLw_1365 : decode code 1365 = .ok (.iadd, 1) := by decide +kernel
theorem dLw_1366 : decode code 1366 = .ok (.iaload, 1) := by decide +kernel
theorem dLw_1367 : decode code 1367 = .ok (.aload_n 0, 1) := by decide +kernel
theorem dLw_1368 : decode code 1368 = .ok (.iload 4, 2) := by decide +kernel
theorem dLw_1370 : decode code 1370 = .ok (.iconst 2, 1) := by decide +kernel
theorem dLw_1371 : decode code 1371 = .ok (.iadd, 1) := by decide +kernel
theorem dLw_1372 : decode code 1372 = .ok (.iaload, 1) := by decide +kernel
theorem dLw_1373 : decode code 1373 = .ok (.invokevirtual 165, 3) := by decide +kernel
theorem dLw_1376 : decode code 1376 = .ok (.aload_n 2, 1) := by decide +kernel
theorem dLw_1377 : decode code 1377 = .ok (.aload_n 0, 1) := by decide +kernel
theorem dLw_1378 : decode code 1378 = .ok (.iload 4, 2) := by decide +kernel
theorem dLw_1380 : decode code 1380 = .ok (.iconst 1, 1) := by decide +kernel
theorem dLw_1381 : decode code 1381 = .ok (.iadd, 1) := by decide +kernel
theorem dLw_1382 : decode code 1382 = .ok (.iaload, 1) := by decide +kernel
theorem dLw_1383 : decode code 1383 = .ok (.aload_n 0, 1) := by decide +kernel
theorem dLw_1384 : decode code 1384 = .ok (.iload 4, 2) := by decide +kernel
theorem dLw_1386 : decode code 1386 = .ok (.iconst 2, 1) := by decide +kernel
theorem dLw_1387 : decode code 1387 = .ok (.iadd, 1) := by decide +kernel
theorem dLw_1388 : decode code 1388 = .ok (.iaload, 1) := by decide +kernel
theorem dLw_1389 : decode code 1389 = .ok (.invokevirtual 168, 3) := by decide +kernel
theorem dLw_1392 : decode code 1392 = .ok (.if_icmp .eq 361, 3) := by decide +kernel
theorem dLw_1395 : decode code 1395 = .ok (.iconst 0, 1) := by decide +kernel
theorem dLw_1396 : decode code 1396 = .ok (.ireturn, 1) := by decide +kernel
theorem dLw_1397 : decode code 1397 = .ok (.aload_n 1, 1) := by decide +kernel
theorem dLw_1398 : decode code 1398 = .ok (.aload_n 0, 1) := by decide +kernel
theorem dLw_1399 : decode code 1399 = .ok (.iload 4, 2) := by decide +kernel
theorem dLw_1401 : decode code 1401 = .ok (.iconst 1, 1) := by decide +kernel
theorem dLw_1402 : decode code 1402 = .ok (.iadd, 1) := by decide +kernel
theorem dLw_1403 : decode code 1403 = .ok (.iaload, 1) := by decide +kernel
theorem dLw_1404 : decode code 1404 = .ok (.invokevirtual 169, 3) := by decide +kernel
theorem dLw_1407 : decode code 1407 = .ok (.aload_n 2, 1) := by decide +kernel
theorem dLw_1408 : decode code 1408 = .ok (.aload_n 0, 1) := by decide +kernel
theorem dLw_1409 : decode code 1409 = .ok (.iload 4, 2) := by decide +kernel
theorem dLw_1411 : decode code 1411 = .ok (.iconst 1, 1) := by decide +kernel
theorem dLw_1412 : decode code 1412 = .ok (.iadd, 1) := by decide +kernel
theorem dLw_1413 : decode code 1413 = .ok (.iaload, 1) := by decide +kernel
theorem dLw_1414 : decode code 1414 = .ok (.invokevirtual 172, 3) := by decide +kernel
theorem dLw_1417 : decode code 1417 = .ok (.if_icmp .eq 336, 3) := by decide +kernel
theorem dLw_1420 : decode code 1420 = .ok (.iconst 0, 1) := by decide +kernel
theorem dLw_1421 : decode code 1421 = .ok (.ireturn, 1) := by decide +kernel
theorem dLw_1422 : decode code 1422 = .ok (.aload_n 1, 1) := by decide +kernel
theorem dLw_1423 : decode code 1423 = .ok (.aload_n 0, 1) := by decide +kernel
theorem dLw_1424 : decode code 1424 = .ok (.iload 4, 2) := by decide +kernel
theorem dLw_1426 : decode code 1426 = .ok (.iconst 1, 1) := by decide +kernel
theorem dLw_1427 : decode code 1427 = .ok (.iadd, 1) := by decide +kernel
theorem dLw_1428 : decode code 1428 = .ok (.iaload, 1) := by decide +kernel
theorem dLw_1429 : decode code 1429 = .ok (.invokevirtual 173, 3) := by decide +kernel
theorem dLw_1432 : decode code 1432 = .ok (.aload_n 2, 1) := by decide +kernel
theorem dLw_1433 : decode code 1433 = .ok (.aload_n 0, 1) := by decide +kernel
theorem dLw_1434 : decode code 1434 = .ok (.iload 4, 2) := by decide +kernel
theorem dLw_1436 : decode code 1436 = .ok (.iconst 1, 1) := by decide +kernel
theorem dLw_1437 : decode code 1437 = .ok (.iadd, 1) := by decide +kernel
theorem dLw_1438 : decode code 1438 = .ok (.iaload, 1) := by decide +kernel
theorem dLw_1439 : decode code 1439 = .ok (.invokevirtual 176, 3) := by decide +kernel
theorem dLw_1442 : decode code 1442 = .ok (.if_icmp .eq 311, 3) := by decide +kernel
theorem dLw_1445 : decode code 1445 = .ok (.iconst 0, 1) := by decide +kernel
theorem dLw_1446 : decode code 1446 = .ok (.ireturn, 1) := by decide +kernel
theorem dLw_1447 : decode code 1447 = .ok (.aload_n 1, 1) := by decide +kernel
theorem dLw_1448 : decode code 1448 = .ok (.aload_n 0, 1) := by decide +kernel
theorem dLw_1449 : decode code 1449 = .ok (.iload 4, 2) := by decide +kernel
theorem dLw_1451 : decode code 1451 = .ok (.iconst 1, 1) := by decide +kernel
theorem dLw_1452 : decode code 1452 = .ok (.iadd, 1) := by decide +kernel
theorem dLw_1453 : decode code 1453 = .ok (.iaload, 1) := by decide +kernel
theorem dLw_1454 : decode code 1454 = .ok (.aload_n 0, 1) := by decide +kernel
theorem dLw_1455 : decode code 1455 = .ok (.iload 4, 2) := by decide +kernel
theorem dLw_1457 : decode code 1457 = .ok (.iconst 2, 1) := by decide +kernel
theorem dLw_1458 : decode code 1458 = .ok (.iadd, 1) := by decide +kernel
theorem dLw_1459 : decode code 1459 = .ok (.iaload, 1) := by decide +kernel
theorem dLw_1460 : decode code 1460 = .ok (.invokevirtual 177, 3) := by decide +kernel
theorem dLw_1463 : decode code 1463 = .ok (.aload_n 2, 1) := by decide +kernel
theorem dLw_1464 : decode code 1464 = .ok (.aload_n 0, 1) := by decide +kernel
theorem dLw_1465 : decode code 1465 = .ok (.iload 4, 2) := by decide +kernel
theorem dLw_1467 : decode code 1467 = .ok (.iconst 1, 1) := by decide +kernel
theorem dLw_1468 : decode code 1468 = .ok (.iadd, 1) := by decide +kernel
theorem dLw_1469 : decode code 1469 = .ok (.iaload, 1) := by decide +kernel
theorem dLw_1470 : decode code 1470 = .ok (.aload_n 0, 1) := by decide +kernel
theorem dLw_1471 : decode code 1471 = .ok (.iload 4, 2) := by decide +kernel
theorem dLw_1473 : decode code 1473 = .ok (.iconst 2, 1) := by decide +kernel
theorem dLw_1474 : decode code 1474 = .ok (.iadd, 1) := by decide +kernel
theorem dLw_1475 : decode code 1475 = .ok (.iaload, 1) := by decide +kernel
theorem dLw_1476 : decode code 1476 = .ok (.invokevirtual 180, 3) := by decide +kernel
theorem dLw_1479 : decode code 1479 = .ok (.if_icmp .eq 274, 3) := by decide +kernel
theorem dLw_1482 : decode code 1482 = .ok (.iconst 0, 1) := by decide +kernel
theorem dLw_1483 : decode code 1483 = .ok (.ireturn, 1) := by decide +kernel
theorem dLw_1484 : decode code 1484 = .ok (.aload_n 1, 1) := by decide +kernel
theorem dLw_1485 : decode code 1485 = .ok (.aload_n 0, 1) := by decide +kernel
theorem dLw_1486 : decode code 1486 = .ok (.iload 4, 2) := by decide +kernel
theorem dLw_1488 : decode code 1488 = .ok (.iconst 1, 1) := by decide +kernel
theorem dLw_1489 : decode code 1489 = .ok (.iadd, 1) := by decide +kernel
theorem dLw_1490 : decode code 1490 = .ok (.iaload, 1) := by decide +kernel
theorem dLw_1491 : decode code 1491 = .ok (.aload_n 0, 1) := by decide +kernel
theorem dLw_1492 : decode code 1492 = .ok (.iload 4, 2) := by decide +kernel
theorem dLw_1494 : decode code 1494 = .ok (.iconst 2, 1) := by decide +kernel
theorem dLw_1495 : decode code 1495 = .ok (.iadd, 1) := by decide +kernel
theorem dLw_1496 : decode code 1496 = .ok (.iaload, 1) := by decide +kernel
theorem dLw_1497 : decode code 1497 = .ok (.aload_n 0, 1) := by decide +kernel
theorem dLw_1498 : decode code 1498 = .ok (.iload 4, 2) := by decide +kernel
theorem dLw_1500 : decode code 1500 = .ok (.iconst 3, 1) := by decide +kernel
theorem dLw_1501 : decode code 1501 = .ok (.iadd, 1) := by decide +kernel
theorem dLw_1502 : decode code 1502 = .ok (.iaload, 1) := by decide +kernel
theorem dLw_1503 : decode code 1503 = .ok (.invokevirtual 181, 3) := by decide +kernel
theorem dLw_1506 : decode code 1506 = .ok (.aload_n 2, 1) := by decide +kernel
theorem dLw_1507 : decode code 1507 = .ok (.aload_n 0, 1) := by decide +kernel
theorem dLw_1508 : decode code 1508 = .ok (.iload 4, 2) := by decide +kernel
theorem dLw_1510 : decode code 1510 = .ok (.iconst 1, 1) := by decide +kernel
theorem dLw_1511 : decode code 1511 = .ok (.iadd, 1) := by decide +kernel
theorem dLw_1512 : decode code 1512 = .ok (.iaload, 1) := by decide +kernel
theorem dLw_1513 : decode code 1513 = .ok (.aload_n 0, 1) := by decide +kernel
theorem dLw_1514 : decode code 1514 = .ok (.iload 4, 2) := by decide +kernel
theorem dLw_1516 : decode code 1516 = .ok (.iconst 2, 1) := by decide +kernel
theorem dLw_1517 : decode code 1517 = .ok (.iadd, 1) := by decide +kernel
theorem dLw_1518 : decode code 1518 = .ok (.iaload, 1) := by decide +kernel
theorem dLw_1519 : decode code 1519 = .ok (.aload_n 0, 1) := by decide +kernel
theorem dLw_1520 : decode code 1520 = .ok (.iload 4, 2) := by decide +kernel
theorem dLw_1522 : decode code 1522 = .ok (.iconst 3, 1) := by decide +kernel
theorem dLw_1523 : decode code 1523 = .ok (.iadd, 1) := by decide +kernel
theorem dLw_1524 : decode code 1524 = .ok (.iaload, 1) := by decide +kernel
theorem dLw_1525 : decode code 1525 = .ok (.invokevirtual 184, 3) := by decide +kernel
theorem dLw_1528 : decode code 1528 = .ok (.if_icmp .eq 225, 3) := by decide +kernel
theorem dLw_1531 : decode code 1531 = .ok (.iconst 0, 1) := by decide +kernel
theorem dLw_1532 : decode code 1532 = .ok (.ireturn, 1) := by decide +kernel
theorem dLw_1533 : decode code 1533 = .ok (.aload_n 1, 1) := by decide +kernel
theorem dLw_1534 : decode code 1534 = .ok (.invokevirtual 185, 3) := by decide +kernel
theorem dLw_1537 : decode code 1537 = .ok (.aload_n 2, 1) := by decide +kernel
theorem dLw_1538 : decode code 1538 = .ok (.invokevirtual 188, 3) := by decide +kernel
theorem dLw_1541 : decode code 1541 = .ok (.if_icmp .eq 212, 3) := by decide +kernel
theorem dLw_1544 : decode code 1544 = .ok (.iconst 0, 1) := by decide +kernel
theorem dLw_1545 : decode code 1545 = .ok (.ireturn, 1) := by decide +kernel
theorem dLw_1546 : decode code 1546 = .ok (.aload_n 1, 1) := by decide +kernel
theorem dLw_1547 : decode code 1547 = .ok (.aload_n 0, 1) := by decide +kernel
theorem dLw_1548 : decode code 1548 = .ok (.iload 4, 2) := by decide +kernel
theorem dLw_1550 : decode code 1550 = .ok (.iconst 1, 1) := by decide +kernel
theorem dLw_1551 : decode code 1551 = .ok (.iadd, 1) := by decide +kernel
theorem dLw_1552 : decode code 1552 = .ok (.iaload, 1) := by decide +kernel
theorem dLw_1553 : decode code 1553 = .ok (.invokevirtual 189, 3) := by decide +kernel
theorem dLw_1556 : decode code 1556 = .ok (.aload_n 2, 1) := by decide +kernel
theorem dLw_1557 : decode code 1557 = .ok (.aload_n 0, 1) := by decide +kernel
theorem dLw_1558 : decode code 1558 = .ok (.iload 4, 2) := by decide +kernel
theorem dLw_1560 : decode code 1560 = .ok (.iconst 1, 1) := by decide +kernel
theorem dLw_1561 : decode code 1561 = .ok (.iadd, 1) := by decide +kernel
theorem dLw_1562 : decode code 1562 = .ok (.iaload, 1) := by decide +kernel
theorem dLw_1563 : decode code 1563 = .ok (.invokevirtual 192, 3) := by decide +kernel
theorem dLw_1566 : decode code 1566 = .ok (.if_icmp .eq 187, 3) := by decide +kernel
theorem dLw_1569 : decode code 1569 = .ok (.iconst 0, 1) := by decide +kernel
theorem dLw_1570 : decode code 1570 = .ok (.ireturn, 1) := by decide +kernel
theorem dLw_1571 : decode code 1571 = .ok (.aload_n 1, 1) := by decide +kernel
theorem dLw_1572 : decode code 1572 = .ok (.invokevirtual 193, 3) := by decide +kernel
theorem dLw_1575 : decode code 1575 = .ok (.aload_n 2, 1) := by decide +kernel
theorem dLw_1576 : decode code 1576 = .ok (.invokevirtual 196, 3) := by decide +kernel
theorem dLw_1579 : decode code 1579 = .ok (.if_icmp .eq 174, 3) := by decide +kernel
theorem dLw_1582 : decode code 1582 = .ok (.iconst 0, 1) := by decide +kernel
theorem dLw_1583 : decode code 1583 = .ok (.ireturn, 1) := by decide +kernel
theorem dLw_1584 : decode code 1584 = .ok (.aload_n 1, 1) := by decide +kernel
theorem dLw_1585 : decode code 1585 = .ok (.aload_n 0, 1) := by decide +kernel
theorem dLw_1586 : decode code 1586 = .ok (.iload 4, 2) := by decide +kernel
theorem dLw_1588 : decode code 1588 = .ok (.iconst 1, 1) := by decide +kernel
theorem dLw_1589 : decode code 1589 = .ok (.iadd, 1) := by decide +kernel
theorem dLw_1590 : decode code 1590 = .ok (.iaload, 1) := by decide +kernel
theorem dLw_1591 : decode code 1591 = .ok (.invokevirtual 197, 3) := by decide +kernel
theorem dLw_1594 : decode code 1594 = .ok (.aload_n 2, 1) := by decide +kernel
theorem dLw_1595 : decode code 1595 = .ok (.aload_n 0, 1) := by decide +kernel
theorem dLw_1596 : decode code 1596 = .ok (.iload 4, 2) := by decide +kernel
theorem dLw_1598 : decode code 1598 = .ok (.iconst 1, 1) := by decide +kernel
theorem dLw_1599 : decode code 1599 = .ok (.iadd, 1) := by decide +kernel
theorem dLw_1600 : decode code 1600 = .ok (.iaload, 1) := by decide +kernel
theorem dLw_1601 : decode code 1601 = .ok (.invokevirtual 200, 3) := by decide +kernel
theorem dLw_1604 : decode code 1604 = .ok (.if_icmp .eq 149, 3) := by decide +kernel
theorem dLw_1607 : decode code 1607 = .ok (.iconst 0, 1) := by decide +kernel
theorem dLw_1608 : decode code 1608 = .ok (.ireturn, 1) := by decide +kernel
theorem dLw_1609 : decode code 1609 = .ok (.aload_n 1, 1) := by decide +kernel
theorem dLw_1610 : decode code 1610 = .ok (.invokevirtual 201, 3) := by decide +kernel
theorem dLw_1613 : decode code 1613 = .ok (.aload_n 2, 1) := by decide +kernel
theorem dLw_1614 : decode code 1614 = .ok (.invokevirtual 204, 3) := by decide +kernel
theorem dLw_1617 : decode code 1617 = .ok (.if_icmp .eq 136, 3) := by decide +kernel
theorem dLw_1620 : decode code 1620 = .ok (.iconst 0, 1) := by decide +kernel
theorem dLw_1621 : decode code 1621 = .ok (.ireturn, 1) := by decide +kernel
theorem dLw_1622 : decode code 1622 = .ok (.aload_n 1, 1) := by decide +kernel
theorem dLw_1623 : decode code 1623 = .ok (.aload_n 0, 1) := by decide +kernel
theorem dLw_1624 : decode code 1624 = .ok (.iload 4, 2) := by decide +kernel
theorem dLw_1626 : decode code 1626 = .ok (.iconst 1, 1) := by decide +kernel
theorem dLw_1627 : decode code 1627 = .ok (.iadd, 1) := by decide +kernel
theorem dLw_1628 : decode code 1628 = .ok (.iaload, 1) := by decide +kernel
theorem dLw_1629 : decode code 1629 = .ok (.invokevirtual 205, 3) := by decide +kernel
theorem dLw_1632 : decode code 1632 = .ok (.aload_n 2, 1) := by decide +kernel
theorem dLw_1633 : decode code 1633 = .ok (.aload_n 0, 1) := by decide +kernel
theorem dLw_1634 : decode code 1634 = .ok (.iload 4, 2) := by decide +kernel
theorem dLw_1636 : decode code 1636 = .ok (.iconst 1, 1) := by decide +kernel
theorem dLw_1637 : decode code 1637 = .ok (.iadd, 1) := by decide +kernel
theorem dLw_1638 : decode code 1638 = .ok (.iaload, 1) := by decide +kernel
theorem dLw_1639 : decode code 1639 = .ok (.invokevirtual 208, 3) := by decide +kernel
theorem dLw_1642 : decode code 1642 = .ok (.if_icmp .eq 111, 3) := by decide +kernel
theorem dLw_1645 : decode code 1645 = .ok (.iconst 0, 1) := by decide +kernel
theorem dLw_1646 : decode code 1646 = .ok (.ireturn, 1) := by decide +kernel
theorem dLw_1647 : decode code 1647 = .ok (.aload_n 1, 1) := by decide +kernel
theorem dLw_1648 : decode code 1648 = .ok (.aload_n 0, 1) := by decide +kernel
theorem dLw_1649 : decode code 1649 = .ok (.iload 4, 2) := by decide +kernel
theorem dLw_1651 : decode code 1651 = .ok (.iconst 1, 1) := by decide +kernel
theorem dLw_1652 : decode code 1652 = .ok (.iadd, 1) := by decide +kernel
theorem dLw_1653 : decode code 1653 = .ok (.iaload, 1) := by decide +kernel
theorem dLw_1654 : decode code 1654 = .ok (.invokevirtual 209, 3) := by decide +kernel
theorem dLw_1657 : decode code 1657 = .ok (.aload_n 2, 1) := by decide +kernel
theorem dLw_1658 : decode code 1658 = .ok (.aload_n 0, 1) := by decide +kernel
theorem dLw_1659 : decode code 1659 = .ok (.iload 4, 2) := by decide +kernel
theorem dLw_1661 : decode code 1661 = .ok (.iconst 1, 1) := by decide +kernel
theorem dLw_1662 : decode code 1662 = .ok (.iadd, 1) := by decide +kernel
theorem dLw_1663 : decode code 1663 = .ok (.iaload, 1) := by decide +kernel
theorem dLw_1664 : decode code 1664 = .ok (.invokevirtual 212, 3) := by decide +kernel
theorem dLw_1667 : decode code 1667 = .ok (.if_icmp .eq 86, 3) := by decide +kernel
theorem dLw_1670 : decode code 1670 = .ok (.iconst 0, 1) := by decide +kernel
theorem dLw_1671 : decode code 1671 = .ok (.ireturn, 1) := by decide +kernel
theorem dLw_1672 : decode code 1672 = .ok (.aload_n 1, 1) := by decide +kernel
theorem dLw_1673 : decode code 1673 = .ok (.aload_n 0, 1) := by decide +kernel
theorem dLw_1674 : decode code 1674 = .ok (.iload 4, 2) := by decide +kernel
theorem dLw_1676 : decode code 1676 = .ok (.iconst 1, 1) := by decide +kernel
theorem dLw_1677 : decode code 1677 = .ok (.iadd, 1) := by decide +kernel
theorem dLw_1678 : decode code 1678 = .ok (.iaload, 1) := by decide +kernel
theorem dLw_1679 : decode code 1679 = .ok (.invokevirtual 213, 3) := by decide +kernel
theorem dLw_1682 : decode code 1682 = .ok (.aload_n 2, 1) := by decide +kernel
theorem dLw_1683 : decode code 1683 = .ok (.aload_n 0, 1) := by decide +kernel
theorem dLw_1684 : decode code 1684 = .ok (.iload 4, 2) := by decide +kernel
theorem dLw_1686 : decode code 1686 = .ok (.iconst 1, 1) := by decide +kernel
theorem dLw_1687 : decode code 1687 = .ok (.iadd, 1) := by decide +kernel
theorem dLw_1688 : decode code 1688 = .ok (.iaload, 1) := by decide +kernel
theorem dLw_1689 : decode code 1689 = .ok (.invokevirtual 216, 3) := by decide +kernel
theorem dLw_1692 : decode code 1692 = .ok (.if_icmp .eq 61, 3) := by decide +kernel
theorem dLw_1695 : decode code 1695 = .ok (.iconst 0, 1) := by decide +kernel
theorem dLw_1696 : decode code 1696 = .ok (.ireturn, 1) := by decide +kernel
theorem dLw_1697 : decode code 1697 = .ok (.aload_n 1, 1) := by decide +kernel
theorem dLw_1698 : decode code 1698 = .ok (.aload_n 0, 1) := by decide +kernel
theorem dLw_1699 : decode code 1699 = .ok (.iload 4, 2) := by decide +kernel
theorem dLw_1701 : decode code 1701 = .ok (.iconst 1, 1) := by decide +kernel
theorem dLw_1702 : decode code 1702 = .ok (.iadd, 1) := by decide +kernel
theorem dLw_1703 : decode code 1703 = .ok (.iaload, 1) := by decide +kernel
theorem dLw_1704 : decode code 1704 = .ok (.aload_n 3, 1) := by decide +kernel
theorem dLw_1705 : decode code 1705 = .ok (.invokestatic 217, 3) := by decide +kernel
theorem dLw_1708 : decode code 1708 = .ok (.istore 5, 2) := by decide +kernel
theorem dLw_1710 : decode code 1710 = .ok (.aload_n 2, 1) := by decide +kernel
theorem dLw_1711 : decode code 1711 = .ok (.aload_n 0, 1) := by decide +kernel
theorem dLw_1712 : decode code 1712 = .ok (.iload 4, 2) := by decide +kernel
theorem dLw_1714 : decode code 1714 = .ok (.iconst 1, 1) := by decide +kernel
theorem dLw_1715 : decode code 1715 = .ok (.iadd, 1) := by decide +kernel
theorem dLw_1716 : decode code 1716 = .ok (.iaload, 1) := by decide +kernel
theorem dLw_1717 : decode code 1717 = .ok (.invokevirtual 220, 3) := by decide +kernel
theorem dLw_1720 : decode code 1720 = .ok (.istore 6, 2) := by decide +kernel
theorem dLw_1722 : decode code 1722 = .ok (.aload_n 2, 1) := by decide +kernel
theorem dLw_1723 : decode code 1723 = .ok (.invokevirtual 47, 3) := by decide +kernel
theorem dLw_1726 : decode code 1726 = .ok (.iload 5, 2) := by decide +kernel
theorem dLw_1728 : decode code 1728 = .ok (.if_icmp .eq 5, 3) := by decide +kernel
theorem dLw_1731 : decode code 1731 = .ok (.iconst 0, 1) := by decide +kernel
theorem dLw_1732 : decode code 1732 = .ok (.ireturn, 1) := by decide +kernel
theorem dLw_1733 : decode code 1733 = .ok (.iload 5, 2) := by decide +kernel
theorem dLw_1735 : decode code 1735 = .ok (.ifCond .ne 15, 3) := by decide +kernel
theorem dLw_1738 : decode code 1738 = .ok (.aload_n 3, 1) := by decide +kernel
theorem dLw_1739 : decode code 1739 = .ok (.iconst 0, 1) := by decide +kernel
theorem dLw_1740 : decode code 1740 = .ok (.laload, 1) := by decide +kernel
theorem dLw_1741 : decode code 1741 = .ok (.iload 6, 2) := by decide +kernel
theorem dLw_1743 : decode code 1743 = .ok (.i2l, 1) := by decide +kernel
theorem dLw_1744 : decode code 1744 = .ok (.lcmp, 1) := by decide +kernel
theorem dLw_1745 : decode code 1745 = .ok (.ifCond .eq 5, 3) := by decide +kernel
theorem dLw_1748 : decode code 1748 = .ok (.iconst 0, 1) := by decide +kernel
theorem dLw_1749 : decode code 1749 = .ok (.ireturn, 1) := by decide +kernel
theorem dLw_1750 : decode code 1750 = .ok (.goto 3, 3) := by decide +kernel
theorem dLw_1753 : decode code 1753 = .ok (.iinc 4 5, 3) := by decide +kernel
theorem dLw_1756 : decode code 1756 = .ok (.goto (-1733), 3) := by decide +kernel
theorem dLw_1759 : decode code 1759 = .ok (.iconst 1, 1) := by decide +kernel
theorem dLw_1760 : decode code 1760 = .ok (.ireturn, 1) := by decide +kernel
