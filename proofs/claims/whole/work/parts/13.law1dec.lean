/-! decode rows of the law (by program) -/
theorem d_L_0 : decode code 0 = .ok (.new 7, 3) := by decide +kernel
theorem d_L_3 : decode code 3 = .ok (.dup, 1) := by decide +kernel
theorem d_L_4 : decode code 4 = .ok (.invokespecial 9, 3) := by decide +kernel
theorem d_L_7 : decode code 7 = .ok (.astore_n 1, 1) := by decide +kernel
theorem d_L_8 : decode code 8 = .ok (.new 10, 3) := by decide +kernel
theorem d_L_11 : decode code 11 = .ok (.dup, 1) := by decide +kernel
theorem d_L_12 : decode code 12 = .ok (.invokespecial 12, 3) := by decide +kernel
theorem d_L_15 : decode code 15 = .ok (.astore_n 2, 1) := by decide +kernel
theorem d_L_16 : decode code 16 = .ok (.iconst 0, 1) := by decide +kernel
theorem d_L_17 : decode code 17 = .ok (.istore_n 3, 1) := by decide +kernel
theorem d_L_18 : decode code 18 = .ok (.iload_n 3, 1) := by decide +kernel
theorem d_L_19 : decode code 19 = .ok (.aload_n 0, 1) := by decide +kernel
theorem d_L_20 : decode code 20 = .ok (.arraylength, 1) := by decide +kernel
theorem d_L_21 : decode code 21 = .ok (.bipush 6, 2) := by decide +kernel
theorem d_L_23 : decode code 23 = .ok (.isub, 1) := by decide +kernel
theorem d_L_24 : decode code 24 = .ok (.if_icmp .gt 1675, 3) := by decide +kernel
theorem d_L_27 : decode code 27 = .ok (.aload_n 0, 1) := by decide +kernel
theorem d_L_28 : decode code 28 = .ok (.iload_n 3, 1) := by decide +kernel
theorem d_L_29 : decode code 29 = .ok (.iaload, 1) := by decide +kernel
theorem d_L_30 : decode code 30 = .ok (.bipush 63, 2) := by decide +kernel
theorem d_L_32 : decode code 32 = .ok (.iand, 1) := by decide +kernel
theorem d_L_33 : decode code 33 = .ok (.tableswitch 1660 0 47 #[207, 240, 283, 306, 369, 392, 441, 464, 507, 566, 599, 632, 681, 724, 747, 780, 829, 862, 895, 948, 971, 1030, 1053, 1096, 1109, 1132, 1155, 1178, 1191, 1214, 1247, 1270, 1283, 1306, 1349, 1392, 1425, 1438, 1461, 1474, 1523, 1546, 1559, 1573, 1587, 1610, 1623, 1646], 207) := by decide +kernel
theorem d_L_240 : decode code 240 = .ok (.aload_n 1, 1) := by decide +kernel
theorem d_L_241 : decode code 241 = .ok (.aload_n 0, 1) := by decide +kernel
theorem d_L_242 : decode code 242 = .ok (.iload_n 3, 1) := by decide +kernel
theorem d_L_243 : decode code 243 = .ok (.iconst 1, 1) := by decide +kernel
theorem d_L_244 : decode code 244 = .ok (.iadd, 1) := by decide +kernel
theorem d_L_245 : decode code 245 = .ok (.iaload, 1) := by decide +kernel
theorem d_L_246 : decode code 246 = .ok (.aload_n 0, 1) := by decide +kernel
theorem d_L_247 : decode code 247 = .ok (.iload_n 3, 1) := by decide +kernel
theorem d_L_248 : decode code 248 = .ok (.iconst 2, 1) := by decide +kernel
theorem d_L_249 : decode code 249 = .ok (.iadd, 1) := by decide +kernel
theorem d_L_250 : decode code 250 = .ok (.iaload, 1) := by decide +kernel
theorem d_L_251 : decode code 251 = .ok (.invokevirtual 13, 3) := by decide +kernel
theorem d_L_254 : decode code 254 = .ok (.aload_n 2, 1) := by decide +kernel
theorem d_L_255 : decode code 255 = .ok (.aload_n 0, 1) := by decide +kernel
theorem d_L_256 : decode code 256 = .ok (.iload_n 3, 1) := by decide +kernel
theorem d_L_257 : decode code 257 = .ok (.iconst 1, 1) := by decide +kernel
theorem d_L_258 : decode code 258 = .ok (.iadd, 1) := by decide +kernel
theorem d_L_259 : decode code 259 = .ok (.iaload, 1) := by decide +kernel
theorem d_L_260 : decode code 260 = .ok (.aload_n 0, 1) := by decide +kernel
theorem d_L_261 : decode code 261 = .ok (.iload_n 3, 1) := by decide +kernel
theorem d_L_262 : decode code 262 = .ok (.iconst 2, 1) := by decide +kernel
theorem d_L_263 : decode code 263 = .ok (.iadd, 1) := by decide +kernel
theorem d_L_264 : decode code 264 = .ok (.iaload, 1) := by decide +kernel
theorem d_L_265 : decode code 265 = .ok (.invokevirtual 17, 3) := by decide +kernel
theorem d_L_268 : decode code 268 = .ok (.if_icmp .eq 1425, 3) := by decide +kernel
theorem d_L_271 : decode code 271 = .ok (.iconst 0, 1) := by decide +kernel
theorem d_L_272 : decode code 272 = .ok (.ireturn, 1) := by decide +kernel
theorem d_L_273 : decode code 273 = .ok (.aload_n 1, 1) := by decide +kernel
theorem d_L_274 : decode code 274 = .ok (.aload_n 0, 1) := by decide +kernel
theorem d_L_275 : decode code 275 = .ok (.iload_n 3, 1) := by decide +kernel
theorem d_L_276 : decode code 276 = .ok (.iconst 1, 1) := by decide +kernel
theorem d_L_277 : decode code 277 = .ok (.iadd, 1) := by decide +kernel
theorem d_L_278 : decode code 278 = .ok (.iaload, 1) := by decide +kernel
theorem d_L_279 : decode code 279 = .ok (.aload_n 0, 1) := by decide +kernel
theorem d_L_280 : decode code 280 = .ok (.iload_n 3, 1) := by decide +kernel
theorem d_L_281 : decode code 281 = .ok (.iconst 2, 1) := by decide +kernel
theorem d_L_282 : decode code 282 = .ok (.iadd, 1) := by decide +kernel
theorem d_L_283 : decode code 283 = .ok (.iaload, 1) := by decide +kernel
theorem d_L_284 : decode code 284 = .ok (.aload_n 0, 1) := by decide +kernel
theorem d_L_285 : decode code 285 = .ok (.iload_n 3, 1) := by decide +kernel
theorem d_L_286 : decode code 286 = .ok (.iconst 3, 1) := by decide +kernel
theorem d_L_287 : decode code 287 = .ok (.iadd, 1) := by decide +kernel
theorem d_L_288 : decode code 288 = .ok (.iaload, 1) := by decide +kernel
theorem d_L_289 : decode code 289 = .ok (.invokevirtual 18, 3) := by decide +kernel
theorem d_L_292 : decode code 292 = .ok (.aload_n 2, 1) := by decide +kernel
theorem d_L_293 : decode code 293 = .ok (.aload_n 0, 1) := by decide +kernel
theorem d_L_294 : decode code 294 = .ok (.iload_n 3, 1) := by decide +kernel
theorem d_L_295 : decode code 295 = .ok (.iconst 1, 1) := by decide +kernel
theorem d_L_296 : decode code 296 = .ok (.iadd, 1) := by decide +kernel
theorem d_L_297 : decode code 297 = .ok (.iaload, 1) := by decide +kernel
theorem d_L_298 : decode code 298 = .ok (.aload_n 0, 1) := by decide +kernel
theorem d_L_299 : decode code 299 = .ok (.iload_n 3, 1) := by decide +kernel
theorem d_L_300 : decode code 300 = .ok (.iconst 2, 1) := by decide +kernel
theorem d_L_301 : decode code 301 = .ok (.iadd, 1) := by decide +kernel
theorem d_L_302 : decode code 302 = .ok (.iaload, 1) := by decide +kernel
theorem d_L_303 : decode code 303 = .ok (.aload_n 0, 1) := by decide +kernel
theorem d_L_304 : decode code 304 = .ok (.iload_n 3, 1) := by decide +kernel
theorem d_L_305 : decode code 305 = .ok (.iconst 3, 1) := by decide +kernel
theorem d_L_306 : decode code 306 = .ok (.iadd, 1) := by decide +kernel
theorem d_L_307 : decode code 307 = .ok (.iaload, 1) := by decide +kernel
theorem d_L_308 : decode code 308 = .ok (.invokevirtual 22, 3) := by decide +kernel
theorem d_L_311 : decode code 311 = .ok (.if_icmp .eq 1382, 3) := by decide +kernel
theorem d_L_314 : decode code 314 = .ok (.iconst 0, 1) := by decide +kernel
theorem d_L_315 : decode code 315 = .ok (.ireturn, 1) := by decide +kernel
theorem d_L_316 : decode code 316 = .ok (.aload_n 1, 1) := by decide +kernel
theorem d_L_317 : decode code 317 = .ok (.aload_n 0, 1) := by decide +kernel
theorem d_L_318 : decode code 318 = .ok (.iload_n 3, 1) := by decide +kernel
theorem d_L_319 : decode code 319 = .ok (.iconst 1, 1) := by decide +kernel
theorem d_L_320 : decode code 320 = .ok (.iadd, 1) := by decide +kernel
theorem d_L_321 : decode code 321 = .ok (.iaload, 1) := by decide +kernel
theorem d_L_322 : decode code 322 = .ok (.invokevirtual 23, 3) := by decide +kernel
theorem d_L_325 : decode code 325 = .ok (.aload_n 2, 1) := by decide +kernel
theorem d_L_326 : decode code 326 = .ok (.aload_n 0, 1) := by decide +kernel
theorem d_L_327 : decode code 327 = .ok (.iload_n 3, 1) := by decide +kernel
theorem d_L_328 : decode code 328 = .ok (.iconst 1, 1) := by decide +kernel
theorem d_L_329 : decode code 329 = .ok (.iadd, 1) := by decide +kernel
theorem d_L_330 : decode code 330 = .ok (.iaload, 1) := by decide +kernel
theorem d_L_331 : decode code 331 = .ok (.invokevirtual 27, 3) := by decide +kernel
theorem d_L_334 : decode code 334 = .ok (.if_icmp .eq 1359, 3) := by decide +kernel
theorem d_L_337 : decode code 337 = .ok (.iconst 0, 1) := by decide +kernel
theorem d_L_338 : decode code 338 = .ok (.ireturn, 1) := by decide +kernel
theorem d_L_339 : decode code 339 = .ok (.aload_n 1, 1) := by decide +kernel
theorem d_L_340 : decode code 340 = .ok (.aload_n 0, 1) := by decide +kernel
theorem d_L_341 : decode code 341 = .ok (.iload_n 3, 1) := by decide +kernel
theorem d_L_342 : decode code 342 = .ok (.iconst 1, 1) := by decide +kernel
theorem d_L_343 : decode code 343 = .ok (.iadd, 1) := by decide +kernel
theorem d_L_344 : decode code 344 = .ok (.iaload, 1) := by decide +kernel
theorem d_L_345 : decode code 345 = .ok (.aload_n 0, 1) := by decide +kernel
theorem d_L_346 : decode code 346 = .ok (.iload_n 3, 1) := by decide +kernel
theorem d_L_347 : decode code 347 = .ok (.iconst 2, 1) := by decide +kernel
theorem d_L_348 : decode code 348 = .ok (.iadd, 1) := by decide +kernel
theorem d_L_349 : decode code 349 = .ok (.iaload, 1) := by decide +kernel
theorem d_L_350 : decode code 350 = .ok (.aload_n 0, 1) := by decide +kernel
theorem d_L_351 : decode code 351 = .ok (.iload_n 3, 1) := by decide +kernel
theorem d_L_352 : decode code 352 = .ok (.iconst 3, 1) := by decide +kernel
theorem d_L_353 : decode code 353 = .ok (.iadd, 1) := by decide +kernel
theorem d_L_354 : decode code 354 = .ok (.iaload, 1) := by decide +kernel
theorem d_L_355 : decode code 355 = .ok (.aload_n 0, 1) := by decide +kernel
theorem d_L_356 : decode code 356 = .ok (.iload_n 3, 1) := by decide +kernel
theorem d_L_357 : decode code 357 = .ok (.iconst 4, 1) := by decide +kernel
theorem d_L_358 : decode code 358 = .ok (.iadd, 1) := by decide +kernel
theorem d_L_359 : decode code 359 = .ok (.iaload, 1) := by decide +kernel
theorem d_L_360 : decode code 360 = .ok (.aload_n 0, 1) := by decide +kernel
theorem d_L_361 : decode code 361 = .ok (.iload_n 3, 1) := by decide +kernel
theorem d_L_362 : decode code 362 = .ok (.iconst 5, 1) := by decide +kernel
theorem d_L_363 : decode code 363 = .ok (.iadd, 1) := by decide +kernel
theorem d_L_364 : decode code 364 = .ok (.iaload, 1) := by decide +kernel
theorem d_L_365 : decode code 365 = .ok (.invokevirtual 28, 3) := by decide +kernel
theorem d_L_368 : decode code 368 = .ok (.aload_n 2, 1) := by decide +kernel
theorem d_L_369 : decode code 369 = .ok (.aload_n 0, 1) := by decide +kernel
theorem d_L_370 : decode code 370 = .ok (.iload_n 3, 1) := by decide +kernel
theorem d_L_371 : decode code 371 = .ok (.iconst 1, 1) := by decide +kernel
theorem d_L_372 : decode code 372 = .ok (.iadd, 1) := by decide +kernel
theorem d_L_373 : decode code 373 = .ok (.iaload, 1) := by decide +kernel
theorem d_L_374 : decode code 374 = .ok (.aload_n 0, 1) := by decide +kernel
theorem d_L_375 : decode code 375 = .ok (.iload_n 3, 1) := by decide +kernel
theorem d_L_376 : decode code 376 = .ok (.iconst 2, 1) := by decide +kernel
theorem d_L_377 : decode code 377 = .ok (.iadd, 1) := by decide +kernel
theorem d_L_378 : decode code 378 = .ok (.iaload, 1) := by decide +kernel
theorem d_L_379 : decode code 379 = .ok (.aload_n 0, 1) := by decide +kernel
theorem d_L_380 : decode code 380 = .ok (.iload_n 3, 1) := by decide +kernel
theorem d_L_381 : decode code 381 = .ok (.iconst 3, 1) := by decide +kernel
theorem d_L_382 : decode code 382 = .ok (.iadd, 1) := by decide +kernel
theorem d_L_383 : decode code 383 = .ok (.iaload, 1) := by decide +kernel
theorem d_L_384 : decode code 384 = .ok (.aload_n 0, 1) := by decide +kernel
theorem d_L_385 : decode code 385 = .ok (.iload_n 3, 1) := by decide +kernel
theorem d_L_386 : decode code 386 = .ok (.iconst 4, 1) := by decide +kernel
theorem d_L_387 : decode code 387 = .ok (.iadd, 1) := by decide +kernel
theorem d_L_388 : decode code 388 = .ok (.iaload, 1) := by decide +kernel
theorem d_L_389 : decode code 389 = .ok (.aload_n 0, 1) := by decide +kernel
theorem d_L_390 : decode code 390 = .ok (.iload_n 3, 1) := by decide +kernel
theorem d_L_391 : decode code 391 = .ok (.iconst 5, 1) := by decide +kernel
theorem d_L_392 : decode code 392 = .ok (.iadd, 1) := by decide +kernel
theorem d_L_393 : decode code 393 = .ok (.iaload, 1) := by decide +kernel
theorem d_L_394 : decode code 394 = .ok (.invokevirtual 32, 3) := by decide +kernel
theorem d_L_397 : decode code 397 = .ok (.if_icmp .eq 1296, 3) := by decide +kernel
theorem d_L_400 : decode code 400 = .ok (.iconst 0, 1) := by decide +kernel
theorem d_L_401 : decode code 401 = .ok (.ireturn, 1) := by decide +kernel
theorem d_L_402 : decode code 402 = .ok (.aload_n 1, 1) := by decide +kernel
theorem d_L_403 : decode code 403 = .ok (.aload_n 0, 1) := by decide +kernel
theorem d_L_404 : decode code 404 = .ok (.iload_n 3, 1) := by decide +kernel
theorem d_L_405 : decode code 405 = .ok (.iconst 1, 1) := by decide +kernel
theorem d_L_406 : decode code 406 = .ok (.iadd, 1) := by decide +kernel
theorem d_L_407 : decode code 407 = .ok (.iaload, 1) := by decide +kernel
theorem d_L_408 : decode code 408 = .ok (.invokevirtual 33, 3) := by decide +kernel
theorem d_L_411 : decode code 411 = .ok (.aload_n 2, 1) := by decide +kernel
theorem d_L_412 : decode code 412 = .ok (.aload_n 0, 1) := by decide +kernel
theorem d_L_413 : decode code 413 = .ok (.iload_n 3, 1) := by decide +kernel
theorem d_L_414 : decode code 414 = .ok (.iconst 1, 1) := by decide +kernel
theorem d_L_415 : decode code 415 = .ok (.iadd, 1) := by decide +kernel
theorem d_L_416 : decode code 416 = .ok (.iaload, 1) := by decide +kernel
theorem d_L_417 : decode code 417 = .ok (.invokevirtual 36, 3) := by decide +kernel
theorem d_L_420 : decode code 420 = .ok (.if_icmp .eq 1273, 3) := by decide +kernel
theorem d_L_423 : decode code 423 = .ok (.iconst 0, 1) := by decide +kernel
theorem d_L_424 : decode code 424 = .ok (.ireturn, 1) := by decide +kernel
theorem d_L_425 : decode code 425 = .ok (.aload_n 1, 1) := by decide +kernel
theorem d_L_426 : decode code 426 = .ok (.aload_n 0, 1) := by decide +kernel
theorem d_L_427 : decode code 427 = .ok (.iload_n 3, 1) := by decide +kernel
theorem d_L_428 : decode code 428 = .ok (.iconst 1, 1) := by decide +kernel
theorem d_L_429 : decode code 429 = .ok (.iadd, 1) := by decide +kernel
theorem d_L_430 : decode code 430 = .ok (.iaload, 1) := by decide +kernel
theorem d_L_431 : decode code 431 = .ok (.aload_n 0, 1) := by decide +kernel
theorem d_L_432 : decode code 432 = .ok (.iload_n 3, 1) := by decide +kernel
theorem d_L_433 : decode code 433 = .ok (.iconst 2, 1) := by decide +kernel
theorem d_L_434 : decode code 434 = .ok (.iadd, 1) := by decide +kernel
theorem d_L_435 : decode code 435 = .ok (.iaload, 1) := by decide +kernel
theorem d_L_436 : decode code 436 = .ok (.ifCond .eq 7, 3) := by decide +kernel
theorem d_L_439 : decode code 439 = .ok (.iconst 1, 1) := by decide +kernel
theorem d_L_440 : decode code 440 = .ok (.goto 4, 3) := by decide +kernel
theorem d_L_443 : decode code 443 = .ok (.iconst 0, 1) := by decide +kernel
theorem d_L_444 : decode code 444 = .ok (.invokevirtual 37, 3) := by decide +kernel
theorem d_L_447 : decode code 447 = .ok (.aload_n 2, 1) := by decide +kernel
theorem d_L_448 : decode code 448 = .ok (.aload_n 0, 1) := by decide +kernel
theorem d_L_449 : decode code 449 = .ok (.iload_n 3, 1) := by decide +kernel
theorem d_L_450 : decode code 450 = .ok (.iconst 1, 1) := by decide +kernel
theorem d_L_451 : decode code 451 = .ok (.iadd, 1) := by decide +kernel
theorem d_L_452 : decode code 452 = .ok (.iaload, 1) := by decide +kernel
theorem d_L_453 : decode code 453 = .ok (.aload_n 0, 1) := by decide +kernel
theorem d_L_454 : decode code 454 = .ok (.iload_n 3, 1) := by decide +kernel
theorem d_L_455 : decode code 455 = .ok (.iconst 2, 1) := by decide +kernel
theorem d_L_456 : decode code 456 = .ok (.iadd, 1) := by decide +kernel
theorem d_L_457 : decode code 457 = .ok (.iaload, 1) := by decide +kernel
theorem d_L_458 : decode code 458 = .ok (.ifCond .eq 7, 3) := by decide +kernel
theorem d_L_461 : decode code 461 = .ok (.iconst 1, 1) := by decide +kernel
theorem d_L_462 : decode code 462 = .ok (.goto 4, 3) := by decide +kernel
theorem d_L_465 : decode code 465 = .ok (.iconst 0, 1) := by decide +kernel
theorem d_L_466 : decode code 466 = .ok (.invokevirtual 41, 3) := by decide +kernel
theorem d_L_469 : decode code 469 = .ok (.if_icmp .eq 1224, 3) := by decide +kernel
theorem d_L_472 : decode code 472 = .ok (.iconst 0, 1) := by decide +kernel
theorem d_L_473 : decode code 473 = .ok (.ireturn, 1) := by decide +kernel
theorem d_L_474 : decode code 474 = .ok (.aload_n 1, 1) := by decide +kernel
theorem d_L_475 : decode code 475 = .ok (.aload_n 0, 1) := by decide +kernel
theorem d_L_476 : decode code 476 = .ok (.iload_n 3, 1) := by decide +kernel
theorem d_L_477 : decode code 477 = .ok (.iconst 1, 1) := by decide +kernel
theorem d_L_478 : decode code 478 = .ok (.iadd, 1) := by decide +kernel
theorem d_L_479 : decode code 479 = .ok (.iaload, 1) := by decide +kernel
theorem d_L_480 : decode code 480 = .ok (.invokevirtual 42, 3) := by decide +kernel
theorem d_L_483 : decode code 483 = .ok (.aload_n 2, 1) := by decide +kernel
theorem d_L_484 : decode code 484 = .ok (.aload_n 0, 1) := by decide +kernel
theorem d_L_485 : decode code 485 = .ok (.iload_n 3, 1) := by decide +kernel
theorem d_L_486 : decode code 486 = .ok (.iconst 1, 1) := by decide +kernel
theorem d_L_487 : decode code 487 = .ok (.iadd, 1) := by decide +kernel
theorem d_L_488 : decode code 488 = .ok (.iaload, 1) := by decide +kernel
theorem d_L_489 : decode code 489 = .ok (.invokevirtual 45, 3) := by decide +kernel
theorem d_L_492 : decode code 492 = .ok (.if_icmp .eq 1201, 3) := by decide +kernel
theorem d_L_495 : decode code 495 = .ok (.iconst 0, 1) := by decide +kernel
theorem d_L_496 : decode code 496 = .ok (.ireturn, 1) := by decide +kernel
theorem d_L_497 : decode code 497 = .ok (.aload_n 1, 1) := by decide +kernel
theorem d_L_498 : decode code 498 = .ok (.aload_n 0, 1) := by decide +kernel
theorem d_L_499 : decode code 499 = .ok (.iload_n 3, 1) := by decide +kernel
theorem d_L_500 : decode code 500 = .ok (.iconst 1, 1) := by decide +kernel
theorem d_L_501 : decode code 501 = .ok (.iadd, 1) := by decide +kernel
theorem d_L_502 : decode code 502 = .ok (.iaload, 1) := by decide +kernel
theorem d_L_503 : decode code 503 = .ok (.aload_n 0, 1) := by decide +kernel
theorem d_L_504 : decode code 504 = .ok (.iload_n 3, 1) := by decide +kernel
theorem d_L_505 : decode code 505 = .ok (.iconst 2, 1) := by decide +kernel
theorem d_L_506 : decode code 506 = .ok (.iadd, 1) := by decide +kernel
theorem d_L_507 : decode code 507 = .ok (.iaload, 1) := by decide +kernel
theorem d_L_508 : decode code 508 = .ok (.aload_n 0, 1) := by decide +kernel
theorem d_L_509 : decode code 509 = .ok (.iload_n 3, 1) := by decide +kernel
theorem d_L_510 : decode code 510 = .ok (.iconst 3, 1) := by decide +kernel
theorem d_L_511 : decode code 511 = .ok (.iadd, 1) := by decide +kernel
theorem d_L_512 : decode code 512 = .ok (.iaload, 1) := by decide +kernel
theorem d_L_513 : decode code 513 = .ok (.invokevirtual 46, 3) := by decide +kernel
theorem d_L_516 : decode code 516 = .ok (.aload_n 2, 1) := by decide +kernel
theorem d_L_517 : decode code 517 = .ok (.aload_n 0, 1) := by decide +kernel
theorem d_L_518 : decode code 518 = .ok (.iload_n 3, 1) := by decide +kernel
theorem d_L_519 : decode code 519 = .ok (.iconst 1, 1) := by decide +kernel
theorem d_L_520 : decode code 520 = .ok (.iadd, 1) := by decide +kernel
theorem d_L_521 : decode code 521 = .ok (.iaload, 1) := by decide +kernel
theorem d_L_522 : decode code 522 = .ok (.aload_n 0, 1) := by decide +kernel
theorem d_L_523 : decode code 523 = .ok (.iload_n 3, 1) := by decide +kernel
theorem d_L_524 : decode code 524 = .ok (.iconst 2, 1) := by decide +kernel
theorem d_L_525 : decode code 525 = .ok (.iadd, 1) := by decide +kernel
theorem d_L_526 : decode code 526 = .ok (.iaload, 1) := by decide +kernel
theorem d_L_527 : decode code 527 = .ok (.aload_n 0, 1) := by decide +kernel
theorem d_L_528 : decode code 528 = .ok (.iload_n 3, 1) := by decide +kernel
theorem d_L_529 : decode code 529 = .ok (.iconst 3, 1) := by decide +kernel
theorem d_L_530 : decode code 530 = .ok (.iadd, 1) := by decide +kernel
theorem d_L_531 : decode code 531 = .ok (.iaload, 1) := by decide +kernel
theorem d_L_532 : decode code 532 = .ok (.invokevirtual 49, 3) := by decide +kernel
theorem d_L_535 : decode code 535 = .ok (.if_icmp .eq 1158, 3) := by decide +kernel
theorem d_L_538 : decode code 538 = .ok (.iconst 0, 1) := by decide +kernel
theorem d_L_539 : decode code 539 = .ok (.ireturn, 1) := by decide +kernel
theorem d_L_540 : decode code 540 = .ok (.aload_n 1, 1) := by decide +kernel
theorem d_L_541 : decode code 541 = .ok (.aload_n 0, 1) := by decide +kernel
theorem d_L_542 : decode code 542 = .ok (.iload_n 3, 1) := by decide +kernel
theorem d_L_543 : decode code 543 = .ok (.iconst 1, 1) := by decide +kernel
theorem d_L_544 : decode code 544 = .ok (.iadd, 1) := by decide +kernel
theorem d_L_545 : decode code 545 = .ok (.iaload, 1) := by decide +kernel
theorem d_L_546 : decode code 546 = .ok (.aload_n 0, 1) := by decide +kernel
theorem d_L_547 : decode code 547 = .ok (.iload_n 3, 1) := by decide +kernel
theorem d_L_548 : decode code 548 = .ok (.iconst 2, 1) := by decide +kernel
theorem d_L_549 : decode code 549 = .ok (.iadd, 1) := by decide +kernel
theorem d_L_550 : decode code 550 = .ok (.iaload, 1) := by decide +kernel
theorem d_L_551 : decode code 551 = .ok (.aload_n 0, 1) := by decide +kernel
theorem d_L_552 : decode code 552 = .ok (.iload_n 3, 1) := by decide +kernel
theorem d_L_553 : decode code 553 = .ok (.iconst 3, 1) := by decide +kernel
theorem d_L_554 : decode code 554 = .ok (.iadd, 1) := by decide +kernel
theorem d_L_555 : decode code 555 = .ok (.iaload, 1) := by decide +kernel
theorem d_L_556 : decode code 556 = .ok (.ifCond .eq 7, 3) := by decide +kernel
theorem d_L_559 : decode code 559 = .ok (.iconst 1, 1) := by decide +kernel
theorem d_L_560 : decode code 560 = .ok (.goto 4, 3) := by decide +kernel
theorem d_L_563 : decode code 563 = .ok (.iconst 0, 1) := by decide +kernel
theorem d_L_564 : decode code 564 = .ok (.invokevirtual 50, 3) := by decide +kernel
theorem d_L_567 : decode code 567 = .ok (.aload_n 2, 1) := by decide +kernel
theorem d_L_568 : decode code 568 = .ok (.aload_n 0, 1) := by decide +kernel
theorem d_L_569 : decode code 569 = .ok (.iload_n 3, 1) := by decide +kernel
theorem d_L_570 : decode code 570 = .ok (.iconst 1, 1) := by decide +kernel
theorem d_L_571 : decode code 571 = .ok (.iadd, 1) := by decide +kernel
theorem d_L_572 : decode code 572 = .ok (.iaload, 1) := by decide +kernel
theorem d_L_573 : decode code 573 = .ok (.aload_n 0, 1) := by decide +kernel
theorem d_L_574 : decode code 574 = .ok (.iload_n 3, 1) := by decide +kernel
theorem d_L_575 : decode code 575 = .ok (.iconst 2, 1) := by decide +kernel
theorem d_L_576 : decode code 576 = .ok (.iadd, 1) := by decide +kernel
theorem d_L_577 : decode code 577 = .ok (.iaload, 1) := by decide +kernel
theorem d_L_578 : decode code 578 = .ok (.aload_n 0, 1) := by decide +kernel
theorem d_L_579 : decode code 579 = .ok (.iload_n 3, 1) := by decide +kernel
