theorem d_law_0 : decode code 0 = .ok (.new 8, 3) := by decide +kernel
theorem d_law_3 : decode code 3 = .ok (.dup, 1) := by decide +kernel
theorem d_law_4 : decode code 4 = .ok (.invokespecial 15, 3) := by decide +kernel
theorem d_law_7 : decode code 7 = .ok (.astore_n 1, 1) := by decide +kernel
theorem d_law_8 : decode code 8 = .ok (.new 16, 3) := by decide +kernel
theorem d_law_11 : decode code 11 = .ok (.dup, 1) := by decide +kernel
theorem d_law_12 : decode code 12 = .ok (.invokespecial 18, 3) := by decide +kernel
theorem d_law_15 : decode code 15 = .ok (.astore_n 2, 1) := by decide +kernel
theorem d_law_16 : decode code 16 = .ok (.iconst 1, 1) := by decide +kernel
theorem d_law_17 : decode code 17 = .ok (.newarray .long, 2) := by decide +kernel
theorem d_law_19 : decode code 19 = .ok (.astore_n 3, 1) := by decide +kernel
theorem d_law_20 : decode code 20 = .ok (.iconst 0, 1) := by decide +kernel
theorem d_law_21 : decode code 21 = .ok (.istore 4, 2) := by decide +kernel
theorem d_law_23 : decode code 23 = .ok (.iload 4, 2) := by decide +kernel
theorem d_law_25 : decode code 25 = .ok (.aload_n 0, 1) := by decide +kernel
theorem d_law_26 : decode code 26 = .ok (.arraylength, 1) := by decide +kernel
theorem d_law_27 : decode code 27 = .ok (.bipush 6, 2) := by decide +kernel
theorem d_law_29 : decode code 29 = .ok (.isub, 1) := by decide +kernel
theorem d_law_30 : decode code 30 = .ok (.if_icmp .gt 1573, 3) := by decide +kernel
theorem d_law_33 : decode code 33 = .ok (.aload_n 0, 1) := by decide +kernel
theorem d_law_34 : decode code 34 = .ok (.iload 4, 2) := by decide +kernel
theorem d_law_36 : decode code 36 = .ok (.iaload, 1) := by decide +kernel
theorem d_law_37 : decode code 37 = .ok (.bipush 63, 2) := by decide +kernel
theorem d_law_39 : decode code 39 = .ok (.iand, 1) := by decide +kernel
theorem d_law_40 : decode code 40 = .ok (.tableswitch 1557 0 37 #[168, 241, 266, 291, 316, 353, 390, 458, 495, 520, 545, 582, 619, 644, 681, 706, 775, 788, 825, 874, 911, 936, 1001, 1062, 1099, 1148, 1197, 1258, 1295, 1332, 1381, 1406, 1431, 1444, 1481, 1506, 1519, 1532], 168) := by decide +kernel
theorem d_law_208 : decode code 208 = .ok (.aload_n 1, 1) := by decide +kernel
theorem d_law_209 : decode code 209 = .ok (.aload_n 0, 1) := by decide +kernel
theorem d_law_210 : decode code 210 = .ok (.iload 4, 2) := by decide +kernel
theorem d_law_212 : decode code 212 = .ok (.iconst 1, 1) := by decide +kernel
theorem d_law_213 : decode code 213 = .ok (.iadd, 1) := by decide +kernel
theorem d_law_214 : decode code 214 = .ok (.iaload, 1) := by decide +kernel
theorem d_law_215 : decode code 215 = .ok (.aload_n 0, 1) := by decide +kernel
theorem d_law_216 : decode code 216 = .ok (.iload 4, 2) := by decide +kernel
theorem d_law_218 : decode code 218 = .ok (.iconst 2, 1) := by decide +kernel
theorem d_law_219 : decode code 219 = .ok (.iadd, 1) := by decide +kernel
theorem d_law_220 : decode code 220 = .ok (.iaload, 1) := by decide +kernel
theorem d_law_221 : decode code 221 = .ok (.aload_n 0, 1) := by decide +kernel
theorem d_law_222 : decode code 222 = .ok (.iload 4, 2) := by decide +kernel
theorem d_law_224 : decode code 224 = .ok (.iconst 3, 1) := by decide +kernel
theorem d_law_225 : decode code 225 = .ok (.iadd, 1) := by decide +kernel
theorem d_law_226 : decode code 226 = .ok (.iaload, 1) := by decide +kernel
theorem d_law_227 : decode code 227 = .ok (.aload_n 0, 1) := by decide +kernel
theorem d_law_228 : decode code 228 = .ok (.iload 4, 2) := by decide +kernel
theorem d_law_230 : decode code 230 = .ok (.iconst 4, 1) := by decide +kernel
theorem d_law_231 : decode code 231 = .ok (.iadd, 1) := by decide +kernel
theorem d_law_232 : decode code 232 = .ok (.iaload, 1) := by decide +kernel
theorem d_law_233 : decode code 233 = .ok (.aload_n 0, 1) := by decide +kernel
theorem d_law_234 : decode code 234 = .ok (.iload 4, 2) := by decide +kernel
theorem d_law_236 : decode code 236 = .ok (.iconst 5, 1) := by decide +kernel
theorem d_law_237 : decode code 237 = .ok (.iadd, 1) := by decide +kernel
theorem d_law_238 : decode code 238 = .ok (.iaload, 1) := by decide +kernel
theorem d_law_239 : decode code 239 = .ok (.invokevirtual 19, 3) := by decide +kernel
theorem d_law_242 : decode code 242 = .ok (.aload_n 2, 1) := by decide +kernel
theorem d_law_243 : decode code 243 = .ok (.aload_n 0, 1) := by decide +kernel
theorem d_law_244 : decode code 244 = .ok (.iload 4, 2) := by decide +kernel
theorem d_law_246 : decode code 246 = .ok (.iconst 1, 1) := by decide +kernel
theorem d_law_247 : decode code 247 = .ok (.iadd, 1) := by decide +kernel
theorem d_law_248 : decode code 248 = .ok (.iaload, 1) := by decide +kernel
theorem d_law_249 : decode code 249 = .ok (.aload_n 0, 1) := by decide +kernel
theorem d_law_250 : decode code 250 = .ok (.iload 4, 2) := by decide +kernel
theorem d_law_252 : decode code 252 = .ok (.iconst 2, 1) := by decide +kernel
theorem d_law_253 : decode code 253 = .ok (.iadd, 1) := by decide +kernel
theorem d_law_254 : decode code 254 = .ok (.iaload, 1) := by decide +kernel
theorem d_law_255 : decode code 255 = .ok (.aload_n 0, 1) := by decide +kernel
theorem d_law_256 : decode code 256 = .ok (.iload 4, 2) := by decide +kernel
theorem d_law_258 : decode code 258 = .ok (.iconst 3, 1) := by decide +kernel
theorem d_law_259 : decode code 259 = .ok (.iadd, 1) := by decide +kernel
theorem d_law_260 : decode code 260 = .ok (.iaload, 1) := by decide +kernel
theorem d_law_261 : decode code 261 = .ok (.aload_n 0, 1) := by decide +kernel
theorem d_law_262 : decode code 262 = .ok (.iload 4, 2) := by decide +kernel
theorem d_law_264 : decode code 264 = .ok (.iconst 4, 1) := by decide +kernel
theorem d_law_265 : decode code 265 = .ok (.iadd, 1) := by decide +kernel
theorem d_law_266 : decode code 266 = .ok (.iaload, 1) := by decide +kernel
theorem d_law_267 : decode code 267 = .ok (.aload_n 0, 1) := by decide +kernel
theorem d_law_268 : decode code 268 = .ok (.iload 4, 2) := by decide +kernel
theorem d_law_270 : decode code 270 = .ok (.iconst 5, 1) := by decide +kernel
theorem d_law_271 : decode code 271 = .ok (.iadd, 1) := by decide +kernel
theorem d_law_272 : decode code 272 = .ok (.iaload, 1) := by decide +kernel
theorem d_law_273 : decode code 273 = .ok (.invokevirtual 23, 3) := by decide +kernel
theorem d_law_276 : decode code 276 = .ok (.if_icmp .eq 1321, 3) := by decide +kernel
theorem d_law_279 : decode code 279 = .ok (.iconst 0, 1) := by decide +kernel
theorem d_law_280 : decode code 280 = .ok (.ireturn, 1) := by decide +kernel
theorem d_law_281 : decode code 281 = .ok (.aload_n 1, 1) := by decide +kernel
theorem d_law_282 : decode code 282 = .ok (.aload_n 0, 1) := by decide +kernel
theorem d_law_283 : decode code 283 = .ok (.iload 4, 2) := by decide +kernel
theorem d_law_285 : decode code 285 = .ok (.iconst 1, 1) := by decide +kernel
theorem d_law_286 : decode code 286 = .ok (.iadd, 1) := by decide +kernel
theorem d_law_287 : decode code 287 = .ok (.iaload, 1) := by decide +kernel
theorem d_law_288 : decode code 288 = .ok (.invokevirtual 24, 3) := by decide +kernel
theorem d_law_291 : decode code 291 = .ok (.aload_n 2, 1) := by decide +kernel
theorem d_law_292 : decode code 292 = .ok (.aload_n 0, 1) := by decide +kernel
theorem d_law_293 : decode code 293 = .ok (.iload 4, 2) := by decide +kernel
theorem d_law_295 : decode code 295 = .ok (.iconst 1, 1) := by decide +kernel
theorem d_law_296 : decode code 296 = .ok (.iadd, 1) := by decide +kernel
theorem d_law_297 : decode code 297 = .ok (.iaload, 1) := by decide +kernel
theorem d_law_298 : decode code 298 = .ok (.invokevirtual 28, 3) := by decide +kernel
theorem d_law_301 : decode code 301 = .ok (.if_icmp .eq 1296, 3) := by decide +kernel
theorem d_law_304 : decode code 304 = .ok (.iconst 0, 1) := by decide +kernel
theorem d_law_305 : decode code 305 = .ok (.ireturn, 1) := by decide +kernel
theorem d_law_306 : decode code 306 = .ok (.aload_n 1, 1) := by decide +kernel
theorem d_law_307 : decode code 307 = .ok (.aload_n 0, 1) := by decide +kernel
theorem d_law_308 : decode code 308 = .ok (.iload 4, 2) := by decide +kernel
theorem d_law_310 : decode code 310 = .ok (.iconst 1, 1) := by decide +kernel
theorem d_law_311 : decode code 311 = .ok (.iadd, 1) := by decide +kernel
theorem d_law_312 : decode code 312 = .ok (.iaload, 1) := by decide +kernel
theorem d_law_313 : decode code 313 = .ok (.invokevirtual 29, 3) := by decide +kernel
theorem d_law_316 : decode code 316 = .ok (.aload_n 2, 1) := by decide +kernel
theorem d_law_317 : decode code 317 = .ok (.aload_n 0, 1) := by decide +kernel
theorem d_law_318 : decode code 318 = .ok (.iload 4, 2) := by decide +kernel
theorem d_law_320 : decode code 320 = .ok (.iconst 1, 1) := by decide +kernel
theorem d_law_321 : decode code 321 = .ok (.iadd, 1) := by decide +kernel
theorem d_law_322 : decode code 322 = .ok (.iaload, 1) := by decide +kernel
theorem d_law_323 : decode code 323 = .ok (.invokevirtual 33, 3) := by decide +kernel
theorem d_law_326 : decode code 326 = .ok (.if_icmp .eq 1271, 3) := by decide +kernel
theorem d_law_329 : decode code 329 = .ok (.iconst 0, 1) := by decide +kernel
theorem d_law_330 : decode code 330 = .ok (.ireturn, 1) := by decide +kernel
theorem d_law_331 : decode code 331 = .ok (.aload_n 1, 1) := by decide +kernel
theorem d_law_332 : decode code 332 = .ok (.aload_n 0, 1) := by decide +kernel
theorem d_law_333 : decode code 333 = .ok (.iload 4, 2) := by decide +kernel
theorem d_law_335 : decode code 335 = .ok (.iconst 1, 1) := by decide +kernel
theorem d_law_336 : decode code 336 = .ok (.iadd, 1) := by decide +kernel
theorem d_law_337 : decode code 337 = .ok (.iaload, 1) := by decide +kernel
theorem d_law_338 : decode code 338 = .ok (.invokevirtual 34, 3) := by decide +kernel
theorem d_law_341 : decode code 341 = .ok (.aload_n 2, 1) := by decide +kernel
theorem d_law_342 : decode code 342 = .ok (.aload_n 0, 1) := by decide +kernel
theorem d_law_343 : decode code 343 = .ok (.iload 4, 2) := by decide +kernel
theorem d_law_345 : decode code 345 = .ok (.iconst 1, 1) := by decide +kernel
theorem d_law_346 : decode code 346 = .ok (.iadd, 1) := by decide +kernel
theorem d_law_347 : decode code 347 = .ok (.iaload, 1) := by decide +kernel
theorem d_law_348 : decode code 348 = .ok (.invokevirtual 37, 3) := by decide +kernel
theorem d_law_351 : decode code 351 = .ok (.if_icmp .eq 1246, 3) := by decide +kernel
theorem d_law_354 : decode code 354 = .ok (.iconst 0, 1) := by decide +kernel
theorem d_law_355 : decode code 355 = .ok (.ireturn, 1) := by decide +kernel
theorem d_law_356 : decode code 356 = .ok (.aload_n 1, 1) := by decide +kernel
theorem d_law_357 : decode code 357 = .ok (.aload_n 0, 1) := by decide +kernel
theorem d_law_358 : decode code 358 = .ok (.iload 4, 2) := by decide +kernel
theorem d_law_360 : decode code 360 = .ok (.iconst 1, 1) := by decide +kernel
theorem d_law_361 : decode code 361 = .ok (.iadd, 1) := by decide +kernel
theorem d_law_362 : decode code 362 = .ok (.iaload, 1) := by decide +kernel
theorem d_law_363 : decode code 363 = .ok (.aload_n 0, 1) := by decide +kernel
theorem d_law_364 : decode code 364 = .ok (.iload 4, 2) := by decide +kernel
theorem d_law_366 : decode code 366 = .ok (.iconst 2, 1) := by decide +kernel
theorem d_law_367 : decode code 367 = .ok (.iadd, 1) := by decide +kernel
theorem d_law_368 : decode code 368 = .ok (.iaload, 1) := by decide +kernel
theorem d_law_369 : decode code 369 = .ok (.invokevirtual 38, 3) := by decide +kernel
theorem d_law_372 : decode code 372 = .ok (.aload_n 2, 1) := by decide +kernel
theorem d_law_373 : decode code 373 = .ok (.aload_n 0, 1) := by decide +kernel
theorem d_law_374 : decode code 374 = .ok (.iload 4, 2) := by decide +kernel
theorem d_law_376 : decode code 376 = .ok (.iconst 1, 1) := by decide +kernel
theorem d_law_377 : decode code 377 = .ok (.iadd, 1) := by decide +kernel
theorem d_law_378 : decode code 378 = .ok (.iaload, 1) := by decide +kernel
theorem d_law_379 : decode code 379 = .ok (.aload_n 0, 1) := by decide +kernel
theorem d_law_380 : decode code 380 = .ok (.iload 4, 2) := by decide +kernel
theorem d_law_382 : decode code 382 = .ok (.iconst 2, 1) := by decide +kernel
theorem d_law_383 : decode code 383 = .ok (.iadd, 1) := by decide +kernel
theorem d_law_384 : decode code 384 = .ok (.iaload, 1) := by decide +kernel
theorem d_law_385 : decode code 385 = .ok (.invokevirtual 41, 3) := by decide +kernel
theorem d_law_388 : decode code 388 = .ok (.if_icmp .eq 1209, 3) := by decide +kernel
theorem d_law_391 : decode code 391 = .ok (.iconst 0, 1) := by decide +kernel
theorem d_law_392 : decode code 392 = .ok (.ireturn, 1) := by decide +kernel
theorem d_law_393 : decode code 393 = .ok (.aload_n 1, 1) := by decide +kernel
theorem d_law_394 : decode code 394 = .ok (.aload_n 0, 1) := by decide +kernel
theorem d_law_395 : decode code 395 = .ok (.iload 4, 2) := by decide +kernel
theorem d_law_397 : decode code 397 = .ok (.iconst 1, 1) := by decide +kernel
theorem d_law_398 : decode code 398 = .ok (.iadd, 1) := by decide +kernel
theorem d_law_399 : decode code 399 = .ok (.iaload, 1) := by decide +kernel
theorem d_law_400 : decode code 400 = .ok (.aload_n 0, 1) := by decide +kernel
theorem d_law_401 : decode code 401 = .ok (.iload 4, 2) := by decide +kernel
theorem d_law_403 : decode code 403 = .ok (.iconst 2, 1) := by decide +kernel
theorem d_law_404 : decode code 404 = .ok (.iadd, 1) := by decide +kernel
theorem d_law_405 : decode code 405 = .ok (.iaload, 1) := by decide +kernel
theorem d_law_406 : decode code 406 = .ok (.invokevirtual 42, 3) := by decide +kernel
theorem d_law_409 : decode code 409 = .ok (.aload_n 2, 1) := by decide +kernel
theorem d_law_410 : decode code 410 = .ok (.aload_n 0, 1) := by decide +kernel
theorem d_law_411 : decode code 411 = .ok (.iload 4, 2) := by decide +kernel
theorem d_law_413 : decode code 413 = .ok (.iconst 1, 1) := by decide +kernel
theorem d_law_414 : decode code 414 = .ok (.iadd, 1) := by decide +kernel
theorem d_law_415 : decode code 415 = .ok (.iaload, 1) := by decide +kernel
theorem d_law_416 : decode code 416 = .ok (.aload_n 0, 1) := by decide +kernel
theorem d_law_417 : decode code 417 = .ok (.iload 4, 2) := by decide +kernel
theorem d_law_419 : decode code 419 = .ok (.iconst 2, 1) := by decide +kernel
theorem d_law_420 : decode code 420 = .ok (.iadd, 1) := by decide +kernel
theorem d_law_421 : decode code 421 = .ok (.iaload, 1) := by decide +kernel
theorem d_law_422 : decode code 422 = .ok (.invokevirtual 45, 3) := by decide +kernel
theorem d_law_425 : decode code 425 = .ok (.if_icmp .eq 1172, 3) := by decide +kernel
theorem d_law_428 : decode code 428 = .ok (.iconst 0, 1) := by decide +kernel
theorem d_law_429 : decode code 429 = .ok (.ireturn, 1) := by decide +kernel
theorem d_law_430 : decode code 430 = .ok (.aload_n 1, 1) := by decide +kernel
theorem d_law_431 : decode code 431 = .ok (.aload_n 0, 1) := by decide +kernel
theorem d_law_432 : decode code 432 = .ok (.iload 4, 2) := by decide +kernel
theorem d_law_434 : decode code 434 = .ok (.iconst 1, 1) := by decide +kernel
theorem d_law_435 : decode code 435 = .ok (.iadd, 1) := by decide +kernel
theorem d_law_436 : decode code 436 = .ok (.iaload, 1) := by decide +kernel
theorem d_law_437 : decode code 437 = .ok (.aload_n 0, 1) := by decide +kernel
theorem d_law_438 : decode code 438 = .ok (.iload 4, 2) := by decide +kernel
theorem d_law_440 : decode code 440 = .ok (.iconst 2, 1) := by decide +kernel
theorem d_law_441 : decode code 441 = .ok (.iadd, 1) := by decide +kernel
theorem d_law_442 : decode code 442 = .ok (.iaload, 1) := by decide +kernel
theorem d_law_443 : decode code 443 = .ok (.aload_n 3, 1) := by decide +kernel
theorem d_law_444 : decode code 444 = .ok (.invokestatic 46, 3) := by decide +kernel
theorem d_law_447 : decode code 447 = .ok (.istore 5, 2) := by decide +kernel
theorem d_law_449 : decode code 449 = .ok (.aload_n 2, 1) := by decide +kernel
theorem d_law_450 : decode code 450 = .ok (.aload_n 0, 1) := by decide +kernel
theorem d_law_451 : decode code 451 = .ok (.iload 4, 2) := by decide +kernel
theorem d_law_453 : decode code 453 = .ok (.iconst 1, 1) := by decide +kernel
theorem d_law_454 : decode code 454 = .ok (.iadd, 1) := by decide +kernel
theorem d_law_455 : decode code 455 = .ok (.iaload, 1) := by decide +kernel
theorem d_law_456 : decode code 456 = .ok (.aload_n 0, 1) := by decide +kernel
theorem d_law_457 : decode code 457 = .ok (.iload 4, 2) := by decide +kernel
theorem d_law_459 : decode code 459 = .ok (.iconst 2, 1) := by decide +kernel
theorem d_law_460 : decode code 460 = .ok (.iadd, 1) := by decide +kernel
theorem d_law_461 : decode code 461 = .ok (.iaload, 1) := by decide +kernel
theorem d_law_462 : decode code 462 = .ok (.invokevirtual 51, 3) := by decide +kernel
theorem d_law_465 : decode code 465 = .ok (.istore 6, 2) := by decide +kernel
theorem d_law_467 : decode code 467 = .ok (.aload_n 2, 1) := by decide +kernel
theorem d_law_468 : decode code 468 = .ok (.invokevirtual 52, 3) := by decide +kernel
theorem d_law_471 : decode code 471 = .ok (.iload 5, 2) := by decide +kernel
theorem d_law_473 : decode code 473 = .ok (.if_icmp .eq 5, 3) := by decide +kernel
theorem d_law_476 : decode code 476 = .ok (.iconst 0, 1) := by decide +kernel
theorem d_law_477 : decode code 477 = .ok (.ireturn, 1) := by decide +kernel
theorem d_law_478 : decode code 478 = .ok (.iload 5, 2) := by decide +kernel
theorem d_law_480 : decode code 480 = .ok (.ifCond .ne 15, 3) := by decide +kernel
theorem d_law_483 : decode code 483 = .ok (.aload_n 3, 1) := by decide +kernel
theorem d_law_484 : decode code 484 = .ok (.iconst 0, 1) := by decide +kernel
theorem d_law_485 : decode code 485 = .ok (.laload, 1) := by decide +kernel
theorem d_law_486 : decode code 486 = .ok (.iload 6, 2) := by decide +kernel
theorem d_law_488 : decode code 488 = .ok (.i2l, 1) := by decide +kernel
theorem d_law_489 : decode code 489 = .ok (.lcmp, 1) := by decide +kernel
theorem d_law_490 : decode code 490 = .ok (.ifCond .eq 5, 3) := by decide +kernel
theorem d_law_493 : decode code 493 = .ok (.iconst 0, 1) := by decide +kernel
theorem d_law_494 : decode code 494 = .ok (.ireturn, 1) := by decide +kernel
theorem d_law_495 : decode code 495 = .ok (.goto 1102, 3) := by decide +kernel
theorem d_law_498 : decode code 498 = .ok (.aload_n 1, 1) := by decide +kernel
theorem d_law_499 : decode code 499 = .ok (.aload_n 0, 1) := by decide +kernel
theorem d_law_500 : decode code 500 = .ok (.iload 4, 2) := by decide +kernel
theorem d_law_502 : decode code 502 = .ok (.iconst 1, 1) := by decide +kernel
theorem d_law_503 : decode code 503 = .ok (.iadd, 1) := by decide +kernel
theorem d_law_504 : decode code 504 = .ok (.iaload, 1) := by decide +kernel
theorem d_law_505 : decode code 505 = .ok (.aload_n 0, 1) := by decide +kernel
theorem d_law_506 : decode code 506 = .ok (.iload 4, 2) := by decide +kernel
theorem d_law_508 : decode code 508 = .ok (.iconst 2, 1) := by decide +kernel
theorem d_law_509 : decode code 509 = .ok (.iadd, 1) := by decide +kernel
theorem d_law_510 : decode code 510 = .ok (.iaload, 1) := by decide +kernel
theorem d_law_511 : decode code 511 = .ok (.invokevirtual 56, 3) := by decide +kernel
theorem d_law_514 : decode code 514 = .ok (.aload_n 2, 1) := by decide +kernel
theorem d_law_515 : decode code 515 = .ok (.aload_n 0, 1) := by decide +kernel
theorem d_law_516 : decode code 516 = .ok (.iload 4, 2) := by decide +kernel
theorem d_law_518 : decode code 518 = .ok (.iconst 1, 1) := by decide +kernel
theorem d_law_519 : decode code 519 = .ok (.iadd, 1) := by decide +kernel
theorem d_law_520 : decode code 520 = .ok (.iaload, 1) := by decide +kernel
theorem d_law_521 : decode code 521 = .ok (.aload_n 0, 1) := by decide +kernel
theorem d_law_522 : decode code 522 = .ok (.iload 4, 2) := by decide +kernel
theorem d_law_524 : decode code 524 = .ok (.iconst 2, 1) := by decide +kernel
theorem d_law_525 : decode code 525 = .ok (.iadd, 1) := by decide +kernel
theorem d_law_526 : decode code 526 = .ok (.iaload, 1) := by decide +kernel
theorem d_law_527 : decode code 527 = .ok (.invokevirtual 59, 3) := by decide +kernel
theorem d_law_530 : decode code 530 = .ok (.if_icmp .eq 1067, 3) := by decide +kernel
theorem d_law_533 : decode code 533 = .ok (.iconst 0, 1) := by decide +kernel
theorem d_law_534 : decode code 534 = .ok (.ireturn, 1) := by decide +kernel
theorem d_law_535 : decode code 535 = .ok (.aload_n 1, 1) := by decide +kernel
theorem d_law_536 : decode code 536 = .ok (.aload_n 0, 1) := by decide +kernel
theorem d_law_537 : decode code 537 = .ok (.iload 4, 2) := by decide +kernel
theorem d_law_539 : decode code 539 = .ok (.iconst 1, 1) := by decide +kernel
theorem d_law_540 : decode code 540 = .ok (.iadd, 1) := by decide +kernel
theorem d_law_541 : decode code 541 = .ok (.iaload, 1) := by decide +kernel
theorem d_law_542 : decode code 542 = .ok (.invokevirtual 60, 3) := by decide +kernel
theorem d_law_545 : decode code 545 = .ok (.aload_n 2, 1) := by decide +kernel
theorem d_law_546 : decode code 546 = .ok (.aload_n 0, 1) := by decide +kernel
theorem d_law_547 : decode code 547 = .ok (.iload 4, 2) := by decide +kernel
theorem d_law_549 : decode code 549 = .ok (.iconst 1, 1) := by decide +kernel
theorem d_law_550 : decode code 550 = .ok (.iadd, 1) := by decide +kernel
theorem d_law_551 : decode code 551 = .ok (.iaload, 1) := by decide +kernel
theorem d_law_552 : decode code 552 = .ok (.invokevirtual 63, 3) := by decide +kernel
theorem d_law_555 : decode code 555 = .ok (.if_icmp .eq 1042, 3) := by decide +kernel
theorem d_law_558 : decode code 558 = .ok (.iconst 0, 1) := by decide +kernel
theorem d_law_559 : decode code 559 = .ok (.ireturn, 1) := by decide +kernel
theorem d_law_560 : decode code 560 = .ok (.aload_n 1, 1) := by decide +kernel
theorem d_law_561 : decode code 561 = .ok (.aload_n 0, 1) := by decide +kernel
theorem d_law_562 : decode code 562 = .ok (.iload 4, 2) := by decide +kernel
theorem d_law_564 : decode code 564 = .ok (.iconst 1, 1) := by decide +kernel
theorem d_law_565 : decode code 565 = .ok (.iadd, 1) := by decide +kernel
theorem d_law_566 : decode code 566 = .ok (.iaload, 1) := by decide +kernel
theorem d_law_567 : decode code 567 = .ok (.invokevirtual 64, 3) := by decide +kernel
theorem d_law_570 : decode code 570 = .ok (.aload_n 2, 1) := by decide +kernel
theorem d_law_571 : decode code 571 = .ok (.aload_n 0, 1) := by decide +kernel
theorem d_law_572 : decode code 572 = .ok (.iload 4, 2) := by decide +kernel
theorem d_law_574 : decode code 574 = .ok (.iconst 1, 1) := by decide +kernel
theorem d_law_575 : decode code 575 = .ok (.iadd, 1) := by decide +kernel
theorem d_law_576 : decode code 576 = .ok (.iaload, 1) := by decide +kernel
theorem d_law_577 : decode code 577 = .ok (.invokevirtual 67, 3) := by decide +kernel
theorem d_law_580 : decode code 580 = .ok (.if_icmp .eq 1017, 3) := by decide +kernel
theorem d_law_583 : decode code 583 = .ok (.iconst 0, 1) := by decide +kernel
theorem d_law_584 : decode code 584 = .ok (.ireturn, 1) := by decide +kernel
theorem d_law_585 : decode code 585 = .ok (.aload_n 1, 1) := by decide +kernel
theorem d_law_586 : decode code 586 = .ok (.aload_n 0, 1) := by decide +kernel
theorem d_law_587 : decode code 587 = .ok (.iload 4, 2) := by decide +kernel
theorem d_law_589 : decode code 589 = .ok (.iconst 1, 1) := by decide +kernel
theorem d_law_590 : decode code 590 = .ok (.iadd, 1) := by decide +kernel
theorem d_law_591 : decode code 591 = .ok (.iaload, 1) := by decide +kernel
theorem d_law_592 : decode code 592 = .ok (.aload_n 0, 1) := by decide +kernel
theorem d_law_593 : decode code 593 = .ok (.iload 4, 2) := by decide +kernel
theorem d_law_595 : decode code 595 = .ok (.iconst 2, 1) := by decide +kernel
theorem d_law_596 : decode code 596 = .ok (.iadd, 1) := by decide +kernel
theorem d_law_597 : decode code 597 = .ok (.iaload, 1) := by decide +kernel
theorem d_law_598 : decode code 598 = .ok (.invokevirtual 68, 3) := by decide +kernel
theorem d_law_601 : decode code 601 = .ok (.aload_n 2, 1) := by decide +kernel
theorem d_law_602 : decode code 602 = .ok (.aload_n 0, 1) := by decide +kernel
theorem d_law_603 : decode code 603 = .ok (.iload 4, 2) := by decide +kernel
theorem d_law_605 : decode code 605 = .ok (.iconst 1, 1) := by decide +kernel
theorem d_law_606 : decode code 606 = .ok (.iadd, 1) := by decide +kernel
theorem d_law_607 : decode code 607 = .ok (.iaload, 1) := by decide +kernel
theorem d_law_608 : decode code 608 = .ok (.aload_n 0, 1) := by decide +kernel
theorem d_law_609 : decode code 609 = .ok (.iload 4, 2) := by decide +kernel
theorem d_law_611 : decode code 611 = .ok (.iconst 2, 1) := by decide +kernel
theorem d_law_612 : decode code 612 = .ok (.iadd, 1) := by decide +kernel
theorem d_law_613 : decode code 613 = .ok (.iaload, 1) := by decide +kernel
theorem d_law_614 : decode code 614 = .ok (.invokevirtual 71, 3) := by decide +kernel
theorem d_law_617 : decode code 617 = .ok (.if_icmp .eq 980, 3) := by decide +kernel
theorem d_law_620 : decode code 620 = .ok (.iconst 0, 1) := by decide +kernel
theorem d_law_621 : decode code 621 = .ok (.ireturn, 1) := by decide +kernel
theorem d_law_622 : decode code 622 = .ok (.aload_n 1, 1) := by decide +kernel
theorem d_law_623 : decode code 623 = .ok (.aload_n 0, 1) := by decide +kernel
theorem d_law_624 : decode code 624 = .ok (.iload 4, 2) := by decide +kernel
theorem d_law_626 : decode code 626 = .ok (.iconst 1, 1) := by decide +kernel
theorem d_law_627 : decode code 627 = .ok (.iadd, 1) := by decide +kernel
theorem d_law_628 : decode code 628 = .ok (.iaload, 1) := by decide +kernel
theorem d_law_629 : decode code 629 = .ok (.aload_n 0, 1) := by decide +kernel
theorem d_law_630 : decode code 630 = .ok (.iload 4, 2) := by decide +kernel
theorem d_law_632 : decode code 632 = .ok (.iconst 2, 1) := by decide +kernel
theorem d_law_633 : decode code 633 = .ok (.iadd, 1) := by decide +kernel
theorem d_law_634 : decode code 634 = .ok (.iaload, 1) := by decide +kernel
theorem d_law_635 : decode code 635 = .ok (.invokevirtual 72, 3) := by decide +kernel
theorem d_law_638 : decode code 638 = .ok (.aload_n 2, 1) := by decide +kernel
theorem d_law_639 : decode code 639 = .ok (.aload_n 0, 1) := by decide +kernel
theorem d_law_640 : decode code 640 = .ok (.iload 4, 2) := by decide +kernel
theorem d_law_642 : decode code 642 = .ok (.iconst 1, 1) := by decide +kernel
theorem d_law_643 : decode code 643 = .ok (.iadd, 1) := by decide +kernel
theorem d_law_644 : decode code 644 = .ok (.iaload, 1) := by decide +kernel
theorem d_law_645 : decode code 645 = .ok (.aload_n 0, 1) := by decide +kernel
theorem d_law_646 : decode code 646 = .ok (.iload 4, 2) := by decide +kernel
theorem d_law_648 : decode code 648 = .ok (.iconst 2, 1) := by decide +kernel
theorem d_law_649 : decode code 649 = .ok (.iadd, 1) := by decide +kernel
theorem d_law_650 : decode code 650 = .ok (.iaload, 1) := by decide +kernel
theorem d_law_651 : decode code 651 = .ok (.invokevirtual 75, 3) := by decide +kernel
theorem d_law_654 : decode code 654 = .ok (.if_icmp .eq 943, 3) := by decide +kernel
theorem d_law_657 : decode code 657 = .ok (.iconst 0, 1) := by decide +kernel
theorem d_law_658 : decode code 658 = .ok (.ireturn, 1) := by decide +kernel
theorem d_law_659 : decode code 659 = .ok (.aload_n 1, 1) := by decide +kernel
theorem d_law_660 : decode code 660 = .ok (.aload_n 0, 1) := by decide +kernel
theorem d_law_661 : decode code 661 = .ok (.iload 4, 2) := by decide +kernel
theorem d_law_663 : decode code 663 = .ok (.iconst 1, 1) := by decide +kernel
theorem d_law_664 : decode code 664 = .ok (.iadd, 1) := by decide +kernel
theorem d_law_665 : decode code 665 = .ok (.iaload, 1) := by decide +kernel
theorem d_law_666 : decode code 666 = .ok (.invokevirtual 76, 3) := by decide +kernel
theorem d_law_669 : decode code 669 = .ok (.aload_n 2, 1) := by decide +kernel
theorem d_law_670 : decode code 670 = .ok (.aload_n 0, 1) := by decide +kernel
theorem d_law_671 : decode code 671 = .ok (.iload 4, 2) := by decide +kernel
theorem d_law_673 : decode code 673 = .ok (.iconst 1, 1) := by decide +kernel
theorem d_law_674 : decode code 674 = .ok (.iadd, 1) := by decide +kernel
theorem d_law_675 : decode code 675 = .ok (.iaload, 1) := by decide +kernel
theorem d_law_676 : decode code 676 = .ok (.invokevirtual 79, 3) := by decide +kernel
theorem d_law_679 : decode code 679 = .ok (.if_icmp .eq 918, 3) := by decide +kernel
theorem d_law_682 : decode code 682 = .ok (.iconst 0, 1) := by decide +kernel
theorem d_law_683 : decode code 683 = .ok (.ireturn, 1) := by decide +kernel
theorem d_law_684 : decode code 684 = .ok (.aload_n 1, 1) := by decide +kernel
theorem d_law_685 : decode code 685 = .ok (.aload_n 0, 1) := by decide +kernel
theorem d_law_686 : decode code 686 = .ok (.iload 4, 2) := by decide +kernel
theorem d_law_688 : decode code 688 = .ok (.iconst 1, 1) := by decide +kernel
theorem d_law_689 : decode code 689 = .ok (.iadd, 1) := by decide +kernel
theorem d_law_690 : decode code 690 = .ok (.iaload, 1) := by decide +kernel
theorem d_law_691 : decode code 691 = .ok (.aload_n 0, 1) := by decide +kernel
theorem d_law_692 : decode code 692 = .ok (.iload 4, 2) := by decide +kernel
theorem d_law_694 : decode code 694 = .ok (.iconst 2, 1) := by decide +kernel
theorem d_law_695 : decode code 695 = .ok (.iadd, 1) := by decide +kernel
theorem d_law_696 : decode code 696 = .ok (.iaload, 1) := by decide +kernel
theorem d_law_697 : decode code 697 = .ok (.invokevirtual 80, 3) := by decide +kernel
theorem d_law_700 : decode code 700 = .ok (.aload_n 2, 1) := by decide +kernel
theorem d_law_701 : decode code 701 = .ok (.aload_n 0, 1) := by decide +kernel
theorem d_law_702 : decode code 702 = .ok (.iload 4, 2) := by decide +kernel
theorem d_law_704 : decode code 704 = .ok (.iconst 1, 1) := by decide +kernel
theorem d_law_705 : decode code 705 = .ok (.iadd, 1) := by decide +kernel
theorem d_law_706 : decode code 706 = .ok (.iaload, 1) := by decide +kernel
theorem d_law_707 : decode code 707 = .ok (.aload_n 0, 1) := by decide +kernel
theorem d_law_708 : decode code 708 = .ok (.iload 4, 2) := by decide +kernel
theorem d_law_710 : decode code 710 = .ok (.iconst 2, 1) := by decide +kernel
theorem d_law_711 : decode code 711 = .ok (.iadd, 1) := by decide +kernel
theorem d_law_712 : decode code 712 = .ok (.iaload, 1) := by decide +kernel
theorem d_law_713 : decode code 713 = .ok (.invokevirtual 83, 3) := by decide +kernel
theorem d_law_716 : decode code 716 = .ok (.if_icmp .eq 881, 3) := by decide +kernel
theorem d_law_719 : decode code 719 = .ok (.iconst 0, 1) := by decide +kernel
theorem d_law_720 : decode code 720 = .ok (.ireturn, 1) := by decide +kernel
theorem d_law_721 : decode code 721 = .ok (.aload_n 1, 1) := by decide +kernel
theorem d_law_722 : decode code 722 = .ok (.aload_n 0, 1) := by decide +kernel
theorem d_law_723 : decode code 723 = .ok (.iload 4, 2) := by decide +kernel
theorem d_law_725 : decode code 725 = .ok (.iconst 1, 1) := by decide +kernel
theorem d_law_726 : decode code 726 = .ok (.iadd, 1) := by decide +kernel
theorem d_law_727 : decode code 727 = .ok (.iaload, 1) := by decide +kernel
theorem d_law_728 : decode code 728 = .ok (.invokevirtual 84, 3) := by decide +kernel
theorem d_law_731 : decode code 731 = .ok (.aload_n 2, 1) := by decide +kernel
theorem d_law_732 : decode code 732 = .ok (.aload_n 0, 1) := by decide +kernel
theorem d_law_733 : decode code 733 = .ok (.iload 4, 2) := by decide +kernel
theorem d_law_735 : decode code 735 = .ok (.iconst 1, 1) := by decide +kernel
theorem d_law_736 : decode code 736 = .ok (.iadd, 1) := by decide +kernel
theorem d_law_737 : decode code 737 = .ok (.iaload, 1) := by decide +kernel
theorem d_law_738 : decode code 738 = .ok (.invokevirtual 87, 3) := by decide +kernel
theorem d_law_741 : decode code 741 = .ok (.if_icmp .eq 856, 3) := by decide +kernel
theorem d_law_744 : decode code 744 = .ok (.iconst 0, 1) := by decide +kernel
theorem d_law_745 : decode code 745 = .ok (.ireturn, 1) := by decide +kernel
theorem d_law_746 : decode code 746 = .ok (.aload_n 1, 1) := by decide +kernel
theorem d_law_747 : decode code 747 = .ok (.aload_n 0, 1) := by decide +kernel
theorem d_law_748 : decode code 748 = .ok (.iload 4, 2) := by decide +kernel
theorem d_law_750 : decode code 750 = .ok (.iconst 1, 1) := by decide +kernel
theorem d_law_751 : decode code 751 = .ok (.iadd, 1) := by decide +kernel
theorem d_law_752 : decode code 752 = .ok (.iaload, 1) := by decide +kernel
theorem d_law_753 : decode code 753 = .ok (.aload_n 0, 1) := by decide +kernel
theorem d_law_754 : decode code 754 = .ok (.iload 4, 2) := by decide +kernel
theorem d_law_756 : decode code 756 = .ok (.iconst 2, 1) := by decide +kernel
theorem d_law_757 : decode code 757 = .ok (.iadd, 1) := by decide +kernel
theorem d_law_758 : decode code 758 = .ok (.iaload, 1) := by decide +kernel
theorem d_law_759 : decode code 759 = .ok (.i2l, 1) := by decide +kernel
theorem d_law_760 : decode code 760 = .ok (.bipush 32, 2) := by decide +kernel
theorem d_law_762 : decode code 762 = .ok (.lshl, 1) := by decide +kernel
theorem d_law_763 : decode code 763 = .ok (.aload_n 0, 1) := by decide +kernel
theorem d_law_764 : decode code 764 = .ok (.iload 4, 2) := by decide +kernel
theorem d_law_766 : decode code 766 = .ok (.iconst 3, 1) := by decide +kernel
theorem d_law_767 : decode code 767 = .ok (.iadd, 1) := by decide +kernel
theorem d_law_768 : decode code 768 = .ok (.iaload, 1) := by decide +kernel
theorem d_law_769 : decode code 769 = .ok (.i2l, 1) := by decide +kernel
theorem d_law_770 : decode code 770 = .ok (.ldc2_w 88, 3) := by decide +kernel
theorem d_law_773 : decode code 773 = .ok (.land, 1) := by decide +kernel
theorem d_law_774 : decode code 774 = .ok (.lor, 1) := by decide +kernel
theorem d_law_775 : decode code 775 = .ok (.invokevirtual 90, 3) := by decide +kernel
theorem d_law_778 : decode code 778 = .ok (.aload_n 2, 1) := by decide +kernel
theorem d_law_779 : decode code 779 = .ok (.aload_n 0, 1) := by decide +kernel
theorem d_law_780 : decode code 780 = .ok (.iload 4, 2) := by decide +kernel
theorem d_law_782 : decode code 782 = .ok (.iconst 1, 1) := by decide +kernel
theorem d_law_783 : decode code 783 = .ok (.iadd, 1) := by decide +kernel
theorem d_law_784 : decode code 784 = .ok (.iaload, 1) := by decide +kernel
theorem d_law_785 : decode code 785 = .ok (.aload_n 0, 1) := by decide +kernel
theorem d_law_786 : decode code 786 = .ok (.iload 4, 2) := by decide +kernel
theorem d_law_788 : decode code 788 = .ok (.iconst 2, 1) := by decide +kernel
theorem d_law_789 : decode code 789 = .ok (.iadd, 1) := by decide +kernel
theorem d_law_790 : decode code 790 = .ok (.iaload, 1) := by decide +kernel
theorem d_law_791 : decode code 791 = .ok (.i2l, 1) := by decide +kernel
theorem d_law_792 : decode code 792 = .ok (.bipush 32, 2) := by decide +kernel
theorem d_law_794 : decode code 794 = .ok (.lshl, 1) := by decide +kernel
theorem d_law_795 : decode code 795 = .ok (.aload_n 0, 1) := by decide +kernel
theorem d_law_796 : decode code 796 = .ok (.iload 4, 2) := by decide +kernel
theorem d_law_798 : decode code 798 = .ok (.iconst 3, 1) := by decide +kernel
theorem d_law_799 : decode code 799 = .ok (.iadd, 1) := by decide +kernel
theorem d_law_800 : decode code 800 = .ok (.iaload, 1) := by decide +kernel
theorem d_law_801 : decode code 801 = .ok (.i2l, 1) := by decide +kernel
theorem d_law_802 : decode code 802 = .ok (.ldc2_w 88, 3) := by decide +kernel
theorem d_law_805 : decode code 805 = .ok (.land, 1) := by decide +kernel
theorem d_law_806 : decode code 806 = .ok (.lor, 1) := by decide +kernel
theorem d_law_807 : decode code 807 = .ok (.invokevirtual 94, 3) := by decide +kernel
theorem d_law_810 : decode code 810 = .ok (.if_icmp .eq 787, 3) := by decide +kernel
theorem d_law_813 : decode code 813 = .ok (.iconst 0, 1) := by decide +kernel
theorem d_law_814 : decode code 814 = .ok (.ireturn, 1) := by decide +kernel
theorem d_law_815 : decode code 815 = .ok (.aload_n 1, 1) := by decide +kernel
theorem d_law_816 : decode code 816 = .ok (.invokevirtual 95, 3) := by decide +kernel
theorem d_law_819 : decode code 819 = .ok (.aload_n 2, 1) := by decide +kernel
theorem d_law_820 : decode code 820 = .ok (.invokevirtual 98, 3) := by decide +kernel
theorem d_law_823 : decode code 823 = .ok (.if_icmp .eq 774, 3) := by decide +kernel
theorem d_law_826 : decode code 826 = .ok (.iconst 0, 1) := by decide +kernel
theorem d_law_827 : decode code 827 = .ok (.ireturn, 1) := by decide +kernel
theorem d_law_828 : decode code 828 = .ok (.aload_n 1, 1) := by decide +kernel
theorem d_law_829 : decode code 829 = .ok (.aload_n 0, 1) := by decide +kernel
theorem d_law_830 : decode code 830 = .ok (.iload 4, 2) := by decide +kernel
theorem d_law_832 : decode code 832 = .ok (.iconst 1, 1) := by decide +kernel
theorem d_law_833 : decode code 833 = .ok (.iadd, 1) := by decide +kernel
theorem d_law_834 : decode code 834 = .ok (.iaload, 1) := by decide +kernel
theorem d_law_835 : decode code 835 = .ok (.aload_n 0, 1) := by decide +kernel
theorem d_law_836 : decode code 836 = .ok (.iload 4, 2) := by decide +kernel
theorem d_law_838 : decode code 838 = .ok (.iconst 2, 1) := by decide +kernel
theorem d_law_839 : decode code 839 = .ok (.iadd, 1) := by decide +kernel
theorem d_law_840 : decode code 840 = .ok (.iaload, 1) := by decide +kernel
theorem d_law_841 : decode code 841 = .ok (.invokevirtual 99, 3) := by decide +kernel
theorem d_law_844 : decode code 844 = .ok (.aload_n 2, 1) := by decide +kernel
theorem d_law_845 : decode code 845 = .ok (.aload_n 0, 1) := by decide +kernel
theorem d_law_846 : decode code 846 = .ok (.iload 4, 2) := by decide +kernel
theorem d_law_848 : decode code 848 = .ok (.iconst 1, 1) := by decide +kernel
theorem d_law_849 : decode code 849 = .ok (.iadd, 1) := by decide +kernel
theorem d_law_850 : decode code 850 = .ok (.iaload, 1) := by decide +kernel
theorem d_law_851 : decode code 851 = .ok (.aload_n 0, 1) := by decide +kernel
theorem d_law_852 : decode code 852 = .ok (.iload 4, 2) := by decide +kernel
theorem d_law_854 : decode code 854 = .ok (.iconst 2, 1) := by decide +kernel
theorem d_law_855 : decode code 855 = .ok (.iadd, 1) := by decide +kernel
theorem d_law_856 : decode code 856 = .ok (.iaload, 1) := by decide +kernel
theorem d_law_857 : decode code 857 = .ok (.invokevirtual 102, 3) := by decide +kernel
theorem d_law_860 : decode code 860 = .ok (.if_icmp .eq 737, 3) := by decide +kernel
theorem d_law_863 : decode code 863 = .ok (.iconst 0, 1) := by decide +kernel
theorem d_law_864 : decode code 864 = .ok (.ireturn, 1) := by decide +kernel
theorem d_law_865 : decode code 865 = .ok (.aload_n 1, 1) := by decide +kernel
theorem d_law_866 : decode code 866 = .ok (.aload_n 0, 1) := by decide +kernel
theorem d_law_867 : decode code 867 = .ok (.iload 4, 2) := by decide +kernel
theorem d_law_869 : decode code 869 = .ok (.iconst 1, 1) := by decide +kernel
theorem d_law_870 : decode code 870 = .ok (.iadd, 1) := by decide +kernel
theorem d_law_871 : decode code 871 = .ok (.iaload, 1) := by decide +kernel
theorem d_law_872 : decode code 872 = .ok (.aload_n 0, 1) := by decide +kernel
theorem d_law_873 : decode code 873 = .ok (.iload 4, 2) := by decide +kernel
theorem d_law_875 : decode code 875 = .ok (.iconst 2, 1) := by decide +kernel
theorem d_law_876 : decode code 876 = .ok (.iadd, 1) := by decide +kernel
theorem d_law_877 : decode code 877 = .ok (.iaload, 1) := by decide +kernel
theorem d_law_878 : decode code 878 = .ok (.aload_n 0, 1) := by decide +kernel
theorem d_law_879 : decode code 879 = .ok (.iload 4, 2) := by decide +kernel
theorem d_law_881 : decode code 881 = .ok (.iconst 3, 1) := by decide +kernel
theorem d_law_882 : decode code 882 = .ok (.iadd, 1) := by decide +kernel
theorem d_law_883 : decode code 883 = .ok (.iaload, 1) := by decide +kernel
theorem d_law_884 : decode code 884 = .ok (.invokevirtual 103, 3) := by decide +kernel
theorem d_law_887 : decode code 887 = .ok (.aload_n 2, 1) := by decide +kernel
theorem d_law_888 : decode code 888 = .ok (.aload_n 0, 1) := by decide +kernel
theorem d_law_889 : decode code 889 = .ok (.iload 4, 2) := by decide +kernel
theorem d_law_891 : decode code 891 = .ok (.iconst 1, 1) := by decide +kernel
theorem d_law_892 : decode code 892 = .ok (.iadd, 1) := by decide +kernel
theorem d_law_893 : decode code 893 = .ok (.iaload, 1) := by decide +kernel
theorem d_law_894 : decode code 894 = .ok (.aload_n 0, 1) := by decide +kernel
theorem d_law_895 : decode code 895 = .ok (.iload 4, 2) := by decide +kernel
theorem d_law_897 : decode code 897 = .ok (.iconst 2, 1) := by decide +kernel
theorem d_law_898 : decode code 898 = .ok (.iadd, 1) := by decide +kernel
theorem d_law_899 : decode code 899 = .ok (.iaload, 1) := by decide +kernel
theorem d_law_900 : decode code 900 = .ok (.aload_n 0, 1) := by decide +kernel
theorem d_law_901 : decode code 901 = .ok (.iload 4, 2) := by decide +kernel
theorem d_law_903 : decode code 903 = .ok (.iconst 3, 1) := by decide +kernel
theorem d_law_904 : decode code 904 = .ok (.iadd, 1) := by decide +kernel
theorem d_law_905 : decode code 905 = .ok (.iaload, 1) := by decide +kernel
theorem d_law_906 : decode code 906 = .ok (.invokevirtual 107, 3) := by decide +kernel
theorem d_law_909 : decode code 909 = .ok (.if_icmp .eq 688, 3) := by decide +kernel
theorem d_law_912 : decode code 912 = .ok (.iconst 0, 1) := by decide +kernel
theorem d_law_913 : decode code 913 = .ok (.ireturn, 1) := by decide +kernel
theorem d_law_914 : decode code 914 = .ok (.aload_n 1, 1) := by decide +kernel
theorem d_law_915 : decode code 915 = .ok (.aload_n 0, 1) := by decide +kernel
theorem d_law_916 : decode code 916 = .ok (.iload 4, 2) := by decide +kernel
theorem d_law_918 : decode code 918 = .ok (.iconst 1, 1) := by decide +kernel
theorem d_law_919 : decode code 919 = .ok (.iadd, 1) := by decide +kernel
theorem d_law_920 : decode code 920 = .ok (.iaload, 1) := by decide +kernel
theorem d_law_921 : decode code 921 = .ok (.aload_n 0, 1) := by decide +kernel
theorem d_law_922 : decode code 922 = .ok (.iload 4, 2) := by decide +kernel
theorem d_law_924 : decode code 924 = .ok (.iconst 2, 1) := by decide +kernel
theorem d_law_925 : decode code 925 = .ok (.iadd, 1) := by decide +kernel
theorem d_law_926 : decode code 926 = .ok (.iaload, 1) := by decide +kernel
theorem d_law_927 : decode code 927 = .ok (.invokevirtual 108, 3) := by decide +kernel
theorem d_law_930 : decode code 930 = .ok (.aload_n 2, 1) := by decide +kernel
theorem d_law_931 : decode code 931 = .ok (.aload_n 0, 1) := by decide +kernel
theorem d_law_932 : decode code 932 = .ok (.iload 4, 2) := by decide +kernel
theorem d_law_934 : decode code 934 = .ok (.iconst 1, 1) := by decide +kernel
theorem d_law_935 : decode code 935 = .ok (.iadd, 1) := by decide +kernel
theorem d_law_936 : decode code 936 = .ok (.iaload, 1) := by decide +kernel
theorem d_law_937 : decode code 937 = .ok (.aload_n 0, 1) := by decide +kernel
theorem d_law_938 : decode code 938 = .ok (.iload 4, 2) := by decide +kernel
theorem d_law_940 : decode code 940 = .ok (.iconst 2, 1) := by decide +kernel
theorem d_law_941 : decode code 941 = .ok (.iadd, 1) := by decide +kernel
theorem d_law_942 : decode code 942 = .ok (.iaload, 1) := by decide +kernel
theorem d_law_943 : decode code 943 = .ok (.invokevirtual 111, 3) := by decide +kernel
theorem d_law_946 : decode code 946 = .ok (.if_icmp .eq 651, 3) := by decide +kernel
theorem d_law_949 : decode code 949 = .ok (.iconst 0, 1) := by decide +kernel
theorem d_law_950 : decode code 950 = .ok (.ireturn, 1) := by decide +kernel
theorem d_law_951 : decode code 951 = .ok (.aload_n 1, 1) := by decide +kernel
theorem d_law_952 : decode code 952 = .ok (.aload_n 0, 1) := by decide +kernel
theorem d_law_953 : decode code 953 = .ok (.iload 4, 2) := by decide +kernel
theorem d_law_955 : decode code 955 = .ok (.iconst 1, 1) := by decide +kernel
theorem d_law_956 : decode code 956 = .ok (.iadd, 1) := by decide +kernel
theorem d_law_957 : decode code 957 = .ok (.iaload, 1) := by decide +kernel
theorem d_law_958 : decode code 958 = .ok (.invokevirtual 112, 3) := by decide +kernel
theorem d_law_961 : decode code 961 = .ok (.aload_n 2, 1) := by decide +kernel
theorem d_law_962 : decode code 962 = .ok (.aload_n 0, 1) := by decide +kernel
theorem d_law_963 : decode code 963 = .ok (.iload 4, 2) := by decide +kernel
theorem d_law_965 : decode code 965 = .ok (.iconst 1, 1) := by decide +kernel
theorem d_law_966 : decode code 966 = .ok (.iadd, 1) := by decide +kernel
theorem d_law_967 : decode code 967 = .ok (.iaload, 1) := by decide +kernel
theorem d_law_968 : decode code 968 = .ok (.invokevirtual 115, 3) := by decide +kernel
theorem d_law_971 : decode code 971 = .ok (.if_icmp .eq 626, 3) := by decide +kernel
theorem d_law_974 : decode code 974 = .ok (.iconst 0, 1) := by decide +kernel
theorem d_law_975 : decode code 975 = .ok (.ireturn, 1) := by decide +kernel
theorem d_law_976 : decode code 976 = .ok (.aload_n 1, 1) := by decide +kernel
theorem d_law_977 : decode code 977 = .ok (.aload_n 0, 1) := by decide +kernel
theorem d_law_978 : decode code 978 = .ok (.iload 4, 2) := by decide +kernel
theorem d_law_980 : decode code 980 = .ok (.iconst 1, 1) := by decide +kernel
theorem d_law_981 : decode code 981 = .ok (.iadd, 1) := by decide +kernel
theorem d_law_982 : decode code 982 = .ok (.iaload, 1) := by decide +kernel
theorem d_law_983 : decode code 983 = .ok (.aload_n 0, 1) := by decide +kernel
theorem d_law_984 : decode code 984 = .ok (.iload 4, 2) := by decide +kernel
theorem d_law_986 : decode code 986 = .ok (.iconst 2, 1) := by decide +kernel
theorem d_law_987 : decode code 987 = .ok (.iadd, 1) := by decide +kernel
theorem d_law_988 : decode code 988 = .ok (.iaload, 1) := by decide +kernel
theorem d_law_989 : decode code 989 = .ok (.aload_n 0, 1) := by decide +kernel
theorem d_law_990 : decode code 990 = .ok (.iload 4, 2) := by decide +kernel
theorem d_law_992 : decode code 992 = .ok (.iconst 3, 1) := by decide +kernel
theorem d_law_993 : decode code 993 = .ok (.iadd, 1) := by decide +kernel
theorem d_law_994 : decode code 994 = .ok (.iaload, 1) := by decide +kernel
theorem d_law_995 : decode code 995 = .ok (.ifCond .eq 7, 3) := by decide +kernel
theorem d_law_998 : decode code 998 = .ok (.iconst 1, 1) := by decide +kernel
theorem d_law_999 : decode code 999 = .ok (.goto 4, 3) := by decide +kernel
theorem d_law_1002 : decode code 1002 = .ok (.iconst 0, 1) := by decide +kernel
theorem d_law_1003 : decode code 1003 = .ok (.invokevirtual 116, 3) := by decide +kernel
theorem d_law_1006 : decode code 1006 = .ok (.aload_n 2, 1) := by decide +kernel
theorem d_law_1007 : decode code 1007 = .ok (.aload_n 0, 1) := by decide +kernel
theorem d_law_1008 : decode code 1008 = .ok (.iload 4, 2) := by decide +kernel
theorem d_law_1010 : decode code 1010 = .ok (.iconst 1, 1) := by decide +kernel
theorem d_law_1011 : decode code 1011 = .ok (.iadd, 1) := by decide +kernel
theorem d_law_1012 : decode code 1012 = .ok (.iaload, 1) := by decide +kernel
theorem d_law_1013 : decode code 1013 = .ok (.aload_n 0, 1) := by decide +kernel
theorem d_law_1014 : decode code 1014 = .ok (.iload 4, 2) := by decide +kernel
theorem d_law_1016 : decode code 1016 = .ok (.iconst 2, 1) := by decide +kernel
theorem d_law_1017 : decode code 1017 = .ok (.iadd, 1) := by decide +kernel
theorem d_law_1018 : decode code 1018 = .ok (.iaload, 1) := by decide +kernel
theorem d_law_1019 : decode code 1019 = .ok (.aload_n 0, 1) := by decide +kernel
theorem d_law_1020 : decode code 1020 = .ok (.iload 4, 2) := by decide +kernel
theorem d_law_1022 : decode code 1022 = .ok (.iconst 3, 1) := by decide +kernel
theorem d_law_1023 : decode code 1023 = .ok (.iadd, 1) := by decide +kernel
theorem d_law_1024 : decode code 1024 = .ok (.iaload, 1) := by decide +kernel
theorem d_law_1025 : decode code 1025 = .ok (.ifCond .eq 7, 3) := by decide +kernel
theorem d_law_1028 : decode code 1028 = .ok (.iconst 1, 1) := by decide +kernel
theorem d_law_1029 : decode code 1029 = .ok (.goto 4, 3) := by decide +kernel
theorem d_law_1032 : decode code 1032 = .ok (.iconst 0, 1) := by decide +kernel
theorem d_law_1033 : decode code 1033 = .ok (.invokevirtual 120, 3) := by decide +kernel
theorem d_law_1036 : decode code 1036 = .ok (.if_icmp .eq 561, 3) := by decide +kernel
theorem d_law_1039 : decode code 1039 = .ok (.iconst 0, 1) := by decide +kernel
theorem d_law_1040 : decode code 1040 = .ok (.ireturn, 1) := by decide +kernel
theorem d_law_1041 : decode code 1041 = .ok (.aload_n 1, 1) := by decide +kernel
theorem d_law_1042 : decode code 1042 = .ok (.aload_n 0, 1) := by decide +kernel
theorem d_law_1043 : decode code 1043 = .ok (.iload 4, 2) := by decide +kernel
theorem d_law_1045 : decode code 1045 = .ok (.iconst 1, 1) := by decide +kernel
theorem d_law_1046 : decode code 1046 = .ok (.iadd, 1) := by decide +kernel
theorem d_law_1047 : decode code 1047 = .ok (.iaload, 1) := by decide +kernel
theorem d_law_1048 : decode code 1048 = .ok (.aload_n 0, 1) := by decide +kernel
theorem d_law_1049 : decode code 1049 = .ok (.iload 4, 2) := by decide +kernel
theorem d_law_1051 : decode code 1051 = .ok (.iconst 2, 1) := by decide +kernel
theorem d_law_1052 : decode code 1052 = .ok (.iadd, 1) := by decide +kernel
theorem d_law_1053 : decode code 1053 = .ok (.iaload, 1) := by decide +kernel
theorem d_law_1054 : decode code 1054 = .ok (.aload_n 0, 1) := by decide +kernel
theorem d_law_1055 : decode code 1055 = .ok (.iload 4, 2) := by decide +kernel
theorem d_law_1057 : decode code 1057 = .ok (.iconst 3, 1) := by decide +kernel
theorem d_law_1058 : decode code 1058 = .ok (.iadd, 1) := by decide +kernel
theorem d_law_1059 : decode code 1059 = .ok (.iaload, 1) := by decide +kernel
theorem d_law_1060 : decode code 1060 = .ok (.aload_n 0, 1) := by decide +kernel
theorem d_law_1061 : decode code 1061 = .ok (.iload 4, 2) := by decide +kernel
theorem d_law_1063 : decode code 1063 = .ok (.iconst 4, 1) := by decide +kernel
theorem d_law_1064 : decode code 1064 = .ok (.iadd, 1) := by decide +kernel
theorem d_law_1065 : decode code 1065 = .ok (.iaload, 1) := by decide +kernel
theorem d_law_1066 : decode code 1066 = .ok (.invokevirtual 121, 3) := by decide +kernel
theorem d_law_1069 : decode code 1069 = .ok (.aload_n 2, 1) := by decide +kernel
theorem d_law_1070 : decode code 1070 = .ok (.aload_n 0, 1) := by decide +kernel
theorem d_law_1071 : decode code 1071 = .ok (.iload 4, 2) := by decide +kernel
theorem d_law_1073 : decode code 1073 = .ok (.iconst 1, 1) := by decide +kernel
theorem d_law_1074 : decode code 1074 = .ok (.iadd, 1) := by decide +kernel
theorem d_law_1075 : decode code 1075 = .ok (.iaload, 1) := by decide +kernel
theorem d_law_1076 : decode code 1076 = .ok (.aload_n 0, 1) := by decide +kernel
theorem d_law_1077 : decode code 1077 = .ok (.iload 4, 2) := by decide +kernel
theorem d_law_1079 : decode code 1079 = .ok (.iconst 2, 1) := by decide +kernel
theorem d_law_1080 : decode code 1080 = .ok (.iadd, 1) := by decide +kernel
theorem d_law_1081 : decode code 1081 = .ok (.iaload, 1) := by decide +kernel
theorem d_law_1082 : decode code 1082 = .ok (.aload_n 0, 1) := by decide +kernel
theorem d_law_1083 : decode code 1083 = .ok (.iload 4, 2) := by decide +kernel
theorem d_law_1085 : decode code 1085 = .ok (.iconst 3, 1) := by decide +kernel
theorem d_law_1086 : decode code 1086 = .ok (.iadd, 1) := by decide +kernel
theorem d_law_1087 : decode code 1087 = .ok (.iaload, 1) := by decide +kernel
theorem d_law_1088 : decode code 1088 = .ok (.aload_n 0, 1) := by decide +kernel
theorem d_law_1089 : decode code 1089 = .ok (.iload 4, 2) := by decide +kernel
theorem d_law_1091 : decode code 1091 = .ok (.iconst 4, 1) := by decide +kernel
theorem d_law_1092 : decode code 1092 = .ok (.iadd, 1) := by decide +kernel
theorem d_law_1093 : decode code 1093 = .ok (.iaload, 1) := by decide +kernel
theorem d_law_1094 : decode code 1094 = .ok (.invokevirtual 125, 3) := by decide +kernel
theorem d_law_1097 : decode code 1097 = .ok (.if_icmp .eq 500, 3) := by decide +kernel
theorem d_law_1100 : decode code 1100 = .ok (.iconst 0, 1) := by decide +kernel
theorem d_law_1101 : decode code 1101 = .ok (.ireturn, 1) := by decide +kernel
theorem d_law_1102 : decode code 1102 = .ok (.aload_n 1, 1) := by decide +kernel
theorem d_law_1103 : decode code 1103 = .ok (.aload_n 0, 1) := by decide +kernel
theorem d_law_1104 : decode code 1104 = .ok (.iload 4, 2) := by decide +kernel
theorem d_law_1106 : decode code 1106 = .ok (.iconst 1, 1) := by decide +kernel
theorem d_law_1107 : decode code 1107 = .ok (.iadd, 1) := by decide +kernel
theorem d_law_1108 : decode code 1108 = .ok (.iaload, 1) := by decide +kernel
theorem d_law_1109 : decode code 1109 = .ok (.aload_n 0, 1) := by decide +kernel
theorem d_law_1110 : decode code 1110 = .ok (.iload 4, 2) := by decide +kernel
theorem d_law_1112 : decode code 1112 = .ok (.iconst 2, 1) := by decide +kernel
theorem d_law_1113 : decode code 1113 = .ok (.iadd, 1) := by decide +kernel
theorem d_law_1114 : decode code 1114 = .ok (.iaload, 1) := by decide +kernel
theorem d_law_1115 : decode code 1115 = .ok (.invokevirtual 126, 3) := by decide +kernel
theorem d_law_1118 : decode code 1118 = .ok (.aload_n 2, 1) := by decide +kernel
theorem d_law_1119 : decode code 1119 = .ok (.aload_n 0, 1) := by decide +kernel
theorem d_law_1120 : decode code 1120 = .ok (.iload 4, 2) := by decide +kernel
theorem d_law_1122 : decode code 1122 = .ok (.iconst 1, 1) := by decide +kernel
theorem d_law_1123 : decode code 1123 = .ok (.iadd, 1) := by decide +kernel
theorem d_law_1124 : decode code 1124 = .ok (.iaload, 1) := by decide +kernel
theorem d_law_1125 : decode code 1125 = .ok (.aload_n 0, 1) := by decide +kernel
theorem d_law_1126 : decode code 1126 = .ok (.iload 4, 2) := by decide +kernel
theorem d_law_1128 : decode code 1128 = .ok (.iconst 2, 1) := by decide +kernel
theorem d_law_1129 : decode code 1129 = .ok (.iadd, 1) := by decide +kernel
theorem d_law_1130 : decode code 1130 = .ok (.iaload, 1) := by decide +kernel
theorem d_law_1131 : decode code 1131 = .ok (.invokevirtual 129, 3) := by decide +kernel
theorem d_law_1134 : decode code 1134 = .ok (.if_icmp .eq 463, 3) := by decide +kernel
theorem d_law_1137 : decode code 1137 = .ok (.iconst 0, 1) := by decide +kernel
theorem d_law_1138 : decode code 1138 = .ok (.ireturn, 1) := by decide +kernel
theorem d_law_1139 : decode code 1139 = .ok (.aload_n 1, 1) := by decide +kernel
theorem d_law_1140 : decode code 1140 = .ok (.aload_n 0, 1) := by decide +kernel
theorem d_law_1141 : decode code 1141 = .ok (.iload 4, 2) := by decide +kernel
theorem d_law_1143 : decode code 1143 = .ok (.iconst 1, 1) := by decide +kernel
theorem d_law_1144 : decode code 1144 = .ok (.iadd, 1) := by decide +kernel
theorem d_law_1145 : decode code 1145 = .ok (.iaload, 1) := by decide +kernel
theorem d_law_1146 : decode code 1146 = .ok (.aload_n 0, 1) := by decide +kernel
theorem d_law_1147 : decode code 1147 = .ok (.iload 4, 2) := by decide +kernel
theorem d_law_1149 : decode code 1149 = .ok (.iconst 2, 1) := by decide +kernel
theorem d_law_1150 : decode code 1150 = .ok (.iadd, 1) := by decide +kernel
theorem d_law_1151 : decode code 1151 = .ok (.iaload, 1) := by decide +kernel
theorem d_law_1152 : decode code 1152 = .ok (.aload_n 0, 1) := by decide +kernel
theorem d_law_1153 : decode code 1153 = .ok (.iload 4, 2) := by decide +kernel
theorem d_law_1155 : decode code 1155 = .ok (.iconst 3, 1) := by decide +kernel
theorem d_law_1156 : decode code 1156 = .ok (.iadd, 1) := by decide +kernel
theorem d_law_1157 : decode code 1157 = .ok (.iaload, 1) := by decide +kernel
theorem d_law_1158 : decode code 1158 = .ok (.invokevirtual 130, 3) := by decide +kernel
theorem d_law_1161 : decode code 1161 = .ok (.aload_n 2, 1) := by decide +kernel
theorem d_law_1162 : decode code 1162 = .ok (.aload_n 0, 1) := by decide +kernel
theorem d_law_1163 : decode code 1163 = .ok (.iload 4, 2) := by decide +kernel
theorem d_law_1165 : decode code 1165 = .ok (.iconst 1, 1) := by decide +kernel
theorem d_law_1166 : decode code 1166 = .ok (.iadd, 1) := by decide +kernel
theorem d_law_1167 : decode code 1167 = .ok (.iaload, 1) := by decide +kernel
theorem d_law_1168 : decode code 1168 = .ok (.aload_n 0, 1) := by decide +kernel
theorem d_law_1169 : decode code 1169 = .ok (.iload 4, 2) := by decide +kernel
theorem d_law_1171 : decode code 1171 = .ok (.iconst 2, 1) := by decide +kernel
theorem d_law_1172 : decode code 1172 = .ok (.iadd, 1) := by decide +kernel
theorem d_law_1173 : decode code 1173 = .ok (.iaload, 1) := by decide +kernel
theorem d_law_1174 : decode code 1174 = .ok (.aload_n 0, 1) := by decide +kernel
theorem d_law_1175 : decode code 1175 = .ok (.iload 4, 2) := by decide +kernel
theorem d_law_1177 : decode code 1177 = .ok (.iconst 3, 1) := by decide +kernel
theorem d_law_1178 : decode code 1178 = .ok (.iadd, 1) := by decide +kernel
theorem d_law_1179 : decode code 1179 = .ok (.iaload, 1) := by decide +kernel
theorem d_law_1180 : decode code 1180 = .ok (.invokevirtual 133, 3) := by decide +kernel
theorem d_law_1183 : decode code 1183 = .ok (.if_icmp .eq 414, 3) := by decide +kernel
theorem d_law_1186 : decode code 1186 = .ok (.iconst 0, 1) := by decide +kernel
theorem d_law_1187 : decode code 1187 = .ok (.ireturn, 1) := by decide +kernel
theorem d_law_1188 : decode code 1188 = .ok (.aload_n 1, 1) := by decide +kernel
theorem d_law_1189 : decode code 1189 = .ok (.aload_n 0, 1) := by decide +kernel
theorem d_law_1190 : decode code 1190 = .ok (.iload 4, 2) := by decide +kernel
theorem d_law_1192 : decode code 1192 = .ok (.iconst 1, 1) := by decide +kernel
theorem d_law_1193 : decode code 1193 = .ok (.iadd, 1) := by decide +kernel
theorem d_law_1194 : decode code 1194 = .ok (.iaload, 1) := by decide +kernel
theorem d_law_1195 : decode code 1195 = .ok (.aload_n 0, 1) := by decide +kernel
theorem d_law_1196 : decode code 1196 = .ok (.iload 4, 2) := by decide +kernel
theorem d_law_1198 : decode code 1198 = .ok (.iconst 2, 1) := by decide +kernel
theorem d_law_1199 : decode code 1199 = .ok (.iadd, 1) := by decide +kernel
theorem d_law_1200 : decode code 1200 = .ok (.iaload, 1) := by decide +kernel
theorem d_law_1201 : decode code 1201 = .ok (.aload_n 0, 1) := by decide +kernel
theorem d_law_1202 : decode code 1202 = .ok (.iload 4, 2) := by decide +kernel
theorem d_law_1204 : decode code 1204 = .ok (.iconst 3, 1) := by decide +kernel
theorem d_law_1205 : decode code 1205 = .ok (.iadd, 1) := by decide +kernel
theorem d_law_1206 : decode code 1206 = .ok (.iaload, 1) := by decide +kernel
theorem d_law_1207 : decode code 1207 = .ok (.invokevirtual 134, 3) := by decide +kernel
theorem d_law_1210 : decode code 1210 = .ok (.aload_n 2, 1) := by decide +kernel
theorem d_law_1211 : decode code 1211 = .ok (.aload_n 0, 1) := by decide +kernel
theorem d_law_1212 : decode code 1212 = .ok (.iload 4, 2) := by decide +kernel
theorem d_law_1214 : decode code 1214 = .ok (.iconst 1, 1) := by decide +kernel
theorem d_law_1215 : decode code 1215 = .ok (.iadd, 1) := by decide +kernel
theorem d_law_1216 : decode code 1216 = .ok (.iaload, 1) := by decide +kernel
theorem d_law_1217 : decode code 1217 = .ok (.aload_n 0, 1) := by decide +kernel
theorem d_law_1218 : decode code 1218 = .ok (.iload 4, 2) := by decide +kernel
theorem d_law_1220 : decode code 1220 = .ok (.iconst 2, 1) := by decide +kernel
theorem d_law_1221 : decode code 1221 = .ok (.iadd, 1) := by decide +kernel
theorem d_law_1222 : decode code 1222 = .ok (.iaload, 1) := by decide +kernel
theorem d_law_1223 : decode code 1223 = .ok (.aload_n 0, 1) := by decide +kernel
theorem d_law_1224 : decode code 1224 = .ok (.iload 4, 2) := by decide +kernel
theorem d_law_1226 : decode code 1226 = .ok (.iconst 3, 1) := by decide +kernel
theorem d_law_1227 : decode code 1227 = .ok (.iadd, 1) := by decide +kernel
theorem d_law_1228 : decode code 1228 = .ok (.iaload, 1) := by decide +kernel
theorem d_law_1229 : decode code 1229 = .ok (.invokevirtual 137, 3) := by decide +kernel
theorem d_law_1232 : decode code 1232 = .ok (.if_icmp .eq 365, 3) := by decide +kernel
theorem d_law_1235 : decode code 1235 = .ok (.iconst 0, 1) := by decide +kernel
theorem d_law_1236 : decode code 1236 = .ok (.ireturn, 1) := by decide +kernel
theorem d_law_1237 : decode code 1237 = .ok (.aload_n 1, 1) := by decide +kernel
theorem d_law_1238 : decode code 1238 = .ok (.aload_n 0, 1) := by decide +kernel
theorem d_law_1239 : decode code 1239 = .ok (.iload 4, 2) := by decide +kernel
theorem d_law_1241 : decode code 1241 = .ok (.iconst 1, 1) := by decide +kernel
theorem d_law_1242 : decode code 1242 = .ok (.iadd, 1) := by decide +kernel
theorem d_law_1243 : decode code 1243 = .ok (.iaload, 1) := by decide +kernel
theorem d_law_1244 : decode code 1244 = .ok (.aload_n 0, 1) := by decide +kernel
theorem d_law_1245 : decode code 1245 = .ok (.iload 4, 2) := by decide +kernel
theorem d_law_1247 : decode code 1247 = .ok (.iconst 2, 1) := by decide +kernel
theorem d_law_1248 : decode code 1248 = .ok (.iadd, 1) := by decide +kernel
theorem d_law_1249 : decode code 1249 = .ok (.iaload, 1) := by decide +kernel
theorem d_law_1250 : decode code 1250 = .ok (.aload_n 0, 1) := by decide +kernel
theorem d_law_1251 : decode code 1251 = .ok (.iload 4, 2) := by decide +kernel
theorem d_law_1253 : decode code 1253 = .ok (.iconst 3, 1) := by decide +kernel
theorem d_law_1254 : decode code 1254 = .ok (.iadd, 1) := by decide +kernel
theorem d_law_1255 : decode code 1255 = .ok (.iaload, 1) := by decide +kernel
theorem d_law_1256 : decode code 1256 = .ok (.aload_n 0, 1) := by decide +kernel
theorem d_law_1257 : decode code 1257 = .ok (.iload 4, 2) := by decide +kernel
theorem d_law_1259 : decode code 1259 = .ok (.iconst 4, 1) := by decide +kernel
theorem d_law_1260 : decode code 1260 = .ok (.iadd, 1) := by decide +kernel
theorem d_law_1261 : decode code 1261 = .ok (.iaload, 1) := by decide +kernel
theorem d_law_1262 : decode code 1262 = .ok (.invokevirtual 138, 3) := by decide +kernel
theorem d_law_1265 : decode code 1265 = .ok (.aload_n 2, 1) := by decide +kernel
theorem d_law_1266 : decode code 1266 = .ok (.aload_n 0, 1) := by decide +kernel
theorem d_law_1267 : decode code 1267 = .ok (.iload 4, 2) := by decide +kernel
theorem d_law_1269 : decode code 1269 = .ok (.iconst 1, 1) := by decide +kernel
theorem d_law_1270 : decode code 1270 = .ok (.iadd, 1) := by decide +kernel
theorem d_law_1271 : decode code 1271 = .ok (.iaload, 1) := by decide +kernel
theorem d_law_1272 : decode code 1272 = .ok (.aload_n 0, 1) := by decide +kernel
theorem d_law_1273 : decode code 1273 = .ok (.iload 4, 2) := by decide +kernel
theorem d_law_1275 : decode code 1275 = .ok (.iconst 2, 1) := by decide +kernel
theorem d_law_1276 : decode code 1276 = .ok (.iadd, 1) := by decide +kernel
theorem d_law_1277 : decode code 1277 = .ok (.iaload, 1) := by decide +kernel
theorem d_law_1278 : decode code 1278 = .ok (.aload_n 0, 1) := by decide +kernel
theorem d_law_1279 : decode code 1279 = .ok (.iload 4, 2) := by decide +kernel
theorem d_law_1281 : decode code 1281 = .ok (.iconst 3, 1) := by decide +kernel
theorem d_law_1282 : decode code 1282 = .ok (.iadd, 1) := by decide +kernel
theorem d_law_1283 : decode code 1283 = .ok (.iaload, 1) := by decide +kernel
theorem d_law_1284 : decode code 1284 = .ok (.aload_n 0, 1) := by decide +kernel
theorem d_law_1285 : decode code 1285 = .ok (.iload 4, 2) := by decide +kernel
theorem d_law_1287 : decode code 1287 = .ok (.iconst 4, 1) := by decide +kernel
theorem d_law_1288 : decode code 1288 = .ok (.iadd, 1) := by decide +kernel
theorem d_law_1289 : decode code 1289 = .ok (.iaload, 1) := by decide +kernel
theorem d_law_1290 : decode code 1290 = .ok (.invokevirtual 141, 3) := by decide +kernel
theorem d_law_1293 : decode code 1293 = .ok (.if_icmp .eq 304, 3) := by decide +kernel
theorem d_law_1296 : decode code 1296 = .ok (.iconst 0, 1) := by decide +kernel
theorem d_law_1297 : decode code 1297 = .ok (.ireturn, 1) := by decide +kernel
theorem d_law_1298 : decode code 1298 = .ok (.aload_n 1, 1) := by decide +kernel
theorem d_law_1299 : decode code 1299 = .ok (.aload_n 0, 1) := by decide +kernel
theorem d_law_1300 : decode code 1300 = .ok (.iload 4, 2) := by decide +kernel
theorem d_law_1302 : decode code 1302 = .ok (.iconst 1, 1) := by decide +kernel
theorem d_law_1303 : decode code 1303 = .ok (.iadd, 1) := by decide +kernel
theorem d_law_1304 : decode code 1304 = .ok (.iaload, 1) := by decide +kernel
theorem d_law_1305 : decode code 1305 = .ok (.aload_n 0, 1) := by decide +kernel
theorem d_law_1306 : decode code 1306 = .ok (.iload 4, 2) := by decide +kernel
theorem d_law_1308 : decode code 1308 = .ok (.iconst 2, 1) := by decide +kernel
theorem d_law_1309 : decode code 1309 = .ok (.iadd, 1) := by decide +kernel
theorem d_law_1310 : decode code 1310 = .ok (.iaload, 1) := by decide +kernel
theorem d_law_1311 : decode code 1311 = .ok (.invokevirtual 142, 3) := by decide +kernel
theorem d_law_1314 : decode code 1314 = .ok (.aload_n 2, 1) := by decide +kernel
theorem d_law_1315 : decode code 1315 = .ok (.aload_n 0, 1) := by decide +kernel
theorem d_law_1316 : decode code 1316 = .ok (.iload 4, 2) := by decide +kernel
theorem d_law_1318 : decode code 1318 = .ok (.iconst 1, 1) := by decide +kernel
theorem d_law_1319 : decode code 1319 = .ok (.iadd, 1) := by decide +kernel
theorem d_law_1320 : decode code 1320 = .ok (.iaload, 1) := by decide +kernel
theorem d_law_1321 : decode code 1321 = .ok (.aload_n 0, 1) := by decide +kernel
theorem d_law_1322 : decode code 1322 = .ok (.iload 4, 2) := by decide +kernel
theorem d_law_1324 : decode code 1324 = .ok (.iconst 2, 1) := by decide +kernel
theorem d_law_1325 : decode code 1325 = .ok (.iadd, 1) := by decide +kernel
theorem d_law_1326 : decode code 1326 = .ok (.iaload, 1) := by decide +kernel
theorem d_law_1327 : decode code 1327 = .ok (.invokevirtual 145, 3) := by decide +kernel
theorem d_law_1330 : decode code 1330 = .ok (.if_icmp .eq 267, 3) := by decide +kernel
theorem d_law_1333 : decode code 1333 = .ok (.iconst 0, 1) := by decide +kernel
theorem d_law_1334 : decode code 1334 = .ok (.ireturn, 1) := by decide +kernel
theorem d_law_1335 : decode code 1335 = .ok (.aload_n 1, 1) := by decide +kernel
theorem d_law_1336 : decode code 1336 = .ok (.aload_n 0, 1) := by decide +kernel
theorem d_law_1337 : decode code 1337 = .ok (.iload 4, 2) := by decide +kernel
theorem d_law_1339 : decode code 1339 = .ok (.iconst 1, 1) := by decide +kernel
theorem d_law_1340 : decode code 1340 = .ok (.iadd, 1) := by decide +kernel
theorem d_law_1341 : decode code 1341 = .ok (.iaload, 1) := by decide +kernel
theorem d_law_1342 : decode code 1342 = .ok (.aload_n 0, 1) := by decide +kernel
theorem d_law_1343 : decode code 1343 = .ok (.iload 4, 2) := by decide +kernel
theorem d_law_1345 : decode code 1345 = .ok (.iconst 2, 1) := by decide +kernel
theorem d_law_1346 : decode code 1346 = .ok (.iadd, 1) := by decide +kernel
theorem d_law_1347 : decode code 1347 = .ok (.iaload, 1) := by decide +kernel
theorem d_law_1348 : decode code 1348 = .ok (.invokevirtual 146, 3) := by decide +kernel
theorem d_law_1351 : decode code 1351 = .ok (.aload_n 2, 1) := by decide +kernel
theorem d_law_1352 : decode code 1352 = .ok (.aload_n 0, 1) := by decide +kernel
theorem d_law_1353 : decode code 1353 = .ok (.iload 4, 2) := by decide +kernel
theorem d_law_1355 : decode code 1355 = .ok (.iconst 1, 1) := by decide +kernel
theorem d_law_1356 : decode code 1356 = .ok (.iadd, 1) := by decide +kernel
theorem d_law_1357 : decode code 1357 = .ok (.iaload, 1) := by decide +kernel
theorem d_law_1358 : decode code 1358 = .ok (.aload_n 0, 1) := by decide +kernel
theorem d_law_1359 : decode code 1359 = .ok (.iload 4, 2) := by decide +kernel
theorem d_law_1361 : decode code 1361 = .ok (.iconst 2, 1) := by decide +kernel
theorem d_law_1362 : decode code 1362 = .ok (.iadd, 1) := by decide +kernel
theorem d_law_1363 : decode code 1363 = .ok (.iaload, 1) := by decide +kernel
theorem d_law_1364 : decode code 1364 = .ok (.invokevirtual 149, 3) := by decide +kernel
theorem d_law_1367 : decode code 1367 = .ok (.if_icmp .eq 230, 3) := by decide +kernel
theorem d_law_1370 : decode code 1370 = .ok (.iconst 0, 1) := by decide +kernel
theorem d_law_1371 : decode code 1371 = .ok (.ireturn, 1) := by decide +kernel
theorem d_law_1372 : decode code 1372 = .ok (.aload_n 1, 1) := by decide +kernel
theorem d_law_1373 : decode code 1373 = .ok (.aload_n 0, 1) := by decide +kernel
theorem d_law_1374 : decode code 1374 = .ok (.iload 4, 2) := by decide +kernel
theorem d_law_1376 : decode code 1376 = .ok (.iconst 1, 1) := by decide +kernel
theorem d_law_1377 : decode code 1377 = .ok (.iadd, 1) := by decide +kernel
theorem d_law_1378 : decode code 1378 = .ok (.iaload, 1) := by decide +kernel
theorem d_law_1379 : decode code 1379 = .ok (.aload_n 0, 1) := by decide +kernel
theorem d_law_1380 : decode code 1380 = .ok (.iload 4, 2) := by decide +kernel
theorem d_law_1382 : decode code 1382 = .ok (.iconst 2, 1) := by decide +kernel
theorem d_law_1383 : decode code 1383 = .ok (.iadd, 1) := by decide +kernel
theorem d_law_1384 : decode code 1384 = .ok (.iaload, 1) := by decide +kernel
theorem d_law_1385 : decode code 1385 = .ok (.aload_n 0, 1) := by decide +kernel
theorem d_law_1386 : decode code 1386 = .ok (.iload 4, 2) := by decide +kernel
theorem d_law_1388 : decode code 1388 = .ok (.iconst 3, 1) := by decide +kernel
theorem d_law_1389 : decode code 1389 = .ok (.iadd, 1) := by decide +kernel
theorem d_law_1390 : decode code 1390 = .ok (.iaload, 1) := by decide +kernel
theorem d_law_1391 : decode code 1391 = .ok (.invokevirtual 150, 3) := by decide +kernel
theorem d_law_1394 : decode code 1394 = .ok (.aload_n 2, 1) := by decide +kernel
theorem d_law_1395 : decode code 1395 = .ok (.aload_n 0, 1) := by decide +kernel
theorem d_law_1396 : decode code 1396 = .ok (.iload 4, 2) := by decide +kernel
theorem d_law_1398 : decode code 1398 = .ok (.iconst 1, 1) := by decide +kernel
theorem d_law_1399 : decode code 1399 = .ok (.iadd, 1) := by decide +kernel
theorem d_law_1400 : decode code 1400 = .ok (.iaload, 1) := by decide +kernel
theorem d_law_1401 : decode code 1401 = .ok (.aload_n 0, 1) := by decide +kernel
theorem d_law_1402 : decode code 1402 = .ok (.iload 4, 2) := by decide +kernel
theorem d_law_1404 : decode code 1404 = .ok (.iconst 2, 1) := by decide +kernel
theorem d_law_1405 : decode code 1405 = .ok (.iadd, 1) := by decide +kernel
theorem d_law_1406 : decode code 1406 = .ok (.iaload, 1) := by decide +kernel
theorem d_law_1407 : decode code 1407 = .ok (.aload_n 0, 1) := by decide +kernel
theorem d_law_1408 : decode code 1408 = .ok (.iload 4, 2) := by decide +kernel
theorem d_law_1410 : decode code 1410 = .ok (.iconst 3, 1) := by decide +kernel
theorem d_law_1411 : decode code 1411 = .ok (.iadd, 1) := by decide +kernel
theorem d_law_1412 : decode code 1412 = .ok (.iaload, 1) := by decide +kernel
theorem d_law_1413 : decode code 1413 = .ok (.invokevirtual 153, 3) := by decide +kernel
theorem d_law_1416 : decode code 1416 = .ok (.if_icmp .eq 181, 3) := by decide +kernel
theorem d_law_1419 : decode code 1419 = .ok (.iconst 0, 1) := by decide +kernel
theorem d_law_1420 : decode code 1420 = .ok (.ireturn, 1) := by decide +kernel
theorem d_law_1421 : decode code 1421 = .ok (.aload_n 1, 1) := by decide +kernel
theorem d_law_1422 : decode code 1422 = .ok (.aload_n 0, 1) := by decide +kernel
theorem d_law_1423 : decode code 1423 = .ok (.iload 4, 2) := by decide +kernel
theorem d_law_1425 : decode code 1425 = .ok (.iconst 1, 1) := by decide +kernel
theorem d_law_1426 : decode code 1426 = .ok (.iadd, 1) := by decide +kernel
theorem d_law_1427 : decode code 1427 = .ok (.iaload, 1) := by decide +kernel
theorem d_law_1428 : decode code 1428 = .ok (.invokevirtual 154, 3) := by decide +kernel
theorem d_law_1431 : decode code 1431 = .ok (.aload_n 2, 1) := by decide +kernel
theorem d_law_1432 : decode code 1432 = .ok (.aload_n 0, 1) := by decide +kernel
theorem d_law_1433 : decode code 1433 = .ok (.iload 4, 2) := by decide +kernel
theorem d_law_1435 : decode code 1435 = .ok (.iconst 1, 1) := by decide +kernel
theorem d_law_1436 : decode code 1436 = .ok (.iadd, 1) := by decide +kernel
theorem d_law_1437 : decode code 1437 = .ok (.iaload, 1) := by decide +kernel
theorem d_law_1438 : decode code 1438 = .ok (.invokevirtual 157, 3) := by decide +kernel
theorem d_law_1441 : decode code 1441 = .ok (.if_icmp .eq 156, 3) := by decide +kernel
theorem d_law_1444 : decode code 1444 = .ok (.iconst 0, 1) := by decide +kernel
theorem d_law_1445 : decode code 1445 = .ok (.ireturn, 1) := by decide +kernel
theorem d_law_1446 : decode code 1446 = .ok (.aload_n 1, 1) := by decide +kernel
theorem d_law_1447 : decode code 1447 = .ok (.aload_n 0, 1) := by decide +kernel
theorem d_law_1448 : decode code 1448 = .ok (.iload 4, 2) := by decide +kernel
theorem d_law_1450 : decode code 1450 = .ok (.iconst 1, 1) := by decide +kernel
theorem d_law_1451 : decode code 1451 = .ok (.iadd, 1) := by decide +kernel
theorem d_law_1452 : decode code 1452 = .ok (.iaload, 1) := by decide +kernel
theorem d_law_1453 : decode code 1453 = .ok (.invokevirtual 158, 3) := by decide +kernel
theorem d_law_1456 : decode code 1456 = .ok (.aload_n 2, 1) := by decide +kernel
theorem d_law_1457 : decode code 1457 = .ok (.aload_n 0, 1) := by decide +kernel
theorem d_law_1458 : decode code 1458 = .ok (.iload 4, 2) := by decide +kernel
theorem d_law_1460 : decode code 1460 = .ok (.iconst 1, 1) := by decide +kernel
theorem d_law_1461 : decode code 1461 = .ok (.iadd, 1) := by decide +kernel
theorem d_law_1462 : decode code 1462 = .ok (.iaload, 1) := by decide +kernel
theorem d_law_1463 : decode code 1463 = .ok (.invokevirtual 161, 3) := by decide +kernel
theorem d_law_1466 : decode code 1466 = .ok (.if_icmp .eq 131, 3) := by decide +kernel
theorem d_law_1469 : decode code 1469 = .ok (.iconst 0, 1) := by decide +kernel
theorem d_law_1470 : decode code 1470 = .ok (.ireturn, 1) := by decide +kernel
theorem d_law_1471 : decode code 1471 = .ok (.aload_n 1, 1) := by decide +kernel
theorem d_law_1472 : decode code 1472 = .ok (.invokevirtual 162, 3) := by decide +kernel
theorem d_law_1475 : decode code 1475 = .ok (.aload_n 2, 1) := by decide +kernel
theorem d_law_1476 : decode code 1476 = .ok (.invokevirtual 165, 3) := by decide +kernel
theorem d_law_1479 : decode code 1479 = .ok (.if_icmp .eq 118, 3) := by decide +kernel
theorem d_law_1482 : decode code 1482 = .ok (.iconst 0, 1) := by decide +kernel
theorem d_law_1483 : decode code 1483 = .ok (.ireturn, 1) := by decide +kernel
theorem d_law_1484 : decode code 1484 = .ok (.aload_n 1, 1) := by decide +kernel
theorem d_law_1485 : decode code 1485 = .ok (.aload_n 0, 1) := by decide +kernel
theorem d_law_1486 : decode code 1486 = .ok (.iload 4, 2) := by decide +kernel
theorem d_law_1488 : decode code 1488 = .ok (.iconst 1, 1) := by decide +kernel
theorem d_law_1489 : decode code 1489 = .ok (.iadd, 1) := by decide +kernel
theorem d_law_1490 : decode code 1490 = .ok (.iaload, 1) := by decide +kernel
theorem d_law_1491 : decode code 1491 = .ok (.aload_n 0, 1) := by decide +kernel
theorem d_law_1492 : decode code 1492 = .ok (.iload 4, 2) := by decide +kernel
theorem d_law_1494 : decode code 1494 = .ok (.iconst 2, 1) := by decide +kernel
theorem d_law_1495 : decode code 1495 = .ok (.iadd, 1) := by decide +kernel
theorem d_law_1496 : decode code 1496 = .ok (.iaload, 1) := by decide +kernel
theorem d_law_1497 : decode code 1497 = .ok (.invokevirtual 166, 3) := by decide +kernel
theorem d_law_1500 : decode code 1500 = .ok (.aload_n 2, 1) := by decide +kernel
theorem d_law_1501 : decode code 1501 = .ok (.aload_n 0, 1) := by decide +kernel
theorem d_law_1502 : decode code 1502 = .ok (.iload 4, 2) := by decide +kernel
theorem d_law_1504 : decode code 1504 = .ok (.iconst 1, 1) := by decide +kernel
theorem d_law_1505 : decode code 1505 = .ok (.iadd, 1) := by decide +kernel
theorem d_law_1506 : decode code 1506 = .ok (.iaload, 1) := by decide +kernel
theorem d_law_1507 : decode code 1507 = .ok (.aload_n 0, 1) := by decide +kernel
theorem d_law_1508 : decode code 1508 = .ok (.iload 4, 2) := by decide +kernel
theorem d_law_1510 : decode code 1510 = .ok (.iconst 2, 1) := by decide +kernel
theorem d_law_1511 : decode code 1511 = .ok (.iadd, 1) := by decide +kernel
theorem d_law_1512 : decode code 1512 = .ok (.iaload, 1) := by decide +kernel
theorem d_law_1513 : decode code 1513 = .ok (.invokevirtual 169, 3) := by decide +kernel
theorem d_law_1516 : decode code 1516 = .ok (.if_icmp .eq 81, 3) := by decide +kernel
theorem d_law_1519 : decode code 1519 = .ok (.iconst 0, 1) := by decide +kernel
theorem d_law_1520 : decode code 1520 = .ok (.ireturn, 1) := by decide +kernel
theorem d_law_1521 : decode code 1521 = .ok (.aload_n 1, 1) := by decide +kernel
theorem d_law_1522 : decode code 1522 = .ok (.aload_n 0, 1) := by decide +kernel
theorem d_law_1523 : decode code 1523 = .ok (.iload 4, 2) := by decide +kernel
theorem d_law_1525 : decode code 1525 = .ok (.iconst 1, 1) := by decide +kernel
theorem d_law_1526 : decode code 1526 = .ok (.iadd, 1) := by decide +kernel
theorem d_law_1527 : decode code 1527 = .ok (.iaload, 1) := by decide +kernel
theorem d_law_1528 : decode code 1528 = .ok (.invokevirtual 170, 3) := by decide +kernel
theorem d_law_1531 : decode code 1531 = .ok (.aload_n 2, 1) := by decide +kernel
theorem d_law_1532 : decode code 1532 = .ok (.aload_n 0, 1) := by decide +kernel
theorem d_law_1533 : decode code 1533 = .ok (.iload 4, 2) := by decide +kernel
theorem d_law_1535 : decode code 1535 = .ok (.iconst 1, 1) := by decide +kernel
theorem d_law_1536 : decode code 1536 = .ok (.iadd, 1) := by decide +kernel
theorem d_law_1537 : decode code 1537 = .ok (.iaload, 1) := by decide +kernel
theorem d_law_1538 : decode code 1538 = .ok (.invokevirtual 173, 3) := by decide +kernel
theorem d_law_1541 : decode code 1541 = .ok (.if_icmp .eq 56, 3) := by decide +kernel
theorem d_law_1544 : decode code 1544 = .ok (.iconst 0, 1) := by decide +kernel
theorem d_law_1545 : decode code 1545 = .ok (.ireturn, 1) := by decide +kernel
theorem d_law_1546 : decode code 1546 = .ok (.aload_n 1, 1) := by decide +kernel
theorem d_law_1547 : decode code 1547 = .ok (.invokevirtual 174, 3) := by decide +kernel
theorem d_law_1550 : decode code 1550 = .ok (.aload_n 2, 1) := by decide +kernel
theorem d_law_1551 : decode code 1551 = .ok (.invokevirtual 177, 3) := by decide +kernel
theorem d_law_1554 : decode code 1554 = .ok (.if_icmp .eq 43, 3) := by decide +kernel
theorem d_law_1557 : decode code 1557 = .ok (.iconst 0, 1) := by decide +kernel
theorem d_law_1558 : decode code 1558 = .ok (.ireturn, 1) := by decide +kernel
theorem d_law_1559 : decode code 1559 = .ok (.aload_n 1, 1) := by decide +kernel
theorem d_law_1560 : decode code 1560 = .ok (.invokevirtual 178, 3) := by decide +kernel
theorem d_law_1563 : decode code 1563 = .ok (.aload_n 2, 1) := by decide +kernel
theorem d_law_1564 : decode code 1564 = .ok (.invokevirtual 181, 3) := by decide +kernel
theorem d_law_1567 : decode code 1567 = .ok (.if_icmp .eq 30, 3) := by decide +kernel
theorem d_law_1570 : decode code 1570 = .ok (.iconst 0, 1) := by decide +kernel
theorem d_law_1571 : decode code 1571 = .ok (.ireturn, 1) := by decide +kernel
theorem d_law_1572 : decode code 1572 = .ok (.aload_n 1, 1) := by decide +kernel
theorem d_law_1573 : decode code 1573 = .ok (.aload_n 0, 1) := by decide +kernel
theorem d_law_1574 : decode code 1574 = .ok (.iload 4, 2) := by decide +kernel
theorem d_law_1576 : decode code 1576 = .ok (.iconst 1, 1) := by decide +kernel
theorem d_law_1577 : decode code 1577 = .ok (.iadd, 1) := by decide +kernel
theorem d_law_1578 : decode code 1578 = .ok (.iaload, 1) := by decide +kernel
theorem d_law_1579 : decode code 1579 = .ok (.invokevirtual 182, 3) := by decide +kernel
theorem d_law_1582 : decode code 1582 = .ok (.aload_n 2, 1) := by decide +kernel
theorem d_law_1583 : decode code 1583 = .ok (.aload_n 0, 1) := by decide +kernel
theorem d_law_1584 : decode code 1584 = .ok (.iload 4, 2) := by decide +kernel
theorem d_law_1586 : decode code 1586 = .ok (.iconst 1, 1) := by decide +kernel
theorem d_law_1587 : decode code 1587 = .ok (.iadd, 1) := by decide +kernel
theorem d_law_1588 : decode code 1588 = .ok (.iaload, 1) := by decide +kernel
theorem d_law_1589 : decode code 1589 = .ok (.invokevirtual 185, 3) := by decide +kernel
theorem d_law_1592 : decode code 1592 = .ok (.if_icmp .eq 5, 3) := by decide +kernel
theorem d_law_1595 : decode code 1595 = .ok (.iconst 0, 1) := by decide +kernel
theorem d_law_1596 : decode code 1596 = .ok (.ireturn, 1) := by decide +kernel
theorem d_law_1597 : decode code 1597 = .ok (.iinc 4 6, 3) := by decide +kernel
theorem d_law_1600 : decode code 1600 = .ok (.goto (-1577), 3) := by decide +kernel
theorem d_law_1603 : decode code 1603 = .ok (.iconst 1, 1) := by decide +kernel
theorem d_law_1604 : decode code 1604 = .ok (.ireturn, 1) := by decide +kernel
theorem q462 : Cond.methodLink R_law 19 yX11_feed ∈ sa_T := sa_at 462 (by decide +kernel) rfl
theorem q463 : Cond.instanceMethod yX11_feed ∈ sa_T := sa_at 463 (by decide +kernel) rfl
theorem q464 : Cond.selects RX11 yX11_feed yX11_feed ∈ sa_T := sa_at 464 (by decide +kernel) rfl
theorem q465 : Cond.code yX11_feed cX11_feed 7 (some .int) ∈ sa_T := sa_at 465 (by decide +kernel) rfl
theorem q473 : Cond.methodLink R_law 24 yX11_end ∈ sa_T := sa_at 473 (by decide +kernel) rfl
theorem q474 : Cond.instanceMethod yX11_end ∈ sa_T := sa_at 474 (by decide +kernel) rfl
theorem q475 : Cond.selects RX11 yX11_end yX11_end ∈ sa_T := sa_at 475 (by decide +kernel) rfl
theorem q476 : Cond.code yX11_end cX11_end 2 (some .boolean) ∈ sa_T := sa_at 476 (by decide +kernel) rfl
theorem q477 : Cond.methodLink R_law 29 yX11_fault ∈ sa_T := sa_at 477 (by decide +kernel) rfl
theorem q478 : Cond.instanceMethod yX11_fault ∈ sa_T := sa_at 478 (by decide +kernel) rfl
theorem q479 : Cond.selects RX11 yX11_fault yX11_fault ∈ sa_T := sa_at 479 (by decide +kernel) rfl
theorem q480 : Cond.code yX11_fault cX11_fault 2 (some .int) ∈ sa_T := sa_at 480 (by decide +kernel) rfl
theorem q726 : Cond.methodLink R_law 34 yX11_text ∈ sa_T := sa_at 726 (by decide +kernel) rfl
theorem q727 : Cond.instanceMethod yX11_text ∈ sa_T := sa_at 727 (by decide +kernel) rfl
theorem q728 : Cond.selects RX11 yX11_text yX11_text ∈ sa_T := sa_at 728 (by decide +kernel) rfl
theorem q729 : Cond.code yX11_text cX11_text 2 (some .int) ∈ sa_T := sa_at 729 (by decide +kernel) rfl
theorem q768 : Cond.methodLink R_law 38 yX11_spot ∈ sa_T := sa_at 768 (by decide +kernel) rfl
theorem q769 : Cond.instanceMethod yX11_spot ∈ sa_T := sa_at 769 (by decide +kernel) rfl
theorem q770 : Cond.selects RX11 yX11_spot yX11_spot ∈ sa_T := sa_at 770 (by decide +kernel) rfl
theorem q771 : Cond.code yX11_spot cX11_spot 3 (some .int) ∈ sa_T := sa_at 771 (by decide +kernel) rfl
theorem q774 : Cond.methodLink R_law 42 yX11_way ∈ sa_T := sa_at 774 (by decide +kernel) rfl
theorem q775 : Cond.instanceMethod yX11_way ∈ sa_T := sa_at 775 (by decide +kernel) rfl
theorem q776 : Cond.selects RX11 yX11_way yX11_way ∈ sa_T := sa_at 776 (by decide +kernel) rfl
theorem q777 : Cond.code yX11_way cX11_way 3 (some .int) ∈ sa_T := sa_at 777 (by decide +kernel) rfl
theorem q778 : Cond.methodLink R_law 56 yX11_foe ∈ sa_T := sa_at 778 (by decide +kernel) rfl
theorem q779 : Cond.instanceMethod yX11_foe ∈ sa_T := sa_at 779 (by decide +kernel) rfl
theorem q780 : Cond.selects RX11 yX11_foe yX11_foe ∈ sa_T := sa_at 780 (by decide +kernel) rfl
theorem q781 : Cond.code yX11_foe cX11_foe 3 (some .int) ∈ sa_T := sa_at 781 (by decide +kernel) rfl
theorem q782 : Cond.methodLink R_law 60 yX11_law ∈ sa_T := sa_at 782 (by decide +kernel) rfl
theorem q783 : Cond.instanceMethod yX11_law ∈ sa_T := sa_at 783 (by decide +kernel) rfl
theorem q784 : Cond.selects RX11 yX11_law yX11_law ∈ sa_T := sa_at 784 (by decide +kernel) rfl
theorem q785 : Cond.code yX11_law cX11_law 2 (some .boolean) ∈ sa_T := sa_at 785 (by decide +kernel) rfl
theorem q786 : Cond.methodLink R_law 64 yX11_wear ∈ sa_T := sa_at 786 (by decide +kernel) rfl
theorem q787 : Cond.instanceMethod yX11_wear ∈ sa_T := sa_at 787 (by decide +kernel) rfl
theorem q788 : Cond.selects RX11 yX11_wear yX11_wear ∈ sa_T := sa_at 788 (by decide +kernel) rfl
theorem q789 : Cond.code yX11_wear cX11_wear 2 (some .int) ∈ sa_T := sa_at 789 (by decide +kernel) rfl
theorem q818 : Cond.methodLink R_law 68 yX11_march ∈ sa_T := sa_at 818 (by decide +kernel) rfl
theorem q819 : Cond.instanceMethod yX11_march ∈ sa_T := sa_at 819 (by decide +kernel) rfl
theorem q820 : Cond.selects RX11 yX11_march yX11_march ∈ sa_T := sa_at 820 (by decide +kernel) rfl
theorem q821 : Cond.code yX11_march cX11_march 3 (some .int) ∈ sa_T := sa_at 821 (by decide +kernel) rfl
theorem q912 : Cond.methodLink R_law 72 yX11_join ∈ sa_T := sa_at 912 (by decide +kernel) rfl
theorem q913 : Cond.instanceMethod yX11_join ∈ sa_T := sa_at 913 (by decide +kernel) rfl
theorem q914 : Cond.selects RX11 yX11_join yX11_join ∈ sa_T := sa_at 914 (by decide +kernel) rfl
theorem q915 : Cond.code yX11_join cX11_join 3 (some .int) ∈ sa_T := sa_at 915 (by decide +kernel) rfl
theorem q916 : Cond.methodLink R_law 76 yX11_dig ∈ sa_T := sa_at 916 (by decide +kernel) rfl
theorem q917 : Cond.instanceMethod yX11_dig ∈ sa_T := sa_at 917 (by decide +kernel) rfl
theorem q918 : Cond.selects RX11 yX11_dig yX11_dig ∈ sa_T := sa_at 918 (by decide +kernel) rfl
theorem q919 : Cond.code yX11_dig cX11_dig 2 (some .int) ∈ sa_T := sa_at 919 (by decide +kernel) rfl
theorem q920 : Cond.methodLink R_law 80 yX11_cast ∈ sa_T := sa_at 920 (by decide +kernel) rfl
theorem q921 : Cond.instanceMethod yX11_cast ∈ sa_T := sa_at 921 (by decide +kernel) rfl
theorem q922 : Cond.selects RX11 yX11_cast yX11_cast ∈ sa_T := sa_at 922 (by decide +kernel) rfl
theorem q923 : Cond.code yX11_cast cX11_cast 3 (some .int) ∈ sa_T := sa_at 923 (by decide +kernel) rfl
theorem q924 : Cond.methodLink R_law 84 yX11_hour ∈ sa_T := sa_at 924 (by decide +kernel) rfl
theorem q925 : Cond.instanceMethod yX11_hour ∈ sa_T := sa_at 925 (by decide +kernel) rfl
theorem q926 : Cond.selects RX11 yX11_hour yX11_hour ∈ sa_T := sa_at 926 (by decide +kernel) rfl
theorem q927 : Cond.code yX11_hour cX11_hour 2 (some .int) ∈ sa_T := sa_at 927 (by decide +kernel) rfl
theorem q933 : Cond.methodLink R_law 90 yX11_war ∈ sa_T := sa_at 933 (by decide +kernel) rfl
theorem q934 : Cond.instanceMethod yX11_war ∈ sa_T := sa_at 934 (by decide +kernel) rfl
theorem q935 : Cond.selects RX11 yX11_war yX11_war ∈ sa_T := sa_at 935 (by decide +kernel) rfl
theorem q936 : Cond.code yX11_war cX11_war 9 (some .int) ∈ sa_T := sa_at 936 (by decide +kernel) rfl
theorem q940 : Cond.methodLink R_law 95 yX11_undo ∈ sa_T := sa_at 940 (by decide +kernel) rfl
theorem q941 : Cond.instanceMethod yX11_undo ∈ sa_T := sa_at 941 (by decide +kernel) rfl
theorem q942 : Cond.selects RX11 yX11_undo yX11_undo ∈ sa_T := sa_at 942 (by decide +kernel) rfl
theorem q943 : Cond.code yX11_undo cX11_undo 1 (some .int) ∈ sa_T := sa_at 943 (by decide +kernel) rfl
theorem q948 : Cond.methodLink R_law 99 yX11_log ∈ sa_T := sa_at 948 (by decide +kernel) rfl
theorem q949 : Cond.instanceMethod yX11_log ∈ sa_T := sa_at 949 (by decide +kernel) rfl
theorem q950 : Cond.selects RX11 yX11_log yX11_log ∈ sa_T := sa_at 950 (by decide +kernel) rfl
theorem q951 : Cond.code yX11_log cX11_log 3 (some .int) ∈ sa_T := sa_at 951 (by decide +kernel) rfl
theorem q960 : Cond.methodLink R_law 103 yX11_step ∈ sa_T := sa_at 960 (by decide +kernel) rfl
theorem q961 : Cond.instanceMethod yX11_step ∈ sa_T := sa_at 961 (by decide +kernel) rfl
theorem q962 : Cond.selects RX11 yX11_step yX11_step ∈ sa_T := sa_at 962 (by decide +kernel) rfl
theorem q963 : Cond.code yX11_step cX11_step 4 (some .int) ∈ sa_T := sa_at 963 (by decide +kernel) rfl
theorem q972 : Cond.methodLink R_law 108 yX11_run ∈ sa_T := sa_at 972 (by decide +kernel) rfl
theorem q973 : Cond.instanceMethod yX11_run ∈ sa_T := sa_at 973 (by decide +kernel) rfl
theorem q974 : Cond.selects RX11 yX11_run yX11_run ∈ sa_T := sa_at 974 (by decide +kernel) rfl
theorem q975 : Cond.code yX11_run cX11_run 5 (some .int) ∈ sa_T := sa_at 975 (by decide +kernel) rfl
theorem q999 : Cond.methodLink R_law 112 yX11_perform ∈ sa_T := sa_at 999 (by decide +kernel) rfl
theorem q1000 : Cond.instanceMethod yX11_perform ∈ sa_T := sa_at 1000 (by decide +kernel) rfl
theorem q1001 : Cond.selects RX11 yX11_perform yX11_perform ∈ sa_T := sa_at 1001 (by decide +kernel) rfl
theorem q1002 : Cond.code yX11_perform cX11_perform 4 (some .int) ∈ sa_T := sa_at 1002 (by decide +kernel) rfl
theorem q1003 : Cond.methodLink R_law 116 yX11_sky ∈ sa_T := sa_at 1003 (by decide +kernel) rfl
theorem q1004 : Cond.instanceMethod yX11_sky ∈ sa_T := sa_at 1004 (by decide +kernel) rfl
theorem q1005 : Cond.selects RX11 yX11_sky yX11_sky ∈ sa_T := sa_at 1005 (by decide +kernel) rfl
theorem q1006 : Cond.code yX11_sky cX11_sky 4 (some .int) ∈ sa_T := sa_at 1006 (by decide +kernel) rfl
theorem q1011 : Cond.methodLink R_law 121 yX11_best ∈ sa_T := sa_at 1011 (by decide +kernel) rfl
theorem q1012 : Cond.instanceMethod yX11_best ∈ sa_T := sa_at 1012 (by decide +kernel) rfl
theorem q1013 : Cond.selects RX11 yX11_best yX11_best ∈ sa_T := sa_at 1013 (by decide +kernel) rfl
theorem q1014 : Cond.code yX11_best cX11_best 6 (some .int) ∈ sa_T := sa_at 1014 (by decide +kernel) rfl
theorem q1117 : Cond.methodLink R_law 126 yX11_journeys ∈ sa_T := sa_at 1117 (by decide +kernel) rfl
theorem q1118 : Cond.instanceMethod yX11_journeys ∈ sa_T := sa_at 1118 (by decide +kernel) rfl
theorem q1119 : Cond.selects RX11 yX11_journeys yX11_journeys ∈ sa_T := sa_at 1119 (by decide +kernel) rfl
theorem q1120 : Cond.code yX11_journeys cX11_journeys 3 (some .int) ∈ sa_T := sa_at 1120 (by decide +kernel) rfl
theorem q1121 : Cond.methodLink R_law 130 yX11_waits ∈ sa_T := sa_at 1121 (by decide +kernel) rfl
theorem q1122 : Cond.instanceMethod yX11_waits ∈ sa_T := sa_at 1122 (by decide +kernel) rfl
theorem q1123 : Cond.selects RX11 yX11_waits yX11_waits ∈ sa_T := sa_at 1123 (by decide +kernel) rfl
theorem q1124 : Cond.code yX11_waits cX11_waits 5 (some .int) ∈ sa_T := sa_at 1124 (by decide +kernel) rfl
theorem q1130 : Cond.methodLink R_law 134 yX11_ambush ∈ sa_T := sa_at 1130 (by decide +kernel) rfl
theorem q1131 : Cond.instanceMethod yX11_ambush ∈ sa_T := sa_at 1131 (by decide +kernel) rfl
theorem q1132 : Cond.selects RX11 yX11_ambush yX11_ambush ∈ sa_T := sa_at 1132 (by decide +kernel) rfl
theorem q1133 : Cond.code yX11_ambush cX11_ambush 5 (some .int) ∈ sa_T := sa_at 1133 (by decide +kernel) rfl
theorem q1139 : Cond.methodLink R_law 138 yX11_pickets ∈ sa_T := sa_at 1139 (by decide +kernel) rfl
theorem q1140 : Cond.instanceMethod yX11_pickets ∈ sa_T := sa_at 1140 (by decide +kernel) rfl
theorem q1141 : Cond.selects RX11 yX11_pickets yX11_pickets ∈ sa_T := sa_at 1141 (by decide +kernel) rfl
theorem q1142 : Cond.code yX11_pickets cX11_pickets 6 (some .int) ∈ sa_T := sa_at 1142 (by decide +kernel) rfl
theorem q1170 : Cond.methodLink R_law 142 yX11_stock ∈ sa_T := sa_at 1170 (by decide +kernel) rfl
theorem q1171 : Cond.instanceMethod yX11_stock ∈ sa_T := sa_at 1171 (by decide +kernel) rfl
theorem q1172 : Cond.selects RX11 yX11_stock yX11_stock ∈ sa_T := sa_at 1172 (by decide +kernel) rfl
theorem q1173 : Cond.code yX11_stock cX11_stock 4 (some .int) ∈ sa_T := sa_at 1173 (by decide +kernel) rfl
theorem q1174 : Cond.methodLink R_law 146 yX11_streak ∈ sa_T := sa_at 1174 (by decide +kernel) rfl
theorem q1175 : Cond.instanceMethod yX11_streak ∈ sa_T := sa_at 1175 (by decide +kernel) rfl
theorem q1176 : Cond.selects RX11 yX11_streak yX11_streak ∈ sa_T := sa_at 1176 (by decide +kernel) rfl
theorem q1177 : Cond.code yX11_streak cX11_streak 3 (some .int) ∈ sa_T := sa_at 1177 (by decide +kernel) rfl
theorem q1182 : Cond.methodLink R_law 150 yX11_rained ∈ sa_T := sa_at 1182 (by decide +kernel) rfl
theorem q1183 : Cond.instanceMethod yX11_rained ∈ sa_T := sa_at 1183 (by decide +kernel) rfl
theorem q1184 : Cond.selects RX11 yX11_rained yX11_rained ∈ sa_T := sa_at 1184 (by decide +kernel) rfl
theorem q1185 : Cond.code yX11_rained cX11_rained 5 (some .int) ∈ sa_T := sa_at 1185 (by decide +kernel) rfl
theorem q1222 : Cond.methodLink R_law 154 yX11_knows ∈ sa_T := sa_at 1222 (by decide +kernel) rfl
theorem q1223 : Cond.instanceMethod yX11_knows ∈ sa_T := sa_at 1223 (by decide +kernel) rfl
theorem q1224 : Cond.selects RX11 yX11_knows yX11_knows ∈ sa_T := sa_at 1224 (by decide +kernel) rfl
theorem q1225 : Cond.code yX11_knows cX11_knows 2 (some .int) ∈ sa_T := sa_at 1225 (by decide +kernel) rfl
theorem q1230 : Cond.methodLink R_law 158 yX11_hears ∈ sa_T := sa_at 1230 (by decide +kernel) rfl
theorem q1231 : Cond.instanceMethod yX11_hears ∈ sa_T := sa_at 1231 (by decide +kernel) rfl
theorem q1232 : Cond.selects RX11 yX11_hears yX11_hears ∈ sa_T := sa_at 1232 (by decide +kernel) rfl
theorem q1233 : Cond.code yX11_hears cX11_hears 2 (some .int) ∈ sa_T := sa_at 1233 (by decide +kernel) rfl
theorem q1254 : Cond.methodLink R_law 162 yX11_weakest ∈ sa_T := sa_at 1254 (by decide +kernel) rfl
theorem q1255 : Cond.instanceMethod yX11_weakest ∈ sa_T := sa_at 1255 (by decide +kernel) rfl
theorem q1256 : Cond.selects RX11 yX11_weakest yX11_weakest ∈ sa_T := sa_at 1256 (by decide +kernel) rfl
theorem q1257 : Cond.code yX11_weakest cX11_weakest 1 (some .int) ∈ sa_T := sa_at 1257 (by decide +kernel) rfl
theorem q1262 : Cond.methodLink R_law 166 yX11_reach ∈ sa_T := sa_at 1262 (by decide +kernel) rfl
theorem q1263 : Cond.instanceMethod yX11_reach ∈ sa_T := sa_at 1263 (by decide +kernel) rfl
theorem q1264 : Cond.selects RX11 yX11_reach yX11_reach ∈ sa_T := sa_at 1264 (by decide +kernel) rfl
theorem q1265 : Cond.code yX11_reach cX11_reach 3 (some .int) ∈ sa_T := sa_at 1265 (by decide +kernel) rfl
theorem q1270 : Cond.methodLink R_law 170 yX11_dry ∈ sa_T := sa_at 1270 (by decide +kernel) rfl
theorem q1271 : Cond.instanceMethod yX11_dry ∈ sa_T := sa_at 1271 (by decide +kernel) rfl
theorem q1272 : Cond.selects RX11 yX11_dry yX11_dry ∈ sa_T := sa_at 1272 (by decide +kernel) rfl
theorem q1273 : Cond.code yX11_dry cX11_dry 2 (some .int) ∈ sa_T := sa_at 1273 (by decide +kernel) rfl
theorem q1279 : Cond.methodLink R_law 174 yX11_image ∈ sa_T := sa_at 1279 (by decide +kernel) rfl
theorem q1280 : Cond.instanceMethod yX11_image ∈ sa_T := sa_at 1280 (by decide +kernel) rfl
theorem q1281 : Cond.selects RX11 yX11_image yX11_image ∈ sa_T := sa_at 1281 (by decide +kernel) rfl
theorem q1282 : Cond.code yX11_image cX11_image 1 (some .int) ∈ sa_T := sa_at 1282 (by decide +kernel) rfl
theorem q1287 : Cond.methodLink R_law 178 yX11_back ∈ sa_T := sa_at 1287 (by decide +kernel) rfl
theorem q1288 : Cond.instanceMethod yX11_back ∈ sa_T := sa_at 1288 (by decide +kernel) rfl
theorem q1289 : Cond.selects RX11 yX11_back yX11_back ∈ sa_T := sa_at 1289 (by decide +kernel) rfl
theorem q1290 : Cond.code yX11_back cX11_back 1 (some .int) ∈ sa_T := sa_at 1290 (by decide +kernel) rfl
theorem q1295 : Cond.methodLink R_law 182 yX11_count ∈ sa_T := sa_at 1295 (by decide +kernel) rfl
theorem q1296 : Cond.instanceMethod yX11_count ∈ sa_T := sa_at 1296 (by decide +kernel) rfl
theorem q1297 : Cond.selects RX11 yX11_count yX11_count ∈ sa_T := sa_at 1297 (by decide +kernel) rfl
theorem q1298 : Cond.code yX11_count cX11_count 2 (some .int) ∈ sa_T := sa_at 1298 (by decide +kernel) rfl
theorem q1615 : Cond.methodLink R_law 23 yX12_feed ∈ sa_T := sa_at 1615 (by decide +kernel) rfl
theorem q1616 : Cond.instanceMethod yX12_feed ∈ sa_T := sa_at 1616 (by decide +kernel) rfl
theorem q1617 : Cond.selects RX12 yX12_feed yX12_feed ∈ sa_T := sa_at 1617 (by decide +kernel) rfl
theorem q1618 : Cond.code yX12_feed cX12_feed 6 (some .int) ∈ sa_T := sa_at 1618 (by decide +kernel) rfl
theorem q1626 : Cond.methodLink R_law 28 yX12_end ∈ sa_T := sa_at 1626 (by decide +kernel) rfl
theorem q1627 : Cond.instanceMethod yX12_end ∈ sa_T := sa_at 1627 (by decide +kernel) rfl
theorem q1628 : Cond.selects RX12 yX12_end yX12_end ∈ sa_T := sa_at 1628 (by decide +kernel) rfl
theorem q1629 : Cond.code yX12_end cX12_end 2 (some .boolean) ∈ sa_T := sa_at 1629 (by decide +kernel) rfl
theorem q1630 : Cond.methodLink R_law 33 yX12_fault ∈ sa_T := sa_at 1630 (by decide +kernel) rfl
theorem q1773 : Cond.methodLink R_law 37 yX12_text ∈ sa_T := sa_at 1773 (by decide +kernel) rfl
theorem q1774 : Cond.instanceMethod yX12_text ∈ sa_T := sa_at 1774 (by decide +kernel) rfl
theorem q1775 : Cond.selects RX12 yX12_text yX12_text ∈ sa_T := sa_at 1775 (by decide +kernel) rfl
theorem q1776 : Cond.code yX12_text cX12_text 5 (some .int) ∈ sa_T := sa_at 1776 (by decide +kernel) rfl
theorem q1778 : Cond.methodLink R_law 41 yX12_spot ∈ sa_T := sa_at 1778 (by decide +kernel) rfl
theorem q1779 : Cond.instanceMethod yX12_spot ∈ sa_T := sa_at 1779 (by decide +kernel) rfl
theorem q1780 : Cond.selects RX12 yX12_spot yX12_spot ∈ sa_T := sa_at 1780 (by decide +kernel) rfl
theorem q1781 : Cond.code yX12_spot cX12_spot 3 (some .int) ∈ sa_T := sa_at 1781 (by decide +kernel) rfl
theorem q1787 : Cond.methodLink R_law 45 yX12_way ∈ sa_T := sa_at 1787 (by decide +kernel) rfl
theorem q1788 : Cond.instanceMethod yX12_way ∈ sa_T := sa_at 1788 (by decide +kernel) rfl
theorem q1789 : Cond.selects RX12 yX12_way yX12_way ∈ sa_T := sa_at 1789 (by decide +kernel) rfl
theorem q1790 : Cond.code yX12_way cX12_way 3 (some .int) ∈ sa_T := sa_at 1790 (by decide +kernel) rfl
theorem q1796 : Cond.methodLink R_law 59 yX12_foe ∈ sa_T := sa_at 1796 (by decide +kernel) rfl
theorem q1797 : Cond.instanceMethod yX12_foe ∈ sa_T := sa_at 1797 (by decide +kernel) rfl
theorem q1798 : Cond.selects RX12 yX12_foe yX12_foe ∈ sa_T := sa_at 1798 (by decide +kernel) rfl
theorem q1799 : Cond.code yX12_foe cX12_foe 3 (some .int) ∈ sa_T := sa_at 1799 (by decide +kernel) rfl
theorem q1800 : Cond.methodLink R_law 63 yX12_law ∈ sa_T := sa_at 1800 (by decide +kernel) rfl
theorem q1801 : Cond.instanceMethod yX12_law ∈ sa_T := sa_at 1801 (by decide +kernel) rfl
theorem q1802 : Cond.selects RX12 yX12_law yX12_law ∈ sa_T := sa_at 1802 (by decide +kernel) rfl
theorem q1803 : Cond.code yX12_law cX12_law 2 (some .boolean) ∈ sa_T := sa_at 1803 (by decide +kernel) rfl
theorem q1804 : Cond.methodLink R_law 67 yX12_wear ∈ sa_T := sa_at 1804 (by decide +kernel) rfl
theorem q1805 : Cond.instanceMethod yX12_wear ∈ sa_T := sa_at 1805 (by decide +kernel) rfl
theorem q1806 : Cond.selects RX12 yX12_wear yX12_wear ∈ sa_T := sa_at 1806 (by decide +kernel) rfl
theorem q1807 : Cond.code yX12_wear cX12_wear 2 (some .int) ∈ sa_T := sa_at 1807 (by decide +kernel) rfl
theorem q1825 : Cond.methodLink R_law 71 yX12_march ∈ sa_T := sa_at 1825 (by decide +kernel) rfl
theorem q1826 : Cond.instanceMethod yX12_march ∈ sa_T := sa_at 1826 (by decide +kernel) rfl
theorem q1827 : Cond.selects RX12 yX12_march yX12_march ∈ sa_T := sa_at 1827 (by decide +kernel) rfl
theorem q1828 : Cond.code yX12_march cX12_march 3 (some .int) ∈ sa_T := sa_at 1828 (by decide +kernel) rfl
theorem q1848 : Cond.methodLink R_law 75 yX12_join ∈ sa_T := sa_at 1848 (by decide +kernel) rfl
theorem q1849 : Cond.instanceMethod yX12_join ∈ sa_T := sa_at 1849 (by decide +kernel) rfl
theorem q1850 : Cond.selects RX12 yX12_join yX12_join ∈ sa_T := sa_at 1850 (by decide +kernel) rfl
theorem q1851 : Cond.code yX12_join cX12_join 3 (some .int) ∈ sa_T := sa_at 1851 (by decide +kernel) rfl
theorem q1860 : Cond.methodLink R_law 79 yX12_dig ∈ sa_T := sa_at 1860 (by decide +kernel) rfl
theorem q1861 : Cond.instanceMethod yX12_dig ∈ sa_T := sa_at 1861 (by decide +kernel) rfl
theorem q1862 : Cond.selects RX12 yX12_dig yX12_dig ∈ sa_T := sa_at 1862 (by decide +kernel) rfl
theorem q1863 : Cond.code yX12_dig cX12_dig 2 (some .int) ∈ sa_T := sa_at 1863 (by decide +kernel) rfl
theorem q1872 : Cond.methodLink R_law 83 yX12_cast ∈ sa_T := sa_at 1872 (by decide +kernel) rfl
theorem q1873 : Cond.instanceMethod yX12_cast ∈ sa_T := sa_at 1873 (by decide +kernel) rfl
theorem q1874 : Cond.selects RX12 yX12_cast yX12_cast ∈ sa_T := sa_at 1874 (by decide +kernel) rfl
theorem q1875 : Cond.code yX12_cast cX12_cast 3 (some .int) ∈ sa_T := sa_at 1875 (by decide +kernel) rfl
theorem q1884 : Cond.methodLink R_law 87 yX12_hour ∈ sa_T := sa_at 1884 (by decide +kernel) rfl
theorem q1885 : Cond.instanceMethod yX12_hour ∈ sa_T := sa_at 1885 (by decide +kernel) rfl
theorem q1886 : Cond.selects RX12 yX12_hour yX12_hour ∈ sa_T := sa_at 1886 (by decide +kernel) rfl
theorem q1887 : Cond.code yX12_hour cX12_hour 2 (some .int) ∈ sa_T := sa_at 1887 (by decide +kernel) rfl
theorem q1908 : Cond.methodLink R_law 94 yX12_war ∈ sa_T := sa_at 1908 (by decide +kernel) rfl
theorem q1909 : Cond.instanceMethod yX12_war ∈ sa_T := sa_at 1909 (by decide +kernel) rfl
theorem q1910 : Cond.selects RX12 yX12_war yX12_war ∈ sa_T := sa_at 1910 (by decide +kernel) rfl
theorem q1911 : Cond.code yX12_war cX12_war 7 (some .int) ∈ sa_T := sa_at 1911 (by decide +kernel) rfl
theorem q1919 : Cond.methodLink R_law 98 yX12_undo ∈ sa_T := sa_at 1919 (by decide +kernel) rfl
theorem q1920 : Cond.instanceMethod yX12_undo ∈ sa_T := sa_at 1920 (by decide +kernel) rfl
theorem q1921 : Cond.selects RX12 yX12_undo yX12_undo ∈ sa_T := sa_at 1921 (by decide +kernel) rfl
theorem q1922 : Cond.code yX12_undo cX12_undo 2 (some .int) ∈ sa_T := sa_at 1922 (by decide +kernel) rfl
theorem q1923 : Cond.methodLink R_law 102 yX12_log ∈ sa_T := sa_at 1923 (by decide +kernel) rfl
theorem q1924 : Cond.instanceMethod yX12_log ∈ sa_T := sa_at 1924 (by decide +kernel) rfl
theorem q1925 : Cond.selects RX12 yX12_log yX12_log ∈ sa_T := sa_at 1925 (by decide +kernel) rfl
theorem q1926 : Cond.code yX12_log cX12_log 3 (some .int) ∈ sa_T := sa_at 1926 (by decide +kernel) rfl
theorem q1927 : Cond.methodLink R_law 107 yX12_step ∈ sa_T := sa_at 1927 (by decide +kernel) rfl
theorem q1928 : Cond.instanceMethod yX12_step ∈ sa_T := sa_at 1928 (by decide +kernel) rfl
theorem q1929 : Cond.selects RX12 yX12_step yX12_step ∈ sa_T := sa_at 1929 (by decide +kernel) rfl
theorem q1930 : Cond.code yX12_step cX12_step 4 (some .int) ∈ sa_T := sa_at 1930 (by decide +kernel) rfl
theorem q1931 : Cond.methodLink R_law 111 yX12_run ∈ sa_T := sa_at 1931 (by decide +kernel) rfl
theorem q1932 : Cond.instanceMethod yX12_run ∈ sa_T := sa_at 1932 (by decide +kernel) rfl
theorem q1933 : Cond.selects RX12 yX12_run yX12_run ∈ sa_T := sa_at 1933 (by decide +kernel) rfl
theorem q1934 : Cond.code yX12_run cX12_run 4 (some .int) ∈ sa_T := sa_at 1934 (by decide +kernel) rfl
theorem q1950 : Cond.methodLink R_law 115 yX12_perform ∈ sa_T := sa_at 1950 (by decide +kernel) rfl
theorem q1951 : Cond.instanceMethod yX12_perform ∈ sa_T := sa_at 1951 (by decide +kernel) rfl
theorem q1952 : Cond.selects RX12 yX12_perform yX12_perform ∈ sa_T := sa_at 1952 (by decide +kernel) rfl
theorem q1953 : Cond.code yX12_perform cX12_perform 3 (some .int) ∈ sa_T := sa_at 1953 (by decide +kernel) rfl
theorem q1954 : Cond.methodLink R_law 120 yX12_sky ∈ sa_T := sa_at 1954 (by decide +kernel) rfl
theorem q1955 : Cond.instanceMethod yX12_sky ∈ sa_T := sa_at 1955 (by decide +kernel) rfl
theorem q1956 : Cond.selects RX12 yX12_sky yX12_sky ∈ sa_T := sa_at 1956 (by decide +kernel) rfl
theorem q1957 : Cond.code yX12_sky cX12_sky 4 (some .int) ∈ sa_T := sa_at 1957 (by decide +kernel) rfl
theorem q1959 : Cond.methodLink R_law 129 yX12_journeys ∈ sa_T := sa_at 1959 (by decide +kernel) rfl
theorem q1960 : Cond.instanceMethod yX12_journeys ∈ sa_T := sa_at 1960 (by decide +kernel) rfl
theorem q1961 : Cond.selects RX12 yX12_journeys yX12_journeys ∈ sa_T := sa_at 1961 (by decide +kernel) rfl
theorem q1962 : Cond.code yX12_journeys cX12_journeys 4 (some .int) ∈ sa_T := sa_at 1962 (by decide +kernel) rfl
theorem q2017 : Cond.methodLink R_law 125 yX12_best ∈ sa_T := sa_at 2017 (by decide +kernel) rfl
theorem q2018 : Cond.instanceMethod yX12_best ∈ sa_T := sa_at 2018 (by decide +kernel) rfl
theorem q2019 : Cond.selects RX12 yX12_best yX12_best ∈ sa_T := sa_at 2019 (by decide +kernel) rfl
theorem q2020 : Cond.code yX12_best cX12_best 5 (some .int) ∈ sa_T := sa_at 2020 (by decide +kernel) rfl
theorem q2021 : Cond.methodLink R_law 133 yX12_waits ∈ sa_T := sa_at 2021 (by decide +kernel) rfl
theorem q2022 : Cond.instanceMethod yX12_waits ∈ sa_T := sa_at 2022 (by decide +kernel) rfl
theorem q2023 : Cond.selects RX12 yX12_waits yX12_waits ∈ sa_T := sa_at 2023 (by decide +kernel) rfl
theorem q2024 : Cond.code yX12_waits cX12_waits 8 (some .int) ∈ sa_T := sa_at 2024 (by decide +kernel) rfl
theorem q2025 : Cond.methodLink R_law 137 yX12_ambush ∈ sa_T := sa_at 2025 (by decide +kernel) rfl
theorem q2026 : Cond.instanceMethod yX12_ambush ∈ sa_T := sa_at 2026 (by decide +kernel) rfl
theorem q2027 : Cond.selects RX12 yX12_ambush yX12_ambush ∈ sa_T := sa_at 2027 (by decide +kernel) rfl
theorem q2028 : Cond.code yX12_ambush cX12_ambush 9 (some .int) ∈ sa_T := sa_at 2028 (by decide +kernel) rfl
theorem q2029 : Cond.methodLink R_law 141 yX12_pickets ∈ sa_T := sa_at 2029 (by decide +kernel) rfl
theorem q2030 : Cond.instanceMethod yX12_pickets ∈ sa_T := sa_at 2030 (by decide +kernel) rfl
theorem q2031 : Cond.selects RX12 yX12_pickets yX12_pickets ∈ sa_T := sa_at 2031 (by decide +kernel) rfl
theorem q2032 : Cond.code yX12_pickets cX12_pickets 5 (some .int) ∈ sa_T := sa_at 2032 (by decide +kernel) rfl
theorem q2048 : Cond.methodLink R_law 145 yX12_stock ∈ sa_T := sa_at 2048 (by decide +kernel) rfl
theorem q2049 : Cond.instanceMethod yX12_stock ∈ sa_T := sa_at 2049 (by decide +kernel) rfl
theorem q2050 : Cond.selects RX12 yX12_stock yX12_stock ∈ sa_T := sa_at 2050 (by decide +kernel) rfl
theorem q2051 : Cond.code yX12_stock cX12_stock 4 (some .int) ∈ sa_T := sa_at 2051 (by decide +kernel) rfl
theorem q2052 : Cond.methodLink R_law 149 yX12_streak ∈ sa_T := sa_at 2052 (by decide +kernel) rfl
theorem q2053 : Cond.instanceMethod yX12_streak ∈ sa_T := sa_at 2053 (by decide +kernel) rfl
theorem q2054 : Cond.selects RX12 yX12_streak yX12_streak ∈ sa_T := sa_at 2054 (by decide +kernel) rfl
theorem q2055 : Cond.code yX12_streak cX12_streak 3 (some .int) ∈ sa_T := sa_at 2055 (by decide +kernel) rfl
theorem q2056 : Cond.methodLink R_law 153 yX12_rained ∈ sa_T := sa_at 2056 (by decide +kernel) rfl
theorem q2057 : Cond.instanceMethod yX12_rained ∈ sa_T := sa_at 2057 (by decide +kernel) rfl
theorem q2058 : Cond.selects RX12 yX12_rained yX12_rained ∈ sa_T := sa_at 2058 (by decide +kernel) rfl
theorem q2059 : Cond.code yX12_rained cX12_rained 6 (some .int) ∈ sa_T := sa_at 2059 (by decide +kernel) rfl
theorem q2064 : Cond.methodLink R_law 157 yX12_knows ∈ sa_T := sa_at 2064 (by decide +kernel) rfl
theorem q2065 : Cond.instanceMethod yX12_knows ∈ sa_T := sa_at 2065 (by decide +kernel) rfl
theorem q2066 : Cond.selects RX12 yX12_knows yX12_knows ∈ sa_T := sa_at 2066 (by decide +kernel) rfl
theorem q2067 : Cond.code yX12_knows cX12_knows 4 (some .int) ∈ sa_T := sa_at 2067 (by decide +kernel) rfl
theorem q2068 : Cond.methodLink R_law 161 yX12_hears ∈ sa_T := sa_at 2068 (by decide +kernel) rfl
theorem q2069 : Cond.instanceMethod yX12_hears ∈ sa_T := sa_at 2069 (by decide +kernel) rfl
theorem q2070 : Cond.selects RX12 yX12_hears yX12_hears ∈ sa_T := sa_at 2070 (by decide +kernel) rfl
theorem q2071 : Cond.code yX12_hears cX12_hears 6 (some .int) ∈ sa_T := sa_at 2071 (by decide +kernel) rfl
theorem q2085 : Cond.methodLink R_law 165 yX12_weakest ∈ sa_T := sa_at 2085 (by decide +kernel) rfl
theorem q2086 : Cond.instanceMethod yX12_weakest ∈ sa_T := sa_at 2086 (by decide +kernel) rfl
theorem q2087 : Cond.selects RX12 yX12_weakest yX12_weakest ∈ sa_T := sa_at 2087 (by decide +kernel) rfl
theorem q2088 : Cond.code yX12_weakest cX12_weakest 3 (some .int) ∈ sa_T := sa_at 2088 (by decide +kernel) rfl
theorem q2089 : Cond.methodLink R_law 169 yX12_reach ∈ sa_T := sa_at 2089 (by decide +kernel) rfl
theorem q2090 : Cond.instanceMethod yX12_reach ∈ sa_T := sa_at 2090 (by decide +kernel) rfl
theorem q2091 : Cond.selects RX12 yX12_reach yX12_reach ∈ sa_T := sa_at 2091 (by decide +kernel) rfl
theorem q2092 : Cond.code yX12_reach cX12_reach 3 (some .int) ∈ sa_T := sa_at 2092 (by decide +kernel) rfl
theorem q2093 : Cond.methodLink R_law 173 yX12_dry ∈ sa_T := sa_at 2093 (by decide +kernel) rfl
theorem q2094 : Cond.instanceMethod yX12_dry ∈ sa_T := sa_at 2094 (by decide +kernel) rfl
theorem q2095 : Cond.selects RX12 yX12_dry yX12_dry ∈ sa_T := sa_at 2095 (by decide +kernel) rfl
theorem q2096 : Cond.code yX12_dry cX12_dry 5 (some .int) ∈ sa_T := sa_at 2096 (by decide +kernel) rfl
theorem q2097 : Cond.methodLink R_law 177 yX12_image ∈ sa_T := sa_at 2097 (by decide +kernel) rfl
theorem q2098 : Cond.instanceMethod yX12_image ∈ sa_T := sa_at 2098 (by decide +kernel) rfl
theorem q2099 : Cond.selects RX12 yX12_image yX12_image ∈ sa_T := sa_at 2099 (by decide +kernel) rfl
theorem q2100 : Cond.code yX12_image cX12_image 1 (some .int) ∈ sa_T := sa_at 2100 (by decide +kernel) rfl
theorem q2101 : Cond.methodLink R_law 181 yX12_back ∈ sa_T := sa_at 2101 (by decide +kernel) rfl
theorem q2102 : Cond.instanceMethod yX12_back ∈ sa_T := sa_at 2102 (by decide +kernel) rfl
theorem q2103 : Cond.selects RX12 yX12_back yX12_back ∈ sa_T := sa_at 2103 (by decide +kernel) rfl
theorem q2104 : Cond.code yX12_back cX12_back 1 (some .int) ∈ sa_T := sa_at 2104 (by decide +kernel) rfl
theorem q2105 : Cond.methodLink R_law 185 yX12_count ∈ sa_T := sa_at 2105 (by decide +kernel) rfl
theorem q2106 : Cond.instanceMethod yX12_count ∈ sa_T := sa_at 2106 (by decide +kernel) rfl
theorem q2107 : Cond.selects RX12 yX12_count yX12_count ∈ sa_T := sa_at 2107 (by decide +kernel) rfl
theorem q2108 : Cond.code yX12_count cX12_count 2 (some .int) ∈ sa_T := sa_at 2108 (by decide +kernel) rfl
theorem q2117 : Cond.constantLong R_law 88 4294967295 ∈ sa_T := sa_at 2117 (by decide +kernel) rfl
theorem dt_X11_ambush : yX11_ambush.cls ≠ "java/lang/invoke/MethodHandle" ∧ yX11_ambush.cls ≠ "java/lang/invoke/VarHandle" ∧ (parseMethodDescriptor yX11_ambush.desc).map (fun d => d.parameters.length) = some 3 := by decide +kernel
theorem dt_X11_back : yX11_back.cls ≠ "java/lang/invoke/MethodHandle" ∧ yX11_back.cls ≠ "java/lang/invoke/VarHandle" ∧ (parseMethodDescriptor yX11_back.desc).map (fun d => d.parameters.length) = some 0 := by decide +kernel
theorem dt_X11_best : yX11_best.cls ≠ "java/lang/invoke/MethodHandle" ∧ yX11_best.cls ≠ "java/lang/invoke/VarHandle" ∧ (parseMethodDescriptor yX11_best.desc).map (fun d => d.parameters.length) = some 4 := by decide +kernel
theorem dt_X11_cast : yX11_cast.cls ≠ "java/lang/invoke/MethodHandle" ∧ yX11_cast.cls ≠ "java/lang/invoke/VarHandle" ∧ (parseMethodDescriptor yX11_cast.desc).map (fun d => d.parameters.length) = some 2 := by decide +kernel
theorem dt_X11_count : yX11_count.cls ≠ "java/lang/invoke/MethodHandle" ∧ yX11_count.cls ≠ "java/lang/invoke/VarHandle" ∧ (parseMethodDescriptor yX11_count.desc).map (fun d => d.parameters.length) = some 1 := by decide +kernel
theorem dt_X11_dig : yX11_dig.cls ≠ "java/lang/invoke/MethodHandle" ∧ yX11_dig.cls ≠ "java/lang/invoke/VarHandle" ∧ (parseMethodDescriptor yX11_dig.desc).map (fun d => d.parameters.length) = some 1 := by decide +kernel
theorem dt_X11_dry : yX11_dry.cls ≠ "java/lang/invoke/MethodHandle" ∧ yX11_dry.cls ≠ "java/lang/invoke/VarHandle" ∧ (parseMethodDescriptor yX11_dry.desc).map (fun d => d.parameters.length) = some 1 := by decide +kernel
theorem dt_X11_end : yX11_end.cls ≠ "java/lang/invoke/MethodHandle" ∧ yX11_end.cls ≠ "java/lang/invoke/VarHandle" ∧ (parseMethodDescriptor yX11_end.desc).map (fun d => d.parameters.length) = some 1 := by decide +kernel
theorem dt_X11_fault : yX11_fault.cls ≠ "java/lang/invoke/MethodHandle" ∧ yX11_fault.cls ≠ "java/lang/invoke/VarHandle" ∧ (parseMethodDescriptor yX11_fault.desc).map (fun d => d.parameters.length) = some 1 := by decide +kernel
theorem dt_X11_feed : yX11_feed.cls ≠ "java/lang/invoke/MethodHandle" ∧ yX11_feed.cls ≠ "java/lang/invoke/VarHandle" ∧ (parseMethodDescriptor yX11_feed.desc).map (fun d => d.parameters.length) = some 5 := by decide +kernel
theorem dt_X11_foe : yX11_foe.cls ≠ "java/lang/invoke/MethodHandle" ∧ yX11_foe.cls ≠ "java/lang/invoke/VarHandle" ∧ (parseMethodDescriptor yX11_foe.desc).map (fun d => d.parameters.length) = some 2 := by decide +kernel
theorem dt_X11_hears : yX11_hears.cls ≠ "java/lang/invoke/MethodHandle" ∧ yX11_hears.cls ≠ "java/lang/invoke/VarHandle" ∧ (parseMethodDescriptor yX11_hears.desc).map (fun d => d.parameters.length) = some 1 := by decide +kernel
theorem dt_X11_hour : yX11_hour.cls ≠ "java/lang/invoke/MethodHandle" ∧ yX11_hour.cls ≠ "java/lang/invoke/VarHandle" ∧ (parseMethodDescriptor yX11_hour.desc).map (fun d => d.parameters.length) = some 1 := by decide +kernel
theorem dt_X11_image : yX11_image.cls ≠ "java/lang/invoke/MethodHandle" ∧ yX11_image.cls ≠ "java/lang/invoke/VarHandle" ∧ (parseMethodDescriptor yX11_image.desc).map (fun d => d.parameters.length) = some 0 := by decide +kernel
theorem dt_X11_join : yX11_join.cls ≠ "java/lang/invoke/MethodHandle" ∧ yX11_join.cls ≠ "java/lang/invoke/VarHandle" ∧ (parseMethodDescriptor yX11_join.desc).map (fun d => d.parameters.length) = some 2 := by decide +kernel
theorem dt_X11_journeys : yX11_journeys.cls ≠ "java/lang/invoke/MethodHandle" ∧ yX11_journeys.cls ≠ "java/lang/invoke/VarHandle" ∧ (parseMethodDescriptor yX11_journeys.desc).map (fun d => d.parameters.length) = some 2 := by decide +kernel
theorem dt_X11_knows : yX11_knows.cls ≠ "java/lang/invoke/MethodHandle" ∧ yX11_knows.cls ≠ "java/lang/invoke/VarHandle" ∧ (parseMethodDescriptor yX11_knows.desc).map (fun d => d.parameters.length) = some 1 := by decide +kernel
theorem dt_X11_law : yX11_law.cls ≠ "java/lang/invoke/MethodHandle" ∧ yX11_law.cls ≠ "java/lang/invoke/VarHandle" ∧ (parseMethodDescriptor yX11_law.desc).map (fun d => d.parameters.length) = some 1 := by decide +kernel
theorem dt_X11_log : yX11_log.cls ≠ "java/lang/invoke/MethodHandle" ∧ yX11_log.cls ≠ "java/lang/invoke/VarHandle" ∧ (parseMethodDescriptor yX11_log.desc).map (fun d => d.parameters.length) = some 2 := by decide +kernel
theorem dt_X11_march : yX11_march.cls ≠ "java/lang/invoke/MethodHandle" ∧ yX11_march.cls ≠ "java/lang/invoke/VarHandle" ∧ (parseMethodDescriptor yX11_march.desc).map (fun d => d.parameters.length) = some 2 := by decide +kernel
theorem dt_X11_perform : yX11_perform.cls ≠ "java/lang/invoke/MethodHandle" ∧ yX11_perform.cls ≠ "java/lang/invoke/VarHandle" ∧ (parseMethodDescriptor yX11_perform.desc).map (fun d => d.parameters.length) = some 1 := by decide +kernel
theorem dt_X11_pickets : yX11_pickets.cls ≠ "java/lang/invoke/MethodHandle" ∧ yX11_pickets.cls ≠ "java/lang/invoke/VarHandle" ∧ (parseMethodDescriptor yX11_pickets.desc).map (fun d => d.parameters.length) = some 4 := by decide +kernel
theorem dt_X11_rained : yX11_rained.cls ≠ "java/lang/invoke/MethodHandle" ∧ yX11_rained.cls ≠ "java/lang/invoke/VarHandle" ∧ (parseMethodDescriptor yX11_rained.desc).map (fun d => d.parameters.length) = some 3 := by decide +kernel
theorem dt_X11_reach : yX11_reach.cls ≠ "java/lang/invoke/MethodHandle" ∧ yX11_reach.cls ≠ "java/lang/invoke/VarHandle" ∧ (parseMethodDescriptor yX11_reach.desc).map (fun d => d.parameters.length) = some 2 := by decide +kernel
theorem dt_X11_run : yX11_run.cls ≠ "java/lang/invoke/MethodHandle" ∧ yX11_run.cls ≠ "java/lang/invoke/VarHandle" ∧ (parseMethodDescriptor yX11_run.desc).map (fun d => d.parameters.length) = some 2 := by decide +kernel
theorem dt_X11_sky : yX11_sky.cls ≠ "java/lang/invoke/MethodHandle" ∧ yX11_sky.cls ≠ "java/lang/invoke/VarHandle" ∧ (parseMethodDescriptor yX11_sky.desc).map (fun d => d.parameters.length) = some 3 := by decide +kernel
theorem dt_X11_spot : yX11_spot.cls ≠ "java/lang/invoke/MethodHandle" ∧ yX11_spot.cls ≠ "java/lang/invoke/VarHandle" ∧ (parseMethodDescriptor yX11_spot.desc).map (fun d => d.parameters.length) = some 2 := by decide +kernel
theorem dt_X11_step : yX11_step.cls ≠ "java/lang/invoke/MethodHandle" ∧ yX11_step.cls ≠ "java/lang/invoke/VarHandle" ∧ (parseMethodDescriptor yX11_step.desc).map (fun d => d.parameters.length) = some 3 := by decide +kernel
theorem dt_X11_stock : yX11_stock.cls ≠ "java/lang/invoke/MethodHandle" ∧ yX11_stock.cls ≠ "java/lang/invoke/VarHandle" ∧ (parseMethodDescriptor yX11_stock.desc).map (fun d => d.parameters.length) = some 2 := by decide +kernel
theorem dt_X11_streak : yX11_streak.cls ≠ "java/lang/invoke/MethodHandle" ∧ yX11_streak.cls ≠ "java/lang/invoke/VarHandle" ∧ (parseMethodDescriptor yX11_streak.desc).map (fun d => d.parameters.length) = some 2 := by decide +kernel
theorem dt_X11_text : yX11_text.cls ≠ "java/lang/invoke/MethodHandle" ∧ yX11_text.cls ≠ "java/lang/invoke/VarHandle" ∧ (parseMethodDescriptor yX11_text.desc).map (fun d => d.parameters.length) = some 1 := by decide +kernel
theorem dt_X11_undo : yX11_undo.cls ≠ "java/lang/invoke/MethodHandle" ∧ yX11_undo.cls ≠ "java/lang/invoke/VarHandle" ∧ (parseMethodDescriptor yX11_undo.desc).map (fun d => d.parameters.length) = some 0 := by decide +kernel
theorem dt_X11_waits : yX11_waits.cls ≠ "java/lang/invoke/MethodHandle" ∧ yX11_waits.cls ≠ "java/lang/invoke/VarHandle" ∧ (parseMethodDescriptor yX11_waits.desc).map (fun d => d.parameters.length) = some 3 := by decide +kernel
theorem dt_X11_war : yX11_war.cls ≠ "java/lang/invoke/MethodHandle" ∧ yX11_war.cls ≠ "java/lang/invoke/VarHandle" ∧ (parseMethodDescriptor yX11_war.desc).map (fun d => d.parameters.length) = some 2 := by decide +kernel
theorem dt_X11_way : yX11_way.cls ≠ "java/lang/invoke/MethodHandle" ∧ yX11_way.cls ≠ "java/lang/invoke/VarHandle" ∧ (parseMethodDescriptor yX11_way.desc).map (fun d => d.parameters.length) = some 2 := by decide +kernel
theorem dt_X11_weakest : yX11_weakest.cls ≠ "java/lang/invoke/MethodHandle" ∧ yX11_weakest.cls ≠ "java/lang/invoke/VarHandle" ∧ (parseMethodDescriptor yX11_weakest.desc).map (fun d => d.parameters.length) = some 0 := by decide +kernel
theorem dt_X11_wear : yX11_wear.cls ≠ "java/lang/invoke/MethodHandle" ∧ yX11_wear.cls ≠ "java/lang/invoke/VarHandle" ∧ (parseMethodDescriptor yX11_wear.desc).map (fun d => d.parameters.length) = some 1 := by decide +kernel
theorem dt_X12_ambush : yX12_ambush.cls ≠ "java/lang/invoke/MethodHandle" ∧ yX12_ambush.cls ≠ "java/lang/invoke/VarHandle" ∧ (parseMethodDescriptor yX12_ambush.desc).map (fun d => d.parameters.length) = some 3 := by decide +kernel
theorem dt_X12_back : yX12_back.cls ≠ "java/lang/invoke/MethodHandle" ∧ yX12_back.cls ≠ "java/lang/invoke/VarHandle" ∧ (parseMethodDescriptor yX12_back.desc).map (fun d => d.parameters.length) = some 0 := by decide +kernel
theorem dt_X12_best : yX12_best.cls ≠ "java/lang/invoke/MethodHandle" ∧ yX12_best.cls ≠ "java/lang/invoke/VarHandle" ∧ (parseMethodDescriptor yX12_best.desc).map (fun d => d.parameters.length) = some 4 := by decide +kernel
theorem dt_X12_cast : yX12_cast.cls ≠ "java/lang/invoke/MethodHandle" ∧ yX12_cast.cls ≠ "java/lang/invoke/VarHandle" ∧ (parseMethodDescriptor yX12_cast.desc).map (fun d => d.parameters.length) = some 2 := by decide +kernel
theorem dt_X12_count : yX12_count.cls ≠ "java/lang/invoke/MethodHandle" ∧ yX12_count.cls ≠ "java/lang/invoke/VarHandle" ∧ (parseMethodDescriptor yX12_count.desc).map (fun d => d.parameters.length) = some 1 := by decide +kernel
theorem dt_X12_dig : yX12_dig.cls ≠ "java/lang/invoke/MethodHandle" ∧ yX12_dig.cls ≠ "java/lang/invoke/VarHandle" ∧ (parseMethodDescriptor yX12_dig.desc).map (fun d => d.parameters.length) = some 1 := by decide +kernel
theorem dt_X12_dry : yX12_dry.cls ≠ "java/lang/invoke/MethodHandle" ∧ yX12_dry.cls ≠ "java/lang/invoke/VarHandle" ∧ (parseMethodDescriptor yX12_dry.desc).map (fun d => d.parameters.length) = some 1 := by decide +kernel
theorem dt_X12_end : yX12_end.cls ≠ "java/lang/invoke/MethodHandle" ∧ yX12_end.cls ≠ "java/lang/invoke/VarHandle" ∧ (parseMethodDescriptor yX12_end.desc).map (fun d => d.parameters.length) = some 1 := by decide +kernel
theorem dt_X12_fault : yX12_fault.cls ≠ "java/lang/invoke/MethodHandle" ∧ yX12_fault.cls ≠ "java/lang/invoke/VarHandle" ∧ (parseMethodDescriptor yX12_fault.desc).map (fun d => d.parameters.length) = some 1 := by decide +kernel
theorem dt_X12_feed : yX12_feed.cls ≠ "java/lang/invoke/MethodHandle" ∧ yX12_feed.cls ≠ "java/lang/invoke/VarHandle" ∧ (parseMethodDescriptor yX12_feed.desc).map (fun d => d.parameters.length) = some 5 := by decide +kernel
theorem dt_X12_foe : yX12_foe.cls ≠ "java/lang/invoke/MethodHandle" ∧ yX12_foe.cls ≠ "java/lang/invoke/VarHandle" ∧ (parseMethodDescriptor yX12_foe.desc).map (fun d => d.parameters.length) = some 2 := by decide +kernel
theorem dt_X12_hears : yX12_hears.cls ≠ "java/lang/invoke/MethodHandle" ∧ yX12_hears.cls ≠ "java/lang/invoke/VarHandle" ∧ (parseMethodDescriptor yX12_hears.desc).map (fun d => d.parameters.length) = some 1 := by decide +kernel
theorem dt_X12_hour : yX12_hour.cls ≠ "java/lang/invoke/MethodHandle" ∧ yX12_hour.cls ≠ "java/lang/invoke/VarHandle" ∧ (parseMethodDescriptor yX12_hour.desc).map (fun d => d.parameters.length) = some 1 := by decide +kernel
theorem dt_X12_image : yX12_image.cls ≠ "java/lang/invoke/MethodHandle" ∧ yX12_image.cls ≠ "java/lang/invoke/VarHandle" ∧ (parseMethodDescriptor yX12_image.desc).map (fun d => d.parameters.length) = some 0 := by decide +kernel
theorem dt_X12_join : yX12_join.cls ≠ "java/lang/invoke/MethodHandle" ∧ yX12_join.cls ≠ "java/lang/invoke/VarHandle" ∧ (parseMethodDescriptor yX12_join.desc).map (fun d => d.parameters.length) = some 2 := by decide +kernel
theorem dt_X12_journeys : yX12_journeys.cls ≠ "java/lang/invoke/MethodHandle" ∧ yX12_journeys.cls ≠ "java/lang/invoke/VarHandle" ∧ (parseMethodDescriptor yX12_journeys.desc).map (fun d => d.parameters.length) = some 2 := by decide +kernel
theorem dt_X12_knows : yX12_knows.cls ≠ "java/lang/invoke/MethodHandle" ∧ yX12_knows.cls ≠ "java/lang/invoke/VarHandle" ∧ (parseMethodDescriptor yX12_knows.desc).map (fun d => d.parameters.length) = some 1 := by decide +kernel
theorem dt_X12_law : yX12_law.cls ≠ "java/lang/invoke/MethodHandle" ∧ yX12_law.cls ≠ "java/lang/invoke/VarHandle" ∧ (parseMethodDescriptor yX12_law.desc).map (fun d => d.parameters.length) = some 1 := by decide +kernel
theorem dt_X12_log : yX12_log.cls ≠ "java/lang/invoke/MethodHandle" ∧ yX12_log.cls ≠ "java/lang/invoke/VarHandle" ∧ (parseMethodDescriptor yX12_log.desc).map (fun d => d.parameters.length) = some 2 := by decide +kernel
theorem dt_X12_march : yX12_march.cls ≠ "java/lang/invoke/MethodHandle" ∧ yX12_march.cls ≠ "java/lang/invoke/VarHandle" ∧ (parseMethodDescriptor yX12_march.desc).map (fun d => d.parameters.length) = some 2 := by decide +kernel
theorem dt_X12_perform : yX12_perform.cls ≠ "java/lang/invoke/MethodHandle" ∧ yX12_perform.cls ≠ "java/lang/invoke/VarHandle" ∧ (parseMethodDescriptor yX12_perform.desc).map (fun d => d.parameters.length) = some 1 := by decide +kernel
theorem dt_X12_pickets : yX12_pickets.cls ≠ "java/lang/invoke/MethodHandle" ∧ yX12_pickets.cls ≠ "java/lang/invoke/VarHandle" ∧ (parseMethodDescriptor yX12_pickets.desc).map (fun d => d.parameters.length) = some 4 := by decide +kernel
theorem dt_X12_rained : yX12_rained.cls ≠ "java/lang/invoke/MethodHandle" ∧ yX12_rained.cls ≠ "java/lang/invoke/VarHandle" ∧ (parseMethodDescriptor yX12_rained.desc).map (fun d => d.parameters.length) = some 3 := by decide +kernel
theorem dt_X12_reach : yX12_reach.cls ≠ "java/lang/invoke/MethodHandle" ∧ yX12_reach.cls ≠ "java/lang/invoke/VarHandle" ∧ (parseMethodDescriptor yX12_reach.desc).map (fun d => d.parameters.length) = some 2 := by decide +kernel
theorem dt_X12_run : yX12_run.cls ≠ "java/lang/invoke/MethodHandle" ∧ yX12_run.cls ≠ "java/lang/invoke/VarHandle" ∧ (parseMethodDescriptor yX12_run.desc).map (fun d => d.parameters.length) = some 2 := by decide +kernel
theorem dt_X12_sky : yX12_sky.cls ≠ "java/lang/invoke/MethodHandle" ∧ yX12_sky.cls ≠ "java/lang/invoke/VarHandle" ∧ (parseMethodDescriptor yX12_sky.desc).map (fun d => d.parameters.length) = some 3 := by decide +kernel
theorem dt_X12_spot : yX12_spot.cls ≠ "java/lang/invoke/MethodHandle" ∧ yX12_spot.cls ≠ "java/lang/invoke/VarHandle" ∧ (parseMethodDescriptor yX12_spot.desc).map (fun d => d.parameters.length) = some 2 := by decide +kernel
theorem dt_X12_step : yX12_step.cls ≠ "java/lang/invoke/MethodHandle" ∧ yX12_step.cls ≠ "java/lang/invoke/VarHandle" ∧ (parseMethodDescriptor yX12_step.desc).map (fun d => d.parameters.length) = some 3 := by decide +kernel
theorem dt_X12_stock : yX12_stock.cls ≠ "java/lang/invoke/MethodHandle" ∧ yX12_stock.cls ≠ "java/lang/invoke/VarHandle" ∧ (parseMethodDescriptor yX12_stock.desc).map (fun d => d.parameters.length) = some 2 := by decide +kernel
theorem dt_X12_streak : yX12_streak.cls ≠ "java/lang/invoke/MethodHandle" ∧ yX12_streak.cls ≠ "java/lang/invoke/VarHandle" ∧ (parseMethodDescriptor yX12_streak.desc).map (fun d => d.parameters.length) = some 2 := by decide +kernel
theorem dt_X12_text : yX12_text.cls ≠ "java/lang/invoke/MethodHandle" ∧ yX12_text.cls ≠ "java/lang/invoke/VarHandle" ∧ (parseMethodDescriptor yX12_text.desc).map (fun d => d.parameters.length) = some 1 := by decide +kernel
theorem dt_X12_undo : yX12_undo.cls ≠ "java/lang/invoke/MethodHandle" ∧ yX12_undo.cls ≠ "java/lang/invoke/VarHandle" ∧ (parseMethodDescriptor yX12_undo.desc).map (fun d => d.parameters.length) = some 0 := by decide +kernel
theorem dt_X12_waits : yX12_waits.cls ≠ "java/lang/invoke/MethodHandle" ∧ yX12_waits.cls ≠ "java/lang/invoke/VarHandle" ∧ (parseMethodDescriptor yX12_waits.desc).map (fun d => d.parameters.length) = some 3 := by decide +kernel
theorem dt_X12_war : yX12_war.cls ≠ "java/lang/invoke/MethodHandle" ∧ yX12_war.cls ≠ "java/lang/invoke/VarHandle" ∧ (parseMethodDescriptor yX12_war.desc).map (fun d => d.parameters.length) = some 2 := by decide +kernel
theorem dt_X12_way : yX12_way.cls ≠ "java/lang/invoke/MethodHandle" ∧ yX12_way.cls ≠ "java/lang/invoke/VarHandle" ∧ (parseMethodDescriptor yX12_way.desc).map (fun d => d.parameters.length) = some 2 := by decide +kernel
theorem dt_X12_weakest : yX12_weakest.cls ≠ "java/lang/invoke/MethodHandle" ∧ yX12_weakest.cls ≠ "java/lang/invoke/VarHandle" ∧ (parseMethodDescriptor yX12_weakest.desc).map (fun d => d.parameters.length) = some 0 := by decide +kernel
theorem dt_X12_wear : yX12_wear.cls ≠ "java/lang/invoke/MethodHandle" ∧ yX12_wear.cls ≠ "java/lang/invoke/VarHandle" ∧ (parseMethodDescriptor yX12_wear.desc).map (fun d => d.parameters.length) = some 1 := by decide +kernel
theorem lw_ix {L i k : Nat} (hi : i + 6 ≤ L ∧ L ≤ 3072) (hk : k < 6) : nI i + nI k = nI (i + k) := nI_add i k
theorem lw_in {L i : Nat} {k : Nat} (hi : i + 6 ≤ L ∧ L ≤ 3072) (hk : k < 6) : vp_in (nI i + (nI k)) L := by
  rw [nI_add]
  exact vp_in_nI (by omega) (by omega)
theorem lw_at {L i k : Nat} {xs : Nat → Int32} (hi : i + 6 ≤ L ∧ L ≤ 3072) (hk : k < 6) : xs (nI i + (nI k)).toNatClampNeg = xs (i + k) := by
  rw [nI_add, nI_clamp (by omega)]
section SALAW2
variable {p : Program} {l : Launch} {e : Env} {s : State} {m : MethodId} {b : Nat} {below : List Frame} {meth : Method} {c : Code} {D : va_G} {ad : Nat → Nat} {cA : FieldType → ClassId} {K : Nat} {σ : sa_St} {pc : Nat} {lv : List (Nat × Value)} {st : List Value}
theorem ls_nz (C : sa_C p s m #[Value.ref b] meth c code R_law "law" 7 ret D ad cA (fun q : Nat => s.heap.size ≤ q)) {x : Int32} {off off2 : Int} {tgt J : Nat} (hd : decode code pc = .ok (.ifCond .eq off, 3)) (ht : (pc : Int) + off = (tgt : Int)) (hd1 : decode code (pc + 3) = .ok (.iconst 1, 1)) (hd2 : decode code (pc + 4) = .ok (.goto off2, 3)) (ht2 : ((pc + 4 : Nat) : Int) + off2 = (J : Int)) (hd3 : decode code tgt = .ok (.iconst 0, 1)) (hJ : tgt + 1 = J) (kk : lw_S p l e s m b below meth c D ad cA (K) σ J lv (.int (if x = 0 then 0 else 1) :: st)) : lw_S p l e s m b below meth c D ad cA (K) σ pc lv (.int x :: st) := by
  refine ls_if_eq C hd ht (fun h => ?_) (fun h => ?_)
  · refine ls_iconst (v := 0) C hd3 (by decide) ?_
    rw [if_pos h] at kk
    rw [hJ]
    exact kk
  · refine ls_iconst (v := 1) C hd1 (by decide) ?_
    refine ls_goto C hd2 ht2 ?_
    rw [if_neg h] at kk
    exact kk
end SALAW2
