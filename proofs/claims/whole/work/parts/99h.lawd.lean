/-! the law: its instructions (printed by wip/whole/law.py) -/
theorem d_law_0 : decode code 0 = .ok ((.new 7), 3) := by decide +kernel
theorem d_law_3 : decode code 3 = .ok (.dup, 1) := by decide +kernel
theorem d_law_4 : decode code 4 = .ok ((.invokespecial 9), 3) := by decide +kernel
theorem d_law_7 : decode code 7 = .ok ((.astore_n 1), 1) := by decide +kernel
theorem d_law_8 : decode code 8 = .ok ((.new 10), 3) := by decide +kernel
theorem d_law_11 : decode code 11 = .ok (.dup, 1) := by decide +kernel
theorem d_law_12 : decode code 12 = .ok ((.invokespecial 12), 3) := by decide +kernel
theorem d_law_15 : decode code 15 = .ok ((.astore_n 2), 1) := by decide +kernel
theorem d_law_16 : decode code 16 = .ok ((.iconst 0), 1) := by decide +kernel
theorem d_law_17 : decode code 17 = .ok ((.istore_n 3), 1) := by decide +kernel
theorem d_law_18 : decode code 18 = .ok ((.iload_n 3), 1) := by decide +kernel
theorem d_law_19 : decode code 19 = .ok ((.aload_n 0), 1) := by decide +kernel
theorem d_law_20 : decode code 20 = .ok (.arraylength, 1) := by decide +kernel
theorem d_law_21 : decode code 21 = .ok ((.bipush 8), 2) := by decide +kernel
theorem d_law_23 : decode code 23 = .ok (.isub, 1) := by decide +kernel
theorem d_law_24 : decode code 24 = .ok ((.if_icmp .gt 2047), 3) := by decide +kernel
theorem d_law_27 : decode code 27 = .ok ((.aload_n 0), 1) := by decide +kernel
theorem d_law_28 : decode code 28 = .ok ((.iload_n 3), 1) := by decide +kernel
theorem d_law_29 : decode code 29 = .ok (.iaload, 1) := by decide +kernel
theorem d_law_30 : decode code 30 = .ok ((.bipush 63), 2) := by decide +kernel
theorem d_law_32 : decode code 32 = .ok (.iand, 1) := by decide +kernel
theorem d_law_33 : decode code 33 = .ok ((.tableswitch 2032 0 43 #[191, 254, 277, 290, 303, 336, 369, 412, 515, 568, 621, 674, 765, 819, 898, 957, 980, 1013, 1082, 1151, 1184, 1234, 1284, 1317, 1340, 1373, 1422, 1455, 1478, 1501, 1534, 1557, 1600, 1633, 1666, 1689, 1732, 1755, 1804, 1867, 1920, 1963, 1986, 2009]), 191) := by decide +kernel
theorem d_law_224 : decode code 224 = .ok ((.aload_n 1), 1) := by decide +kernel
theorem d_law_225 : decode code 225 = .ok ((.aload_n 0), 1) := by decide +kernel
theorem d_law_226 : decode code 226 = .ok ((.iload_n 3), 1) := by decide +kernel
theorem d_law_227 : decode code 227 = .ok ((.iconst 1), 1) := by decide +kernel
theorem d_law_228 : decode code 228 = .ok (.iadd, 1) := by decide +kernel
theorem d_law_229 : decode code 229 = .ok (.iaload, 1) := by decide +kernel
theorem d_law_230 : decode code 230 = .ok ((.aload_n 0), 1) := by decide +kernel
theorem d_law_231 : decode code 231 = .ok ((.iload_n 3), 1) := by decide +kernel
theorem d_law_232 : decode code 232 = .ok ((.iconst 2), 1) := by decide +kernel
theorem d_law_233 : decode code 233 = .ok (.iadd, 1) := by decide +kernel
theorem d_law_234 : decode code 234 = .ok (.iaload, 1) := by decide +kernel
theorem d_law_235 : decode code 235 = .ok ((.aload_n 0), 1) := by decide +kernel
theorem d_law_236 : decode code 236 = .ok ((.iload_n 3), 1) := by decide +kernel
theorem d_law_237 : decode code 237 = .ok ((.iconst 3), 1) := by decide +kernel
theorem d_law_238 : decode code 238 = .ok (.iadd, 1) := by decide +kernel
theorem d_law_239 : decode code 239 = .ok (.iaload, 1) := by decide +kernel
theorem d_law_240 : decode code 240 = .ok ((.aload_n 0), 1) := by decide +kernel
theorem d_law_241 : decode code 241 = .ok ((.iload_n 3), 1) := by decide +kernel
theorem d_law_242 : decode code 242 = .ok ((.iconst 4), 1) := by decide +kernel
theorem d_law_243 : decode code 243 = .ok (.iadd, 1) := by decide +kernel
theorem d_law_244 : decode code 244 = .ok (.iaload, 1) := by decide +kernel
theorem d_law_245 : decode code 245 = .ok ((.aload_n 0), 1) := by decide +kernel
theorem d_law_246 : decode code 246 = .ok ((.iload_n 3), 1) := by decide +kernel
theorem d_law_247 : decode code 247 = .ok ((.iconst 5), 1) := by decide +kernel
theorem d_law_248 : decode code 248 = .ok (.iadd, 1) := by decide +kernel
theorem d_law_249 : decode code 249 = .ok (.iaload, 1) := by decide +kernel
theorem d_law_250 : decode code 250 = .ok ((.invokevirtual 13), 3) := by decide +kernel
theorem d_law_253 : decode code 253 = .ok ((.aload_n 2), 1) := by decide +kernel
theorem d_law_254 : decode code 254 = .ok ((.aload_n 0), 1) := by decide +kernel
theorem d_law_255 : decode code 255 = .ok ((.iload_n 3), 1) := by decide +kernel
theorem d_law_256 : decode code 256 = .ok ((.iconst 1), 1) := by decide +kernel
theorem d_law_257 : decode code 257 = .ok (.iadd, 1) := by decide +kernel
theorem d_law_258 : decode code 258 = .ok (.iaload, 1) := by decide +kernel
theorem d_law_259 : decode code 259 = .ok ((.aload_n 0), 1) := by decide +kernel
theorem d_law_260 : decode code 260 = .ok ((.iload_n 3), 1) := by decide +kernel
theorem d_law_261 : decode code 261 = .ok ((.iconst 2), 1) := by decide +kernel
theorem d_law_262 : decode code 262 = .ok (.iadd, 1) := by decide +kernel
theorem d_law_263 : decode code 263 = .ok (.iaload, 1) := by decide +kernel
theorem d_law_264 : decode code 264 = .ok ((.aload_n 0), 1) := by decide +kernel
theorem d_law_265 : decode code 265 = .ok ((.iload_n 3), 1) := by decide +kernel
theorem d_law_266 : decode code 266 = .ok ((.iconst 3), 1) := by decide +kernel
theorem d_law_267 : decode code 267 = .ok (.iadd, 1) := by decide +kernel
theorem d_law_268 : decode code 268 = .ok (.iaload, 1) := by decide +kernel
theorem d_law_269 : decode code 269 = .ok ((.aload_n 0), 1) := by decide +kernel
theorem d_law_270 : decode code 270 = .ok ((.iload_n 3), 1) := by decide +kernel
theorem d_law_271 : decode code 271 = .ok ((.iconst 4), 1) := by decide +kernel
theorem d_law_272 : decode code 272 = .ok (.iadd, 1) := by decide +kernel
theorem d_law_273 : decode code 273 = .ok (.iaload, 1) := by decide +kernel
theorem d_law_274 : decode code 274 = .ok ((.aload_n 0), 1) := by decide +kernel
theorem d_law_275 : decode code 275 = .ok ((.iload_n 3), 1) := by decide +kernel
theorem d_law_276 : decode code 276 = .ok ((.iconst 5), 1) := by decide +kernel
theorem d_law_277 : decode code 277 = .ok (.iadd, 1) := by decide +kernel
theorem d_law_278 : decode code 278 = .ok (.iaload, 1) := by decide +kernel
theorem d_law_279 : decode code 279 = .ok ((.invokevirtual 17), 3) := by decide +kernel
theorem d_law_282 : decode code 282 = .ok ((.if_icmp .eq 1783), 3) := by decide +kernel
theorem d_law_285 : decode code 285 = .ok ((.iconst 0), 1) := by decide +kernel
theorem d_law_286 : decode code 286 = .ok (.ireturn, 1) := by decide +kernel
theorem d_law_287 : decode code 287 = .ok ((.aload_n 1), 1) := by decide +kernel
theorem d_law_288 : decode code 288 = .ok ((.aload_n 0), 1) := by decide +kernel
theorem d_law_289 : decode code 289 = .ok ((.iload_n 3), 1) := by decide +kernel
theorem d_law_290 : decode code 290 = .ok ((.iconst 1), 1) := by decide +kernel
theorem d_law_291 : decode code 291 = .ok (.iadd, 1) := by decide +kernel
theorem d_law_292 : decode code 292 = .ok (.iaload, 1) := by decide +kernel
theorem d_law_293 : decode code 293 = .ok ((.invokevirtual 18), 3) := by decide +kernel
theorem d_law_296 : decode code 296 = .ok ((.aload_n 2), 1) := by decide +kernel
theorem d_law_297 : decode code 297 = .ok ((.aload_n 0), 1) := by decide +kernel
theorem d_law_298 : decode code 298 = .ok ((.iload_n 3), 1) := by decide +kernel
theorem d_law_299 : decode code 299 = .ok ((.iconst 1), 1) := by decide +kernel
theorem d_law_300 : decode code 300 = .ok (.iadd, 1) := by decide +kernel
theorem d_law_301 : decode code 301 = .ok (.iaload, 1) := by decide +kernel
theorem d_law_302 : decode code 302 = .ok ((.invokevirtual 22), 3) := by decide +kernel
theorem d_law_305 : decode code 305 = .ok ((.if_icmp .eq 1760), 3) := by decide +kernel
theorem d_law_308 : decode code 308 = .ok ((.iconst 0), 1) := by decide +kernel
theorem d_law_309 : decode code 309 = .ok (.ireturn, 1) := by decide +kernel
theorem d_law_310 : decode code 310 = .ok ((.aload_n 1), 1) := by decide +kernel
theorem d_law_311 : decode code 311 = .ok ((.invokevirtual 23), 3) := by decide +kernel
theorem d_law_314 : decode code 314 = .ok ((.aload_n 2), 1) := by decide +kernel
theorem d_law_315 : decode code 315 = .ok ((.invokevirtual 27), 3) := by decide +kernel
theorem d_law_318 : decode code 318 = .ok ((.if_icmp .eq 1747), 3) := by decide +kernel
theorem d_law_321 : decode code 321 = .ok ((.iconst 0), 1) := by decide +kernel
theorem d_law_322 : decode code 322 = .ok (.ireturn, 1) := by decide +kernel
theorem d_law_323 : decode code 323 = .ok ((.aload_n 1), 1) := by decide +kernel
theorem d_law_324 : decode code 324 = .ok ((.invokevirtual 28), 3) := by decide +kernel
theorem d_law_327 : decode code 327 = .ok ((.aload_n 2), 1) := by decide +kernel
theorem d_law_328 : decode code 328 = .ok ((.invokevirtual 31), 3) := by decide +kernel
theorem d_law_331 : decode code 331 = .ok ((.if_icmp .eq 1734), 3) := by decide +kernel
theorem d_law_334 : decode code 334 = .ok ((.iconst 0), 1) := by decide +kernel
theorem d_law_335 : decode code 335 = .ok (.ireturn, 1) := by decide +kernel
theorem d_law_336 : decode code 336 = .ok ((.aload_n 1), 1) := by decide +kernel
theorem d_law_337 : decode code 337 = .ok ((.aload_n 0), 1) := by decide +kernel
theorem d_law_338 : decode code 338 = .ok ((.iload_n 3), 1) := by decide +kernel
theorem d_law_339 : decode code 339 = .ok ((.iconst 1), 1) := by decide +kernel
theorem d_law_340 : decode code 340 = .ok (.iadd, 1) := by decide +kernel
theorem d_law_341 : decode code 341 = .ok (.iaload, 1) := by decide +kernel
theorem d_law_342 : decode code 342 = .ok ((.aload_n 0), 1) := by decide +kernel
theorem d_law_343 : decode code 343 = .ok ((.iload_n 3), 1) := by decide +kernel
theorem d_law_344 : decode code 344 = .ok ((.iconst 2), 1) := by decide +kernel
theorem d_law_345 : decode code 345 = .ok (.iadd, 1) := by decide +kernel
theorem d_law_346 : decode code 346 = .ok (.iaload, 1) := by decide +kernel
theorem d_law_347 : decode code 347 = .ok ((.invokevirtual 32), 3) := by decide +kernel
theorem d_law_350 : decode code 350 = .ok ((.aload_n 2), 1) := by decide +kernel
theorem d_law_351 : decode code 351 = .ok ((.aload_n 0), 1) := by decide +kernel
theorem d_law_352 : decode code 352 = .ok ((.iload_n 3), 1) := by decide +kernel
theorem d_law_353 : decode code 353 = .ok ((.iconst 1), 1) := by decide +kernel
theorem d_law_354 : decode code 354 = .ok (.iadd, 1) := by decide +kernel
theorem d_law_355 : decode code 355 = .ok (.iaload, 1) := by decide +kernel
theorem d_law_356 : decode code 356 = .ok ((.aload_n 0), 1) := by decide +kernel
theorem d_law_357 : decode code 357 = .ok ((.iload_n 3), 1) := by decide +kernel
theorem d_law_358 : decode code 358 = .ok ((.iconst 2), 1) := by decide +kernel
theorem d_law_359 : decode code 359 = .ok (.iadd, 1) := by decide +kernel
theorem d_law_360 : decode code 360 = .ok (.iaload, 1) := by decide +kernel
theorem d_law_361 : decode code 361 = .ok ((.invokevirtual 36), 3) := by decide +kernel
theorem d_law_364 : decode code 364 = .ok ((.if_icmp .eq 1701), 3) := by decide +kernel
theorem d_law_367 : decode code 367 = .ok ((.iconst 0), 1) := by decide +kernel
theorem d_law_368 : decode code 368 = .ok (.ireturn, 1) := by decide +kernel
theorem d_law_369 : decode code 369 = .ok ((.aload_n 1), 1) := by decide +kernel
theorem d_law_370 : decode code 370 = .ok ((.aload_n 0), 1) := by decide +kernel
theorem d_law_371 : decode code 371 = .ok ((.iload_n 3), 1) := by decide +kernel
theorem d_law_372 : decode code 372 = .ok ((.iconst 1), 1) := by decide +kernel
theorem d_law_373 : decode code 373 = .ok (.iadd, 1) := by decide +kernel
theorem d_law_374 : decode code 374 = .ok (.iaload, 1) := by decide +kernel
theorem d_law_375 : decode code 375 = .ok ((.aload_n 0), 1) := by decide +kernel
theorem d_law_376 : decode code 376 = .ok ((.iload_n 3), 1) := by decide +kernel
theorem d_law_377 : decode code 377 = .ok ((.iconst 2), 1) := by decide +kernel
theorem d_law_378 : decode code 378 = .ok (.iadd, 1) := by decide +kernel
theorem d_law_379 : decode code 379 = .ok (.iaload, 1) := by decide +kernel
theorem d_law_380 : decode code 380 = .ok ((.invokevirtual 37), 3) := by decide +kernel
theorem d_law_383 : decode code 383 = .ok ((.aload_n 2), 1) := by decide +kernel
theorem d_law_384 : decode code 384 = .ok ((.aload_n 0), 1) := by decide +kernel
theorem d_law_385 : decode code 385 = .ok ((.iload_n 3), 1) := by decide +kernel
theorem d_law_386 : decode code 386 = .ok ((.iconst 1), 1) := by decide +kernel
theorem d_law_387 : decode code 387 = .ok (.iadd, 1) := by decide +kernel
theorem d_law_388 : decode code 388 = .ok (.iaload, 1) := by decide +kernel
theorem d_law_389 : decode code 389 = .ok ((.aload_n 0), 1) := by decide +kernel
theorem d_law_390 : decode code 390 = .ok ((.iload_n 3), 1) := by decide +kernel
theorem d_law_391 : decode code 391 = .ok ((.iconst 2), 1) := by decide +kernel
theorem d_law_392 : decode code 392 = .ok (.iadd, 1) := by decide +kernel
theorem d_law_393 : decode code 393 = .ok (.iaload, 1) := by decide +kernel
theorem d_law_394 : decode code 394 = .ok ((.invokevirtual 40), 3) := by decide +kernel
theorem d_law_397 : decode code 397 = .ok ((.if_icmp .eq 1668), 3) := by decide +kernel
theorem d_law_400 : decode code 400 = .ok ((.iconst 0), 1) := by decide +kernel
theorem d_law_401 : decode code 401 = .ok (.ireturn, 1) := by decide +kernel
theorem d_law_402 : decode code 402 = .ok ((.aload_n 1), 1) := by decide +kernel
theorem d_law_403 : decode code 403 = .ok ((.aload_n 0), 1) := by decide +kernel
theorem d_law_404 : decode code 404 = .ok ((.iload_n 3), 1) := by decide +kernel
theorem d_law_405 : decode code 405 = .ok ((.iconst 1), 1) := by decide +kernel
theorem d_law_406 : decode code 406 = .ok (.iadd, 1) := by decide +kernel
theorem d_law_407 : decode code 407 = .ok (.iaload, 1) := by decide +kernel
theorem d_law_408 : decode code 408 = .ok ((.aload_n 0), 1) := by decide +kernel
theorem d_law_409 : decode code 409 = .ok ((.iload_n 3), 1) := by decide +kernel
theorem d_law_410 : decode code 410 = .ok ((.iconst 2), 1) := by decide +kernel
theorem d_law_411 : decode code 411 = .ok (.iadd, 1) := by decide +kernel
theorem d_law_412 : decode code 412 = .ok (.iaload, 1) := by decide +kernel
theorem d_law_413 : decode code 413 = .ok ((.aload_n 0), 1) := by decide +kernel
theorem d_law_414 : decode code 414 = .ok ((.iload_n 3), 1) := by decide +kernel
theorem d_law_415 : decode code 415 = .ok ((.iconst 3), 1) := by decide +kernel
theorem d_law_416 : decode code 416 = .ok (.iadd, 1) := by decide +kernel
theorem d_law_417 : decode code 417 = .ok (.iaload, 1) := by decide +kernel
theorem d_law_418 : decode code 418 = .ok ((.invokevirtual 41), 3) := by decide +kernel
theorem d_law_421 : decode code 421 = .ok ((.aload_n 2), 1) := by decide +kernel
theorem d_law_422 : decode code 422 = .ok ((.aload_n 0), 1) := by decide +kernel
theorem d_law_423 : decode code 423 = .ok ((.iload_n 3), 1) := by decide +kernel
theorem d_law_424 : decode code 424 = .ok ((.iconst 1), 1) := by decide +kernel
theorem d_law_425 : decode code 425 = .ok (.iadd, 1) := by decide +kernel
theorem d_law_426 : decode code 426 = .ok (.iaload, 1) := by decide +kernel
theorem d_law_427 : decode code 427 = .ok ((.aload_n 0), 1) := by decide +kernel
theorem d_law_428 : decode code 428 = .ok ((.iload_n 3), 1) := by decide +kernel
theorem d_law_429 : decode code 429 = .ok ((.iconst 2), 1) := by decide +kernel
theorem d_law_430 : decode code 430 = .ok (.iadd, 1) := by decide +kernel
theorem d_law_431 : decode code 431 = .ok (.iaload, 1) := by decide +kernel
theorem d_law_432 : decode code 432 = .ok ((.aload_n 0), 1) := by decide +kernel
theorem d_law_433 : decode code 433 = .ok ((.iload_n 3), 1) := by decide +kernel
theorem d_law_434 : decode code 434 = .ok ((.iconst 3), 1) := by decide +kernel
theorem d_law_435 : decode code 435 = .ok (.iadd, 1) := by decide +kernel
theorem d_law_436 : decode code 436 = .ok (.iaload, 1) := by decide +kernel
theorem d_law_437 : decode code 437 = .ok ((.invokevirtual 45), 3) := by decide +kernel
theorem d_law_440 : decode code 440 = .ok ((.if_icmp .eq 1625), 3) := by decide +kernel
theorem d_law_443 : decode code 443 = .ok ((.iconst 0), 1) := by decide +kernel
theorem d_law_444 : decode code 444 = .ok (.ireturn, 1) := by decide +kernel
theorem d_law_445 : decode code 445 = .ok ((.aload_n 1), 1) := by decide +kernel
theorem d_law_446 : decode code 446 = .ok ((.aload_n 0), 1) := by decide +kernel
theorem d_law_447 : decode code 447 = .ok ((.iload_n 3), 1) := by decide +kernel
theorem d_law_448 : decode code 448 = .ok ((.iconst 1), 1) := by decide +kernel
theorem d_law_449 : decode code 449 = .ok (.iadd, 1) := by decide +kernel
theorem d_law_450 : decode code 450 = .ok (.iaload, 1) := by decide +kernel
theorem d_law_451 : decode code 451 = .ok ((.aload_n 0), 1) := by decide +kernel
theorem d_law_452 : decode code 452 = .ok ((.iload_n 3), 1) := by decide +kernel
theorem d_law_453 : decode code 453 = .ok ((.iconst 2), 1) := by decide +kernel
theorem d_law_454 : decode code 454 = .ok (.iadd, 1) := by decide +kernel
theorem d_law_455 : decode code 455 = .ok (.iaload, 1) := by decide +kernel
theorem d_law_456 : decode code 456 = .ok ((.aload_n 0), 1) := by decide +kernel
theorem d_law_457 : decode code 457 = .ok ((.iload_n 3), 1) := by decide +kernel
theorem d_law_458 : decode code 458 = .ok ((.iconst 3), 1) := by decide +kernel
theorem d_law_459 : decode code 459 = .ok (.iadd, 1) := by decide +kernel
theorem d_law_460 : decode code 460 = .ok (.iaload, 1) := by decide +kernel
theorem d_law_461 : decode code 461 = .ok ((.aload_n 0), 1) := by decide +kernel
theorem d_law_462 : decode code 462 = .ok ((.iload_n 3), 1) := by decide +kernel
theorem d_law_463 : decode code 463 = .ok ((.iconst 4), 1) := by decide +kernel
theorem d_law_464 : decode code 464 = .ok (.iadd, 1) := by decide +kernel
theorem d_law_465 : decode code 465 = .ok (.iaload, 1) := by decide +kernel
theorem d_law_466 : decode code 466 = .ok ((.aload_n 0), 1) := by decide +kernel
theorem d_law_467 : decode code 467 = .ok ((.iload_n 3), 1) := by decide +kernel
theorem d_law_468 : decode code 468 = .ok ((.iconst 5), 1) := by decide +kernel
theorem d_law_469 : decode code 469 = .ok (.iadd, 1) := by decide +kernel
theorem d_law_470 : decode code 470 = .ok (.iaload, 1) := by decide +kernel
theorem d_law_471 : decode code 471 = .ok ((.ifCond .eq 7), 3) := by decide +kernel
theorem d_law_474 : decode code 474 = .ok ((.iconst 1), 1) := by decide +kernel
theorem d_law_475 : decode code 475 = .ok ((.goto 4), 3) := by decide +kernel
theorem d_law_478 : decode code 478 = .ok ((.iconst 0), 1) := by decide +kernel
theorem d_law_479 : decode code 479 = .ok ((.aload_n 0), 1) := by decide +kernel
theorem d_law_480 : decode code 480 = .ok ((.iload_n 3), 1) := by decide +kernel
theorem d_law_481 : decode code 481 = .ok ((.bipush 6), 2) := by decide +kernel
theorem d_law_483 : decode code 483 = .ok (.iadd, 1) := by decide +kernel
theorem d_law_484 : decode code 484 = .ok (.iaload, 1) := by decide +kernel
theorem d_law_485 : decode code 485 = .ok ((.aload_n 0), 1) := by decide +kernel
theorem d_law_486 : decode code 486 = .ok ((.iload_n 3), 1) := by decide +kernel
theorem d_law_487 : decode code 487 = .ok ((.bipush 7), 2) := by decide +kernel
theorem d_law_489 : decode code 489 = .ok (.iadd, 1) := by decide +kernel
theorem d_law_490 : decode code 490 = .ok (.iaload, 1) := by decide +kernel
theorem d_law_491 : decode code 491 = .ok ((.invokevirtual 46), 3) := by decide +kernel
theorem d_law_494 : decode code 494 = .ok ((.aload_n 2), 1) := by decide +kernel
theorem d_law_495 : decode code 495 = .ok ((.aload_n 0), 1) := by decide +kernel
theorem d_law_496 : decode code 496 = .ok ((.iload_n 3), 1) := by decide +kernel
theorem d_law_497 : decode code 497 = .ok ((.iconst 1), 1) := by decide +kernel
theorem d_law_498 : decode code 498 = .ok (.iadd, 1) := by decide +kernel
theorem d_law_499 : decode code 499 = .ok (.iaload, 1) := by decide +kernel
theorem d_law_500 : decode code 500 = .ok ((.aload_n 0), 1) := by decide +kernel
theorem d_law_501 : decode code 501 = .ok ((.iload_n 3), 1) := by decide +kernel
theorem d_law_502 : decode code 502 = .ok ((.iconst 2), 1) := by decide +kernel
theorem d_law_503 : decode code 503 = .ok (.iadd, 1) := by decide +kernel
theorem d_law_504 : decode code 504 = .ok (.iaload, 1) := by decide +kernel
theorem d_law_505 : decode code 505 = .ok ((.aload_n 0), 1) := by decide +kernel
theorem d_law_506 : decode code 506 = .ok ((.iload_n 3), 1) := by decide +kernel
theorem d_law_507 : decode code 507 = .ok ((.iconst 3), 1) := by decide +kernel
theorem d_law_508 : decode code 508 = .ok (.iadd, 1) := by decide +kernel
theorem d_law_509 : decode code 509 = .ok (.iaload, 1) := by decide +kernel
theorem d_law_510 : decode code 510 = .ok ((.aload_n 0), 1) := by decide +kernel
theorem d_law_511 : decode code 511 = .ok ((.iload_n 3), 1) := by decide +kernel
theorem d_law_512 : decode code 512 = .ok ((.iconst 4), 1) := by decide +kernel
theorem d_law_513 : decode code 513 = .ok (.iadd, 1) := by decide +kernel
theorem d_law_514 : decode code 514 = .ok (.iaload, 1) := by decide +kernel
theorem d_law_515 : decode code 515 = .ok ((.aload_n 0), 1) := by decide +kernel
theorem d_law_516 : decode code 516 = .ok ((.iload_n 3), 1) := by decide +kernel
theorem d_law_517 : decode code 517 = .ok ((.iconst 5), 1) := by decide +kernel
theorem d_law_518 : decode code 518 = .ok (.iadd, 1) := by decide +kernel
theorem d_law_519 : decode code 519 = .ok (.iaload, 1) := by decide +kernel
theorem d_law_520 : decode code 520 = .ok ((.ifCond .eq 7), 3) := by decide +kernel
theorem d_law_523 : decode code 523 = .ok ((.iconst 1), 1) := by decide +kernel
theorem d_law_524 : decode code 524 = .ok ((.goto 4), 3) := by decide +kernel
theorem d_law_527 : decode code 527 = .ok ((.iconst 0), 1) := by decide +kernel
theorem d_law_528 : decode code 528 = .ok ((.aload_n 0), 1) := by decide +kernel
theorem d_law_529 : decode code 529 = .ok ((.iload_n 3), 1) := by decide +kernel
theorem d_law_530 : decode code 530 = .ok ((.bipush 6), 2) := by decide +kernel
theorem d_law_532 : decode code 532 = .ok (.iadd, 1) := by decide +kernel
theorem d_law_533 : decode code 533 = .ok (.iaload, 1) := by decide +kernel
theorem d_law_534 : decode code 534 = .ok ((.aload_n 0), 1) := by decide +kernel
theorem d_law_535 : decode code 535 = .ok ((.iload_n 3), 1) := by decide +kernel
theorem d_law_536 : decode code 536 = .ok ((.bipush 7), 2) := by decide +kernel
theorem d_law_538 : decode code 538 = .ok (.iadd, 1) := by decide +kernel
theorem d_law_539 : decode code 539 = .ok (.iaload, 1) := by decide +kernel
theorem d_law_540 : decode code 540 = .ok ((.invokevirtual 50), 3) := by decide +kernel
theorem d_law_543 : decode code 543 = .ok ((.if_icmp .eq 1522), 3) := by decide +kernel
theorem d_law_546 : decode code 546 = .ok ((.iconst 0), 1) := by decide +kernel
theorem d_law_547 : decode code 547 = .ok (.ireturn, 1) := by decide +kernel
theorem d_law_548 : decode code 548 = .ok ((.aload_n 1), 1) := by decide +kernel
theorem d_law_549 : decode code 549 = .ok ((.aload_n 0), 1) := by decide +kernel
theorem d_law_550 : decode code 550 = .ok ((.iload_n 3), 1) := by decide +kernel
theorem d_law_551 : decode code 551 = .ok ((.iconst 1), 1) := by decide +kernel
theorem d_law_552 : decode code 552 = .ok (.iadd, 1) := by decide +kernel
theorem d_law_553 : decode code 553 = .ok (.iaload, 1) := by decide +kernel
theorem d_law_554 : decode code 554 = .ok ((.aload_n 0), 1) := by decide +kernel
theorem d_law_555 : decode code 555 = .ok ((.iload_n 3), 1) := by decide +kernel
theorem d_law_556 : decode code 556 = .ok ((.iconst 2), 1) := by decide +kernel
theorem d_law_557 : decode code 557 = .ok (.iadd, 1) := by decide +kernel
theorem d_law_558 : decode code 558 = .ok (.iaload, 1) := by decide +kernel
theorem d_law_559 : decode code 559 = .ok ((.aload_n 0), 1) := by decide +kernel
theorem d_law_560 : decode code 560 = .ok ((.iload_n 3), 1) := by decide +kernel
theorem d_law_561 : decode code 561 = .ok ((.iconst 3), 1) := by decide +kernel
theorem d_law_562 : decode code 562 = .ok (.iadd, 1) := by decide +kernel
theorem d_law_563 : decode code 563 = .ok (.iaload, 1) := by decide +kernel
theorem d_law_564 : decode code 564 = .ok ((.aload_n 0), 1) := by decide +kernel
theorem d_law_565 : decode code 565 = .ok ((.iload_n 3), 1) := by decide +kernel
theorem d_law_566 : decode code 566 = .ok ((.iconst 4), 1) := by decide +kernel
theorem d_law_567 : decode code 567 = .ok (.iadd, 1) := by decide +kernel
theorem d_law_568 : decode code 568 = .ok (.iaload, 1) := by decide +kernel
theorem d_law_569 : decode code 569 = .ok ((.invokevirtual 51), 3) := by decide +kernel
theorem d_law_572 : decode code 572 = .ok ((.aload_n 2), 1) := by decide +kernel
theorem d_law_573 : decode code 573 = .ok ((.aload_n 0), 1) := by decide +kernel
theorem d_law_574 : decode code 574 = .ok ((.iload_n 3), 1) := by decide +kernel
theorem d_law_575 : decode code 575 = .ok ((.iconst 1), 1) := by decide +kernel
theorem d_law_576 : decode code 576 = .ok (.iadd, 1) := by decide +kernel
theorem d_law_577 : decode code 577 = .ok (.iaload, 1) := by decide +kernel
theorem d_law_578 : decode code 578 = .ok ((.aload_n 0), 1) := by decide +kernel
theorem d_law_579 : decode code 579 = .ok ((.iload_n 3), 1) := by decide +kernel
theorem d_law_580 : decode code 580 = .ok ((.iconst 2), 1) := by decide +kernel
theorem d_law_581 : decode code 581 = .ok (.iadd, 1) := by decide +kernel
theorem d_law_582 : decode code 582 = .ok (.iaload, 1) := by decide +kernel
theorem d_law_583 : decode code 583 = .ok ((.aload_n 0), 1) := by decide +kernel
theorem d_law_584 : decode code 584 = .ok ((.iload_n 3), 1) := by decide +kernel
theorem d_law_585 : decode code 585 = .ok ((.iconst 3), 1) := by decide +kernel
theorem d_law_586 : decode code 586 = .ok (.iadd, 1) := by decide +kernel
theorem d_law_587 : decode code 587 = .ok (.iaload, 1) := by decide +kernel
theorem d_law_588 : decode code 588 = .ok ((.aload_n 0), 1) := by decide +kernel
theorem d_law_589 : decode code 589 = .ok ((.iload_n 3), 1) := by decide +kernel
theorem d_law_590 : decode code 590 = .ok ((.iconst 4), 1) := by decide +kernel
theorem d_law_591 : decode code 591 = .ok (.iadd, 1) := by decide +kernel
theorem d_law_592 : decode code 592 = .ok (.iaload, 1) := by decide +kernel
theorem d_law_593 : decode code 593 = .ok ((.invokevirtual 55), 3) := by decide +kernel
theorem d_law_596 : decode code 596 = .ok ((.if_icmp .eq 1469), 3) := by decide +kernel
theorem d_law_599 : decode code 599 = .ok ((.iconst 0), 1) := by decide +kernel
theorem d_law_600 : decode code 600 = .ok (.ireturn, 1) := by decide +kernel
theorem d_law_601 : decode code 601 = .ok ((.aload_n 1), 1) := by decide +kernel
theorem d_law_602 : decode code 602 = .ok ((.aload_n 0), 1) := by decide +kernel
theorem d_law_603 : decode code 603 = .ok ((.iload_n 3), 1) := by decide +kernel
theorem d_law_604 : decode code 604 = .ok ((.iconst 1), 1) := by decide +kernel
theorem d_law_605 : decode code 605 = .ok (.iadd, 1) := by decide +kernel
theorem d_law_606 : decode code 606 = .ok (.iaload, 1) := by decide +kernel
theorem d_law_607 : decode code 607 = .ok ((.aload_n 0), 1) := by decide +kernel
theorem d_law_608 : decode code 608 = .ok ((.iload_n 3), 1) := by decide +kernel
theorem d_law_609 : decode code 609 = .ok ((.iconst 2), 1) := by decide +kernel
theorem d_law_610 : decode code 610 = .ok (.iadd, 1) := by decide +kernel
theorem d_law_611 : decode code 611 = .ok (.iaload, 1) := by decide +kernel
theorem d_law_612 : decode code 612 = .ok ((.aload_n 0), 1) := by decide +kernel
theorem d_law_613 : decode code 613 = .ok ((.iload_n 3), 1) := by decide +kernel
theorem d_law_614 : decode code 614 = .ok ((.iconst 3), 1) := by decide +kernel
theorem d_law_615 : decode code 615 = .ok (.iadd, 1) := by decide +kernel
theorem d_law_616 : decode code 616 = .ok (.iaload, 1) := by decide +kernel
theorem d_law_617 : decode code 617 = .ok ((.aload_n 0), 1) := by decide +kernel
theorem d_law_618 : decode code 618 = .ok ((.iload_n 3), 1) := by decide +kernel
theorem d_law_619 : decode code 619 = .ok ((.iconst 4), 1) := by decide +kernel
theorem d_law_620 : decode code 620 = .ok (.iadd, 1) := by decide +kernel
theorem d_law_621 : decode code 621 = .ok (.iaload, 1) := by decide +kernel
theorem d_law_622 : decode code 622 = .ok ((.invokevirtual 56), 3) := by decide +kernel
theorem d_law_625 : decode code 625 = .ok ((.aload_n 2), 1) := by decide +kernel
theorem d_law_626 : decode code 626 = .ok ((.aload_n 0), 1) := by decide +kernel
theorem d_law_627 : decode code 627 = .ok ((.iload_n 3), 1) := by decide +kernel
theorem d_law_628 : decode code 628 = .ok ((.iconst 1), 1) := by decide +kernel
theorem d_law_629 : decode code 629 = .ok (.iadd, 1) := by decide +kernel
theorem d_law_630 : decode code 630 = .ok (.iaload, 1) := by decide +kernel
theorem d_law_631 : decode code 631 = .ok ((.aload_n 0), 1) := by decide +kernel
theorem d_law_632 : decode code 632 = .ok ((.iload_n 3), 1) := by decide +kernel
theorem d_law_633 : decode code 633 = .ok ((.iconst 2), 1) := by decide +kernel
theorem d_law_634 : decode code 634 = .ok (.iadd, 1) := by decide +kernel
theorem d_law_635 : decode code 635 = .ok (.iaload, 1) := by decide +kernel
theorem d_law_636 : decode code 636 = .ok ((.aload_n 0), 1) := by decide +kernel
theorem d_law_637 : decode code 637 = .ok ((.iload_n 3), 1) := by decide +kernel
theorem d_law_638 : decode code 638 = .ok ((.iconst 3), 1) := by decide +kernel
theorem d_law_639 : decode code 639 = .ok (.iadd, 1) := by decide +kernel
theorem d_law_640 : decode code 640 = .ok (.iaload, 1) := by decide +kernel
theorem d_law_641 : decode code 641 = .ok ((.aload_n 0), 1) := by decide +kernel
theorem d_law_642 : decode code 642 = .ok ((.iload_n 3), 1) := by decide +kernel
theorem d_law_643 : decode code 643 = .ok ((.iconst 4), 1) := by decide +kernel
theorem d_law_644 : decode code 644 = .ok (.iadd, 1) := by decide +kernel
theorem d_law_645 : decode code 645 = .ok (.iaload, 1) := by decide +kernel
theorem d_law_646 : decode code 646 = .ok ((.invokevirtual 59), 3) := by decide +kernel
theorem d_law_649 : decode code 649 = .ok ((.if_icmp .eq 1416), 3) := by decide +kernel
theorem d_law_652 : decode code 652 = .ok ((.iconst 0), 1) := by decide +kernel
theorem d_law_653 : decode code 653 = .ok (.ireturn, 1) := by decide +kernel
theorem d_law_654 : decode code 654 = .ok ((.aload_n 1), 1) := by decide +kernel
theorem d_law_655 : decode code 655 = .ok ((.aload_n 0), 1) := by decide +kernel
theorem d_law_656 : decode code 656 = .ok ((.iload_n 3), 1) := by decide +kernel
theorem d_law_657 : decode code 657 = .ok ((.iconst 1), 1) := by decide +kernel
theorem d_law_658 : decode code 658 = .ok (.iadd, 1) := by decide +kernel
theorem d_law_659 : decode code 659 = .ok (.iaload, 1) := by decide +kernel
theorem d_law_660 : decode code 660 = .ok ((.aload_n 0), 1) := by decide +kernel
theorem d_law_661 : decode code 661 = .ok ((.iload_n 3), 1) := by decide +kernel
theorem d_law_662 : decode code 662 = .ok ((.iconst 2), 1) := by decide +kernel
theorem d_law_663 : decode code 663 = .ok (.iadd, 1) := by decide +kernel
theorem d_law_664 : decode code 664 = .ok (.iaload, 1) := by decide +kernel
theorem d_law_665 : decode code 665 = .ok ((.aload_n 0), 1) := by decide +kernel
theorem d_law_666 : decode code 666 = .ok ((.iload_n 3), 1) := by decide +kernel
theorem d_law_667 : decode code 667 = .ok ((.iconst 3), 1) := by decide +kernel
theorem d_law_668 : decode code 668 = .ok (.iadd, 1) := by decide +kernel
theorem d_law_669 : decode code 669 = .ok (.iaload, 1) := by decide +kernel
theorem d_law_670 : decode code 670 = .ok ((.aload_n 0), 1) := by decide +kernel
theorem d_law_671 : decode code 671 = .ok ((.iload_n 3), 1) := by decide +kernel
theorem d_law_672 : decode code 672 = .ok ((.iconst 4), 1) := by decide +kernel
theorem d_law_673 : decode code 673 = .ok (.iadd, 1) := by decide +kernel
theorem d_law_674 : decode code 674 = .ok (.iaload, 1) := by decide +kernel
theorem d_law_675 : decode code 675 = .ok ((.invokevirtual 60), 3) := by decide +kernel
theorem d_law_678 : decode code 678 = .ok ((.aload_n 2), 1) := by decide +kernel
theorem d_law_679 : decode code 679 = .ok ((.aload_n 0), 1) := by decide +kernel
theorem d_law_680 : decode code 680 = .ok ((.iload_n 3), 1) := by decide +kernel
theorem d_law_681 : decode code 681 = .ok ((.iconst 1), 1) := by decide +kernel
theorem d_law_682 : decode code 682 = .ok (.iadd, 1) := by decide +kernel
theorem d_law_683 : decode code 683 = .ok (.iaload, 1) := by decide +kernel
theorem d_law_684 : decode code 684 = .ok ((.aload_n 0), 1) := by decide +kernel
theorem d_law_685 : decode code 685 = .ok ((.iload_n 3), 1) := by decide +kernel
theorem d_law_686 : decode code 686 = .ok ((.iconst 2), 1) := by decide +kernel
theorem d_law_687 : decode code 687 = .ok (.iadd, 1) := by decide +kernel
theorem d_law_688 : decode code 688 = .ok (.iaload, 1) := by decide +kernel
theorem d_law_689 : decode code 689 = .ok ((.aload_n 0), 1) := by decide +kernel
theorem d_law_690 : decode code 690 = .ok ((.iload_n 3), 1) := by decide +kernel
theorem d_law_691 : decode code 691 = .ok ((.iconst 3), 1) := by decide +kernel
theorem d_law_692 : decode code 692 = .ok (.iadd, 1) := by decide +kernel
theorem d_law_693 : decode code 693 = .ok (.iaload, 1) := by decide +kernel
theorem d_law_694 : decode code 694 = .ok ((.aload_n 0), 1) := by decide +kernel
theorem d_law_695 : decode code 695 = .ok ((.iload_n 3), 1) := by decide +kernel
theorem d_law_696 : decode code 696 = .ok ((.iconst 4), 1) := by decide +kernel
theorem d_law_697 : decode code 697 = .ok (.iadd, 1) := by decide +kernel
theorem d_law_698 : decode code 698 = .ok (.iaload, 1) := by decide +kernel
theorem d_law_699 : decode code 699 = .ok ((.invokevirtual 63), 3) := by decide +kernel
theorem d_law_702 : decode code 702 = .ok ((.if_icmp .eq 1363), 3) := by decide +kernel
theorem d_law_705 : decode code 705 = .ok ((.iconst 0), 1) := by decide +kernel
theorem d_law_706 : decode code 706 = .ok (.ireturn, 1) := by decide +kernel
theorem d_law_707 : decode code 707 = .ok ((.aload_n 1), 1) := by decide +kernel
theorem d_law_708 : decode code 708 = .ok ((.aload_n 0), 1) := by decide +kernel
theorem d_law_709 : decode code 709 = .ok ((.iload_n 3), 1) := by decide +kernel
theorem d_law_710 : decode code 710 = .ok ((.iconst 1), 1) := by decide +kernel
theorem d_law_711 : decode code 711 = .ok (.iadd, 1) := by decide +kernel
theorem d_law_712 : decode code 712 = .ok (.iaload, 1) := by decide +kernel
theorem d_law_713 : decode code 713 = .ok ((.aload_n 0), 1) := by decide +kernel
theorem d_law_714 : decode code 714 = .ok ((.iload_n 3), 1) := by decide +kernel
theorem d_law_715 : decode code 715 = .ok ((.iconst 2), 1) := by decide +kernel
theorem d_law_716 : decode code 716 = .ok (.iadd, 1) := by decide +kernel
theorem d_law_717 : decode code 717 = .ok (.iaload, 1) := by decide +kernel
theorem d_law_718 : decode code 718 = .ok ((.aload_n 0), 1) := by decide +kernel
theorem d_law_719 : decode code 719 = .ok ((.iload_n 3), 1) := by decide +kernel
theorem d_law_720 : decode code 720 = .ok ((.iconst 3), 1) := by decide +kernel
theorem d_law_721 : decode code 721 = .ok (.iadd, 1) := by decide +kernel
theorem d_law_722 : decode code 722 = .ok (.iaload, 1) := by decide +kernel
theorem d_law_723 : decode code 723 = .ok ((.aload_n 0), 1) := by decide +kernel
theorem d_law_724 : decode code 724 = .ok ((.iload_n 3), 1) := by decide +kernel
theorem d_law_725 : decode code 725 = .ok ((.iconst 4), 1) := by decide +kernel
theorem d_law_726 : decode code 726 = .ok (.iadd, 1) := by decide +kernel
theorem d_law_727 : decode code 727 = .ok (.iaload, 1) := by decide +kernel
theorem d_law_728 : decode code 728 = .ok ((.aload_n 0), 1) := by decide +kernel
theorem d_law_729 : decode code 729 = .ok ((.iload_n 3), 1) := by decide +kernel
theorem d_law_730 : decode code 730 = .ok ((.iconst 5), 1) := by decide +kernel
theorem d_law_731 : decode code 731 = .ok (.iadd, 1) := by decide +kernel
theorem d_law_732 : decode code 732 = .ok (.iaload, 1) := by decide +kernel
theorem d_law_733 : decode code 733 = .ok ((.aload_n 0), 1) := by decide +kernel
theorem d_law_734 : decode code 734 = .ok ((.iload_n 3), 1) := by decide +kernel
theorem d_law_735 : decode code 735 = .ok ((.bipush 6), 2) := by decide +kernel
theorem d_law_737 : decode code 737 = .ok (.iadd, 1) := by decide +kernel
theorem d_law_738 : decode code 738 = .ok (.iaload, 1) := by decide +kernel
theorem d_law_739 : decode code 739 = .ok ((.ifCond .eq 7), 3) := by decide +kernel
theorem d_law_742 : decode code 742 = .ok ((.iconst 1), 1) := by decide +kernel
theorem d_law_743 : decode code 743 = .ok ((.goto 4), 3) := by decide +kernel
theorem d_law_746 : decode code 746 = .ok ((.iconst 0), 1) := by decide +kernel
theorem d_law_747 : decode code 747 = .ok ((.invokevirtual 64), 3) := by decide +kernel
theorem d_law_750 : decode code 750 = .ok ((.aload_n 2), 1) := by decide +kernel
theorem d_law_751 : decode code 751 = .ok ((.aload_n 0), 1) := by decide +kernel
theorem d_law_752 : decode code 752 = .ok ((.iload_n 3), 1) := by decide +kernel
theorem d_law_753 : decode code 753 = .ok ((.iconst 1), 1) := by decide +kernel
theorem d_law_754 : decode code 754 = .ok (.iadd, 1) := by decide +kernel
theorem d_law_755 : decode code 755 = .ok (.iaload, 1) := by decide +kernel
theorem d_law_756 : decode code 756 = .ok ((.aload_n 0), 1) := by decide +kernel
theorem d_law_757 : decode code 757 = .ok ((.iload_n 3), 1) := by decide +kernel
theorem d_law_758 : decode code 758 = .ok ((.iconst 2), 1) := by decide +kernel
theorem d_law_759 : decode code 759 = .ok (.iadd, 1) := by decide +kernel
theorem d_law_760 : decode code 760 = .ok (.iaload, 1) := by decide +kernel
theorem d_law_761 : decode code 761 = .ok ((.aload_n 0), 1) := by decide +kernel
theorem d_law_762 : decode code 762 = .ok ((.iload_n 3), 1) := by decide +kernel
theorem d_law_763 : decode code 763 = .ok ((.iconst 3), 1) := by decide +kernel
theorem d_law_764 : decode code 764 = .ok (.iadd, 1) := by decide +kernel
theorem d_law_765 : decode code 765 = .ok (.iaload, 1) := by decide +kernel
theorem d_law_766 : decode code 766 = .ok ((.aload_n 0), 1) := by decide +kernel
theorem d_law_767 : decode code 767 = .ok ((.iload_n 3), 1) := by decide +kernel
theorem d_law_768 : decode code 768 = .ok ((.iconst 4), 1) := by decide +kernel
theorem d_law_769 : decode code 769 = .ok (.iadd, 1) := by decide +kernel
theorem d_law_770 : decode code 770 = .ok (.iaload, 1) := by decide +kernel
theorem d_law_771 : decode code 771 = .ok ((.aload_n 0), 1) := by decide +kernel
theorem d_law_772 : decode code 772 = .ok ((.iload_n 3), 1) := by decide +kernel
theorem d_law_773 : decode code 773 = .ok ((.iconst 5), 1) := by decide +kernel
theorem d_law_774 : decode code 774 = .ok (.iadd, 1) := by decide +kernel
theorem d_law_775 : decode code 775 = .ok (.iaload, 1) := by decide +kernel
theorem d_law_776 : decode code 776 = .ok ((.aload_n 0), 1) := by decide +kernel
theorem d_law_777 : decode code 777 = .ok ((.iload_n 3), 1) := by decide +kernel
theorem d_law_778 : decode code 778 = .ok ((.bipush 6), 2) := by decide +kernel
theorem d_law_780 : decode code 780 = .ok (.iadd, 1) := by decide +kernel
theorem d_law_781 : decode code 781 = .ok (.iaload, 1) := by decide +kernel
theorem d_law_782 : decode code 782 = .ok ((.ifCond .eq 7), 3) := by decide +kernel
theorem d_law_785 : decode code 785 = .ok ((.iconst 1), 1) := by decide +kernel
theorem d_law_786 : decode code 786 = .ok ((.goto 4), 3) := by decide +kernel
theorem d_law_789 : decode code 789 = .ok ((.iconst 0), 1) := by decide +kernel
theorem d_law_790 : decode code 790 = .ok ((.invokevirtual 68), 3) := by decide +kernel
theorem d_law_793 : decode code 793 = .ok ((.if_icmp .eq 1272), 3) := by decide +kernel
theorem d_law_796 : decode code 796 = .ok ((.iconst 0), 1) := by decide +kernel
theorem d_law_797 : decode code 797 = .ok (.ireturn, 1) := by decide +kernel
theorem d_law_798 : decode code 798 = .ok ((.aload_n 1), 1) := by decide +kernel
theorem d_law_799 : decode code 799 = .ok ((.aload_n 0), 1) := by decide +kernel
theorem d_law_800 : decode code 800 = .ok ((.iload_n 3), 1) := by decide +kernel
theorem d_law_801 : decode code 801 = .ok ((.iconst 1), 1) := by decide +kernel
theorem d_law_802 : decode code 802 = .ok (.iadd, 1) := by decide +kernel
theorem d_law_803 : decode code 803 = .ok (.iaload, 1) := by decide +kernel
theorem d_law_804 : decode code 804 = .ok ((.aload_n 0), 1) := by decide +kernel
theorem d_law_805 : decode code 805 = .ok ((.iload_n 3), 1) := by decide +kernel
theorem d_law_806 : decode code 806 = .ok ((.iconst 2), 1) := by decide +kernel
theorem d_law_807 : decode code 807 = .ok (.iadd, 1) := by decide +kernel
theorem d_law_808 : decode code 808 = .ok (.iaload, 1) := by decide +kernel
theorem d_law_809 : decode code 809 = .ok ((.aload_n 0), 1) := by decide +kernel
theorem d_law_810 : decode code 810 = .ok ((.iload_n 3), 1) := by decide +kernel
theorem d_law_811 : decode code 811 = .ok ((.iconst 3), 1) := by decide +kernel
theorem d_law_812 : decode code 812 = .ok (.iadd, 1) := by decide +kernel
theorem d_law_813 : decode code 813 = .ok (.iaload, 1) := by decide +kernel
theorem d_law_814 : decode code 814 = .ok ((.aload_n 0), 1) := by decide +kernel
theorem d_law_815 : decode code 815 = .ok ((.iload_n 3), 1) := by decide +kernel
theorem d_law_816 : decode code 816 = .ok ((.iconst 4), 1) := by decide +kernel
theorem d_law_817 : decode code 817 = .ok (.iadd, 1) := by decide +kernel
theorem d_law_818 : decode code 818 = .ok (.iaload, 1) := by decide +kernel
theorem d_law_819 : decode code 819 = .ok ((.invokevirtual 69), 3) := by decide +kernel
theorem d_law_822 : decode code 822 = .ok ((.aload_n 2), 1) := by decide +kernel
theorem d_law_823 : decode code 823 = .ok ((.aload_n 0), 1) := by decide +kernel
theorem d_law_824 : decode code 824 = .ok ((.iload_n 3), 1) := by decide +kernel
theorem d_law_825 : decode code 825 = .ok ((.iconst 1), 1) := by decide +kernel
theorem d_law_826 : decode code 826 = .ok (.iadd, 1) := by decide +kernel
theorem d_law_827 : decode code 827 = .ok (.iaload, 1) := by decide +kernel
theorem d_law_828 : decode code 828 = .ok ((.aload_n 0), 1) := by decide +kernel
theorem d_law_829 : decode code 829 = .ok ((.iload_n 3), 1) := by decide +kernel
theorem d_law_830 : decode code 830 = .ok ((.iconst 2), 1) := by decide +kernel
theorem d_law_831 : decode code 831 = .ok (.iadd, 1) := by decide +kernel
theorem d_law_832 : decode code 832 = .ok (.iaload, 1) := by decide +kernel
theorem d_law_833 : decode code 833 = .ok ((.aload_n 0), 1) := by decide +kernel
theorem d_law_834 : decode code 834 = .ok ((.iload_n 3), 1) := by decide +kernel
theorem d_law_835 : decode code 835 = .ok ((.iconst 3), 1) := by decide +kernel
theorem d_law_836 : decode code 836 = .ok (.iadd, 1) := by decide +kernel
theorem d_law_837 : decode code 837 = .ok (.iaload, 1) := by decide +kernel
theorem d_law_838 : decode code 838 = .ok ((.aload_n 0), 1) := by decide +kernel
theorem d_law_839 : decode code 839 = .ok ((.iload_n 3), 1) := by decide +kernel
theorem d_law_840 : decode code 840 = .ok ((.iconst 4), 1) := by decide +kernel
theorem d_law_841 : decode code 841 = .ok (.iadd, 1) := by decide +kernel
theorem d_law_842 : decode code 842 = .ok (.iaload, 1) := by decide +kernel
theorem d_law_843 : decode code 843 = .ok ((.invokevirtual 73), 3) := by decide +kernel
theorem d_law_846 : decode code 846 = .ok (.lcmp, 1) := by decide +kernel
theorem d_law_847 : decode code 847 = .ok ((.ifCond .eq 1218), 3) := by decide +kernel
theorem d_law_850 : decode code 850 = .ok ((.iconst 0), 1) := by decide +kernel
theorem d_law_851 : decode code 851 = .ok (.ireturn, 1) := by decide +kernel
theorem d_law_852 : decode code 852 = .ok ((.aload_n 1), 1) := by decide +kernel
theorem d_law_853 : decode code 853 = .ok ((.aload_n 0), 1) := by decide +kernel
theorem d_law_854 : decode code 854 = .ok ((.iload_n 3), 1) := by decide +kernel
theorem d_law_855 : decode code 855 = .ok ((.iconst 1), 1) := by decide +kernel
theorem d_law_856 : decode code 856 = .ok (.iadd, 1) := by decide +kernel
theorem d_law_857 : decode code 857 = .ok (.iaload, 1) := by decide +kernel
theorem d_law_858 : decode code 858 = .ok ((.aload_n 0), 1) := by decide +kernel
theorem d_law_859 : decode code 859 = .ok ((.iload_n 3), 1) := by decide +kernel
theorem d_law_860 : decode code 860 = .ok ((.iconst 2), 1) := by decide +kernel
theorem d_law_861 : decode code 861 = .ok (.iadd, 1) := by decide +kernel
theorem d_law_862 : decode code 862 = .ok (.iaload, 1) := by decide +kernel
theorem d_law_863 : decode code 863 = .ok ((.aload_n 0), 1) := by decide +kernel
theorem d_law_864 : decode code 864 = .ok ((.iload_n 3), 1) := by decide +kernel
theorem d_law_865 : decode code 865 = .ok ((.iconst 3), 1) := by decide +kernel
theorem d_law_866 : decode code 866 = .ok (.iadd, 1) := by decide +kernel
theorem d_law_867 : decode code 867 = .ok (.iaload, 1) := by decide +kernel
theorem d_law_868 : decode code 868 = .ok ((.aload_n 0), 1) := by decide +kernel
theorem d_law_869 : decode code 869 = .ok ((.iload_n 3), 1) := by decide +kernel
theorem d_law_870 : decode code 870 = .ok ((.iconst 4), 1) := by decide +kernel
theorem d_law_871 : decode code 871 = .ok (.iadd, 1) := by decide +kernel
theorem d_law_872 : decode code 872 = .ok (.iaload, 1) := by decide +kernel
theorem d_law_873 : decode code 873 = .ok ((.aload_n 0), 1) := by decide +kernel
theorem d_law_874 : decode code 874 = .ok ((.iload_n 3), 1) := by decide +kernel
theorem d_law_875 : decode code 875 = .ok ((.iconst 5), 1) := by decide +kernel
theorem d_law_876 : decode code 876 = .ok (.iadd, 1) := by decide +kernel
theorem d_law_877 : decode code 877 = .ok (.iaload, 1) := by decide +kernel
theorem d_law_878 : decode code 878 = .ok ((.ifCond .eq 7), 3) := by decide +kernel
theorem d_law_881 : decode code 881 = .ok ((.iconst 1), 1) := by decide +kernel
theorem d_law_882 : decode code 882 = .ok ((.goto 4), 3) := by decide +kernel
theorem d_law_885 : decode code 885 = .ok ((.iconst 0), 1) := by decide +kernel
theorem d_law_886 : decode code 886 = .ok ((.invokevirtual 74), 3) := by decide +kernel
theorem d_law_889 : decode code 889 = .ok ((.aload_n 2), 1) := by decide +kernel
theorem d_law_890 : decode code 890 = .ok ((.aload_n 0), 1) := by decide +kernel
theorem d_law_891 : decode code 891 = .ok ((.iload_n 3), 1) := by decide +kernel
theorem d_law_892 : decode code 892 = .ok ((.iconst 1), 1) := by decide +kernel
theorem d_law_893 : decode code 893 = .ok (.iadd, 1) := by decide +kernel
theorem d_law_894 : decode code 894 = .ok (.iaload, 1) := by decide +kernel
theorem d_law_895 : decode code 895 = .ok ((.aload_n 0), 1) := by decide +kernel
theorem d_law_896 : decode code 896 = .ok ((.iload_n 3), 1) := by decide +kernel
theorem d_law_897 : decode code 897 = .ok ((.iconst 2), 1) := by decide +kernel
theorem d_law_898 : decode code 898 = .ok (.iadd, 1) := by decide +kernel
theorem d_law_899 : decode code 899 = .ok (.iaload, 1) := by decide +kernel
theorem d_law_900 : decode code 900 = .ok ((.aload_n 0), 1) := by decide +kernel
theorem d_law_901 : decode code 901 = .ok ((.iload_n 3), 1) := by decide +kernel
theorem d_law_902 : decode code 902 = .ok ((.iconst 3), 1) := by decide +kernel
theorem d_law_903 : decode code 903 = .ok (.iadd, 1) := by decide +kernel
theorem d_law_904 : decode code 904 = .ok (.iaload, 1) := by decide +kernel
theorem d_law_905 : decode code 905 = .ok ((.aload_n 0), 1) := by decide +kernel
theorem d_law_906 : decode code 906 = .ok ((.iload_n 3), 1) := by decide +kernel
theorem d_law_907 : decode code 907 = .ok ((.iconst 4), 1) := by decide +kernel
theorem d_law_908 : decode code 908 = .ok (.iadd, 1) := by decide +kernel
theorem d_law_909 : decode code 909 = .ok (.iaload, 1) := by decide +kernel
theorem d_law_910 : decode code 910 = .ok ((.aload_n 0), 1) := by decide +kernel
theorem d_law_911 : decode code 911 = .ok ((.iload_n 3), 1) := by decide +kernel
theorem d_law_912 : decode code 912 = .ok ((.iconst 5), 1) := by decide +kernel
theorem d_law_913 : decode code 913 = .ok (.iadd, 1) := by decide +kernel
theorem d_law_914 : decode code 914 = .ok (.iaload, 1) := by decide +kernel
theorem d_law_915 : decode code 915 = .ok ((.ifCond .eq 7), 3) := by decide +kernel
theorem d_law_918 : decode code 918 = .ok ((.iconst 1), 1) := by decide +kernel
theorem d_law_919 : decode code 919 = .ok ((.goto 4), 3) := by decide +kernel
theorem d_law_922 : decode code 922 = .ok ((.iconst 0), 1) := by decide +kernel
theorem d_law_923 : decode code 923 = .ok ((.invokevirtual 78), 3) := by decide +kernel
theorem d_law_926 : decode code 926 = .ok ((.if_icmp .eq 1139), 3) := by decide +kernel
theorem d_law_929 : decode code 929 = .ok ((.iconst 0), 1) := by decide +kernel
theorem d_law_930 : decode code 930 = .ok (.ireturn, 1) := by decide +kernel
theorem d_law_931 : decode code 931 = .ok ((.aload_n 1), 1) := by decide +kernel
theorem d_law_932 : decode code 932 = .ok ((.aload_n 0), 1) := by decide +kernel
theorem d_law_933 : decode code 933 = .ok ((.iload_n 3), 1) := by decide +kernel
theorem d_law_934 : decode code 934 = .ok ((.iconst 1), 1) := by decide +kernel
theorem d_law_935 : decode code 935 = .ok (.iadd, 1) := by decide +kernel
theorem d_law_936 : decode code 936 = .ok (.iaload, 1) := by decide +kernel
theorem d_law_937 : decode code 937 = .ok ((.aload_n 0), 1) := by decide +kernel
theorem d_law_938 : decode code 938 = .ok ((.iload_n 3), 1) := by decide +kernel
theorem d_law_939 : decode code 939 = .ok ((.iconst 2), 1) := by decide +kernel
theorem d_law_940 : decode code 940 = .ok (.iadd, 1) := by decide +kernel
theorem d_law_941 : decode code 941 = .ok (.iaload, 1) := by decide +kernel
theorem d_law_942 : decode code 942 = .ok ((.aload_n 0), 1) := by decide +kernel
theorem d_law_943 : decode code 943 = .ok ((.iload_n 3), 1) := by decide +kernel
theorem d_law_944 : decode code 944 = .ok ((.iconst 3), 1) := by decide +kernel
theorem d_law_945 : decode code 945 = .ok (.iadd, 1) := by decide +kernel
theorem d_law_946 : decode code 946 = .ok (.iaload, 1) := by decide +kernel
theorem d_law_947 : decode code 947 = .ok ((.ifCond .eq 7), 3) := by decide +kernel
theorem d_law_950 : decode code 950 = .ok ((.iconst 1), 1) := by decide +kernel
theorem d_law_951 : decode code 951 = .ok ((.goto 4), 3) := by decide +kernel
theorem d_law_954 : decode code 954 = .ok ((.iconst 0), 1) := by decide +kernel
theorem d_law_955 : decode code 955 = .ok ((.invokevirtual 79), 3) := by decide +kernel
theorem d_law_958 : decode code 958 = .ok ((.aload_n 2), 1) := by decide +kernel
theorem d_law_959 : decode code 959 = .ok ((.aload_n 0), 1) := by decide +kernel
theorem d_law_960 : decode code 960 = .ok ((.iload_n 3), 1) := by decide +kernel
theorem d_law_961 : decode code 961 = .ok ((.iconst 1), 1) := by decide +kernel
theorem d_law_962 : decode code 962 = .ok (.iadd, 1) := by decide +kernel
theorem d_law_963 : decode code 963 = .ok (.iaload, 1) := by decide +kernel
theorem d_law_964 : decode code 964 = .ok ((.aload_n 0), 1) := by decide +kernel
theorem d_law_965 : decode code 965 = .ok ((.iload_n 3), 1) := by decide +kernel
theorem d_law_966 : decode code 966 = .ok ((.iconst 2), 1) := by decide +kernel
theorem d_law_967 : decode code 967 = .ok (.iadd, 1) := by decide +kernel
theorem d_law_968 : decode code 968 = .ok (.iaload, 1) := by decide +kernel
theorem d_law_969 : decode code 969 = .ok ((.aload_n 0), 1) := by decide +kernel
theorem d_law_970 : decode code 970 = .ok ((.iload_n 3), 1) := by decide +kernel
theorem d_law_971 : decode code 971 = .ok ((.iconst 3), 1) := by decide +kernel
theorem d_law_972 : decode code 972 = .ok (.iadd, 1) := by decide +kernel
theorem d_law_973 : decode code 973 = .ok (.iaload, 1) := by decide +kernel
theorem d_law_974 : decode code 974 = .ok ((.ifCond .eq 7), 3) := by decide +kernel
theorem d_law_977 : decode code 977 = .ok ((.iconst 1), 1) := by decide +kernel
theorem d_law_978 : decode code 978 = .ok ((.goto 4), 3) := by decide +kernel
theorem d_law_981 : decode code 981 = .ok ((.iconst 0), 1) := by decide +kernel
theorem d_law_982 : decode code 982 = .ok ((.invokevirtual 83), 3) := by decide +kernel
theorem d_law_985 : decode code 985 = .ok ((.if_icmp .eq 1080), 3) := by decide +kernel
theorem d_law_988 : decode code 988 = .ok ((.iconst 0), 1) := by decide +kernel
theorem d_law_989 : decode code 989 = .ok (.ireturn, 1) := by decide +kernel
theorem d_law_990 : decode code 990 = .ok ((.aload_n 1), 1) := by decide +kernel
theorem d_law_991 : decode code 991 = .ok ((.aload_n 0), 1) := by decide +kernel
theorem d_law_992 : decode code 992 = .ok ((.iload_n 3), 1) := by decide +kernel
theorem d_law_993 : decode code 993 = .ok ((.iconst 1), 1) := by decide +kernel
theorem d_law_994 : decode code 994 = .ok (.iadd, 1) := by decide +kernel
theorem d_law_995 : decode code 995 = .ok (.iaload, 1) := by decide +kernel
theorem d_law_996 : decode code 996 = .ok ((.invokevirtual 84), 3) := by decide +kernel
theorem d_law_999 : decode code 999 = .ok ((.aload_n 2), 1) := by decide +kernel
theorem d_law_1000 : decode code 1000 = .ok ((.aload_n 0), 1) := by decide +kernel
theorem d_law_1001 : decode code 1001 = .ok ((.iload_n 3), 1) := by decide +kernel
theorem d_law_1002 : decode code 1002 = .ok ((.iconst 1), 1) := by decide +kernel
theorem d_law_1003 : decode code 1003 = .ok (.iadd, 1) := by decide +kernel
theorem d_law_1004 : decode code 1004 = .ok (.iaload, 1) := by decide +kernel
theorem d_law_1005 : decode code 1005 = .ok ((.invokevirtual 87), 3) := by decide +kernel
theorem d_law_1008 : decode code 1008 = .ok ((.if_icmp .eq 1057), 3) := by decide +kernel
theorem d_law_1011 : decode code 1011 = .ok ((.iconst 0), 1) := by decide +kernel
theorem d_law_1012 : decode code 1012 = .ok (.ireturn, 1) := by decide +kernel
theorem d_law_1013 : decode code 1013 = .ok ((.aload_n 1), 1) := by decide +kernel
theorem d_law_1014 : decode code 1014 = .ok ((.aload_n 0), 1) := by decide +kernel
theorem d_law_1015 : decode code 1015 = .ok ((.iload_n 3), 1) := by decide +kernel
theorem d_law_1016 : decode code 1016 = .ok ((.iconst 1), 1) := by decide +kernel
theorem d_law_1017 : decode code 1017 = .ok (.iadd, 1) := by decide +kernel
theorem d_law_1018 : decode code 1018 = .ok (.iaload, 1) := by decide +kernel
theorem d_law_1019 : decode code 1019 = .ok ((.aload_n 0), 1) := by decide +kernel
theorem d_law_1020 : decode code 1020 = .ok ((.iload_n 3), 1) := by decide +kernel
theorem d_law_1021 : decode code 1021 = .ok ((.iconst 2), 1) := by decide +kernel
theorem d_law_1022 : decode code 1022 = .ok (.iadd, 1) := by decide +kernel
theorem d_law_1023 : decode code 1023 = .ok (.iaload, 1) := by decide +kernel
theorem d_law_1024 : decode code 1024 = .ok ((.invokevirtual 88), 3) := by decide +kernel
theorem d_law_1027 : decode code 1027 = .ok ((.aload_n 2), 1) := by decide +kernel
theorem d_law_1028 : decode code 1028 = .ok ((.aload_n 0), 1) := by decide +kernel
theorem d_law_1029 : decode code 1029 = .ok ((.iload_n 3), 1) := by decide +kernel
theorem d_law_1030 : decode code 1030 = .ok ((.iconst 1), 1) := by decide +kernel
theorem d_law_1031 : decode code 1031 = .ok (.iadd, 1) := by decide +kernel
theorem d_law_1032 : decode code 1032 = .ok (.iaload, 1) := by decide +kernel
theorem d_law_1033 : decode code 1033 = .ok ((.aload_n 0), 1) := by decide +kernel
theorem d_law_1034 : decode code 1034 = .ok ((.iload_n 3), 1) := by decide +kernel
theorem d_law_1035 : decode code 1035 = .ok ((.iconst 2), 1) := by decide +kernel
theorem d_law_1036 : decode code 1036 = .ok (.iadd, 1) := by decide +kernel
theorem d_law_1037 : decode code 1037 = .ok (.iaload, 1) := by decide +kernel
theorem d_law_1038 : decode code 1038 = .ok ((.invokevirtual 91), 3) := by decide +kernel
theorem d_law_1041 : decode code 1041 = .ok ((.if_icmp .eq 1024), 3) := by decide +kernel
theorem d_law_1044 : decode code 1044 = .ok ((.iconst 0), 1) := by decide +kernel
theorem d_law_1045 : decode code 1045 = .ok (.ireturn, 1) := by decide +kernel
theorem d_law_1046 : decode code 1046 = .ok ((.aload_n 1), 1) := by decide +kernel
theorem d_law_1047 : decode code 1047 = .ok ((.aload_n 0), 1) := by decide +kernel
theorem d_law_1048 : decode code 1048 = .ok ((.iload_n 3), 1) := by decide +kernel
theorem d_law_1049 : decode code 1049 = .ok ((.iconst 1), 1) := by decide +kernel
theorem d_law_1050 : decode code 1050 = .ok (.iadd, 1) := by decide +kernel
theorem d_law_1051 : decode code 1051 = .ok (.iaload, 1) := by decide +kernel
theorem d_law_1052 : decode code 1052 = .ok ((.aload_n 0), 1) := by decide +kernel
theorem d_law_1053 : decode code 1053 = .ok ((.iload_n 3), 1) := by decide +kernel
theorem d_law_1054 : decode code 1054 = .ok ((.iconst 2), 1) := by decide +kernel
theorem d_law_1055 : decode code 1055 = .ok (.iadd, 1) := by decide +kernel
theorem d_law_1056 : decode code 1056 = .ok (.iaload, 1) := by decide +kernel
theorem d_law_1057 : decode code 1057 = .ok ((.aload_n 0), 1) := by decide +kernel
theorem d_law_1058 : decode code 1058 = .ok ((.iload_n 3), 1) := by decide +kernel
theorem d_law_1059 : decode code 1059 = .ok ((.iconst 3), 1) := by decide +kernel
theorem d_law_1060 : decode code 1060 = .ok (.iadd, 1) := by decide +kernel
theorem d_law_1061 : decode code 1061 = .ok (.iaload, 1) := by decide +kernel
theorem d_law_1062 : decode code 1062 = .ok ((.ifCond .eq 7), 3) := by decide +kernel
theorem d_law_1065 : decode code 1065 = .ok ((.iconst 1), 1) := by decide +kernel
theorem d_law_1066 : decode code 1066 = .ok ((.goto 4), 3) := by decide +kernel
theorem d_law_1069 : decode code 1069 = .ok ((.iconst 0), 1) := by decide +kernel
theorem d_law_1070 : decode code 1070 = .ok ((.aload_n 0), 1) := by decide +kernel
theorem d_law_1071 : decode code 1071 = .ok ((.iload_n 3), 1) := by decide +kernel
theorem d_law_1072 : decode code 1072 = .ok ((.iconst 4), 1) := by decide +kernel
theorem d_law_1073 : decode code 1073 = .ok (.iadd, 1) := by decide +kernel
theorem d_law_1074 : decode code 1074 = .ok (.iaload, 1) := by decide +kernel
theorem d_law_1075 : decode code 1075 = .ok ((.invokevirtual 92), 3) := by decide +kernel
theorem d_law_1078 : decode code 1078 = .ok ((.aload_n 2), 1) := by decide +kernel
theorem d_law_1079 : decode code 1079 = .ok ((.aload_n 0), 1) := by decide +kernel
theorem d_law_1080 : decode code 1080 = .ok ((.iload_n 3), 1) := by decide +kernel
theorem d_law_1081 : decode code 1081 = .ok ((.iconst 1), 1) := by decide +kernel
theorem d_law_1082 : decode code 1082 = .ok (.iadd, 1) := by decide +kernel
theorem d_law_1083 : decode code 1083 = .ok (.iaload, 1) := by decide +kernel
theorem d_law_1084 : decode code 1084 = .ok ((.aload_n 0), 1) := by decide +kernel
theorem d_law_1085 : decode code 1085 = .ok ((.iload_n 3), 1) := by decide +kernel
theorem d_law_1086 : decode code 1086 = .ok ((.iconst 2), 1) := by decide +kernel
theorem d_law_1087 : decode code 1087 = .ok (.iadd, 1) := by decide +kernel
theorem d_law_1088 : decode code 1088 = .ok (.iaload, 1) := by decide +kernel
theorem d_law_1089 : decode code 1089 = .ok ((.aload_n 0), 1) := by decide +kernel
theorem d_law_1090 : decode code 1090 = .ok ((.iload_n 3), 1) := by decide +kernel
theorem d_law_1091 : decode code 1091 = .ok ((.iconst 3), 1) := by decide +kernel
theorem d_law_1092 : decode code 1092 = .ok (.iadd, 1) := by decide +kernel
theorem d_law_1093 : decode code 1093 = .ok (.iaload, 1) := by decide +kernel
theorem d_law_1094 : decode code 1094 = .ok ((.ifCond .eq 7), 3) := by decide +kernel
theorem d_law_1097 : decode code 1097 = .ok ((.iconst 1), 1) := by decide +kernel
theorem d_law_1098 : decode code 1098 = .ok ((.goto 4), 3) := by decide +kernel
theorem d_law_1101 : decode code 1101 = .ok ((.iconst 0), 1) := by decide +kernel
theorem d_law_1102 : decode code 1102 = .ok ((.aload_n 0), 1) := by decide +kernel
theorem d_law_1103 : decode code 1103 = .ok ((.iload_n 3), 1) := by decide +kernel
theorem d_law_1104 : decode code 1104 = .ok ((.iconst 4), 1) := by decide +kernel
theorem d_law_1105 : decode code 1105 = .ok (.iadd, 1) := by decide +kernel
theorem d_law_1106 : decode code 1106 = .ok (.iaload, 1) := by decide +kernel
theorem d_law_1107 : decode code 1107 = .ok ((.invokevirtual 96), 3) := by decide +kernel
theorem d_law_1110 : decode code 1110 = .ok ((.if_icmp .eq 955), 3) := by decide +kernel
theorem d_law_1113 : decode code 1113 = .ok ((.iconst 0), 1) := by decide +kernel
theorem d_law_1114 : decode code 1114 = .ok (.ireturn, 1) := by decide +kernel
theorem d_law_1115 : decode code 1115 = .ok ((.aload_n 1), 1) := by decide +kernel
theorem d_law_1116 : decode code 1116 = .ok ((.aload_n 0), 1) := by decide +kernel
theorem d_law_1117 : decode code 1117 = .ok ((.iload_n 3), 1) := by decide +kernel
theorem d_law_1118 : decode code 1118 = .ok ((.iconst 1), 1) := by decide +kernel
theorem d_law_1119 : decode code 1119 = .ok (.iadd, 1) := by decide +kernel
theorem d_law_1120 : decode code 1120 = .ok (.iaload, 1) := by decide +kernel
theorem d_law_1121 : decode code 1121 = .ok ((.aload_n 0), 1) := by decide +kernel
theorem d_law_1122 : decode code 1122 = .ok ((.iload_n 3), 1) := by decide +kernel
theorem d_law_1123 : decode code 1123 = .ok ((.iconst 2), 1) := by decide +kernel
theorem d_law_1124 : decode code 1124 = .ok (.iadd, 1) := by decide +kernel
theorem d_law_1125 : decode code 1125 = .ok (.iaload, 1) := by decide +kernel
theorem d_law_1126 : decode code 1126 = .ok ((.ifCond .eq 7), 3) := by decide +kernel
theorem d_law_1129 : decode code 1129 = .ok ((.iconst 1), 1) := by decide +kernel
theorem d_law_1130 : decode code 1130 = .ok ((.goto 4), 3) := by decide +kernel
theorem d_law_1133 : decode code 1133 = .ok ((.iconst 0), 1) := by decide +kernel
theorem d_law_1134 : decode code 1134 = .ok ((.aload_n 0), 1) := by decide +kernel
theorem d_law_1135 : decode code 1135 = .ok ((.iload_n 3), 1) := by decide +kernel
theorem d_law_1136 : decode code 1136 = .ok ((.iconst 3), 1) := by decide +kernel
theorem d_law_1137 : decode code 1137 = .ok (.iadd, 1) := by decide +kernel
theorem d_law_1138 : decode code 1138 = .ok (.iaload, 1) := by decide +kernel
theorem d_law_1139 : decode code 1139 = .ok ((.aload_n 0), 1) := by decide +kernel
theorem d_law_1140 : decode code 1140 = .ok ((.iload_n 3), 1) := by decide +kernel
theorem d_law_1141 : decode code 1141 = .ok ((.iconst 4), 1) := by decide +kernel
theorem d_law_1142 : decode code 1142 = .ok (.iadd, 1) := by decide +kernel
theorem d_law_1143 : decode code 1143 = .ok (.iaload, 1) := by decide +kernel
theorem d_law_1144 : decode code 1144 = .ok ((.invokevirtual 97), 3) := by decide +kernel
theorem d_law_1147 : decode code 1147 = .ok ((.aload_n 2), 1) := by decide +kernel
theorem d_law_1148 : decode code 1148 = .ok ((.aload_n 0), 1) := by decide +kernel
theorem d_law_1149 : decode code 1149 = .ok ((.iload_n 3), 1) := by decide +kernel
theorem d_law_1150 : decode code 1150 = .ok ((.iconst 1), 1) := by decide +kernel
theorem d_law_1151 : decode code 1151 = .ok (.iadd, 1) := by decide +kernel
theorem d_law_1152 : decode code 1152 = .ok (.iaload, 1) := by decide +kernel
theorem d_law_1153 : decode code 1153 = .ok ((.aload_n 0), 1) := by decide +kernel
theorem d_law_1154 : decode code 1154 = .ok ((.iload_n 3), 1) := by decide +kernel
theorem d_law_1155 : decode code 1155 = .ok ((.iconst 2), 1) := by decide +kernel
theorem d_law_1156 : decode code 1156 = .ok (.iadd, 1) := by decide +kernel
theorem d_law_1157 : decode code 1157 = .ok (.iaload, 1) := by decide +kernel
theorem d_law_1158 : decode code 1158 = .ok ((.ifCond .eq 7), 3) := by decide +kernel
theorem d_law_1161 : decode code 1161 = .ok ((.iconst 1), 1) := by decide +kernel
theorem d_law_1162 : decode code 1162 = .ok ((.goto 4), 3) := by decide +kernel
theorem d_law_1165 : decode code 1165 = .ok ((.iconst 0), 1) := by decide +kernel
theorem d_law_1166 : decode code 1166 = .ok ((.aload_n 0), 1) := by decide +kernel
theorem d_law_1167 : decode code 1167 = .ok ((.iload_n 3), 1) := by decide +kernel
theorem d_law_1168 : decode code 1168 = .ok ((.iconst 3), 1) := by decide +kernel
theorem d_law_1169 : decode code 1169 = .ok (.iadd, 1) := by decide +kernel
theorem d_law_1170 : decode code 1170 = .ok (.iaload, 1) := by decide +kernel
theorem d_law_1171 : decode code 1171 = .ok ((.aload_n 0), 1) := by decide +kernel
theorem d_law_1172 : decode code 1172 = .ok ((.iload_n 3), 1) := by decide +kernel
theorem d_law_1173 : decode code 1173 = .ok ((.iconst 4), 1) := by decide +kernel
theorem d_law_1174 : decode code 1174 = .ok (.iadd, 1) := by decide +kernel
theorem d_law_1175 : decode code 1175 = .ok (.iaload, 1) := by decide +kernel
theorem d_law_1176 : decode code 1176 = .ok ((.invokevirtual 101), 3) := by decide +kernel
theorem d_law_1179 : decode code 1179 = .ok ((.if_icmp .eq 886), 3) := by decide +kernel
theorem d_law_1182 : decode code 1182 = .ok ((.iconst 0), 1) := by decide +kernel
theorem d_law_1183 : decode code 1183 = .ok (.ireturn, 1) := by decide +kernel
theorem d_law_1184 : decode code 1184 = .ok ((.aload_n 1), 1) := by decide +kernel
theorem d_law_1185 : decode code 1185 = .ok ((.aload_n 0), 1) := by decide +kernel
theorem d_law_1186 : decode code 1186 = .ok ((.iload_n 3), 1) := by decide +kernel
theorem d_law_1187 : decode code 1187 = .ok ((.iconst 1), 1) := by decide +kernel
theorem d_law_1188 : decode code 1188 = .ok (.iadd, 1) := by decide +kernel
theorem d_law_1189 : decode code 1189 = .ok (.iaload, 1) := by decide +kernel
theorem d_law_1190 : decode code 1190 = .ok ((.aload_n 0), 1) := by decide +kernel
theorem d_law_1191 : decode code 1191 = .ok ((.iload_n 3), 1) := by decide +kernel
theorem d_law_1192 : decode code 1192 = .ok ((.iconst 2), 1) := by decide +kernel
theorem d_law_1193 : decode code 1193 = .ok (.iadd, 1) := by decide +kernel
theorem d_law_1194 : decode code 1194 = .ok (.iaload, 1) := by decide +kernel
theorem d_law_1195 : decode code 1195 = .ok ((.invokevirtual 102), 3) := by decide +kernel
theorem d_law_1198 : decode code 1198 = .ok ((.aload_n 2), 1) := by decide +kernel
theorem d_law_1199 : decode code 1199 = .ok ((.aload_n 0), 1) := by decide +kernel
theorem d_law_1200 : decode code 1200 = .ok ((.iload_n 3), 1) := by decide +kernel
theorem d_law_1201 : decode code 1201 = .ok ((.iconst 1), 1) := by decide +kernel
theorem d_law_1202 : decode code 1202 = .ok (.iadd, 1) := by decide +kernel
theorem d_law_1203 : decode code 1203 = .ok (.iaload, 1) := by decide +kernel
theorem d_law_1204 : decode code 1204 = .ok ((.aload_n 0), 1) := by decide +kernel
theorem d_law_1205 : decode code 1205 = .ok ((.iload_n 3), 1) := by decide +kernel
theorem d_law_1206 : decode code 1206 = .ok ((.iconst 2), 1) := by decide +kernel
theorem d_law_1207 : decode code 1207 = .ok (.iadd, 1) := by decide +kernel
theorem d_law_1208 : decode code 1208 = .ok (.iaload, 1) := by decide +kernel
theorem d_law_1209 : decode code 1209 = .ok ((.invokevirtual 105), 3) := by decide +kernel
theorem d_law_1212 : decode code 1212 = .ok ((.if_icmp .eq 853), 3) := by decide +kernel
theorem d_law_1215 : decode code 1215 = .ok ((.iconst 0), 1) := by decide +kernel
theorem d_law_1216 : decode code 1216 = .ok (.ireturn, 1) := by decide +kernel
theorem d_law_1217 : decode code 1217 = .ok ((.aload_n 1), 1) := by decide +kernel
theorem d_law_1218 : decode code 1218 = .ok ((.aload_n 0), 1) := by decide +kernel
theorem d_law_1219 : decode code 1219 = .ok ((.iload_n 3), 1) := by decide +kernel
theorem d_law_1220 : decode code 1220 = .ok ((.iconst 1), 1) := by decide +kernel
theorem d_law_1221 : decode code 1221 = .ok (.iadd, 1) := by decide +kernel
theorem d_law_1222 : decode code 1222 = .ok (.iaload, 1) := by decide +kernel
theorem d_law_1223 : decode code 1223 = .ok ((.aload_n 0), 1) := by decide +kernel
theorem d_law_1224 : decode code 1224 = .ok ((.iload_n 3), 1) := by decide +kernel
theorem d_law_1225 : decode code 1225 = .ok ((.iconst 2), 1) := by decide +kernel
theorem d_law_1226 : decode code 1226 = .ok (.iadd, 1) := by decide +kernel
theorem d_law_1227 : decode code 1227 = .ok (.iaload, 1) := by decide +kernel
theorem d_law_1228 : decode code 1228 = .ok ((.ifCond .eq 7), 3) := by decide +kernel
theorem d_law_1231 : decode code 1231 = .ok ((.iconst 1), 1) := by decide +kernel
theorem d_law_1232 : decode code 1232 = .ok ((.goto 4), 3) := by decide +kernel
theorem d_law_1235 : decode code 1235 = .ok ((.iconst 0), 1) := by decide +kernel
theorem d_law_1236 : decode code 1236 = .ok ((.invokevirtual 106), 3) := by decide +kernel
theorem d_law_1239 : decode code 1239 = .ok ((.aload_n 2), 1) := by decide +kernel
theorem d_law_1240 : decode code 1240 = .ok ((.aload_n 0), 1) := by decide +kernel
theorem d_law_1241 : decode code 1241 = .ok ((.iload_n 3), 1) := by decide +kernel
theorem d_law_1242 : decode code 1242 = .ok ((.iconst 1), 1) := by decide +kernel
theorem d_law_1243 : decode code 1243 = .ok (.iadd, 1) := by decide +kernel
theorem d_law_1244 : decode code 1244 = .ok (.iaload, 1) := by decide +kernel
theorem d_law_1245 : decode code 1245 = .ok ((.aload_n 0), 1) := by decide +kernel
theorem d_law_1246 : decode code 1246 = .ok ((.iload_n 3), 1) := by decide +kernel
theorem d_law_1247 : decode code 1247 = .ok ((.iconst 2), 1) := by decide +kernel
theorem d_law_1248 : decode code 1248 = .ok (.iadd, 1) := by decide +kernel
theorem d_law_1249 : decode code 1249 = .ok (.iaload, 1) := by decide +kernel
theorem d_law_1250 : decode code 1250 = .ok ((.ifCond .eq 7), 3) := by decide +kernel
theorem d_law_1253 : decode code 1253 = .ok ((.iconst 1), 1) := by decide +kernel
theorem d_law_1254 : decode code 1254 = .ok ((.goto 4), 3) := by decide +kernel
theorem d_law_1257 : decode code 1257 = .ok ((.iconst 0), 1) := by decide +kernel
theorem d_law_1258 : decode code 1258 = .ok ((.invokevirtual 110), 3) := by decide +kernel
theorem d_law_1261 : decode code 1261 = .ok (.lcmp, 1) := by decide +kernel
theorem d_law_1262 : decode code 1262 = .ok ((.ifCond .eq 803), 3) := by decide +kernel
theorem d_law_1265 : decode code 1265 = .ok ((.iconst 0), 1) := by decide +kernel
theorem d_law_1266 : decode code 1266 = .ok (.ireturn, 1) := by decide +kernel
theorem d_law_1267 : decode code 1267 = .ok ((.aload_n 1), 1) := by decide +kernel
theorem d_law_1268 : decode code 1268 = .ok ((.aload_n 0), 1) := by decide +kernel
theorem d_law_1269 : decode code 1269 = .ok ((.iload_n 3), 1) := by decide +kernel
theorem d_law_1270 : decode code 1270 = .ok ((.iconst 1), 1) := by decide +kernel
theorem d_law_1271 : decode code 1271 = .ok (.iadd, 1) := by decide +kernel
theorem d_law_1272 : decode code 1272 = .ok (.iaload, 1) := by decide +kernel
theorem d_law_1273 : decode code 1273 = .ok ((.aload_n 0), 1) := by decide +kernel
theorem d_law_1274 : decode code 1274 = .ok ((.iload_n 3), 1) := by decide +kernel
theorem d_law_1275 : decode code 1275 = .ok ((.iconst 2), 1) := by decide +kernel
theorem d_law_1276 : decode code 1276 = .ok (.iadd, 1) := by decide +kernel
theorem d_law_1277 : decode code 1277 = .ok (.iaload, 1) := by decide +kernel
theorem d_law_1278 : decode code 1278 = .ok ((.ifCond .eq 7), 3) := by decide +kernel
theorem d_law_1281 : decode code 1281 = .ok ((.iconst 1), 1) := by decide +kernel
theorem d_law_1282 : decode code 1282 = .ok ((.goto 4), 3) := by decide +kernel
theorem d_law_1285 : decode code 1285 = .ok ((.iconst 0), 1) := by decide +kernel
theorem d_law_1286 : decode code 1286 = .ok ((.invokevirtual 111), 3) := by decide +kernel
theorem d_law_1289 : decode code 1289 = .ok ((.aload_n 2), 1) := by decide +kernel
theorem d_law_1290 : decode code 1290 = .ok ((.aload_n 0), 1) := by decide +kernel
theorem d_law_1291 : decode code 1291 = .ok ((.iload_n 3), 1) := by decide +kernel
theorem d_law_1292 : decode code 1292 = .ok ((.iconst 1), 1) := by decide +kernel
theorem d_law_1293 : decode code 1293 = .ok (.iadd, 1) := by decide +kernel
theorem d_law_1294 : decode code 1294 = .ok (.iaload, 1) := by decide +kernel
theorem d_law_1295 : decode code 1295 = .ok ((.aload_n 0), 1) := by decide +kernel
theorem d_law_1296 : decode code 1296 = .ok ((.iload_n 3), 1) := by decide +kernel
theorem d_law_1297 : decode code 1297 = .ok ((.iconst 2), 1) := by decide +kernel
theorem d_law_1298 : decode code 1298 = .ok (.iadd, 1) := by decide +kernel
theorem d_law_1299 : decode code 1299 = .ok (.iaload, 1) := by decide +kernel
theorem d_law_1300 : decode code 1300 = .ok ((.ifCond .eq 7), 3) := by decide +kernel
theorem d_law_1303 : decode code 1303 = .ok ((.iconst 1), 1) := by decide +kernel
theorem d_law_1304 : decode code 1304 = .ok ((.goto 4), 3) := by decide +kernel
theorem d_law_1307 : decode code 1307 = .ok ((.iconst 0), 1) := by decide +kernel
theorem d_law_1308 : decode code 1308 = .ok ((.invokevirtual 114), 3) := by decide +kernel
theorem d_law_1311 : decode code 1311 = .ok (.lcmp, 1) := by decide +kernel
theorem d_law_1312 : decode code 1312 = .ok ((.ifCond .eq 753), 3) := by decide +kernel
theorem d_law_1315 : decode code 1315 = .ok ((.iconst 0), 1) := by decide +kernel
theorem d_law_1316 : decode code 1316 = .ok (.ireturn, 1) := by decide +kernel
theorem d_law_1317 : decode code 1317 = .ok ((.aload_n 1), 1) := by decide +kernel
theorem d_law_1318 : decode code 1318 = .ok ((.aload_n 0), 1) := by decide +kernel
theorem d_law_1319 : decode code 1319 = .ok ((.iload_n 3), 1) := by decide +kernel
theorem d_law_1320 : decode code 1320 = .ok ((.iconst 1), 1) := by decide +kernel
theorem d_law_1321 : decode code 1321 = .ok (.iadd, 1) := by decide +kernel
theorem d_law_1322 : decode code 1322 = .ok (.iaload, 1) := by decide +kernel
theorem d_law_1323 : decode code 1323 = .ok ((.aload_n 0), 1) := by decide +kernel
theorem d_law_1324 : decode code 1324 = .ok ((.iload_n 3), 1) := by decide +kernel
theorem d_law_1325 : decode code 1325 = .ok ((.iconst 2), 1) := by decide +kernel
theorem d_law_1326 : decode code 1326 = .ok (.iadd, 1) := by decide +kernel
theorem d_law_1327 : decode code 1327 = .ok (.iaload, 1) := by decide +kernel
theorem d_law_1328 : decode code 1328 = .ok ((.invokevirtual 115), 3) := by decide +kernel
theorem d_law_1331 : decode code 1331 = .ok ((.aload_n 2), 1) := by decide +kernel
theorem d_law_1332 : decode code 1332 = .ok ((.aload_n 0), 1) := by decide +kernel
theorem d_law_1333 : decode code 1333 = .ok ((.iload_n 3), 1) := by decide +kernel
theorem d_law_1334 : decode code 1334 = .ok ((.iconst 1), 1) := by decide +kernel
theorem d_law_1335 : decode code 1335 = .ok (.iadd, 1) := by decide +kernel
theorem d_law_1336 : decode code 1336 = .ok (.iaload, 1) := by decide +kernel
theorem d_law_1337 : decode code 1337 = .ok ((.aload_n 0), 1) := by decide +kernel
theorem d_law_1338 : decode code 1338 = .ok ((.iload_n 3), 1) := by decide +kernel
theorem d_law_1339 : decode code 1339 = .ok ((.iconst 2), 1) := by decide +kernel
theorem d_law_1340 : decode code 1340 = .ok (.iadd, 1) := by decide +kernel
theorem d_law_1341 : decode code 1341 = .ok (.iaload, 1) := by decide +kernel
theorem d_law_1342 : decode code 1342 = .ok ((.invokevirtual 118), 3) := by decide +kernel
theorem d_law_1345 : decode code 1345 = .ok ((.if_icmp .eq 720), 3) := by decide +kernel
theorem d_law_1348 : decode code 1348 = .ok ((.iconst 0), 1) := by decide +kernel
theorem d_law_1349 : decode code 1349 = .ok (.ireturn, 1) := by decide +kernel
theorem d_law_1350 : decode code 1350 = .ok ((.aload_n 1), 1) := by decide +kernel
theorem d_law_1351 : decode code 1351 = .ok ((.aload_n 0), 1) := by decide +kernel
theorem d_law_1352 : decode code 1352 = .ok ((.iload_n 3), 1) := by decide +kernel
theorem d_law_1353 : decode code 1353 = .ok ((.iconst 1), 1) := by decide +kernel
theorem d_law_1354 : decode code 1354 = .ok (.iadd, 1) := by decide +kernel
theorem d_law_1355 : decode code 1355 = .ok (.iaload, 1) := by decide +kernel
theorem d_law_1356 : decode code 1356 = .ok ((.invokevirtual 119), 3) := by decide +kernel
theorem d_law_1359 : decode code 1359 = .ok ((.aload_n 2), 1) := by decide +kernel
theorem d_law_1360 : decode code 1360 = .ok ((.aload_n 0), 1) := by decide +kernel
theorem d_law_1361 : decode code 1361 = .ok ((.iload_n 3), 1) := by decide +kernel
theorem d_law_1362 : decode code 1362 = .ok ((.iconst 1), 1) := by decide +kernel
theorem d_law_1363 : decode code 1363 = .ok (.iadd, 1) := by decide +kernel
theorem d_law_1364 : decode code 1364 = .ok (.iaload, 1) := by decide +kernel
theorem d_law_1365 : decode code 1365 = .ok ((.invokevirtual 122), 3) := by decide +kernel
theorem d_law_1368 : decode code 1368 = .ok ((.if_icmp .eq 697), 3) := by decide +kernel
theorem d_law_1371 : decode code 1371 = .ok ((.iconst 0), 1) := by decide +kernel
theorem d_law_1372 : decode code 1372 = .ok (.ireturn, 1) := by decide +kernel
theorem d_law_1373 : decode code 1373 = .ok ((.aload_n 1), 1) := by decide +kernel
theorem d_law_1374 : decode code 1374 = .ok ((.aload_n 0), 1) := by decide +kernel
theorem d_law_1375 : decode code 1375 = .ok ((.iload_n 3), 1) := by decide +kernel
theorem d_law_1376 : decode code 1376 = .ok ((.iconst 1), 1) := by decide +kernel
theorem d_law_1377 : decode code 1377 = .ok (.iadd, 1) := by decide +kernel
theorem d_law_1378 : decode code 1378 = .ok (.iaload, 1) := by decide +kernel
theorem d_law_1379 : decode code 1379 = .ok ((.aload_n 0), 1) := by decide +kernel
theorem d_law_1380 : decode code 1380 = .ok ((.iload_n 3), 1) := by decide +kernel
theorem d_law_1381 : decode code 1381 = .ok ((.iconst 2), 1) := by decide +kernel
theorem d_law_1382 : decode code 1382 = .ok (.iadd, 1) := by decide +kernel
theorem d_law_1383 : decode code 1383 = .ok (.iaload, 1) := by decide +kernel
theorem d_law_1384 : decode code 1384 = .ok ((.invokevirtual 123), 3) := by decide +kernel
theorem d_law_1387 : decode code 1387 = .ok ((.aload_n 2), 1) := by decide +kernel
theorem d_law_1388 : decode code 1388 = .ok ((.aload_n 0), 1) := by decide +kernel
theorem d_law_1389 : decode code 1389 = .ok ((.iload_n 3), 1) := by decide +kernel
theorem d_law_1390 : decode code 1390 = .ok ((.iconst 1), 1) := by decide +kernel
theorem d_law_1391 : decode code 1391 = .ok (.iadd, 1) := by decide +kernel
theorem d_law_1392 : decode code 1392 = .ok (.iaload, 1) := by decide +kernel
theorem d_law_1393 : decode code 1393 = .ok ((.aload_n 0), 1) := by decide +kernel
theorem d_law_1394 : decode code 1394 = .ok ((.iload_n 3), 1) := by decide +kernel
theorem d_law_1395 : decode code 1395 = .ok ((.iconst 2), 1) := by decide +kernel
theorem d_law_1396 : decode code 1396 = .ok (.iadd, 1) := by decide +kernel
theorem d_law_1397 : decode code 1397 = .ok (.iaload, 1) := by decide +kernel
theorem d_law_1398 : decode code 1398 = .ok ((.invokevirtual 126), 3) := by decide +kernel
theorem d_law_1401 : decode code 1401 = .ok ((.if_icmp .eq 664), 3) := by decide +kernel
theorem d_law_1404 : decode code 1404 = .ok ((.iconst 0), 1) := by decide +kernel
theorem d_law_1405 : decode code 1405 = .ok (.ireturn, 1) := by decide +kernel
theorem d_law_1406 : decode code 1406 = .ok ((.aload_n 1), 1) := by decide +kernel
theorem d_law_1407 : decode code 1407 = .ok ((.aload_n 0), 1) := by decide +kernel
theorem d_law_1408 : decode code 1408 = .ok ((.iload_n 3), 1) := by decide +kernel
theorem d_law_1409 : decode code 1409 = .ok ((.iconst 1), 1) := by decide +kernel
theorem d_law_1410 : decode code 1410 = .ok (.iadd, 1) := by decide +kernel
theorem d_law_1411 : decode code 1411 = .ok (.iaload, 1) := by decide +kernel
theorem d_law_1412 : decode code 1412 = .ok ((.aload_n 0), 1) := by decide +kernel
theorem d_law_1413 : decode code 1413 = .ok ((.iload_n 3), 1) := by decide +kernel
theorem d_law_1414 : decode code 1414 = .ok ((.iconst 2), 1) := by decide +kernel
theorem d_law_1415 : decode code 1415 = .ok (.iadd, 1) := by decide +kernel
theorem d_law_1416 : decode code 1416 = .ok (.iaload, 1) := by decide +kernel
theorem d_law_1417 : decode code 1417 = .ok ((.ifCond .eq 7), 3) := by decide +kernel
theorem d_law_1420 : decode code 1420 = .ok ((.iconst 1), 1) := by decide +kernel
theorem d_law_1421 : decode code 1421 = .ok ((.goto 4), 3) := by decide +kernel
theorem d_law_1424 : decode code 1424 = .ok ((.iconst 0), 1) := by decide +kernel
theorem d_law_1425 : decode code 1425 = .ok ((.invokevirtual 127), 3) := by decide +kernel
theorem d_law_1428 : decode code 1428 = .ok ((.aload_n 2), 1) := by decide +kernel
theorem d_law_1429 : decode code 1429 = .ok ((.aload_n 0), 1) := by decide +kernel
theorem d_law_1430 : decode code 1430 = .ok ((.iload_n 3), 1) := by decide +kernel
theorem d_law_1431 : decode code 1431 = .ok ((.iconst 1), 1) := by decide +kernel
theorem d_law_1432 : decode code 1432 = .ok (.iadd, 1) := by decide +kernel
theorem d_law_1433 : decode code 1433 = .ok (.iaload, 1) := by decide +kernel
theorem d_law_1434 : decode code 1434 = .ok ((.aload_n 0), 1) := by decide +kernel
theorem d_law_1435 : decode code 1435 = .ok ((.iload_n 3), 1) := by decide +kernel
theorem d_law_1436 : decode code 1436 = .ok ((.iconst 2), 1) := by decide +kernel
theorem d_law_1437 : decode code 1437 = .ok (.iadd, 1) := by decide +kernel
theorem d_law_1438 : decode code 1438 = .ok (.iaload, 1) := by decide +kernel
theorem d_law_1439 : decode code 1439 = .ok ((.ifCond .eq 7), 3) := by decide +kernel
theorem d_law_1442 : decode code 1442 = .ok ((.iconst 1), 1) := by decide +kernel
theorem d_law_1443 : decode code 1443 = .ok ((.goto 4), 3) := by decide +kernel
theorem d_law_1446 : decode code 1446 = .ok ((.iconst 0), 1) := by decide +kernel
theorem d_law_1447 : decode code 1447 = .ok ((.invokevirtual 131), 3) := by decide +kernel
theorem d_law_1450 : decode code 1450 = .ok ((.if_icmp .eq 615), 3) := by decide +kernel
theorem d_law_1453 : decode code 1453 = .ok ((.iconst 0), 1) := by decide +kernel
theorem d_law_1454 : decode code 1454 = .ok (.ireturn, 1) := by decide +kernel
theorem d_law_1455 : decode code 1455 = .ok ((.aload_n 1), 1) := by decide +kernel
theorem d_law_1456 : decode code 1456 = .ok ((.aload_n 0), 1) := by decide +kernel
theorem d_law_1457 : decode code 1457 = .ok ((.iload_n 3), 1) := by decide +kernel
theorem d_law_1458 : decode code 1458 = .ok ((.iconst 1), 1) := by decide +kernel
theorem d_law_1459 : decode code 1459 = .ok (.iadd, 1) := by decide +kernel
theorem d_law_1460 : decode code 1460 = .ok (.iaload, 1) := by decide +kernel
theorem d_law_1461 : decode code 1461 = .ok ((.aload_n 0), 1) := by decide +kernel
theorem d_law_1462 : decode code 1462 = .ok ((.iload_n 3), 1) := by decide +kernel
theorem d_law_1463 : decode code 1463 = .ok ((.iconst 2), 1) := by decide +kernel
theorem d_law_1464 : decode code 1464 = .ok (.iadd, 1) := by decide +kernel
theorem d_law_1465 : decode code 1465 = .ok (.iaload, 1) := by decide +kernel
theorem d_law_1466 : decode code 1466 = .ok ((.invokevirtual 132), 3) := by decide +kernel
theorem d_law_1469 : decode code 1469 = .ok ((.aload_n 2), 1) := by decide +kernel
theorem d_law_1470 : decode code 1470 = .ok ((.aload_n 0), 1) := by decide +kernel
theorem d_law_1471 : decode code 1471 = .ok ((.iload_n 3), 1) := by decide +kernel
theorem d_law_1472 : decode code 1472 = .ok ((.iconst 1), 1) := by decide +kernel
theorem d_law_1473 : decode code 1473 = .ok (.iadd, 1) := by decide +kernel
theorem d_law_1474 : decode code 1474 = .ok (.iaload, 1) := by decide +kernel
theorem d_law_1475 : decode code 1475 = .ok ((.aload_n 0), 1) := by decide +kernel
theorem d_law_1476 : decode code 1476 = .ok ((.iload_n 3), 1) := by decide +kernel
theorem d_law_1477 : decode code 1477 = .ok ((.iconst 2), 1) := by decide +kernel
theorem d_law_1478 : decode code 1478 = .ok (.iadd, 1) := by decide +kernel
theorem d_law_1479 : decode code 1479 = .ok (.iaload, 1) := by decide +kernel
theorem d_law_1480 : decode code 1480 = .ok ((.invokevirtual 135), 3) := by decide +kernel
theorem d_law_1483 : decode code 1483 = .ok ((.if_icmp .eq 582), 3) := by decide +kernel
theorem d_law_1486 : decode code 1486 = .ok ((.iconst 0), 1) := by decide +kernel
theorem d_law_1487 : decode code 1487 = .ok (.ireturn, 1) := by decide +kernel
theorem d_law_1488 : decode code 1488 = .ok ((.aload_n 1), 1) := by decide +kernel
theorem d_law_1489 : decode code 1489 = .ok ((.aload_n 0), 1) := by decide +kernel
theorem d_law_1490 : decode code 1490 = .ok ((.iload_n 3), 1) := by decide +kernel
theorem d_law_1491 : decode code 1491 = .ok ((.iconst 1), 1) := by decide +kernel
theorem d_law_1492 : decode code 1492 = .ok (.iadd, 1) := by decide +kernel
theorem d_law_1493 : decode code 1493 = .ok (.iaload, 1) := by decide +kernel
theorem d_law_1494 : decode code 1494 = .ok ((.invokevirtual 136), 3) := by decide +kernel
theorem d_law_1497 : decode code 1497 = .ok ((.aload_n 2), 1) := by decide +kernel
theorem d_law_1498 : decode code 1498 = .ok ((.aload_n 0), 1) := by decide +kernel
theorem d_law_1499 : decode code 1499 = .ok ((.iload_n 3), 1) := by decide +kernel
theorem d_law_1500 : decode code 1500 = .ok ((.iconst 1), 1) := by decide +kernel
theorem d_law_1501 : decode code 1501 = .ok (.iadd, 1) := by decide +kernel
theorem d_law_1502 : decode code 1502 = .ok (.iaload, 1) := by decide +kernel
theorem d_law_1503 : decode code 1503 = .ok ((.invokevirtual 139), 3) := by decide +kernel
theorem d_law_1506 : decode code 1506 = .ok ((.if_icmp .eq 559), 3) := by decide +kernel
theorem d_law_1509 : decode code 1509 = .ok ((.iconst 0), 1) := by decide +kernel
theorem d_law_1510 : decode code 1510 = .ok (.ireturn, 1) := by decide +kernel
theorem d_law_1511 : decode code 1511 = .ok ((.aload_n 1), 1) := by decide +kernel
theorem d_law_1512 : decode code 1512 = .ok ((.aload_n 0), 1) := by decide +kernel
theorem d_law_1513 : decode code 1513 = .ok ((.iload_n 3), 1) := by decide +kernel
theorem d_law_1514 : decode code 1514 = .ok ((.iconst 1), 1) := by decide +kernel
theorem d_law_1515 : decode code 1515 = .ok (.iadd, 1) := by decide +kernel
theorem d_law_1516 : decode code 1516 = .ok (.iaload, 1) := by decide +kernel
theorem d_law_1517 : decode code 1517 = .ok ((.invokevirtual 140), 3) := by decide +kernel
theorem d_law_1520 : decode code 1520 = .ok ((.aload_n 2), 1) := by decide +kernel
theorem d_law_1521 : decode code 1521 = .ok ((.aload_n 0), 1) := by decide +kernel
theorem d_law_1522 : decode code 1522 = .ok ((.iload_n 3), 1) := by decide +kernel
theorem d_law_1523 : decode code 1523 = .ok ((.iconst 1), 1) := by decide +kernel
theorem d_law_1524 : decode code 1524 = .ok (.iadd, 1) := by decide +kernel
theorem d_law_1525 : decode code 1525 = .ok (.iaload, 1) := by decide +kernel
theorem d_law_1526 : decode code 1526 = .ok ((.invokevirtual 143), 3) := by decide +kernel
theorem d_law_1529 : decode code 1529 = .ok ((.if_icmp .eq 536), 3) := by decide +kernel
theorem d_law_1532 : decode code 1532 = .ok ((.iconst 0), 1) := by decide +kernel
theorem d_law_1533 : decode code 1533 = .ok (.ireturn, 1) := by decide +kernel
theorem d_law_1534 : decode code 1534 = .ok ((.aload_n 1), 1) := by decide +kernel
theorem d_law_1535 : decode code 1535 = .ok ((.aload_n 0), 1) := by decide +kernel
theorem d_law_1536 : decode code 1536 = .ok ((.iload_n 3), 1) := by decide +kernel
theorem d_law_1537 : decode code 1537 = .ok ((.iconst 1), 1) := by decide +kernel
theorem d_law_1538 : decode code 1538 = .ok (.iadd, 1) := by decide +kernel
theorem d_law_1539 : decode code 1539 = .ok (.iaload, 1) := by decide +kernel
theorem d_law_1540 : decode code 1540 = .ok ((.aload_n 0), 1) := by decide +kernel
theorem d_law_1541 : decode code 1541 = .ok ((.iload_n 3), 1) := by decide +kernel
theorem d_law_1542 : decode code 1542 = .ok ((.iconst 2), 1) := by decide +kernel
theorem d_law_1543 : decode code 1543 = .ok (.iadd, 1) := by decide +kernel
theorem d_law_1544 : decode code 1544 = .ok (.iaload, 1) := by decide +kernel
theorem d_law_1545 : decode code 1545 = .ok ((.invokevirtual 144), 3) := by decide +kernel
theorem d_law_1548 : decode code 1548 = .ok ((.aload_n 2), 1) := by decide +kernel
theorem d_law_1549 : decode code 1549 = .ok ((.aload_n 0), 1) := by decide +kernel
theorem d_law_1550 : decode code 1550 = .ok ((.iload_n 3), 1) := by decide +kernel
theorem d_law_1551 : decode code 1551 = .ok ((.iconst 1), 1) := by decide +kernel
theorem d_law_1552 : decode code 1552 = .ok (.iadd, 1) := by decide +kernel
theorem d_law_1553 : decode code 1553 = .ok (.iaload, 1) := by decide +kernel
theorem d_law_1554 : decode code 1554 = .ok ((.aload_n 0), 1) := by decide +kernel
theorem d_law_1555 : decode code 1555 = .ok ((.iload_n 3), 1) := by decide +kernel
theorem d_law_1556 : decode code 1556 = .ok ((.iconst 2), 1) := by decide +kernel
theorem d_law_1557 : decode code 1557 = .ok (.iadd, 1) := by decide +kernel
theorem d_law_1558 : decode code 1558 = .ok (.iaload, 1) := by decide +kernel
theorem d_law_1559 : decode code 1559 = .ok ((.invokevirtual 147), 3) := by decide +kernel
theorem d_law_1562 : decode code 1562 = .ok ((.if_icmp .eq 503), 3) := by decide +kernel
theorem d_law_1565 : decode code 1565 = .ok ((.iconst 0), 1) := by decide +kernel
theorem d_law_1566 : decode code 1566 = .ok (.ireturn, 1) := by decide +kernel
theorem d_law_1567 : decode code 1567 = .ok ((.aload_n 1), 1) := by decide +kernel
theorem d_law_1568 : decode code 1568 = .ok ((.aload_n 0), 1) := by decide +kernel
theorem d_law_1569 : decode code 1569 = .ok ((.iload_n 3), 1) := by decide +kernel
theorem d_law_1570 : decode code 1570 = .ok ((.iconst 1), 1) := by decide +kernel
theorem d_law_1571 : decode code 1571 = .ok (.iadd, 1) := by decide +kernel
theorem d_law_1572 : decode code 1572 = .ok (.iaload, 1) := by decide +kernel
theorem d_law_1573 : decode code 1573 = .ok ((.invokevirtual 148), 3) := by decide +kernel
theorem d_law_1576 : decode code 1576 = .ok ((.aload_n 2), 1) := by decide +kernel
theorem d_law_1577 : decode code 1577 = .ok ((.aload_n 0), 1) := by decide +kernel
theorem d_law_1578 : decode code 1578 = .ok ((.iload_n 3), 1) := by decide +kernel
theorem d_law_1579 : decode code 1579 = .ok ((.iconst 1), 1) := by decide +kernel
theorem d_law_1580 : decode code 1580 = .ok (.iadd, 1) := by decide +kernel
theorem d_law_1581 : decode code 1581 = .ok (.iaload, 1) := by decide +kernel
theorem d_law_1582 : decode code 1582 = .ok ((.invokevirtual 151), 3) := by decide +kernel
theorem d_law_1585 : decode code 1585 = .ok ((.if_icmp .eq 480), 3) := by decide +kernel
theorem d_law_1588 : decode code 1588 = .ok ((.iconst 0), 1) := by decide +kernel
theorem d_law_1589 : decode code 1589 = .ok (.ireturn, 1) := by decide +kernel
theorem d_law_1590 : decode code 1590 = .ok ((.aload_n 1), 1) := by decide +kernel
theorem d_law_1591 : decode code 1591 = .ok ((.aload_n 0), 1) := by decide +kernel
theorem d_law_1592 : decode code 1592 = .ok ((.iload_n 3), 1) := by decide +kernel
theorem d_law_1593 : decode code 1593 = .ok ((.iconst 1), 1) := by decide +kernel
theorem d_law_1594 : decode code 1594 = .ok (.iadd, 1) := by decide +kernel
theorem d_law_1595 : decode code 1595 = .ok (.iaload, 1) := by decide +kernel
theorem d_law_1596 : decode code 1596 = .ok ((.aload_n 0), 1) := by decide +kernel
theorem d_law_1597 : decode code 1597 = .ok ((.iload_n 3), 1) := by decide +kernel
theorem d_law_1598 : decode code 1598 = .ok ((.iconst 2), 1) := by decide +kernel
theorem d_law_1599 : decode code 1599 = .ok (.iadd, 1) := by decide +kernel
theorem d_law_1600 : decode code 1600 = .ok (.iaload, 1) := by decide +kernel
theorem d_law_1601 : decode code 1601 = .ok ((.aload_n 0), 1) := by decide +kernel
theorem d_law_1602 : decode code 1602 = .ok ((.iload_n 3), 1) := by decide +kernel
theorem d_law_1603 : decode code 1603 = .ok ((.iconst 3), 1) := by decide +kernel
theorem d_law_1604 : decode code 1604 = .ok (.iadd, 1) := by decide +kernel
theorem d_law_1605 : decode code 1605 = .ok (.iaload, 1) := by decide +kernel
theorem d_law_1606 : decode code 1606 = .ok ((.invokevirtual 152), 3) := by decide +kernel
theorem d_law_1609 : decode code 1609 = .ok ((.aload_n 2), 1) := by decide +kernel
theorem d_law_1610 : decode code 1610 = .ok ((.aload_n 0), 1) := by decide +kernel
theorem d_law_1611 : decode code 1611 = .ok ((.iload_n 3), 1) := by decide +kernel
theorem d_law_1612 : decode code 1612 = .ok ((.iconst 1), 1) := by decide +kernel
theorem d_law_1613 : decode code 1613 = .ok (.iadd, 1) := by decide +kernel
theorem d_law_1614 : decode code 1614 = .ok (.iaload, 1) := by decide +kernel
theorem d_law_1615 : decode code 1615 = .ok ((.aload_n 0), 1) := by decide +kernel
theorem d_law_1616 : decode code 1616 = .ok ((.iload_n 3), 1) := by decide +kernel
theorem d_law_1617 : decode code 1617 = .ok ((.iconst 2), 1) := by decide +kernel
theorem d_law_1618 : decode code 1618 = .ok (.iadd, 1) := by decide +kernel
theorem d_law_1619 : decode code 1619 = .ok (.iaload, 1) := by decide +kernel
theorem d_law_1620 : decode code 1620 = .ok ((.aload_n 0), 1) := by decide +kernel
theorem d_law_1621 : decode code 1621 = .ok ((.iload_n 3), 1) := by decide +kernel
theorem d_law_1622 : decode code 1622 = .ok ((.iconst 3), 1) := by decide +kernel
theorem d_law_1623 : decode code 1623 = .ok (.iadd, 1) := by decide +kernel
theorem d_law_1624 : decode code 1624 = .ok (.iaload, 1) := by decide +kernel
theorem d_law_1625 : decode code 1625 = .ok ((.invokevirtual 155), 3) := by decide +kernel
theorem d_law_1628 : decode code 1628 = .ok ((.if_icmp .eq 437), 3) := by decide +kernel
theorem d_law_1631 : decode code 1631 = .ok ((.iconst 0), 1) := by decide +kernel
theorem d_law_1632 : decode code 1632 = .ok (.ireturn, 1) := by decide +kernel
theorem d_law_1633 : decode code 1633 = .ok ((.aload_n 1), 1) := by decide +kernel
theorem d_law_1634 : decode code 1634 = .ok ((.aload_n 0), 1) := by decide +kernel
theorem d_law_1635 : decode code 1635 = .ok ((.iload_n 3), 1) := by decide +kernel
theorem d_law_1636 : decode code 1636 = .ok ((.iconst 1), 1) := by decide +kernel
theorem d_law_1637 : decode code 1637 = .ok (.iadd, 1) := by decide +kernel
theorem d_law_1638 : decode code 1638 = .ok (.iaload, 1) := by decide +kernel
theorem d_law_1639 : decode code 1639 = .ok ((.aload_n 0), 1) := by decide +kernel
theorem d_law_1640 : decode code 1640 = .ok ((.iload_n 3), 1) := by decide +kernel
theorem d_law_1641 : decode code 1641 = .ok ((.iconst 2), 1) := by decide +kernel
theorem d_law_1642 : decode code 1642 = .ok (.iadd, 1) := by decide +kernel
theorem d_law_1643 : decode code 1643 = .ok (.iaload, 1) := by decide +kernel
theorem d_law_1644 : decode code 1644 = .ok ((.invokevirtual 156), 3) := by decide +kernel
theorem d_law_1647 : decode code 1647 = .ok ((.aload_n 2), 1) := by decide +kernel
theorem d_law_1648 : decode code 1648 = .ok ((.aload_n 0), 1) := by decide +kernel
theorem d_law_1649 : decode code 1649 = .ok ((.iload_n 3), 1) := by decide +kernel
theorem d_law_1650 : decode code 1650 = .ok ((.iconst 1), 1) := by decide +kernel
theorem d_law_1651 : decode code 1651 = .ok (.iadd, 1) := by decide +kernel
theorem d_law_1652 : decode code 1652 = .ok (.iaload, 1) := by decide +kernel
theorem d_law_1653 : decode code 1653 = .ok ((.aload_n 0), 1) := by decide +kernel
theorem d_law_1654 : decode code 1654 = .ok ((.iload_n 3), 1) := by decide +kernel
theorem d_law_1655 : decode code 1655 = .ok ((.iconst 2), 1) := by decide +kernel
theorem d_law_1656 : decode code 1656 = .ok (.iadd, 1) := by decide +kernel
theorem d_law_1657 : decode code 1657 = .ok (.iaload, 1) := by decide +kernel
theorem d_law_1658 : decode code 1658 = .ok ((.invokevirtual 159), 3) := by decide +kernel
theorem d_law_1661 : decode code 1661 = .ok ((.if_icmp .eq 404), 3) := by decide +kernel
theorem d_law_1664 : decode code 1664 = .ok ((.iconst 0), 1) := by decide +kernel
theorem d_law_1665 : decode code 1665 = .ok (.ireturn, 1) := by decide +kernel
theorem d_law_1666 : decode code 1666 = .ok ((.aload_n 1), 1) := by decide +kernel
theorem d_law_1667 : decode code 1667 = .ok ((.aload_n 0), 1) := by decide +kernel
theorem d_law_1668 : decode code 1668 = .ok ((.iload_n 3), 1) := by decide +kernel
theorem d_law_1669 : decode code 1669 = .ok ((.iconst 1), 1) := by decide +kernel
theorem d_law_1670 : decode code 1670 = .ok (.iadd, 1) := by decide +kernel
theorem d_law_1671 : decode code 1671 = .ok (.iaload, 1) := by decide +kernel
theorem d_law_1672 : decode code 1672 = .ok ((.aload_n 0), 1) := by decide +kernel
theorem d_law_1673 : decode code 1673 = .ok ((.iload_n 3), 1) := by decide +kernel
theorem d_law_1674 : decode code 1674 = .ok ((.iconst 2), 1) := by decide +kernel
theorem d_law_1675 : decode code 1675 = .ok (.iadd, 1) := by decide +kernel
theorem d_law_1676 : decode code 1676 = .ok (.iaload, 1) := by decide +kernel
theorem d_law_1677 : decode code 1677 = .ok ((.invokevirtual 160), 3) := by decide +kernel
theorem d_law_1680 : decode code 1680 = .ok ((.aload_n 2), 1) := by decide +kernel
theorem d_law_1681 : decode code 1681 = .ok ((.aload_n 0), 1) := by decide +kernel
theorem d_law_1682 : decode code 1682 = .ok ((.iload_n 3), 1) := by decide +kernel
theorem d_law_1683 : decode code 1683 = .ok ((.iconst 1), 1) := by decide +kernel
theorem d_law_1684 : decode code 1684 = .ok (.iadd, 1) := by decide +kernel
theorem d_law_1685 : decode code 1685 = .ok (.iaload, 1) := by decide +kernel
theorem d_law_1686 : decode code 1686 = .ok ((.aload_n 0), 1) := by decide +kernel
theorem d_law_1687 : decode code 1687 = .ok ((.iload_n 3), 1) := by decide +kernel
theorem d_law_1688 : decode code 1688 = .ok ((.iconst 2), 1) := by decide +kernel
theorem d_law_1689 : decode code 1689 = .ok (.iadd, 1) := by decide +kernel
theorem d_law_1690 : decode code 1690 = .ok (.iaload, 1) := by decide +kernel
theorem d_law_1691 : decode code 1691 = .ok ((.invokevirtual 163), 3) := by decide +kernel
theorem d_law_1694 : decode code 1694 = .ok ((.if_icmp .eq 371), 3) := by decide +kernel
theorem d_law_1697 : decode code 1697 = .ok ((.iconst 0), 1) := by decide +kernel
theorem d_law_1698 : decode code 1698 = .ok (.ireturn, 1) := by decide +kernel
theorem d_law_1699 : decode code 1699 = .ok ((.aload_n 1), 1) := by decide +kernel
theorem d_law_1700 : decode code 1700 = .ok ((.aload_n 0), 1) := by decide +kernel
theorem d_law_1701 : decode code 1701 = .ok ((.iload_n 3), 1) := by decide +kernel
theorem d_law_1702 : decode code 1702 = .ok ((.iconst 1), 1) := by decide +kernel
theorem d_law_1703 : decode code 1703 = .ok (.iadd, 1) := by decide +kernel
theorem d_law_1704 : decode code 1704 = .ok (.iaload, 1) := by decide +kernel
theorem d_law_1705 : decode code 1705 = .ok ((.invokevirtual 164), 3) := by decide +kernel
theorem d_law_1708 : decode code 1708 = .ok ((.aload_n 2), 1) := by decide +kernel
theorem d_law_1709 : decode code 1709 = .ok ((.aload_n 0), 1) := by decide +kernel
theorem d_law_1710 : decode code 1710 = .ok ((.iload_n 3), 1) := by decide +kernel
theorem d_law_1711 : decode code 1711 = .ok ((.iconst 1), 1) := by decide +kernel
theorem d_law_1712 : decode code 1712 = .ok (.iadd, 1) := by decide +kernel
theorem d_law_1713 : decode code 1713 = .ok (.iaload, 1) := by decide +kernel
theorem d_law_1714 : decode code 1714 = .ok ((.invokevirtual 167), 3) := by decide +kernel
theorem d_law_1717 : decode code 1717 = .ok ((.if_icmp .eq 348), 3) := by decide +kernel
theorem d_law_1720 : decode code 1720 = .ok ((.iconst 0), 1) := by decide +kernel
theorem d_law_1721 : decode code 1721 = .ok (.ireturn, 1) := by decide +kernel
theorem d_law_1722 : decode code 1722 = .ok ((.aload_n 1), 1) := by decide +kernel
theorem d_law_1723 : decode code 1723 = .ok ((.aload_n 0), 1) := by decide +kernel
theorem d_law_1724 : decode code 1724 = .ok ((.iload_n 3), 1) := by decide +kernel
theorem d_law_1725 : decode code 1725 = .ok ((.iconst 1), 1) := by decide +kernel
theorem d_law_1726 : decode code 1726 = .ok (.iadd, 1) := by decide +kernel
theorem d_law_1727 : decode code 1727 = .ok (.iaload, 1) := by decide +kernel
theorem d_law_1728 : decode code 1728 = .ok ((.aload_n 0), 1) := by decide +kernel
theorem d_law_1729 : decode code 1729 = .ok ((.iload_n 3), 1) := by decide +kernel
theorem d_law_1730 : decode code 1730 = .ok ((.iconst 2), 1) := by decide +kernel
theorem d_law_1731 : decode code 1731 = .ok (.iadd, 1) := by decide +kernel
theorem d_law_1732 : decode code 1732 = .ok (.iaload, 1) := by decide +kernel
theorem d_law_1733 : decode code 1733 = .ok ((.aload_n 0), 1) := by decide +kernel
theorem d_law_1734 : decode code 1734 = .ok ((.iload_n 3), 1) := by decide +kernel
theorem d_law_1735 : decode code 1735 = .ok ((.iconst 3), 1) := by decide +kernel
theorem d_law_1736 : decode code 1736 = .ok (.iadd, 1) := by decide +kernel
theorem d_law_1737 : decode code 1737 = .ok (.iaload, 1) := by decide +kernel
theorem d_law_1738 : decode code 1738 = .ok ((.invokevirtual 168), 3) := by decide +kernel
theorem d_law_1741 : decode code 1741 = .ok ((.aload_n 2), 1) := by decide +kernel
theorem d_law_1742 : decode code 1742 = .ok ((.aload_n 0), 1) := by decide +kernel
theorem d_law_1743 : decode code 1743 = .ok ((.iload_n 3), 1) := by decide +kernel
theorem d_law_1744 : decode code 1744 = .ok ((.iconst 1), 1) := by decide +kernel
theorem d_law_1745 : decode code 1745 = .ok (.iadd, 1) := by decide +kernel
theorem d_law_1746 : decode code 1746 = .ok (.iaload, 1) := by decide +kernel
theorem d_law_1747 : decode code 1747 = .ok ((.aload_n 0), 1) := by decide +kernel
theorem d_law_1748 : decode code 1748 = .ok ((.iload_n 3), 1) := by decide +kernel
theorem d_law_1749 : decode code 1749 = .ok ((.iconst 2), 1) := by decide +kernel
theorem d_law_1750 : decode code 1750 = .ok (.iadd, 1) := by decide +kernel
theorem d_law_1751 : decode code 1751 = .ok (.iaload, 1) := by decide +kernel
theorem d_law_1752 : decode code 1752 = .ok ((.aload_n 0), 1) := by decide +kernel
theorem d_law_1753 : decode code 1753 = .ok ((.iload_n 3), 1) := by decide +kernel
theorem d_law_1754 : decode code 1754 = .ok ((.iconst 3), 1) := by decide +kernel
theorem d_law_1755 : decode code 1755 = .ok (.iadd, 1) := by decide +kernel
theorem d_law_1756 : decode code 1756 = .ok (.iaload, 1) := by decide +kernel
theorem d_law_1757 : decode code 1757 = .ok ((.invokevirtual 171), 3) := by decide +kernel
theorem d_law_1760 : decode code 1760 = .ok ((.if_icmp .eq 305), 3) := by decide +kernel
theorem d_law_1763 : decode code 1763 = .ok ((.iconst 0), 1) := by decide +kernel
theorem d_law_1764 : decode code 1764 = .ok (.ireturn, 1) := by decide +kernel
theorem d_law_1765 : decode code 1765 = .ok ((.aload_n 1), 1) := by decide +kernel
theorem d_law_1766 : decode code 1766 = .ok ((.aload_n 0), 1) := by decide +kernel
theorem d_law_1767 : decode code 1767 = .ok ((.iload_n 3), 1) := by decide +kernel
theorem d_law_1768 : decode code 1768 = .ok ((.iconst 1), 1) := by decide +kernel
theorem d_law_1769 : decode code 1769 = .ok (.iadd, 1) := by decide +kernel
theorem d_law_1770 : decode code 1770 = .ok (.iaload, 1) := by decide +kernel
theorem d_law_1771 : decode code 1771 = .ok ((.invokevirtual 172), 3) := by decide +kernel
theorem d_law_1774 : decode code 1774 = .ok ((.aload_n 2), 1) := by decide +kernel
theorem d_law_1775 : decode code 1775 = .ok ((.aload_n 0), 1) := by decide +kernel
theorem d_law_1776 : decode code 1776 = .ok ((.iload_n 3), 1) := by decide +kernel
theorem d_law_1777 : decode code 1777 = .ok ((.iconst 1), 1) := by decide +kernel
theorem d_law_1778 : decode code 1778 = .ok (.iadd, 1) := by decide +kernel
theorem d_law_1779 : decode code 1779 = .ok (.iaload, 1) := by decide +kernel
theorem d_law_1780 : decode code 1780 = .ok ((.invokevirtual 175), 3) := by decide +kernel
theorem d_law_1783 : decode code 1783 = .ok ((.if_icmp .eq 282), 3) := by decide +kernel
theorem d_law_1786 : decode code 1786 = .ok ((.iconst 0), 1) := by decide +kernel
theorem d_law_1787 : decode code 1787 = .ok (.ireturn, 1) := by decide +kernel
theorem d_law_1788 : decode code 1788 = .ok ((.aload_n 1), 1) := by decide +kernel
theorem d_law_1789 : decode code 1789 = .ok ((.aload_n 0), 1) := by decide +kernel
theorem d_law_1790 : decode code 1790 = .ok ((.iload_n 3), 1) := by decide +kernel
theorem d_law_1791 : decode code 1791 = .ok ((.iconst 1), 1) := by decide +kernel
theorem d_law_1792 : decode code 1792 = .ok (.iadd, 1) := by decide +kernel
theorem d_law_1793 : decode code 1793 = .ok (.iaload, 1) := by decide +kernel
theorem d_law_1794 : decode code 1794 = .ok ((.aload_n 0), 1) := by decide +kernel
theorem d_law_1795 : decode code 1795 = .ok ((.iload_n 3), 1) := by decide +kernel
theorem d_law_1796 : decode code 1796 = .ok ((.iconst 2), 1) := by decide +kernel
theorem d_law_1797 : decode code 1797 = .ok (.iadd, 1) := by decide +kernel
theorem d_law_1798 : decode code 1798 = .ok (.iaload, 1) := by decide +kernel
theorem d_law_1799 : decode code 1799 = .ok ((.ifCond .eq 7), 3) := by decide +kernel
theorem d_law_1802 : decode code 1802 = .ok ((.iconst 1), 1) := by decide +kernel
theorem d_law_1803 : decode code 1803 = .ok ((.goto 4), 3) := by decide +kernel
theorem d_law_1806 : decode code 1806 = .ok ((.iconst 0), 1) := by decide +kernel
theorem d_law_1807 : decode code 1807 = .ok ((.invokevirtual 176), 3) := by decide +kernel
theorem d_law_1810 : decode code 1810 = .ok ((.aload_n 2), 1) := by decide +kernel
theorem d_law_1811 : decode code 1811 = .ok ((.aload_n 0), 1) := by decide +kernel
theorem d_law_1812 : decode code 1812 = .ok ((.iload_n 3), 1) := by decide +kernel
theorem d_law_1813 : decode code 1813 = .ok ((.iconst 1), 1) := by decide +kernel
theorem d_law_1814 : decode code 1814 = .ok (.iadd, 1) := by decide +kernel
theorem d_law_1815 : decode code 1815 = .ok (.iaload, 1) := by decide +kernel
theorem d_law_1816 : decode code 1816 = .ok ((.aload_n 0), 1) := by decide +kernel
theorem d_law_1817 : decode code 1817 = .ok ((.iload_n 3), 1) := by decide +kernel
theorem d_law_1818 : decode code 1818 = .ok ((.iconst 2), 1) := by decide +kernel
theorem d_law_1819 : decode code 1819 = .ok (.iadd, 1) := by decide +kernel
theorem d_law_1820 : decode code 1820 = .ok (.iaload, 1) := by decide +kernel
theorem d_law_1821 : decode code 1821 = .ok ((.ifCond .eq 7), 3) := by decide +kernel
theorem d_law_1824 : decode code 1824 = .ok ((.iconst 1), 1) := by decide +kernel
theorem d_law_1825 : decode code 1825 = .ok ((.goto 4), 3) := by decide +kernel
theorem d_law_1828 : decode code 1828 = .ok ((.iconst 0), 1) := by decide +kernel
theorem d_law_1829 : decode code 1829 = .ok ((.invokevirtual 179), 3) := by decide +kernel
theorem d_law_1832 : decode code 1832 = .ok ((.if_icmp .eq 233), 3) := by decide +kernel
theorem d_law_1835 : decode code 1835 = .ok ((.iconst 0), 1) := by decide +kernel
theorem d_law_1836 : decode code 1836 = .ok (.ireturn, 1) := by decide +kernel
theorem d_law_1837 : decode code 1837 = .ok ((.aload_n 1), 1) := by decide +kernel
theorem d_law_1838 : decode code 1838 = .ok ((.aload_n 0), 1) := by decide +kernel
theorem d_law_1839 : decode code 1839 = .ok ((.iload_n 3), 1) := by decide +kernel
theorem d_law_1840 : decode code 1840 = .ok ((.iconst 1), 1) := by decide +kernel
theorem d_law_1841 : decode code 1841 = .ok (.iadd, 1) := by decide +kernel
theorem d_law_1842 : decode code 1842 = .ok (.iaload, 1) := by decide +kernel
theorem d_law_1843 : decode code 1843 = .ok ((.aload_n 0), 1) := by decide +kernel
theorem d_law_1844 : decode code 1844 = .ok ((.iload_n 3), 1) := by decide +kernel
theorem d_law_1845 : decode code 1845 = .ok ((.iconst 2), 1) := by decide +kernel
theorem d_law_1846 : decode code 1846 = .ok (.iadd, 1) := by decide +kernel
theorem d_law_1847 : decode code 1847 = .ok (.iaload, 1) := by decide +kernel
theorem d_law_1848 : decode code 1848 = .ok ((.aload_n 0), 1) := by decide +kernel
theorem d_law_1849 : decode code 1849 = .ok ((.iload_n 3), 1) := by decide +kernel
theorem d_law_1850 : decode code 1850 = .ok ((.iconst 3), 1) := by decide +kernel
theorem d_law_1851 : decode code 1851 = .ok (.iadd, 1) := by decide +kernel
theorem d_law_1852 : decode code 1852 = .ok (.iaload, 1) := by decide +kernel
theorem d_law_1853 : decode code 1853 = .ok ((.aload_n 0), 1) := by decide +kernel
theorem d_law_1854 : decode code 1854 = .ok ((.iload_n 3), 1) := by decide +kernel
theorem d_law_1855 : decode code 1855 = .ok ((.iconst 4), 1) := by decide +kernel
theorem d_law_1856 : decode code 1856 = .ok (.iadd, 1) := by decide +kernel
theorem d_law_1857 : decode code 1857 = .ok (.iaload, 1) := by decide +kernel
theorem d_law_1858 : decode code 1858 = .ok ((.aload_n 0), 1) := by decide +kernel
theorem d_law_1859 : decode code 1859 = .ok ((.iload_n 3), 1) := by decide +kernel
theorem d_law_1860 : decode code 1860 = .ok ((.iconst 5), 1) := by decide +kernel
theorem d_law_1861 : decode code 1861 = .ok (.iadd, 1) := by decide +kernel
theorem d_law_1862 : decode code 1862 = .ok (.iaload, 1) := by decide +kernel
theorem d_law_1863 : decode code 1863 = .ok ((.invokevirtual 180), 3) := by decide +kernel
theorem d_law_1866 : decode code 1866 = .ok ((.aload_n 2), 1) := by decide +kernel
theorem d_law_1867 : decode code 1867 = .ok ((.aload_n 0), 1) := by decide +kernel
theorem d_law_1868 : decode code 1868 = .ok ((.iload_n 3), 1) := by decide +kernel
theorem d_law_1869 : decode code 1869 = .ok ((.iconst 1), 1) := by decide +kernel
theorem d_law_1870 : decode code 1870 = .ok (.iadd, 1) := by decide +kernel
theorem d_law_1871 : decode code 1871 = .ok (.iaload, 1) := by decide +kernel
theorem d_law_1872 : decode code 1872 = .ok ((.aload_n 0), 1) := by decide +kernel
theorem d_law_1873 : decode code 1873 = .ok ((.iload_n 3), 1) := by decide +kernel
theorem d_law_1874 : decode code 1874 = .ok ((.iconst 2), 1) := by decide +kernel
theorem d_law_1875 : decode code 1875 = .ok (.iadd, 1) := by decide +kernel
theorem d_law_1876 : decode code 1876 = .ok (.iaload, 1) := by decide +kernel
theorem d_law_1877 : decode code 1877 = .ok ((.aload_n 0), 1) := by decide +kernel
theorem d_law_1878 : decode code 1878 = .ok ((.iload_n 3), 1) := by decide +kernel
theorem d_law_1879 : decode code 1879 = .ok ((.iconst 3), 1) := by decide +kernel
theorem d_law_1880 : decode code 1880 = .ok (.iadd, 1) := by decide +kernel
theorem d_law_1881 : decode code 1881 = .ok (.iaload, 1) := by decide +kernel
theorem d_law_1882 : decode code 1882 = .ok ((.aload_n 0), 1) := by decide +kernel
theorem d_law_1883 : decode code 1883 = .ok ((.iload_n 3), 1) := by decide +kernel
theorem d_law_1884 : decode code 1884 = .ok ((.iconst 4), 1) := by decide +kernel
theorem d_law_1885 : decode code 1885 = .ok (.iadd, 1) := by decide +kernel
theorem d_law_1886 : decode code 1886 = .ok (.iaload, 1) := by decide +kernel
theorem d_law_1887 : decode code 1887 = .ok ((.aload_n 0), 1) := by decide +kernel
theorem d_law_1888 : decode code 1888 = .ok ((.iload_n 3), 1) := by decide +kernel
theorem d_law_1889 : decode code 1889 = .ok ((.iconst 5), 1) := by decide +kernel
theorem d_law_1890 : decode code 1890 = .ok (.iadd, 1) := by decide +kernel
theorem d_law_1891 : decode code 1891 = .ok (.iaload, 1) := by decide +kernel
theorem d_law_1892 : decode code 1892 = .ok ((.invokevirtual 183), 3) := by decide +kernel
theorem d_law_1895 : decode code 1895 = .ok ((.if_icmp .eq 170), 3) := by decide +kernel
theorem d_law_1898 : decode code 1898 = .ok ((.iconst 0), 1) := by decide +kernel
theorem d_law_1899 : decode code 1899 = .ok (.ireturn, 1) := by decide +kernel
theorem d_law_1900 : decode code 1900 = .ok ((.aload_n 1), 1) := by decide +kernel
theorem d_law_1901 : decode code 1901 = .ok ((.aload_n 0), 1) := by decide +kernel
theorem d_law_1902 : decode code 1902 = .ok ((.iload_n 3), 1) := by decide +kernel
theorem d_law_1903 : decode code 1903 = .ok ((.iconst 1), 1) := by decide +kernel
theorem d_law_1904 : decode code 1904 = .ok (.iadd, 1) := by decide +kernel
theorem d_law_1905 : decode code 1905 = .ok (.iaload, 1) := by decide +kernel
theorem d_law_1906 : decode code 1906 = .ok ((.aload_n 0), 1) := by decide +kernel
theorem d_law_1907 : decode code 1907 = .ok ((.iload_n 3), 1) := by decide +kernel
theorem d_law_1908 : decode code 1908 = .ok ((.iconst 2), 1) := by decide +kernel
theorem d_law_1909 : decode code 1909 = .ok (.iadd, 1) := by decide +kernel
theorem d_law_1910 : decode code 1910 = .ok (.iaload, 1) := by decide +kernel
theorem d_law_1911 : decode code 1911 = .ok ((.aload_n 0), 1) := by decide +kernel
theorem d_law_1912 : decode code 1912 = .ok ((.iload_n 3), 1) := by decide +kernel
theorem d_law_1913 : decode code 1913 = .ok ((.iconst 3), 1) := by decide +kernel
theorem d_law_1914 : decode code 1914 = .ok (.iadd, 1) := by decide +kernel
theorem d_law_1915 : decode code 1915 = .ok (.iaload, 1) := by decide +kernel
theorem d_law_1916 : decode code 1916 = .ok ((.aload_n 0), 1) := by decide +kernel
theorem d_law_1917 : decode code 1917 = .ok ((.iload_n 3), 1) := by decide +kernel
theorem d_law_1918 : decode code 1918 = .ok ((.iconst 4), 1) := by decide +kernel
theorem d_law_1919 : decode code 1919 = .ok (.iadd, 1) := by decide +kernel
theorem d_law_1920 : decode code 1920 = .ok (.iaload, 1) := by decide +kernel
theorem d_law_1921 : decode code 1921 = .ok ((.invokevirtual 184), 3) := by decide +kernel
theorem d_law_1924 : decode code 1924 = .ok ((.aload_n 2), 1) := by decide +kernel
theorem d_law_1925 : decode code 1925 = .ok ((.aload_n 0), 1) := by decide +kernel
theorem d_law_1926 : decode code 1926 = .ok ((.iload_n 3), 1) := by decide +kernel
theorem d_law_1927 : decode code 1927 = .ok ((.iconst 1), 1) := by decide +kernel
theorem d_law_1928 : decode code 1928 = .ok (.iadd, 1) := by decide +kernel
theorem d_law_1929 : decode code 1929 = .ok (.iaload, 1) := by decide +kernel
theorem d_law_1930 : decode code 1930 = .ok ((.aload_n 0), 1) := by decide +kernel
theorem d_law_1931 : decode code 1931 = .ok ((.iload_n 3), 1) := by decide +kernel
theorem d_law_1932 : decode code 1932 = .ok ((.iconst 2), 1) := by decide +kernel
theorem d_law_1933 : decode code 1933 = .ok (.iadd, 1) := by decide +kernel
theorem d_law_1934 : decode code 1934 = .ok (.iaload, 1) := by decide +kernel
theorem d_law_1935 : decode code 1935 = .ok ((.aload_n 0), 1) := by decide +kernel
theorem d_law_1936 : decode code 1936 = .ok ((.iload_n 3), 1) := by decide +kernel
theorem d_law_1937 : decode code 1937 = .ok ((.iconst 3), 1) := by decide +kernel
theorem d_law_1938 : decode code 1938 = .ok (.iadd, 1) := by decide +kernel
theorem d_law_1939 : decode code 1939 = .ok (.iaload, 1) := by decide +kernel
theorem d_law_1940 : decode code 1940 = .ok ((.aload_n 0), 1) := by decide +kernel
theorem d_law_1941 : decode code 1941 = .ok ((.iload_n 3), 1) := by decide +kernel
theorem d_law_1942 : decode code 1942 = .ok ((.iconst 4), 1) := by decide +kernel
theorem d_law_1943 : decode code 1943 = .ok (.iadd, 1) := by decide +kernel
theorem d_law_1944 : decode code 1944 = .ok (.iaload, 1) := by decide +kernel
theorem d_law_1945 : decode code 1945 = .ok ((.invokevirtual 187), 3) := by decide +kernel
theorem d_law_1948 : decode code 1948 = .ok ((.if_icmp .eq 117), 3) := by decide +kernel
theorem d_law_1951 : decode code 1951 = .ok ((.iconst 0), 1) := by decide +kernel
theorem d_law_1952 : decode code 1952 = .ok (.ireturn, 1) := by decide +kernel
theorem d_law_1953 : decode code 1953 = .ok ((.aload_n 1), 1) := by decide +kernel
theorem d_law_1954 : decode code 1954 = .ok ((.aload_n 0), 1) := by decide +kernel
theorem d_law_1955 : decode code 1955 = .ok ((.iload_n 3), 1) := by decide +kernel
theorem d_law_1956 : decode code 1956 = .ok ((.iconst 1), 1) := by decide +kernel
theorem d_law_1957 : decode code 1957 = .ok (.iadd, 1) := by decide +kernel
theorem d_law_1958 : decode code 1958 = .ok (.iaload, 1) := by decide +kernel
theorem d_law_1959 : decode code 1959 = .ok ((.aload_n 0), 1) := by decide +kernel
theorem d_law_1960 : decode code 1960 = .ok ((.iload_n 3), 1) := by decide +kernel
theorem d_law_1961 : decode code 1961 = .ok ((.iconst 2), 1) := by decide +kernel
theorem d_law_1962 : decode code 1962 = .ok (.iadd, 1) := by decide +kernel
theorem d_law_1963 : decode code 1963 = .ok (.iaload, 1) := by decide +kernel
theorem d_law_1964 : decode code 1964 = .ok ((.aload_n 0), 1) := by decide +kernel
theorem d_law_1965 : decode code 1965 = .ok ((.iload_n 3), 1) := by decide +kernel
theorem d_law_1966 : decode code 1966 = .ok ((.iconst 3), 1) := by decide +kernel
theorem d_law_1967 : decode code 1967 = .ok (.iadd, 1) := by decide +kernel
theorem d_law_1968 : decode code 1968 = .ok (.iaload, 1) := by decide +kernel
theorem d_law_1969 : decode code 1969 = .ok ((.invokevirtual 188), 3) := by decide +kernel
theorem d_law_1972 : decode code 1972 = .ok ((.aload_n 2), 1) := by decide +kernel
theorem d_law_1973 : decode code 1973 = .ok ((.aload_n 0), 1) := by decide +kernel
theorem d_law_1974 : decode code 1974 = .ok ((.iload_n 3), 1) := by decide +kernel
theorem d_law_1975 : decode code 1975 = .ok ((.iconst 1), 1) := by decide +kernel
theorem d_law_1976 : decode code 1976 = .ok (.iadd, 1) := by decide +kernel
theorem d_law_1977 : decode code 1977 = .ok (.iaload, 1) := by decide +kernel
theorem d_law_1978 : decode code 1978 = .ok ((.aload_n 0), 1) := by decide +kernel
theorem d_law_1979 : decode code 1979 = .ok ((.iload_n 3), 1) := by decide +kernel
theorem d_law_1980 : decode code 1980 = .ok ((.iconst 2), 1) := by decide +kernel
theorem d_law_1981 : decode code 1981 = .ok (.iadd, 1) := by decide +kernel
theorem d_law_1982 : decode code 1982 = .ok (.iaload, 1) := by decide +kernel
theorem d_law_1983 : decode code 1983 = .ok ((.aload_n 0), 1) := by decide +kernel
theorem d_law_1984 : decode code 1984 = .ok ((.iload_n 3), 1) := by decide +kernel
theorem d_law_1985 : decode code 1985 = .ok ((.iconst 3), 1) := by decide +kernel
theorem d_law_1986 : decode code 1986 = .ok (.iadd, 1) := by decide +kernel
theorem d_law_1987 : decode code 1987 = .ok (.iaload, 1) := by decide +kernel
theorem d_law_1988 : decode code 1988 = .ok ((.invokevirtual 191), 3) := by decide +kernel
theorem d_law_1991 : decode code 1991 = .ok ((.if_icmp .eq 74), 3) := by decide +kernel
theorem d_law_1994 : decode code 1994 = .ok ((.iconst 0), 1) := by decide +kernel
theorem d_law_1995 : decode code 1995 = .ok (.ireturn, 1) := by decide +kernel
theorem d_law_1996 : decode code 1996 = .ok ((.aload_n 1), 1) := by decide +kernel
theorem d_law_1997 : decode code 1997 = .ok ((.aload_n 0), 1) := by decide +kernel
theorem d_law_1998 : decode code 1998 = .ok ((.iload_n 3), 1) := by decide +kernel
theorem d_law_1999 : decode code 1999 = .ok ((.iconst 1), 1) := by decide +kernel
theorem d_law_2000 : decode code 2000 = .ok (.iadd, 1) := by decide +kernel
theorem d_law_2001 : decode code 2001 = .ok (.iaload, 1) := by decide +kernel
theorem d_law_2002 : decode code 2002 = .ok ((.invokevirtual 192), 3) := by decide +kernel
theorem d_law_2005 : decode code 2005 = .ok ((.aload_n 2), 1) := by decide +kernel
theorem d_law_2006 : decode code 2006 = .ok ((.aload_n 0), 1) := by decide +kernel
theorem d_law_2007 : decode code 2007 = .ok ((.iload_n 3), 1) := by decide +kernel
theorem d_law_2008 : decode code 2008 = .ok ((.iconst 1), 1) := by decide +kernel
theorem d_law_2009 : decode code 2009 = .ok (.iadd, 1) := by decide +kernel
theorem d_law_2010 : decode code 2010 = .ok (.iaload, 1) := by decide +kernel
theorem d_law_2011 : decode code 2011 = .ok ((.invokevirtual 195), 3) := by decide +kernel
theorem d_law_2014 : decode code 2014 = .ok ((.if_icmp .eq 51), 3) := by decide +kernel
theorem d_law_2017 : decode code 2017 = .ok ((.iconst 0), 1) := by decide +kernel
theorem d_law_2018 : decode code 2018 = .ok (.ireturn, 1) := by decide +kernel
theorem d_law_2019 : decode code 2019 = .ok ((.aload_n 1), 1) := by decide +kernel
theorem d_law_2020 : decode code 2020 = .ok ((.aload_n 0), 1) := by decide +kernel
theorem d_law_2021 : decode code 2021 = .ok ((.iload_n 3), 1) := by decide +kernel
theorem d_law_2022 : decode code 2022 = .ok ((.iconst 1), 1) := by decide +kernel
theorem d_law_2023 : decode code 2023 = .ok (.iadd, 1) := by decide +kernel
theorem d_law_2024 : decode code 2024 = .ok (.iaload, 1) := by decide +kernel
theorem d_law_2025 : decode code 2025 = .ok ((.invokevirtual 196), 3) := by decide +kernel
theorem d_law_2028 : decode code 2028 = .ok ((.aload_n 2), 1) := by decide +kernel
theorem d_law_2029 : decode code 2029 = .ok ((.aload_n 0), 1) := by decide +kernel
theorem d_law_2030 : decode code 2030 = .ok ((.iload_n 3), 1) := by decide +kernel
theorem d_law_2031 : decode code 2031 = .ok ((.iconst 1), 1) := by decide +kernel
theorem d_law_2032 : decode code 2032 = .ok (.iadd, 1) := by decide +kernel
theorem d_law_2033 : decode code 2033 = .ok (.iaload, 1) := by decide +kernel
theorem d_law_2034 : decode code 2034 = .ok ((.invokevirtual 199), 3) := by decide +kernel
theorem d_law_2037 : decode code 2037 = .ok ((.if_icmp .eq 28), 3) := by decide +kernel
theorem d_law_2040 : decode code 2040 = .ok ((.iconst 0), 1) := by decide +kernel
theorem d_law_2041 : decode code 2041 = .ok (.ireturn, 1) := by decide +kernel
theorem d_law_2042 : decode code 2042 = .ok ((.aload_n 1), 1) := by decide +kernel
theorem d_law_2043 : decode code 2043 = .ok ((.aload_n 0), 1) := by decide +kernel
theorem d_law_2044 : decode code 2044 = .ok ((.iload_n 3), 1) := by decide +kernel
theorem d_law_2045 : decode code 2045 = .ok ((.iconst 1), 1) := by decide +kernel
theorem d_law_2046 : decode code 2046 = .ok (.iadd, 1) := by decide +kernel
theorem d_law_2047 : decode code 2047 = .ok (.iaload, 1) := by decide +kernel
theorem d_law_2048 : decode code 2048 = .ok ((.invokevirtual 200), 3) := by decide +kernel
theorem d_law_2051 : decode code 2051 = .ok ((.aload_n 2), 1) := by decide +kernel
theorem d_law_2052 : decode code 2052 = .ok ((.aload_n 0), 1) := by decide +kernel
theorem d_law_2053 : decode code 2053 = .ok ((.iload_n 3), 1) := by decide +kernel
theorem d_law_2054 : decode code 2054 = .ok ((.iconst 1), 1) := by decide +kernel
theorem d_law_2055 : decode code 2055 = .ok (.iadd, 1) := by decide +kernel
theorem d_law_2056 : decode code 2056 = .ok (.iaload, 1) := by decide +kernel
theorem d_law_2057 : decode code 2057 = .ok ((.invokevirtual 203), 3) := by decide +kernel
theorem d_law_2060 : decode code 2060 = .ok ((.if_icmp .eq 5), 3) := by decide +kernel
theorem d_law_2063 : decode code 2063 = .ok ((.iconst 0), 1) := by decide +kernel
theorem d_law_2064 : decode code 2064 = .ok (.ireturn, 1) := by decide +kernel
theorem d_law_2065 : decode code 2065 = .ok ((.iinc 3 8), 3) := by decide +kernel
theorem d_law_2068 : decode code 2068 = .ok ((.goto (-2050)), 3) := by decide +kernel
theorem d_law_2071 : decode code 2071 = .ok ((.iconst 1), 1) := by decide +kernel
theorem d_law_2072 : decode code 2072 = .ok (.ireturn, 1) := by decide +kernel
theorem ml_law_9 : Cond.methodLink R_law 9 yX11_init ∈ tq_tbl := tq_m1 23 rfl rfl
theorem ml_law_13 : Cond.methodLink R_law 13 yX11_feed ∈ tq_tbl := tq_m2 176 rfl rfl
theorem ml_law_18 : Cond.methodLink R_law 18 yX11_back ∈ tq_tbl := tq_m2 184 rfl rfl
theorem ml_law_23 : Cond.methodLink R_law 23 yX11_read ∈ tq_tbl := tq_m2 188 rfl rfl
theorem ml_law_28 : Cond.methodLink R_law 28 yX11_place ∈ tq_tbl := tq_m3 209 rfl rfl
theorem ml_law_32 : Cond.methodLink R_law 32 yX11_fiddle ∈ tq_tbl := tq_m3 213 rfl rfl
theorem ml_law_37 : Cond.methodLink R_law 37 yX11_person ∈ tq_tbl := tq_m3 221 rfl rfl
theorem ml_law_41 : Cond.methodLink R_law 41 yX11_sitting ∈ tq_tbl := tq_m3 229 rfl rfl
theorem ml_law_46 : Cond.methodLink R_law 46 yX11_liking ∈ tq_tbl := tq_m4 10 rfl rfl
theorem ml_law_51 : Cond.methodLink R_law 51 yX11_taken ∈ tq_tbl := tq_m4 54 rfl rfl
theorem ml_law_56 : Cond.methodLink R_law 56 yX11_takes ∈ tq_tbl := tq_m4 77 rfl rfl
theorem ml_law_60 : Cond.methodLink R_law 60 yX11_run ∈ tq_tbl := tq_m4 87 rfl rfl
theorem ml_law_64 : Cond.methodLink R_law 64 yX11_touch ∈ tq_tbl := tq_m4 107 rfl rfl
theorem ml_law_69 : Cond.methodLink R_law 69 yX11_gains ∈ tq_tbl := tq_m4 126 rfl rfl
theorem ml_law_74 : Cond.methodLink R_law 74 yX11_mark ∈ tq_tbl := tq_m4 140 rfl rfl
theorem ml_law_79 : Cond.methodLink R_law 79 yX11_guess ∈ tq_tbl := tq_m4 144 rfl rfl
theorem ml_law_84 : Cond.methodLink R_law 84 yX11_annul ∈ tq_tbl := tq_m4 148 rfl rfl
theorem ml_law_88 : Cond.methodLink R_law 88 yX11_fact ∈ tq_tbl := tq_m4 161 rfl rfl
theorem ml_law_92 : Cond.methodLink R_law 92 yX11_last ∈ tq_tbl := tq_m4 165 rfl rfl
theorem ml_law_97 : Cond.methodLink R_law 97 yX11_mean ∈ tq_tbl := tq_m4 206 rfl rfl
theorem ml_law_102 : Cond.methodLink R_law 102 yX11_guesses ∈ tq_tbl := tq_m4 210 rfl rfl
theorem ml_law_106 : Cond.methodLink R_law 106 yX11_coin ∈ tq_tbl := tq_m4 214 rfl rfl
theorem ml_law_111 : Cond.methodLink R_law 111 yX11_table ∈ tq_tbl := tq_m4 225 rfl rfl
theorem ml_law_115 : Cond.methodLink R_law 115 yX11_steady ∈ tq_tbl := tq_m4 233 rfl rfl
theorem ml_law_119 : Cond.methodLink R_law 119 yX11_steadyWays ∈ tq_tbl := tq_m5 5 rfl rfl
theorem ml_law_123 : Cond.methodLink R_law 123 yX11_kinds ∈ tq_tbl := tq_m5 16 rfl rfl
theorem ml_law_127 : Cond.methodLink R_law 127 yX11_kindWays ∈ tq_tbl := tq_m5 33 rfl rfl
theorem ml_law_132 : Cond.methodLink R_law 132 yX11_flips ∈ tq_tbl := tq_m5 49 rfl rfl
theorem ml_law_136 : Cond.methodLink R_law 136 yX11_flipWays ∈ tq_tbl := tq_m5 75 rfl rfl
theorem ml_law_140 : Cond.methodLink R_law 140 yX11_small ∈ tq_tbl := tq_m5 88 rfl rfl
theorem ml_law_144 : Cond.methodLink R_law 144 yX11_knowing ∈ tq_tbl := tq_m5 102 rfl rfl
theorem ml_law_148 : Cond.methodLink R_law 148 yX11_knowingWays ∈ tq_tbl := tq_m5 110 rfl rfl
theorem ml_law_152 : Cond.methodLink R_law 152 yX11_spot ∈ tq_tbl := tq_m5 114 rfl rfl
theorem ml_law_156 : Cond.methodLink R_law 156 yX11_right ∈ tq_tbl := tq_m5 118 rfl rfl
theorem ml_law_160 : Cond.methodLink R_law 160 yX11_near ∈ tq_tbl := tq_m5 133 rfl rfl
theorem ml_law_164 : Cond.methodLink R_law 164 yX11_nearWays ∈ tq_tbl := tq_m5 154 rfl rfl
theorem ml_law_168 : Cond.methodLink R_law 168 yX11_beats ∈ tq_tbl := tq_m5 169 rfl rfl
theorem ml_law_172 : Cond.methodLink R_law 172 yX11_winner ∈ tq_tbl := tq_m5 177 rfl rfl
theorem ml_law_176 : Cond.methodLink R_law 176 yX11_best ∈ tq_tbl := tq_m5 190 rfl rfl
theorem ml_law_180 : Cond.methodLink R_law 180 yX11_need ∈ tq_tbl := tq_m5 196 rfl rfl
theorem ml_law_184 : Cond.methodLink R_law 184 yX11_parts ∈ tq_tbl := tq_m5 216 rfl rfl
theorem ml_law_188 : Cond.methodLink R_law 188 yX11_next ∈ tq_tbl := tq_m5 226 rfl rfl
theorem ml_law_192 : Cond.methodLink R_law 192 yX11_say ∈ tq_tbl := tq_m5 230 rfl rfl
theorem ml_law_196 : Cond.methodLink R_law 196 yX11_turned ∈ tq_tbl := tq_m6 18 rfl rfl
theorem ml_law_200 : Cond.methodLink R_law 200 yX11_count ∈ tq_tbl := tq_m6 22 rfl rfl
theorem ml_law_12 : Cond.methodLink R_law 12 yX12_init ∈ tq_tbl := tq_m6 28 rfl rfl
theorem ml_law_17 : Cond.methodLink R_law 17 yX12_feed ∈ tq_tbl := tq_m7 37 rfl rfl
theorem ml_law_22 : Cond.methodLink R_law 22 yX12_back ∈ tq_tbl := tq_m7 45 rfl rfl
theorem ml_law_27 : Cond.methodLink R_law 27 yX12_read ∈ tq_tbl := tq_m7 49 rfl rfl
theorem ml_law_31 : Cond.methodLink R_law 31 yX12_place ∈ tq_tbl := tq_m7 167 rfl rfl
theorem ml_law_36 : Cond.methodLink R_law 36 yX12_fiddle ∈ tq_tbl := tq_m7 171 rfl rfl
theorem ml_law_40 : Cond.methodLink R_law 40 yX12_person ∈ tq_tbl := tq_m7 186 rfl rfl
theorem ml_law_45 : Cond.methodLink R_law 45 yX12_sitting ∈ tq_tbl := tq_m7 198 rfl rfl
theorem ml_law_50 : Cond.methodLink R_law 50 yX12_liking ∈ tq_tbl := tq_m7 214 rfl rfl
theorem ml_law_55 : Cond.methodLink R_law 55 yX12_taken ∈ tq_tbl := tq_m7 235 rfl rfl
theorem ml_law_59 : Cond.methodLink R_law 59 yX12_takes ∈ tq_tbl := tq_m8 14 rfl rfl
theorem ml_law_68 : Cond.methodLink R_law 68 yX12_touch ∈ tq_tbl := tq_m8 18 rfl rfl
theorem ml_law_73 : Cond.methodLink R_law 73 yX12_gains ∈ tq_tbl := tq_m8 26 rfl rfl
theorem ml_law_63 : Cond.methodLink R_law 63 yX12_run ∈ tq_tbl := tq_m8 31 rfl rfl
theorem ml_law_78 : Cond.methodLink R_law 78 yX12_mark ∈ tq_tbl := tq_m8 39 rfl rfl
theorem ml_law_83 : Cond.methodLink R_law 83 yX12_guess ∈ tq_tbl := tq_m8 43 rfl rfl
theorem ml_law_87 : Cond.methodLink R_law 87 yX12_annul ∈ tq_tbl := tq_m8 47 rfl rfl
theorem ml_law_91 : Cond.methodLink R_law 91 yX12_fact ∈ tq_tbl := tq_m8 51 rfl rfl
theorem ml_law_96 : Cond.methodLink R_law 96 yX12_last ∈ tq_tbl := tq_m8 55 rfl rfl
theorem ml_law_101 : Cond.methodLink R_law 101 yX12_mean ∈ tq_tbl := tq_m8 71 rfl rfl
theorem ml_law_105 : Cond.methodLink R_law 105 yX12_guesses ∈ tq_tbl := tq_m8 83 rfl rfl
theorem ml_law_110 : Cond.methodLink R_law 110 yX12_coin ∈ tq_tbl := tq_m8 91 rfl rfl
theorem ml_law_114 : Cond.methodLink R_law 114 yX12_table ∈ tq_tbl := tq_m8 110 rfl rfl
theorem ml_law_118 : Cond.methodLink R_law 118 yX12_steady ∈ tq_tbl := tq_m8 114 rfl rfl
theorem ml_law_122 : Cond.methodLink R_law 122 yX12_steadyWays ∈ tq_tbl := tq_m8 129 rfl rfl
theorem ml_law_126 : Cond.methodLink R_law 126 yX12_kinds ∈ tq_tbl := tq_m8 144 rfl rfl
theorem ml_law_131 : Cond.methodLink R_law 131 yX12_kindWays ∈ tq_tbl := tq_m8 164 rfl rfl
theorem ml_law_143 : Cond.methodLink R_law 143 yX12_small ∈ tq_tbl := tq_m8 175 rfl rfl
theorem ml_law_135 : Cond.methodLink R_law 135 yX12_flips ∈ tq_tbl := tq_m8 179 rfl rfl
theorem ml_law_139 : Cond.methodLink R_law 139 yX12_flipWays ∈ tq_tbl := tq_m8 191 rfl rfl
theorem ml_law_147 : Cond.methodLink R_law 147 yX12_knowing ∈ tq_tbl := tq_m8 199 rfl rfl
theorem ml_law_151 : Cond.methodLink R_law 151 yX12_knowingWays ∈ tq_tbl := tq_m8 207 rfl rfl
theorem ml_law_155 : Cond.methodLink R_law 155 yX12_spot ∈ tq_tbl := tq_m8 211 rfl rfl
theorem ml_law_159 : Cond.methodLink R_law 159 yX12_right ∈ tq_tbl := tq_m8 227 rfl rfl
theorem ml_law_163 : Cond.methodLink R_law 163 yX12_near ∈ tq_tbl := tq_m8 231 rfl rfl
theorem ml_law_167 : Cond.methodLink R_law 167 yX12_nearWays ∈ tq_tbl := tq_m9 6 rfl rfl
theorem ml_law_171 : Cond.methodLink R_law 171 yX12_beats ∈ tq_tbl := tq_m9 14 rfl rfl
theorem ml_law_175 : Cond.methodLink R_law 175 yX12_winner ∈ tq_tbl := tq_m9 22 rfl rfl
theorem ml_law_179 : Cond.methodLink R_law 179 yX12_best ∈ tq_tbl := tq_m9 30 rfl rfl
theorem ml_law_183 : Cond.methodLink R_law 183 yX12_need ∈ tq_tbl := tq_m9 34 rfl rfl
theorem ml_law_187 : Cond.methodLink R_law 187 yX12_parts ∈ tq_tbl := tq_m9 38 rfl rfl
theorem ml_law_191 : Cond.methodLink R_law 191 yX12_next ∈ tq_tbl := tq_m9 46 rfl rfl
theorem ml_law_195 : Cond.methodLink R_law 195 yX12_say ∈ tq_tbl := tq_m9 50 rfl rfl
theorem ml_law_199 : Cond.methodLink R_law 199 yX12_turned ∈ tq_tbl := tq_m9 59 rfl rfl
theorem ml_law_203 : Cond.methodLink R_law 203 yX12_count ∈ tq_tbl := tq_m9 63 rfl rfl
