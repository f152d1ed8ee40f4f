/-! ===== the law's code ===== -/
theorem dL_0 : decode code 0 = .ok (.new 7, 3) := by decide +kernel
theorem dL_3 : decode code 3 = .ok (.dup, 1) := by decide +kernel
theorem dL_4 : decode code 4 = .ok (.invokespecial 9, 3) := by decide +kernel
theorem dL_7 : decode code 7 = .ok (.astore_n 1, 1) := by decide +kernel
theorem dL_8 : decode code 8 = .ok (.new 10, 3) := by decide +kernel
theorem dL_11 : decode code 11 = .ok (.dup, 1) := by decide +kernel
theorem dL_12 : decode code 12 = .ok (.invokespecial 12, 3) := by decide +kernel
theorem dL_15 : decode code 15 = .ok (.astore_n 2, 1) := by decide +kernel
theorem dL_16 : decode code 16 = .ok (.iconst 0, 1) := by decide +kernel
theorem dL_17 : decode code 17 = .ok (.istore_n 3, 1) := by decide +kernel
theorem dL_18 : decode code 18 = .ok (.iload_n 3, 1) := by decide +kernel
theorem dL_19 : decode code 19 = .ok (.aload_n 0, 1) := by decide +kernel
theorem dL_20 : decode code 20 = .ok (.arraylength, 1) := by decide +kernel
theorem dL_21 : decode code 21 = .ok (.bipush 6, 2) := by decide +kernel
theorem dL_23 : decode code 23 = .ok (.isub, 1) := by decide +kernel
theorem dL_24 : decode code 24 = .ok (.if_icmp .gt 1380, 3) := by decide +kernel
theorem dL_27 : decode code 27 = .ok (.aload_n 0, 1) := by decide +kernel
theorem dL_28 : decode code 28 = .ok (.iload_n 3, 1) := by decide +kernel
theorem dL_29 : decode code 29 = .ok (.iaload, 1) := by decide +kernel
theorem dL_30 : decode code 30 = .ok (.bipush 63, 2) := by decide +kernel
theorem dL_32 : decode code 32 = .ok (.iand, 1) := by decide +kernel
theorem dL_33 : decode code 33 = .ok (.tableswitch 1365 0 39 #[175, 208, 221, 244, 267, 290, 323, 356, 399, 432, 465, 528, 551, 604, 627, 650, 673, 696, 729, 762, 795, 828, 861, 874, 897, 930, 973, 996, 1039, 1062, 1105, 1148, 1211, 1234, 1257, 1270, 1283, 1306, 1319, 1342], 175) := by decide +kernel
theorem dL_208 : decode code 208 = .ok (.aload_n 1, 1) := by decide +kernel
theorem dL_209 : decode code 209 = .ok (.aload_n 0, 1) := by decide +kernel
theorem dL_210 : decode code 210 = .ok (.iload_n 3, 1) := by decide +kernel
theorem dL_211 : decode code 211 = .ok (.iconst 1, 1) := by decide +kernel
theorem dL_212 : decode code 212 = .ok (.iadd, 1) := by decide +kernel
theorem dL_213 : decode code 213 = .ok (.iaload, 1) := by decide +kernel
theorem dL_214 : decode code 214 = .ok (.aload_n 0, 1) := by decide +kernel
theorem dL_215 : decode code 215 = .ok (.iload_n 3, 1) := by decide +kernel
theorem dL_216 : decode code 216 = .ok (.iconst 2, 1) := by decide +kernel
theorem dL_217 : decode code 217 = .ok (.iadd, 1) := by decide +kernel
theorem dL_218 : decode code 218 = .ok (.iaload, 1) := by decide +kernel
theorem dL_219 : decode code 219 = .ok (.invokevirtual 13, 3) := by decide +kernel
theorem dL_222 : decode code 222 = .ok (.aload_n 2, 1) := by decide +kernel
theorem dL_223 : decode code 223 = .ok (.aload_n 0, 1) := by decide +kernel
theorem dL_224 : decode code 224 = .ok (.iload_n 3, 1) := by decide +kernel
theorem dL_225 : decode code 225 = .ok (.iconst 1, 1) := by decide +kernel
theorem dL_226 : decode code 226 = .ok (.iadd, 1) := by decide +kernel
theorem dL_227 : decode code 227 = .ok (.iaload, 1) := by decide +kernel
theorem dL_228 : decode code 228 = .ok (.aload_n 0, 1) := by decide +kernel
theorem dL_229 : decode code 229 = .ok (.iload_n 3, 1) := by decide +kernel
theorem dL_230 : decode code 230 = .ok (.iconst 2, 1) := by decide +kernel
theorem dL_231 : decode code 231 = .ok (.iadd, 1) := by decide +kernel
theorem dL_232 : decode code 232 = .ok (.iaload, 1) := by decide +kernel
theorem dL_233 : decode code 233 = .ok (.invokevirtual 17, 3) := by decide +kernel
theorem dL_236 : decode code 236 = .ok (.if_icmp .eq 1162, 3) := by decide +kernel
theorem dL_239 : decode code 239 = .ok (.iconst 0, 1) := by decide +kernel
theorem dL_240 : decode code 240 = .ok (.ireturn, 1) := by decide +kernel
theorem dL_241 : decode code 241 = .ok (.aload_n 1, 1) := by decide +kernel
theorem dL_242 : decode code 242 = .ok (.invokevirtual 18, 3) := by decide +kernel
theorem dL_245 : decode code 245 = .ok (.aload_n 2, 1) := by decide +kernel
theorem dL_246 : decode code 246 = .ok (.invokevirtual 22, 3) := by decide +kernel
theorem dL_249 : decode code 249 = .ok (.if_icmp .eq 1149, 3) := by decide +kernel
theorem dL_252 : decode code 252 = .ok (.iconst 0, 1) := by decide +kernel
theorem dL_253 : decode code 253 = .ok (.ireturn, 1) := by decide +kernel
theorem dL_254 : decode code 254 = .ok (.aload_n 1, 1) := by decide +kernel
theorem dL_255 : decode code 255 = .ok (.aload_n 0, 1) := by decide +kernel
theorem dL_256 : decode code 256 = .ok (.iload_n 3, 1) := by decide +kernel
theorem dL_257 : decode code 257 = .ok (.iconst 1, 1) := by decide +kernel
theorem dL_258 : decode code 258 = .ok (.iadd, 1) := by decide +kernel
theorem dL_259 : decode code 259 = .ok (.iaload, 1) := by decide +kernel
theorem dL_260 : decode code 260 = .ok (.invokevirtual 23, 3) := by decide +kernel
theorem dL_263 : decode code 263 = .ok (.aload_n 2, 1) := by decide +kernel
theorem dL_264 : decode code 264 = .ok (.aload_n 0, 1) := by decide +kernel
theorem dL_265 : decode code 265 = .ok (.iload_n 3, 1) := by decide +kernel
theorem dL_266 : decode code 266 = .ok (.iconst 1, 1) := by decide +kernel
theorem dL_267 : decode code 267 = .ok (.iadd, 1) := by decide +kernel
theorem dL_268 : decode code 268 = .ok (.iaload, 1) := by decide +kernel
theorem dL_269 : decode code 269 = .ok (.invokevirtual 27, 3) := by decide +kernel
theorem dL_272 : decode code 272 = .ok (.if_icmp .eq 1126, 3) := by decide +kernel
theorem dL_275 : decode code 275 = .ok (.iconst 0, 1) := by decide +kernel
theorem dL_276 : decode code 276 = .ok (.ireturn, 1) := by decide +kernel
theorem dL_277 : decode code 277 = .ok (.aload_n 1, 1) := by decide +kernel
theorem dL_278 : decode code 278 = .ok (.aload_n 0, 1) := by decide +kernel
theorem dL_279 : decode code 279 = .ok (.iload_n 3, 1) := by decide +kernel
theorem dL_280 : decode code 280 = .ok (.iconst 1, 1) := by decide +kernel
theorem dL_281 : decode code 281 = .ok (.iadd, 1) := by decide +kernel
theorem dL_282 : decode code 282 = .ok (.iaload, 1) := by decide +kernel
theorem dL_283 : decode code 283 = .ok (.invokevirtual 28, 3) := by decide +kernel
theorem dL_286 : decode code 286 = .ok (.aload_n 2, 1) := by decide +kernel
theorem dL_287 : decode code 287 = .ok (.aload_n 0, 1) := by decide +kernel
theorem dL_288 : decode code 288 = .ok (.iload_n 3, 1) := by decide +kernel
theorem dL_289 : decode code 289 = .ok (.iconst 1, 1) := by decide +kernel
theorem dL_290 : decode code 290 = .ok (.iadd, 1) := by decide +kernel
theorem dL_291 : decode code 291 = .ok (.iaload, 1) := by decide +kernel
theorem dL_292 : decode code 292 = .ok (.invokevirtual 31, 3) := by decide +kernel
theorem dL_295 : decode code 295 = .ok (.if_icmp .eq 1103, 3) := by decide +kernel
theorem dL_298 : decode code 298 = .ok (.iconst 0, 1) := by decide +kernel
theorem dL_299 : decode code 299 = .ok (.ireturn, 1) := by decide +kernel
theorem dL_300 : decode code 300 = .ok (.aload_n 1, 1) := by decide +kernel
theorem dL_301 : decode code 301 = .ok (.aload_n 0, 1) := by decide +kernel
theorem dL_302 : decode code 302 = .ok (.iload_n 3, 1) := by decide +kernel
theorem dL_303 : decode code 303 = .ok (.iconst 1, 1) := by decide +kernel
theorem dL_304 : decode code 304 = .ok (.iadd, 1) := by decide +kernel
theorem dL_305 : decode code 305 = .ok (.iaload, 1) := by decide +kernel
theorem dL_306 : decode code 306 = .ok (.invokevirtual 32, 3) := by decide +kernel
theorem dL_309 : decode code 309 = .ok (.aload_n 2, 1) := by decide +kernel
theorem dL_310 : decode code 310 = .ok (.aload_n 0, 1) := by decide +kernel
theorem dL_311 : decode code 311 = .ok (.iload_n 3, 1) := by decide +kernel
theorem dL_312 : decode code 312 = .ok (.iconst 1, 1) := by decide +kernel
theorem dL_313 : decode code 313 = .ok (.iadd, 1) := by decide +kernel
theorem dL_314 : decode code 314 = .ok (.iaload, 1) := by decide +kernel
theorem dL_315 : decode code 315 = .ok (.invokevirtual 35, 3) := by decide +kernel
theorem dL_318 : decode code 318 = .ok (.if_icmp .eq 1080, 3) := by decide +kernel
theorem dL_321 : decode code 321 = .ok (.iconst 0, 1) := by decide +kernel
theorem dL_322 : decode code 322 = .ok (.ireturn, 1) := by decide +kernel
theorem dL_323 : decode code 323 = .ok (.aload_n 1, 1) := by decide +kernel
theorem dL_324 : decode code 324 = .ok (.aload_n 0, 1) := by decide +kernel
theorem dL_325 : decode code 325 = .ok (.iload_n 3, 1) := by decide +kernel
theorem dL_326 : decode code 326 = .ok (.iconst 1, 1) := by decide +kernel
theorem dL_327 : decode code 327 = .ok (.iadd, 1) := by decide +kernel
theorem dL_328 : decode code 328 = .ok (.iaload, 1) := by decide +kernel
theorem dL_329 : decode code 329 = .ok (.aload_n 0, 1) := by decide +kernel
theorem dL_330 : decode code 330 = .ok (.iload_n 3, 1) := by decide +kernel
theorem dL_331 : decode code 331 = .ok (.iconst 2, 1) := by decide +kernel
theorem dL_332 : decode code 332 = .ok (.iadd, 1) := by decide +kernel
theorem dL_333 : decode code 333 = .ok (.iaload, 1) := by decide +kernel
theorem dL_334 : decode code 334 = .ok (.invokevirtual 36, 3) := by decide +kernel
theorem dL_337 : decode code 337 = .ok (.aload_n 2, 1) := by decide +kernel
theorem dL_338 : decode code 338 = .ok (.aload_n 0, 1) := by decide +kernel
theorem dL_339 : decode code 339 = .ok (.iload_n 3, 1) := by decide +kernel
theorem dL_340 : decode code 340 = .ok (.iconst 1, 1) := by decide +kernel
theorem dL_341 : decode code 341 = .ok (.iadd, 1) := by decide +kernel
theorem dL_342 : decode code 342 = .ok (.iaload, 1) := by decide +kernel
theorem dL_343 : decode code 343 = .ok (.aload_n 0, 1) := by decide +kernel
theorem dL_344 : decode code 344 = .ok (.iload_n 3, 1) := by decide +kernel
theorem dL_345 : decode code 345 = .ok (.iconst 2, 1) := by decide +kernel
theorem dL_346 : decode code 346 = .ok (.iadd, 1) := by decide +kernel
theorem dL_347 : decode code 347 = .ok (.iaload, 1) := by decide +kernel
theorem dL_348 : decode code 348 = .ok (.invokevirtual 39, 3) := by decide +kernel
theorem dL_351 : decode code 351 = .ok (.if_icmp .eq 1047, 3) := by decide +kernel
theorem dL_354 : decode code 354 = .ok (.iconst 0, 1) := by decide +kernel
theorem dL_355 : decode code 355 = .ok (.ireturn, 1) := by decide +kernel
theorem dL_356 : decode code 356 = .ok (.aload_n 1, 1) := by decide +kernel
theorem dL_357 : decode code 357 = .ok (.aload_n 0, 1) := by decide +kernel
theorem dL_358 : decode code 358 = .ok (.iload_n 3, 1) := by decide +kernel
theorem dL_359 : decode code 359 = .ok (.iconst 1, 1) := by decide +kernel
theorem dL_360 : decode code 360 = .ok (.iadd, 1) := by decide +kernel
theorem dL_361 : decode code 361 = .ok (.iaload, 1) := by decide +kernel
theorem dL_362 : decode code 362 = .ok (.aload_n 0, 1) := by decide +kernel
theorem dL_363 : decode code 363 = .ok (.iload_n 3, 1) := by decide +kernel
theorem dL_364 : decode code 364 = .ok (.iconst 2, 1) := by decide +kernel
theorem dL_365 : decode code 365 = .ok (.iadd, 1) := by decide +kernel
theorem dL_366 : decode code 366 = .ok (.iaload, 1) := by decide +kernel
theorem dL_367 : decode code 367 = .ok (.invokevirtual 40, 3) := by decide +kernel
theorem dL_370 : decode code 370 = .ok (.aload_n 2, 1) := by decide +kernel
theorem dL_371 : decode code 371 = .ok (.aload_n 0, 1) := by decide +kernel
theorem dL_372 : decode code 372 = .ok (.iload_n 3, 1) := by decide +kernel
theorem dL_373 : decode code 373 = .ok (.iconst 1, 1) := by decide +kernel
theorem dL_374 : decode code 374 = .ok (.iadd, 1) := by decide +kernel
theorem dL_375 : decode code 375 = .ok (.iaload, 1) := by decide +kernel
theorem dL_376 : decode code 376 = .ok (.aload_n 0, 1) := by decide +kernel
theorem dL_377 : decode code 377 = .ok (.iload_n 3, 1) := by decide +kernel
theorem dL_378 : decode code 378 = .ok (.iconst 2, 1) := by decide +kernel
theorem dL_379 : decode code 379 = .ok (.iadd, 1) := by decide +kernel
theorem dL_380 : decode code 380 = .ok (.iaload, 1) := by decide +kernel
theorem dL_381 : decode code 381 = .ok (.invokevirtual 43, 3) := by decide +kernel
theorem dL_384 : decode code 384 = .ok (.if_icmp .eq 1014, 3) := by decide +kernel
theorem dL_387 : decode code 387 = .ok (.iconst 0, 1) := by decide +kernel
theorem dL_388 : decode code 388 = .ok (.ireturn, 1) := by decide +kernel
theorem dL_389 : decode code 389 = .ok (.aload_n 1, 1) := by decide +kernel
theorem dL_390 : decode code 390 = .ok (.aload_n 0, 1) := by decide +kernel
theorem dL_391 : decode code 391 = .ok (.iload_n 3, 1) := by decide +kernel
theorem dL_392 : decode code 392 = .ok (.iconst 1, 1) := by decide +kernel
theorem dL_393 : decode code 393 = .ok (.iadd, 1) := by decide +kernel
theorem dL_394 : decode code 394 = .ok (.iaload, 1) := by decide +kernel
theorem dL_395 : decode code 395 = .ok (.aload_n 0, 1) := by decide +kernel
theorem dL_396 : decode code 396 = .ok (.iload_n 3, 1) := by decide +kernel
theorem dL_397 : decode code 397 = .ok (.iconst 2, 1) := by decide +kernel
theorem dL_398 : decode code 398 = .ok (.iadd, 1) := by decide +kernel
theorem dL_399 : decode code 399 = .ok (.iaload, 1) := by decide +kernel
theorem dL_400 : decode code 400 = .ok (.aload_n 0, 1) := by decide +kernel
theorem dL_401 : decode code 401 = .ok (.iload_n 3, 1) := by decide +kernel
theorem dL_402 : decode code 402 = .ok (.iconst 3, 1) := by decide +kernel
theorem dL_403 : decode code 403 = .ok (.iadd, 1) := by decide +kernel
theorem dL_404 : decode code 404 = .ok (.iaload, 1) := by decide +kernel
theorem dL_405 : decode code 405 = .ok (.invokevirtual 44, 3) := by decide +kernel
theorem dL_408 : decode code 408 = .ok (.aload_n 2, 1) := by decide +kernel
theorem dL_409 : decode code 409 = .ok (.aload_n 0, 1) := by decide +kernel
theorem dL_410 : decode code 410 = .ok (.iload_n 3, 1) := by decide +kernel
theorem dL_411 : decode code 411 = .ok (.iconst 1, 1) := by decide +kernel
theorem dL_412 : decode code 412 = .ok (.iadd, 1) := by decide +kernel
theorem dL_413 : decode code 413 = .ok (.iaload, 1) := by decide +kernel
theorem dL_414 : decode code 414 = .ok (.aload_n 0, 1) := by decide +kernel
theorem dL_415 : decode code 415 = .ok (.iload_n 3, 1) := by decide +kernel
theorem dL_416 : decode code 416 = .ok (.iconst 2, 1) := by decide +kernel
theorem dL_417 : decode code 417 = .ok (.iadd, 1) := by decide +kernel
theorem dL_418 : decode code 418 = .ok (.iaload, 1) := by decide +kernel
theorem dL_419 : decode code 419 = .ok (.aload_n 0, 1) := by decide +kernel
theorem dL_420 : decode code 420 = .ok (.iload_n 3, 1) := by decide +kernel
theorem dL_421 : decode code 421 = .ok (.iconst 3, 1) := by decide +kernel
theorem dL_422 : decode code 422 = .ok (.iadd, 1) := by decide +kernel
theorem dL_423 : decode code 423 = .ok (.iaload, 1) := by decide +kernel
theorem dL_424 : decode code 424 = .ok (.invokevirtual 48, 3) := by decide +kernel
theorem dL_427 : decode code 427 = .ok (.if_icmp .eq 971, 3) := by decide +kernel
theorem dL_430 : decode code 430 = .ok (.iconst 0, 1) := by decide +kernel
theorem dL_431 : decode code 431 = .ok (.ireturn, 1) := by decide +kernel
theorem dL_432 : decode code 432 = .ok (.aload_n 1, 1) := by decide +kernel
theorem dL_433 : decode code 433 = .ok (.aload_n 0, 1) := by decide +kernel
theorem dL_434 : decode code 434 = .ok (.iload_n 3, 1) := by decide +kernel
theorem dL_435 : decode code 435 = .ok (.iconst 1, 1) := by decide +kernel
theorem dL_436 : decode code 436 = .ok (.iadd, 1) := by decide +kernel
theorem dL_437 : decode code 437 = .ok (.iaload, 1) := by decide +kernel
theorem dL_438 : decode code 438 = .ok (.aload_n 0, 1) := by decide +kernel
theorem dL_439 : decode code 439 = .ok (.iload_n 3, 1) := by decide +kernel
theorem dL_440 : decode code 440 = .ok (.iconst 2, 1) := by decide +kernel
theorem dL_441 : decode code 441 = .ok (.iadd, 1) := by decide +kernel
theorem dL_442 : decode code 442 = .ok (.iaload, 1) := by decide +kernel
theorem dL_443 : decode code 443 = .ok (.invokevirtual 49, 3) := by decide +kernel
theorem dL_446 : decode code 446 = .ok (.aload_n 2, 1) := by decide +kernel
theorem dL_447 : decode code 447 = .ok (.aload_n 0, 1) := by decide +kernel
theorem dL_448 : decode code 448 = .ok (.iload_n 3, 1) := by decide +kernel
theorem dL_449 : decode code 449 = .ok (.iconst 1, 1) := by decide +kernel
theorem dL_450 : decode code 450 = .ok (.iadd, 1) := by decide +kernel
theorem dL_451 : decode code 451 = .ok (.iaload, 1) := by decide +kernel
theorem dL_452 : decode code 452 = .ok (.aload_n 0, 1) := by decide +kernel
theorem dL_453 : decode code 453 = .ok (.iload_n 3, 1) := by decide +kernel
theorem dL_454 : decode code 454 = .ok (.iconst 2, 1) := by decide +kernel
theorem dL_455 : decode code 455 = .ok (.iadd, 1) := by decide +kernel
theorem dL_456 : decode code 456 = .ok (.iaload, 1) := by decide +kernel
theorem dL_457 : decode code 457 = .ok (.invokevirtual 52, 3) := by decide +kernel
theorem dL_460 : decode code 460 = .ok (.if_icmp .eq 938, 3) := by decide +kernel
theorem dL_463 : decode code 463 = .ok (.iconst 0, 1) := by decide +kernel
theorem dL_464 : decode code 464 = .ok (.ireturn, 1) := by decide +kernel
theorem dL_465 : decode code 465 = .ok (.aload_n 1, 1) := by decide +kernel
theorem dL_466 : decode code 466 = .ok (.aload_n 0, 1) := by decide +kernel
theorem dL_467 : decode code 467 = .ok (.iload_n 3, 1) := by decide +kernel
theorem dL_468 : decode code 468 = .ok (.iconst 1, 1) := by decide +kernel
theorem dL_469 : decode code 469 = .ok (.iadd, 1) := by decide +kernel
theorem dL_470 : decode code 470 = .ok (.iaload, 1) := by decide +kernel
theorem dL_471 : decode code 471 = .ok (.aload_n 0, 1) := by decide +kernel
theorem dL_472 : decode code 472 = .ok (.iload_n 3, 1) := by decide +kernel
theorem dL_473 : decode code 473 = .ok (.iconst 2, 1) := by decide +kernel
theorem dL_474 : decode code 474 = .ok (.iadd, 1) := by decide +kernel
theorem dL_475 : decode code 475 = .ok (.iaload, 1) := by decide +kernel
theorem dL_476 : decode code 476 = .ok (.invokevirtual 53, 3) := by decide +kernel
theorem dL_479 : decode code 479 = .ok (.aload_n 2, 1) := by decide +kernel
theorem dL_480 : decode code 480 = .ok (.aload_n 0, 1) := by decide +kernel
theorem dL_481 : decode code 481 = .ok (.iload_n 3, 1) := by decide +kernel
theorem dL_482 : decode code 482 = .ok (.iconst 1, 1) := by decide +kernel
theorem dL_483 : decode code 483 = .ok (.iadd, 1) := by decide +kernel
theorem dL_484 : decode code 484 = .ok (.iaload, 1) := by decide +kernel
theorem dL_485 : decode code 485 = .ok (.aload_n 0, 1) := by decide +kernel
theorem dL_486 : decode code 486 = .ok (.iload_n 3, 1) := by decide +kernel
theorem dL_487 : decode code 487 = .ok (.iconst 2, 1) := by decide +kernel
theorem dL_488 : decode code 488 = .ok (.iadd, 1) := by decide +kernel
theorem dL_489 : decode code 489 = .ok (.iaload, 1) := by decide +kernel
theorem dL_490 : decode code 490 = .ok (.invokevirtual 56, 3) := by decide +kernel
theorem dL_493 : decode code 493 = .ok (.if_icmp .eq 905, 3) := by decide +kernel
theorem dL_496 : decode code 496 = .ok (.iconst 0, 1) := by decide +kernel
theorem dL_497 : decode code 497 = .ok (.ireturn, 1) := by decide +kernel
theorem dL_498 : decode code 498 = .ok (.aload_n 1, 1) := by decide +kernel
theorem dL_499 : decode code 499 = .ok (.aload_n 0, 1) := by decide +kernel
theorem dL_500 : decode code 500 = .ok (.iload_n 3, 1) := by decide +kernel
theorem dL_501 : decode code 501 = .ok (.iconst 1, 1) := by decide +kernel
theorem dL_502 : decode code 502 = .ok (.iadd, 1) := by decide +kernel
theorem dL_503 : decode code 503 = .ok (.iaload, 1) := by decide +kernel
theorem dL_504 : decode code 504 = .ok (.i2l, 1) := by decide +kernel
theorem dL_505 : decode code 505 = .ok (.bipush 32, 2) := by decide +kernel
theorem dL_507 : decode code 507 = .ok (.lshl, 1) := by decide +kernel
theorem dL_508 : decode code 508 = .ok (.aload_n 0, 1) := by decide +kernel
theorem dL_509 : decode code 509 = .ok (.iload_n 3, 1) := by decide +kernel
theorem dL_510 : decode code 510 = .ok (.iconst 2, 1) := by decide +kernel
theorem dL_511 : decode code 511 = .ok (.iadd, 1) := by decide +kernel
theorem dL_512 : decode code 512 = .ok (.iaload, 1) := by decide +kernel
theorem dL_513 : decode code 513 = .ok (.i2l, 1) := by decide +kernel
theorem dL_514 : decode code 514 = .ok (.ldc2_w 57, 3) := by decide +kernel
theorem dL_517 : decode code 517 = .ok (.land, 1) := by decide +kernel
theorem dL_518 : decode code 518 = .ok (.lor, 1) := by decide +kernel
theorem dL_519 : decode code 519 = .ok (.aload_n 0, 1) := by decide +kernel
theorem dL_520 : decode code 520 = .ok (.iload_n 3, 1) := by decide +kernel
theorem dL_521 : decode code 521 = .ok (.iconst 3, 1) := by decide +kernel
theorem dL_522 : decode code 522 = .ok (.iadd, 1) := by decide +kernel
theorem dL_523 : decode code 523 = .ok (.iaload, 1) := by decide +kernel
theorem dL_524 : decode code 524 = .ok (.invokevirtual 59, 3) := by decide +kernel
theorem dL_527 : decode code 527 = .ok (.aload_n 2, 1) := by decide +kernel
theorem dL_528 : decode code 528 = .ok (.aload_n 0, 1) := by decide +kernel
theorem dL_529 : decode code 529 = .ok (.iload_n 3, 1) := by decide +kernel
theorem dL_530 : decode code 530 = .ok (.iconst 1, 1) := by decide +kernel
theorem dL_531 : decode code 531 = .ok (.iadd, 1) := by decide +kernel
theorem dL_532 : decode code 532 = .ok (.iaload, 1) := by decide +kernel
theorem dL_533 : decode code 533 = .ok (.i2l, 1) := by decide +kernel
theorem dL_534 : decode code 534 = .ok (.bipush 32, 2) := by decide +kernel
theorem dL_536 : decode code 536 = .ok (.lshl, 1) := by decide +kernel
theorem dL_537 : decode code 537 = .ok (.aload_n 0, 1) := by decide +kernel
theorem dL_538 : decode code 538 = .ok (.iload_n 3, 1) := by decide +kernel
theorem dL_539 : decode code 539 = .ok (.iconst 2, 1) := by decide +kernel
theorem dL_540 : decode code 540 = .ok (.iadd, 1) := by decide +kernel
theorem dL_541 : decode code 541 = .ok (.iaload, 1) := by decide +kernel
theorem dL_542 : decode code 542 = .ok (.i2l, 1) := by decide +kernel
theorem dL_543 : decode code 543 = .ok (.ldc2_w 57, 3) := by decide +kernel
theorem dL_546 : decode code 546 = .ok (.land, 1) := by decide +kernel
theorem dL_547 : decode code 547 = .ok (.lor, 1) := by decide +kernel
theorem dL_548 : decode code 548 = .ok (.aload_n 0, 1) := by decide +kernel
theorem dL_549 : decode code 549 = .ok (.iload_n 3, 1) := by decide +kernel
theorem dL_550 : decode code 550 = .ok (.iconst 3, 1) := by decide +kernel
theorem dL_551 : decode code 551 = .ok (.iadd, 1) := by decide +kernel
theorem dL_552 : decode code 552 = .ok (.iaload, 1) := by decide +kernel
theorem dL_553 : decode code 553 = .ok (.invokevirtual 63, 3) := by decide +kernel
theorem dL_556 : decode code 556 = .ok (.if_icmp .eq 842, 3) := by decide +kernel
theorem dL_559 : decode code 559 = .ok (.iconst 0, 1) := by decide +kernel
theorem dL_560 : decode code 560 = .ok (.ireturn, 1) := by decide +kernel
theorem dL_561 : decode code 561 = .ok (.aload_n 1, 1) := by decide +kernel
theorem dL_562 : decode code 562 = .ok (.aload_n 0, 1) := by decide +kernel
theorem dL_563 : decode code 563 = .ok (.iload_n 3, 1) := by decide +kernel
theorem dL_564 : decode code 564 = .ok (.iconst 1, 1) := by decide +kernel
theorem dL_565 : decode code 565 = .ok (.iadd, 1) := by decide +kernel
theorem dL_566 : decode code 566 = .ok (.iaload, 1) := by decide +kernel
theorem dL_567 : decode code 567 = .ok (.invokevirtual 64, 3) := by decide +kernel
theorem dL_570 : decode code 570 = .ok (.aload_n 2, 1) := by decide +kernel
theorem dL_571 : decode code 571 = .ok (.aload_n 0, 1) := by decide +kernel
theorem dL_572 : decode code 572 = .ok (.iload_n 3, 1) := by decide +kernel
theorem dL_573 : decode code 573 = .ok (.iconst 1, 1) := by decide +kernel
theorem dL_574 : decode code 574 = .ok (.iadd, 1) := by decide +kernel
theorem dL_575 : decode code 575 = .ok (.iaload, 1) := by decide +kernel
theorem dL_576 : decode code 576 = .ok (.invokevirtual 67, 3) := by decide +kernel
theorem dL_579 : decode code 579 = .ok (.if_icmp .eq 819, 3) := by decide +kernel
theorem dL_582 : decode code 582 = .ok (.iconst 0, 1) := by decide +kernel
theorem dL_583 : decode code 583 = .ok (.ireturn, 1) := by decide +kernel
theorem dL_584 : decode code 584 = .ok (.aload_n 1, 1) := by decide +kernel
theorem dL_585 : decode code 585 = .ok (.aload_n 0, 1) := by decide +kernel
theorem dL_586 : decode code 586 = .ok (.iload_n 3, 1) := by decide +kernel
theorem dL_587 : decode code 587 = .ok (.iconst 1, 1) := by decide +kernel
theorem dL_588 : decode code 588 = .ok (.iadd, 1) := by decide +kernel
theorem dL_589 : decode code 589 = .ok (.iaload, 1) := by decide +kernel
theorem dL_590 : decode code 590 = .ok (.aload_n 0, 1) := by decide +kernel
theorem dL_591 : decode code 591 = .ok (.iload_n 3, 1) := by decide +kernel
theorem dL_592 : decode code 592 = .ok (.iconst 2, 1) := by decide +kernel
theorem dL_593 : decode code 593 = .ok (.iadd, 1) := by decide +kernel
theorem dL_594 : decode code 594 = .ok (.iaload, 1) := by decide +kernel
theorem dL_595 : decode code 595 = .ok (.aload_n 0, 1) := by decide +kernel
theorem dL_596 : decode code 596 = .ok (.iload_n 3, 1) := by decide +kernel
theorem dL_597 : decode code 597 = .ok (.iconst 3, 1) := by decide +kernel
theorem dL_598 : decode code 598 = .ok (.iadd, 1) := by decide +kernel
theorem dL_599 : decode code 599 = .ok (.iaload, 1) := by decide +kernel
theorem dL_600 : decode code 600 = .ok (.aload_n 0, 1) := by decide +kernel
theorem dL_601 : decode code 601 = .ok (.iload_n 3, 1) := by decide +kernel
theorem dL_602 : decode code 602 = .ok (.iconst 4, 1) := by decide +kernel
theorem dL_603 : decode code 603 = .ok (.iadd, 1) := by decide +kernel
theorem dL_604 : decode code 604 = .ok (.iaload, 1) := by decide +kernel
theorem dL_605 : decode code 605 = .ok (.invokevirtual 68, 3) := by decide +kernel
theorem dL_608 : decode code 608 = .ok (.aload_n 2, 1) := by decide +kernel
theorem dL_609 : decode code 609 = .ok (.aload_n 0, 1) := by decide +kernel
theorem dL_610 : decode code 610 = .ok (.iload_n 3, 1) := by decide +kernel
theorem dL_611 : decode code 611 = .ok (.iconst 1, 1) := by decide +kernel
theorem dL_612 : decode code 612 = .ok (.iadd, 1) := by decide +kernel
theorem dL_613 : decode code 613 = .ok (.iaload, 1) := by decide +kernel
theorem dL_614 : decode code 614 = .ok (.aload_n 0, 1) := by decide +kernel
theorem dL_615 : decode code 615 = .ok (.iload_n 3, 1) := by decide +kernel
theorem dL_616 : decode code 616 = .ok (.iconst 2, 1) := by decide +kernel
theorem dL_617 : decode code 617 = .ok (.iadd, 1) := by decide +kernel
theorem dL_618 : decode code 618 = .ok (.iaload, 1) := by decide +kernel
theorem dL_619 : decode code 619 = .ok (.aload_n 0, 1) := by decide +kernel
theorem dL_620 : decode code 620 = .ok (.iload_n 3, 1) := by decide +kernel
theorem dL_621 : decode code 621 = .ok (.iconst 3, 1) := by decide +kernel
theorem dL_622 : decode code 622 = .ok (.iadd, 1) := by decide +kernel
theorem dL_623 : decode code 623 = .ok (.iaload, 1) := by decide +kernel
theorem dL_624 : decode code 624 = .ok (.aload_n 0, 1) := by decide +kernel
theorem dL_625 : decode code 625 = .ok (.iload_n 3, 1) := by decide +kernel
theorem dL_626 : decode code 626 = .ok (.iconst 4, 1) := by decide +kernel
theorem dL_627 : decode code 627 = .ok (.iadd, 1) := by decide +kernel
theorem dL_628 : decode code 628 = .ok (.iaload, 1) := by decide +kernel
theorem dL_629 : decode code 629 = .ok (.invokevirtual 72, 3) := by decide +kernel
theorem dL_632 : decode code 632 = .ok (.if_icmp .eq 766, 3) := by decide +kernel
theorem dL_635 : decode code 635 = .ok (.iconst 0, 1) := by decide +kernel
theorem dL_636 : decode code 636 = .ok (.ireturn, 1) := by decide +kernel
theorem dL_637 : decode code 637 = .ok (.aload_n 1, 1) := by decide +kernel
theorem dL_638 : decode code 638 = .ok (.aload_n 0, 1) := by decide +kernel
theorem dL_639 : decode code 639 = .ok (.iload_n 3, 1) := by decide +kernel
theorem dL_640 : decode code 640 = .ok (.iconst 1, 1) := by decide +kernel
theorem dL_641 : decode code 641 = .ok (.iadd, 1) := by decide +kernel
theorem dL_642 : decode code 642 = .ok (.iaload, 1) := by decide +kernel
theorem dL_643 : decode code 643 = .ok (.invokevirtual 73, 3) := by decide +kernel
theorem dL_646 : decode code 646 = .ok (.aload_n 2, 1) := by decide +kernel
theorem dL_647 : decode code 647 = .ok (.aload_n 0, 1) := by decide +kernel
theorem dL_648 : decode code 648 = .ok (.iload_n 3, 1) := by decide +kernel
theorem dL_649 : decode code 649 = .ok (.iconst 1, 1) := by decide +kernel
theorem dL_650 : decode code 650 = .ok (.iadd, 1) := by decide +kernel
theorem dL_651 : decode code 651 = .ok (.iaload, 1) := by decide +kernel
theorem dL_652 : decode code 652 = .ok (.invokevirtual 76, 3) := by decide +kernel
theorem dL_655 : decode code 655 = .ok (.if_icmp .eq 743, 3) := by decide +kernel
theorem dL_658 : decode code 658 = .ok (.iconst 0, 1) := by decide +kernel
theorem dL_659 : decode code 659 = .ok (.ireturn, 1) := by decide +kernel
theorem dL_660 : decode code 660 = .ok (.aload_n 1, 1) := by decide +kernel
theorem dL_661 : decode code 661 = .ok (.aload_n 0, 1) := by decide +kernel
theorem dL_662 : decode code 662 = .ok (.iload_n 3, 1) := by decide +kernel
theorem dL_663 : decode code 663 = .ok (.iconst 1, 1) := by decide +kernel
theorem dL_664 : decode code 664 = .ok (.iadd, 1) := by decide +kernel
theorem dL_665 : decode code 665 = .ok (.iaload, 1) := by decide +kernel
theorem dL_666 : decode code 666 = .ok (.invokevirtual 77, 3) := by decide +kernel
theorem dL_669 : decode code 669 = .ok (.aload_n 2, 1) := by decide +kernel
theorem dL_670 : decode code 670 = .ok (.aload_n 0, 1) := by decide +kernel
theorem dL_671 : decode code 671 = .ok (.iload_n 3, 1) := by decide +kernel
theorem dL_672 : decode code 672 = .ok (.iconst 1, 1) := by decide +kernel
theorem dL_673 : decode code 673 = .ok (.iadd, 1) := by decide +kernel
theorem dL_674 : decode code 674 = .ok (.iaload, 1) := by decide +kernel
theorem dL_675 : decode code 675 = .ok (.invokevirtual 80, 3) := by decide +kernel
theorem dL_678 : decode code 678 = .ok (.if_icmp .eq 720, 3) := by decide +kernel
theorem dL_681 : decode code 681 = .ok (.iconst 0, 1) := by decide +kernel
theorem dL_682 : decode code 682 = .ok (.ireturn, 1) := by decide +kernel
theorem dL_683 : decode code 683 = .ok (.aload_n 1, 1) := by decide +kernel
theorem dL_684 : decode code 684 = .ok (.aload_n 0, 1) := by decide +kernel
theorem dL_685 : decode code 685 = .ok (.iload_n 3, 1) := by decide +kernel
theorem dL_686 : decode code 686 = .ok (.iconst 1, 1) := by decide +kernel
theorem dL_687 : decode code 687 = .ok (.iadd, 1) := by decide +kernel
theorem dL_688 : decode code 688 = .ok (.iaload, 1) := by decide +kernel
theorem dL_689 : decode code 689 = .ok (.invokevirtual 81, 3) := by decide +kernel
theorem dL_692 : decode code 692 = .ok (.aload_n 2, 1) := by decide +kernel
theorem dL_693 : decode code 693 = .ok (.aload_n 0, 1) := by decide +kernel
theorem dL_694 : decode code 694 = .ok (.iload_n 3, 1) := by decide +kernel
theorem dL_695 : decode code 695 = .ok (.iconst 1, 1) := by decide +kernel
theorem dL_696 : decode code 696 = .ok (.iadd, 1) := by decide +kernel
theorem dL_697 : decode code 697 = .ok (.iaload, 1) := by decide +kernel
theorem dL_698 : decode code 698 = .ok (.invokevirtual 84, 3) := by decide +kernel
theorem dL_701 : decode code 701 = .ok (.if_icmp .eq 697, 3) := by decide +kernel
theorem dL_704 : decode code 704 = .ok (.iconst 0, 1) := by decide +kernel
theorem dL_705 : decode code 705 = .ok (.ireturn, 1) := by decide +kernel
theorem dL_706 : decode code 706 = .ok (.aload_n 1, 1) := by decide +kernel
theorem dL_707 : decode code 707 = .ok (.aload_n 0, 1) := by decide +kernel
theorem dL_708 : decode code 708 = .ok (.iload_n 3, 1) := by decide +kernel
theorem dL_709 : decode code 709 = .ok (.iconst 1, 1) := by decide +kernel
theorem dL_710 : decode code 710 = .ok (.iadd, 1) := by decide +kernel
theorem dL_711 : decode code 711 = .ok (.iaload, 1) := by decide +kernel
theorem dL_712 : decode code 712 = .ok (.invokevirtual 85, 3) := by decide +kernel
theorem dL_715 : decode code 715 = .ok (.aload_n 2, 1) := by decide +kernel
theorem dL_716 : decode code 716 = .ok (.aload_n 0, 1) := by decide +kernel
theorem dL_717 : decode code 717 = .ok (.iload_n 3, 1) := by decide +kernel
theorem dL_718 : decode code 718 = .ok (.iconst 1, 1) := by decide +kernel
theorem dL_719 : decode code 719 = .ok (.iadd, 1) := by decide +kernel
theorem dL_720 : decode code 720 = .ok (.iaload, 1) := by decide +kernel
theorem dL_721 : decode code 721 = .ok (.invokevirtual 88, 3) := by decide +kernel
theorem dL_724 : decode code 724 = .ok (.if_icmp .eq 674, 3) := by decide +kernel
theorem dL_727 : decode code 727 = .ok (.iconst 0, 1) := by decide +kernel
theorem dL_728 : decode code 728 = .ok (.ireturn, 1) := by decide +kernel
theorem dL_729 : decode code 729 = .ok (.aload_n 1, 1) := by decide +kernel
theorem dL_730 : decode code 730 = .ok (.aload_n 0, 1) := by decide +kernel
theorem dL_731 : decode code 731 = .ok (.iload_n 3, 1) := by decide +kernel
theorem dL_732 : decode code 732 = .ok (.iconst 1, 1) := by decide +kernel
theorem dL_733 : decode code 733 = .ok (.iadd, 1) := by decide +kernel
theorem dL_734 : decode code 734 = .ok (.iaload, 1) := by decide +kernel
theorem dL_735 : decode code 735 = .ok (.aload_n 0, 1) := by decide +kernel
theorem dL_736 : decode code 736 = .ok (.iload_n 3, 1) := by decide +kernel
theorem dL_737 : decode code 737 = .ok (.iconst 2, 1) := by decide +kernel
theorem dL_738 : decode code 738 = .ok (.iadd, 1) := by decide +kernel
theorem dL_739 : decode code 739 = .ok (.iaload, 1) := by decide +kernel
theorem dL_740 : decode code 740 = .ok (.invokevirtual 89, 3) := by decide +kernel
theorem dL_743 : decode code 743 = .ok (.aload_n 2, 1) := by decide +kernel
theorem dL_744 : decode code 744 = .ok (.aload_n 0, 1) := by decide +kernel
theorem dL_745 : decode code 745 = .ok (.iload_n 3, 1) := by decide +kernel
theorem dL_746 : decode code 746 = .ok (.iconst 1, 1) := by decide +kernel
theorem dL_747 : decode code 747 = .ok (.iadd, 1) := by decide +kernel
theorem dL_748 : decode code 748 = .ok (.iaload, 1) := by decide +kernel
theorem dL_749 : decode code 749 = .ok (.aload_n 0, 1) := by decide +kernel
theorem dL_750 : decode code 750 = .ok (.iload_n 3, 1) := by decide +kernel
theorem dL_751 : decode code 751 = .ok (.iconst 2, 1) := by decide +kernel
theorem dL_752 : decode code 752 = .ok (.iadd, 1) := by decide +kernel
theorem dL_753 : decode code 753 = .ok (.iaload, 1) := by decide +kernel
theorem dL_754 : decode code 754 = .ok (.invokevirtual 92, 3) := by decide +kernel
theorem dL_757 : decode code 757 = .ok (.if_icmp .eq 641, 3) := by decide +kernel
theorem dL_760 : decode code 760 = .ok (.iconst 0, 1) := by decide +kernel
theorem dL_761 : decode code 761 = .ok (.ireturn, 1) := by decide +kernel
theorem dL_762 : decode code 762 = .ok (.aload_n 1, 1) := by decide +kernel
theorem dL_763 : decode code 763 = .ok (.aload_n 0, 1) := by decide +kernel
theorem dL_764 : decode code 764 = .ok (.iload_n 3, 1) := by decide +kernel
theorem dL_765 : decode code 765 = .ok (.iconst 1, 1) := by decide +kernel
theorem dL_766 : decode code 766 = .ok (.iadd, 1) := by decide +kernel
theorem dL_767 : decode code 767 = .ok (.iaload, 1) := by decide +kernel
theorem dL_768 : decode code 768 = .ok (.aload_n 0, 1) := by decide +kernel
theorem dL_769 : decode code 769 = .ok (.iload_n 3, 1) := by decide +kernel
theorem dL_770 : decode code 770 = .ok (.iconst 2, 1) := by decide +kernel
theorem dL_771 : decode code 771 = .ok (.iadd, 1) := by decide +kernel
theorem dL_772 : decode code 772 = .ok (.iaload, 1) := by decide +kernel
theorem dL_773 : decode code 773 = .ok (.invokevirtual 93, 3) := by decide +kernel
theorem dL_776 : decode code 776 = .ok (.aload_n 2, 1) := by decide +kernel
theorem dL_777 : decode code 777 = .ok (.aload_n 0, 1) := by decide +kernel
theorem dL_778 : decode code 778 = .ok (.iload_n 3, 1) := by decide +kernel
theorem dL_779 : decode code 779 = .ok (.iconst 1, 1) := by decide +kernel
theorem dL_780 : decode code 780 = .ok (.iadd, 1) := by decide +kernel
theorem dL_781 : decode code 781 = .ok (.iaload, 1) := by decide +kernel
theorem dL_782 : decode code 782 = .ok (.aload_n 0, 1) := by decide +kernel
theorem dL_783 : decode code 783 = .ok (.iload_n 3, 1) := by decide +kernel
theorem dL_784 : decode code 784 = .ok (.iconst 2, 1) := by decide +kernel
theorem dL_785 : decode code 785 = .ok (.iadd, 1) := by decide +kernel
theorem dL_786 : decode code 786 = .ok (.iaload, 1) := by decide +kernel
theorem dL_787 : decode code 787 = .ok (.invokevirtual 96, 3) := by decide +kernel
theorem dL_790 : decode code 790 = .ok (.if_icmp .eq 608, 3) := by decide +kernel
theorem dL_793 : decode code 793 = .ok (.iconst 0, 1) := by decide +kernel
theorem dL_794 : decode code 794 = .ok (.ireturn, 1) := by decide +kernel
theorem dL_795 : decode code 795 = .ok (.aload_n 1, 1) := by decide +kernel
theorem dL_796 : decode code 796 = .ok (.aload_n 0, 1) := by decide +kernel
theorem dL_797 : decode code 797 = .ok (.iload_n 3, 1) := by decide +kernel
theorem dL_798 : decode code 798 = .ok (.iconst 1, 1) := by decide +kernel
theorem dL_799 : decode code 799 = .ok (.iadd, 1) := by decide +kernel
theorem dL_800 : decode code 800 = .ok (.iaload, 1) := by decide +kernel
theorem dL_801 : decode code 801 = .ok (.aload_n 0, 1) := by decide +kernel
theorem dL_802 : decode code 802 = .ok (.iload_n 3, 1) := by decide +kernel
theorem dL_803 : decode code 803 = .ok (.iconst 2, 1) := by decide +kernel
theorem dL_804 : decode code 804 = .ok (.iadd, 1) := by decide +kernel
theorem dL_805 : decode code 805 = .ok (.iaload, 1) := by decide +kernel
theorem dL_806 : decode code 806 = .ok (.invokevirtual 97, 3) := by decide +kernel
theorem dL_809 : decode code 809 = .ok (.aload_n 2, 1) := by decide +kernel
theorem dL_810 : decode code 810 = .ok (.aload_n 0, 1) := by decide +kernel
theorem dL_811 : decode code 811 = .ok (.iload_n 3, 1) := by decide +kernel
theorem dL_812 : decode code 812 = .ok (.iconst 1, 1) := by decide +kernel
theorem dL_813 : decode code 813 = .ok (.iadd, 1) := by decide +kernel
theorem dL_814 : decode code 814 = .ok (.iaload, 1) := by decide +kernel
theorem dL_815 : decode code 815 = .ok (.aload_n 0, 1) := by decide +kernel
theorem dL_816 : decode code 816 = .ok (.iload_n 3, 1) := by decide +kernel
theorem dL_817 : decode code 817 = .ok (.iconst 2, 1) := by decide +kernel
theorem dL_818 : decode code 818 = .ok (.iadd, 1) := by decide +kernel
theorem dL_819 : decode code 819 = .ok (.iaload, 1) := by decide +kernel
theorem dL_820 : decode code 820 = .ok (.invokevirtual 100, 3) := by decide +kernel
theorem dL_823 : decode code 823 = .ok (.if_icmp .eq 575, 3) := by decide +kernel
theorem dL_826 : decode code 826 = .ok (.iconst 0, 1) := by decide +kernel
theorem dL_827 : decode code 827 = .ok (.ireturn, 1) := by decide +kernel
theorem dL_828 : decode code 828 = .ok (.aload_n 1, 1) := by decide +kernel
theorem dL_829 : decode code 829 = .ok (.aload_n 0, 1) := by decide +kernel
theorem dL_830 : decode code 830 = .ok (.iload_n 3, 1) := by decide +kernel
theorem dL_831 : decode code 831 = .ok (.iconst 1, 1) := by decide +kernel
theorem dL_832 : decode code 832 = .ok (.iadd, 1) := by decide +kernel
theorem dL_833 : decode code 833 = .ok (.iaload, 1) := by decide +kernel
theorem dL_834 : decode code 834 = .ok (.aload_n 0, 1) := by decide +kernel
theorem dL_835 : decode code 835 = .ok (.iload_n 3, 1) := by decide +kernel
theorem dL_836 : decode code 836 = .ok (.iconst 2, 1) := by decide +kernel
theorem dL_837 : decode code 837 = .ok (.iadd, 1) := by decide +kernel
theorem dL_838 : decode code 838 = .ok (.iaload, 1) := by decide +kernel
theorem dL_839 : decode code 839 = .ok (.invokevirtual 101, 3) := by decide +kernel
theorem dL_842 : decode code 842 = .ok (.aload_n 2, 1) := by decide +kernel
theorem dL_843 : decode code 843 = .ok (.aload_n 0, 1) := by decide +kernel
theorem dL_844 : decode code 844 = .ok (.iload_n 3, 1) := by decide +kernel
theorem dL_845 : decode code 845 = .ok (.iconst 1, 1) := by decide +kernel
theorem dL_846 : decode code 846 = .ok (.iadd, 1) := by decide +kernel
theorem dL_847 : decode code 847 = .ok (.iaload, 1) := by decide +kernel
theorem dL_848 : decode code 848 = .ok (.aload_n 0, 1) := by decide +kernel
theorem dL_849 : decode code 849 = .ok (.iload_n 3, 1) := by decide +kernel
theorem dL_850 : decode code 850 = .ok (.iconst 2, 1) := by decide +kernel
theorem dL_851 : decode code 851 = .ok (.iadd, 1) := by decide +kernel
theorem dL_852 : decode code 852 = .ok (.iaload, 1) := by decide +kernel
theorem dL_853 : decode code 853 = .ok (.invokevirtual 104, 3) := by decide +kernel
theorem dL_856 : decode code 856 = .ok (.if_icmp .eq 542, 3) := by decide +kernel
theorem dL_859 : decode code 859 = .ok (.iconst 0, 1) := by decide +kernel
theorem dL_860 : decode code 860 = .ok (.ireturn, 1) := by decide +kernel
theorem dL_861 : decode code 861 = .ok (.aload_n 1, 1) := by decide +kernel
theorem dL_862 : decode code 862 = .ok (.aload_n 0, 1) := by decide +kernel
theorem dL_863 : decode code 863 = .ok (.iload_n 3, 1) := by decide +kernel
theorem dL_864 : decode code 864 = .ok (.iconst 1, 1) := by decide +kernel
theorem dL_865 : decode code 865 = .ok (.iadd, 1) := by decide +kernel
theorem dL_866 : decode code 866 = .ok (.iaload, 1) := by decide +kernel
theorem dL_867 : decode code 867 = .ok (.aload_n 0, 1) := by decide +kernel
theorem dL_868 : decode code 868 = .ok (.iload_n 3, 1) := by decide +kernel
theorem dL_869 : decode code 869 = .ok (.iconst 2, 1) := by decide +kernel
theorem dL_870 : decode code 870 = .ok (.iadd, 1) := by decide +kernel
theorem dL_871 : decode code 871 = .ok (.iaload, 1) := by decide +kernel
theorem dL_872 : decode code 872 = .ok (.invokevirtual 105, 3) := by decide +kernel
theorem dL_875 : decode code 875 = .ok (.aload_n 2, 1) := by decide +kernel
theorem dL_876 : decode code 876 = .ok (.aload_n 0, 1) := by decide +kernel
theorem dL_877 : decode code 877 = .ok (.iload_n 3, 1) := by decide +kernel
theorem dL_878 : decode code 878 = .ok (.iconst 1, 1) := by decide +kernel
theorem dL_879 : decode code 879 = .ok (.iadd, 1) := by decide +kernel
theorem dL_880 : decode code 880 = .ok (.iaload, 1) := by decide +kernel
theorem dL_881 : decode code 881 = .ok (.aload_n 0, 1) := by decide +kernel
theorem dL_882 : decode code 882 = .ok (.iload_n 3, 1) := by decide +kernel
theorem dL_883 : decode code 883 = .ok (.iconst 2, 1) := by decide +kernel
theorem dL_884 : decode code 884 = .ok (.iadd, 1) := by decide +kernel
theorem dL_885 : decode code 885 = .ok (.iaload, 1) := by decide +kernel
theorem dL_886 : decode code 886 = .ok (.invokevirtual 108, 3) := by decide +kernel
theorem dL_889 : decode code 889 = .ok (.if_icmp .eq 509, 3) := by decide +kernel
theorem dL_892 : decode code 892 = .ok (.iconst 0, 1) := by decide +kernel
theorem dL_893 : decode code 893 = .ok (.ireturn, 1) := by decide +kernel
theorem dL_894 : decode code 894 = .ok (.aload_n 1, 1) := by decide +kernel
theorem dL_895 : decode code 895 = .ok (.invokevirtual 109, 3) := by decide +kernel
theorem dL_898 : decode code 898 = .ok (.aload_n 2, 1) := by decide +kernel
theorem dL_899 : decode code 899 = .ok (.invokevirtual 112, 3) := by decide +kernel
theorem dL_902 : decode code 902 = .ok (.if_icmp .eq 496, 3) := by decide +kernel
theorem dL_905 : decode code 905 = .ok (.iconst 0, 1) := by decide +kernel
theorem dL_906 : decode code 906 = .ok (.ireturn, 1) := by decide +kernel
theorem dL_907 : decode code 907 = .ok (.aload_n 1, 1) := by decide +kernel
theorem dL_908 : decode code 908 = .ok (.aload_n 0, 1) := by decide +kernel
theorem dL_909 : decode code 909 = .ok (.iload_n 3, 1) := by decide +kernel
theorem dL_910 : decode code 910 = .ok (.iconst 1, 1) := by decide +kernel
theorem dL_911 : decode code 911 = .ok (.iadd, 1) := by decide +kernel
theorem dL_912 : decode code 912 = .ok (.iaload, 1) := by decide +kernel
theorem dL_913 : decode code 913 = .ok (.invokevirtual 113, 3) := by decide +kernel
theorem dL_916 : decode code 916 = .ok (.aload_n 2, 1) := by decide +kernel
theorem dL_917 : decode code 917 = .ok (.aload_n 0, 1) := by decide +kernel
theorem dL_918 : decode code 918 = .ok (.iload_n 3, 1) := by decide +kernel
theorem dL_919 : decode code 919 = .ok (.iconst 1, 1) := by decide +kernel
theorem dL_920 : decode code 920 = .ok (.iadd, 1) := by decide +kernel
theorem dL_921 : decode code 921 = .ok (.iaload, 1) := by decide +kernel
theorem dL_922 : decode code 922 = .ok (.invokevirtual 116, 3) := by decide +kernel
theorem dL_925 : decode code 925 = .ok (.if_icmp .eq 473, 3) := by decide +kernel
theorem dL_928 : decode code 928 = .ok (.iconst 0, 1) := by decide +kernel
theorem dL_929 : decode code 929 = .ok (.ireturn, 1) := by decide +kernel
theorem dL_930 : decode code 930 = .ok (.aload_n 1, 1) := by decide +kernel
theorem dL_931 : decode code 931 = .ok (.aload_n 0, 1) := by decide +kernel
theorem dL_932 : decode code 932 = .ok (.iload_n 3, 1) := by decide +kernel
theorem dL_933 : decode code 933 = .ok (.iconst 1, 1) := by decide +kernel
theorem dL_934 : decode code 934 = .ok (.iadd, 1) := by decide +kernel
theorem dL_935 : decode code 935 = .ok (.iaload, 1) := by decide +kernel
theorem dL_936 : decode code 936 = .ok (.aload_n 0, 1) := by decide +kernel
theorem dL_937 : decode code 937 = .ok (.iload_n 3, 1) := by decide +kernel
theorem dL_938 : decode code 938 = .ok (.iconst 2, 1) := by decide +kernel
theorem dL_939 : decode code 939 = .ok (.iadd, 1) := by decide +kernel
theorem dL_940 : decode code 940 = .ok (.iaload, 1) := by decide +kernel
theorem dL_941 : decode code 941 = .ok (.invokevirtual 117, 3) := by decide +kernel
theorem dL_944 : decode code 944 = .ok (.aload_n 2, 1) := by decide +kernel
theorem dL_945 : decode code 945 = .ok (.aload_n 0, 1) := by decide +kernel
theorem dL_946 : decode code 946 = .ok (.iload_n 3, 1) := by decide +kernel
theorem dL_947 : decode code 947 = .ok (.iconst 1, 1) := by decide +kernel
theorem dL_948 : decode code 948 = .ok (.iadd, 1) := by decide +kernel
theorem dL_949 : decode code 949 = .ok (.iaload, 1) := by decide +kernel
theorem dL_950 : decode code 950 = .ok (.aload_n 0, 1) := by decide +kernel
theorem dL_951 : decode code 951 = .ok (.iload_n 3, 1) := by decide +kernel
theorem dL_952 : decode code 952 = .ok (.iconst 2, 1) := by decide +kernel
theorem dL_953 : decode code 953 = .ok (.iadd, 1) := by decide +kernel
theorem dL_954 : decode code 954 = .ok (.iaload, 1) := by decide +kernel
theorem dL_955 : decode code 955 = .ok (.invokevirtual 120, 3) := by decide +kernel
theorem dL_958 : decode code 958 = .ok (.if_icmp .eq 440, 3) := by decide +kernel
theorem dL_961 : decode code 961 = .ok (.iconst 0, 1) := by decide +kernel
theorem dL_962 : decode code 962 = .ok (.ireturn, 1) := by decide +kernel
theorem dL_963 : decode code 963 = .ok (.aload_n 1, 1) := by decide +kernel
theorem dL_964 : decode code 964 = .ok (.aload_n 0, 1) := by decide +kernel
theorem dL_965 : decode code 965 = .ok (.iload_n 3, 1) := by decide +kernel
theorem dL_966 : decode code 966 = .ok (.iconst 1, 1) := by decide +kernel
theorem dL_967 : decode code 967 = .ok (.iadd, 1) := by decide +kernel
theorem dL_968 : decode code 968 = .ok (.iaload, 1) := by decide +kernel
theorem dL_969 : decode code 969 = .ok (.aload_n 0, 1) := by decide +kernel
theorem dL_970 : decode code 970 = .ok (.iload_n 3, 1) := by decide +kernel
theorem dL_971 : decode code 971 = .ok (.iconst 2, 1) := by decide +kernel
theorem dL_972 : decode code 972 = .ok (.iadd, 1) := by decide +kernel
theorem dL_973 : decode code 973 = .ok (.iaload, 1) := by decide +kernel
theorem dL_974 : decode code 974 = .ok (.aload_n 0, 1) := by decide +kernel
theorem dL_975 : decode code 975 = .ok (.iload_n 3, 1) := by decide +kernel
theorem dL_976 : decode code 976 = .ok (.iconst 3, 1) := by decide +kernel
theorem dL_977 : decode code 977 = .ok (.iadd, 1) := by decide +kernel
theorem dL_978 : decode code 978 = .ok (.iaload, 1) := by decide +kernel
theorem dL_979 : decode code 979 = .ok (.invokevirtual 121, 3) := by decide +kernel
theorem dL_982 : decode code 982 = .ok (.aload_n 2, 1) := by decide +kernel
theorem dL_983 : decode code 983 = .ok (.aload_n 0, 1) := by decide +kernel
theorem dL_984 : decode code 984 = .ok (.iload_n 3, 1) := by decide +kernel
theorem dL_985 : decode code 985 = .ok (.iconst 1, 1) := by decide +kernel
theorem dL_986 : decode code 986 = .ok (.iadd, 1) := by decide +kernel
theorem dL_987 : decode code 987 = .ok (.iaload, 1) := by decide +kernel
theorem dL_988 : decode code 988 = .ok (.aload_n 0, 1) := by decide +kernel
theorem dL_989 : decode code 989 = .ok (.iload_n 3, 1) := by decide +kernel
theorem dL_990 : decode code 990 = .ok (.iconst 2, 1) := by decide +kernel
theorem dL_991 : decode code 991 = .ok (.iadd, 1) := by decide +kernel
theorem dL_992 : decode code 992 = .ok (.iaload, 1) := by decide +kernel
theorem dL_993 : decode code 993 = .ok (.aload_n 0, 1) := by decide +kernel
theorem dL_994 : decode code 994 = .ok (.iload_n 3, 1) := by decide +kernel
theorem dL_995 : decode code 995 = .ok (.iconst 3, 1) := by decide +kernel
theorem dL_996 : decode code 996 = .ok (.iadd, 1) := by decide +kernel
theorem dL_997 : decode code 997 = .ok (.iaload, 1) := by decide +kernel
theorem dL_998 : decode code 998 = .ok (.invokevirtual 124, 3) := by decide +kernel
theorem dL_1001 : decode code 1001 = .ok (.if_icmp .eq 397, 3) := by decide +kernel
theorem dL_1004 : decode code 1004 = .ok (.iconst 0, 1) := by decide +kernel
theorem dL_1005 : decode code 1005 = .ok (.ireturn, 1) := by decide +kernel
theorem dL_1006 : decode code 1006 = .ok (.aload_n 1, 1) := by decide +kernel
theorem dL_1007 : decode code 1007 = .ok (.aload_n 0, 1) := by decide +kernel
theorem dL_1008 : decode code 1008 = .ok (.iload_n 3, 1) := by decide +kernel
theorem dL_1009 : decode code 1009 = .ok (.iconst 1, 1) := by decide +kernel
theorem dL_1010 : decode code 1010 = .ok (.iadd, 1) := by decide +kernel
theorem dL_1011 : decode code 1011 = .ok (.iaload, 1) := by decide +kernel
theorem dL_1012 : decode code 1012 = .ok (.invokevirtual 125, 3) := by decide +kernel
theorem dL_1015 : decode code 1015 = .ok (.aload_n 2, 1) := by decide +kernel
theorem dL_1016 : decode code 1016 = .ok (.aload_n 0, 1) := by decide +kernel
theorem dL_1017 : decode code 1017 = .ok (.iload_n 3, 1) := by decide +kernel
theorem dL_1018 : decode code 1018 = .ok (.iconst 1, 1) := by decide +kernel
theorem dL_1019 : decode code 1019 = .ok (.iadd, 1) := by decide +kernel
theorem dL_1020 : decode code 1020 = .ok (.iaload, 1) := by decide +kernel
theorem dL_1021 : decode code 1021 = .ok (.invokevirtual 128, 3) := by decide +kernel
theorem dL_1024 : decode code 1024 = .ok (.if_icmp .eq 374, 3) := by decide +kernel
theorem dL_1027 : decode code 1027 = .ok (.iconst 0, 1) := by decide +kernel
theorem dL_1028 : decode code 1028 = .ok (.ireturn, 1) := by decide +kernel
theorem dL_1029 : decode code 1029 = .ok (.aload_n 1, 1) := by decide +kernel
theorem dL_1030 : decode code 1030 = .ok (.aload_n 0, 1) := by decide +kernel
theorem dL_1031 : decode code 1031 = .ok (.iload_n 3, 1) := by decide +kernel
theorem dL_1032 : decode code 1032 = .ok (.iconst 1, 1) := by decide +kernel
theorem dL_1033 : decode code 1033 = .ok (.iadd, 1) := by decide +kernel
theorem dL_1034 : decode code 1034 = .ok (.iaload, 1) := by decide +kernel
theorem dL_1035 : decode code 1035 = .ok (.aload_n 0, 1) := by decide +kernel
theorem dL_1036 : decode code 1036 = .ok (.iload_n 3, 1) := by decide +kernel
theorem dL_1037 : decode code 1037 = .ok (.iconst 2, 1) := by decide +kernel
theorem dL_1038 : decode code 1038 = .ok (.iadd, 1) := by decide +kernel
theorem dL_1039 : decode code 1039 = .ok (.iaload, 1) := by decide +kernel
theorem dL_1040 : decode code 1040 = .ok (.aload_n 0, 1) := by decide +kernel
theorem dL_1041 : decode code 1041 = .ok (.iload_n 3, 1) := by decide +kernel
theorem dL_1042 : decode code 1042 = .ok (.iconst 3, 1) := by decide +kernel
theorem dL_1043 : decode code 1043 = .ok (.iadd, 1) := by decide +kernel
theorem dL_1044 : decode code 1044 = .ok (.iaload, 1) := by decide +kernel
theorem dL_1045 : decode code 1045 = .ok (.invokevirtual 129, 3) := by decide +kernel
theorem dL_1048 : decode code 1048 = .ok (.aload_n 2, 1) := by decide +kernel
theorem dL_1049 : decode code 1049 = .ok (.aload_n 0, 1) := by decide +kernel
theorem dL_1050 : decode code 1050 = .ok (.iload_n 3, 1) := by decide +kernel
theorem dL_1051 : decode code 1051 = .ok (.iconst 1, 1) := by decide +kernel
theorem dL_1052 : decode code 1052 = .ok (.iadd, 1) := by decide +kernel
theorem dL_1053 : decode code 1053 = .ok (.iaload, 1) := by decide +kernel
theorem dL_1054 : decode code 1054 = .ok (.aload_n 0, 1) := by decide +kernel
theorem dL_1055 : decode code 1055 = .ok (.iload_n 3, 1) := by decide +kernel
theorem dL_1056 : decode code 1056 = .ok (.iconst 2, 1) := by decide +kernel
theorem dL_1057 : decode code 1057 = .ok (.iadd, 1) := by decide +kernel
theorem dL_1058 : decode code 1058 = .ok (.iaload, 1) := by decide +kernel
theorem dL_1059 : decode code 1059 = .ok (.aload_n 0, 1) := by decide +kernel
theorem dL_1060 : decode code 1060 = .ok (.iload_n 3, 1) := by decide +kernel
theorem dL_1061 : decode code 1061 = .ok (.iconst 3, 1) := by decide +kernel
theorem dL_1062 : decode code 1062 = .ok (.iadd, 1) := by decide +kernel
theorem dL_1063 : decode code 1063 = .ok (.iaload, 1) := by decide +kernel
theorem dL_1064 : decode code 1064 = .ok (.invokevirtual 132, 3) := by decide +kernel
theorem dL_1067 : decode code 1067 = .ok (.if_icmp .eq 331, 3) := by decide +kernel
theorem dL_1070 : decode code 1070 = .ok (.iconst 0, 1) := by decide +kernel
theorem dL_1071 : decode code 1071 = .ok (.ireturn, 1) := by decide +kernel
theorem dL_1072 : decode code 1072 = .ok (.aload_n 1, 1) := by decide +kernel
theorem dL_1073 : decode code 1073 = .ok (.aload_n 0, 1) := by decide +kernel
theorem dL_1074 : decode code 1074 = .ok (.iload_n 3, 1) := by decide +kernel
theorem dL_1075 : decode code 1075 = .ok (.iconst 1, 1) := by decide +kernel
theorem dL_1076 : decode code 1076 = .ok (.iadd, 1) := by decide +kernel
theorem dL_1077 : decode code 1077 = .ok (.iaload, 1) := by decide +kernel
theorem dL_1078 : decode code 1078 = .ok (.invokevirtual 133, 3) := by decide +kernel
theorem dL_1081 : decode code 1081 = .ok (.aload_n 2, 1) := by decide +kernel
theorem dL_1082 : decode code 1082 = .ok (.aload_n 0, 1) := by decide +kernel
theorem dL_1083 : decode code 1083 = .ok (.iload_n 3, 1) := by decide +kernel
theorem dL_1084 : decode code 1084 = .ok (.iconst 1, 1) := by decide +kernel
theorem dL_1085 : decode code 1085 = .ok (.iadd, 1) := by decide +kernel
theorem dL_1086 : decode code 1086 = .ok (.iaload, 1) := by decide +kernel
theorem dL_1087 : decode code 1087 = .ok (.invokevirtual 136, 3) := by decide +kernel
theorem dL_1090 : decode code 1090 = .ok (.if_icmp .eq 308, 3) := by decide +kernel
theorem dL_1093 : decode code 1093 = .ok (.iconst 0, 1) := by decide +kernel
theorem dL_1094 : decode code 1094 = .ok (.ireturn, 1) := by decide +kernel
theorem dL_1095 : decode code 1095 = .ok (.aload_n 1, 1) := by decide +kernel
theorem dL_1096 : decode code 1096 = .ok (.aload_n 0, 1) := by decide +kernel
theorem dL_1097 : decode code 1097 = .ok (.iload_n 3, 1) := by decide +kernel
theorem dL_1098 : decode code 1098 = .ok (.iconst 1, 1) := by decide +kernel
theorem dL_1099 : decode code 1099 = .ok (.iadd, 1) := by decide +kernel
theorem dL_1100 : decode code 1100 = .ok (.iaload, 1) := by decide +kernel
theorem dL_1101 : decode code 1101 = .ok (.aload_n 0, 1) := by decide +kernel
theorem dL_1102 : decode code 1102 = .ok (.iload_n 3, 1) := by decide +kernel
theorem dL_1103 : decode code 1103 = .ok (.iconst 2, 1) := by decide +kernel
theorem dL_1104 : decode code 1104 = .ok (.iadd, 1) := by decide +kernel
theorem dL_1105 : decode code 1105 = .ok (.iaload, 1) := by decide +kernel
theorem dL_1106 : decode code 1106 = .ok (.aload_n 0, 1) := by decide +kernel
theorem dL_1107 : decode code 1107 = .ok (.iload_n 3, 1) := by decide +kernel
theorem dL_1108 : decode code 1108 = .ok (.iconst 3, 1) := by decide +kernel
theorem dL_1109 : decode code 1109 = .ok (.iadd, 1) := by decide +kernel
theorem dL_1110 : decode code 1110 = .ok (.iaload, 1) := by decide +kernel
theorem dL_1111 : decode code 1111 = .ok (.invokevirtual 137, 3) := by decide +kernel
theorem dL_1114 : decode code 1114 = .ok (.aload_n 2, 1) := by decide +kernel
theorem dL_1115 : decode code 1115 = .ok (.aload_n 0, 1) := by decide +kernel
theorem dL_1116 : decode code 1116 = .ok (.iload_n 3, 1) := by decide +kernel
theorem dL_1117 : decode code 1117 = .ok (.iconst 1, 1) := by decide +kernel
theorem dL_1118 : decode code 1118 = .ok (.iadd, 1) := by decide +kernel
theorem dL_1119 : decode code 1119 = .ok (.iaload, 1) := by decide +kernel
theorem dL_1120 : decode code 1120 = .ok (.aload_n 0, 1) := by decide +kernel
theorem dL_1121 : decode code 1121 = .ok (.iload_n 3, 1) := by decide +kernel
theorem dL_1122 : decode code 1122 = .ok (.iconst 2, 1) := by decide +kernel
theorem dL_1123 : decode code 1123 = .ok (.iadd, 1) := by decide +kernel
theorem dL_1124 : decode code 1124 = .ok (.iaload, 1) := by decide +kernel
theorem dL_1125 : decode code 1125 = .ok (.aload_n 0, 1) := by decide +kernel
theorem dL_1126 : decode code 1126 = .ok (.iload_n 3, 1) := by decide +kernel
theorem dL_1127 : decode code 1127 = .ok (.iconst 3, 1) := by decide +kernel
theorem dL_1128 : decode code 1128 = .ok (.iadd, 1) := by decide +kernel
theorem dL_1129 : decode code 1129 = .ok (.iaload, 1) := by decide +kernel
theorem dL_1130 : decode code 1130 = .ok (.invokevirtual 140, 3) := by decide +kernel
theorem dL_1133 : decode code 1133 = .ok (.if_icmp .eq 265, 3) := by decide +kernel
theorem dL_1136 : decode code 1136 = .ok (.iconst 0, 1) := by decide +kernel
theorem dL_1137 : decode code 1137 = .ok (.ireturn, 1) := by decide +kernel
theorem dL_1138 : decode code 1138 = .ok (.aload_n 1, 1) := by decide +kernel
theorem dL_1139 : decode code 1139 = .ok (.aload_n 0, 1) := by decide +kernel
theorem dL_1140 : decode code 1140 = .ok (.iload_n 3, 1) := by decide +kernel
theorem dL_1141 : decode code 1141 = .ok (.iconst 1, 1) := by decide +kernel
theorem dL_1142 : decode code 1142 = .ok (.iadd, 1) := by decide +kernel
theorem dL_1143 : decode code 1143 = .ok (.iaload, 1) := by decide +kernel
theorem dL_1144 : decode code 1144 = .ok (.aload_n 0, 1) := by decide +kernel
theorem dL_1145 : decode code 1145 = .ok (.iload_n 3, 1) := by decide +kernel
theorem dL_1146 : decode code 1146 = .ok (.iconst 2, 1) := by decide +kernel
theorem dL_1147 : decode code 1147 = .ok (.iadd, 1) := by decide +kernel
theorem dL_1148 : decode code 1148 = .ok (.iaload, 1) := by decide +kernel
theorem dL_1149 : decode code 1149 = .ok (.aload_n 0, 1) := by decide +kernel
theorem dL_1150 : decode code 1150 = .ok (.iload_n 3, 1) := by decide +kernel
theorem dL_1151 : decode code 1151 = .ok (.iconst 3, 1) := by decide +kernel
theorem dL_1152 : decode code 1152 = .ok (.iadd, 1) := by decide +kernel
theorem dL_1153 : decode code 1153 = .ok (.iaload, 1) := by decide +kernel
theorem dL_1154 : decode code 1154 = .ok (.invokevirtual 141, 3) := by decide +kernel
theorem dL_1157 : decode code 1157 = .ok (.aload_n 2, 1) := by decide +kernel
theorem dL_1158 : decode code 1158 = .ok (.aload_n 0, 1) := by decide +kernel
theorem dL_1159 : decode code 1159 = .ok (.iload_n 3, 1) := by decide +kernel
theorem dL_1160 : decode code 1160 = .ok (.iconst 1, 1) := by decide +kernel
theorem dL_1161 : decode code 1161 = .ok (.iadd, 1) := by decide +kernel
theorem dL_1162 : decode code 1162 = .ok (.iaload, 1) := by decide +kernel
theorem dL_1163 : decode code 1163 = .ok (.aload_n 0, 1) := by decide +kernel
theorem dL_1164 : decode code 1164 = .ok (.iload_n 3, 1) := by decide +kernel
theorem dL_1165 : decode code 1165 = .ok (.iconst 2, 1) := by decide +kernel
theorem dL_1166 : decode code 1166 = .ok (.iadd, 1) := by decide +kernel
theorem dL_1167 : decode code 1167 = .ok (.iaload, 1) := by decide +kernel
theorem dL_1168 : decode code 1168 = .ok (.aload_n 0, 1) := by decide +kernel
theorem dL_1169 : decode code 1169 = .ok (.iload_n 3, 1) := by decide +kernel
theorem dL_1170 : decode code 1170 = .ok (.iconst 3, 1) := by decide +kernel
theorem dL_1171 : decode code 1171 = .ok (.iadd, 1) := by decide +kernel
theorem dL_1172 : decode code 1172 = .ok (.iaload, 1) := by decide +kernel
theorem dL_1173 : decode code 1173 = .ok (.invokevirtual 144, 3) := by decide +kernel
theorem dL_1176 : decode code 1176 = .ok (.if_icmp .eq 222, 3) := by decide +kernel
theorem dL_1179 : decode code 1179 = .ok (.iconst 0, 1) := by decide +kernel
theorem dL_1180 : decode code 1180 = .ok (.ireturn, 1) := by decide +kernel
theorem dL_1181 : decode code 1181 = .ok (.aload_n 1, 1) := by decide +kernel
theorem dL_1182 : decode code 1182 = .ok (.aload_n 0, 1) := by decide +kernel
theorem dL_1183 : decode code 1183 = .ok (.iload_n 3, 1) := by decide +kernel
theorem dL_1184 : decode code 1184 = .ok (.iconst 1, 1) := by decide +kernel
theorem dL_1185 : decode code 1185 = .ok (.iadd, 1) := by decide +kernel
theorem dL_1186 : decode code 1186 = .ok (.iaload, 1) := by decide +kernel
theorem dL_1187 : decode code 1187 = .ok (.aload_n 0, 1) := by decide +kernel
theorem dL_1188 : decode code 1188 = .ok (.iload_n 3, 1) := by decide +kernel
theorem dL_1189 : decode code 1189 = .ok (.iconst 2, 1) := by decide +kernel
theorem dL_1190 : decode code 1190 = .ok (.iadd, 1) := by decide +kernel
theorem dL_1191 : decode code 1191 = .ok (.iaload, 1) := by decide +kernel
theorem dL_1192 : decode code 1192 = .ok (.aload_n 0, 1) := by decide +kernel
theorem dL_1193 : decode code 1193 = .ok (.iload_n 3, 1) := by decide +kernel
theorem dL_1194 : decode code 1194 = .ok (.iconst 3, 1) := by decide +kernel
theorem dL_1195 : decode code 1195 = .ok (.iadd, 1) := by decide +kernel
theorem dL_1196 : decode code 1196 = .ok (.iaload, 1) := by decide +kernel
theorem dL_1197 : decode code 1197 = .ok (.aload_n 0, 1) := by decide +kernel
theorem dL_1198 : decode code 1198 = .ok (.iload_n 3, 1) := by decide +kernel
theorem dL_1199 : decode code 1199 = .ok (.iconst 4, 1) := by decide +kernel
theorem dL_1200 : decode code 1200 = .ok (.iadd, 1) := by decide +kernel
theorem dL_1201 : decode code 1201 = .ok (.iaload, 1) := by decide +kernel
theorem dL_1202 : decode code 1202 = .ok (.aload_n 0, 1) := by decide +kernel
theorem dL_1203 : decode code 1203 = .ok (.iload_n 3, 1) := by decide +kernel
theorem dL_1204 : decode code 1204 = .ok (.iconst 5, 1) := by decide +kernel
theorem dL_1205 : decode code 1205 = .ok (.iadd, 1) := by decide +kernel
theorem dL_1206 : decode code 1206 = .ok (.iaload, 1) := by decide +kernel
theorem dL_1207 : decode code 1207 = .ok (.invokevirtual 145, 3) := by decide +kernel
theorem dL_1210 : decode code 1210 = .ok (.aload_n 2, 1) := by decide +kernel
theorem dL_1211 : decode code 1211 = .ok (.aload_n 0, 1) := by decide +kernel
theorem dL_1212 : decode code 1212 = .ok (.iload_n 3, 1) := by decide +kernel
theorem dL_1213 : decode code 1213 = .ok (.iconst 1, 1) := by decide +kernel
theorem dL_1214 : decode code 1214 = .ok (.iadd, 1) := by decide +kernel
theorem dL_1215 : decode code 1215 = .ok (.iaload, 1) := by decide +kernel
theorem dL_1216 : decode code 1216 = .ok (.aload_n 0, 1) := by decide +kernel
theorem dL_1217 : decode code 1217 = .ok (.iload_n 3, 1) := by decide +kernel
theorem dL_1218 : decode code 1218 = .ok (.iconst 2, 1) := by decide +kernel
theorem dL_1219 : decode code 1219 = .ok (.iadd, 1) := by decide +kernel
theorem dL_1220 : decode code 1220 = .ok (.iaload, 1) := by decide +kernel
theorem dL_1221 : decode code 1221 = .ok (.aload_n 0, 1) := by decide +kernel
theorem dL_1222 : decode code 1222 = .ok (.iload_n 3, 1) := by decide +kernel
theorem dL_1223 : decode code 1223 = .ok (.iconst 3, 1) := by decide +kernel
theorem dL_1224 : decode code 1224 = .ok (.iadd, 1) := by decide +kernel
theorem dL_1225 : decode code 1225 = .ok (.iaload, 1) := by decide +kernel
theorem dL_1226 : decode code 1226 = .ok (.aload_n 0, 1) := by decide +kernel
theorem dL_1227 : decode code 1227 = .ok (.iload_n 3, 1) := by decide +kernel
theorem dL_1228 : decode code 1228 = .ok (.iconst 4, 1) := by decide +kernel
theorem dL_1229 : decode code 1229 = .ok (.iadd, 1) := by decide +kernel
theorem dL_1230 : decode code 1230 = .ok (.iaload, 1) := by decide +kernel
theorem dL_1231 : decode code 1231 = .ok (.aload_n 0, 1) := by decide +kernel
theorem dL_1232 : decode code 1232 = .ok (.iload_n 3, 1) := by decide +kernel
theorem dL_1233 : decode code 1233 = .ok (.iconst 5, 1) := by decide +kernel
theorem dL_1234 : decode code 1234 = .ok (.iadd, 1) := by decide +kernel
theorem dL_1235 : decode code 1235 = .ok (.iaload, 1) := by decide +kernel
theorem dL_1236 : decode code 1236 = .ok (.invokevirtual 149, 3) := by decide +kernel
theorem dL_1239 : decode code 1239 = .ok (.if_icmp .eq 159, 3) := by decide +kernel
theorem dL_1242 : decode code 1242 = .ok (.iconst 0, 1) := by decide +kernel
theorem dL_1243 : decode code 1243 = .ok (.ireturn, 1) := by decide +kernel
theorem dL_1244 : decode code 1244 = .ok (.aload_n 1, 1) := by decide +kernel
theorem dL_1245 : decode code 1245 = .ok (.aload_n 0, 1) := by decide +kernel
theorem dL_1246 : decode code 1246 = .ok (.iload_n 3, 1) := by decide +kernel
theorem dL_1247 : decode code 1247 = .ok (.iconst 1, 1) := by decide +kernel
theorem dL_1248 : decode code 1248 = .ok (.iadd, 1) := by decide +kernel
theorem dL_1249 : decode code 1249 = .ok (.iaload, 1) := by decide +kernel
theorem dL_1250 : decode code 1250 = .ok (.invokevirtual 150, 3) := by decide +kernel
theorem dL_1253 : decode code 1253 = .ok (.aload_n 2, 1) := by decide +kernel
theorem dL_1254 : decode code 1254 = .ok (.aload_n 0, 1) := by decide +kernel
theorem dL_1255 : decode code 1255 = .ok (.iload_n 3, 1) := by decide +kernel
theorem dL_1256 : decode code 1256 = .ok (.iconst 1, 1) := by decide +kernel
theorem dL_1257 : decode code 1257 = .ok (.iadd, 1) := by decide +kernel
theorem dL_1258 : decode code 1258 = .ok (.iaload, 1) := by decide +kernel
theorem dL_1259 : decode code 1259 = .ok (.invokevirtual 153, 3) := by decide +kernel
theorem dL_1262 : decode code 1262 = .ok (.if_icmp .eq 136, 3) := by decide +kernel
theorem dL_1265 : decode code 1265 = .ok (.iconst 0, 1) := by decide +kernel
theorem dL_1266 : decode code 1266 = .ok (.ireturn, 1) := by decide +kernel
theorem dL_1267 : decode code 1267 = .ok (.aload_n 1, 1) := by decide +kernel
theorem dL_1268 : decode code 1268 = .ok (.aload_n 0, 1) := by decide +kernel
theorem dL_1269 : decode code 1269 = .ok (.iload_n 3, 1) := by decide +kernel
theorem dL_1270 : decode code 1270 = .ok (.iconst 1, 1) := by decide +kernel
theorem dL_1271 : decode code 1271 = .ok (.iadd, 1) := by decide +kernel
theorem dL_1272 : decode code 1272 = .ok (.iaload, 1) := by decide +kernel
theorem dL_1273 : decode code 1273 = .ok (.invokevirtual 154, 3) := by decide +kernel
theorem dL_1276 : decode code 1276 = .ok (.aload_n 2, 1) := by decide +kernel
theorem dL_1277 : decode code 1277 = .ok (.aload_n 0, 1) := by decide +kernel
theorem dL_1278 : decode code 1278 = .ok (.iload_n 3, 1) := by decide +kernel
theorem dL_1279 : decode code 1279 = .ok (.iconst 1, 1) := by decide +kernel
theorem dL_1280 : decode code 1280 = .ok (.iadd, 1) := by decide +kernel
theorem dL_1281 : decode code 1281 = .ok (.iaload, 1) := by decide +kernel
theorem dL_1282 : decode code 1282 = .ok (.invokevirtual 157, 3) := by decide +kernel
theorem dL_1285 : decode code 1285 = .ok (.if_icmp .eq 113, 3) := by decide +kernel
theorem dL_1288 : decode code 1288 = .ok (.iconst 0, 1) := by decide +kernel
theorem dL_1289 : decode code 1289 = .ok (.ireturn, 1) := by decide +kernel
theorem dL_1290 : decode code 1290 = .ok (.aload_n 1, 1) := by decide +kernel
theorem dL_1291 : decode code 1291 = .ok (.invokevirtual 158, 3) := by decide +kernel
theorem dL_1294 : decode code 1294 = .ok (.aload_n 2, 1) := by decide +kernel
theorem dL_1295 : decode code 1295 = .ok (.invokevirtual 161, 3) := by decide +kernel
theorem dL_1298 : decode code 1298 = .ok (.if_icmp .eq 100, 3) := by decide +kernel
theorem dL_1301 : decode code 1301 = .ok (.iconst 0, 1) := by decide +kernel
theorem dL_1302 : decode code 1302 = .ok (.ireturn, 1) := by decide +kernel
theorem dL_1303 : decode code 1303 = .ok (.aload_n 1, 1) := by decide +kernel
theorem dL_1304 : decode code 1304 = .ok (.invokevirtual 162, 3) := by decide +kernel
theorem dL_1307 : decode code 1307 = .ok (.aload_n 2, 1) := by decide +kernel
theorem dL_1308 : decode code 1308 = .ok (.invokevirtual 165, 3) := by decide +kernel
theorem dL_1311 : decode code 1311 = .ok (.if_icmp .eq 87, 3) := by decide +kernel
theorem dL_1314 : decode code 1314 = .ok (.iconst 0, 1) := by decide +kernel
theorem dL_1315 : decode code 1315 = .ok (.ireturn, 1) := by decide +kernel
theorem dL_1316 : decode code 1316 = .ok (.aload_n 1, 1) := by decide +kernel
theorem dL_1317 : decode code 1317 = .ok (.aload_n 0, 1) := by decide +kernel
theorem dL_1318 : decode code 1318 = .ok (.iload_n 3, 1) := by decide +kernel
theorem dL_1319 : decode code 1319 = .ok (.iconst 1, 1) := by decide +kernel
theorem dL_1320 : decode code 1320 = .ok (.iadd, 1) := by decide +kernel
theorem dL_1321 : decode code 1321 = .ok (.iaload, 1) := by decide +kernel
theorem dL_1322 : decode code 1322 = .ok (.invokevirtual 166, 3) := by decide +kernel
theorem dL_1325 : decode code 1325 = .ok (.aload_n 2, 1) := by decide +kernel
theorem dL_1326 : decode code 1326 = .ok (.aload_n 0, 1) := by decide +kernel
theorem dL_1327 : decode code 1327 = .ok (.iload_n 3, 1) := by decide +kernel
theorem dL_1328 : decode code 1328 = .ok (.iconst 1, 1) := by decide +kernel
theorem dL_1329 : decode code 1329 = .ok (.iadd, 1) := by decide +kernel
theorem dL_1330 : decode code 1330 = .ok (.iaload, 1) := by decide +kernel
theorem dL_1331 : decode code 1331 = .ok (.invokevirtual 169, 3) := by decide +kernel
theorem dL_1334 : decode code 1334 = .ok (.if_icmp .eq 64, 3) := by decide +kernel
theorem dL_1337 : decode code 1337 = .ok (.iconst 0, 1) := by decide +kernel
theorem dL_1338 : decode code 1338 = .ok (.ireturn, 1) := by decide +kernel
theorem dL_1339 : decode code 1339 = .ok (.aload_n 1, 1) := by decide +kernel
theorem dL_1340 : decode code 1340 = .ok (.invokevirtual 170, 3) := by decide +kernel
theorem dL_1343 : decode code 1343 = .ok (.aload_n 2, 1) := by decide +kernel
theorem dL_1344 : decode code 1344 = .ok (.invokevirtual 173, 3) := by decide +kernel
theorem dL_1347 : decode code 1347 = .ok (.if_icmp .eq 51, 3) := by decide +kernel
theorem dL_1350 : decode code 1350 = .ok (.iconst 0, 1) := by decide +kernel
theorem dL_1351 : decode code 1351 = .ok (.ireturn, 1) := by decide +kernel
theorem dL_1352 : decode code 1352 = .ok (.aload_n 1, 1) := by decide +kernel
theorem dL_1353 : decode code 1353 = .ok (.aload_n 0, 1) := by decide +kernel
theorem dL_1354 : decode code 1354 = .ok (.iload_n 3, 1) := by decide +kernel
theorem dL_1355 : decode code 1355 = .ok (.iconst 1, 1) := by decide +kernel
theorem dL_1356 : decode code 1356 = .ok (.iadd, 1) := by decide +kernel
theorem dL_1357 : decode code 1357 = .ok (.iaload, 1) := by decide +kernel
theorem dL_1358 : decode code 1358 = .ok (.invokevirtual 174, 3) := by decide +kernel
theorem dL_1361 : decode code 1361 = .ok (.aload_n 2, 1) := by decide +kernel
theorem dL_1362 : decode code 1362 = .ok (.aload_n 0, 1) := by decide +kernel
theorem dL_1363 : decode code 1363 = .ok (.iload_n 3, 1) := by decide +kernel
theorem dL_1364 : decode code 1364 = .ok (.iconst 1, 1) := by decide +kernel
theorem dL_1365 : decode code 1365 = .ok (.iadd, 1) := by decide +kernel
theorem dL_1366 : decode code 1366 = .ok (.iaload, 1) := by decide +kernel
theorem dL_1367 : decode code 1367 = .ok (.invokevirtual 177, 3) := by decide +kernel
theorem dL_1370 : decode code 1370 = .ok (.if_icmp .eq 28, 3) := by decide +kernel
theorem dL_1373 : decode code 1373 = .ok (.iconst 0, 1) := by decide +kernel
theorem dL_1374 : decode code 1374 = .ok (.ireturn, 1) := by decide +kernel
theorem dL_1375 : decode code 1375 = .ok (.aload_n 1, 1) := by decide +kernel
theorem dL_1376 : decode code 1376 = .ok (.aload_n 0, 1) := by decide +kernel
theorem dL_1377 : decode code 1377 = .ok (.iload_n 3, 1) := by decide +kernel
theorem dL_1378 : decode code 1378 = .ok (.iconst 1, 1) := by decide +kernel
theorem dL_1379 : decode code 1379 = .ok (.iadd, 1) := by decide +kernel
theorem dL_1380 : decode code 1380 = .ok (.iaload, 1) := by decide +kernel
theorem dL_1381 : decode code 1381 = .ok (.invokevirtual 178, 3) := by decide +kernel
theorem dL_1384 : decode code 1384 = .ok (.aload_n 2, 1) := by decide +kernel
theorem dL_1385 : decode code 1385 = .ok (.aload_n 0, 1) := by decide +kernel
theorem dL_1386 : decode code 1386 = .ok (.iload_n 3, 1) := by decide +kernel
theorem dL_1387 : decode code 1387 = .ok (.iconst 1, 1) := by decide +kernel
theorem dL_1388 : decode code 1388 = .ok (.iadd, 1) := by decide +kernel
theorem dL_1389 : decode code 1389 = .ok (.iaload, 1) := by decide +kernel
theorem dL_1390 : decode code 1390 = .ok (.invokevirtual 181, 3) := by decide +kernel
theorem dL_1393 : decode code 1393 = .ok (.if_icmp .eq 5, 3) := by decide +kernel
theorem dL_1396 : decode code 1396 = .ok (.iconst 0, 1) := by decide +kernel
theorem dL_1397 : decode code 1397 = .ok (.ireturn, 1) := by decide +kernel
theorem dL_1398 : decode code 1398 = .ok (.iinc 3 6, 3) := by decide +kernel
theorem dL_1401 : decode code 1401 = .ok (.goto (-1383), 3) := by decide +kernel
theorem dL_1404 : decode code 1404 = .ok (.iconst 1, 1) := by decide +kernel
theorem dL_1405 : decode code 1405 = .ok (.ireturn, 1) := by decide +kernel
