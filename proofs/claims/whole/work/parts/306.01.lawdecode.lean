/-! ===== decode rows of the law ===== -/
theorem dl_0 : decode code 0 = .ok (.new 8, 3) := by decide +kernel
theorem dl_3 : decode code 3 = .ok (.dup, 1) := by decide +kernel
theorem dl_4 : decode code 4 = .ok (.invokespecial 15, 3) := by decide +kernel
theorem dl_7 : decode code 7 = .ok (.astore_n 1, 1) := by decide +kernel
theorem dl_8 : decode code 8 = .ok (.new 16, 3) := by decide +kernel
theorem dl_11 : decode code 11 = .ok (.dup, 1) := by decide +kernel
theorem dl_12 : decode code 12 = .ok (.invokespecial 18, 3) := by decide +kernel
theorem dl_15 : decode code 15 = .ok (.astore_n 2, 1) := by decide +kernel
theorem dl_16 : decode code 16 = .ok (.iconst 1, 1) := by decide +kernel
theorem dl_17 : decode code 17 = .ok (.newarray .long, 2) := by decide +kernel
theorem dl_19 : decode code 19 = .ok (.astore_n 3, 1) := by decide +kernel
theorem dl_20 : decode code 20 = .ok (.iconst 0, 1) := by decide +kernel
theorem dl_21 : decode code 21 = .ok (.istore 4, 2) := by decide +kernel
theorem dl_23 : decode code 23 = .ok (.iload 4, 2) := by decide +kernel
theorem dl_25 : decode code 25 = .ok (.aload_n 0, 1) := by decide +kernel
theorem dl_26 : decode code 26 = .ok (.arraylength, 1) := by decide +kernel
theorem dl_27 : decode code 27 = .ok (.bipush 6, 2) := by decide +kernel
theorem dl_29 : decode code 29 = .ok (.isub, 1) := by decide +kernel
theorem dl_30 : decode code 30 = .ok (.if_icmp .gt 1458, 3) := by decide +kernel
theorem dl_33 : decode code 33 = .ok (.aload_n 0, 1) := by decide +kernel
theorem dl_34 : decode code 34 = .ok (.iload 4, 2) := by decide +kernel
theorem dl_36 : decode code 36 = .ok (.iaload, 1) := by decide +kernel
theorem dl_37 : decode code 37 = .ok (.bipush 63, 2) := by decide +kernel
theorem dl_39 : decode code 39 = .ok (.iand, 1) := by decide +kernel
theorem dl_40 : decode code 40 = .ok (.tableswitch 1442 0 38 #[172, 245, 270, 295, 320, 357, 425, 462, 499, 524, 549, 574, 599, 624, 637, 662, 687, 756, 781, 794, 831, 868, 893, 918, 943, 1008, 1033, 1058, 1119, 1156, 1217, 1230, 1267, 1304, 1341, 1366, 1391, 1404, 1417], 172) := by decide +kernel
theorem dl_212 : decode code 212 = .ok (.aload_n 1, 1) := by decide +kernel
theorem dl_213 : decode code 213 = .ok (.aload_n 0, 1) := by decide +kernel
theorem dl_214 : decode code 214 = .ok (.iload 4, 2) := by decide +kernel
theorem dl_216 : decode code 216 = .ok (.iconst 1, 1) := by decide +kernel
theorem dl_217 : decode code 217 = .ok (.iadd, 1) := by decide +kernel
theorem dl_218 : decode code 218 = .ok (.iaload, 1) := by decide +kernel
theorem dl_219 : decode code 219 = .ok (.aload_n 0, 1) := by decide +kernel
theorem dl_220 : decode code 220 = .ok (.iload 4, 2) := by decide +kernel
theorem dl_222 : decode code 222 = .ok (.iconst 2, 1) := by decide +kernel
theorem dl_223 : decode code 223 = .ok (.iadd, 1) := by decide +kernel
theorem dl_224 : decode code 224 = .ok (.iaload, 1) := by decide +kernel
theorem dl_225 : decode code 225 = .ok (.aload_n 0, 1) := by decide +kernel
theorem dl_226 : decode code 226 = .ok (.iload 4, 2) := by decide +kernel
theorem dl_228 : decode code 228 = .ok (.iconst 3, 1) := by decide +kernel
theorem dl_229 : decode code 229 = .ok (.iadd, 1) := by decide +kernel
theorem dl_230 : decode code 230 = .ok (.iaload, 1) := by decide +kernel
theorem dl_231 : decode code 231 = .ok (.aload_n 0, 1) := by decide +kernel
theorem dl_232 : decode code 232 = .ok (.iload 4, 2) := by decide +kernel
theorem dl_234 : decode code 234 = .ok (.iconst 4, 1) := by decide +kernel
theorem dl_235 : decode code 235 = .ok (.iadd, 1) := by decide +kernel
theorem dl_236 : decode code 236 = .ok (.iaload, 1) := by decide +kernel
theorem dl_237 : decode code 237 = .ok (.aload_n 0, 1) := by decide +kernel
theorem dl_238 : decode code 238 = .ok (.iload 4, 2) := by decide +kernel
theorem dl_240 : decode code 240 = .ok (.iconst 5, 1) := by decide +kernel
theorem dl_241 : decode code 241 = .ok (.iadd, 1) := by decide +kernel
theorem dl_242 : decode code 242 = .ok (.iaload, 1) := by decide +kernel
theorem dl_243 : decode code 243 = .ok (.invokevirtual 19, 3) := by decide +kernel
theorem dl_246 : decode code 246 = .ok (.aload_n 2, 1) := by decide +kernel
theorem dl_247 : decode code 247 = .ok (.aload_n 0, 1) := by decide +kernel
theorem dl_248 : decode code 248 = .ok (.iload 4, 2) := by decide +kernel
theorem dl_250 : decode code 250 = .ok (.iconst 1, 1) := by decide +kernel
theorem dl_251 : decode code 251 = .ok (.iadd, 1) := by decide +kernel
theorem dl_252 : decode code 252 = .ok (.iaload, 1) := by decide +kernel
theorem dl_253 : decode code 253 = .ok (.aload_n 0, 1) := by decide +kernel
theorem dl_254 : decode code 254 = .ok (.iload 4, 2) := by decide +kernel
theorem dl_256 : decode code 256 = .ok (.iconst 2, 1) := by decide +kernel
theorem dl_257 : decode code 257 = .ok (.iadd, 1) := by decide +kernel
theorem dl_258 : decode code 258 = .ok (.iaload, 1) := by decide +kernel
theorem dl_259 : decode code 259 = .ok (.aload_n 0, 1) := by decide +kernel
theorem dl_260 : decode code 260 = .ok (.iload 4, 2) := by decide +kernel
theorem dl_262 : decode code 262 = .ok (.iconst 3, 1) := by decide +kernel
theorem dl_263 : decode code 263 = .ok (.iadd, 1) := by decide +kernel
theorem dl_264 : decode code 264 = .ok (.iaload, 1) := by decide +kernel
theorem dl_265 : decode code 265 = .ok (.aload_n 0, 1) := by decide +kernel
theorem dl_266 : decode code 266 = .ok (.iload 4, 2) := by decide +kernel
theorem dl_268 : decode code 268 = .ok (.iconst 4, 1) := by decide +kernel
theorem dl_269 : decode code 269 = .ok (.iadd, 1) := by decide +kernel
theorem dl_270 : decode code 270 = .ok (.iaload, 1) := by decide +kernel
theorem dl_271 : decode code 271 = .ok (.aload_n 0, 1) := by decide +kernel
theorem dl_272 : decode code 272 = .ok (.iload 4, 2) := by decide +kernel
theorem dl_274 : decode code 274 = .ok (.iconst 5, 1) := by decide +kernel
theorem dl_275 : decode code 275 = .ok (.iadd, 1) := by decide +kernel
theorem dl_276 : decode code 276 = .ok (.iaload, 1) := by decide +kernel
theorem dl_277 : decode code 277 = .ok (.invokevirtual 23, 3) := by decide +kernel
theorem dl_280 : decode code 280 = .ok (.if_icmp .eq 1202, 3) := by decide +kernel
theorem dl_283 : decode code 283 = .ok (.iconst 0, 1) := by decide +kernel
theorem dl_284 : decode code 284 = .ok (.ireturn, 1) := by decide +kernel
theorem dl_285 : decode code 285 = .ok (.aload_n 1, 1) := by decide +kernel
theorem dl_286 : decode code 286 = .ok (.aload_n 0, 1) := by decide +kernel
theorem dl_287 : decode code 287 = .ok (.iload 4, 2) := by decide +kernel
theorem dl_289 : decode code 289 = .ok (.iconst 1, 1) := by decide +kernel
theorem dl_290 : decode code 290 = .ok (.iadd, 1) := by decide +kernel
theorem dl_291 : decode code 291 = .ok (.iaload, 1) := by decide +kernel
theorem dl_292 : decode code 292 = .ok (.invokevirtual 24, 3) := by decide +kernel
theorem dl_295 : decode code 295 = .ok (.aload_n 2, 1) := by decide +kernel
theorem dl_296 : decode code 296 = .ok (.aload_n 0, 1) := by decide +kernel
theorem dl_297 : decode code 297 = .ok (.iload 4, 2) := by decide +kernel
theorem dl_299 : decode code 299 = .ok (.iconst 1, 1) := by decide +kernel
theorem dl_300 : decode code 300 = .ok (.iadd, 1) := by decide +kernel
theorem dl_301 : decode code 301 = .ok (.iaload, 1) := by decide +kernel
theorem dl_302 : decode code 302 = .ok (.invokevirtual 28, 3) := by decide +kernel
theorem dl_305 : decode code 305 = .ok (.if_icmp .eq 1177, 3) := by decide +kernel
theorem dl_308 : decode code 308 = .ok (.iconst 0, 1) := by decide +kernel
theorem dl_309 : decode code 309 = .ok (.ireturn, 1) := by decide +kernel
theorem dl_310 : decode code 310 = .ok (.aload_n 1, 1) := by decide +kernel
theorem dl_311 : decode code 311 = .ok (.aload_n 0, 1) := by decide +kernel
theorem dl_312 : decode code 312 = .ok (.iload 4, 2) := by decide +kernel
theorem dl_314 : decode code 314 = .ok (.iconst 1, 1) := by decide +kernel
theorem dl_315 : decode code 315 = .ok (.iadd, 1) := by decide +kernel
theorem dl_316 : decode code 316 = .ok (.iaload, 1) := by decide +kernel
theorem dl_317 : decode code 317 = .ok (.invokevirtual 29, 3) := by decide +kernel
theorem dl_320 : decode code 320 = .ok (.aload_n 2, 1) := by decide +kernel
theorem dl_321 : decode code 321 = .ok (.aload_n 0, 1) := by decide +kernel
theorem dl_322 : decode code 322 = .ok (.iload 4, 2) := by decide +kernel
theorem dl_324 : decode code 324 = .ok (.iconst 1, 1) := by decide +kernel
theorem dl_325 : decode code 325 = .ok (.iadd, 1) := by decide +kernel
theorem dl_326 : decode code 326 = .ok (.iaload, 1) := by decide +kernel
theorem dl_327 : decode code 327 = .ok (.invokevirtual 33, 3) := by decide +kernel
theorem dl_330 : decode code 330 = .ok (.if_icmp .eq 1152, 3) := by decide +kernel
theorem dl_333 : decode code 333 = .ok (.iconst 0, 1) := by decide +kernel
theorem dl_334 : decode code 334 = .ok (.ireturn, 1) := by decide +kernel
theorem dl_335 : decode code 335 = .ok (.aload_n 1, 1) := by decide +kernel
theorem dl_336 : decode code 336 = .ok (.aload_n 0, 1) := by decide +kernel
theorem dl_337 : decode code 337 = .ok (.iload 4, 2) := by decide +kernel
theorem dl_339 : decode code 339 = .ok (.iconst 1, 1) := by decide +kernel
theorem dl_340 : decode code 340 = .ok (.iadd, 1) := by decide +kernel
theorem dl_341 : decode code 341 = .ok (.iaload, 1) := by decide +kernel
theorem dl_342 : decode code 342 = .ok (.invokevirtual 34, 3) := by decide +kernel
theorem dl_345 : decode code 345 = .ok (.aload_n 2, 1) := by decide +kernel
theorem dl_346 : decode code 346 = .ok (.aload_n 0, 1) := by decide +kernel
theorem dl_347 : decode code 347 = .ok (.iload 4, 2) := by decide +kernel
theorem dl_349 : decode code 349 = .ok (.iconst 1, 1) := by decide +kernel
theorem dl_350 : decode code 350 = .ok (.iadd, 1) := by decide +kernel
theorem dl_351 : decode code 351 = .ok (.iaload, 1) := by decide +kernel
theorem dl_352 : decode code 352 = .ok (.invokevirtual 37, 3) := by decide +kernel
theorem dl_355 : decode code 355 = .ok (.if_icmp .eq 1127, 3) := by decide +kernel
theorem dl_358 : decode code 358 = .ok (.iconst 0, 1) := by decide +kernel
theorem dl_359 : decode code 359 = .ok (.ireturn, 1) := by decide +kernel
theorem dl_360 : decode code 360 = .ok (.aload_n 1, 1) := by decide +kernel
theorem dl_361 : decode code 361 = .ok (.aload_n 0, 1) := by decide +kernel
theorem dl_362 : decode code 362 = .ok (.iload 4, 2) := by decide +kernel
theorem dl_364 : decode code 364 = .ok (.iconst 1, 1) := by decide +kernel
theorem dl_365 : decode code 365 = .ok (.iadd, 1) := by decide +kernel
theorem dl_366 : decode code 366 = .ok (.iaload, 1) := by decide +kernel
theorem dl_367 : decode code 367 = .ok (.aload_n 0, 1) := by decide +kernel
theorem dl_368 : decode code 368 = .ok (.iload 4, 2) := by decide +kernel
theorem dl_370 : decode code 370 = .ok (.iconst 2, 1) := by decide +kernel
theorem dl_371 : decode code 371 = .ok (.iadd, 1) := by decide +kernel
theorem dl_372 : decode code 372 = .ok (.iaload, 1) := by decide +kernel
theorem dl_373 : decode code 373 = .ok (.invokevirtual 38, 3) := by decide +kernel
theorem dl_376 : decode code 376 = .ok (.aload_n 2, 1) := by decide +kernel
theorem dl_377 : decode code 377 = .ok (.aload_n 0, 1) := by decide +kernel
theorem dl_378 : decode code 378 = .ok (.iload 4, 2) := by decide +kernel
theorem dl_380 : decode code 380 = .ok (.iconst 1, 1) := by decide +kernel
theorem dl_381 : decode code 381 = .ok (.iadd, 1) := by decide +kernel
theorem dl_382 : decode code 382 = .ok (.iaload, 1) := by decide +kernel
theorem dl_383 : decode code 383 = .ok (.aload_n 0, 1) := by decide +kernel
theorem dl_384 : decode code 384 = .ok (.iload 4, 2) := by decide +kernel
theorem dl_386 : decode code 386 = .ok (.iconst 2, 1) := by decide +kernel
theorem dl_387 : decode code 387 = .ok (.iadd, 1) := by decide +kernel
theorem dl_388 : decode code 388 = .ok (.iaload, 1) := by decide +kernel
theorem dl_389 : decode code 389 = .ok (.invokevirtual 41, 3) := by decide +kernel
theorem dl_392 : decode code 392 = .ok (.if_icmp .eq 1090, 3) := by decide +kernel
theorem dl_395 : decode code 395 = .ok (.iconst 0, 1) := by decide +kernel
theorem dl_396 : decode code 396 = .ok (.ireturn, 1) := by decide +kernel
theorem dl_397 : decode code 397 = .ok (.aload_n 1, 1) := by decide +kernel
theorem dl_398 : decode code 398 = .ok (.aload_n 0, 1) := by decide +kernel
theorem dl_399 : decode code 399 = .ok (.iload 4, 2) := by decide +kernel
theorem dl_401 : decode code 401 = .ok (.iconst 1, 1) := by decide +kernel
theorem dl_402 : decode code 402 = .ok (.iadd, 1) := by decide +kernel
theorem dl_403 : decode code 403 = .ok (.iaload, 1) := by decide +kernel
theorem dl_404 : decode code 404 = .ok (.aload_n 0, 1) := by decide +kernel
theorem dl_405 : decode code 405 = .ok (.iload 4, 2) := by decide +kernel
theorem dl_407 : decode code 407 = .ok (.iconst 2, 1) := by decide +kernel
theorem dl_408 : decode code 408 = .ok (.iadd, 1) := by decide +kernel
theorem dl_409 : decode code 409 = .ok (.iaload, 1) := by decide +kernel
theorem dl_410 : decode code 410 = .ok (.aload_n 3, 1) := by decide +kernel
theorem dl_411 : decode code 411 = .ok (.invokestatic 42, 3) := by decide +kernel
theorem dl_414 : decode code 414 = .ok (.istore 5, 2) := by decide +kernel
theorem dl_416 : decode code 416 = .ok (.aload_n 2, 1) := by decide +kernel
theorem dl_417 : decode code 417 = .ok (.aload_n 0, 1) := by decide +kernel
theorem dl_418 : decode code 418 = .ok (.iload 4, 2) := by decide +kernel
theorem dl_420 : decode code 420 = .ok (.iconst 1, 1) := by decide +kernel
theorem dl_421 : decode code 421 = .ok (.iadd, 1) := by decide +kernel
theorem dl_422 : decode code 422 = .ok (.iaload, 1) := by decide +kernel
theorem dl_423 : decode code 423 = .ok (.aload_n 0, 1) := by decide +kernel
theorem dl_424 : decode code 424 = .ok (.iload 4, 2) := by decide +kernel
theorem dl_426 : decode code 426 = .ok (.iconst 2, 1) := by decide +kernel
theorem dl_427 : decode code 427 = .ok (.iadd, 1) := by decide +kernel
theorem dl_428 : decode code 428 = .ok (.iaload, 1) := by decide +kernel
theorem dl_429 : decode code 429 = .ok (.invokevirtual 47, 3) := by decide +kernel
theorem dl_432 : decode code 432 = .ok (.istore 6, 2) := by decide +kernel
theorem dl_434 : decode code 434 = .ok (.aload_n 2, 1) := by decide +kernel
theorem dl_435 : decode code 435 = .ok (.invokevirtual 48, 3) := by decide +kernel
theorem dl_438 : decode code 438 = .ok (.iload 5, 2) := by decide +kernel
theorem dl_440 : decode code 440 = .ok (.if_icmp .eq 5, 3) := by decide +kernel
theorem dl_443 : decode code 443 = .ok (.iconst 0, 1) := by decide +kernel
theorem dl_444 : decode code 444 = .ok (.ireturn, 1) := by decide +kernel
theorem dl_445 : decode code 445 = .ok (.iload 5, 2) := by decide +kernel
theorem dl_447 : decode code 447 = .ok (.ifCond .ne 15, 3) := by decide +kernel
theorem dl_450 : decode code 450 = .ok (.aload_n 3, 1) := by decide +kernel
theorem dl_451 : decode code 451 = .ok (.iconst 0, 1) := by decide +kernel
theorem dl_452 : decode code 452 = .ok (.laload, 1) := by decide +kernel
theorem dl_453 : decode code 453 = .ok (.iload 6, 2) := by decide +kernel
theorem dl_455 : decode code 455 = .ok (.i2l, 1) := by decide +kernel
theorem dl_456 : decode code 456 = .ok (.lcmp, 1) := by decide +kernel
theorem dl_457 : decode code 457 = .ok (.ifCond .eq 5, 3) := by decide +kernel
theorem dl_460 : decode code 460 = .ok (.iconst 0, 1) := by decide +kernel
theorem dl_461 : decode code 461 = .ok (.ireturn, 1) := by decide +kernel
theorem dl_462 : decode code 462 = .ok (.goto 1020, 3) := by decide +kernel
theorem dl_465 : decode code 465 = .ok (.aload_n 1, 1) := by decide +kernel
theorem dl_466 : decode code 466 = .ok (.aload_n 0, 1) := by decide +kernel
theorem dl_467 : decode code 467 = .ok (.iload 4, 2) := by decide +kernel
theorem dl_469 : decode code 469 = .ok (.iconst 1, 1) := by decide +kernel
theorem dl_470 : decode code 470 = .ok (.iadd, 1) := by decide +kernel
theorem dl_471 : decode code 471 = .ok (.iaload, 1) := by decide +kernel
theorem dl_472 : decode code 472 = .ok (.aload_n 0, 1) := by decide +kernel
theorem dl_473 : decode code 473 = .ok (.iload 4, 2) := by decide +kernel
theorem dl_475 : decode code 475 = .ok (.iconst 2, 1) := by decide +kernel
theorem dl_476 : decode code 476 = .ok (.iadd, 1) := by decide +kernel
theorem dl_477 : decode code 477 = .ok (.iaload, 1) := by decide +kernel
theorem dl_478 : decode code 478 = .ok (.invokevirtual 52, 3) := by decide +kernel
theorem dl_481 : decode code 481 = .ok (.aload_n 2, 1) := by decide +kernel
theorem dl_482 : decode code 482 = .ok (.aload_n 0, 1) := by decide +kernel
theorem dl_483 : decode code 483 = .ok (.iload 4, 2) := by decide +kernel
theorem dl_485 : decode code 485 = .ok (.iconst 1, 1) := by decide +kernel
theorem dl_486 : decode code 486 = .ok (.iadd, 1) := by decide +kernel
theorem dl_487 : decode code 487 = .ok (.iaload, 1) := by decide +kernel
theorem dl_488 : decode code 488 = .ok (.aload_n 0, 1) := by decide +kernel
theorem dl_489 : decode code 489 = .ok (.iload 4, 2) := by decide +kernel
theorem dl_491 : decode code 491 = .ok (.iconst 2, 1) := by decide +kernel
theorem dl_492 : decode code 492 = .ok (.iadd, 1) := by decide +kernel
theorem dl_493 : decode code 493 = .ok (.iaload, 1) := by decide +kernel
theorem dl_494 : decode code 494 = .ok (.invokevirtual 55, 3) := by decide +kernel
theorem dl_497 : decode code 497 = .ok (.if_icmp .eq 985, 3) := by decide +kernel
theorem dl_500 : decode code 500 = .ok (.iconst 0, 1) := by decide +kernel
theorem dl_501 : decode code 501 = .ok (.ireturn, 1) := by decide +kernel
theorem dl_502 : decode code 502 = .ok (.aload_n 1, 1) := by decide +kernel
theorem dl_503 : decode code 503 = .ok (.aload_n 0, 1) := by decide +kernel
theorem dl_504 : decode code 504 = .ok (.iload 4, 2) := by decide +kernel
theorem dl_506 : decode code 506 = .ok (.iconst 1, 1) := by decide +kernel
theorem dl_507 : decode code 507 = .ok (.iadd, 1) := by decide +kernel
theorem dl_508 : decode code 508 = .ok (.iaload, 1) := by decide +kernel
theorem dl_509 : decode code 509 = .ok (.aload_n 0, 1) := by decide +kernel
theorem dl_510 : decode code 510 = .ok (.iload 4, 2) := by decide +kernel
