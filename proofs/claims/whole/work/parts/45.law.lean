theorem d_law_0 : decode code 0 = .ok (.new 7, 3) := by decide +kernel
theorem d_law_3 : decode code 3 = .ok (.dup, 1) := by decide +kernel
theorem d_law_4 : decode code 4 = .ok (.invokespecial 9, 3) := by decide +kernel
theorem d_law_7 : decode code 7 = .ok (.astore_n 1, 1) := by decide +kernel
theorem d_law_8 : decode code 8 = .ok (.new 10, 3) := by decide +kernel
theorem d_law_11 : decode code 11 = .ok (.dup, 1) := by decide +kernel
theorem d_law_12 : decode code 12 = .ok (.invokespecial 12, 3) := by decide +kernel
theorem d_law_15 : decode code 15 = .ok (.astore_n 2, 1) := by decide +kernel
theorem d_law_16 : decode code 16 = .ok (.iconst 0, 1) := by decide +kernel
theorem d_law_17 : decode code 17 = .ok (.istore_n 3, 1) := by decide +kernel
theorem d_law_18 : decode code 18 = .ok (.iload_n 3, 1) := by decide +kernel
theorem d_law_19 : decode code 19 = .ok (.aload_n 0, 1) := by decide +kernel
theorem d_law_20 : decode code 20 = .ok (.arraylength, 1) := by decide +kernel
theorem d_law_21 : decode code 21 = .ok (.bipush 6, 2) := by decide +kernel
theorem d_law_23 : decode code 23 = .ok (.isub, 1) := by decide +kernel
theorem d_law_24 : decode code 24 = .ok (.if_icmp .gt 1223, 3) := by decide +kernel
theorem d_law_27 : decode code 27 = .ok (.aload_n 0, 1) := by decide +kernel
theorem d_law_28 : decode code 28 = .ok (.iload_n 3, 1) := by decide +kernel
theorem d_law_29 : decode code 29 = .ok (.iaload, 1) := by decide +kernel
theorem d_law_30 : decode code 30 = .ok (.bipush 63, 2) := by decide +kernel
theorem d_law_32 : decode code 32 = .ok (.iand, 1) := by decide +kernel
theorem d_law_33 : decode code 33 = .ok (.tableswitch 1208 0 38 #[171, 234, 257, 270, 293, 316, 359, 382, 405, 428, 451, 474, 497, 530, 553, 576, 599, 622, 655, 688, 711, 734, 757, 790, 803, 836, 859, 882, 905, 938, 961, 984, 1017, 1030, 1053, 1116, 1149, 1182, 1195], 171) := by decide +kernel
theorem d_law_204 : decode code 204 = .ok (.aload_n 1, 1) := by decide +kernel
theorem d_law_205 : decode code 205 = .ok (.aload_n 0, 1) := by decide +kernel
theorem d_law_206 : decode code 206 = .ok (.iload_n 3, 1) := by decide +kernel
theorem d_law_207 : decode code 207 = .ok (.iconst 1, 1) := by decide +kernel
theorem d_law_208 : decode code 208 = .ok (.iadd, 1) := by decide +kernel
theorem d_law_209 : decode code 209 = .ok (.iaload, 1) := by decide +kernel
theorem d_law_210 : decode code 210 = .ok (.aload_n 0, 1) := by decide +kernel
theorem d_law_211 : decode code 211 = .ok (.iload_n 3, 1) := by decide +kernel
theorem d_law_212 : decode code 212 = .ok (.iconst 2, 1) := by decide +kernel
theorem d_law_213 : decode code 213 = .ok (.iadd, 1) := by decide +kernel
theorem d_law_214 : decode code 214 = .ok (.iaload, 1) := by decide +kernel
theorem d_law_215 : decode code 215 = .ok (.aload_n 0, 1) := by decide +kernel
theorem d_law_216 : decode code 216 = .ok (.iload_n 3, 1) := by decide +kernel
theorem d_law_217 : decode code 217 = .ok (.iconst 3, 1) := by decide +kernel
theorem d_law_218 : decode code 218 = .ok (.iadd, 1) := by decide +kernel
theorem d_law_219 : decode code 219 = .ok (.iaload, 1) := by decide +kernel
theorem d_law_220 : decode code 220 = .ok (.aload_n 0, 1) := by decide +kernel
theorem d_law_221 : decode code 221 = .ok (.iload_n 3, 1) := by decide +kernel
theorem d_law_222 : decode code 222 = .ok (.iconst 4, 1) := by decide +kernel
theorem d_law_223 : decode code 223 = .ok (.iadd, 1) := by decide +kernel
theorem d_law_224 : decode code 224 = .ok (.iaload, 1) := by decide +kernel
theorem d_law_225 : decode code 225 = .ok (.aload_n 0, 1) := by decide +kernel
theorem d_law_226 : decode code 226 = .ok (.iload_n 3, 1) := by decide +kernel
theorem d_law_227 : decode code 227 = .ok (.iconst 5, 1) := by decide +kernel
theorem d_law_228 : decode code 228 = .ok (.iadd, 1) := by decide +kernel
theorem d_law_229 : decode code 229 = .ok (.iaload, 1) := by decide +kernel
theorem d_law_230 : decode code 230 = .ok (.invokevirtual 13, 3) := by decide +kernel
theorem d_law_233 : decode code 233 = .ok (.aload_n 2, 1) := by decide +kernel
theorem d_law_234 : decode code 234 = .ok (.aload_n 0, 1) := by decide +kernel
theorem d_law_235 : decode code 235 = .ok (.iload_n 3, 1) := by decide +kernel
theorem d_law_236 : decode code 236 = .ok (.iconst 1, 1) := by decide +kernel
theorem d_law_237 : decode code 237 = .ok (.iadd, 1) := by decide +kernel
theorem d_law_238 : decode code 238 = .ok (.iaload, 1) := by decide +kernel
theorem d_law_239 : decode code 239 = .ok (.aload_n 0, 1) := by decide +kernel
theorem d_law_240 : decode code 240 = .ok (.iload_n 3, 1) := by decide +kernel
theorem d_law_241 : decode code 241 = .ok (.iconst 2, 1) := by decide +kernel
theorem d_law_242 : decode code 242 = .ok (.iadd, 1) := by decide +kernel
theorem d_law_243 : decode code 243 = .ok (.iaload, 1) := by decide +kernel
theorem d_law_244 : decode code 244 = .ok (.aload_n 0, 1) := by decide +kernel
theorem d_law_245 : decode code 245 = .ok (.iload_n 3, 1) := by decide +kernel
theorem d_law_246 : decode code 246 = .ok (.iconst 3, 1) := by decide +kernel
theorem d_law_247 : decode code 247 = .ok (.iadd, 1) := by decide +kernel
theorem d_law_248 : decode code 248 = .ok (.iaload, 1) := by decide +kernel
theorem d_law_249 : decode code 249 = .ok (.aload_n 0, 1) := by decide +kernel
theorem d_law_250 : decode code 250 = .ok (.iload_n 3, 1) := by decide +kernel
theorem d_law_251 : decode code 251 = .ok (.iconst 4, 1) := by decide +kernel
theorem d_law_252 : decode code 252 = .ok (.iadd, 1) := by decide +kernel
theorem d_law_253 : decode code 253 = .ok (.iaload, 1) := by decide +kernel
theorem d_law_254 : decode code 254 = .ok (.aload_n 0, 1) := by decide +kernel
theorem d_law_255 : decode code 255 = .ok (.iload_n 3, 1) := by decide +kernel
theorem d_law_256 : decode code 256 = .ok (.iconst 5, 1) := by decide +kernel
theorem d_law_257 : decode code 257 = .ok (.iadd, 1) := by decide +kernel
theorem d_law_258 : decode code 258 = .ok (.iaload, 1) := by decide +kernel
theorem d_law_259 : decode code 259 = .ok (.invokevirtual 17, 3) := by decide +kernel
theorem d_law_262 : decode code 262 = .ok (.if_icmp .eq 979, 3) := by decide +kernel
theorem d_law_265 : decode code 265 = .ok (.iconst 0, 1) := by decide +kernel
theorem d_law_266 : decode code 266 = .ok (.ireturn, 1) := by decide +kernel
theorem d_law_267 : decode code 267 = .ok (.aload_n 1, 1) := by decide +kernel
theorem d_law_268 : decode code 268 = .ok (.aload_n 0, 1) := by decide +kernel
theorem d_law_269 : decode code 269 = .ok (.iload_n 3, 1) := by decide +kernel
theorem d_law_270 : decode code 270 = .ok (.iconst 1, 1) := by decide +kernel
theorem d_law_271 : decode code 271 = .ok (.iadd, 1) := by decide +kernel
theorem d_law_272 : decode code 272 = .ok (.iaload, 1) := by decide +kernel
theorem d_law_273 : decode code 273 = .ok (.invokevirtual 18, 3) := by decide +kernel
theorem d_law_276 : decode code 276 = .ok (.aload_n 2, 1) := by decide +kernel
theorem d_law_277 : decode code 277 = .ok (.aload_n 0, 1) := by decide +kernel
theorem d_law_278 : decode code 278 = .ok (.iload_n 3, 1) := by decide +kernel
theorem d_law_279 : decode code 279 = .ok (.iconst 1, 1) := by decide +kernel
theorem d_law_280 : decode code 280 = .ok (.iadd, 1) := by decide +kernel
theorem d_law_281 : decode code 281 = .ok (.iaload, 1) := by decide +kernel
theorem d_law_282 : decode code 282 = .ok (.invokevirtual 22, 3) := by decide +kernel
theorem d_law_285 : decode code 285 = .ok (.if_icmp .eq 956, 3) := by decide +kernel
theorem d_law_288 : decode code 288 = .ok (.iconst 0, 1) := by decide +kernel
theorem d_law_289 : decode code 289 = .ok (.ireturn, 1) := by decide +kernel
theorem d_law_290 : decode code 290 = .ok (.aload_n 1, 1) := by decide +kernel
theorem d_law_291 : decode code 291 = .ok (.invokevirtual 23, 3) := by decide +kernel
theorem d_law_294 : decode code 294 = .ok (.aload_n 2, 1) := by decide +kernel
theorem d_law_295 : decode code 295 = .ok (.invokevirtual 27, 3) := by decide +kernel
theorem d_law_298 : decode code 298 = .ok (.if_icmp .eq 943, 3) := by decide +kernel
theorem d_law_301 : decode code 301 = .ok (.iconst 0, 1) := by decide +kernel
theorem d_law_302 : decode code 302 = .ok (.ireturn, 1) := by decide +kernel
theorem d_law_303 : decode code 303 = .ok (.aload_n 1, 1) := by decide +kernel
theorem d_law_304 : decode code 304 = .ok (.aload_n 0, 1) := by decide +kernel
theorem d_law_305 : decode code 305 = .ok (.iload_n 3, 1) := by decide +kernel
theorem d_law_306 : decode code 306 = .ok (.iconst 1, 1) := by decide +kernel
theorem d_law_307 : decode code 307 = .ok (.iadd, 1) := by decide +kernel
theorem d_law_308 : decode code 308 = .ok (.iaload, 1) := by decide +kernel
theorem d_law_309 : decode code 309 = .ok (.invokevirtual 28, 3) := by decide +kernel
theorem d_law_312 : decode code 312 = .ok (.aload_n 2, 1) := by decide +kernel
theorem d_law_313 : decode code 313 = .ok (.aload_n 0, 1) := by decide +kernel
theorem d_law_314 : decode code 314 = .ok (.iload_n 3, 1) := by decide +kernel
theorem d_law_315 : decode code 315 = .ok (.iconst 1, 1) := by decide +kernel
theorem d_law_316 : decode code 316 = .ok (.iadd, 1) := by decide +kernel
theorem d_law_317 : decode code 317 = .ok (.iaload, 1) := by decide +kernel
theorem d_law_318 : decode code 318 = .ok (.invokevirtual 31, 3) := by decide +kernel
theorem d_law_321 : decode code 321 = .ok (.if_icmp .eq 920, 3) := by decide +kernel
theorem d_law_324 : decode code 324 = .ok (.iconst 0, 1) := by decide +kernel
theorem d_law_325 : decode code 325 = .ok (.ireturn, 1) := by decide +kernel
theorem d_law_326 : decode code 326 = .ok (.aload_n 1, 1) := by decide +kernel
theorem d_law_327 : decode code 327 = .ok (.aload_n 0, 1) := by decide +kernel
theorem d_law_328 : decode code 328 = .ok (.iload_n 3, 1) := by decide +kernel
theorem d_law_329 : decode code 329 = .ok (.iconst 1, 1) := by decide +kernel
theorem d_law_330 : decode code 330 = .ok (.iadd, 1) := by decide +kernel
theorem d_law_331 : decode code 331 = .ok (.iaload, 1) := by decide +kernel
theorem d_law_332 : decode code 332 = .ok (.invokevirtual 32, 3) := by decide +kernel
theorem d_law_335 : decode code 335 = .ok (.aload_n 2, 1) := by decide +kernel
theorem d_law_336 : decode code 336 = .ok (.aload_n 0, 1) := by decide +kernel
theorem d_law_337 : decode code 337 = .ok (.iload_n 3, 1) := by decide +kernel
theorem d_law_338 : decode code 338 = .ok (.iconst 1, 1) := by decide +kernel
theorem d_law_339 : decode code 339 = .ok (.iadd, 1) := by decide +kernel
theorem d_law_340 : decode code 340 = .ok (.iaload, 1) := by decide +kernel
theorem d_law_341 : decode code 341 = .ok (.invokevirtual 35, 3) := by decide +kernel
theorem d_law_344 : decode code 344 = .ok (.if_icmp .eq 897, 3) := by decide +kernel
theorem d_law_347 : decode code 347 = .ok (.iconst 0, 1) := by decide +kernel
theorem d_law_348 : decode code 348 = .ok (.ireturn, 1) := by decide +kernel
theorem d_law_349 : decode code 349 = .ok (.aload_n 1, 1) := by decide +kernel
theorem d_law_350 : decode code 350 = .ok (.aload_n 0, 1) := by decide +kernel
theorem d_law_351 : decode code 351 = .ok (.iload_n 3, 1) := by decide +kernel
theorem d_law_352 : decode code 352 = .ok (.iconst 1, 1) := by decide +kernel
theorem d_law_353 : decode code 353 = .ok (.iadd, 1) := by decide +kernel
theorem d_law_354 : decode code 354 = .ok (.iaload, 1) := by decide +kernel
theorem d_law_355 : decode code 355 = .ok (.aload_n 0, 1) := by decide +kernel
theorem d_law_356 : decode code 356 = .ok (.iload_n 3, 1) := by decide +kernel
theorem d_law_357 : decode code 357 = .ok (.iconst 2, 1) := by decide +kernel
theorem d_law_358 : decode code 358 = .ok (.iadd, 1) := by decide +kernel
theorem d_law_359 : decode code 359 = .ok (.iaload, 1) := by decide +kernel
theorem d_law_360 : decode code 360 = .ok (.aload_n 0, 1) := by decide +kernel
theorem d_law_361 : decode code 361 = .ok (.iload_n 3, 1) := by decide +kernel
theorem d_law_362 : decode code 362 = .ok (.iconst 3, 1) := by decide +kernel
theorem d_law_363 : decode code 363 = .ok (.iadd, 1) := by decide +kernel
theorem d_law_364 : decode code 364 = .ok (.iaload, 1) := by decide +kernel
theorem d_law_365 : decode code 365 = .ok (.invokevirtual 36, 3) := by decide +kernel
theorem d_law_368 : decode code 368 = .ok (.aload_n 2, 1) := by decide +kernel
theorem d_law_369 : decode code 369 = .ok (.aload_n 0, 1) := by decide +kernel
theorem d_law_370 : decode code 370 = .ok (.iload_n 3, 1) := by decide +kernel
theorem d_law_371 : decode code 371 = .ok (.iconst 1, 1) := by decide +kernel
theorem d_law_372 : decode code 372 = .ok (.iadd, 1) := by decide +kernel
theorem d_law_373 : decode code 373 = .ok (.iaload, 1) := by decide +kernel
theorem d_law_374 : decode code 374 = .ok (.aload_n 0, 1) := by decide +kernel
theorem d_law_375 : decode code 375 = .ok (.iload_n 3, 1) := by decide +kernel
theorem d_law_376 : decode code 376 = .ok (.iconst 2, 1) := by decide +kernel
theorem d_law_377 : decode code 377 = .ok (.iadd, 1) := by decide +kernel
theorem d_law_378 : decode code 378 = .ok (.iaload, 1) := by decide +kernel
theorem d_law_379 : decode code 379 = .ok (.aload_n 0, 1) := by decide +kernel
theorem d_law_380 : decode code 380 = .ok (.iload_n 3, 1) := by decide +kernel
theorem d_law_381 : decode code 381 = .ok (.iconst 3, 1) := by decide +kernel
theorem d_law_382 : decode code 382 = .ok (.iadd, 1) := by decide +kernel
theorem d_law_383 : decode code 383 = .ok (.iaload, 1) := by decide +kernel
theorem d_law_384 : decode code 384 = .ok (.invokevirtual 40, 3) := by decide +kernel
theorem d_law_387 : decode code 387 = .ok (.if_icmp .eq 854, 3) := by decide +kernel
theorem d_law_390 : decode code 390 = .ok (.iconst 0, 1) := by decide +kernel
theorem d_law_391 : decode code 391 = .ok (.ireturn, 1) := by decide +kernel
theorem d_law_392 : decode code 392 = .ok (.aload_n 1, 1) := by decide +kernel
theorem d_law_393 : decode code 393 = .ok (.aload_n 0, 1) := by decide +kernel
theorem d_law_394 : decode code 394 = .ok (.iload_n 3, 1) := by decide +kernel
theorem d_law_395 : decode code 395 = .ok (.iconst 1, 1) := by decide +kernel
theorem d_law_396 : decode code 396 = .ok (.iadd, 1) := by decide +kernel
theorem d_law_397 : decode code 397 = .ok (.iaload, 1) := by decide +kernel
theorem d_law_398 : decode code 398 = .ok (.invokevirtual 41, 3) := by decide +kernel
theorem d_law_401 : decode code 401 = .ok (.aload_n 2, 1) := by decide +kernel
theorem d_law_402 : decode code 402 = .ok (.aload_n 0, 1) := by decide +kernel
theorem d_law_403 : decode code 403 = .ok (.iload_n 3, 1) := by decide +kernel
theorem d_law_404 : decode code 404 = .ok (.iconst 1, 1) := by decide +kernel
theorem d_law_405 : decode code 405 = .ok (.iadd, 1) := by decide +kernel
theorem d_law_406 : decode code 406 = .ok (.iaload, 1) := by decide +kernel
theorem d_law_407 : decode code 407 = .ok (.invokevirtual 44, 3) := by decide +kernel
theorem d_law_410 : decode code 410 = .ok (.if_icmp .eq 831, 3) := by decide +kernel
theorem d_law_413 : decode code 413 = .ok (.iconst 0, 1) := by decide +kernel
theorem d_law_414 : decode code 414 = .ok (.ireturn, 1) := by decide +kernel
theorem d_law_415 : decode code 415 = .ok (.aload_n 1, 1) := by decide +kernel
theorem d_law_416 : decode code 416 = .ok (.aload_n 0, 1) := by decide +kernel
theorem d_law_417 : decode code 417 = .ok (.iload_n 3, 1) := by decide +kernel
theorem d_law_418 : decode code 418 = .ok (.iconst 1, 1) := by decide +kernel
theorem d_law_419 : decode code 419 = .ok (.iadd, 1) := by decide +kernel
theorem d_law_420 : decode code 420 = .ok (.iaload, 1) := by decide +kernel
theorem d_law_421 : decode code 421 = .ok (.invokevirtual 45, 3) := by decide +kernel
theorem d_law_424 : decode code 424 = .ok (.aload_n 2, 1) := by decide +kernel
theorem d_law_425 : decode code 425 = .ok (.aload_n 0, 1) := by decide +kernel
theorem d_law_426 : decode code 426 = .ok (.iload_n 3, 1) := by decide +kernel
theorem d_law_427 : decode code 427 = .ok (.iconst 1, 1) := by decide +kernel
theorem d_law_428 : decode code 428 = .ok (.iadd, 1) := by decide +kernel
theorem d_law_429 : decode code 429 = .ok (.iaload, 1) := by decide +kernel
theorem d_law_430 : decode code 430 = .ok (.invokevirtual 48, 3) := by decide +kernel
theorem d_law_433 : decode code 433 = .ok (.if_icmp .eq 808, 3) := by decide +kernel
theorem d_law_436 : decode code 436 = .ok (.iconst 0, 1) := by decide +kernel
theorem d_law_437 : decode code 437 = .ok (.ireturn, 1) := by decide +kernel
theorem d_law_438 : decode code 438 = .ok (.aload_n 1, 1) := by decide +kernel
theorem d_law_439 : decode code 439 = .ok (.aload_n 0, 1) := by decide +kernel
theorem d_law_440 : decode code 440 = .ok (.iload_n 3, 1) := by decide +kernel
theorem d_law_441 : decode code 441 = .ok (.iconst 1, 1) := by decide +kernel
theorem d_law_442 : decode code 442 = .ok (.iadd, 1) := by decide +kernel
theorem d_law_443 : decode code 443 = .ok (.iaload, 1) := by decide +kernel
theorem d_law_444 : decode code 444 = .ok (.invokevirtual 49, 3) := by decide +kernel
theorem d_law_447 : decode code 447 = .ok (.aload_n 2, 1) := by decide +kernel
theorem d_law_448 : decode code 448 = .ok (.aload_n 0, 1) := by decide +kernel
theorem d_law_449 : decode code 449 = .ok (.iload_n 3, 1) := by decide +kernel
theorem d_law_450 : decode code 450 = .ok (.iconst 1, 1) := by decide +kernel
theorem d_law_451 : decode code 451 = .ok (.iadd, 1) := by decide +kernel
theorem d_law_452 : decode code 452 = .ok (.iaload, 1) := by decide +kernel
theorem d_law_453 : decode code 453 = .ok (.invokevirtual 52, 3) := by decide +kernel
theorem d_law_456 : decode code 456 = .ok (.if_icmp .eq 785, 3) := by decide +kernel
theorem d_law_459 : decode code 459 = .ok (.iconst 0, 1) := by decide +kernel
theorem d_law_460 : decode code 460 = .ok (.ireturn, 1) := by decide +kernel
theorem d_law_461 : decode code 461 = .ok (.aload_n 1, 1) := by decide +kernel
theorem d_law_462 : decode code 462 = .ok (.aload_n 0, 1) := by decide +kernel
theorem d_law_463 : decode code 463 = .ok (.iload_n 3, 1) := by decide +kernel
theorem d_law_464 : decode code 464 = .ok (.iconst 1, 1) := by decide +kernel
theorem d_law_465 : decode code 465 = .ok (.iadd, 1) := by decide +kernel
theorem d_law_466 : decode code 466 = .ok (.iaload, 1) := by decide +kernel
theorem d_law_467 : decode code 467 = .ok (.invokevirtual 53, 3) := by decide +kernel
theorem d_law_470 : decode code 470 = .ok (.aload_n 2, 1) := by decide +kernel
theorem d_law_471 : decode code 471 = .ok (.aload_n 0, 1) := by decide +kernel
theorem d_law_472 : decode code 472 = .ok (.iload_n 3, 1) := by decide +kernel
theorem d_law_473 : decode code 473 = .ok (.iconst 1, 1) := by decide +kernel
theorem d_law_474 : decode code 474 = .ok (.iadd, 1) := by decide +kernel
theorem d_law_475 : decode code 475 = .ok (.iaload, 1) := by decide +kernel
theorem d_law_476 : decode code 476 = .ok (.invokevirtual 56, 3) := by decide +kernel
theorem d_law_479 : decode code 479 = .ok (.if_icmp .eq 762, 3) := by decide +kernel
theorem d_law_482 : decode code 482 = .ok (.iconst 0, 1) := by decide +kernel
theorem d_law_483 : decode code 483 = .ok (.ireturn, 1) := by decide +kernel
theorem d_law_484 : decode code 484 = .ok (.aload_n 1, 1) := by decide +kernel
theorem d_law_485 : decode code 485 = .ok (.aload_n 0, 1) := by decide +kernel
theorem d_law_486 : decode code 486 = .ok (.iload_n 3, 1) := by decide +kernel
theorem d_law_487 : decode code 487 = .ok (.iconst 1, 1) := by decide +kernel
theorem d_law_488 : decode code 488 = .ok (.iadd, 1) := by decide +kernel
theorem d_law_489 : decode code 489 = .ok (.iaload, 1) := by decide +kernel
theorem d_law_490 : decode code 490 = .ok (.invokevirtual 57, 3) := by decide +kernel
theorem d_law_493 : decode code 493 = .ok (.aload_n 2, 1) := by decide +kernel
theorem d_law_494 : decode code 494 = .ok (.aload_n 0, 1) := by decide +kernel
theorem d_law_495 : decode code 495 = .ok (.iload_n 3, 1) := by decide +kernel
theorem d_law_496 : decode code 496 = .ok (.iconst 1, 1) := by decide +kernel
theorem d_law_497 : decode code 497 = .ok (.iadd, 1) := by decide +kernel
theorem d_law_498 : decode code 498 = .ok (.iaload, 1) := by decide +kernel
theorem d_law_499 : decode code 499 = .ok (.invokevirtual 60, 3) := by decide +kernel
theorem d_law_502 : decode code 502 = .ok (.if_icmp .eq 739, 3) := by decide +kernel
theorem d_law_505 : decode code 505 = .ok (.iconst 0, 1) := by decide +kernel
theorem d_law_506 : decode code 506 = .ok (.ireturn, 1) := by decide +kernel
theorem d_law_507 : decode code 507 = .ok (.aload_n 1, 1) := by decide +kernel
theorem d_law_508 : decode code 508 = .ok (.aload_n 0, 1) := by decide +kernel
theorem d_law_509 : decode code 509 = .ok (.iload_n 3, 1) := by decide +kernel
theorem d_law_510 : decode code 510 = .ok (.iconst 1, 1) := by decide +kernel
theorem d_law_511 : decode code 511 = .ok (.iadd, 1) := by decide +kernel
theorem d_law_512 : decode code 512 = .ok (.iaload, 1) := by decide +kernel
theorem d_law_513 : decode code 513 = .ok (.invokevirtual 61, 3) := by decide +kernel
theorem d_law_516 : decode code 516 = .ok (.aload_n 2, 1) := by decide +kernel
theorem d_law_517 : decode code 517 = .ok (.aload_n 0, 1) := by decide +kernel
theorem d_law_518 : decode code 518 = .ok (.iload_n 3, 1) := by decide +kernel
theorem d_law_519 : decode code 519 = .ok (.iconst 1, 1) := by decide +kernel
theorem d_law_520 : decode code 520 = .ok (.iadd, 1) := by decide +kernel
theorem d_law_521 : decode code 521 = .ok (.iaload, 1) := by decide +kernel
theorem d_law_522 : decode code 522 = .ok (.invokevirtual 64, 3) := by decide +kernel
theorem d_law_525 : decode code 525 = .ok (.if_icmp .eq 716, 3) := by decide +kernel
theorem d_law_528 : decode code 528 = .ok (.iconst 0, 1) := by decide +kernel
theorem d_law_529 : decode code 529 = .ok (.ireturn, 1) := by decide +kernel
theorem d_law_530 : decode code 530 = .ok (.aload_n 1, 1) := by decide +kernel
theorem d_law_531 : decode code 531 = .ok (.aload_n 0, 1) := by decide +kernel
theorem d_law_532 : decode code 532 = .ok (.iload_n 3, 1) := by decide +kernel
theorem d_law_533 : decode code 533 = .ok (.iconst 1, 1) := by decide +kernel
theorem d_law_534 : decode code 534 = .ok (.iadd, 1) := by decide +kernel
theorem d_law_535 : decode code 535 = .ok (.iaload, 1) := by decide +kernel
theorem d_law_536 : decode code 536 = .ok (.aload_n 0, 1) := by decide +kernel
theorem d_law_537 : decode code 537 = .ok (.iload_n 3, 1) := by decide +kernel
theorem d_law_538 : decode code 538 = .ok (.iconst 2, 1) := by decide +kernel
theorem d_law_539 : decode code 539 = .ok (.iadd, 1) := by decide +kernel
theorem d_law_540 : decode code 540 = .ok (.iaload, 1) := by decide +kernel
theorem d_law_541 : decode code 541 = .ok (.invokevirtual 65, 3) := by decide +kernel
theorem d_law_544 : decode code 544 = .ok (.aload_n 2, 1) := by decide +kernel
theorem d_law_545 : decode code 545 = .ok (.aload_n 0, 1) := by decide +kernel
theorem d_law_546 : decode code 546 = .ok (.iload_n 3, 1) := by decide +kernel
theorem d_law_547 : decode code 547 = .ok (.iconst 1, 1) := by decide +kernel
theorem d_law_548 : decode code 548 = .ok (.iadd, 1) := by decide +kernel
theorem d_law_549 : decode code 549 = .ok (.iaload, 1) := by decide +kernel
theorem d_law_550 : decode code 550 = .ok (.aload_n 0, 1) := by decide +kernel
theorem d_law_551 : decode code 551 = .ok (.iload_n 3, 1) := by decide +kernel
theorem d_law_552 : decode code 552 = .ok (.iconst 2, 1) := by decide +kernel
theorem d_law_553 : decode code 553 = .ok (.iadd, 1) := by decide +kernel
theorem d_law_554 : decode code 554 = .ok (.iaload, 1) := by decide +kernel
theorem d_law_555 : decode code 555 = .ok (.invokevirtual 69, 3) := by decide +kernel
theorem d_law_558 : decode code 558 = .ok (.if_icmp .eq 683, 3) := by decide +kernel
theorem d_law_561 : decode code 561 = .ok (.iconst 0, 1) := by decide +kernel
theorem d_law_562 : decode code 562 = .ok (.ireturn, 1) := by decide +kernel
theorem d_law_563 : decode code 563 = .ok (.aload_n 1, 1) := by decide +kernel
theorem d_law_564 : decode code 564 = .ok (.aload_n 0, 1) := by decide +kernel
theorem d_law_565 : decode code 565 = .ok (.iload_n 3, 1) := by decide +kernel
theorem d_law_566 : decode code 566 = .ok (.iconst 1, 1) := by decide +kernel
theorem d_law_567 : decode code 567 = .ok (.iadd, 1) := by decide +kernel
theorem d_law_568 : decode code 568 = .ok (.iaload, 1) := by decide +kernel
theorem d_law_569 : decode code 569 = .ok (.invokevirtual 70, 3) := by decide +kernel
theorem d_law_572 : decode code 572 = .ok (.aload_n 2, 1) := by decide +kernel
theorem d_law_573 : decode code 573 = .ok (.aload_n 0, 1) := by decide +kernel
theorem d_law_574 : decode code 574 = .ok (.iload_n 3, 1) := by decide +kernel
theorem d_law_575 : decode code 575 = .ok (.iconst 1, 1) := by decide +kernel
theorem d_law_576 : decode code 576 = .ok (.iadd, 1) := by decide +kernel
theorem d_law_577 : decode code 577 = .ok (.iaload, 1) := by decide +kernel
theorem d_law_578 : decode code 578 = .ok (.invokevirtual 73, 3) := by decide +kernel
theorem d_law_581 : decode code 581 = .ok (.if_icmp .eq 660, 3) := by decide +kernel
theorem d_law_584 : decode code 584 = .ok (.iconst 0, 1) := by decide +kernel
theorem d_law_585 : decode code 585 = .ok (.ireturn, 1) := by decide +kernel
theorem d_law_586 : decode code 586 = .ok (.aload_n 1, 1) := by decide +kernel
theorem d_law_587 : decode code 587 = .ok (.aload_n 0, 1) := by decide +kernel
theorem d_law_588 : decode code 588 = .ok (.iload_n 3, 1) := by decide +kernel
theorem d_law_589 : decode code 589 = .ok (.iconst 1, 1) := by decide +kernel
theorem d_law_590 : decode code 590 = .ok (.iadd, 1) := by decide +kernel
theorem d_law_591 : decode code 591 = .ok (.iaload, 1) := by decide +kernel
theorem d_law_592 : decode code 592 = .ok (.invokevirtual 74, 3) := by decide +kernel
theorem d_law_595 : decode code 595 = .ok (.aload_n 2, 1) := by decide +kernel
theorem d_law_596 : decode code 596 = .ok (.aload_n 0, 1) := by decide +kernel
theorem d_law_597 : decode code 597 = .ok (.iload_n 3, 1) := by decide +kernel
theorem d_law_598 : decode code 598 = .ok (.iconst 1, 1) := by decide +kernel
theorem d_law_599 : decode code 599 = .ok (.iadd, 1) := by decide +kernel
theorem d_law_600 : decode code 600 = .ok (.iaload, 1) := by decide +kernel
theorem d_law_601 : decode code 601 = .ok (.invokevirtual 77, 3) := by decide +kernel
theorem d_law_604 : decode code 604 = .ok (.if_icmp .eq 637, 3) := by decide +kernel
theorem d_law_607 : decode code 607 = .ok (.iconst 0, 1) := by decide +kernel
theorem d_law_608 : decode code 608 = .ok (.ireturn, 1) := by decide +kernel
theorem d_law_609 : decode code 609 = .ok (.aload_n 1, 1) := by decide +kernel
theorem d_law_610 : decode code 610 = .ok (.aload_n 0, 1) := by decide +kernel
theorem d_law_611 : decode code 611 = .ok (.iload_n 3, 1) := by decide +kernel
theorem d_law_612 : decode code 612 = .ok (.iconst 1, 1) := by decide +kernel
theorem d_law_613 : decode code 613 = .ok (.iadd, 1) := by decide +kernel
theorem d_law_614 : decode code 614 = .ok (.iaload, 1) := by decide +kernel
theorem d_law_615 : decode code 615 = .ok (.invokevirtual 78, 3) := by decide +kernel
theorem d_law_618 : decode code 618 = .ok (.aload_n 2, 1) := by decide +kernel
theorem d_law_619 : decode code 619 = .ok (.aload_n 0, 1) := by decide +kernel
theorem d_law_620 : decode code 620 = .ok (.iload_n 3, 1) := by decide +kernel
theorem d_law_621 : decode code 621 = .ok (.iconst 1, 1) := by decide +kernel
theorem d_law_622 : decode code 622 = .ok (.iadd, 1) := by decide +kernel
theorem d_law_623 : decode code 623 = .ok (.iaload, 1) := by decide +kernel
theorem d_law_624 : decode code 624 = .ok (.invokevirtual 81, 3) := by decide +kernel
theorem d_law_627 : decode code 627 = .ok (.if_icmp .eq 614, 3) := by decide +kernel
theorem d_law_630 : decode code 630 = .ok (.iconst 0, 1) := by decide +kernel
theorem d_law_631 : decode code 631 = .ok (.ireturn, 1) := by decide +kernel
theorem d_law_632 : decode code 632 = .ok (.aload_n 1, 1) := by decide +kernel
theorem d_law_633 : decode code 633 = .ok (.aload_n 0, 1) := by decide +kernel
theorem d_law_634 : decode code 634 = .ok (.iload_n 3, 1) := by decide +kernel
theorem d_law_635 : decode code 635 = .ok (.iconst 1, 1) := by decide +kernel
theorem d_law_636 : decode code 636 = .ok (.iadd, 1) := by decide +kernel
theorem d_law_637 : decode code 637 = .ok (.iaload, 1) := by decide +kernel
theorem d_law_638 : decode code 638 = .ok (.invokevirtual 82, 3) := by decide +kernel
theorem d_law_641 : decode code 641 = .ok (.aload_n 2, 1) := by decide +kernel
theorem d_law_642 : decode code 642 = .ok (.aload_n 0, 1) := by decide +kernel
theorem d_law_643 : decode code 643 = .ok (.iload_n 3, 1) := by decide +kernel
theorem d_law_644 : decode code 644 = .ok (.iconst 1, 1) := by decide +kernel
theorem d_law_645 : decode code 645 = .ok (.iadd, 1) := by decide +kernel
theorem d_law_646 : decode code 646 = .ok (.iaload, 1) := by decide +kernel
theorem d_law_647 : decode code 647 = .ok (.invokevirtual 85, 3) := by decide +kernel
theorem d_law_650 : decode code 650 = .ok (.if_icmp .eq 591, 3) := by decide +kernel
theorem d_law_653 : decode code 653 = .ok (.iconst 0, 1) := by decide +kernel
theorem d_law_654 : decode code 654 = .ok (.ireturn, 1) := by decide +kernel
theorem d_law_655 : decode code 655 = .ok (.aload_n 1, 1) := by decide +kernel
theorem d_law_656 : decode code 656 = .ok (.aload_n 0, 1) := by decide +kernel
theorem d_law_657 : decode code 657 = .ok (.iload_n 3, 1) := by decide +kernel
theorem d_law_658 : decode code 658 = .ok (.iconst 1, 1) := by decide +kernel
theorem d_law_659 : decode code 659 = .ok (.iadd, 1) := by decide +kernel
theorem d_law_660 : decode code 660 = .ok (.iaload, 1) := by decide +kernel
theorem d_law_661 : decode code 661 = .ok (.aload_n 0, 1) := by decide +kernel
theorem d_law_662 : decode code 662 = .ok (.iload_n 3, 1) := by decide +kernel
theorem d_law_663 : decode code 663 = .ok (.iconst 2, 1) := by decide +kernel
theorem d_law_664 : decode code 664 = .ok (.iadd, 1) := by decide +kernel
theorem d_law_665 : decode code 665 = .ok (.iaload, 1) := by decide +kernel
theorem d_law_666 : decode code 666 = .ok (.invokevirtual 86, 3) := by decide +kernel
theorem d_law_669 : decode code 669 = .ok (.aload_n 2, 1) := by decide +kernel
theorem d_law_670 : decode code 670 = .ok (.aload_n 0, 1) := by decide +kernel
theorem d_law_671 : decode code 671 = .ok (.iload_n 3, 1) := by decide +kernel
theorem d_law_672 : decode code 672 = .ok (.iconst 1, 1) := by decide +kernel
theorem d_law_673 : decode code 673 = .ok (.iadd, 1) := by decide +kernel
theorem d_law_674 : decode code 674 = .ok (.iaload, 1) := by decide +kernel
theorem d_law_675 : decode code 675 = .ok (.aload_n 0, 1) := by decide +kernel
theorem d_law_676 : decode code 676 = .ok (.iload_n 3, 1) := by decide +kernel
theorem d_law_677 : decode code 677 = .ok (.iconst 2, 1) := by decide +kernel
theorem d_law_678 : decode code 678 = .ok (.iadd, 1) := by decide +kernel
theorem d_law_679 : decode code 679 = .ok (.iaload, 1) := by decide +kernel
theorem d_law_680 : decode code 680 = .ok (.invokevirtual 89, 3) := by decide +kernel
theorem d_law_683 : decode code 683 = .ok (.if_icmp .eq 558, 3) := by decide +kernel
theorem d_law_686 : decode code 686 = .ok (.iconst 0, 1) := by decide +kernel
theorem d_law_687 : decode code 687 = .ok (.ireturn, 1) := by decide +kernel
theorem d_law_688 : decode code 688 = .ok (.aload_n 1, 1) := by decide +kernel
theorem d_law_689 : decode code 689 = .ok (.aload_n 0, 1) := by decide +kernel
theorem d_law_690 : decode code 690 = .ok (.iload_n 3, 1) := by decide +kernel
theorem d_law_691 : decode code 691 = .ok (.iconst 1, 1) := by decide +kernel
theorem d_law_692 : decode code 692 = .ok (.iadd, 1) := by decide +kernel
theorem d_law_693 : decode code 693 = .ok (.iaload, 1) := by decide +kernel
theorem d_law_694 : decode code 694 = .ok (.aload_n 0, 1) := by decide +kernel
theorem d_law_695 : decode code 695 = .ok (.iload_n 3, 1) := by decide +kernel
theorem d_law_696 : decode code 696 = .ok (.iconst 2, 1) := by decide +kernel
theorem d_law_697 : decode code 697 = .ok (.iadd, 1) := by decide +kernel
theorem d_law_698 : decode code 698 = .ok (.iaload, 1) := by decide +kernel
theorem d_law_699 : decode code 699 = .ok (.invokevirtual 90, 3) := by decide +kernel
theorem d_law_702 : decode code 702 = .ok (.aload_n 2, 1) := by decide +kernel
theorem d_law_703 : decode code 703 = .ok (.aload_n 0, 1) := by decide +kernel
theorem d_law_704 : decode code 704 = .ok (.iload_n 3, 1) := by decide +kernel
theorem d_law_705 : decode code 705 = .ok (.iconst 1, 1) := by decide +kernel
theorem d_law_706 : decode code 706 = .ok (.iadd, 1) := by decide +kernel
theorem d_law_707 : decode code 707 = .ok (.iaload, 1) := by decide +kernel
theorem d_law_708 : decode code 708 = .ok (.aload_n 0, 1) := by decide +kernel
theorem d_law_709 : decode code 709 = .ok (.iload_n 3, 1) := by decide +kernel
theorem d_law_710 : decode code 710 = .ok (.iconst 2, 1) := by decide +kernel
theorem d_law_711 : decode code 711 = .ok (.iadd, 1) := by decide +kernel
theorem d_law_712 : decode code 712 = .ok (.iaload, 1) := by decide +kernel
theorem d_law_713 : decode code 713 = .ok (.invokevirtual 93, 3) := by decide +kernel
theorem d_law_716 : decode code 716 = .ok (.if_icmp .eq 525, 3) := by decide +kernel
theorem d_law_719 : decode code 719 = .ok (.iconst 0, 1) := by decide +kernel
theorem d_law_720 : decode code 720 = .ok (.ireturn, 1) := by decide +kernel
theorem d_law_721 : decode code 721 = .ok (.aload_n 1, 1) := by decide +kernel
theorem d_law_722 : decode code 722 = .ok (.aload_n 0, 1) := by decide +kernel
theorem d_law_723 : decode code 723 = .ok (.iload_n 3, 1) := by decide +kernel
theorem d_law_724 : decode code 724 = .ok (.iconst 1, 1) := by decide +kernel
theorem d_law_725 : decode code 725 = .ok (.iadd, 1) := by decide +kernel
theorem d_law_726 : decode code 726 = .ok (.iaload, 1) := by decide +kernel
theorem d_law_727 : decode code 727 = .ok (.invokevirtual 94, 3) := by decide +kernel
theorem d_law_730 : decode code 730 = .ok (.aload_n 2, 1) := by decide +kernel
theorem d_law_731 : decode code 731 = .ok (.aload_n 0, 1) := by decide +kernel
theorem d_law_732 : decode code 732 = .ok (.iload_n 3, 1) := by decide +kernel
theorem d_law_733 : decode code 733 = .ok (.iconst 1, 1) := by decide +kernel
theorem d_law_734 : decode code 734 = .ok (.iadd, 1) := by decide +kernel
theorem d_law_735 : decode code 735 = .ok (.iaload, 1) := by decide +kernel
theorem d_law_736 : decode code 736 = .ok (.invokevirtual 97, 3) := by decide +kernel
theorem d_law_739 : decode code 739 = .ok (.if_icmp .eq 502, 3) := by decide +kernel
theorem d_law_742 : decode code 742 = .ok (.iconst 0, 1) := by decide +kernel
theorem d_law_743 : decode code 743 = .ok (.ireturn, 1) := by decide +kernel
theorem d_law_744 : decode code 744 = .ok (.aload_n 1, 1) := by decide +kernel
theorem d_law_745 : decode code 745 = .ok (.aload_n 0, 1) := by decide +kernel
theorem d_law_746 : decode code 746 = .ok (.iload_n 3, 1) := by decide +kernel
theorem d_law_747 : decode code 747 = .ok (.iconst 1, 1) := by decide +kernel
theorem d_law_748 : decode code 748 = .ok (.iadd, 1) := by decide +kernel
theorem d_law_749 : decode code 749 = .ok (.iaload, 1) := by decide +kernel
theorem d_law_750 : decode code 750 = .ok (.invokevirtual 98, 3) := by decide +kernel
theorem d_law_753 : decode code 753 = .ok (.aload_n 2, 1) := by decide +kernel
theorem d_law_754 : decode code 754 = .ok (.aload_n 0, 1) := by decide +kernel
theorem d_law_755 : decode code 755 = .ok (.iload_n 3, 1) := by decide +kernel
theorem d_law_756 : decode code 756 = .ok (.iconst 1, 1) := by decide +kernel
theorem d_law_757 : decode code 757 = .ok (.iadd, 1) := by decide +kernel
theorem d_law_758 : decode code 758 = .ok (.iaload, 1) := by decide +kernel
theorem d_law_759 : decode code 759 = .ok (.invokevirtual 101, 3) := by decide +kernel
theorem d_law_762 : decode code 762 = .ok (.if_icmp .eq 479, 3) := by decide +kernel
theorem d_law_765 : decode code 765 = .ok (.iconst 0, 1) := by decide +kernel
theorem d_law_766 : decode code 766 = .ok (.ireturn, 1) := by decide +kernel
theorem d_law_767 : decode code 767 = .ok (.aload_n 1, 1) := by decide +kernel
theorem d_law_768 : decode code 768 = .ok (.aload_n 0, 1) := by decide +kernel
theorem d_law_769 : decode code 769 = .ok (.iload_n 3, 1) := by decide +kernel
theorem d_law_770 : decode code 770 = .ok (.iconst 1, 1) := by decide +kernel
theorem d_law_771 : decode code 771 = .ok (.iadd, 1) := by decide +kernel
theorem d_law_772 : decode code 772 = .ok (.iaload, 1) := by decide +kernel
theorem d_law_773 : decode code 773 = .ok (.invokevirtual 102, 3) := by decide +kernel
theorem d_law_776 : decode code 776 = .ok (.aload_n 2, 1) := by decide +kernel
theorem d_law_777 : decode code 777 = .ok (.aload_n 0, 1) := by decide +kernel
theorem d_law_778 : decode code 778 = .ok (.iload_n 3, 1) := by decide +kernel
theorem d_law_779 : decode code 779 = .ok (.iconst 1, 1) := by decide +kernel
theorem d_law_780 : decode code 780 = .ok (.iadd, 1) := by decide +kernel
theorem d_law_781 : decode code 781 = .ok (.iaload, 1) := by decide +kernel
theorem d_law_782 : decode code 782 = .ok (.invokevirtual 105, 3) := by decide +kernel
theorem d_law_785 : decode code 785 = .ok (.if_icmp .eq 456, 3) := by decide +kernel
theorem d_law_788 : decode code 788 = .ok (.iconst 0, 1) := by decide +kernel
theorem d_law_789 : decode code 789 = .ok (.ireturn, 1) := by decide +kernel
theorem d_law_790 : decode code 790 = .ok (.aload_n 1, 1) := by decide +kernel
theorem d_law_791 : decode code 791 = .ok (.aload_n 0, 1) := by decide +kernel
theorem d_law_792 : decode code 792 = .ok (.iload_n 3, 1) := by decide +kernel
theorem d_law_793 : decode code 793 = .ok (.iconst 1, 1) := by decide +kernel
theorem d_law_794 : decode code 794 = .ok (.iadd, 1) := by decide +kernel
theorem d_law_795 : decode code 795 = .ok (.iaload, 1) := by decide +kernel
theorem d_law_796 : decode code 796 = .ok (.aload_n 0, 1) := by decide +kernel
theorem d_law_797 : decode code 797 = .ok (.iload_n 3, 1) := by decide +kernel
theorem d_law_798 : decode code 798 = .ok (.iconst 2, 1) := by decide +kernel
theorem d_law_799 : decode code 799 = .ok (.iadd, 1) := by decide +kernel
theorem d_law_800 : decode code 800 = .ok (.iaload, 1) := by decide +kernel
theorem d_law_801 : decode code 801 = .ok (.invokevirtual 106, 3) := by decide +kernel
theorem d_law_804 : decode code 804 = .ok (.aload_n 2, 1) := by decide +kernel
theorem d_law_805 : decode code 805 = .ok (.aload_n 0, 1) := by decide +kernel
theorem d_law_806 : decode code 806 = .ok (.iload_n 3, 1) := by decide +kernel
theorem d_law_807 : decode code 807 = .ok (.iconst 1, 1) := by decide +kernel
theorem d_law_808 : decode code 808 = .ok (.iadd, 1) := by decide +kernel
theorem d_law_809 : decode code 809 = .ok (.iaload, 1) := by decide +kernel
theorem d_law_810 : decode code 810 = .ok (.aload_n 0, 1) := by decide +kernel
theorem d_law_811 : decode code 811 = .ok (.iload_n 3, 1) := by decide +kernel
theorem d_law_812 : decode code 812 = .ok (.iconst 2, 1) := by decide +kernel
theorem d_law_813 : decode code 813 = .ok (.iadd, 1) := by decide +kernel
theorem d_law_814 : decode code 814 = .ok (.iaload, 1) := by decide +kernel
theorem d_law_815 : decode code 815 = .ok (.invokevirtual 109, 3) := by decide +kernel
theorem d_law_818 : decode code 818 = .ok (.if_icmp .eq 423, 3) := by decide +kernel
theorem d_law_821 : decode code 821 = .ok (.iconst 0, 1) := by decide +kernel
theorem d_law_822 : decode code 822 = .ok (.ireturn, 1) := by decide +kernel
theorem d_law_823 : decode code 823 = .ok (.aload_n 1, 1) := by decide +kernel
theorem d_law_824 : decode code 824 = .ok (.invokevirtual 110, 3) := by decide +kernel
theorem d_law_827 : decode code 827 = .ok (.aload_n 2, 1) := by decide +kernel
theorem d_law_828 : decode code 828 = .ok (.invokevirtual 113, 3) := by decide +kernel
theorem d_law_831 : decode code 831 = .ok (.if_icmp .eq 410, 3) := by decide +kernel
theorem d_law_834 : decode code 834 = .ok (.iconst 0, 1) := by decide +kernel
theorem d_law_835 : decode code 835 = .ok (.ireturn, 1) := by decide +kernel
theorem d_law_836 : decode code 836 = .ok (.aload_n 1, 1) := by decide +kernel
theorem d_law_837 : decode code 837 = .ok (.aload_n 0, 1) := by decide +kernel
theorem d_law_838 : decode code 838 = .ok (.iload_n 3, 1) := by decide +kernel
theorem d_law_839 : decode code 839 = .ok (.iconst 1, 1) := by decide +kernel
theorem d_law_840 : decode code 840 = .ok (.iadd, 1) := by decide +kernel
theorem d_law_841 : decode code 841 = .ok (.iaload, 1) := by decide +kernel
theorem d_law_842 : decode code 842 = .ok (.aload_n 0, 1) := by decide +kernel
theorem d_law_843 : decode code 843 = .ok (.iload_n 3, 1) := by decide +kernel
theorem d_law_844 : decode code 844 = .ok (.iconst 2, 1) := by decide +kernel
theorem d_law_845 : decode code 845 = .ok (.iadd, 1) := by decide +kernel
theorem d_law_846 : decode code 846 = .ok (.iaload, 1) := by decide +kernel
theorem d_law_847 : decode code 847 = .ok (.invokevirtual 114, 3) := by decide +kernel
theorem d_law_850 : decode code 850 = .ok (.aload_n 2, 1) := by decide +kernel
theorem d_law_851 : decode code 851 = .ok (.aload_n 0, 1) := by decide +kernel
theorem d_law_852 : decode code 852 = .ok (.iload_n 3, 1) := by decide +kernel
theorem d_law_853 : decode code 853 = .ok (.iconst 1, 1) := by decide +kernel
theorem d_law_854 : decode code 854 = .ok (.iadd, 1) := by decide +kernel
theorem d_law_855 : decode code 855 = .ok (.iaload, 1) := by decide +kernel
theorem d_law_856 : decode code 856 = .ok (.aload_n 0, 1) := by decide +kernel
theorem d_law_857 : decode code 857 = .ok (.iload_n 3, 1) := by decide +kernel
theorem d_law_858 : decode code 858 = .ok (.iconst 2, 1) := by decide +kernel
theorem d_law_859 : decode code 859 = .ok (.iadd, 1) := by decide +kernel
theorem d_law_860 : decode code 860 = .ok (.iaload, 1) := by decide +kernel
theorem d_law_861 : decode code 861 = .ok (.invokevirtual 117, 3) := by decide +kernel
theorem d_law_864 : decode code 864 = .ok (.if_icmp .eq 377, 3) := by decide +kernel
theorem d_law_867 : decode code 867 = .ok (.iconst 0, 1) := by decide +kernel
theorem d_law_868 : decode code 868 = .ok (.ireturn, 1) := by decide +kernel
theorem d_law_869 : decode code 869 = .ok (.aload_n 1, 1) := by decide +kernel
theorem d_law_870 : decode code 870 = .ok (.aload_n 0, 1) := by decide +kernel
theorem d_law_871 : decode code 871 = .ok (.iload_n 3, 1) := by decide +kernel
theorem d_law_872 : decode code 872 = .ok (.iconst 1, 1) := by decide +kernel
theorem d_law_873 : decode code 873 = .ok (.iadd, 1) := by decide +kernel
theorem d_law_874 : decode code 874 = .ok (.iaload, 1) := by decide +kernel
theorem d_law_875 : decode code 875 = .ok (.invokevirtual 118, 3) := by decide +kernel
theorem d_law_878 : decode code 878 = .ok (.aload_n 2, 1) := by decide +kernel
theorem d_law_879 : decode code 879 = .ok (.aload_n 0, 1) := by decide +kernel
theorem d_law_880 : decode code 880 = .ok (.iload_n 3, 1) := by decide +kernel
theorem d_law_881 : decode code 881 = .ok (.iconst 1, 1) := by decide +kernel
theorem d_law_882 : decode code 882 = .ok (.iadd, 1) := by decide +kernel
theorem d_law_883 : decode code 883 = .ok (.iaload, 1) := by decide +kernel
theorem d_law_884 : decode code 884 = .ok (.invokevirtual 121, 3) := by decide +kernel
theorem d_law_887 : decode code 887 = .ok (.if_icmp .eq 354, 3) := by decide +kernel
theorem d_law_890 : decode code 890 = .ok (.iconst 0, 1) := by decide +kernel
theorem d_law_891 : decode code 891 = .ok (.ireturn, 1) := by decide +kernel
theorem d_law_892 : decode code 892 = .ok (.aload_n 1, 1) := by decide +kernel
theorem d_law_893 : decode code 893 = .ok (.aload_n 0, 1) := by decide +kernel
theorem d_law_894 : decode code 894 = .ok (.iload_n 3, 1) := by decide +kernel
theorem d_law_895 : decode code 895 = .ok (.iconst 1, 1) := by decide +kernel
theorem d_law_896 : decode code 896 = .ok (.iadd, 1) := by decide +kernel
theorem d_law_897 : decode code 897 = .ok (.iaload, 1) := by decide +kernel
theorem d_law_898 : decode code 898 = .ok (.invokevirtual 122, 3) := by decide +kernel
theorem d_law_901 : decode code 901 = .ok (.aload_n 2, 1) := by decide +kernel
theorem d_law_902 : decode code 902 = .ok (.aload_n 0, 1) := by decide +kernel
theorem d_law_903 : decode code 903 = .ok (.iload_n 3, 1) := by decide +kernel
theorem d_law_904 : decode code 904 = .ok (.iconst 1, 1) := by decide +kernel
theorem d_law_905 : decode code 905 = .ok (.iadd, 1) := by decide +kernel
theorem d_law_906 : decode code 906 = .ok (.iaload, 1) := by decide +kernel
theorem d_law_907 : decode code 907 = .ok (.invokevirtual 125, 3) := by decide +kernel
theorem d_law_910 : decode code 910 = .ok (.if_icmp .eq 331, 3) := by decide +kernel
theorem d_law_913 : decode code 913 = .ok (.iconst 0, 1) := by decide +kernel
theorem d_law_914 : decode code 914 = .ok (.ireturn, 1) := by decide +kernel
theorem d_law_915 : decode code 915 = .ok (.aload_n 1, 1) := by decide +kernel
theorem d_law_916 : decode code 916 = .ok (.aload_n 0, 1) := by decide +kernel
theorem d_law_917 : decode code 917 = .ok (.iload_n 3, 1) := by decide +kernel
theorem d_law_918 : decode code 918 = .ok (.iconst 1, 1) := by decide +kernel
theorem d_law_919 : decode code 919 = .ok (.iadd, 1) := by decide +kernel
theorem d_law_920 : decode code 920 = .ok (.iaload, 1) := by decide +kernel
theorem d_law_921 : decode code 921 = .ok (.invokevirtual 126, 3) := by decide +kernel
theorem d_law_924 : decode code 924 = .ok (.aload_n 2, 1) := by decide +kernel
theorem d_law_925 : decode code 925 = .ok (.aload_n 0, 1) := by decide +kernel
theorem d_law_926 : decode code 926 = .ok (.iload_n 3, 1) := by decide +kernel
theorem d_law_927 : decode code 927 = .ok (.iconst 1, 1) := by decide +kernel
theorem d_law_928 : decode code 928 = .ok (.iadd, 1) := by decide +kernel
theorem d_law_929 : decode code 929 = .ok (.iaload, 1) := by decide +kernel
theorem d_law_930 : decode code 930 = .ok (.invokevirtual 129, 3) := by decide +kernel
theorem d_law_933 : decode code 933 = .ok (.if_icmp .eq 308, 3) := by decide +kernel
theorem d_law_936 : decode code 936 = .ok (.iconst 0, 1) := by decide +kernel
theorem d_law_937 : decode code 937 = .ok (.ireturn, 1) := by decide +kernel
theorem d_law_938 : decode code 938 = .ok (.aload_n 1, 1) := by decide +kernel
theorem d_law_939 : decode code 939 = .ok (.aload_n 0, 1) := by decide +kernel
theorem d_law_940 : decode code 940 = .ok (.iload_n 3, 1) := by decide +kernel
theorem d_law_941 : decode code 941 = .ok (.iconst 1, 1) := by decide +kernel
theorem d_law_942 : decode code 942 = .ok (.iadd, 1) := by decide +kernel
theorem d_law_943 : decode code 943 = .ok (.iaload, 1) := by decide +kernel
theorem d_law_944 : decode code 944 = .ok (.aload_n 0, 1) := by decide +kernel
theorem d_law_945 : decode code 945 = .ok (.iload_n 3, 1) := by decide +kernel
theorem d_law_946 : decode code 946 = .ok (.iconst 2, 1) := by decide +kernel
theorem d_law_947 : decode code 947 = .ok (.iadd, 1) := by decide +kernel
theorem d_law_948 : decode code 948 = .ok (.iaload, 1) := by decide +kernel
theorem d_law_949 : decode code 949 = .ok (.invokevirtual 130, 3) := by decide +kernel
theorem d_law_952 : decode code 952 = .ok (.aload_n 2, 1) := by decide +kernel
theorem d_law_953 : decode code 953 = .ok (.aload_n 0, 1) := by decide +kernel
theorem d_law_954 : decode code 954 = .ok (.iload_n 3, 1) := by decide +kernel
theorem d_law_955 : decode code 955 = .ok (.iconst 1, 1) := by decide +kernel
theorem d_law_956 : decode code 956 = .ok (.iadd, 1) := by decide +kernel
theorem d_law_957 : decode code 957 = .ok (.iaload, 1) := by decide +kernel
theorem d_law_958 : decode code 958 = .ok (.aload_n 0, 1) := by decide +kernel
theorem d_law_959 : decode code 959 = .ok (.iload_n 3, 1) := by decide +kernel
theorem d_law_960 : decode code 960 = .ok (.iconst 2, 1) := by decide +kernel
theorem d_law_961 : decode code 961 = .ok (.iadd, 1) := by decide +kernel
theorem d_law_962 : decode code 962 = .ok (.iaload, 1) := by decide +kernel
theorem d_law_963 : decode code 963 = .ok (.invokevirtual 133, 3) := by decide +kernel
theorem d_law_966 : decode code 966 = .ok (.if_icmp .eq 275, 3) := by decide +kernel
theorem d_law_969 : decode code 969 = .ok (.iconst 0, 1) := by decide +kernel
theorem d_law_970 : decode code 970 = .ok (.ireturn, 1) := by decide +kernel
theorem d_law_971 : decode code 971 = .ok (.aload_n 1, 1) := by decide +kernel
theorem d_law_972 : decode code 972 = .ok (.aload_n 0, 1) := by decide +kernel
theorem d_law_973 : decode code 973 = .ok (.iload_n 3, 1) := by decide +kernel
theorem d_law_974 : decode code 974 = .ok (.iconst 1, 1) := by decide +kernel
theorem d_law_975 : decode code 975 = .ok (.iadd, 1) := by decide +kernel
theorem d_law_976 : decode code 976 = .ok (.iaload, 1) := by decide +kernel
theorem d_law_977 : decode code 977 = .ok (.invokevirtual 134, 3) := by decide +kernel
theorem d_law_980 : decode code 980 = .ok (.aload_n 2, 1) := by decide +kernel
theorem d_law_981 : decode code 981 = .ok (.aload_n 0, 1) := by decide +kernel
theorem d_law_982 : decode code 982 = .ok (.iload_n 3, 1) := by decide +kernel
theorem d_law_983 : decode code 983 = .ok (.iconst 1, 1) := by decide +kernel
theorem d_law_984 : decode code 984 = .ok (.iadd, 1) := by decide +kernel
theorem d_law_985 : decode code 985 = .ok (.iaload, 1) := by decide +kernel
theorem d_law_986 : decode code 986 = .ok (.invokevirtual 137, 3) := by decide +kernel
theorem d_law_989 : decode code 989 = .ok (.if_icmp .eq 252, 3) := by decide +kernel
theorem d_law_992 : decode code 992 = .ok (.iconst 0, 1) := by decide +kernel
theorem d_law_993 : decode code 993 = .ok (.ireturn, 1) := by decide +kernel
theorem d_law_994 : decode code 994 = .ok (.aload_n 1, 1) := by decide +kernel
theorem d_law_995 : decode code 995 = .ok (.aload_n 0, 1) := by decide +kernel
theorem d_law_996 : decode code 996 = .ok (.iload_n 3, 1) := by decide +kernel
theorem d_law_997 : decode code 997 = .ok (.iconst 1, 1) := by decide +kernel
theorem d_law_998 : decode code 998 = .ok (.iadd, 1) := by decide +kernel
theorem d_law_999 : decode code 999 = .ok (.iaload, 1) := by decide +kernel
theorem d_law_1000 : decode code 1000 = .ok (.invokevirtual 138, 3) := by decide +kernel
theorem d_law_1003 : decode code 1003 = .ok (.aload_n 2, 1) := by decide +kernel
theorem d_law_1004 : decode code 1004 = .ok (.aload_n 0, 1) := by decide +kernel
theorem d_law_1005 : decode code 1005 = .ok (.iload_n 3, 1) := by decide +kernel
theorem d_law_1006 : decode code 1006 = .ok (.iconst 1, 1) := by decide +kernel
theorem d_law_1007 : decode code 1007 = .ok (.iadd, 1) := by decide +kernel
theorem d_law_1008 : decode code 1008 = .ok (.iaload, 1) := by decide +kernel
theorem d_law_1009 : decode code 1009 = .ok (.invokevirtual 141, 3) := by decide +kernel
theorem d_law_1012 : decode code 1012 = .ok (.if_icmp .eq 229, 3) := by decide +kernel
theorem d_law_1015 : decode code 1015 = .ok (.iconst 0, 1) := by decide +kernel
theorem d_law_1016 : decode code 1016 = .ok (.ireturn, 1) := by decide +kernel
theorem d_law_1017 : decode code 1017 = .ok (.aload_n 1, 1) := by decide +kernel
theorem d_law_1018 : decode code 1018 = .ok (.aload_n 0, 1) := by decide +kernel
theorem d_law_1019 : decode code 1019 = .ok (.iload_n 3, 1) := by decide +kernel
theorem d_law_1020 : decode code 1020 = .ok (.iconst 1, 1) := by decide +kernel
theorem d_law_1021 : decode code 1021 = .ok (.iadd, 1) := by decide +kernel
theorem d_law_1022 : decode code 1022 = .ok (.iaload, 1) := by decide +kernel
theorem d_law_1023 : decode code 1023 = .ok (.aload_n 0, 1) := by decide +kernel
theorem d_law_1024 : decode code 1024 = .ok (.iload_n 3, 1) := by decide +kernel
theorem d_law_1025 : decode code 1025 = .ok (.iconst 2, 1) := by decide +kernel
theorem d_law_1026 : decode code 1026 = .ok (.iadd, 1) := by decide +kernel
theorem d_law_1027 : decode code 1027 = .ok (.iaload, 1) := by decide +kernel
theorem d_law_1028 : decode code 1028 = .ok (.invokevirtual 142, 3) := by decide +kernel
theorem d_law_1031 : decode code 1031 = .ok (.aload_n 2, 1) := by decide +kernel
theorem d_law_1032 : decode code 1032 = .ok (.aload_n 0, 1) := by decide +kernel
theorem d_law_1033 : decode code 1033 = .ok (.iload_n 3, 1) := by decide +kernel
theorem d_law_1034 : decode code 1034 = .ok (.iconst 1, 1) := by decide +kernel
theorem d_law_1035 : decode code 1035 = .ok (.iadd, 1) := by decide +kernel
theorem d_law_1036 : decode code 1036 = .ok (.iaload, 1) := by decide +kernel
theorem d_law_1037 : decode code 1037 = .ok (.aload_n 0, 1) := by decide +kernel
theorem d_law_1038 : decode code 1038 = .ok (.iload_n 3, 1) := by decide +kernel
theorem d_law_1039 : decode code 1039 = .ok (.iconst 2, 1) := by decide +kernel
theorem d_law_1040 : decode code 1040 = .ok (.iadd, 1) := by decide +kernel
theorem d_law_1041 : decode code 1041 = .ok (.iaload, 1) := by decide +kernel
theorem d_law_1042 : decode code 1042 = .ok (.invokevirtual 145, 3) := by decide +kernel
theorem d_law_1045 : decode code 1045 = .ok (.if_icmp .eq 196, 3) := by decide +kernel
theorem d_law_1048 : decode code 1048 = .ok (.iconst 0, 1) := by decide +kernel
theorem d_law_1049 : decode code 1049 = .ok (.ireturn, 1) := by decide +kernel
theorem d_law_1050 : decode code 1050 = .ok (.aload_n 1, 1) := by decide +kernel
theorem d_law_1051 : decode code 1051 = .ok (.invokevirtual 146, 3) := by decide +kernel
theorem d_law_1054 : decode code 1054 = .ok (.aload_n 2, 1) := by decide +kernel
theorem d_law_1055 : decode code 1055 = .ok (.invokevirtual 149, 3) := by decide +kernel
theorem d_law_1058 : decode code 1058 = .ok (.if_icmp .eq 183, 3) := by decide +kernel
theorem d_law_1061 : decode code 1061 = .ok (.iconst 0, 1) := by decide +kernel
theorem d_law_1062 : decode code 1062 = .ok (.ireturn, 1) := by decide +kernel
theorem d_law_1063 : decode code 1063 = .ok (.aload_n 1, 1) := by decide +kernel
theorem d_law_1064 : decode code 1064 = .ok (.aload_n 0, 1) := by decide +kernel
theorem d_law_1065 : decode code 1065 = .ok (.iload_n 3, 1) := by decide +kernel
theorem d_law_1066 : decode code 1066 = .ok (.iconst 1, 1) := by decide +kernel
theorem d_law_1067 : decode code 1067 = .ok (.iadd, 1) := by decide +kernel
theorem d_law_1068 : decode code 1068 = .ok (.iaload, 1) := by decide +kernel
theorem d_law_1069 : decode code 1069 = .ok (.invokevirtual 150, 3) := by decide +kernel
theorem d_law_1072 : decode code 1072 = .ok (.aload_n 2, 1) := by decide +kernel
theorem d_law_1073 : decode code 1073 = .ok (.aload_n 0, 1) := by decide +kernel
theorem d_law_1074 : decode code 1074 = .ok (.iload_n 3, 1) := by decide +kernel
theorem d_law_1075 : decode code 1075 = .ok (.iconst 1, 1) := by decide +kernel
theorem d_law_1076 : decode code 1076 = .ok (.iadd, 1) := by decide +kernel
theorem d_law_1077 : decode code 1077 = .ok (.iaload, 1) := by decide +kernel
theorem d_law_1078 : decode code 1078 = .ok (.invokevirtual 153, 3) := by decide +kernel
theorem d_law_1081 : decode code 1081 = .ok (.if_icmp .eq 160, 3) := by decide +kernel
theorem d_law_1084 : decode code 1084 = .ok (.iconst 0, 1) := by decide +kernel
theorem d_law_1085 : decode code 1085 = .ok (.ireturn, 1) := by decide +kernel
theorem d_law_1086 : decode code 1086 = .ok (.aload_n 1, 1) := by decide +kernel
theorem d_law_1087 : decode code 1087 = .ok (.aload_n 0, 1) := by decide +kernel
theorem d_law_1088 : decode code 1088 = .ok (.iload_n 3, 1) := by decide +kernel
theorem d_law_1089 : decode code 1089 = .ok (.iconst 1, 1) := by decide +kernel
theorem d_law_1090 : decode code 1090 = .ok (.iadd, 1) := by decide +kernel
theorem d_law_1091 : decode code 1091 = .ok (.iaload, 1) := by decide +kernel
theorem d_law_1092 : decode code 1092 = .ok (.aload_n 0, 1) := by decide +kernel
theorem d_law_1093 : decode code 1093 = .ok (.iload_n 3, 1) := by decide +kernel
theorem d_law_1094 : decode code 1094 = .ok (.iconst 2, 1) := by decide +kernel
theorem d_law_1095 : decode code 1095 = .ok (.iadd, 1) := by decide +kernel
theorem d_law_1096 : decode code 1096 = .ok (.iaload, 1) := by decide +kernel
theorem d_law_1097 : decode code 1097 = .ok (.aload_n 0, 1) := by decide +kernel
theorem d_law_1098 : decode code 1098 = .ok (.iload_n 3, 1) := by decide +kernel
theorem d_law_1099 : decode code 1099 = .ok (.iconst 3, 1) := by decide +kernel
theorem d_law_1100 : decode code 1100 = .ok (.iadd, 1) := by decide +kernel
theorem d_law_1101 : decode code 1101 = .ok (.iaload, 1) := by decide +kernel
theorem d_law_1102 : decode code 1102 = .ok (.aload_n 0, 1) := by decide +kernel
theorem d_law_1103 : decode code 1103 = .ok (.iload_n 3, 1) := by decide +kernel
theorem d_law_1104 : decode code 1104 = .ok (.iconst 4, 1) := by decide +kernel
theorem d_law_1105 : decode code 1105 = .ok (.iadd, 1) := by decide +kernel
theorem d_law_1106 : decode code 1106 = .ok (.iaload, 1) := by decide +kernel
theorem d_law_1107 : decode code 1107 = .ok (.aload_n 0, 1) := by decide +kernel
theorem d_law_1108 : decode code 1108 = .ok (.iload_n 3, 1) := by decide +kernel
theorem d_law_1109 : decode code 1109 = .ok (.iconst 5, 1) := by decide +kernel
theorem d_law_1110 : decode code 1110 = .ok (.iadd, 1) := by decide +kernel
theorem d_law_1111 : decode code 1111 = .ok (.iaload, 1) := by decide +kernel
theorem d_law_1112 : decode code 1112 = .ok (.invokevirtual 154, 3) := by decide +kernel
theorem d_law_1115 : decode code 1115 = .ok (.aload_n 2, 1) := by decide +kernel
theorem d_law_1116 : decode code 1116 = .ok (.aload_n 0, 1) := by decide +kernel
theorem d_law_1117 : decode code 1117 = .ok (.iload_n 3, 1) := by decide +kernel
theorem d_law_1118 : decode code 1118 = .ok (.iconst 1, 1) := by decide +kernel
theorem d_law_1119 : decode code 1119 = .ok (.iadd, 1) := by decide +kernel
theorem d_law_1120 : decode code 1120 = .ok (.iaload, 1) := by decide +kernel
theorem d_law_1121 : decode code 1121 = .ok (.aload_n 0, 1) := by decide +kernel
theorem d_law_1122 : decode code 1122 = .ok (.iload_n 3, 1) := by decide +kernel
theorem d_law_1123 : decode code 1123 = .ok (.iconst 2, 1) := by decide +kernel
theorem d_law_1124 : decode code 1124 = .ok (.iadd, 1) := by decide +kernel
theorem d_law_1125 : decode code 1125 = .ok (.iaload, 1) := by decide +kernel
theorem d_law_1126 : decode code 1126 = .ok (.aload_n 0, 1) := by decide +kernel
theorem d_law_1127 : decode code 1127 = .ok (.iload_n 3, 1) := by decide +kernel
theorem d_law_1128 : decode code 1128 = .ok (.iconst 3, 1) := by decide +kernel
theorem d_law_1129 : decode code 1129 = .ok (.iadd, 1) := by decide +kernel
theorem d_law_1130 : decode code 1130 = .ok (.iaload, 1) := by decide +kernel
theorem d_law_1131 : decode code 1131 = .ok (.aload_n 0, 1) := by decide +kernel
theorem d_law_1132 : decode code 1132 = .ok (.iload_n 3, 1) := by decide +kernel
theorem d_law_1133 : decode code 1133 = .ok (.iconst 4, 1) := by decide +kernel
theorem d_law_1134 : decode code 1134 = .ok (.iadd, 1) := by decide +kernel
theorem d_law_1135 : decode code 1135 = .ok (.iaload, 1) := by decide +kernel
theorem d_law_1136 : decode code 1136 = .ok (.aload_n 0, 1) := by decide +kernel
theorem d_law_1137 : decode code 1137 = .ok (.iload_n 3, 1) := by decide +kernel
theorem d_law_1138 : decode code 1138 = .ok (.iconst 5, 1) := by decide +kernel
theorem d_law_1139 : decode code 1139 = .ok (.iadd, 1) := by decide +kernel
theorem d_law_1140 : decode code 1140 = .ok (.iaload, 1) := by decide +kernel
theorem d_law_1141 : decode code 1141 = .ok (.invokevirtual 157, 3) := by decide +kernel
theorem d_law_1144 : decode code 1144 = .ok (.if_icmp .eq 97, 3) := by decide +kernel
theorem d_law_1147 : decode code 1147 = .ok (.iconst 0, 1) := by decide +kernel
theorem d_law_1148 : decode code 1148 = .ok (.ireturn, 1) := by decide +kernel
theorem d_law_1149 : decode code 1149 = .ok (.aload_n 1, 1) := by decide +kernel
theorem d_law_1150 : decode code 1150 = .ok (.aload_n 0, 1) := by decide +kernel
theorem d_law_1151 : decode code 1151 = .ok (.iload_n 3, 1) := by decide +kernel
theorem d_law_1152 : decode code 1152 = .ok (.iconst 1, 1) := by decide +kernel
theorem d_law_1153 : decode code 1153 = .ok (.iadd, 1) := by decide +kernel
theorem d_law_1154 : decode code 1154 = .ok (.iaload, 1) := by decide +kernel
theorem d_law_1155 : decode code 1155 = .ok (.aload_n 0, 1) := by decide +kernel
theorem d_law_1156 : decode code 1156 = .ok (.iload_n 3, 1) := by decide +kernel
theorem d_law_1157 : decode code 1157 = .ok (.iconst 2, 1) := by decide +kernel
theorem d_law_1158 : decode code 1158 = .ok (.iadd, 1) := by decide +kernel
theorem d_law_1159 : decode code 1159 = .ok (.iaload, 1) := by decide +kernel
theorem d_law_1160 : decode code 1160 = .ok (.invokevirtual 158, 3) := by decide +kernel
theorem d_law_1163 : decode code 1163 = .ok (.aload_n 2, 1) := by decide +kernel
theorem d_law_1164 : decode code 1164 = .ok (.aload_n 0, 1) := by decide +kernel
theorem d_law_1165 : decode code 1165 = .ok (.iload_n 3, 1) := by decide +kernel
theorem d_law_1166 : decode code 1166 = .ok (.iconst 1, 1) := by decide +kernel
theorem d_law_1167 : decode code 1167 = .ok (.iadd, 1) := by decide +kernel
theorem d_law_1168 : decode code 1168 = .ok (.iaload, 1) := by decide +kernel
theorem d_law_1169 : decode code 1169 = .ok (.aload_n 0, 1) := by decide +kernel
theorem d_law_1170 : decode code 1170 = .ok (.iload_n 3, 1) := by decide +kernel
theorem d_law_1171 : decode code 1171 = .ok (.iconst 2, 1) := by decide +kernel
theorem d_law_1172 : decode code 1172 = .ok (.iadd, 1) := by decide +kernel
theorem d_law_1173 : decode code 1173 = .ok (.iaload, 1) := by decide +kernel
theorem d_law_1174 : decode code 1174 = .ok (.invokevirtual 161, 3) := by decide +kernel
theorem d_law_1177 : decode code 1177 = .ok (.if_icmp .eq 64, 3) := by decide +kernel
theorem d_law_1180 : decode code 1180 = .ok (.iconst 0, 1) := by decide +kernel
theorem d_law_1181 : decode code 1181 = .ok (.ireturn, 1) := by decide +kernel
theorem d_law_1182 : decode code 1182 = .ok (.aload_n 1, 1) := by decide +kernel
theorem d_law_1183 : decode code 1183 = .ok (.aload_n 0, 1) := by decide +kernel
theorem d_law_1184 : decode code 1184 = .ok (.iload_n 3, 1) := by decide +kernel
theorem d_law_1185 : decode code 1185 = .ok (.iconst 1, 1) := by decide +kernel
theorem d_law_1186 : decode code 1186 = .ok (.iadd, 1) := by decide +kernel
theorem d_law_1187 : decode code 1187 = .ok (.iaload, 1) := by decide +kernel
theorem d_law_1188 : decode code 1188 = .ok (.aload_n 0, 1) := by decide +kernel
theorem d_law_1189 : decode code 1189 = .ok (.iload_n 3, 1) := by decide +kernel
theorem d_law_1190 : decode code 1190 = .ok (.iconst 2, 1) := by decide +kernel
theorem d_law_1191 : decode code 1191 = .ok (.iadd, 1) := by decide +kernel
theorem d_law_1192 : decode code 1192 = .ok (.iaload, 1) := by decide +kernel
theorem d_law_1193 : decode code 1193 = .ok (.invokevirtual 162, 3) := by decide +kernel
theorem d_law_1196 : decode code 1196 = .ok (.aload_n 2, 1) := by decide +kernel
theorem d_law_1197 : decode code 1197 = .ok (.aload_n 0, 1) := by decide +kernel
theorem d_law_1198 : decode code 1198 = .ok (.iload_n 3, 1) := by decide +kernel
theorem d_law_1199 : decode code 1199 = .ok (.iconst 1, 1) := by decide +kernel
theorem d_law_1200 : decode code 1200 = .ok (.iadd, 1) := by decide +kernel
theorem d_law_1201 : decode code 1201 = .ok (.iaload, 1) := by decide +kernel
theorem d_law_1202 : decode code 1202 = .ok (.aload_n 0, 1) := by decide +kernel
theorem d_law_1203 : decode code 1203 = .ok (.iload_n 3, 1) := by decide +kernel
theorem d_law_1204 : decode code 1204 = .ok (.iconst 2, 1) := by decide +kernel
theorem d_law_1205 : decode code 1205 = .ok (.iadd, 1) := by decide +kernel
theorem d_law_1206 : decode code 1206 = .ok (.iaload, 1) := by decide +kernel
theorem d_law_1207 : decode code 1207 = .ok (.invokevirtual 165, 3) := by decide +kernel
theorem d_law_1210 : decode code 1210 = .ok (.if_icmp .eq 31, 3) := by decide +kernel
theorem d_law_1213 : decode code 1213 = .ok (.iconst 0, 1) := by decide +kernel
theorem d_law_1214 : decode code 1214 = .ok (.ireturn, 1) := by decide +kernel
theorem d_law_1215 : decode code 1215 = .ok (.aload_n 1, 1) := by decide +kernel
theorem d_law_1216 : decode code 1216 = .ok (.invokevirtual 166, 3) := by decide +kernel
theorem d_law_1219 : decode code 1219 = .ok (.aload_n 2, 1) := by decide +kernel
theorem d_law_1220 : decode code 1220 = .ok (.invokevirtual 169, 3) := by decide +kernel
theorem d_law_1223 : decode code 1223 = .ok (.if_icmp .eq 18, 3) := by decide +kernel
theorem d_law_1226 : decode code 1226 = .ok (.iconst 0, 1) := by decide +kernel
theorem d_law_1227 : decode code 1227 = .ok (.ireturn, 1) := by decide +kernel
theorem d_law_1228 : decode code 1228 = .ok (.aload_n 1, 1) := by decide +kernel
theorem d_law_1229 : decode code 1229 = .ok (.invokevirtual 170, 3) := by decide +kernel
theorem d_law_1232 : decode code 1232 = .ok (.aload_n 2, 1) := by decide +kernel
theorem d_law_1233 : decode code 1233 = .ok (.invokevirtual 173, 3) := by decide +kernel
theorem d_law_1236 : decode code 1236 = .ok (.if_icmp .eq 5, 3) := by decide +kernel
theorem d_law_1239 : decode code 1239 = .ok (.iconst 0, 1) := by decide +kernel
theorem d_law_1240 : decode code 1240 = .ok (.ireturn, 1) := by decide +kernel
theorem d_law_1241 : decode code 1241 = .ok (.iinc 3 6, 3) := by decide +kernel
theorem d_law_1244 : decode code 1244 = .ok (.goto (-1226), 3) := by decide +kernel
theorem d_law_1247 : decode code 1247 = .ok (.iconst 1, 1) := by decide +kernel
theorem d_law_1248 : decode code 1248 = .ok (.ireturn, 1) := by decide +kernel
theorem mc12_anew : Cond.code y12_anew b12_anew 2 (some .int) ∈ ce_cm := ce_cm_of (List.mem_of_getElem? (i := 1667) (by decide +kernel)) (by decide +kernel)
theorem ml_L_173 : Cond.methodLink R_law 173 y12_anew ∈ ce_cm := ce_cm_of (List.mem_of_getElem? (i := 1664) (by decide +kernel)) (by decide +kernel)
theorem mi12_anew : Cond.instanceMethod y12_anew ∈ ce_cm := ce_cm_of (List.mem_of_getElem? (i := 1665) (by decide +kernel)) (by decide +kernel)
theorem ms12_anew : Cond.selects cn_12 y12_anew y12_anew ∈ ce_cm := ce_cm_of (List.mem_of_getElem? (i := 1666) (by decide +kernel)) (by decide +kernel)
theorem mc11_anew : Cond.code y11_anew b11_anew 3 (some .int) ∈ ce_cm := ce_cm_of (List.mem_of_getElem? (i := 1114) (by decide +kernel)) (by decide +kernel)
theorem ml_L_170 : Cond.methodLink R_law 170 y11_anew ∈ ce_cm := ce_cm_of (List.mem_of_getElem? (i := 1111) (by decide +kernel)) (by decide +kernel)
theorem mi11_anew : Cond.instanceMethod y11_anew ∈ ce_cm := ce_cm_of (List.mem_of_getElem? (i := 1112) (by decide +kernel)) (by decide +kernel)
theorem ms11_anew : Cond.selects cn_11 y11_anew y11_anew ∈ ce_cm := ce_cm_of (List.mem_of_getElem? (i := 1113) (by decide +kernel)) (by decide +kernel)
theorem mc12_undo : Cond.code y12_undo b12_undo 1 (some .int) ∈ ce_cm := ce_cm_of (List.mem_of_getElem? (i := 1659) (by decide +kernel)) (by decide +kernel)
theorem ml_L_169 : Cond.methodLink R_law 169 y12_undo ∈ ce_cm := ce_cm_of (List.mem_of_getElem? (i := 1656) (by decide +kernel)) (by decide +kernel)
theorem mi12_undo : Cond.instanceMethod y12_undo ∈ ce_cm := ce_cm_of (List.mem_of_getElem? (i := 1657) (by decide +kernel)) (by decide +kernel)
theorem ms12_undo : Cond.selects cn_12 y12_undo y12_undo ∈ ce_cm := ce_cm_of (List.mem_of_getElem? (i := 1658) (by decide +kernel)) (by decide +kernel)
theorem mc11_undo : Cond.code y11_undo b11_undo 1 (some .int) ∈ ce_cm := ce_cm_of (List.mem_of_getElem? (i := 1103) (by decide +kernel)) (by decide +kernel)
theorem ml_L_166 : Cond.methodLink R_law 166 y11_undo ∈ ce_cm := ce_cm_of (List.mem_of_getElem? (i := 1100) (by decide +kernel)) (by decide +kernel)
theorem mi11_undo : Cond.instanceMethod y11_undo ∈ ce_cm := ce_cm_of (List.mem_of_getElem? (i := 1101) (by decide +kernel)) (by decide +kernel)
theorem ms11_undo : Cond.selects cn_11 y11_undo y11_undo ∈ ce_cm := ce_cm_of (List.mem_of_getElem? (i := 1102) (by decide +kernel)) (by decide +kernel)
theorem mc12_force : Cond.code y12_force b12_force 3 (some .int) ∈ ce_cm := ce_cm_of (List.mem_of_getElem? (i := 1655) (by decide +kernel)) (by decide +kernel)
theorem ml_L_165 : Cond.methodLink R_law 165 y12_force ∈ ce_cm := ce_cm_of (List.mem_of_getElem? (i := 1652) (by decide +kernel)) (by decide +kernel)
theorem mi12_force : Cond.instanceMethod y12_force ∈ ce_cm := ce_cm_of (List.mem_of_getElem? (i := 1653) (by decide +kernel)) (by decide +kernel)
theorem ms12_force : Cond.selects cn_12 y12_force y12_force ∈ ce_cm := ce_cm_of (List.mem_of_getElem? (i := 1654) (by decide +kernel)) (by decide +kernel)
theorem mc11_force : Cond.code y11_force b11_force 4 (some .int) ∈ ce_cm := ce_cm_of (List.mem_of_getElem? (i := 1099) (by decide +kernel)) (by decide +kernel)
theorem ml_L_162 : Cond.methodLink R_law 162 y11_force ∈ ce_cm := ce_cm_of (List.mem_of_getElem? (i := 1096) (by decide +kernel)) (by decide +kernel)
theorem mi11_force : Cond.instanceMethod y11_force ∈ ce_cm := ce_cm_of (List.mem_of_getElem? (i := 1097) (by decide +kernel)) (by decide +kernel)
theorem ms11_force : Cond.selects cn_11 y11_force y11_force ∈ ce_cm := ce_cm_of (List.mem_of_getElem? (i := 1098) (by decide +kernel)) (by decide +kernel)
theorem mc12_pull : Cond.code y12_pull b12_pull 3 (some .int) ∈ ce_cm := ce_cm_of (List.mem_of_getElem? (i := 1651) (by decide +kernel)) (by decide +kernel)
theorem ml_L_161 : Cond.methodLink R_law 161 y12_pull ∈ ce_cm := ce_cm_of (List.mem_of_getElem? (i := 1648) (by decide +kernel)) (by decide +kernel)
theorem mi12_pull : Cond.instanceMethod y12_pull ∈ ce_cm := ce_cm_of (List.mem_of_getElem? (i := 1649) (by decide +kernel)) (by decide +kernel)
theorem ms12_pull : Cond.selects cn_12 y12_pull y12_pull ∈ ce_cm := ce_cm_of (List.mem_of_getElem? (i := 1650) (by decide +kernel)) (by decide +kernel)
theorem mc11_pull : Cond.code y11_pull b11_pull 4 (some .int) ∈ ce_cm := ce_cm_of (List.mem_of_getElem? (i := 1091) (by decide +kernel)) (by decide +kernel)
theorem ml_L_158 : Cond.methodLink R_law 158 y11_pull ∈ ce_cm := ce_cm_of (List.mem_of_getElem? (i := 1088) (by decide +kernel)) (by decide +kernel)
theorem mi11_pull : Cond.instanceMethod y11_pull ∈ ce_cm := ce_cm_of (List.mem_of_getElem? (i := 1089) (by decide +kernel)) (by decide +kernel)
theorem ms11_pull : Cond.selects cn_11 y11_pull y11_pull ∈ ce_cm := ce_cm_of (List.mem_of_getElem? (i := 1090) (by decide +kernel)) (by decide +kernel)
theorem mc12_plug : Cond.code y12_plug b12_plug 8 (some .int) ∈ ce_cm := ce_cm_of (List.mem_of_getElem? (i := 1642) (by decide +kernel)) (by decide +kernel)
theorem ml_L_157 : Cond.methodLink R_law 157 y12_plug ∈ ce_cm := ce_cm_of (List.mem_of_getElem? (i := 1639) (by decide +kernel)) (by decide +kernel)
theorem mi12_plug : Cond.instanceMethod y12_plug ∈ ce_cm := ce_cm_of (List.mem_of_getElem? (i := 1640) (by decide +kernel)) (by decide +kernel)
theorem ms12_plug : Cond.selects cn_12 y12_plug y12_plug ∈ ce_cm := ce_cm_of (List.mem_of_getElem? (i := 1641) (by decide +kernel)) (by decide +kernel)
theorem mc11_plug : Cond.code y11_plug b11_plug 8 (some .int) ∈ ce_cm := ce_cm_of (List.mem_of_getElem? (i := 1077) (by decide +kernel)) (by decide +kernel)
theorem ml_L_154 : Cond.methodLink R_law 154 y11_plug ∈ ce_cm := ce_cm_of (List.mem_of_getElem? (i := 1074) (by decide +kernel)) (by decide +kernel)
theorem mi11_plug : Cond.instanceMethod y11_plug ∈ ce_cm := ce_cm_of (List.mem_of_getElem? (i := 1075) (by decide +kernel)) (by decide +kernel)
theorem ms11_plug : Cond.selects cn_11 y11_plug y11_plug ∈ ce_cm := ce_cm_of (List.mem_of_getElem? (i := 1076) (by decide +kernel)) (by decide +kernel)
theorem mc12_spare : Cond.code y12_spare b12_spare 8 (some .int) ∈ ce_cm := ce_cm_of (List.mem_of_getElem? (i := 1638) (by decide +kernel)) (by decide +kernel)
theorem ml_L_153 : Cond.methodLink R_law 153 y12_spare ∈ ce_cm := ce_cm_of (List.mem_of_getElem? (i := 1635) (by decide +kernel)) (by decide +kernel)
theorem mi12_spare : Cond.instanceMethod y12_spare ∈ ce_cm := ce_cm_of (List.mem_of_getElem? (i := 1636) (by decide +kernel)) (by decide +kernel)
theorem ms12_spare : Cond.selects cn_12 y12_spare y12_spare ∈ ce_cm := ce_cm_of (List.mem_of_getElem? (i := 1637) (by decide +kernel)) (by decide +kernel)
theorem mc11_spare : Cond.code y11_spare b11_spare 6 (some .int) ∈ ce_cm := ce_cm_of (List.mem_of_getElem? (i := 1072) (by decide +kernel)) (by decide +kernel)
theorem ml_L_150 : Cond.methodLink R_law 150 y11_spare ∈ ce_cm := ce_cm_of (List.mem_of_getElem? (i := 1069) (by decide +kernel)) (by decide +kernel)
theorem mi11_spare : Cond.instanceMethod y11_spare ∈ ce_cm := ce_cm_of (List.mem_of_getElem? (i := 1070) (by decide +kernel)) (by decide +kernel)
theorem ms11_spare : Cond.selects cn_11 y11_spare y11_spare ∈ ce_cm := ce_cm_of (List.mem_of_getElem? (i := 1071) (by decide +kernel)) (by decide +kernel)
theorem mc12_bridges : Cond.code y12_bridges b12_bridges 6 (some .int) ∈ ce_cm := ce_cm_of (List.mem_of_getElem? (i := 1634) (by decide +kernel)) (by decide +kernel)
theorem ml_L_149 : Cond.methodLink R_law 149 y12_bridges ∈ ce_cm := ce_cm_of (List.mem_of_getElem? (i := 1631) (by decide +kernel)) (by decide +kernel)
theorem mi12_bridges : Cond.instanceMethod y12_bridges ∈ ce_cm := ce_cm_of (List.mem_of_getElem? (i := 1632) (by decide +kernel)) (by decide +kernel)
theorem ms12_bridges : Cond.selects cn_12 y12_bridges y12_bridges ∈ ce_cm := ce_cm_of (List.mem_of_getElem? (i := 1633) (by decide +kernel)) (by decide +kernel)
theorem mc11_bridges : Cond.code y11_bridges b11_bridges 3 (some .int) ∈ ce_cm := ce_cm_of (List.mem_of_getElem? (i := 1062) (by decide +kernel)) (by decide +kernel)
theorem ml_L_146 : Cond.methodLink R_law 146 y11_bridges ∈ ce_cm := ce_cm_of (List.mem_of_getElem? (i := 1059) (by decide +kernel)) (by decide +kernel)
theorem mi11_bridges : Cond.instanceMethod y11_bridges ∈ ce_cm := ce_cm_of (List.mem_of_getElem? (i := 1060) (by decide +kernel)) (by decide +kernel)
theorem ms11_bridges : Cond.selects cn_11 y11_bridges y11_bridges ∈ ce_cm := ce_cm_of (List.mem_of_getElem? (i := 1061) (by decide +kernel)) (by decide +kernel)
theorem mc12_cutting : Cond.code y12_cutting b12_cutting 7 (some .int) ∈ ce_cm := ce_cm_of (List.mem_of_getElem? (i := 1626) (by decide +kernel)) (by decide +kernel)
theorem ml_L_145 : Cond.methodLink R_law 145 y12_cutting ∈ ce_cm := ce_cm_of (List.mem_of_getElem? (i := 1623) (by decide +kernel)) (by decide +kernel)
theorem mi12_cutting : Cond.instanceMethod y12_cutting ∈ ce_cm := ce_cm_of (List.mem_of_getElem? (i := 1624) (by decide +kernel)) (by decide +kernel)
theorem ms12_cutting : Cond.selects cn_12 y12_cutting y12_cutting ∈ ce_cm := ce_cm_of (List.mem_of_getElem? (i := 1625) (by decide +kernel)) (by decide +kernel)
theorem mc11_cutting : Cond.code y11_cutting b11_cutting 3 (some .int) ∈ ce_cm := ce_cm_of (List.mem_of_getElem? (i := 1057) (by decide +kernel)) (by decide +kernel)
theorem ml_L_142 : Cond.methodLink R_law 142 y11_cutting ∈ ce_cm := ce_cm_of (List.mem_of_getElem? (i := 1054) (by decide +kernel)) (by decide +kernel)
theorem mi11_cutting : Cond.instanceMethod y11_cutting ∈ ce_cm := ce_cm_of (List.mem_of_getElem? (i := 1055) (by decide +kernel)) (by decide +kernel)
theorem ms11_cutting : Cond.selects cn_11 y11_cutting y11_cutting ∈ ce_cm := ce_cm_of (List.mem_of_getElem? (i := 1056) (by decide +kernel)) (by decide +kernel)
theorem mc12_rootBy : Cond.code y12_rootBy b12_rootBy 4 (some .int) ∈ ce_cm := ce_cm_of (List.mem_of_getElem? (i := 1621) (by decide +kernel)) (by decide +kernel)
theorem ml_L_141 : Cond.methodLink R_law 141 y12_rootBy ∈ ce_cm := ce_cm_of (List.mem_of_getElem? (i := 1618) (by decide +kernel)) (by decide +kernel)
theorem mi12_rootBy : Cond.instanceMethod y12_rootBy ∈ ce_cm := ce_cm_of (List.mem_of_getElem? (i := 1619) (by decide +kernel)) (by decide +kernel)
theorem ms12_rootBy : Cond.selects cn_12 y12_rootBy y12_rootBy ∈ ce_cm := ce_cm_of (List.mem_of_getElem? (i := 1620) (by decide +kernel)) (by decide +kernel)
theorem mc11_rootBy : Cond.code y11_rootBy b11_rootBy 3 (some .int) ∈ ce_cm := ce_cm_of (List.mem_of_getElem? (i := 1053) (by decide +kernel)) (by decide +kernel)
theorem ml_L_138 : Cond.methodLink R_law 138 y11_rootBy ∈ ce_cm := ce_cm_of (List.mem_of_getElem? (i := 1050) (by decide +kernel)) (by decide +kernel)
theorem mi11_rootBy : Cond.instanceMethod y11_rootBy ∈ ce_cm := ce_cm_of (List.mem_of_getElem? (i := 1051) (by decide +kernel)) (by decide +kernel)
theorem ms11_rootBy : Cond.selects cn_11 y11_rootBy y11_rootBy ∈ ce_cm := ce_cm_of (List.mem_of_getElem? (i := 1052) (by decide +kernel)) (by decide +kernel)
theorem mc12_fair : Cond.code y12_fair b12_fair 5 (some .int) ∈ ce_cm := ce_cm_of (List.mem_of_getElem? (i := 1617) (by decide +kernel)) (by decide +kernel)
theorem ml_L_137 : Cond.methodLink R_law 137 y12_fair ∈ ce_cm := ce_cm_of (List.mem_of_getElem? (i := 1614) (by decide +kernel)) (by decide +kernel)
theorem mi12_fair : Cond.instanceMethod y12_fair ∈ ce_cm := ce_cm_of (List.mem_of_getElem? (i := 1615) (by decide +kernel)) (by decide +kernel)
theorem ms12_fair : Cond.selects cn_12 y12_fair y12_fair ∈ ce_cm := ce_cm_of (List.mem_of_getElem? (i := 1616) (by decide +kernel)) (by decide +kernel)
theorem mc11_fair : Cond.code y11_fair b11_fair 6 (some .int) ∈ ce_cm := ce_cm_of (List.mem_of_getElem? (i := 1049) (by decide +kernel)) (by decide +kernel)
theorem ml_L_134 : Cond.methodLink R_law 134 y11_fair ∈ ce_cm := ce_cm_of (List.mem_of_getElem? (i := 1046) (by decide +kernel)) (by decide +kernel)
theorem mi11_fair : Cond.instanceMethod y11_fair ∈ ce_cm := ce_cm_of (List.mem_of_getElem? (i := 1047) (by decide +kernel)) (by decide +kernel)
theorem ms11_fair : Cond.selects cn_11 y11_fair y11_fair ∈ ce_cm := ce_cm_of (List.mem_of_getElem? (i := 1048) (by decide +kernel)) (by decide +kernel)
theorem mc12_turn : Cond.code y12_turn b12_turn 6 (some .int) ∈ ce_cm := ce_cm_of (List.mem_of_getElem? (i := 1613) (by decide +kernel)) (by decide +kernel)
theorem ml_L_133 : Cond.methodLink R_law 133 y12_turn ∈ ce_cm := ce_cm_of (List.mem_of_getElem? (i := 1610) (by decide +kernel)) (by decide +kernel)
theorem mi12_turn : Cond.instanceMethod y12_turn ∈ ce_cm := ce_cm_of (List.mem_of_getElem? (i := 1611) (by decide +kernel)) (by decide +kernel)
theorem ms12_turn : Cond.selects cn_12 y12_turn y12_turn ∈ ce_cm := ce_cm_of (List.mem_of_getElem? (i := 1612) (by decide +kernel)) (by decide +kernel)
theorem mc11_turn : Cond.code y11_turn b11_turn 6 (some .int) ∈ ce_cm := ce_cm_of (List.mem_of_getElem? (i := 1042) (by decide +kernel)) (by decide +kernel)
theorem ml_L_130 : Cond.methodLink R_law 130 y11_turn ∈ ce_cm := ce_cm_of (List.mem_of_getElem? (i := 1039) (by decide +kernel)) (by decide +kernel)
theorem mi11_turn : Cond.instanceMethod y11_turn ∈ ce_cm := ce_cm_of (List.mem_of_getElem? (i := 1040) (by decide +kernel)) (by decide +kernel)
theorem ms11_turn : Cond.selects cn_11 y11_turn y11_turn ∈ ce_cm := ce_cm_of (List.mem_of_getElem? (i := 1041) (by decide +kernel)) (by decide +kernel)
theorem mc12_grant : Cond.code y12_grant b12_grant 3 (some .int) ∈ ce_cm := ce_cm_of (List.mem_of_getElem? (i := 1609) (by decide +kernel)) (by decide +kernel)
theorem ml_L_129 : Cond.methodLink R_law 129 y12_grant ∈ ce_cm := ce_cm_of (List.mem_of_getElem? (i := 1606) (by decide +kernel)) (by decide +kernel)
theorem mi12_grant : Cond.instanceMethod y12_grant ∈ ce_cm := ce_cm_of (List.mem_of_getElem? (i := 1607) (by decide +kernel)) (by decide +kernel)
theorem ms12_grant : Cond.selects cn_12 y12_grant y12_grant ∈ ce_cm := ce_cm_of (List.mem_of_getElem? (i := 1608) (by decide +kernel)) (by decide +kernel)
theorem mc11_grant : Cond.code y11_grant b11_grant 3 (some .int) ∈ ce_cm := ce_cm_of (List.mem_of_getElem? (i := 1038) (by decide +kernel)) (by decide +kernel)
theorem ml_L_126 : Cond.methodLink R_law 126 y11_grant ∈ ce_cm := ce_cm_of (List.mem_of_getElem? (i := 1035) (by decide +kernel)) (by decide +kernel)
theorem mi11_grant : Cond.instanceMethod y11_grant ∈ ce_cm := ce_cm_of (List.mem_of_getElem? (i := 1036) (by decide +kernel)) (by decide +kernel)
theorem ms11_grant : Cond.selects cn_11 y11_grant y11_grant ∈ ce_cm := ce_cm_of (List.mem_of_getElem? (i := 1037) (by decide +kernel)) (by decide +kernel)
theorem mc12_wins : Cond.code y12_wins b12_wins 3 (some .int) ∈ ce_cm := ce_cm_of (List.mem_of_getElem? (i := 1586) (by decide +kernel)) (by decide +kernel)
theorem ml_L_125 : Cond.methodLink R_law 125 y12_wins ∈ ce_cm := ce_cm_of (List.mem_of_getElem? (i := 1583) (by decide +kernel)) (by decide +kernel)
theorem mi12_wins : Cond.instanceMethod y12_wins ∈ ce_cm := ce_cm_of (List.mem_of_getElem? (i := 1584) (by decide +kernel)) (by decide +kernel)
theorem ms12_wins : Cond.selects cn_12 y12_wins y12_wins ∈ ce_cm := ce_cm_of (List.mem_of_getElem? (i := 1585) (by decide +kernel)) (by decide +kernel)
theorem mc11_wins : Cond.code y11_wins b11_wins 3 (some .int) ∈ ce_cm := ce_cm_of (List.mem_of_getElem? (i := 1004) (by decide +kernel)) (by decide +kernel)
theorem ml_L_122 : Cond.methodLink R_law 122 y11_wins ∈ ce_cm := ce_cm_of (List.mem_of_getElem? (i := 1001) (by decide +kernel)) (by decide +kernel)
theorem mi11_wins : Cond.instanceMethod y11_wins ∈ ce_cm := ce_cm_of (List.mem_of_getElem? (i := 1002) (by decide +kernel)) (by decide +kernel)
theorem ms11_wins : Cond.selects cn_11 y11_wins y11_wins ∈ ce_cm := ce_cm_of (List.mem_of_getElem? (i := 1003) (by decide +kernel)) (by decide +kernel)
theorem mc12_unlike : Cond.code y12_unlike b12_unlike 5 (some .int) ∈ ce_cm := ce_cm_of (List.mem_of_getElem? (i := 1578) (by decide +kernel)) (by decide +kernel)
theorem ml_L_121 : Cond.methodLink R_law 121 y12_unlike ∈ ce_cm := ce_cm_of (List.mem_of_getElem? (i := 1575) (by decide +kernel)) (by decide +kernel)
theorem mi12_unlike : Cond.instanceMethod y12_unlike ∈ ce_cm := ce_cm_of (List.mem_of_getElem? (i := 1576) (by decide +kernel)) (by decide +kernel)
theorem ms12_unlike : Cond.selects cn_12 y12_unlike y12_unlike ∈ ce_cm := ce_cm_of (List.mem_of_getElem? (i := 1577) (by decide +kernel)) (by decide +kernel)
theorem mc11_unlike : Cond.code y11_unlike b11_unlike 9 (some .int) ∈ ce_cm := ce_cm_of (List.mem_of_getElem? (i := 999) (by decide +kernel)) (by decide +kernel)
theorem ml_L_118 : Cond.methodLink R_law 118 y11_unlike ∈ ce_cm := ce_cm_of (List.mem_of_getElem? (i := 996) (by decide +kernel)) (by decide +kernel)
theorem mi11_unlike : Cond.instanceMethod y11_unlike ∈ ce_cm := ce_cm_of (List.mem_of_getElem? (i := 997) (by decide +kernel)) (by decide +kernel)
theorem ms11_unlike : Cond.selects cn_11 y11_unlike y11_unlike ∈ ce_cm := ce_cm_of (List.mem_of_getElem? (i := 998) (by decide +kernel)) (by decide +kernel)
theorem mc12_built : Cond.code y12_built b12_built 6 (some .int) ∈ ce_cm := ce_cm_of (List.mem_of_getElem? (i := 1573) (by decide +kernel)) (by decide +kernel)
theorem ml_L_117 : Cond.methodLink R_law 117 y12_built ∈ ce_cm := ce_cm_of (List.mem_of_getElem? (i := 1570) (by decide +kernel)) (by decide +kernel)
theorem mi12_built : Cond.instanceMethod y12_built ∈ ce_cm := ce_cm_of (List.mem_of_getElem? (i := 1571) (by decide +kernel)) (by decide +kernel)
theorem ms12_built : Cond.selects cn_12 y12_built y12_built ∈ ce_cm := ce_cm_of (List.mem_of_getElem? (i := 1572) (by decide +kernel)) (by decide +kernel)
theorem mc11_built : Cond.code y11_built b11_built 3 (some .int) ∈ ce_cm := ce_cm_of (List.mem_of_getElem? (i := 983) (by decide +kernel)) (by decide +kernel)
theorem ml_L_114 : Cond.methodLink R_law 114 y11_built ∈ ce_cm := ce_cm_of (List.mem_of_getElem? (i := 980) (by decide +kernel)) (by decide +kernel)
theorem mi11_built : Cond.instanceMethod y11_built ∈ ce_cm := ce_cm_of (List.mem_of_getElem? (i := 981) (by decide +kernel)) (by decide +kernel)
theorem ms11_built : Cond.selects cn_11 y11_built y11_built ∈ ce_cm := ce_cm_of (List.mem_of_getElem? (i := 982) (by decide +kernel)) (by decide +kernel)
theorem mc12_packets : Cond.code y12_packets b12_packets 2 (some .int) ∈ ce_cm := ce_cm_of (List.mem_of_getElem? (i := 1553) (by decide +kernel)) (by decide +kernel)
theorem ml_L_113 : Cond.methodLink R_law 113 y12_packets ∈ ce_cm := ce_cm_of (List.mem_of_getElem? (i := 1550) (by decide +kernel)) (by decide +kernel)
theorem mi12_packets : Cond.instanceMethod y12_packets ∈ ce_cm := ce_cm_of (List.mem_of_getElem? (i := 1551) (by decide +kernel)) (by decide +kernel)
theorem ms12_packets : Cond.selects cn_12 y12_packets y12_packets ∈ ce_cm := ce_cm_of (List.mem_of_getElem? (i := 1552) (by decide +kernel)) (by decide +kernel)
theorem mc11_packets : Cond.code y11_packets b11_packets 2 (some .int) ∈ ce_cm := ce_cm_of (List.mem_of_getElem? (i := 947) (by decide +kernel)) (by decide +kernel)
theorem ml_L_110 : Cond.methodLink R_law 110 y11_packets ∈ ce_cm := ce_cm_of (List.mem_of_getElem? (i := 944) (by decide +kernel)) (by decide +kernel)
theorem mi11_packets : Cond.instanceMethod y11_packets ∈ ce_cm := ce_cm_of (List.mem_of_getElem? (i := 945) (by decide +kernel)) (by decide +kernel)
theorem ms11_packets : Cond.selects cn_11 y11_packets y11_packets ∈ ce_cm := ce_cm_of (List.mem_of_getElem? (i := 946) (by decide +kernel)) (by decide +kernel)
theorem mc12_packet : Cond.code y12_packet b12_packet 4 (some .int) ∈ ce_cm := ce_cm_of (List.mem_of_getElem? (i := 1545) (by decide +kernel)) (by decide +kernel)
theorem ml_L_109 : Cond.methodLink R_law 109 y12_packet ∈ ce_cm := ce_cm_of (List.mem_of_getElem? (i := 1542) (by decide +kernel)) (by decide +kernel)
theorem mi12_packet : Cond.instanceMethod y12_packet ∈ ce_cm := ce_cm_of (List.mem_of_getElem? (i := 1543) (by decide +kernel)) (by decide +kernel)
theorem ms12_packet : Cond.selects cn_12 y12_packet y12_packet ∈ ce_cm := ce_cm_of (List.mem_of_getElem? (i := 1544) (by decide +kernel)) (by decide +kernel)
theorem mc11_packet : Cond.code y11_packet b11_packet 4 (some .int) ∈ ce_cm := ce_cm_of (List.mem_of_getElem? (i := 939) (by decide +kernel)) (by decide +kernel)
theorem ml_L_106 : Cond.methodLink R_law 106 y11_packet ∈ ce_cm := ce_cm_of (List.mem_of_getElem? (i := 936) (by decide +kernel)) (by decide +kernel)
theorem mi11_packet : Cond.instanceMethod y11_packet ∈ ce_cm := ce_cm_of (List.mem_of_getElem? (i := 937) (by decide +kernel)) (by decide +kernel)
theorem ms11_packet : Cond.selects cn_11 y11_packet y11_packet ∈ ce_cm := ce_cm_of (List.mem_of_getElem? (i := 938) (by decide +kernel)) (by decide +kernel)
theorem mc12_centre : Cond.code y12_centre b12_centre 5 (some .int) ∈ ce_cm := ce_cm_of (List.mem_of_getElem? (i := 1541) (by decide +kernel)) (by decide +kernel)
theorem ml_L_105 : Cond.methodLink R_law 105 y12_centre ∈ ce_cm := ce_cm_of (List.mem_of_getElem? (i := 1538) (by decide +kernel)) (by decide +kernel)
theorem mi12_centre : Cond.instanceMethod y12_centre ∈ ce_cm := ce_cm_of (List.mem_of_getElem? (i := 1539) (by decide +kernel)) (by decide +kernel)
theorem ms12_centre : Cond.selects cn_12 y12_centre y12_centre ∈ ce_cm := ce_cm_of (List.mem_of_getElem? (i := 1540) (by decide +kernel)) (by decide +kernel)
theorem mc11_centre : Cond.code y11_centre b11_centre 7 (some .int) ∈ ce_cm := ce_cm_of (List.mem_of_getElem? (i := 934) (by decide +kernel)) (by decide +kernel)
theorem ml_L_102 : Cond.methodLink R_law 102 y11_centre ∈ ce_cm := ce_cm_of (List.mem_of_getElem? (i := 931) (by decide +kernel)) (by decide +kernel)
theorem mi11_centre : Cond.instanceMethod y11_centre ∈ ce_cm := ce_cm_of (List.mem_of_getElem? (i := 932) (by decide +kernel)) (by decide +kernel)
theorem ms11_centre : Cond.selects cn_11 y11_centre y11_centre ∈ ce_cm := ce_cm_of (List.mem_of_getElem? (i := 933) (by decide +kernel)) (by decide +kernel)
theorem mc12_gap : Cond.code y12_gap b12_gap 3 (some .int) ∈ ce_cm := ce_cm_of (List.mem_of_getElem? (i := 1533) (by decide +kernel)) (by decide +kernel)
theorem ml_L_101 : Cond.methodLink R_law 101 y12_gap ∈ ce_cm := ce_cm_of (List.mem_of_getElem? (i := 1530) (by decide +kernel)) (by decide +kernel)
theorem mi12_gap : Cond.instanceMethod y12_gap ∈ ce_cm := ce_cm_of (List.mem_of_getElem? (i := 1531) (by decide +kernel)) (by decide +kernel)
theorem ms12_gap : Cond.selects cn_12 y12_gap y12_gap ∈ ce_cm := ce_cm_of (List.mem_of_getElem? (i := 1532) (by decide +kernel)) (by decide +kernel)
theorem mc11_gap : Cond.code y11_gap b11_gap 3 (some .int) ∈ ce_cm := ce_cm_of (List.mem_of_getElem? (i := 927) (by decide +kernel)) (by decide +kernel)
theorem ml_L_98 : Cond.methodLink R_law 98 y11_gap ∈ ce_cm := ce_cm_of (List.mem_of_getElem? (i := 924) (by decide +kernel)) (by decide +kernel)
theorem mi11_gap : Cond.instanceMethod y11_gap ∈ ce_cm := ce_cm_of (List.mem_of_getElem? (i := 925) (by decide +kernel)) (by decide +kernel)
theorem ms11_gap : Cond.selects cn_11 y11_gap y11_gap ∈ ce_cm := ce_cm_of (List.mem_of_getElem? (i := 926) (by decide +kernel)) (by decide +kernel)
theorem mc12_longest : Cond.code y12_longest b12_longest 3 (some .int) ∈ ce_cm := ce_cm_of (List.mem_of_getElem? (i := 1517) (by decide +kernel)) (by decide +kernel)
theorem ml_L_97 : Cond.methodLink R_law 97 y12_longest ∈ ce_cm := ce_cm_of (List.mem_of_getElem? (i := 1514) (by decide +kernel)) (by decide +kernel)
theorem mi12_longest : Cond.instanceMethod y12_longest ∈ ce_cm := ce_cm_of (List.mem_of_getElem? (i := 1515) (by decide +kernel)) (by decide +kernel)
theorem ms12_longest : Cond.selects cn_12 y12_longest y12_longest ∈ ce_cm := ce_cm_of (List.mem_of_getElem? (i := 1516) (by decide +kernel)) (by decide +kernel)
theorem mc11_longest : Cond.code y11_longest b11_longest 3 (some .int) ∈ ce_cm := ce_cm_of (List.mem_of_getElem? (i := 913) (by decide +kernel)) (by decide +kernel)
theorem ml_L_94 : Cond.methodLink R_law 94 y11_longest ∈ ce_cm := ce_cm_of (List.mem_of_getElem? (i := 910) (by decide +kernel)) (by decide +kernel)
theorem mi11_longest : Cond.instanceMethod y11_longest ∈ ce_cm := ce_cm_of (List.mem_of_getElem? (i := 911) (by decide +kernel)) (by decide +kernel)
theorem ms11_longest : Cond.selects cn_11 y11_longest y11_longest ∈ ce_cm := ce_cm_of (List.mem_of_getElem? (i := 912) (by decide +kernel)) (by decide +kernel)
theorem mc12_hops : Cond.code y12_hops b12_hops 4 (some .int) ∈ ce_cm := ce_cm_of (List.mem_of_getElem? (i := 1513) (by decide +kernel)) (by decide +kernel)
theorem ml_L_93 : Cond.methodLink R_law 93 y12_hops ∈ ce_cm := ce_cm_of (List.mem_of_getElem? (i := 1510) (by decide +kernel)) (by decide +kernel)
theorem mi12_hops : Cond.instanceMethod y12_hops ∈ ce_cm := ce_cm_of (List.mem_of_getElem? (i := 1511) (by decide +kernel)) (by decide +kernel)
theorem ms12_hops : Cond.selects cn_12 y12_hops y12_hops ∈ ce_cm := ce_cm_of (List.mem_of_getElem? (i := 1512) (by decide +kernel)) (by decide +kernel)
theorem mc11_hops : Cond.code y11_hops b11_hops 4 (some .int) ∈ ce_cm := ce_cm_of (List.mem_of_getElem? (i := 909) (by decide +kernel)) (by decide +kernel)
theorem ml_L_90 : Cond.methodLink R_law 90 y11_hops ∈ ce_cm := ce_cm_of (List.mem_of_getElem? (i := 906) (by decide +kernel)) (by decide +kernel)
theorem mi11_hops : Cond.instanceMethod y11_hops ∈ ce_cm := ce_cm_of (List.mem_of_getElem? (i := 907) (by decide +kernel)) (by decide +kernel)
theorem ms11_hops : Cond.selects cn_11 y11_hops y11_hops ∈ ce_cm := ce_cm_of (List.mem_of_getElem? (i := 908) (by decide +kernel)) (by decide +kernel)
theorem mc12_way : Cond.code y12_way b12_way 4 (some .int) ∈ ce_cm := ce_cm_of (List.mem_of_getElem? (i := 1497) (by decide +kernel)) (by decide +kernel)
theorem ml_L_89 : Cond.methodLink R_law 89 y12_way ∈ ce_cm := ce_cm_of (List.mem_of_getElem? (i := 1494) (by decide +kernel)) (by decide +kernel)
theorem mi12_way : Cond.instanceMethod y12_way ∈ ce_cm := ce_cm_of (List.mem_of_getElem? (i := 1495) (by decide +kernel)) (by decide +kernel)
theorem ms12_way : Cond.selects cn_12 y12_way y12_way ∈ ce_cm := ce_cm_of (List.mem_of_getElem? (i := 1496) (by decide +kernel)) (by decide +kernel)
theorem mc11_way : Cond.code y11_way b11_way 4 (some .int) ∈ ce_cm := ce_cm_of (List.mem_of_getElem? (i := 899) (by decide +kernel)) (by decide +kernel)
theorem ml_L_86 : Cond.methodLink R_law 86 y11_way ∈ ce_cm := ce_cm_of (List.mem_of_getElem? (i := 896) (by decide +kernel)) (by decide +kernel)
theorem mi11_way : Cond.instanceMethod y11_way ∈ ce_cm := ce_cm_of (List.mem_of_getElem? (i := 897) (by decide +kernel)) (by decide +kernel)
theorem ms11_way : Cond.selects cn_11 y11_way y11_way ∈ ce_cm := ce_cm_of (List.mem_of_getElem? (i := 898) (by decide +kernel)) (by decide +kernel)
theorem mc12_below : Cond.code y12_below b12_below 5 (some .int) ∈ ce_cm := ce_cm_of (List.mem_of_getElem? (i := 1489) (by decide +kernel)) (by decide +kernel)
theorem ml_L_85 : Cond.methodLink R_law 85 y12_below ∈ ce_cm := ce_cm_of (List.mem_of_getElem? (i := 1486) (by decide +kernel)) (by decide +kernel)
theorem mi12_below : Cond.instanceMethod y12_below ∈ ce_cm := ce_cm_of (List.mem_of_getElem? (i := 1487) (by decide +kernel)) (by decide +kernel)
theorem ms12_below : Cond.selects cn_12 y12_below y12_below ∈ ce_cm := ce_cm_of (List.mem_of_getElem? (i := 1488) (by decide +kernel)) (by decide +kernel)
theorem mc11_below : Cond.code y11_below b11_below 5 (some .int) ∈ ce_cm := ce_cm_of (List.mem_of_getElem? (i := 890) (by decide +kernel)) (by decide +kernel)
theorem ml_L_82 : Cond.methodLink R_law 82 y11_below ∈ ce_cm := ce_cm_of (List.mem_of_getElem? (i := 887) (by decide +kernel)) (by decide +kernel)
theorem mi11_below : Cond.instanceMethod y11_below ∈ ce_cm := ce_cm_of (List.mem_of_getElem? (i := 888) (by decide +kernel)) (by decide +kernel)
theorem ms11_below : Cond.selects cn_11 y11_below y11_below ∈ ce_cm := ce_cm_of (List.mem_of_getElem? (i := 889) (by decide +kernel)) (by decide +kernel)
theorem mc12_depth : Cond.code y12_depth b12_depth 3 (some .int) ∈ ce_cm := ce_cm_of (List.mem_of_getElem? (i := 1481) (by decide +kernel)) (by decide +kernel)
theorem ml_L_81 : Cond.methodLink R_law 81 y12_depth ∈ ce_cm := ce_cm_of (List.mem_of_getElem? (i := 1478) (by decide +kernel)) (by decide +kernel)
theorem mi12_depth : Cond.instanceMethod y12_depth ∈ ce_cm := ce_cm_of (List.mem_of_getElem? (i := 1479) (by decide +kernel)) (by decide +kernel)
theorem ms12_depth : Cond.selects cn_12 y12_depth y12_depth ∈ ce_cm := ce_cm_of (List.mem_of_getElem? (i := 1480) (by decide +kernel)) (by decide +kernel)
theorem mc11_depth : Cond.code y11_depth b11_depth 5 (some .int) ∈ ce_cm := ce_cm_of (List.mem_of_getElem? (i := 886) (by decide +kernel)) (by decide +kernel)
theorem ml_L_78 : Cond.methodLink R_law 78 y11_depth ∈ ce_cm := ce_cm_of (List.mem_of_getElem? (i := 883) (by decide +kernel)) (by decide +kernel)
theorem mi11_depth : Cond.instanceMethod y11_depth ∈ ce_cm := ce_cm_of (List.mem_of_getElem? (i := 884) (by decide +kernel)) (by decide +kernel)
theorem ms11_depth : Cond.selects cn_11 y11_depth y11_depth ∈ ce_cm := ce_cm_of (List.mem_of_getElem? (i := 885) (by decide +kernel)) (by decide +kernel)
theorem mc12_parent : Cond.code y12_parent b12_parent 3 (some .int) ∈ ce_cm := ce_cm_of (List.mem_of_getElem? (i := 1473) (by decide +kernel)) (by decide +kernel)
theorem ml_L_77 : Cond.methodLink R_law 77 y12_parent ∈ ce_cm := ce_cm_of (List.mem_of_getElem? (i := 1470) (by decide +kernel)) (by decide +kernel)
theorem mi12_parent : Cond.instanceMethod y12_parent ∈ ce_cm := ce_cm_of (List.mem_of_getElem? (i := 1471) (by decide +kernel)) (by decide +kernel)
theorem ms12_parent : Cond.selects cn_12 y12_parent y12_parent ∈ ce_cm := ce_cm_of (List.mem_of_getElem? (i := 1472) (by decide +kernel)) (by decide +kernel)
theorem mc11_parent : Cond.code y11_parent b11_parent 3 (some .int) ∈ ce_cm := ce_cm_of (List.mem_of_getElem? (i := 881) (by decide +kernel)) (by decide +kernel)
theorem ml_L_74 : Cond.methodLink R_law 74 y11_parent ∈ ce_cm := ce_cm_of (List.mem_of_getElem? (i := 878) (by decide +kernel)) (by decide +kernel)
theorem mi11_parent : Cond.instanceMethod y11_parent ∈ ce_cm := ce_cm_of (List.mem_of_getElem? (i := 879) (by decide +kernel)) (by decide +kernel)
theorem ms11_parent : Cond.selects cn_11 y11_parent y11_parent ∈ ce_cm := ce_cm_of (List.mem_of_getElem? (i := 880) (by decide +kernel)) (by decide +kernel)
theorem mc12_size : Cond.code y12_size b12_size 2 (some .int) ∈ ce_cm := ce_cm_of (List.mem_of_getElem? (i := 1469) (by decide +kernel)) (by decide +kernel)
theorem ml_L_73 : Cond.methodLink R_law 73 y12_size ∈ ce_cm := ce_cm_of (List.mem_of_getElem? (i := 1466) (by decide +kernel)) (by decide +kernel)
theorem mi12_size : Cond.instanceMethod y12_size ∈ ce_cm := ce_cm_of (List.mem_of_getElem? (i := 1467) (by decide +kernel)) (by decide +kernel)
theorem ms12_size : Cond.selects cn_12 y12_size y12_size ∈ ce_cm := ce_cm_of (List.mem_of_getElem? (i := 1468) (by decide +kernel)) (by decide +kernel)
theorem mc11_size : Cond.code y11_size b11_size 2 (some .int) ∈ ce_cm := ce_cm_of (List.mem_of_getElem? (i := 876) (by decide +kernel)) (by decide +kernel)
theorem ml_L_70 : Cond.methodLink R_law 70 y11_size ∈ ce_cm := ce_cm_of (List.mem_of_getElem? (i := 873) (by decide +kernel)) (by decide +kernel)
theorem mi11_size : Cond.instanceMethod y11_size ∈ ce_cm := ce_cm_of (List.mem_of_getElem? (i := 874) (by decide +kernel)) (by decide +kernel)
theorem ms11_size : Cond.selects cn_11 y11_size y11_size ∈ ce_cm := ce_cm_of (List.mem_of_getElem? (i := 875) (by decide +kernel)) (by decide +kernel)
theorem mc12_named_ : Cond.code y12_named_ b12_named_ 4 (some .int) ∈ ce_cm := ce_cm_of (List.mem_of_getElem? (i := 1461) (by decide +kernel)) (by decide +kernel)
theorem ml_L_69 : Cond.methodLink R_law 69 y12_named_ ∈ ce_cm := ce_cm_of (List.mem_of_getElem? (i := 1458) (by decide +kernel)) (by decide +kernel)
theorem mi12_named_ : Cond.instanceMethod y12_named_ ∈ ce_cm := ce_cm_of (List.mem_of_getElem? (i := 1459) (by decide +kernel)) (by decide +kernel)
theorem ms12_named_ : Cond.selects cn_12 y12_named_ y12_named_ ∈ ce_cm := ce_cm_of (List.mem_of_getElem? (i := 1460) (by decide +kernel)) (by decide +kernel)
theorem mc11_named : Cond.code y11_named b11_named 4 (some .int) ∈ ce_cm := ce_cm_of (List.mem_of_getElem? (i := 868) (by decide +kernel)) (by decide +kernel)
theorem ml_L_65 : Cond.methodLink R_law 65 y11_named ∈ ce_cm := ce_cm_of (List.mem_of_getElem? (i := 865) (by decide +kernel)) (by decide +kernel)
theorem mi11_named : Cond.instanceMethod y11_named ∈ ce_cm := ce_cm_of (List.mem_of_getElem? (i := 866) (by decide +kernel)) (by decide +kernel)
theorem ms11_named : Cond.selects cn_11 y11_named y11_named ∈ ce_cm := ce_cm_of (List.mem_of_getElem? (i := 867) (by decide +kernel)) (by decide +kernel)
theorem mc12_id : Cond.code y12_id b12_id 3 (some .int) ∈ ce_cm := ce_cm_of (List.mem_of_getElem? (i := 1449) (by decide +kernel)) (by decide +kernel)
theorem ml_L_64 : Cond.methodLink R_law 64 y12_id ∈ ce_cm := ce_cm_of (List.mem_of_getElem? (i := 1446) (by decide +kernel)) (by decide +kernel)
theorem mi12_id : Cond.instanceMethod y12_id ∈ ce_cm := ce_cm_of (List.mem_of_getElem? (i := 1447) (by decide +kernel)) (by decide +kernel)
theorem ms12_id : Cond.selects cn_12 y12_id y12_id ∈ ce_cm := ce_cm_of (List.mem_of_getElem? (i := 1448) (by decide +kernel)) (by decide +kernel)
theorem mc11_id : Cond.code y11_id b11_id 3 (some .int) ∈ ce_cm := ce_cm_of (List.mem_of_getElem? (i := 864) (by decide +kernel)) (by decide +kernel)
theorem ml_L_61 : Cond.methodLink R_law 61 y11_id ∈ ce_cm := ce_cm_of (List.mem_of_getElem? (i := 861) (by decide +kernel)) (by decide +kernel)
theorem mi11_id : Cond.instanceMethod y11_id ∈ ce_cm := ce_cm_of (List.mem_of_getElem? (i := 862) (by decide +kernel)) (by decide +kernel)
theorem ms11_id : Cond.selects cn_11 y11_id y11_id ∈ ce_cm := ce_cm_of (List.mem_of_getElem? (i := 863) (by decide +kernel)) (by decide +kernel)
theorem mc12_taken : Cond.code y12_taken b12_taken 2 (some .int) ∈ ce_cm := ce_cm_of (List.mem_of_getElem? (i := 1445) (by decide +kernel)) (by decide +kernel)
theorem ml_L_60 : Cond.methodLink R_law 60 y12_taken ∈ ce_cm := ce_cm_of (List.mem_of_getElem? (i := 1442) (by decide +kernel)) (by decide +kernel)
theorem mi12_taken : Cond.instanceMethod y12_taken ∈ ce_cm := ce_cm_of (List.mem_of_getElem? (i := 1443) (by decide +kernel)) (by decide +kernel)
theorem ms12_taken : Cond.selects cn_12 y12_taken y12_taken ∈ ce_cm := ce_cm_of (List.mem_of_getElem? (i := 1444) (by decide +kernel)) (by decide +kernel)
theorem mc11_taken : Cond.code y11_taken b11_taken 2 (some .int) ∈ ce_cm := ce_cm_of (List.mem_of_getElem? (i := 860) (by decide +kernel)) (by decide +kernel)
theorem ml_L_57 : Cond.methodLink R_law 57 y11_taken ∈ ce_cm := ce_cm_of (List.mem_of_getElem? (i := 857) (by decide +kernel)) (by decide +kernel)
theorem mi11_taken : Cond.instanceMethod y11_taken ∈ ce_cm := ce_cm_of (List.mem_of_getElem? (i := 858) (by decide +kernel)) (by decide +kernel)
theorem ms11_taken : Cond.selects cn_11 y11_taken y11_taken ∈ ce_cm := ce_cm_of (List.mem_of_getElem? (i := 859) (by decide +kernel)) (by decide +kernel)
theorem mc12_rounds : Cond.code y12_rounds b12_rounds 3 (some .int) ∈ ce_cm := ce_cm_of (List.mem_of_getElem? (i := 1441) (by decide +kernel)) (by decide +kernel)
theorem ml_L_56 : Cond.methodLink R_law 56 y12_rounds ∈ ce_cm := ce_cm_of (List.mem_of_getElem? (i := 1438) (by decide +kernel)) (by decide +kernel)
theorem mi12_rounds : Cond.instanceMethod y12_rounds ∈ ce_cm := ce_cm_of (List.mem_of_getElem? (i := 1439) (by decide +kernel)) (by decide +kernel)
theorem ms12_rounds : Cond.selects cn_12 y12_rounds y12_rounds ∈ ce_cm := ce_cm_of (List.mem_of_getElem? (i := 1440) (by decide +kernel)) (by decide +kernel)
theorem mc11_rounds : Cond.code y11_rounds b11_rounds 3 (some .int) ∈ ce_cm := ce_cm_of (List.mem_of_getElem? (i := 852) (by decide +kernel)) (by decide +kernel)
theorem ml_L_53 : Cond.methodLink R_law 53 y11_rounds ∈ ce_cm := ce_cm_of (List.mem_of_getElem? (i := 849) (by decide +kernel)) (by decide +kernel)
theorem mi11_rounds : Cond.instanceMethod y11_rounds ∈ ce_cm := ce_cm_of (List.mem_of_getElem? (i := 850) (by decide +kernel)) (by decide +kernel)
theorem ms11_rounds : Cond.selects cn_11 y11_rounds y11_rounds ∈ ce_cm := ce_cm_of (List.mem_of_getElem? (i := 851) (by decide +kernel)) (by decide +kernel)
theorem mc12_called : Cond.code y12_called b12_called 2 (some .int) ∈ ce_cm := ce_cm_of (List.mem_of_getElem? (i := 1437) (by decide +kernel)) (by decide +kernel)
theorem ml_L_52 : Cond.methodLink R_law 52 y12_called ∈ ce_cm := ce_cm_of (List.mem_of_getElem? (i := 1434) (by decide +kernel)) (by decide +kernel)
theorem mi12_called : Cond.instanceMethod y12_called ∈ ce_cm := ce_cm_of (List.mem_of_getElem? (i := 1435) (by decide +kernel)) (by decide +kernel)
theorem ms12_called : Cond.selects cn_12 y12_called y12_called ∈ ce_cm := ce_cm_of (List.mem_of_getElem? (i := 1436) (by decide +kernel)) (by decide +kernel)
theorem mc11_called : Cond.code y11_called b11_called 2 (some .int) ∈ ce_cm := ce_cm_of (List.mem_of_getElem? (i := 848) (by decide +kernel)) (by decide +kernel)
theorem ml_L_49 : Cond.methodLink R_law 49 y11_called ∈ ce_cm := ce_cm_of (List.mem_of_getElem? (i := 845) (by decide +kernel)) (by decide +kernel)
theorem mi11_called : Cond.instanceMethod y11_called ∈ ce_cm := ce_cm_of (List.mem_of_getElem? (i := 846) (by decide +kernel)) (by decide +kernel)
theorem ms11_called : Cond.selects cn_11 y11_called y11_called ∈ ce_cm := ce_cm_of (List.mem_of_getElem? (i := 847) (by decide +kernel)) (by decide +kernel)
theorem mc12_settled : Cond.code y12_settled b12_settled 3 (some .int) ∈ ce_cm := ce_cm_of (List.mem_of_getElem? (i := 1433) (by decide +kernel)) (by decide +kernel)
theorem ml_L_48 : Cond.methodLink R_law 48 y12_settled ∈ ce_cm := ce_cm_of (List.mem_of_getElem? (i := 1430) (by decide +kernel)) (by decide +kernel)
theorem mi12_settled : Cond.instanceMethod y12_settled ∈ ce_cm := ce_cm_of (List.mem_of_getElem? (i := 1431) (by decide +kernel)) (by decide +kernel)
theorem ms12_settled : Cond.selects cn_12 y12_settled y12_settled ∈ ce_cm := ce_cm_of (List.mem_of_getElem? (i := 1432) (by decide +kernel)) (by decide +kernel)
theorem mc11_settled : Cond.code y11_settled b11_settled 4 (some .int) ∈ ce_cm := ce_cm_of (List.mem_of_getElem? (i := 844) (by decide +kernel)) (by decide +kernel)
theorem ml_L_45 : Cond.methodLink R_law 45 y11_settled ∈ ce_cm := ce_cm_of (List.mem_of_getElem? (i := 841) (by decide +kernel)) (by decide +kernel)
theorem mi11_settled : Cond.instanceMethod y11_settled ∈ ce_cm := ce_cm_of (List.mem_of_getElem? (i := 842) (by decide +kernel)) (by decide +kernel)
theorem ms11_settled : Cond.selects cn_11 y11_settled y11_settled ∈ ce_cm := ce_cm_of (List.mem_of_getElem? (i := 843) (by decide +kernel)) (by decide +kernel)
theorem ml_L_44 : Cond.methodLink R_law 44 y12_root ∈ ce_cm := ce_cm_of (List.mem_of_getElem? (i := 1418) (by decide +kernel)) (by decide +kernel)
theorem mc11_root : Cond.code y11_root b11_root 3 (some .int) ∈ ce_cm := ce_cm_of (List.mem_of_getElem? (i := 814) (by decide +kernel)) (by decide +kernel)
theorem ml_L_41 : Cond.methodLink R_law 41 y11_root ∈ ce_cm := ce_cm_of (List.mem_of_getElem? (i := 811) (by decide +kernel)) (by decide +kernel)
theorem mi11_root : Cond.instanceMethod y11_root ∈ ce_cm := ce_cm_of (List.mem_of_getElem? (i := 812) (by decide +kernel)) (by decide +kernel)
theorem ms11_root : Cond.selects cn_11 y11_root y11_root ∈ ce_cm := ce_cm_of (List.mem_of_getElem? (i := 813) (by decide +kernel)) (by decide +kernel)
theorem mc12_port : Cond.code y12_port b12_port 5 (some .int) ∈ ce_cm := ce_cm_of (List.mem_of_getElem? (i := 1387) (by decide +kernel)) (by decide +kernel)
theorem ml_L_40 : Cond.methodLink R_law 40 y12_port ∈ ce_cm := ce_cm_of (List.mem_of_getElem? (i := 1384) (by decide +kernel)) (by decide +kernel)
theorem mi12_port : Cond.instanceMethod y12_port ∈ ce_cm := ce_cm_of (List.mem_of_getElem? (i := 1385) (by decide +kernel)) (by decide +kernel)
theorem ms12_port : Cond.selects cn_12 y12_port y12_port ∈ ce_cm := ce_cm_of (List.mem_of_getElem? (i := 1386) (by decide +kernel)) (by decide +kernel)
theorem mc11_port : Cond.code y11_port b11_port 6 (some .int) ∈ ce_cm := ce_cm_of (List.mem_of_getElem? (i := 803) (by decide +kernel)) (by decide +kernel)
theorem ml_L_36 : Cond.methodLink R_law 36 y11_port ∈ ce_cm := ce_cm_of (List.mem_of_getElem? (i := 800) (by decide +kernel)) (by decide +kernel)
theorem mi11_port : Cond.instanceMethod y11_port ∈ ce_cm := ce_cm_of (List.mem_of_getElem? (i := 801) (by decide +kernel)) (by decide +kernel)
theorem ms11_port : Cond.selects cn_11 y11_port y11_port ∈ ce_cm := ce_cm_of (List.mem_of_getElem? (i := 802) (by decide +kernel)) (by decide +kernel)
theorem mc12_count : Cond.code y12_count b12_count 2 (some .int) ∈ ce_cm := ce_cm_of (List.mem_of_getElem? (i := 1355) (by decide +kernel)) (by decide +kernel)
theorem ml_L_35 : Cond.methodLink R_law 35 y12_count ∈ ce_cm := ce_cm_of (List.mem_of_getElem? (i := 1352) (by decide +kernel)) (by decide +kernel)
theorem mi12_count : Cond.instanceMethod y12_count ∈ ce_cm := ce_cm_of (List.mem_of_getElem? (i := 1353) (by decide +kernel)) (by decide +kernel)
theorem ms12_count : Cond.selects cn_12 y12_count y12_count ∈ ce_cm := ce_cm_of (List.mem_of_getElem? (i := 1354) (by decide +kernel)) (by decide +kernel)
theorem mc11_count : Cond.code y11_count b11_count 2 (some .int) ∈ ce_cm := ce_cm_of (List.mem_of_getElem? (i := 799) (by decide +kernel)) (by decide +kernel)
theorem ml_L_32 : Cond.methodLink R_law 32 y11_count ∈ ce_cm := ce_cm_of (List.mem_of_getElem? (i := 796) (by decide +kernel)) (by decide +kernel)
theorem mi11_count : Cond.instanceMethod y11_count ∈ ce_cm := ce_cm_of (List.mem_of_getElem? (i := 797) (by decide +kernel)) (by decide +kernel)
theorem ms11_count : Cond.selects cn_11 y11_count y11_count ∈ ce_cm := ce_cm_of (List.mem_of_getElem? (i := 798) (by decide +kernel)) (by decide +kernel)
theorem mc12_fault : Cond.code y12_fault b12_fault 2 (some .int) ∈ ce_cm := ce_cm_of (List.mem_of_getElem? (i := 1351) (by decide +kernel)) (by decide +kernel)
theorem ml_L_31 : Cond.methodLink R_law 31 y12_fault ∈ ce_cm := ce_cm_of (List.mem_of_getElem? (i := 1348) (by decide +kernel)) (by decide +kernel)
theorem mi12_fault : Cond.instanceMethod y12_fault ∈ ce_cm := ce_cm_of (List.mem_of_getElem? (i := 1349) (by decide +kernel)) (by decide +kernel)
theorem ms12_fault : Cond.selects cn_12 y12_fault y12_fault ∈ ce_cm := ce_cm_of (List.mem_of_getElem? (i := 1350) (by decide +kernel)) (by decide +kernel)
theorem mc11_fault : Cond.code y11_fault b11_fault 2 (some .int) ∈ ce_cm := ce_cm_of (List.mem_of_getElem? (i := 795) (by decide +kernel)) (by decide +kernel)
theorem ml_L_28 : Cond.methodLink R_law 28 y11_fault ∈ ce_cm := ce_cm_of (List.mem_of_getElem? (i := 792) (by decide +kernel)) (by decide +kernel)
theorem mi11_fault : Cond.instanceMethod y11_fault ∈ ce_cm := ce_cm_of (List.mem_of_getElem? (i := 793) (by decide +kernel)) (by decide +kernel)
theorem ms11_fault : Cond.selects cn_11 y11_fault y11_fault ∈ ce_cm := ce_cm_of (List.mem_of_getElem? (i := 794) (by decide +kernel)) (by decide +kernel)
theorem mc12_net : Cond.code y12_net b12_net 2 (some .int) ∈ ce_cm := ce_cm_of (List.mem_of_getElem? (i := 1265) (by decide +kernel)) (by decide +kernel)
theorem ml_L_27 : Cond.methodLink R_law 27 y12_net ∈ ce_cm := ce_cm_of (List.mem_of_getElem? (i := 1262) (by decide +kernel)) (by decide +kernel)
theorem mi12_net : Cond.instanceMethod y12_net ∈ ce_cm := ce_cm_of (List.mem_of_getElem? (i := 1263) (by decide +kernel)) (by decide +kernel)
theorem ms12_net : Cond.selects cn_12 y12_net y12_net ∈ ce_cm := ce_cm_of (List.mem_of_getElem? (i := 1264) (by decide +kernel)) (by decide +kernel)
theorem mc11_net : Cond.code y11_net b11_net 2 (some .int) ∈ ce_cm := ce_cm_of (List.mem_of_getElem? (i := 492) (by decide +kernel)) (by decide +kernel)
theorem ml_L_23 : Cond.methodLink R_law 23 y11_net ∈ ce_cm := ce_cm_of (List.mem_of_getElem? (i := 489) (by decide +kernel)) (by decide +kernel)
theorem mi11_net : Cond.instanceMethod y11_net ∈ ce_cm := ce_cm_of (List.mem_of_getElem? (i := 490) (by decide +kernel)) (by decide +kernel)
theorem ms11_net : Cond.selects cn_11 y11_net y11_net ∈ ce_cm := ce_cm_of (List.mem_of_getElem? (i := 491) (by decide +kernel)) (by decide +kernel)
theorem mc12_end : Cond.code y12_end b12_end 2 (some .int) ∈ ce_cm := ce_cm_of (List.mem_of_getElem? (i := 1258) (by decide +kernel)) (by decide +kernel)
theorem ml_L_22 : Cond.methodLink R_law 22 y12_end ∈ ce_cm := ce_cm_of (List.mem_of_getElem? (i := 1255) (by decide +kernel)) (by decide +kernel)
theorem mi12_end : Cond.instanceMethod y12_end ∈ ce_cm := ce_cm_of (List.mem_of_getElem? (i := 1256) (by decide +kernel)) (by decide +kernel)
theorem ms12_end : Cond.selects cn_12 y12_end y12_end ∈ ce_cm := ce_cm_of (List.mem_of_getElem? (i := 1257) (by decide +kernel)) (by decide +kernel)
theorem mc11_end : Cond.code y11_end b11_end 2 (some .int) ∈ ce_cm := ce_cm_of (List.mem_of_getElem? (i := 488) (by decide +kernel)) (by decide +kernel)
theorem ml_L_18 : Cond.methodLink R_law 18 y11_end ∈ ce_cm := ce_cm_of (List.mem_of_getElem? (i := 485) (by decide +kernel)) (by decide +kernel)
theorem mi11_end : Cond.instanceMethod y11_end ∈ ce_cm := ce_cm_of (List.mem_of_getElem? (i := 486) (by decide +kernel)) (by decide +kernel)
theorem ms11_end : Cond.selects cn_11 y11_end y11_end ∈ ce_cm := ce_cm_of (List.mem_of_getElem? (i := 487) (by decide +kernel)) (by decide +kernel)
theorem mc12_feed : Cond.code y12_feed b12_feed 8 (some .int) ∈ ce_cm := ce_cm_of (List.mem_of_getElem? (i := 1254) (by decide +kernel)) (by decide +kernel)
theorem ml_L_17 : Cond.methodLink R_law 17 y12_feed ∈ ce_cm := ce_cm_of (List.mem_of_getElem? (i := 1251) (by decide +kernel)) (by decide +kernel)
theorem mi12_feed : Cond.instanceMethod y12_feed ∈ ce_cm := ce_cm_of (List.mem_of_getElem? (i := 1252) (by decide +kernel)) (by decide +kernel)
theorem ms12_feed : Cond.selects cn_12 y12_feed y12_feed ∈ ce_cm := ce_cm_of (List.mem_of_getElem? (i := 1253) (by decide +kernel)) (by decide +kernel)
theorem mc11_feed : Cond.code y11_feed b11_feed 7 (some .int) ∈ ce_cm := ce_cm_of (List.mem_of_getElem? (i := 480) (by decide +kernel)) (by decide +kernel)
theorem ml_L_13 : Cond.methodLink R_law 13 y11_feed ∈ ce_cm := ce_cm_of (List.mem_of_getElem? (i := 477) (by decide +kernel)) (by decide +kernel)
theorem mi11_feed : Cond.instanceMethod y11_feed ∈ ce_cm := ce_cm_of (List.mem_of_getElem? (i := 478) (by decide +kernel)) (by decide +kernel)
theorem ms11_feed : Cond.selects cn_11 y11_feed y11_feed ∈ ce_cm := ce_cm_of (List.mem_of_getElem? (i := 479) (by decide +kernel)) (by decide +kernel)
def law_b (F L : Nat) (xs : Nat → Int32) (x3 : Int32) (h : Hp) : Option ((Int32 × Hp) ⊕ Hp) :=
  if ((Int32.ofNat L) - (6 : Int32)) < x3 then
    some (.inr h)
  else
    if ce_in x3 L = true then
      if ((xs (x3).toNatClampNeg) &&& (63 : Int32)) = (0 : Int32) then
        if ce_in (x3 + (1 : Int32)) L = true then
          if ce_in (x3 + (2 : Int32)) L = true then
            if ce_in (x3 + (3 : Int32)) L = true then
              if ce_in (x3 + (4 : Int32)) L = true then
                if ce_in (x3 + (5 : Int32)) L = true then
                  Option.bind (f11_feed F (xs ((x3 + (1 : Int32))).toNatClampNeg) (xs ((x3 + (2 : Int32))).toNatClampNeg) (xs ((x3 + (3 : Int32))).toNatClampNeg) (xs ((x3 + (4 : Int32))).toNatClampNeg) (xs ((x3 + (5 : Int32))).toNatClampNeg) h) (fun o230 =>
                    if ce_in (x3 + (1 : Int32)) L = true then
                      if ce_in (x3 + (2 : Int32)) L = true then
                        if ce_in (x3 + (3 : Int32)) L = true then
                          if ce_in (x3 + (4 : Int32)) L = true then
                            if ce_in (x3 + (5 : Int32)) L = true then
                              Option.bind (f12_feed F (xs ((x3 + (1 : Int32))).toNatClampNeg) (xs ((x3 + (2 : Int32))).toNatClampNeg) (xs ((x3 + (3 : Int32))).toNatClampNeg) (xs ((x3 + (4 : Int32))).toNatClampNeg) (xs ((x3 + (5 : Int32))).toNatClampNeg) o230.2) (fun o259 =>
                                if o230.1 = o259.1 then
                                  some (.inl (x3 + (6 : Int32), o259.2))
                                else
                                  none)
                            else none
                          else none
                        else none
                      else none
                    else none)
                else none
              else none
            else none
          else none
        else none
      else
        if ((xs (x3).toNatClampNeg) &&& (63 : Int32)) = (1 : Int32) then
          if ce_in (x3 + (1 : Int32)) L = true then
            Option.bind (f11_end F (xs ((x3 + (1 : Int32))).toNatClampNeg) h) (fun o273 =>
              if ce_in (x3 + (1 : Int32)) L = true then
                Option.bind (f12_end F (xs ((x3 + (1 : Int32))).toNatClampNeg) o273.2) (fun o282 =>
                  if o273.1 = o282.1 then
                    some (.inl (x3 + (6 : Int32), o282.2))
                  else
                    none)
              else none)
          else none
        else
          if ((xs (x3).toNatClampNeg) &&& (63 : Int32)) = (2 : Int32) then
            Option.bind (f11_net F  h) (fun o291 =>
              Option.bind (f12_net F  o291.2) (fun o295 =>
                if o291.1 = o295.1 then
                  some (.inl (x3 + (6 : Int32), o295.2))
                else
                  none))
          else
            if ((xs (x3).toNatClampNeg) &&& (63 : Int32)) = (3 : Int32) then
              if ce_in (x3 + (1 : Int32)) L = true then
                Option.bind (f11_fault F (xs ((x3 + (1 : Int32))).toNatClampNeg) h) (fun o309 =>
                  if ce_in (x3 + (1 : Int32)) L = true then
                    Option.bind (f12_fault F (xs ((x3 + (1 : Int32))).toNatClampNeg) o309.2) (fun o318 =>
                      if o309.1 = o318.1 then
                        some (.inl (x3 + (6 : Int32), o318.2))
                      else
                        none)
                  else none)
              else none
            else
              if ((xs (x3).toNatClampNeg) &&& (63 : Int32)) = (4 : Int32) then
                if ce_in (x3 + (1 : Int32)) L = true then
                  Option.bind (f11_count F (xs ((x3 + (1 : Int32))).toNatClampNeg) h) (fun o332 =>
                    if ce_in (x3 + (1 : Int32)) L = true then
                      Option.bind (f12_count F (xs ((x3 + (1 : Int32))).toNatClampNeg) o332.2) (fun o341 =>
                        if o332.1 = o341.1 then
                          some (.inl (x3 + (6 : Int32), o341.2))
                        else
                          none)
                    else none)
                else none
              else
                if ((xs (x3).toNatClampNeg) &&& (63 : Int32)) = (5 : Int32) then
                  if ce_in (x3 + (1 : Int32)) L = true then
                    if ce_in (x3 + (2 : Int32)) L = true then
                      if ce_in (x3 + (3 : Int32)) L = true then
                        Option.bind (f11_port F (xs ((x3 + (1 : Int32))).toNatClampNeg) (xs ((x3 + (2 : Int32))).toNatClampNeg) (xs ((x3 + (3 : Int32))).toNatClampNeg) h) (fun o365 =>
                          if ce_in (x3 + (1 : Int32)) L = true then
                            if ce_in (x3 + (2 : Int32)) L = true then
                              if ce_in (x3 + (3 : Int32)) L = true then
                                Option.bind (f12_port F (xs ((x3 + (1 : Int32))).toNatClampNeg) (xs ((x3 + (2 : Int32))).toNatClampNeg) (xs ((x3 + (3 : Int32))).toNatClampNeg) o365.2) (fun o384 =>
                                  if o365.1 = o384.1 then
                                    some (.inl (x3 + (6 : Int32), o384.2))
                                  else
                                    none)
                              else none
                            else none
                          else none)
                      else none
                    else none
                  else none
                else
                  if ((xs (x3).toNatClampNeg) &&& (63 : Int32)) = (6 : Int32) then
                    if ce_in (x3 + (1 : Int32)) L = true then
                      Option.bind (f11_root F (xs ((x3 + (1 : Int32))).toNatClampNeg) h) (fun o398 =>
                        if ce_in (x3 + (1 : Int32)) L = true then
                          Option.bind (f12_root F (xs ((x3 + (1 : Int32))).toNatClampNeg) o398.2) (fun o407 =>
                            if o398.1 = o407.1 then
                              some (.inl (x3 + (6 : Int32), o407.2))
                            else
                              none)
                        else none)
                    else none
                  else
                    if ((xs (x3).toNatClampNeg) &&& (63 : Int32)) = (7 : Int32) then
                      if ce_in (x3 + (1 : Int32)) L = true then
                        Option.bind (f11_settled F (xs ((x3 + (1 : Int32))).toNatClampNeg) h) (fun o421 =>
                          if ce_in (x3 + (1 : Int32)) L = true then
                            Option.bind (f12_settled F (xs ((x3 + (1 : Int32))).toNatClampNeg) o421.2) (fun o430 =>
                              if o421.1 = o430.1 then
                                some (.inl (x3 + (6 : Int32), o430.2))
                              else
                                none)
                          else none)
                      else none
                    else
                      if ((xs (x3).toNatClampNeg) &&& (63 : Int32)) = (8 : Int32) then
                        if ce_in (x3 + (1 : Int32)) L = true then
                          Option.bind (f11_called F (xs ((x3 + (1 : Int32))).toNatClampNeg) h) (fun o444 =>
                            if ce_in (x3 + (1 : Int32)) L = true then
                              Option.bind (f12_called F (xs ((x3 + (1 : Int32))).toNatClampNeg) o444.2) (fun o453 =>
                                if o444.1 = o453.1 then
                                  some (.inl (x3 + (6 : Int32), o453.2))
                                else
                                  none)
                            else none)
                        else none
                      else
                        if ((xs (x3).toNatClampNeg) &&& (63 : Int32)) = (9 : Int32) then
                          if ce_in (x3 + (1 : Int32)) L = true then
                            Option.bind (f11_rounds F (xs ((x3 + (1 : Int32))).toNatClampNeg) h) (fun o467 =>
                              if ce_in (x3 + (1 : Int32)) L = true then
                                Option.bind (f12_rounds F (xs ((x3 + (1 : Int32))).toNatClampNeg) o467.2) (fun o476 =>
                                  if o467.1 = o476.1 then
                                    some (.inl (x3 + (6 : Int32), o476.2))
                                  else
                                    none)
                              else none)
                          else none
                        else
                          if ((xs (x3).toNatClampNeg) &&& (63 : Int32)) = (10 : Int32) then
                            if ce_in (x3 + (1 : Int32)) L = true then
                              Option.bind (f11_taken F (xs ((x3 + (1 : Int32))).toNatClampNeg) h) (fun o490 =>
                                if ce_in (x3 + (1 : Int32)) L = true then
                                  Option.bind (f12_taken F (xs ((x3 + (1 : Int32))).toNatClampNeg) o490.2) (fun o499 =>
                                    if o490.1 = o499.1 then
                                      some (.inl (x3 + (6 : Int32), o499.2))
                                    else
                                      none)
                                else none)
                            else none
                          else
                            if ((xs (x3).toNatClampNeg) &&& (63 : Int32)) = (11 : Int32) then
                              if ce_in (x3 + (1 : Int32)) L = true then
                                Option.bind (f11_id F (xs ((x3 + (1 : Int32))).toNatClampNeg) h) (fun o513 =>
                                  if ce_in (x3 + (1 : Int32)) L = true then
                                    Option.bind (f12_id F (xs ((x3 + (1 : Int32))).toNatClampNeg) o513.2) (fun o522 =>
                                      if o513.1 = o522.1 then
                                        some (.inl (x3 + (6 : Int32), o522.2))
                                      else
                                        none)
                                  else none)
                              else none
                            else
                              if ((xs (x3).toNatClampNeg) &&& (63 : Int32)) = (12 : Int32) then
                                if ce_in (x3 + (1 : Int32)) L = true then
                                  if ce_in (x3 + (2 : Int32)) L = true then
                                    Option.bind (f11_named F (xs ((x3 + (1 : Int32))).toNatClampNeg) (xs ((x3 + (2 : Int32))).toNatClampNeg) h) (fun o541 =>
                                      if ce_in (x3 + (1 : Int32)) L = true then
                                        if ce_in (x3 + (2 : Int32)) L = true then
                                          Option.bind (f12_named_ F (xs ((x3 + (1 : Int32))).toNatClampNeg) (xs ((x3 + (2 : Int32))).toNatClampNeg) o541.2) (fun o555 =>
                                            if o541.1 = o555.1 then
                                              some (.inl (x3 + (6 : Int32), o555.2))
                                            else
                                              none)
                                        else none
                                      else none)
                                  else none
                                else none
                              else
                                if ((xs (x3).toNatClampNeg) &&& (63 : Int32)) = (13 : Int32) then
                                  if ce_in (x3 + (1 : Int32)) L = true then
                                    Option.bind (f11_size F (xs ((x3 + (1 : Int32))).toNatClampNeg) h) (fun o569 =>
                                      if ce_in (x3 + (1 : Int32)) L = true then
                                        Option.bind (f12_size F (xs ((x3 + (1 : Int32))).toNatClampNeg) o569.2) (fun o578 =>
                                          if o569.1 = o578.1 then
                                            some (.inl (x3 + (6 : Int32), o578.2))
                                          else
                                            none)
                                      else none)
                                  else none
                                else
                                  if ((xs (x3).toNatClampNeg) &&& (63 : Int32)) = (14 : Int32) then
                                    if ce_in (x3 + (1 : Int32)) L = true then
                                      Option.bind (f11_parent F (xs ((x3 + (1 : Int32))).toNatClampNeg) h) (fun o592 =>
                                        if ce_in (x3 + (1 : Int32)) L = true then
                                          Option.bind (f12_parent F (xs ((x3 + (1 : Int32))).toNatClampNeg) o592.2) (fun o601 =>
                                            if o592.1 = o601.1 then
                                              some (.inl (x3 + (6 : Int32), o601.2))
                                            else
                                              none)
                                        else none)
                                    else none
                                  else
                                    if ((xs (x3).toNatClampNeg) &&& (63 : Int32)) = (15 : Int32) then
                                      if ce_in (x3 + (1 : Int32)) L = true then
                                        Option.bind (f11_depth F (xs ((x3 + (1 : Int32))).toNatClampNeg) h) (fun o615 =>
                                          if ce_in (x3 + (1 : Int32)) L = true then
                                            Option.bind (f12_depth F (xs ((x3 + (1 : Int32))).toNatClampNeg) o615.2) (fun o624 =>
                                              if o615.1 = o624.1 then
                                                some (.inl (x3 + (6 : Int32), o624.2))
                                              else
                                                none)
                                          else none)
                                      else none
                                    else
                                      if ((xs (x3).toNatClampNeg) &&& (63 : Int32)) = (16 : Int32) then
                                        if ce_in (x3 + (1 : Int32)) L = true then
                                          Option.bind (f11_below F (xs ((x3 + (1 : Int32))).toNatClampNeg) h) (fun o638 =>
                                            if ce_in (x3 + (1 : Int32)) L = true then
                                              Option.bind (f12_below F (xs ((x3 + (1 : Int32))).toNatClampNeg) o638.2) (fun o647 =>
                                                if o638.1 = o647.1 then
                                                  some (.inl (x3 + (6 : Int32), o647.2))
                                                else
                                                  none)
                                            else none)
                                        else none
                                      else
                                        if ((xs (x3).toNatClampNeg) &&& (63 : Int32)) = (17 : Int32) then
                                          if ce_in (x3 + (1 : Int32)) L = true then
                                            if ce_in (x3 + (2 : Int32)) L = true then
                                              Option.bind (f11_way F (xs ((x3 + (1 : Int32))).toNatClampNeg) (xs ((x3 + (2 : Int32))).toNatClampNeg) h) (fun o666 =>
                                                if ce_in (x3 + (1 : Int32)) L = true then
                                                  if ce_in (x3 + (2 : Int32)) L = true then
                                                    Option.bind (f12_way F (xs ((x3 + (1 : Int32))).toNatClampNeg) (xs ((x3 + (2 : Int32))).toNatClampNeg) o666.2) (fun o680 =>
                                                      if o666.1 = o680.1 then
                                                        some (.inl (x3 + (6 : Int32), o680.2))
                                                      else
                                                        none)
                                                  else none
                                                else none)
                                            else none
                                          else none
                                        else
                                          if ((xs (x3).toNatClampNeg) &&& (63 : Int32)) = (18 : Int32) then
                                            if ce_in (x3 + (1 : Int32)) L = true then
                                              if ce_in (x3 + (2 : Int32)) L = true then
                                                Option.bind (f11_hops F (xs ((x3 + (1 : Int32))).toNatClampNeg) (xs ((x3 + (2 : Int32))).toNatClampNeg) h) (fun o699 =>
                                                  if ce_in (x3 + (1 : Int32)) L = true then
                                                    if ce_in (x3 + (2 : Int32)) L = true then
                                                      Option.bind (f12_hops F (xs ((x3 + (1 : Int32))).toNatClampNeg) (xs ((x3 + (2 : Int32))).toNatClampNeg) o699.2) (fun o713 =>
                                                        if o699.1 = o713.1 then
                                                          some (.inl (x3 + (6 : Int32), o713.2))
                                                        else
                                                          none)
                                                    else none
                                                  else none)
                                              else none
                                            else none
                                          else
                                            if ((xs (x3).toNatClampNeg) &&& (63 : Int32)) = (19 : Int32) then
                                              if ce_in (x3 + (1 : Int32)) L = true then
                                                Option.bind (f11_longest F (xs ((x3 + (1 : Int32))).toNatClampNeg) h) (fun o727 =>
                                                  if ce_in (x3 + (1 : Int32)) L = true then
                                                    Option.bind (f12_longest F (xs ((x3 + (1 : Int32))).toNatClampNeg) o727.2) (fun o736 =>
                                                      if o727.1 = o736.1 then
                                                        some (.inl (x3 + (6 : Int32), o736.2))
                                                      else
                                                        none)
                                                  else none)
                                              else none
                                            else
                                              if ((xs (x3).toNatClampNeg) &&& (63 : Int32)) = (20 : Int32) then
                                                if ce_in (x3 + (1 : Int32)) L = true then
                                                  Option.bind (f11_gap F (xs ((x3 + (1 : Int32))).toNatClampNeg) h) (fun o750 =>
                                                    if ce_in (x3 + (1 : Int32)) L = true then
                                                      Option.bind (f12_gap F (xs ((x3 + (1 : Int32))).toNatClampNeg) o750.2) (fun o759 =>
                                                        if o750.1 = o759.1 then
                                                          some (.inl (x3 + (6 : Int32), o759.2))
                                                        else
                                                          none)
                                                    else none)
                                                else none
                                              else
                                                if ((xs (x3).toNatClampNeg) &&& (63 : Int32)) = (21 : Int32) then
                                                  if ce_in (x3 + (1 : Int32)) L = true then
                                                    Option.bind (f11_centre F (xs ((x3 + (1 : Int32))).toNatClampNeg) h) (fun o773 =>
                                                      if ce_in (x3 + (1 : Int32)) L = true then
                                                        Option.bind (f12_centre F (xs ((x3 + (1 : Int32))).toNatClampNeg) o773.2) (fun o782 =>
                                                          if o773.1 = o782.1 then
                                                            some (.inl (x3 + (6 : Int32), o782.2))
                                                          else
                                                            none)
                                                      else none)
                                                  else none
                                                else
                                                  if ((xs (x3).toNatClampNeg) &&& (63 : Int32)) = (22 : Int32) then
                                                    if ce_in (x3 + (1 : Int32)) L = true then
                                                      if ce_in (x3 + (2 : Int32)) L = true then
                                                        Option.bind (f11_packet F (xs ((x3 + (1 : Int32))).toNatClampNeg) (xs ((x3 + (2 : Int32))).toNatClampNeg) h) (fun o801 =>
                                                          if ce_in (x3 + (1 : Int32)) L = true then
                                                            if ce_in (x3 + (2 : Int32)) L = true then
                                                              Option.bind (f12_packet F (xs ((x3 + (1 : Int32))).toNatClampNeg) (xs ((x3 + (2 : Int32))).toNatClampNeg) o801.2) (fun o815 =>
                                                                if o801.1 = o815.1 then
                                                                  some (.inl (x3 + (6 : Int32), o815.2))
                                                                else
                                                                  none)
                                                            else none
                                                          else none)
                                                      else none
                                                    else none
                                                  else
                                                    if ((xs (x3).toNatClampNeg) &&& (63 : Int32)) = (23 : Int32) then
                                                      Option.bind (f11_packets F  h) (fun o824 =>
                                                        Option.bind (f12_packets F  o824.2) (fun o828 =>
                                                          if o824.1 = o828.1 then
                                                            some (.inl (x3 + (6 : Int32), o828.2))
                                                          else
                                                            none))
                                                    else
                                                      if ((xs (x3).toNatClampNeg) &&& (63 : Int32)) = (24 : Int32) then
                                                        if ce_in (x3 + (1 : Int32)) L = true then
                                                          if ce_in (x3 + (2 : Int32)) L = true then
                                                            Option.bind (f11_built F (xs ((x3 + (1 : Int32))).toNatClampNeg) (xs ((x3 + (2 : Int32))).toNatClampNeg) h) (fun o847 =>
                                                              if ce_in (x3 + (1 : Int32)) L = true then
                                                                if ce_in (x3 + (2 : Int32)) L = true then
                                                                  Option.bind (f12_built F (xs ((x3 + (1 : Int32))).toNatClampNeg) (xs ((x3 + (2 : Int32))).toNatClampNeg) o847.2) (fun o861 =>
                                                                    if o847.1 = o861.1 then
                                                                      some (.inl (x3 + (6 : Int32), o861.2))
                                                                    else
                                                                      none)
                                                                else none
                                                              else none)
                                                          else none
                                                        else none
                                                      else
                                                        if ((xs (x3).toNatClampNeg) &&& (63 : Int32)) = (25 : Int32) then
                                                          if ce_in (x3 + (1 : Int32)) L = true then
                                                            Option.bind (f11_unlike F (xs ((x3 + (1 : Int32))).toNatClampNeg) h) (fun o875 =>
                                                              if ce_in (x3 + (1 : Int32)) L = true then
                                                                Option.bind (f12_unlike F (xs ((x3 + (1 : Int32))).toNatClampNeg) o875.2) (fun o884 =>
                                                                  if o875.1 = o884.1 then
                                                                    some (.inl (x3 + (6 : Int32), o884.2))
                                                                  else
                                                                    none)
                                                              else none)
                                                          else none
                                                        else
                                                          if ((xs (x3).toNatClampNeg) &&& (63 : Int32)) = (26 : Int32) then
                                                            if ce_in (x3 + (1 : Int32)) L = true then
                                                              Option.bind (f11_wins F (xs ((x3 + (1 : Int32))).toNatClampNeg) h) (fun o898 =>
                                                                if ce_in (x3 + (1 : Int32)) L = true then
                                                                  Option.bind (f12_wins F (xs ((x3 + (1 : Int32))).toNatClampNeg) o898.2) (fun o907 =>
                                                                    if o898.1 = o907.1 then
                                                                      some (.inl (x3 + (6 : Int32), o907.2))
                                                                    else
                                                                      none)
                                                                else none)
                                                            else none
                                                          else
                                                            if ((xs (x3).toNatClampNeg) &&& (63 : Int32)) = (27 : Int32) then
                                                              if ce_in (x3 + (1 : Int32)) L = true then
                                                                Option.bind (f11_grant F (xs ((x3 + (1 : Int32))).toNatClampNeg) h) (fun o921 =>
                                                                  if ce_in (x3 + (1 : Int32)) L = true then
                                                                    Option.bind (f12_grant F (xs ((x3 + (1 : Int32))).toNatClampNeg) o921.2) (fun o930 =>
                                                                      if o921.1 = o930.1 then
                                                                        some (.inl (x3 + (6 : Int32), o930.2))
                                                                      else
                                                                        none)
                                                                  else none)
                                                              else none
                                                            else
                                                              if ((xs (x3).toNatClampNeg) &&& (63 : Int32)) = (28 : Int32) then
                                                                if ce_in (x3 + (1 : Int32)) L = true then
                                                                  if ce_in (x3 + (2 : Int32)) L = true then
                                                                    Option.bind (f11_turn F (xs ((x3 + (1 : Int32))).toNatClampNeg) (xs ((x3 + (2 : Int32))).toNatClampNeg) h) (fun o949 =>
                                                                      if ce_in (x3 + (1 : Int32)) L = true then
                                                                        if ce_in (x3 + (2 : Int32)) L = true then
                                                                          Option.bind (f12_turn F (xs ((x3 + (1 : Int32))).toNatClampNeg) (xs ((x3 + (2 : Int32))).toNatClampNeg) o949.2) (fun o963 =>
                                                                            if o949.1 = o963.1 then
                                                                              some (.inl (x3 + (6 : Int32), o963.2))
                                                                            else
                                                                              none)
                                                                        else none
                                                                      else none)
                                                                  else none
                                                                else none
                                                              else
                                                                if ((xs (x3).toNatClampNeg) &&& (63 : Int32)) = (29 : Int32) then
                                                                  if ce_in (x3 + (1 : Int32)) L = true then
                                                                    Option.bind (f11_fair F (xs ((x3 + (1 : Int32))).toNatClampNeg) h) (fun o977 =>
                                                                      if ce_in (x3 + (1 : Int32)) L = true then
                                                                        Option.bind (f12_fair F (xs ((x3 + (1 : Int32))).toNatClampNeg) o977.2) (fun o986 =>
                                                                          if o977.1 = o986.1 then
                                                                            some (.inl (x3 + (6 : Int32), o986.2))
                                                                          else
                                                                            none)
                                                                      else none)
                                                                  else none
                                                                else
                                                                  if ((xs (x3).toNatClampNeg) &&& (63 : Int32)) = (30 : Int32) then
                                                                    if ce_in (x3 + (1 : Int32)) L = true then
                                                                      Option.bind (f11_rootBy F (xs ((x3 + (1 : Int32))).toNatClampNeg) h) (fun o1000 =>
                                                                        if ce_in (x3 + (1 : Int32)) L = true then
                                                                          Option.bind (f12_rootBy F (xs ((x3 + (1 : Int32))).toNatClampNeg) o1000.2) (fun o1009 =>
                                                                            if o1000.1 = o1009.1 then
                                                                              some (.inl (x3 + (6 : Int32), o1009.2))
                                                                            else
                                                                              none)
                                                                        else none)
                                                                    else none
                                                                  else
                                                                    if ((xs (x3).toNatClampNeg) &&& (63 : Int32)) = (31 : Int32) then
                                                                      if ce_in (x3 + (1 : Int32)) L = true then
                                                                        if ce_in (x3 + (2 : Int32)) L = true then
                                                                          Option.bind (f11_cutting F (xs ((x3 + (1 : Int32))).toNatClampNeg) (xs ((x3 + (2 : Int32))).toNatClampNeg) h) (fun o1028 =>
                                                                            if ce_in (x3 + (1 : Int32)) L = true then
                                                                              if ce_in (x3 + (2 : Int32)) L = true then
                                                                                Option.bind (f12_cutting F (xs ((x3 + (1 : Int32))).toNatClampNeg) (xs ((x3 + (2 : Int32))).toNatClampNeg) o1028.2) (fun o1042 =>
                                                                                  if o1028.1 = o1042.1 then
                                                                                    some (.inl (x3 + (6 : Int32), o1042.2))
                                                                                  else
                                                                                    none)
                                                                              else none
                                                                            else none)
                                                                        else none
                                                                      else none
                                                                    else
                                                                      if ((xs (x3).toNatClampNeg) &&& (63 : Int32)) = (32 : Int32) then
                                                                        Option.bind (f11_bridges F  h) (fun o1051 =>
                                                                          Option.bind (f12_bridges F  o1051.2) (fun o1055 =>
                                                                            if o1051.1 = o1055.1 then
                                                                              some (.inl (x3 + (6 : Int32), o1055.2))
                                                                            else
                                                                              none))
                                                                      else
                                                                        if ((xs (x3).toNatClampNeg) &&& (63 : Int32)) = (33 : Int32) then
                                                                          if ce_in (x3 + (1 : Int32)) L = true then
                                                                            Option.bind (f11_spare F (xs ((x3 + (1 : Int32))).toNatClampNeg) h) (fun o1069 =>
                                                                              if ce_in (x3 + (1 : Int32)) L = true then
                                                                                Option.bind (f12_spare F (xs ((x3 + (1 : Int32))).toNatClampNeg) o1069.2) (fun o1078 =>
                                                                                  if o1069.1 = o1078.1 then
                                                                                    some (.inl (x3 + (6 : Int32), o1078.2))
                                                                                  else
                                                                                    none)
                                                                              else none)
                                                                          else none
                                                                        else
                                                                          if ((xs (x3).toNatClampNeg) &&& (63 : Int32)) = (34 : Int32) then
                                                                            if ce_in (x3 + (1 : Int32)) L = true then
                                                                              if ce_in (x3 + (2 : Int32)) L = true then
                                                                                if ce_in (x3 + (3 : Int32)) L = true then
                                                                                  if ce_in (x3 + (4 : Int32)) L = true then
                                                                                    if ce_in (x3 + (5 : Int32)) L = true then
                                                                                      Option.bind (f11_plug F (xs ((x3 + (1 : Int32))).toNatClampNeg) (xs ((x3 + (2 : Int32))).toNatClampNeg) (xs ((x3 + (3 : Int32))).toNatClampNeg) (xs ((x3 + (4 : Int32))).toNatClampNeg) (xs ((x3 + (5 : Int32))).toNatClampNeg) h) (fun o1112 =>
                                                                                        if ce_in (x3 + (1 : Int32)) L = true then
                                                                                          if ce_in (x3 + (2 : Int32)) L = true then
                                                                                            if ce_in (x3 + (3 : Int32)) L = true then
                                                                                              if ce_in (x3 + (4 : Int32)) L = true then
                                                                                                if ce_in (x3 + (5 : Int32)) L = true then
                                                                                                  Option.bind (f12_plug F (xs ((x3 + (1 : Int32))).toNatClampNeg) (xs ((x3 + (2 : Int32))).toNatClampNeg) (xs ((x3 + (3 : Int32))).toNatClampNeg) (xs ((x3 + (4 : Int32))).toNatClampNeg) (xs ((x3 + (5 : Int32))).toNatClampNeg) o1112.2) (fun o1141 =>
                                                                                                    if o1112.1 = o1141.1 then
                                                                                                      some (.inl (x3 + (6 : Int32), o1141.2))
                                                                                                    else
                                                                                                      none)
                                                                                                else none
                                                                                              else none
                                                                                            else none
                                                                                          else none
                                                                                        else none)
                                                                                    else none
                                                                                  else none
                                                                                else none
                                                                              else none
                                                                            else none
                                                                          else
                                                                            if ((xs (x3).toNatClampNeg) &&& (63 : Int32)) = (35 : Int32) then
                                                                              if ce_in (x3 + (1 : Int32)) L = true then
                                                                                if ce_in (x3 + (2 : Int32)) L = true then
                                                                                  Option.bind (f11_pull F (xs ((x3 + (1 : Int32))).toNatClampNeg) (xs ((x3 + (2 : Int32))).toNatClampNeg) h) (fun o1160 =>
                                                                                    if ce_in (x3 + (1 : Int32)) L = true then
                                                                                      if ce_in (x3 + (2 : Int32)) L = true then
                                                                                        Option.bind (f12_pull F (xs ((x3 + (1 : Int32))).toNatClampNeg) (xs ((x3 + (2 : Int32))).toNatClampNeg) o1160.2) (fun o1174 =>
                                                                                          if o1160.1 = o1174.1 then
                                                                                            some (.inl (x3 + (6 : Int32), o1174.2))
                                                                                          else
                                                                                            none)
                                                                                      else none
                                                                                    else none)
                                                                                else none
                                                                              else none
                                                                            else
                                                                              if ((xs (x3).toNatClampNeg) &&& (63 : Int32)) = (36 : Int32) then
                                                                                if ce_in (x3 + (1 : Int32)) L = true then
                                                                                  if ce_in (x3 + (2 : Int32)) L = true then
                                                                                    Option.bind (f11_force F (xs ((x3 + (1 : Int32))).toNatClampNeg) (xs ((x3 + (2 : Int32))).toNatClampNeg) h) (fun o1193 =>
                                                                                      if ce_in (x3 + (1 : Int32)) L = true then
                                                                                        if ce_in (x3 + (2 : Int32)) L = true then
                                                                                          Option.bind (f12_force F (xs ((x3 + (1 : Int32))).toNatClampNeg) (xs ((x3 + (2 : Int32))).toNatClampNeg) o1193.2) (fun o1207 =>
                                                                                            if o1193.1 = o1207.1 then
                                                                                              some (.inl (x3 + (6 : Int32), o1207.2))
                                                                                            else
                                                                                              none)
                                                                                        else none
                                                                                      else none)
                                                                                  else none
                                                                                else none
                                                                              else
                                                                                if ((xs (x3).toNatClampNeg) &&& (63 : Int32)) = (37 : Int32) then
                                                                                  Option.bind (f11_undo F  h) (fun o1216 =>
                                                                                    Option.bind (f12_undo F  o1216.2) (fun o1220 =>
                                                                                      if o1216.1 = o1220.1 then
                                                                                        some (.inl (x3 + (6 : Int32), o1220.2))
                                                                                      else
                                                                                        none))
                                                                                else
                                                                                  if ((xs (x3).toNatClampNeg) &&& (63 : Int32)) = (38 : Int32) then
                                                                                    Option.bind (f11_anew F  h) (fun o1229 =>
                                                                                      Option.bind (f12_anew F  o1229.2) (fun o1233 =>
                                                                                        if o1229.1 = o1233.1 then
                                                                                          some (.inl (x3 + (6 : Int32), o1233.2))
                                                                                        else
                                                                                          none))
                                                                                  else
                                                                                    some (.inl (x3 + (6 : Int32), h))
    else none
set_option maxHeartbeats 8000000 in
set_option maxRecDepth 100000 in
theorem law_loop {p : Program} {l : Launch} {e0 : Env} {s : State} {m : MethodId} {below : List Frame} {meth : Method} {c : Code} {D : va_G} {ad : Nat → Nat} {cA : Nat → ClassId} {aK aV : Nat → Nat} {b L : Nat} {xs : Nat → Int32} (C : ce_Cx p s m #[Value.ref b] c meth code 4 ret R_law D ad cA s.heap.size (ce_St aK aV s.heap.size)) (hX : va_X b L xs s s.heap) (hbl : b < s.heap.size) (F : Nat) :
    ∀ (n t : Nat) (x3 : Int32) (h : Hp) (H : Heap) (locs : List Loc) (ls : Array Slot) (r : Hp), n + t ≤ 600 → ce_H D ad cA s.heap.size [] s h H locs → lv_has ls 4 [(0, .ref b), (1, .ref (ad 0)), (2, .ref (ad 68)), (3, .int x3)] → Option.bind (ce_it (fun (st : Int32 × Hp) => law_b F L xs st.1 st.2) n (x3, h)) some = some r → W p l e0 room_1 s m #[Value.ref b] below meth c H locs (96 + t) (5568 + 5 * t) (lw_Z below #[Value.ref b] s) (F0 m 18 ls []) := by
  intro n
  induction n with
  | zero =>
    intro t x3 h H locs ls r hnt hH hl e
    exact absurd e (fun z => by cases z)
  | succ n ih =>
    intro t x3 h H locs ls r hnt hH hl e
    have hx := C.1
    have hb := C.2.1
    have e : Option.bind (law_b F L xs x3 h) _ = some r := ce_it_bd e
    unfold law_b at e
    refine lv_iload_n hx hb d_law_18 rfl (lv_at hl 3 rfl) ?_
    refine lv_aload_n hx hb d_law_19 rfl (lv_at hl 0 rfl) ?_
    refine va_slen hx hb hX hbl (Nat.not_le.mpr hbl) hH.2.2 d_law_20 ?_
    refine lv_bipush (v := (6 : Int32)) hx hb d_law_21 (by decide) ?_
    refine lv_isub hx hb d_law_23 ?_
    refine lv_icmp_gt (tgt := 1247) hx hb d_law_24 (by decide) (fun hc24 => ?_) (fun hc24 => ?_)
    · have e := ce_if1 e hc24
      refine lv_iconst (v := 1) hx hb d_law_1247 (by decide) ?_
      refine va_forget (fun q hq => hH.2.2.2.2 q hq) ?_
      refine W.widen (k := 600000) (n := 7302250) (by omega) (by omega) ?_
      exact lw_ret hx hb C.2.2.2.2.2.2.2.2.1 C.2.2.2.2.2.2.2.2.2.1 d_law_1248
    · have e := ce_if0 e hc24
      refine lv_aload_n hx hb d_law_27 rfl (lv_at hl 0 rfl) ?_
      refine lv_iload_n hx hb d_law_28 rfl (lv_at hl 3 rfl) ?_
      obtain ⟨hi29, e⟩ := ce_gd e
      refine va_sld hx hb hX hbl (Nat.not_le.mpr hbl) hH.2.2 (ce_in_vp hi29) d_law_29 ?_
      refine lv_bipush (v := (63 : Int32)) hx hb d_law_30 (by decide) ?_
      refine lv_iand hx hb d_law_32 ?_
      by_cases hc33_0 : ((xs (x3).toNatClampNeg) &&& (63 : Int32)) = (0 : Int32)
      · have e := ce_if1 e hc33_0
        refine lv_tableIn (off := 171) (tgt := 204) hx hb d_law_33 (by rw [hc33_0]; decide) (by rw [hc33_0]; decide) (by rw [hc33_0]; rfl) (by decide) ?_
        refine lv_aload_n hx hb d_law_204 rfl (lv_at hl 1 rfl) ?_
        refine lv_aload_n hx hb d_law_205 rfl (lv_at hl 0 rfl) ?_
        refine lv_iload_n hx hb d_law_206 rfl (lv_at hl 3 rfl) ?_
        refine lv_iconst (v := (1 : Int32)) hx hb d_law_207 (by decide) ?_
        refine lv_iadd hx hb d_law_208 ?_
        obtain ⟨hi209, e⟩ := ce_gd e
        refine va_sld hx hb hX hbl (Nat.not_le.mpr hbl) hH.2.2 (ce_in_vp hi209) d_law_209 ?_
        refine lv_aload_n hx hb d_law_210 rfl (lv_at hl 0 rfl) ?_
        refine lv_iload_n hx hb d_law_211 rfl (lv_at hl 3 rfl) ?_
        refine lv_iconst (v := (2 : Int32)) hx hb d_law_212 (by decide) ?_
        refine lv_iadd hx hb d_law_213 ?_
        obtain ⟨hi214, e⟩ := ce_gd e
        refine va_sld hx hb hX hbl (Nat.not_le.mpr hbl) hH.2.2 (ce_in_vp hi214) d_law_214 ?_
        refine lv_aload_n hx hb d_law_215 rfl (lv_at hl 0 rfl) ?_
        refine lv_iload_n hx hb d_law_216 rfl (lv_at hl 3 rfl) ?_
        refine lv_iconst (v := (3 : Int32)) hx hb d_law_217 (by decide) ?_
        refine lv_iadd hx hb d_law_218 ?_
        obtain ⟨hi219, e⟩ := ce_gd e
        refine va_sld hx hb hX hbl (Nat.not_le.mpr hbl) hH.2.2 (ce_in_vp hi219) d_law_219 ?_
        refine lv_aload_n hx hb d_law_220 rfl (lv_at hl 0 rfl) ?_
        refine lv_iload_n hx hb d_law_221 rfl (lv_at hl 3 rfl) ?_
        refine lv_iconst (v := (4 : Int32)) hx hb d_law_222 (by decide) ?_
        refine lv_iadd hx hb d_law_223 ?_
        obtain ⟨hi224, e⟩ := ce_gd e
        refine va_sld hx hb hX hbl (Nat.not_le.mpr hbl) hH.2.2 (ce_in_vp hi224) d_law_224 ?_
        refine lv_aload_n hx hb d_law_225 rfl (lv_at hl 0 rfl) ?_
        refine lv_iload_n hx hb d_law_226 rfl (lv_at hl 3 rfl) ?_
        refine lv_iconst (v := (5 : Int32)) hx hb d_law_227 (by decide) ?_
        refine lv_iadd hx hb d_law_228 ?_
        obtain ⟨hi229, e⟩ := ce_gd e
        refine va_sld hx hb hX hbl (Nat.not_le.mpr hbl) hH.2.2 (ce_in_vp hi229) d_law_229 ?_
        obtain ⟨o230, eo230, e⟩ := ce_bd e
        refine ce_callV (As := [.int (xs ((x3 + (1 : Int32))).toNatClampNeg), .int (xs ((x3 + (2 : Int32))).toNatClampNeg), .int (xs ((x3 + (3 : Int32))).toNatClampNeg), .int (xs ((x3 + (4 : Int32))).toNatClampNeg), .int (xs ((x3 + (5 : Int32))).toNatClampNeg)]) (rest := []) C (ce_sok aK aV s.heap.size) hH (c11_feed l D ad cA aK aV s.heap.size C.2.2.2.2.2.2.1 F (xs ((x3 + (1 : Int32))).toNatClampNeg) (xs ((x3 + (2 : Int32))).toNatClampNeg) (xs ((x3 + (3 : Int32))).toNatClampNeg) (xs ((x3 + (4 : Int32))).toNatClampNeg) (xs ((x3 + (5 : Int32))).toNatClampNeg)  h o230 eo230) lo_0.1 lo_0.2.choose_spec rfl rfl mc11_feed ml_L_13 mi11_feed ms11_feed mI_11 (n := 5) (by decide) rfl ⟨Nat.le_of_ble_eq_true rfl, Nat.le_of_ble_eq_true rfl⟩ ⟨show 96 + t + 0 ≤ 600000 by omega, show 5568 + 5 * t + 0 ≤ 7302250 by omega⟩ hl.1 rfl (Nat.le_of_ble_eq_true rfl) d_law_230 (fun H locs hH => ?_)
        refine W.eq (g2 := F0 m 233 ls [.int o230.1]) rfl ?_
        refine lv_aload_n hx hb d_law_233 rfl (lv_at hl 2 rfl) ?_
        refine lv_aload_n hx hb d_law_234 rfl (lv_at hl 0 rfl) ?_
        refine lv_iload_n hx hb d_law_235 rfl (lv_at hl 3 rfl) ?_
        refine lv_iconst (v := (1 : Int32)) hx hb d_law_236 (by decide) ?_
        refine lv_iadd hx hb d_law_237 ?_
        obtain ⟨hi238, e⟩ := ce_gd e
        refine va_sld hx hb hX hbl (Nat.not_le.mpr hbl) hH.2.2 (ce_in_vp hi238) d_law_238 ?_
        refine lv_aload_n hx hb d_law_239 rfl (lv_at hl 0 rfl) ?_
        refine lv_iload_n hx hb d_law_240 rfl (lv_at hl 3 rfl) ?_
        refine lv_iconst (v := (2 : Int32)) hx hb d_law_241 (by decide) ?_
        refine lv_iadd hx hb d_law_242 ?_
        obtain ⟨hi243, e⟩ := ce_gd e
        refine va_sld hx hb hX hbl (Nat.not_le.mpr hbl) hH.2.2 (ce_in_vp hi243) d_law_243 ?_
        refine lv_aload_n hx hb d_law_244 rfl (lv_at hl 0 rfl) ?_
        refine lv_iload_n hx hb d_law_245 rfl (lv_at hl 3 rfl) ?_
        refine lv_iconst (v := (3 : Int32)) hx hb d_law_246 (by decide) ?_
        refine lv_iadd hx hb d_law_247 ?_
        obtain ⟨hi248, e⟩ := ce_gd e
        refine va_sld hx hb hX hbl (Nat.not_le.mpr hbl) hH.2.2 (ce_in_vp hi248) d_law_248 ?_
        refine lv_aload_n hx hb d_law_249 rfl (lv_at hl 0 rfl) ?_
        refine lv_iload_n hx hb d_law_250 rfl (lv_at hl 3 rfl) ?_
        refine lv_iconst (v := (4 : Int32)) hx hb d_law_251 (by decide) ?_
        refine lv_iadd hx hb d_law_252 ?_
        obtain ⟨hi253, e⟩ := ce_gd e
        refine va_sld hx hb hX hbl (Nat.not_le.mpr hbl) hH.2.2 (ce_in_vp hi253) d_law_253 ?_
        refine lv_aload_n hx hb d_law_254 rfl (lv_at hl 0 rfl) ?_
        refine lv_iload_n hx hb d_law_255 rfl (lv_at hl 3 rfl) ?_
        refine lv_iconst (v := (5 : Int32)) hx hb d_law_256 (by decide) ?_
        refine lv_iadd hx hb d_law_257 ?_
        obtain ⟨hi258, e⟩ := ce_gd e
        refine va_sld hx hb hX hbl (Nat.not_le.mpr hbl) hH.2.2 (ce_in_vp hi258) d_law_258 ?_
        obtain ⟨o259, eo259, e⟩ := ce_bd e
        refine ce_callV (As := [.int (xs ((x3 + (1 : Int32))).toNatClampNeg), .int (xs ((x3 + (2 : Int32))).toNatClampNeg), .int (xs ((x3 + (3 : Int32))).toNatClampNeg), .int (xs ((x3 + (4 : Int32))).toNatClampNeg), .int (xs ((x3 + (5 : Int32))).toNatClampNeg)]) (rest := [.int o230.1]) C (ce_sok aK aV s.heap.size) hH (c12_feed l D ad cA aK aV s.heap.size C.2.2.2.2.2.2.1 F (xs ((x3 + (1 : Int32))).toNatClampNeg) (xs ((x3 + (2 : Int32))).toNatClampNeg) (xs ((x3 + (3 : Int32))).toNatClampNeg) (xs ((x3 + (4 : Int32))).toNatClampNeg) (xs ((x3 + (5 : Int32))).toNatClampNeg)  o230.2 o259 eo259) lo_68.1 lo_68.2.choose_spec rfl rfl mc12_feed ml_L_17 mi12_feed ms12_feed mI_12 (n := 5) (by decide) rfl ⟨Nat.le_of_ble_eq_true rfl, Nat.le_of_ble_eq_true rfl⟩ ⟨show 96 + t + 1 ≤ 600000 by omega, show 5568 + 5 * t + 5 ≤ 7302250 by omega⟩ hl.1 rfl (Nat.le_of_ble_eq_true rfl) d_law_259 (fun H locs hH => ?_)
        refine W.eq (g2 := F0 m 262 ls [.int o259.1, .int o230.1]) rfl ?_
        refine lv_icmp_eq (tgt := 1241) hx hb d_law_262 (by decide) (fun hc262 => ?_) (fun hc262 => ?_)
        · have e := ce_if1 e hc262
          refine lv_iinc (v := x3 + (6 : Int32)) (lv' := [(3, .int (x3 + (6 : Int32))), (0, .ref b), (1, .ref (ad 0)), (2, .ref (ad 68))]) hx hb d_law_1241 hl (k := 3) rfl rfl (by decide) rfl (fun ls hl => ?_)
          refine lv_goto (tgt := 18) hx hb d_law_1244 (by decide) ?_
          refine W.widen (k := 96 + (t + 1)) (n := 5568 + 5 * (t + 1)) (by omega) (by omega) ?_
          exact ih (t + 1) (x3 + (6 : Int32)) o259.2 _ _ _ r (by omega) hH (lv_sub hl [1, 2, 3, 0] rfl) e
        · have e := ce_if0 e hc262
          refine lv_iconst (v := (0 : Int32)) hx hb d_law_265 (by decide) ?_
          exact absurd e (fun z => by cases z)
      · have e := ce_if0 e hc33_0
        by_cases hc33_1 : ((xs (x3).toNatClampNeg) &&& (63 : Int32)) = (1 : Int32)
        · have e := ce_if1 e hc33_1
          refine lv_tableIn (off := 234) (tgt := 267) hx hb d_law_33 (by rw [hc33_1]; decide) (by rw [hc33_1]; decide) (by rw [hc33_1]; rfl) (by decide) ?_
          refine lv_aload_n hx hb d_law_267 rfl (lv_at hl 1 rfl) ?_
          refine lv_aload_n hx hb d_law_268 rfl (lv_at hl 0 rfl) ?_
          refine lv_iload_n hx hb d_law_269 rfl (lv_at hl 3 rfl) ?_
          refine lv_iconst (v := (1 : Int32)) hx hb d_law_270 (by decide) ?_
          refine lv_iadd hx hb d_law_271 ?_
          obtain ⟨hi272, e⟩ := ce_gd e
          refine va_sld hx hb hX hbl (Nat.not_le.mpr hbl) hH.2.2 (ce_in_vp hi272) d_law_272 ?_
          obtain ⟨o273, eo273, e⟩ := ce_bd e
          refine ce_callV (As := [.int (xs ((x3 + (1 : Int32))).toNatClampNeg)]) (rest := []) C (ce_sok aK aV s.heap.size) hH (c11_end l D ad cA aK aV s.heap.size C.2.2.2.2.2.2.1 F (xs ((x3 + (1 : Int32))).toNatClampNeg)  h o273 eo273) lo_0.1 lo_0.2.choose_spec rfl rfl mc11_end ml_L_18 mi11_end ms11_end mI_11 (n := 1) (by decide) rfl ⟨Nat.le_of_ble_eq_true rfl, Nat.le_of_ble_eq_true rfl⟩ ⟨show 96 + t + 0 ≤ 600000 by omega, show 5568 + 5 * t + 0 ≤ 7302250 by omega⟩ hl.1 rfl (Nat.le_of_ble_eq_true rfl) d_law_273 (fun H locs hH => ?_)
          refine W.eq (g2 := F0 m 276 ls [.int o273.1]) rfl ?_
          refine lv_aload_n hx hb d_law_276 rfl (lv_at hl 2 rfl) ?_
          refine lv_aload_n hx hb d_law_277 rfl (lv_at hl 0 rfl) ?_
          refine lv_iload_n hx hb d_law_278 rfl (lv_at hl 3 rfl) ?_
          refine lv_iconst (v := (1 : Int32)) hx hb d_law_279 (by decide) ?_
          refine lv_iadd hx hb d_law_280 ?_
          obtain ⟨hi281, e⟩ := ce_gd e
          refine va_sld hx hb hX hbl (Nat.not_le.mpr hbl) hH.2.2 (ce_in_vp hi281) d_law_281 ?_
          obtain ⟨o282, eo282, e⟩ := ce_bd e
          refine ce_callV (As := [.int (xs ((x3 + (1 : Int32))).toNatClampNeg)]) (rest := [.int o273.1]) C (ce_sok aK aV s.heap.size) hH (c12_end l D ad cA aK aV s.heap.size C.2.2.2.2.2.2.1 F (xs ((x3 + (1 : Int32))).toNatClampNeg)  o273.2 o282 eo282) lo_68.1 lo_68.2.choose_spec rfl rfl mc12_end ml_L_22 mi12_end ms12_end mI_12 (n := 1) (by decide) rfl ⟨Nat.le_of_ble_eq_true rfl, Nat.le_of_ble_eq_true rfl⟩ ⟨show 96 + t + 0 ≤ 600000 by omega, show 5568 + 5 * t + 0 ≤ 7302250 by omega⟩ hl.1 rfl (Nat.le_of_ble_eq_true rfl) d_law_282 (fun H locs hH => ?_)
          refine W.eq (g2 := F0 m 285 ls [.int o282.1, .int o273.1]) rfl ?_
          refine lv_icmp_eq (tgt := 1241) hx hb d_law_285 (by decide) (fun hc285 => ?_) (fun hc285 => ?_)
          · have e := ce_if1 e hc285
            refine lv_iinc (v := x3 + (6 : Int32)) (lv' := [(3, .int (x3 + (6 : Int32))), (0, .ref b), (1, .ref (ad 0)), (2, .ref (ad 68))]) hx hb d_law_1241 hl (k := 3) rfl rfl (by decide) rfl (fun ls hl => ?_)
            refine lv_goto (tgt := 18) hx hb d_law_1244 (by decide) ?_
            refine W.widen (k := 96 + (t + 1)) (n := 5568 + 5 * (t + 1)) (by omega) (by omega) ?_
            exact ih (t + 1) (x3 + (6 : Int32)) o282.2 _ _ _ r (by omega) hH (lv_sub hl [1, 2, 3, 0] rfl) e
          · have e := ce_if0 e hc285
            refine lv_iconst (v := (0 : Int32)) hx hb d_law_288 (by decide) ?_
            exact absurd e (fun z => by cases z)
        · have e := ce_if0 e hc33_1
          by_cases hc33_2 : ((xs (x3).toNatClampNeg) &&& (63 : Int32)) = (2 : Int32)
          · have e := ce_if1 e hc33_2
            refine lv_tableIn (off := 257) (tgt := 290) hx hb d_law_33 (by rw [hc33_2]; decide) (by rw [hc33_2]; decide) (by rw [hc33_2]; rfl) (by decide) ?_
            refine lv_aload_n hx hb d_law_290 rfl (lv_at hl 1 rfl) ?_
            obtain ⟨o291, eo291, e⟩ := ce_bd e
            refine ce_callV (As := []) (rest := []) C (ce_sok aK aV s.heap.size) hH (c11_net l D ad cA aK aV s.heap.size C.2.2.2.2.2.2.1 F   h o291 eo291) lo_0.1 lo_0.2.choose_spec rfl rfl mc11_net ml_L_23 mi11_net ms11_net mI_11 (n := 0) (by decide) rfl ⟨Nat.le_of_ble_eq_true rfl, Nat.le_of_ble_eq_true rfl⟩ ⟨show 96 + t + 0 ≤ 600000 by omega, show 5568 + 5 * t + 0 ≤ 7302250 by omega⟩ hl.1 rfl (Nat.le_of_ble_eq_true rfl) d_law_291 (fun H locs hH => ?_)
            refine W.eq (g2 := F0 m 294 ls [.int o291.1]) rfl ?_
            refine lv_aload_n hx hb d_law_294 rfl (lv_at hl 2 rfl) ?_
            obtain ⟨o295, eo295, e⟩ := ce_bd e
            refine ce_callV (As := []) (rest := [.int o291.1]) C (ce_sok aK aV s.heap.size) hH (c12_net l D ad cA aK aV s.heap.size C.2.2.2.2.2.2.1 F   o291.2 o295 eo295) lo_68.1 lo_68.2.choose_spec rfl rfl mc12_net ml_L_27 mi12_net ms12_net mI_12 (n := 0) (by decide) rfl ⟨Nat.le_of_ble_eq_true rfl, Nat.le_of_ble_eq_true rfl⟩ ⟨show 96 + t + 0 ≤ 600000 by omega, show 5568 + 5 * t + 0 ≤ 7302250 by omega⟩ hl.1 rfl (Nat.le_of_ble_eq_true rfl) d_law_295 (fun H locs hH => ?_)
            refine W.eq (g2 := F0 m 298 ls [.int o295.1, .int o291.1]) rfl ?_
            refine lv_icmp_eq (tgt := 1241) hx hb d_law_298 (by decide) (fun hc298 => ?_) (fun hc298 => ?_)
            · have e := ce_if1 e hc298
              refine lv_iinc (v := x3 + (6 : Int32)) (lv' := [(3, .int (x3 + (6 : Int32))), (0, .ref b), (1, .ref (ad 0)), (2, .ref (ad 68))]) hx hb d_law_1241 hl (k := 3) rfl rfl (by decide) rfl (fun ls hl => ?_)
              refine lv_goto (tgt := 18) hx hb d_law_1244 (by decide) ?_
              refine W.widen (k := 96 + (t + 1)) (n := 5568 + 5 * (t + 1)) (by omega) (by omega) ?_
              exact ih (t + 1) (x3 + (6 : Int32)) o295.2 _ _ _ r (by omega) hH (lv_sub hl [1, 2, 3, 0] rfl) e
            · have e := ce_if0 e hc298
              refine lv_iconst (v := (0 : Int32)) hx hb d_law_301 (by decide) ?_
              exact absurd e (fun z => by cases z)
          · have e := ce_if0 e hc33_2
            by_cases hc33_3 : ((xs (x3).toNatClampNeg) &&& (63 : Int32)) = (3 : Int32)
            · have e := ce_if1 e hc33_3
              refine lv_tableIn (off := 270) (tgt := 303) hx hb d_law_33 (by rw [hc33_3]; decide) (by rw [hc33_3]; decide) (by rw [hc33_3]; rfl) (by decide) ?_
              refine lv_aload_n hx hb d_law_303 rfl (lv_at hl 1 rfl) ?_
              refine lv_aload_n hx hb d_law_304 rfl (lv_at hl 0 rfl) ?_
              refine lv_iload_n hx hb d_law_305 rfl (lv_at hl 3 rfl) ?_
              refine lv_iconst (v := (1 : Int32)) hx hb d_law_306 (by decide) ?_
              refine lv_iadd hx hb d_law_307 ?_
              obtain ⟨hi308, e⟩ := ce_gd e
              refine va_sld hx hb hX hbl (Nat.not_le.mpr hbl) hH.2.2 (ce_in_vp hi308) d_law_308 ?_
              obtain ⟨o309, eo309, e⟩ := ce_bd e
              refine ce_callV (As := [.int (xs ((x3 + (1 : Int32))).toNatClampNeg)]) (rest := []) C (ce_sok aK aV s.heap.size) hH (c11_fault l D ad cA aK aV s.heap.size C.2.2.2.2.2.2.1 F (xs ((x3 + (1 : Int32))).toNatClampNeg)  h o309 eo309) lo_0.1 lo_0.2.choose_spec rfl rfl mc11_fault ml_L_28 mi11_fault ms11_fault mI_11 (n := 1) (by decide) rfl ⟨Nat.le_of_ble_eq_true rfl, Nat.le_of_ble_eq_true rfl⟩ ⟨show 96 + t + 0 ≤ 600000 by omega, show 5568 + 5 * t + 0 ≤ 7302250 by omega⟩ hl.1 rfl (Nat.le_of_ble_eq_true rfl) d_law_309 (fun H locs hH => ?_)
              refine W.eq (g2 := F0 m 312 ls [.int o309.1]) rfl ?_
              refine lv_aload_n hx hb d_law_312 rfl (lv_at hl 2 rfl) ?_
              refine lv_aload_n hx hb d_law_313 rfl (lv_at hl 0 rfl) ?_
              refine lv_iload_n hx hb d_law_314 rfl (lv_at hl 3 rfl) ?_
              refine lv_iconst (v := (1 : Int32)) hx hb d_law_315 (by decide) ?_
              refine lv_iadd hx hb d_law_316 ?_
              obtain ⟨hi317, e⟩ := ce_gd e
              refine va_sld hx hb hX hbl (Nat.not_le.mpr hbl) hH.2.2 (ce_in_vp hi317) d_law_317 ?_
              obtain ⟨o318, eo318, e⟩ := ce_bd e
              refine ce_callV (As := [.int (xs ((x3 + (1 : Int32))).toNatClampNeg)]) (rest := [.int o309.1]) C (ce_sok aK aV s.heap.size) hH (c12_fault l D ad cA aK aV s.heap.size C.2.2.2.2.2.2.1 F (xs ((x3 + (1 : Int32))).toNatClampNeg)  o309.2 o318 eo318) lo_68.1 lo_68.2.choose_spec rfl rfl mc12_fault ml_L_31 mi12_fault ms12_fault mI_12 (n := 1) (by decide) rfl ⟨Nat.le_of_ble_eq_true rfl, Nat.le_of_ble_eq_true rfl⟩ ⟨show 96 + t + 0 ≤ 600000 by omega, show 5568 + 5 * t + 0 ≤ 7302250 by omega⟩ hl.1 rfl (Nat.le_of_ble_eq_true rfl) d_law_318 (fun H locs hH => ?_)
              refine W.eq (g2 := F0 m 321 ls [.int o318.1, .int o309.1]) rfl ?_
              refine lv_icmp_eq (tgt := 1241) hx hb d_law_321 (by decide) (fun hc321 => ?_) (fun hc321 => ?_)
              · have e := ce_if1 e hc321
                refine lv_iinc (v := x3 + (6 : Int32)) (lv' := [(3, .int (x3 + (6 : Int32))), (0, .ref b), (1, .ref (ad 0)), (2, .ref (ad 68))]) hx hb d_law_1241 hl (k := 3) rfl rfl (by decide) rfl (fun ls hl => ?_)
                refine lv_goto (tgt := 18) hx hb d_law_1244 (by decide) ?_
                refine W.widen (k := 96 + (t + 1)) (n := 5568 + 5 * (t + 1)) (by omega) (by omega) ?_
                exact ih (t + 1) (x3 + (6 : Int32)) o318.2 _ _ _ r (by omega) hH (lv_sub hl [1, 2, 3, 0] rfl) e
              · have e := ce_if0 e hc321
                refine lv_iconst (v := (0 : Int32)) hx hb d_law_324 (by decide) ?_
                exact absurd e (fun z => by cases z)
            · have e := ce_if0 e hc33_3
              by_cases hc33_4 : ((xs (x3).toNatClampNeg) &&& (63 : Int32)) = (4 : Int32)
              · have e := ce_if1 e hc33_4
                refine lv_tableIn (off := 293) (tgt := 326) hx hb d_law_33 (by rw [hc33_4]; decide) (by rw [hc33_4]; decide) (by rw [hc33_4]; rfl) (by decide) ?_
                refine lv_aload_n hx hb d_law_326 rfl (lv_at hl 1 rfl) ?_
                refine lv_aload_n hx hb d_law_327 rfl (lv_at hl 0 rfl) ?_
                refine lv_iload_n hx hb d_law_328 rfl (lv_at hl 3 rfl) ?_
                refine lv_iconst (v := (1 : Int32)) hx hb d_law_329 (by decide) ?_
                refine lv_iadd hx hb d_law_330 ?_
                obtain ⟨hi331, e⟩ := ce_gd e
                refine va_sld hx hb hX hbl (Nat.not_le.mpr hbl) hH.2.2 (ce_in_vp hi331) d_law_331 ?_
                obtain ⟨o332, eo332, e⟩ := ce_bd e
                refine ce_callV (As := [.int (xs ((x3 + (1 : Int32))).toNatClampNeg)]) (rest := []) C (ce_sok aK aV s.heap.size) hH (c11_count l D ad cA aK aV s.heap.size C.2.2.2.2.2.2.1 F (xs ((x3 + (1 : Int32))).toNatClampNeg)  h o332 eo332) lo_0.1 lo_0.2.choose_spec rfl rfl mc11_count ml_L_32 mi11_count ms11_count mI_11 (n := 1) (by decide) rfl ⟨Nat.le_of_ble_eq_true rfl, Nat.le_of_ble_eq_true rfl⟩ ⟨show 96 + t + 0 ≤ 600000 by omega, show 5568 + 5 * t + 0 ≤ 7302250 by omega⟩ hl.1 rfl (Nat.le_of_ble_eq_true rfl) d_law_332 (fun H locs hH => ?_)
                refine W.eq (g2 := F0 m 335 ls [.int o332.1]) rfl ?_
                refine lv_aload_n hx hb d_law_335 rfl (lv_at hl 2 rfl) ?_
                refine lv_aload_n hx hb d_law_336 rfl (lv_at hl 0 rfl) ?_
                refine lv_iload_n hx hb d_law_337 rfl (lv_at hl 3 rfl) ?_
                refine lv_iconst (v := (1 : Int32)) hx hb d_law_338 (by decide) ?_
                refine lv_iadd hx hb d_law_339 ?_
                obtain ⟨hi340, e⟩ := ce_gd e
                refine va_sld hx hb hX hbl (Nat.not_le.mpr hbl) hH.2.2 (ce_in_vp hi340) d_law_340 ?_
                obtain ⟨o341, eo341, e⟩ := ce_bd e
                refine ce_callV (As := [.int (xs ((x3 + (1 : Int32))).toNatClampNeg)]) (rest := [.int o332.1]) C (ce_sok aK aV s.heap.size) hH (c12_count l D ad cA aK aV s.heap.size C.2.2.2.2.2.2.1 F (xs ((x3 + (1 : Int32))).toNatClampNeg)  o332.2 o341 eo341) lo_68.1 lo_68.2.choose_spec rfl rfl mc12_count ml_L_35 mi12_count ms12_count mI_12 (n := 1) (by decide) rfl ⟨Nat.le_of_ble_eq_true rfl, Nat.le_of_ble_eq_true rfl⟩ ⟨show 96 + t + 0 ≤ 600000 by omega, show 5568 + 5 * t + 0 ≤ 7302250 by omega⟩ hl.1 rfl (Nat.le_of_ble_eq_true rfl) d_law_341 (fun H locs hH => ?_)
                refine W.eq (g2 := F0 m 344 ls [.int o341.1, .int o332.1]) rfl ?_
                refine lv_icmp_eq (tgt := 1241) hx hb d_law_344 (by decide) (fun hc344 => ?_) (fun hc344 => ?_)
                · have e := ce_if1 e hc344
                  refine lv_iinc (v := x3 + (6 : Int32)) (lv' := [(3, .int (x3 + (6 : Int32))), (0, .ref b), (1, .ref (ad 0)), (2, .ref (ad 68))]) hx hb d_law_1241 hl (k := 3) rfl rfl (by decide) rfl (fun ls hl => ?_)
                  refine lv_goto (tgt := 18) hx hb d_law_1244 (by decide) ?_
                  refine W.widen (k := 96 + (t + 1)) (n := 5568 + 5 * (t + 1)) (by omega) (by omega) ?_
                  exact ih (t + 1) (x3 + (6 : Int32)) o341.2 _ _ _ r (by omega) hH (lv_sub hl [1, 2, 3, 0] rfl) e
                · have e := ce_if0 e hc344
                  refine lv_iconst (v := (0 : Int32)) hx hb d_law_347 (by decide) ?_
                  exact absurd e (fun z => by cases z)
              · have e := ce_if0 e hc33_4
                by_cases hc33_5 : ((xs (x3).toNatClampNeg) &&& (63 : Int32)) = (5 : Int32)
                · have e := ce_if1 e hc33_5
                  refine lv_tableIn (off := 316) (tgt := 349) hx hb d_law_33 (by rw [hc33_5]; decide) (by rw [hc33_5]; decide) (by rw [hc33_5]; rfl) (by decide) ?_
                  refine lv_aload_n hx hb d_law_349 rfl (lv_at hl 1 rfl) ?_
                  refine lv_aload_n hx hb d_law_350 rfl (lv_at hl 0 rfl) ?_
                  refine lv_iload_n hx hb d_law_351 rfl (lv_at hl 3 rfl) ?_
                  refine lv_iconst (v := (1 : Int32)) hx hb d_law_352 (by decide) ?_
                  refine lv_iadd hx hb d_law_353 ?_
                  obtain ⟨hi354, e⟩ := ce_gd e
                  refine va_sld hx hb hX hbl (Nat.not_le.mpr hbl) hH.2.2 (ce_in_vp hi354) d_law_354 ?_
                  refine lv_aload_n hx hb d_law_355 rfl (lv_at hl 0 rfl) ?_
                  refine lv_iload_n hx hb d_law_356 rfl (lv_at hl 3 rfl) ?_
                  refine lv_iconst (v := (2 : Int32)) hx hb d_law_357 (by decide) ?_
                  refine lv_iadd hx hb d_law_358 ?_
                  obtain ⟨hi359, e⟩ := ce_gd e
                  refine va_sld hx hb hX hbl (Nat.not_le.mpr hbl) hH.2.2 (ce_in_vp hi359) d_law_359 ?_
                  refine lv_aload_n hx hb d_law_360 rfl (lv_at hl 0 rfl) ?_
                  refine lv_iload_n hx hb d_law_361 rfl (lv_at hl 3 rfl) ?_
                  refine lv_iconst (v := (3 : Int32)) hx hb d_law_362 (by decide) ?_
                  refine lv_iadd hx hb d_law_363 ?_
                  obtain ⟨hi364, e⟩ := ce_gd e
                  refine va_sld hx hb hX hbl (Nat.not_le.mpr hbl) hH.2.2 (ce_in_vp hi364) d_law_364 ?_
                  obtain ⟨o365, eo365, e⟩ := ce_bd e
                  refine ce_callV (As := [.int (xs ((x3 + (1 : Int32))).toNatClampNeg), .int (xs ((x3 + (2 : Int32))).toNatClampNeg), .int (xs ((x3 + (3 : Int32))).toNatClampNeg)]) (rest := []) C (ce_sok aK aV s.heap.size) hH (c11_port l D ad cA aK aV s.heap.size C.2.2.2.2.2.2.1 F (xs ((x3 + (1 : Int32))).toNatClampNeg) (xs ((x3 + (2 : Int32))).toNatClampNeg) (xs ((x3 + (3 : Int32))).toNatClampNeg)  h o365 eo365) lo_0.1 lo_0.2.choose_spec rfl rfl mc11_port ml_L_36 mi11_port ms11_port mI_11 (n := 3) (by decide) rfl ⟨Nat.le_of_ble_eq_true rfl, Nat.le_of_ble_eq_true rfl⟩ ⟨show 96 + t + 0 ≤ 600000 by omega, show 5568 + 5 * t + 0 ≤ 7302250 by omega⟩ hl.1 rfl (Nat.le_of_ble_eq_true rfl) d_law_365 (fun H locs hH => ?_)
                  refine W.eq (g2 := F0 m 368 ls [.int o365.1]) rfl ?_
                  refine lv_aload_n hx hb d_law_368 rfl (lv_at hl 2 rfl) ?_
                  refine lv_aload_n hx hb d_law_369 rfl (lv_at hl 0 rfl) ?_
                  refine lv_iload_n hx hb d_law_370 rfl (lv_at hl 3 rfl) ?_
                  refine lv_iconst (v := (1 : Int32)) hx hb d_law_371 (by decide) ?_
                  refine lv_iadd hx hb d_law_372 ?_
                  obtain ⟨hi373, e⟩ := ce_gd e
                  refine va_sld hx hb hX hbl (Nat.not_le.mpr hbl) hH.2.2 (ce_in_vp hi373) d_law_373 ?_
                  refine lv_aload_n hx hb d_law_374 rfl (lv_at hl 0 rfl) ?_
                  refine lv_iload_n hx hb d_law_375 rfl (lv_at hl 3 rfl) ?_
                  refine lv_iconst (v := (2 : Int32)) hx hb d_law_376 (by decide) ?_
                  refine lv_iadd hx hb d_law_377 ?_
                  obtain ⟨hi378, e⟩ := ce_gd e
                  refine va_sld hx hb hX hbl (Nat.not_le.mpr hbl) hH.2.2 (ce_in_vp hi378) d_law_378 ?_
                  refine lv_aload_n hx hb d_law_379 rfl (lv_at hl 0 rfl) ?_
                  refine lv_iload_n hx hb d_law_380 rfl (lv_at hl 3 rfl) ?_
                  refine lv_iconst (v := (3 : Int32)) hx hb d_law_381 (by decide) ?_
                  refine lv_iadd hx hb d_law_382 ?_
                  obtain ⟨hi383, e⟩ := ce_gd e
                  refine va_sld hx hb hX hbl (Nat.not_le.mpr hbl) hH.2.2 (ce_in_vp hi383) d_law_383 ?_
                  obtain ⟨o384, eo384, e⟩ := ce_bd e
                  refine ce_callV (As := [.int (xs ((x3 + (1 : Int32))).toNatClampNeg), .int (xs ((x3 + (2 : Int32))).toNatClampNeg), .int (xs ((x3 + (3 : Int32))).toNatClampNeg)]) (rest := [.int o365.1]) C (ce_sok aK aV s.heap.size) hH (c12_port l D ad cA aK aV s.heap.size C.2.2.2.2.2.2.1 F (xs ((x3 + (1 : Int32))).toNatClampNeg) (xs ((x3 + (2 : Int32))).toNatClampNeg) (xs ((x3 + (3 : Int32))).toNatClampNeg)  o365.2 o384 eo384) lo_68.1 lo_68.2.choose_spec rfl rfl mc12_port ml_L_40 mi12_port ms12_port mI_12 (n := 3) (by decide) rfl ⟨Nat.le_of_ble_eq_true rfl, Nat.le_of_ble_eq_true rfl⟩ ⟨show 96 + t + 0 ≤ 600000 by omega, show 5568 + 5 * t + 0 ≤ 7302250 by omega⟩ hl.1 rfl (Nat.le_of_ble_eq_true rfl) d_law_384 (fun H locs hH => ?_)
                  refine W.eq (g2 := F0 m 387 ls [.int o384.1, .int o365.1]) rfl ?_
                  refine lv_icmp_eq (tgt := 1241) hx hb d_law_387 (by decide) (fun hc387 => ?_) (fun hc387 => ?_)
                  · have e := ce_if1 e hc387
                    refine lv_iinc (v := x3 + (6 : Int32)) (lv' := [(3, .int (x3 + (6 : Int32))), (0, .ref b), (1, .ref (ad 0)), (2, .ref (ad 68))]) hx hb d_law_1241 hl (k := 3) rfl rfl (by decide) rfl (fun ls hl => ?_)
                    refine lv_goto (tgt := 18) hx hb d_law_1244 (by decide) ?_
                    refine W.widen (k := 96 + (t + 1)) (n := 5568 + 5 * (t + 1)) (by omega) (by omega) ?_
                    exact ih (t + 1) (x3 + (6 : Int32)) o384.2 _ _ _ r (by omega) hH (lv_sub hl [1, 2, 3, 0] rfl) e
                  · have e := ce_if0 e hc387
                    refine lv_iconst (v := (0 : Int32)) hx hb d_law_390 (by decide) ?_
                    exact absurd e (fun z => by cases z)
                · have e := ce_if0 e hc33_5
                  by_cases hc33_6 : ((xs (x3).toNatClampNeg) &&& (63 : Int32)) = (6 : Int32)
                  · have e := ce_if1 e hc33_6
                    refine lv_tableIn (off := 359) (tgt := 392) hx hb d_law_33 (by rw [hc33_6]; decide) (by rw [hc33_6]; decide) (by rw [hc33_6]; rfl) (by decide) ?_
                    refine lv_aload_n hx hb d_law_392 rfl (lv_at hl 1 rfl) ?_
                    refine lv_aload_n hx hb d_law_393 rfl (lv_at hl 0 rfl) ?_
                    refine lv_iload_n hx hb d_law_394 rfl (lv_at hl 3 rfl) ?_
                    refine lv_iconst (v := (1 : Int32)) hx hb d_law_395 (by decide) ?_
                    refine lv_iadd hx hb d_law_396 ?_
                    obtain ⟨hi397, e⟩ := ce_gd e
                    refine va_sld hx hb hX hbl (Nat.not_le.mpr hbl) hH.2.2 (ce_in_vp hi397) d_law_397 ?_
                    obtain ⟨o398, eo398, e⟩ := ce_bd e
                    refine ce_callV (As := [.int (xs ((x3 + (1 : Int32))).toNatClampNeg)]) (rest := []) C (ce_sok aK aV s.heap.size) hH (c11_root l D ad cA aK aV s.heap.size C.2.2.2.2.2.2.1 F (xs ((x3 + (1 : Int32))).toNatClampNeg)  h o398 eo398) lo_0.1 lo_0.2.choose_spec rfl rfl mc11_root ml_L_41 mi11_root ms11_root mI_11 (n := 1) (by decide) rfl ⟨Nat.le_of_ble_eq_true rfl, Nat.le_of_ble_eq_true rfl⟩ ⟨show 96 + t + 0 ≤ 600000 by omega, show 5568 + 5 * t + 0 ≤ 7302250 by omega⟩ hl.1 rfl (Nat.le_of_ble_eq_true rfl) d_law_398 (fun H locs hH => ?_)
                    refine W.eq (g2 := F0 m 401 ls [.int o398.1]) rfl ?_
                    refine lv_aload_n hx hb d_law_401 rfl (lv_at hl 2 rfl) ?_
                    refine lv_aload_n hx hb d_law_402 rfl (lv_at hl 0 rfl) ?_
                    refine lv_iload_n hx hb d_law_403 rfl (lv_at hl 3 rfl) ?_
                    refine lv_iconst (v := (1 : Int32)) hx hb d_law_404 (by decide) ?_
                    refine lv_iadd hx hb d_law_405 ?_
                    obtain ⟨hi406, e⟩ := ce_gd e
                    refine va_sld hx hb hX hbl (Nat.not_le.mpr hbl) hH.2.2 (ce_in_vp hi406) d_law_406 ?_
                    obtain ⟨o407, eo407, e⟩ := ce_bd e
                    refine ce_callV (As := [.int (xs ((x3 + (1 : Int32))).toNatClampNeg)]) (rest := [.int o398.1]) C (ce_sok aK aV s.heap.size) hH (c12_root l D ad cA aK aV s.heap.size C.2.2.2.2.2.2.1 F (xs ((x3 + (1 : Int32))).toNatClampNeg)  o398.2 o407 eo407) lo_68.1 lo_68.2.choose_spec rfl rfl mc12_root ml_L_44 mi12_root ms12_root mI_12 (n := 1) (by decide) rfl ⟨Nat.le_of_ble_eq_true rfl, Nat.le_of_ble_eq_true rfl⟩ ⟨show 96 + t + 0 ≤ 600000 by omega, show 5568 + 5 * t + 0 ≤ 7302250 by omega⟩ hl.1 rfl (Nat.le_of_ble_eq_true rfl) d_law_407 (fun H locs hH => ?_)
                    refine W.eq (g2 := F0 m 410 ls [.int o407.1, .int o398.1]) rfl ?_
                    refine lv_icmp_eq (tgt := 1241) hx hb d_law_410 (by decide) (fun hc410 => ?_) (fun hc410 => ?_)
                    · have e := ce_if1 e hc410
                      refine lv_iinc (v := x3 + (6 : Int32)) (lv' := [(3, .int (x3 + (6 : Int32))), (0, .ref b), (1, .ref (ad 0)), (2, .ref (ad 68))]) hx hb d_law_1241 hl (k := 3) rfl rfl (by decide) rfl (fun ls hl => ?_)
                      refine lv_goto (tgt := 18) hx hb d_law_1244 (by decide) ?_
                      refine W.widen (k := 96 + (t + 1)) (n := 5568 + 5 * (t + 1)) (by omega) (by omega) ?_
                      exact ih (t + 1) (x3 + (6 : Int32)) o407.2 _ _ _ r (by omega) hH (lv_sub hl [1, 2, 3, 0] rfl) e
                    · have e := ce_if0 e hc410
                      refine lv_iconst (v := (0 : Int32)) hx hb d_law_413 (by decide) ?_
                      exact absurd e (fun z => by cases z)
                  · have e := ce_if0 e hc33_6
                    by_cases hc33_7 : ((xs (x3).toNatClampNeg) &&& (63 : Int32)) = (7 : Int32)
                    · have e := ce_if1 e hc33_7
                      refine lv_tableIn (off := 382) (tgt := 415) hx hb d_law_33 (by rw [hc33_7]; decide) (by rw [hc33_7]; decide) (by rw [hc33_7]; rfl) (by decide) ?_
                      refine lv_aload_n hx hb d_law_415 rfl (lv_at hl 1 rfl) ?_
                      refine lv_aload_n hx hb d_law_416 rfl (lv_at hl 0 rfl) ?_
                      refine lv_iload_n hx hb d_law_417 rfl (lv_at hl 3 rfl) ?_
                      refine lv_iconst (v := (1 : Int32)) hx hb d_law_418 (by decide) ?_
                      refine lv_iadd hx hb d_law_419 ?_
                      obtain ⟨hi420, e⟩ := ce_gd e
                      refine va_sld hx hb hX hbl (Nat.not_le.mpr hbl) hH.2.2 (ce_in_vp hi420) d_law_420 ?_
                      obtain ⟨o421, eo421, e⟩ := ce_bd e
                      refine ce_callV (As := [.int (xs ((x3 + (1 : Int32))).toNatClampNeg)]) (rest := []) C (ce_sok aK aV s.heap.size) hH (c11_settled l D ad cA aK aV s.heap.size C.2.2.2.2.2.2.1 F (xs ((x3 + (1 : Int32))).toNatClampNeg)  h o421 eo421) lo_0.1 lo_0.2.choose_spec rfl rfl mc11_settled ml_L_45 mi11_settled ms11_settled mI_11 (n := 1) (by decide) rfl ⟨Nat.le_of_ble_eq_true rfl, Nat.le_of_ble_eq_true rfl⟩ ⟨show 96 + t + 0 ≤ 600000 by omega, show 5568 + 5 * t + 0 ≤ 7302250 by omega⟩ hl.1 rfl (Nat.le_of_ble_eq_true rfl) d_law_421 (fun H locs hH => ?_)
                      refine W.eq (g2 := F0 m 424 ls [.int o421.1]) rfl ?_
                      refine lv_aload_n hx hb d_law_424 rfl (lv_at hl 2 rfl) ?_
                      refine lv_aload_n hx hb d_law_425 rfl (lv_at hl 0 rfl) ?_
                      refine lv_iload_n hx hb d_law_426 rfl (lv_at hl 3 rfl) ?_
                      refine lv_iconst (v := (1 : Int32)) hx hb d_law_427 (by decide) ?_
                      refine lv_iadd hx hb d_law_428 ?_
                      obtain ⟨hi429, e⟩ := ce_gd e
                      refine va_sld hx hb hX hbl (Nat.not_le.mpr hbl) hH.2.2 (ce_in_vp hi429) d_law_429 ?_
                      obtain ⟨o430, eo430, e⟩ := ce_bd e
                      refine ce_callV (As := [.int (xs ((x3 + (1 : Int32))).toNatClampNeg)]) (rest := [.int o421.1]) C (ce_sok aK aV s.heap.size) hH (c12_settled l D ad cA aK aV s.heap.size C.2.2.2.2.2.2.1 F (xs ((x3 + (1 : Int32))).toNatClampNeg)  o421.2 o430 eo430) lo_68.1 lo_68.2.choose_spec rfl rfl mc12_settled ml_L_48 mi12_settled ms12_settled mI_12 (n := 1) (by decide) rfl ⟨Nat.le_of_ble_eq_true rfl, Nat.le_of_ble_eq_true rfl⟩ ⟨show 96 + t + 0 ≤ 600000 by omega, show 5568 + 5 * t + 0 ≤ 7302250 by omega⟩ hl.1 rfl (Nat.le_of_ble_eq_true rfl) d_law_430 (fun H locs hH => ?_)
                      refine W.eq (g2 := F0 m 433 ls [.int o430.1, .int o421.1]) rfl ?_
                      refine lv_icmp_eq (tgt := 1241) hx hb d_law_433 (by decide) (fun hc433 => ?_) (fun hc433 => ?_)
                      · have e := ce_if1 e hc433
                        refine lv_iinc (v := x3 + (6 : Int32)) (lv' := [(3, .int (x3 + (6 : Int32))), (0, .ref b), (1, .ref (ad 0)), (2, .ref (ad 68))]) hx hb d_law_1241 hl (k := 3) rfl rfl (by decide) rfl (fun ls hl => ?_)
                        refine lv_goto (tgt := 18) hx hb d_law_1244 (by decide) ?_
                        refine W.widen (k := 96 + (t + 1)) (n := 5568 + 5 * (t + 1)) (by omega) (by omega) ?_
                        exact ih (t + 1) (x3 + (6 : Int32)) o430.2 _ _ _ r (by omega) hH (lv_sub hl [1, 2, 3, 0] rfl) e
                      · have e := ce_if0 e hc433
                        refine lv_iconst (v := (0 : Int32)) hx hb d_law_436 (by decide) ?_
                        exact absurd e (fun z => by cases z)
                    · have e := ce_if0 e hc33_7
                      by_cases hc33_8 : ((xs (x3).toNatClampNeg) &&& (63 : Int32)) = (8 : Int32)
                      · have e := ce_if1 e hc33_8
                        refine lv_tableIn (off := 405) (tgt := 438) hx hb d_law_33 (by rw [hc33_8]; decide) (by rw [hc33_8]; decide) (by rw [hc33_8]; rfl) (by decide) ?_
                        refine lv_aload_n hx hb d_law_438 rfl (lv_at hl 1 rfl) ?_
                        refine lv_aload_n hx hb d_law_439 rfl (lv_at hl 0 rfl) ?_
                        refine lv_iload_n hx hb d_law_440 rfl (lv_at hl 3 rfl) ?_
                        refine lv_iconst (v := (1 : Int32)) hx hb d_law_441 (by decide) ?_
                        refine lv_iadd hx hb d_law_442 ?_
                        obtain ⟨hi443, e⟩ := ce_gd e
                        refine va_sld hx hb hX hbl (Nat.not_le.mpr hbl) hH.2.2 (ce_in_vp hi443) d_law_443 ?_
                        obtain ⟨o444, eo444, e⟩ := ce_bd e
                        refine ce_callV (As := [.int (xs ((x3 + (1 : Int32))).toNatClampNeg)]) (rest := []) C (ce_sok aK aV s.heap.size) hH (c11_called l D ad cA aK aV s.heap.size C.2.2.2.2.2.2.1 F (xs ((x3 + (1 : Int32))).toNatClampNeg)  h o444 eo444) lo_0.1 lo_0.2.choose_spec rfl rfl mc11_called ml_L_49 mi11_called ms11_called mI_11 (n := 1) (by decide) rfl ⟨Nat.le_of_ble_eq_true rfl, Nat.le_of_ble_eq_true rfl⟩ ⟨show 96 + t + 0 ≤ 600000 by omega, show 5568 + 5 * t + 0 ≤ 7302250 by omega⟩ hl.1 rfl (Nat.le_of_ble_eq_true rfl) d_law_444 (fun H locs hH => ?_)
                        refine W.eq (g2 := F0 m 447 ls [.int o444.1]) rfl ?_
                        refine lv_aload_n hx hb d_law_447 rfl (lv_at hl 2 rfl) ?_
                        refine lv_aload_n hx hb d_law_448 rfl (lv_at hl 0 rfl) ?_
                        refine lv_iload_n hx hb d_law_449 rfl (lv_at hl 3 rfl) ?_
                        refine lv_iconst (v := (1 : Int32)) hx hb d_law_450 (by decide) ?_
                        refine lv_iadd hx hb d_law_451 ?_
                        obtain ⟨hi452, e⟩ := ce_gd e
                        refine va_sld hx hb hX hbl (Nat.not_le.mpr hbl) hH.2.2 (ce_in_vp hi452) d_law_452 ?_
                        obtain ⟨o453, eo453, e⟩ := ce_bd e
                        refine ce_callV (As := [.int (xs ((x3 + (1 : Int32))).toNatClampNeg)]) (rest := [.int o444.1]) C (ce_sok aK aV s.heap.size) hH (c12_called l D ad cA aK aV s.heap.size C.2.2.2.2.2.2.1 F (xs ((x3 + (1 : Int32))).toNatClampNeg)  o444.2 o453 eo453) lo_68.1 lo_68.2.choose_spec rfl rfl mc12_called ml_L_52 mi12_called ms12_called mI_12 (n := 1) (by decide) rfl ⟨Nat.le_of_ble_eq_true rfl, Nat.le_of_ble_eq_true rfl⟩ ⟨show 96 + t + 0 ≤ 600000 by omega, show 5568 + 5 * t + 0 ≤ 7302250 by omega⟩ hl.1 rfl (Nat.le_of_ble_eq_true rfl) d_law_453 (fun H locs hH => ?_)
                        refine W.eq (g2 := F0 m 456 ls [.int o453.1, .int o444.1]) rfl ?_
                        refine lv_icmp_eq (tgt := 1241) hx hb d_law_456 (by decide) (fun hc456 => ?_) (fun hc456 => ?_)
                        · have e := ce_if1 e hc456
                          refine lv_iinc (v := x3 + (6 : Int32)) (lv' := [(3, .int (x3 + (6 : Int32))), (0, .ref b), (1, .ref (ad 0)), (2, .ref (ad 68))]) hx hb d_law_1241 hl (k := 3) rfl rfl (by decide) rfl (fun ls hl => ?_)
                          refine lv_goto (tgt := 18) hx hb d_law_1244 (by decide) ?_
                          refine W.widen (k := 96 + (t + 1)) (n := 5568 + 5 * (t + 1)) (by omega) (by omega) ?_
                          exact ih (t + 1) (x3 + (6 : Int32)) o453.2 _ _ _ r (by omega) hH (lv_sub hl [1, 2, 3, 0] rfl) e
                        · have e := ce_if0 e hc456
                          refine lv_iconst (v := (0 : Int32)) hx hb d_law_459 (by decide) ?_
                          exact absurd e (fun z => by cases z)
                      · have e := ce_if0 e hc33_8
                        by_cases hc33_9 : ((xs (x3).toNatClampNeg) &&& (63 : Int32)) = (9 : Int32)
                        · have e := ce_if1 e hc33_9
                          refine lv_tableIn (off := 428) (tgt := 461) hx hb d_law_33 (by rw [hc33_9]; decide) (by rw [hc33_9]; decide) (by rw [hc33_9]; rfl) (by decide) ?_
                          refine lv_aload_n hx hb d_law_461 rfl (lv_at hl 1 rfl) ?_
                          refine lv_aload_n hx hb d_law_462 rfl (lv_at hl 0 rfl) ?_
                          refine lv_iload_n hx hb d_law_463 rfl (lv_at hl 3 rfl) ?_
                          refine lv_iconst (v := (1 : Int32)) hx hb d_law_464 (by decide) ?_
                          refine lv_iadd hx hb d_law_465 ?_
                          obtain ⟨hi466, e⟩ := ce_gd e
                          refine va_sld hx hb hX hbl (Nat.not_le.mpr hbl) hH.2.2 (ce_in_vp hi466) d_law_466 ?_
                          obtain ⟨o467, eo467, e⟩ := ce_bd e
                          refine ce_callV (As := [.int (xs ((x3 + (1 : Int32))).toNatClampNeg)]) (rest := []) C (ce_sok aK aV s.heap.size) hH (c11_rounds l D ad cA aK aV s.heap.size C.2.2.2.2.2.2.1 F (xs ((x3 + (1 : Int32))).toNatClampNeg)  h o467 eo467) lo_0.1 lo_0.2.choose_spec rfl rfl mc11_rounds ml_L_53 mi11_rounds ms11_rounds mI_11 (n := 1) (by decide) rfl ⟨Nat.le_of_ble_eq_true rfl, Nat.le_of_ble_eq_true rfl⟩ ⟨show 96 + t + 0 ≤ 600000 by omega, show 5568 + 5 * t + 0 ≤ 7302250 by omega⟩ hl.1 rfl (Nat.le_of_ble_eq_true rfl) d_law_467 (fun H locs hH => ?_)
                          refine W.eq (g2 := F0 m 470 ls [.int o467.1]) rfl ?_
                          refine lv_aload_n hx hb d_law_470 rfl (lv_at hl 2 rfl) ?_
                          refine lv_aload_n hx hb d_law_471 rfl (lv_at hl 0 rfl) ?_
                          refine lv_iload_n hx hb d_law_472 rfl (lv_at hl 3 rfl) ?_
                          refine lv_iconst (v := (1 : Int32)) hx hb d_law_473 (by decide) ?_
                          refine lv_iadd hx hb d_law_474 ?_
                          obtain ⟨hi475, e⟩ := ce_gd e
                          refine va_sld hx hb hX hbl (Nat.not_le.mpr hbl) hH.2.2 (ce_in_vp hi475) d_law_475 ?_
                          obtain ⟨o476, eo476, e⟩ := ce_bd e
                          refine ce_callV (As := [.int (xs ((x3 + (1 : Int32))).toNatClampNeg)]) (rest := [.int o467.1]) C (ce_sok aK aV s.heap.size) hH (c12_rounds l D ad cA aK aV s.heap.size C.2.2.2.2.2.2.1 F (xs ((x3 + (1 : Int32))).toNatClampNeg)  o467.2 o476 eo476) lo_68.1 lo_68.2.choose_spec rfl rfl mc12_rounds ml_L_56 mi12_rounds ms12_rounds mI_12 (n := 1) (by decide) rfl ⟨Nat.le_of_ble_eq_true rfl, Nat.le_of_ble_eq_true rfl⟩ ⟨show 96 + t + 0 ≤ 600000 by omega, show 5568 + 5 * t + 0 ≤ 7302250 by omega⟩ hl.1 rfl (Nat.le_of_ble_eq_true rfl) d_law_476 (fun H locs hH => ?_)
                          refine W.eq (g2 := F0 m 479 ls [.int o476.1, .int o467.1]) rfl ?_
                          refine lv_icmp_eq (tgt := 1241) hx hb d_law_479 (by decide) (fun hc479 => ?_) (fun hc479 => ?_)
                          · have e := ce_if1 e hc479
                            refine lv_iinc (v := x3 + (6 : Int32)) (lv' := [(3, .int (x3 + (6 : Int32))), (0, .ref b), (1, .ref (ad 0)), (2, .ref (ad 68))]) hx hb d_law_1241 hl (k := 3) rfl rfl (by decide) rfl (fun ls hl => ?_)
                            refine lv_goto (tgt := 18) hx hb d_law_1244 (by decide) ?_
                            refine W.widen (k := 96 + (t + 1)) (n := 5568 + 5 * (t + 1)) (by omega) (by omega) ?_
                            exact ih (t + 1) (x3 + (6 : Int32)) o476.2 _ _ _ r (by omega) hH (lv_sub hl [1, 2, 3, 0] rfl) e
                          · have e := ce_if0 e hc479
                            refine lv_iconst (v := (0 : Int32)) hx hb d_law_482 (by decide) ?_
                            exact absurd e (fun z => by cases z)
                        · have e := ce_if0 e hc33_9
                          by_cases hc33_10 : ((xs (x3).toNatClampNeg) &&& (63 : Int32)) = (10 : Int32)
                          · have e := ce_if1 e hc33_10
                            refine lv_tableIn (off := 451) (tgt := 484) hx hb d_law_33 (by rw [hc33_10]; decide) (by rw [hc33_10]; decide) (by rw [hc33_10]; rfl) (by decide) ?_
                            refine lv_aload_n hx hb d_law_484 rfl (lv_at hl 1 rfl) ?_
                            refine lv_aload_n hx hb d_law_485 rfl (lv_at hl 0 rfl) ?_
                            refine lv_iload_n hx hb d_law_486 rfl (lv_at hl 3 rfl) ?_
                            refine lv_iconst (v := (1 : Int32)) hx hb d_law_487 (by decide) ?_
                            refine lv_iadd hx hb d_law_488 ?_
                            obtain ⟨hi489, e⟩ := ce_gd e
                            refine va_sld hx hb hX hbl (Nat.not_le.mpr hbl) hH.2.2 (ce_in_vp hi489) d_law_489 ?_
                            obtain ⟨o490, eo490, e⟩ := ce_bd e
                            refine ce_callV (As := [.int (xs ((x3 + (1 : Int32))).toNatClampNeg)]) (rest := []) C (ce_sok aK aV s.heap.size) hH (c11_taken l D ad cA aK aV s.heap.size C.2.2.2.2.2.2.1 F (xs ((x3 + (1 : Int32))).toNatClampNeg)  h o490 eo490) lo_0.1 lo_0.2.choose_spec rfl rfl mc11_taken ml_L_57 mi11_taken ms11_taken mI_11 (n := 1) (by decide) rfl ⟨Nat.le_of_ble_eq_true rfl, Nat.le_of_ble_eq_true rfl⟩ ⟨show 96 + t + 0 ≤ 600000 by omega, show 5568 + 5 * t + 0 ≤ 7302250 by omega⟩ hl.1 rfl (Nat.le_of_ble_eq_true rfl) d_law_490 (fun H locs hH => ?_)
                            refine W.eq (g2 := F0 m 493 ls [.int o490.1]) rfl ?_
                            refine lv_aload_n hx hb d_law_493 rfl (lv_at hl 2 rfl) ?_
                            refine lv_aload_n hx hb d_law_494 rfl (lv_at hl 0 rfl) ?_
                            refine lv_iload_n hx hb d_law_495 rfl (lv_at hl 3 rfl) ?_
                            refine lv_iconst (v := (1 : Int32)) hx hb d_law_496 (by decide) ?_
                            refine lv_iadd hx hb d_law_497 ?_
                            obtain ⟨hi498, e⟩ := ce_gd e
                            refine va_sld hx hb hX hbl (Nat.not_le.mpr hbl) hH.2.2 (ce_in_vp hi498) d_law_498 ?_
                            obtain ⟨o499, eo499, e⟩ := ce_bd e
                            refine ce_callV (As := [.int (xs ((x3 + (1 : Int32))).toNatClampNeg)]) (rest := [.int o490.1]) C (ce_sok aK aV s.heap.size) hH (c12_taken l D ad cA aK aV s.heap.size C.2.2.2.2.2.2.1 F (xs ((x3 + (1 : Int32))).toNatClampNeg)  o490.2 o499 eo499) lo_68.1 lo_68.2.choose_spec rfl rfl mc12_taken ml_L_60 mi12_taken ms12_taken mI_12 (n := 1) (by decide) rfl ⟨Nat.le_of_ble_eq_true rfl, Nat.le_of_ble_eq_true rfl⟩ ⟨show 96 + t + 0 ≤ 600000 by omega, show 5568 + 5 * t + 0 ≤ 7302250 by omega⟩ hl.1 rfl (Nat.le_of_ble_eq_true rfl) d_law_499 (fun H locs hH => ?_)
                            refine W.eq (g2 := F0 m 502 ls [.int o499.1, .int o490.1]) rfl ?_
                            refine lv_icmp_eq (tgt := 1241) hx hb d_law_502 (by decide) (fun hc502 => ?_) (fun hc502 => ?_)
                            · have e := ce_if1 e hc502
                              refine lv_iinc (v := x3 + (6 : Int32)) (lv' := [(3, .int (x3 + (6 : Int32))), (0, .ref b), (1, .ref (ad 0)), (2, .ref (ad 68))]) hx hb d_law_1241 hl (k := 3) rfl rfl (by decide) rfl (fun ls hl => ?_)
                              refine lv_goto (tgt := 18) hx hb d_law_1244 (by decide) ?_
                              refine W.widen (k := 96 + (t + 1)) (n := 5568 + 5 * (t + 1)) (by omega) (by omega) ?_
                              exact ih (t + 1) (x3 + (6 : Int32)) o499.2 _ _ _ r (by omega) hH (lv_sub hl [1, 2, 3, 0] rfl) e
                            · have e := ce_if0 e hc502
                              refine lv_iconst (v := (0 : Int32)) hx hb d_law_505 (by decide) ?_
                              exact absurd e (fun z => by cases z)
                          · have e := ce_if0 e hc33_10
                            by_cases hc33_11 : ((xs (x3).toNatClampNeg) &&& (63 : Int32)) = (11 : Int32)
                            · have e := ce_if1 e hc33_11
                              refine lv_tableIn (off := 474) (tgt := 507) hx hb d_law_33 (by rw [hc33_11]; decide) (by rw [hc33_11]; decide) (by rw [hc33_11]; rfl) (by decide) ?_
                              refine lv_aload_n hx hb d_law_507 rfl (lv_at hl 1 rfl) ?_
                              refine lv_aload_n hx hb d_law_508 rfl (lv_at hl 0 rfl) ?_
                              refine lv_iload_n hx hb d_law_509 rfl (lv_at hl 3 rfl) ?_
                              refine lv_iconst (v := (1 : Int32)) hx hb d_law_510 (by decide) ?_
                              refine lv_iadd hx hb d_law_511 ?_
                              obtain ⟨hi512, e⟩ := ce_gd e
                              refine va_sld hx hb hX hbl (Nat.not_le.mpr hbl) hH.2.2 (ce_in_vp hi512) d_law_512 ?_
                              obtain ⟨o513, eo513, e⟩ := ce_bd e
                              refine ce_callV (As := [.int (xs ((x3 + (1 : Int32))).toNatClampNeg)]) (rest := []) C (ce_sok aK aV s.heap.size) hH (c11_id l D ad cA aK aV s.heap.size C.2.2.2.2.2.2.1 F (xs ((x3 + (1 : Int32))).toNatClampNeg)  h o513 eo513) lo_0.1 lo_0.2.choose_spec rfl rfl mc11_id ml_L_61 mi11_id ms11_id mI_11 (n := 1) (by decide) rfl ⟨Nat.le_of_ble_eq_true rfl, Nat.le_of_ble_eq_true rfl⟩ ⟨show 96 + t + 0 ≤ 600000 by omega, show 5568 + 5 * t + 0 ≤ 7302250 by omega⟩ hl.1 rfl (Nat.le_of_ble_eq_true rfl) d_law_513 (fun H locs hH => ?_)
                              refine W.eq (g2 := F0 m 516 ls [.int o513.1]) rfl ?_
                              refine lv_aload_n hx hb d_law_516 rfl (lv_at hl 2 rfl) ?_
                              refine lv_aload_n hx hb d_law_517 rfl (lv_at hl 0 rfl) ?_
                              refine lv_iload_n hx hb d_law_518 rfl (lv_at hl 3 rfl) ?_
                              refine lv_iconst (v := (1 : Int32)) hx hb d_law_519 (by decide) ?_
                              refine lv_iadd hx hb d_law_520 ?_
                              obtain ⟨hi521, e⟩ := ce_gd e
                              refine va_sld hx hb hX hbl (Nat.not_le.mpr hbl) hH.2.2 (ce_in_vp hi521) d_law_521 ?_
                              obtain ⟨o522, eo522, e⟩ := ce_bd e
                              refine ce_callV (As := [.int (xs ((x3 + (1 : Int32))).toNatClampNeg)]) (rest := [.int o513.1]) C (ce_sok aK aV s.heap.size) hH (c12_id l D ad cA aK aV s.heap.size C.2.2.2.2.2.2.1 F (xs ((x3 + (1 : Int32))).toNatClampNeg)  o513.2 o522 eo522) lo_68.1 lo_68.2.choose_spec rfl rfl mc12_id ml_L_64 mi12_id ms12_id mI_12 (n := 1) (by decide) rfl ⟨Nat.le_of_ble_eq_true rfl, Nat.le_of_ble_eq_true rfl⟩ ⟨show 96 + t + 0 ≤ 600000 by omega, show 5568 + 5 * t + 0 ≤ 7302250 by omega⟩ hl.1 rfl (Nat.le_of_ble_eq_true rfl) d_law_522 (fun H locs hH => ?_)
                              refine W.eq (g2 := F0 m 525 ls [.int o522.1, .int o513.1]) rfl ?_
                              refine lv_icmp_eq (tgt := 1241) hx hb d_law_525 (by decide) (fun hc525 => ?_) (fun hc525 => ?_)
                              · have e := ce_if1 e hc525
                                refine lv_iinc (v := x3 + (6 : Int32)) (lv' := [(3, .int (x3 + (6 : Int32))), (0, .ref b), (1, .ref (ad 0)), (2, .ref (ad 68))]) hx hb d_law_1241 hl (k := 3) rfl rfl (by decide) rfl (fun ls hl => ?_)
                                refine lv_goto (tgt := 18) hx hb d_law_1244 (by decide) ?_
                                refine W.widen (k := 96 + (t + 1)) (n := 5568 + 5 * (t + 1)) (by omega) (by omega) ?_
                                exact ih (t + 1) (x3 + (6 : Int32)) o522.2 _ _ _ r (by omega) hH (lv_sub hl [1, 2, 3, 0] rfl) e
                              · have e := ce_if0 e hc525
                                refine lv_iconst (v := (0 : Int32)) hx hb d_law_528 (by decide) ?_
                                exact absurd e (fun z => by cases z)
                            · have e := ce_if0 e hc33_11
                              by_cases hc33_12 : ((xs (x3).toNatClampNeg) &&& (63 : Int32)) = (12 : Int32)
                              · have e := ce_if1 e hc33_12
                                refine lv_tableIn (off := 497) (tgt := 530) hx hb d_law_33 (by rw [hc33_12]; decide) (by rw [hc33_12]; decide) (by rw [hc33_12]; rfl) (by decide) ?_
                                refine lv_aload_n hx hb d_law_530 rfl (lv_at hl 1 rfl) ?_
                                refine lv_aload_n hx hb d_law_531 rfl (lv_at hl 0 rfl) ?_
                                refine lv_iload_n hx hb d_law_532 rfl (lv_at hl 3 rfl) ?_
                                refine lv_iconst (v := (1 : Int32)) hx hb d_law_533 (by decide) ?_
                                refine lv_iadd hx hb d_law_534 ?_
                                obtain ⟨hi535, e⟩ := ce_gd e
                                refine va_sld hx hb hX hbl (Nat.not_le.mpr hbl) hH.2.2 (ce_in_vp hi535) d_law_535 ?_
                                refine lv_aload_n hx hb d_law_536 rfl (lv_at hl 0 rfl) ?_
                                refine lv_iload_n hx hb d_law_537 rfl (lv_at hl 3 rfl) ?_
                                refine lv_iconst (v := (2 : Int32)) hx hb d_law_538 (by decide) ?_
                                refine lv_iadd hx hb d_law_539 ?_
                                obtain ⟨hi540, e⟩ := ce_gd e
                                refine va_sld hx hb hX hbl (Nat.not_le.mpr hbl) hH.2.2 (ce_in_vp hi540) d_law_540 ?_
                                obtain ⟨o541, eo541, e⟩ := ce_bd e
                                refine ce_callV (As := [.int (xs ((x3 + (1 : Int32))).toNatClampNeg), .int (xs ((x3 + (2 : Int32))).toNatClampNeg)]) (rest := []) C (ce_sok aK aV s.heap.size) hH (c11_named l D ad cA aK aV s.heap.size C.2.2.2.2.2.2.1 F (xs ((x3 + (1 : Int32))).toNatClampNeg) (xs ((x3 + (2 : Int32))).toNatClampNeg)  h o541 eo541) lo_0.1 lo_0.2.choose_spec rfl rfl mc11_named ml_L_65 mi11_named ms11_named mI_11 (n := 2) (by decide) rfl ⟨Nat.le_of_ble_eq_true rfl, Nat.le_of_ble_eq_true rfl⟩ ⟨show 96 + t + 0 ≤ 600000 by omega, show 5568 + 5 * t + 0 ≤ 7302250 by omega⟩ hl.1 rfl (Nat.le_of_ble_eq_true rfl) d_law_541 (fun H locs hH => ?_)
                                refine W.eq (g2 := F0 m 544 ls [.int o541.1]) rfl ?_
                                refine lv_aload_n hx hb d_law_544 rfl (lv_at hl 2 rfl) ?_
                                refine lv_aload_n hx hb d_law_545 rfl (lv_at hl 0 rfl) ?_
                                refine lv_iload_n hx hb d_law_546 rfl (lv_at hl 3 rfl) ?_
                                refine lv_iconst (v := (1 : Int32)) hx hb d_law_547 (by decide) ?_
                                refine lv_iadd hx hb d_law_548 ?_
                                obtain ⟨hi549, e⟩ := ce_gd e
                                refine va_sld hx hb hX hbl (Nat.not_le.mpr hbl) hH.2.2 (ce_in_vp hi549) d_law_549 ?_
                                refine lv_aload_n hx hb d_law_550 rfl (lv_at hl 0 rfl) ?_
                                refine lv_iload_n hx hb d_law_551 rfl (lv_at hl 3 rfl) ?_
                                refine lv_iconst (v := (2 : Int32)) hx hb d_law_552 (by decide) ?_
                                refine lv_iadd hx hb d_law_553 ?_
                                obtain ⟨hi554, e⟩ := ce_gd e
                                refine va_sld hx hb hX hbl (Nat.not_le.mpr hbl) hH.2.2 (ce_in_vp hi554) d_law_554 ?_
                                obtain ⟨o555, eo555, e⟩ := ce_bd e
                                refine ce_callV (As := [.int (xs ((x3 + (1 : Int32))).toNatClampNeg), .int (xs ((x3 + (2 : Int32))).toNatClampNeg)]) (rest := [.int o541.1]) C (ce_sok aK aV s.heap.size) hH (c12_named_ l D ad cA aK aV s.heap.size C.2.2.2.2.2.2.1 F (xs ((x3 + (1 : Int32))).toNatClampNeg) (xs ((x3 + (2 : Int32))).toNatClampNeg)  o541.2 o555 eo555) lo_68.1 lo_68.2.choose_spec rfl rfl mc12_named_ ml_L_69 mi12_named_ ms12_named_ mI_12 (n := 2) (by decide) rfl ⟨Nat.le_of_ble_eq_true rfl, Nat.le_of_ble_eq_true rfl⟩ ⟨show 96 + t + 0 ≤ 600000 by omega, show 5568 + 5 * t + 0 ≤ 7302250 by omega⟩ hl.1 rfl (Nat.le_of_ble_eq_true rfl) d_law_555 (fun H locs hH => ?_)
                                refine W.eq (g2 := F0 m 558 ls [.int o555.1, .int o541.1]) rfl ?_
                                refine lv_icmp_eq (tgt := 1241) hx hb d_law_558 (by decide) (fun hc558 => ?_) (fun hc558 => ?_)
                                · have e := ce_if1 e hc558
                                  refine lv_iinc (v := x3 + (6 : Int32)) (lv' := [(3, .int (x3 + (6 : Int32))), (0, .ref b), (1, .ref (ad 0)), (2, .ref (ad 68))]) hx hb d_law_1241 hl (k := 3) rfl rfl (by decide) rfl (fun ls hl => ?_)
                                  refine lv_goto (tgt := 18) hx hb d_law_1244 (by decide) ?_
                                  refine W.widen (k := 96 + (t + 1)) (n := 5568 + 5 * (t + 1)) (by omega) (by omega) ?_
                                  exact ih (t + 1) (x3 + (6 : Int32)) o555.2 _ _ _ r (by omega) hH (lv_sub hl [1, 2, 3, 0] rfl) e
                                · have e := ce_if0 e hc558
                                  refine lv_iconst (v := (0 : Int32)) hx hb d_law_561 (by decide) ?_
                                  exact absurd e (fun z => by cases z)
                              · have e := ce_if0 e hc33_12
                                by_cases hc33_13 : ((xs (x3).toNatClampNeg) &&& (63 : Int32)) = (13 : Int32)
                                · have e := ce_if1 e hc33_13
                                  refine lv_tableIn (off := 530) (tgt := 563) hx hb d_law_33 (by rw [hc33_13]; decide) (by rw [hc33_13]; decide) (by rw [hc33_13]; rfl) (by decide) ?_
                                  refine lv_aload_n hx hb d_law_563 rfl (lv_at hl 1 rfl) ?_
                                  refine lv_aload_n hx hb d_law_564 rfl (lv_at hl 0 rfl) ?_
                                  refine lv_iload_n hx hb d_law_565 rfl (lv_at hl 3 rfl) ?_
                                  refine lv_iconst (v := (1 : Int32)) hx hb d_law_566 (by decide) ?_
                                  refine lv_iadd hx hb d_law_567 ?_
                                  obtain ⟨hi568, e⟩ := ce_gd e
                                  refine va_sld hx hb hX hbl (Nat.not_le.mpr hbl) hH.2.2 (ce_in_vp hi568) d_law_568 ?_
                                  obtain ⟨o569, eo569, e⟩ := ce_bd e
                                  refine ce_callV (As := [.int (xs ((x3 + (1 : Int32))).toNatClampNeg)]) (rest := []) C (ce_sok aK aV s.heap.size) hH (c11_size l D ad cA aK aV s.heap.size C.2.2.2.2.2.2.1 F (xs ((x3 + (1 : Int32))).toNatClampNeg)  h o569 eo569) lo_0.1 lo_0.2.choose_spec rfl rfl mc11_size ml_L_70 mi11_size ms11_size mI_11 (n := 1) (by decide) rfl ⟨Nat.le_of_ble_eq_true rfl, Nat.le_of_ble_eq_true rfl⟩ ⟨show 96 + t + 0 ≤ 600000 by omega, show 5568 + 5 * t + 0 ≤ 7302250 by omega⟩ hl.1 rfl (Nat.le_of_ble_eq_true rfl) d_law_569 (fun H locs hH => ?_)
                                  refine W.eq (g2 := F0 m 572 ls [.int o569.1]) rfl ?_
                                  refine lv_aload_n hx hb d_law_572 rfl (lv_at hl 2 rfl) ?_
                                  refine lv_aload_n hx hb d_law_573 rfl (lv_at hl 0 rfl) ?_
                                  refine lv_iload_n hx hb d_law_574 rfl (lv_at hl 3 rfl) ?_
                                  refine lv_iconst (v := (1 : Int32)) hx hb d_law_575 (by decide) ?_
                                  refine lv_iadd hx hb d_law_576 ?_
                                  obtain ⟨hi577, e⟩ := ce_gd e
                                  refine va_sld hx hb hX hbl (Nat.not_le.mpr hbl) hH.2.2 (ce_in_vp hi577) d_law_577 ?_
                                  obtain ⟨o578, eo578, e⟩ := ce_bd e
                                  refine ce_callV (As := [.int (xs ((x3 + (1 : Int32))).toNatClampNeg)]) (rest := [.int o569.1]) C (ce_sok aK aV s.heap.size) hH (c12_size l D ad cA aK aV s.heap.size C.2.2.2.2.2.2.1 F (xs ((x3 + (1 : Int32))).toNatClampNeg)  o569.2 o578 eo578) lo_68.1 lo_68.2.choose_spec rfl rfl mc12_size ml_L_73 mi12_size ms12_size mI_12 (n := 1) (by decide) rfl ⟨Nat.le_of_ble_eq_true rfl, Nat.le_of_ble_eq_true rfl⟩ ⟨show 96 + t + 0 ≤ 600000 by omega, show 5568 + 5 * t + 0 ≤ 7302250 by omega⟩ hl.1 rfl (Nat.le_of_ble_eq_true rfl) d_law_578 (fun H locs hH => ?_)
                                  refine W.eq (g2 := F0 m 581 ls [.int o578.1, .int o569.1]) rfl ?_
                                  refine lv_icmp_eq (tgt := 1241) hx hb d_law_581 (by decide) (fun hc581 => ?_) (fun hc581 => ?_)
                                  · have e := ce_if1 e hc581
                                    refine lv_iinc (v := x3 + (6 : Int32)) (lv' := [(3, .int (x3 + (6 : Int32))), (0, .ref b), (1, .ref (ad 0)), (2, .ref (ad 68))]) hx hb d_law_1241 hl (k := 3) rfl rfl (by decide) rfl (fun ls hl => ?_)
                                    refine lv_goto (tgt := 18) hx hb d_law_1244 (by decide) ?_
                                    refine W.widen (k := 96 + (t + 1)) (n := 5568 + 5 * (t + 1)) (by omega) (by omega) ?_
                                    exact ih (t + 1) (x3 + (6 : Int32)) o578.2 _ _ _ r (by omega) hH (lv_sub hl [1, 2, 3, 0] rfl) e
                                  · have e := ce_if0 e hc581
                                    refine lv_iconst (v := (0 : Int32)) hx hb d_law_584 (by decide) ?_
                                    exact absurd e (fun z => by cases z)
                                · have e := ce_if0 e hc33_13
                                  by_cases hc33_14 : ((xs (x3).toNatClampNeg) &&& (63 : Int32)) = (14 : Int32)
                                  · have e := ce_if1 e hc33_14
                                    refine lv_tableIn (off := 553) (tgt := 586) hx hb d_law_33 (by rw [hc33_14]; decide) (by rw [hc33_14]; decide) (by rw [hc33_14]; rfl) (by decide) ?_
                                    refine lv_aload_n hx hb d_law_586 rfl (lv_at hl 1 rfl) ?_
                                    refine lv_aload_n hx hb d_law_587 rfl (lv_at hl 0 rfl) ?_
                                    refine lv_iload_n hx hb d_law_588 rfl (lv_at hl 3 rfl) ?_
                                    refine lv_iconst (v := (1 : Int32)) hx hb d_law_589 (by decide) ?_
                                    refine lv_iadd hx hb d_law_590 ?_
                                    obtain ⟨hi591, e⟩ := ce_gd e
                                    refine va_sld hx hb hX hbl (Nat.not_le.mpr hbl) hH.2.2 (ce_in_vp hi591) d_law_591 ?_
                                    obtain ⟨o592, eo592, e⟩ := ce_bd e
                                    refine ce_callV (As := [.int (xs ((x3 + (1 : Int32))).toNatClampNeg)]) (rest := []) C (ce_sok aK aV s.heap.size) hH (c11_parent l D ad cA aK aV s.heap.size C.2.2.2.2.2.2.1 F (xs ((x3 + (1 : Int32))).toNatClampNeg)  h o592 eo592) lo_0.1 lo_0.2.choose_spec rfl rfl mc11_parent ml_L_74 mi11_parent ms11_parent mI_11 (n := 1) (by decide) rfl ⟨Nat.le_of_ble_eq_true rfl, Nat.le_of_ble_eq_true rfl⟩ ⟨show 96 + t + 0 ≤ 600000 by omega, show 5568 + 5 * t + 0 ≤ 7302250 by omega⟩ hl.1 rfl (Nat.le_of_ble_eq_true rfl) d_law_592 (fun H locs hH => ?_)
                                    refine W.eq (g2 := F0 m 595 ls [.int o592.1]) rfl ?_
                                    refine lv_aload_n hx hb d_law_595 rfl (lv_at hl 2 rfl) ?_
                                    refine lv_aload_n hx hb d_law_596 rfl (lv_at hl 0 rfl) ?_
                                    refine lv_iload_n hx hb d_law_597 rfl (lv_at hl 3 rfl) ?_
                                    refine lv_iconst (v := (1 : Int32)) hx hb d_law_598 (by decide) ?_
                                    refine lv_iadd hx hb d_law_599 ?_
                                    obtain ⟨hi600, e⟩ := ce_gd e
                                    refine va_sld hx hb hX hbl (Nat.not_le.mpr hbl) hH.2.2 (ce_in_vp hi600) d_law_600 ?_
                                    obtain ⟨o601, eo601, e⟩ := ce_bd e
                                    refine ce_callV (As := [.int (xs ((x3 + (1 : Int32))).toNatClampNeg)]) (rest := [.int o592.1]) C (ce_sok aK aV s.heap.size) hH (c12_parent l D ad cA aK aV s.heap.size C.2.2.2.2.2.2.1 F (xs ((x3 + (1 : Int32))).toNatClampNeg)  o592.2 o601 eo601) lo_68.1 lo_68.2.choose_spec rfl rfl mc12_parent ml_L_77 mi12_parent ms12_parent mI_12 (n := 1) (by decide) rfl ⟨Nat.le_of_ble_eq_true rfl, Nat.le_of_ble_eq_true rfl⟩ ⟨show 96 + t + 0 ≤ 600000 by omega, show 5568 + 5 * t + 0 ≤ 7302250 by omega⟩ hl.1 rfl (Nat.le_of_ble_eq_true rfl) d_law_601 (fun H locs hH => ?_)
                                    refine W.eq (g2 := F0 m 604 ls [.int o601.1, .int o592.1]) rfl ?_
                                    refine lv_icmp_eq (tgt := 1241) hx hb d_law_604 (by decide) (fun hc604 => ?_) (fun hc604 => ?_)
                                    · have e := ce_if1 e hc604
                                      refine lv_iinc (v := x3 + (6 : Int32)) (lv' := [(3, .int (x3 + (6 : Int32))), (0, .ref b), (1, .ref (ad 0)), (2, .ref (ad 68))]) hx hb d_law_1241 hl (k := 3) rfl rfl (by decide) rfl (fun ls hl => ?_)
                                      refine lv_goto (tgt := 18) hx hb d_law_1244 (by decide) ?_
                                      refine W.widen (k := 96 + (t + 1)) (n := 5568 + 5 * (t + 1)) (by omega) (by omega) ?_
                                      exact ih (t + 1) (x3 + (6 : Int32)) o601.2 _ _ _ r (by omega) hH (lv_sub hl [1, 2, 3, 0] rfl) e
                                    · have e := ce_if0 e hc604
                                      refine lv_iconst (v := (0 : Int32)) hx hb d_law_607 (by decide) ?_
                                      exact absurd e (fun z => by cases z)
                                  · have e := ce_if0 e hc33_14
                                    by_cases hc33_15 : ((xs (x3).toNatClampNeg) &&& (63 : Int32)) = (15 : Int32)
                                    · have e := ce_if1 e hc33_15
                                      refine lv_tableIn (off := 576) (tgt := 609) hx hb d_law_33 (by rw [hc33_15]; decide) (by rw [hc33_15]; decide) (by rw [hc33_15]; rfl) (by decide) ?_
                                      refine lv_aload_n hx hb d_law_609 rfl (lv_at hl 1 rfl) ?_
                                      refine lv_aload_n hx hb d_law_610 rfl (lv_at hl 0 rfl) ?_
                                      refine lv_iload_n hx hb d_law_611 rfl (lv_at hl 3 rfl) ?_
                                      refine lv_iconst (v := (1 : Int32)) hx hb d_law_612 (by decide) ?_
                                      refine lv_iadd hx hb d_law_613 ?_
                                      obtain ⟨hi614, e⟩ := ce_gd e
                                      refine va_sld hx hb hX hbl (Nat.not_le.mpr hbl) hH.2.2 (ce_in_vp hi614) d_law_614 ?_
                                      obtain ⟨o615, eo615, e⟩ := ce_bd e
                                      refine ce_callV (As := [.int (xs ((x3 + (1 : Int32))).toNatClampNeg)]) (rest := []) C (ce_sok aK aV s.heap.size) hH (c11_depth l D ad cA aK aV s.heap.size C.2.2.2.2.2.2.1 F (xs ((x3 + (1 : Int32))).toNatClampNeg)  h o615 eo615) lo_0.1 lo_0.2.choose_spec rfl rfl mc11_depth ml_L_78 mi11_depth ms11_depth mI_11 (n := 1) (by decide) rfl ⟨Nat.le_of_ble_eq_true rfl, Nat.le_of_ble_eq_true rfl⟩ ⟨show 96 + t + 0 ≤ 600000 by omega, show 5568 + 5 * t + 0 ≤ 7302250 by omega⟩ hl.1 rfl (Nat.le_of_ble_eq_true rfl) d_law_615 (fun H locs hH => ?_)
                                      refine W.eq (g2 := F0 m 618 ls [.int o615.1]) rfl ?_
                                      refine lv_aload_n hx hb d_law_618 rfl (lv_at hl 2 rfl) ?_
                                      refine lv_aload_n hx hb d_law_619 rfl (lv_at hl 0 rfl) ?_
                                      refine lv_iload_n hx hb d_law_620 rfl (lv_at hl 3 rfl) ?_
                                      refine lv_iconst (v := (1 : Int32)) hx hb d_law_621 (by decide) ?_
                                      refine lv_iadd hx hb d_law_622 ?_
                                      obtain ⟨hi623, e⟩ := ce_gd e
                                      refine va_sld hx hb hX hbl (Nat.not_le.mpr hbl) hH.2.2 (ce_in_vp hi623) d_law_623 ?_
                                      obtain ⟨o624, eo624, e⟩ := ce_bd e
                                      refine ce_callV (As := [.int (xs ((x3 + (1 : Int32))).toNatClampNeg)]) (rest := [.int o615.1]) C (ce_sok aK aV s.heap.size) hH (c12_depth l D ad cA aK aV s.heap.size C.2.2.2.2.2.2.1 F (xs ((x3 + (1 : Int32))).toNatClampNeg)  o615.2 o624 eo624) lo_68.1 lo_68.2.choose_spec rfl rfl mc12_depth ml_L_81 mi12_depth ms12_depth mI_12 (n := 1) (by decide) rfl ⟨Nat.le_of_ble_eq_true rfl, Nat.le_of_ble_eq_true rfl⟩ ⟨show 96 + t + 0 ≤ 600000 by omega, show 5568 + 5 * t + 0 ≤ 7302250 by omega⟩ hl.1 rfl (Nat.le_of_ble_eq_true rfl) d_law_624 (fun H locs hH => ?_)
                                      refine W.eq (g2 := F0 m 627 ls [.int o624.1, .int o615.1]) rfl ?_
                                      refine lv_icmp_eq (tgt := 1241) hx hb d_law_627 (by decide) (fun hc627 => ?_) (fun hc627 => ?_)
                                      · have e := ce_if1 e hc627
                                        refine lv_iinc (v := x3 + (6 : Int32)) (lv' := [(3, .int (x3 + (6 : Int32))), (0, .ref b), (1, .ref (ad 0)), (2, .ref (ad 68))]) hx hb d_law_1241 hl (k := 3) rfl rfl (by decide) rfl (fun ls hl => ?_)
                                        refine lv_goto (tgt := 18) hx hb d_law_1244 (by decide) ?_
                                        refine W.widen (k := 96 + (t + 1)) (n := 5568 + 5 * (t + 1)) (by omega) (by omega) ?_
                                        exact ih (t + 1) (x3 + (6 : Int32)) o624.2 _ _ _ r (by omega) hH (lv_sub hl [1, 2, 3, 0] rfl) e
                                      · have e := ce_if0 e hc627
                                        refine lv_iconst (v := (0 : Int32)) hx hb d_law_630 (by decide) ?_
                                        exact absurd e (fun z => by cases z)
                                    · have e := ce_if0 e hc33_15
                                      by_cases hc33_16 : ((xs (x3).toNatClampNeg) &&& (63 : Int32)) = (16 : Int32)
                                      · have e := ce_if1 e hc33_16
                                        refine lv_tableIn (off := 599) (tgt := 632) hx hb d_law_33 (by rw [hc33_16]; decide) (by rw [hc33_16]; decide) (by rw [hc33_16]; rfl) (by decide) ?_
                                        refine lv_aload_n hx hb d_law_632 rfl (lv_at hl 1 rfl) ?_
                                        refine lv_aload_n hx hb d_law_633 rfl (lv_at hl 0 rfl) ?_
                                        refine lv_iload_n hx hb d_law_634 rfl (lv_at hl 3 rfl) ?_
                                        refine lv_iconst (v := (1 : Int32)) hx hb d_law_635 (by decide) ?_
                                        refine lv_iadd hx hb d_law_636 ?_
                                        obtain ⟨hi637, e⟩ := ce_gd e
                                        refine va_sld hx hb hX hbl (Nat.not_le.mpr hbl) hH.2.2 (ce_in_vp hi637) d_law_637 ?_
                                        obtain ⟨o638, eo638, e⟩ := ce_bd e
                                        refine ce_callV (As := [.int (xs ((x3 + (1 : Int32))).toNatClampNeg)]) (rest := []) C (ce_sok aK aV s.heap.size) hH (c11_below l D ad cA aK aV s.heap.size C.2.2.2.2.2.2.1 F (xs ((x3 + (1 : Int32))).toNatClampNeg)  h o638 eo638) lo_0.1 lo_0.2.choose_spec rfl rfl mc11_below ml_L_82 mi11_below ms11_below mI_11 (n := 1) (by decide) rfl ⟨Nat.le_of_ble_eq_true rfl, Nat.le_of_ble_eq_true rfl⟩ ⟨show 96 + t + 0 ≤ 600000 by omega, show 5568 + 5 * t + 0 ≤ 7302250 by omega⟩ hl.1 rfl (Nat.le_of_ble_eq_true rfl) d_law_638 (fun H locs hH => ?_)
                                        refine W.eq (g2 := F0 m 641 ls [.int o638.1]) rfl ?_
                                        refine lv_aload_n hx hb d_law_641 rfl (lv_at hl 2 rfl) ?_
                                        refine lv_aload_n hx hb d_law_642 rfl (lv_at hl 0 rfl) ?_
                                        refine lv_iload_n hx hb d_law_643 rfl (lv_at hl 3 rfl) ?_
                                        refine lv_iconst (v := (1 : Int32)) hx hb d_law_644 (by decide) ?_
                                        refine lv_iadd hx hb d_law_645 ?_
                                        obtain ⟨hi646, e⟩ := ce_gd e
                                        refine va_sld hx hb hX hbl (Nat.not_le.mpr hbl) hH.2.2 (ce_in_vp hi646) d_law_646 ?_
                                        obtain ⟨o647, eo647, e⟩ := ce_bd e
                                        refine ce_callV (As := [.int (xs ((x3 + (1 : Int32))).toNatClampNeg)]) (rest := [.int o638.1]) C (ce_sok aK aV s.heap.size) hH (c12_below l D ad cA aK aV s.heap.size C.2.2.2.2.2.2.1 F (xs ((x3 + (1 : Int32))).toNatClampNeg)  o638.2 o647 eo647) lo_68.1 lo_68.2.choose_spec rfl rfl mc12_below ml_L_85 mi12_below ms12_below mI_12 (n := 1) (by decide) rfl ⟨Nat.le_of_ble_eq_true rfl, Nat.le_of_ble_eq_true rfl⟩ ⟨show 96 + t + 0 ≤ 600000 by omega, show 5568 + 5 * t + 0 ≤ 7302250 by omega⟩ hl.1 rfl (Nat.le_of_ble_eq_true rfl) d_law_647 (fun H locs hH => ?_)
                                        refine W.eq (g2 := F0 m 650 ls [.int o647.1, .int o638.1]) rfl ?_
                                        refine lv_icmp_eq (tgt := 1241) hx hb d_law_650 (by decide) (fun hc650 => ?_) (fun hc650 => ?_)
                                        · have e := ce_if1 e hc650
                                          refine lv_iinc (v := x3 + (6 : Int32)) (lv' := [(3, .int (x3 + (6 : Int32))), (0, .ref b), (1, .ref (ad 0)), (2, .ref (ad 68))]) hx hb d_law_1241 hl (k := 3) rfl rfl (by decide) rfl (fun ls hl => ?_)
                                          refine lv_goto (tgt := 18) hx hb d_law_1244 (by decide) ?_
                                          refine W.widen (k := 96 + (t + 1)) (n := 5568 + 5 * (t + 1)) (by omega) (by omega) ?_
                                          exact ih (t + 1) (x3 + (6 : Int32)) o647.2 _ _ _ r (by omega) hH (lv_sub hl [1, 2, 3, 0] rfl) e
                                        · have e := ce_if0 e hc650
                                          refine lv_iconst (v := (0 : Int32)) hx hb d_law_653 (by decide) ?_
                                          exact absurd e (fun z => by cases z)
                                      · have e := ce_if0 e hc33_16
                                        by_cases hc33_17 : ((xs (x3).toNatClampNeg) &&& (63 : Int32)) = (17 : Int32)
                                        · have e := ce_if1 e hc33_17
                                          refine lv_tableIn (off := 622) (tgt := 655) hx hb d_law_33 (by rw [hc33_17]; decide) (by rw [hc33_17]; decide) (by rw [hc33_17]; rfl) (by decide) ?_
                                          refine lv_aload_n hx hb d_law_655 rfl (lv_at hl 1 rfl) ?_
                                          refine lv_aload_n hx hb d_law_656 rfl (lv_at hl 0 rfl) ?_
                                          refine lv_iload_n hx hb d_law_657 rfl (lv_at hl 3 rfl) ?_
                                          refine lv_iconst (v := (1 : Int32)) hx hb d_law_658 (by decide) ?_
                                          refine lv_iadd hx hb d_law_659 ?_
                                          obtain ⟨hi660, e⟩ := ce_gd e
                                          refine va_sld hx hb hX hbl (Nat.not_le.mpr hbl) hH.2.2 (ce_in_vp hi660) d_law_660 ?_
                                          refine lv_aload_n hx hb d_law_661 rfl (lv_at hl 0 rfl) ?_
                                          refine lv_iload_n hx hb d_law_662 rfl (lv_at hl 3 rfl) ?_
                                          refine lv_iconst (v := (2 : Int32)) hx hb d_law_663 (by decide) ?_
                                          refine lv_iadd hx hb d_law_664 ?_
                                          obtain ⟨hi665, e⟩ := ce_gd e
                                          refine va_sld hx hb hX hbl (Nat.not_le.mpr hbl) hH.2.2 (ce_in_vp hi665) d_law_665 ?_
                                          obtain ⟨o666, eo666, e⟩ := ce_bd e
                                          refine ce_callV (As := [.int (xs ((x3 + (1 : Int32))).toNatClampNeg), .int (xs ((x3 + (2 : Int32))).toNatClampNeg)]) (rest := []) C (ce_sok aK aV s.heap.size) hH (c11_way l D ad cA aK aV s.heap.size C.2.2.2.2.2.2.1 F (xs ((x3 + (1 : Int32))).toNatClampNeg) (xs ((x3 + (2 : Int32))).toNatClampNeg)  h o666 eo666) lo_0.1 lo_0.2.choose_spec rfl rfl mc11_way ml_L_86 mi11_way ms11_way mI_11 (n := 2) (by decide) rfl ⟨Nat.le_of_ble_eq_true rfl, Nat.le_of_ble_eq_true rfl⟩ ⟨show 96 + t + 0 ≤ 600000 by omega, show 5568 + 5 * t + 0 ≤ 7302250 by omega⟩ hl.1 rfl (Nat.le_of_ble_eq_true rfl) d_law_666 (fun H locs hH => ?_)
                                          refine W.eq (g2 := F0 m 669 ls [.int o666.1]) rfl ?_
                                          refine lv_aload_n hx hb d_law_669 rfl (lv_at hl 2 rfl) ?_
                                          refine lv_aload_n hx hb d_law_670 rfl (lv_at hl 0 rfl) ?_
                                          refine lv_iload_n hx hb d_law_671 rfl (lv_at hl 3 rfl) ?_
                                          refine lv_iconst (v := (1 : Int32)) hx hb d_law_672 (by decide) ?_
                                          refine lv_iadd hx hb d_law_673 ?_
                                          obtain ⟨hi674, e⟩ := ce_gd e
                                          refine va_sld hx hb hX hbl (Nat.not_le.mpr hbl) hH.2.2 (ce_in_vp hi674) d_law_674 ?_
                                          refine lv_aload_n hx hb d_law_675 rfl (lv_at hl 0 rfl) ?_
                                          refine lv_iload_n hx hb d_law_676 rfl (lv_at hl 3 rfl) ?_
                                          refine lv_iconst (v := (2 : Int32)) hx hb d_law_677 (by decide) ?_
                                          refine lv_iadd hx hb d_law_678 ?_
                                          obtain ⟨hi679, e⟩ := ce_gd e
                                          refine va_sld hx hb hX hbl (Nat.not_le.mpr hbl) hH.2.2 (ce_in_vp hi679) d_law_679 ?_
                                          obtain ⟨o680, eo680, e⟩ := ce_bd e
                                          refine ce_callV (As := [.int (xs ((x3 + (1 : Int32))).toNatClampNeg), .int (xs ((x3 + (2 : Int32))).toNatClampNeg)]) (rest := [.int o666.1]) C (ce_sok aK aV s.heap.size) hH (c12_way l D ad cA aK aV s.heap.size C.2.2.2.2.2.2.1 F (xs ((x3 + (1 : Int32))).toNatClampNeg) (xs ((x3 + (2 : Int32))).toNatClampNeg)  o666.2 o680 eo680) lo_68.1 lo_68.2.choose_spec rfl rfl mc12_way ml_L_89 mi12_way ms12_way mI_12 (n := 2) (by decide) rfl ⟨Nat.le_of_ble_eq_true rfl, Nat.le_of_ble_eq_true rfl⟩ ⟨show 96 + t + 0 ≤ 600000 by omega, show 5568 + 5 * t + 0 ≤ 7302250 by omega⟩ hl.1 rfl (Nat.le_of_ble_eq_true rfl) d_law_680 (fun H locs hH => ?_)
                                          refine W.eq (g2 := F0 m 683 ls [.int o680.1, .int o666.1]) rfl ?_
                                          refine lv_icmp_eq (tgt := 1241) hx hb d_law_683 (by decide) (fun hc683 => ?_) (fun hc683 => ?_)
                                          · have e := ce_if1 e hc683
                                            refine lv_iinc (v := x3 + (6 : Int32)) (lv' := [(3, .int (x3 + (6 : Int32))), (0, .ref b), (1, .ref (ad 0)), (2, .ref (ad 68))]) hx hb d_law_1241 hl (k := 3) rfl rfl (by decide) rfl (fun ls hl => ?_)
                                            refine lv_goto (tgt := 18) hx hb d_law_1244 (by decide) ?_
                                            refine W.widen (k := 96 + (t + 1)) (n := 5568 + 5 * (t + 1)) (by omega) (by omega) ?_
                                            exact ih (t + 1) (x3 + (6 : Int32)) o680.2 _ _ _ r (by omega) hH (lv_sub hl [1, 2, 3, 0] rfl) e
                                          · have e := ce_if0 e hc683
                                            refine lv_iconst (v := (0 : Int32)) hx hb d_law_686 (by decide) ?_
                                            exact absurd e (fun z => by cases z)
                                        · have e := ce_if0 e hc33_17
                                          by_cases hc33_18 : ((xs (x3).toNatClampNeg) &&& (63 : Int32)) = (18 : Int32)
                                          · have e := ce_if1 e hc33_18
                                            refine lv_tableIn (off := 655) (tgt := 688) hx hb d_law_33 (by rw [hc33_18]; decide) (by rw [hc33_18]; decide) (by rw [hc33_18]; rfl) (by decide) ?_
                                            refine lv_aload_n hx hb d_law_688 rfl (lv_at hl 1 rfl) ?_
                                            refine lv_aload_n hx hb d_law_689 rfl (lv_at hl 0 rfl) ?_
                                            refine lv_iload_n hx hb d_law_690 rfl (lv_at hl 3 rfl) ?_
                                            refine lv_iconst (v := (1 : Int32)) hx hb d_law_691 (by decide) ?_
                                            refine lv_iadd hx hb d_law_692 ?_
                                            obtain ⟨hi693, e⟩ := ce_gd e
                                            refine va_sld hx hb hX hbl (Nat.not_le.mpr hbl) hH.2.2 (ce_in_vp hi693) d_law_693 ?_
                                            refine lv_aload_n hx hb d_law_694 rfl (lv_at hl 0 rfl) ?_
                                            refine lv_iload_n hx hb d_law_695 rfl (lv_at hl 3 rfl) ?_
                                            refine lv_iconst (v := (2 : Int32)) hx hb d_law_696 (by decide) ?_
                                            refine lv_iadd hx hb d_law_697 ?_
                                            obtain ⟨hi698, e⟩ := ce_gd e
                                            refine va_sld hx hb hX hbl (Nat.not_le.mpr hbl) hH.2.2 (ce_in_vp hi698) d_law_698 ?_
                                            obtain ⟨o699, eo699, e⟩ := ce_bd e
                                            refine ce_callV (As := [.int (xs ((x3 + (1 : Int32))).toNatClampNeg), .int (xs ((x3 + (2 : Int32))).toNatClampNeg)]) (rest := []) C (ce_sok aK aV s.heap.size) hH (c11_hops l D ad cA aK aV s.heap.size C.2.2.2.2.2.2.1 F (xs ((x3 + (1 : Int32))).toNatClampNeg) (xs ((x3 + (2 : Int32))).toNatClampNeg)  h o699 eo699) lo_0.1 lo_0.2.choose_spec rfl rfl mc11_hops ml_L_90 mi11_hops ms11_hops mI_11 (n := 2) (by decide) rfl ⟨Nat.le_of_ble_eq_true rfl, Nat.le_of_ble_eq_true rfl⟩ ⟨show 96 + t + 0 ≤ 600000 by omega, show 5568 + 5 * t + 0 ≤ 7302250 by omega⟩ hl.1 rfl (Nat.le_of_ble_eq_true rfl) d_law_699 (fun H locs hH => ?_)
                                            refine W.eq (g2 := F0 m 702 ls [.int o699.1]) rfl ?_
                                            refine lv_aload_n hx hb d_law_702 rfl (lv_at hl 2 rfl) ?_
                                            refine lv_aload_n hx hb d_law_703 rfl (lv_at hl 0 rfl) ?_
                                            refine lv_iload_n hx hb d_law_704 rfl (lv_at hl 3 rfl) ?_
                                            refine lv_iconst (v := (1 : Int32)) hx hb d_law_705 (by decide) ?_
                                            refine lv_iadd hx hb d_law_706 ?_
                                            obtain ⟨hi707, e⟩ := ce_gd e
                                            refine va_sld hx hb hX hbl (Nat.not_le.mpr hbl) hH.2.2 (ce_in_vp hi707) d_law_707 ?_
                                            refine lv_aload_n hx hb d_law_708 rfl (lv_at hl 0 rfl) ?_
                                            refine lv_iload_n hx hb d_law_709 rfl (lv_at hl 3 rfl) ?_
                                            refine lv_iconst (v := (2 : Int32)) hx hb d_law_710 (by decide) ?_
                                            refine lv_iadd hx hb d_law_711 ?_
                                            obtain ⟨hi712, e⟩ := ce_gd e
                                            refine va_sld hx hb hX hbl (Nat.not_le.mpr hbl) hH.2.2 (ce_in_vp hi712) d_law_712 ?_
                                            obtain ⟨o713, eo713, e⟩ := ce_bd e
                                            refine ce_callV (As := [.int (xs ((x3 + (1 : Int32))).toNatClampNeg), .int (xs ((x3 + (2 : Int32))).toNatClampNeg)]) (rest := [.int o699.1]) C (ce_sok aK aV s.heap.size) hH (c12_hops l D ad cA aK aV s.heap.size C.2.2.2.2.2.2.1 F (xs ((x3 + (1 : Int32))).toNatClampNeg) (xs ((x3 + (2 : Int32))).toNatClampNeg)  o699.2 o713 eo713) lo_68.1 lo_68.2.choose_spec rfl rfl mc12_hops ml_L_93 mi12_hops ms12_hops mI_12 (n := 2) (by decide) rfl ⟨Nat.le_of_ble_eq_true rfl, Nat.le_of_ble_eq_true rfl⟩ ⟨show 96 + t + 0 ≤ 600000 by omega, show 5568 + 5 * t + 0 ≤ 7302250 by omega⟩ hl.1 rfl (Nat.le_of_ble_eq_true rfl) d_law_713 (fun H locs hH => ?_)
                                            refine W.eq (g2 := F0 m 716 ls [.int o713.1, .int o699.1]) rfl ?_
                                            refine lv_icmp_eq (tgt := 1241) hx hb d_law_716 (by decide) (fun hc716 => ?_) (fun hc716 => ?_)
                                            · have e := ce_if1 e hc716
                                              refine lv_iinc (v := x3 + (6 : Int32)) (lv' := [(3, .int (x3 + (6 : Int32))), (0, .ref b), (1, .ref (ad 0)), (2, .ref (ad 68))]) hx hb d_law_1241 hl (k := 3) rfl rfl (by decide) rfl (fun ls hl => ?_)
                                              refine lv_goto (tgt := 18) hx hb d_law_1244 (by decide) ?_
                                              refine W.widen (k := 96 + (t + 1)) (n := 5568 + 5 * (t + 1)) (by omega) (by omega) ?_
                                              exact ih (t + 1) (x3 + (6 : Int32)) o713.2 _ _ _ r (by omega) hH (lv_sub hl [1, 2, 3, 0] rfl) e
                                            · have e := ce_if0 e hc716
                                              refine lv_iconst (v := (0 : Int32)) hx hb d_law_719 (by decide) ?_
                                              exact absurd e (fun z => by cases z)
                                          · have e := ce_if0 e hc33_18
                                            by_cases hc33_19 : ((xs (x3).toNatClampNeg) &&& (63 : Int32)) = (19 : Int32)
                                            · have e := ce_if1 e hc33_19
                                              refine lv_tableIn (off := 688) (tgt := 721) hx hb d_law_33 (by rw [hc33_19]; decide) (by rw [hc33_19]; decide) (by rw [hc33_19]; rfl) (by decide) ?_
                                              refine lv_aload_n hx hb d_law_721 rfl (lv_at hl 1 rfl) ?_
                                              refine lv_aload_n hx hb d_law_722 rfl (lv_at hl 0 rfl) ?_
                                              refine lv_iload_n hx hb d_law_723 rfl (lv_at hl 3 rfl) ?_
                                              refine lv_iconst (v := (1 : Int32)) hx hb d_law_724 (by decide) ?_
                                              refine lv_iadd hx hb d_law_725 ?_
                                              obtain ⟨hi726, e⟩ := ce_gd e
                                              refine va_sld hx hb hX hbl (Nat.not_le.mpr hbl) hH.2.2 (ce_in_vp hi726) d_law_726 ?_
                                              obtain ⟨o727, eo727, e⟩ := ce_bd e
                                              refine ce_callV (As := [.int (xs ((x3 + (1 : Int32))).toNatClampNeg)]) (rest := []) C (ce_sok aK aV s.heap.size) hH (c11_longest l D ad cA aK aV s.heap.size C.2.2.2.2.2.2.1 F (xs ((x3 + (1 : Int32))).toNatClampNeg)  h o727 eo727) lo_0.1 lo_0.2.choose_spec rfl rfl mc11_longest ml_L_94 mi11_longest ms11_longest mI_11 (n := 1) (by decide) rfl ⟨Nat.le_of_ble_eq_true rfl, Nat.le_of_ble_eq_true rfl⟩ ⟨show 96 + t + 0 ≤ 600000 by omega, show 5568 + 5 * t + 0 ≤ 7302250 by omega⟩ hl.1 rfl (Nat.le_of_ble_eq_true rfl) d_law_727 (fun H locs hH => ?_)
                                              refine W.eq (g2 := F0 m 730 ls [.int o727.1]) rfl ?_
                                              refine lv_aload_n hx hb d_law_730 rfl (lv_at hl 2 rfl) ?_
                                              refine lv_aload_n hx hb d_law_731 rfl (lv_at hl 0 rfl) ?_
                                              refine lv_iload_n hx hb d_law_732 rfl (lv_at hl 3 rfl) ?_
                                              refine lv_iconst (v := (1 : Int32)) hx hb d_law_733 (by decide) ?_
                                              refine lv_iadd hx hb d_law_734 ?_
                                              obtain ⟨hi735, e⟩ := ce_gd e
                                              refine va_sld hx hb hX hbl (Nat.not_le.mpr hbl) hH.2.2 (ce_in_vp hi735) d_law_735 ?_
                                              obtain ⟨o736, eo736, e⟩ := ce_bd e
                                              refine ce_callV (As := [.int (xs ((x3 + (1 : Int32))).toNatClampNeg)]) (rest := [.int o727.1]) C (ce_sok aK aV s.heap.size) hH (c12_longest l D ad cA aK aV s.heap.size C.2.2.2.2.2.2.1 F (xs ((x3 + (1 : Int32))).toNatClampNeg)  o727.2 o736 eo736) lo_68.1 lo_68.2.choose_spec rfl rfl mc12_longest ml_L_97 mi12_longest ms12_longest mI_12 (n := 1) (by decide) rfl ⟨Nat.le_of_ble_eq_true rfl, Nat.le_of_ble_eq_true rfl⟩ ⟨show 96 + t + 0 ≤ 600000 by omega, show 5568 + 5 * t + 0 ≤ 7302250 by omega⟩ hl.1 rfl (Nat.le_of_ble_eq_true rfl) d_law_736 (fun H locs hH => ?_)
                                              refine W.eq (g2 := F0 m 739 ls [.int o736.1, .int o727.1]) rfl ?_
                                              refine lv_icmp_eq (tgt := 1241) hx hb d_law_739 (by decide) (fun hc739 => ?_) (fun hc739 => ?_)
                                              · have e := ce_if1 e hc739
                                                refine lv_iinc (v := x3 + (6 : Int32)) (lv' := [(3, .int (x3 + (6 : Int32))), (0, .ref b), (1, .ref (ad 0)), (2, .ref (ad 68))]) hx hb d_law_1241 hl (k := 3) rfl rfl (by decide) rfl (fun ls hl => ?_)
                                                refine lv_goto (tgt := 18) hx hb d_law_1244 (by decide) ?_
                                                refine W.widen (k := 96 + (t + 1)) (n := 5568 + 5 * (t + 1)) (by omega) (by omega) ?_
                                                exact ih (t + 1) (x3 + (6 : Int32)) o736.2 _ _ _ r (by omega) hH (lv_sub hl [1, 2, 3, 0] rfl) e
                                              · have e := ce_if0 e hc739
                                                refine lv_iconst (v := (0 : Int32)) hx hb d_law_742 (by decide) ?_
                                                exact absurd e (fun z => by cases z)
                                            · have e := ce_if0 e hc33_19
                                              by_cases hc33_20 : ((xs (x3).toNatClampNeg) &&& (63 : Int32)) = (20 : Int32)
                                              · have e := ce_if1 e hc33_20
                                                refine lv_tableIn (off := 711) (tgt := 744) hx hb d_law_33 (by rw [hc33_20]; decide) (by rw [hc33_20]; decide) (by rw [hc33_20]; rfl) (by decide) ?_
                                                refine lv_aload_n hx hb d_law_744 rfl (lv_at hl 1 rfl) ?_
                                                refine lv_aload_n hx hb d_law_745 rfl (lv_at hl 0 rfl) ?_
                                                refine lv_iload_n hx hb d_law_746 rfl (lv_at hl 3 rfl) ?_
                                                refine lv_iconst (v := (1 : Int32)) hx hb d_law_747 (by decide) ?_
                                                refine lv_iadd hx hb d_law_748 ?_
                                                obtain ⟨hi749, e⟩ := ce_gd e
                                                refine va_sld hx hb hX hbl (Nat.not_le.mpr hbl) hH.2.2 (ce_in_vp hi749) d_law_749 ?_
                                                obtain ⟨o750, eo750, e⟩ := ce_bd e
                                                refine ce_callV (As := [.int (xs ((x3 + (1 : Int32))).toNatClampNeg)]) (rest := []) C (ce_sok aK aV s.heap.size) hH (c11_gap l D ad cA aK aV s.heap.size C.2.2.2.2.2.2.1 F (xs ((x3 + (1 : Int32))).toNatClampNeg)  h o750 eo750) lo_0.1 lo_0.2.choose_spec rfl rfl mc11_gap ml_L_98 mi11_gap ms11_gap mI_11 (n := 1) (by decide) rfl ⟨Nat.le_of_ble_eq_true rfl, Nat.le_of_ble_eq_true rfl⟩ ⟨show 96 + t + 0 ≤ 600000 by omega, show 5568 + 5 * t + 0 ≤ 7302250 by omega⟩ hl.1 rfl (Nat.le_of_ble_eq_true rfl) d_law_750 (fun H locs hH => ?_)
                                                refine W.eq (g2 := F0 m 753 ls [.int o750.1]) rfl ?_
                                                refine lv_aload_n hx hb d_law_753 rfl (lv_at hl 2 rfl) ?_
                                                refine lv_aload_n hx hb d_law_754 rfl (lv_at hl 0 rfl) ?_
                                                refine lv_iload_n hx hb d_law_755 rfl (lv_at hl 3 rfl) ?_
                                                refine lv_iconst (v := (1 : Int32)) hx hb d_law_756 (by decide) ?_
                                                refine lv_iadd hx hb d_law_757 ?_
                                                obtain ⟨hi758, e⟩ := ce_gd e
                                                refine va_sld hx hb hX hbl (Nat.not_le.mpr hbl) hH.2.2 (ce_in_vp hi758) d_law_758 ?_
                                                obtain ⟨o759, eo759, e⟩ := ce_bd e
                                                refine ce_callV (As := [.int (xs ((x3 + (1 : Int32))).toNatClampNeg)]) (rest := [.int o750.1]) C (ce_sok aK aV s.heap.size) hH (c12_gap l D ad cA aK aV s.heap.size C.2.2.2.2.2.2.1 F (xs ((x3 + (1 : Int32))).toNatClampNeg)  o750.2 o759 eo759) lo_68.1 lo_68.2.choose_spec rfl rfl mc12_gap ml_L_101 mi12_gap ms12_gap mI_12 (n := 1) (by decide) rfl ⟨Nat.le_of_ble_eq_true rfl, Nat.le_of_ble_eq_true rfl⟩ ⟨show 96 + t + 0 ≤ 600000 by omega, show 5568 + 5 * t + 0 ≤ 7302250 by omega⟩ hl.1 rfl (Nat.le_of_ble_eq_true rfl) d_law_759 (fun H locs hH => ?_)
                                                refine W.eq (g2 := F0 m 762 ls [.int o759.1, .int o750.1]) rfl ?_
                                                refine lv_icmp_eq (tgt := 1241) hx hb d_law_762 (by decide) (fun hc762 => ?_) (fun hc762 => ?_)
                                                · have e := ce_if1 e hc762
                                                  refine lv_iinc (v := x3 + (6 : Int32)) (lv' := [(3, .int (x3 + (6 : Int32))), (0, .ref b), (1, .ref (ad 0)), (2, .ref (ad 68))]) hx hb d_law_1241 hl (k := 3) rfl rfl (by decide) rfl (fun ls hl => ?_)
                                                  refine lv_goto (tgt := 18) hx hb d_law_1244 (by decide) ?_
                                                  refine W.widen (k := 96 + (t + 1)) (n := 5568 + 5 * (t + 1)) (by omega) (by omega) ?_
                                                  exact ih (t + 1) (x3 + (6 : Int32)) o759.2 _ _ _ r (by omega) hH (lv_sub hl [1, 2, 3, 0] rfl) e
                                                · have e := ce_if0 e hc762
                                                  refine lv_iconst (v := (0 : Int32)) hx hb d_law_765 (by decide) ?_
                                                  exact absurd e (fun z => by cases z)
                                              · have e := ce_if0 e hc33_20
                                                by_cases hc33_21 : ((xs (x3).toNatClampNeg) &&& (63 : Int32)) = (21 : Int32)
                                                · have e := ce_if1 e hc33_21
                                                  refine lv_tableIn (off := 734) (tgt := 767) hx hb d_law_33 (by rw [hc33_21]; decide) (by rw [hc33_21]; decide) (by rw [hc33_21]; rfl) (by decide) ?_
                                                  refine lv_aload_n hx hb d_law_767 rfl (lv_at hl 1 rfl) ?_
                                                  refine lv_aload_n hx hb d_law_768 rfl (lv_at hl 0 rfl) ?_
                                                  refine lv_iload_n hx hb d_law_769 rfl (lv_at hl 3 rfl) ?_
                                                  refine lv_iconst (v := (1 : Int32)) hx hb d_law_770 (by decide) ?_
                                                  refine lv_iadd hx hb d_law_771 ?_
                                                  obtain ⟨hi772, e⟩ := ce_gd e
                                                  refine va_sld hx hb hX hbl (Nat.not_le.mpr hbl) hH.2.2 (ce_in_vp hi772) d_law_772 ?_
                                                  obtain ⟨o773, eo773, e⟩ := ce_bd e
                                                  refine ce_callV (As := [.int (xs ((x3 + (1 : Int32))).toNatClampNeg)]) (rest := []) C (ce_sok aK aV s.heap.size) hH (c11_centre l D ad cA aK aV s.heap.size C.2.2.2.2.2.2.1 F (xs ((x3 + (1 : Int32))).toNatClampNeg)  h o773 eo773) lo_0.1 lo_0.2.choose_spec rfl rfl mc11_centre ml_L_102 mi11_centre ms11_centre mI_11 (n := 1) (by decide) rfl ⟨Nat.le_of_ble_eq_true rfl, Nat.le_of_ble_eq_true rfl⟩ ⟨show 96 + t + 0 ≤ 600000 by omega, show 5568 + 5 * t + 0 ≤ 7302250 by omega⟩ hl.1 rfl (Nat.le_of_ble_eq_true rfl) d_law_773 (fun H locs hH => ?_)
                                                  refine W.eq (g2 := F0 m 776 ls [.int o773.1]) rfl ?_
                                                  refine lv_aload_n hx hb d_law_776 rfl (lv_at hl 2 rfl) ?_
                                                  refine lv_aload_n hx hb d_law_777 rfl (lv_at hl 0 rfl) ?_
                                                  refine lv_iload_n hx hb d_law_778 rfl (lv_at hl 3 rfl) ?_
                                                  refine lv_iconst (v := (1 : Int32)) hx hb d_law_779 (by decide) ?_
                                                  refine lv_iadd hx hb d_law_780 ?_
                                                  obtain ⟨hi781, e⟩ := ce_gd e
                                                  refine va_sld hx hb hX hbl (Nat.not_le.mpr hbl) hH.2.2 (ce_in_vp hi781) d_law_781 ?_
                                                  obtain ⟨o782, eo782, e⟩ := ce_bd e
                                                  refine ce_callV (As := [.int (xs ((x3 + (1 : Int32))).toNatClampNeg)]) (rest := [.int o773.1]) C (ce_sok aK aV s.heap.size) hH (c12_centre l D ad cA aK aV s.heap.size C.2.2.2.2.2.2.1 F (xs ((x3 + (1 : Int32))).toNatClampNeg)  o773.2 o782 eo782) lo_68.1 lo_68.2.choose_spec rfl rfl mc12_centre ml_L_105 mi12_centre ms12_centre mI_12 (n := 1) (by decide) rfl ⟨Nat.le_of_ble_eq_true rfl, Nat.le_of_ble_eq_true rfl⟩ ⟨show 96 + t + 0 ≤ 600000 by omega, show 5568 + 5 * t + 0 ≤ 7302250 by omega⟩ hl.1 rfl (Nat.le_of_ble_eq_true rfl) d_law_782 (fun H locs hH => ?_)
                                                  refine W.eq (g2 := F0 m 785 ls [.int o782.1, .int o773.1]) rfl ?_
                                                  refine lv_icmp_eq (tgt := 1241) hx hb d_law_785 (by decide) (fun hc785 => ?_) (fun hc785 => ?_)
                                                  · have e := ce_if1 e hc785
                                                    refine lv_iinc (v := x3 + (6 : Int32)) (lv' := [(3, .int (x3 + (6 : Int32))), (0, .ref b), (1, .ref (ad 0)), (2, .ref (ad 68))]) hx hb d_law_1241 hl (k := 3) rfl rfl (by decide) rfl (fun ls hl => ?_)
                                                    refine lv_goto (tgt := 18) hx hb d_law_1244 (by decide) ?_
                                                    refine W.widen (k := 96 + (t + 1)) (n := 5568 + 5 * (t + 1)) (by omega) (by omega) ?_
                                                    exact ih (t + 1) (x3 + (6 : Int32)) o782.2 _ _ _ r (by omega) hH (lv_sub hl [1, 2, 3, 0] rfl) e
                                                  · have e := ce_if0 e hc785
                                                    refine lv_iconst (v := (0 : Int32)) hx hb d_law_788 (by decide) ?_
                                                    exact absurd e (fun z => by cases z)
                                                · have e := ce_if0 e hc33_21
                                                  by_cases hc33_22 : ((xs (x3).toNatClampNeg) &&& (63 : Int32)) = (22 : Int32)
                                                  · have e := ce_if1 e hc33_22
                                                    refine lv_tableIn (off := 757) (tgt := 790) hx hb d_law_33 (by rw [hc33_22]; decide) (by rw [hc33_22]; decide) (by rw [hc33_22]; rfl) (by decide) ?_
                                                    refine lv_aload_n hx hb d_law_790 rfl (lv_at hl 1 rfl) ?_
                                                    refine lv_aload_n hx hb d_law_791 rfl (lv_at hl 0 rfl) ?_
                                                    refine lv_iload_n hx hb d_law_792 rfl (lv_at hl 3 rfl) ?_
                                                    refine lv_iconst (v := (1 : Int32)) hx hb d_law_793 (by decide) ?_
                                                    refine lv_iadd hx hb d_law_794 ?_
                                                    obtain ⟨hi795, e⟩ := ce_gd e
                                                    refine va_sld hx hb hX hbl (Nat.not_le.mpr hbl) hH.2.2 (ce_in_vp hi795) d_law_795 ?_
                                                    refine lv_aload_n hx hb d_law_796 rfl (lv_at hl 0 rfl) ?_
                                                    refine lv_iload_n hx hb d_law_797 rfl (lv_at hl 3 rfl) ?_
                                                    refine lv_iconst (v := (2 : Int32)) hx hb d_law_798 (by decide) ?_
                                                    refine lv_iadd hx hb d_law_799 ?_
                                                    obtain ⟨hi800, e⟩ := ce_gd e
                                                    refine va_sld hx hb hX hbl (Nat.not_le.mpr hbl) hH.2.2 (ce_in_vp hi800) d_law_800 ?_
                                                    obtain ⟨o801, eo801, e⟩ := ce_bd e
                                                    refine ce_callV (As := [.int (xs ((x3 + (1 : Int32))).toNatClampNeg), .int (xs ((x3 + (2 : Int32))).toNatClampNeg)]) (rest := []) C (ce_sok aK aV s.heap.size) hH (c11_packet l D ad cA aK aV s.heap.size C.2.2.2.2.2.2.1 F (xs ((x3 + (1 : Int32))).toNatClampNeg) (xs ((x3 + (2 : Int32))).toNatClampNeg)  h o801 eo801) lo_0.1 lo_0.2.choose_spec rfl rfl mc11_packet ml_L_106 mi11_packet ms11_packet mI_11 (n := 2) (by decide) rfl ⟨Nat.le_of_ble_eq_true rfl, Nat.le_of_ble_eq_true rfl⟩ ⟨show 96 + t + 0 ≤ 600000 by omega, show 5568 + 5 * t + 0 ≤ 7302250 by omega⟩ hl.1 rfl (Nat.le_of_ble_eq_true rfl) d_law_801 (fun H locs hH => ?_)
                                                    refine W.eq (g2 := F0 m 804 ls [.int o801.1]) rfl ?_
                                                    refine lv_aload_n hx hb d_law_804 rfl (lv_at hl 2 rfl) ?_
                                                    refine lv_aload_n hx hb d_law_805 rfl (lv_at hl 0 rfl) ?_
                                                    refine lv_iload_n hx hb d_law_806 rfl (lv_at hl 3 rfl) ?_
                                                    refine lv_iconst (v := (1 : Int32)) hx hb d_law_807 (by decide) ?_
                                                    refine lv_iadd hx hb d_law_808 ?_
                                                    obtain ⟨hi809, e⟩ := ce_gd e
                                                    refine va_sld hx hb hX hbl (Nat.not_le.mpr hbl) hH.2.2 (ce_in_vp hi809) d_law_809 ?_
                                                    refine lv_aload_n hx hb d_law_810 rfl (lv_at hl 0 rfl) ?_
                                                    refine lv_iload_n hx hb d_law_811 rfl (lv_at hl 3 rfl) ?_
                                                    refine lv_iconst (v := (2 : Int32)) hx hb d_law_812 (by decide) ?_
                                                    refine lv_iadd hx hb d_law_813 ?_
                                                    obtain ⟨hi814, e⟩ := ce_gd e
                                                    refine va_sld hx hb hX hbl (Nat.not_le.mpr hbl) hH.2.2 (ce_in_vp hi814) d_law_814 ?_
                                                    obtain ⟨o815, eo815, e⟩ := ce_bd e
                                                    refine ce_callV (As := [.int (xs ((x3 + (1 : Int32))).toNatClampNeg), .int (xs ((x3 + (2 : Int32))).toNatClampNeg)]) (rest := [.int o801.1]) C (ce_sok aK aV s.heap.size) hH (c12_packet l D ad cA aK aV s.heap.size C.2.2.2.2.2.2.1 F (xs ((x3 + (1 : Int32))).toNatClampNeg) (xs ((x3 + (2 : Int32))).toNatClampNeg)  o801.2 o815 eo815) lo_68.1 lo_68.2.choose_spec rfl rfl mc12_packet ml_L_109 mi12_packet ms12_packet mI_12 (n := 2) (by decide) rfl ⟨Nat.le_of_ble_eq_true rfl, Nat.le_of_ble_eq_true rfl⟩ ⟨show 96 + t + 0 ≤ 600000 by omega, show 5568 + 5 * t + 0 ≤ 7302250 by omega⟩ hl.1 rfl (Nat.le_of_ble_eq_true rfl) d_law_815 (fun H locs hH => ?_)
                                                    refine W.eq (g2 := F0 m 818 ls [.int o815.1, .int o801.1]) rfl ?_
                                                    refine lv_icmp_eq (tgt := 1241) hx hb d_law_818 (by decide) (fun hc818 => ?_) (fun hc818 => ?_)
                                                    · have e := ce_if1 e hc818
                                                      refine lv_iinc (v := x3 + (6 : Int32)) (lv' := [(3, .int (x3 + (6 : Int32))), (0, .ref b), (1, .ref (ad 0)), (2, .ref (ad 68))]) hx hb d_law_1241 hl (k := 3) rfl rfl (by decide) rfl (fun ls hl => ?_)
                                                      refine lv_goto (tgt := 18) hx hb d_law_1244 (by decide) ?_
                                                      refine W.widen (k := 96 + (t + 1)) (n := 5568 + 5 * (t + 1)) (by omega) (by omega) ?_
                                                      exact ih (t + 1) (x3 + (6 : Int32)) o815.2 _ _ _ r (by omega) hH (lv_sub hl [1, 2, 3, 0] rfl) e
                                                    · have e := ce_if0 e hc818
                                                      refine lv_iconst (v := (0 : Int32)) hx hb d_law_821 (by decide) ?_
                                                      exact absurd e (fun z => by cases z)
                                                  · have e := ce_if0 e hc33_22
                                                    by_cases hc33_23 : ((xs (x3).toNatClampNeg) &&& (63 : Int32)) = (23 : Int32)
                                                    · have e := ce_if1 e hc33_23
                                                      refine lv_tableIn (off := 790) (tgt := 823) hx hb d_law_33 (by rw [hc33_23]; decide) (by rw [hc33_23]; decide) (by rw [hc33_23]; rfl) (by decide) ?_
                                                      refine lv_aload_n hx hb d_law_823 rfl (lv_at hl 1 rfl) ?_
                                                      obtain ⟨o824, eo824, e⟩ := ce_bd e
                                                      refine ce_callV (As := []) (rest := []) C (ce_sok aK aV s.heap.size) hH (c11_packets l D ad cA aK aV s.heap.size C.2.2.2.2.2.2.1 F   h o824 eo824) lo_0.1 lo_0.2.choose_spec rfl rfl mc11_packets ml_L_110 mi11_packets ms11_packets mI_11 (n := 0) (by decide) rfl ⟨Nat.le_of_ble_eq_true rfl, Nat.le_of_ble_eq_true rfl⟩ ⟨show 96 + t + 0 ≤ 600000 by omega, show 5568 + 5 * t + 0 ≤ 7302250 by omega⟩ hl.1 rfl (Nat.le_of_ble_eq_true rfl) d_law_824 (fun H locs hH => ?_)
                                                      refine W.eq (g2 := F0 m 827 ls [.int o824.1]) rfl ?_
                                                      refine lv_aload_n hx hb d_law_827 rfl (lv_at hl 2 rfl) ?_
                                                      obtain ⟨o828, eo828, e⟩ := ce_bd e
                                                      refine ce_callV (As := []) (rest := [.int o824.1]) C (ce_sok aK aV s.heap.size) hH (c12_packets l D ad cA aK aV s.heap.size C.2.2.2.2.2.2.1 F   o824.2 o828 eo828) lo_68.1 lo_68.2.choose_spec rfl rfl mc12_packets ml_L_113 mi12_packets ms12_packets mI_12 (n := 0) (by decide) rfl ⟨Nat.le_of_ble_eq_true rfl, Nat.le_of_ble_eq_true rfl⟩ ⟨show 96 + t + 0 ≤ 600000 by omega, show 5568 + 5 * t + 0 ≤ 7302250 by omega⟩ hl.1 rfl (Nat.le_of_ble_eq_true rfl) d_law_828 (fun H locs hH => ?_)
                                                      refine W.eq (g2 := F0 m 831 ls [.int o828.1, .int o824.1]) rfl ?_
                                                      refine lv_icmp_eq (tgt := 1241) hx hb d_law_831 (by decide) (fun hc831 => ?_) (fun hc831 => ?_)
                                                      · have e := ce_if1 e hc831
                                                        refine lv_iinc (v := x3 + (6 : Int32)) (lv' := [(3, .int (x3 + (6 : Int32))), (0, .ref b), (1, .ref (ad 0)), (2, .ref (ad 68))]) hx hb d_law_1241 hl (k := 3) rfl rfl (by decide) rfl (fun ls hl => ?_)
                                                        refine lv_goto (tgt := 18) hx hb d_law_1244 (by decide) ?_
                                                        refine W.widen (k := 96 + (t + 1)) (n := 5568 + 5 * (t + 1)) (by omega) (by omega) ?_
                                                        exact ih (t + 1) (x3 + (6 : Int32)) o828.2 _ _ _ r (by omega) hH (lv_sub hl [1, 2, 3, 0] rfl) e
                                                      · have e := ce_if0 e hc831
                                                        refine lv_iconst (v := (0 : Int32)) hx hb d_law_834 (by decide) ?_
                                                        exact absurd e (fun z => by cases z)
                                                    · have e := ce_if0 e hc33_23
                                                      by_cases hc33_24 : ((xs (x3).toNatClampNeg) &&& (63 : Int32)) = (24 : Int32)
                                                      · have e := ce_if1 e hc33_24
                                                        refine lv_tableIn (off := 803) (tgt := 836) hx hb d_law_33 (by rw [hc33_24]; decide) (by rw [hc33_24]; decide) (by rw [hc33_24]; rfl) (by decide) ?_
                                                        refine lv_aload_n hx hb d_law_836 rfl (lv_at hl 1 rfl) ?_
                                                        refine lv_aload_n hx hb d_law_837 rfl (lv_at hl 0 rfl) ?_
                                                        refine lv_iload_n hx hb d_law_838 rfl (lv_at hl 3 rfl) ?_
                                                        refine lv_iconst (v := (1 : Int32)) hx hb d_law_839 (by decide) ?_
                                                        refine lv_iadd hx hb d_law_840 ?_
                                                        obtain ⟨hi841, e⟩ := ce_gd e
                                                        refine va_sld hx hb hX hbl (Nat.not_le.mpr hbl) hH.2.2 (ce_in_vp hi841) d_law_841 ?_
                                                        refine lv_aload_n hx hb d_law_842 rfl (lv_at hl 0 rfl) ?_
                                                        refine lv_iload_n hx hb d_law_843 rfl (lv_at hl 3 rfl) ?_
                                                        refine lv_iconst (v := (2 : Int32)) hx hb d_law_844 (by decide) ?_
                                                        refine lv_iadd hx hb d_law_845 ?_
                                                        obtain ⟨hi846, e⟩ := ce_gd e
                                                        refine va_sld hx hb hX hbl (Nat.not_le.mpr hbl) hH.2.2 (ce_in_vp hi846) d_law_846 ?_
                                                        obtain ⟨o847, eo847, e⟩ := ce_bd e
                                                        refine ce_callV (As := [.int (xs ((x3 + (1 : Int32))).toNatClampNeg), .int (xs ((x3 + (2 : Int32))).toNatClampNeg)]) (rest := []) C (ce_sok aK aV s.heap.size) hH (c11_built l D ad cA aK aV s.heap.size C.2.2.2.2.2.2.1 F (xs ((x3 + (1 : Int32))).toNatClampNeg) (xs ((x3 + (2 : Int32))).toNatClampNeg)  h o847 eo847) lo_0.1 lo_0.2.choose_spec rfl rfl mc11_built ml_L_114 mi11_built ms11_built mI_11 (n := 2) (by decide) rfl ⟨Nat.le_of_ble_eq_true rfl, Nat.le_of_ble_eq_true rfl⟩ ⟨show 96 + t + 0 ≤ 600000 by omega, show 5568 + 5 * t + 0 ≤ 7302250 by omega⟩ hl.1 rfl (Nat.le_of_ble_eq_true rfl) d_law_847 (fun H locs hH => ?_)
                                                        refine W.eq (g2 := F0 m 850 ls [.int o847.1]) rfl ?_
                                                        refine lv_aload_n hx hb d_law_850 rfl (lv_at hl 2 rfl) ?_
                                                        refine lv_aload_n hx hb d_law_851 rfl (lv_at hl 0 rfl) ?_
                                                        refine lv_iload_n hx hb d_law_852 rfl (lv_at hl 3 rfl) ?_
                                                        refine lv_iconst (v := (1 : Int32)) hx hb d_law_853 (by decide) ?_
                                                        refine lv_iadd hx hb d_law_854 ?_
                                                        obtain ⟨hi855, e⟩ := ce_gd e
                                                        refine va_sld hx hb hX hbl (Nat.not_le.mpr hbl) hH.2.2 (ce_in_vp hi855) d_law_855 ?_
                                                        refine lv_aload_n hx hb d_law_856 rfl (lv_at hl 0 rfl) ?_
                                                        refine lv_iload_n hx hb d_law_857 rfl (lv_at hl 3 rfl) ?_
                                                        refine lv_iconst (v := (2 : Int32)) hx hb d_law_858 (by decide) ?_
                                                        refine lv_iadd hx hb d_law_859 ?_
                                                        obtain ⟨hi860, e⟩ := ce_gd e
                                                        refine va_sld hx hb hX hbl (Nat.not_le.mpr hbl) hH.2.2 (ce_in_vp hi860) d_law_860 ?_
                                                        obtain ⟨o861, eo861, e⟩ := ce_bd e
                                                        refine ce_callV (As := [.int (xs ((x3 + (1 : Int32))).toNatClampNeg), .int (xs ((x3 + (2 : Int32))).toNatClampNeg)]) (rest := [.int o847.1]) C (ce_sok aK aV s.heap.size) hH (c12_built l D ad cA aK aV s.heap.size C.2.2.2.2.2.2.1 F (xs ((x3 + (1 : Int32))).toNatClampNeg) (xs ((x3 + (2 : Int32))).toNatClampNeg)  o847.2 o861 eo861) lo_68.1 lo_68.2.choose_spec rfl rfl mc12_built ml_L_117 mi12_built ms12_built mI_12 (n := 2) (by decide) rfl ⟨Nat.le_of_ble_eq_true rfl, Nat.le_of_ble_eq_true rfl⟩ ⟨show 96 + t + 0 ≤ 600000 by omega, show 5568 + 5 * t + 0 ≤ 7302250 by omega⟩ hl.1 rfl (Nat.le_of_ble_eq_true rfl) d_law_861 (fun H locs hH => ?_)
                                                        refine W.eq (g2 := F0 m 864 ls [.int o861.1, .int o847.1]) rfl ?_
                                                        refine lv_icmp_eq (tgt := 1241) hx hb d_law_864 (by decide) (fun hc864 => ?_) (fun hc864 => ?_)
                                                        · have e := ce_if1 e hc864
                                                          refine lv_iinc (v := x3 + (6 : Int32)) (lv' := [(3, .int (x3 + (6 : Int32))), (0, .ref b), (1, .ref (ad 0)), (2, .ref (ad 68))]) hx hb d_law_1241 hl (k := 3) rfl rfl (by decide) rfl (fun ls hl => ?_)
                                                          refine lv_goto (tgt := 18) hx hb d_law_1244 (by decide) ?_
                                                          refine W.widen (k := 96 + (t + 1)) (n := 5568 + 5 * (t + 1)) (by omega) (by omega) ?_
                                                          exact ih (t + 1) (x3 + (6 : Int32)) o861.2 _ _ _ r (by omega) hH (lv_sub hl [1, 2, 3, 0] rfl) e
                                                        · have e := ce_if0 e hc864
                                                          refine lv_iconst (v := (0 : Int32)) hx hb d_law_867 (by decide) ?_
                                                          exact absurd e (fun z => by cases z)
                                                      · have e := ce_if0 e hc33_24
                                                        by_cases hc33_25 : ((xs (x3).toNatClampNeg) &&& (63 : Int32)) = (25 : Int32)
                                                        · have e := ce_if1 e hc33_25
                                                          refine lv_tableIn (off := 836) (tgt := 869) hx hb d_law_33 (by rw [hc33_25]; decide) (by rw [hc33_25]; decide) (by rw [hc33_25]; rfl) (by decide) ?_
                                                          refine lv_aload_n hx hb d_law_869 rfl (lv_at hl 1 rfl) ?_
                                                          refine lv_aload_n hx hb d_law_870 rfl (lv_at hl 0 rfl) ?_
                                                          refine lv_iload_n hx hb d_law_871 rfl (lv_at hl 3 rfl) ?_
                                                          refine lv_iconst (v := (1 : Int32)) hx hb d_law_872 (by decide) ?_
                                                          refine lv_iadd hx hb d_law_873 ?_
                                                          obtain ⟨hi874, e⟩ := ce_gd e
                                                          refine va_sld hx hb hX hbl (Nat.not_le.mpr hbl) hH.2.2 (ce_in_vp hi874) d_law_874 ?_
                                                          obtain ⟨o875, eo875, e⟩ := ce_bd e
                                                          refine ce_callV (As := [.int (xs ((x3 + (1 : Int32))).toNatClampNeg)]) (rest := []) C (ce_sok aK aV s.heap.size) hH (c11_unlike l D ad cA aK aV s.heap.size C.2.2.2.2.2.2.1 F (xs ((x3 + (1 : Int32))).toNatClampNeg)  h o875 eo875) lo_0.1 lo_0.2.choose_spec rfl rfl mc11_unlike ml_L_118 mi11_unlike ms11_unlike mI_11 (n := 1) (by decide) rfl ⟨Nat.le_of_ble_eq_true rfl, Nat.le_of_ble_eq_true rfl⟩ ⟨show 96 + t + 0 ≤ 600000 by omega, show 5568 + 5 * t + 0 ≤ 7302250 by omega⟩ hl.1 rfl (Nat.le_of_ble_eq_true rfl) d_law_875 (fun H locs hH => ?_)
                                                          refine W.eq (g2 := F0 m 878 ls [.int o875.1]) rfl ?_
                                                          refine lv_aload_n hx hb d_law_878 rfl (lv_at hl 2 rfl) ?_
                                                          refine lv_aload_n hx hb d_law_879 rfl (lv_at hl 0 rfl) ?_
                                                          refine lv_iload_n hx hb d_law_880 rfl (lv_at hl 3 rfl) ?_
                                                          refine lv_iconst (v := (1 : Int32)) hx hb d_law_881 (by decide) ?_
                                                          refine lv_iadd hx hb d_law_882 ?_
                                                          obtain ⟨hi883, e⟩ := ce_gd e
                                                          refine va_sld hx hb hX hbl (Nat.not_le.mpr hbl) hH.2.2 (ce_in_vp hi883) d_law_883 ?_
                                                          obtain ⟨o884, eo884, e⟩ := ce_bd e
                                                          refine ce_callV (As := [.int (xs ((x3 + (1 : Int32))).toNatClampNeg)]) (rest := [.int o875.1]) C (ce_sok aK aV s.heap.size) hH (c12_unlike l D ad cA aK aV s.heap.size C.2.2.2.2.2.2.1 F (xs ((x3 + (1 : Int32))).toNatClampNeg)  o875.2 o884 eo884) lo_68.1 lo_68.2.choose_spec rfl rfl mc12_unlike ml_L_121 mi12_unlike ms12_unlike mI_12 (n := 1) (by decide) rfl ⟨Nat.le_of_ble_eq_true rfl, Nat.le_of_ble_eq_true rfl⟩ ⟨show 96 + t + 0 ≤ 600000 by omega, show 5568 + 5 * t + 0 ≤ 7302250 by omega⟩ hl.1 rfl (Nat.le_of_ble_eq_true rfl) d_law_884 (fun H locs hH => ?_)
                                                          refine W.eq (g2 := F0 m 887 ls [.int o884.1, .int o875.1]) rfl ?_
                                                          refine lv_icmp_eq (tgt := 1241) hx hb d_law_887 (by decide) (fun hc887 => ?_) (fun hc887 => ?_)
                                                          · have e := ce_if1 e hc887
                                                            refine lv_iinc (v := x3 + (6 : Int32)) (lv' := [(3, .int (x3 + (6 : Int32))), (0, .ref b), (1, .ref (ad 0)), (2, .ref (ad 68))]) hx hb d_law_1241 hl (k := 3) rfl rfl (by decide) rfl (fun ls hl => ?_)
                                                            refine lv_goto (tgt := 18) hx hb d_law_1244 (by decide) ?_
                                                            refine W.widen (k := 96 + (t + 1)) (n := 5568 + 5 * (t + 1)) (by omega) (by omega) ?_
                                                            exact ih (t + 1) (x3 + (6 : Int32)) o884.2 _ _ _ r (by omega) hH (lv_sub hl [1, 2, 3, 0] rfl) e
                                                          · have e := ce_if0 e hc887
                                                            refine lv_iconst (v := (0 : Int32)) hx hb d_law_890 (by decide) ?_
                                                            exact absurd e (fun z => by cases z)
                                                        · have e := ce_if0 e hc33_25
                                                          by_cases hc33_26 : ((xs (x3).toNatClampNeg) &&& (63 : Int32)) = (26 : Int32)
                                                          · have e := ce_if1 e hc33_26
                                                            refine lv_tableIn (off := 859) (tgt := 892) hx hb d_law_33 (by rw [hc33_26]; decide) (by rw [hc33_26]; decide) (by rw [hc33_26]; rfl) (by decide) ?_
                                                            refine lv_aload_n hx hb d_law_892 rfl (lv_at hl 1 rfl) ?_
                                                            refine lv_aload_n hx hb d_law_893 rfl (lv_at hl 0 rfl) ?_
                                                            refine lv_iload_n hx hb d_law_894 rfl (lv_at hl 3 rfl) ?_
                                                            refine lv_iconst (v := (1 : Int32)) hx hb d_law_895 (by decide) ?_
                                                            refine lv_iadd hx hb d_law_896 ?_
                                                            obtain ⟨hi897, e⟩ := ce_gd e
                                                            refine va_sld hx hb hX hbl (Nat.not_le.mpr hbl) hH.2.2 (ce_in_vp hi897) d_law_897 ?_
                                                            obtain ⟨o898, eo898, e⟩ := ce_bd e
                                                            refine ce_callV (As := [.int (xs ((x3 + (1 : Int32))).toNatClampNeg)]) (rest := []) C (ce_sok aK aV s.heap.size) hH (c11_wins l D ad cA aK aV s.heap.size C.2.2.2.2.2.2.1 F (xs ((x3 + (1 : Int32))).toNatClampNeg)  h o898 eo898) lo_0.1 lo_0.2.choose_spec rfl rfl mc11_wins ml_L_122 mi11_wins ms11_wins mI_11 (n := 1) (by decide) rfl ⟨Nat.le_of_ble_eq_true rfl, Nat.le_of_ble_eq_true rfl⟩ ⟨show 96 + t + 0 ≤ 600000 by omega, show 5568 + 5 * t + 0 ≤ 7302250 by omega⟩ hl.1 rfl (Nat.le_of_ble_eq_true rfl) d_law_898 (fun H locs hH => ?_)
                                                            refine W.eq (g2 := F0 m 901 ls [.int o898.1]) rfl ?_
                                                            refine lv_aload_n hx hb d_law_901 rfl (lv_at hl 2 rfl) ?_
                                                            refine lv_aload_n hx hb d_law_902 rfl (lv_at hl 0 rfl) ?_
                                                            refine lv_iload_n hx hb d_law_903 rfl (lv_at hl 3 rfl) ?_
                                                            refine lv_iconst (v := (1 : Int32)) hx hb d_law_904 (by decide) ?_
                                                            refine lv_iadd hx hb d_law_905 ?_
                                                            obtain ⟨hi906, e⟩ := ce_gd e
                                                            refine va_sld hx hb hX hbl (Nat.not_le.mpr hbl) hH.2.2 (ce_in_vp hi906) d_law_906 ?_
                                                            obtain ⟨o907, eo907, e⟩ := ce_bd e
                                                            refine ce_callV (As := [.int (xs ((x3 + (1 : Int32))).toNatClampNeg)]) (rest := [.int o898.1]) C (ce_sok aK aV s.heap.size) hH (c12_wins l D ad cA aK aV s.heap.size C.2.2.2.2.2.2.1 F (xs ((x3 + (1 : Int32))).toNatClampNeg)  o898.2 o907 eo907) lo_68.1 lo_68.2.choose_spec rfl rfl mc12_wins ml_L_125 mi12_wins ms12_wins mI_12 (n := 1) (by decide) rfl ⟨Nat.le_of_ble_eq_true rfl, Nat.le_of_ble_eq_true rfl⟩ ⟨show 96 + t + 0 ≤ 600000 by omega, show 5568 + 5 * t + 0 ≤ 7302250 by omega⟩ hl.1 rfl (Nat.le_of_ble_eq_true rfl) d_law_907 (fun H locs hH => ?_)
                                                            refine W.eq (g2 := F0 m 910 ls [.int o907.1, .int o898.1]) rfl ?_
                                                            refine lv_icmp_eq (tgt := 1241) hx hb d_law_910 (by decide) (fun hc910 => ?_) (fun hc910 => ?_)
                                                            · have e := ce_if1 e hc910
                                                              refine lv_iinc (v := x3 + (6 : Int32)) (lv' := [(3, .int (x3 + (6 : Int32))), (0, .ref b), (1, .ref (ad 0)), (2, .ref (ad 68))]) hx hb d_law_1241 hl (k := 3) rfl rfl (by decide) rfl (fun ls hl => ?_)
                                                              refine lv_goto (tgt := 18) hx hb d_law_1244 (by decide) ?_
                                                              refine W.widen (k := 96 + (t + 1)) (n := 5568 + 5 * (t + 1)) (by omega) (by omega) ?_
                                                              exact ih (t + 1) (x3 + (6 : Int32)) o907.2 _ _ _ r (by omega) hH (lv_sub hl [1, 2, 3, 0] rfl) e
                                                            · have e := ce_if0 e hc910
                                                              refine lv_iconst (v := (0 : Int32)) hx hb d_law_913 (by decide) ?_
                                                              exact absurd e (fun z => by cases z)
                                                          · have e := ce_if0 e hc33_26
                                                            by_cases hc33_27 : ((xs (x3).toNatClampNeg) &&& (63 : Int32)) = (27 : Int32)
                                                            · have e := ce_if1 e hc33_27
                                                              refine lv_tableIn (off := 882) (tgt := 915) hx hb d_law_33 (by rw [hc33_27]; decide) (by rw [hc33_27]; decide) (by rw [hc33_27]; rfl) (by decide) ?_
                                                              refine lv_aload_n hx hb d_law_915 rfl (lv_at hl 1 rfl) ?_
                                                              refine lv_aload_n hx hb d_law_916 rfl (lv_at hl 0 rfl) ?_
                                                              refine lv_iload_n hx hb d_law_917 rfl (lv_at hl 3 rfl) ?_
                                                              refine lv_iconst (v := (1 : Int32)) hx hb d_law_918 (by decide) ?_
                                                              refine lv_iadd hx hb d_law_919 ?_
                                                              obtain ⟨hi920, e⟩ := ce_gd e
                                                              refine va_sld hx hb hX hbl (Nat.not_le.mpr hbl) hH.2.2 (ce_in_vp hi920) d_law_920 ?_
                                                              obtain ⟨o921, eo921, e⟩ := ce_bd e
                                                              refine ce_callV (As := [.int (xs ((x3 + (1 : Int32))).toNatClampNeg)]) (rest := []) C (ce_sok aK aV s.heap.size) hH (c11_grant l D ad cA aK aV s.heap.size C.2.2.2.2.2.2.1 F (xs ((x3 + (1 : Int32))).toNatClampNeg)  h o921 eo921) lo_0.1 lo_0.2.choose_spec rfl rfl mc11_grant ml_L_126 mi11_grant ms11_grant mI_11 (n := 1) (by decide) rfl ⟨Nat.le_of_ble_eq_true rfl, Nat.le_of_ble_eq_true rfl⟩ ⟨show 96 + t + 0 ≤ 600000 by omega, show 5568 + 5 * t + 0 ≤ 7302250 by omega⟩ hl.1 rfl (Nat.le_of_ble_eq_true rfl) d_law_921 (fun H locs hH => ?_)
                                                              refine W.eq (g2 := F0 m 924 ls [.int o921.1]) rfl ?_
                                                              refine lv_aload_n hx hb d_law_924 rfl (lv_at hl 2 rfl) ?_
                                                              refine lv_aload_n hx hb d_law_925 rfl (lv_at hl 0 rfl) ?_
                                                              refine lv_iload_n hx hb d_law_926 rfl (lv_at hl 3 rfl) ?_
                                                              refine lv_iconst (v := (1 : Int32)) hx hb d_law_927 (by decide) ?_
                                                              refine lv_iadd hx hb d_law_928 ?_
                                                              obtain ⟨hi929, e⟩ := ce_gd e
                                                              refine va_sld hx hb hX hbl (Nat.not_le.mpr hbl) hH.2.2 (ce_in_vp hi929) d_law_929 ?_
                                                              obtain ⟨o930, eo930, e⟩ := ce_bd e
                                                              refine ce_callV (As := [.int (xs ((x3 + (1 : Int32))).toNatClampNeg)]) (rest := [.int o921.1]) C (ce_sok aK aV s.heap.size) hH (c12_grant l D ad cA aK aV s.heap.size C.2.2.2.2.2.2.1 F (xs ((x3 + (1 : Int32))).toNatClampNeg)  o921.2 o930 eo930) lo_68.1 lo_68.2.choose_spec rfl rfl mc12_grant ml_L_129 mi12_grant ms12_grant mI_12 (n := 1) (by decide) rfl ⟨Nat.le_of_ble_eq_true rfl, Nat.le_of_ble_eq_true rfl⟩ ⟨show 96 + t + 0 ≤ 600000 by omega, show 5568 + 5 * t + 0 ≤ 7302250 by omega⟩ hl.1 rfl (Nat.le_of_ble_eq_true rfl) d_law_930 (fun H locs hH => ?_)
                                                              refine W.eq (g2 := F0 m 933 ls [.int o930.1, .int o921.1]) rfl ?_
                                                              refine lv_icmp_eq (tgt := 1241) hx hb d_law_933 (by decide) (fun hc933 => ?_) (fun hc933 => ?_)
                                                              · have e := ce_if1 e hc933
                                                                refine lv_iinc (v := x3 + (6 : Int32)) (lv' := [(3, .int (x3 + (6 : Int32))), (0, .ref b), (1, .ref (ad 0)), (2, .ref (ad 68))]) hx hb d_law_1241 hl (k := 3) rfl rfl (by decide) rfl (fun ls hl => ?_)
                                                                refine lv_goto (tgt := 18) hx hb d_law_1244 (by decide) ?_
                                                                refine W.widen (k := 96 + (t + 1)) (n := 5568 + 5 * (t + 1)) (by omega) (by omega) ?_
                                                                exact ih (t + 1) (x3 + (6 : Int32)) o930.2 _ _ _ r (by omega) hH (lv_sub hl [1, 2, 3, 0] rfl) e
                                                              · have e := ce_if0 e hc933
                                                                refine lv_iconst (v := (0 : Int32)) hx hb d_law_936 (by decide) ?_
                                                                exact absurd e (fun z => by cases z)
                                                            · have e := ce_if0 e hc33_27
                                                              by_cases hc33_28 : ((xs (x3).toNatClampNeg) &&& (63 : Int32)) = (28 : Int32)
                                                              · have e := ce_if1 e hc33_28
                                                                refine lv_tableIn (off := 905) (tgt := 938) hx hb d_law_33 (by rw [hc33_28]; decide) (by rw [hc33_28]; decide) (by rw [hc33_28]; rfl) (by decide) ?_
                                                                refine lv_aload_n hx hb d_law_938 rfl (lv_at hl 1 rfl) ?_
                                                                refine lv_aload_n hx hb d_law_939 rfl (lv_at hl 0 rfl) ?_
                                                                refine lv_iload_n hx hb d_law_940 rfl (lv_at hl 3 rfl) ?_
                                                                refine lv_iconst (v := (1 : Int32)) hx hb d_law_941 (by decide) ?_
                                                                refine lv_iadd hx hb d_law_942 ?_
                                                                obtain ⟨hi943, e⟩ := ce_gd e
                                                                refine va_sld hx hb hX hbl (Nat.not_le.mpr hbl) hH.2.2 (ce_in_vp hi943) d_law_943 ?_
                                                                refine lv_aload_n hx hb d_law_944 rfl (lv_at hl 0 rfl) ?_
                                                                refine lv_iload_n hx hb d_law_945 rfl (lv_at hl 3 rfl) ?_
                                                                refine lv_iconst (v := (2 : Int32)) hx hb d_law_946 (by decide) ?_
                                                                refine lv_iadd hx hb d_law_947 ?_
                                                                obtain ⟨hi948, e⟩ := ce_gd e
                                                                refine va_sld hx hb hX hbl (Nat.not_le.mpr hbl) hH.2.2 (ce_in_vp hi948) d_law_948 ?_
                                                                obtain ⟨o949, eo949, e⟩ := ce_bd e
                                                                refine ce_callV (As := [.int (xs ((x3 + (1 : Int32))).toNatClampNeg), .int (xs ((x3 + (2 : Int32))).toNatClampNeg)]) (rest := []) C (ce_sok aK aV s.heap.size) hH (c11_turn l D ad cA aK aV s.heap.size C.2.2.2.2.2.2.1 F (xs ((x3 + (1 : Int32))).toNatClampNeg) (xs ((x3 + (2 : Int32))).toNatClampNeg)  h o949 eo949) lo_0.1 lo_0.2.choose_spec rfl rfl mc11_turn ml_L_130 mi11_turn ms11_turn mI_11 (n := 2) (by decide) rfl ⟨Nat.le_of_ble_eq_true rfl, Nat.le_of_ble_eq_true rfl⟩ ⟨show 96 + t + 0 ≤ 600000 by omega, show 5568 + 5 * t + 0 ≤ 7302250 by omega⟩ hl.1 rfl (Nat.le_of_ble_eq_true rfl) d_law_949 (fun H locs hH => ?_)
                                                                refine W.eq (g2 := F0 m 952 ls [.int o949.1]) rfl ?_
                                                                refine lv_aload_n hx hb d_law_952 rfl (lv_at hl 2 rfl) ?_
                                                                refine lv_aload_n hx hb d_law_953 rfl (lv_at hl 0 rfl) ?_
                                                                refine lv_iload_n hx hb d_law_954 rfl (lv_at hl 3 rfl) ?_
                                                                refine lv_iconst (v := (1 : Int32)) hx hb d_law_955 (by decide) ?_
                                                                refine lv_iadd hx hb d_law_956 ?_
                                                                obtain ⟨hi957, e⟩ := ce_gd e
                                                                refine va_sld hx hb hX hbl (Nat.not_le.mpr hbl) hH.2.2 (ce_in_vp hi957) d_law_957 ?_
                                                                refine lv_aload_n hx hb d_law_958 rfl (lv_at hl 0 rfl) ?_
                                                                refine lv_iload_n hx hb d_law_959 rfl (lv_at hl 3 rfl) ?_
                                                                refine lv_iconst (v := (2 : Int32)) hx hb d_law_960 (by decide) ?_
                                                                refine lv_iadd hx hb d_law_961 ?_
                                                                obtain ⟨hi962, e⟩ := ce_gd e
                                                                refine va_sld hx hb hX hbl (Nat.not_le.mpr hbl) hH.2.2 (ce_in_vp hi962) d_law_962 ?_
                                                                obtain ⟨o963, eo963, e⟩ := ce_bd e
                                                                refine ce_callV (As := [.int (xs ((x3 + (1 : Int32))).toNatClampNeg), .int (xs ((x3 + (2 : Int32))).toNatClampNeg)]) (rest := [.int o949.1]) C (ce_sok aK aV s.heap.size) hH (c12_turn l D ad cA aK aV s.heap.size C.2.2.2.2.2.2.1 F (xs ((x3 + (1 : Int32))).toNatClampNeg) (xs ((x3 + (2 : Int32))).toNatClampNeg)  o949.2 o963 eo963) lo_68.1 lo_68.2.choose_spec rfl rfl mc12_turn ml_L_133 mi12_turn ms12_turn mI_12 (n := 2) (by decide) rfl ⟨Nat.le_of_ble_eq_true rfl, Nat.le_of_ble_eq_true rfl⟩ ⟨show 96 + t + 0 ≤ 600000 by omega, show 5568 + 5 * t + 0 ≤ 7302250 by omega⟩ hl.1 rfl (Nat.le_of_ble_eq_true rfl) d_law_963 (fun H locs hH => ?_)
                                                                refine W.eq (g2 := F0 m 966 ls [.int o963.1, .int o949.1]) rfl ?_
                                                                refine lv_icmp_eq (tgt := 1241) hx hb d_law_966 (by decide) (fun hc966 => ?_) (fun hc966 => ?_)
                                                                · have e := ce_if1 e hc966
                                                                  refine lv_iinc (v := x3 + (6 : Int32)) (lv' := [(3, .int (x3 + (6 : Int32))), (0, .ref b), (1, .ref (ad 0)), (2, .ref (ad 68))]) hx hb d_law_1241 hl (k := 3) rfl rfl (by decide) rfl (fun ls hl => ?_)
                                                                  refine lv_goto (tgt := 18) hx hb d_law_1244 (by decide) ?_
                                                                  refine W.widen (k := 96 + (t + 1)) (n := 5568 + 5 * (t + 1)) (by omega) (by omega) ?_
                                                                  exact ih (t + 1) (x3 + (6 : Int32)) o963.2 _ _ _ r (by omega) hH (lv_sub hl [1, 2, 3, 0] rfl) e
                                                                · have e := ce_if0 e hc966
                                                                  refine lv_iconst (v := (0 : Int32)) hx hb d_law_969 (by decide) ?_
                                                                  exact absurd e (fun z => by cases z)
                                                              · have e := ce_if0 e hc33_28
                                                                by_cases hc33_29 : ((xs (x3).toNatClampNeg) &&& (63 : Int32)) = (29 : Int32)
                                                                · have e := ce_if1 e hc33_29
                                                                  refine lv_tableIn (off := 938) (tgt := 971) hx hb d_law_33 (by rw [hc33_29]; decide) (by rw [hc33_29]; decide) (by rw [hc33_29]; rfl) (by decide) ?_
                                                                  refine lv_aload_n hx hb d_law_971 rfl (lv_at hl 1 rfl) ?_
                                                                  refine lv_aload_n hx hb d_law_972 rfl (lv_at hl 0 rfl) ?_
                                                                  refine lv_iload_n hx hb d_law_973 rfl (lv_at hl 3 rfl) ?_
                                                                  refine lv_iconst (v := (1 : Int32)) hx hb d_law_974 (by decide) ?_
                                                                  refine lv_iadd hx hb d_law_975 ?_
                                                                  obtain ⟨hi976, e⟩ := ce_gd e
                                                                  refine va_sld hx hb hX hbl (Nat.not_le.mpr hbl) hH.2.2 (ce_in_vp hi976) d_law_976 ?_
                                                                  obtain ⟨o977, eo977, e⟩ := ce_bd e
                                                                  refine ce_callV (As := [.int (xs ((x3 + (1 : Int32))).toNatClampNeg)]) (rest := []) C (ce_sok aK aV s.heap.size) hH (c11_fair l D ad cA aK aV s.heap.size C.2.2.2.2.2.2.1 F (xs ((x3 + (1 : Int32))).toNatClampNeg)  h o977 eo977) lo_0.1 lo_0.2.choose_spec rfl rfl mc11_fair ml_L_134 mi11_fair ms11_fair mI_11 (n := 1) (by decide) rfl ⟨Nat.le_of_ble_eq_true rfl, Nat.le_of_ble_eq_true rfl⟩ ⟨show 96 + t + 0 ≤ 600000 by omega, show 5568 + 5 * t + 0 ≤ 7302250 by omega⟩ hl.1 rfl (Nat.le_of_ble_eq_true rfl) d_law_977 (fun H locs hH => ?_)
                                                                  refine W.eq (g2 := F0 m 980 ls [.int o977.1]) rfl ?_
                                                                  refine lv_aload_n hx hb d_law_980 rfl (lv_at hl 2 rfl) ?_
                                                                  refine lv_aload_n hx hb d_law_981 rfl (lv_at hl 0 rfl) ?_
                                                                  refine lv_iload_n hx hb d_law_982 rfl (lv_at hl 3 rfl) ?_
                                                                  refine lv_iconst (v := (1 : Int32)) hx hb d_law_983 (by decide) ?_
                                                                  refine lv_iadd hx hb d_law_984 ?_
                                                                  obtain ⟨hi985, e⟩ := ce_gd e
                                                                  refine va_sld hx hb hX hbl (Nat.not_le.mpr hbl) hH.2.2 (ce_in_vp hi985) d_law_985 ?_
                                                                  obtain ⟨o986, eo986, e⟩ := ce_bd e
                                                                  refine ce_callV (As := [.int (xs ((x3 + (1 : Int32))).toNatClampNeg)]) (rest := [.int o977.1]) C (ce_sok aK aV s.heap.size) hH (c12_fair l D ad cA aK aV s.heap.size C.2.2.2.2.2.2.1 F (xs ((x3 + (1 : Int32))).toNatClampNeg)  o977.2 o986 eo986) lo_68.1 lo_68.2.choose_spec rfl rfl mc12_fair ml_L_137 mi12_fair ms12_fair mI_12 (n := 1) (by decide) rfl ⟨Nat.le_of_ble_eq_true rfl, Nat.le_of_ble_eq_true rfl⟩ ⟨show 96 + t + 0 ≤ 600000 by omega, show 5568 + 5 * t + 0 ≤ 7302250 by omega⟩ hl.1 rfl (Nat.le_of_ble_eq_true rfl) d_law_986 (fun H locs hH => ?_)
                                                                  refine W.eq (g2 := F0 m 989 ls [.int o986.1, .int o977.1]) rfl ?_
                                                                  refine lv_icmp_eq (tgt := 1241) hx hb d_law_989 (by decide) (fun hc989 => ?_) (fun hc989 => ?_)
                                                                  · have e := ce_if1 e hc989
                                                                    refine lv_iinc (v := x3 + (6 : Int32)) (lv' := [(3, .int (x3 + (6 : Int32))), (0, .ref b), (1, .ref (ad 0)), (2, .ref (ad 68))]) hx hb d_law_1241 hl (k := 3) rfl rfl (by decide) rfl (fun ls hl => ?_)
                                                                    refine lv_goto (tgt := 18) hx hb d_law_1244 (by decide) ?_
                                                                    refine W.widen (k := 96 + (t + 1)) (n := 5568 + 5 * (t + 1)) (by omega) (by omega) ?_
                                                                    exact ih (t + 1) (x3 + (6 : Int32)) o986.2 _ _ _ r (by omega) hH (lv_sub hl [1, 2, 3, 0] rfl) e
                                                                  · have e := ce_if0 e hc989
                                                                    refine lv_iconst (v := (0 : Int32)) hx hb d_law_992 (by decide) ?_
                                                                    exact absurd e (fun z => by cases z)
                                                                · have e := ce_if0 e hc33_29
                                                                  by_cases hc33_30 : ((xs (x3).toNatClampNeg) &&& (63 : Int32)) = (30 : Int32)
                                                                  · have e := ce_if1 e hc33_30
                                                                    refine lv_tableIn (off := 961) (tgt := 994) hx hb d_law_33 (by rw [hc33_30]; decide) (by rw [hc33_30]; decide) (by rw [hc33_30]; rfl) (by decide) ?_
                                                                    refine lv_aload_n hx hb d_law_994 rfl (lv_at hl 1 rfl) ?_
                                                                    refine lv_aload_n hx hb d_law_995 rfl (lv_at hl 0 rfl) ?_
                                                                    refine lv_iload_n hx hb d_law_996 rfl (lv_at hl 3 rfl) ?_
                                                                    refine lv_iconst (v := (1 : Int32)) hx hb d_law_997 (by decide) ?_
                                                                    refine lv_iadd hx hb d_law_998 ?_
                                                                    obtain ⟨hi999, e⟩ := ce_gd e
                                                                    refine va_sld hx hb hX hbl (Nat.not_le.mpr hbl) hH.2.2 (ce_in_vp hi999) d_law_999 ?_
                                                                    obtain ⟨o1000, eo1000, e⟩ := ce_bd e
                                                                    refine ce_callV (As := [.int (xs ((x3 + (1 : Int32))).toNatClampNeg)]) (rest := []) C (ce_sok aK aV s.heap.size) hH (c11_rootBy l D ad cA aK aV s.heap.size C.2.2.2.2.2.2.1 F (xs ((x3 + (1 : Int32))).toNatClampNeg)  h o1000 eo1000) lo_0.1 lo_0.2.choose_spec rfl rfl mc11_rootBy ml_L_138 mi11_rootBy ms11_rootBy mI_11 (n := 1) (by decide) rfl ⟨Nat.le_of_ble_eq_true rfl, Nat.le_of_ble_eq_true rfl⟩ ⟨show 96 + t + 0 ≤ 600000 by omega, show 5568 + 5 * t + 0 ≤ 7302250 by omega⟩ hl.1 rfl (Nat.le_of_ble_eq_true rfl) d_law_1000 (fun H locs hH => ?_)
                                                                    refine W.eq (g2 := F0 m 1003 ls [.int o1000.1]) rfl ?_
                                                                    refine lv_aload_n hx hb d_law_1003 rfl (lv_at hl 2 rfl) ?_
                                                                    refine lv_aload_n hx hb d_law_1004 rfl (lv_at hl 0 rfl) ?_
                                                                    refine lv_iload_n hx hb d_law_1005 rfl (lv_at hl 3 rfl) ?_
                                                                    refine lv_iconst (v := (1 : Int32)) hx hb d_law_1006 (by decide) ?_
                                                                    refine lv_iadd hx hb d_law_1007 ?_
                                                                    obtain ⟨hi1008, e⟩ := ce_gd e
                                                                    refine va_sld hx hb hX hbl (Nat.not_le.mpr hbl) hH.2.2 (ce_in_vp hi1008) d_law_1008 ?_
                                                                    obtain ⟨o1009, eo1009, e⟩ := ce_bd e
                                                                    refine ce_callV (As := [.int (xs ((x3 + (1 : Int32))).toNatClampNeg)]) (rest := [.int o1000.1]) C (ce_sok aK aV s.heap.size) hH (c12_rootBy l D ad cA aK aV s.heap.size C.2.2.2.2.2.2.1 F (xs ((x3 + (1 : Int32))).toNatClampNeg)  o1000.2 o1009 eo1009) lo_68.1 lo_68.2.choose_spec rfl rfl mc12_rootBy ml_L_141 mi12_rootBy ms12_rootBy mI_12 (n := 1) (by decide) rfl ⟨Nat.le_of_ble_eq_true rfl, Nat.le_of_ble_eq_true rfl⟩ ⟨show 96 + t + 0 ≤ 600000 by omega, show 5568 + 5 * t + 0 ≤ 7302250 by omega⟩ hl.1 rfl (Nat.le_of_ble_eq_true rfl) d_law_1009 (fun H locs hH => ?_)
                                                                    refine W.eq (g2 := F0 m 1012 ls [.int o1009.1, .int o1000.1]) rfl ?_
                                                                    refine lv_icmp_eq (tgt := 1241) hx hb d_law_1012 (by decide) (fun hc1012 => ?_) (fun hc1012 => ?_)
                                                                    · have e := ce_if1 e hc1012
                                                                      refine lv_iinc (v := x3 + (6 : Int32)) (lv' := [(3, .int (x3 + (6 : Int32))), (0, .ref b), (1, .ref (ad 0)), (2, .ref (ad 68))]) hx hb d_law_1241 hl (k := 3) rfl rfl (by decide) rfl (fun ls hl => ?_)
                                                                      refine lv_goto (tgt := 18) hx hb d_law_1244 (by decide) ?_
                                                                      refine W.widen (k := 96 + (t + 1)) (n := 5568 + 5 * (t + 1)) (by omega) (by omega) ?_
                                                                      exact ih (t + 1) (x3 + (6 : Int32)) o1009.2 _ _ _ r (by omega) hH (lv_sub hl [1, 2, 3, 0] rfl) e
                                                                    · have e := ce_if0 e hc1012
                                                                      refine lv_iconst (v := (0 : Int32)) hx hb d_law_1015 (by decide) ?_
                                                                      exact absurd e (fun z => by cases z)
                                                                  · have e := ce_if0 e hc33_30
                                                                    by_cases hc33_31 : ((xs (x3).toNatClampNeg) &&& (63 : Int32)) = (31 : Int32)
                                                                    · have e := ce_if1 e hc33_31
                                                                      refine lv_tableIn (off := 984) (tgt := 1017) hx hb d_law_33 (by rw [hc33_31]; decide) (by rw [hc33_31]; decide) (by rw [hc33_31]; rfl) (by decide) ?_
                                                                      refine lv_aload_n hx hb d_law_1017 rfl (lv_at hl 1 rfl) ?_
                                                                      refine lv_aload_n hx hb d_law_1018 rfl (lv_at hl 0 rfl) ?_
                                                                      refine lv_iload_n hx hb d_law_1019 rfl (lv_at hl 3 rfl) ?_
                                                                      refine lv_iconst (v := (1 : Int32)) hx hb d_law_1020 (by decide) ?_
                                                                      refine lv_iadd hx hb d_law_1021 ?_
                                                                      obtain ⟨hi1022, e⟩ := ce_gd e
                                                                      refine va_sld hx hb hX hbl (Nat.not_le.mpr hbl) hH.2.2 (ce_in_vp hi1022) d_law_1022 ?_
                                                                      refine lv_aload_n hx hb d_law_1023 rfl (lv_at hl 0 rfl) ?_
                                                                      refine lv_iload_n hx hb d_law_1024 rfl (lv_at hl 3 rfl) ?_
                                                                      refine lv_iconst (v := (2 : Int32)) hx hb d_law_1025 (by decide) ?_
                                                                      refine lv_iadd hx hb d_law_1026 ?_
                                                                      obtain ⟨hi1027, e⟩ := ce_gd e
                                                                      refine va_sld hx hb hX hbl (Nat.not_le.mpr hbl) hH.2.2 (ce_in_vp hi1027) d_law_1027 ?_
                                                                      obtain ⟨o1028, eo1028, e⟩ := ce_bd e
                                                                      refine ce_callV (As := [.int (xs ((x3 + (1 : Int32))).toNatClampNeg), .int (xs ((x3 + (2 : Int32))).toNatClampNeg)]) (rest := []) C (ce_sok aK aV s.heap.size) hH (c11_cutting l D ad cA aK aV s.heap.size C.2.2.2.2.2.2.1 F (xs ((x3 + (1 : Int32))).toNatClampNeg) (xs ((x3 + (2 : Int32))).toNatClampNeg)  h o1028 eo1028) lo_0.1 lo_0.2.choose_spec rfl rfl mc11_cutting ml_L_142 mi11_cutting ms11_cutting mI_11 (n := 2) (by decide) rfl ⟨Nat.le_of_ble_eq_true rfl, Nat.le_of_ble_eq_true rfl⟩ ⟨show 96 + t + 0 ≤ 600000 by omega, show 5568 + 5 * t + 0 ≤ 7302250 by omega⟩ hl.1 rfl (Nat.le_of_ble_eq_true rfl) d_law_1028 (fun H locs hH => ?_)
                                                                      refine W.eq (g2 := F0 m 1031 ls [.int o1028.1]) rfl ?_
                                                                      refine lv_aload_n hx hb d_law_1031 rfl (lv_at hl 2 rfl) ?_
                                                                      refine lv_aload_n hx hb d_law_1032 rfl (lv_at hl 0 rfl) ?_
                                                                      refine lv_iload_n hx hb d_law_1033 rfl (lv_at hl 3 rfl) ?_
                                                                      refine lv_iconst (v := (1 : Int32)) hx hb d_law_1034 (by decide) ?_
                                                                      refine lv_iadd hx hb d_law_1035 ?_
                                                                      obtain ⟨hi1036, e⟩ := ce_gd e
                                                                      refine va_sld hx hb hX hbl (Nat.not_le.mpr hbl) hH.2.2 (ce_in_vp hi1036) d_law_1036 ?_
                                                                      refine lv_aload_n hx hb d_law_1037 rfl (lv_at hl 0 rfl) ?_
                                                                      refine lv_iload_n hx hb d_law_1038 rfl (lv_at hl 3 rfl) ?_
                                                                      refine lv_iconst (v := (2 : Int32)) hx hb d_law_1039 (by decide) ?_
                                                                      refine lv_iadd hx hb d_law_1040 ?_
                                                                      obtain ⟨hi1041, e⟩ := ce_gd e
                                                                      refine va_sld hx hb hX hbl (Nat.not_le.mpr hbl) hH.2.2 (ce_in_vp hi1041) d_law_1041 ?_
                                                                      obtain ⟨o1042, eo1042, e⟩ := ce_bd e
                                                                      refine ce_callV (As := [.int (xs ((x3 + (1 : Int32))).toNatClampNeg), .int (xs ((x3 + (2 : Int32))).toNatClampNeg)]) (rest := [.int o1028.1]) C (ce_sok aK aV s.heap.size) hH (c12_cutting l D ad cA aK aV s.heap.size C.2.2.2.2.2.2.1 F (xs ((x3 + (1 : Int32))).toNatClampNeg) (xs ((x3 + (2 : Int32))).toNatClampNeg)  o1028.2 o1042 eo1042) lo_68.1 lo_68.2.choose_spec rfl rfl mc12_cutting ml_L_145 mi12_cutting ms12_cutting mI_12 (n := 2) (by decide) rfl ⟨Nat.le_of_ble_eq_true rfl, Nat.le_of_ble_eq_true rfl⟩ ⟨show 96 + t + 0 ≤ 600000 by omega, show 5568 + 5 * t + 0 ≤ 7302250 by omega⟩ hl.1 rfl (Nat.le_of_ble_eq_true rfl) d_law_1042 (fun H locs hH => ?_)
                                                                      refine W.eq (g2 := F0 m 1045 ls [.int o1042.1, .int o1028.1]) rfl ?_
                                                                      refine lv_icmp_eq (tgt := 1241) hx hb d_law_1045 (by decide) (fun hc1045 => ?_) (fun hc1045 => ?_)
                                                                      · have e := ce_if1 e hc1045
                                                                        refine lv_iinc (v := x3 + (6 : Int32)) (lv' := [(3, .int (x3 + (6 : Int32))), (0, .ref b), (1, .ref (ad 0)), (2, .ref (ad 68))]) hx hb d_law_1241 hl (k := 3) rfl rfl (by decide) rfl (fun ls hl => ?_)
                                                                        refine lv_goto (tgt := 18) hx hb d_law_1244 (by decide) ?_
                                                                        refine W.widen (k := 96 + (t + 1)) (n := 5568 + 5 * (t + 1)) (by omega) (by omega) ?_
                                                                        exact ih (t + 1) (x3 + (6 : Int32)) o1042.2 _ _ _ r (by omega) hH (lv_sub hl [1, 2, 3, 0] rfl) e
                                                                      · have e := ce_if0 e hc1045
                                                                        refine lv_iconst (v := (0 : Int32)) hx hb d_law_1048 (by decide) ?_
                                                                        exact absurd e (fun z => by cases z)
                                                                    · have e := ce_if0 e hc33_31
                                                                      by_cases hc33_32 : ((xs (x3).toNatClampNeg) &&& (63 : Int32)) = (32 : Int32)
                                                                      · have e := ce_if1 e hc33_32
                                                                        refine lv_tableIn (off := 1017) (tgt := 1050) hx hb d_law_33 (by rw [hc33_32]; decide) (by rw [hc33_32]; decide) (by rw [hc33_32]; rfl) (by decide) ?_
                                                                        refine lv_aload_n hx hb d_law_1050 rfl (lv_at hl 1 rfl) ?_
                                                                        obtain ⟨o1051, eo1051, e⟩ := ce_bd e
                                                                        refine ce_callV (As := []) (rest := []) C (ce_sok aK aV s.heap.size) hH (c11_bridges l D ad cA aK aV s.heap.size C.2.2.2.2.2.2.1 F   h o1051 eo1051) lo_0.1 lo_0.2.choose_spec rfl rfl mc11_bridges ml_L_146 mi11_bridges ms11_bridges mI_11 (n := 0) (by decide) rfl ⟨Nat.le_of_ble_eq_true rfl, Nat.le_of_ble_eq_true rfl⟩ ⟨show 96 + t + 0 ≤ 600000 by omega, show 5568 + 5 * t + 0 ≤ 7302250 by omega⟩ hl.1 rfl (Nat.le_of_ble_eq_true rfl) d_law_1051 (fun H locs hH => ?_)
                                                                        refine W.eq (g2 := F0 m 1054 ls [.int o1051.1]) rfl ?_
                                                                        refine lv_aload_n hx hb d_law_1054 rfl (lv_at hl 2 rfl) ?_
                                                                        obtain ⟨o1055, eo1055, e⟩ := ce_bd e
                                                                        refine ce_callV (As := []) (rest := [.int o1051.1]) C (ce_sok aK aV s.heap.size) hH (c12_bridges l D ad cA aK aV s.heap.size C.2.2.2.2.2.2.1 F   o1051.2 o1055 eo1055) lo_68.1 lo_68.2.choose_spec rfl rfl mc12_bridges ml_L_149 mi12_bridges ms12_bridges mI_12 (n := 0) (by decide) rfl ⟨Nat.le_of_ble_eq_true rfl, Nat.le_of_ble_eq_true rfl⟩ ⟨show 96 + t + 0 ≤ 600000 by omega, show 5568 + 5 * t + 0 ≤ 7302250 by omega⟩ hl.1 rfl (Nat.le_of_ble_eq_true rfl) d_law_1055 (fun H locs hH => ?_)
                                                                        refine W.eq (g2 := F0 m 1058 ls [.int o1055.1, .int o1051.1]) rfl ?_
                                                                        refine lv_icmp_eq (tgt := 1241) hx hb d_law_1058 (by decide) (fun hc1058 => ?_) (fun hc1058 => ?_)
                                                                        · have e := ce_if1 e hc1058
                                                                          refine lv_iinc (v := x3 + (6 : Int32)) (lv' := [(3, .int (x3 + (6 : Int32))), (0, .ref b), (1, .ref (ad 0)), (2, .ref (ad 68))]) hx hb d_law_1241 hl (k := 3) rfl rfl (by decide) rfl (fun ls hl => ?_)
                                                                          refine lv_goto (tgt := 18) hx hb d_law_1244 (by decide) ?_
                                                                          refine W.widen (k := 96 + (t + 1)) (n := 5568 + 5 * (t + 1)) (by omega) (by omega) ?_
                                                                          exact ih (t + 1) (x3 + (6 : Int32)) o1055.2 _ _ _ r (by omega) hH (lv_sub hl [1, 2, 3, 0] rfl) e
                                                                        · have e := ce_if0 e hc1058
                                                                          refine lv_iconst (v := (0 : Int32)) hx hb d_law_1061 (by decide) ?_
                                                                          exact absurd e (fun z => by cases z)
                                                                      · have e := ce_if0 e hc33_32
                                                                        by_cases hc33_33 : ((xs (x3).toNatClampNeg) &&& (63 : Int32)) = (33 : Int32)
                                                                        · have e := ce_if1 e hc33_33
                                                                          refine lv_tableIn (off := 1030) (tgt := 1063) hx hb d_law_33 (by rw [hc33_33]; decide) (by rw [hc33_33]; decide) (by rw [hc33_33]; rfl) (by decide) ?_
                                                                          refine lv_aload_n hx hb d_law_1063 rfl (lv_at hl 1 rfl) ?_
                                                                          refine lv_aload_n hx hb d_law_1064 rfl (lv_at hl 0 rfl) ?_
                                                                          refine lv_iload_n hx hb d_law_1065 rfl (lv_at hl 3 rfl) ?_
                                                                          refine lv_iconst (v := (1 : Int32)) hx hb d_law_1066 (by decide) ?_
                                                                          refine lv_iadd hx hb d_law_1067 ?_
                                                                          obtain ⟨hi1068, e⟩ := ce_gd e
                                                                          refine va_sld hx hb hX hbl (Nat.not_le.mpr hbl) hH.2.2 (ce_in_vp hi1068) d_law_1068 ?_
                                                                          obtain ⟨o1069, eo1069, e⟩ := ce_bd e
                                                                          refine ce_callV (As := [.int (xs ((x3 + (1 : Int32))).toNatClampNeg)]) (rest := []) C (ce_sok aK aV s.heap.size) hH (c11_spare l D ad cA aK aV s.heap.size C.2.2.2.2.2.2.1 F (xs ((x3 + (1 : Int32))).toNatClampNeg)  h o1069 eo1069) lo_0.1 lo_0.2.choose_spec rfl rfl mc11_spare ml_L_150 mi11_spare ms11_spare mI_11 (n := 1) (by decide) rfl ⟨Nat.le_of_ble_eq_true rfl, Nat.le_of_ble_eq_true rfl⟩ ⟨show 96 + t + 0 ≤ 600000 by omega, show 5568 + 5 * t + 0 ≤ 7302250 by omega⟩ hl.1 rfl (Nat.le_of_ble_eq_true rfl) d_law_1069 (fun H locs hH => ?_)
                                                                          refine W.eq (g2 := F0 m 1072 ls [.int o1069.1]) rfl ?_
                                                                          refine lv_aload_n hx hb d_law_1072 rfl (lv_at hl 2 rfl) ?_
                                                                          refine lv_aload_n hx hb d_law_1073 rfl (lv_at hl 0 rfl) ?_
                                                                          refine lv_iload_n hx hb d_law_1074 rfl (lv_at hl 3 rfl) ?_
                                                                          refine lv_iconst (v := (1 : Int32)) hx hb d_law_1075 (by decide) ?_
                                                                          refine lv_iadd hx hb d_law_1076 ?_
                                                                          obtain ⟨hi1077, e⟩ := ce_gd e
                                                                          refine va_sld hx hb hX hbl (Nat.not_le.mpr hbl) hH.2.2 (ce_in_vp hi1077) d_law_1077 ?_
                                                                          obtain ⟨o1078, eo1078, e⟩ := ce_bd e
                                                                          refine ce_callV (As := [.int (xs ((x3 + (1 : Int32))).toNatClampNeg)]) (rest := [.int o1069.1]) C (ce_sok aK aV s.heap.size) hH (c12_spare l D ad cA aK aV s.heap.size C.2.2.2.2.2.2.1 F (xs ((x3 + (1 : Int32))).toNatClampNeg)  o1069.2 o1078 eo1078) lo_68.1 lo_68.2.choose_spec rfl rfl mc12_spare ml_L_153 mi12_spare ms12_spare mI_12 (n := 1) (by decide) rfl ⟨Nat.le_of_ble_eq_true rfl, Nat.le_of_ble_eq_true rfl⟩ ⟨show 96 + t + 0 ≤ 600000 by omega, show 5568 + 5 * t + 0 ≤ 7302250 by omega⟩ hl.1 rfl (Nat.le_of_ble_eq_true rfl) d_law_1078 (fun H locs hH => ?_)
                                                                          refine W.eq (g2 := F0 m 1081 ls [.int o1078.1, .int o1069.1]) rfl ?_
                                                                          refine lv_icmp_eq (tgt := 1241) hx hb d_law_1081 (by decide) (fun hc1081 => ?_) (fun hc1081 => ?_)
                                                                          · have e := ce_if1 e hc1081
                                                                            refine lv_iinc (v := x3 + (6 : Int32)) (lv' := [(3, .int (x3 + (6 : Int32))), (0, .ref b), (1, .ref (ad 0)), (2, .ref (ad 68))]) hx hb d_law_1241 hl (k := 3) rfl rfl (by decide) rfl (fun ls hl => ?_)
                                                                            refine lv_goto (tgt := 18) hx hb d_law_1244 (by decide) ?_
                                                                            refine W.widen (k := 96 + (t + 1)) (n := 5568 + 5 * (t + 1)) (by omega) (by omega) ?_
                                                                            exact ih (t + 1) (x3 + (6 : Int32)) o1078.2 _ _ _ r (by omega) hH (lv_sub hl [1, 2, 3, 0] rfl) e
                                                                          · have e := ce_if0 e hc1081
                                                                            refine lv_iconst (v := (0 : Int32)) hx hb d_law_1084 (by decide) ?_
                                                                            exact absurd e (fun z => by cases z)
                                                                        · have e := ce_if0 e hc33_33
                                                                          by_cases hc33_34 : ((xs (x3).toNatClampNeg) &&& (63 : Int32)) = (34 : Int32)
                                                                          · have e := ce_if1 e hc33_34
                                                                            refine lv_tableIn (off := 1053) (tgt := 1086) hx hb d_law_33 (by rw [hc33_34]; decide) (by rw [hc33_34]; decide) (by rw [hc33_34]; rfl) (by decide) ?_
                                                                            refine lv_aload_n hx hb d_law_1086 rfl (lv_at hl 1 rfl) ?_
                                                                            refine lv_aload_n hx hb d_law_1087 rfl (lv_at hl 0 rfl) ?_
                                                                            refine lv_iload_n hx hb d_law_1088 rfl (lv_at hl 3 rfl) ?_
                                                                            refine lv_iconst (v := (1 : Int32)) hx hb d_law_1089 (by decide) ?_
                                                                            refine lv_iadd hx hb d_law_1090 ?_
                                                                            obtain ⟨hi1091, e⟩ := ce_gd e
                                                                            refine va_sld hx hb hX hbl (Nat.not_le.mpr hbl) hH.2.2 (ce_in_vp hi1091) d_law_1091 ?_
                                                                            refine lv_aload_n hx hb d_law_1092 rfl (lv_at hl 0 rfl) ?_
                                                                            refine lv_iload_n hx hb d_law_1093 rfl (lv_at hl 3 rfl) ?_
                                                                            refine lv_iconst (v := (2 : Int32)) hx hb d_law_1094 (by decide) ?_
                                                                            refine lv_iadd hx hb d_law_1095 ?_
                                                                            obtain ⟨hi1096, e⟩ := ce_gd e
                                                                            refine va_sld hx hb hX hbl (Nat.not_le.mpr hbl) hH.2.2 (ce_in_vp hi1096) d_law_1096 ?_
                                                                            refine lv_aload_n hx hb d_law_1097 rfl (lv_at hl 0 rfl) ?_
                                                                            refine lv_iload_n hx hb d_law_1098 rfl (lv_at hl 3 rfl) ?_
                                                                            refine lv_iconst (v := (3 : Int32)) hx hb d_law_1099 (by decide) ?_
                                                                            refine lv_iadd hx hb d_law_1100 ?_
                                                                            obtain ⟨hi1101, e⟩ := ce_gd e
                                                                            refine va_sld hx hb hX hbl (Nat.not_le.mpr hbl) hH.2.2 (ce_in_vp hi1101) d_law_1101 ?_
                                                                            refine lv_aload_n hx hb d_law_1102 rfl (lv_at hl 0 rfl) ?_
                                                                            refine lv_iload_n hx hb d_law_1103 rfl (lv_at hl 3 rfl) ?_
                                                                            refine lv_iconst (v := (4 : Int32)) hx hb d_law_1104 (by decide) ?_
                                                                            refine lv_iadd hx hb d_law_1105 ?_
                                                                            obtain ⟨hi1106, e⟩ := ce_gd e
                                                                            refine va_sld hx hb hX hbl (Nat.not_le.mpr hbl) hH.2.2 (ce_in_vp hi1106) d_law_1106 ?_
                                                                            refine lv_aload_n hx hb d_law_1107 rfl (lv_at hl 0 rfl) ?_
                                                                            refine lv_iload_n hx hb d_law_1108 rfl (lv_at hl 3 rfl) ?_
                                                                            refine lv_iconst (v := (5 : Int32)) hx hb d_law_1109 (by decide) ?_
                                                                            refine lv_iadd hx hb d_law_1110 ?_
                                                                            obtain ⟨hi1111, e⟩ := ce_gd e
                                                                            refine va_sld hx hb hX hbl (Nat.not_le.mpr hbl) hH.2.2 (ce_in_vp hi1111) d_law_1111 ?_
                                                                            obtain ⟨o1112, eo1112, e⟩ := ce_bd e
                                                                            refine ce_callV (As := [.int (xs ((x3 + (1 : Int32))).toNatClampNeg), .int (xs ((x3 + (2 : Int32))).toNatClampNeg), .int (xs ((x3 + (3 : Int32))).toNatClampNeg), .int (xs ((x3 + (4 : Int32))).toNatClampNeg), .int (xs ((x3 + (5 : Int32))).toNatClampNeg)]) (rest := []) C (ce_sok aK aV s.heap.size) hH (c11_plug l D ad cA aK aV s.heap.size C.2.2.2.2.2.2.1 F (xs ((x3 + (1 : Int32))).toNatClampNeg) (xs ((x3 + (2 : Int32))).toNatClampNeg) (xs ((x3 + (3 : Int32))).toNatClampNeg) (xs ((x3 + (4 : Int32))).toNatClampNeg) (xs ((x3 + (5 : Int32))).toNatClampNeg)  h o1112 eo1112) lo_0.1 lo_0.2.choose_spec rfl rfl mc11_plug ml_L_154 mi11_plug ms11_plug mI_11 (n := 5) (by decide) rfl ⟨Nat.le_of_ble_eq_true rfl, Nat.le_of_ble_eq_true rfl⟩ ⟨show 96 + t + 0 ≤ 600000 by omega, show 5568 + 5 * t + 0 ≤ 7302250 by omega⟩ hl.1 rfl (Nat.le_of_ble_eq_true rfl) d_law_1112 (fun H locs hH => ?_)
                                                                            refine W.eq (g2 := F0 m 1115 ls [.int o1112.1]) rfl ?_
                                                                            refine lv_aload_n hx hb d_law_1115 rfl (lv_at hl 2 rfl) ?_
                                                                            refine lv_aload_n hx hb d_law_1116 rfl (lv_at hl 0 rfl) ?_
                                                                            refine lv_iload_n hx hb d_law_1117 rfl (lv_at hl 3 rfl) ?_
                                                                            refine lv_iconst (v := (1 : Int32)) hx hb d_law_1118 (by decide) ?_
                                                                            refine lv_iadd hx hb d_law_1119 ?_
                                                                            obtain ⟨hi1120, e⟩ := ce_gd e
                                                                            refine va_sld hx hb hX hbl (Nat.not_le.mpr hbl) hH.2.2 (ce_in_vp hi1120) d_law_1120 ?_
                                                                            refine lv_aload_n hx hb d_law_1121 rfl (lv_at hl 0 rfl) ?_
                                                                            refine lv_iload_n hx hb d_law_1122 rfl (lv_at hl 3 rfl) ?_
                                                                            refine lv_iconst (v := (2 : Int32)) hx hb d_law_1123 (by decide) ?_
                                                                            refine lv_iadd hx hb d_law_1124 ?_
                                                                            obtain ⟨hi1125, e⟩ := ce_gd e
                                                                            refine va_sld hx hb hX hbl (Nat.not_le.mpr hbl) hH.2.2 (ce_in_vp hi1125) d_law_1125 ?_
                                                                            refine lv_aload_n hx hb d_law_1126 rfl (lv_at hl 0 rfl) ?_
                                                                            refine lv_iload_n hx hb d_law_1127 rfl (lv_at hl 3 rfl) ?_
                                                                            refine lv_iconst (v := (3 : Int32)) hx hb d_law_1128 (by decide) ?_
                                                                            refine lv_iadd hx hb d_law_1129 ?_
                                                                            obtain ⟨hi1130, e⟩ := ce_gd e
                                                                            refine va_sld hx hb hX hbl (Nat.not_le.mpr hbl) hH.2.2 (ce_in_vp hi1130) d_law_1130 ?_
                                                                            refine lv_aload_n hx hb d_law_1131 rfl (lv_at hl 0 rfl) ?_
                                                                            refine lv_iload_n hx hb d_law_1132 rfl (lv_at hl 3 rfl) ?_
                                                                            refine lv_iconst (v := (4 : Int32)) hx hb d_law_1133 (by decide) ?_
                                                                            refine lv_iadd hx hb d_law_1134 ?_
                                                                            obtain ⟨hi1135, e⟩ := ce_gd e
                                                                            refine va_sld hx hb hX hbl (Nat.not_le.mpr hbl) hH.2.2 (ce_in_vp hi1135) d_law_1135 ?_
                                                                            refine lv_aload_n hx hb d_law_1136 rfl (lv_at hl 0 rfl) ?_
                                                                            refine lv_iload_n hx hb d_law_1137 rfl (lv_at hl 3 rfl) ?_
                                                                            refine lv_iconst (v := (5 : Int32)) hx hb d_law_1138 (by decide) ?_
                                                                            refine lv_iadd hx hb d_law_1139 ?_
                                                                            obtain ⟨hi1140, e⟩ := ce_gd e
                                                                            refine va_sld hx hb hX hbl (Nat.not_le.mpr hbl) hH.2.2 (ce_in_vp hi1140) d_law_1140 ?_
                                                                            obtain ⟨o1141, eo1141, e⟩ := ce_bd e
                                                                            refine ce_callV (As := [.int (xs ((x3 + (1 : Int32))).toNatClampNeg), .int (xs ((x3 + (2 : Int32))).toNatClampNeg), .int (xs ((x3 + (3 : Int32))).toNatClampNeg), .int (xs ((x3 + (4 : Int32))).toNatClampNeg), .int (xs ((x3 + (5 : Int32))).toNatClampNeg)]) (rest := [.int o1112.1]) C (ce_sok aK aV s.heap.size) hH (c12_plug l D ad cA aK aV s.heap.size C.2.2.2.2.2.2.1 F (xs ((x3 + (1 : Int32))).toNatClampNeg) (xs ((x3 + (2 : Int32))).toNatClampNeg) (xs ((x3 + (3 : Int32))).toNatClampNeg) (xs ((x3 + (4 : Int32))).toNatClampNeg) (xs ((x3 + (5 : Int32))).toNatClampNeg)  o1112.2 o1141 eo1141) lo_68.1 lo_68.2.choose_spec rfl rfl mc12_plug ml_L_157 mi12_plug ms12_plug mI_12 (n := 5) (by decide) rfl ⟨Nat.le_of_ble_eq_true rfl, Nat.le_of_ble_eq_true rfl⟩ ⟨show 96 + t + 0 ≤ 600000 by omega, show 5568 + 5 * t + 0 ≤ 7302250 by omega⟩ hl.1 rfl (Nat.le_of_ble_eq_true rfl) d_law_1141 (fun H locs hH => ?_)
                                                                            refine W.eq (g2 := F0 m 1144 ls [.int o1141.1, .int o1112.1]) rfl ?_
                                                                            refine lv_icmp_eq (tgt := 1241) hx hb d_law_1144 (by decide) (fun hc1144 => ?_) (fun hc1144 => ?_)
                                                                            · have e := ce_if1 e hc1144
                                                                              refine lv_iinc (v := x3 + (6 : Int32)) (lv' := [(3, .int (x3 + (6 : Int32))), (0, .ref b), (1, .ref (ad 0)), (2, .ref (ad 68))]) hx hb d_law_1241 hl (k := 3) rfl rfl (by decide) rfl (fun ls hl => ?_)
                                                                              refine lv_goto (tgt := 18) hx hb d_law_1244 (by decide) ?_
                                                                              refine W.widen (k := 96 + (t + 1)) (n := 5568 + 5 * (t + 1)) (by omega) (by omega) ?_
                                                                              exact ih (t + 1) (x3 + (6 : Int32)) o1141.2 _ _ _ r (by omega) hH (lv_sub hl [1, 2, 3, 0] rfl) e
                                                                            · have e := ce_if0 e hc1144
                                                                              refine lv_iconst (v := (0 : Int32)) hx hb d_law_1147 (by decide) ?_
                                                                              exact absurd e (fun z => by cases z)
                                                                          · have e := ce_if0 e hc33_34
                                                                            by_cases hc33_35 : ((xs (x3).toNatClampNeg) &&& (63 : Int32)) = (35 : Int32)
                                                                            · have e := ce_if1 e hc33_35
                                                                              refine lv_tableIn (off := 1116) (tgt := 1149) hx hb d_law_33 (by rw [hc33_35]; decide) (by rw [hc33_35]; decide) (by rw [hc33_35]; rfl) (by decide) ?_
                                                                              refine lv_aload_n hx hb d_law_1149 rfl (lv_at hl 1 rfl) ?_
                                                                              refine lv_aload_n hx hb d_law_1150 rfl (lv_at hl 0 rfl) ?_
                                                                              refine lv_iload_n hx hb d_law_1151 rfl (lv_at hl 3 rfl) ?_
                                                                              refine lv_iconst (v := (1 : Int32)) hx hb d_law_1152 (by decide) ?_
                                                                              refine lv_iadd hx hb d_law_1153 ?_
                                                                              obtain ⟨hi1154, e⟩ := ce_gd e
                                                                              refine va_sld hx hb hX hbl (Nat.not_le.mpr hbl) hH.2.2 (ce_in_vp hi1154) d_law_1154 ?_
                                                                              refine lv_aload_n hx hb d_law_1155 rfl (lv_at hl 0 rfl) ?_
                                                                              refine lv_iload_n hx hb d_law_1156 rfl (lv_at hl 3 rfl) ?_
                                                                              refine lv_iconst (v := (2 : Int32)) hx hb d_law_1157 (by decide) ?_
                                                                              refine lv_iadd hx hb d_law_1158 ?_
                                                                              obtain ⟨hi1159, e⟩ := ce_gd e
                                                                              refine va_sld hx hb hX hbl (Nat.not_le.mpr hbl) hH.2.2 (ce_in_vp hi1159) d_law_1159 ?_
                                                                              obtain ⟨o1160, eo1160, e⟩ := ce_bd e
                                                                              refine ce_callV (As := [.int (xs ((x3 + (1 : Int32))).toNatClampNeg), .int (xs ((x3 + (2 : Int32))).toNatClampNeg)]) (rest := []) C (ce_sok aK aV s.heap.size) hH (c11_pull l D ad cA aK aV s.heap.size C.2.2.2.2.2.2.1 F (xs ((x3 + (1 : Int32))).toNatClampNeg) (xs ((x3 + (2 : Int32))).toNatClampNeg)  h o1160 eo1160) lo_0.1 lo_0.2.choose_spec rfl rfl mc11_pull ml_L_158 mi11_pull ms11_pull mI_11 (n := 2) (by decide) rfl ⟨Nat.le_of_ble_eq_true rfl, Nat.le_of_ble_eq_true rfl⟩ ⟨show 96 + t + 0 ≤ 600000 by omega, show 5568 + 5 * t + 0 ≤ 7302250 by omega⟩ hl.1 rfl (Nat.le_of_ble_eq_true rfl) d_law_1160 (fun H locs hH => ?_)
                                                                              refine W.eq (g2 := F0 m 1163 ls [.int o1160.1]) rfl ?_
                                                                              refine lv_aload_n hx hb d_law_1163 rfl (lv_at hl 2 rfl) ?_
                                                                              refine lv_aload_n hx hb d_law_1164 rfl (lv_at hl 0 rfl) ?_
                                                                              refine lv_iload_n hx hb d_law_1165 rfl (lv_at hl 3 rfl) ?_
                                                                              refine lv_iconst (v := (1 : Int32)) hx hb d_law_1166 (by decide) ?_
                                                                              refine lv_iadd hx hb d_law_1167 ?_
                                                                              obtain ⟨hi1168, e⟩ := ce_gd e
                                                                              refine va_sld hx hb hX hbl (Nat.not_le.mpr hbl) hH.2.2 (ce_in_vp hi1168) d_law_1168 ?_
                                                                              refine lv_aload_n hx hb d_law_1169 rfl (lv_at hl 0 rfl) ?_
                                                                              refine lv_iload_n hx hb d_law_1170 rfl (lv_at hl 3 rfl) ?_
                                                                              refine lv_iconst (v := (2 : Int32)) hx hb d_law_1171 (by decide) ?_
                                                                              refine lv_iadd hx hb d_law_1172 ?_
                                                                              obtain ⟨hi1173, e⟩ := ce_gd e
                                                                              refine va_sld hx hb hX hbl (Nat.not_le.mpr hbl) hH.2.2 (ce_in_vp hi1173) d_law_1173 ?_
                                                                              obtain ⟨o1174, eo1174, e⟩ := ce_bd e
                                                                              refine ce_callV (As := [.int (xs ((x3 + (1 : Int32))).toNatClampNeg), .int (xs ((x3 + (2 : Int32))).toNatClampNeg)]) (rest := [.int o1160.1]) C (ce_sok aK aV s.heap.size) hH (c12_pull l D ad cA aK aV s.heap.size C.2.2.2.2.2.2.1 F (xs ((x3 + (1 : Int32))).toNatClampNeg) (xs ((x3 + (2 : Int32))).toNatClampNeg)  o1160.2 o1174 eo1174) lo_68.1 lo_68.2.choose_spec rfl rfl mc12_pull ml_L_161 mi12_pull ms12_pull mI_12 (n := 2) (by decide) rfl ⟨Nat.le_of_ble_eq_true rfl, Nat.le_of_ble_eq_true rfl⟩ ⟨show 96 + t + 0 ≤ 600000 by omega, show 5568 + 5 * t + 0 ≤ 7302250 by omega⟩ hl.1 rfl (Nat.le_of_ble_eq_true rfl) d_law_1174 (fun H locs hH => ?_)
                                                                              refine W.eq (g2 := F0 m 1177 ls [.int o1174.1, .int o1160.1]) rfl ?_
                                                                              refine lv_icmp_eq (tgt := 1241) hx hb d_law_1177 (by decide) (fun hc1177 => ?_) (fun hc1177 => ?_)
                                                                              · have e := ce_if1 e hc1177
                                                                                refine lv_iinc (v := x3 + (6 : Int32)) (lv' := [(3, .int (x3 + (6 : Int32))), (0, .ref b), (1, .ref (ad 0)), (2, .ref (ad 68))]) hx hb d_law_1241 hl (k := 3) rfl rfl (by decide) rfl (fun ls hl => ?_)
                                                                                refine lv_goto (tgt := 18) hx hb d_law_1244 (by decide) ?_
                                                                                refine W.widen (k := 96 + (t + 1)) (n := 5568 + 5 * (t + 1)) (by omega) (by omega) ?_
                                                                                exact ih (t + 1) (x3 + (6 : Int32)) o1174.2 _ _ _ r (by omega) hH (lv_sub hl [1, 2, 3, 0] rfl) e
                                                                              · have e := ce_if0 e hc1177
                                                                                refine lv_iconst (v := (0 : Int32)) hx hb d_law_1180 (by decide) ?_
                                                                                exact absurd e (fun z => by cases z)
                                                                            · have e := ce_if0 e hc33_35
                                                                              by_cases hc33_36 : ((xs (x3).toNatClampNeg) &&& (63 : Int32)) = (36 : Int32)
                                                                              · have e := ce_if1 e hc33_36
                                                                                refine lv_tableIn (off := 1149) (tgt := 1182) hx hb d_law_33 (by rw [hc33_36]; decide) (by rw [hc33_36]; decide) (by rw [hc33_36]; rfl) (by decide) ?_
                                                                                refine lv_aload_n hx hb d_law_1182 rfl (lv_at hl 1 rfl) ?_
                                                                                refine lv_aload_n hx hb d_law_1183 rfl (lv_at hl 0 rfl) ?_
                                                                                refine lv_iload_n hx hb d_law_1184 rfl (lv_at hl 3 rfl) ?_
                                                                                refine lv_iconst (v := (1 : Int32)) hx hb d_law_1185 (by decide) ?_
                                                                                refine lv_iadd hx hb d_law_1186 ?_
                                                                                obtain ⟨hi1187, e⟩ := ce_gd e
                                                                                refine va_sld hx hb hX hbl (Nat.not_le.mpr hbl) hH.2.2 (ce_in_vp hi1187) d_law_1187 ?_
                                                                                refine lv_aload_n hx hb d_law_1188 rfl (lv_at hl 0 rfl) ?_
                                                                                refine lv_iload_n hx hb d_law_1189 rfl (lv_at hl 3 rfl) ?_
                                                                                refine lv_iconst (v := (2 : Int32)) hx hb d_law_1190 (by decide) ?_
                                                                                refine lv_iadd hx hb d_law_1191 ?_
                                                                                obtain ⟨hi1192, e⟩ := ce_gd e
                                                                                refine va_sld hx hb hX hbl (Nat.not_le.mpr hbl) hH.2.2 (ce_in_vp hi1192) d_law_1192 ?_
                                                                                obtain ⟨o1193, eo1193, e⟩ := ce_bd e
                                                                                refine ce_callV (As := [.int (xs ((x3 + (1 : Int32))).toNatClampNeg), .int (xs ((x3 + (2 : Int32))).toNatClampNeg)]) (rest := []) C (ce_sok aK aV s.heap.size) hH (c11_force l D ad cA aK aV s.heap.size C.2.2.2.2.2.2.1 F (xs ((x3 + (1 : Int32))).toNatClampNeg) (xs ((x3 + (2 : Int32))).toNatClampNeg)  h o1193 eo1193) lo_0.1 lo_0.2.choose_spec rfl rfl mc11_force ml_L_162 mi11_force ms11_force mI_11 (n := 2) (by decide) rfl ⟨Nat.le_of_ble_eq_true rfl, Nat.le_of_ble_eq_true rfl⟩ ⟨show 96 + t + 0 ≤ 600000 by omega, show 5568 + 5 * t + 0 ≤ 7302250 by omega⟩ hl.1 rfl (Nat.le_of_ble_eq_true rfl) d_law_1193 (fun H locs hH => ?_)
                                                                                refine W.eq (g2 := F0 m 1196 ls [.int o1193.1]) rfl ?_
                                                                                refine lv_aload_n hx hb d_law_1196 rfl (lv_at hl 2 rfl) ?_
                                                                                refine lv_aload_n hx hb d_law_1197 rfl (lv_at hl 0 rfl) ?_
                                                                                refine lv_iload_n hx hb d_law_1198 rfl (lv_at hl 3 rfl) ?_
                                                                                refine lv_iconst (v := (1 : Int32)) hx hb d_law_1199 (by decide) ?_
                                                                                refine lv_iadd hx hb d_law_1200 ?_
                                                                                obtain ⟨hi1201, e⟩ := ce_gd e
                                                                                refine va_sld hx hb hX hbl (Nat.not_le.mpr hbl) hH.2.2 (ce_in_vp hi1201) d_law_1201 ?_
                                                                                refine lv_aload_n hx hb d_law_1202 rfl (lv_at hl 0 rfl) ?_
                                                                                refine lv_iload_n hx hb d_law_1203 rfl (lv_at hl 3 rfl) ?_
                                                                                refine lv_iconst (v := (2 : Int32)) hx hb d_law_1204 (by decide) ?_
                                                                                refine lv_iadd hx hb d_law_1205 ?_
                                                                                obtain ⟨hi1206, e⟩ := ce_gd e
                                                                                refine va_sld hx hb hX hbl (Nat.not_le.mpr hbl) hH.2.2 (ce_in_vp hi1206) d_law_1206 ?_
                                                                                obtain ⟨o1207, eo1207, e⟩ := ce_bd e
                                                                                refine ce_callV (As := [.int (xs ((x3 + (1 : Int32))).toNatClampNeg), .int (xs ((x3 + (2 : Int32))).toNatClampNeg)]) (rest := [.int o1193.1]) C (ce_sok aK aV s.heap.size) hH (c12_force l D ad cA aK aV s.heap.size C.2.2.2.2.2.2.1 F (xs ((x3 + (1 : Int32))).toNatClampNeg) (xs ((x3 + (2 : Int32))).toNatClampNeg)  o1193.2 o1207 eo1207) lo_68.1 lo_68.2.choose_spec rfl rfl mc12_force ml_L_165 mi12_force ms12_force mI_12 (n := 2) (by decide) rfl ⟨Nat.le_of_ble_eq_true rfl, Nat.le_of_ble_eq_true rfl⟩ ⟨show 96 + t + 0 ≤ 600000 by omega, show 5568 + 5 * t + 0 ≤ 7302250 by omega⟩ hl.1 rfl (Nat.le_of_ble_eq_true rfl) d_law_1207 (fun H locs hH => ?_)
                                                                                refine W.eq (g2 := F0 m 1210 ls [.int o1207.1, .int o1193.1]) rfl ?_
                                                                                refine lv_icmp_eq (tgt := 1241) hx hb d_law_1210 (by decide) (fun hc1210 => ?_) (fun hc1210 => ?_)
                                                                                · have e := ce_if1 e hc1210
                                                                                  refine lv_iinc (v := x3 + (6 : Int32)) (lv' := [(3, .int (x3 + (6 : Int32))), (0, .ref b), (1, .ref (ad 0)), (2, .ref (ad 68))]) hx hb d_law_1241 hl (k := 3) rfl rfl (by decide) rfl (fun ls hl => ?_)
                                                                                  refine lv_goto (tgt := 18) hx hb d_law_1244 (by decide) ?_
                                                                                  refine W.widen (k := 96 + (t + 1)) (n := 5568 + 5 * (t + 1)) (by omega) (by omega) ?_
                                                                                  exact ih (t + 1) (x3 + (6 : Int32)) o1207.2 _ _ _ r (by omega) hH (lv_sub hl [1, 2, 3, 0] rfl) e
                                                                                · have e := ce_if0 e hc1210
                                                                                  refine lv_iconst (v := (0 : Int32)) hx hb d_law_1213 (by decide) ?_
                                                                                  exact absurd e (fun z => by cases z)
                                                                              · have e := ce_if0 e hc33_36
                                                                                by_cases hc33_37 : ((xs (x3).toNatClampNeg) &&& (63 : Int32)) = (37 : Int32)
                                                                                · have e := ce_if1 e hc33_37
                                                                                  refine lv_tableIn (off := 1182) (tgt := 1215) hx hb d_law_33 (by rw [hc33_37]; decide) (by rw [hc33_37]; decide) (by rw [hc33_37]; rfl) (by decide) ?_
                                                                                  refine lv_aload_n hx hb d_law_1215 rfl (lv_at hl 1 rfl) ?_
                                                                                  obtain ⟨o1216, eo1216, e⟩ := ce_bd e
                                                                                  refine ce_callV (As := []) (rest := []) C (ce_sok aK aV s.heap.size) hH (c11_undo l D ad cA aK aV s.heap.size C.2.2.2.2.2.2.1 F   h o1216 eo1216) lo_0.1 lo_0.2.choose_spec rfl rfl mc11_undo ml_L_166 mi11_undo ms11_undo mI_11 (n := 0) (by decide) rfl ⟨Nat.le_of_ble_eq_true rfl, Nat.le_of_ble_eq_true rfl⟩ ⟨show 96 + t + 0 ≤ 600000 by omega, show 5568 + 5 * t + 0 ≤ 7302250 by omega⟩ hl.1 rfl (Nat.le_of_ble_eq_true rfl) d_law_1216 (fun H locs hH => ?_)
                                                                                  refine W.eq (g2 := F0 m 1219 ls [.int o1216.1]) rfl ?_
                                                                                  refine lv_aload_n hx hb d_law_1219 rfl (lv_at hl 2 rfl) ?_
                                                                                  obtain ⟨o1220, eo1220, e⟩ := ce_bd e
                                                                                  refine ce_callV (As := []) (rest := [.int o1216.1]) C (ce_sok aK aV s.heap.size) hH (c12_undo l D ad cA aK aV s.heap.size C.2.2.2.2.2.2.1 F   o1216.2 o1220 eo1220) lo_68.1 lo_68.2.choose_spec rfl rfl mc12_undo ml_L_169 mi12_undo ms12_undo mI_12 (n := 0) (by decide) rfl ⟨Nat.le_of_ble_eq_true rfl, Nat.le_of_ble_eq_true rfl⟩ ⟨show 96 + t + 0 ≤ 600000 by omega, show 5568 + 5 * t + 0 ≤ 7302250 by omega⟩ hl.1 rfl (Nat.le_of_ble_eq_true rfl) d_law_1220 (fun H locs hH => ?_)
                                                                                  refine W.eq (g2 := F0 m 1223 ls [.int o1220.1, .int o1216.1]) rfl ?_
                                                                                  refine lv_icmp_eq (tgt := 1241) hx hb d_law_1223 (by decide) (fun hc1223 => ?_) (fun hc1223 => ?_)
                                                                                  · have e := ce_if1 e hc1223
                                                                                    refine lv_iinc (v := x3 + (6 : Int32)) (lv' := [(3, .int (x3 + (6 : Int32))), (0, .ref b), (1, .ref (ad 0)), (2, .ref (ad 68))]) hx hb d_law_1241 hl (k := 3) rfl rfl (by decide) rfl (fun ls hl => ?_)
                                                                                    refine lv_goto (tgt := 18) hx hb d_law_1244 (by decide) ?_
                                                                                    refine W.widen (k := 96 + (t + 1)) (n := 5568 + 5 * (t + 1)) (by omega) (by omega) ?_
                                                                                    exact ih (t + 1) (x3 + (6 : Int32)) o1220.2 _ _ _ r (by omega) hH (lv_sub hl [1, 2, 3, 0] rfl) e
                                                                                  · have e := ce_if0 e hc1223
                                                                                    refine lv_iconst (v := (0 : Int32)) hx hb d_law_1226 (by decide) ?_
                                                                                    exact absurd e (fun z => by cases z)
                                                                                · have e := ce_if0 e hc33_37
                                                                                  by_cases hc33_38 : ((xs (x3).toNatClampNeg) &&& (63 : Int32)) = (38 : Int32)
                                                                                  · have e := ce_if1 e hc33_38
                                                                                    refine lv_tableIn (off := 1195) (tgt := 1228) hx hb d_law_33 (by rw [hc33_38]; decide) (by rw [hc33_38]; decide) (by rw [hc33_38]; rfl) (by decide) ?_
                                                                                    refine lv_aload_n hx hb d_law_1228 rfl (lv_at hl 1 rfl) ?_
                                                                                    obtain ⟨o1229, eo1229, e⟩ := ce_bd e
                                                                                    refine ce_callV (As := []) (rest := []) C (ce_sok aK aV s.heap.size) hH (c11_anew l D ad cA aK aV s.heap.size C.2.2.2.2.2.2.1 F   h o1229 eo1229) lo_0.1 lo_0.2.choose_spec rfl rfl mc11_anew ml_L_170 mi11_anew ms11_anew mI_11 (n := 0) (by decide) rfl ⟨Nat.le_of_ble_eq_true rfl, Nat.le_of_ble_eq_true rfl⟩ ⟨show 96 + t + 0 ≤ 600000 by omega, show 5568 + 5 * t + 0 ≤ 7302250 by omega⟩ hl.1 rfl (Nat.le_of_ble_eq_true rfl) d_law_1229 (fun H locs hH => ?_)
                                                                                    refine W.eq (g2 := F0 m 1232 ls [.int o1229.1]) rfl ?_
                                                                                    refine lv_aload_n hx hb d_law_1232 rfl (lv_at hl 2 rfl) ?_
                                                                                    obtain ⟨o1233, eo1233, e⟩ := ce_bd e
                                                                                    refine ce_callV (As := []) (rest := [.int o1229.1]) C (ce_sok aK aV s.heap.size) hH (c12_anew l D ad cA aK aV s.heap.size C.2.2.2.2.2.2.1 F   o1229.2 o1233 eo1233) lo_68.1 lo_68.2.choose_spec rfl rfl mc12_anew ml_L_173 mi12_anew ms12_anew mI_12 (n := 0) (by decide) rfl ⟨Nat.le_of_ble_eq_true rfl, Nat.le_of_ble_eq_true rfl⟩ ⟨show 96 + t + 0 ≤ 600000 by omega, show 5568 + 5 * t + 0 ≤ 7302250 by omega⟩ hl.1 rfl (Nat.le_of_ble_eq_true rfl) d_law_1233 (fun H locs hH => ?_)
                                                                                    refine W.eq (g2 := F0 m 1236 ls [.int o1233.1, .int o1229.1]) rfl ?_
                                                                                    refine lv_icmp_eq (tgt := 1241) hx hb d_law_1236 (by decide) (fun hc1236 => ?_) (fun hc1236 => ?_)
                                                                                    · have e := ce_if1 e hc1236
                                                                                      refine lv_iinc (v := x3 + (6 : Int32)) (lv' := [(3, .int (x3 + (6 : Int32))), (0, .ref b), (1, .ref (ad 0)), (2, .ref (ad 68))]) hx hb d_law_1241 hl (k := 3) rfl rfl (by decide) rfl (fun ls hl => ?_)
                                                                                      refine lv_goto (tgt := 18) hx hb d_law_1244 (by decide) ?_
                                                                                      refine W.widen (k := 96 + (t + 1)) (n := 5568 + 5 * (t + 1)) (by omega) (by omega) ?_
                                                                                      exact ih (t + 1) (x3 + (6 : Int32)) o1233.2 _ _ _ r (by omega) hH (lv_sub hl [1, 2, 3, 0] rfl) e
                                                                                    · have e := ce_if0 e hc1236
                                                                                      refine lv_iconst (v := (0 : Int32)) hx hb d_law_1239 (by decide) ?_
                                                                                      exact absurd e (fun z => by cases z)
                                                                                  · have e := ce_if0 e hc33_38
                                                                                    refine lv_tableOut (tgt := 1241) hx hb d_law_33 (ce_tblOut (n := 39) (fun i hi => ?_) (by decide)) (by decide) ?_
                                                                                    · match i, hi with
                                                                                      | 0, _ => exact hc33_0
                                                                                      | 1, _ => exact hc33_1
                                                                                      | 2, _ => exact hc33_2
                                                                                      | 3, _ => exact hc33_3
                                                                                      | 4, _ => exact hc33_4
                                                                                      | 5, _ => exact hc33_5
                                                                                      | 6, _ => exact hc33_6
                                                                                      | 7, _ => exact hc33_7
                                                                                      | 8, _ => exact hc33_8
                                                                                      | 9, _ => exact hc33_9
                                                                                      | 10, _ => exact hc33_10
                                                                                      | 11, _ => exact hc33_11
                                                                                      | 12, _ => exact hc33_12
                                                                                      | 13, _ => exact hc33_13
                                                                                      | 14, _ => exact hc33_14
                                                                                      | 15, _ => exact hc33_15
                                                                                      | 16, _ => exact hc33_16
                                                                                      | 17, _ => exact hc33_17
                                                                                      | 18, _ => exact hc33_18
                                                                                      | 19, _ => exact hc33_19
                                                                                      | 20, _ => exact hc33_20
                                                                                      | 21, _ => exact hc33_21
                                                                                      | 22, _ => exact hc33_22
                                                                                      | 23, _ => exact hc33_23
                                                                                      | 24, _ => exact hc33_24
                                                                                      | 25, _ => exact hc33_25
                                                                                      | 26, _ => exact hc33_26
                                                                                      | 27, _ => exact hc33_27
                                                                                      | 28, _ => exact hc33_28
                                                                                      | 29, _ => exact hc33_29
                                                                                      | 30, _ => exact hc33_30
                                                                                      | 31, _ => exact hc33_31
                                                                                      | 32, _ => exact hc33_32
                                                                                      | 33, _ => exact hc33_33
                                                                                      | 34, _ => exact hc33_34
                                                                                      | 35, _ => exact hc33_35
                                                                                      | 36, _ => exact hc33_36
                                                                                      | 37, _ => exact hc33_37
                                                                                      | 38, _ => exact hc33_38
                                                                                      | i + 39, hi => exact absurd hi (by omega)
                                                                                    · refine lv_iinc (v := x3 + (6 : Int32)) (lv' := [(3, .int (x3 + (6 : Int32))), (0, .ref b), (1, .ref (ad 0)), (2, .ref (ad 68))]) hx hb d_law_1241 hl (k := 3) rfl rfl (by decide) rfl (fun ls hl => ?_)
                                                                                      refine lv_goto (tgt := 18) hx hb d_law_1244 (by decide) ?_
                                                                                      refine W.widen (k := 96 + (t + 1)) (n := 5568 + 5 * (t + 1)) (by omega) (by omega) ?_
                                                                                      exact ih (t + 1) (x3 + (6 : Int32)) h _ _ _ r (by omega) hH (lv_sub hl [1, 2, 3, 0] rfl) e
