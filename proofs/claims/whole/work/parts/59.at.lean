theorem lat_0 : decode code 0 = .ok (.new 7, 3) := by decide +kernel
theorem lat_3 : decode code 3 = .ok (.dup, 1) := by decide +kernel
theorem lat_4 : decode code 4 = .ok (.aload_n 0, 1) := by decide +kernel
theorem lat_5 : decode code 5 = .ok (.iconst 0, 1) := by decide +kernel
theorem lat_6 : decode code 6 = .ok (.invokestatic 9, 3) := by decide +kernel
theorem lat_9 : decode code 9 = .ok (.invokespecial 15, 3) := by decide +kernel
theorem lat_12 : decode code 12 = .ok (.astore_n 1, 1) := by decide +kernel
theorem lat_13 : decode code 13 = .ok (.new 18, 3) := by decide +kernel
theorem lat_16 : decode code 16 = .ok (.dup, 1) := by decide +kernel
theorem lat_17 : decode code 17 = .ok (.aload_n 0, 1) := by decide +kernel
theorem lat_18 : decode code 18 = .ok (.iconst 0, 1) := by decide +kernel
theorem lat_19 : decode code 19 = .ok (.invokestatic 9, 3) := by decide +kernel
theorem lat_22 : decode code 22 = .ok (.invokespecial 20, 3) := by decide +kernel
theorem lat_25 : decode code 25 = .ok (.astore_n 2, 1) := by decide +kernel
theorem lat_26 : decode code 26 = .ok (.iconst 1, 1) := by decide +kernel
theorem lat_27 : decode code 27 = .ok (.istore_n 3, 1) := by decide +kernel
theorem lat_28 : decode code 28 = .ok (.iload_n 3, 1) := by decide +kernel
theorem lat_29 : decode code 29 = .ok (.aload_n 0, 1) := by decide +kernel
theorem lat_30 : decode code 30 = .ok (.arraylength, 1) := by decide +kernel
theorem lat_31 : decode code 31 = .ok (.iconst 4, 1) := by decide +kernel
theorem lat_32 : decode code 32 = .ok (.isub, 1) := by decide +kernel
theorem lat_33 : decode code 33 = .ok (.if_icmp .gt 1235, 3) := by decide +kernel
theorem lat_36 : decode code 36 = .ok (.aload_n 0, 1) := by decide +kernel
theorem lat_37 : decode code 37 = .ok (.iload_n 3, 1) := by decide +kernel
theorem lat_38 : decode code 38 = .ok (.iaload, 1) := by decide +kernel
theorem lat_39 : decode code 39 = .ok (.bipush 63, 2) := by decide +kernel
theorem lat_41 : decode code 41 = .ok (.iand, 1) := by decide +kernel
theorem lat_42 : decode code 42 = .ok (.tableswitch 1220 0 36 #[162, 195, 228, 251, 284, 343, 376, 409, 432, 475, 498, 521, 554, 597, 620, 653, 696, 729, 772, 805, 838, 871, 914, 937, 970, 993, 1016, 1029, 1052, 1065, 1088, 1101, 1114, 1137, 1160, 1183, 1206], 162) := by decide +kernel
theorem lat_204 : decode code 204 = .ok (.aload_n 1, 1) := by decide +kernel
theorem lat_205 : decode code 205 = .ok (.aload_n 0, 1) := by decide +kernel
theorem lat_206 : decode code 206 = .ok (.iload_n 3, 1) := by decide +kernel
theorem lat_207 : decode code 207 = .ok (.iconst 1, 1) := by decide +kernel
theorem lat_208 : decode code 208 = .ok (.iadd, 1) := by decide +kernel
theorem lat_209 : decode code 209 = .ok (.iaload, 1) := by decide +kernel
theorem lat_210 : decode code 210 = .ok (.aload_n 0, 1) := by decide +kernel
theorem lat_211 : decode code 211 = .ok (.iload_n 3, 1) := by decide +kernel
theorem lat_212 : decode code 212 = .ok (.iconst 2, 1) := by decide +kernel
theorem lat_213 : decode code 213 = .ok (.iadd, 1) := by decide +kernel
theorem lat_214 : decode code 214 = .ok (.iaload, 1) := by decide +kernel
theorem lat_215 : decode code 215 = .ok (.invokevirtual 21, 3) := by decide +kernel
theorem lat_218 : decode code 218 = .ok (.aload_n 2, 1) := by decide +kernel
theorem lat_219 : decode code 219 = .ok (.aload_n 0, 1) := by decide +kernel
theorem lat_220 : decode code 220 = .ok (.iload_n 3, 1) := by decide +kernel
theorem lat_221 : decode code 221 = .ok (.iconst 1, 1) := by decide +kernel
theorem lat_222 : decode code 222 = .ok (.iadd, 1) := by decide +kernel
theorem lat_223 : decode code 223 = .ok (.iaload, 1) := by decide +kernel
theorem lat_224 : decode code 224 = .ok (.aload_n 0, 1) := by decide +kernel
theorem lat_225 : decode code 225 = .ok (.iload_n 3, 1) := by decide +kernel
theorem lat_226 : decode code 226 = .ok (.iconst 2, 1) := by decide +kernel
theorem lat_227 : decode code 227 = .ok (.iadd, 1) := by decide +kernel
theorem lat_228 : decode code 228 = .ok (.iaload, 1) := by decide +kernel
theorem lat_229 : decode code 229 = .ok (.invokevirtual 25, 3) := by decide +kernel
theorem lat_232 : decode code 232 = .ok (.if_icmp .eq 1030, 3) := by decide +kernel
theorem lat_235 : decode code 235 = .ok (.iconst 0, 1) := by decide +kernel
theorem lat_236 : decode code 236 = .ok (.ireturn, 1) := by decide +kernel
theorem lat_237 : decode code 237 = .ok (.aload_n 1, 1) := by decide +kernel
theorem lat_238 : decode code 238 = .ok (.aload_n 0, 1) := by decide +kernel
theorem lat_239 : decode code 239 = .ok (.iload_n 3, 1) := by decide +kernel
theorem lat_240 : decode code 240 = .ok (.iconst 1, 1) := by decide +kernel
theorem lat_241 : decode code 241 = .ok (.iadd, 1) := by decide +kernel
theorem lat_242 : decode code 242 = .ok (.iaload, 1) := by decide +kernel
theorem lat_243 : decode code 243 = .ok (.aload_n 0, 1) := by decide +kernel
theorem lat_244 : decode code 244 = .ok (.iload_n 3, 1) := by decide +kernel
theorem lat_245 : decode code 245 = .ok (.iconst 2, 1) := by decide +kernel
theorem lat_246 : decode code 246 = .ok (.iadd, 1) := by decide +kernel
theorem lat_247 : decode code 247 = .ok (.iaload, 1) := by decide +kernel
theorem lat_248 : decode code 248 = .ok (.invokevirtual 26, 3) := by decide +kernel
theorem lat_251 : decode code 251 = .ok (.aload_n 2, 1) := by decide +kernel
theorem lat_252 : decode code 252 = .ok (.aload_n 0, 1) := by decide +kernel
theorem lat_253 : decode code 253 = .ok (.iload_n 3, 1) := by decide +kernel
theorem lat_254 : decode code 254 = .ok (.iconst 1, 1) := by decide +kernel
theorem lat_255 : decode code 255 = .ok (.iadd, 1) := by decide +kernel
theorem lat_256 : decode code 256 = .ok (.iaload, 1) := by decide +kernel
theorem lat_257 : decode code 257 = .ok (.aload_n 0, 1) := by decide +kernel
theorem lat_258 : decode code 258 = .ok (.iload_n 3, 1) := by decide +kernel
theorem lat_259 : decode code 259 = .ok (.iconst 2, 1) := by decide +kernel
theorem lat_260 : decode code 260 = .ok (.iadd, 1) := by decide +kernel
theorem lat_261 : decode code 261 = .ok (.iaload, 1) := by decide +kernel
theorem lat_262 : decode code 262 = .ok (.invokevirtual 29, 3) := by decide +kernel
theorem lat_265 : decode code 265 = .ok (.if_icmp .eq 997, 3) := by decide +kernel
theorem lat_268 : decode code 268 = .ok (.iconst 0, 1) := by decide +kernel
theorem lat_269 : decode code 269 = .ok (.ireturn, 1) := by decide +kernel
theorem lat_270 : decode code 270 = .ok (.aload_n 1, 1) := by decide +kernel
theorem lat_271 : decode code 271 = .ok (.aload_n 0, 1) := by decide +kernel
theorem lat_272 : decode code 272 = .ok (.iload_n 3, 1) := by decide +kernel
theorem lat_273 : decode code 273 = .ok (.iconst 1, 1) := by decide +kernel
theorem lat_274 : decode code 274 = .ok (.iadd, 1) := by decide +kernel
theorem lat_275 : decode code 275 = .ok (.iaload, 1) := by decide +kernel
theorem lat_276 : decode code 276 = .ok (.invokevirtual 30, 3) := by decide +kernel
theorem lat_279 : decode code 279 = .ok (.aload_n 2, 1) := by decide +kernel
theorem lat_280 : decode code 280 = .ok (.aload_n 0, 1) := by decide +kernel
theorem lat_281 : decode code 281 = .ok (.iload_n 3, 1) := by decide +kernel
theorem lat_282 : decode code 282 = .ok (.iconst 1, 1) := by decide +kernel
theorem lat_283 : decode code 283 = .ok (.iadd, 1) := by decide +kernel
theorem lat_284 : decode code 284 = .ok (.iaload, 1) := by decide +kernel
theorem lat_285 : decode code 285 = .ok (.invokevirtual 34, 3) := by decide +kernel
theorem lat_288 : decode code 288 = .ok (.if_icmp .eq 974, 3) := by decide +kernel
theorem lat_291 : decode code 291 = .ok (.iconst 0, 1) := by decide +kernel
theorem lat_292 : decode code 292 = .ok (.ireturn, 1) := by decide +kernel
theorem lat_293 : decode code 293 = .ok (.aload_n 1, 1) := by decide +kernel
theorem lat_294 : decode code 294 = .ok (.aload_n 0, 1) := by decide +kernel
theorem lat_295 : decode code 295 = .ok (.iload_n 3, 1) := by decide +kernel
theorem lat_296 : decode code 296 = .ok (.iconst 1, 1) := by decide +kernel
theorem lat_297 : decode code 297 = .ok (.iadd, 1) := by decide +kernel
theorem lat_298 : decode code 298 = .ok (.iaload, 1) := by decide +kernel
theorem lat_299 : decode code 299 = .ok (.aload_n 0, 1) := by decide +kernel
theorem lat_300 : decode code 300 = .ok (.iload_n 3, 1) := by decide +kernel
theorem lat_301 : decode code 301 = .ok (.iconst 2, 1) := by decide +kernel
theorem lat_302 : decode code 302 = .ok (.iadd, 1) := by decide +kernel
theorem lat_303 : decode code 303 = .ok (.iaload, 1) := by decide +kernel
theorem lat_304 : decode code 304 = .ok (.invokevirtual 35, 3) := by decide +kernel
theorem lat_307 : decode code 307 = .ok (.aload_n 2, 1) := by decide +kernel
theorem lat_308 : decode code 308 = .ok (.aload_n 0, 1) := by decide +kernel
theorem lat_309 : decode code 309 = .ok (.iload_n 3, 1) := by decide +kernel
theorem lat_310 : decode code 310 = .ok (.iconst 1, 1) := by decide +kernel
theorem lat_311 : decode code 311 = .ok (.iadd, 1) := by decide +kernel
theorem lat_312 : decode code 312 = .ok (.iaload, 1) := by decide +kernel
theorem lat_313 : decode code 313 = .ok (.aload_n 0, 1) := by decide +kernel
theorem lat_314 : decode code 314 = .ok (.iload_n 3, 1) := by decide +kernel
theorem lat_315 : decode code 315 = .ok (.iconst 2, 1) := by decide +kernel
theorem lat_316 : decode code 316 = .ok (.iadd, 1) := by decide +kernel
theorem lat_317 : decode code 317 = .ok (.iaload, 1) := by decide +kernel
theorem lat_318 : decode code 318 = .ok (.invokevirtual 38, 3) := by decide +kernel
theorem lat_321 : decode code 321 = .ok (.if_icmp .eq 941, 3) := by decide +kernel
theorem lat_324 : decode code 324 = .ok (.iconst 0, 1) := by decide +kernel
theorem lat_325 : decode code 325 = .ok (.ireturn, 1) := by decide +kernel
theorem lat_326 : decode code 326 = .ok (.aload_n 1, 1) := by decide +kernel
theorem lat_327 : decode code 327 = .ok (.aload_n 0, 1) := by decide +kernel
theorem lat_328 : decode code 328 = .ok (.iload_n 3, 1) := by decide +kernel
theorem lat_329 : decode code 329 = .ok (.iconst 1, 1) := by decide +kernel
theorem lat_330 : decode code 330 = .ok (.iadd, 1) := by decide +kernel
theorem lat_331 : decode code 331 = .ok (.iaload, 1) := by decide +kernel
theorem lat_332 : decode code 332 = .ok (.aload_n 0, 1) := by decide +kernel
theorem lat_333 : decode code 333 = .ok (.iload_n 3, 1) := by decide +kernel
theorem lat_334 : decode code 334 = .ok (.iconst 2, 1) := by decide +kernel
theorem lat_335 : decode code 335 = .ok (.iadd, 1) := by decide +kernel
theorem lat_336 : decode code 336 = .ok (.iaload, 1) := by decide +kernel
theorem lat_337 : decode code 337 = .ok (.aload_n 0, 1) := by decide +kernel
theorem lat_338 : decode code 338 = .ok (.iload_n 3, 1) := by decide +kernel
theorem lat_339 : decode code 339 = .ok (.iconst 3, 1) := by decide +kernel
theorem lat_340 : decode code 340 = .ok (.iadd, 1) := by decide +kernel
theorem lat_341 : decode code 341 = .ok (.iaload, 1) := by decide +kernel
theorem lat_342 : decode code 342 = .ok (.ifCond .eq 7, 3) := by decide +kernel
theorem lat_345 : decode code 345 = .ok (.iconst 1, 1) := by decide +kernel
theorem lat_346 : decode code 346 = .ok (.goto 4, 3) := by decide +kernel
theorem lat_349 : decode code 349 = .ok (.iconst 0, 1) := by decide +kernel
theorem lat_350 : decode code 350 = .ok (.invokevirtual 39, 3) := by decide +kernel
theorem lat_353 : decode code 353 = .ok (.aload_n 2, 1) := by decide +kernel
theorem lat_354 : decode code 354 = .ok (.aload_n 0, 1) := by decide +kernel
theorem lat_355 : decode code 355 = .ok (.iload_n 3, 1) := by decide +kernel
theorem lat_356 : decode code 356 = .ok (.iconst 1, 1) := by decide +kernel
theorem lat_357 : decode code 357 = .ok (.iadd, 1) := by decide +kernel
theorem lat_358 : decode code 358 = .ok (.iaload, 1) := by decide +kernel
theorem lat_359 : decode code 359 = .ok (.aload_n 0, 1) := by decide +kernel
theorem lat_360 : decode code 360 = .ok (.iload_n 3, 1) := by decide +kernel
theorem lat_361 : decode code 361 = .ok (.iconst 2, 1) := by decide +kernel
theorem lat_362 : decode code 362 = .ok (.iadd, 1) := by decide +kernel
theorem lat_363 : decode code 363 = .ok (.iaload, 1) := by decide +kernel
theorem lat_364 : decode code 364 = .ok (.aload_n 0, 1) := by decide +kernel
theorem lat_365 : decode code 365 = .ok (.iload_n 3, 1) := by decide +kernel
theorem lat_366 : decode code 366 = .ok (.iconst 3, 1) := by decide +kernel
theorem lat_367 : decode code 367 = .ok (.iadd, 1) := by decide +kernel
theorem lat_368 : decode code 368 = .ok (.iaload, 1) := by decide +kernel
theorem lat_369 : decode code 369 = .ok (.ifCond .eq 7, 3) := by decide +kernel
theorem lat_372 : decode code 372 = .ok (.iconst 1, 1) := by decide +kernel
theorem lat_373 : decode code 373 = .ok (.goto 4, 3) := by decide +kernel
theorem lat_376 : decode code 376 = .ok (.iconst 0, 1) := by decide +kernel
theorem lat_377 : decode code 377 = .ok (.invokevirtual 43, 3) := by decide +kernel
theorem lat_380 : decode code 380 = .ok (.if_icmp .eq 882, 3) := by decide +kernel
theorem lat_383 : decode code 383 = .ok (.iconst 0, 1) := by decide +kernel
theorem lat_384 : decode code 384 = .ok (.ireturn, 1) := by decide +kernel
theorem lat_385 : decode code 385 = .ok (.aload_n 1, 1) := by decide +kernel
theorem lat_386 : decode code 386 = .ok (.aload_n 0, 1) := by decide +kernel
theorem lat_387 : decode code 387 = .ok (.iload_n 3, 1) := by decide +kernel
theorem lat_388 : decode code 388 = .ok (.iconst 1, 1) := by decide +kernel
theorem lat_389 : decode code 389 = .ok (.iadd, 1) := by decide +kernel
theorem lat_390 : decode code 390 = .ok (.iaload, 1) := by decide +kernel
theorem lat_391 : decode code 391 = .ok (.aload_n 0, 1) := by decide +kernel
theorem lat_392 : decode code 392 = .ok (.iload_n 3, 1) := by decide +kernel
theorem lat_393 : decode code 393 = .ok (.iconst 2, 1) := by decide +kernel
theorem lat_394 : decode code 394 = .ok (.iadd, 1) := by decide +kernel
theorem lat_395 : decode code 395 = .ok (.iaload, 1) := by decide +kernel
theorem lat_396 : decode code 396 = .ok (.invokevirtual 44, 3) := by decide +kernel
theorem lat_399 : decode code 399 = .ok (.aload_n 2, 1) := by decide +kernel
theorem lat_400 : decode code 400 = .ok (.aload_n 0, 1) := by decide +kernel
theorem lat_401 : decode code 401 = .ok (.iload_n 3, 1) := by decide +kernel
theorem lat_402 : decode code 402 = .ok (.iconst 1, 1) := by decide +kernel
theorem lat_403 : decode code 403 = .ok (.iadd, 1) := by decide +kernel
theorem lat_404 : decode code 404 = .ok (.iaload, 1) := by decide +kernel
theorem lat_405 : decode code 405 = .ok (.aload_n 0, 1) := by decide +kernel
theorem lat_406 : decode code 406 = .ok (.iload_n 3, 1) := by decide +kernel
theorem lat_407 : decode code 407 = .ok (.iconst 2, 1) := by decide +kernel
theorem lat_408 : decode code 408 = .ok (.iadd, 1) := by decide +kernel
theorem lat_409 : decode code 409 = .ok (.iaload, 1) := by decide +kernel
theorem lat_410 : decode code 410 = .ok (.invokevirtual 47, 3) := by decide +kernel
theorem lat_413 : decode code 413 = .ok (.if_icmp .eq 849, 3) := by decide +kernel
theorem lat_416 : decode code 416 = .ok (.iconst 0, 1) := by decide +kernel
theorem lat_417 : decode code 417 = .ok (.ireturn, 1) := by decide +kernel
theorem lat_418 : decode code 418 = .ok (.aload_n 1, 1) := by decide +kernel
theorem lat_419 : decode code 419 = .ok (.aload_n 0, 1) := by decide +kernel
theorem lat_420 : decode code 420 = .ok (.iload_n 3, 1) := by decide +kernel
theorem lat_421 : decode code 421 = .ok (.iconst 1, 1) := by decide +kernel
theorem lat_422 : decode code 422 = .ok (.iadd, 1) := by decide +kernel
theorem lat_423 : decode code 423 = .ok (.iaload, 1) := by decide +kernel
theorem lat_424 : decode code 424 = .ok (.aload_n 0, 1) := by decide +kernel
theorem lat_425 : decode code 425 = .ok (.iload_n 3, 1) := by decide +kernel
theorem lat_426 : decode code 426 = .ok (.iconst 2, 1) := by decide +kernel
theorem lat_427 : decode code 427 = .ok (.iadd, 1) := by decide +kernel
theorem lat_428 : decode code 428 = .ok (.iaload, 1) := by decide +kernel
theorem lat_429 : decode code 429 = .ok (.invokevirtual 48, 3) := by decide +kernel
theorem lat_432 : decode code 432 = .ok (.aload_n 2, 1) := by decide +kernel
theorem lat_433 : decode code 433 = .ok (.aload_n 0, 1) := by decide +kernel
theorem lat_434 : decode code 434 = .ok (.iload_n 3, 1) := by decide +kernel
theorem lat_435 : decode code 435 = .ok (.iconst 1, 1) := by decide +kernel
theorem lat_436 : decode code 436 = .ok (.iadd, 1) := by decide +kernel
theorem lat_437 : decode code 437 = .ok (.iaload, 1) := by decide +kernel
theorem lat_438 : decode code 438 = .ok (.aload_n 0, 1) := by decide +kernel
theorem lat_439 : decode code 439 = .ok (.iload_n 3, 1) := by decide +kernel
theorem lat_440 : decode code 440 = .ok (.iconst 2, 1) := by decide +kernel
theorem lat_441 : decode code 441 = .ok (.iadd, 1) := by decide +kernel
theorem lat_442 : decode code 442 = .ok (.iaload, 1) := by decide +kernel
theorem lat_443 : decode code 443 = .ok (.invokevirtual 51, 3) := by decide +kernel
theorem lat_446 : decode code 446 = .ok (.if_icmp .eq 816, 3) := by decide +kernel
theorem lat_449 : decode code 449 = .ok (.iconst 0, 1) := by decide +kernel
theorem lat_450 : decode code 450 = .ok (.ireturn, 1) := by decide +kernel
theorem lat_451 : decode code 451 = .ok (.aload_n 1, 1) := by decide +kernel
theorem lat_452 : decode code 452 = .ok (.aload_n 0, 1) := by decide +kernel
theorem lat_453 : decode code 453 = .ok (.iload_n 3, 1) := by decide +kernel
theorem lat_454 : decode code 454 = .ok (.iconst 1, 1) := by decide +kernel
theorem lat_455 : decode code 455 = .ok (.iadd, 1) := by decide +kernel
theorem lat_456 : decode code 456 = .ok (.iaload, 1) := by decide +kernel
theorem lat_457 : decode code 457 = .ok (.invokevirtual 52, 3) := by decide +kernel
theorem lat_460 : decode code 460 = .ok (.aload_n 2, 1) := by decide +kernel
theorem lat_461 : decode code 461 = .ok (.aload_n 0, 1) := by decide +kernel
theorem lat_462 : decode code 462 = .ok (.iload_n 3, 1) := by decide +kernel
theorem lat_463 : decode code 463 = .ok (.iconst 1, 1) := by decide +kernel
theorem lat_464 : decode code 464 = .ok (.iadd, 1) := by decide +kernel
theorem lat_465 : decode code 465 = .ok (.iaload, 1) := by decide +kernel
theorem lat_466 : decode code 466 = .ok (.invokevirtual 55, 3) := by decide +kernel
theorem lat_469 : decode code 469 = .ok (.if_icmp .eq 793, 3) := by decide +kernel
theorem lat_472 : decode code 472 = .ok (.iconst 0, 1) := by decide +kernel
theorem lat_473 : decode code 473 = .ok (.ireturn, 1) := by decide +kernel
theorem lat_474 : decode code 474 = .ok (.aload_n 1, 1) := by decide +kernel
theorem lat_475 : decode code 475 = .ok (.aload_n 0, 1) := by decide +kernel
theorem lat_476 : decode code 476 = .ok (.iload_n 3, 1) := by decide +kernel
theorem lat_477 : decode code 477 = .ok (.iconst 1, 1) := by decide +kernel
theorem lat_478 : decode code 478 = .ok (.iadd, 1) := by decide +kernel
theorem lat_479 : decode code 479 = .ok (.iaload, 1) := by decide +kernel
theorem lat_480 : decode code 480 = .ok (.aload_n 0, 1) := by decide +kernel
theorem lat_481 : decode code 481 = .ok (.iload_n 3, 1) := by decide +kernel
theorem lat_482 : decode code 482 = .ok (.iconst 2, 1) := by decide +kernel
theorem lat_483 : decode code 483 = .ok (.iadd, 1) := by decide +kernel
theorem lat_484 : decode code 484 = .ok (.iaload, 1) := by decide +kernel
theorem lat_485 : decode code 485 = .ok (.aload_n 0, 1) := by decide +kernel
theorem lat_486 : decode code 486 = .ok (.iload_n 3, 1) := by decide +kernel
theorem lat_487 : decode code 487 = .ok (.iconst 3, 1) := by decide +kernel
theorem lat_488 : decode code 488 = .ok (.iadd, 1) := by decide +kernel
theorem lat_489 : decode code 489 = .ok (.iaload, 1) := by decide +kernel
theorem lat_490 : decode code 490 = .ok (.invokevirtual 56, 3) := by decide +kernel
theorem lat_493 : decode code 493 = .ok (.aload_n 2, 1) := by decide +kernel
theorem lat_494 : decode code 494 = .ok (.aload_n 0, 1) := by decide +kernel
theorem lat_495 : decode code 495 = .ok (.iload_n 3, 1) := by decide +kernel
theorem lat_496 : decode code 496 = .ok (.iconst 1, 1) := by decide +kernel
theorem lat_497 : decode code 497 = .ok (.iadd, 1) := by decide +kernel
theorem lat_498 : decode code 498 = .ok (.iaload, 1) := by decide +kernel
theorem lat_499 : decode code 499 = .ok (.aload_n 0, 1) := by decide +kernel
theorem lat_500 : decode code 500 = .ok (.iload_n 3, 1) := by decide +kernel
theorem lat_501 : decode code 501 = .ok (.iconst 2, 1) := by decide +kernel
theorem lat_502 : decode code 502 = .ok (.iadd, 1) := by decide +kernel
theorem lat_503 : decode code 503 = .ok (.iaload, 1) := by decide +kernel
theorem lat_504 : decode code 504 = .ok (.aload_n 0, 1) := by decide +kernel
theorem lat_505 : decode code 505 = .ok (.iload_n 3, 1) := by decide +kernel
theorem lat_506 : decode code 506 = .ok (.iconst 3, 1) := by decide +kernel
theorem lat_507 : decode code 507 = .ok (.iadd, 1) := by decide +kernel
theorem lat_508 : decode code 508 = .ok (.iaload, 1) := by decide +kernel
theorem lat_509 : decode code 509 = .ok (.invokevirtual 60, 3) := by decide +kernel
theorem lat_512 : decode code 512 = .ok (.if_icmp .eq 750, 3) := by decide +kernel
theorem lat_515 : decode code 515 = .ok (.iconst 0, 1) := by decide +kernel
theorem lat_516 : decode code 516 = .ok (.ireturn, 1) := by decide +kernel
theorem lat_517 : decode code 517 = .ok (.aload_n 1, 1) := by decide +kernel
theorem lat_518 : decode code 518 = .ok (.aload_n 0, 1) := by decide +kernel
theorem lat_519 : decode code 519 = .ok (.iload_n 3, 1) := by decide +kernel
theorem lat_520 : decode code 520 = .ok (.iconst 1, 1) := by decide +kernel
theorem lat_521 : decode code 521 = .ok (.iadd, 1) := by decide +kernel
theorem lat_522 : decode code 522 = .ok (.iaload, 1) := by decide +kernel
theorem lat_523 : decode code 523 = .ok (.invokevirtual 61, 3) := by decide +kernel
theorem lat_526 : decode code 526 = .ok (.aload_n 2, 1) := by decide +kernel
theorem lat_527 : decode code 527 = .ok (.aload_n 0, 1) := by decide +kernel
theorem lat_528 : decode code 528 = .ok (.iload_n 3, 1) := by decide +kernel
theorem lat_529 : decode code 529 = .ok (.iconst 1, 1) := by decide +kernel
theorem lat_530 : decode code 530 = .ok (.iadd, 1) := by decide +kernel
theorem lat_531 : decode code 531 = .ok (.iaload, 1) := by decide +kernel
theorem lat_532 : decode code 532 = .ok (.invokevirtual 64, 3) := by decide +kernel
theorem lat_535 : decode code 535 = .ok (.if_icmp .eq 727, 3) := by decide +kernel
theorem lat_538 : decode code 538 = .ok (.iconst 0, 1) := by decide +kernel
theorem lat_539 : decode code 539 = .ok (.ireturn, 1) := by decide +kernel
theorem lat_540 : decode code 540 = .ok (.aload_n 1, 1) := by decide +kernel
theorem lat_541 : decode code 541 = .ok (.aload_n 0, 1) := by decide +kernel
theorem lat_542 : decode code 542 = .ok (.iload_n 3, 1) := by decide +kernel
theorem lat_543 : decode code 543 = .ok (.iconst 1, 1) := by decide +kernel
theorem lat_544 : decode code 544 = .ok (.iadd, 1) := by decide +kernel
theorem lat_545 : decode code 545 = .ok (.iaload, 1) := by decide +kernel
theorem lat_546 : decode code 546 = .ok (.invokevirtual 65, 3) := by decide +kernel
theorem lat_549 : decode code 549 = .ok (.aload_n 2, 1) := by decide +kernel
theorem lat_550 : decode code 550 = .ok (.aload_n 0, 1) := by decide +kernel
theorem lat_551 : decode code 551 = .ok (.iload_n 3, 1) := by decide +kernel
theorem lat_552 : decode code 552 = .ok (.iconst 1, 1) := by decide +kernel
theorem lat_553 : decode code 553 = .ok (.iadd, 1) := by decide +kernel
theorem lat_554 : decode code 554 = .ok (.iaload, 1) := by decide +kernel
theorem lat_555 : decode code 555 = .ok (.invokevirtual 68, 3) := by decide +kernel
theorem lat_558 : decode code 558 = .ok (.if_icmp .eq 704, 3) := by decide +kernel
theorem lat_561 : decode code 561 = .ok (.iconst 0, 1) := by decide +kernel
theorem lat_562 : decode code 562 = .ok (.ireturn, 1) := by decide +kernel
theorem lat_563 : decode code 563 = .ok (.aload_n 1, 1) := by decide +kernel
theorem lat_564 : decode code 564 = .ok (.aload_n 0, 1) := by decide +kernel
theorem lat_565 : decode code 565 = .ok (.iload_n 3, 1) := by decide +kernel
theorem lat_566 : decode code 566 = .ok (.iconst 1, 1) := by decide +kernel
theorem lat_567 : decode code 567 = .ok (.iadd, 1) := by decide +kernel
theorem lat_568 : decode code 568 = .ok (.iaload, 1) := by decide +kernel
theorem lat_569 : decode code 569 = .ok (.aload_n 0, 1) := by decide +kernel
theorem lat_570 : decode code 570 = .ok (.iload_n 3, 1) := by decide +kernel
theorem lat_571 : decode code 571 = .ok (.iconst 2, 1) := by decide +kernel
theorem lat_572 : decode code 572 = .ok (.iadd, 1) := by decide +kernel
theorem lat_573 : decode code 573 = .ok (.iaload, 1) := by decide +kernel
theorem lat_574 : decode code 574 = .ok (.invokevirtual 69, 3) := by decide +kernel
theorem lat_577 : decode code 577 = .ok (.aload_n 2, 1) := by decide +kernel
theorem lat_578 : decode code 578 = .ok (.aload_n 0, 1) := by decide +kernel
theorem lat_579 : decode code 579 = .ok (.iload_n 3, 1) := by decide +kernel
theorem lat_580 : decode code 580 = .ok (.iconst 1, 1) := by decide +kernel
theorem lat_581 : decode code 581 = .ok (.iadd, 1) := by decide +kernel
theorem lat_582 : decode code 582 = .ok (.iaload, 1) := by decide +kernel
theorem lat_583 : decode code 583 = .ok (.aload_n 0, 1) := by decide +kernel
theorem lat_584 : decode code 584 = .ok (.iload_n 3, 1) := by decide +kernel
theorem lat_585 : decode code 585 = .ok (.iconst 2, 1) := by decide +kernel
theorem lat_586 : decode code 586 = .ok (.iadd, 1) := by decide +kernel
theorem lat_587 : decode code 587 = .ok (.iaload, 1) := by decide +kernel
theorem lat_588 : decode code 588 = .ok (.invokevirtual 72, 3) := by decide +kernel
theorem lat_591 : decode code 591 = .ok (.if_icmp .eq 671, 3) := by decide +kernel
theorem lat_594 : decode code 594 = .ok (.iconst 0, 1) := by decide +kernel
theorem lat_595 : decode code 595 = .ok (.ireturn, 1) := by decide +kernel
theorem lat_596 : decode code 596 = .ok (.aload_n 1, 1) := by decide +kernel
theorem lat_597 : decode code 597 = .ok (.aload_n 0, 1) := by decide +kernel
theorem lat_598 : decode code 598 = .ok (.iload_n 3, 1) := by decide +kernel
theorem lat_599 : decode code 599 = .ok (.iconst 1, 1) := by decide +kernel
theorem lat_600 : decode code 600 = .ok (.iadd, 1) := by decide +kernel
theorem lat_601 : decode code 601 = .ok (.iaload, 1) := by decide +kernel
theorem lat_602 : decode code 602 = .ok (.aload_n 0, 1) := by decide +kernel
theorem lat_603 : decode code 603 = .ok (.iload_n 3, 1) := by decide +kernel
theorem lat_604 : decode code 604 = .ok (.iconst 2, 1) := by decide +kernel
theorem lat_605 : decode code 605 = .ok (.iadd, 1) := by decide +kernel
theorem lat_606 : decode code 606 = .ok (.iaload, 1) := by decide +kernel
theorem lat_607 : decode code 607 = .ok (.aload_n 0, 1) := by decide +kernel
theorem lat_608 : decode code 608 = .ok (.iload_n 3, 1) := by decide +kernel
theorem lat_609 : decode code 609 = .ok (.iconst 3, 1) := by decide +kernel
theorem lat_610 : decode code 610 = .ok (.iadd, 1) := by decide +kernel
theorem lat_611 : decode code 611 = .ok (.iaload, 1) := by decide +kernel
theorem lat_612 : decode code 612 = .ok (.invokevirtual 73, 3) := by decide +kernel
theorem lat_615 : decode code 615 = .ok (.aload_n 2, 1) := by decide +kernel
theorem lat_616 : decode code 616 = .ok (.aload_n 0, 1) := by decide +kernel
theorem lat_617 : decode code 617 = .ok (.iload_n 3, 1) := by decide +kernel
theorem lat_618 : decode code 618 = .ok (.iconst 1, 1) := by decide +kernel
theorem lat_619 : decode code 619 = .ok (.iadd, 1) := by decide +kernel
theorem lat_620 : decode code 620 = .ok (.iaload, 1) := by decide +kernel
theorem lat_621 : decode code 621 = .ok (.aload_n 0, 1) := by decide +kernel
theorem lat_622 : decode code 622 = .ok (.iload_n 3, 1) := by decide +kernel
theorem lat_623 : decode code 623 = .ok (.iconst 2, 1) := by decide +kernel
theorem lat_624 : decode code 624 = .ok (.iadd, 1) := by decide +kernel
theorem lat_625 : decode code 625 = .ok (.iaload, 1) := by decide +kernel
theorem lat_626 : decode code 626 = .ok (.aload_n 0, 1) := by decide +kernel
theorem lat_627 : decode code 627 = .ok (.iload_n 3, 1) := by decide +kernel
theorem lat_628 : decode code 628 = .ok (.iconst 3, 1) := by decide +kernel
theorem lat_629 : decode code 629 = .ok (.iadd, 1) := by decide +kernel
theorem lat_630 : decode code 630 = .ok (.iaload, 1) := by decide +kernel
theorem lat_631 : decode code 631 = .ok (.invokevirtual 76, 3) := by decide +kernel
theorem lat_634 : decode code 634 = .ok (.if_icmp .eq 628, 3) := by decide +kernel
theorem lat_637 : decode code 637 = .ok (.iconst 0, 1) := by decide +kernel
theorem lat_638 : decode code 638 = .ok (.ireturn, 1) := by decide +kernel
theorem lat_639 : decode code 639 = .ok (.aload_n 1, 1) := by decide +kernel
theorem lat_640 : decode code 640 = .ok (.aload_n 0, 1) := by decide +kernel
theorem lat_641 : decode code 641 = .ok (.iload_n 3, 1) := by decide +kernel
theorem lat_642 : decode code 642 = .ok (.iconst 1, 1) := by decide +kernel
theorem lat_643 : decode code 643 = .ok (.iadd, 1) := by decide +kernel
theorem lat_644 : decode code 644 = .ok (.iaload, 1) := by decide +kernel
theorem lat_645 : decode code 645 = .ok (.invokevirtual 77, 3) := by decide +kernel
theorem lat_648 : decode code 648 = .ok (.aload_n 2, 1) := by decide +kernel
theorem lat_649 : decode code 649 = .ok (.aload_n 0, 1) := by decide +kernel
theorem lat_650 : decode code 650 = .ok (.iload_n 3, 1) := by decide +kernel
theorem lat_651 : decode code 651 = .ok (.iconst 1, 1) := by decide +kernel
theorem lat_652 : decode code 652 = .ok (.iadd, 1) := by decide +kernel
theorem lat_653 : decode code 653 = .ok (.iaload, 1) := by decide +kernel
theorem lat_654 : decode code 654 = .ok (.invokevirtual 80, 3) := by decide +kernel
theorem lat_657 : decode code 657 = .ok (.if_icmp .eq 605, 3) := by decide +kernel
theorem lat_660 : decode code 660 = .ok (.iconst 0, 1) := by decide +kernel
theorem lat_661 : decode code 661 = .ok (.ireturn, 1) := by decide +kernel
theorem lat_662 : decode code 662 = .ok (.aload_n 1, 1) := by decide +kernel
theorem lat_663 : decode code 663 = .ok (.aload_n 0, 1) := by decide +kernel
theorem lat_664 : decode code 664 = .ok (.iload_n 3, 1) := by decide +kernel
theorem lat_665 : decode code 665 = .ok (.iconst 1, 1) := by decide +kernel
theorem lat_666 : decode code 666 = .ok (.iadd, 1) := by decide +kernel
theorem lat_667 : decode code 667 = .ok (.iaload, 1) := by decide +kernel
theorem lat_668 : decode code 668 = .ok (.aload_n 0, 1) := by decide +kernel
theorem lat_669 : decode code 669 = .ok (.iload_n 3, 1) := by decide +kernel
theorem lat_670 : decode code 670 = .ok (.iconst 2, 1) := by decide +kernel
theorem lat_671 : decode code 671 = .ok (.iadd, 1) := by decide +kernel
theorem lat_672 : decode code 672 = .ok (.iaload, 1) := by decide +kernel
theorem lat_673 : decode code 673 = .ok (.invokevirtual 81, 3) := by decide +kernel
theorem lat_676 : decode code 676 = .ok (.aload_n 2, 1) := by decide +kernel
theorem lat_677 : decode code 677 = .ok (.aload_n 0, 1) := by decide +kernel
theorem lat_678 : decode code 678 = .ok (.iload_n 3, 1) := by decide +kernel
theorem lat_679 : decode code 679 = .ok (.iconst 1, 1) := by decide +kernel
theorem lat_680 : decode code 680 = .ok (.iadd, 1) := by decide +kernel
theorem lat_681 : decode code 681 = .ok (.iaload, 1) := by decide +kernel
theorem lat_682 : decode code 682 = .ok (.aload_n 0, 1) := by decide +kernel
theorem lat_683 : decode code 683 = .ok (.iload_n 3, 1) := by decide +kernel
theorem lat_684 : decode code 684 = .ok (.iconst 2, 1) := by decide +kernel
theorem lat_685 : decode code 685 = .ok (.iadd, 1) := by decide +kernel
theorem lat_686 : decode code 686 = .ok (.iaload, 1) := by decide +kernel
theorem lat_687 : decode code 687 = .ok (.invokevirtual 84, 3) := by decide +kernel
theorem lat_690 : decode code 690 = .ok (.if_icmp .eq 572, 3) := by decide +kernel
theorem lat_693 : decode code 693 = .ok (.iconst 0, 1) := by decide +kernel
theorem lat_694 : decode code 694 = .ok (.ireturn, 1) := by decide +kernel
theorem lat_695 : decode code 695 = .ok (.aload_n 1, 1) := by decide +kernel
theorem lat_696 : decode code 696 = .ok (.aload_n 0, 1) := by decide +kernel
theorem lat_697 : decode code 697 = .ok (.iload_n 3, 1) := by decide +kernel
theorem lat_698 : decode code 698 = .ok (.iconst 1, 1) := by decide +kernel
theorem lat_699 : decode code 699 = .ok (.iadd, 1) := by decide +kernel
theorem lat_700 : decode code 700 = .ok (.iaload, 1) := by decide +kernel
theorem lat_701 : decode code 701 = .ok (.aload_n 0, 1) := by decide +kernel
theorem lat_702 : decode code 702 = .ok (.iload_n 3, 1) := by decide +kernel
theorem lat_703 : decode code 703 = .ok (.iconst 2, 1) := by decide +kernel
theorem lat_704 : decode code 704 = .ok (.iadd, 1) := by decide +kernel
theorem lat_705 : decode code 705 = .ok (.iaload, 1) := by decide +kernel
theorem lat_706 : decode code 706 = .ok (.aload_n 0, 1) := by decide +kernel
theorem lat_707 : decode code 707 = .ok (.iload_n 3, 1) := by decide +kernel
theorem lat_708 : decode code 708 = .ok (.iconst 3, 1) := by decide +kernel
theorem lat_709 : decode code 709 = .ok (.iadd, 1) := by decide +kernel
theorem lat_710 : decode code 710 = .ok (.iaload, 1) := by decide +kernel
theorem lat_711 : decode code 711 = .ok (.invokevirtual 85, 3) := by decide +kernel
theorem lat_714 : decode code 714 = .ok (.aload_n 2, 1) := by decide +kernel
theorem lat_715 : decode code 715 = .ok (.aload_n 0, 1) := by decide +kernel
theorem lat_716 : decode code 716 = .ok (.iload_n 3, 1) := by decide +kernel
theorem lat_717 : decode code 717 = .ok (.iconst 1, 1) := by decide +kernel
theorem lat_718 : decode code 718 = .ok (.iadd, 1) := by decide +kernel
theorem lat_719 : decode code 719 = .ok (.iaload, 1) := by decide +kernel
theorem lat_720 : decode code 720 = .ok (.aload_n 0, 1) := by decide +kernel
theorem lat_721 : decode code 721 = .ok (.iload_n 3, 1) := by decide +kernel
theorem lat_722 : decode code 722 = .ok (.iconst 2, 1) := by decide +kernel
theorem lat_723 : decode code 723 = .ok (.iadd, 1) := by decide +kernel
theorem lat_724 : decode code 724 = .ok (.iaload, 1) := by decide +kernel
theorem lat_725 : decode code 725 = .ok (.aload_n 0, 1) := by decide +kernel
theorem lat_726 : decode code 726 = .ok (.iload_n 3, 1) := by decide +kernel
theorem lat_727 : decode code 727 = .ok (.iconst 3, 1) := by decide +kernel
theorem lat_728 : decode code 728 = .ok (.iadd, 1) := by decide +kernel
theorem lat_729 : decode code 729 = .ok (.iaload, 1) := by decide +kernel
theorem lat_730 : decode code 730 = .ok (.invokevirtual 88, 3) := by decide +kernel
theorem lat_733 : decode code 733 = .ok (.if_icmp .eq 529, 3) := by decide +kernel
theorem lat_736 : decode code 736 = .ok (.iconst 0, 1) := by decide +kernel
theorem lat_737 : decode code 737 = .ok (.ireturn, 1) := by decide +kernel
theorem lat_738 : decode code 738 = .ok (.aload_n 1, 1) := by decide +kernel
theorem lat_739 : decode code 739 = .ok (.aload_n 0, 1) := by decide +kernel
theorem lat_740 : decode code 740 = .ok (.iload_n 3, 1) := by decide +kernel
theorem lat_741 : decode code 741 = .ok (.iconst 1, 1) := by decide +kernel
theorem lat_742 : decode code 742 = .ok (.iadd, 1) := by decide +kernel
theorem lat_743 : decode code 743 = .ok (.iaload, 1) := by decide +kernel
theorem lat_744 : decode code 744 = .ok (.aload_n 0, 1) := by decide +kernel
theorem lat_745 : decode code 745 = .ok (.iload_n 3, 1) := by decide +kernel
theorem lat_746 : decode code 746 = .ok (.iconst 2, 1) := by decide +kernel
theorem lat_747 : decode code 747 = .ok (.iadd, 1) := by decide +kernel
theorem lat_748 : decode code 748 = .ok (.iaload, 1) := by decide +kernel
theorem lat_749 : decode code 749 = .ok (.invokevirtual 89, 3) := by decide +kernel
theorem lat_752 : decode code 752 = .ok (.aload_n 2, 1) := by decide +kernel
theorem lat_753 : decode code 753 = .ok (.aload_n 0, 1) := by decide +kernel
theorem lat_754 : decode code 754 = .ok (.iload_n 3, 1) := by decide +kernel
theorem lat_755 : decode code 755 = .ok (.iconst 1, 1) := by decide +kernel
theorem lat_756 : decode code 756 = .ok (.iadd, 1) := by decide +kernel
theorem lat_757 : decode code 757 = .ok (.iaload, 1) := by decide +kernel
theorem lat_758 : decode code 758 = .ok (.aload_n 0, 1) := by decide +kernel
theorem lat_759 : decode code 759 = .ok (.iload_n 3, 1) := by decide +kernel
theorem lat_760 : decode code 760 = .ok (.iconst 2, 1) := by decide +kernel
theorem lat_761 : decode code 761 = .ok (.iadd, 1) := by decide +kernel
theorem lat_762 : decode code 762 = .ok (.iaload, 1) := by decide +kernel
theorem lat_763 : decode code 763 = .ok (.invokevirtual 92, 3) := by decide +kernel
theorem lat_766 : decode code 766 = .ok (.if_icmp .eq 496, 3) := by decide +kernel
theorem lat_769 : decode code 769 = .ok (.iconst 0, 1) := by decide +kernel
theorem lat_770 : decode code 770 = .ok (.ireturn, 1) := by decide +kernel
theorem lat_771 : decode code 771 = .ok (.aload_n 1, 1) := by decide +kernel
theorem lat_772 : decode code 772 = .ok (.aload_n 0, 1) := by decide +kernel
theorem lat_773 : decode code 773 = .ok (.iload_n 3, 1) := by decide +kernel
theorem lat_774 : decode code 774 = .ok (.iconst 1, 1) := by decide +kernel
theorem lat_775 : decode code 775 = .ok (.iadd, 1) := by decide +kernel
theorem lat_776 : decode code 776 = .ok (.iaload, 1) := by decide +kernel
theorem lat_777 : decode code 777 = .ok (.aload_n 0, 1) := by decide +kernel
theorem lat_778 : decode code 778 = .ok (.iload_n 3, 1) := by decide +kernel
theorem lat_779 : decode code 779 = .ok (.iconst 2, 1) := by decide +kernel
theorem lat_780 : decode code 780 = .ok (.iadd, 1) := by decide +kernel
theorem lat_781 : decode code 781 = .ok (.iaload, 1) := by decide +kernel
theorem lat_782 : decode code 782 = .ok (.aload_n 0, 1) := by decide +kernel
theorem lat_783 : decode code 783 = .ok (.iload_n 3, 1) := by decide +kernel
theorem lat_784 : decode code 784 = .ok (.iconst 3, 1) := by decide +kernel
theorem lat_785 : decode code 785 = .ok (.iadd, 1) := by decide +kernel
theorem lat_786 : decode code 786 = .ok (.iaload, 1) := by decide +kernel
theorem lat_787 : decode code 787 = .ok (.invokevirtual 93, 3) := by decide +kernel
theorem lat_790 : decode code 790 = .ok (.aload_n 2, 1) := by decide +kernel
theorem lat_791 : decode code 791 = .ok (.aload_n 0, 1) := by decide +kernel
theorem lat_792 : decode code 792 = .ok (.iload_n 3, 1) := by decide +kernel
theorem lat_793 : decode code 793 = .ok (.iconst 1, 1) := by decide +kernel
theorem lat_794 : decode code 794 = .ok (.iadd, 1) := by decide +kernel
theorem lat_795 : decode code 795 = .ok (.iaload, 1) := by decide +kernel
theorem lat_796 : decode code 796 = .ok (.aload_n 0, 1) := by decide +kernel
theorem lat_797 : decode code 797 = .ok (.iload_n 3, 1) := by decide +kernel
theorem lat_798 : decode code 798 = .ok (.iconst 2, 1) := by decide +kernel
theorem lat_799 : decode code 799 = .ok (.iadd, 1) := by decide +kernel
theorem lat_800 : decode code 800 = .ok (.iaload, 1) := by decide +kernel
theorem lat_801 : decode code 801 = .ok (.aload_n 0, 1) := by decide +kernel
theorem lat_802 : decode code 802 = .ok (.iload_n 3, 1) := by decide +kernel
theorem lat_803 : decode code 803 = .ok (.iconst 3, 1) := by decide +kernel
theorem lat_804 : decode code 804 = .ok (.iadd, 1) := by decide +kernel
theorem lat_805 : decode code 805 = .ok (.iaload, 1) := by decide +kernel
theorem lat_806 : decode code 806 = .ok (.invokevirtual 96, 3) := by decide +kernel
theorem lat_809 : decode code 809 = .ok (.if_icmp .eq 453, 3) := by decide +kernel
theorem lat_812 : decode code 812 = .ok (.iconst 0, 1) := by decide +kernel
theorem lat_813 : decode code 813 = .ok (.ireturn, 1) := by decide +kernel
theorem lat_814 : decode code 814 = .ok (.aload_n 1, 1) := by decide +kernel
theorem lat_815 : decode code 815 = .ok (.aload_n 0, 1) := by decide +kernel
theorem lat_816 : decode code 816 = .ok (.iload_n 3, 1) := by decide +kernel
theorem lat_817 : decode code 817 = .ok (.iconst 1, 1) := by decide +kernel
theorem lat_818 : decode code 818 = .ok (.iadd, 1) := by decide +kernel
theorem lat_819 : decode code 819 = .ok (.iaload, 1) := by decide +kernel
theorem lat_820 : decode code 820 = .ok (.aload_n 0, 1) := by decide +kernel
theorem lat_821 : decode code 821 = .ok (.iload_n 3, 1) := by decide +kernel
theorem lat_822 : decode code 822 = .ok (.iconst 2, 1) := by decide +kernel
theorem lat_823 : decode code 823 = .ok (.iadd, 1) := by decide +kernel
theorem lat_824 : decode code 824 = .ok (.iaload, 1) := by decide +kernel
theorem lat_825 : decode code 825 = .ok (.invokevirtual 97, 3) := by decide +kernel
theorem lat_828 : decode code 828 = .ok (.aload_n 2, 1) := by decide +kernel
theorem lat_829 : decode code 829 = .ok (.aload_n 0, 1) := by decide +kernel
theorem lat_830 : decode code 830 = .ok (.iload_n 3, 1) := by decide +kernel
theorem lat_831 : decode code 831 = .ok (.iconst 1, 1) := by decide +kernel
theorem lat_832 : decode code 832 = .ok (.iadd, 1) := by decide +kernel
theorem lat_833 : decode code 833 = .ok (.iaload, 1) := by decide +kernel
theorem lat_834 : decode code 834 = .ok (.aload_n 0, 1) := by decide +kernel
theorem lat_835 : decode code 835 = .ok (.iload_n 3, 1) := by decide +kernel
theorem lat_836 : decode code 836 = .ok (.iconst 2, 1) := by decide +kernel
theorem lat_837 : decode code 837 = .ok (.iadd, 1) := by decide +kernel
theorem lat_838 : decode code 838 = .ok (.iaload, 1) := by decide +kernel
theorem lat_839 : decode code 839 = .ok (.invokevirtual 100, 3) := by decide +kernel
theorem lat_842 : decode code 842 = .ok (.if_icmp .eq 420, 3) := by decide +kernel
theorem lat_845 : decode code 845 = .ok (.iconst 0, 1) := by decide +kernel
theorem lat_846 : decode code 846 = .ok (.ireturn, 1) := by decide +kernel
theorem lat_847 : decode code 847 = .ok (.aload_n 1, 1) := by decide +kernel
theorem lat_848 : decode code 848 = .ok (.aload_n 0, 1) := by decide +kernel
theorem lat_849 : decode code 849 = .ok (.iload_n 3, 1) := by decide +kernel
theorem lat_850 : decode code 850 = .ok (.iconst 1, 1) := by decide +kernel
theorem lat_851 : decode code 851 = .ok (.iadd, 1) := by decide +kernel
theorem lat_852 : decode code 852 = .ok (.iaload, 1) := by decide +kernel
theorem lat_853 : decode code 853 = .ok (.aload_n 0, 1) := by decide +kernel
theorem lat_854 : decode code 854 = .ok (.iload_n 3, 1) := by decide +kernel
theorem lat_855 : decode code 855 = .ok (.iconst 2, 1) := by decide +kernel
theorem lat_856 : decode code 856 = .ok (.iadd, 1) := by decide +kernel
theorem lat_857 : decode code 857 = .ok (.iaload, 1) := by decide +kernel
theorem lat_858 : decode code 858 = .ok (.invokevirtual 101, 3) := by decide +kernel
theorem lat_861 : decode code 861 = .ok (.aload_n 2, 1) := by decide +kernel
theorem lat_862 : decode code 862 = .ok (.aload_n 0, 1) := by decide +kernel
theorem lat_863 : decode code 863 = .ok (.iload_n 3, 1) := by decide +kernel
theorem lat_864 : decode code 864 = .ok (.iconst 1, 1) := by decide +kernel
theorem lat_865 : decode code 865 = .ok (.iadd, 1) := by decide +kernel
theorem lat_866 : decode code 866 = .ok (.iaload, 1) := by decide +kernel
theorem lat_867 : decode code 867 = .ok (.aload_n 0, 1) := by decide +kernel
theorem lat_868 : decode code 868 = .ok (.iload_n 3, 1) := by decide +kernel
theorem lat_869 : decode code 869 = .ok (.iconst 2, 1) := by decide +kernel
theorem lat_870 : decode code 870 = .ok (.iadd, 1) := by decide +kernel
theorem lat_871 : decode code 871 = .ok (.iaload, 1) := by decide +kernel
theorem lat_872 : decode code 872 = .ok (.invokevirtual 104, 3) := by decide +kernel
theorem lat_875 : decode code 875 = .ok (.if_icmp .eq 387, 3) := by decide +kernel
theorem lat_878 : decode code 878 = .ok (.iconst 0, 1) := by decide +kernel
theorem lat_879 : decode code 879 = .ok (.ireturn, 1) := by decide +kernel
theorem lat_880 : decode code 880 = .ok (.aload_n 1, 1) := by decide +kernel
theorem lat_881 : decode code 881 = .ok (.aload_n 0, 1) := by decide +kernel
theorem lat_882 : decode code 882 = .ok (.iload_n 3, 1) := by decide +kernel
theorem lat_883 : decode code 883 = .ok (.iconst 1, 1) := by decide +kernel
theorem lat_884 : decode code 884 = .ok (.iadd, 1) := by decide +kernel
theorem lat_885 : decode code 885 = .ok (.iaload, 1) := by decide +kernel
theorem lat_886 : decode code 886 = .ok (.aload_n 0, 1) := by decide +kernel
theorem lat_887 : decode code 887 = .ok (.iload_n 3, 1) := by decide +kernel
theorem lat_888 : decode code 888 = .ok (.iconst 2, 1) := by decide +kernel
theorem lat_889 : decode code 889 = .ok (.iadd, 1) := by decide +kernel
theorem lat_890 : decode code 890 = .ok (.iaload, 1) := by decide +kernel
theorem lat_891 : decode code 891 = .ok (.invokevirtual 105, 3) := by decide +kernel
theorem lat_894 : decode code 894 = .ok (.aload_n 2, 1) := by decide +kernel
theorem lat_895 : decode code 895 = .ok (.aload_n 0, 1) := by decide +kernel
theorem lat_896 : decode code 896 = .ok (.iload_n 3, 1) := by decide +kernel
theorem lat_897 : decode code 897 = .ok (.iconst 1, 1) := by decide +kernel
theorem lat_898 : decode code 898 = .ok (.iadd, 1) := by decide +kernel
theorem lat_899 : decode code 899 = .ok (.iaload, 1) := by decide +kernel
theorem lat_900 : decode code 900 = .ok (.aload_n 0, 1) := by decide +kernel
theorem lat_901 : decode code 901 = .ok (.iload_n 3, 1) := by decide +kernel
theorem lat_902 : decode code 902 = .ok (.iconst 2, 1) := by decide +kernel
theorem lat_903 : decode code 903 = .ok (.iadd, 1) := by decide +kernel
theorem lat_904 : decode code 904 = .ok (.iaload, 1) := by decide +kernel
theorem lat_905 : decode code 905 = .ok (.invokevirtual 108, 3) := by decide +kernel
theorem lat_908 : decode code 908 = .ok (.if_icmp .eq 354, 3) := by decide +kernel
theorem lat_911 : decode code 911 = .ok (.iconst 0, 1) := by decide +kernel
theorem lat_912 : decode code 912 = .ok (.ireturn, 1) := by decide +kernel
theorem lat_913 : decode code 913 = .ok (.aload_n 1, 1) := by decide +kernel
theorem lat_914 : decode code 914 = .ok (.aload_n 0, 1) := by decide +kernel
theorem lat_915 : decode code 915 = .ok (.iload_n 3, 1) := by decide +kernel
theorem lat_916 : decode code 916 = .ok (.iconst 1, 1) := by decide +kernel
theorem lat_917 : decode code 917 = .ok (.iadd, 1) := by decide +kernel
theorem lat_918 : decode code 918 = .ok (.iaload, 1) := by decide +kernel
theorem lat_919 : decode code 919 = .ok (.aload_n 0, 1) := by decide +kernel
theorem lat_920 : decode code 920 = .ok (.iload_n 3, 1) := by decide +kernel
theorem lat_921 : decode code 921 = .ok (.iconst 2, 1) := by decide +kernel
theorem lat_922 : decode code 922 = .ok (.iadd, 1) := by decide +kernel
theorem lat_923 : decode code 923 = .ok (.iaload, 1) := by decide +kernel
theorem lat_924 : decode code 924 = .ok (.aload_n 0, 1) := by decide +kernel
theorem lat_925 : decode code 925 = .ok (.iload_n 3, 1) := by decide +kernel
theorem lat_926 : decode code 926 = .ok (.iconst 3, 1) := by decide +kernel
theorem lat_927 : decode code 927 = .ok (.iadd, 1) := by decide +kernel
theorem lat_928 : decode code 928 = .ok (.iaload, 1) := by decide +kernel
theorem lat_929 : decode code 929 = .ok (.invokevirtual 109, 3) := by decide +kernel
theorem lat_932 : decode code 932 = .ok (.aload_n 2, 1) := by decide +kernel
theorem lat_933 : decode code 933 = .ok (.aload_n 0, 1) := by decide +kernel
theorem lat_934 : decode code 934 = .ok (.iload_n 3, 1) := by decide +kernel
theorem lat_935 : decode code 935 = .ok (.iconst 1, 1) := by decide +kernel
theorem lat_936 : decode code 936 = .ok (.iadd, 1) := by decide +kernel
theorem lat_937 : decode code 937 = .ok (.iaload, 1) := by decide +kernel
theorem lat_938 : decode code 938 = .ok (.aload_n 0, 1) := by decide +kernel
theorem lat_939 : decode code 939 = .ok (.iload_n 3, 1) := by decide +kernel
theorem lat_940 : decode code 940 = .ok (.iconst 2, 1) := by decide +kernel
theorem lat_941 : decode code 941 = .ok (.iadd, 1) := by decide +kernel
theorem lat_942 : decode code 942 = .ok (.iaload, 1) := by decide +kernel
theorem lat_943 : decode code 943 = .ok (.aload_n 0, 1) := by decide +kernel
theorem lat_944 : decode code 944 = .ok (.iload_n 3, 1) := by decide +kernel
theorem lat_945 : decode code 945 = .ok (.iconst 3, 1) := by decide +kernel
theorem lat_946 : decode code 946 = .ok (.iadd, 1) := by decide +kernel
theorem lat_947 : decode code 947 = .ok (.iaload, 1) := by decide +kernel
theorem lat_948 : decode code 948 = .ok (.invokevirtual 112, 3) := by decide +kernel
theorem lat_951 : decode code 951 = .ok (.if_icmp .eq 311, 3) := by decide +kernel
theorem lat_954 : decode code 954 = .ok (.iconst 0, 1) := by decide +kernel
theorem lat_955 : decode code 955 = .ok (.ireturn, 1) := by decide +kernel
theorem lat_956 : decode code 956 = .ok (.aload_n 1, 1) := by decide +kernel
theorem lat_957 : decode code 957 = .ok (.aload_n 0, 1) := by decide +kernel
theorem lat_958 : decode code 958 = .ok (.iload_n 3, 1) := by decide +kernel
theorem lat_959 : decode code 959 = .ok (.iconst 1, 1) := by decide +kernel
theorem lat_960 : decode code 960 = .ok (.iadd, 1) := by decide +kernel
theorem lat_961 : decode code 961 = .ok (.iaload, 1) := by decide +kernel
theorem lat_962 : decode code 962 = .ok (.invokevirtual 113, 3) := by decide +kernel
theorem lat_965 : decode code 965 = .ok (.aload_n 2, 1) := by decide +kernel
theorem lat_966 : decode code 966 = .ok (.aload_n 0, 1) := by decide +kernel
theorem lat_967 : decode code 967 = .ok (.iload_n 3, 1) := by decide +kernel
theorem lat_968 : decode code 968 = .ok (.iconst 1, 1) := by decide +kernel
theorem lat_969 : decode code 969 = .ok (.iadd, 1) := by decide +kernel
theorem lat_970 : decode code 970 = .ok (.iaload, 1) := by decide +kernel
theorem lat_971 : decode code 971 = .ok (.invokevirtual 116, 3) := by decide +kernel
theorem lat_974 : decode code 974 = .ok (.if_icmp .eq 288, 3) := by decide +kernel
theorem lat_977 : decode code 977 = .ok (.iconst 0, 1) := by decide +kernel
theorem lat_978 : decode code 978 = .ok (.ireturn, 1) := by decide +kernel
theorem lat_979 : decode code 979 = .ok (.aload_n 1, 1) := by decide +kernel
theorem lat_980 : decode code 980 = .ok (.aload_n 0, 1) := by decide +kernel
theorem lat_981 : decode code 981 = .ok (.iload_n 3, 1) := by decide +kernel
theorem lat_982 : decode code 982 = .ok (.iconst 1, 1) := by decide +kernel
theorem lat_983 : decode code 983 = .ok (.iadd, 1) := by decide +kernel
theorem lat_984 : decode code 984 = .ok (.iaload, 1) := by decide +kernel
theorem lat_985 : decode code 985 = .ok (.aload_n 0, 1) := by decide +kernel
theorem lat_986 : decode code 986 = .ok (.iload_n 3, 1) := by decide +kernel
theorem lat_987 : decode code 987 = .ok (.iconst 2, 1) := by decide +kernel
theorem lat_988 : decode code 988 = .ok (.iadd, 1) := by decide +kernel
theorem lat_989 : decode code 989 = .ok (.iaload, 1) := by decide +kernel
theorem lat_990 : decode code 990 = .ok (.invokevirtual 117, 3) := by decide +kernel
theorem lat_993 : decode code 993 = .ok (.aload_n 2, 1) := by decide +kernel
theorem lat_994 : decode code 994 = .ok (.aload_n 0, 1) := by decide +kernel
theorem lat_995 : decode code 995 = .ok (.iload_n 3, 1) := by decide +kernel
theorem lat_996 : decode code 996 = .ok (.iconst 1, 1) := by decide +kernel
theorem lat_997 : decode code 997 = .ok (.iadd, 1) := by decide +kernel
theorem lat_998 : decode code 998 = .ok (.iaload, 1) := by decide +kernel
theorem lat_999 : decode code 999 = .ok (.aload_n 0, 1) := by decide +kernel
theorem lat_1000 : decode code 1000 = .ok (.iload_n 3, 1) := by decide +kernel
theorem lat_1001 : decode code 1001 = .ok (.iconst 2, 1) := by decide +kernel
theorem lat_1002 : decode code 1002 = .ok (.iadd, 1) := by decide +kernel
theorem lat_1003 : decode code 1003 = .ok (.iaload, 1) := by decide +kernel
theorem lat_1004 : decode code 1004 = .ok (.invokevirtual 119, 3) := by decide +kernel
theorem lat_1007 : decode code 1007 = .ok (.if_icmp .eq 255, 3) := by decide +kernel
theorem lat_1010 : decode code 1010 = .ok (.iconst 0, 1) := by decide +kernel
theorem lat_1011 : decode code 1011 = .ok (.ireturn, 1) := by decide +kernel
theorem lat_1012 : decode code 1012 = .ok (.aload_n 1, 1) := by decide +kernel
theorem lat_1013 : decode code 1013 = .ok (.aload_n 0, 1) := by decide +kernel
theorem lat_1014 : decode code 1014 = .ok (.iload_n 3, 1) := by decide +kernel
theorem lat_1015 : decode code 1015 = .ok (.iconst 1, 1) := by decide +kernel
theorem lat_1016 : decode code 1016 = .ok (.iadd, 1) := by decide +kernel
theorem lat_1017 : decode code 1017 = .ok (.iaload, 1) := by decide +kernel
theorem lat_1018 : decode code 1018 = .ok (.invokevirtual 120, 3) := by decide +kernel
theorem lat_1021 : decode code 1021 = .ok (.aload_n 2, 1) := by decide +kernel
theorem lat_1022 : decode code 1022 = .ok (.aload_n 0, 1) := by decide +kernel
theorem lat_1023 : decode code 1023 = .ok (.iload_n 3, 1) := by decide +kernel
theorem lat_1024 : decode code 1024 = .ok (.iconst 1, 1) := by decide +kernel
theorem lat_1025 : decode code 1025 = .ok (.iadd, 1) := by decide +kernel
theorem lat_1026 : decode code 1026 = .ok (.iaload, 1) := by decide +kernel
theorem lat_1027 : decode code 1027 = .ok (.invokevirtual 123, 3) := by decide +kernel
theorem lat_1030 : decode code 1030 = .ok (.if_icmp .eq 232, 3) := by decide +kernel
theorem lat_1033 : decode code 1033 = .ok (.iconst 0, 1) := by decide +kernel
theorem lat_1034 : decode code 1034 = .ok (.ireturn, 1) := by decide +kernel
theorem lat_1035 : decode code 1035 = .ok (.aload_n 1, 1) := by decide +kernel
theorem lat_1036 : decode code 1036 = .ok (.aload_n 0, 1) := by decide +kernel
theorem lat_1037 : decode code 1037 = .ok (.iload_n 3, 1) := by decide +kernel
theorem lat_1038 : decode code 1038 = .ok (.iconst 1, 1) := by decide +kernel
theorem lat_1039 : decode code 1039 = .ok (.iadd, 1) := by decide +kernel
theorem lat_1040 : decode code 1040 = .ok (.iaload, 1) := by decide +kernel
theorem lat_1041 : decode code 1041 = .ok (.invokevirtual 124, 3) := by decide +kernel
theorem lat_1044 : decode code 1044 = .ok (.aload_n 2, 1) := by decide +kernel
theorem lat_1045 : decode code 1045 = .ok (.aload_n 0, 1) := by decide +kernel
theorem lat_1046 : decode code 1046 = .ok (.iload_n 3, 1) := by decide +kernel
theorem lat_1047 : decode code 1047 = .ok (.iconst 1, 1) := by decide +kernel
theorem lat_1048 : decode code 1048 = .ok (.iadd, 1) := by decide +kernel
theorem lat_1049 : decode code 1049 = .ok (.iaload, 1) := by decide +kernel
theorem lat_1050 : decode code 1050 = .ok (.invokevirtual 127, 3) := by decide +kernel
theorem lat_1053 : decode code 1053 = .ok (.if_icmp .eq 209, 3) := by decide +kernel
theorem lat_1056 : decode code 1056 = .ok (.iconst 0, 1) := by decide +kernel
theorem lat_1057 : decode code 1057 = .ok (.ireturn, 1) := by decide +kernel
theorem lat_1058 : decode code 1058 = .ok (.aload_n 1, 1) := by decide +kernel
theorem lat_1059 : decode code 1059 = .ok (.invokevirtual 128, 3) := by decide +kernel
theorem lat_1062 : decode code 1062 = .ok (.aload_n 2, 1) := by decide +kernel
theorem lat_1063 : decode code 1063 = .ok (.invokevirtual 132, 3) := by decide +kernel
theorem lat_1066 : decode code 1066 = .ok (.if_icmp .eq 196, 3) := by decide +kernel
theorem lat_1069 : decode code 1069 = .ok (.iconst 0, 1) := by decide +kernel
theorem lat_1070 : decode code 1070 = .ok (.ireturn, 1) := by decide +kernel
theorem lat_1071 : decode code 1071 = .ok (.aload_n 1, 1) := by decide +kernel
theorem lat_1072 : decode code 1072 = .ok (.aload_n 0, 1) := by decide +kernel
theorem lat_1073 : decode code 1073 = .ok (.iload_n 3, 1) := by decide +kernel
theorem lat_1074 : decode code 1074 = .ok (.iconst 1, 1) := by decide +kernel
theorem lat_1075 : decode code 1075 = .ok (.iadd, 1) := by decide +kernel
theorem lat_1076 : decode code 1076 = .ok (.iaload, 1) := by decide +kernel
theorem lat_1077 : decode code 1077 = .ok (.invokevirtual 133, 3) := by decide +kernel
theorem lat_1080 : decode code 1080 = .ok (.aload_n 2, 1) := by decide +kernel
theorem lat_1081 : decode code 1081 = .ok (.aload_n 0, 1) := by decide +kernel
theorem lat_1082 : decode code 1082 = .ok (.iload_n 3, 1) := by decide +kernel
theorem lat_1083 : decode code 1083 = .ok (.iconst 1, 1) := by decide +kernel
theorem lat_1084 : decode code 1084 = .ok (.iadd, 1) := by decide +kernel
theorem lat_1085 : decode code 1085 = .ok (.iaload, 1) := by decide +kernel
theorem lat_1086 : decode code 1086 = .ok (.invokevirtual 136, 3) := by decide +kernel
theorem lat_1089 : decode code 1089 = .ok (.if_icmp .eq 173, 3) := by decide +kernel
theorem lat_1092 : decode code 1092 = .ok (.iconst 0, 1) := by decide +kernel
theorem lat_1093 : decode code 1093 = .ok (.ireturn, 1) := by decide +kernel
theorem lat_1094 : decode code 1094 = .ok (.aload_n 1, 1) := by decide +kernel
theorem lat_1095 : decode code 1095 = .ok (.invokevirtual 137, 3) := by decide +kernel
theorem lat_1098 : decode code 1098 = .ok (.aload_n 2, 1) := by decide +kernel
theorem lat_1099 : decode code 1099 = .ok (.invokevirtual 140, 3) := by decide +kernel
theorem lat_1102 : decode code 1102 = .ok (.if_icmp .eq 160, 3) := by decide +kernel
theorem lat_1105 : decode code 1105 = .ok (.iconst 0, 1) := by decide +kernel
theorem lat_1106 : decode code 1106 = .ok (.ireturn, 1) := by decide +kernel
theorem lat_1107 : decode code 1107 = .ok (.aload_n 1, 1) := by decide +kernel
theorem lat_1108 : decode code 1108 = .ok (.aload_n 0, 1) := by decide +kernel
theorem lat_1109 : decode code 1109 = .ok (.iload_n 3, 1) := by decide +kernel
theorem lat_1110 : decode code 1110 = .ok (.iconst 1, 1) := by decide +kernel
theorem lat_1111 : decode code 1111 = .ok (.iadd, 1) := by decide +kernel
theorem lat_1112 : decode code 1112 = .ok (.iaload, 1) := by decide +kernel
theorem lat_1113 : decode code 1113 = .ok (.invokevirtual 141, 3) := by decide +kernel
theorem lat_1116 : decode code 1116 = .ok (.aload_n 2, 1) := by decide +kernel
theorem lat_1117 : decode code 1117 = .ok (.aload_n 0, 1) := by decide +kernel
theorem lat_1118 : decode code 1118 = .ok (.iload_n 3, 1) := by decide +kernel
theorem lat_1119 : decode code 1119 = .ok (.iconst 1, 1) := by decide +kernel
theorem lat_1120 : decode code 1120 = .ok (.iadd, 1) := by decide +kernel
theorem lat_1121 : decode code 1121 = .ok (.iaload, 1) := by decide +kernel
theorem lat_1122 : decode code 1122 = .ok (.invokevirtual 144, 3) := by decide +kernel
theorem lat_1125 : decode code 1125 = .ok (.if_icmp .eq 137, 3) := by decide +kernel
theorem lat_1128 : decode code 1128 = .ok (.iconst 0, 1) := by decide +kernel
theorem lat_1129 : decode code 1129 = .ok (.ireturn, 1) := by decide +kernel
theorem lat_1130 : decode code 1130 = .ok (.aload_n 1, 1) := by decide +kernel
theorem lat_1131 : decode code 1131 = .ok (.invokevirtual 145, 3) := by decide +kernel
theorem lat_1134 : decode code 1134 = .ok (.aload_n 2, 1) := by decide +kernel
theorem lat_1135 : decode code 1135 = .ok (.invokevirtual 148, 3) := by decide +kernel
theorem lat_1138 : decode code 1138 = .ok (.if_icmp .eq 124, 3) := by decide +kernel
theorem lat_1141 : decode code 1141 = .ok (.iconst 0, 1) := by decide +kernel
theorem lat_1142 : decode code 1142 = .ok (.ireturn, 1) := by decide +kernel
theorem lat_1143 : decode code 1143 = .ok (.aload_n 1, 1) := by decide +kernel
theorem lat_1144 : decode code 1144 = .ok (.invokevirtual 149, 3) := by decide +kernel
theorem lat_1147 : decode code 1147 = .ok (.aload_n 2, 1) := by decide +kernel
theorem lat_1148 : decode code 1148 = .ok (.invokevirtual 152, 3) := by decide +kernel
theorem lat_1151 : decode code 1151 = .ok (.if_icmp .eq 111, 3) := by decide +kernel
theorem lat_1154 : decode code 1154 = .ok (.iconst 0, 1) := by decide +kernel
theorem lat_1155 : decode code 1155 = .ok (.ireturn, 1) := by decide +kernel
theorem lat_1156 : decode code 1156 = .ok (.aload_n 1, 1) := by decide +kernel
theorem lat_1157 : decode code 1157 = .ok (.aload_n 0, 1) := by decide +kernel
theorem lat_1158 : decode code 1158 = .ok (.iload_n 3, 1) := by decide +kernel
theorem lat_1159 : decode code 1159 = .ok (.iconst 1, 1) := by decide +kernel
theorem lat_1160 : decode code 1160 = .ok (.iadd, 1) := by decide +kernel
theorem lat_1161 : decode code 1161 = .ok (.iaload, 1) := by decide +kernel
theorem lat_1162 : decode code 1162 = .ok (.invokevirtual 153, 3) := by decide +kernel
theorem lat_1165 : decode code 1165 = .ok (.aload_n 2, 1) := by decide +kernel
theorem lat_1166 : decode code 1166 = .ok (.aload_n 0, 1) := by decide +kernel
theorem lat_1167 : decode code 1167 = .ok (.iload_n 3, 1) := by decide +kernel
theorem lat_1168 : decode code 1168 = .ok (.iconst 1, 1) := by decide +kernel
theorem lat_1169 : decode code 1169 = .ok (.iadd, 1) := by decide +kernel
theorem lat_1170 : decode code 1170 = .ok (.iaload, 1) := by decide +kernel
theorem lat_1171 : decode code 1171 = .ok (.invokevirtual 156, 3) := by decide +kernel
theorem lat_1174 : decode code 1174 = .ok (.if_icmp .eq 88, 3) := by decide +kernel
theorem lat_1177 : decode code 1177 = .ok (.iconst 0, 1) := by decide +kernel
theorem lat_1178 : decode code 1178 = .ok (.ireturn, 1) := by decide +kernel
theorem lat_1179 : decode code 1179 = .ok (.aload_n 1, 1) := by decide +kernel
theorem lat_1180 : decode code 1180 = .ok (.aload_n 0, 1) := by decide +kernel
theorem lat_1181 : decode code 1181 = .ok (.iload_n 3, 1) := by decide +kernel
theorem lat_1182 : decode code 1182 = .ok (.iconst 1, 1) := by decide +kernel
theorem lat_1183 : decode code 1183 = .ok (.iadd, 1) := by decide +kernel
theorem lat_1184 : decode code 1184 = .ok (.iaload, 1) := by decide +kernel
theorem lat_1185 : decode code 1185 = .ok (.invokevirtual 157, 3) := by decide +kernel
theorem lat_1188 : decode code 1188 = .ok (.aload_n 2, 1) := by decide +kernel
theorem lat_1189 : decode code 1189 = .ok (.aload_n 0, 1) := by decide +kernel
theorem lat_1190 : decode code 1190 = .ok (.iload_n 3, 1) := by decide +kernel
theorem lat_1191 : decode code 1191 = .ok (.iconst 1, 1) := by decide +kernel
theorem lat_1192 : decode code 1192 = .ok (.iadd, 1) := by decide +kernel
theorem lat_1193 : decode code 1193 = .ok (.iaload, 1) := by decide +kernel
theorem lat_1194 : decode code 1194 = .ok (.invokevirtual 160, 3) := by decide +kernel
theorem lat_1197 : decode code 1197 = .ok (.if_icmp .eq 65, 3) := by decide +kernel
theorem lat_1200 : decode code 1200 = .ok (.iconst 0, 1) := by decide +kernel
theorem lat_1201 : decode code 1201 = .ok (.ireturn, 1) := by decide +kernel
theorem lat_1202 : decode code 1202 = .ok (.aload_n 1, 1) := by decide +kernel
theorem lat_1203 : decode code 1203 = .ok (.aload_n 0, 1) := by decide +kernel
theorem lat_1204 : decode code 1204 = .ok (.iload_n 3, 1) := by decide +kernel
theorem lat_1205 : decode code 1205 = .ok (.iconst 1, 1) := by decide +kernel
theorem lat_1206 : decode code 1206 = .ok (.iadd, 1) := by decide +kernel
theorem lat_1207 : decode code 1207 = .ok (.iaload, 1) := by decide +kernel
theorem lat_1208 : decode code 1208 = .ok (.invokevirtual 161, 3) := by decide +kernel
theorem lat_1211 : decode code 1211 = .ok (.aload_n 2, 1) := by decide +kernel
theorem lat_1212 : decode code 1212 = .ok (.aload_n 0, 1) := by decide +kernel
theorem lat_1213 : decode code 1213 = .ok (.iload_n 3, 1) := by decide +kernel
theorem lat_1214 : decode code 1214 = .ok (.iconst 1, 1) := by decide +kernel
theorem lat_1215 : decode code 1215 = .ok (.iadd, 1) := by decide +kernel
theorem lat_1216 : decode code 1216 = .ok (.iaload, 1) := by decide +kernel
theorem lat_1217 : decode code 1217 = .ok (.invokevirtual 164, 3) := by decide +kernel
theorem lat_1220 : decode code 1220 = .ok (.if_icmp .eq 42, 3) := by decide +kernel
theorem lat_1223 : decode code 1223 = .ok (.iconst 0, 1) := by decide +kernel
theorem lat_1224 : decode code 1224 = .ok (.ireturn, 1) := by decide +kernel
theorem lat_1225 : decode code 1225 = .ok (.aload_n 1, 1) := by decide +kernel
theorem lat_1226 : decode code 1226 = .ok (.aload_n 0, 1) := by decide +kernel
theorem lat_1227 : decode code 1227 = .ok (.iload_n 3, 1) := by decide +kernel
theorem lat_1228 : decode code 1228 = .ok (.iconst 1, 1) := by decide +kernel
theorem lat_1229 : decode code 1229 = .ok (.iadd, 1) := by decide +kernel
theorem lat_1230 : decode code 1230 = .ok (.iaload, 1) := by decide +kernel
theorem lat_1231 : decode code 1231 = .ok (.invokevirtual 165, 3) := by decide +kernel
theorem lat_1234 : decode code 1234 = .ok (.aload_n 2, 1) := by decide +kernel
theorem lat_1235 : decode code 1235 = .ok (.aload_n 0, 1) := by decide +kernel
theorem lat_1236 : decode code 1236 = .ok (.iload_n 3, 1) := by decide +kernel
theorem lat_1237 : decode code 1237 = .ok (.iconst 1, 1) := by decide +kernel
theorem lat_1238 : decode code 1238 = .ok (.iadd, 1) := by decide +kernel
theorem lat_1239 : decode code 1239 = .ok (.iaload, 1) := by decide +kernel
theorem lat_1240 : decode code 1240 = .ok (.invokevirtual 168, 3) := by decide +kernel
theorem lat_1243 : decode code 1243 = .ok (.if_icmp .eq 19, 3) := by decide +kernel
theorem lat_1246 : decode code 1246 = .ok (.iconst 0, 1) := by decide +kernel
theorem lat_1247 : decode code 1247 = .ok (.ireturn, 1) := by decide +kernel
theorem lat_1248 : decode code 1248 = .ok (.aload_n 1, 1) := by decide +kernel
theorem lat_1249 : decode code 1249 = .ok (.invokevirtual 169, 3) := by decide +kernel
theorem lat_1252 : decode code 1252 = .ok (.aload_n 2, 1) := by decide +kernel
theorem lat_1253 : decode code 1253 = .ok (.invokevirtual 173, 3) := by decide +kernel
theorem lat_1256 : decode code 1256 = .ok (.lcmp, 1) := by decide +kernel
theorem lat_1257 : decode code 1257 = .ok (.ifCond .eq 5, 3) := by decide +kernel
theorem lat_1260 : decode code 1260 = .ok (.iconst 0, 1) := by decide +kernel
theorem lat_1261 : decode code 1261 = .ok (.ireturn, 1) := by decide +kernel
theorem lat_1262 : decode code 1262 = .ok (.iinc 3 4, 3) := by decide +kernel
theorem lat_1265 : decode code 1265 = .ok (.goto (-1237), 3) := by decide +kernel
theorem lat_1268 : decode code 1268 = .ok (.iconst 1, 1) := by decide +kernel
theorem lat_1269 : decode code 1269 = .ok (.ireturn, 1) := by decide +kernel
section LN
variable {Z : lC} {G : zG} {L : Nat} {xs : Nat → Int32} {M : zM}
theorem l_nx (ok : l_ok Z G L xs) {i : Nat} (kk : lW Z G 28 (lsL Z G (i + 4)) [] M) : lW Z G 1262 (lsL Z G i) [] M :=
  l_inc ok lat_1262 (j := 0) rfl (show nI i + Int32.ofInt 4 = nI (i + 4) from (nI_add i 4)) (by decide) rfl (l_go ok lat_1265 (t := 28) (by decide) kk)
end LN
