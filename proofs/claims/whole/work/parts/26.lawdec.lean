theorem dl_18 : decode code 18 = .ok (.iload_n 3, 1) := by decide +kernel
theorem dl_19 : decode code 19 = .ok (.aload_n 0, 1) := by decide +kernel
theorem dl_20 : decode code 20 = .ok (.arraylength, 1) := by decide +kernel
theorem dl_21 : decode code 21 = .ok (.bipush 6, 2) := by decide +kernel
theorem dl_23 : decode code 23 = .ok (.isub, 1) := by decide +kernel
theorem dl_24 : decode code 24 = .ok (.if_icmp .gt 1160, 3) := by decide +kernel
theorem dl_27 : decode code 27 = .ok (.aload_n 0, 1) := by decide +kernel
theorem dl_28 : decode code 28 = .ok (.iload_n 3, 1) := by decide +kernel
theorem dl_29 : decode code 29 = .ok (.iaload, 1) := by decide +kernel
theorem dl_30 : decode code 30 = .ok (.bipush 31, 2) := by decide +kernel
theorem dl_32 : decode code 32 = .ok (.iand, 1) := by decide +kernel
theorem dl_33 : decode code 33 = .ok (.tableswitch 1145 0 29 #[135, 188, 211, 224, 237, 260, 283, 316, 359, 392, 425, 448, 491, 504, 527, 540, 583, 616, 639, 692, 735, 778, 811, 844, 887, 930, 973, 1016, 1059, 1122], 135) := by decide +kernel
theorem dl_168 : decode code 168 = .ok (.aload_n 1, 1) := by decide +kernel
theorem dl_169 : decode code 169 = .ok (.aload_n 0, 1) := by decide +kernel
theorem dl_170 : decode code 170 = .ok (.iload_n 3, 1) := by decide +kernel
theorem dl_171 : decode code 171 = .ok (.iconst 1, 1) := by decide +kernel
theorem dl_172 : decode code 172 = .ok (.iadd, 1) := by decide +kernel
theorem dl_173 : decode code 173 = .ok (.iaload, 1) := by decide +kernel
theorem dl_174 : decode code 174 = .ok (.i2l, 1) := by decide +kernel
theorem dl_175 : decode code 175 = .ok (.bipush 32, 2) := by decide +kernel
theorem dl_177 : decode code 177 = .ok (.lshl, 1) := by decide +kernel
theorem dl_178 : decode code 178 = .ok (.aload_n 0, 1) := by decide +kernel
theorem dl_179 : decode code 179 = .ok (.iload_n 3, 1) := by decide +kernel
theorem dl_180 : decode code 180 = .ok (.iconst 2, 1) := by decide +kernel
theorem dl_181 : decode code 181 = .ok (.iadd, 1) := by decide +kernel
theorem dl_182 : decode code 182 = .ok (.iaload, 1) := by decide +kernel
theorem dl_183 : decode code 183 = .ok (.i2l, 1) := by decide +kernel
theorem dl_184 : decode code 184 = .ok (.ldc2_w 13, 3) := by decide +kernel
theorem dl_187 : decode code 187 = .ok (.land, 1) := by decide +kernel
theorem dl_188 : decode code 188 = .ok (.lor, 1) := by decide +kernel
theorem dl_189 : decode code 189 = .ok (.invokevirtual 15, 3) := by decide +kernel
theorem dl_192 : decode code 192 = .ok (.aload_n 2, 1) := by decide +kernel
theorem dl_193 : decode code 193 = .ok (.aload_n 0, 1) := by decide +kernel
theorem dl_194 : decode code 194 = .ok (.iload_n 3, 1) := by decide +kernel
theorem dl_195 : decode code 195 = .ok (.iconst 1, 1) := by decide +kernel
theorem dl_196 : decode code 196 = .ok (.iadd, 1) := by decide +kernel
theorem dl_197 : decode code 197 = .ok (.iaload, 1) := by decide +kernel
theorem dl_198 : decode code 198 = .ok (.i2l, 1) := by decide +kernel
theorem dl_199 : decode code 199 = .ok (.bipush 32, 2) := by decide +kernel
theorem dl_201 : decode code 201 = .ok (.lshl, 1) := by decide +kernel
theorem dl_202 : decode code 202 = .ok (.aload_n 0, 1) := by decide +kernel
theorem dl_203 : decode code 203 = .ok (.iload_n 3, 1) := by decide +kernel
theorem dl_204 : decode code 204 = .ok (.iconst 2, 1) := by decide +kernel
theorem dl_205 : decode code 205 = .ok (.iadd, 1) := by decide +kernel
theorem dl_206 : decode code 206 = .ok (.iaload, 1) := by decide +kernel
theorem dl_207 : decode code 207 = .ok (.i2l, 1) := by decide +kernel
theorem dl_208 : decode code 208 = .ok (.ldc2_w 13, 3) := by decide +kernel
theorem dl_211 : decode code 211 = .ok (.land, 1) := by decide +kernel
theorem dl_212 : decode code 212 = .ok (.lor, 1) := by decide +kernel
theorem dl_213 : decode code 213 = .ok (.invokevirtual 19, 3) := by decide +kernel
theorem dl_216 : decode code 216 = .ok (.if_icmp .eq 962, 3) := by decide +kernel
theorem dl_219 : decode code 219 = .ok (.iconst 0, 1) := by decide +kernel
theorem dl_220 : decode code 220 = .ok (.ireturn, 1) := by decide +kernel
theorem dl_221 : decode code 221 = .ok (.aload_n 1, 1) := by decide +kernel
theorem dl_222 : decode code 222 = .ok (.aload_n 0, 1) := by decide +kernel
theorem dl_223 : decode code 223 = .ok (.iload_n 3, 1) := by decide +kernel
theorem dl_224 : decode code 224 = .ok (.iconst 1, 1) := by decide +kernel
theorem dl_225 : decode code 225 = .ok (.iadd, 1) := by decide +kernel
theorem dl_226 : decode code 226 = .ok (.iaload, 1) := by decide +kernel
theorem dl_227 : decode code 227 = .ok (.invokevirtual 20, 3) := by decide +kernel
theorem dl_230 : decode code 230 = .ok (.aload_n 2, 1) := by decide +kernel
theorem dl_231 : decode code 231 = .ok (.aload_n 0, 1) := by decide +kernel
theorem dl_232 : decode code 232 = .ok (.iload_n 3, 1) := by decide +kernel
theorem dl_233 : decode code 233 = .ok (.iconst 1, 1) := by decide +kernel
theorem dl_234 : decode code 234 = .ok (.iadd, 1) := by decide +kernel
theorem dl_235 : decode code 235 = .ok (.iaload, 1) := by decide +kernel
theorem dl_236 : decode code 236 = .ok (.invokevirtual 24, 3) := by decide +kernel
theorem dl_239 : decode code 239 = .ok (.if_icmp .eq 939, 3) := by decide +kernel
theorem dl_242 : decode code 242 = .ok (.iconst 0, 1) := by decide +kernel
theorem dl_243 : decode code 243 = .ok (.ireturn, 1) := by decide +kernel
theorem dl_244 : decode code 244 = .ok (.aload_n 1, 1) := by decide +kernel
theorem dl_245 : decode code 245 = .ok (.invokevirtual 25, 3) := by decide +kernel
theorem dl_248 : decode code 248 = .ok (.aload_n 2, 1) := by decide +kernel
theorem dl_249 : decode code 249 = .ok (.invokevirtual 29, 3) := by decide +kernel
theorem dl_252 : decode code 252 = .ok (.if_icmp .eq 926, 3) := by decide +kernel
theorem dl_255 : decode code 255 = .ok (.iconst 0, 1) := by decide +kernel
theorem dl_256 : decode code 256 = .ok (.ireturn, 1) := by decide +kernel
theorem dl_257 : decode code 257 = .ok (.aload_n 1, 1) := by decide +kernel
theorem dl_258 : decode code 258 = .ok (.invokevirtual 30, 3) := by decide +kernel
theorem dl_261 : decode code 261 = .ok (.aload_n 2, 1) := by decide +kernel
theorem dl_262 : decode code 262 = .ok (.invokevirtual 33, 3) := by decide +kernel
theorem dl_265 : decode code 265 = .ok (.if_icmp .eq 913, 3) := by decide +kernel
theorem dl_268 : decode code 268 = .ok (.iconst 0, 1) := by decide +kernel
theorem dl_269 : decode code 269 = .ok (.ireturn, 1) := by decide +kernel
theorem dl_270 : decode code 270 = .ok (.aload_n 1, 1) := by decide +kernel
theorem dl_271 : decode code 271 = .ok (.aload_n 0, 1) := by decide +kernel
theorem dl_272 : decode code 272 = .ok (.iload_n 3, 1) := by decide +kernel
theorem dl_273 : decode code 273 = .ok (.iconst 1, 1) := by decide +kernel
theorem dl_274 : decode code 274 = .ok (.iadd, 1) := by decide +kernel
theorem dl_275 : decode code 275 = .ok (.iaload, 1) := by decide +kernel
theorem dl_276 : decode code 276 = .ok (.invokevirtual 34, 3) := by decide +kernel
theorem dl_279 : decode code 279 = .ok (.aload_n 2, 1) := by decide +kernel
theorem dl_280 : decode code 280 = .ok (.aload_n 0, 1) := by decide +kernel
theorem dl_281 : decode code 281 = .ok (.iload_n 3, 1) := by decide +kernel
theorem dl_282 : decode code 282 = .ok (.iconst 1, 1) := by decide +kernel
theorem dl_283 : decode code 283 = .ok (.iadd, 1) := by decide +kernel
theorem dl_284 : decode code 284 = .ok (.iaload, 1) := by decide +kernel
theorem dl_285 : decode code 285 = .ok (.invokevirtual 37, 3) := by decide +kernel
theorem dl_288 : decode code 288 = .ok (.if_icmp .eq 890, 3) := by decide +kernel
theorem dl_291 : decode code 291 = .ok (.iconst 0, 1) := by decide +kernel
theorem dl_292 : decode code 292 = .ok (.ireturn, 1) := by decide +kernel
theorem dl_293 : decode code 293 = .ok (.aload_n 1, 1) := by decide +kernel
theorem dl_294 : decode code 294 = .ok (.aload_n 0, 1) := by decide +kernel
theorem dl_295 : decode code 295 = .ok (.iload_n 3, 1) := by decide +kernel
theorem dl_296 : decode code 296 = .ok (.iconst 1, 1) := by decide +kernel
theorem dl_297 : decode code 297 = .ok (.iadd, 1) := by decide +kernel
theorem dl_298 : decode code 298 = .ok (.iaload, 1) := by decide +kernel
theorem dl_299 : decode code 299 = .ok (.invokevirtual 38, 3) := by decide +kernel
theorem dl_302 : decode code 302 = .ok (.aload_n 2, 1) := by decide +kernel
theorem dl_303 : decode code 303 = .ok (.aload_n 0, 1) := by decide +kernel
theorem dl_304 : decode code 304 = .ok (.iload_n 3, 1) := by decide +kernel
theorem dl_305 : decode code 305 = .ok (.iconst 1, 1) := by decide +kernel
theorem dl_306 : decode code 306 = .ok (.iadd, 1) := by decide +kernel
theorem dl_307 : decode code 307 = .ok (.iaload, 1) := by decide +kernel
theorem dl_308 : decode code 308 = .ok (.invokevirtual 41, 3) := by decide +kernel
theorem dl_311 : decode code 311 = .ok (.if_icmp .eq 867, 3) := by decide +kernel
theorem dl_314 : decode code 314 = .ok (.iconst 0, 1) := by decide +kernel
theorem dl_315 : decode code 315 = .ok (.ireturn, 1) := by decide +kernel
theorem dl_316 : decode code 316 = .ok (.aload_n 1, 1) := by decide +kernel
theorem dl_317 : decode code 317 = .ok (.aload_n 0, 1) := by decide +kernel
theorem dl_318 : decode code 318 = .ok (.iload_n 3, 1) := by decide +kernel
theorem dl_319 : decode code 319 = .ok (.iconst 1, 1) := by decide +kernel
theorem dl_320 : decode code 320 = .ok (.iadd, 1) := by decide +kernel
theorem dl_321 : decode code 321 = .ok (.iaload, 1) := by decide +kernel
theorem dl_322 : decode code 322 = .ok (.aload_n 0, 1) := by decide +kernel
theorem dl_323 : decode code 323 = .ok (.iload_n 3, 1) := by decide +kernel
theorem dl_324 : decode code 324 = .ok (.iconst 2, 1) := by decide +kernel
theorem dl_325 : decode code 325 = .ok (.iadd, 1) := by decide +kernel
theorem dl_326 : decode code 326 = .ok (.iaload, 1) := by decide +kernel
theorem dl_327 : decode code 327 = .ok (.invokevirtual 42, 3) := by decide +kernel
theorem dl_330 : decode code 330 = .ok (.aload_n 2, 1) := by decide +kernel
theorem dl_331 : decode code 331 = .ok (.aload_n 0, 1) := by decide +kernel
theorem dl_332 : decode code 332 = .ok (.iload_n 3, 1) := by decide +kernel
theorem dl_333 : decode code 333 = .ok (.iconst 1, 1) := by decide +kernel
theorem dl_334 : decode code 334 = .ok (.iadd, 1) := by decide +kernel
theorem dl_335 : decode code 335 = .ok (.iaload, 1) := by decide +kernel
theorem dl_336 : decode code 336 = .ok (.aload_n 0, 1) := by decide +kernel
theorem dl_337 : decode code 337 = .ok (.iload_n 3, 1) := by decide +kernel
theorem dl_338 : decode code 338 = .ok (.iconst 2, 1) := by decide +kernel
theorem dl_339 : decode code 339 = .ok (.iadd, 1) := by decide +kernel
theorem dl_340 : decode code 340 = .ok (.iaload, 1) := by decide +kernel
theorem dl_341 : decode code 341 = .ok (.invokevirtual 46, 3) := by decide +kernel
theorem dl_344 : decode code 344 = .ok (.if_icmp .eq 834, 3) := by decide +kernel
theorem dl_347 : decode code 347 = .ok (.iconst 0, 1) := by decide +kernel
theorem dl_348 : decode code 348 = .ok (.ireturn, 1) := by decide +kernel
theorem dl_349 : decode code 349 = .ok (.aload_n 1, 1) := by decide +kernel
theorem dl_350 : decode code 350 = .ok (.aload_n 0, 1) := by decide +kernel
theorem dl_351 : decode code 351 = .ok (.iload_n 3, 1) := by decide +kernel
theorem dl_352 : decode code 352 = .ok (.iconst 1, 1) := by decide +kernel
theorem dl_353 : decode code 353 = .ok (.iadd, 1) := by decide +kernel
theorem dl_354 : decode code 354 = .ok (.iaload, 1) := by decide +kernel
theorem dl_355 : decode code 355 = .ok (.aload_n 0, 1) := by decide +kernel
theorem dl_356 : decode code 356 = .ok (.iload_n 3, 1) := by decide +kernel
theorem dl_357 : decode code 357 = .ok (.iconst 2, 1) := by decide +kernel
theorem dl_358 : decode code 358 = .ok (.iadd, 1) := by decide +kernel
theorem dl_359 : decode code 359 = .ok (.iaload, 1) := by decide +kernel
theorem dl_360 : decode code 360 = .ok (.aload_n 0, 1) := by decide +kernel
theorem dl_361 : decode code 361 = .ok (.iload_n 3, 1) := by decide +kernel
theorem dl_362 : decode code 362 = .ok (.iconst 3, 1) := by decide +kernel
theorem dl_363 : decode code 363 = .ok (.iadd, 1) := by decide +kernel
theorem dl_364 : decode code 364 = .ok (.iaload, 1) := by decide +kernel
theorem dl_365 : decode code 365 = .ok (.invokevirtual 47, 3) := by decide +kernel
theorem dl_368 : decode code 368 = .ok (.aload_n 2, 1) := by decide +kernel
theorem dl_369 : decode code 369 = .ok (.aload_n 0, 1) := by decide +kernel
theorem dl_370 : decode code 370 = .ok (.iload_n 3, 1) := by decide +kernel
theorem dl_371 : decode code 371 = .ok (.iconst 1, 1) := by decide +kernel
theorem dl_372 : decode code 372 = .ok (.iadd, 1) := by decide +kernel
theorem dl_373 : decode code 373 = .ok (.iaload, 1) := by decide +kernel
theorem dl_374 : decode code 374 = .ok (.aload_n 0, 1) := by decide +kernel
theorem dl_375 : decode code 375 = .ok (.iload_n 3, 1) := by decide +kernel
theorem dl_376 : decode code 376 = .ok (.iconst 2, 1) := by decide +kernel
theorem dl_377 : decode code 377 = .ok (.iadd, 1) := by decide +kernel
theorem dl_378 : decode code 378 = .ok (.iaload, 1) := by decide +kernel
theorem dl_379 : decode code 379 = .ok (.aload_n 0, 1) := by decide +kernel
theorem dl_380 : decode code 380 = .ok (.iload_n 3, 1) := by decide +kernel
theorem dl_381 : decode code 381 = .ok (.iconst 3, 1) := by decide +kernel
theorem dl_382 : decode code 382 = .ok (.iadd, 1) := by decide +kernel
theorem dl_383 : decode code 383 = .ok (.iaload, 1) := by decide +kernel
theorem dl_384 : decode code 384 = .ok (.invokevirtual 51, 3) := by decide +kernel
theorem dl_387 : decode code 387 = .ok (.if_icmp .eq 791, 3) := by decide +kernel
theorem dl_390 : decode code 390 = .ok (.iconst 0, 1) := by decide +kernel
theorem dl_391 : decode code 391 = .ok (.ireturn, 1) := by decide +kernel
theorem dl_392 : decode code 392 = .ok (.aload_n 1, 1) := by decide +kernel
theorem dl_393 : decode code 393 = .ok (.aload_n 0, 1) := by decide +kernel
theorem dl_394 : decode code 394 = .ok (.iload_n 3, 1) := by decide +kernel
theorem dl_395 : decode code 395 = .ok (.iconst 1, 1) := by decide +kernel
theorem dl_396 : decode code 396 = .ok (.iadd, 1) := by decide +kernel
theorem dl_397 : decode code 397 = .ok (.iaload, 1) := by decide +kernel
theorem dl_398 : decode code 398 = .ok (.aload_n 0, 1) := by decide +kernel
theorem dl_399 : decode code 399 = .ok (.iload_n 3, 1) := by decide +kernel
theorem dl_400 : decode code 400 = .ok (.iconst 2, 1) := by decide +kernel
theorem dl_401 : decode code 401 = .ok (.iadd, 1) := by decide +kernel
theorem dl_402 : decode code 402 = .ok (.iaload, 1) := by decide +kernel
theorem dl_403 : decode code 403 = .ok (.invokevirtual 52, 3) := by decide +kernel
theorem dl_406 : decode code 406 = .ok (.aload_n 2, 1) := by decide +kernel
theorem dl_407 : decode code 407 = .ok (.aload_n 0, 1) := by decide +kernel
theorem dl_408 : decode code 408 = .ok (.iload_n 3, 1) := by decide +kernel
theorem dl_409 : decode code 409 = .ok (.iconst 1, 1) := by decide +kernel
theorem dl_410 : decode code 410 = .ok (.iadd, 1) := by decide +kernel
theorem dl_411 : decode code 411 = .ok (.iaload, 1) := by decide +kernel
theorem dl_412 : decode code 412 = .ok (.aload_n 0, 1) := by decide +kernel
theorem dl_413 : decode code 413 = .ok (.iload_n 3, 1) := by decide +kernel
theorem dl_414 : decode code 414 = .ok (.iconst 2, 1) := by decide +kernel
theorem dl_415 : decode code 415 = .ok (.iadd, 1) := by decide +kernel
theorem dl_416 : decode code 416 = .ok (.iaload, 1) := by decide +kernel
theorem dl_417 : decode code 417 = .ok (.invokevirtual 55, 3) := by decide +kernel
theorem dl_420 : decode code 420 = .ok (.if_icmp .eq 758, 3) := by decide +kernel
theorem dl_423 : decode code 423 = .ok (.iconst 0, 1) := by decide +kernel
theorem dl_424 : decode code 424 = .ok (.ireturn, 1) := by decide +kernel
theorem dl_425 : decode code 425 = .ok (.aload_n 1, 1) := by decide +kernel
theorem dl_426 : decode code 426 = .ok (.aload_n 0, 1) := by decide +kernel
theorem dl_427 : decode code 427 = .ok (.iload_n 3, 1) := by decide +kernel
theorem dl_428 : decode code 428 = .ok (.iconst 1, 1) := by decide +kernel
theorem dl_429 : decode code 429 = .ok (.iadd, 1) := by decide +kernel
theorem dl_430 : decode code 430 = .ok (.iaload, 1) := by decide +kernel
theorem dl_431 : decode code 431 = .ok (.aload_n 0, 1) := by decide +kernel
theorem dl_432 : decode code 432 = .ok (.iload_n 3, 1) := by decide +kernel
theorem dl_433 : decode code 433 = .ok (.iconst 2, 1) := by decide +kernel
theorem dl_434 : decode code 434 = .ok (.iadd, 1) := by decide +kernel
theorem dl_435 : decode code 435 = .ok (.iaload, 1) := by decide +kernel
theorem dl_436 : decode code 436 = .ok (.invokevirtual 56, 3) := by decide +kernel
theorem dl_439 : decode code 439 = .ok (.aload_n 2, 1) := by decide +kernel
theorem dl_440 : decode code 440 = .ok (.aload_n 0, 1) := by decide +kernel
theorem dl_441 : decode code 441 = .ok (.iload_n 3, 1) := by decide +kernel
theorem dl_442 : decode code 442 = .ok (.iconst 1, 1) := by decide +kernel
theorem dl_443 : decode code 443 = .ok (.iadd, 1) := by decide +kernel
theorem dl_444 : decode code 444 = .ok (.iaload, 1) := by decide +kernel
theorem dl_445 : decode code 445 = .ok (.aload_n 0, 1) := by decide +kernel
theorem dl_446 : decode code 446 = .ok (.iload_n 3, 1) := by decide +kernel
theorem dl_447 : decode code 447 = .ok (.iconst 2, 1) := by decide +kernel
theorem dl_448 : decode code 448 = .ok (.iadd, 1) := by decide +kernel
theorem dl_449 : decode code 449 = .ok (.iaload, 1) := by decide +kernel
theorem dl_450 : decode code 450 = .ok (.invokevirtual 59, 3) := by decide +kernel
theorem dl_453 : decode code 453 = .ok (.if_icmp .eq 725, 3) := by decide +kernel
theorem dl_456 : decode code 456 = .ok (.iconst 0, 1) := by decide +kernel
theorem dl_457 : decode code 457 = .ok (.ireturn, 1) := by decide +kernel
theorem dl_458 : decode code 458 = .ok (.aload_n 1, 1) := by decide +kernel
theorem dl_459 : decode code 459 = .ok (.aload_n 0, 1) := by decide +kernel
theorem dl_460 : decode code 460 = .ok (.iload_n 3, 1) := by decide +kernel
theorem dl_461 : decode code 461 = .ok (.iconst 1, 1) := by decide +kernel
theorem dl_462 : decode code 462 = .ok (.iadd, 1) := by decide +kernel
theorem dl_463 : decode code 463 = .ok (.iaload, 1) := by decide +kernel
theorem dl_464 : decode code 464 = .ok (.invokevirtual 60, 3) := by decide +kernel
theorem dl_467 : decode code 467 = .ok (.aload_n 2, 1) := by decide +kernel
theorem dl_468 : decode code 468 = .ok (.aload_n 0, 1) := by decide +kernel
theorem dl_469 : decode code 469 = .ok (.iload_n 3, 1) := by decide +kernel
theorem dl_470 : decode code 470 = .ok (.iconst 1, 1) := by decide +kernel
theorem dl_471 : decode code 471 = .ok (.iadd, 1) := by decide +kernel
theorem dl_472 : decode code 472 = .ok (.iaload, 1) := by decide +kernel
theorem dl_473 : decode code 473 = .ok (.invokevirtual 63, 3) := by decide +kernel
theorem dl_476 : decode code 476 = .ok (.if_icmp .eq 702, 3) := by decide +kernel
theorem dl_479 : decode code 479 = .ok (.iconst 0, 1) := by decide +kernel
theorem dl_480 : decode code 480 = .ok (.ireturn, 1) := by decide +kernel
theorem dl_481 : decode code 481 = .ok (.aload_n 1, 1) := by decide +kernel
theorem dl_482 : decode code 482 = .ok (.aload_n 0, 1) := by decide +kernel
theorem dl_483 : decode code 483 = .ok (.iload_n 3, 1) := by decide +kernel
theorem dl_484 : decode code 484 = .ok (.iconst 1, 1) := by decide +kernel
theorem dl_485 : decode code 485 = .ok (.iadd, 1) := by decide +kernel
theorem dl_486 : decode code 486 = .ok (.iaload, 1) := by decide +kernel
theorem dl_487 : decode code 487 = .ok (.aload_n 0, 1) := by decide +kernel
theorem dl_488 : decode code 488 = .ok (.iload_n 3, 1) := by decide +kernel
theorem dl_489 : decode code 489 = .ok (.iconst 2, 1) := by decide +kernel
theorem dl_490 : decode code 490 = .ok (.iadd, 1) := by decide +kernel
theorem dl_491 : decode code 491 = .ok (.iaload, 1) := by decide +kernel
theorem dl_492 : decode code 492 = .ok (.aload_n 0, 1) := by decide +kernel
theorem dl_493 : decode code 493 = .ok (.iload_n 3, 1) := by decide +kernel
theorem dl_494 : decode code 494 = .ok (.iconst 3, 1) := by decide +kernel
theorem dl_495 : decode code 495 = .ok (.iadd, 1) := by decide +kernel
theorem dl_496 : decode code 496 = .ok (.iaload, 1) := by decide +kernel
theorem dl_497 : decode code 497 = .ok (.invokevirtual 64, 3) := by decide +kernel
theorem dl_500 : decode code 500 = .ok (.aload_n 2, 1) := by decide +kernel
theorem dl_501 : decode code 501 = .ok (.aload_n 0, 1) := by decide +kernel
theorem dl_502 : decode code 502 = .ok (.iload_n 3, 1) := by decide +kernel
theorem dl_503 : decode code 503 = .ok (.iconst 1, 1) := by decide +kernel
theorem dl_504 : decode code 504 = .ok (.iadd, 1) := by decide +kernel
theorem dl_505 : decode code 505 = .ok (.iaload, 1) := by decide +kernel
theorem dl_506 : decode code 506 = .ok (.aload_n 0, 1) := by decide +kernel
theorem dl_507 : decode code 507 = .ok (.iload_n 3, 1) := by decide +kernel
theorem dl_508 : decode code 508 = .ok (.iconst 2, 1) := by decide +kernel
theorem dl_509 : decode code 509 = .ok (.iadd, 1) := by decide +kernel
theorem dl_510 : decode code 510 = .ok (.iaload, 1) := by decide +kernel
theorem dl_511 : decode code 511 = .ok (.aload_n 0, 1) := by decide +kernel
theorem dl_512 : decode code 512 = .ok (.iload_n 3, 1) := by decide +kernel
theorem dl_513 : decode code 513 = .ok (.iconst 3, 1) := by decide +kernel
theorem dl_514 : decode code 514 = .ok (.iadd, 1) := by decide +kernel
theorem dl_515 : decode code 515 = .ok (.iaload, 1) := by decide +kernel
theorem dl_516 : decode code 516 = .ok (.invokevirtual 67, 3) := by decide +kernel
theorem dl_519 : decode code 519 = .ok (.if_icmp .eq 659, 3) := by decide +kernel
theorem dl_522 : decode code 522 = .ok (.iconst 0, 1) := by decide +kernel
theorem dl_523 : decode code 523 = .ok (.ireturn, 1) := by decide +kernel
theorem dl_524 : decode code 524 = .ok (.aload_n 1, 1) := by decide +kernel
theorem dl_525 : decode code 525 = .ok (.invokevirtual 68, 3) := by decide +kernel
theorem dl_528 : decode code 528 = .ok (.aload_n 2, 1) := by decide +kernel
theorem dl_529 : decode code 529 = .ok (.invokevirtual 71, 3) := by decide +kernel
theorem dl_532 : decode code 532 = .ok (.if_icmp .eq 646, 3) := by decide +kernel
theorem dl_535 : decode code 535 = .ok (.iconst 0, 1) := by decide +kernel
theorem dl_536 : decode code 536 = .ok (.ireturn, 1) := by decide +kernel
theorem dl_537 : decode code 537 = .ok (.aload_n 1, 1) := by decide +kernel
theorem dl_538 : decode code 538 = .ok (.aload_n 0, 1) := by decide +kernel
theorem dl_539 : decode code 539 = .ok (.iload_n 3, 1) := by decide +kernel
theorem dl_540 : decode code 540 = .ok (.iconst 1, 1) := by decide +kernel
theorem dl_541 : decode code 541 = .ok (.iadd, 1) := by decide +kernel
theorem dl_542 : decode code 542 = .ok (.iaload, 1) := by decide +kernel
theorem dl_543 : decode code 543 = .ok (.invokevirtual 72, 3) := by decide +kernel
theorem dl_546 : decode code 546 = .ok (.aload_n 2, 1) := by decide +kernel
theorem dl_547 : decode code 547 = .ok (.aload_n 0, 1) := by decide +kernel
theorem dl_548 : decode code 548 = .ok (.iload_n 3, 1) := by decide +kernel
theorem dl_549 : decode code 549 = .ok (.iconst 1, 1) := by decide +kernel
theorem dl_550 : decode code 550 = .ok (.iadd, 1) := by decide +kernel
theorem dl_551 : decode code 551 = .ok (.iaload, 1) := by decide +kernel
theorem dl_552 : decode code 552 = .ok (.invokevirtual 75, 3) := by decide +kernel
theorem dl_555 : decode code 555 = .ok (.if_icmp .eq 623, 3) := by decide +kernel
theorem dl_558 : decode code 558 = .ok (.iconst 0, 1) := by decide +kernel
theorem dl_559 : decode code 559 = .ok (.ireturn, 1) := by decide +kernel
theorem dl_560 : decode code 560 = .ok (.aload_n 1, 1) := by decide +kernel
theorem dl_561 : decode code 561 = .ok (.invokevirtual 76, 3) := by decide +kernel
theorem dl_564 : decode code 564 = .ok (.aload_n 2, 1) := by decide +kernel
theorem dl_565 : decode code 565 = .ok (.invokevirtual 79, 3) := by decide +kernel
theorem dl_568 : decode code 568 = .ok (.if_icmp .eq 610, 3) := by decide +kernel
theorem dl_571 : decode code 571 = .ok (.iconst 0, 1) := by decide +kernel
theorem dl_572 : decode code 572 = .ok (.ireturn, 1) := by decide +kernel
theorem dl_573 : decode code 573 = .ok (.aload_n 1, 1) := by decide +kernel
theorem dl_574 : decode code 574 = .ok (.aload_n 0, 1) := by decide +kernel
theorem dl_575 : decode code 575 = .ok (.iload_n 3, 1) := by decide +kernel
theorem dl_576 : decode code 576 = .ok (.iconst 1, 1) := by decide +kernel
theorem dl_577 : decode code 577 = .ok (.iadd, 1) := by decide +kernel
theorem dl_578 : decode code 578 = .ok (.iaload, 1) := by decide +kernel
theorem dl_579 : decode code 579 = .ok (.aload_n 0, 1) := by decide +kernel
theorem dl_580 : decode code 580 = .ok (.iload_n 3, 1) := by decide +kernel
theorem dl_581 : decode code 581 = .ok (.iconst 2, 1) := by decide +kernel
theorem dl_582 : decode code 582 = .ok (.iadd, 1) := by decide +kernel
theorem dl_583 : decode code 583 = .ok (.iaload, 1) := by decide +kernel
theorem dl_584 : decode code 584 = .ok (.aload_n 0, 1) := by decide +kernel
theorem dl_585 : decode code 585 = .ok (.iload_n 3, 1) := by decide +kernel
theorem dl_586 : decode code 586 = .ok (.iconst 3, 1) := by decide +kernel
theorem dl_587 : decode code 587 = .ok (.iadd, 1) := by decide +kernel
theorem dl_588 : decode code 588 = .ok (.iaload, 1) := by decide +kernel
theorem dl_589 : decode code 589 = .ok (.invokevirtual 80, 3) := by decide +kernel
theorem dl_592 : decode code 592 = .ok (.aload_n 2, 1) := by decide +kernel
theorem dl_593 : decode code 593 = .ok (.aload_n 0, 1) := by decide +kernel
theorem dl_594 : decode code 594 = .ok (.iload_n 3, 1) := by decide +kernel
theorem dl_595 : decode code 595 = .ok (.iconst 1, 1) := by decide +kernel
theorem dl_596 : decode code 596 = .ok (.iadd, 1) := by decide +kernel
theorem dl_597 : decode code 597 = .ok (.iaload, 1) := by decide +kernel
theorem dl_598 : decode code 598 = .ok (.aload_n 0, 1) := by decide +kernel
theorem dl_599 : decode code 599 = .ok (.iload_n 3, 1) := by decide +kernel
theorem dl_600 : decode code 600 = .ok (.iconst 2, 1) := by decide +kernel
theorem dl_601 : decode code 601 = .ok (.iadd, 1) := by decide +kernel
theorem dl_602 : decode code 602 = .ok (.iaload, 1) := by decide +kernel
theorem dl_603 : decode code 603 = .ok (.aload_n 0, 1) := by decide +kernel
theorem dl_604 : decode code 604 = .ok (.iload_n 3, 1) := by decide +kernel
theorem dl_605 : decode code 605 = .ok (.iconst 3, 1) := by decide +kernel
theorem dl_606 : decode code 606 = .ok (.iadd, 1) := by decide +kernel
theorem dl_607 : decode code 607 = .ok (.iaload, 1) := by decide +kernel
theorem dl_608 : decode code 608 = .ok (.invokevirtual 83, 3) := by decide +kernel
theorem dl_611 : decode code 611 = .ok (.if_icmp .eq 567, 3) := by decide +kernel
theorem dl_614 : decode code 614 = .ok (.iconst 0, 1) := by decide +kernel
theorem dl_615 : decode code 615 = .ok (.ireturn, 1) := by decide +kernel
theorem dl_616 : decode code 616 = .ok (.aload_n 1, 1) := by decide +kernel
theorem dl_617 : decode code 617 = .ok (.aload_n 0, 1) := by decide +kernel
theorem dl_618 : decode code 618 = .ok (.iload_n 3, 1) := by decide +kernel
theorem dl_619 : decode code 619 = .ok (.iconst 1, 1) := by decide +kernel
theorem dl_620 : decode code 620 = .ok (.iadd, 1) := by decide +kernel
theorem dl_621 : decode code 621 = .ok (.iaload, 1) := by decide +kernel
theorem dl_622 : decode code 622 = .ok (.aload_n 0, 1) := by decide +kernel
theorem dl_623 : decode code 623 = .ok (.iload_n 3, 1) := by decide +kernel
theorem dl_624 : decode code 624 = .ok (.iconst 2, 1) := by decide +kernel
theorem dl_625 : decode code 625 = .ok (.iadd, 1) := by decide +kernel
theorem dl_626 : decode code 626 = .ok (.iaload, 1) := by decide +kernel
theorem dl_627 : decode code 627 = .ok (.invokevirtual 84, 3) := by decide +kernel
theorem dl_630 : decode code 630 = .ok (.aload_n 2, 1) := by decide +kernel
theorem dl_631 : decode code 631 = .ok (.aload_n 0, 1) := by decide +kernel
theorem dl_632 : decode code 632 = .ok (.iload_n 3, 1) := by decide +kernel
theorem dl_633 : decode code 633 = .ok (.iconst 1, 1) := by decide +kernel
theorem dl_634 : decode code 634 = .ok (.iadd, 1) := by decide +kernel
theorem dl_635 : decode code 635 = .ok (.iaload, 1) := by decide +kernel
theorem dl_636 : decode code 636 = .ok (.aload_n 0, 1) := by decide +kernel
theorem dl_637 : decode code 637 = .ok (.iload_n 3, 1) := by decide +kernel
theorem dl_638 : decode code 638 = .ok (.iconst 2, 1) := by decide +kernel
theorem dl_639 : decode code 639 = .ok (.iadd, 1) := by decide +kernel
theorem dl_640 : decode code 640 = .ok (.iaload, 1) := by decide +kernel
theorem dl_641 : decode code 641 = .ok (.invokevirtual 87, 3) := by decide +kernel
theorem dl_644 : decode code 644 = .ok (.if_icmp .eq 534, 3) := by decide +kernel
theorem dl_647 : decode code 647 = .ok (.iconst 0, 1) := by decide +kernel
theorem dl_648 : decode code 648 = .ok (.ireturn, 1) := by decide +kernel
theorem dl_649 : decode code 649 = .ok (.aload_n 1, 1) := by decide +kernel
theorem dl_650 : decode code 650 = .ok (.aload_n 0, 1) := by decide +kernel
theorem dl_651 : decode code 651 = .ok (.iload_n 3, 1) := by decide +kernel
theorem dl_652 : decode code 652 = .ok (.iconst 1, 1) := by decide +kernel
theorem dl_653 : decode code 653 = .ok (.iadd, 1) := by decide +kernel
theorem dl_654 : decode code 654 = .ok (.iaload, 1) := by decide +kernel
theorem dl_655 : decode code 655 = .ok (.invokevirtual 88, 3) := by decide +kernel
theorem dl_658 : decode code 658 = .ok (.aload_n 2, 1) := by decide +kernel
theorem dl_659 : decode code 659 = .ok (.aload_n 0, 1) := by decide +kernel
theorem dl_660 : decode code 660 = .ok (.iload_n 3, 1) := by decide +kernel
theorem dl_661 : decode code 661 = .ok (.iconst 1, 1) := by decide +kernel
theorem dl_662 : decode code 662 = .ok (.iadd, 1) := by decide +kernel
theorem dl_663 : decode code 663 = .ok (.iaload, 1) := by decide +kernel
theorem dl_664 : decode code 664 = .ok (.invokevirtual 91, 3) := by decide +kernel
theorem dl_667 : decode code 667 = .ok (.if_icmp .eq 511, 3) := by decide +kernel
theorem dl_670 : decode code 670 = .ok (.iconst 0, 1) := by decide +kernel
theorem dl_671 : decode code 671 = .ok (.ireturn, 1) := by decide +kernel
theorem dl_672 : decode code 672 = .ok (.aload_n 1, 1) := by decide +kernel
theorem dl_673 : decode code 673 = .ok (.aload_n 0, 1) := by decide +kernel
theorem dl_674 : decode code 674 = .ok (.iload_n 3, 1) := by decide +kernel
theorem dl_675 : decode code 675 = .ok (.iconst 1, 1) := by decide +kernel
theorem dl_676 : decode code 676 = .ok (.iadd, 1) := by decide +kernel
theorem dl_677 : decode code 677 = .ok (.iaload, 1) := by decide +kernel
theorem dl_678 : decode code 678 = .ok (.aload_n 0, 1) := by decide +kernel
theorem dl_679 : decode code 679 = .ok (.iload_n 3, 1) := by decide +kernel
theorem dl_680 : decode code 680 = .ok (.iconst 2, 1) := by decide +kernel
theorem dl_681 : decode code 681 = .ok (.iadd, 1) := by decide +kernel
theorem dl_682 : decode code 682 = .ok (.iaload, 1) := by decide +kernel
theorem dl_683 : decode code 683 = .ok (.aload_n 0, 1) := by decide +kernel
theorem dl_684 : decode code 684 = .ok (.iload_n 3, 1) := by decide +kernel
theorem dl_685 : decode code 685 = .ok (.iconst 3, 1) := by decide +kernel
theorem dl_686 : decode code 686 = .ok (.iadd, 1) := by decide +kernel
theorem dl_687 : decode code 687 = .ok (.iaload, 1) := by decide +kernel
theorem dl_688 : decode code 688 = .ok (.aload_n 0, 1) := by decide +kernel
theorem dl_689 : decode code 689 = .ok (.iload_n 3, 1) := by decide +kernel
theorem dl_690 : decode code 690 = .ok (.iconst 4, 1) := by decide +kernel
theorem dl_691 : decode code 691 = .ok (.iadd, 1) := by decide +kernel
theorem dl_692 : decode code 692 = .ok (.iaload, 1) := by decide +kernel
theorem dl_693 : decode code 693 = .ok (.invokevirtual 92, 3) := by decide +kernel
theorem dl_696 : decode code 696 = .ok (.aload_n 2, 1) := by decide +kernel
theorem dl_697 : decode code 697 = .ok (.aload_n 0, 1) := by decide +kernel
theorem dl_698 : decode code 698 = .ok (.iload_n 3, 1) := by decide +kernel
theorem dl_699 : decode code 699 = .ok (.iconst 1, 1) := by decide +kernel
theorem dl_700 : decode code 700 = .ok (.iadd, 1) := by decide +kernel
theorem dl_701 : decode code 701 = .ok (.iaload, 1) := by decide +kernel
theorem dl_702 : decode code 702 = .ok (.aload_n 0, 1) := by decide +kernel
theorem dl_703 : decode code 703 = .ok (.iload_n 3, 1) := by decide +kernel
theorem dl_704 : decode code 704 = .ok (.iconst 2, 1) := by decide +kernel
theorem dl_705 : decode code 705 = .ok (.iadd, 1) := by decide +kernel
theorem dl_706 : decode code 706 = .ok (.iaload, 1) := by decide +kernel
theorem dl_707 : decode code 707 = .ok (.aload_n 0, 1) := by decide +kernel
theorem dl_708 : decode code 708 = .ok (.iload_n 3, 1) := by decide +kernel
theorem dl_709 : decode code 709 = .ok (.iconst 3, 1) := by decide +kernel
theorem dl_710 : decode code 710 = .ok (.iadd, 1) := by decide +kernel
theorem dl_711 : decode code 711 = .ok (.iaload, 1) := by decide +kernel
theorem dl_712 : decode code 712 = .ok (.aload_n 0, 1) := by decide +kernel
theorem dl_713 : decode code 713 = .ok (.iload_n 3, 1) := by decide +kernel
theorem dl_714 : decode code 714 = .ok (.iconst 4, 1) := by decide +kernel
theorem dl_715 : decode code 715 = .ok (.iadd, 1) := by decide +kernel
theorem dl_716 : decode code 716 = .ok (.iaload, 1) := by decide +kernel
theorem dl_717 : decode code 717 = .ok (.invokevirtual 96, 3) := by decide +kernel
theorem dl_720 : decode code 720 = .ok (.if_icmp .eq 458, 3) := by decide +kernel
theorem dl_723 : decode code 723 = .ok (.iconst 0, 1) := by decide +kernel
theorem dl_724 : decode code 724 = .ok (.ireturn, 1) := by decide +kernel
theorem dl_725 : decode code 725 = .ok (.aload_n 1, 1) := by decide +kernel
theorem dl_726 : decode code 726 = .ok (.aload_n 0, 1) := by decide +kernel
theorem dl_727 : decode code 727 = .ok (.iload_n 3, 1) := by decide +kernel
theorem dl_728 : decode code 728 = .ok (.iconst 1, 1) := by decide +kernel
theorem dl_729 : decode code 729 = .ok (.iadd, 1) := by decide +kernel
theorem dl_730 : decode code 730 = .ok (.iaload, 1) := by decide +kernel
theorem dl_731 : decode code 731 = .ok (.aload_n 0, 1) := by decide +kernel
theorem dl_732 : decode code 732 = .ok (.iload_n 3, 1) := by decide +kernel
theorem dl_733 : decode code 733 = .ok (.iconst 2, 1) := by decide +kernel
theorem dl_734 : decode code 734 = .ok (.iadd, 1) := by decide +kernel
theorem dl_735 : decode code 735 = .ok (.iaload, 1) := by decide +kernel
theorem dl_736 : decode code 736 = .ok (.aload_n 0, 1) := by decide +kernel
theorem dl_737 : decode code 737 = .ok (.iload_n 3, 1) := by decide +kernel
theorem dl_738 : decode code 738 = .ok (.iconst 3, 1) := by decide +kernel
theorem dl_739 : decode code 739 = .ok (.iadd, 1) := by decide +kernel
theorem dl_740 : decode code 740 = .ok (.iaload, 1) := by decide +kernel
theorem dl_741 : decode code 741 = .ok (.invokevirtual 97, 3) := by decide +kernel
theorem dl_744 : decode code 744 = .ok (.aload_n 2, 1) := by decide +kernel
theorem dl_745 : decode code 745 = .ok (.aload_n 0, 1) := by decide +kernel
theorem dl_746 : decode code 746 = .ok (.iload_n 3, 1) := by decide +kernel
theorem dl_747 : decode code 747 = .ok (.iconst 1, 1) := by decide +kernel
theorem dl_748 : decode code 748 = .ok (.iadd, 1) := by decide +kernel
theorem dl_749 : decode code 749 = .ok (.iaload, 1) := by decide +kernel
theorem dl_750 : decode code 750 = .ok (.aload_n 0, 1) := by decide +kernel
theorem dl_751 : decode code 751 = .ok (.iload_n 3, 1) := by decide +kernel
theorem dl_752 : decode code 752 = .ok (.iconst 2, 1) := by decide +kernel
theorem dl_753 : decode code 753 = .ok (.iadd, 1) := by decide +kernel
theorem dl_754 : decode code 754 = .ok (.iaload, 1) := by decide +kernel
theorem dl_755 : decode code 755 = .ok (.aload_n 0, 1) := by decide +kernel
theorem dl_756 : decode code 756 = .ok (.iload_n 3, 1) := by decide +kernel
theorem dl_757 : decode code 757 = .ok (.iconst 3, 1) := by decide +kernel
theorem dl_758 : decode code 758 = .ok (.iadd, 1) := by decide +kernel
theorem dl_759 : decode code 759 = .ok (.iaload, 1) := by decide +kernel
theorem dl_760 : decode code 760 = .ok (.invokevirtual 100, 3) := by decide +kernel
theorem dl_763 : decode code 763 = .ok (.if_icmp .eq 415, 3) := by decide +kernel
theorem dl_766 : decode code 766 = .ok (.iconst 0, 1) := by decide +kernel
theorem dl_767 : decode code 767 = .ok (.ireturn, 1) := by decide +kernel
theorem dl_768 : decode code 768 = .ok (.aload_n 1, 1) := by decide +kernel
theorem dl_769 : decode code 769 = .ok (.aload_n 0, 1) := by decide +kernel
theorem dl_770 : decode code 770 = .ok (.iload_n 3, 1) := by decide +kernel
theorem dl_771 : decode code 771 = .ok (.iconst 1, 1) := by decide +kernel
theorem dl_772 : decode code 772 = .ok (.iadd, 1) := by decide +kernel
theorem dl_773 : decode code 773 = .ok (.iaload, 1) := by decide +kernel
theorem dl_774 : decode code 774 = .ok (.aload_n 0, 1) := by decide +kernel
theorem dl_775 : decode code 775 = .ok (.iload_n 3, 1) := by decide +kernel
theorem dl_776 : decode code 776 = .ok (.iconst 2, 1) := by decide +kernel
theorem dl_777 : decode code 777 = .ok (.iadd, 1) := by decide +kernel
theorem dl_778 : decode code 778 = .ok (.iaload, 1) := by decide +kernel
theorem dl_779 : decode code 779 = .ok (.aload_n 0, 1) := by decide +kernel
theorem dl_780 : decode code 780 = .ok (.iload_n 3, 1) := by decide +kernel
theorem dl_781 : decode code 781 = .ok (.iconst 3, 1) := by decide +kernel
theorem dl_782 : decode code 782 = .ok (.iadd, 1) := by decide +kernel
theorem dl_783 : decode code 783 = .ok (.iaload, 1) := by decide +kernel
theorem dl_784 : decode code 784 = .ok (.invokevirtual 101, 3) := by decide +kernel
theorem dl_787 : decode code 787 = .ok (.aload_n 2, 1) := by decide +kernel
theorem dl_788 : decode code 788 = .ok (.aload_n 0, 1) := by decide +kernel
theorem dl_789 : decode code 789 = .ok (.iload_n 3, 1) := by decide +kernel
theorem dl_790 : decode code 790 = .ok (.iconst 1, 1) := by decide +kernel
theorem dl_791 : decode code 791 = .ok (.iadd, 1) := by decide +kernel
theorem dl_792 : decode code 792 = .ok (.iaload, 1) := by decide +kernel
theorem dl_793 : decode code 793 = .ok (.aload_n 0, 1) := by decide +kernel
theorem dl_794 : decode code 794 = .ok (.iload_n 3, 1) := by decide +kernel
theorem dl_795 : decode code 795 = .ok (.iconst 2, 1) := by decide +kernel
theorem dl_796 : decode code 796 = .ok (.iadd, 1) := by decide +kernel
theorem dl_797 : decode code 797 = .ok (.iaload, 1) := by decide +kernel
theorem dl_798 : decode code 798 = .ok (.aload_n 0, 1) := by decide +kernel
theorem dl_799 : decode code 799 = .ok (.iload_n 3, 1) := by decide +kernel
theorem dl_800 : decode code 800 = .ok (.iconst 3, 1) := by decide +kernel
theorem dl_801 : decode code 801 = .ok (.iadd, 1) := by decide +kernel
theorem dl_802 : decode code 802 = .ok (.iaload, 1) := by decide +kernel
theorem dl_803 : decode code 803 = .ok (.invokevirtual 104, 3) := by decide +kernel
theorem dl_806 : decode code 806 = .ok (.if_icmp .eq 372, 3) := by decide +kernel
theorem dl_809 : decode code 809 = .ok (.iconst 0, 1) := by decide +kernel
theorem dl_810 : decode code 810 = .ok (.ireturn, 1) := by decide +kernel
theorem dl_811 : decode code 811 = .ok (.aload_n 1, 1) := by decide +kernel
theorem dl_812 : decode code 812 = .ok (.aload_n 0, 1) := by decide +kernel
theorem dl_813 : decode code 813 = .ok (.iload_n 3, 1) := by decide +kernel
theorem dl_814 : decode code 814 = .ok (.iconst 1, 1) := by decide +kernel
theorem dl_815 : decode code 815 = .ok (.iadd, 1) := by decide +kernel
theorem dl_816 : decode code 816 = .ok (.iaload, 1) := by decide +kernel
theorem dl_817 : decode code 817 = .ok (.aload_n 0, 1) := by decide +kernel
theorem dl_818 : decode code 818 = .ok (.iload_n 3, 1) := by decide +kernel
theorem dl_819 : decode code 819 = .ok (.iconst 2, 1) := by decide +kernel
theorem dl_820 : decode code 820 = .ok (.iadd, 1) := by decide +kernel
theorem dl_821 : decode code 821 = .ok (.iaload, 1) := by decide +kernel
theorem dl_822 : decode code 822 = .ok (.invokevirtual 105, 3) := by decide +kernel
theorem dl_825 : decode code 825 = .ok (.aload_n 2, 1) := by decide +kernel
theorem dl_826 : decode code 826 = .ok (.aload_n 0, 1) := by decide +kernel
theorem dl_827 : decode code 827 = .ok (.iload_n 3, 1) := by decide +kernel
theorem dl_828 : decode code 828 = .ok (.iconst 1, 1) := by decide +kernel
theorem dl_829 : decode code 829 = .ok (.iadd, 1) := by decide +kernel
theorem dl_830 : decode code 830 = .ok (.iaload, 1) := by decide +kernel
theorem dl_831 : decode code 831 = .ok (.aload_n 0, 1) := by decide +kernel
theorem dl_832 : decode code 832 = .ok (.iload_n 3, 1) := by decide +kernel
theorem dl_833 : decode code 833 = .ok (.iconst 2, 1) := by decide +kernel
theorem dl_834 : decode code 834 = .ok (.iadd, 1) := by decide +kernel
theorem dl_835 : decode code 835 = .ok (.iaload, 1) := by decide +kernel
theorem dl_836 : decode code 836 = .ok (.invokevirtual 108, 3) := by decide +kernel
theorem dl_839 : decode code 839 = .ok (.if_icmp .eq 339, 3) := by decide +kernel
theorem dl_842 : decode code 842 = .ok (.iconst 0, 1) := by decide +kernel
theorem dl_843 : decode code 843 = .ok (.ireturn, 1) := by decide +kernel
theorem dl_844 : decode code 844 = .ok (.aload_n 1, 1) := by decide +kernel
theorem dl_845 : decode code 845 = .ok (.aload_n 0, 1) := by decide +kernel
theorem dl_846 : decode code 846 = .ok (.iload_n 3, 1) := by decide +kernel
theorem dl_847 : decode code 847 = .ok (.iconst 1, 1) := by decide +kernel
theorem dl_848 : decode code 848 = .ok (.iadd, 1) := by decide +kernel
theorem dl_849 : decode code 849 = .ok (.iaload, 1) := by decide +kernel
theorem dl_850 : decode code 850 = .ok (.aload_n 0, 1) := by decide +kernel
theorem dl_851 : decode code 851 = .ok (.iload_n 3, 1) := by decide +kernel
theorem dl_852 : decode code 852 = .ok (.iconst 2, 1) := by decide +kernel
theorem dl_853 : decode code 853 = .ok (.iadd, 1) := by decide +kernel
theorem dl_854 : decode code 854 = .ok (.iaload, 1) := by decide +kernel
theorem dl_855 : decode code 855 = .ok (.invokevirtual 109, 3) := by decide +kernel
theorem dl_858 : decode code 858 = .ok (.aload_n 2, 1) := by decide +kernel
theorem dl_859 : decode code 859 = .ok (.aload_n 0, 1) := by decide +kernel
theorem dl_860 : decode code 860 = .ok (.iload_n 3, 1) := by decide +kernel
theorem dl_861 : decode code 861 = .ok (.iconst 1, 1) := by decide +kernel
theorem dl_862 : decode code 862 = .ok (.iadd, 1) := by decide +kernel
theorem dl_863 : decode code 863 = .ok (.iaload, 1) := by decide +kernel
theorem dl_864 : decode code 864 = .ok (.aload_n 0, 1) := by decide +kernel
theorem dl_865 : decode code 865 = .ok (.iload_n 3, 1) := by decide +kernel
theorem dl_866 : decode code 866 = .ok (.iconst 2, 1) := by decide +kernel
theorem dl_867 : decode code 867 = .ok (.iadd, 1) := by decide +kernel
theorem dl_868 : decode code 868 = .ok (.iaload, 1) := by decide +kernel
theorem dl_869 : decode code 869 = .ok (.invokevirtual 112, 3) := by decide +kernel
theorem dl_872 : decode code 872 = .ok (.if_icmp .eq 306, 3) := by decide +kernel
theorem dl_875 : decode code 875 = .ok (.iconst 0, 1) := by decide +kernel
theorem dl_876 : decode code 876 = .ok (.ireturn, 1) := by decide +kernel
theorem dl_877 : decode code 877 = .ok (.aload_n 1, 1) := by decide +kernel
theorem dl_878 : decode code 878 = .ok (.aload_n 0, 1) := by decide +kernel
theorem dl_879 : decode code 879 = .ok (.iload_n 3, 1) := by decide +kernel
theorem dl_880 : decode code 880 = .ok (.iconst 1, 1) := by decide +kernel
theorem dl_881 : decode code 881 = .ok (.iadd, 1) := by decide +kernel
theorem dl_882 : decode code 882 = .ok (.iaload, 1) := by decide +kernel
theorem dl_883 : decode code 883 = .ok (.aload_n 0, 1) := by decide +kernel
theorem dl_884 : decode code 884 = .ok (.iload_n 3, 1) := by decide +kernel
theorem dl_885 : decode code 885 = .ok (.iconst 2, 1) := by decide +kernel
theorem dl_886 : decode code 886 = .ok (.iadd, 1) := by decide +kernel
theorem dl_887 : decode code 887 = .ok (.iaload, 1) := by decide +kernel
theorem dl_888 : decode code 888 = .ok (.aload_n 0, 1) := by decide +kernel
theorem dl_889 : decode code 889 = .ok (.iload_n 3, 1) := by decide +kernel
theorem dl_890 : decode code 890 = .ok (.iconst 3, 1) := by decide +kernel
theorem dl_891 : decode code 891 = .ok (.iadd, 1) := by decide +kernel
theorem dl_892 : decode code 892 = .ok (.iaload, 1) := by decide +kernel
theorem dl_893 : decode code 893 = .ok (.invokevirtual 113, 3) := by decide +kernel
theorem dl_896 : decode code 896 = .ok (.aload_n 2, 1) := by decide +kernel
theorem dl_897 : decode code 897 = .ok (.aload_n 0, 1) := by decide +kernel
theorem dl_898 : decode code 898 = .ok (.iload_n 3, 1) := by decide +kernel
theorem dl_899 : decode code 899 = .ok (.iconst 1, 1) := by decide +kernel
theorem dl_900 : decode code 900 = .ok (.iadd, 1) := by decide +kernel
theorem dl_901 : decode code 901 = .ok (.iaload, 1) := by decide +kernel
theorem dl_902 : decode code 902 = .ok (.aload_n 0, 1) := by decide +kernel
theorem dl_903 : decode code 903 = .ok (.iload_n 3, 1) := by decide +kernel
theorem dl_904 : decode code 904 = .ok (.iconst 2, 1) := by decide +kernel
theorem dl_905 : decode code 905 = .ok (.iadd, 1) := by decide +kernel
theorem dl_906 : decode code 906 = .ok (.iaload, 1) := by decide +kernel
theorem dl_907 : decode code 907 = .ok (.aload_n 0, 1) := by decide +kernel
theorem dl_908 : decode code 908 = .ok (.iload_n 3, 1) := by decide +kernel
theorem dl_909 : decode code 909 = .ok (.iconst 3, 1) := by decide +kernel
theorem dl_910 : decode code 910 = .ok (.iadd, 1) := by decide +kernel
theorem dl_911 : decode code 911 = .ok (.iaload, 1) := by decide +kernel
theorem dl_912 : decode code 912 = .ok (.invokevirtual 116, 3) := by decide +kernel
theorem dl_915 : decode code 915 = .ok (.if_icmp .eq 263, 3) := by decide +kernel
theorem dl_918 : decode code 918 = .ok (.iconst 0, 1) := by decide +kernel
theorem dl_919 : decode code 919 = .ok (.ireturn, 1) := by decide +kernel
theorem dl_920 : decode code 920 = .ok (.aload_n 1, 1) := by decide +kernel
theorem dl_921 : decode code 921 = .ok (.aload_n 0, 1) := by decide +kernel
theorem dl_922 : decode code 922 = .ok (.iload_n 3, 1) := by decide +kernel
theorem dl_923 : decode code 923 = .ok (.iconst 1, 1) := by decide +kernel
theorem dl_924 : decode code 924 = .ok (.iadd, 1) := by decide +kernel
theorem dl_925 : decode code 925 = .ok (.iaload, 1) := by decide +kernel
theorem dl_926 : decode code 926 = .ok (.aload_n 0, 1) := by decide +kernel
theorem dl_927 : decode code 927 = .ok (.iload_n 3, 1) := by decide +kernel
theorem dl_928 : decode code 928 = .ok (.iconst 2, 1) := by decide +kernel
theorem dl_929 : decode code 929 = .ok (.iadd, 1) := by decide +kernel
theorem dl_930 : decode code 930 = .ok (.iaload, 1) := by decide +kernel
theorem dl_931 : decode code 931 = .ok (.aload_n 0, 1) := by decide +kernel
theorem dl_932 : decode code 932 = .ok (.iload_n 3, 1) := by decide +kernel
theorem dl_933 : decode code 933 = .ok (.iconst 3, 1) := by decide +kernel
theorem dl_934 : decode code 934 = .ok (.iadd, 1) := by decide +kernel
theorem dl_935 : decode code 935 = .ok (.iaload, 1) := by decide +kernel
theorem dl_936 : decode code 936 = .ok (.invokevirtual 117, 3) := by decide +kernel
theorem dl_939 : decode code 939 = .ok (.aload_n 2, 1) := by decide +kernel
theorem dl_940 : decode code 940 = .ok (.aload_n 0, 1) := by decide +kernel
theorem dl_941 : decode code 941 = .ok (.iload_n 3, 1) := by decide +kernel
theorem dl_942 : decode code 942 = .ok (.iconst 1, 1) := by decide +kernel
theorem dl_943 : decode code 943 = .ok (.iadd, 1) := by decide +kernel
theorem dl_944 : decode code 944 = .ok (.iaload, 1) := by decide +kernel
theorem dl_945 : decode code 945 = .ok (.aload_n 0, 1) := by decide +kernel
theorem dl_946 : decode code 946 = .ok (.iload_n 3, 1) := by decide +kernel
theorem dl_947 : decode code 947 = .ok (.iconst 2, 1) := by decide +kernel
theorem dl_948 : decode code 948 = .ok (.iadd, 1) := by decide +kernel
theorem dl_949 : decode code 949 = .ok (.iaload, 1) := by decide +kernel
theorem dl_950 : decode code 950 = .ok (.aload_n 0, 1) := by decide +kernel
theorem dl_951 : decode code 951 = .ok (.iload_n 3, 1) := by decide +kernel
theorem dl_952 : decode code 952 = .ok (.iconst 3, 1) := by decide +kernel
theorem dl_953 : decode code 953 = .ok (.iadd, 1) := by decide +kernel
theorem dl_954 : decode code 954 = .ok (.iaload, 1) := by decide +kernel
theorem dl_955 : decode code 955 = .ok (.invokevirtual 120, 3) := by decide +kernel
theorem dl_958 : decode code 958 = .ok (.if_icmp .eq 220, 3) := by decide +kernel
theorem dl_961 : decode code 961 = .ok (.iconst 0, 1) := by decide +kernel
theorem dl_962 : decode code 962 = .ok (.ireturn, 1) := by decide +kernel
theorem dl_963 : decode code 963 = .ok (.aload_n 1, 1) := by decide +kernel
theorem dl_964 : decode code 964 = .ok (.aload_n 0, 1) := by decide +kernel
theorem dl_965 : decode code 965 = .ok (.iload_n 3, 1) := by decide +kernel
theorem dl_966 : decode code 966 = .ok (.iconst 1, 1) := by decide +kernel
theorem dl_967 : decode code 967 = .ok (.iadd, 1) := by decide +kernel
theorem dl_968 : decode code 968 = .ok (.iaload, 1) := by decide +kernel
theorem dl_969 : decode code 969 = .ok (.aload_n 0, 1) := by decide +kernel
theorem dl_970 : decode code 970 = .ok (.iload_n 3, 1) := by decide +kernel
theorem dl_971 : decode code 971 = .ok (.iconst 2, 1) := by decide +kernel
theorem dl_972 : decode code 972 = .ok (.iadd, 1) := by decide +kernel
theorem dl_973 : decode code 973 = .ok (.iaload, 1) := by decide +kernel
theorem dl_974 : decode code 974 = .ok (.aload_n 0, 1) := by decide +kernel
theorem dl_975 : decode code 975 = .ok (.iload_n 3, 1) := by decide +kernel
theorem dl_976 : decode code 976 = .ok (.iconst 3, 1) := by decide +kernel
theorem dl_977 : decode code 977 = .ok (.iadd, 1) := by decide +kernel
theorem dl_978 : decode code 978 = .ok (.iaload, 1) := by decide +kernel
theorem dl_979 : decode code 979 = .ok (.invokevirtual 121, 3) := by decide +kernel
theorem dl_982 : decode code 982 = .ok (.aload_n 2, 1) := by decide +kernel
theorem dl_983 : decode code 983 = .ok (.aload_n 0, 1) := by decide +kernel
theorem dl_984 : decode code 984 = .ok (.iload_n 3, 1) := by decide +kernel
theorem dl_985 : decode code 985 = .ok (.iconst 1, 1) := by decide +kernel
theorem dl_986 : decode code 986 = .ok (.iadd, 1) := by decide +kernel
theorem dl_987 : decode code 987 = .ok (.iaload, 1) := by decide +kernel
theorem dl_988 : decode code 988 = .ok (.aload_n 0, 1) := by decide +kernel
theorem dl_989 : decode code 989 = .ok (.iload_n 3, 1) := by decide +kernel
theorem dl_990 : decode code 990 = .ok (.iconst 2, 1) := by decide +kernel
theorem dl_991 : decode code 991 = .ok (.iadd, 1) := by decide +kernel
theorem dl_992 : decode code 992 = .ok (.iaload, 1) := by decide +kernel
theorem dl_993 : decode code 993 = .ok (.aload_n 0, 1) := by decide +kernel
theorem dl_994 : decode code 994 = .ok (.iload_n 3, 1) := by decide +kernel
theorem dl_995 : decode code 995 = .ok (.iconst 3, 1) := by decide +kernel
theorem dl_996 : decode code 996 = .ok (.iadd, 1) := by decide +kernel
theorem dl_997 : decode code 997 = .ok (.iaload, 1) := by decide +kernel
theorem dl_998 : decode code 998 = .ok (.invokevirtual 124, 3) := by decide +kernel
theorem dl_1001 : decode code 1001 = .ok (.if_icmp .eq 177, 3) := by decide +kernel
theorem dl_1004 : decode code 1004 = .ok (.iconst 0, 1) := by decide +kernel
theorem dl_1005 : decode code 1005 = .ok (.ireturn, 1) := by decide +kernel
theorem dl_1006 : decode code 1006 = .ok (.aload_n 1, 1) := by decide +kernel
theorem dl_1007 : decode code 1007 = .ok (.aload_n 0, 1) := by decide +kernel
theorem dl_1008 : decode code 1008 = .ok (.iload_n 3, 1) := by decide +kernel
theorem dl_1009 : decode code 1009 = .ok (.iconst 1, 1) := by decide +kernel
theorem dl_1010 : decode code 1010 = .ok (.iadd, 1) := by decide +kernel
theorem dl_1011 : decode code 1011 = .ok (.iaload, 1) := by decide +kernel
theorem dl_1012 : decode code 1012 = .ok (.aload_n 0, 1) := by decide +kernel
theorem dl_1013 : decode code 1013 = .ok (.iload_n 3, 1) := by decide +kernel
theorem dl_1014 : decode code 1014 = .ok (.iconst 2, 1) := by decide +kernel
theorem dl_1015 : decode code 1015 = .ok (.iadd, 1) := by decide +kernel
theorem dl_1016 : decode code 1016 = .ok (.iaload, 1) := by decide +kernel
theorem dl_1017 : decode code 1017 = .ok (.aload_n 0, 1) := by decide +kernel
theorem dl_1018 : decode code 1018 = .ok (.iload_n 3, 1) := by decide +kernel
theorem dl_1019 : decode code 1019 = .ok (.iconst 3, 1) := by decide +kernel
theorem dl_1020 : decode code 1020 = .ok (.iadd, 1) := by decide +kernel
theorem dl_1021 : decode code 1021 = .ok (.iaload, 1) := by decide +kernel
theorem dl_1022 : decode code 1022 = .ok (.invokevirtual 125, 3) := by decide +kernel
theorem dl_1025 : decode code 1025 = .ok (.aload_n 2, 1) := by decide +kernel
theorem dl_1026 : decode code 1026 = .ok (.aload_n 0, 1) := by decide +kernel
theorem dl_1027 : decode code 1027 = .ok (.iload_n 3, 1) := by decide +kernel
theorem dl_1028 : decode code 1028 = .ok (.iconst 1, 1) := by decide +kernel
theorem dl_1029 : decode code 1029 = .ok (.iadd, 1) := by decide +kernel
theorem dl_1030 : decode code 1030 = .ok (.iaload, 1) := by decide +kernel
theorem dl_1031 : decode code 1031 = .ok (.aload_n 0, 1) := by decide +kernel
theorem dl_1032 : decode code 1032 = .ok (.iload_n 3, 1) := by decide +kernel
theorem dl_1033 : decode code 1033 = .ok (.iconst 2, 1) := by decide +kernel
theorem dl_1034 : decode code 1034 = .ok (.iadd, 1) := by decide +kernel
theorem dl_1035 : decode code 1035 = .ok (.iaload, 1) := by decide +kernel
theorem dl_1036 : decode code 1036 = .ok (.aload_n 0, 1) := by decide +kernel
theorem dl_1037 : decode code 1037 = .ok (.iload_n 3, 1) := by decide +kernel
theorem dl_1038 : decode code 1038 = .ok (.iconst 3, 1) := by decide +kernel
theorem dl_1039 : decode code 1039 = .ok (.iadd, 1) := by decide +kernel
theorem dl_1040 : decode code 1040 = .ok (.iaload, 1) := by decide +kernel
theorem dl_1041 : decode code 1041 = .ok (.invokevirtual 128, 3) := by decide +kernel
theorem dl_1044 : decode code 1044 = .ok (.if_icmp .eq 134, 3) := by decide +kernel
theorem dl_1047 : decode code 1047 = .ok (.iconst 0, 1) := by decide +kernel
theorem dl_1048 : decode code 1048 = .ok (.ireturn, 1) := by decide +kernel
theorem dl_1049 : decode code 1049 = .ok (.aload_n 1, 1) := by decide +kernel
theorem dl_1050 : decode code 1050 = .ok (.aload_n 0, 1) := by decide +kernel
theorem dl_1051 : decode code 1051 = .ok (.iload_n 3, 1) := by decide +kernel
theorem dl_1052 : decode code 1052 = .ok (.iconst 1, 1) := by decide +kernel
theorem dl_1053 : decode code 1053 = .ok (.iadd, 1) := by decide +kernel
theorem dl_1054 : decode code 1054 = .ok (.iaload, 1) := by decide +kernel
theorem dl_1055 : decode code 1055 = .ok (.aload_n 0, 1) := by decide +kernel
theorem dl_1056 : decode code 1056 = .ok (.iload_n 3, 1) := by decide +kernel
theorem dl_1057 : decode code 1057 = .ok (.iconst 2, 1) := by decide +kernel
theorem dl_1058 : decode code 1058 = .ok (.iadd, 1) := by decide +kernel
theorem dl_1059 : decode code 1059 = .ok (.iaload, 1) := by decide +kernel
theorem dl_1060 : decode code 1060 = .ok (.aload_n 0, 1) := by decide +kernel
theorem dl_1061 : decode code 1061 = .ok (.iload_n 3, 1) := by decide +kernel
theorem dl_1062 : decode code 1062 = .ok (.iconst 3, 1) := by decide +kernel
theorem dl_1063 : decode code 1063 = .ok (.iadd, 1) := by decide +kernel
theorem dl_1064 : decode code 1064 = .ok (.iaload, 1) := by decide +kernel
theorem dl_1065 : decode code 1065 = .ok (.invokevirtual 129, 3) := by decide +kernel
theorem dl_1068 : decode code 1068 = .ok (.aload_n 2, 1) := by decide +kernel
theorem dl_1069 : decode code 1069 = .ok (.aload_n 0, 1) := by decide +kernel
theorem dl_1070 : decode code 1070 = .ok (.iload_n 3, 1) := by decide +kernel
theorem dl_1071 : decode code 1071 = .ok (.iconst 1, 1) := by decide +kernel
theorem dl_1072 : decode code 1072 = .ok (.iadd, 1) := by decide +kernel
theorem dl_1073 : decode code 1073 = .ok (.iaload, 1) := by decide +kernel
theorem dl_1074 : decode code 1074 = .ok (.aload_n 0, 1) := by decide +kernel
theorem dl_1075 : decode code 1075 = .ok (.iload_n 3, 1) := by decide +kernel
theorem dl_1076 : decode code 1076 = .ok (.iconst 2, 1) := by decide +kernel
theorem dl_1077 : decode code 1077 = .ok (.iadd, 1) := by decide +kernel
theorem dl_1078 : decode code 1078 = .ok (.iaload, 1) := by decide +kernel
theorem dl_1079 : decode code 1079 = .ok (.aload_n 0, 1) := by decide +kernel
theorem dl_1080 : decode code 1080 = .ok (.iload_n 3, 1) := by decide +kernel
theorem dl_1081 : decode code 1081 = .ok (.iconst 3, 1) := by decide +kernel
theorem dl_1082 : decode code 1082 = .ok (.iadd, 1) := by decide +kernel
theorem dl_1083 : decode code 1083 = .ok (.iaload, 1) := by decide +kernel
theorem dl_1084 : decode code 1084 = .ok (.invokevirtual 132, 3) := by decide +kernel
theorem dl_1087 : decode code 1087 = .ok (.if_icmp .eq 91, 3) := by decide +kernel
theorem dl_1090 : decode code 1090 = .ok (.iconst 0, 1) := by decide +kernel
theorem dl_1091 : decode code 1091 = .ok (.ireturn, 1) := by decide +kernel
theorem dl_1092 : decode code 1092 = .ok (.aload_n 1, 1) := by decide +kernel
theorem dl_1093 : decode code 1093 = .ok (.aload_n 0, 1) := by decide +kernel
theorem dl_1094 : decode code 1094 = .ok (.iload_n 3, 1) := by decide +kernel
theorem dl_1095 : decode code 1095 = .ok (.iconst 1, 1) := by decide +kernel
theorem dl_1096 : decode code 1096 = .ok (.iadd, 1) := by decide +kernel
theorem dl_1097 : decode code 1097 = .ok (.iaload, 1) := by decide +kernel
theorem dl_1098 : decode code 1098 = .ok (.aload_n 0, 1) := by decide +kernel
theorem dl_1099 : decode code 1099 = .ok (.iload_n 3, 1) := by decide +kernel
theorem dl_1100 : decode code 1100 = .ok (.iconst 2, 1) := by decide +kernel
theorem dl_1101 : decode code 1101 = .ok (.iadd, 1) := by decide +kernel
theorem dl_1102 : decode code 1102 = .ok (.iaload, 1) := by decide +kernel
theorem dl_1103 : decode code 1103 = .ok (.aload_n 0, 1) := by decide +kernel
theorem dl_1104 : decode code 1104 = .ok (.iload_n 3, 1) := by decide +kernel
theorem dl_1105 : decode code 1105 = .ok (.iconst 3, 1) := by decide +kernel
theorem dl_1106 : decode code 1106 = .ok (.iadd, 1) := by decide +kernel
theorem dl_1107 : decode code 1107 = .ok (.iaload, 1) := by decide +kernel
theorem dl_1108 : decode code 1108 = .ok (.aload_n 0, 1) := by decide +kernel
theorem dl_1109 : decode code 1109 = .ok (.iload_n 3, 1) := by decide +kernel
theorem dl_1110 : decode code 1110 = .ok (.iconst 4, 1) := by decide +kernel
theorem dl_1111 : decode code 1111 = .ok (.iadd, 1) := by decide +kernel
theorem dl_1112 : decode code 1112 = .ok (.iaload, 1) := by decide +kernel
theorem dl_1113 : decode code 1113 = .ok (.aload_n 0, 1) := by decide +kernel
theorem dl_1114 : decode code 1114 = .ok (.iload_n 3, 1) := by decide +kernel
theorem dl_1115 : decode code 1115 = .ok (.iconst 5, 1) := by decide +kernel
theorem dl_1116 : decode code 1116 = .ok (.iadd, 1) := by decide +kernel
theorem dl_1117 : decode code 1117 = .ok (.iaload, 1) := by decide +kernel
theorem dl_1118 : decode code 1118 = .ok (.invokevirtual 133, 3) := by decide +kernel
theorem dl_1121 : decode code 1121 = .ok (.aload_n 2, 1) := by decide +kernel
theorem dl_1122 : decode code 1122 = .ok (.aload_n 0, 1) := by decide +kernel
theorem dl_1123 : decode code 1123 = .ok (.iload_n 3, 1) := by decide +kernel
theorem dl_1124 : decode code 1124 = .ok (.iconst 1, 1) := by decide +kernel
theorem dl_1125 : decode code 1125 = .ok (.iadd, 1) := by decide +kernel
theorem dl_1126 : decode code 1126 = .ok (.iaload, 1) := by decide +kernel
theorem dl_1127 : decode code 1127 = .ok (.aload_n 0, 1) := by decide +kernel
theorem dl_1128 : decode code 1128 = .ok (.iload_n 3, 1) := by decide +kernel
theorem dl_1129 : decode code 1129 = .ok (.iconst 2, 1) := by decide +kernel
theorem dl_1130 : decode code 1130 = .ok (.iadd, 1) := by decide +kernel
theorem dl_1131 : decode code 1131 = .ok (.iaload, 1) := by decide +kernel
theorem dl_1132 : decode code 1132 = .ok (.aload_n 0, 1) := by decide +kernel
theorem dl_1133 : decode code 1133 = .ok (.iload_n 3, 1) := by decide +kernel
theorem dl_1134 : decode code 1134 = .ok (.iconst 3, 1) := by decide +kernel
theorem dl_1135 : decode code 1135 = .ok (.iadd, 1) := by decide +kernel
theorem dl_1136 : decode code 1136 = .ok (.iaload, 1) := by decide +kernel
theorem dl_1137 : decode code 1137 = .ok (.aload_n 0, 1) := by decide +kernel
theorem dl_1138 : decode code 1138 = .ok (.iload_n 3, 1) := by decide +kernel
theorem dl_1139 : decode code 1139 = .ok (.iconst 4, 1) := by decide +kernel
theorem dl_1140 : decode code 1140 = .ok (.iadd, 1) := by decide +kernel
theorem dl_1141 : decode code 1141 = .ok (.iaload, 1) := by decide +kernel
theorem dl_1142 : decode code 1142 = .ok (.aload_n 0, 1) := by decide +kernel
theorem dl_1143 : decode code 1143 = .ok (.iload_n 3, 1) := by decide +kernel
theorem dl_1144 : decode code 1144 = .ok (.iconst 5, 1) := by decide +kernel
theorem dl_1145 : decode code 1145 = .ok (.iadd, 1) := by decide +kernel
theorem dl_1146 : decode code 1146 = .ok (.iaload, 1) := by decide +kernel
theorem dl_1147 : decode code 1147 = .ok (.invokevirtual 137, 3) := by decide +kernel
theorem dl_1150 : decode code 1150 = .ok (.if_icmp .eq 28, 3) := by decide +kernel
theorem dl_1153 : decode code 1153 = .ok (.iconst 0, 1) := by decide +kernel
theorem dl_1154 : decode code 1154 = .ok (.ireturn, 1) := by decide +kernel
theorem dl_1155 : decode code 1155 = .ok (.aload_n 1, 1) := by decide +kernel
theorem dl_1156 : decode code 1156 = .ok (.aload_n 0, 1) := by decide +kernel
theorem dl_1157 : decode code 1157 = .ok (.iload_n 3, 1) := by decide +kernel
theorem dl_1158 : decode code 1158 = .ok (.iconst 1, 1) := by decide +kernel
theorem dl_1159 : decode code 1159 = .ok (.iadd, 1) := by decide +kernel
theorem dl_1160 : decode code 1160 = .ok (.iaload, 1) := by decide +kernel
theorem dl_1161 : decode code 1161 = .ok (.invokevirtual 138, 3) := by decide +kernel
theorem dl_1164 : decode code 1164 = .ok (.aload_n 2, 1) := by decide +kernel
theorem dl_1165 : decode code 1165 = .ok (.aload_n 0, 1) := by decide +kernel
theorem dl_1166 : decode code 1166 = .ok (.iload_n 3, 1) := by decide +kernel
theorem dl_1167 : decode code 1167 = .ok (.iconst 1, 1) := by decide +kernel
theorem dl_1168 : decode code 1168 = .ok (.iadd, 1) := by decide +kernel
theorem dl_1169 : decode code 1169 = .ok (.iaload, 1) := by decide +kernel
theorem dl_1170 : decode code 1170 = .ok (.invokevirtual 141, 3) := by decide +kernel
theorem dl_1173 : decode code 1173 = .ok (.if_icmp .eq 5, 3) := by decide +kernel
theorem dl_1176 : decode code 1176 = .ok (.iconst 0, 1) := by decide +kernel
theorem dl_1177 : decode code 1177 = .ok (.ireturn, 1) := by decide +kernel
theorem dl_1178 : decode code 1178 = .ok (.iinc 3 6, 3) := by decide +kernel
theorem dl_1181 : decode code 1181 = .ok (.goto (-1163), 3) := by decide +kernel
theorem dl_1184 : decode code 1184 = .ok (.iconst 1, 1) := by decide +kernel
theorem dl_1185 : decode code 1185 = .ok (.ireturn, 1) := by decide +kernel
