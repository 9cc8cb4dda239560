theorem dL_law_0 : decode cL_law 0 = .ok (.new 7, 3) := by decide +kernel
theorem dL_law_3 : decode cL_law 3 = .ok (.dup, 1) := by decide +kernel
theorem dL_law_4 : decode cL_law 4 = .ok (.invokespecial 9, 3) := by decide +kernel
theorem dL_law_7 : decode cL_law 7 = .ok (.astore_n 1, 1) := by decide +kernel
theorem dL_law_8 : decode cL_law 8 = .ok (.new 10, 3) := by decide +kernel
theorem dL_law_11 : decode cL_law 11 = .ok (.dup, 1) := by decide +kernel
theorem dL_law_12 : decode cL_law 12 = .ok (.invokespecial 12, 3) := by decide +kernel
theorem dL_law_15 : decode cL_law 15 = .ok (.astore_n 2, 1) := by decide +kernel
theorem dL_law_16 : decode cL_law 16 = .ok (.iconst 0, 1) := by decide +kernel
theorem dL_law_17 : decode cL_law 17 = .ok (.istore_n 3, 1) := by decide +kernel
theorem dL_law_18 : decode cL_law 18 = .ok (.iload_n 3, 1) := by decide +kernel
theorem dL_law_19 : decode cL_law 19 = .ok (.aload_n 0, 1) := by decide +kernel
theorem dL_law_20 : decode cL_law 20 = .ok (.arraylength, 1) := by decide +kernel
theorem dL_law_21 : decode cL_law 21 = .ok (.bipush 6, 2) := by decide +kernel
theorem dL_law_23 : decode cL_law 23 = .ok (.isub, 1) := by decide +kernel
theorem dL_law_24 : decode cL_law 24 = .ok (.if_icmp .gt 1334, 3) := by decide +kernel
theorem dL_law_27 : decode cL_law 27 = .ok (.aload_n 0, 1) := by decide +kernel
theorem dL_law_28 : decode cL_law 28 = .ok (.iload_n 3, 1) := by decide +kernel
theorem dL_law_29 : decode cL_law 29 = .ok (.iaload, 1) := by decide +kernel
theorem dL_law_30 : decode cL_law 30 = .ok (.bipush 63, 2) := by decide +kernel
theorem dL_law_32 : decode cL_law 32 = .ok (.iand, 1) := by decide +kernel
theorem dL_law_33 : decode cL_law 33 = .ok (.tableswitch 1319 0 42 #[187, 220, 263, 296, 319, 382, 405, 438, 481, 504, 527, 560, 593, 616, 649, 672, 705, 738, 761, 784, 807, 840, 863, 886, 899, 912, 955, 978, 1001, 1014, 1027, 1050, 1083, 1116, 1149, 1172, 1205, 1218, 1232, 1246, 1269, 1282, 1305], 187) := by decide +kernel
theorem dL_law_220 : decode cL_law 220 = .ok (.aload_n 1, 1) := by decide +kernel
theorem dL_law_221 : decode cL_law 221 = .ok (.aload_n 0, 1) := by decide +kernel
theorem dL_law_222 : decode cL_law 222 = .ok (.iload_n 3, 1) := by decide +kernel
theorem dL_law_223 : decode cL_law 223 = .ok (.iconst 1, 1) := by decide +kernel
theorem dL_law_224 : decode cL_law 224 = .ok (.iadd, 1) := by decide +kernel
theorem dL_law_225 : decode cL_law 225 = .ok (.iaload, 1) := by decide +kernel
theorem dL_law_226 : decode cL_law 226 = .ok (.aload_n 0, 1) := by decide +kernel
theorem dL_law_227 : decode cL_law 227 = .ok (.iload_n 3, 1) := by decide +kernel
theorem dL_law_228 : decode cL_law 228 = .ok (.iconst 2, 1) := by decide +kernel
theorem dL_law_229 : decode cL_law 229 = .ok (.iadd, 1) := by decide +kernel
theorem dL_law_230 : decode cL_law 230 = .ok (.iaload, 1) := by decide +kernel
theorem dL_law_231 : decode cL_law 231 = .ok (.invokevirtual 13, 3) := by decide +kernel
theorem dL_law_234 : decode cL_law 234 = .ok (.aload_n 2, 1) := by decide +kernel
theorem dL_law_235 : decode cL_law 235 = .ok (.aload_n 0, 1) := by decide +kernel
theorem dL_law_236 : decode cL_law 236 = .ok (.iload_n 3, 1) := by decide +kernel
theorem dL_law_237 : decode cL_law 237 = .ok (.iconst 1, 1) := by decide +kernel
theorem dL_law_238 : decode cL_law 238 = .ok (.iadd, 1) := by decide +kernel
theorem dL_law_239 : decode cL_law 239 = .ok (.iaload, 1) := by decide +kernel
theorem dL_law_240 : decode cL_law 240 = .ok (.aload_n 0, 1) := by decide +kernel
theorem dL_law_241 : decode cL_law 241 = .ok (.iload_n 3, 1) := by decide +kernel
theorem dL_law_242 : decode cL_law 242 = .ok (.iconst 2, 1) := by decide +kernel
theorem dL_law_243 : decode cL_law 243 = .ok (.iadd, 1) := by decide +kernel
theorem dL_law_244 : decode cL_law 244 = .ok (.iaload, 1) := by decide +kernel
theorem dL_law_245 : decode cL_law 245 = .ok (.invokevirtual 17, 3) := by decide +kernel
theorem dL_law_248 : decode cL_law 248 = .ok (.if_icmp .eq 1104, 3) := by decide +kernel
theorem dL_law_251 : decode cL_law 251 = .ok (.iconst 0, 1) := by decide +kernel
theorem dL_law_252 : decode cL_law 252 = .ok (.ireturn, 1) := by decide +kernel
theorem dL_law_253 : decode cL_law 253 = .ok (.aload_n 1, 1) := by decide +kernel
theorem dL_law_254 : decode cL_law 254 = .ok (.aload_n 0, 1) := by decide +kernel
theorem dL_law_255 : decode cL_law 255 = .ok (.iload_n 3, 1) := by decide +kernel
theorem dL_law_256 : decode cL_law 256 = .ok (.iconst 1, 1) := by decide +kernel
theorem dL_law_257 : decode cL_law 257 = .ok (.iadd, 1) := by decide +kernel
theorem dL_law_258 : decode cL_law 258 = .ok (.iaload, 1) := by decide +kernel
theorem dL_law_259 : decode cL_law 259 = .ok (.aload_n 0, 1) := by decide +kernel
theorem dL_law_260 : decode cL_law 260 = .ok (.iload_n 3, 1) := by decide +kernel
theorem dL_law_261 : decode cL_law 261 = .ok (.iconst 2, 1) := by decide +kernel
theorem dL_law_262 : decode cL_law 262 = .ok (.iadd, 1) := by decide +kernel
theorem dL_law_263 : decode cL_law 263 = .ok (.iaload, 1) := by decide +kernel
theorem dL_law_264 : decode cL_law 264 = .ok (.aload_n 0, 1) := by decide +kernel
theorem dL_law_265 : decode cL_law 265 = .ok (.iload_n 3, 1) := by decide +kernel
theorem dL_law_266 : decode cL_law 266 = .ok (.iconst 3, 1) := by decide +kernel
theorem dL_law_267 : decode cL_law 267 = .ok (.iadd, 1) := by decide +kernel
theorem dL_law_268 : decode cL_law 268 = .ok (.iaload, 1) := by decide +kernel
theorem dL_law_269 : decode cL_law 269 = .ok (.invokevirtual 18, 3) := by decide +kernel
theorem dL_law_272 : decode cL_law 272 = .ok (.aload_n 2, 1) := by decide +kernel
theorem dL_law_273 : decode cL_law 273 = .ok (.aload_n 0, 1) := by decide +kernel
theorem dL_law_274 : decode cL_law 274 = .ok (.iload_n 3, 1) := by decide +kernel
theorem dL_law_275 : decode cL_law 275 = .ok (.iconst 1, 1) := by decide +kernel
theorem dL_law_276 : decode cL_law 276 = .ok (.iadd, 1) := by decide +kernel
theorem dL_law_277 : decode cL_law 277 = .ok (.iaload, 1) := by decide +kernel
theorem dL_law_278 : decode cL_law 278 = .ok (.aload_n 0, 1) := by decide +kernel
theorem dL_law_279 : decode cL_law 279 = .ok (.iload_n 3, 1) := by decide +kernel
theorem dL_law_280 : decode cL_law 280 = .ok (.iconst 2, 1) := by decide +kernel
theorem dL_law_281 : decode cL_law 281 = .ok (.iadd, 1) := by decide +kernel
theorem dL_law_282 : decode cL_law 282 = .ok (.iaload, 1) := by decide +kernel
theorem dL_law_283 : decode cL_law 283 = .ok (.aload_n 0, 1) := by decide +kernel
theorem dL_law_284 : decode cL_law 284 = .ok (.iload_n 3, 1) := by decide +kernel
theorem dL_law_285 : decode cL_law 285 = .ok (.iconst 3, 1) := by decide +kernel
theorem dL_law_286 : decode cL_law 286 = .ok (.iadd, 1) := by decide +kernel
theorem dL_law_287 : decode cL_law 287 = .ok (.iaload, 1) := by decide +kernel
theorem dL_law_288 : decode cL_law 288 = .ok (.invokevirtual 22, 3) := by decide +kernel
theorem dL_law_291 : decode cL_law 291 = .ok (.if_icmp .eq 1061, 3) := by decide +kernel
theorem dL_law_294 : decode cL_law 294 = .ok (.iconst 0, 1) := by decide +kernel
theorem dL_law_295 : decode cL_law 295 = .ok (.ireturn, 1) := by decide +kernel
theorem dL_law_296 : decode cL_law 296 = .ok (.aload_n 1, 1) := by decide +kernel
theorem dL_law_297 : decode cL_law 297 = .ok (.aload_n 0, 1) := by decide +kernel
theorem dL_law_298 : decode cL_law 298 = .ok (.iload_n 3, 1) := by decide +kernel
theorem dL_law_299 : decode cL_law 299 = .ok (.iconst 1, 1) := by decide +kernel
theorem dL_law_300 : decode cL_law 300 = .ok (.iadd, 1) := by decide +kernel
theorem dL_law_301 : decode cL_law 301 = .ok (.iaload, 1) := by decide +kernel
theorem dL_law_302 : decode cL_law 302 = .ok (.aload_n 0, 1) := by decide +kernel
theorem dL_law_303 : decode cL_law 303 = .ok (.iload_n 3, 1) := by decide +kernel
theorem dL_law_304 : decode cL_law 304 = .ok (.iconst 2, 1) := by decide +kernel
theorem dL_law_305 : decode cL_law 305 = .ok (.iadd, 1) := by decide +kernel
theorem dL_law_306 : decode cL_law 306 = .ok (.iaload, 1) := by decide +kernel
theorem dL_law_307 : decode cL_law 307 = .ok (.invokevirtual 23, 3) := by decide +kernel
theorem dL_law_310 : decode cL_law 310 = .ok (.aload_n 2, 1) := by decide +kernel
theorem dL_law_311 : decode cL_law 311 = .ok (.aload_n 0, 1) := by decide +kernel
theorem dL_law_312 : decode cL_law 312 = .ok (.iload_n 3, 1) := by decide +kernel
theorem dL_law_313 : decode cL_law 313 = .ok (.iconst 1, 1) := by decide +kernel
theorem dL_law_314 : decode cL_law 314 = .ok (.iadd, 1) := by decide +kernel
theorem dL_law_315 : decode cL_law 315 = .ok (.iaload, 1) := by decide +kernel
theorem dL_law_316 : decode cL_law 316 = .ok (.aload_n 0, 1) := by decide +kernel
theorem dL_law_317 : decode cL_law 317 = .ok (.iload_n 3, 1) := by decide +kernel
theorem dL_law_318 : decode cL_law 318 = .ok (.iconst 2, 1) := by decide +kernel
theorem dL_law_319 : decode cL_law 319 = .ok (.iadd, 1) := by decide +kernel
theorem dL_law_320 : decode cL_law 320 = .ok (.iaload, 1) := by decide +kernel
theorem dL_law_321 : decode cL_law 321 = .ok (.invokevirtual 26, 3) := by decide +kernel
theorem dL_law_324 : decode cL_law 324 = .ok (.if_icmp .eq 1028, 3) := by decide +kernel
theorem dL_law_327 : decode cL_law 327 = .ok (.iconst 0, 1) := by decide +kernel
theorem dL_law_328 : decode cL_law 328 = .ok (.ireturn, 1) := by decide +kernel
theorem dL_law_329 : decode cL_law 329 = .ok (.aload_n 1, 1) := by decide +kernel
theorem dL_law_330 : decode cL_law 330 = .ok (.aload_n 0, 1) := by decide +kernel
theorem dL_law_331 : decode cL_law 331 = .ok (.iload_n 3, 1) := by decide +kernel
theorem dL_law_332 : decode cL_law 332 = .ok (.iconst 1, 1) := by decide +kernel
theorem dL_law_333 : decode cL_law 333 = .ok (.iadd, 1) := by decide +kernel
theorem dL_law_334 : decode cL_law 334 = .ok (.iaload, 1) := by decide +kernel
theorem dL_law_335 : decode cL_law 335 = .ok (.invokevirtual 27, 3) := by decide +kernel
theorem dL_law_338 : decode cL_law 338 = .ok (.aload_n 2, 1) := by decide +kernel
theorem dL_law_339 : decode cL_law 339 = .ok (.aload_n 0, 1) := by decide +kernel
theorem dL_law_340 : decode cL_law 340 = .ok (.iload_n 3, 1) := by decide +kernel
theorem dL_law_341 : decode cL_law 341 = .ok (.iconst 1, 1) := by decide +kernel
theorem dL_law_342 : decode cL_law 342 = .ok (.iadd, 1) := by decide +kernel
theorem dL_law_343 : decode cL_law 343 = .ok (.iaload, 1) := by decide +kernel
theorem dL_law_344 : decode cL_law 344 = .ok (.invokevirtual 31, 3) := by decide +kernel
theorem dL_law_347 : decode cL_law 347 = .ok (.if_icmp .eq 1005, 3) := by decide +kernel
theorem dL_law_350 : decode cL_law 350 = .ok (.iconst 0, 1) := by decide +kernel
theorem dL_law_351 : decode cL_law 351 = .ok (.ireturn, 1) := by decide +kernel
theorem dL_law_352 : decode cL_law 352 = .ok (.aload_n 1, 1) := by decide +kernel
theorem dL_law_353 : decode cL_law 353 = .ok (.aload_n 0, 1) := by decide +kernel
theorem dL_law_354 : decode cL_law 354 = .ok (.iload_n 3, 1) := by decide +kernel
theorem dL_law_355 : decode cL_law 355 = .ok (.iconst 1, 1) := by decide +kernel
theorem dL_law_356 : decode cL_law 356 = .ok (.iadd, 1) := by decide +kernel
theorem dL_law_357 : decode cL_law 357 = .ok (.iaload, 1) := by decide +kernel
theorem dL_law_358 : decode cL_law 358 = .ok (.aload_n 0, 1) := by decide +kernel
theorem dL_law_359 : decode cL_law 359 = .ok (.iload_n 3, 1) := by decide +kernel
theorem dL_law_360 : decode cL_law 360 = .ok (.iconst 2, 1) := by decide +kernel
theorem dL_law_361 : decode cL_law 361 = .ok (.iadd, 1) := by decide +kernel
theorem dL_law_362 : decode cL_law 362 = .ok (.iaload, 1) := by decide +kernel
theorem dL_law_363 : decode cL_law 363 = .ok (.aload_n 0, 1) := by decide +kernel
theorem dL_law_364 : decode cL_law 364 = .ok (.iload_n 3, 1) := by decide +kernel
theorem dL_law_365 : decode cL_law 365 = .ok (.iconst 3, 1) := by decide +kernel
theorem dL_law_366 : decode cL_law 366 = .ok (.iadd, 1) := by decide +kernel
theorem dL_law_367 : decode cL_law 367 = .ok (.iaload, 1) := by decide +kernel
theorem dL_law_368 : decode cL_law 368 = .ok (.aload_n 0, 1) := by decide +kernel
theorem dL_law_369 : decode cL_law 369 = .ok (.iload_n 3, 1) := by decide +kernel
theorem dL_law_370 : decode cL_law 370 = .ok (.iconst 4, 1) := by decide +kernel
theorem dL_law_371 : decode cL_law 371 = .ok (.iadd, 1) := by decide +kernel
theorem dL_law_372 : decode cL_law 372 = .ok (.iaload, 1) := by decide +kernel
theorem dL_law_373 : decode cL_law 373 = .ok (.aload_n 0, 1) := by decide +kernel
theorem dL_law_374 : decode cL_law 374 = .ok (.iload_n 3, 1) := by decide +kernel
theorem dL_law_375 : decode cL_law 375 = .ok (.iconst 5, 1) := by decide +kernel
theorem dL_law_376 : decode cL_law 376 = .ok (.iadd, 1) := by decide +kernel
theorem dL_law_377 : decode cL_law 377 = .ok (.iaload, 1) := by decide +kernel
theorem dL_law_378 : decode cL_law 378 = .ok (.invokevirtual 32, 3) := by decide +kernel
theorem dL_law_381 : decode cL_law 381 = .ok (.aload_n 2, 1) := by decide +kernel
theorem dL_law_382 : decode cL_law 382 = .ok (.aload_n 0, 1) := by decide +kernel
theorem dL_law_383 : decode cL_law 383 = .ok (.iload_n 3, 1) := by decide +kernel
theorem dL_law_384 : decode cL_law 384 = .ok (.iconst 1, 1) := by decide +kernel
theorem dL_law_385 : decode cL_law 385 = .ok (.iadd, 1) := by decide +kernel
theorem dL_law_386 : decode cL_law 386 = .ok (.iaload, 1) := by decide +kernel
theorem dL_law_387 : decode cL_law 387 = .ok (.aload_n 0, 1) := by decide +kernel
theorem dL_law_388 : decode cL_law 388 = .ok (.iload_n 3, 1) := by decide +kernel
theorem dL_law_389 : decode cL_law 389 = .ok (.iconst 2, 1) := by decide +kernel
theorem dL_law_390 : decode cL_law 390 = .ok (.iadd, 1) := by decide +kernel
theorem dL_law_391 : decode cL_law 391 = .ok (.iaload, 1) := by decide +kernel
theorem dL_law_392 : decode cL_law 392 = .ok (.aload_n 0, 1) := by decide +kernel
theorem dL_law_393 : decode cL_law 393 = .ok (.iload_n 3, 1) := by decide +kernel
theorem dL_law_394 : decode cL_law 394 = .ok (.iconst 3, 1) := by decide +kernel
theorem dL_law_395 : decode cL_law 395 = .ok (.iadd, 1) := by decide +kernel
theorem dL_law_396 : decode cL_law 396 = .ok (.iaload, 1) := by decide +kernel
theorem dL_law_397 : decode cL_law 397 = .ok (.aload_n 0, 1) := by decide +kernel
theorem dL_law_398 : decode cL_law 398 = .ok (.iload_n 3, 1) := by decide +kernel
theorem dL_law_399 : decode cL_law 399 = .ok (.iconst 4, 1) := by decide +kernel
theorem dL_law_400 : decode cL_law 400 = .ok (.iadd, 1) := by decide +kernel
theorem dL_law_401 : decode cL_law 401 = .ok (.iaload, 1) := by decide +kernel
theorem dL_law_402 : decode cL_law 402 = .ok (.aload_n 0, 1) := by decide +kernel
theorem dL_law_403 : decode cL_law 403 = .ok (.iload_n 3, 1) := by decide +kernel
theorem dL_law_404 : decode cL_law 404 = .ok (.iconst 5, 1) := by decide +kernel
theorem dL_law_405 : decode cL_law 405 = .ok (.iadd, 1) := by decide +kernel
theorem dL_law_406 : decode cL_law 406 = .ok (.iaload, 1) := by decide +kernel
theorem dL_law_407 : decode cL_law 407 = .ok (.invokevirtual 36, 3) := by decide +kernel
theorem dL_law_410 : decode cL_law 410 = .ok (.if_icmp .eq 942, 3) := by decide +kernel
theorem dL_law_413 : decode cL_law 413 = .ok (.iconst 0, 1) := by decide +kernel
theorem dL_law_414 : decode cL_law 414 = .ok (.ireturn, 1) := by decide +kernel
theorem dL_law_415 : decode cL_law 415 = .ok (.aload_n 1, 1) := by decide +kernel
theorem dL_law_416 : decode cL_law 416 = .ok (.aload_n 0, 1) := by decide +kernel
theorem dL_law_417 : decode cL_law 417 = .ok (.iload_n 3, 1) := by decide +kernel
theorem dL_law_418 : decode cL_law 418 = .ok (.iconst 1, 1) := by decide +kernel
theorem dL_law_419 : decode cL_law 419 = .ok (.iadd, 1) := by decide +kernel
theorem dL_law_420 : decode cL_law 420 = .ok (.iaload, 1) := by decide +kernel
theorem dL_law_421 : decode cL_law 421 = .ok (.invokevirtual 37, 3) := by decide +kernel
theorem dL_law_424 : decode cL_law 424 = .ok (.aload_n 2, 1) := by decide +kernel
theorem dL_law_425 : decode cL_law 425 = .ok (.aload_n 0, 1) := by decide +kernel
theorem dL_law_426 : decode cL_law 426 = .ok (.iload_n 3, 1) := by decide +kernel
theorem dL_law_427 : decode cL_law 427 = .ok (.iconst 1, 1) := by decide +kernel
theorem dL_law_428 : decode cL_law 428 = .ok (.iadd, 1) := by decide +kernel
theorem dL_law_429 : decode cL_law 429 = .ok (.iaload, 1) := by decide +kernel
theorem dL_law_430 : decode cL_law 430 = .ok (.invokevirtual 40, 3) := by decide +kernel
theorem dL_law_433 : decode cL_law 433 = .ok (.if_icmp .eq 919, 3) := by decide +kernel
theorem dL_law_436 : decode cL_law 436 = .ok (.iconst 0, 1) := by decide +kernel
theorem dL_law_437 : decode cL_law 437 = .ok (.ireturn, 1) := by decide +kernel
theorem dL_law_438 : decode cL_law 438 = .ok (.aload_n 1, 1) := by decide +kernel
theorem dL_law_439 : decode cL_law 439 = .ok (.aload_n 0, 1) := by decide +kernel
theorem dL_law_440 : decode cL_law 440 = .ok (.iload_n 3, 1) := by decide +kernel
theorem dL_law_441 : decode cL_law 441 = .ok (.iconst 1, 1) := by decide +kernel
theorem dL_law_442 : decode cL_law 442 = .ok (.iadd, 1) := by decide +kernel
theorem dL_law_443 : decode cL_law 443 = .ok (.iaload, 1) := by decide +kernel
theorem dL_law_444 : decode cL_law 444 = .ok (.aload_n 0, 1) := by decide +kernel
theorem dL_law_445 : decode cL_law 445 = .ok (.iload_n 3, 1) := by decide +kernel
theorem dL_law_446 : decode cL_law 446 = .ok (.iconst 2, 1) := by decide +kernel
theorem dL_law_447 : decode cL_law 447 = .ok (.iadd, 1) := by decide +kernel
theorem dL_law_448 : decode cL_law 448 = .ok (.iaload, 1) := by decide +kernel
theorem dL_law_449 : decode cL_law 449 = .ok (.invokevirtual 41, 3) := by decide +kernel
theorem dL_law_452 : decode cL_law 452 = .ok (.aload_n 2, 1) := by decide +kernel
theorem dL_law_453 : decode cL_law 453 = .ok (.aload_n 0, 1) := by decide +kernel
theorem dL_law_454 : decode cL_law 454 = .ok (.iload_n 3, 1) := by decide +kernel
theorem dL_law_455 : decode cL_law 455 = .ok (.iconst 1, 1) := by decide +kernel
theorem dL_law_456 : decode cL_law 456 = .ok (.iadd, 1) := by decide +kernel
theorem dL_law_457 : decode cL_law 457 = .ok (.iaload, 1) := by decide +kernel
theorem dL_law_458 : decode cL_law 458 = .ok (.aload_n 0, 1) := by decide +kernel
theorem dL_law_459 : decode cL_law 459 = .ok (.iload_n 3, 1) := by decide +kernel
theorem dL_law_460 : decode cL_law 460 = .ok (.iconst 2, 1) := by decide +kernel
theorem dL_law_461 : decode cL_law 461 = .ok (.iadd, 1) := by decide +kernel
theorem dL_law_462 : decode cL_law 462 = .ok (.iaload, 1) := by decide +kernel
theorem dL_law_463 : decode cL_law 463 = .ok (.invokevirtual 44, 3) := by decide +kernel
theorem dL_law_466 : decode cL_law 466 = .ok (.if_icmp .eq 886, 3) := by decide +kernel
theorem dL_law_469 : decode cL_law 469 = .ok (.iconst 0, 1) := by decide +kernel
theorem dL_law_470 : decode cL_law 470 = .ok (.ireturn, 1) := by decide +kernel
theorem dL_law_471 : decode cL_law 471 = .ok (.aload_n 1, 1) := by decide +kernel
theorem dL_law_472 : decode cL_law 472 = .ok (.aload_n 0, 1) := by decide +kernel
theorem dL_law_473 : decode cL_law 473 = .ok (.iload_n 3, 1) := by decide +kernel
theorem dL_law_474 : decode cL_law 474 = .ok (.iconst 1, 1) := by decide +kernel
theorem dL_law_475 : decode cL_law 475 = .ok (.iadd, 1) := by decide +kernel
theorem dL_law_476 : decode cL_law 476 = .ok (.iaload, 1) := by decide +kernel
theorem dL_law_477 : decode cL_law 477 = .ok (.aload_n 0, 1) := by decide +kernel
theorem dL_law_478 : decode cL_law 478 = .ok (.iload_n 3, 1) := by decide +kernel
theorem dL_law_479 : decode cL_law 479 = .ok (.iconst 2, 1) := by decide +kernel
theorem dL_law_480 : decode cL_law 480 = .ok (.iadd, 1) := by decide +kernel
theorem dL_law_481 : decode cL_law 481 = .ok (.iaload, 1) := by decide +kernel
theorem dL_law_482 : decode cL_law 482 = .ok (.aload_n 0, 1) := by decide +kernel
theorem dL_law_483 : decode cL_law 483 = .ok (.iload_n 3, 1) := by decide +kernel
theorem dL_law_484 : decode cL_law 484 = .ok (.iconst 3, 1) := by decide +kernel
theorem dL_law_485 : decode cL_law 485 = .ok (.iadd, 1) := by decide +kernel
theorem dL_law_486 : decode cL_law 486 = .ok (.iaload, 1) := by decide +kernel
theorem dL_law_487 : decode cL_law 487 = .ok (.invokevirtual 45, 3) := by decide +kernel
theorem dL_law_490 : decode cL_law 490 = .ok (.aload_n 2, 1) := by decide +kernel
theorem dL_law_491 : decode cL_law 491 = .ok (.aload_n 0, 1) := by decide +kernel
theorem dL_law_492 : decode cL_law 492 = .ok (.iload_n 3, 1) := by decide +kernel
theorem dL_law_493 : decode cL_law 493 = .ok (.iconst 1, 1) := by decide +kernel
theorem dL_law_494 : decode cL_law 494 = .ok (.iadd, 1) := by decide +kernel
theorem dL_law_495 : decode cL_law 495 = .ok (.iaload, 1) := by decide +kernel
theorem dL_law_496 : decode cL_law 496 = .ok (.aload_n 0, 1) := by decide +kernel
theorem dL_law_497 : decode cL_law 497 = .ok (.iload_n 3, 1) := by decide +kernel
theorem dL_law_498 : decode cL_law 498 = .ok (.iconst 2, 1) := by decide +kernel
theorem dL_law_499 : decode cL_law 499 = .ok (.iadd, 1) := by decide +kernel
theorem dL_law_500 : decode cL_law 500 = .ok (.iaload, 1) := by decide +kernel
theorem dL_law_501 : decode cL_law 501 = .ok (.aload_n 0, 1) := by decide +kernel
theorem dL_law_502 : decode cL_law 502 = .ok (.iload_n 3, 1) := by decide +kernel
theorem dL_law_503 : decode cL_law 503 = .ok (.iconst 3, 1) := by decide +kernel
theorem dL_law_504 : decode cL_law 504 = .ok (.iadd, 1) := by decide +kernel
theorem dL_law_505 : decode cL_law 505 = .ok (.iaload, 1) := by decide +kernel
theorem dL_law_506 : decode cL_law 506 = .ok (.invokevirtual 48, 3) := by decide +kernel
theorem dL_law_509 : decode cL_law 509 = .ok (.if_icmp .eq 843, 3) := by decide +kernel
theorem dL_law_512 : decode cL_law 512 = .ok (.iconst 0, 1) := by decide +kernel
theorem dL_law_513 : decode cL_law 513 = .ok (.ireturn, 1) := by decide +kernel
theorem dL_law_514 : decode cL_law 514 = .ok (.aload_n 1, 1) := by decide +kernel
theorem dL_law_515 : decode cL_law 515 = .ok (.aload_n 0, 1) := by decide +kernel
theorem dL_law_516 : decode cL_law 516 = .ok (.iload_n 3, 1) := by decide +kernel
theorem dL_law_517 : decode cL_law 517 = .ok (.iconst 1, 1) := by decide +kernel
theorem dL_law_518 : decode cL_law 518 = .ok (.iadd, 1) := by decide +kernel
theorem dL_law_519 : decode cL_law 519 = .ok (.iaload, 1) := by decide +kernel
theorem dL_law_520 : decode cL_law 520 = .ok (.invokevirtual 49, 3) := by decide +kernel
theorem dL_law_523 : decode cL_law 523 = .ok (.aload_n 2, 1) := by decide +kernel
theorem dL_law_524 : decode cL_law 524 = .ok (.aload_n 0, 1) := by decide +kernel
theorem dL_law_525 : decode cL_law 525 = .ok (.iload_n 3, 1) := by decide +kernel
theorem dL_law_526 : decode cL_law 526 = .ok (.iconst 1, 1) := by decide +kernel
theorem dL_law_527 : decode cL_law 527 = .ok (.iadd, 1) := by decide +kernel
theorem dL_law_528 : decode cL_law 528 = .ok (.iaload, 1) := by decide +kernel
theorem dL_law_529 : decode cL_law 529 = .ok (.invokevirtual 52, 3) := by decide +kernel
theorem dL_law_532 : decode cL_law 532 = .ok (.if_icmp .eq 820, 3) := by decide +kernel
theorem dL_law_535 : decode cL_law 535 = .ok (.iconst 0, 1) := by decide +kernel
theorem dL_law_536 : decode cL_law 536 = .ok (.ireturn, 1) := by decide +kernel
theorem dL_law_537 : decode cL_law 537 = .ok (.aload_n 1, 1) := by decide +kernel
theorem dL_law_538 : decode cL_law 538 = .ok (.aload_n 0, 1) := by decide +kernel
theorem dL_law_539 : decode cL_law 539 = .ok (.iload_n 3, 1) := by decide +kernel
theorem dL_law_540 : decode cL_law 540 = .ok (.iconst 1, 1) := by decide +kernel
theorem dL_law_541 : decode cL_law 541 = .ok (.iadd, 1) := by decide +kernel
theorem dL_law_542 : decode cL_law 542 = .ok (.iaload, 1) := by decide +kernel
theorem dL_law_543 : decode cL_law 543 = .ok (.invokevirtual 53, 3) := by decide +kernel
theorem dL_law_546 : decode cL_law 546 = .ok (.aload_n 2, 1) := by decide +kernel
theorem dL_law_547 : decode cL_law 547 = .ok (.aload_n 0, 1) := by decide +kernel
theorem dL_law_548 : decode cL_law 548 = .ok (.iload_n 3, 1) := by decide +kernel
theorem dL_law_549 : decode cL_law 549 = .ok (.iconst 1, 1) := by decide +kernel
theorem dL_law_550 : decode cL_law 550 = .ok (.iadd, 1) := by decide +kernel
theorem dL_law_551 : decode cL_law 551 = .ok (.iaload, 1) := by decide +kernel
theorem dL_law_552 : decode cL_law 552 = .ok (.invokevirtual 56, 3) := by decide +kernel
theorem dL_law_555 : decode cL_law 555 = .ok (.if_icmp .eq 797, 3) := by decide +kernel
theorem dL_law_558 : decode cL_law 558 = .ok (.iconst 0, 1) := by decide +kernel
theorem dL_law_559 : decode cL_law 559 = .ok (.ireturn, 1) := by decide +kernel
theorem dL_law_560 : decode cL_law 560 = .ok (.aload_n 1, 1) := by decide +kernel
theorem dL_law_561 : decode cL_law 561 = .ok (.aload_n 0, 1) := by decide +kernel
theorem dL_law_562 : decode cL_law 562 = .ok (.iload_n 3, 1) := by decide +kernel
theorem dL_law_563 : decode cL_law 563 = .ok (.iconst 1, 1) := by decide +kernel
theorem dL_law_564 : decode cL_law 564 = .ok (.iadd, 1) := by decide +kernel
theorem dL_law_565 : decode cL_law 565 = .ok (.iaload, 1) := by decide +kernel
theorem dL_law_566 : decode cL_law 566 = .ok (.aload_n 0, 1) := by decide +kernel
theorem dL_law_567 : decode cL_law 567 = .ok (.iload_n 3, 1) := by decide +kernel
theorem dL_law_568 : decode cL_law 568 = .ok (.iconst 2, 1) := by decide +kernel
theorem dL_law_569 : decode cL_law 569 = .ok (.iadd, 1) := by decide +kernel
theorem dL_law_570 : decode cL_law 570 = .ok (.iaload, 1) := by decide +kernel
theorem dL_law_571 : decode cL_law 571 = .ok (.invokevirtual 57, 3) := by decide +kernel
theorem dL_law_574 : decode cL_law 574 = .ok (.aload_n 2, 1) := by decide +kernel
theorem dL_law_575 : decode cL_law 575 = .ok (.aload_n 0, 1) := by decide +kernel
theorem dL_law_576 : decode cL_law 576 = .ok (.iload_n 3, 1) := by decide +kernel
theorem dL_law_577 : decode cL_law 577 = .ok (.iconst 1, 1) := by decide +kernel
theorem dL_law_578 : decode cL_law 578 = .ok (.iadd, 1) := by decide +kernel
theorem dL_law_579 : decode cL_law 579 = .ok (.iaload, 1) := by decide +kernel
theorem dL_law_580 : decode cL_law 580 = .ok (.aload_n 0, 1) := by decide +kernel
theorem dL_law_581 : decode cL_law 581 = .ok (.iload_n 3, 1) := by decide +kernel
theorem dL_law_582 : decode cL_law 582 = .ok (.iconst 2, 1) := by decide +kernel
theorem dL_law_583 : decode cL_law 583 = .ok (.iadd, 1) := by decide +kernel
theorem dL_law_584 : decode cL_law 584 = .ok (.iaload, 1) := by decide +kernel
theorem dL_law_585 : decode cL_law 585 = .ok (.invokevirtual 60, 3) := by decide +kernel
theorem dL_law_588 : decode cL_law 588 = .ok (.if_icmp .eq 764, 3) := by decide +kernel
theorem dL_law_591 : decode cL_law 591 = .ok (.iconst 0, 1) := by decide +kernel
theorem dL_law_592 : decode cL_law 592 = .ok (.ireturn, 1) := by decide +kernel
theorem dL_law_593 : decode cL_law 593 = .ok (.aload_n 1, 1) := by decide +kernel
theorem dL_law_594 : decode cL_law 594 = .ok (.aload_n 0, 1) := by decide +kernel
theorem dL_law_595 : decode cL_law 595 = .ok (.iload_n 3, 1) := by decide +kernel
theorem dL_law_596 : decode cL_law 596 = .ok (.iconst 1, 1) := by decide +kernel
theorem dL_law_597 : decode cL_law 597 = .ok (.iadd, 1) := by decide +kernel
theorem dL_law_598 : decode cL_law 598 = .ok (.iaload, 1) := by decide +kernel
theorem dL_law_599 : decode cL_law 599 = .ok (.aload_n 0, 1) := by decide +kernel
theorem dL_law_600 : decode cL_law 600 = .ok (.iload_n 3, 1) := by decide +kernel
theorem dL_law_601 : decode cL_law 601 = .ok (.iconst 2, 1) := by decide +kernel
theorem dL_law_602 : decode cL_law 602 = .ok (.iadd, 1) := by decide +kernel
theorem dL_law_603 : decode cL_law 603 = .ok (.iaload, 1) := by decide +kernel
theorem dL_law_604 : decode cL_law 604 = .ok (.invokevirtual 61, 3) := by decide +kernel
theorem dL_law_607 : decode cL_law 607 = .ok (.aload_n 2, 1) := by decide +kernel
theorem dL_law_608 : decode cL_law 608 = .ok (.aload_n 0, 1) := by decide +kernel
theorem dL_law_609 : decode cL_law 609 = .ok (.iload_n 3, 1) := by decide +kernel
theorem dL_law_610 : decode cL_law 610 = .ok (.iconst 1, 1) := by decide +kernel
theorem dL_law_611 : decode cL_law 611 = .ok (.iadd, 1) := by decide +kernel
theorem dL_law_612 : decode cL_law 612 = .ok (.iaload, 1) := by decide +kernel
theorem dL_law_613 : decode cL_law 613 = .ok (.aload_n 0, 1) := by decide +kernel
theorem dL_law_614 : decode cL_law 614 = .ok (.iload_n 3, 1) := by decide +kernel
theorem dL_law_615 : decode cL_law 615 = .ok (.iconst 2, 1) := by decide +kernel
theorem dL_law_616 : decode cL_law 616 = .ok (.iadd, 1) := by decide +kernel
theorem dL_law_617 : decode cL_law 617 = .ok (.iaload, 1) := by decide +kernel
theorem dL_law_618 : decode cL_law 618 = .ok (.invokevirtual 64, 3) := by decide +kernel
theorem dL_law_621 : decode cL_law 621 = .ok (.if_icmp .eq 731, 3) := by decide +kernel
theorem dL_law_624 : decode cL_law 624 = .ok (.iconst 0, 1) := by decide +kernel
theorem dL_law_625 : decode cL_law 625 = .ok (.ireturn, 1) := by decide +kernel
theorem dL_law_626 : decode cL_law 626 = .ok (.aload_n 1, 1) := by decide +kernel
theorem dL_law_627 : decode cL_law 627 = .ok (.aload_n 0, 1) := by decide +kernel
theorem dL_law_628 : decode cL_law 628 = .ok (.iload_n 3, 1) := by decide +kernel
theorem dL_law_629 : decode cL_law 629 = .ok (.iconst 1, 1) := by decide +kernel
theorem dL_law_630 : decode cL_law 630 = .ok (.iadd, 1) := by decide +kernel
theorem dL_law_631 : decode cL_law 631 = .ok (.iaload, 1) := by decide +kernel
theorem dL_law_632 : decode cL_law 632 = .ok (.invokevirtual 65, 3) := by decide +kernel
theorem dL_law_635 : decode cL_law 635 = .ok (.aload_n 2, 1) := by decide +kernel
theorem dL_law_636 : decode cL_law 636 = .ok (.aload_n 0, 1) := by decide +kernel
theorem dL_law_637 : decode cL_law 637 = .ok (.iload_n 3, 1) := by decide +kernel
theorem dL_law_638 : decode cL_law 638 = .ok (.iconst 1, 1) := by decide +kernel
theorem dL_law_639 : decode cL_law 639 = .ok (.iadd, 1) := by decide +kernel
theorem dL_law_640 : decode cL_law 640 = .ok (.iaload, 1) := by decide +kernel
theorem dL_law_641 : decode cL_law 641 = .ok (.invokevirtual 68, 3) := by decide +kernel
theorem dL_law_644 : decode cL_law 644 = .ok (.if_icmp .eq 708, 3) := by decide +kernel
theorem dL_law_647 : decode cL_law 647 = .ok (.iconst 0, 1) := by decide +kernel
theorem dL_law_648 : decode cL_law 648 = .ok (.ireturn, 1) := by decide +kernel
theorem dL_law_649 : decode cL_law 649 = .ok (.aload_n 1, 1) := by decide +kernel
theorem dL_law_650 : decode cL_law 650 = .ok (.aload_n 0, 1) := by decide +kernel
theorem dL_law_651 : decode cL_law 651 = .ok (.iload_n 3, 1) := by decide +kernel
theorem dL_law_652 : decode cL_law 652 = .ok (.iconst 1, 1) := by decide +kernel
theorem dL_law_653 : decode cL_law 653 = .ok (.iadd, 1) := by decide +kernel
theorem dL_law_654 : decode cL_law 654 = .ok (.iaload, 1) := by decide +kernel
theorem dL_law_655 : decode cL_law 655 = .ok (.aload_n 0, 1) := by decide +kernel
theorem dL_law_656 : decode cL_law 656 = .ok (.iload_n 3, 1) := by decide +kernel
theorem dL_law_657 : decode cL_law 657 = .ok (.iconst 2, 1) := by decide +kernel
theorem dL_law_658 : decode cL_law 658 = .ok (.iadd, 1) := by decide +kernel
theorem dL_law_659 : decode cL_law 659 = .ok (.iaload, 1) := by decide +kernel
theorem dL_law_660 : decode cL_law 660 = .ok (.invokevirtual 69, 3) := by decide +kernel
theorem dL_law_663 : decode cL_law 663 = .ok (.aload_n 2, 1) := by decide +kernel
theorem dL_law_664 : decode cL_law 664 = .ok (.aload_n 0, 1) := by decide +kernel
theorem dL_law_665 : decode cL_law 665 = .ok (.iload_n 3, 1) := by decide +kernel
theorem dL_law_666 : decode cL_law 666 = .ok (.iconst 1, 1) := by decide +kernel
theorem dL_law_667 : decode cL_law 667 = .ok (.iadd, 1) := by decide +kernel
theorem dL_law_668 : decode cL_law 668 = .ok (.iaload, 1) := by decide +kernel
theorem dL_law_669 : decode cL_law 669 = .ok (.aload_n 0, 1) := by decide +kernel
theorem dL_law_670 : decode cL_law 670 = .ok (.iload_n 3, 1) := by decide +kernel
theorem dL_law_671 : decode cL_law 671 = .ok (.iconst 2, 1) := by decide +kernel
theorem dL_law_672 : decode cL_law 672 = .ok (.iadd, 1) := by decide +kernel
theorem dL_law_673 : decode cL_law 673 = .ok (.iaload, 1) := by decide +kernel
theorem dL_law_674 : decode cL_law 674 = .ok (.invokevirtual 72, 3) := by decide +kernel
theorem dL_law_677 : decode cL_law 677 = .ok (.if_icmp .eq 675, 3) := by decide +kernel
theorem dL_law_680 : decode cL_law 680 = .ok (.iconst 0, 1) := by decide +kernel
theorem dL_law_681 : decode cL_law 681 = .ok (.ireturn, 1) := by decide +kernel
theorem dL_law_682 : decode cL_law 682 = .ok (.aload_n 1, 1) := by decide +kernel
theorem dL_law_683 : decode cL_law 683 = .ok (.aload_n 0, 1) := by decide +kernel
theorem dL_law_684 : decode cL_law 684 = .ok (.iload_n 3, 1) := by decide +kernel
theorem dL_law_685 : decode cL_law 685 = .ok (.iconst 1, 1) := by decide +kernel
theorem dL_law_686 : decode cL_law 686 = .ok (.iadd, 1) := by decide +kernel
theorem dL_law_687 : decode cL_law 687 = .ok (.iaload, 1) := by decide +kernel
theorem dL_law_688 : decode cL_law 688 = .ok (.invokevirtual 73, 3) := by decide +kernel
theorem dL_law_691 : decode cL_law 691 = .ok (.aload_n 2, 1) := by decide +kernel
theorem dL_law_692 : decode cL_law 692 = .ok (.aload_n 0, 1) := by decide +kernel
theorem dL_law_693 : decode cL_law 693 = .ok (.iload_n 3, 1) := by decide +kernel
theorem dL_law_694 : decode cL_law 694 = .ok (.iconst 1, 1) := by decide +kernel
theorem dL_law_695 : decode cL_law 695 = .ok (.iadd, 1) := by decide +kernel
theorem dL_law_696 : decode cL_law 696 = .ok (.iaload, 1) := by decide +kernel
theorem dL_law_697 : decode cL_law 697 = .ok (.invokevirtual 76, 3) := by decide +kernel
theorem dL_law_700 : decode cL_law 700 = .ok (.if_icmp .eq 652, 3) := by decide +kernel
theorem dL_law_703 : decode cL_law 703 = .ok (.iconst 0, 1) := by decide +kernel
theorem dL_law_704 : decode cL_law 704 = .ok (.ireturn, 1) := by decide +kernel
theorem dL_law_705 : decode cL_law 705 = .ok (.aload_n 1, 1) := by decide +kernel
theorem dL_law_706 : decode cL_law 706 = .ok (.aload_n 0, 1) := by decide +kernel
theorem dL_law_707 : decode cL_law 707 = .ok (.iload_n 3, 1) := by decide +kernel
theorem dL_law_708 : decode cL_law 708 = .ok (.iconst 1, 1) := by decide +kernel
theorem dL_law_709 : decode cL_law 709 = .ok (.iadd, 1) := by decide +kernel
theorem dL_law_710 : decode cL_law 710 = .ok (.iaload, 1) := by decide +kernel
theorem dL_law_711 : decode cL_law 711 = .ok (.aload_n 0, 1) := by decide +kernel
theorem dL_law_712 : decode cL_law 712 = .ok (.iload_n 3, 1) := by decide +kernel
theorem dL_law_713 : decode cL_law 713 = .ok (.iconst 2, 1) := by decide +kernel
theorem dL_law_714 : decode cL_law 714 = .ok (.iadd, 1) := by decide +kernel
theorem dL_law_715 : decode cL_law 715 = .ok (.iaload, 1) := by decide +kernel
theorem dL_law_716 : decode cL_law 716 = .ok (.invokevirtual 77, 3) := by decide +kernel
theorem dL_law_719 : decode cL_law 719 = .ok (.aload_n 2, 1) := by decide +kernel
theorem dL_law_720 : decode cL_law 720 = .ok (.aload_n 0, 1) := by decide +kernel
theorem dL_law_721 : decode cL_law 721 = .ok (.iload_n 3, 1) := by decide +kernel
theorem dL_law_722 : decode cL_law 722 = .ok (.iconst 1, 1) := by decide +kernel
theorem dL_law_723 : decode cL_law 723 = .ok (.iadd, 1) := by decide +kernel
theorem dL_law_724 : decode cL_law 724 = .ok (.iaload, 1) := by decide +kernel
theorem dL_law_725 : decode cL_law 725 = .ok (.aload_n 0, 1) := by decide +kernel
theorem dL_law_726 : decode cL_law 726 = .ok (.iload_n 3, 1) := by decide +kernel
theorem dL_law_727 : decode cL_law 727 = .ok (.iconst 2, 1) := by decide +kernel
theorem dL_law_728 : decode cL_law 728 = .ok (.iadd, 1) := by decide +kernel
theorem dL_law_729 : decode cL_law 729 = .ok (.iaload, 1) := by decide +kernel
theorem dL_law_730 : decode cL_law 730 = .ok (.invokevirtual 80, 3) := by decide +kernel
theorem dL_law_733 : decode cL_law 733 = .ok (.if_icmp .eq 619, 3) := by decide +kernel
theorem dL_law_736 : decode cL_law 736 = .ok (.iconst 0, 1) := by decide +kernel
theorem dL_law_737 : decode cL_law 737 = .ok (.ireturn, 1) := by decide +kernel
theorem dL_law_738 : decode cL_law 738 = .ok (.aload_n 1, 1) := by decide +kernel
theorem dL_law_739 : decode cL_law 739 = .ok (.aload_n 0, 1) := by decide +kernel
theorem dL_law_740 : decode cL_law 740 = .ok (.iload_n 3, 1) := by decide +kernel
theorem dL_law_741 : decode cL_law 741 = .ok (.iconst 1, 1) := by decide +kernel
theorem dL_law_742 : decode cL_law 742 = .ok (.iadd, 1) := by decide +kernel
theorem dL_law_743 : decode cL_law 743 = .ok (.iaload, 1) := by decide +kernel
theorem dL_law_744 : decode cL_law 744 = .ok (.aload_n 0, 1) := by decide +kernel
theorem dL_law_745 : decode cL_law 745 = .ok (.iload_n 3, 1) := by decide +kernel
theorem dL_law_746 : decode cL_law 746 = .ok (.iconst 2, 1) := by decide +kernel
theorem dL_law_747 : decode cL_law 747 = .ok (.iadd, 1) := by decide +kernel
theorem dL_law_748 : decode cL_law 748 = .ok (.iaload, 1) := by decide +kernel
theorem dL_law_749 : decode cL_law 749 = .ok (.invokevirtual 81, 3) := by decide +kernel
theorem dL_law_752 : decode cL_law 752 = .ok (.aload_n 2, 1) := by decide +kernel
theorem dL_law_753 : decode cL_law 753 = .ok (.aload_n 0, 1) := by decide +kernel
theorem dL_law_754 : decode cL_law 754 = .ok (.iload_n 3, 1) := by decide +kernel
theorem dL_law_755 : decode cL_law 755 = .ok (.iconst 1, 1) := by decide +kernel
theorem dL_law_756 : decode cL_law 756 = .ok (.iadd, 1) := by decide +kernel
theorem dL_law_757 : decode cL_law 757 = .ok (.iaload, 1) := by decide +kernel
theorem dL_law_758 : decode cL_law 758 = .ok (.aload_n 0, 1) := by decide +kernel
theorem dL_law_759 : decode cL_law 759 = .ok (.iload_n 3, 1) := by decide +kernel
theorem dL_law_760 : decode cL_law 760 = .ok (.iconst 2, 1) := by decide +kernel
theorem dL_law_761 : decode cL_law 761 = .ok (.iadd, 1) := by decide +kernel
theorem dL_law_762 : decode cL_law 762 = .ok (.iaload, 1) := by decide +kernel
theorem dL_law_763 : decode cL_law 763 = .ok (.invokevirtual 84, 3) := by decide +kernel
theorem dL_law_766 : decode cL_law 766 = .ok (.if_icmp .eq 586, 3) := by decide +kernel
theorem dL_law_769 : decode cL_law 769 = .ok (.iconst 0, 1) := by decide +kernel
theorem dL_law_770 : decode cL_law 770 = .ok (.ireturn, 1) := by decide +kernel
theorem dL_law_771 : decode cL_law 771 = .ok (.aload_n 1, 1) := by decide +kernel
theorem dL_law_772 : decode cL_law 772 = .ok (.aload_n 0, 1) := by decide +kernel
theorem dL_law_773 : decode cL_law 773 = .ok (.iload_n 3, 1) := by decide +kernel
theorem dL_law_774 : decode cL_law 774 = .ok (.iconst 1, 1) := by decide +kernel
theorem dL_law_775 : decode cL_law 775 = .ok (.iadd, 1) := by decide +kernel
theorem dL_law_776 : decode cL_law 776 = .ok (.iaload, 1) := by decide +kernel
theorem dL_law_777 : decode cL_law 777 = .ok (.invokevirtual 85, 3) := by decide +kernel
theorem dL_law_780 : decode cL_law 780 = .ok (.aload_n 2, 1) := by decide +kernel
theorem dL_law_781 : decode cL_law 781 = .ok (.aload_n 0, 1) := by decide +kernel
theorem dL_law_782 : decode cL_law 782 = .ok (.iload_n 3, 1) := by decide +kernel
theorem dL_law_783 : decode cL_law 783 = .ok (.iconst 1, 1) := by decide +kernel
theorem dL_law_784 : decode cL_law 784 = .ok (.iadd, 1) := by decide +kernel
theorem dL_law_785 : decode cL_law 785 = .ok (.iaload, 1) := by decide +kernel
theorem dL_law_786 : decode cL_law 786 = .ok (.invokevirtual 88, 3) := by decide +kernel
theorem dL_law_789 : decode cL_law 789 = .ok (.if_icmp .eq 563, 3) := by decide +kernel
theorem dL_law_792 : decode cL_law 792 = .ok (.iconst 0, 1) := by decide +kernel
theorem dL_law_793 : decode cL_law 793 = .ok (.ireturn, 1) := by decide +kernel
theorem dL_law_794 : decode cL_law 794 = .ok (.aload_n 1, 1) := by decide +kernel
theorem dL_law_795 : decode cL_law 795 = .ok (.aload_n 0, 1) := by decide +kernel
theorem dL_law_796 : decode cL_law 796 = .ok (.iload_n 3, 1) := by decide +kernel
theorem dL_law_797 : decode cL_law 797 = .ok (.iconst 1, 1) := by decide +kernel
theorem dL_law_798 : decode cL_law 798 = .ok (.iadd, 1) := by decide +kernel
theorem dL_law_799 : decode cL_law 799 = .ok (.iaload, 1) := by decide +kernel
theorem dL_law_800 : decode cL_law 800 = .ok (.invokevirtual 89, 3) := by decide +kernel
theorem dL_law_803 : decode cL_law 803 = .ok (.aload_n 2, 1) := by decide +kernel
theorem dL_law_804 : decode cL_law 804 = .ok (.aload_n 0, 1) := by decide +kernel
theorem dL_law_805 : decode cL_law 805 = .ok (.iload_n 3, 1) := by decide +kernel
theorem dL_law_806 : decode cL_law 806 = .ok (.iconst 1, 1) := by decide +kernel
theorem dL_law_807 : decode cL_law 807 = .ok (.iadd, 1) := by decide +kernel
theorem dL_law_808 : decode cL_law 808 = .ok (.iaload, 1) := by decide +kernel
theorem dL_law_809 : decode cL_law 809 = .ok (.invokevirtual 92, 3) := by decide +kernel
theorem dL_law_812 : decode cL_law 812 = .ok (.if_icmp .eq 540, 3) := by decide +kernel
theorem dL_law_815 : decode cL_law 815 = .ok (.iconst 0, 1) := by decide +kernel
theorem dL_law_816 : decode cL_law 816 = .ok (.ireturn, 1) := by decide +kernel
theorem dL_law_817 : decode cL_law 817 = .ok (.aload_n 1, 1) := by decide +kernel
theorem dL_law_818 : decode cL_law 818 = .ok (.aload_n 0, 1) := by decide +kernel
theorem dL_law_819 : decode cL_law 819 = .ok (.iload_n 3, 1) := by decide +kernel
theorem dL_law_820 : decode cL_law 820 = .ok (.iconst 1, 1) := by decide +kernel
theorem dL_law_821 : decode cL_law 821 = .ok (.iadd, 1) := by decide +kernel
theorem dL_law_822 : decode cL_law 822 = .ok (.iaload, 1) := by decide +kernel
theorem dL_law_823 : decode cL_law 823 = .ok (.invokevirtual 93, 3) := by decide +kernel
theorem dL_law_826 : decode cL_law 826 = .ok (.aload_n 2, 1) := by decide +kernel
theorem dL_law_827 : decode cL_law 827 = .ok (.aload_n 0, 1) := by decide +kernel
theorem dL_law_828 : decode cL_law 828 = .ok (.iload_n 3, 1) := by decide +kernel
theorem dL_law_829 : decode cL_law 829 = .ok (.iconst 1, 1) := by decide +kernel
theorem dL_law_830 : decode cL_law 830 = .ok (.iadd, 1) := by decide +kernel
theorem dL_law_831 : decode cL_law 831 = .ok (.iaload, 1) := by decide +kernel
theorem dL_law_832 : decode cL_law 832 = .ok (.invokevirtual 96, 3) := by decide +kernel
theorem dL_law_835 : decode cL_law 835 = .ok (.if_icmp .eq 517, 3) := by decide +kernel
theorem dL_law_838 : decode cL_law 838 = .ok (.iconst 0, 1) := by decide +kernel
theorem dL_law_839 : decode cL_law 839 = .ok (.ireturn, 1) := by decide +kernel
theorem dL_law_840 : decode cL_law 840 = .ok (.aload_n 1, 1) := by decide +kernel
theorem dL_law_841 : decode cL_law 841 = .ok (.aload_n 0, 1) := by decide +kernel
theorem dL_law_842 : decode cL_law 842 = .ok (.iload_n 3, 1) := by decide +kernel
theorem dL_law_843 : decode cL_law 843 = .ok (.iconst 1, 1) := by decide +kernel
theorem dL_law_844 : decode cL_law 844 = .ok (.iadd, 1) := by decide +kernel
theorem dL_law_845 : decode cL_law 845 = .ok (.iaload, 1) := by decide +kernel
theorem dL_law_846 : decode cL_law 846 = .ok (.aload_n 0, 1) := by decide +kernel
theorem dL_law_847 : decode cL_law 847 = .ok (.iload_n 3, 1) := by decide +kernel
theorem dL_law_848 : decode cL_law 848 = .ok (.iconst 2, 1) := by decide +kernel
theorem dL_law_849 : decode cL_law 849 = .ok (.iadd, 1) := by decide +kernel
theorem dL_law_850 : decode cL_law 850 = .ok (.iaload, 1) := by decide +kernel
theorem dL_law_851 : decode cL_law 851 = .ok (.invokevirtual 97, 3) := by decide +kernel
theorem dL_law_854 : decode cL_law 854 = .ok (.aload_n 2, 1) := by decide +kernel
theorem dL_law_855 : decode cL_law 855 = .ok (.aload_n 0, 1) := by decide +kernel
theorem dL_law_856 : decode cL_law 856 = .ok (.iload_n 3, 1) := by decide +kernel
theorem dL_law_857 : decode cL_law 857 = .ok (.iconst 1, 1) := by decide +kernel
theorem dL_law_858 : decode cL_law 858 = .ok (.iadd, 1) := by decide +kernel
theorem dL_law_859 : decode cL_law 859 = .ok (.iaload, 1) := by decide +kernel
theorem dL_law_860 : decode cL_law 860 = .ok (.aload_n 0, 1) := by decide +kernel
theorem dL_law_861 : decode cL_law 861 = .ok (.iload_n 3, 1) := by decide +kernel
theorem dL_law_862 : decode cL_law 862 = .ok (.iconst 2, 1) := by decide +kernel
theorem dL_law_863 : decode cL_law 863 = .ok (.iadd, 1) := by decide +kernel
theorem dL_law_864 : decode cL_law 864 = .ok (.iaload, 1) := by decide +kernel
theorem dL_law_865 : decode cL_law 865 = .ok (.invokevirtual 100, 3) := by decide +kernel
theorem dL_law_868 : decode cL_law 868 = .ok (.if_icmp .eq 484, 3) := by decide +kernel
theorem dL_law_871 : decode cL_law 871 = .ok (.iconst 0, 1) := by decide +kernel
theorem dL_law_872 : decode cL_law 872 = .ok (.ireturn, 1) := by decide +kernel
theorem dL_law_873 : decode cL_law 873 = .ok (.aload_n 1, 1) := by decide +kernel
theorem dL_law_874 : decode cL_law 874 = .ok (.aload_n 0, 1) := by decide +kernel
theorem dL_law_875 : decode cL_law 875 = .ok (.iload_n 3, 1) := by decide +kernel
theorem dL_law_876 : decode cL_law 876 = .ok (.iconst 1, 1) := by decide +kernel
theorem dL_law_877 : decode cL_law 877 = .ok (.iadd, 1) := by decide +kernel
theorem dL_law_878 : decode cL_law 878 = .ok (.iaload, 1) := by decide +kernel
theorem dL_law_879 : decode cL_law 879 = .ok (.invokevirtual 101, 3) := by decide +kernel
theorem dL_law_882 : decode cL_law 882 = .ok (.aload_n 2, 1) := by decide +kernel
theorem dL_law_883 : decode cL_law 883 = .ok (.aload_n 0, 1) := by decide +kernel
theorem dL_law_884 : decode cL_law 884 = .ok (.iload_n 3, 1) := by decide +kernel
theorem dL_law_885 : decode cL_law 885 = .ok (.iconst 1, 1) := by decide +kernel
theorem dL_law_886 : decode cL_law 886 = .ok (.iadd, 1) := by decide +kernel
theorem dL_law_887 : decode cL_law 887 = .ok (.iaload, 1) := by decide +kernel
theorem dL_law_888 : decode cL_law 888 = .ok (.invokevirtual 104, 3) := by decide +kernel
theorem dL_law_891 : decode cL_law 891 = .ok (.if_icmp .eq 461, 3) := by decide +kernel
theorem dL_law_894 : decode cL_law 894 = .ok (.iconst 0, 1) := by decide +kernel
theorem dL_law_895 : decode cL_law 895 = .ok (.ireturn, 1) := by decide +kernel
theorem dL_law_896 : decode cL_law 896 = .ok (.aload_n 1, 1) := by decide +kernel
theorem dL_law_897 : decode cL_law 897 = .ok (.aload_n 0, 1) := by decide +kernel
theorem dL_law_898 : decode cL_law 898 = .ok (.iload_n 3, 1) := by decide +kernel
theorem dL_law_899 : decode cL_law 899 = .ok (.iconst 1, 1) := by decide +kernel
theorem dL_law_900 : decode cL_law 900 = .ok (.iadd, 1) := by decide +kernel
theorem dL_law_901 : decode cL_law 901 = .ok (.iaload, 1) := by decide +kernel
theorem dL_law_902 : decode cL_law 902 = .ok (.invokevirtual 105, 3) := by decide +kernel
theorem dL_law_905 : decode cL_law 905 = .ok (.aload_n 2, 1) := by decide +kernel
theorem dL_law_906 : decode cL_law 906 = .ok (.aload_n 0, 1) := by decide +kernel
theorem dL_law_907 : decode cL_law 907 = .ok (.iload_n 3, 1) := by decide +kernel
theorem dL_law_908 : decode cL_law 908 = .ok (.iconst 1, 1) := by decide +kernel
theorem dL_law_909 : decode cL_law 909 = .ok (.iadd, 1) := by decide +kernel
theorem dL_law_910 : decode cL_law 910 = .ok (.iaload, 1) := by decide +kernel
theorem dL_law_911 : decode cL_law 911 = .ok (.invokevirtual 108, 3) := by decide +kernel
theorem dL_law_914 : decode cL_law 914 = .ok (.if_icmp .eq 438, 3) := by decide +kernel
theorem dL_law_917 : decode cL_law 917 = .ok (.iconst 0, 1) := by decide +kernel
theorem dL_law_918 : decode cL_law 918 = .ok (.ireturn, 1) := by decide +kernel
theorem dL_law_919 : decode cL_law 919 = .ok (.aload_n 1, 1) := by decide +kernel
theorem dL_law_920 : decode cL_law 920 = .ok (.invokevirtual 109, 3) := by decide +kernel
theorem dL_law_923 : decode cL_law 923 = .ok (.aload_n 2, 1) := by decide +kernel
theorem dL_law_924 : decode cL_law 924 = .ok (.invokevirtual 113, 3) := by decide +kernel
theorem dL_law_927 : decode cL_law 927 = .ok (.if_icmp .eq 425, 3) := by decide +kernel
theorem dL_law_930 : decode cL_law 930 = .ok (.iconst 0, 1) := by decide +kernel
theorem dL_law_931 : decode cL_law 931 = .ok (.ireturn, 1) := by decide +kernel
theorem dL_law_932 : decode cL_law 932 = .ok (.aload_n 1, 1) := by decide +kernel
theorem dL_law_933 : decode cL_law 933 = .ok (.invokevirtual 114, 3) := by decide +kernel
theorem dL_law_936 : decode cL_law 936 = .ok (.aload_n 2, 1) := by decide +kernel
theorem dL_law_937 : decode cL_law 937 = .ok (.invokevirtual 117, 3) := by decide +kernel
theorem dL_law_940 : decode cL_law 940 = .ok (.if_icmp .eq 412, 3) := by decide +kernel
theorem dL_law_943 : decode cL_law 943 = .ok (.iconst 0, 1) := by decide +kernel
theorem dL_law_944 : decode cL_law 944 = .ok (.ireturn, 1) := by decide +kernel
theorem dL_law_945 : decode cL_law 945 = .ok (.aload_n 1, 1) := by decide +kernel
theorem dL_law_946 : decode cL_law 946 = .ok (.aload_n 0, 1) := by decide +kernel
theorem dL_law_947 : decode cL_law 947 = .ok (.iload_n 3, 1) := by decide +kernel
theorem dL_law_948 : decode cL_law 948 = .ok (.iconst 1, 1) := by decide +kernel
theorem dL_law_949 : decode cL_law 949 = .ok (.iadd, 1) := by decide +kernel
theorem dL_law_950 : decode cL_law 950 = .ok (.iaload, 1) := by decide +kernel
theorem dL_law_951 : decode cL_law 951 = .ok (.aload_n 0, 1) := by decide +kernel
theorem dL_law_952 : decode cL_law 952 = .ok (.iload_n 3, 1) := by decide +kernel
theorem dL_law_953 : decode cL_law 953 = .ok (.iconst 2, 1) := by decide +kernel
theorem dL_law_954 : decode cL_law 954 = .ok (.iadd, 1) := by decide +kernel
theorem dL_law_955 : decode cL_law 955 = .ok (.iaload, 1) := by decide +kernel
theorem dL_law_956 : decode cL_law 956 = .ok (.aload_n 0, 1) := by decide +kernel
theorem dL_law_957 : decode cL_law 957 = .ok (.iload_n 3, 1) := by decide +kernel
theorem dL_law_958 : decode cL_law 958 = .ok (.iconst 3, 1) := by decide +kernel
theorem dL_law_959 : decode cL_law 959 = .ok (.iadd, 1) := by decide +kernel
theorem dL_law_960 : decode cL_law 960 = .ok (.iaload, 1) := by decide +kernel
theorem dL_law_961 : decode cL_law 961 = .ok (.invokevirtual 118, 3) := by decide +kernel
theorem dL_law_964 : decode cL_law 964 = .ok (.aload_n 2, 1) := by decide +kernel
theorem dL_law_965 : decode cL_law 965 = .ok (.aload_n 0, 1) := by decide +kernel
theorem dL_law_966 : decode cL_law 966 = .ok (.iload_n 3, 1) := by decide +kernel
theorem dL_law_967 : decode cL_law 967 = .ok (.iconst 1, 1) := by decide +kernel
theorem dL_law_968 : decode cL_law 968 = .ok (.iadd, 1) := by decide +kernel
theorem dL_law_969 : decode cL_law 969 = .ok (.iaload, 1) := by decide +kernel
theorem dL_law_970 : decode cL_law 970 = .ok (.aload_n 0, 1) := by decide +kernel
theorem dL_law_971 : decode cL_law 971 = .ok (.iload_n 3, 1) := by decide +kernel
theorem dL_law_972 : decode cL_law 972 = .ok (.iconst 2, 1) := by decide +kernel
theorem dL_law_973 : decode cL_law 973 = .ok (.iadd, 1) := by decide +kernel
theorem dL_law_974 : decode cL_law 974 = .ok (.iaload, 1) := by decide +kernel
theorem dL_law_975 : decode cL_law 975 = .ok (.aload_n 0, 1) := by decide +kernel
theorem dL_law_976 : decode cL_law 976 = .ok (.iload_n 3, 1) := by decide +kernel
theorem dL_law_977 : decode cL_law 977 = .ok (.iconst 3, 1) := by decide +kernel
theorem dL_law_978 : decode cL_law 978 = .ok (.iadd, 1) := by decide +kernel
theorem dL_law_979 : decode cL_law 979 = .ok (.iaload, 1) := by decide +kernel
theorem dL_law_980 : decode cL_law 980 = .ok (.invokevirtual 121, 3) := by decide +kernel
theorem dL_law_983 : decode cL_law 983 = .ok (.if_icmp .eq 369, 3) := by decide +kernel
theorem dL_law_986 : decode cL_law 986 = .ok (.iconst 0, 1) := by decide +kernel
theorem dL_law_987 : decode cL_law 987 = .ok (.ireturn, 1) := by decide +kernel
theorem dL_law_988 : decode cL_law 988 = .ok (.aload_n 1, 1) := by decide +kernel
theorem dL_law_989 : decode cL_law 989 = .ok (.aload_n 0, 1) := by decide +kernel
theorem dL_law_990 : decode cL_law 990 = .ok (.iload_n 3, 1) := by decide +kernel
theorem dL_law_991 : decode cL_law 991 = .ok (.iconst 1, 1) := by decide +kernel
theorem dL_law_992 : decode cL_law 992 = .ok (.iadd, 1) := by decide +kernel
theorem dL_law_993 : decode cL_law 993 = .ok (.iaload, 1) := by decide +kernel
theorem dL_law_994 : decode cL_law 994 = .ok (.invokevirtual 122, 3) := by decide +kernel
theorem dL_law_997 : decode cL_law 997 = .ok (.aload_n 2, 1) := by decide +kernel
theorem dL_law_998 : decode cL_law 998 = .ok (.aload_n 0, 1) := by decide +kernel
theorem dL_law_999 : decode cL_law 999 = .ok (.iload_n 3, 1) := by decide +kernel
theorem dL_law_1000 : decode cL_law 1000 = .ok (.iconst 1, 1) := by decide +kernel
theorem dL_law_1001 : decode cL_law 1001 = .ok (.iadd, 1) := by decide +kernel
theorem dL_law_1002 : decode cL_law 1002 = .ok (.iaload, 1) := by decide +kernel
theorem dL_law_1003 : decode cL_law 1003 = .ok (.invokevirtual 125, 3) := by decide +kernel
theorem dL_law_1006 : decode cL_law 1006 = .ok (.if_icmp .eq 346, 3) := by decide +kernel
theorem dL_law_1009 : decode cL_law 1009 = .ok (.iconst 0, 1) := by decide +kernel
theorem dL_law_1010 : decode cL_law 1010 = .ok (.ireturn, 1) := by decide +kernel
theorem dL_law_1011 : decode cL_law 1011 = .ok (.aload_n 1, 1) := by decide +kernel
theorem dL_law_1012 : decode cL_law 1012 = .ok (.aload_n 0, 1) := by decide +kernel
theorem dL_law_1013 : decode cL_law 1013 = .ok (.iload_n 3, 1) := by decide +kernel
theorem dL_law_1014 : decode cL_law 1014 = .ok (.iconst 1, 1) := by decide +kernel
theorem dL_law_1015 : decode cL_law 1015 = .ok (.iadd, 1) := by decide +kernel
theorem dL_law_1016 : decode cL_law 1016 = .ok (.iaload, 1) := by decide +kernel
theorem dL_law_1017 : decode cL_law 1017 = .ok (.invokevirtual 126, 3) := by decide +kernel
theorem dL_law_1020 : decode cL_law 1020 = .ok (.aload_n 2, 1) := by decide +kernel
theorem dL_law_1021 : decode cL_law 1021 = .ok (.aload_n 0, 1) := by decide +kernel
theorem dL_law_1022 : decode cL_law 1022 = .ok (.iload_n 3, 1) := by decide +kernel
theorem dL_law_1023 : decode cL_law 1023 = .ok (.iconst 1, 1) := by decide +kernel
theorem dL_law_1024 : decode cL_law 1024 = .ok (.iadd, 1) := by decide +kernel
theorem dL_law_1025 : decode cL_law 1025 = .ok (.iaload, 1) := by decide +kernel
theorem dL_law_1026 : decode cL_law 1026 = .ok (.invokevirtual 129, 3) := by decide +kernel
theorem dL_law_1029 : decode cL_law 1029 = .ok (.if_icmp .eq 323, 3) := by decide +kernel
theorem dL_law_1032 : decode cL_law 1032 = .ok (.iconst 0, 1) := by decide +kernel
theorem dL_law_1033 : decode cL_law 1033 = .ok (.ireturn, 1) := by decide +kernel
theorem dL_law_1034 : decode cL_law 1034 = .ok (.aload_n 1, 1) := by decide +kernel
theorem dL_law_1035 : decode cL_law 1035 = .ok (.invokevirtual 130, 3) := by decide +kernel
theorem dL_law_1038 : decode cL_law 1038 = .ok (.aload_n 2, 1) := by decide +kernel
theorem dL_law_1039 : decode cL_law 1039 = .ok (.invokevirtual 133, 3) := by decide +kernel
theorem dL_law_1042 : decode cL_law 1042 = .ok (.if_icmp .eq 310, 3) := by decide +kernel
theorem dL_law_1045 : decode cL_law 1045 = .ok (.iconst 0, 1) := by decide +kernel
theorem dL_law_1046 : decode cL_law 1046 = .ok (.ireturn, 1) := by decide +kernel
theorem dL_law_1047 : decode cL_law 1047 = .ok (.aload_n 1, 1) := by decide +kernel
theorem dL_law_1048 : decode cL_law 1048 = .ok (.invokevirtual 134, 3) := by decide +kernel
theorem dL_law_1051 : decode cL_law 1051 = .ok (.aload_n 2, 1) := by decide +kernel
theorem dL_law_1052 : decode cL_law 1052 = .ok (.invokevirtual 137, 3) := by decide +kernel
theorem dL_law_1055 : decode cL_law 1055 = .ok (.if_icmp .eq 297, 3) := by decide +kernel
theorem dL_law_1058 : decode cL_law 1058 = .ok (.iconst 0, 1) := by decide +kernel
theorem dL_law_1059 : decode cL_law 1059 = .ok (.ireturn, 1) := by decide +kernel
theorem dL_law_1060 : decode cL_law 1060 = .ok (.aload_n 1, 1) := by decide +kernel
theorem dL_law_1061 : decode cL_law 1061 = .ok (.aload_n 0, 1) := by decide +kernel
theorem dL_law_1062 : decode cL_law 1062 = .ok (.iload_n 3, 1) := by decide +kernel
theorem dL_law_1063 : decode cL_law 1063 = .ok (.iconst 1, 1) := by decide +kernel
theorem dL_law_1064 : decode cL_law 1064 = .ok (.iadd, 1) := by decide +kernel
theorem dL_law_1065 : decode cL_law 1065 = .ok (.iaload, 1) := by decide +kernel
theorem dL_law_1066 : decode cL_law 1066 = .ok (.invokevirtual 138, 3) := by decide +kernel
theorem dL_law_1069 : decode cL_law 1069 = .ok (.aload_n 2, 1) := by decide +kernel
theorem dL_law_1070 : decode cL_law 1070 = .ok (.aload_n 0, 1) := by decide +kernel
theorem dL_law_1071 : decode cL_law 1071 = .ok (.iload_n 3, 1) := by decide +kernel
theorem dL_law_1072 : decode cL_law 1072 = .ok (.iconst 1, 1) := by decide +kernel
theorem dL_law_1073 : decode cL_law 1073 = .ok (.iadd, 1) := by decide +kernel
theorem dL_law_1074 : decode cL_law 1074 = .ok (.iaload, 1) := by decide +kernel
theorem dL_law_1075 : decode cL_law 1075 = .ok (.invokevirtual 141, 3) := by decide +kernel
theorem dL_law_1078 : decode cL_law 1078 = .ok (.if_icmp .eq 274, 3) := by decide +kernel
theorem dL_law_1081 : decode cL_law 1081 = .ok (.iconst 0, 1) := by decide +kernel
theorem dL_law_1082 : decode cL_law 1082 = .ok (.ireturn, 1) := by decide +kernel
theorem dL_law_1083 : decode cL_law 1083 = .ok (.aload_n 1, 1) := by decide +kernel
theorem dL_law_1084 : decode cL_law 1084 = .ok (.aload_n 0, 1) := by decide +kernel
theorem dL_law_1085 : decode cL_law 1085 = .ok (.iload_n 3, 1) := by decide +kernel
theorem dL_law_1086 : decode cL_law 1086 = .ok (.iconst 1, 1) := by decide +kernel
theorem dL_law_1087 : decode cL_law 1087 = .ok (.iadd, 1) := by decide +kernel
theorem dL_law_1088 : decode cL_law 1088 = .ok (.iaload, 1) := by decide +kernel
theorem dL_law_1089 : decode cL_law 1089 = .ok (.aload_n 0, 1) := by decide +kernel
theorem dL_law_1090 : decode cL_law 1090 = .ok (.iload_n 3, 1) := by decide +kernel
theorem dL_law_1091 : decode cL_law 1091 = .ok (.iconst 2, 1) := by decide +kernel
theorem dL_law_1092 : decode cL_law 1092 = .ok (.iadd, 1) := by decide +kernel
theorem dL_law_1093 : decode cL_law 1093 = .ok (.iaload, 1) := by decide +kernel
theorem dL_law_1094 : decode cL_law 1094 = .ok (.invokevirtual 142, 3) := by decide +kernel
theorem dL_law_1097 : decode cL_law 1097 = .ok (.aload_n 2, 1) := by decide +kernel
theorem dL_law_1098 : decode cL_law 1098 = .ok (.aload_n 0, 1) := by decide +kernel
theorem dL_law_1099 : decode cL_law 1099 = .ok (.iload_n 3, 1) := by decide +kernel
theorem dL_law_1100 : decode cL_law 1100 = .ok (.iconst 1, 1) := by decide +kernel
theorem dL_law_1101 : decode cL_law 1101 = .ok (.iadd, 1) := by decide +kernel
theorem dL_law_1102 : decode cL_law 1102 = .ok (.iaload, 1) := by decide +kernel
theorem dL_law_1103 : decode cL_law 1103 = .ok (.aload_n 0, 1) := by decide +kernel
theorem dL_law_1104 : decode cL_law 1104 = .ok (.iload_n 3, 1) := by decide +kernel
theorem dL_law_1105 : decode cL_law 1105 = .ok (.iconst 2, 1) := by decide +kernel
theorem dL_law_1106 : decode cL_law 1106 = .ok (.iadd, 1) := by decide +kernel
theorem dL_law_1107 : decode cL_law 1107 = .ok (.iaload, 1) := by decide +kernel
theorem dL_law_1108 : decode cL_law 1108 = .ok (.invokevirtual 145, 3) := by decide +kernel
theorem dL_law_1111 : decode cL_law 1111 = .ok (.if_icmp .eq 241, 3) := by decide +kernel
theorem dL_law_1114 : decode cL_law 1114 = .ok (.iconst 0, 1) := by decide +kernel
theorem dL_law_1115 : decode cL_law 1115 = .ok (.ireturn, 1) := by decide +kernel
theorem dL_law_1116 : decode cL_law 1116 = .ok (.aload_n 1, 1) := by decide +kernel
theorem dL_law_1117 : decode cL_law 1117 = .ok (.aload_n 0, 1) := by decide +kernel
theorem dL_law_1118 : decode cL_law 1118 = .ok (.iload_n 3, 1) := by decide +kernel
theorem dL_law_1119 : decode cL_law 1119 = .ok (.iconst 1, 1) := by decide +kernel
theorem dL_law_1120 : decode cL_law 1120 = .ok (.iadd, 1) := by decide +kernel
theorem dL_law_1121 : decode cL_law 1121 = .ok (.iaload, 1) := by decide +kernel
theorem dL_law_1122 : decode cL_law 1122 = .ok (.aload_n 0, 1) := by decide +kernel
theorem dL_law_1123 : decode cL_law 1123 = .ok (.iload_n 3, 1) := by decide +kernel
theorem dL_law_1124 : decode cL_law 1124 = .ok (.iconst 2, 1) := by decide +kernel
theorem dL_law_1125 : decode cL_law 1125 = .ok (.iadd, 1) := by decide +kernel
theorem dL_law_1126 : decode cL_law 1126 = .ok (.iaload, 1) := by decide +kernel
theorem dL_law_1127 : decode cL_law 1127 = .ok (.invokevirtual 146, 3) := by decide +kernel
theorem dL_law_1130 : decode cL_law 1130 = .ok (.aload_n 2, 1) := by decide +kernel
theorem dL_law_1131 : decode cL_law 1131 = .ok (.aload_n 0, 1) := by decide +kernel
theorem dL_law_1132 : decode cL_law 1132 = .ok (.iload_n 3, 1) := by decide +kernel
theorem dL_law_1133 : decode cL_law 1133 = .ok (.iconst 1, 1) := by decide +kernel
theorem dL_law_1134 : decode cL_law 1134 = .ok (.iadd, 1) := by decide +kernel
theorem dL_law_1135 : decode cL_law 1135 = .ok (.iaload, 1) := by decide +kernel
theorem dL_law_1136 : decode cL_law 1136 = .ok (.aload_n 0, 1) := by decide +kernel
theorem dL_law_1137 : decode cL_law 1137 = .ok (.iload_n 3, 1) := by decide +kernel
theorem dL_law_1138 : decode cL_law 1138 = .ok (.iconst 2, 1) := by decide +kernel
theorem dL_law_1139 : decode cL_law 1139 = .ok (.iadd, 1) := by decide +kernel
theorem dL_law_1140 : decode cL_law 1140 = .ok (.iaload, 1) := by decide +kernel
theorem dL_law_1141 : decode cL_law 1141 = .ok (.invokevirtual 149, 3) := by decide +kernel
theorem dL_law_1144 : decode cL_law 1144 = .ok (.if_icmp .eq 208, 3) := by decide +kernel
theorem dL_law_1147 : decode cL_law 1147 = .ok (.iconst 0, 1) := by decide +kernel
theorem dL_law_1148 : decode cL_law 1148 = .ok (.ireturn, 1) := by decide +kernel
theorem dL_law_1149 : decode cL_law 1149 = .ok (.aload_n 1, 1) := by decide +kernel
theorem dL_law_1150 : decode cL_law 1150 = .ok (.aload_n 0, 1) := by decide +kernel
theorem dL_law_1151 : decode cL_law 1151 = .ok (.iload_n 3, 1) := by decide +kernel
theorem dL_law_1152 : decode cL_law 1152 = .ok (.iconst 1, 1) := by decide +kernel
theorem dL_law_1153 : decode cL_law 1153 = .ok (.iadd, 1) := by decide +kernel
theorem dL_law_1154 : decode cL_law 1154 = .ok (.iaload, 1) := by decide +kernel
theorem dL_law_1155 : decode cL_law 1155 = .ok (.aload_n 0, 1) := by decide +kernel
theorem dL_law_1156 : decode cL_law 1156 = .ok (.iload_n 3, 1) := by decide +kernel
theorem dL_law_1157 : decode cL_law 1157 = .ok (.iconst 2, 1) := by decide +kernel
theorem dL_law_1158 : decode cL_law 1158 = .ok (.iadd, 1) := by decide +kernel
theorem dL_law_1159 : decode cL_law 1159 = .ok (.iaload, 1) := by decide +kernel
theorem dL_law_1160 : decode cL_law 1160 = .ok (.invokevirtual 150, 3) := by decide +kernel
theorem dL_law_1163 : decode cL_law 1163 = .ok (.aload_n 2, 1) := by decide +kernel
theorem dL_law_1164 : decode cL_law 1164 = .ok (.aload_n 0, 1) := by decide +kernel
theorem dL_law_1165 : decode cL_law 1165 = .ok (.iload_n 3, 1) := by decide +kernel
theorem dL_law_1166 : decode cL_law 1166 = .ok (.iconst 1, 1) := by decide +kernel
theorem dL_law_1167 : decode cL_law 1167 = .ok (.iadd, 1) := by decide +kernel
theorem dL_law_1168 : decode cL_law 1168 = .ok (.iaload, 1) := by decide +kernel
theorem dL_law_1169 : decode cL_law 1169 = .ok (.aload_n 0, 1) := by decide +kernel
theorem dL_law_1170 : decode cL_law 1170 = .ok (.iload_n 3, 1) := by decide +kernel
theorem dL_law_1171 : decode cL_law 1171 = .ok (.iconst 2, 1) := by decide +kernel
theorem dL_law_1172 : decode cL_law 1172 = .ok (.iadd, 1) := by decide +kernel
theorem dL_law_1173 : decode cL_law 1173 = .ok (.iaload, 1) := by decide +kernel
theorem dL_law_1174 : decode cL_law 1174 = .ok (.invokevirtual 153, 3) := by decide +kernel
theorem dL_law_1177 : decode cL_law 1177 = .ok (.if_icmp .eq 175, 3) := by decide +kernel
theorem dL_law_1180 : decode cL_law 1180 = .ok (.iconst 0, 1) := by decide +kernel
theorem dL_law_1181 : decode cL_law 1181 = .ok (.ireturn, 1) := by decide +kernel
theorem dL_law_1182 : decode cL_law 1182 = .ok (.aload_n 1, 1) := by decide +kernel
theorem dL_law_1183 : decode cL_law 1183 = .ok (.aload_n 0, 1) := by decide +kernel
theorem dL_law_1184 : decode cL_law 1184 = .ok (.iload_n 3, 1) := by decide +kernel
theorem dL_law_1185 : decode cL_law 1185 = .ok (.iconst 1, 1) := by decide +kernel
theorem dL_law_1186 : decode cL_law 1186 = .ok (.iadd, 1) := by decide +kernel
theorem dL_law_1187 : decode cL_law 1187 = .ok (.iaload, 1) := by decide +kernel
theorem dL_law_1188 : decode cL_law 1188 = .ok (.invokevirtual 154, 3) := by decide +kernel
theorem dL_law_1191 : decode cL_law 1191 = .ok (.aload_n 2, 1) := by decide +kernel
theorem dL_law_1192 : decode cL_law 1192 = .ok (.aload_n 0, 1) := by decide +kernel
theorem dL_law_1193 : decode cL_law 1193 = .ok (.iload_n 3, 1) := by decide +kernel
theorem dL_law_1194 : decode cL_law 1194 = .ok (.iconst 1, 1) := by decide +kernel
theorem dL_law_1195 : decode cL_law 1195 = .ok (.iadd, 1) := by decide +kernel
theorem dL_law_1196 : decode cL_law 1196 = .ok (.iaload, 1) := by decide +kernel
theorem dL_law_1197 : decode cL_law 1197 = .ok (.invokevirtual 157, 3) := by decide +kernel
theorem dL_law_1200 : decode cL_law 1200 = .ok (.if_icmp .eq 152, 3) := by decide +kernel
theorem dL_law_1203 : decode cL_law 1203 = .ok (.iconst 0, 1) := by decide +kernel
theorem dL_law_1204 : decode cL_law 1204 = .ok (.ireturn, 1) := by decide +kernel
theorem dL_law_1205 : decode cL_law 1205 = .ok (.aload_n 1, 1) := by decide +kernel
theorem dL_law_1206 : decode cL_law 1206 = .ok (.aload_n 0, 1) := by decide +kernel
theorem dL_law_1207 : decode cL_law 1207 = .ok (.iload_n 3, 1) := by decide +kernel
theorem dL_law_1208 : decode cL_law 1208 = .ok (.iconst 1, 1) := by decide +kernel
theorem dL_law_1209 : decode cL_law 1209 = .ok (.iadd, 1) := by decide +kernel
theorem dL_law_1210 : decode cL_law 1210 = .ok (.iaload, 1) := by decide +kernel
theorem dL_law_1211 : decode cL_law 1211 = .ok (.aload_n 0, 1) := by decide +kernel
theorem dL_law_1212 : decode cL_law 1212 = .ok (.iload_n 3, 1) := by decide +kernel
theorem dL_law_1213 : decode cL_law 1213 = .ok (.iconst 2, 1) := by decide +kernel
theorem dL_law_1214 : decode cL_law 1214 = .ok (.iadd, 1) := by decide +kernel
theorem dL_law_1215 : decode cL_law 1215 = .ok (.iaload, 1) := by decide +kernel
theorem dL_law_1216 : decode cL_law 1216 = .ok (.invokevirtual 158, 3) := by decide +kernel
theorem dL_law_1219 : decode cL_law 1219 = .ok (.aload_n 2, 1) := by decide +kernel
theorem dL_law_1220 : decode cL_law 1220 = .ok (.aload_n 0, 1) := by decide +kernel
theorem dL_law_1221 : decode cL_law 1221 = .ok (.iload_n 3, 1) := by decide +kernel
theorem dL_law_1222 : decode cL_law 1222 = .ok (.iconst 1, 1) := by decide +kernel
theorem dL_law_1223 : decode cL_law 1223 = .ok (.iadd, 1) := by decide +kernel
theorem dL_law_1224 : decode cL_law 1224 = .ok (.iaload, 1) := by decide +kernel
theorem dL_law_1225 : decode cL_law 1225 = .ok (.aload_n 0, 1) := by decide +kernel
theorem dL_law_1226 : decode cL_law 1226 = .ok (.iload_n 3, 1) := by decide +kernel
theorem dL_law_1227 : decode cL_law 1227 = .ok (.iconst 2, 1) := by decide +kernel
theorem dL_law_1228 : decode cL_law 1228 = .ok (.iadd, 1) := by decide +kernel
theorem dL_law_1229 : decode cL_law 1229 = .ok (.iaload, 1) := by decide +kernel
theorem dL_law_1230 : decode cL_law 1230 = .ok (.invokevirtual 161, 3) := by decide +kernel
theorem dL_law_1233 : decode cL_law 1233 = .ok (.if_icmp .eq 119, 3) := by decide +kernel
theorem dL_law_1236 : decode cL_law 1236 = .ok (.iconst 0, 1) := by decide +kernel
theorem dL_law_1237 : decode cL_law 1237 = .ok (.ireturn, 1) := by decide +kernel
theorem dL_law_1238 : decode cL_law 1238 = .ok (.aload_n 1, 1) := by decide +kernel
theorem dL_law_1239 : decode cL_law 1239 = .ok (.invokevirtual 162, 3) := by decide +kernel
theorem dL_law_1242 : decode cL_law 1242 = .ok (.aload_n 2, 1) := by decide +kernel
theorem dL_law_1243 : decode cL_law 1243 = .ok (.invokevirtual 165, 3) := by decide +kernel
theorem dL_law_1246 : decode cL_law 1246 = .ok (.if_icmp .eq 106, 3) := by decide +kernel
theorem dL_law_1249 : decode cL_law 1249 = .ok (.iconst 0, 1) := by decide +kernel
theorem dL_law_1250 : decode cL_law 1250 = .ok (.ireturn, 1) := by decide +kernel
theorem dL_law_1251 : decode cL_law 1251 = .ok (.aload_n 1, 1) := by decide +kernel
theorem dL_law_1252 : decode cL_law 1252 = .ok (.invokevirtual 166, 3) := by decide +kernel
theorem dL_law_1255 : decode cL_law 1255 = .ok (.aload_n 2, 1) := by decide +kernel
theorem dL_law_1256 : decode cL_law 1256 = .ok (.invokevirtual 170, 3) := by decide +kernel
theorem dL_law_1259 : decode cL_law 1259 = .ok (.lcmp, 1) := by decide +kernel
theorem dL_law_1260 : decode cL_law 1260 = .ok (.ifCond .eq 92, 3) := by decide +kernel
theorem dL_law_1263 : decode cL_law 1263 = .ok (.iconst 0, 1) := by decide +kernel
theorem dL_law_1264 : decode cL_law 1264 = .ok (.ireturn, 1) := by decide +kernel
theorem dL_law_1265 : decode cL_law 1265 = .ok (.aload_n 1, 1) := by decide +kernel
theorem dL_law_1266 : decode cL_law 1266 = .ok (.invokevirtual 171, 3) := by decide +kernel
theorem dL_law_1269 : decode cL_law 1269 = .ok (.aload_n 2, 1) := by decide +kernel
theorem dL_law_1270 : decode cL_law 1270 = .ok (.invokevirtual 174, 3) := by decide +kernel
theorem dL_law_1273 : decode cL_law 1273 = .ok (.lcmp, 1) := by decide +kernel
theorem dL_law_1274 : decode cL_law 1274 = .ok (.ifCond .eq 78, 3) := by decide +kernel
theorem dL_law_1277 : decode cL_law 1277 = .ok (.iconst 0, 1) := by decide +kernel
theorem dL_law_1278 : decode cL_law 1278 = .ok (.ireturn, 1) := by decide +kernel
theorem dL_law_1279 : decode cL_law 1279 = .ok (.aload_n 1, 1) := by decide +kernel
theorem dL_law_1280 : decode cL_law 1280 = .ok (.aload_n 0, 1) := by decide +kernel
theorem dL_law_1281 : decode cL_law 1281 = .ok (.iload_n 3, 1) := by decide +kernel
theorem dL_law_1282 : decode cL_law 1282 = .ok (.iconst 1, 1) := by decide +kernel
theorem dL_law_1283 : decode cL_law 1283 = .ok (.iadd, 1) := by decide +kernel
theorem dL_law_1284 : decode cL_law 1284 = .ok (.iaload, 1) := by decide +kernel
theorem dL_law_1285 : decode cL_law 1285 = .ok (.invokevirtual 175, 3) := by decide +kernel
theorem dL_law_1288 : decode cL_law 1288 = .ok (.aload_n 2, 1) := by decide +kernel
theorem dL_law_1289 : decode cL_law 1289 = .ok (.aload_n 0, 1) := by decide +kernel
theorem dL_law_1290 : decode cL_law 1290 = .ok (.iload_n 3, 1) := by decide +kernel
theorem dL_law_1291 : decode cL_law 1291 = .ok (.iconst 1, 1) := by decide +kernel
theorem dL_law_1292 : decode cL_law 1292 = .ok (.iadd, 1) := by decide +kernel
theorem dL_law_1293 : decode cL_law 1293 = .ok (.iaload, 1) := by decide +kernel
theorem dL_law_1294 : decode cL_law 1294 = .ok (.invokevirtual 178, 3) := by decide +kernel
theorem dL_law_1297 : decode cL_law 1297 = .ok (.if_icmp .eq 55, 3) := by decide +kernel
theorem dL_law_1300 : decode cL_law 1300 = .ok (.iconst 0, 1) := by decide +kernel
theorem dL_law_1301 : decode cL_law 1301 = .ok (.ireturn, 1) := by decide +kernel
theorem dL_law_1302 : decode cL_law 1302 = .ok (.aload_n 1, 1) := by decide +kernel
theorem dL_law_1303 : decode cL_law 1303 = .ok (.invokevirtual 179, 3) := by decide +kernel
theorem dL_law_1306 : decode cL_law 1306 = .ok (.aload_n 2, 1) := by decide +kernel
theorem dL_law_1307 : decode cL_law 1307 = .ok (.invokevirtual 182, 3) := by decide +kernel
theorem dL_law_1310 : decode cL_law 1310 = .ok (.if_icmp .eq 42, 3) := by decide +kernel
theorem dL_law_1313 : decode cL_law 1313 = .ok (.iconst 0, 1) := by decide +kernel
theorem dL_law_1314 : decode cL_law 1314 = .ok (.ireturn, 1) := by decide +kernel
theorem dL_law_1315 : decode cL_law 1315 = .ok (.aload_n 1, 1) := by decide +kernel
theorem dL_law_1316 : decode cL_law 1316 = .ok (.aload_n 0, 1) := by decide +kernel
theorem dL_law_1317 : decode cL_law 1317 = .ok (.iload_n 3, 1) := by decide +kernel
theorem dL_law_1318 : decode cL_law 1318 = .ok (.iconst 1, 1) := by decide +kernel
theorem dL_law_1319 : decode cL_law 1319 = .ok (.iadd, 1) := by decide +kernel
theorem dL_law_1320 : decode cL_law 1320 = .ok (.iaload, 1) := by decide +kernel
theorem dL_law_1321 : decode cL_law 1321 = .ok (.invokevirtual 183, 3) := by decide +kernel
theorem dL_law_1324 : decode cL_law 1324 = .ok (.aload_n 2, 1) := by decide +kernel
theorem dL_law_1325 : decode cL_law 1325 = .ok (.aload_n 0, 1) := by decide +kernel
theorem dL_law_1326 : decode cL_law 1326 = .ok (.iload_n 3, 1) := by decide +kernel
theorem dL_law_1327 : decode cL_law 1327 = .ok (.iconst 1, 1) := by decide +kernel
theorem dL_law_1328 : decode cL_law 1328 = .ok (.iadd, 1) := by decide +kernel
theorem dL_law_1329 : decode cL_law 1329 = .ok (.iaload, 1) := by decide +kernel
theorem dL_law_1330 : decode cL_law 1330 = .ok (.invokevirtual 186, 3) := by decide +kernel
theorem dL_law_1333 : decode cL_law 1333 = .ok (.if_icmp .eq 19, 3) := by decide +kernel
theorem dL_law_1336 : decode cL_law 1336 = .ok (.iconst 0, 1) := by decide +kernel
theorem dL_law_1337 : decode cL_law 1337 = .ok (.ireturn, 1) := by decide +kernel
theorem dL_law_1338 : decode cL_law 1338 = .ok (.aload_n 1, 1) := by decide +kernel
theorem dL_law_1339 : decode cL_law 1339 = .ok (.invokevirtual 187, 3) := by decide +kernel
theorem dL_law_1342 : decode cL_law 1342 = .ok (.aload_n 2, 1) := by decide +kernel
theorem dL_law_1343 : decode cL_law 1343 = .ok (.invokevirtual 190, 3) := by decide +kernel
theorem dL_law_1346 : decode cL_law 1346 = .ok (.lcmp, 1) := by decide +kernel
theorem dL_law_1347 : decode cL_law 1347 = .ok (.ifCond .eq 5, 3) := by decide +kernel
theorem dL_law_1350 : decode cL_law 1350 = .ok (.iconst 0, 1) := by decide +kernel
theorem dL_law_1351 : decode cL_law 1351 = .ok (.ireturn, 1) := by decide +kernel
theorem dL_law_1352 : decode cL_law 1352 = .ok (.iinc 3 6, 3) := by decide +kernel
theorem dL_law_1355 : decode cL_law 1355 = .ok (.goto (-1337), 3) := by decide +kernel
theorem dL_law_1358 : decode cL_law 1358 = .ok (.iconst 1, 1) := by decide +kernel
theorem dL_law_1359 : decode cL_law 1359 = .ok (.ireturn, 1) := by decide +kernel
def fL_law_1352 (G : gz_G) (l0 s0 mc ms : Nat) (k18 : Nat → Nat → Int32 → gz_H → Option (Int32 × gz_H)) (a1 : Nat) (a2 : Nat) (x3 : Int32) (h : gz_H) : Option (Int32 × gz_H) :=
    k18 a1 a2 (x3 + 6) h
set_option maxRecDepth 100000 in
set_option maxHeartbeats 1000000 in
theorem sL_law_1352 {G : gz_G} {d l0 s0 mc ms : Nat} {Q : Int32 → gz_H → Prop} {k18 : Nat → Nat → Int32 → gz_H → Option (Int32 × gz_H)} (hk18 : ∀ (a1 : Nat) (a2 : Nat) (x3 : Int32) (h : gz_H), gz_g (k18 a1 a2 x3 h) Q → gz_Ok G mL_law (d + 13, l0, s0, mc, ms) 18 [.ref 1000000, .ref a1, .ref a2, .int x3] [] h (gz_qi Q)) (a1 : Nat) (a2 : Nat) (x3 : Int32) (h : gz_H) (hf : gz_g (fL_law_1352 G l0 s0 mc ms k18 a1 a2 x3 h) Q) : gz_Ok G mL_law (d + 13, l0, s0, mc, ms) 1352 [.ref 1000000, .ref a1, .ref a2, .int x3] [] h (gz_qi Q) := by
  unfold fL_law_1352 at hf
  refine gz_iinc (v := x3 + 6) (lv := [.ref 1000000, .ref a1, .ref a2, .int (x3 + 6)]) (pc := 1352) dL_law_1352 rfl rfl (by decide) rfl ?_
  refine gz_goto (tgt := 18) (pc := 1355) dL_law_1355 rfl ?_
  exact hk18 a1 a2 (x3 + 6) h hf
def fL_law_18 (G : gz_G) (l0 s0 mc ms : Nat) : Nat → Nat → Nat → Int32 → gz_H → Option (Int32 × gz_H)
  | 0, _, _, _, _ => none
  | n + 1, a1, a2, x3, h =>
    if ((Int32.ofNat G.2.2.2.1) - (6 : Int32)) < x3 then (
     gz_ck (gz_dc (l0 + mc = h.1.length ∧ s0 + ms = gz_ss h.1)) <|
     some ((1 : Int32), h)
    ) else (
     gz_ck (gz_sin G x3) <|
     gz_lt ((G.2.2.2.2.1 x3.toNatClampNeg) &&& (63 : Int32)) fun (y_4 : Int32) =>
     if y_4 = (0 : Int32) then (
      gz_ck (gz_sin G (x3 + (1 : Int32))) <|
      gz_ck (gz_sin G (x3 + (2 : Int32))) <|
      gz_ck (gz_sh h a1 8 19) <|
      gz_b2 (fX8_row a1 (G.2.2.2.2.1 (x3 + (1 : Int32)).toNatClampNeg) (G.2.2.2.2.1 (x3 + (2 : Int32)).toNatClampNeg) h) fun y_9 h_8 =>
      gz_ck (gz_sh h_8 a2 9 29) <|
      gz_b2 (fX9_row a2 (G.2.2.2.2.1 (x3 + (1 : Int32)).toNatClampNeg) (G.2.2.2.2.1 (x3 + (2 : Int32)).toNatClampNeg) h_8) fun y_12 h_11 =>
      if y_9 = y_12 then (
       fL_law_1352 G l0 s0 mc ms (fun z0 z1 z2 zh => fL_law_18 G l0 s0 mc ms n z0 z1 z2 zh) a1 a2 x3 h_11
      ) else (
       gz_ck (gz_dc (l0 + mc = h_11.1.length ∧ s0 + ms = gz_ss h_11.1)) <|
       some ((0 : Int32), h_11)
      )
     ) else (
     if y_4 = (1 : Int32) then (
      gz_ck (gz_sin G (x3 + (1 : Int32))) <|
      gz_ck (gz_sin G (x3 + (2 : Int32))) <|
      gz_ck (gz_sin G (x3 + (3 : Int32))) <|
      gz_ck (gz_sh h a1 8 19) <|
      gz_b2 (fX8_lay a1 (G.2.2.2.2.1 (x3 + (1 : Int32)).toNatClampNeg) (G.2.2.2.2.1 (x3 + (2 : Int32)).toNatClampNeg) (G.2.2.2.2.1 (x3 + (3 : Int32)).toNatClampNeg) h) fun y_21 h_20 =>
      gz_ck (gz_sh h_20 a2 9 29) <|
      gz_b2 (fX9_lay a2 (G.2.2.2.2.1 (x3 + (1 : Int32)).toNatClampNeg) (G.2.2.2.2.1 (x3 + (2 : Int32)).toNatClampNeg) (G.2.2.2.2.1 (x3 + (3 : Int32)).toNatClampNeg) h_20) fun y_24 h_23 =>
      if y_21 = y_24 then (
       fL_law_1352 G l0 s0 mc ms (fun z0 z1 z2 zh => fL_law_18 G l0 s0 mc ms n z0 z1 z2 zh) a1 a2 x3 h_23
      ) else (
       gz_ck (gz_dc (l0 + mc = h_23.1.length ∧ s0 + ms = gz_ss h_23.1)) <|
       some ((0 : Int32), h_23)
      )
     ) else (
     if y_4 = (2 : Int32) then (
      gz_ck (gz_sin G (x3 + (1 : Int32))) <|
      gz_ck (gz_sin G (x3 + (2 : Int32))) <|
      gz_ck (gz_sh h a1 8 19) <|
      gz_b2 (fX8_at a1 (G.2.2.2.2.1 (x3 + (1 : Int32)).toNatClampNeg) (G.2.2.2.2.1 (x3 + (2 : Int32)).toNatClampNeg) h) fun y_32 h_31 =>
      gz_ck (gz_sh h_31 a2 9 29) <|
      gz_b2 (fX9_at a2 (G.2.2.2.2.1 (x3 + (1 : Int32)).toNatClampNeg) (G.2.2.2.2.1 (x3 + (2 : Int32)).toNatClampNeg) h_31) fun y_35 h_34 =>
      if y_32 = y_35 then (
       fL_law_1352 G l0 s0 mc ms (fun z0 z1 z2 zh => fL_law_18 G l0 s0 mc ms n z0 z1 z2 zh) a1 a2 x3 h_34
      ) else (
       gz_ck (gz_dc (l0 + mc = h_34.1.length ∧ s0 + ms = gz_ss h_34.1)) <|
       some ((0 : Int32), h_34)
      )
     ) else (
     if y_4 = (3 : Int32) then (
      gz_ck (gz_sin G (x3 + (1 : Int32))) <|
      gz_ck (gz_sh h a1 8 19) <|
      gz_b2 (fX8_tear a1 (G.2.2.2.2.1 (x3 + (1 : Int32)).toNatClampNeg) h) fun y_42 h_41 =>
      gz_ck (gz_sh h_41 a2 9 29) <|
      gz_b2 (fX9_tear a2 (G.2.2.2.2.1 (x3 + (1 : Int32)).toNatClampNeg) h_41) fun y_45 h_44 =>
      if y_42 = y_45 then (
       fL_law_1352 G l0 s0 mc ms (fun z0 z1 z2 zh => fL_law_18 G l0 s0 mc ms n z0 z1 z2 zh) a1 a2 x3 h_44
      ) else (
       gz_ck (gz_dc (l0 + mc = h_44.1.length ∧ s0 + ms = gz_ss h_44.1)) <|
       some ((0 : Int32), h_44)
      )
     ) else (
     if y_4 = (4 : Int32) then (
      gz_ck (gz_sin G (x3 + (1 : Int32))) <|
      gz_ck (gz_sin G (x3 + (2 : Int32))) <|
      gz_ck (gz_sin G (x3 + (3 : Int32))) <|
      gz_ck (gz_sin G (x3 + (4 : Int32))) <|
      gz_ck (gz_sin G (x3 + (5 : Int32))) <|
      gz_ck (gz_sh h a1 8 19) <|
      gz_b2 (fX8_copy a1 (G.2.2.2.2.1 (x3 + (1 : Int32)).toNatClampNeg) (G.2.2.2.2.1 (x3 + (2 : Int32)).toNatClampNeg) (G.2.2.2.2.1 (x3 + (3 : Int32)).toNatClampNeg) (G.2.2.2.2.1 (x3 + (4 : Int32)).toNatClampNeg) (G.2.2.2.2.1 (x3 + (5 : Int32)).toNatClampNeg) h) fun y_56 h_55 =>
      gz_ck (gz_sh h_55 a2 9 29) <|
      gz_b2 (fX9_copy a2 (G.2.2.2.2.1 (x3 + (1 : Int32)).toNatClampNeg) (G.2.2.2.2.1 (x3 + (2 : Int32)).toNatClampNeg) (G.2.2.2.2.1 (x3 + (3 : Int32)).toNatClampNeg) (G.2.2.2.2.1 (x3 + (4 : Int32)).toNatClampNeg) (G.2.2.2.2.1 (x3 + (5 : Int32)).toNatClampNeg) h_55) fun y_59 h_58 =>
      if y_56 = y_59 then (
       fL_law_1352 G l0 s0 mc ms (fun z0 z1 z2 zh => fL_law_18 G l0 s0 mc ms n z0 z1 z2 zh) a1 a2 x3 h_58
      ) else (
       gz_ck (gz_dc (l0 + mc = h_58.1.length ∧ s0 + ms = gz_ss h_58.1)) <|
       some ((0 : Int32), h_58)
      )
     ) else (
     if y_4 = (5 : Int32) then (
      gz_ck (gz_sin G (x3 + (1 : Int32))) <|
      gz_ck (gz_sh h a1 8 19) <|
      gz_b2 (fX8_mean a1 (G.2.2.2.2.1 (x3 + (1 : Int32)).toNatClampNeg) h) fun y_66 h_65 =>
      gz_ck (gz_sh h_65 a2 9 29) <|
      gz_b2 (fX9_mean a2 (G.2.2.2.2.1 (x3 + (1 : Int32)).toNatClampNeg) h_65) fun y_69 h_68 =>
      if y_66 = y_69 then (
       fL_law_1352 G l0 s0 mc ms (fun z0 z1 z2 zh => fL_law_18 G l0 s0 mc ms n z0 z1 z2 zh) a1 a2 x3 h_68
      ) else (
       gz_ck (gz_dc (l0 + mc = h_68.1.length ∧ s0 + ms = gz_ss h_68.1)) <|
       some ((0 : Int32), h_68)
      )
     ) else (
     if y_4 = (6 : Int32) then (
      gz_ck (gz_sin G (x3 + (1 : Int32))) <|
      gz_ck (gz_sin G (x3 + (2 : Int32))) <|
      gz_ck (gz_sh h a1 8 19) <|
      gz_b2 (fX8_text a1 (G.2.2.2.2.1 (x3 + (1 : Int32)).toNatClampNeg) (G.2.2.2.2.1 (x3 + (2 : Int32)).toNatClampNeg) h) fun y_77 h_76 =>
      gz_ck (gz_sh h_76 a2 9 29) <|
      gz_b2 (fX9_text a2 (G.2.2.2.2.1 (x3 + (1 : Int32)).toNatClampNeg) (G.2.2.2.2.1 (x3 + (2 : Int32)).toNatClampNeg) h_76) fun y_80 h_79 =>
      if y_77 = y_80 then (
       fL_law_1352 G l0 s0 mc ms (fun z0 z1 z2 zh => fL_law_18 G l0 s0 mc ms n z0 z1 z2 zh) a1 a2 x3 h_79
      ) else (
       gz_ck (gz_dc (l0 + mc = h_79.1.length ∧ s0 + ms = gz_ss h_79.1)) <|
       some ((0 : Int32), h_79)
      )
     ) else (
     if y_4 = (7 : Int32) then (
      gz_ck (gz_sin G (x3 + (1 : Int32))) <|
      gz_ck (gz_sin G (x3 + (2 : Int32))) <|
      gz_ck (gz_sin G (x3 + (3 : Int32))) <|
      gz_ck (gz_sh h a1 8 19) <|
      gz_b2 (fX8_put a1 (G.2.2.2.2.1 (x3 + (1 : Int32)).toNatClampNeg) (G.2.2.2.2.1 (x3 + (2 : Int32)).toNatClampNeg) (G.2.2.2.2.1 (x3 + (3 : Int32)).toNatClampNeg) h) fun y_89 h_88 =>
      gz_ck (gz_sh h_88 a2 9 29) <|
      gz_b2 (fX9_put a2 (G.2.2.2.2.1 (x3 + (1 : Int32)).toNatClampNeg) (G.2.2.2.2.1 (x3 + (2 : Int32)).toNatClampNeg) (G.2.2.2.2.1 (x3 + (3 : Int32)).toNatClampNeg) h_88) fun y_92 h_91 =>
      if y_89 = y_92 then (
       fL_law_1352 G l0 s0 mc ms (fun z0 z1 z2 zh => fL_law_18 G l0 s0 mc ms n z0 z1 z2 zh) a1 a2 x3 h_91
      ) else (
       gz_ck (gz_dc (l0 + mc = h_91.1.length ∧ s0 + ms = gz_ss h_91.1)) <|
       some ((0 : Int32), h_91)
      )
     ) else (
     if y_4 = (8 : Int32) then (
      gz_ck (gz_sin G (x3 + (1 : Int32))) <|
      gz_ck (gz_sh h a1 8 19) <|
      gz_b2 (fX8_fault a1 (G.2.2.2.2.1 (x3 + (1 : Int32)).toNatClampNeg) h) fun y_99 h_98 =>
      gz_ck (gz_sh h_98 a2 9 29) <|
      gz_b2 (fX9_fault a2 (G.2.2.2.2.1 (x3 + (1 : Int32)).toNatClampNeg) h_98) fun y_102 h_101 =>
      if y_99 = y_102 then (
       fL_law_1352 G l0 s0 mc ms (fun z0 z1 z2 zh => fL_law_18 G l0 s0 mc ms n z0 z1 z2 zh) a1 a2 x3 h_101
      ) else (
       gz_ck (gz_dc (l0 + mc = h_101.1.length ∧ s0 + ms = gz_ss h_101.1)) <|
       some ((0 : Int32), h_101)
      )
     ) else (
     if y_4 = (9 : Int32) then (
      gz_ck (gz_sin G (x3 + (1 : Int32))) <|
      gz_ck (gz_sh h a1 8 19) <|
      gz_b2 (fX8_flock a1 (G.2.2.2.2.1 (x3 + (1 : Int32)).toNatClampNeg) h) fun y_109 h_108 =>
      gz_ck (gz_sh h_108 a2 9 29) <|
      gz_b2 (fX9_flock a2 (G.2.2.2.2.1 (x3 + (1 : Int32)).toNatClampNeg) h_108) fun y_112 h_111 =>
      if y_109 = y_112 then (
       fL_law_1352 G l0 s0 mc ms (fun z0 z1 z2 zh => fL_law_18 G l0 s0 mc ms n z0 z1 z2 zh) a1 a2 x3 h_111
      ) else (
       gz_ck (gz_dc (l0 + mc = h_111.1.length ∧ s0 + ms = gz_ss h_111.1)) <|
       some ((0 : Int32), h_111)
      )
     ) else (
     if y_4 = (10 : Int32) then (
      gz_ck (gz_sin G (x3 + (1 : Int32))) <|
      gz_ck (gz_sin G (x3 + (2 : Int32))) <|
      gz_ck (gz_sh h a1 8 19) <|
      gz_b2 (fX8_goose a1 (G.2.2.2.2.1 (x3 + (1 : Int32)).toNatClampNeg) (G.2.2.2.2.1 (x3 + (2 : Int32)).toNatClampNeg) h) fun y_120 h_119 =>
      gz_ck (gz_sh h_119 a2 9 29) <|
      gz_b2 (fX9_goose a2 (G.2.2.2.2.1 (x3 + (1 : Int32)).toNatClampNeg) (G.2.2.2.2.1 (x3 + (2 : Int32)).toNatClampNeg) h_119) fun y_123 h_122 =>
      if y_120 = y_123 then (
       fL_law_1352 G l0 s0 mc ms (fun z0 z1 z2 zh => fL_law_18 G l0 s0 mc ms n z0 z1 z2 zh) a1 a2 x3 h_122
      ) else (
       gz_ck (gz_dc (l0 + mc = h_122.1.length ∧ s0 + ms = gz_ss h_122.1)) <|
       some ((0 : Int32), h_122)
      )
     ) else (
     if y_4 = (11 : Int32) then (
      gz_ck (gz_sin G (x3 + (1 : Int32))) <|
      gz_ck (gz_sin G (x3 + (2 : Int32))) <|
      gz_ck (gz_sh h a1 8 19) <|
      gz_b2 (fX8_mark a1 (G.2.2.2.2.1 (x3 + (1 : Int32)).toNatClampNeg) (G.2.2.2.2.1 (x3 + (2 : Int32)).toNatClampNeg) h) fun y_131 h_130 =>
      gz_ck (gz_sh h_130 a2 9 29) <|
      gz_b2 (fX9_mark a2 (G.2.2.2.2.1 (x3 + (1 : Int32)).toNatClampNeg) (G.2.2.2.2.1 (x3 + (2 : Int32)).toNatClampNeg) h_130) fun y_134 h_133 =>
      if y_131 = y_134 then (
       fL_law_1352 G l0 s0 mc ms (fun z0 z1 z2 zh => fL_law_18 G l0 s0 mc ms n z0 z1 z2 zh) a1 a2 x3 h_133
      ) else (
       gz_ck (gz_dc (l0 + mc = h_133.1.length ∧ s0 + ms = gz_ss h_133.1)) <|
       some ((0 : Int32), h_133)
      )
     ) else (
     if y_4 = (12 : Int32) then (
      gz_ck (gz_sin G (x3 + (1 : Int32))) <|
      gz_ck (gz_sh h a1 8 19) <|
      gz_b2 (fX8_place a1 (G.2.2.2.2.1 (x3 + (1 : Int32)).toNatClampNeg) h) fun y_141 h_140 =>
      gz_ck (gz_sh h_140 a2 9 29) <|
      gz_b2 (fX9_place a2 (G.2.2.2.2.1 (x3 + (1 : Int32)).toNatClampNeg) h_140) fun y_144 h_143 =>
      if y_141 = y_144 then (
       fL_law_1352 G l0 s0 mc ms (fun z0 z1 z2 zh => fL_law_18 G l0 s0 mc ms n z0 z1 z2 zh) a1 a2 x3 h_143
      ) else (
       gz_ck (gz_dc (l0 + mc = h_143.1.length ∧ s0 + ms = gz_ss h_143.1)) <|
       some ((0 : Int32), h_143)
      )
     ) else (
     if y_4 = (13 : Int32) then (
      gz_ck (gz_sin G (x3 + (1 : Int32))) <|
      gz_ck (gz_sin G (x3 + (2 : Int32))) <|
      gz_ck (gz_sh h a1 8 19) <|
      gz_b2 (fX8_give a1 (G.2.2.2.2.1 (x3 + (1 : Int32)).toNatClampNeg) (G.2.2.2.2.1 (x3 + (2 : Int32)).toNatClampNeg) h) fun y_152 h_151 =>
      gz_ck (gz_sh h_151 a2 9 29) <|
      gz_b2 (fX9_give a2 (G.2.2.2.2.1 (x3 + (1 : Int32)).toNatClampNeg) (G.2.2.2.2.1 (x3 + (2 : Int32)).toNatClampNeg) h_151) fun y_155 h_154 =>
      if y_152 = y_155 then (
       fL_law_1352 G l0 s0 mc ms (fun z0 z1 z2 zh => fL_law_18 G l0 s0 mc ms n z0 z1 z2 zh) a1 a2 x3 h_154
      ) else (
       gz_ck (gz_dc (l0 + mc = h_154.1.length ∧ s0 + ms = gz_ss h_154.1)) <|
       some ((0 : Int32), h_154)
      )
     ) else (
     if y_4 = (14 : Int32) then (
      gz_ck (gz_sin G (x3 + (1 : Int32))) <|
      gz_ck (gz_sh h a1 8 19) <|
      gz_b2 (fX8_fright a1 (G.2.2.2.2.1 (x3 + (1 : Int32)).toNatClampNeg) h) fun y_162 h_161 =>
      gz_ck (gz_sh h_161 a2 9 29) <|
      gz_b2 (fX9_fright a2 (G.2.2.2.2.1 (x3 + (1 : Int32)).toNatClampNeg) h_161) fun y_165 h_164 =>
      if y_162 = y_165 then (
       fL_law_1352 G l0 s0 mc ms (fun z0 z1 z2 zh => fL_law_18 G l0 s0 mc ms n z0 z1 z2 zh) a1 a2 x3 h_164
      ) else (
       gz_ck (gz_dc (l0 + mc = h_164.1.length ∧ s0 + ms = gz_ss h_164.1)) <|
       some ((0 : Int32), h_164)
      )
     ) else (
     if y_4 = (15 : Int32) then (
      gz_ck (gz_sin G (x3 + (1 : Int32))) <|
      gz_ck (gz_sin G (x3 + (2 : Int32))) <|
      gz_ck (gz_sh h a1 8 19) <|
      gz_b2 (fX8_mix a1 (G.2.2.2.2.1 (x3 + (1 : Int32)).toNatClampNeg) (G.2.2.2.2.1 (x3 + (2 : Int32)).toNatClampNeg) h) fun y_173 h_172 =>
      gz_ck (gz_sh h_172 a2 9 29) <|
      gz_b2 (fX9_mix a2 (G.2.2.2.2.1 (x3 + (1 : Int32)).toNatClampNeg) (G.2.2.2.2.1 (x3 + (2 : Int32)).toNatClampNeg) h_172) fun y_176 h_175 =>
      if y_173 = y_176 then (
       fL_law_1352 G l0 s0 mc ms (fun z0 z1 z2 zh => fL_law_18 G l0 s0 mc ms n z0 z1 z2 zh) a1 a2 x3 h_175
      ) else (
       gz_ck (gz_dc (l0 + mc = h_175.1.length ∧ s0 + ms = gz_ss h_175.1)) <|
       some ((0 : Int32), h_175)
      )
     ) else (
     if y_4 = (16 : Int32) then (
      gz_ck (gz_sin G (x3 + (1 : Int32))) <|
      gz_ck (gz_sin G (x3 + (2 : Int32))) <|
      gz_ck (gz_sh h a1 8 19) <|
      gz_b2 (fX8_eat a1 (G.2.2.2.2.1 (x3 + (1 : Int32)).toNatClampNeg) (G.2.2.2.2.1 (x3 + (2 : Int32)).toNatClampNeg) h) fun y_184 h_183 =>
      gz_ck (gz_sh h_183 a2 9 29) <|
      gz_b2 (fX9_eat a2 (G.2.2.2.2.1 (x3 + (1 : Int32)).toNatClampNeg) (G.2.2.2.2.1 (x3 + (2 : Int32)).toNatClampNeg) h_183) fun y_187 h_186 =>
      if y_184 = y_187 then (
       fL_law_1352 G l0 s0 mc ms (fun z0 z1 z2 zh => fL_law_18 G l0 s0 mc ms n z0 z1 z2 zh) a1 a2 x3 h_186
      ) else (
       gz_ck (gz_dc (l0 + mc = h_186.1.length ∧ s0 + ms = gz_ss h_186.1)) <|
       some ((0 : Int32), h_186)
      )
     ) else (
     if y_4 = (17 : Int32) then (
      gz_ck (gz_sin G (x3 + (1 : Int32))) <|
      gz_ck (gz_sh h a1 8 19) <|
      gz_b2 (fX8_undo a1 (G.2.2.2.2.1 (x3 + (1 : Int32)).toNatClampNeg) h) fun y_194 h_193 =>
      gz_ck (gz_sh h_193 a2 9 29) <|
      gz_b2 (fX9_undo a2 (G.2.2.2.2.1 (x3 + (1 : Int32)).toNatClampNeg) h_193) fun y_197 h_196 =>
      if y_194 = y_197 then (
       fL_law_1352 G l0 s0 mc ms (fun z0 z1 z2 zh => fL_law_18 G l0 s0 mc ms n z0 z1 z2 zh) a1 a2 x3 h_196
      ) else (
       gz_ck (gz_dc (l0 + mc = h_196.1.length ∧ s0 + ms = gz_ss h_196.1)) <|
       some ((0 : Int32), h_196)
      )
     ) else (
     if y_4 = (18 : Int32) then (
      gz_ck (gz_sin G (x3 + (1 : Int32))) <|
      gz_ck (gz_sh h a1 8 19) <|
      gz_b2 (fX8_keep a1 (G.2.2.2.2.1 (x3 + (1 : Int32)).toNatClampNeg) h) fun y_204 h_203 =>
      gz_ck (gz_sh h_203 a2 9 29) <|
      gz_b2 (fX9_keep a2 (G.2.2.2.2.1 (x3 + (1 : Int32)).toNatClampNeg) h_203) fun y_207 h_206 =>
      if y_204 = y_207 then (
       fL_law_1352 G l0 s0 mc ms (fun z0 z1 z2 zh => fL_law_18 G l0 s0 mc ms n z0 z1 z2 zh) a1 a2 x3 h_206
      ) else (
       gz_ck (gz_dc (l0 + mc = h_206.1.length ∧ s0 + ms = gz_ss h_206.1)) <|
       some ((0 : Int32), h_206)
      )
     ) else (
     if y_4 = (19 : Int32) then (
      gz_ck (gz_sin G (x3 + (1 : Int32))) <|
      gz_ck (gz_sh h a1 8 19) <|
      gz_b2 (fX8_on a1 (G.2.2.2.2.1 (x3 + (1 : Int32)).toNatClampNeg) h) fun y_214 h_213 =>
      gz_ck (gz_sh h_213 a2 9 29) <|
      gz_b2 (fX9_on a2 (G.2.2.2.2.1 (x3 + (1 : Int32)).toNatClampNeg) h_213) fun y_217 h_216 =>
      if y_214 = y_217 then (
       fL_law_1352 G l0 s0 mc ms (fun z0 z1 z2 zh => fL_law_18 G l0 s0 mc ms n z0 z1 z2 zh) a1 a2 x3 h_216
      ) else (
       gz_ck (gz_dc (l0 + mc = h_216.1.length ∧ s0 + ms = gz_ss h_216.1)) <|
       some ((0 : Int32), h_216)
      )
     ) else (
     if y_4 = (20 : Int32) then (
      gz_ck (gz_sin G (x3 + (1 : Int32))) <|
      gz_ck (gz_sin G (x3 + (2 : Int32))) <|
      gz_ck (gz_sh h a1 8 19) <|
      gz_b2 (fX8_tells a1 (G.2.2.2.2.1 (x3 + (1 : Int32)).toNatClampNeg) (G.2.2.2.2.1 (x3 + (2 : Int32)).toNatClampNeg) h) fun y_225 h_224 =>
      gz_ck (gz_sh h_224 a2 9 29) <|
      gz_b2 (fX9_tells a2 (G.2.2.2.2.1 (x3 + (1 : Int32)).toNatClampNeg) (G.2.2.2.2.1 (x3 + (2 : Int32)).toNatClampNeg) h_224) fun y_228 h_227 =>
      if y_225 = y_228 then (
       fL_law_1352 G l0 s0 mc ms (fun z0 z1 z2 zh => fL_law_18 G l0 s0 mc ms n z0 z1 z2 zh) a1 a2 x3 h_227
      ) else (
       gz_ck (gz_dc (l0 + mc = h_227.1.length ∧ s0 + ms = gz_ss h_227.1)) <|
       some ((0 : Int32), h_227)
      )
     ) else (
     if y_4 = (21 : Int32) then (
      gz_ck (gz_sin G (x3 + (1 : Int32))) <|
      gz_ck (gz_sh h a1 8 19) <|
      gz_b2 (fX8_told a1 (G.2.2.2.2.1 (x3 + (1 : Int32)).toNatClampNeg) h) fun y_235 h_234 =>
      gz_ck (gz_sh h_234 a2 9 29) <|
      gz_b2 (fX9_told a2 (G.2.2.2.2.1 (x3 + (1 : Int32)).toNatClampNeg) h_234) fun y_238 h_237 =>
      if y_235 = y_238 then (
       fL_law_1352 G l0 s0 mc ms (fun z0 z1 z2 zh => fL_law_18 G l0 s0 mc ms n z0 z1 z2 zh) a1 a2 x3 h_237
      ) else (
       gz_ck (gz_dc (l0 + mc = h_237.1.length ∧ s0 + ms = gz_ss h_237.1)) <|
       some ((0 : Int32), h_237)
      )
     ) else (
     if y_4 = (22 : Int32) then (
      gz_ck (gz_sin G (x3 + (1 : Int32))) <|
      gz_ck (gz_sh h a1 8 19) <|
      gz_b2 (fX8_holders a1 (G.2.2.2.2.1 (x3 + (1 : Int32)).toNatClampNeg) h) fun y_245 h_244 =>
      gz_ck (gz_sh h_244 a2 9 29) <|
      gz_b2 (fX9_holders a2 (G.2.2.2.2.1 (x3 + (1 : Int32)).toNatClampNeg) h_244) fun y_248 h_247 =>
      if y_245 = y_248 then (
       fL_law_1352 G l0 s0 mc ms (fun z0 z1 z2 zh => fL_law_18 G l0 s0 mc ms n z0 z1 z2 zh) a1 a2 x3 h_247
      ) else (
       gz_ck (gz_dc (l0 + mc = h_247.1.length ∧ s0 + ms = gz_ss h_247.1)) <|
       some ((0 : Int32), h_247)
      )
     ) else (
     if y_4 = (23 : Int32) then (
      gz_ck (gz_sh h a1 8 19) <|
      gz_b2 (fX8_lost a1 h) fun y_254 h_253 =>
      gz_ck (gz_sh h_253 a2 9 29) <|
      gz_b2 (fX9_lost a2 h_253) fun y_257 h_256 =>
      if y_254 = y_257 then (
       fL_law_1352 G l0 s0 mc ms (fun z0 z1 z2 zh => fL_law_18 G l0 s0 mc ms n z0 z1 z2 zh) a1 a2 x3 h_256
      ) else (
       gz_ck (gz_dc (l0 + mc = h_256.1.length ∧ s0 + ms = gz_ss h_256.1)) <|
       some ((0 : Int32), h_256)
      )
     ) else (
     if y_4 = (24 : Int32) then (
      gz_ck (gz_sh h a1 8 19) <|
      gz_b2 (fX8_mute a1 h) fun y_263 h_262 =>
      gz_ck (gz_sh h_262 a2 9 29) <|
      gz_b2 (fX9_mute a2 h_262) fun y_266 h_265 =>
      if y_263 = y_266 then (
       fL_law_1352 G l0 s0 mc ms (fun z0 z1 z2 zh => fL_law_18 G l0 s0 mc ms n z0 z1 z2 zh) a1 a2 x3 h_265
      ) else (
       gz_ck (gz_dc (l0 + mc = h_265.1.length ∧ s0 + ms = gz_ss h_265.1)) <|
       some ((0 : Int32), h_265)
      )
     ) else (
     if y_4 = (25 : Int32) then (
      gz_ck (gz_sin G (x3 + (1 : Int32))) <|
      gz_ck (gz_sin G (x3 + (2 : Int32))) <|
      gz_ck (gz_sin G (x3 + (3 : Int32))) <|
      gz_ck (gz_sh h a1 8 19) <|
      gz_b2 (fX8_walk a1 (G.2.2.2.2.1 (x3 + (1 : Int32)).toNatClampNeg) (G.2.2.2.2.1 (x3 + (2 : Int32)).toNatClampNeg) (G.2.2.2.2.1 (x3 + (3 : Int32)).toNatClampNeg) h) fun y_275 h_274 =>
      gz_ck (gz_sh h_274 a2 9 29) <|
      gz_b2 (fX9_walk a2 (G.2.2.2.2.1 (x3 + (1 : Int32)).toNatClampNeg) (G.2.2.2.2.1 (x3 + (2 : Int32)).toNatClampNeg) (G.2.2.2.2.1 (x3 + (3 : Int32)).toNatClampNeg) h_274) fun y_278 h_277 =>
      if y_275 = y_278 then (
       fL_law_1352 G l0 s0 mc ms (fun z0 z1 z2 zh => fL_law_18 G l0 s0 mc ms n z0 z1 z2 zh) a1 a2 x3 h_277
      ) else (
       gz_ck (gz_dc (l0 + mc = h_277.1.length ∧ s0 + ms = gz_ss h_277.1)) <|
       some ((0 : Int32), h_277)
      )
     ) else (
     if y_4 = (26 : Int32) then (
      gz_ck (gz_sin G (x3 + (1 : Int32))) <|
      gz_ck (gz_sh h a1 8 19) <|
      gz_b2 (fX8_crew a1 (G.2.2.2.2.1 (x3 + (1 : Int32)).toNatClampNeg) h) fun y_285 h_284 =>
      gz_ck (gz_sh h_284 a2 9 29) <|
      gz_b2 (fX9_crew a2 (G.2.2.2.2.1 (x3 + (1 : Int32)).toNatClampNeg) h_284) fun y_288 h_287 =>
      if y_285 = y_288 then (
       fL_law_1352 G l0 s0 mc ms (fun z0 z1 z2 zh => fL_law_18 G l0 s0 mc ms n z0 z1 z2 zh) a1 a2 x3 h_287
      ) else (
       gz_ck (gz_dc (l0 + mc = h_287.1.length ∧ s0 + ms = gz_ss h_287.1)) <|
       some ((0 : Int32), h_287)
      )
     ) else (
     if y_4 = (27 : Int32) then (
      gz_ck (gz_sin G (x3 + (1 : Int32))) <|
      gz_ck (gz_sh h a1 8 19) <|
      gz_b2 (fX8_least a1 (G.2.2.2.2.1 (x3 + (1 : Int32)).toNatClampNeg) h) fun y_295 h_294 =>
      gz_ck (gz_sh h_294 a2 9 29) <|
      gz_b2 (fX9_least a2 (G.2.2.2.2.1 (x3 + (1 : Int32)).toNatClampNeg) h_294) fun y_298 h_297 =>
      if y_295 = y_298 then (
       fL_law_1352 G l0 s0 mc ms (fun z0 z1 z2 zh => fL_law_18 G l0 s0 mc ms n z0 z1 z2 zh) a1 a2 x3 h_297
      ) else (
       gz_ck (gz_dc (l0 + mc = h_297.1.length ∧ s0 + ms = gz_ss h_297.1)) <|
       some ((0 : Int32), h_297)
      )
     ) else (
     if y_4 = (28 : Int32) then (
      gz_ck (gz_sh h a1 8 19) <|
      gz_b2 (fX8_risk a1 h) fun y_304 h_303 =>
      gz_ck (gz_sh h_303 a2 9 29) <|
      gz_b2 (fX9_risk a2 h_303) fun y_307 h_306 =>
      if y_304 = y_307 then (
       fL_law_1352 G l0 s0 mc ms (fun z0 z1 z2 zh => fL_law_18 G l0 s0 mc ms n z0 z1 z2 zh) a1 a2 x3 h_306
      ) else (
       gz_ck (gz_dc (l0 + mc = h_306.1.length ∧ s0 + ms = gz_ss h_306.1)) <|
       some ((0 : Int32), h_306)
      )
     ) else (
     if y_4 = (29 : Int32) then (
      gz_ck (gz_sh h a1 8 19) <|
      gz_b2 (fX8_safe a1 h) fun y_313 h_312 =>
      gz_ck (gz_sh h_312 a2 9 29) <|
      gz_b2 (fX9_safe a2 h_312) fun y_316 h_315 =>
      if y_313 = y_316 then (
       fL_law_1352 G l0 s0 mc ms (fun z0 z1 z2 zh => fL_law_18 G l0 s0 mc ms n z0 z1 z2 zh) a1 a2 x3 h_315
      ) else (
       gz_ck (gz_dc (l0 + mc = h_315.1.length ∧ s0 + ms = gz_ss h_315.1)) <|
       some ((0 : Int32), h_315)
      )
     ) else (
     if y_4 = (30 : Int32) then (
      gz_ck (gz_sin G (x3 + (1 : Int32))) <|
      gz_ck (gz_sh h a1 8 19) <|
      gz_b2 (fX8_share a1 (G.2.2.2.2.1 (x3 + (1 : Int32)).toNatClampNeg) h) fun y_323 h_322 =>
      gz_ck (gz_sh h_322 a2 9 29) <|
      gz_b2 (fX9_share a2 (G.2.2.2.2.1 (x3 + (1 : Int32)).toNatClampNeg) h_322) fun y_326 h_325 =>
      if y_323 = y_326 then (
       fL_law_1352 G l0 s0 mc ms (fun z0 z1 z2 zh => fL_law_18 G l0 s0 mc ms n z0 z1 z2 zh) a1 a2 x3 h_325
      ) else (
       gz_ck (gz_dc (l0 + mc = h_325.1.length ∧ s0 + ms = gz_ss h_325.1)) <|
       some ((0 : Int32), h_325)
      )
     ) else (
     if y_4 = (31 : Int32) then (
      gz_ck (gz_sin G (x3 + (1 : Int32))) <|
      gz_ck (gz_sin G (x3 + (2 : Int32))) <|
      gz_ck (gz_sh h a1 8 19) <|
      gz_b2 (fX8_held a1 (G.2.2.2.2.1 (x3 + (1 : Int32)).toNatClampNeg) (G.2.2.2.2.1 (x3 + (2 : Int32)).toNatClampNeg) h) fun y_334 h_333 =>
      gz_ck (gz_sh h_333 a2 9 29) <|
      gz_b2 (fX9_held a2 (G.2.2.2.2.1 (x3 + (1 : Int32)).toNatClampNeg) (G.2.2.2.2.1 (x3 + (2 : Int32)).toNatClampNeg) h_333) fun y_337 h_336 =>
      if y_334 = y_337 then (
       fL_law_1352 G l0 s0 mc ms (fun z0 z1 z2 zh => fL_law_18 G l0 s0 mc ms n z0 z1 z2 zh) a1 a2 x3 h_336
      ) else (
       gz_ck (gz_dc (l0 + mc = h_336.1.length ∧ s0 + ms = gz_ss h_336.1)) <|
       some ((0 : Int32), h_336)
      )
     ) else (
     if y_4 = (32 : Int32) then (
      gz_ck (gz_sin G (x3 + (1 : Int32))) <|
      gz_ck (gz_sin G (x3 + (2 : Int32))) <|
      gz_ck (gz_sh h a1 8 19) <|
      gz_b2 (fX8_kinds a1 (G.2.2.2.2.1 (x3 + (1 : Int32)).toNatClampNeg) (G.2.2.2.2.1 (x3 + (2 : Int32)).toNatClampNeg) h) fun y_345 h_344 =>
      gz_ck (gz_sh h_344 a2 9 29) <|
      gz_b2 (fX9_kinds a2 (G.2.2.2.2.1 (x3 + (1 : Int32)).toNatClampNeg) (G.2.2.2.2.1 (x3 + (2 : Int32)).toNatClampNeg) h_344) fun y_348 h_347 =>
      if y_345 = y_348 then (
       fL_law_1352 G l0 s0 mc ms (fun z0 z1 z2 zh => fL_law_18 G l0 s0 mc ms n z0 z1 z2 zh) a1 a2 x3 h_347
      ) else (
       gz_ck (gz_dc (l0 + mc = h_347.1.length ∧ s0 + ms = gz_ss h_347.1)) <|
       some ((0 : Int32), h_347)
      )
     ) else (
     if y_4 = (33 : Int32) then (
      gz_ck (gz_sin G (x3 + (1 : Int32))) <|
      gz_ck (gz_sin G (x3 + (2 : Int32))) <|
      gz_ck (gz_sh h a1 8 19) <|
      gz_b2 (fX8_odds a1 (G.2.2.2.2.1 (x3 + (1 : Int32)).toNatClampNeg) (G.2.2.2.2.1 (x3 + (2 : Int32)).toNatClampNeg) h) fun y_356 h_355 =>
      gz_ck (gz_sh h_355 a2 9 29) <|
      gz_b2 (fX9_odds a2 (G.2.2.2.2.1 (x3 + (1 : Int32)).toNatClampNeg) (G.2.2.2.2.1 (x3 + (2 : Int32)).toNatClampNeg) h_355) fun y_359 h_358 =>
      if y_356 = y_359 then (
       fL_law_1352 G l0 s0 mc ms (fun z0 z1 z2 zh => fL_law_18 G l0 s0 mc ms n z0 z1 z2 zh) a1 a2 x3 h_358
      ) else (
       gz_ck (gz_dc (l0 + mc = h_358.1.length ∧ s0 + ms = gz_ss h_358.1)) <|
       some ((0 : Int32), h_358)
      )
     ) else (
     if y_4 = (34 : Int32) then (
      gz_ck (gz_sin G (x3 + (1 : Int32))) <|
      gz_ck (gz_sh h a1 8 19) <|
      gz_b2 (fX8_mid a1 (G.2.2.2.2.1 (x3 + (1 : Int32)).toNatClampNeg) h) fun y_366 h_365 =>
      gz_ck (gz_sh h_365 a2 9 29) <|
      gz_b2 (fX9_mid a2 (G.2.2.2.2.1 (x3 + (1 : Int32)).toNatClampNeg) h_365) fun y_369 h_368 =>
      if y_366 = y_369 then (
       fL_law_1352 G l0 s0 mc ms (fun z0 z1 z2 zh => fL_law_18 G l0 s0 mc ms n z0 z1 z2 zh) a1 a2 x3 h_368
      ) else (
       gz_ck (gz_dc (l0 + mc = h_368.1.length ∧ s0 + ms = gz_ss h_368.1)) <|
       some ((0 : Int32), h_368)
      )
     ) else (
     if y_4 = (35 : Int32) then (
      gz_ck (gz_sin G (x3 + (1 : Int32))) <|
      gz_ck (gz_sin G (x3 + (2 : Int32))) <|
      gz_ck (gz_sh h a1 8 19) <|
      gz_b2 (fX8_lots a1 (G.2.2.2.2.1 (x3 + (1 : Int32)).toNatClampNeg) (G.2.2.2.2.1 (x3 + (2 : Int32)).toNatClampNeg) h) fun y_377 h_376 =>
      gz_ck (gz_sh h_376 a2 9 29) <|
      gz_b2 (fX9_lots a2 (G.2.2.2.2.1 (x3 + (1 : Int32)).toNatClampNeg) (G.2.2.2.2.1 (x3 + (2 : Int32)).toNatClampNeg) h_376) fun y_380 h_379 =>
      if y_377 = y_380 then (
       fL_law_1352 G l0 s0 mc ms (fun z0 z1 z2 zh => fL_law_18 G l0 s0 mc ms n z0 z1 z2 zh) a1 a2 x3 h_379
      ) else (
       gz_ck (gz_dc (l0 + mc = h_379.1.length ∧ s0 + ms = gz_ss h_379.1)) <|
       some ((0 : Int32), h_379)
      )
     ) else (
     if y_4 = (36 : Int32) then (
      gz_ck (gz_sh h a1 8 19) <|
      gz_b2 (fX8_asked a1 h) fun y_386 h_385 =>
      gz_ck (gz_sh h_385 a2 9 29) <|
      gz_b2 (fX9_asked a2 h_385) fun y_389 h_388 =>
      if y_386 = y_389 then (
       fL_law_1352 G l0 s0 mc ms (fun z0 z1 z2 zh => fL_law_18 G l0 s0 mc ms n z0 z1 z2 zh) a1 a2 x3 h_388
      ) else (
       gz_ck (gz_dc (l0 + mc = h_388.1.length ∧ s0 + ms = gz_ss h_388.1)) <|
       some ((0 : Int32), h_388)
      )
     ) else (
     if y_4 = (37 : Int32) then (
      gz_ck (gz_sh h a1 8 19) <|
      gz_b2 (fX8_upper a1 h) fun y_395 h_394 =>
      gz_ck (gz_sh h_394 a2 9 29) <|
      gz_b2 (fX9_upper a2 h_394) fun y_398 h_397 =>
      if (lg_cmp y_395 y_398) = 0 then (
       fL_law_1352 G l0 s0 mc ms (fun z0 z1 z2 zh => fL_law_18 G l0 s0 mc ms n z0 z1 z2 zh) a1 a2 x3 h_397
      ) else (
       gz_ck (gz_dc (l0 + mc = h_397.1.length ∧ s0 + ms = gz_ss h_397.1)) <|
       some ((0 : Int32), h_397)
      )
     ) else (
     if y_4 = (38 : Int32) then (
      gz_ck (gz_sh h a1 8 19) <|
      gz_b2 (fX8_lower a1 h) fun y_404 h_403 =>
      gz_ck (gz_sh h_403 a2 9 29) <|
      gz_b2 (fX9_lower a2 h_403) fun y_407 h_406 =>
      if (lg_cmp y_404 y_407) = 0 then (
       fL_law_1352 G l0 s0 mc ms (fun z0 z1 z2 zh => fL_law_18 G l0 s0 mc ms n z0 z1 z2 zh) a1 a2 x3 h_406
      ) else (
       gz_ck (gz_dc (l0 + mc = h_406.1.length ∧ s0 + ms = gz_ss h_406.1)) <|
       some ((0 : Int32), h_406)
      )
     ) else (
     if y_4 = (39 : Int32) then (
      gz_ck (gz_sin G (x3 + (1 : Int32))) <|
      gz_ck (gz_sh h a1 8 19) <|
      gz_b2 (fX8_count a1 (G.2.2.2.2.1 (x3 + (1 : Int32)).toNatClampNeg) h) fun y_414 h_413 =>
      gz_ck (gz_sh h_413 a2 9 29) <|
      gz_b2 (fX9_count a2 (G.2.2.2.2.1 (x3 + (1 : Int32)).toNatClampNeg) h_413) fun y_417 h_416 =>
      if y_414 = y_417 then (
       fL_law_1352 G l0 s0 mc ms (fun z0 z1 z2 zh => fL_law_18 G l0 s0 mc ms n z0 z1 z2 zh) a1 a2 x3 h_416
      ) else (
       gz_ck (gz_dc (l0 + mc = h_416.1.length ∧ s0 + ms = gz_ss h_416.1)) <|
       some ((0 : Int32), h_416)
      )
     ) else (
     if y_4 = (40 : Int32) then (
      gz_ck (gz_sh h a1 8 19) <|
      gz_b2 (fX8_finding a1 h) fun y_423 h_422 =>
      gz_ck (gz_sh h_422 a2 9 29) <|
      gz_b2 (fX9_finding a2 h_422) fun y_426 h_425 =>
      if y_423 = y_426 then (
       fL_law_1352 G l0 s0 mc ms (fun z0 z1 z2 zh => fL_law_18 G l0 s0 mc ms n z0 z1 z2 zh) a1 a2 x3 h_425
      ) else (
       gz_ck (gz_dc (l0 + mc = h_425.1.length ∧ s0 + ms = gz_ss h_425.1)) <|
       some ((0 : Int32), h_425)
      )
     ) else (
     if y_4 = (41 : Int32) then (
      gz_ck (gz_sin G (x3 + (1 : Int32))) <|
      gz_ck (gz_sh h a1 8 19) <|
      gz_b2 (fX8_findings a1 (G.2.2.2.2.1 (x3 + (1 : Int32)).toNatClampNeg) h) fun y_433 h_432 =>
      gz_ck (gz_sh h_432 a2 9 29) <|
      gz_b2 (fX9_findings a2 (G.2.2.2.2.1 (x3 + (1 : Int32)).toNatClampNeg) h_432) fun y_436 h_435 =>
      if y_433 = y_436 then (
       fL_law_1352 G l0 s0 mc ms (fun z0 z1 z2 zh => fL_law_18 G l0 s0 mc ms n z0 z1 z2 zh) a1 a2 x3 h_435
      ) else (
       gz_ck (gz_dc (l0 + mc = h_435.1.length ∧ s0 + ms = gz_ss h_435.1)) <|
       some ((0 : Int32), h_435)
      )
     ) else (
     if y_4 = (42 : Int32) then (
      gz_ck (gz_sh h a1 8 19) <|
      gz_b2 (fX8_digest a1 h) fun y_442 h_441 =>
      gz_ck (gz_sh h_441 a2 9 29) <|
      gz_b2 (fX9_digest a2 h_441) fun y_445 h_444 =>
      if (lg_cmp y_442 y_445) = 0 then (
       fL_law_1352 G l0 s0 mc ms (fun z0 z1 z2 zh => fL_law_18 G l0 s0 mc ms n z0 z1 z2 zh) a1 a2 x3 h_444
      ) else (
       gz_ck (gz_dc (l0 + mc = h_444.1.length ∧ s0 + ms = gz_ss h_444.1)) <|
       some ((0 : Int32), h_444)
      )
     ) else (
     fL_law_1352 G l0 s0 mc ms (fun z0 z1 z2 zh => fL_law_18 G l0 s0 mc ms n z0 z1 z2 zh) a1 a2 x3 h
     )))))))))))))))))))))))))))))))))))))))))))
    )
set_option maxRecDepth 100000 in
set_option maxHeartbeats 4000000 in
theorem sL_law_18 {G : gz_G} {d l0 s0 mc ms : Nat} {Q : Int32 → gz_H → Prop} : ∀ (n : Nat) (a1 : Nat) (a2 : Nat) (x3 : Int32) (h : gz_H), gz_g (fL_law_18 G l0 s0 mc ms n a1 a2 x3 h) Q → gz_Ok G mL_law (d + 13, l0, s0, mc, ms) 18 [.ref 1000000, .ref a1, .ref a2, .int x3] [] h (gz_qi Q) := by
  intro n
  induction n with
  | zero => intro a1 a2 x3 h hf; exact False.elim hf
  | succ n ih =>
    intro a1 a2 x3 h hf
    rw [fL_law_18] at hf
    refine gz_iload_n (pc := 18) dL_law_18 rfl rfl ?_
    refine gz_aload_n (pc := 19) dL_law_19 rfl rfl ?_
    refine gz_slen (pc := 20) dL_law_20 ?_
    refine gz_bipush (v := (6 : Int32)) (pc := 21) dL_law_21 rfl ?_
    refine gz_isub (pc := 23) dL_law_23 ?_
    refine gz_icmp_gt (tgt := 1358) (pc := 24) dL_law_24 rfl (fun c_1 => ?_) (fun c_1 => ?_)
    · have hf := gz_gT hf c_1
      refine gz_iconst (v := (1 : Int32)) (pc := 1358) dL_law_1358 rfl ?_
      refine gz_gk hf (fun c_2 hf => ?_)
      exact gz_iretA (pc := 1359) dL_law_1359 rfl rfl (gz_dcs c_2).1 (gz_dcs c_2).2 hf
    · have hf := gz_gF hf c_1
      refine gz_aload_n (pc := 27) dL_law_27 rfl rfl ?_
      refine gz_iload_n (pc := 28) dL_law_28 rfl rfl ?_
      refine gz_gk hf (fun c_3 hf => ?_)
      refine gz_sld (pc := 29) dL_law_29 c_3 ?_
      refine gz_bipush (v := (63 : Int32)) (pc := 30) dL_law_30 rfl ?_
      refine gz_iand (pc := 32) dL_law_32 ?_
      refine gz_nmI (fun y_4 ey_4 => ?_)
      have hf := gz_gl ey_4 hf
      by_cases c_5 : y_4 = (0 : Int32)
      · have hf := gz_gT hf c_5
        refine gz_tIn (off := 187) (tgt := 220) (pc := 33) dL_law_33 (by rw [c_5]; decide) (by rw [c_5]; decide) (by rw [c_5]; decide) rfl ?_
        refine gz_aload_n (pc := 220) dL_law_220 rfl rfl ?_
        refine gz_aload_n (pc := 221) dL_law_221 rfl rfl ?_
        refine gz_iload_n (pc := 222) dL_law_222 rfl rfl ?_
        refine gz_iconst (v := (1 : Int32)) (pc := 223) dL_law_223 rfl ?_
        refine gz_iadd (pc := 224) dL_law_224 ?_
        refine gz_gk hf (fun c_6 hf => ?_)
        refine gz_sld (pc := 225) dL_law_225 c_6 ?_
        refine gz_aload_n (pc := 226) dL_law_226 rfl rfl ?_
        refine gz_iload_n (pc := 227) dL_law_227 rfl rfl ?_
        refine gz_iconst (v := (2 : Int32)) (pc := 228) dL_law_228 rfl ?_
        refine gz_iadd (pc := 229) dL_law_229 ?_
        refine gz_gk hf (fun c_7 hf => ?_)
        refine gz_sld (pc := 230) dL_law_230 c_7 ?_
        refine gz_gk hf (fun c_10 hf => ?_)
        refine gz_cVI (av := [.int (G.2.2.2.2.1 (x3 + (1 : Int32)).toNatClampNeg), .int (G.2.2.2.2.1 (x3 + (2 : Int32)).toNatClampNeg)]) (st := []) (pc := 231) dL_law_231 kl_RL_13 rfl (gz_shs c_10) rfl rfl (Nat.le_of_ble_eq_true rfl) (by show d + 9 + 3 + 1 ≤ d + 13; omega) (sX8_row (d := d + 9) (gz_gc hf)) (fun y_9 h_8 hf => ?_)
        refine gz_aload_n (pc := 234) dL_law_234 rfl rfl ?_
        refine gz_aload_n (pc := 235) dL_law_235 rfl rfl ?_
        refine gz_iload_n (pc := 236) dL_law_236 rfl rfl ?_
        refine gz_iconst (v := (1 : Int32)) (pc := 237) dL_law_237 rfl ?_
        refine gz_iadd (pc := 238) dL_law_238 ?_
        refine gz_sld (pc := 239) dL_law_239 c_6 ?_
        refine gz_aload_n (pc := 240) dL_law_240 rfl rfl ?_
        refine gz_iload_n (pc := 241) dL_law_241 rfl rfl ?_
        refine gz_iconst (v := (2 : Int32)) (pc := 242) dL_law_242 rfl ?_
        refine gz_iadd (pc := 243) dL_law_243 ?_
        refine gz_sld (pc := 244) dL_law_244 c_7 ?_
        refine gz_gk hf (fun c_13 hf => ?_)
        refine gz_cVI (av := [.int (G.2.2.2.2.1 (x3 + (1 : Int32)).toNatClampNeg), .int (G.2.2.2.2.1 (x3 + (2 : Int32)).toNatClampNeg)]) (st := [.int y_9]) (pc := 245) dL_law_245 kl_RL_17 rfl (gz_shs c_13) rfl rfl (Nat.le_of_ble_eq_true rfl) (by show d + 10 + 2 + 1 ≤ d + 13; omega) (sX9_row (d := d + 10) (gz_gc hf)) (fun y_12 h_11 hf => ?_)
        refine gz_icmp_eq (tgt := 1352) (pc := 248) dL_law_248 rfl (fun c_14 => ?_) (fun c_14 => ?_)
        · have hf := gz_gT hf c_14
          exact sL_law_1352 ih a1 a2 x3 h_11 hf
        · have hf := gz_gF hf c_14
          refine gz_iconst (v := (0 : Int32)) (pc := 251) dL_law_251 rfl ?_
          refine gz_gk hf (fun c_15 hf => ?_)
          exact gz_iretA (pc := 252) dL_law_252 rfl rfl (gz_dcs c_15).1 (gz_dcs c_15).2 hf
      have hf := gz_gF hf c_5
      by_cases c_16 : y_4 = (1 : Int32)
      · have hf := gz_gT hf c_16
        refine gz_tIn (off := 220) (tgt := 253) (pc := 33) dL_law_33 (by rw [c_16]; decide) (by rw [c_16]; decide) (by rw [c_16]; decide) rfl ?_
        refine gz_aload_n (pc := 253) dL_law_253 rfl rfl ?_
        refine gz_aload_n (pc := 254) dL_law_254 rfl rfl ?_
        refine gz_iload_n (pc := 255) dL_law_255 rfl rfl ?_
        refine gz_iconst (v := (1 : Int32)) (pc := 256) dL_law_256 rfl ?_
        refine gz_iadd (pc := 257) dL_law_257 ?_
        refine gz_gk hf (fun c_17 hf => ?_)
        refine gz_sld (pc := 258) dL_law_258 c_17 ?_
        refine gz_aload_n (pc := 259) dL_law_259 rfl rfl ?_
        refine gz_iload_n (pc := 260) dL_law_260 rfl rfl ?_
        refine gz_iconst (v := (2 : Int32)) (pc := 261) dL_law_261 rfl ?_
        refine gz_iadd (pc := 262) dL_law_262 ?_
        refine gz_gk hf (fun c_18 hf => ?_)
        refine gz_sld (pc := 263) dL_law_263 c_18 ?_
        refine gz_aload_n (pc := 264) dL_law_264 rfl rfl ?_
        refine gz_iload_n (pc := 265) dL_law_265 rfl rfl ?_
        refine gz_iconst (v := (3 : Int32)) (pc := 266) dL_law_266 rfl ?_
        refine gz_iadd (pc := 267) dL_law_267 ?_
        refine gz_gk hf (fun c_19 hf => ?_)
        refine gz_sld (pc := 268) dL_law_268 c_19 ?_
        refine gz_gk hf (fun c_22 hf => ?_)
        refine gz_cVI (av := [.int (G.2.2.2.2.1 (x3 + (1 : Int32)).toNatClampNeg), .int (G.2.2.2.2.1 (x3 + (2 : Int32)).toNatClampNeg), .int (G.2.2.2.2.1 (x3 + (3 : Int32)).toNatClampNeg)]) (st := []) (pc := 269) dL_law_269 kl_RL_18 rfl (gz_shs c_22) rfl rfl (Nat.le_of_ble_eq_true rfl) (by show d + 10 + 2 + 1 ≤ d + 13; omega) (sX8_lay (d := d + 10) (gz_gc hf)) (fun y_21 h_20 hf => ?_)
        refine gz_aload_n (pc := 272) dL_law_272 rfl rfl ?_
        refine gz_aload_n (pc := 273) dL_law_273 rfl rfl ?_
        refine gz_iload_n (pc := 274) dL_law_274 rfl rfl ?_
        refine gz_iconst (v := (1 : Int32)) (pc := 275) dL_law_275 rfl ?_
        refine gz_iadd (pc := 276) dL_law_276 ?_
        refine gz_sld (pc := 277) dL_law_277 c_17 ?_
        refine gz_aload_n (pc := 278) dL_law_278 rfl rfl ?_
        refine gz_iload_n (pc := 279) dL_law_279 rfl rfl ?_
        refine gz_iconst (v := (2 : Int32)) (pc := 280) dL_law_280 rfl ?_
        refine gz_iadd (pc := 281) dL_law_281 ?_
        refine gz_sld (pc := 282) dL_law_282 c_18 ?_
        refine gz_aload_n (pc := 283) dL_law_283 rfl rfl ?_
        refine gz_iload_n (pc := 284) dL_law_284 rfl rfl ?_
        refine gz_iconst (v := (3 : Int32)) (pc := 285) dL_law_285 rfl ?_
        refine gz_iadd (pc := 286) dL_law_286 ?_
        refine gz_sld (pc := 287) dL_law_287 c_19 ?_
        refine gz_gk hf (fun c_25 hf => ?_)
        refine gz_cVI (av := [.int (G.2.2.2.2.1 (x3 + (1 : Int32)).toNatClampNeg), .int (G.2.2.2.2.1 (x3 + (2 : Int32)).toNatClampNeg), .int (G.2.2.2.2.1 (x3 + (3 : Int32)).toNatClampNeg)]) (st := [.int y_21]) (pc := 288) dL_law_288 kl_RL_22 rfl (gz_shs c_25) rfl rfl (Nat.le_of_ble_eq_true rfl) (by show d + 9 + 3 + 1 ≤ d + 13; omega) (sX9_lay (d := d + 9) (gz_gc hf)) (fun y_24 h_23 hf => ?_)
        refine gz_icmp_eq (tgt := 1352) (pc := 291) dL_law_291 rfl (fun c_26 => ?_) (fun c_26 => ?_)
        · have hf := gz_gT hf c_26
          exact sL_law_1352 ih a1 a2 x3 h_23 hf
        · have hf := gz_gF hf c_26
          refine gz_iconst (v := (0 : Int32)) (pc := 294) dL_law_294 rfl ?_
          refine gz_gk hf (fun c_27 hf => ?_)
          exact gz_iretA (pc := 295) dL_law_295 rfl rfl (gz_dcs c_27).1 (gz_dcs c_27).2 hf
      have hf := gz_gF hf c_16
      by_cases c_28 : y_4 = (2 : Int32)
      · have hf := gz_gT hf c_28
        refine gz_tIn (off := 263) (tgt := 296) (pc := 33) dL_law_33 (by rw [c_28]; decide) (by rw [c_28]; decide) (by rw [c_28]; decide) rfl ?_
        refine gz_aload_n (pc := 296) dL_law_296 rfl rfl ?_
        refine gz_aload_n (pc := 297) dL_law_297 rfl rfl ?_
        refine gz_iload_n (pc := 298) dL_law_298 rfl rfl ?_
        refine gz_iconst (v := (1 : Int32)) (pc := 299) dL_law_299 rfl ?_
        refine gz_iadd (pc := 300) dL_law_300 ?_
        refine gz_gk hf (fun c_29 hf => ?_)
        refine gz_sld (pc := 301) dL_law_301 c_29 ?_
        refine gz_aload_n (pc := 302) dL_law_302 rfl rfl ?_
        refine gz_iload_n (pc := 303) dL_law_303 rfl rfl ?_
        refine gz_iconst (v := (2 : Int32)) (pc := 304) dL_law_304 rfl ?_
        refine gz_iadd (pc := 305) dL_law_305 ?_
        refine gz_gk hf (fun c_30 hf => ?_)
        refine gz_sld (pc := 306) dL_law_306 c_30 ?_
        refine gz_gk hf (fun c_33 hf => ?_)
        refine gz_cVI (av := [.int (G.2.2.2.2.1 (x3 + (1 : Int32)).toNatClampNeg), .int (G.2.2.2.2.1 (x3 + (2 : Int32)).toNatClampNeg)]) (st := []) (pc := 307) dL_law_307 kl_RL_23 rfl (gz_shs c_33) rfl rfl (Nat.le_of_ble_eq_true rfl) (by show d + 10 + 2 + 1 ≤ d + 13; omega) (sX8_at (d := d + 10) (gz_gc hf)) (fun y_32 h_31 hf => ?_)
        refine gz_aload_n (pc := 310) dL_law_310 rfl rfl ?_
        refine gz_aload_n (pc := 311) dL_law_311 rfl rfl ?_
        refine gz_iload_n (pc := 312) dL_law_312 rfl rfl ?_
        refine gz_iconst (v := (1 : Int32)) (pc := 313) dL_law_313 rfl ?_
        refine gz_iadd (pc := 314) dL_law_314 ?_
        refine gz_sld (pc := 315) dL_law_315 c_29 ?_
        refine gz_aload_n (pc := 316) dL_law_316 rfl rfl ?_
        refine gz_iload_n (pc := 317) dL_law_317 rfl rfl ?_
        refine gz_iconst (v := (2 : Int32)) (pc := 318) dL_law_318 rfl ?_
        refine gz_iadd (pc := 319) dL_law_319 ?_
        refine gz_sld (pc := 320) dL_law_320 c_30 ?_
        refine gz_gk hf (fun c_36 hf => ?_)
        refine gz_cVI (av := [.int (G.2.2.2.2.1 (x3 + (1 : Int32)).toNatClampNeg), .int (G.2.2.2.2.1 (x3 + (2 : Int32)).toNatClampNeg)]) (st := [.int y_32]) (pc := 321) dL_law_321 kl_RL_26 rfl (gz_shs c_36) rfl rfl (Nat.le_of_ble_eq_true rfl) (by show d + 9 + 3 + 1 ≤ d + 13; omega) (sX9_at (d := d + 9) (gz_gc hf)) (fun y_35 h_34 hf => ?_)
        refine gz_icmp_eq (tgt := 1352) (pc := 324) dL_law_324 rfl (fun c_37 => ?_) (fun c_37 => ?_)
        · have hf := gz_gT hf c_37
          exact sL_law_1352 ih a1 a2 x3 h_34 hf
        · have hf := gz_gF hf c_37
          refine gz_iconst (v := (0 : Int32)) (pc := 327) dL_law_327 rfl ?_
          refine gz_gk hf (fun c_38 hf => ?_)
          exact gz_iretA (pc := 328) dL_law_328 rfl rfl (gz_dcs c_38).1 (gz_dcs c_38).2 hf
      have hf := gz_gF hf c_28
      by_cases c_39 : y_4 = (3 : Int32)
      · have hf := gz_gT hf c_39
        refine gz_tIn (off := 296) (tgt := 329) (pc := 33) dL_law_33 (by rw [c_39]; decide) (by rw [c_39]; decide) (by rw [c_39]; decide) rfl ?_
        refine gz_aload_n (pc := 329) dL_law_329 rfl rfl ?_
        refine gz_aload_n (pc := 330) dL_law_330 rfl rfl ?_
        refine gz_iload_n (pc := 331) dL_law_331 rfl rfl ?_
        refine gz_iconst (v := (1 : Int32)) (pc := 332) dL_law_332 rfl ?_
        refine gz_iadd (pc := 333) dL_law_333 ?_
        refine gz_gk hf (fun c_40 hf => ?_)
        refine gz_sld (pc := 334) dL_law_334 c_40 ?_
        refine gz_gk hf (fun c_43 hf => ?_)
        refine gz_cVI (av := [.int (G.2.2.2.2.1 (x3 + (1 : Int32)).toNatClampNeg)]) (st := []) (pc := 335) dL_law_335 kl_RL_27 rfl (gz_shs c_43) rfl rfl (Nat.le_of_ble_eq_true rfl) (by show d + 11 + 1 + 1 ≤ d + 13; omega) (sX8_tear (d := d + 11) (gz_gc hf)) (fun y_42 h_41 hf => ?_)
        refine gz_aload_n (pc := 338) dL_law_338 rfl rfl ?_
        refine gz_aload_n (pc := 339) dL_law_339 rfl rfl ?_
        refine gz_iload_n (pc := 340) dL_law_340 rfl rfl ?_
        refine gz_iconst (v := (1 : Int32)) (pc := 341) dL_law_341 rfl ?_
        refine gz_iadd (pc := 342) dL_law_342 ?_
        refine gz_sld (pc := 343) dL_law_343 c_40 ?_
        refine gz_gk hf (fun c_46 hf => ?_)
        refine gz_cVI (av := [.int (G.2.2.2.2.1 (x3 + (1 : Int32)).toNatClampNeg)]) (st := [.int y_42]) (pc := 344) dL_law_344 kl_RL_31 rfl (gz_shs c_46) rfl rfl (Nat.le_of_ble_eq_true rfl) (by show d + 10 + 2 + 1 ≤ d + 13; omega) (sX9_tear (d := d + 10) (gz_gc hf)) (fun y_45 h_44 hf => ?_)
        refine gz_icmp_eq (tgt := 1352) (pc := 347) dL_law_347 rfl (fun c_47 => ?_) (fun c_47 => ?_)
        · have hf := gz_gT hf c_47
          exact sL_law_1352 ih a1 a2 x3 h_44 hf
        · have hf := gz_gF hf c_47
          refine gz_iconst (v := (0 : Int32)) (pc := 350) dL_law_350 rfl ?_
          refine gz_gk hf (fun c_48 hf => ?_)
          exact gz_iretA (pc := 351) dL_law_351 rfl rfl (gz_dcs c_48).1 (gz_dcs c_48).2 hf
      have hf := gz_gF hf c_39
      by_cases c_49 : y_4 = (4 : Int32)
      · have hf := gz_gT hf c_49
        refine gz_tIn (off := 319) (tgt := 352) (pc := 33) dL_law_33 (by rw [c_49]; decide) (by rw [c_49]; decide) (by rw [c_49]; decide) rfl ?_
        refine gz_aload_n (pc := 352) dL_law_352 rfl rfl ?_
        refine gz_aload_n (pc := 353) dL_law_353 rfl rfl ?_
        refine gz_iload_n (pc := 354) dL_law_354 rfl rfl ?_
        refine gz_iconst (v := (1 : Int32)) (pc := 355) dL_law_355 rfl ?_
        refine gz_iadd (pc := 356) dL_law_356 ?_
        refine gz_gk hf (fun c_50 hf => ?_)
        refine gz_sld (pc := 357) dL_law_357 c_50 ?_
        refine gz_aload_n (pc := 358) dL_law_358 rfl rfl ?_
        refine gz_iload_n (pc := 359) dL_law_359 rfl rfl ?_
        refine gz_iconst (v := (2 : Int32)) (pc := 360) dL_law_360 rfl ?_
        refine gz_iadd (pc := 361) dL_law_361 ?_
        refine gz_gk hf (fun c_51 hf => ?_)
        refine gz_sld (pc := 362) dL_law_362 c_51 ?_
        refine gz_aload_n (pc := 363) dL_law_363 rfl rfl ?_
        refine gz_iload_n (pc := 364) dL_law_364 rfl rfl ?_
        refine gz_iconst (v := (3 : Int32)) (pc := 365) dL_law_365 rfl ?_
        refine gz_iadd (pc := 366) dL_law_366 ?_
        refine gz_gk hf (fun c_52 hf => ?_)
        refine gz_sld (pc := 367) dL_law_367 c_52 ?_
        refine gz_aload_n (pc := 368) dL_law_368 rfl rfl ?_
        refine gz_iload_n (pc := 369) dL_law_369 rfl rfl ?_
        refine gz_iconst (v := (4 : Int32)) (pc := 370) dL_law_370 rfl ?_
        refine gz_iadd (pc := 371) dL_law_371 ?_
        refine gz_gk hf (fun c_53 hf => ?_)
        refine gz_sld (pc := 372) dL_law_372 c_53 ?_
        refine gz_aload_n (pc := 373) dL_law_373 rfl rfl ?_
        refine gz_iload_n (pc := 374) dL_law_374 rfl rfl ?_
        refine gz_iconst (v := (5 : Int32)) (pc := 375) dL_law_375 rfl ?_
        refine gz_iadd (pc := 376) dL_law_376 ?_
        refine gz_gk hf (fun c_54 hf => ?_)
        refine gz_sld (pc := 377) dL_law_377 c_54 ?_
        refine gz_gk hf (fun c_57 hf => ?_)
        refine gz_cVI (av := [.int (G.2.2.2.2.1 (x3 + (1 : Int32)).toNatClampNeg), .int (G.2.2.2.2.1 (x3 + (2 : Int32)).toNatClampNeg), .int (G.2.2.2.2.1 (x3 + (3 : Int32)).toNatClampNeg), .int (G.2.2.2.2.1 (x3 + (4 : Int32)).toNatClampNeg), .int (G.2.2.2.2.1 (x3 + (5 : Int32)).toNatClampNeg)]) (st := []) (pc := 378) dL_law_378 kl_RL_32 rfl (gz_shs c_57) rfl rfl (Nat.le_of_ble_eq_true rfl) (by show d + 11 + 1 + 1 ≤ d + 13; omega) (sX8_copy (d := d + 11) (gz_gc hf)) (fun y_56 h_55 hf => ?_)
        refine gz_aload_n (pc := 381) dL_law_381 rfl rfl ?_
        refine gz_aload_n (pc := 382) dL_law_382 rfl rfl ?_
        refine gz_iload_n (pc := 383) dL_law_383 rfl rfl ?_
        refine gz_iconst (v := (1 : Int32)) (pc := 384) dL_law_384 rfl ?_
        refine gz_iadd (pc := 385) dL_law_385 ?_
        refine gz_sld (pc := 386) dL_law_386 c_50 ?_
        refine gz_aload_n (pc := 387) dL_law_387 rfl rfl ?_
        refine gz_iload_n (pc := 388) dL_law_388 rfl rfl ?_
        refine gz_iconst (v := (2 : Int32)) (pc := 389) dL_law_389 rfl ?_
        refine gz_iadd (pc := 390) dL_law_390 ?_
        refine gz_sld (pc := 391) dL_law_391 c_51 ?_
        refine gz_aload_n (pc := 392) dL_law_392 rfl rfl ?_
        refine gz_iload_n (pc := 393) dL_law_393 rfl rfl ?_
        refine gz_iconst (v := (3 : Int32)) (pc := 394) dL_law_394 rfl ?_
        refine gz_iadd (pc := 395) dL_law_395 ?_
        refine gz_sld (pc := 396) dL_law_396 c_52 ?_
        refine gz_aload_n (pc := 397) dL_law_397 rfl rfl ?_
        refine gz_iload_n (pc := 398) dL_law_398 rfl rfl ?_
        refine gz_iconst (v := (4 : Int32)) (pc := 399) dL_law_399 rfl ?_
        refine gz_iadd (pc := 400) dL_law_400 ?_
        refine gz_sld (pc := 401) dL_law_401 c_53 ?_
        refine gz_aload_n (pc := 402) dL_law_402 rfl rfl ?_
        refine gz_iload_n (pc := 403) dL_law_403 rfl rfl ?_
        refine gz_iconst (v := (5 : Int32)) (pc := 404) dL_law_404 rfl ?_
        refine gz_iadd (pc := 405) dL_law_405 ?_
        refine gz_sld (pc := 406) dL_law_406 c_54 ?_
        refine gz_gk hf (fun c_60 hf => ?_)
        refine gz_cVI (av := [.int (G.2.2.2.2.1 (x3 + (1 : Int32)).toNatClampNeg), .int (G.2.2.2.2.1 (x3 + (2 : Int32)).toNatClampNeg), .int (G.2.2.2.2.1 (x3 + (3 : Int32)).toNatClampNeg), .int (G.2.2.2.2.1 (x3 + (4 : Int32)).toNatClampNeg), .int (G.2.2.2.2.1 (x3 + (5 : Int32)).toNatClampNeg)]) (st := [.int y_56]) (pc := 407) dL_law_407 kl_RL_36 rfl (gz_shs c_60) rfl rfl (Nat.le_of_ble_eq_true rfl) (by show d + 10 + 2 + 1 ≤ d + 13; omega) (sX9_copy (d := d + 10) (gz_gc hf)) (fun y_59 h_58 hf => ?_)
        refine gz_icmp_eq (tgt := 1352) (pc := 410) dL_law_410 rfl (fun c_61 => ?_) (fun c_61 => ?_)
        · have hf := gz_gT hf c_61
          exact sL_law_1352 ih a1 a2 x3 h_58 hf
        · have hf := gz_gF hf c_61
          refine gz_iconst (v := (0 : Int32)) (pc := 413) dL_law_413 rfl ?_
          refine gz_gk hf (fun c_62 hf => ?_)
          exact gz_iretA (pc := 414) dL_law_414 rfl rfl (gz_dcs c_62).1 (gz_dcs c_62).2 hf
      have hf := gz_gF hf c_49
      by_cases c_63 : y_4 = (5 : Int32)
      · have hf := gz_gT hf c_63
        refine gz_tIn (off := 382) (tgt := 415) (pc := 33) dL_law_33 (by rw [c_63]; decide) (by rw [c_63]; decide) (by rw [c_63]; decide) rfl ?_
        refine gz_aload_n (pc := 415) dL_law_415 rfl rfl ?_
        refine gz_aload_n (pc := 416) dL_law_416 rfl rfl ?_
        refine gz_iload_n (pc := 417) dL_law_417 rfl rfl ?_
        refine gz_iconst (v := (1 : Int32)) (pc := 418) dL_law_418 rfl ?_
        refine gz_iadd (pc := 419) dL_law_419 ?_
        refine gz_gk hf (fun c_64 hf => ?_)
        refine gz_sld (pc := 420) dL_law_420 c_64 ?_
        refine gz_gk hf (fun c_67 hf => ?_)
        refine gz_cVI (av := [.int (G.2.2.2.2.1 (x3 + (1 : Int32)).toNatClampNeg)]) (st := []) (pc := 421) dL_law_421 kl_RL_37 rfl (gz_shs c_67) rfl rfl (Nat.le_of_ble_eq_true rfl) (by show d + 11 + 1 + 1 ≤ d + 13; omega) (sX8_mean (d := d + 11) (gz_gc hf)) (fun y_66 h_65 hf => ?_)
        refine gz_aload_n (pc := 424) dL_law_424 rfl rfl ?_
        refine gz_aload_n (pc := 425) dL_law_425 rfl rfl ?_
        refine gz_iload_n (pc := 426) dL_law_426 rfl rfl ?_
        refine gz_iconst (v := (1 : Int32)) (pc := 427) dL_law_427 rfl ?_
        refine gz_iadd (pc := 428) dL_law_428 ?_
        refine gz_sld (pc := 429) dL_law_429 c_64 ?_
        refine gz_gk hf (fun c_70 hf => ?_)
        refine gz_cVI (av := [.int (G.2.2.2.2.1 (x3 + (1 : Int32)).toNatClampNeg)]) (st := [.int y_66]) (pc := 430) dL_law_430 kl_RL_40 rfl (gz_shs c_70) rfl rfl (Nat.le_of_ble_eq_true rfl) (by show d + 10 + 2 + 1 ≤ d + 13; omega) (sX9_mean (d := d + 10) (gz_gc hf)) (fun y_69 h_68 hf => ?_)
        refine gz_icmp_eq (tgt := 1352) (pc := 433) dL_law_433 rfl (fun c_71 => ?_) (fun c_71 => ?_)
        · have hf := gz_gT hf c_71
          exact sL_law_1352 ih a1 a2 x3 h_68 hf
        · have hf := gz_gF hf c_71
          refine gz_iconst (v := (0 : Int32)) (pc := 436) dL_law_436 rfl ?_
          refine gz_gk hf (fun c_72 hf => ?_)
          exact gz_iretA (pc := 437) dL_law_437 rfl rfl (gz_dcs c_72).1 (gz_dcs c_72).2 hf
      have hf := gz_gF hf c_63
      by_cases c_73 : y_4 = (6 : Int32)
      · have hf := gz_gT hf c_73
        refine gz_tIn (off := 405) (tgt := 438) (pc := 33) dL_law_33 (by rw [c_73]; decide) (by rw [c_73]; decide) (by rw [c_73]; decide) rfl ?_
        refine gz_aload_n (pc := 438) dL_law_438 rfl rfl ?_
        refine gz_aload_n (pc := 439) dL_law_439 rfl rfl ?_
        refine gz_iload_n (pc := 440) dL_law_440 rfl rfl ?_
        refine gz_iconst (v := (1 : Int32)) (pc := 441) dL_law_441 rfl ?_
        refine gz_iadd (pc := 442) dL_law_442 ?_
        refine gz_gk hf (fun c_74 hf => ?_)
        refine gz_sld (pc := 443) dL_law_443 c_74 ?_
        refine gz_aload_n (pc := 444) dL_law_444 rfl rfl ?_
        refine gz_iload_n (pc := 445) dL_law_445 rfl rfl ?_
        refine gz_iconst (v := (2 : Int32)) (pc := 446) dL_law_446 rfl ?_
        refine gz_iadd (pc := 447) dL_law_447 ?_
        refine gz_gk hf (fun c_75 hf => ?_)
        refine gz_sld (pc := 448) dL_law_448 c_75 ?_
        refine gz_gk hf (fun c_78 hf => ?_)
        refine gz_cVI (av := [.int (G.2.2.2.2.1 (x3 + (1 : Int32)).toNatClampNeg), .int (G.2.2.2.2.1 (x3 + (2 : Int32)).toNatClampNeg)]) (st := []) (pc := 449) dL_law_449 kl_RL_41 rfl (gz_shs c_78) rfl rfl (Nat.le_of_ble_eq_true rfl) (by show d + 9 + 3 + 1 ≤ d + 13; omega) (sX8_text (d := d + 9) (gz_gc hf)) (fun y_77 h_76 hf => ?_)
        refine gz_aload_n (pc := 452) dL_law_452 rfl rfl ?_
        refine gz_aload_n (pc := 453) dL_law_453 rfl rfl ?_
        refine gz_iload_n (pc := 454) dL_law_454 rfl rfl ?_
        refine gz_iconst (v := (1 : Int32)) (pc := 455) dL_law_455 rfl ?_
        refine gz_iadd (pc := 456) dL_law_456 ?_
        refine gz_sld (pc := 457) dL_law_457 c_74 ?_
        refine gz_aload_n (pc := 458) dL_law_458 rfl rfl ?_
        refine gz_iload_n (pc := 459) dL_law_459 rfl rfl ?_
        refine gz_iconst (v := (2 : Int32)) (pc := 460) dL_law_460 rfl ?_
        refine gz_iadd (pc := 461) dL_law_461 ?_
        refine gz_sld (pc := 462) dL_law_462 c_75 ?_
        refine gz_gk hf (fun c_81 hf => ?_)
        refine gz_cVI (av := [.int (G.2.2.2.2.1 (x3 + (1 : Int32)).toNatClampNeg), .int (G.2.2.2.2.1 (x3 + (2 : Int32)).toNatClampNeg)]) (st := [.int y_77]) (pc := 463) dL_law_463 kl_RL_44 rfl (gz_shs c_81) rfl rfl (Nat.le_of_ble_eq_true rfl) (by show d + 10 + 2 + 1 ≤ d + 13; omega) (sX9_text (d := d + 10) (gz_gc hf)) (fun y_80 h_79 hf => ?_)
        refine gz_icmp_eq (tgt := 1352) (pc := 466) dL_law_466 rfl (fun c_82 => ?_) (fun c_82 => ?_)
        · have hf := gz_gT hf c_82
          exact sL_law_1352 ih a1 a2 x3 h_79 hf
        · have hf := gz_gF hf c_82
          refine gz_iconst (v := (0 : Int32)) (pc := 469) dL_law_469 rfl ?_
          refine gz_gk hf (fun c_83 hf => ?_)
          exact gz_iretA (pc := 470) dL_law_470 rfl rfl (gz_dcs c_83).1 (gz_dcs c_83).2 hf
      have hf := gz_gF hf c_73
      by_cases c_84 : y_4 = (7 : Int32)
      · have hf := gz_gT hf c_84
        refine gz_tIn (off := 438) (tgt := 471) (pc := 33) dL_law_33 (by rw [c_84]; decide) (by rw [c_84]; decide) (by rw [c_84]; decide) rfl ?_
        refine gz_aload_n (pc := 471) dL_law_471 rfl rfl ?_
        refine gz_aload_n (pc := 472) dL_law_472 rfl rfl ?_
        refine gz_iload_n (pc := 473) dL_law_473 rfl rfl ?_
        refine gz_iconst (v := (1 : Int32)) (pc := 474) dL_law_474 rfl ?_
        refine gz_iadd (pc := 475) dL_law_475 ?_
        refine gz_gk hf (fun c_85 hf => ?_)
        refine gz_sld (pc := 476) dL_law_476 c_85 ?_
        refine gz_aload_n (pc := 477) dL_law_477 rfl rfl ?_
        refine gz_iload_n (pc := 478) dL_law_478 rfl rfl ?_
        refine gz_iconst (v := (2 : Int32)) (pc := 479) dL_law_479 rfl ?_
        refine gz_iadd (pc := 480) dL_law_480 ?_
        refine gz_gk hf (fun c_86 hf => ?_)
        refine gz_sld (pc := 481) dL_law_481 c_86 ?_
        refine gz_aload_n (pc := 482) dL_law_482 rfl rfl ?_
        refine gz_iload_n (pc := 483) dL_law_483 rfl rfl ?_
        refine gz_iconst (v := (3 : Int32)) (pc := 484) dL_law_484 rfl ?_
        refine gz_iadd (pc := 485) dL_law_485 ?_
        refine gz_gk hf (fun c_87 hf => ?_)
        refine gz_sld (pc := 486) dL_law_486 c_87 ?_
        refine gz_gk hf (fun c_90 hf => ?_)
        refine gz_cVI (av := [.int (G.2.2.2.2.1 (x3 + (1 : Int32)).toNatClampNeg), .int (G.2.2.2.2.1 (x3 + (2 : Int32)).toNatClampNeg), .int (G.2.2.2.2.1 (x3 + (3 : Int32)).toNatClampNeg)]) (st := []) (pc := 487) dL_law_487 kl_RL_45 rfl (gz_shs c_90) rfl rfl (Nat.le_of_ble_eq_true rfl) (by show d + 10 + 2 + 1 ≤ d + 13; omega) (sX8_put (d := d + 10) (gz_gc hf)) (fun y_89 h_88 hf => ?_)
        refine gz_aload_n (pc := 490) dL_law_490 rfl rfl ?_
        refine gz_aload_n (pc := 491) dL_law_491 rfl rfl ?_
        refine gz_iload_n (pc := 492) dL_law_492 rfl rfl ?_
        refine gz_iconst (v := (1 : Int32)) (pc := 493) dL_law_493 rfl ?_
        refine gz_iadd (pc := 494) dL_law_494 ?_
        refine gz_sld (pc := 495) dL_law_495 c_85 ?_
        refine gz_aload_n (pc := 496) dL_law_496 rfl rfl ?_
        refine gz_iload_n (pc := 497) dL_law_497 rfl rfl ?_
        refine gz_iconst (v := (2 : Int32)) (pc := 498) dL_law_498 rfl ?_
        refine gz_iadd (pc := 499) dL_law_499 ?_
        refine gz_sld (pc := 500) dL_law_500 c_86 ?_
        refine gz_aload_n (pc := 501) dL_law_501 rfl rfl ?_
        refine gz_iload_n (pc := 502) dL_law_502 rfl rfl ?_
        refine gz_iconst (v := (3 : Int32)) (pc := 503) dL_law_503 rfl ?_
        refine gz_iadd (pc := 504) dL_law_504 ?_
        refine gz_sld (pc := 505) dL_law_505 c_87 ?_
        refine gz_gk hf (fun c_93 hf => ?_)
        refine gz_cVI (av := [.int (G.2.2.2.2.1 (x3 + (1 : Int32)).toNatClampNeg), .int (G.2.2.2.2.1 (x3 + (2 : Int32)).toNatClampNeg), .int (G.2.2.2.2.1 (x3 + (3 : Int32)).toNatClampNeg)]) (st := [.int y_89]) (pc := 506) dL_law_506 kl_RL_48 rfl (gz_shs c_93) rfl rfl (Nat.le_of_ble_eq_true rfl) (by show d + 10 + 2 + 1 ≤ d + 13; omega) (sX9_put (d := d + 10) (gz_gc hf)) (fun y_92 h_91 hf => ?_)
        refine gz_icmp_eq (tgt := 1352) (pc := 509) dL_law_509 rfl (fun c_94 => ?_) (fun c_94 => ?_)
        · have hf := gz_gT hf c_94
          exact sL_law_1352 ih a1 a2 x3 h_91 hf
        · have hf := gz_gF hf c_94
          refine gz_iconst (v := (0 : Int32)) (pc := 512) dL_law_512 rfl ?_
          refine gz_gk hf (fun c_95 hf => ?_)
          exact gz_iretA (pc := 513) dL_law_513 rfl rfl (gz_dcs c_95).1 (gz_dcs c_95).2 hf
      have hf := gz_gF hf c_84
      by_cases c_96 : y_4 = (8 : Int32)
      · have hf := gz_gT hf c_96
        refine gz_tIn (off := 481) (tgt := 514) (pc := 33) dL_law_33 (by rw [c_96]; decide) (by rw [c_96]; decide) (by rw [c_96]; decide) rfl ?_
        refine gz_aload_n (pc := 514) dL_law_514 rfl rfl ?_
        refine gz_aload_n (pc := 515) dL_law_515 rfl rfl ?_
        refine gz_iload_n (pc := 516) dL_law_516 rfl rfl ?_
        refine gz_iconst (v := (1 : Int32)) (pc := 517) dL_law_517 rfl ?_
        refine gz_iadd (pc := 518) dL_law_518 ?_
        refine gz_gk hf (fun c_97 hf => ?_)
        refine gz_sld (pc := 519) dL_law_519 c_97 ?_
        refine gz_gk hf (fun c_100 hf => ?_)
        refine gz_cVI (av := [.int (G.2.2.2.2.1 (x3 + (1 : Int32)).toNatClampNeg)]) (st := []) (pc := 520) dL_law_520 kl_RL_49 rfl (gz_shs c_100) rfl rfl (Nat.le_of_ble_eq_true rfl) (by show d + 8 + 4 + 1 ≤ d + 13; omega) (sX8_fault (d := d + 8) (gz_gc hf)) (fun y_99 h_98 hf => ?_)
        refine gz_aload_n (pc := 523) dL_law_523 rfl rfl ?_
        refine gz_aload_n (pc := 524) dL_law_524 rfl rfl ?_
        refine gz_iload_n (pc := 525) dL_law_525 rfl rfl ?_
        refine gz_iconst (v := (1 : Int32)) (pc := 526) dL_law_526 rfl ?_
        refine gz_iadd (pc := 527) dL_law_527 ?_
        refine gz_sld (pc := 528) dL_law_528 c_97 ?_
        refine gz_gk hf (fun c_103 hf => ?_)
        refine gz_cVI (av := [.int (G.2.2.2.2.1 (x3 + (1 : Int32)).toNatClampNeg)]) (st := [.int y_99]) (pc := 529) dL_law_529 kl_RL_52 rfl (gz_shs c_103) rfl rfl (Nat.le_of_ble_eq_true rfl) (by show d + 8 + 4 + 1 ≤ d + 13; omega) (sX9_fault (d := d + 8) (gz_gc hf)) (fun y_102 h_101 hf => ?_)
        refine gz_icmp_eq (tgt := 1352) (pc := 532) dL_law_532 rfl (fun c_104 => ?_) (fun c_104 => ?_)
        · have hf := gz_gT hf c_104
          exact sL_law_1352 ih a1 a2 x3 h_101 hf
        · have hf := gz_gF hf c_104
          refine gz_iconst (v := (0 : Int32)) (pc := 535) dL_law_535 rfl ?_
          refine gz_gk hf (fun c_105 hf => ?_)
          exact gz_iretA (pc := 536) dL_law_536 rfl rfl (gz_dcs c_105).1 (gz_dcs c_105).2 hf
      have hf := gz_gF hf c_96
      by_cases c_106 : y_4 = (9 : Int32)
      · have hf := gz_gT hf c_106
        refine gz_tIn (off := 504) (tgt := 537) (pc := 33) dL_law_33 (by rw [c_106]; decide) (by rw [c_106]; decide) (by rw [c_106]; decide) rfl ?_
        refine gz_aload_n (pc := 537) dL_law_537 rfl rfl ?_
        refine gz_aload_n (pc := 538) dL_law_538 rfl rfl ?_
        refine gz_iload_n (pc := 539) dL_law_539 rfl rfl ?_
        refine gz_iconst (v := (1 : Int32)) (pc := 540) dL_law_540 rfl ?_
        refine gz_iadd (pc := 541) dL_law_541 ?_
        refine gz_gk hf (fun c_107 hf => ?_)
        refine gz_sld (pc := 542) dL_law_542 c_107 ?_
        refine gz_gk hf (fun c_110 hf => ?_)
        refine gz_cVI (av := [.int (G.2.2.2.2.1 (x3 + (1 : Int32)).toNatClampNeg)]) (st := []) (pc := 543) dL_law_543 kl_RL_53 rfl (gz_shs c_110) rfl rfl (Nat.le_of_ble_eq_true rfl) (by show d + 5 + 7 + 1 ≤ d + 13; omega) (sX8_flock (d := d + 5) (gz_gc hf)) (fun y_109 h_108 hf => ?_)
        refine gz_aload_n (pc := 546) dL_law_546 rfl rfl ?_
        refine gz_aload_n (pc := 547) dL_law_547 rfl rfl ?_
        refine gz_iload_n (pc := 548) dL_law_548 rfl rfl ?_
        refine gz_iconst (v := (1 : Int32)) (pc := 549) dL_law_549 rfl ?_
        refine gz_iadd (pc := 550) dL_law_550 ?_
        refine gz_sld (pc := 551) dL_law_551 c_107 ?_
        refine gz_gk hf (fun c_113 hf => ?_)
        refine gz_cVI (av := [.int (G.2.2.2.2.1 (x3 + (1 : Int32)).toNatClampNeg)]) (st := [.int y_109]) (pc := 552) dL_law_552 kl_RL_56 rfl (gz_shs c_113) rfl rfl (Nat.le_of_ble_eq_true rfl) (by show d + 8 + 4 + 1 ≤ d + 13; omega) (sX9_flock (d := d + 8) (gz_gc hf)) (fun y_112 h_111 hf => ?_)
        refine gz_icmp_eq (tgt := 1352) (pc := 555) dL_law_555 rfl (fun c_114 => ?_) (fun c_114 => ?_)
        · have hf := gz_gT hf c_114
          exact sL_law_1352 ih a1 a2 x3 h_111 hf
        · have hf := gz_gF hf c_114
          refine gz_iconst (v := (0 : Int32)) (pc := 558) dL_law_558 rfl ?_
          refine gz_gk hf (fun c_115 hf => ?_)
          exact gz_iretA (pc := 559) dL_law_559 rfl rfl (gz_dcs c_115).1 (gz_dcs c_115).2 hf
      have hf := gz_gF hf c_106
      by_cases c_116 : y_4 = (10 : Int32)
      · have hf := gz_gT hf c_116
        refine gz_tIn (off := 527) (tgt := 560) (pc := 33) dL_law_33 (by rw [c_116]; decide) (by rw [c_116]; decide) (by rw [c_116]; decide) rfl ?_
        refine gz_aload_n (pc := 560) dL_law_560 rfl rfl ?_
        refine gz_aload_n (pc := 561) dL_law_561 rfl rfl ?_
        refine gz_iload_n (pc := 562) dL_law_562 rfl rfl ?_
        refine gz_iconst (v := (1 : Int32)) (pc := 563) dL_law_563 rfl ?_
        refine gz_iadd (pc := 564) dL_law_564 ?_
        refine gz_gk hf (fun c_117 hf => ?_)
        refine gz_sld (pc := 565) dL_law_565 c_117 ?_
        refine gz_aload_n (pc := 566) dL_law_566 rfl rfl ?_
        refine gz_iload_n (pc := 567) dL_law_567 rfl rfl ?_
        refine gz_iconst (v := (2 : Int32)) (pc := 568) dL_law_568 rfl ?_
        refine gz_iadd (pc := 569) dL_law_569 ?_
        refine gz_gk hf (fun c_118 hf => ?_)
        refine gz_sld (pc := 570) dL_law_570 c_118 ?_
        refine gz_gk hf (fun c_121 hf => ?_)
        refine gz_cVI (av := [.int (G.2.2.2.2.1 (x3 + (1 : Int32)).toNatClampNeg), .int (G.2.2.2.2.1 (x3 + (2 : Int32)).toNatClampNeg)]) (st := []) (pc := 571) dL_law_571 kl_RL_57 rfl (gz_shs c_121) rfl rfl (Nat.le_of_ble_eq_true rfl) (by show d + 10 + 2 + 1 ≤ d + 13; omega) (sX8_goose (d := d + 10) (gz_gc hf)) (fun y_120 h_119 hf => ?_)
        refine gz_aload_n (pc := 574) dL_law_574 rfl rfl ?_
        refine gz_aload_n (pc := 575) dL_law_575 rfl rfl ?_
        refine gz_iload_n (pc := 576) dL_law_576 rfl rfl ?_
        refine gz_iconst (v := (1 : Int32)) (pc := 577) dL_law_577 rfl ?_
        refine gz_iadd (pc := 578) dL_law_578 ?_
        refine gz_sld (pc := 579) dL_law_579 c_117 ?_
        refine gz_aload_n (pc := 580) dL_law_580 rfl rfl ?_
        refine gz_iload_n (pc := 581) dL_law_581 rfl rfl ?_
        refine gz_iconst (v := (2 : Int32)) (pc := 582) dL_law_582 rfl ?_
        refine gz_iadd (pc := 583) dL_law_583 ?_
        refine gz_sld (pc := 584) dL_law_584 c_118 ?_
        refine gz_gk hf (fun c_124 hf => ?_)
        refine gz_cVI (av := [.int (G.2.2.2.2.1 (x3 + (1 : Int32)).toNatClampNeg), .int (G.2.2.2.2.1 (x3 + (2 : Int32)).toNatClampNeg)]) (st := [.int y_120]) (pc := 585) dL_law_585 kl_RL_60 rfl (gz_shs c_124) rfl rfl (Nat.le_of_ble_eq_true rfl) (by show d + 9 + 3 + 1 ≤ d + 13; omega) (sX9_goose (d := d + 9) (gz_gc hf)) (fun y_123 h_122 hf => ?_)
        refine gz_icmp_eq (tgt := 1352) (pc := 588) dL_law_588 rfl (fun c_125 => ?_) (fun c_125 => ?_)
        · have hf := gz_gT hf c_125
          exact sL_law_1352 ih a1 a2 x3 h_122 hf
        · have hf := gz_gF hf c_125
          refine gz_iconst (v := (0 : Int32)) (pc := 591) dL_law_591 rfl ?_
          refine gz_gk hf (fun c_126 hf => ?_)
          exact gz_iretA (pc := 592) dL_law_592 rfl rfl (gz_dcs c_126).1 (gz_dcs c_126).2 hf
      have hf := gz_gF hf c_116
      by_cases c_127 : y_4 = (11 : Int32)
      · have hf := gz_gT hf c_127
        refine gz_tIn (off := 560) (tgt := 593) (pc := 33) dL_law_33 (by rw [c_127]; decide) (by rw [c_127]; decide) (by rw [c_127]; decide) rfl ?_
        refine gz_aload_n (pc := 593) dL_law_593 rfl rfl ?_
        refine gz_aload_n (pc := 594) dL_law_594 rfl rfl ?_
        refine gz_iload_n (pc := 595) dL_law_595 rfl rfl ?_
        refine gz_iconst (v := (1 : Int32)) (pc := 596) dL_law_596 rfl ?_
        refine gz_iadd (pc := 597) dL_law_597 ?_
        refine gz_gk hf (fun c_128 hf => ?_)
        refine gz_sld (pc := 598) dL_law_598 c_128 ?_
        refine gz_aload_n (pc := 599) dL_law_599 rfl rfl ?_
        refine gz_iload_n (pc := 600) dL_law_600 rfl rfl ?_
        refine gz_iconst (v := (2 : Int32)) (pc := 601) dL_law_601 rfl ?_
        refine gz_iadd (pc := 602) dL_law_602 ?_
        refine gz_gk hf (fun c_129 hf => ?_)
        refine gz_sld (pc := 603) dL_law_603 c_129 ?_
        refine gz_gk hf (fun c_132 hf => ?_)
        refine gz_cVI (av := [.int (G.2.2.2.2.1 (x3 + (1 : Int32)).toNatClampNeg), .int (G.2.2.2.2.1 (x3 + (2 : Int32)).toNatClampNeg)]) (st := []) (pc := 604) dL_law_604 kl_RL_61 rfl (gz_shs c_132) rfl rfl (Nat.le_of_ble_eq_true rfl) (by show d + 7 + 5 + 1 ≤ d + 13; omega) (sX8_mark (d := d + 7) (gz_gc hf)) (fun y_131 h_130 hf => ?_)
        refine gz_aload_n (pc := 607) dL_law_607 rfl rfl ?_
        refine gz_aload_n (pc := 608) dL_law_608 rfl rfl ?_
        refine gz_iload_n (pc := 609) dL_law_609 rfl rfl ?_
        refine gz_iconst (v := (1 : Int32)) (pc := 610) dL_law_610 rfl ?_
        refine gz_iadd (pc := 611) dL_law_611 ?_
        refine gz_sld (pc := 612) dL_law_612 c_128 ?_
        refine gz_aload_n (pc := 613) dL_law_613 rfl rfl ?_
        refine gz_iload_n (pc := 614) dL_law_614 rfl rfl ?_
        refine gz_iconst (v := (2 : Int32)) (pc := 615) dL_law_615 rfl ?_
        refine gz_iadd (pc := 616) dL_law_616 ?_
        refine gz_sld (pc := 617) dL_law_617 c_129 ?_
        refine gz_gk hf (fun c_135 hf => ?_)
        refine gz_cVI (av := [.int (G.2.2.2.2.1 (x3 + (1 : Int32)).toNatClampNeg), .int (G.2.2.2.2.1 (x3 + (2 : Int32)).toNatClampNeg)]) (st := [.int y_131]) (pc := 618) dL_law_618 kl_RL_64 rfl (gz_shs c_135) rfl rfl (Nat.le_of_ble_eq_true rfl) (by show d + 8 + 4 + 1 ≤ d + 13; omega) (sX9_mark (d := d + 8) (gz_gc hf)) (fun y_134 h_133 hf => ?_)
        refine gz_icmp_eq (tgt := 1352) (pc := 621) dL_law_621 rfl (fun c_136 => ?_) (fun c_136 => ?_)
        · have hf := gz_gT hf c_136
          exact sL_law_1352 ih a1 a2 x3 h_133 hf
        · have hf := gz_gF hf c_136
          refine gz_iconst (v := (0 : Int32)) (pc := 624) dL_law_624 rfl ?_
          refine gz_gk hf (fun c_137 hf => ?_)
          exact gz_iretA (pc := 625) dL_law_625 rfl rfl (gz_dcs c_137).1 (gz_dcs c_137).2 hf
      have hf := gz_gF hf c_127
      by_cases c_138 : y_4 = (12 : Int32)
      · have hf := gz_gT hf c_138
        refine gz_tIn (off := 593) (tgt := 626) (pc := 33) dL_law_33 (by rw [c_138]; decide) (by rw [c_138]; decide) (by rw [c_138]; decide) rfl ?_
        refine gz_aload_n (pc := 626) dL_law_626 rfl rfl ?_
        refine gz_aload_n (pc := 627) dL_law_627 rfl rfl ?_
        refine gz_iload_n (pc := 628) dL_law_628 rfl rfl ?_
        refine gz_iconst (v := (1 : Int32)) (pc := 629) dL_law_629 rfl ?_
        refine gz_iadd (pc := 630) dL_law_630 ?_
        refine gz_gk hf (fun c_139 hf => ?_)
        refine gz_sld (pc := 631) dL_law_631 c_139 ?_
        refine gz_gk hf (fun c_142 hf => ?_)
        refine gz_cVI (av := [.int (G.2.2.2.2.1 (x3 + (1 : Int32)).toNatClampNeg)]) (st := []) (pc := 632) dL_law_632 kl_RL_65 rfl (gz_shs c_142) rfl rfl (Nat.le_of_ble_eq_true rfl) (by show d + 11 + 1 + 1 ≤ d + 13; omega) (sX8_place (d := d + 11) (gz_gc hf)) (fun y_141 h_140 hf => ?_)
        refine gz_aload_n (pc := 635) dL_law_635 rfl rfl ?_
        refine gz_aload_n (pc := 636) dL_law_636 rfl rfl ?_
        refine gz_iload_n (pc := 637) dL_law_637 rfl rfl ?_
        refine gz_iconst (v := (1 : Int32)) (pc := 638) dL_law_638 rfl ?_
        refine gz_iadd (pc := 639) dL_law_639 ?_
        refine gz_sld (pc := 640) dL_law_640 c_139 ?_
        refine gz_gk hf (fun c_145 hf => ?_)
        refine gz_cVI (av := [.int (G.2.2.2.2.1 (x3 + (1 : Int32)).toNatClampNeg)]) (st := [.int y_141]) (pc := 641) dL_law_641 kl_RL_68 rfl (gz_shs c_145) rfl rfl (Nat.le_of_ble_eq_true rfl) (by show d + 10 + 2 + 1 ≤ d + 13; omega) (sX9_place (d := d + 10) (gz_gc hf)) (fun y_144 h_143 hf => ?_)
        refine gz_icmp_eq (tgt := 1352) (pc := 644) dL_law_644 rfl (fun c_146 => ?_) (fun c_146 => ?_)
        · have hf := gz_gT hf c_146
          exact sL_law_1352 ih a1 a2 x3 h_143 hf
        · have hf := gz_gF hf c_146
          refine gz_iconst (v := (0 : Int32)) (pc := 647) dL_law_647 rfl ?_
          refine gz_gk hf (fun c_147 hf => ?_)
          exact gz_iretA (pc := 648) dL_law_648 rfl rfl (gz_dcs c_147).1 (gz_dcs c_147).2 hf
      have hf := gz_gF hf c_138
      by_cases c_148 : y_4 = (13 : Int32)
      · have hf := gz_gT hf c_148
        refine gz_tIn (off := 616) (tgt := 649) (pc := 33) dL_law_33 (by rw [c_148]; decide) (by rw [c_148]; decide) (by rw [c_148]; decide) rfl ?_
        refine gz_aload_n (pc := 649) dL_law_649 rfl rfl ?_
        refine gz_aload_n (pc := 650) dL_law_650 rfl rfl ?_
        refine gz_iload_n (pc := 651) dL_law_651 rfl rfl ?_
        refine gz_iconst (v := (1 : Int32)) (pc := 652) dL_law_652 rfl ?_
        refine gz_iadd (pc := 653) dL_law_653 ?_
        refine gz_gk hf (fun c_149 hf => ?_)
        refine gz_sld (pc := 654) dL_law_654 c_149 ?_
        refine gz_aload_n (pc := 655) dL_law_655 rfl rfl ?_
        refine gz_iload_n (pc := 656) dL_law_656 rfl rfl ?_
        refine gz_iconst (v := (2 : Int32)) (pc := 657) dL_law_657 rfl ?_
        refine gz_iadd (pc := 658) dL_law_658 ?_
        refine gz_gk hf (fun c_150 hf => ?_)
        refine gz_sld (pc := 659) dL_law_659 c_150 ?_
        refine gz_gk hf (fun c_153 hf => ?_)
        refine gz_cVI (av := [.int (G.2.2.2.2.1 (x3 + (1 : Int32)).toNatClampNeg), .int (G.2.2.2.2.1 (x3 + (2 : Int32)).toNatClampNeg)]) (st := []) (pc := 660) dL_law_660 kl_RL_69 rfl (gz_shs c_153) rfl rfl (Nat.le_of_ble_eq_true rfl) (by show d + 5 + 7 + 1 ≤ d + 13; omega) (sX8_give (d := d + 5) (gz_gc hf)) (fun y_152 h_151 hf => ?_)
        refine gz_aload_n (pc := 663) dL_law_663 rfl rfl ?_
        refine gz_aload_n (pc := 664) dL_law_664 rfl rfl ?_
        refine gz_iload_n (pc := 665) dL_law_665 rfl rfl ?_
        refine gz_iconst (v := (1 : Int32)) (pc := 666) dL_law_666 rfl ?_
        refine gz_iadd (pc := 667) dL_law_667 ?_
        refine gz_sld (pc := 668) dL_law_668 c_149 ?_
        refine gz_aload_n (pc := 669) dL_law_669 rfl rfl ?_
        refine gz_iload_n (pc := 670) dL_law_670 rfl rfl ?_
        refine gz_iconst (v := (2 : Int32)) (pc := 671) dL_law_671 rfl ?_
        refine gz_iadd (pc := 672) dL_law_672 ?_
        refine gz_sld (pc := 673) dL_law_673 c_150 ?_
        refine gz_gk hf (fun c_156 hf => ?_)
        refine gz_cVI (av := [.int (G.2.2.2.2.1 (x3 + (1 : Int32)).toNatClampNeg), .int (G.2.2.2.2.1 (x3 + (2 : Int32)).toNatClampNeg)]) (st := [.int y_152]) (pc := 674) dL_law_674 kl_RL_72 rfl (gz_shs c_156) rfl rfl (Nat.le_of_ble_eq_true rfl) (by show d + 9 + 3 + 1 ≤ d + 13; omega) (sX9_give (d := d + 9) (gz_gc hf)) (fun y_155 h_154 hf => ?_)
        refine gz_icmp_eq (tgt := 1352) (pc := 677) dL_law_677 rfl (fun c_157 => ?_) (fun c_157 => ?_)
        · have hf := gz_gT hf c_157
          exact sL_law_1352 ih a1 a2 x3 h_154 hf
        · have hf := gz_gF hf c_157
          refine gz_iconst (v := (0 : Int32)) (pc := 680) dL_law_680 rfl ?_
          refine gz_gk hf (fun c_158 hf => ?_)
          exact gz_iretA (pc := 681) dL_law_681 rfl rfl (gz_dcs c_158).1 (gz_dcs c_158).2 hf
      have hf := gz_gF hf c_148
      by_cases c_159 : y_4 = (14 : Int32)
      · have hf := gz_gT hf c_159
        refine gz_tIn (off := 649) (tgt := 682) (pc := 33) dL_law_33 (by rw [c_159]; decide) (by rw [c_159]; decide) (by rw [c_159]; decide) rfl ?_
        refine gz_aload_n (pc := 682) dL_law_682 rfl rfl ?_
        refine gz_aload_n (pc := 683) dL_law_683 rfl rfl ?_
        refine gz_iload_n (pc := 684) dL_law_684 rfl rfl ?_
        refine gz_iconst (v := (1 : Int32)) (pc := 685) dL_law_685 rfl ?_
        refine gz_iadd (pc := 686) dL_law_686 ?_
        refine gz_gk hf (fun c_160 hf => ?_)
        refine gz_sld (pc := 687) dL_law_687 c_160 ?_
        refine gz_gk hf (fun c_163 hf => ?_)
        refine gz_cVI (av := [.int (G.2.2.2.2.1 (x3 + (1 : Int32)).toNatClampNeg)]) (st := []) (pc := 688) dL_law_688 kl_RL_73 rfl (gz_shs c_163) rfl rfl (Nat.le_of_ble_eq_true rfl) (by show d + 5 + 7 + 1 ≤ d + 13; omega) (sX8_fright (d := d + 5) (gz_gc hf)) (fun y_162 h_161 hf => ?_)
        refine gz_aload_n (pc := 691) dL_law_691 rfl rfl ?_
        refine gz_aload_n (pc := 692) dL_law_692 rfl rfl ?_
        refine gz_iload_n (pc := 693) dL_law_693 rfl rfl ?_
        refine gz_iconst (v := (1 : Int32)) (pc := 694) dL_law_694 rfl ?_
        refine gz_iadd (pc := 695) dL_law_695 ?_
        refine gz_sld (pc := 696) dL_law_696 c_160 ?_
        refine gz_gk hf (fun c_166 hf => ?_)
        refine gz_cVI (av := [.int (G.2.2.2.2.1 (x3 + (1 : Int32)).toNatClampNeg)]) (st := [.int y_162]) (pc := 697) dL_law_697 kl_RL_76 rfl (gz_shs c_166) rfl rfl (Nat.le_of_ble_eq_true rfl) (by show d + 9 + 3 + 1 ≤ d + 13; omega) (sX9_fright (d := d + 9) (gz_gc hf)) (fun y_165 h_164 hf => ?_)
        refine gz_icmp_eq (tgt := 1352) (pc := 700) dL_law_700 rfl (fun c_167 => ?_) (fun c_167 => ?_)
        · have hf := gz_gT hf c_167
          exact sL_law_1352 ih a1 a2 x3 h_164 hf
        · have hf := gz_gF hf c_167
          refine gz_iconst (v := (0 : Int32)) (pc := 703) dL_law_703 rfl ?_
          refine gz_gk hf (fun c_168 hf => ?_)
          exact gz_iretA (pc := 704) dL_law_704 rfl rfl (gz_dcs c_168).1 (gz_dcs c_168).2 hf
      have hf := gz_gF hf c_159
      by_cases c_169 : y_4 = (15 : Int32)
      · have hf := gz_gT hf c_169
        refine gz_tIn (off := 672) (tgt := 705) (pc := 33) dL_law_33 (by rw [c_169]; decide) (by rw [c_169]; decide) (by rw [c_169]; decide) rfl ?_
        refine gz_aload_n (pc := 705) dL_law_705 rfl rfl ?_
        refine gz_aload_n (pc := 706) dL_law_706 rfl rfl ?_
        refine gz_iload_n (pc := 707) dL_law_707 rfl rfl ?_
        refine gz_iconst (v := (1 : Int32)) (pc := 708) dL_law_708 rfl ?_
        refine gz_iadd (pc := 709) dL_law_709 ?_
        refine gz_gk hf (fun c_170 hf => ?_)
        refine gz_sld (pc := 710) dL_law_710 c_170 ?_
        refine gz_aload_n (pc := 711) dL_law_711 rfl rfl ?_
        refine gz_iload_n (pc := 712) dL_law_712 rfl rfl ?_
        refine gz_iconst (v := (2 : Int32)) (pc := 713) dL_law_713 rfl ?_
        refine gz_iadd (pc := 714) dL_law_714 ?_
        refine gz_gk hf (fun c_171 hf => ?_)
        refine gz_sld (pc := 715) dL_law_715 c_171 ?_
        refine gz_gk hf (fun c_174 hf => ?_)
        refine gz_cVI (av := [.int (G.2.2.2.2.1 (x3 + (1 : Int32)).toNatClampNeg), .int (G.2.2.2.2.1 (x3 + (2 : Int32)).toNatClampNeg)]) (st := []) (pc := 716) dL_law_716 kl_RL_77 rfl (gz_shs c_174) rfl rfl (Nat.le_of_ble_eq_true rfl) (by show d + 5 + 7 + 1 ≤ d + 13; omega) (sX8_mix (d := d + 5) (gz_gc hf)) (fun y_173 h_172 hf => ?_)
        refine gz_aload_n (pc := 719) dL_law_719 rfl rfl ?_
        refine gz_aload_n (pc := 720) dL_law_720 rfl rfl ?_
        refine gz_iload_n (pc := 721) dL_law_721 rfl rfl ?_
        refine gz_iconst (v := (1 : Int32)) (pc := 722) dL_law_722 rfl ?_
        refine gz_iadd (pc := 723) dL_law_723 ?_
        refine gz_sld (pc := 724) dL_law_724 c_170 ?_
        refine gz_aload_n (pc := 725) dL_law_725 rfl rfl ?_
        refine gz_iload_n (pc := 726) dL_law_726 rfl rfl ?_
        refine gz_iconst (v := (2 : Int32)) (pc := 727) dL_law_727 rfl ?_
        refine gz_iadd (pc := 728) dL_law_728 ?_
        refine gz_sld (pc := 729) dL_law_729 c_171 ?_
        refine gz_gk hf (fun c_177 hf => ?_)
        refine gz_cVI (av := [.int (G.2.2.2.2.1 (x3 + (1 : Int32)).toNatClampNeg), .int (G.2.2.2.2.1 (x3 + (2 : Int32)).toNatClampNeg)]) (st := [.int y_173]) (pc := 730) dL_law_730 kl_RL_80 rfl (gz_shs c_177) rfl rfl (Nat.le_of_ble_eq_true rfl) (by show d + 9 + 3 + 1 ≤ d + 13; omega) (sX9_mix (d := d + 9) (gz_gc hf)) (fun y_176 h_175 hf => ?_)
        refine gz_icmp_eq (tgt := 1352) (pc := 733) dL_law_733 rfl (fun c_178 => ?_) (fun c_178 => ?_)
        · have hf := gz_gT hf c_178
          exact sL_law_1352 ih a1 a2 x3 h_175 hf
        · have hf := gz_gF hf c_178
          refine gz_iconst (v := (0 : Int32)) (pc := 736) dL_law_736 rfl ?_
          refine gz_gk hf (fun c_179 hf => ?_)
          exact gz_iretA (pc := 737) dL_law_737 rfl rfl (gz_dcs c_179).1 (gz_dcs c_179).2 hf
      have hf := gz_gF hf c_169
      by_cases c_180 : y_4 = (16 : Int32)
      · have hf := gz_gT hf c_180
        refine gz_tIn (off := 705) (tgt := 738) (pc := 33) dL_law_33 (by rw [c_180]; decide) (by rw [c_180]; decide) (by rw [c_180]; decide) rfl ?_
        refine gz_aload_n (pc := 738) dL_law_738 rfl rfl ?_
        refine gz_aload_n (pc := 739) dL_law_739 rfl rfl ?_
        refine gz_iload_n (pc := 740) dL_law_740 rfl rfl ?_
        refine gz_iconst (v := (1 : Int32)) (pc := 741) dL_law_741 rfl ?_
        refine gz_iadd (pc := 742) dL_law_742 ?_
        refine gz_gk hf (fun c_181 hf => ?_)
        refine gz_sld (pc := 743) dL_law_743 c_181 ?_
        refine gz_aload_n (pc := 744) dL_law_744 rfl rfl ?_
        refine gz_iload_n (pc := 745) dL_law_745 rfl rfl ?_
        refine gz_iconst (v := (2 : Int32)) (pc := 746) dL_law_746 rfl ?_
        refine gz_iadd (pc := 747) dL_law_747 ?_
        refine gz_gk hf (fun c_182 hf => ?_)
        refine gz_sld (pc := 748) dL_law_748 c_182 ?_
        refine gz_gk hf (fun c_185 hf => ?_)
        refine gz_cVI (av := [.int (G.2.2.2.2.1 (x3 + (1 : Int32)).toNatClampNeg), .int (G.2.2.2.2.1 (x3 + (2 : Int32)).toNatClampNeg)]) (st := []) (pc := 749) dL_law_749 kl_RL_81 rfl (gz_shs c_185) rfl rfl (Nat.le_of_ble_eq_true rfl) (by show d + 5 + 7 + 1 ≤ d + 13; omega) (sX8_eat (d := d + 5) (gz_gc hf)) (fun y_184 h_183 hf => ?_)
        refine gz_aload_n (pc := 752) dL_law_752 rfl rfl ?_
        refine gz_aload_n (pc := 753) dL_law_753 rfl rfl ?_
        refine gz_iload_n (pc := 754) dL_law_754 rfl rfl ?_
        refine gz_iconst (v := (1 : Int32)) (pc := 755) dL_law_755 rfl ?_
        refine gz_iadd (pc := 756) dL_law_756 ?_
        refine gz_sld (pc := 757) dL_law_757 c_181 ?_
        refine gz_aload_n (pc := 758) dL_law_758 rfl rfl ?_
        refine gz_iload_n (pc := 759) dL_law_759 rfl rfl ?_
        refine gz_iconst (v := (2 : Int32)) (pc := 760) dL_law_760 rfl ?_
        refine gz_iadd (pc := 761) dL_law_761 ?_
        refine gz_sld (pc := 762) dL_law_762 c_182 ?_
        refine gz_gk hf (fun c_188 hf => ?_)
        refine gz_cVI (av := [.int (G.2.2.2.2.1 (x3 + (1 : Int32)).toNatClampNeg), .int (G.2.2.2.2.1 (x3 + (2 : Int32)).toNatClampNeg)]) (st := [.int y_184]) (pc := 763) dL_law_763 kl_RL_84 rfl (gz_shs c_188) rfl rfl (Nat.le_of_ble_eq_true rfl) (by show d + 8 + 4 + 1 ≤ d + 13; omega) (sX9_eat (d := d + 8) (gz_gc hf)) (fun y_187 h_186 hf => ?_)
        refine gz_icmp_eq (tgt := 1352) (pc := 766) dL_law_766 rfl (fun c_189 => ?_) (fun c_189 => ?_)
        · have hf := gz_gT hf c_189
          exact sL_law_1352 ih a1 a2 x3 h_186 hf
        · have hf := gz_gF hf c_189
          refine gz_iconst (v := (0 : Int32)) (pc := 769) dL_law_769 rfl ?_
          refine gz_gk hf (fun c_190 hf => ?_)
          exact gz_iretA (pc := 770) dL_law_770 rfl rfl (gz_dcs c_190).1 (gz_dcs c_190).2 hf
      have hf := gz_gF hf c_180
      by_cases c_191 : y_4 = (17 : Int32)
      · have hf := gz_gT hf c_191
        refine gz_tIn (off := 738) (tgt := 771) (pc := 33) dL_law_33 (by rw [c_191]; decide) (by rw [c_191]; decide) (by rw [c_191]; decide) rfl ?_
        refine gz_aload_n (pc := 771) dL_law_771 rfl rfl ?_
        refine gz_aload_n (pc := 772) dL_law_772 rfl rfl ?_
        refine gz_iload_n (pc := 773) dL_law_773 rfl rfl ?_
        refine gz_iconst (v := (1 : Int32)) (pc := 774) dL_law_774 rfl ?_
        refine gz_iadd (pc := 775) dL_law_775 ?_
        refine gz_gk hf (fun c_192 hf => ?_)
        refine gz_sld (pc := 776) dL_law_776 c_192 ?_
        refine gz_gk hf (fun c_195 hf => ?_)
        refine gz_cVI (av := [.int (G.2.2.2.2.1 (x3 + (1 : Int32)).toNatClampNeg)]) (st := []) (pc := 777) dL_law_777 kl_RL_85 rfl (gz_shs c_195) rfl rfl (Nat.le_of_ble_eq_true rfl) (by show d + 5 + 7 + 1 ≤ d + 13; omega) (sX8_undo (d := d + 5) (gz_gc hf)) (fun y_194 h_193 hf => ?_)
        refine gz_aload_n (pc := 780) dL_law_780 rfl rfl ?_
        refine gz_aload_n (pc := 781) dL_law_781 rfl rfl ?_
        refine gz_iload_n (pc := 782) dL_law_782 rfl rfl ?_
        refine gz_iconst (v := (1 : Int32)) (pc := 783) dL_law_783 rfl ?_
        refine gz_iadd (pc := 784) dL_law_784 ?_
        refine gz_sld (pc := 785) dL_law_785 c_192 ?_
        refine gz_gk hf (fun c_198 hf => ?_)
        refine gz_cVI (av := [.int (G.2.2.2.2.1 (x3 + (1 : Int32)).toNatClampNeg)]) (st := [.int y_194]) (pc := 786) dL_law_786 kl_RL_88 rfl (gz_shs c_198) rfl rfl (Nat.le_of_ble_eq_true rfl) (by show d + 11 + 1 + 1 ≤ d + 13; omega) (sX9_undo (d := d + 11) (gz_gc hf)) (fun y_197 h_196 hf => ?_)
        refine gz_icmp_eq (tgt := 1352) (pc := 789) dL_law_789 rfl (fun c_199 => ?_) (fun c_199 => ?_)
        · have hf := gz_gT hf c_199
          exact sL_law_1352 ih a1 a2 x3 h_196 hf
        · have hf := gz_gF hf c_199
          refine gz_iconst (v := (0 : Int32)) (pc := 792) dL_law_792 rfl ?_
          refine gz_gk hf (fun c_200 hf => ?_)
          exact gz_iretA (pc := 793) dL_law_793 rfl rfl (gz_dcs c_200).1 (gz_dcs c_200).2 hf
      have hf := gz_gF hf c_191
      by_cases c_201 : y_4 = (18 : Int32)
      · have hf := gz_gT hf c_201
        refine gz_tIn (off := 761) (tgt := 794) (pc := 33) dL_law_33 (by rw [c_201]; decide) (by rw [c_201]; decide) (by rw [c_201]; decide) rfl ?_
        refine gz_aload_n (pc := 794) dL_law_794 rfl rfl ?_
        refine gz_aload_n (pc := 795) dL_law_795 rfl rfl ?_
        refine gz_iload_n (pc := 796) dL_law_796 rfl rfl ?_
        refine gz_iconst (v := (1 : Int32)) (pc := 797) dL_law_797 rfl ?_
        refine gz_iadd (pc := 798) dL_law_798 ?_
        refine gz_gk hf (fun c_202 hf => ?_)
        refine gz_sld (pc := 799) dL_law_799 c_202 ?_
        refine gz_gk hf (fun c_205 hf => ?_)
        refine gz_cVI (av := [.int (G.2.2.2.2.1 (x3 + (1 : Int32)).toNatClampNeg)]) (st := []) (pc := 800) dL_law_800 kl_RL_89 rfl (gz_shs c_205) rfl rfl (Nat.le_of_ble_eq_true rfl) (by show d + 10 + 2 + 1 ≤ d + 13; omega) (sX8_keep (d := d + 10) (gz_gc hf)) (fun y_204 h_203 hf => ?_)
        refine gz_aload_n (pc := 803) dL_law_803 rfl rfl ?_
        refine gz_aload_n (pc := 804) dL_law_804 rfl rfl ?_
        refine gz_iload_n (pc := 805) dL_law_805 rfl rfl ?_
        refine gz_iconst (v := (1 : Int32)) (pc := 806) dL_law_806 rfl ?_
        refine gz_iadd (pc := 807) dL_law_807 ?_
        refine gz_sld (pc := 808) dL_law_808 c_202 ?_
        refine gz_gk hf (fun c_208 hf => ?_)
        refine gz_cVI (av := [.int (G.2.2.2.2.1 (x3 + (1 : Int32)).toNatClampNeg)]) (st := [.int y_204]) (pc := 809) dL_law_809 kl_RL_92 rfl (gz_shs c_208) rfl rfl (Nat.le_of_ble_eq_true rfl) (by show d + 11 + 1 + 1 ≤ d + 13; omega) (sX9_keep (d := d + 11) (gz_gc hf)) (fun y_207 h_206 hf => ?_)
        refine gz_icmp_eq (tgt := 1352) (pc := 812) dL_law_812 rfl (fun c_209 => ?_) (fun c_209 => ?_)
        · have hf := gz_gT hf c_209
          exact sL_law_1352 ih a1 a2 x3 h_206 hf
        · have hf := gz_gF hf c_209
          refine gz_iconst (v := (0 : Int32)) (pc := 815) dL_law_815 rfl ?_
          refine gz_gk hf (fun c_210 hf => ?_)
          exact gz_iretA (pc := 816) dL_law_816 rfl rfl (gz_dcs c_210).1 (gz_dcs c_210).2 hf
      have hf := gz_gF hf c_201
      by_cases c_211 : y_4 = (19 : Int32)
      · have hf := gz_gT hf c_211
        refine gz_tIn (off := 784) (tgt := 817) (pc := 33) dL_law_33 (by rw [c_211]; decide) (by rw [c_211]; decide) (by rw [c_211]; decide) rfl ?_
        refine gz_aload_n (pc := 817) dL_law_817 rfl rfl ?_
        refine gz_aload_n (pc := 818) dL_law_818 rfl rfl ?_
        refine gz_iload_n (pc := 819) dL_law_819 rfl rfl ?_
        refine gz_iconst (v := (1 : Int32)) (pc := 820) dL_law_820 rfl ?_
        refine gz_iadd (pc := 821) dL_law_821 ?_
        refine gz_gk hf (fun c_212 hf => ?_)
        refine gz_sld (pc := 822) dL_law_822 c_212 ?_
        refine gz_gk hf (fun c_215 hf => ?_)
        refine gz_cVI (av := [.int (G.2.2.2.2.1 (x3 + (1 : Int32)).toNatClampNeg)]) (st := []) (pc := 823) dL_law_823 kl_RL_93 rfl (gz_shs c_215) rfl rfl (Nat.le_of_ble_eq_true rfl) (by show d + 5 + 7 + 1 ≤ d + 13; omega) (sX8_on (d := d + 5) (gz_gc hf)) (fun y_214 h_213 hf => ?_)
        refine gz_aload_n (pc := 826) dL_law_826 rfl rfl ?_
        refine gz_aload_n (pc := 827) dL_law_827 rfl rfl ?_
        refine gz_iload_n (pc := 828) dL_law_828 rfl rfl ?_
        refine gz_iconst (v := (1 : Int32)) (pc := 829) dL_law_829 rfl ?_
        refine gz_iadd (pc := 830) dL_law_830 ?_
        refine gz_sld (pc := 831) dL_law_831 c_212 ?_
        refine gz_gk hf (fun c_218 hf => ?_)
        refine gz_cVI (av := [.int (G.2.2.2.2.1 (x3 + (1 : Int32)).toNatClampNeg)]) (st := [.int y_214]) (pc := 832) dL_law_832 kl_RL_96 rfl (gz_shs c_218) rfl rfl (Nat.le_of_ble_eq_true rfl) (by show d + 11 + 1 + 1 ≤ d + 13; omega) (sX9_on (d := d + 11) (gz_gc hf)) (fun y_217 h_216 hf => ?_)
        refine gz_icmp_eq (tgt := 1352) (pc := 835) dL_law_835 rfl (fun c_219 => ?_) (fun c_219 => ?_)
        · have hf := gz_gT hf c_219
          exact sL_law_1352 ih a1 a2 x3 h_216 hf
        · have hf := gz_gF hf c_219
          refine gz_iconst (v := (0 : Int32)) (pc := 838) dL_law_838 rfl ?_
          refine gz_gk hf (fun c_220 hf => ?_)
          exact gz_iretA (pc := 839) dL_law_839 rfl rfl (gz_dcs c_220).1 (gz_dcs c_220).2 hf
      have hf := gz_gF hf c_211
      by_cases c_221 : y_4 = (20 : Int32)
      · have hf := gz_gT hf c_221
        refine gz_tIn (off := 807) (tgt := 840) (pc := 33) dL_law_33 (by rw [c_221]; decide) (by rw [c_221]; decide) (by rw [c_221]; decide) rfl ?_
        refine gz_aload_n (pc := 840) dL_law_840 rfl rfl ?_
        refine gz_aload_n (pc := 841) dL_law_841 rfl rfl ?_
        refine gz_iload_n (pc := 842) dL_law_842 rfl rfl ?_
        refine gz_iconst (v := (1 : Int32)) (pc := 843) dL_law_843 rfl ?_
        refine gz_iadd (pc := 844) dL_law_844 ?_
        refine gz_gk hf (fun c_222 hf => ?_)
        refine gz_sld (pc := 845) dL_law_845 c_222 ?_
        refine gz_aload_n (pc := 846) dL_law_846 rfl rfl ?_
        refine gz_iload_n (pc := 847) dL_law_847 rfl rfl ?_
        refine gz_iconst (v := (2 : Int32)) (pc := 848) dL_law_848 rfl ?_
        refine gz_iadd (pc := 849) dL_law_849 ?_
        refine gz_gk hf (fun c_223 hf => ?_)
        refine gz_sld (pc := 850) dL_law_850 c_223 ?_
        refine gz_gk hf (fun c_226 hf => ?_)
        refine gz_cVI (av := [.int (G.2.2.2.2.1 (x3 + (1 : Int32)).toNatClampNeg), .int (G.2.2.2.2.1 (x3 + (2 : Int32)).toNatClampNeg)]) (st := []) (pc := 851) dL_law_851 kl_RL_97 rfl (gz_shs c_226) rfl rfl (Nat.le_of_ble_eq_true rfl) (by show d + 9 + 3 + 1 ≤ d + 13; omega) (sX8_tells (d := d + 9) (gz_gc hf)) (fun y_225 h_224 hf => ?_)
        refine gz_aload_n (pc := 854) dL_law_854 rfl rfl ?_
        refine gz_aload_n (pc := 855) dL_law_855 rfl rfl ?_
        refine gz_iload_n (pc := 856) dL_law_856 rfl rfl ?_
        refine gz_iconst (v := (1 : Int32)) (pc := 857) dL_law_857 rfl ?_
        refine gz_iadd (pc := 858) dL_law_858 ?_
        refine gz_sld (pc := 859) dL_law_859 c_222 ?_
        refine gz_aload_n (pc := 860) dL_law_860 rfl rfl ?_
        refine gz_iload_n (pc := 861) dL_law_861 rfl rfl ?_
        refine gz_iconst (v := (2 : Int32)) (pc := 862) dL_law_862 rfl ?_
        refine gz_iadd (pc := 863) dL_law_863 ?_
        refine gz_sld (pc := 864) dL_law_864 c_223 ?_
        refine gz_gk hf (fun c_229 hf => ?_)
        refine gz_cVI (av := [.int (G.2.2.2.2.1 (x3 + (1 : Int32)).toNatClampNeg), .int (G.2.2.2.2.1 (x3 + (2 : Int32)).toNatClampNeg)]) (st := [.int y_225]) (pc := 865) dL_law_865 kl_RL_100 rfl (gz_shs c_229) rfl rfl (Nat.le_of_ble_eq_true rfl) (by show d + 9 + 3 + 1 ≤ d + 13; omega) (sX9_tells (d := d + 9) (gz_gc hf)) (fun y_228 h_227 hf => ?_)
        refine gz_icmp_eq (tgt := 1352) (pc := 868) dL_law_868 rfl (fun c_230 => ?_) (fun c_230 => ?_)
        · have hf := gz_gT hf c_230
          exact sL_law_1352 ih a1 a2 x3 h_227 hf
        · have hf := gz_gF hf c_230
          refine gz_iconst (v := (0 : Int32)) (pc := 871) dL_law_871 rfl ?_
          refine gz_gk hf (fun c_231 hf => ?_)
          exact gz_iretA (pc := 872) dL_law_872 rfl rfl (gz_dcs c_231).1 (gz_dcs c_231).2 hf
      have hf := gz_gF hf c_221
      by_cases c_232 : y_4 = (21 : Int32)
      · have hf := gz_gT hf c_232
        refine gz_tIn (off := 840) (tgt := 873) (pc := 33) dL_law_33 (by rw [c_232]; decide) (by rw [c_232]; decide) (by rw [c_232]; decide) rfl ?_
        refine gz_aload_n (pc := 873) dL_law_873 rfl rfl ?_
        refine gz_aload_n (pc := 874) dL_law_874 rfl rfl ?_
        refine gz_iload_n (pc := 875) dL_law_875 rfl rfl ?_
        refine gz_iconst (v := (1 : Int32)) (pc := 876) dL_law_876 rfl ?_
        refine gz_iadd (pc := 877) dL_law_877 ?_
        refine gz_gk hf (fun c_233 hf => ?_)
        refine gz_sld (pc := 878) dL_law_878 c_233 ?_
        refine gz_gk hf (fun c_236 hf => ?_)
        refine gz_cVI (av := [.int (G.2.2.2.2.1 (x3 + (1 : Int32)).toNatClampNeg)]) (st := []) (pc := 879) dL_law_879 kl_RL_101 rfl (gz_shs c_236) rfl rfl (Nat.le_of_ble_eq_true rfl) (by show d + 7 + 5 + 1 ≤ d + 13; omega) (sX8_told (d := d + 7) (gz_gc hf)) (fun y_235 h_234 hf => ?_)
        refine gz_aload_n (pc := 882) dL_law_882 rfl rfl ?_
        refine gz_aload_n (pc := 883) dL_law_883 rfl rfl ?_
        refine gz_iload_n (pc := 884) dL_law_884 rfl rfl ?_
        refine gz_iconst (v := (1 : Int32)) (pc := 885) dL_law_885 rfl ?_
        refine gz_iadd (pc := 886) dL_law_886 ?_
        refine gz_sld (pc := 887) dL_law_887 c_233 ?_
        refine gz_gk hf (fun c_239 hf => ?_)
        refine gz_cVI (av := [.int (G.2.2.2.2.1 (x3 + (1 : Int32)).toNatClampNeg)]) (st := [.int y_235]) (pc := 888) dL_law_888 kl_RL_104 rfl (gz_shs c_239) rfl rfl (Nat.le_of_ble_eq_true rfl) (by show d + 7 + 5 + 1 ≤ d + 13; omega) (sX9_told (d := d + 7) (gz_gc hf)) (fun y_238 h_237 hf => ?_)
        refine gz_icmp_eq (tgt := 1352) (pc := 891) dL_law_891 rfl (fun c_240 => ?_) (fun c_240 => ?_)
        · have hf := gz_gT hf c_240
          exact sL_law_1352 ih a1 a2 x3 h_237 hf
        · have hf := gz_gF hf c_240
          refine gz_iconst (v := (0 : Int32)) (pc := 894) dL_law_894 rfl ?_
          refine gz_gk hf (fun c_241 hf => ?_)
          exact gz_iretA (pc := 895) dL_law_895 rfl rfl (gz_dcs c_241).1 (gz_dcs c_241).2 hf
      have hf := gz_gF hf c_232
      by_cases c_242 : y_4 = (22 : Int32)
      · have hf := gz_gT hf c_242
        refine gz_tIn (off := 863) (tgt := 896) (pc := 33) dL_law_33 (by rw [c_242]; decide) (by rw [c_242]; decide) (by rw [c_242]; decide) rfl ?_
        refine gz_aload_n (pc := 896) dL_law_896 rfl rfl ?_
        refine gz_aload_n (pc := 897) dL_law_897 rfl rfl ?_
        refine gz_iload_n (pc := 898) dL_law_898 rfl rfl ?_
        refine gz_iconst (v := (1 : Int32)) (pc := 899) dL_law_899 rfl ?_
        refine gz_iadd (pc := 900) dL_law_900 ?_
        refine gz_gk hf (fun c_243 hf => ?_)
        refine gz_sld (pc := 901) dL_law_901 c_243 ?_
        refine gz_gk hf (fun c_246 hf => ?_)
        refine gz_cVI (av := [.int (G.2.2.2.2.1 (x3 + (1 : Int32)).toNatClampNeg)]) (st := []) (pc := 902) dL_law_902 kl_RL_105 rfl (gz_shs c_246) rfl rfl (Nat.le_of_ble_eq_true rfl) (by show d + 7 + 5 + 1 ≤ d + 13; omega) (sX8_holders (d := d + 7) (gz_gc hf)) (fun y_245 h_244 hf => ?_)
        refine gz_aload_n (pc := 905) dL_law_905 rfl rfl ?_
        refine gz_aload_n (pc := 906) dL_law_906 rfl rfl ?_
        refine gz_iload_n (pc := 907) dL_law_907 rfl rfl ?_
        refine gz_iconst (v := (1 : Int32)) (pc := 908) dL_law_908 rfl ?_
        refine gz_iadd (pc := 909) dL_law_909 ?_
        refine gz_sld (pc := 910) dL_law_910 c_243 ?_
        refine gz_gk hf (fun c_249 hf => ?_)
        refine gz_cVI (av := [.int (G.2.2.2.2.1 (x3 + (1 : Int32)).toNatClampNeg)]) (st := [.int y_245]) (pc := 911) dL_law_911 kl_RL_108 rfl (gz_shs c_249) rfl rfl (Nat.le_of_ble_eq_true rfl) (by show d + 8 + 4 + 1 ≤ d + 13; omega) (sX9_holders (d := d + 8) (gz_gc hf)) (fun y_248 h_247 hf => ?_)
        refine gz_icmp_eq (tgt := 1352) (pc := 914) dL_law_914 rfl (fun c_250 => ?_) (fun c_250 => ?_)
        · have hf := gz_gT hf c_250
          exact sL_law_1352 ih a1 a2 x3 h_247 hf
        · have hf := gz_gF hf c_250
          refine gz_iconst (v := (0 : Int32)) (pc := 917) dL_law_917 rfl ?_
          refine gz_gk hf (fun c_251 hf => ?_)
          exact gz_iretA (pc := 918) dL_law_918 rfl rfl (gz_dcs c_251).1 (gz_dcs c_251).2 hf
      have hf := gz_gF hf c_242
      by_cases c_252 : y_4 = (23 : Int32)
      · have hf := gz_gT hf c_252
        refine gz_tIn (off := 886) (tgt := 919) (pc := 33) dL_law_33 (by rw [c_252]; decide) (by rw [c_252]; decide) (by rw [c_252]; decide) rfl ?_
        refine gz_aload_n (pc := 919) dL_law_919 rfl rfl ?_
        refine gz_gk hf (fun c_255 hf => ?_)
        refine gz_cVI (av := []) (st := []) (pc := 920) dL_law_920 kl_RL_109 rfl (gz_shs c_255) rfl rfl (Nat.le_of_ble_eq_true rfl) (by show d + 8 + 4 + 1 ≤ d + 13; omega) (sX8_lost (d := d + 8) (gz_gc hf)) (fun y_254 h_253 hf => ?_)
        refine gz_aload_n (pc := 923) dL_law_923 rfl rfl ?_
        refine gz_gk hf (fun c_258 hf => ?_)
        refine gz_cVI (av := []) (st := [.int y_254]) (pc := 924) dL_law_924 kl_RL_113 rfl (gz_shs c_258) rfl rfl (Nat.le_of_ble_eq_true rfl) (by show d + 9 + 3 + 1 ≤ d + 13; omega) (sX9_lost (d := d + 9) (gz_gc hf)) (fun y_257 h_256 hf => ?_)
        refine gz_icmp_eq (tgt := 1352) (pc := 927) dL_law_927 rfl (fun c_259 => ?_) (fun c_259 => ?_)
        · have hf := gz_gT hf c_259
          exact sL_law_1352 ih a1 a2 x3 h_256 hf
        · have hf := gz_gF hf c_259
          refine gz_iconst (v := (0 : Int32)) (pc := 930) dL_law_930 rfl ?_
          refine gz_gk hf (fun c_260 hf => ?_)
          exact gz_iretA (pc := 931) dL_law_931 rfl rfl (gz_dcs c_260).1 (gz_dcs c_260).2 hf
      have hf := gz_gF hf c_252
      by_cases c_261 : y_4 = (24 : Int32)
      · have hf := gz_gT hf c_261
        refine gz_tIn (off := 899) (tgt := 932) (pc := 33) dL_law_33 (by rw [c_261]; decide) (by rw [c_261]; decide) (by rw [c_261]; decide) rfl ?_
        refine gz_aload_n (pc := 932) dL_law_932 rfl rfl ?_
        refine gz_gk hf (fun c_264 hf => ?_)
        refine gz_cVI (av := []) (st := []) (pc := 933) dL_law_933 kl_RL_114 rfl (gz_shs c_264) rfl rfl (Nat.le_of_ble_eq_true rfl) (by show d + 7 + 5 + 1 ≤ d + 13; omega) (sX8_mute (d := d + 7) (gz_gc hf)) (fun y_263 h_262 hf => ?_)
        refine gz_aload_n (pc := 936) dL_law_936 rfl rfl ?_
        refine gz_gk hf (fun c_267 hf => ?_)
        refine gz_cVI (av := []) (st := [.int y_263]) (pc := 937) dL_law_937 kl_RL_117 rfl (gz_shs c_267) rfl rfl (Nat.le_of_ble_eq_true rfl) (by show d + 7 + 5 + 1 ≤ d + 13; omega) (sX9_mute (d := d + 7) (gz_gc hf)) (fun y_266 h_265 hf => ?_)
        refine gz_icmp_eq (tgt := 1352) (pc := 940) dL_law_940 rfl (fun c_268 => ?_) (fun c_268 => ?_)
        · have hf := gz_gT hf c_268
          exact sL_law_1352 ih a1 a2 x3 h_265 hf
        · have hf := gz_gF hf c_268
          refine gz_iconst (v := (0 : Int32)) (pc := 943) dL_law_943 rfl ?_
          refine gz_gk hf (fun c_269 hf => ?_)
          exact gz_iretA (pc := 944) dL_law_944 rfl rfl (gz_dcs c_269).1 (gz_dcs c_269).2 hf
      have hf := gz_gF hf c_261
      by_cases c_270 : y_4 = (25 : Int32)
      · have hf := gz_gT hf c_270
        refine gz_tIn (off := 912) (tgt := 945) (pc := 33) dL_law_33 (by rw [c_270]; decide) (by rw [c_270]; decide) (by rw [c_270]; decide) rfl ?_
        refine gz_aload_n (pc := 945) dL_law_945 rfl rfl ?_
        refine gz_aload_n (pc := 946) dL_law_946 rfl rfl ?_
        refine gz_iload_n (pc := 947) dL_law_947 rfl rfl ?_
        refine gz_iconst (v := (1 : Int32)) (pc := 948) dL_law_948 rfl ?_
        refine gz_iadd (pc := 949) dL_law_949 ?_
        refine gz_gk hf (fun c_271 hf => ?_)
        refine gz_sld (pc := 950) dL_law_950 c_271 ?_
        refine gz_aload_n (pc := 951) dL_law_951 rfl rfl ?_
        refine gz_iload_n (pc := 952) dL_law_952 rfl rfl ?_
        refine gz_iconst (v := (2 : Int32)) (pc := 953) dL_law_953 rfl ?_
        refine gz_iadd (pc := 954) dL_law_954 ?_
        refine gz_gk hf (fun c_272 hf => ?_)
        refine gz_sld (pc := 955) dL_law_955 c_272 ?_
        refine gz_aload_n (pc := 956) dL_law_956 rfl rfl ?_
        refine gz_iload_n (pc := 957) dL_law_957 rfl rfl ?_
        refine gz_iconst (v := (3 : Int32)) (pc := 958) dL_law_958 rfl ?_
        refine gz_iadd (pc := 959) dL_law_959 ?_
        refine gz_gk hf (fun c_273 hf => ?_)
        refine gz_sld (pc := 960) dL_law_960 c_273 ?_
        refine gz_gk hf (fun c_276 hf => ?_)
        refine gz_cVI (av := [.int (G.2.2.2.2.1 (x3 + (1 : Int32)).toNatClampNeg), .int (G.2.2.2.2.1 (x3 + (2 : Int32)).toNatClampNeg), .int (G.2.2.2.2.1 (x3 + (3 : Int32)).toNatClampNeg)]) (st := []) (pc := 961) dL_law_961 kl_RL_118 rfl (gz_shs c_276) rfl rfl (Nat.le_of_ble_eq_true rfl) (by show d + 8 + 4 + 1 ≤ d + 13; omega) (sX8_walk (d := d + 8) (gz_gc hf)) (fun y_275 h_274 hf => ?_)
        refine gz_aload_n (pc := 964) dL_law_964 rfl rfl ?_
        refine gz_aload_n (pc := 965) dL_law_965 rfl rfl ?_
        refine gz_iload_n (pc := 966) dL_law_966 rfl rfl ?_
        refine gz_iconst (v := (1 : Int32)) (pc := 967) dL_law_967 rfl ?_
        refine gz_iadd (pc := 968) dL_law_968 ?_
        refine gz_sld (pc := 969) dL_law_969 c_271 ?_
        refine gz_aload_n (pc := 970) dL_law_970 rfl rfl ?_
        refine gz_iload_n (pc := 971) dL_law_971 rfl rfl ?_
        refine gz_iconst (v := (2 : Int32)) (pc := 972) dL_law_972 rfl ?_
        refine gz_iadd (pc := 973) dL_law_973 ?_
        refine gz_sld (pc := 974) dL_law_974 c_272 ?_
        refine gz_aload_n (pc := 975) dL_law_975 rfl rfl ?_
        refine gz_iload_n (pc := 976) dL_law_976 rfl rfl ?_
        refine gz_iconst (v := (3 : Int32)) (pc := 977) dL_law_977 rfl ?_
        refine gz_iadd (pc := 978) dL_law_978 ?_
        refine gz_sld (pc := 979) dL_law_979 c_273 ?_
        refine gz_gk hf (fun c_279 hf => ?_)
        refine gz_cVI (av := [.int (G.2.2.2.2.1 (x3 + (1 : Int32)).toNatClampNeg), .int (G.2.2.2.2.1 (x3 + (2 : Int32)).toNatClampNeg), .int (G.2.2.2.2.1 (x3 + (3 : Int32)).toNatClampNeg)]) (st := [.int y_275]) (pc := 980) dL_law_980 kl_RL_121 rfl (gz_shs c_279) rfl rfl (Nat.le_of_ble_eq_true rfl) (by show d + 8 + 4 + 1 ≤ d + 13; omega) (sX9_walk (d := d + 8) (gz_gc hf)) (fun y_278 h_277 hf => ?_)
        refine gz_icmp_eq (tgt := 1352) (pc := 983) dL_law_983 rfl (fun c_280 => ?_) (fun c_280 => ?_)
        · have hf := gz_gT hf c_280
          exact sL_law_1352 ih a1 a2 x3 h_277 hf
        · have hf := gz_gF hf c_280
          refine gz_iconst (v := (0 : Int32)) (pc := 986) dL_law_986 rfl ?_
          refine gz_gk hf (fun c_281 hf => ?_)
          exact gz_iretA (pc := 987) dL_law_987 rfl rfl (gz_dcs c_281).1 (gz_dcs c_281).2 hf
      have hf := gz_gF hf c_270
      by_cases c_282 : y_4 = (26 : Int32)
      · have hf := gz_gT hf c_282
        refine gz_tIn (off := 955) (tgt := 988) (pc := 33) dL_law_33 (by rw [c_282]; decide) (by rw [c_282]; decide) (by rw [c_282]; decide) rfl ?_
        refine gz_aload_n (pc := 988) dL_law_988 rfl rfl ?_
        refine gz_aload_n (pc := 989) dL_law_989 rfl rfl ?_
        refine gz_iload_n (pc := 990) dL_law_990 rfl rfl ?_
        refine gz_iconst (v := (1 : Int32)) (pc := 991) dL_law_991 rfl ?_
        refine gz_iadd (pc := 992) dL_law_992 ?_
        refine gz_gk hf (fun c_283 hf => ?_)
        refine gz_sld (pc := 993) dL_law_993 c_283 ?_
        refine gz_gk hf (fun c_286 hf => ?_)
        refine gz_cVI (av := [.int (G.2.2.2.2.1 (x3 + (1 : Int32)).toNatClampNeg)]) (st := []) (pc := 994) dL_law_994 kl_RL_122 rfl (gz_shs c_286) rfl rfl (Nat.le_of_ble_eq_true rfl) (by show d + 7 + 5 + 1 ≤ d + 13; omega) (sX8_crew (d := d + 7) (gz_gc hf)) (fun y_285 h_284 hf => ?_)
        refine gz_aload_n (pc := 997) dL_law_997 rfl rfl ?_
        refine gz_aload_n (pc := 998) dL_law_998 rfl rfl ?_
        refine gz_iload_n (pc := 999) dL_law_999 rfl rfl ?_
        refine gz_iconst (v := (1 : Int32)) (pc := 1000) dL_law_1000 rfl ?_
        refine gz_iadd (pc := 1001) dL_law_1001 ?_
        refine gz_sld (pc := 1002) dL_law_1002 c_283 ?_
        refine gz_gk hf (fun c_289 hf => ?_)
        refine gz_cVI (av := [.int (G.2.2.2.2.1 (x3 + (1 : Int32)).toNatClampNeg)]) (st := [.int y_285]) (pc := 1003) dL_law_1003 kl_RL_125 rfl (gz_shs c_289) rfl rfl (Nat.le_of_ble_eq_true rfl) (by show d + 7 + 5 + 1 ≤ d + 13; omega) (sX9_crew (d := d + 7) (gz_gc hf)) (fun y_288 h_287 hf => ?_)
        refine gz_icmp_eq (tgt := 1352) (pc := 1006) dL_law_1006 rfl (fun c_290 => ?_) (fun c_290 => ?_)
        · have hf := gz_gT hf c_290
          exact sL_law_1352 ih a1 a2 x3 h_287 hf
        · have hf := gz_gF hf c_290
          refine gz_iconst (v := (0 : Int32)) (pc := 1009) dL_law_1009 rfl ?_
          refine gz_gk hf (fun c_291 hf => ?_)
          exact gz_iretA (pc := 1010) dL_law_1010 rfl rfl (gz_dcs c_291).1 (gz_dcs c_291).2 hf
      have hf := gz_gF hf c_282
      by_cases c_292 : y_4 = (27 : Int32)
      · have hf := gz_gT hf c_292
        refine gz_tIn (off := 978) (tgt := 1011) (pc := 33) dL_law_33 (by rw [c_292]; decide) (by rw [c_292]; decide) (by rw [c_292]; decide) rfl ?_
        refine gz_aload_n (pc := 1011) dL_law_1011 rfl rfl ?_
        refine gz_aload_n (pc := 1012) dL_law_1012 rfl rfl ?_
        refine gz_iload_n (pc := 1013) dL_law_1013 rfl rfl ?_
        refine gz_iconst (v := (1 : Int32)) (pc := 1014) dL_law_1014 rfl ?_
        refine gz_iadd (pc := 1015) dL_law_1015 ?_
        refine gz_gk hf (fun c_293 hf => ?_)
        refine gz_sld (pc := 1016) dL_law_1016 c_293 ?_
        refine gz_gk hf (fun c_296 hf => ?_)
        refine gz_cVI (av := [.int (G.2.2.2.2.1 (x3 + (1 : Int32)).toNatClampNeg)]) (st := []) (pc := 1017) dL_law_1017 kl_RL_126 rfl (gz_shs c_296) rfl rfl (Nat.le_of_ble_eq_true rfl) (by show d + 8 + 4 + 1 ≤ d + 13; omega) (sX8_least (d := d + 8) (gz_gc hf)) (fun y_295 h_294 hf => ?_)
        refine gz_aload_n (pc := 1020) dL_law_1020 rfl rfl ?_
        refine gz_aload_n (pc := 1021) dL_law_1021 rfl rfl ?_
        refine gz_iload_n (pc := 1022) dL_law_1022 rfl rfl ?_
        refine gz_iconst (v := (1 : Int32)) (pc := 1023) dL_law_1023 rfl ?_
        refine gz_iadd (pc := 1024) dL_law_1024 ?_
        refine gz_sld (pc := 1025) dL_law_1025 c_293 ?_
        refine gz_gk hf (fun c_299 hf => ?_)
        refine gz_cVI (av := [.int (G.2.2.2.2.1 (x3 + (1 : Int32)).toNatClampNeg)]) (st := [.int y_295]) (pc := 1026) dL_law_1026 kl_RL_129 rfl (gz_shs c_299) rfl rfl (Nat.le_of_ble_eq_true rfl) (by show d + 8 + 4 + 1 ≤ d + 13; omega) (sX9_least (d := d + 8) (gz_gc hf)) (fun y_298 h_297 hf => ?_)
        refine gz_icmp_eq (tgt := 1352) (pc := 1029) dL_law_1029 rfl (fun c_300 => ?_) (fun c_300 => ?_)
        · have hf := gz_gT hf c_300
          exact sL_law_1352 ih a1 a2 x3 h_297 hf
        · have hf := gz_gF hf c_300
          refine gz_iconst (v := (0 : Int32)) (pc := 1032) dL_law_1032 rfl ?_
          refine gz_gk hf (fun c_301 hf => ?_)
          exact gz_iretA (pc := 1033) dL_law_1033 rfl rfl (gz_dcs c_301).1 (gz_dcs c_301).2 hf
      have hf := gz_gF hf c_292
      by_cases c_302 : y_4 = (28 : Int32)
      · have hf := gz_gT hf c_302
        refine gz_tIn (off := 1001) (tgt := 1034) (pc := 33) dL_law_33 (by rw [c_302]; decide) (by rw [c_302]; decide) (by rw [c_302]; decide) rfl ?_
        refine gz_aload_n (pc := 1034) dL_law_1034 rfl rfl ?_
        refine gz_gk hf (fun c_305 hf => ?_)
        refine gz_cVI (av := []) (st := []) (pc := 1035) dL_law_1035 kl_RL_130 rfl (gz_shs c_305) rfl rfl (Nat.le_of_ble_eq_true rfl) (by show d + 9 + 3 + 1 ≤ d + 13; omega) (sX8_risk (d := d + 9) (gz_gc hf)) (fun y_304 h_303 hf => ?_)
        refine gz_aload_n (pc := 1038) dL_law_1038 rfl rfl ?_
        refine gz_gk hf (fun c_308 hf => ?_)
        refine gz_cVI (av := []) (st := [.int y_304]) (pc := 1039) dL_law_1039 kl_RL_133 rfl (gz_shs c_308) rfl rfl (Nat.le_of_ble_eq_true rfl) (by show d + 9 + 3 + 1 ≤ d + 13; omega) (sX9_risk (d := d + 9) (gz_gc hf)) (fun y_307 h_306 hf => ?_)
        refine gz_icmp_eq (tgt := 1352) (pc := 1042) dL_law_1042 rfl (fun c_309 => ?_) (fun c_309 => ?_)
        · have hf := gz_gT hf c_309
          exact sL_law_1352 ih a1 a2 x3 h_306 hf
        · have hf := gz_gF hf c_309
          refine gz_iconst (v := (0 : Int32)) (pc := 1045) dL_law_1045 rfl ?_
          refine gz_gk hf (fun c_310 hf => ?_)
          exact gz_iretA (pc := 1046) dL_law_1046 rfl rfl (gz_dcs c_310).1 (gz_dcs c_310).2 hf
      have hf := gz_gF hf c_302
      by_cases c_311 : y_4 = (29 : Int32)
      · have hf := gz_gT hf c_311
        refine gz_tIn (off := 1014) (tgt := 1047) (pc := 33) dL_law_33 (by rw [c_311]; decide) (by rw [c_311]; decide) (by rw [c_311]; decide) rfl ?_
        refine gz_aload_n (pc := 1047) dL_law_1047 rfl rfl ?_
        refine gz_gk hf (fun c_314 hf => ?_)
        refine gz_cVI (av := []) (st := []) (pc := 1048) dL_law_1048 kl_RL_134 rfl (gz_shs c_314) rfl rfl (Nat.le_of_ble_eq_true rfl) (by show d + 9 + 3 + 1 ≤ d + 13; omega) (sX8_safe (d := d + 9) (gz_gc hf)) (fun y_313 h_312 hf => ?_)
        refine gz_aload_n (pc := 1051) dL_law_1051 rfl rfl ?_
        refine gz_gk hf (fun c_317 hf => ?_)
        refine gz_cVI (av := []) (st := [.int y_313]) (pc := 1052) dL_law_1052 kl_RL_137 rfl (gz_shs c_317) rfl rfl (Nat.le_of_ble_eq_true rfl) (by show d + 8 + 4 + 1 ≤ d + 13; omega) (sX9_safe (d := d + 8) (gz_gc hf)) (fun y_316 h_315 hf => ?_)
        refine gz_icmp_eq (tgt := 1352) (pc := 1055) dL_law_1055 rfl (fun c_318 => ?_) (fun c_318 => ?_)
        · have hf := gz_gT hf c_318
          exact sL_law_1352 ih a1 a2 x3 h_315 hf
        · have hf := gz_gF hf c_318
          refine gz_iconst (v := (0 : Int32)) (pc := 1058) dL_law_1058 rfl ?_
          refine gz_gk hf (fun c_319 hf => ?_)
          exact gz_iretA (pc := 1059) dL_law_1059 rfl rfl (gz_dcs c_319).1 (gz_dcs c_319).2 hf
      have hf := gz_gF hf c_311
      by_cases c_320 : y_4 = (30 : Int32)
      · have hf := gz_gT hf c_320
        refine gz_tIn (off := 1027) (tgt := 1060) (pc := 33) dL_law_33 (by rw [c_320]; decide) (by rw [c_320]; decide) (by rw [c_320]; decide) rfl ?_
        refine gz_aload_n (pc := 1060) dL_law_1060 rfl rfl ?_
        refine gz_aload_n (pc := 1061) dL_law_1061 rfl rfl ?_
        refine gz_iload_n (pc := 1062) dL_law_1062 rfl rfl ?_
        refine gz_iconst (v := (1 : Int32)) (pc := 1063) dL_law_1063 rfl ?_
        refine gz_iadd (pc := 1064) dL_law_1064 ?_
        refine gz_gk hf (fun c_321 hf => ?_)
        refine gz_sld (pc := 1065) dL_law_1065 c_321 ?_
        refine gz_gk hf (fun c_324 hf => ?_)
        refine gz_cVI (av := [.int (G.2.2.2.2.1 (x3 + (1 : Int32)).toNatClampNeg)]) (st := []) (pc := 1066) dL_law_1066 kl_RL_138 rfl (gz_shs c_324) rfl rfl (Nat.le_of_ble_eq_true rfl) (by show d + 7 + 5 + 1 ≤ d + 13; omega) (sX8_share (d := d + 7) (gz_gc hf)) (fun y_323 h_322 hf => ?_)
        refine gz_aload_n (pc := 1069) dL_law_1069 rfl rfl ?_
        refine gz_aload_n (pc := 1070) dL_law_1070 rfl rfl ?_
        refine gz_iload_n (pc := 1071) dL_law_1071 rfl rfl ?_
        refine gz_iconst (v := (1 : Int32)) (pc := 1072) dL_law_1072 rfl ?_
        refine gz_iadd (pc := 1073) dL_law_1073 ?_
        refine gz_sld (pc := 1074) dL_law_1074 c_321 ?_
        refine gz_gk hf (fun c_327 hf => ?_)
        refine gz_cVI (av := [.int (G.2.2.2.2.1 (x3 + (1 : Int32)).toNatClampNeg)]) (st := [.int y_323]) (pc := 1075) dL_law_1075 kl_RL_141 rfl (gz_shs c_327) rfl rfl (Nat.le_of_ble_eq_true rfl) (by show d + 8 + 4 + 1 ≤ d + 13; omega) (sX9_share (d := d + 8) (gz_gc hf)) (fun y_326 h_325 hf => ?_)
        refine gz_icmp_eq (tgt := 1352) (pc := 1078) dL_law_1078 rfl (fun c_328 => ?_) (fun c_328 => ?_)
        · have hf := gz_gT hf c_328
          exact sL_law_1352 ih a1 a2 x3 h_325 hf
        · have hf := gz_gF hf c_328
          refine gz_iconst (v := (0 : Int32)) (pc := 1081) dL_law_1081 rfl ?_
          refine gz_gk hf (fun c_329 hf => ?_)
          exact gz_iretA (pc := 1082) dL_law_1082 rfl rfl (gz_dcs c_329).1 (gz_dcs c_329).2 hf
      have hf := gz_gF hf c_320
      by_cases c_330 : y_4 = (31 : Int32)
      · have hf := gz_gT hf c_330
        refine gz_tIn (off := 1050) (tgt := 1083) (pc := 33) dL_law_33 (by rw [c_330]; decide) (by rw [c_330]; decide) (by rw [c_330]; decide) rfl ?_
        refine gz_aload_n (pc := 1083) dL_law_1083 rfl rfl ?_
        refine gz_aload_n (pc := 1084) dL_law_1084 rfl rfl ?_
        refine gz_iload_n (pc := 1085) dL_law_1085 rfl rfl ?_
        refine gz_iconst (v := (1 : Int32)) (pc := 1086) dL_law_1086 rfl ?_
        refine gz_iadd (pc := 1087) dL_law_1087 ?_
        refine gz_gk hf (fun c_331 hf => ?_)
        refine gz_sld (pc := 1088) dL_law_1088 c_331 ?_
        refine gz_aload_n (pc := 1089) dL_law_1089 rfl rfl ?_
        refine gz_iload_n (pc := 1090) dL_law_1090 rfl rfl ?_
        refine gz_iconst (v := (2 : Int32)) (pc := 1091) dL_law_1091 rfl ?_
        refine gz_iadd (pc := 1092) dL_law_1092 ?_
        refine gz_gk hf (fun c_332 hf => ?_)
        refine gz_sld (pc := 1093) dL_law_1093 c_332 ?_
        refine gz_gk hf (fun c_335 hf => ?_)
        refine gz_cVI (av := [.int (G.2.2.2.2.1 (x3 + (1 : Int32)).toNatClampNeg), .int (G.2.2.2.2.1 (x3 + (2 : Int32)).toNatClampNeg)]) (st := []) (pc := 1094) dL_law_1094 kl_RL_142 rfl (gz_shs c_335) rfl rfl (Nat.le_of_ble_eq_true rfl) (by show d + 0 + 12 + 1 ≤ d + 13; omega) (sX8_held (d := d + 0) (gz_gc hf)) (fun y_334 h_333 hf => ?_)
        refine gz_aload_n (pc := 1097) dL_law_1097 rfl rfl ?_
        refine gz_aload_n (pc := 1098) dL_law_1098 rfl rfl ?_
        refine gz_iload_n (pc := 1099) dL_law_1099 rfl rfl ?_
        refine gz_iconst (v := (1 : Int32)) (pc := 1100) dL_law_1100 rfl ?_
        refine gz_iadd (pc := 1101) dL_law_1101 ?_
        refine gz_sld (pc := 1102) dL_law_1102 c_331 ?_
        refine gz_aload_n (pc := 1103) dL_law_1103 rfl rfl ?_
        refine gz_iload_n (pc := 1104) dL_law_1104 rfl rfl ?_
        refine gz_iconst (v := (2 : Int32)) (pc := 1105) dL_law_1105 rfl ?_
        refine gz_iadd (pc := 1106) dL_law_1106 ?_
        refine gz_sld (pc := 1107) dL_law_1107 c_332 ?_
        refine gz_gk hf (fun c_338 hf => ?_)
        refine gz_cVI (av := [.int (G.2.2.2.2.1 (x3 + (1 : Int32)).toNatClampNeg), .int (G.2.2.2.2.1 (x3 + (2 : Int32)).toNatClampNeg)]) (st := [.int y_334]) (pc := 1108) dL_law_1108 kl_RL_145 rfl (gz_shs c_338) rfl rfl (Nat.le_of_ble_eq_true rfl) (by show d + 9 + 3 + 1 ≤ d + 13; omega) (sX9_held (d := d + 9) (gz_gc hf)) (fun y_337 h_336 hf => ?_)
        refine gz_icmp_eq (tgt := 1352) (pc := 1111) dL_law_1111 rfl (fun c_339 => ?_) (fun c_339 => ?_)
        · have hf := gz_gT hf c_339
          exact sL_law_1352 ih a1 a2 x3 h_336 hf
        · have hf := gz_gF hf c_339
          refine gz_iconst (v := (0 : Int32)) (pc := 1114) dL_law_1114 rfl ?_
          refine gz_gk hf (fun c_340 hf => ?_)
          exact gz_iretA (pc := 1115) dL_law_1115 rfl rfl (gz_dcs c_340).1 (gz_dcs c_340).2 hf
      have hf := gz_gF hf c_330
      by_cases c_341 : y_4 = (32 : Int32)
      · have hf := gz_gT hf c_341
        refine gz_tIn (off := 1083) (tgt := 1116) (pc := 33) dL_law_33 (by rw [c_341]; decide) (by rw [c_341]; decide) (by rw [c_341]; decide) rfl ?_
        refine gz_aload_n (pc := 1116) dL_law_1116 rfl rfl ?_
        refine gz_aload_n (pc := 1117) dL_law_1117 rfl rfl ?_
        refine gz_iload_n (pc := 1118) dL_law_1118 rfl rfl ?_
        refine gz_iconst (v := (1 : Int32)) (pc := 1119) dL_law_1119 rfl ?_
        refine gz_iadd (pc := 1120) dL_law_1120 ?_
        refine gz_gk hf (fun c_342 hf => ?_)
        refine gz_sld (pc := 1121) dL_law_1121 c_342 ?_
        refine gz_aload_n (pc := 1122) dL_law_1122 rfl rfl ?_
        refine gz_iload_n (pc := 1123) dL_law_1123 rfl rfl ?_
        refine gz_iconst (v := (2 : Int32)) (pc := 1124) dL_law_1124 rfl ?_
        refine gz_iadd (pc := 1125) dL_law_1125 ?_
        refine gz_gk hf (fun c_343 hf => ?_)
        refine gz_sld (pc := 1126) dL_law_1126 c_343 ?_
        refine gz_gk hf (fun c_346 hf => ?_)
        refine gz_cVI (av := [.int (G.2.2.2.2.1 (x3 + (1 : Int32)).toNatClampNeg), .int (G.2.2.2.2.1 (x3 + (2 : Int32)).toNatClampNeg)]) (st := []) (pc := 1127) dL_law_1127 kl_RL_146 rfl (gz_shs c_346) rfl rfl (Nat.le_of_ble_eq_true rfl) (by show d + 9 + 3 + 1 ≤ d + 13; omega) (sX8_kinds (d := d + 9) (gz_gc hf)) (fun y_345 h_344 hf => ?_)
        refine gz_aload_n (pc := 1130) dL_law_1130 rfl rfl ?_
        refine gz_aload_n (pc := 1131) dL_law_1131 rfl rfl ?_
        refine gz_iload_n (pc := 1132) dL_law_1132 rfl rfl ?_
        refine gz_iconst (v := (1 : Int32)) (pc := 1133) dL_law_1133 rfl ?_
        refine gz_iadd (pc := 1134) dL_law_1134 ?_
        refine gz_sld (pc := 1135) dL_law_1135 c_342 ?_
        refine gz_aload_n (pc := 1136) dL_law_1136 rfl rfl ?_
        refine gz_iload_n (pc := 1137) dL_law_1137 rfl rfl ?_
        refine gz_iconst (v := (2 : Int32)) (pc := 1138) dL_law_1138 rfl ?_
        refine gz_iadd (pc := 1139) dL_law_1139 ?_
        refine gz_sld (pc := 1140) dL_law_1140 c_343 ?_
        refine gz_gk hf (fun c_349 hf => ?_)
        refine gz_cVI (av := [.int (G.2.2.2.2.1 (x3 + (1 : Int32)).toNatClampNeg), .int (G.2.2.2.2.1 (x3 + (2 : Int32)).toNatClampNeg)]) (st := [.int y_345]) (pc := 1141) dL_law_1141 kl_RL_149 rfl (gz_shs c_349) rfl rfl (Nat.le_of_ble_eq_true rfl) (by show d + 9 + 3 + 1 ≤ d + 13; omega) (sX9_kinds (d := d + 9) (gz_gc hf)) (fun y_348 h_347 hf => ?_)
        refine gz_icmp_eq (tgt := 1352) (pc := 1144) dL_law_1144 rfl (fun c_350 => ?_) (fun c_350 => ?_)
        · have hf := gz_gT hf c_350
          exact sL_law_1352 ih a1 a2 x3 h_347 hf
        · have hf := gz_gF hf c_350
          refine gz_iconst (v := (0 : Int32)) (pc := 1147) dL_law_1147 rfl ?_
          refine gz_gk hf (fun c_351 hf => ?_)
          exact gz_iretA (pc := 1148) dL_law_1148 rfl rfl (gz_dcs c_351).1 (gz_dcs c_351).2 hf
      have hf := gz_gF hf c_341
      by_cases c_352 : y_4 = (33 : Int32)
      · have hf := gz_gT hf c_352
        refine gz_tIn (off := 1116) (tgt := 1149) (pc := 33) dL_law_33 (by rw [c_352]; decide) (by rw [c_352]; decide) (by rw [c_352]; decide) rfl ?_
        refine gz_aload_n (pc := 1149) dL_law_1149 rfl rfl ?_
        refine gz_aload_n (pc := 1150) dL_law_1150 rfl rfl ?_
        refine gz_iload_n (pc := 1151) dL_law_1151 rfl rfl ?_
        refine gz_iconst (v := (1 : Int32)) (pc := 1152) dL_law_1152 rfl ?_
        refine gz_iadd (pc := 1153) dL_law_1153 ?_
        refine gz_gk hf (fun c_353 hf => ?_)
        refine gz_sld (pc := 1154) dL_law_1154 c_353 ?_
        refine gz_aload_n (pc := 1155) dL_law_1155 rfl rfl ?_
        refine gz_iload_n (pc := 1156) dL_law_1156 rfl rfl ?_
        refine gz_iconst (v := (2 : Int32)) (pc := 1157) dL_law_1157 rfl ?_
        refine gz_iadd (pc := 1158) dL_law_1158 ?_
        refine gz_gk hf (fun c_354 hf => ?_)
        refine gz_sld (pc := 1159) dL_law_1159 c_354 ?_
        refine gz_gk hf (fun c_357 hf => ?_)
        refine gz_cVI (av := [.int (G.2.2.2.2.1 (x3 + (1 : Int32)).toNatClampNeg), .int (G.2.2.2.2.1 (x3 + (2 : Int32)).toNatClampNeg)]) (st := []) (pc := 1160) dL_law_1160 kl_RL_150 rfl (gz_shs c_357) rfl rfl (Nat.le_of_ble_eq_true rfl) (by show d + 10 + 2 + 1 ≤ d + 13; omega) (sX8_odds (d := d + 10) (gz_gc hf)) (fun y_356 h_355 hf => ?_)
        refine gz_aload_n (pc := 1163) dL_law_1163 rfl rfl ?_
        refine gz_aload_n (pc := 1164) dL_law_1164 rfl rfl ?_
        refine gz_iload_n (pc := 1165) dL_law_1165 rfl rfl ?_
        refine gz_iconst (v := (1 : Int32)) (pc := 1166) dL_law_1166 rfl ?_
        refine gz_iadd (pc := 1167) dL_law_1167 ?_
        refine gz_sld (pc := 1168) dL_law_1168 c_353 ?_
        refine gz_aload_n (pc := 1169) dL_law_1169 rfl rfl ?_
        refine gz_iload_n (pc := 1170) dL_law_1170 rfl rfl ?_
        refine gz_iconst (v := (2 : Int32)) (pc := 1171) dL_law_1171 rfl ?_
        refine gz_iadd (pc := 1172) dL_law_1172 ?_
        refine gz_sld (pc := 1173) dL_law_1173 c_354 ?_
        refine gz_gk hf (fun c_360 hf => ?_)
        refine gz_cVI (av := [.int (G.2.2.2.2.1 (x3 + (1 : Int32)).toNatClampNeg), .int (G.2.2.2.2.1 (x3 + (2 : Int32)).toNatClampNeg)]) (st := [.int y_356]) (pc := 1174) dL_law_1174 kl_RL_153 rfl (gz_shs c_360) rfl rfl (Nat.le_of_ble_eq_true rfl) (by show d + 9 + 3 + 1 ≤ d + 13; omega) (sX9_odds (d := d + 9) (gz_gc hf)) (fun y_359 h_358 hf => ?_)
        refine gz_icmp_eq (tgt := 1352) (pc := 1177) dL_law_1177 rfl (fun c_361 => ?_) (fun c_361 => ?_)
        · have hf := gz_gT hf c_361
          exact sL_law_1352 ih a1 a2 x3 h_358 hf
        · have hf := gz_gF hf c_361
          refine gz_iconst (v := (0 : Int32)) (pc := 1180) dL_law_1180 rfl ?_
          refine gz_gk hf (fun c_362 hf => ?_)
          exact gz_iretA (pc := 1181) dL_law_1181 rfl rfl (gz_dcs c_362).1 (gz_dcs c_362).2 hf
      have hf := gz_gF hf c_352
      by_cases c_363 : y_4 = (34 : Int32)
      · have hf := gz_gT hf c_363
        refine gz_tIn (off := 1149) (tgt := 1182) (pc := 33) dL_law_33 (by rw [c_363]; decide) (by rw [c_363]; decide) (by rw [c_363]; decide) rfl ?_
        refine gz_aload_n (pc := 1182) dL_law_1182 rfl rfl ?_
        refine gz_aload_n (pc := 1183) dL_law_1183 rfl rfl ?_
        refine gz_iload_n (pc := 1184) dL_law_1184 rfl rfl ?_
        refine gz_iconst (v := (1 : Int32)) (pc := 1185) dL_law_1185 rfl ?_
        refine gz_iadd (pc := 1186) dL_law_1186 ?_
        refine gz_gk hf (fun c_364 hf => ?_)
        refine gz_sld (pc := 1187) dL_law_1187 c_364 ?_
        refine gz_gk hf (fun c_367 hf => ?_)
        refine gz_cVI (av := [.int (G.2.2.2.2.1 (x3 + (1 : Int32)).toNatClampNeg)]) (st := []) (pc := 1188) dL_law_1188 kl_RL_154 rfl (gz_shs c_367) rfl rfl (Nat.le_of_ble_eq_true rfl) (by show d + 10 + 2 + 1 ≤ d + 13; omega) (sX8_mid (d := d + 10) (gz_gc hf)) (fun y_366 h_365 hf => ?_)
        refine gz_aload_n (pc := 1191) dL_law_1191 rfl rfl ?_
        refine gz_aload_n (pc := 1192) dL_law_1192 rfl rfl ?_
        refine gz_iload_n (pc := 1193) dL_law_1193 rfl rfl ?_
        refine gz_iconst (v := (1 : Int32)) (pc := 1194) dL_law_1194 rfl ?_
        refine gz_iadd (pc := 1195) dL_law_1195 ?_
        refine gz_sld (pc := 1196) dL_law_1196 c_364 ?_
        refine gz_gk hf (fun c_370 hf => ?_)
        refine gz_cVI (av := [.int (G.2.2.2.2.1 (x3 + (1 : Int32)).toNatClampNeg)]) (st := [.int y_366]) (pc := 1197) dL_law_1197 kl_RL_157 rfl (gz_shs c_370) rfl rfl (Nat.le_of_ble_eq_true rfl) (by show d + 9 + 3 + 1 ≤ d + 13; omega) (sX9_mid (d := d + 9) (gz_gc hf)) (fun y_369 h_368 hf => ?_)
        refine gz_icmp_eq (tgt := 1352) (pc := 1200) dL_law_1200 rfl (fun c_371 => ?_) (fun c_371 => ?_)
        · have hf := gz_gT hf c_371
          exact sL_law_1352 ih a1 a2 x3 h_368 hf
        · have hf := gz_gF hf c_371
          refine gz_iconst (v := (0 : Int32)) (pc := 1203) dL_law_1203 rfl ?_
          refine gz_gk hf (fun c_372 hf => ?_)
          exact gz_iretA (pc := 1204) dL_law_1204 rfl rfl (gz_dcs c_372).1 (gz_dcs c_372).2 hf
      have hf := gz_gF hf c_363
      by_cases c_373 : y_4 = (35 : Int32)
      · have hf := gz_gT hf c_373
        refine gz_tIn (off := 1172) (tgt := 1205) (pc := 33) dL_law_33 (by rw [c_373]; decide) (by rw [c_373]; decide) (by rw [c_373]; decide) rfl ?_
        refine gz_aload_n (pc := 1205) dL_law_1205 rfl rfl ?_
        refine gz_aload_n (pc := 1206) dL_law_1206 rfl rfl ?_
        refine gz_iload_n (pc := 1207) dL_law_1207 rfl rfl ?_
        refine gz_iconst (v := (1 : Int32)) (pc := 1208) dL_law_1208 rfl ?_
        refine gz_iadd (pc := 1209) dL_law_1209 ?_
        refine gz_gk hf (fun c_374 hf => ?_)
        refine gz_sld (pc := 1210) dL_law_1210 c_374 ?_
        refine gz_aload_n (pc := 1211) dL_law_1211 rfl rfl ?_
        refine gz_iload_n (pc := 1212) dL_law_1212 rfl rfl ?_
        refine gz_iconst (v := (2 : Int32)) (pc := 1213) dL_law_1213 rfl ?_
        refine gz_iadd (pc := 1214) dL_law_1214 ?_
        refine gz_gk hf (fun c_375 hf => ?_)
        refine gz_sld (pc := 1215) dL_law_1215 c_375 ?_
        refine gz_gk hf (fun c_378 hf => ?_)
        refine gz_cVI (av := [.int (G.2.2.2.2.1 (x3 + (1 : Int32)).toNatClampNeg), .int (G.2.2.2.2.1 (x3 + (2 : Int32)).toNatClampNeg)]) (st := []) (pc := 1216) dL_law_1216 kl_RL_158 rfl (gz_shs c_378) rfl rfl (Nat.le_of_ble_eq_true rfl) (by show d + 4 + 8 + 1 ≤ d + 13; omega) (sX8_lots (d := d + 4) (gz_gc hf)) (fun y_377 h_376 hf => ?_)
        refine gz_aload_n (pc := 1219) dL_law_1219 rfl rfl ?_
        refine gz_aload_n (pc := 1220) dL_law_1220 rfl rfl ?_
        refine gz_iload_n (pc := 1221) dL_law_1221 rfl rfl ?_
        refine gz_iconst (v := (1 : Int32)) (pc := 1222) dL_law_1222 rfl ?_
        refine gz_iadd (pc := 1223) dL_law_1223 ?_
        refine gz_sld (pc := 1224) dL_law_1224 c_374 ?_
        refine gz_aload_n (pc := 1225) dL_law_1225 rfl rfl ?_
        refine gz_iload_n (pc := 1226) dL_law_1226 rfl rfl ?_
        refine gz_iconst (v := (2 : Int32)) (pc := 1227) dL_law_1227 rfl ?_
        refine gz_iadd (pc := 1228) dL_law_1228 ?_
        refine gz_sld (pc := 1229) dL_law_1229 c_375 ?_
        refine gz_gk hf (fun c_381 hf => ?_)
        refine gz_cVI (av := [.int (G.2.2.2.2.1 (x3 + (1 : Int32)).toNatClampNeg), .int (G.2.2.2.2.1 (x3 + (2 : Int32)).toNatClampNeg)]) (st := [.int y_377]) (pc := 1230) dL_law_1230 kl_RL_161 rfl (gz_shs c_381) rfl rfl (Nat.le_of_ble_eq_true rfl) (by show d + 8 + 4 + 1 ≤ d + 13; omega) (sX9_lots (d := d + 8) (gz_gc hf)) (fun y_380 h_379 hf => ?_)
        refine gz_icmp_eq (tgt := 1352) (pc := 1233) dL_law_1233 rfl (fun c_382 => ?_) (fun c_382 => ?_)
        · have hf := gz_gT hf c_382
          exact sL_law_1352 ih a1 a2 x3 h_379 hf
        · have hf := gz_gF hf c_382
          refine gz_iconst (v := (0 : Int32)) (pc := 1236) dL_law_1236 rfl ?_
          refine gz_gk hf (fun c_383 hf => ?_)
          exact gz_iretA (pc := 1237) dL_law_1237 rfl rfl (gz_dcs c_383).1 (gz_dcs c_383).2 hf
      have hf := gz_gF hf c_373
      by_cases c_384 : y_4 = (36 : Int32)
      · have hf := gz_gT hf c_384
        refine gz_tIn (off := 1205) (tgt := 1238) (pc := 33) dL_law_33 (by rw [c_384]; decide) (by rw [c_384]; decide) (by rw [c_384]; decide) rfl ?_
        refine gz_aload_n (pc := 1238) dL_law_1238 rfl rfl ?_
        refine gz_gk hf (fun c_387 hf => ?_)
        refine gz_cVI (av := []) (st := []) (pc := 1239) dL_law_1239 kl_RL_162 rfl (gz_shs c_387) rfl rfl (Nat.le_of_ble_eq_true rfl) (by show d + 12 + 0 + 1 ≤ d + 13; omega) (sX8_asked (d := d + 12) (gz_gc hf)) (fun y_386 h_385 hf => ?_)
        refine gz_aload_n (pc := 1242) dL_law_1242 rfl rfl ?_
        refine gz_gk hf (fun c_390 hf => ?_)
        refine gz_cVI (av := []) (st := [.int y_386]) (pc := 1243) dL_law_1243 kl_RL_165 rfl (gz_shs c_390) rfl rfl (Nat.le_of_ble_eq_true rfl) (by show d + 12 + 0 + 1 ≤ d + 13; omega) (sX9_asked (d := d + 12) (gz_gc hf)) (fun y_389 h_388 hf => ?_)
        refine gz_icmp_eq (tgt := 1352) (pc := 1246) dL_law_1246 rfl (fun c_391 => ?_) (fun c_391 => ?_)
        · have hf := gz_gT hf c_391
          exact sL_law_1352 ih a1 a2 x3 h_388 hf
        · have hf := gz_gF hf c_391
          refine gz_iconst (v := (0 : Int32)) (pc := 1249) dL_law_1249 rfl ?_
          refine gz_gk hf (fun c_392 hf => ?_)
          exact gz_iretA (pc := 1250) dL_law_1250 rfl rfl (gz_dcs c_392).1 (gz_dcs c_392).2 hf
      have hf := gz_gF hf c_384
      by_cases c_393 : y_4 = (37 : Int32)
      · have hf := gz_gT hf c_393
        refine gz_tIn (off := 1218) (tgt := 1251) (pc := 33) dL_law_33 (by rw [c_393]; decide) (by rw [c_393]; decide) (by rw [c_393]; decide) rfl ?_
        refine gz_aload_n (pc := 1251) dL_law_1251 rfl rfl ?_
        refine gz_gk hf (fun c_396 hf => ?_)
        refine gz_cVL (av := []) (st := []) (pc := 1252) dL_law_1252 kl_RL_166 rfl (gz_shs c_396) rfl rfl (Nat.le_of_ble_eq_true rfl) (by show d + 12 + 0 + 1 ≤ d + 13; omega) (sX8_upper (d := d + 12) (gz_gc hf)) (fun y_395 h_394 hf => ?_)
        refine gz_aload_n (pc := 1255) dL_law_1255 rfl rfl ?_
        refine gz_gk hf (fun c_399 hf => ?_)
        refine gz_cVL (av := []) (st := [.long y_395]) (pc := 1256) dL_law_1256 kl_RL_170 rfl (gz_shs c_399) rfl rfl (Nat.le_of_ble_eq_true rfl) (by show d + 12 + 0 + 1 ≤ d + 13; omega) (sX9_upper (d := d + 12) (gz_gc hf)) (fun y_398 h_397 hf => ?_)
        refine gz_lcmp (pc := 1259) dL_law_1259 ?_
        refine gz_if_eq (tgt := 1352) (pc := 1260) dL_law_1260 rfl (fun c_400 => ?_) (fun c_400 => ?_)
        · have hf := gz_gT hf c_400
          exact sL_law_1352 ih a1 a2 x3 h_397 hf
        · have hf := gz_gF hf c_400
          refine gz_iconst (v := (0 : Int32)) (pc := 1263) dL_law_1263 rfl ?_
          refine gz_gk hf (fun c_401 hf => ?_)
          exact gz_iretA (pc := 1264) dL_law_1264 rfl rfl (gz_dcs c_401).1 (gz_dcs c_401).2 hf
      have hf := gz_gF hf c_393
      by_cases c_402 : y_4 = (38 : Int32)
      · have hf := gz_gT hf c_402
        refine gz_tIn (off := 1232) (tgt := 1265) (pc := 33) dL_law_33 (by rw [c_402]; decide) (by rw [c_402]; decide) (by rw [c_402]; decide) rfl ?_
        refine gz_aload_n (pc := 1265) dL_law_1265 rfl rfl ?_
        refine gz_gk hf (fun c_405 hf => ?_)
        refine gz_cVL (av := []) (st := []) (pc := 1266) dL_law_1266 kl_RL_171 rfl (gz_shs c_405) rfl rfl (Nat.le_of_ble_eq_true rfl) (by show d + 12 + 0 + 1 ≤ d + 13; omega) (sX8_lower (d := d + 12) (gz_gc hf)) (fun y_404 h_403 hf => ?_)
        refine gz_aload_n (pc := 1269) dL_law_1269 rfl rfl ?_
        refine gz_gk hf (fun c_408 hf => ?_)
        refine gz_cVL (av := []) (st := [.long y_404]) (pc := 1270) dL_law_1270 kl_RL_174 rfl (gz_shs c_408) rfl rfl (Nat.le_of_ble_eq_true rfl) (by show d + 12 + 0 + 1 ≤ d + 13; omega) (sX9_lower (d := d + 12) (gz_gc hf)) (fun y_407 h_406 hf => ?_)
        refine gz_lcmp (pc := 1273) dL_law_1273 ?_
        refine gz_if_eq (tgt := 1352) (pc := 1274) dL_law_1274 rfl (fun c_409 => ?_) (fun c_409 => ?_)
        · have hf := gz_gT hf c_409
          exact sL_law_1352 ih a1 a2 x3 h_406 hf
        · have hf := gz_gF hf c_409
          refine gz_iconst (v := (0 : Int32)) (pc := 1277) dL_law_1277 rfl ?_
          refine gz_gk hf (fun c_410 hf => ?_)
          exact gz_iretA (pc := 1278) dL_law_1278 rfl rfl (gz_dcs c_410).1 (gz_dcs c_410).2 hf
      have hf := gz_gF hf c_402
      by_cases c_411 : y_4 = (39 : Int32)
      · have hf := gz_gT hf c_411
        refine gz_tIn (off := 1246) (tgt := 1279) (pc := 33) dL_law_33 (by rw [c_411]; decide) (by rw [c_411]; decide) (by rw [c_411]; decide) rfl ?_
        refine gz_aload_n (pc := 1279) dL_law_1279 rfl rfl ?_
        refine gz_aload_n (pc := 1280) dL_law_1280 rfl rfl ?_
        refine gz_iload_n (pc := 1281) dL_law_1281 rfl rfl ?_
        refine gz_iconst (v := (1 : Int32)) (pc := 1282) dL_law_1282 rfl ?_
        refine gz_iadd (pc := 1283) dL_law_1283 ?_
        refine gz_gk hf (fun c_412 hf => ?_)
        refine gz_sld (pc := 1284) dL_law_1284 c_412 ?_
        refine gz_gk hf (fun c_415 hf => ?_)
        refine gz_cVI (av := [.int (G.2.2.2.2.1 (x3 + (1 : Int32)).toNatClampNeg)]) (st := []) (pc := 1285) dL_law_1285 kl_RL_175 rfl (gz_shs c_415) rfl rfl (Nat.le_of_ble_eq_true rfl) (by show d + 9 + 3 + 1 ≤ d + 13; omega) (sX8_count (d := d + 9) (gz_gc hf)) (fun y_414 h_413 hf => ?_)
        refine gz_aload_n (pc := 1288) dL_law_1288 rfl rfl ?_
        refine gz_aload_n (pc := 1289) dL_law_1289 rfl rfl ?_
        refine gz_iload_n (pc := 1290) dL_law_1290 rfl rfl ?_
        refine gz_iconst (v := (1 : Int32)) (pc := 1291) dL_law_1291 rfl ?_
        refine gz_iadd (pc := 1292) dL_law_1292 ?_
        refine gz_sld (pc := 1293) dL_law_1293 c_412 ?_
        refine gz_gk hf (fun c_418 hf => ?_)
        refine gz_cVI (av := [.int (G.2.2.2.2.1 (x3 + (1 : Int32)).toNatClampNeg)]) (st := [.int y_414]) (pc := 1294) dL_law_1294 kl_RL_178 rfl (gz_shs c_418) rfl rfl (Nat.le_of_ble_eq_true rfl) (by show d + 9 + 3 + 1 ≤ d + 13; omega) (sX9_count (d := d + 9) (gz_gc hf)) (fun y_417 h_416 hf => ?_)
        refine gz_icmp_eq (tgt := 1352) (pc := 1297) dL_law_1297 rfl (fun c_419 => ?_) (fun c_419 => ?_)
        · have hf := gz_gT hf c_419
          exact sL_law_1352 ih a1 a2 x3 h_416 hf
        · have hf := gz_gF hf c_419
          refine gz_iconst (v := (0 : Int32)) (pc := 1300) dL_law_1300 rfl ?_
          refine gz_gk hf (fun c_420 hf => ?_)
          exact gz_iretA (pc := 1301) dL_law_1301 rfl rfl (gz_dcs c_420).1 (gz_dcs c_420).2 hf
      have hf := gz_gF hf c_411
      by_cases c_421 : y_4 = (40 : Int32)
      · have hf := gz_gT hf c_421
        refine gz_tIn (off := 1269) (tgt := 1302) (pc := 33) dL_law_33 (by rw [c_421]; decide) (by rw [c_421]; decide) (by rw [c_421]; decide) rfl ?_
        refine gz_aload_n (pc := 1302) dL_law_1302 rfl rfl ?_
        refine gz_gk hf (fun c_424 hf => ?_)
        refine gz_cVI (av := []) (st := []) (pc := 1303) dL_law_1303 kl_RL_179 rfl (gz_shs c_424) rfl rfl (Nat.le_of_ble_eq_true rfl) (by show d + 12 + 0 + 1 ≤ d + 13; omega) (sX8_finding (d := d + 12) (gz_gc hf)) (fun y_423 h_422 hf => ?_)
        refine gz_aload_n (pc := 1306) dL_law_1306 rfl rfl ?_
        refine gz_gk hf (fun c_427 hf => ?_)
        refine gz_cVI (av := []) (st := [.int y_423]) (pc := 1307) dL_law_1307 kl_RL_182 rfl (gz_shs c_427) rfl rfl (Nat.le_of_ble_eq_true rfl) (by show d + 12 + 0 + 1 ≤ d + 13; omega) (sX9_finding (d := d + 12) (gz_gc hf)) (fun y_426 h_425 hf => ?_)
        refine gz_icmp_eq (tgt := 1352) (pc := 1310) dL_law_1310 rfl (fun c_428 => ?_) (fun c_428 => ?_)
        · have hf := gz_gT hf c_428
          exact sL_law_1352 ih a1 a2 x3 h_425 hf
        · have hf := gz_gF hf c_428
          refine gz_iconst (v := (0 : Int32)) (pc := 1313) dL_law_1313 rfl ?_
          refine gz_gk hf (fun c_429 hf => ?_)
          exact gz_iretA (pc := 1314) dL_law_1314 rfl rfl (gz_dcs c_429).1 (gz_dcs c_429).2 hf
      have hf := gz_gF hf c_421
      by_cases c_430 : y_4 = (41 : Int32)
      · have hf := gz_gT hf c_430
        refine gz_tIn (off := 1282) (tgt := 1315) (pc := 33) dL_law_33 (by rw [c_430]; decide) (by rw [c_430]; decide) (by rw [c_430]; decide) rfl ?_
        refine gz_aload_n (pc := 1315) dL_law_1315 rfl rfl ?_
        refine gz_aload_n (pc := 1316) dL_law_1316 rfl rfl ?_
        refine gz_iload_n (pc := 1317) dL_law_1317 rfl rfl ?_
        refine gz_iconst (v := (1 : Int32)) (pc := 1318) dL_law_1318 rfl ?_
        refine gz_iadd (pc := 1319) dL_law_1319 ?_
        refine gz_gk hf (fun c_431 hf => ?_)
        refine gz_sld (pc := 1320) dL_law_1320 c_431 ?_
        refine gz_gk hf (fun c_434 hf => ?_)
        refine gz_cVI (av := [.int (G.2.2.2.2.1 (x3 + (1 : Int32)).toNatClampNeg)]) (st := []) (pc := 1321) dL_law_1321 kl_RL_183 rfl (gz_shs c_434) rfl rfl (Nat.le_of_ble_eq_true rfl) (by show d + 12 + 0 + 1 ≤ d + 13; omega) (sX8_findings (d := d + 12) (gz_gc hf)) (fun y_433 h_432 hf => ?_)
        refine gz_aload_n (pc := 1324) dL_law_1324 rfl rfl ?_
        refine gz_aload_n (pc := 1325) dL_law_1325 rfl rfl ?_
        refine gz_iload_n (pc := 1326) dL_law_1326 rfl rfl ?_
        refine gz_iconst (v := (1 : Int32)) (pc := 1327) dL_law_1327 rfl ?_
        refine gz_iadd (pc := 1328) dL_law_1328 ?_
        refine gz_sld (pc := 1329) dL_law_1329 c_431 ?_
        refine gz_gk hf (fun c_437 hf => ?_)
        refine gz_cVI (av := [.int (G.2.2.2.2.1 (x3 + (1 : Int32)).toNatClampNeg)]) (st := [.int y_433]) (pc := 1330) dL_law_1330 kl_RL_186 rfl (gz_shs c_437) rfl rfl (Nat.le_of_ble_eq_true rfl) (by show d + 11 + 1 + 1 ≤ d + 13; omega) (sX9_findings (d := d + 11) (gz_gc hf)) (fun y_436 h_435 hf => ?_)
        refine gz_icmp_eq (tgt := 1352) (pc := 1333) dL_law_1333 rfl (fun c_438 => ?_) (fun c_438 => ?_)
        · have hf := gz_gT hf c_438
          exact sL_law_1352 ih a1 a2 x3 h_435 hf
        · have hf := gz_gF hf c_438
          refine gz_iconst (v := (0 : Int32)) (pc := 1336) dL_law_1336 rfl ?_
          refine gz_gk hf (fun c_439 hf => ?_)
          exact gz_iretA (pc := 1337) dL_law_1337 rfl rfl (gz_dcs c_439).1 (gz_dcs c_439).2 hf
      have hf := gz_gF hf c_430
      by_cases c_440 : y_4 = (42 : Int32)
      · have hf := gz_gT hf c_440
        refine gz_tIn (off := 1305) (tgt := 1338) (pc := 33) dL_law_33 (by rw [c_440]; decide) (by rw [c_440]; decide) (by rw [c_440]; decide) rfl ?_
        refine gz_aload_n (pc := 1338) dL_law_1338 rfl rfl ?_
        refine gz_gk hf (fun c_443 hf => ?_)
        refine gz_cVL (av := []) (st := []) (pc := 1339) dL_law_1339 kl_RL_187 rfl (gz_shs c_443) rfl rfl (Nat.le_of_ble_eq_true rfl) (by show d + 8 + 4 + 1 ≤ d + 13; omega) (sX8_digest (d := d + 8) (gz_gc hf)) (fun y_442 h_441 hf => ?_)
        refine gz_aload_n (pc := 1342) dL_law_1342 rfl rfl ?_
        refine gz_gk hf (fun c_446 hf => ?_)
        refine gz_cVL (av := []) (st := [.long y_442]) (pc := 1343) dL_law_1343 kl_RL_190 rfl (gz_shs c_446) rfl rfl (Nat.le_of_ble_eq_true rfl) (by show d + 9 + 3 + 1 ≤ d + 13; omega) (sX9_digest (d := d + 9) (gz_gc hf)) (fun y_445 h_444 hf => ?_)
        refine gz_lcmp (pc := 1346) dL_law_1346 ?_
        refine gz_if_eq (tgt := 1352) (pc := 1347) dL_law_1347 rfl (fun c_447 => ?_) (fun c_447 => ?_)
        · have hf := gz_gT hf c_447
          exact sL_law_1352 ih a1 a2 x3 h_444 hf
        · have hf := gz_gF hf c_447
          refine gz_iconst (v := (0 : Int32)) (pc := 1350) dL_law_1350 rfl ?_
          refine gz_gk hf (fun c_448 hf => ?_)
          exact gz_iretA (pc := 1351) dL_law_1351 rfl rfl (gz_dcs c_448).1 (gz_dcs c_448).2 hf
      have hf := gz_gF hf c_440
      refine gz_tOut (tgt := 1352) (pc := 33) dL_law_33 (gz_tout 43 (fun k hk => match k, hk with | 0, _ => c_5 | 1, _ => c_16 | 2, _ => c_28 | 3, _ => c_39 | 4, _ => c_49 | 5, _ => c_63 | 6, _ => c_73 | 7, _ => c_84 | 8, _ => c_96 | 9, _ => c_106 | 10, _ => c_116 | 11, _ => c_127 | 12, _ => c_138 | 13, _ => c_148 | 14, _ => c_159 | 15, _ => c_169 | 16, _ => c_180 | 17, _ => c_191 | 18, _ => c_201 | 19, _ => c_211 | 20, _ => c_221 | 21, _ => c_232 | 22, _ => c_242 | 23, _ => c_252 | 24, _ => c_261 | 25, _ => c_270 | 26, _ => c_282 | 27, _ => c_292 | 28, _ => c_302 | 29, _ => c_311 | 30, _ => c_320 | 31, _ => c_330 | 32, _ => c_341 | 33, _ => c_352 | 34, _ => c_363 | 35, _ => c_373 | 36, _ => c_384 | 37, _ => c_393 | 38, _ => c_402 | 39, _ => c_411 | 40, _ => c_421 | 41, _ => c_430 | 42, _ => c_440 | k + 43, hk => absurd hk (by omega))) rfl ?_
      exact sL_law_1352 ih a1 a2 x3 h hf
def fL_law_0 (G : gz_G) (l0 s0 mc ms : Nat)  (h : gz_H) : Option (Int32 × gz_H) :=
    gz_ck (gz_dc (h.1.length < 999999 ∧ (h.1.length + 1 ≤ l0 + mc ∧ gz_ss h.1 + 19 ≤ s0 + ms))) <|
    gz_lt (gz_al h (8, 19)) fun h_2 =>
    gz_ck (gz_dc (h_2.1.length + 84 ≤ l0 + mc ∧ gz_ss h_2.1 + 1419 ≤ s0 + ms)) <|
    gz_b2 (fX8_init 84 1419 h.1.length h_2) fun _ h_3 =>
    gz_ck (gz_dc (h_3.1.length < 999999 ∧ (h_3.1.length + 1 ≤ l0 + mc ∧ gz_ss h_3.1 + 29 ≤ s0 + ms))) <|
    gz_lt (gz_al h_3 (9, 29)) fun h_7 =>
    gz_ck (gz_dc (h_7.1.length + 17 ≤ l0 + mc ∧ gz_ss h_7.1 + 10006 ≤ s0 + ms)) <|
    gz_b2 (fX9_init 17 10006 h_3.1.length h_7) fun _ h_8 =>
    fL_law_18 G l0 s0 mc ms gz_fu h.1.length h_3.1.length (0 : Int32) h_8
set_option maxRecDepth 100000 in
set_option maxHeartbeats 1000000 in
theorem sL_law_0 {G : gz_G} {d l0 s0 mc ms : Nat} {Q : Int32 → gz_H → Prop}  (h : gz_H) (hf : gz_g (fL_law_0 G l0 s0 mc ms  h) Q) : gz_Ok G mL_law (d + 13, l0, s0, mc, ms) 0 [.ref 1000000, .retAddr 0, .retAddr 0, .retAddr 0] [] h (gz_qi Q) := by
  unfold fL_law_0 at hf
  refine gz_gk hf (fun c_1 hf => ?_)
  refine gz_new (pc := 0) dL_law_0 kn_RL_7 (gz_dcs c_1).1 (gz_dcs c_1).2 ?_
  refine gz_nmH (fun h_2 eh_2 => ?_)
  have hf := gz_gl eh_2 hf
  refine gz_dup (pc := 3) dL_law_3 rfl ?_
  refine gz_gk hf (fun c_5 hf => ?_)
  refine gz_cIV (av := []) (st := [.ref h.1.length]) (pc := 4) dL_law_4 kl_RL_9 rfl rfl (Nat.le_of_ble_eq_true rfl) (by show d + 9 + 3 + 1 ≤ d + 13; omega) (gz_dcs c_5) (sX8_init (d := d + 9) (mc := 84) (ms := 1419) (gz_gc hf)) (fun _ h_3 hf => ?_)
  refine gz_astore_n (lv := [.ref 1000000, .ref h.1.length, .retAddr 0, .retAddr 0]) (pc := 7) dL_law_7 rfl (by decide) rfl ?_
  refine gz_gk hf (fun c_6 hf => ?_)
  refine gz_new (pc := 8) dL_law_8 kn_RL_10 (gz_dcs c_6).1 (gz_dcs c_6).2 ?_
  refine gz_nmH (fun h_7 eh_7 => ?_)
  have hf := gz_gl eh_7 hf
  refine gz_dup (pc := 11) dL_law_11 rfl ?_
  refine gz_gk hf (fun c_10 hf => ?_)
  refine gz_cIV (av := []) (st := [.ref h_3.1.length]) (pc := 12) dL_law_12 kl_RL_12 rfl rfl (Nat.le_of_ble_eq_true rfl) (by show d + 11 + 1 + 1 ≤ d + 13; omega) (gz_dcs c_10) (sX9_init (d := d + 11) (mc := 17) (ms := 10006) (gz_gc hf)) (fun _ h_8 hf => ?_)
  refine gz_astore_n (lv := [.ref 1000000, .ref h.1.length, .ref h_3.1.length, .retAddr 0]) (pc := 15) dL_law_15 rfl (by decide) rfl ?_
  refine gz_iconst (v := (0 : Int32)) (pc := 16) dL_law_16 rfl ?_
  refine gz_istore_n (lv := [.ref 1000000, .ref h.1.length, .ref h_3.1.length, .int (0 : Int32)]) (pc := 17) dL_law_17 rfl (by decide) rfl ?_
  exact sL_law_18 gz_fu h.1.length h_3.1.length (0 : Int32) h_8 hf
