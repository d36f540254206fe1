theorem dL_law_0 : decode cL_law 0 = .ok (.new 7, 3) := by decide +kernel
theorem dL_law_3 : decode cL_law 3 = .ok (.dup, 1) := by decide +kernel
theorem dL_law_4 : decode cL_law 4 = .ok (.invokespecial 9, 3) := by decide +kernel
theorem dL_law_7 : decode cL_law 7 = .ok (.astore_n 1, 1) := by decide +kernel
theorem dL_law_8 : decode cL_law 8 = .ok (.new 10, 3) := by decide +kernel
theorem dL_law_11 : decode cL_law 11 = .ok (.dup, 1) := by decide +kernel
theorem dL_law_12 : decode cL_law 12 = .ok (.invokespecial 12, 3) := by decide +kernel
theorem dL_law_15 : decode cL_law 15 = .ok (.astore_n 2, 1) := by decide +kernel
theorem dL_law_16 : decode cL_law 16 = .ok (.iconst 0, 1) := by decide +kernel
theorem dL_law_17 : decode cL_law 17 = .ok (.istore_n 3, 1) := by decide +kernel
theorem dL_law_18 : decode cL_law 18 = .ok (.iload_n 3, 1) := by decide +kernel
theorem dL_law_19 : decode cL_law 19 = .ok (.aload_n 0, 1) := by decide +kernel
theorem dL_law_20 : decode cL_law 20 = .ok (.arraylength, 1) := by decide +kernel
theorem dL_law_21 : decode cL_law 21 = .ok (.bipush 6, 2) := by decide +kernel
theorem dL_law_23 : decode cL_law 23 = .ok (.isub, 1) := by decide +kernel
theorem dL_law_24 : decode cL_law 24 = .ok (.if_icmp .gt 1516, 3) := by decide +kernel
theorem dL_law_27 : decode cL_law 27 = .ok (.aload_n 0, 1) := by decide +kernel
theorem dL_law_28 : decode cL_law 28 = .ok (.iload_n 3, 1) := by decide +kernel
theorem dL_law_29 : decode cL_law 29 = .ok (.iaload, 1) := by decide +kernel
theorem dL_law_30 : decode cL_law 30 = .ok (.bipush 63, 2) := by decide +kernel
theorem dL_law_32 : decode cL_law 32 = .ok (.iand, 1) := by decide +kernel
theorem dL_law_33 : decode cL_law 33 = .ok (.tableswitch 1501 0 41 #[183, 246, 269, 282, 295, 318, 341, 374, 417, 460, 493, 526, 549, 572, 621, 670, 693, 736, 769, 802, 815, 828, 851, 894, 927, 970, 1013, 1046, 1089, 1122, 1135, 1168, 1201, 1234, 1257, 1300, 1333, 1376, 1409, 1442, 1455, 1478], 183) := by decide +kernel
theorem dL_law_216 : decode cL_law 216 = .ok (.aload_n 1, 1) := by decide +kernel
theorem dL_law_217 : decode cL_law 217 = .ok (.aload_n 0, 1) := by decide +kernel
theorem dL_law_218 : decode cL_law 218 = .ok (.iload_n 3, 1) := by decide +kernel
theorem dL_law_219 : decode cL_law 219 = .ok (.iconst 1, 1) := by decide +kernel
theorem dL_law_220 : decode cL_law 220 = .ok (.iadd, 1) := by decide +kernel
theorem dL_law_221 : decode cL_law 221 = .ok (.iaload, 1) := by decide +kernel
theorem dL_law_222 : decode cL_law 222 = .ok (.aload_n 0, 1) := by decide +kernel
theorem dL_law_223 : decode cL_law 223 = .ok (.iload_n 3, 1) := by decide +kernel
theorem dL_law_224 : decode cL_law 224 = .ok (.iconst 2, 1) := by decide +kernel
theorem dL_law_225 : decode cL_law 225 = .ok (.iadd, 1) := by decide +kernel
theorem dL_law_226 : decode cL_law 226 = .ok (.iaload, 1) := by decide +kernel
theorem dL_law_227 : decode cL_law 227 = .ok (.aload_n 0, 1) := by decide +kernel
theorem dL_law_228 : decode cL_law 228 = .ok (.iload_n 3, 1) := by decide +kernel
theorem dL_law_229 : decode cL_law 229 = .ok (.iconst 3, 1) := by decide +kernel
theorem dL_law_230 : decode cL_law 230 = .ok (.iadd, 1) := by decide +kernel
theorem dL_law_231 : decode cL_law 231 = .ok (.iaload, 1) := by decide +kernel
theorem dL_law_232 : decode cL_law 232 = .ok (.aload_n 0, 1) := by decide +kernel
theorem dL_law_233 : decode cL_law 233 = .ok (.iload_n 3, 1) := by decide +kernel
theorem dL_law_234 : decode cL_law 234 = .ok (.iconst 4, 1) := by decide +kernel
theorem dL_law_235 : decode cL_law 235 = .ok (.iadd, 1) := by decide +kernel
theorem dL_law_236 : decode cL_law 236 = .ok (.iaload, 1) := by decide +kernel
theorem dL_law_237 : decode cL_law 237 = .ok (.aload_n 0, 1) := by decide +kernel
theorem dL_law_238 : decode cL_law 238 = .ok (.iload_n 3, 1) := by decide +kernel
theorem dL_law_239 : decode cL_law 239 = .ok (.iconst 5, 1) := by decide +kernel
theorem dL_law_240 : decode cL_law 240 = .ok (.iadd, 1) := by decide +kernel
theorem dL_law_241 : decode cL_law 241 = .ok (.iaload, 1) := by decide +kernel
theorem dL_law_242 : decode cL_law 242 = .ok (.invokevirtual 13, 3) := by decide +kernel
theorem dL_law_245 : decode cL_law 245 = .ok (.pop, 1) := by decide +kernel
theorem dL_law_246 : decode cL_law 246 = .ok (.aload_n 2, 1) := by decide +kernel
theorem dL_law_247 : decode cL_law 247 = .ok (.aload_n 0, 1) := by decide +kernel
theorem dL_law_248 : decode cL_law 248 = .ok (.iload_n 3, 1) := by decide +kernel
theorem dL_law_249 : decode cL_law 249 = .ok (.iconst 1, 1) := by decide +kernel
theorem dL_law_250 : decode cL_law 250 = .ok (.iadd, 1) := by decide +kernel
theorem dL_law_251 : decode cL_law 251 = .ok (.iaload, 1) := by decide +kernel
theorem dL_law_252 : decode cL_law 252 = .ok (.aload_n 0, 1) := by decide +kernel
theorem dL_law_253 : decode cL_law 253 = .ok (.iload_n 3, 1) := by decide +kernel
theorem dL_law_254 : decode cL_law 254 = .ok (.iconst 2, 1) := by decide +kernel
theorem dL_law_255 : decode cL_law 255 = .ok (.iadd, 1) := by decide +kernel
theorem dL_law_256 : decode cL_law 256 = .ok (.iaload, 1) := by decide +kernel
theorem dL_law_257 : decode cL_law 257 = .ok (.aload_n 0, 1) := by decide +kernel
theorem dL_law_258 : decode cL_law 258 = .ok (.iload_n 3, 1) := by decide +kernel
theorem dL_law_259 : decode cL_law 259 = .ok (.iconst 3, 1) := by decide +kernel
theorem dL_law_260 : decode cL_law 260 = .ok (.iadd, 1) := by decide +kernel
theorem dL_law_261 : decode cL_law 261 = .ok (.iaload, 1) := by decide +kernel
theorem dL_law_262 : decode cL_law 262 = .ok (.aload_n 0, 1) := by decide +kernel
theorem dL_law_263 : decode cL_law 263 = .ok (.iload_n 3, 1) := by decide +kernel
theorem dL_law_264 : decode cL_law 264 = .ok (.iconst 4, 1) := by decide +kernel
theorem dL_law_265 : decode cL_law 265 = .ok (.iadd, 1) := by decide +kernel
theorem dL_law_266 : decode cL_law 266 = .ok (.iaload, 1) := by decide +kernel
theorem dL_law_267 : decode cL_law 267 = .ok (.aload_n 0, 1) := by decide +kernel
theorem dL_law_268 : decode cL_law 268 = .ok (.iload_n 3, 1) := by decide +kernel
theorem dL_law_269 : decode cL_law 269 = .ok (.iconst 5, 1) := by decide +kernel
theorem dL_law_270 : decode cL_law 270 = .ok (.iadd, 1) := by decide +kernel
theorem dL_law_271 : decode cL_law 271 = .ok (.iaload, 1) := by decide +kernel
theorem dL_law_272 : decode cL_law 272 = .ok (.invokevirtual 17, 3) := by decide +kernel
theorem dL_law_275 : decode cL_law 275 = .ok (.pop, 1) := by decide +kernel
theorem dL_law_276 : decode cL_law 276 = .ok (.goto 1258, 3) := by decide +kernel
theorem dL_law_279 : decode cL_law 279 = .ok (.aload_n 1, 1) := by decide +kernel
theorem dL_law_280 : decode cL_law 280 = .ok (.aload_n 0, 1) := by decide +kernel
theorem dL_law_281 : decode cL_law 281 = .ok (.iload_n 3, 1) := by decide +kernel
theorem dL_law_282 : decode cL_law 282 = .ok (.iconst 1, 1) := by decide +kernel
theorem dL_law_283 : decode cL_law 283 = .ok (.iadd, 1) := by decide +kernel
theorem dL_law_284 : decode cL_law 284 = .ok (.iaload, 1) := by decide +kernel
theorem dL_law_285 : decode cL_law 285 = .ok (.invokevirtual 18, 3) := by decide +kernel
theorem dL_law_288 : decode cL_law 288 = .ok (.pop, 1) := by decide +kernel
theorem dL_law_289 : decode cL_law 289 = .ok (.aload_n 2, 1) := by decide +kernel
theorem dL_law_290 : decode cL_law 290 = .ok (.aload_n 0, 1) := by decide +kernel
theorem dL_law_291 : decode cL_law 291 = .ok (.iload_n 3, 1) := by decide +kernel
theorem dL_law_292 : decode cL_law 292 = .ok (.iconst 1, 1) := by decide +kernel
theorem dL_law_293 : decode cL_law 293 = .ok (.iadd, 1) := by decide +kernel
theorem dL_law_294 : decode cL_law 294 = .ok (.iaload, 1) := by decide +kernel
theorem dL_law_295 : decode cL_law 295 = .ok (.invokevirtual 22, 3) := by decide +kernel
theorem dL_law_298 : decode cL_law 298 = .ok (.pop, 1) := by decide +kernel
theorem dL_law_299 : decode cL_law 299 = .ok (.goto 1235, 3) := by decide +kernel
theorem dL_law_302 : decode cL_law 302 = .ok (.aload_n 1, 1) := by decide +kernel
theorem dL_law_303 : decode cL_law 303 = .ok (.invokevirtual 23, 3) := by decide +kernel
theorem dL_law_306 : decode cL_law 306 = .ok (.pop, 1) := by decide +kernel
theorem dL_law_307 : decode cL_law 307 = .ok (.aload_n 2, 1) := by decide +kernel
theorem dL_law_308 : decode cL_law 308 = .ok (.invokevirtual 27, 3) := by decide +kernel
theorem dL_law_311 : decode cL_law 311 = .ok (.pop, 1) := by decide +kernel
theorem dL_law_312 : decode cL_law 312 = .ok (.goto 1222, 3) := by decide +kernel
theorem dL_law_315 : decode cL_law 315 = .ok (.aload_n 1, 1) := by decide +kernel
theorem dL_law_316 : decode cL_law 316 = .ok (.invokevirtual 28, 3) := by decide +kernel
theorem dL_law_319 : decode cL_law 319 = .ok (.pop, 1) := by decide +kernel
theorem dL_law_320 : decode cL_law 320 = .ok (.aload_n 2, 1) := by decide +kernel
theorem dL_law_321 : decode cL_law 321 = .ok (.invokevirtual 31, 3) := by decide +kernel
theorem dL_law_324 : decode cL_law 324 = .ok (.pop, 1) := by decide +kernel
theorem dL_law_325 : decode cL_law 325 = .ok (.goto 1209, 3) := by decide +kernel
theorem dL_law_328 : decode cL_law 328 = .ok (.aload_n 1, 1) := by decide +kernel
theorem dL_law_329 : decode cL_law 329 = .ok (.aload_n 0, 1) := by decide +kernel
theorem dL_law_330 : decode cL_law 330 = .ok (.iload_n 3, 1) := by decide +kernel
theorem dL_law_331 : decode cL_law 331 = .ok (.iconst 1, 1) := by decide +kernel
theorem dL_law_332 : decode cL_law 332 = .ok (.iadd, 1) := by decide +kernel
theorem dL_law_333 : decode cL_law 333 = .ok (.iaload, 1) := by decide +kernel
theorem dL_law_334 : decode cL_law 334 = .ok (.invokevirtual 32, 3) := by decide +kernel
theorem dL_law_337 : decode cL_law 337 = .ok (.pop, 1) := by decide +kernel
theorem dL_law_338 : decode cL_law 338 = .ok (.aload_n 2, 1) := by decide +kernel
theorem dL_law_339 : decode cL_law 339 = .ok (.aload_n 0, 1) := by decide +kernel
theorem dL_law_340 : decode cL_law 340 = .ok (.iload_n 3, 1) := by decide +kernel
theorem dL_law_341 : decode cL_law 341 = .ok (.iconst 1, 1) := by decide +kernel
theorem dL_law_342 : decode cL_law 342 = .ok (.iadd, 1) := by decide +kernel
theorem dL_law_343 : decode cL_law 343 = .ok (.iaload, 1) := by decide +kernel
theorem dL_law_344 : decode cL_law 344 = .ok (.invokevirtual 36, 3) := by decide +kernel
theorem dL_law_347 : decode cL_law 347 = .ok (.pop, 1) := by decide +kernel
theorem dL_law_348 : decode cL_law 348 = .ok (.goto 1186, 3) := by decide +kernel
theorem dL_law_351 : decode cL_law 351 = .ok (.aload_n 1, 1) := by decide +kernel
theorem dL_law_352 : decode cL_law 352 = .ok (.aload_n 0, 1) := by decide +kernel
theorem dL_law_353 : decode cL_law 353 = .ok (.iload_n 3, 1) := by decide +kernel
theorem dL_law_354 : decode cL_law 354 = .ok (.iconst 1, 1) := by decide +kernel
theorem dL_law_355 : decode cL_law 355 = .ok (.iadd, 1) := by decide +kernel
theorem dL_law_356 : decode cL_law 356 = .ok (.iaload, 1) := by decide +kernel
theorem dL_law_357 : decode cL_law 357 = .ok (.invokevirtual 37, 3) := by decide +kernel
theorem dL_law_360 : decode cL_law 360 = .ok (.pop, 1) := by decide +kernel
theorem dL_law_361 : decode cL_law 361 = .ok (.aload_n 2, 1) := by decide +kernel
theorem dL_law_362 : decode cL_law 362 = .ok (.aload_n 0, 1) := by decide +kernel
theorem dL_law_363 : decode cL_law 363 = .ok (.iload_n 3, 1) := by decide +kernel
theorem dL_law_364 : decode cL_law 364 = .ok (.iconst 1, 1) := by decide +kernel
theorem dL_law_365 : decode cL_law 365 = .ok (.iadd, 1) := by decide +kernel
theorem dL_law_366 : decode cL_law 366 = .ok (.iaload, 1) := by decide +kernel
theorem dL_law_367 : decode cL_law 367 = .ok (.invokevirtual 40, 3) := by decide +kernel
theorem dL_law_370 : decode cL_law 370 = .ok (.pop, 1) := by decide +kernel
theorem dL_law_371 : decode cL_law 371 = .ok (.goto 1163, 3) := by decide +kernel
theorem dL_law_374 : decode cL_law 374 = .ok (.aload_n 1, 1) := by decide +kernel
theorem dL_law_375 : decode cL_law 375 = .ok (.aload_n 0, 1) := by decide +kernel
theorem dL_law_376 : decode cL_law 376 = .ok (.iload_n 3, 1) := by decide +kernel
theorem dL_law_377 : decode cL_law 377 = .ok (.iconst 1, 1) := by decide +kernel
theorem dL_law_378 : decode cL_law 378 = .ok (.iadd, 1) := by decide +kernel
theorem dL_law_379 : decode cL_law 379 = .ok (.iaload, 1) := by decide +kernel
theorem dL_law_380 : decode cL_law 380 = .ok (.aload_n 0, 1) := by decide +kernel
theorem dL_law_381 : decode cL_law 381 = .ok (.iload_n 3, 1) := by decide +kernel
theorem dL_law_382 : decode cL_law 382 = .ok (.iconst 2, 1) := by decide +kernel
theorem dL_law_383 : decode cL_law 383 = .ok (.iadd, 1) := by decide +kernel
theorem dL_law_384 : decode cL_law 384 = .ok (.iaload, 1) := by decide +kernel
theorem dL_law_385 : decode cL_law 385 = .ok (.invokevirtual 41, 3) := by decide +kernel
theorem dL_law_388 : decode cL_law 388 = .ok (.pop, 1) := by decide +kernel
theorem dL_law_389 : decode cL_law 389 = .ok (.aload_n 2, 1) := by decide +kernel
theorem dL_law_390 : decode cL_law 390 = .ok (.aload_n 0, 1) := by decide +kernel
theorem dL_law_391 : decode cL_law 391 = .ok (.iload_n 3, 1) := by decide +kernel
theorem dL_law_392 : decode cL_law 392 = .ok (.iconst 1, 1) := by decide +kernel
theorem dL_law_393 : decode cL_law 393 = .ok (.iadd, 1) := by decide +kernel
theorem dL_law_394 : decode cL_law 394 = .ok (.iaload, 1) := by decide +kernel
theorem dL_law_395 : decode cL_law 395 = .ok (.aload_n 0, 1) := by decide +kernel
theorem dL_law_396 : decode cL_law 396 = .ok (.iload_n 3, 1) := by decide +kernel
theorem dL_law_397 : decode cL_law 397 = .ok (.iconst 2, 1) := by decide +kernel
theorem dL_law_398 : decode cL_law 398 = .ok (.iadd, 1) := by decide +kernel
theorem dL_law_399 : decode cL_law 399 = .ok (.iaload, 1) := by decide +kernel
theorem dL_law_400 : decode cL_law 400 = .ok (.invokevirtual 45, 3) := by decide +kernel
theorem dL_law_403 : decode cL_law 403 = .ok (.pop, 1) := by decide +kernel
theorem dL_law_404 : decode cL_law 404 = .ok (.goto 1130, 3) := by decide +kernel
theorem dL_law_407 : decode cL_law 407 = .ok (.aload_n 1, 1) := by decide +kernel
theorem dL_law_408 : decode cL_law 408 = .ok (.aload_n 0, 1) := by decide +kernel
theorem dL_law_409 : decode cL_law 409 = .ok (.iload_n 3, 1) := by decide +kernel
theorem dL_law_410 : decode cL_law 410 = .ok (.iconst 1, 1) := by decide +kernel
theorem dL_law_411 : decode cL_law 411 = .ok (.iadd, 1) := by decide +kernel
theorem dL_law_412 : decode cL_law 412 = .ok (.iaload, 1) := by decide +kernel
theorem dL_law_413 : decode cL_law 413 = .ok (.aload_n 0, 1) := by decide +kernel
theorem dL_law_414 : decode cL_law 414 = .ok (.iload_n 3, 1) := by decide +kernel
theorem dL_law_415 : decode cL_law 415 = .ok (.iconst 2, 1) := by decide +kernel
theorem dL_law_416 : decode cL_law 416 = .ok (.iadd, 1) := by decide +kernel
theorem dL_law_417 : decode cL_law 417 = .ok (.iaload, 1) := by decide +kernel
theorem dL_law_418 : decode cL_law 418 = .ok (.aload_n 0, 1) := by decide +kernel
theorem dL_law_419 : decode cL_law 419 = .ok (.iload_n 3, 1) := by decide +kernel
theorem dL_law_420 : decode cL_law 420 = .ok (.iconst 3, 1) := by decide +kernel
theorem dL_law_421 : decode cL_law 421 = .ok (.iadd, 1) := by decide +kernel
theorem dL_law_422 : decode cL_law 422 = .ok (.iaload, 1) := by decide +kernel
theorem dL_law_423 : decode cL_law 423 = .ok (.invokevirtual 46, 3) := by decide +kernel
theorem dL_law_426 : decode cL_law 426 = .ok (.pop, 1) := by decide +kernel
theorem dL_law_427 : decode cL_law 427 = .ok (.aload_n 2, 1) := by decide +kernel
theorem dL_law_428 : decode cL_law 428 = .ok (.aload_n 0, 1) := by decide +kernel
theorem dL_law_429 : decode cL_law 429 = .ok (.iload_n 3, 1) := by decide +kernel
theorem dL_law_430 : decode cL_law 430 = .ok (.iconst 1, 1) := by decide +kernel
theorem dL_law_431 : decode cL_law 431 = .ok (.iadd, 1) := by decide +kernel
theorem dL_law_432 : decode cL_law 432 = .ok (.iaload, 1) := by decide +kernel
theorem dL_law_433 : decode cL_law 433 = .ok (.aload_n 0, 1) := by decide +kernel
theorem dL_law_434 : decode cL_law 434 = .ok (.iload_n 3, 1) := by decide +kernel
theorem dL_law_435 : decode cL_law 435 = .ok (.iconst 2, 1) := by decide +kernel
theorem dL_law_436 : decode cL_law 436 = .ok (.iadd, 1) := by decide +kernel
theorem dL_law_437 : decode cL_law 437 = .ok (.iaload, 1) := by decide +kernel
theorem dL_law_438 : decode cL_law 438 = .ok (.aload_n 0, 1) := by decide +kernel
theorem dL_law_439 : decode cL_law 439 = .ok (.iload_n 3, 1) := by decide +kernel
theorem dL_law_440 : decode cL_law 440 = .ok (.iconst 3, 1) := by decide +kernel
theorem dL_law_441 : decode cL_law 441 = .ok (.iadd, 1) := by decide +kernel
theorem dL_law_442 : decode cL_law 442 = .ok (.iaload, 1) := by decide +kernel
theorem dL_law_443 : decode cL_law 443 = .ok (.invokevirtual 50, 3) := by decide +kernel
theorem dL_law_446 : decode cL_law 446 = .ok (.pop, 1) := by decide +kernel
theorem dL_law_447 : decode cL_law 447 = .ok (.goto 1087, 3) := by decide +kernel
theorem dL_law_450 : decode cL_law 450 = .ok (.aload_n 1, 1) := by decide +kernel
theorem dL_law_451 : decode cL_law 451 = .ok (.aload_n 0, 1) := by decide +kernel
theorem dL_law_452 : decode cL_law 452 = .ok (.iload_n 3, 1) := by decide +kernel
theorem dL_law_453 : decode cL_law 453 = .ok (.iconst 1, 1) := by decide +kernel
theorem dL_law_454 : decode cL_law 454 = .ok (.iadd, 1) := by decide +kernel
theorem dL_law_455 : decode cL_law 455 = .ok (.iaload, 1) := by decide +kernel
theorem dL_law_456 : decode cL_law 456 = .ok (.aload_n 0, 1) := by decide +kernel
theorem dL_law_457 : decode cL_law 457 = .ok (.iload_n 3, 1) := by decide +kernel
theorem dL_law_458 : decode cL_law 458 = .ok (.iconst 2, 1) := by decide +kernel
theorem dL_law_459 : decode cL_law 459 = .ok (.iadd, 1) := by decide +kernel
theorem dL_law_460 : decode cL_law 460 = .ok (.iaload, 1) := by decide +kernel
theorem dL_law_461 : decode cL_law 461 = .ok (.aload_n 0, 1) := by decide +kernel
theorem dL_law_462 : decode cL_law 462 = .ok (.iload_n 3, 1) := by decide +kernel
theorem dL_law_463 : decode cL_law 463 = .ok (.iconst 3, 1) := by decide +kernel
theorem dL_law_464 : decode cL_law 464 = .ok (.iadd, 1) := by decide +kernel
theorem dL_law_465 : decode cL_law 465 = .ok (.iaload, 1) := by decide +kernel
theorem dL_law_466 : decode cL_law 466 = .ok (.invokevirtual 51, 3) := by decide +kernel
theorem dL_law_469 : decode cL_law 469 = .ok (.pop, 1) := by decide +kernel
theorem dL_law_470 : decode cL_law 470 = .ok (.aload_n 2, 1) := by decide +kernel
theorem dL_law_471 : decode cL_law 471 = .ok (.aload_n 0, 1) := by decide +kernel
theorem dL_law_472 : decode cL_law 472 = .ok (.iload_n 3, 1) := by decide +kernel
theorem dL_law_473 : decode cL_law 473 = .ok (.iconst 1, 1) := by decide +kernel
theorem dL_law_474 : decode cL_law 474 = .ok (.iadd, 1) := by decide +kernel
theorem dL_law_475 : decode cL_law 475 = .ok (.iaload, 1) := by decide +kernel
theorem dL_law_476 : decode cL_law 476 = .ok (.aload_n 0, 1) := by decide +kernel
theorem dL_law_477 : decode cL_law 477 = .ok (.iload_n 3, 1) := by decide +kernel
theorem dL_law_478 : decode cL_law 478 = .ok (.iconst 2, 1) := by decide +kernel
theorem dL_law_479 : decode cL_law 479 = .ok (.iadd, 1) := by decide +kernel
theorem dL_law_480 : decode cL_law 480 = .ok (.iaload, 1) := by decide +kernel
theorem dL_law_481 : decode cL_law 481 = .ok (.aload_n 0, 1) := by decide +kernel
theorem dL_law_482 : decode cL_law 482 = .ok (.iload_n 3, 1) := by decide +kernel
theorem dL_law_483 : decode cL_law 483 = .ok (.iconst 3, 1) := by decide +kernel
theorem dL_law_484 : decode cL_law 484 = .ok (.iadd, 1) := by decide +kernel
theorem dL_law_485 : decode cL_law 485 = .ok (.iaload, 1) := by decide +kernel
theorem dL_law_486 : decode cL_law 486 = .ok (.invokevirtual 54, 3) := by decide +kernel
theorem dL_law_489 : decode cL_law 489 = .ok (.pop, 1) := by decide +kernel
theorem dL_law_490 : decode cL_law 490 = .ok (.goto 1044, 3) := by decide +kernel
theorem dL_law_493 : decode cL_law 493 = .ok (.aload_n 1, 1) := by decide +kernel
theorem dL_law_494 : decode cL_law 494 = .ok (.aload_n 0, 1) := by decide +kernel
theorem dL_law_495 : decode cL_law 495 = .ok (.iload_n 3, 1) := by decide +kernel
theorem dL_law_496 : decode cL_law 496 = .ok (.iconst 1, 1) := by decide +kernel
theorem dL_law_497 : decode cL_law 497 = .ok (.iadd, 1) := by decide +kernel
theorem dL_law_498 : decode cL_law 498 = .ok (.iaload, 1) := by decide +kernel
theorem dL_law_499 : decode cL_law 499 = .ok (.aload_n 0, 1) := by decide +kernel
theorem dL_law_500 : decode cL_law 500 = .ok (.iload_n 3, 1) := by decide +kernel
theorem dL_law_501 : decode cL_law 501 = .ok (.iconst 2, 1) := by decide +kernel
theorem dL_law_502 : decode cL_law 502 = .ok (.iadd, 1) := by decide +kernel
theorem dL_law_503 : decode cL_law 503 = .ok (.iaload, 1) := by decide +kernel
theorem dL_law_504 : decode cL_law 504 = .ok (.invokevirtual 55, 3) := by decide +kernel
theorem dL_law_507 : decode cL_law 507 = .ok (.pop, 1) := by decide +kernel
theorem dL_law_508 : decode cL_law 508 = .ok (.aload_n 2, 1) := by decide +kernel
theorem dL_law_509 : decode cL_law 509 = .ok (.aload_n 0, 1) := by decide +kernel
theorem dL_law_510 : decode cL_law 510 = .ok (.iload_n 3, 1) := by decide +kernel
theorem dL_law_511 : decode cL_law 511 = .ok (.iconst 1, 1) := by decide +kernel
theorem dL_law_512 : decode cL_law 512 = .ok (.iadd, 1) := by decide +kernel
theorem dL_law_513 : decode cL_law 513 = .ok (.iaload, 1) := by decide +kernel
theorem dL_law_514 : decode cL_law 514 = .ok (.aload_n 0, 1) := by decide +kernel
theorem dL_law_515 : decode cL_law 515 = .ok (.iload_n 3, 1) := by decide +kernel
theorem dL_law_516 : decode cL_law 516 = .ok (.iconst 2, 1) := by decide +kernel
theorem dL_law_517 : decode cL_law 517 = .ok (.iadd, 1) := by decide +kernel
theorem dL_law_518 : decode cL_law 518 = .ok (.iaload, 1) := by decide +kernel
theorem dL_law_519 : decode cL_law 519 = .ok (.invokevirtual 58, 3) := by decide +kernel
theorem dL_law_522 : decode cL_law 522 = .ok (.pop, 1) := by decide +kernel
theorem dL_law_523 : decode cL_law 523 = .ok (.goto 1011, 3) := by decide +kernel
theorem dL_law_526 : decode cL_law 526 = .ok (.aload_n 1, 1) := by decide +kernel
theorem dL_law_527 : decode cL_law 527 = .ok (.aload_n 0, 1) := by decide +kernel
theorem dL_law_528 : decode cL_law 528 = .ok (.iload_n 3, 1) := by decide +kernel
theorem dL_law_529 : decode cL_law 529 = .ok (.iconst 1, 1) := by decide +kernel
theorem dL_law_530 : decode cL_law 530 = .ok (.iadd, 1) := by decide +kernel
theorem dL_law_531 : decode cL_law 531 = .ok (.iaload, 1) := by decide +kernel
theorem dL_law_532 : decode cL_law 532 = .ok (.aload_n 0, 1) := by decide +kernel
theorem dL_law_533 : decode cL_law 533 = .ok (.iload_n 3, 1) := by decide +kernel
theorem dL_law_534 : decode cL_law 534 = .ok (.iconst 2, 1) := by decide +kernel
theorem dL_law_535 : decode cL_law 535 = .ok (.iadd, 1) := by decide +kernel
theorem dL_law_536 : decode cL_law 536 = .ok (.iaload, 1) := by decide +kernel
theorem dL_law_537 : decode cL_law 537 = .ok (.invokevirtual 59, 3) := by decide +kernel
theorem dL_law_540 : decode cL_law 540 = .ok (.pop, 1) := by decide +kernel
theorem dL_law_541 : decode cL_law 541 = .ok (.aload_n 2, 1) := by decide +kernel
theorem dL_law_542 : decode cL_law 542 = .ok (.aload_n 0, 1) := by decide +kernel
theorem dL_law_543 : decode cL_law 543 = .ok (.iload_n 3, 1) := by decide +kernel
theorem dL_law_544 : decode cL_law 544 = .ok (.iconst 1, 1) := by decide +kernel
theorem dL_law_545 : decode cL_law 545 = .ok (.iadd, 1) := by decide +kernel
theorem dL_law_546 : decode cL_law 546 = .ok (.iaload, 1) := by decide +kernel
theorem dL_law_547 : decode cL_law 547 = .ok (.aload_n 0, 1) := by decide +kernel
theorem dL_law_548 : decode cL_law 548 = .ok (.iload_n 3, 1) := by decide +kernel
theorem dL_law_549 : decode cL_law 549 = .ok (.iconst 2, 1) := by decide +kernel
theorem dL_law_550 : decode cL_law 550 = .ok (.iadd, 1) := by decide +kernel
theorem dL_law_551 : decode cL_law 551 = .ok (.iaload, 1) := by decide +kernel
theorem dL_law_552 : decode cL_law 552 = .ok (.invokevirtual 62, 3) := by decide +kernel
theorem dL_law_555 : decode cL_law 555 = .ok (.pop, 1) := by decide +kernel
theorem dL_law_556 : decode cL_law 556 = .ok (.goto 978, 3) := by decide +kernel
theorem dL_law_559 : decode cL_law 559 = .ok (.aload_n 1, 1) := by decide +kernel
theorem dL_law_560 : decode cL_law 560 = .ok (.aload_n 0, 1) := by decide +kernel
theorem dL_law_561 : decode cL_law 561 = .ok (.iload_n 3, 1) := by decide +kernel
theorem dL_law_562 : decode cL_law 562 = .ok (.iconst 1, 1) := by decide +kernel
theorem dL_law_563 : decode cL_law 563 = .ok (.iadd, 1) := by decide +kernel
theorem dL_law_564 : decode cL_law 564 = .ok (.iaload, 1) := by decide +kernel
theorem dL_law_565 : decode cL_law 565 = .ok (.invokevirtual 63, 3) := by decide +kernel
theorem dL_law_568 : decode cL_law 568 = .ok (.pop, 1) := by decide +kernel
theorem dL_law_569 : decode cL_law 569 = .ok (.aload_n 2, 1) := by decide +kernel
theorem dL_law_570 : decode cL_law 570 = .ok (.aload_n 0, 1) := by decide +kernel
theorem dL_law_571 : decode cL_law 571 = .ok (.iload_n 3, 1) := by decide +kernel
theorem dL_law_572 : decode cL_law 572 = .ok (.iconst 1, 1) := by decide +kernel
theorem dL_law_573 : decode cL_law 573 = .ok (.iadd, 1) := by decide +kernel
theorem dL_law_574 : decode cL_law 574 = .ok (.iaload, 1) := by decide +kernel
theorem dL_law_575 : decode cL_law 575 = .ok (.invokevirtual 66, 3) := by decide +kernel
theorem dL_law_578 : decode cL_law 578 = .ok (.pop, 1) := by decide +kernel
theorem dL_law_579 : decode cL_law 579 = .ok (.goto 955, 3) := by decide +kernel
theorem dL_law_582 : decode cL_law 582 = .ok (.aload_n 1, 1) := by decide +kernel
theorem dL_law_583 : decode cL_law 583 = .ok (.aload_n 0, 1) := by decide +kernel
theorem dL_law_584 : decode cL_law 584 = .ok (.iload_n 3, 1) := by decide +kernel
theorem dL_law_585 : decode cL_law 585 = .ok (.iconst 1, 1) := by decide +kernel
theorem dL_law_586 : decode cL_law 586 = .ok (.iadd, 1) := by decide +kernel
theorem dL_law_587 : decode cL_law 587 = .ok (.iaload, 1) := by decide +kernel
theorem dL_law_588 : decode cL_law 588 = .ok (.invokevirtual 67, 3) := by decide +kernel
theorem dL_law_591 : decode cL_law 591 = .ok (.pop, 1) := by decide +kernel
theorem dL_law_592 : decode cL_law 592 = .ok (.aload_n 2, 1) := by decide +kernel
theorem dL_law_593 : decode cL_law 593 = .ok (.aload_n 0, 1) := by decide +kernel
theorem dL_law_594 : decode cL_law 594 = .ok (.iload_n 3, 1) := by decide +kernel
theorem dL_law_595 : decode cL_law 595 = .ok (.iconst 1, 1) := by decide +kernel
theorem dL_law_596 : decode cL_law 596 = .ok (.iadd, 1) := by decide +kernel
theorem dL_law_597 : decode cL_law 597 = .ok (.iaload, 1) := by decide +kernel
theorem dL_law_598 : decode cL_law 598 = .ok (.invokevirtual 70, 3) := by decide +kernel
theorem dL_law_601 : decode cL_law 601 = .ok (.pop, 1) := by decide +kernel
theorem dL_law_602 : decode cL_law 602 = .ok (.goto 932, 3) := by decide +kernel
theorem dL_law_605 : decode cL_law 605 = .ok (.aload_n 1, 1) := by decide +kernel
theorem dL_law_606 : decode cL_law 606 = .ok (.aload_n 0, 1) := by decide +kernel
theorem dL_law_607 : decode cL_law 607 = .ok (.iload_n 3, 1) := by decide +kernel
theorem dL_law_608 : decode cL_law 608 = .ok (.iconst 1, 1) := by decide +kernel
theorem dL_law_609 : decode cL_law 609 = .ok (.iadd, 1) := by decide +kernel
theorem dL_law_610 : decode cL_law 610 = .ok (.iaload, 1) := by decide +kernel
theorem dL_law_611 : decode cL_law 611 = .ok (.aload_n 0, 1) := by decide +kernel
theorem dL_law_612 : decode cL_law 612 = .ok (.iload_n 3, 1) := by decide +kernel
theorem dL_law_613 : decode cL_law 613 = .ok (.iconst 2, 1) := by decide +kernel
theorem dL_law_614 : decode cL_law 614 = .ok (.iadd, 1) := by decide +kernel
theorem dL_law_615 : decode cL_law 615 = .ok (.iaload, 1) := by decide +kernel
theorem dL_law_616 : decode cL_law 616 = .ok (.ifCond .eq 7, 3) := by decide +kernel
theorem dL_law_619 : decode cL_law 619 = .ok (.iconst 1, 1) := by decide +kernel
theorem dL_law_620 : decode cL_law 620 = .ok (.goto 4, 3) := by decide +kernel
theorem dL_law_623 : decode cL_law 623 = .ok (.iconst 0, 1) := by decide +kernel
theorem dL_law_624 : decode cL_law 624 = .ok (.invokevirtual 71, 3) := by decide +kernel
theorem dL_law_627 : decode cL_law 627 = .ok (.pop, 1) := by decide +kernel
theorem dL_law_628 : decode cL_law 628 = .ok (.aload_n 2, 1) := by decide +kernel
theorem dL_law_629 : decode cL_law 629 = .ok (.aload_n 0, 1) := by decide +kernel
theorem dL_law_630 : decode cL_law 630 = .ok (.iload_n 3, 1) := by decide +kernel
theorem dL_law_631 : decode cL_law 631 = .ok (.iconst 1, 1) := by decide +kernel
theorem dL_law_632 : decode cL_law 632 = .ok (.iadd, 1) := by decide +kernel
theorem dL_law_633 : decode cL_law 633 = .ok (.iaload, 1) := by decide +kernel
theorem dL_law_634 : decode cL_law 634 = .ok (.aload_n 0, 1) := by decide +kernel
theorem dL_law_635 : decode cL_law 635 = .ok (.iload_n 3, 1) := by decide +kernel
theorem dL_law_636 : decode cL_law 636 = .ok (.iconst 2, 1) := by decide +kernel
theorem dL_law_637 : decode cL_law 637 = .ok (.iadd, 1) := by decide +kernel
theorem dL_law_638 : decode cL_law 638 = .ok (.iaload, 1) := by decide +kernel
theorem dL_law_639 : decode cL_law 639 = .ok (.ifCond .eq 7, 3) := by decide +kernel
theorem dL_law_642 : decode cL_law 642 = .ok (.iconst 1, 1) := by decide +kernel
theorem dL_law_643 : decode cL_law 643 = .ok (.goto 4, 3) := by decide +kernel
theorem dL_law_646 : decode cL_law 646 = .ok (.iconst 0, 1) := by decide +kernel
theorem dL_law_647 : decode cL_law 647 = .ok (.invokevirtual 75, 3) := by decide +kernel
theorem dL_law_650 : decode cL_law 650 = .ok (.pop, 1) := by decide +kernel
theorem dL_law_651 : decode cL_law 651 = .ok (.goto 883, 3) := by decide +kernel
theorem dL_law_654 : decode cL_law 654 = .ok (.aload_n 1, 1) := by decide +kernel
theorem dL_law_655 : decode cL_law 655 = .ok (.aload_n 0, 1) := by decide +kernel
theorem dL_law_656 : decode cL_law 656 = .ok (.iload_n 3, 1) := by decide +kernel
theorem dL_law_657 : decode cL_law 657 = .ok (.iconst 1, 1) := by decide +kernel
theorem dL_law_658 : decode cL_law 658 = .ok (.iadd, 1) := by decide +kernel
theorem dL_law_659 : decode cL_law 659 = .ok (.iaload, 1) := by decide +kernel
theorem dL_law_660 : decode cL_law 660 = .ok (.aload_n 0, 1) := by decide +kernel
theorem dL_law_661 : decode cL_law 661 = .ok (.iload_n 3, 1) := by decide +kernel
theorem dL_law_662 : decode cL_law 662 = .ok (.iconst 2, 1) := by decide +kernel
theorem dL_law_663 : decode cL_law 663 = .ok (.iadd, 1) := by decide +kernel
theorem dL_law_664 : decode cL_law 664 = .ok (.iaload, 1) := by decide +kernel
theorem dL_law_665 : decode cL_law 665 = .ok (.ifCond .eq 7, 3) := by decide +kernel
theorem dL_law_668 : decode cL_law 668 = .ok (.iconst 1, 1) := by decide +kernel
theorem dL_law_669 : decode cL_law 669 = .ok (.goto 4, 3) := by decide +kernel
theorem dL_law_672 : decode cL_law 672 = .ok (.iconst 0, 1) := by decide +kernel
theorem dL_law_673 : decode cL_law 673 = .ok (.invokevirtual 76, 3) := by decide +kernel
theorem dL_law_676 : decode cL_law 676 = .ok (.pop, 1) := by decide +kernel
theorem dL_law_677 : decode cL_law 677 = .ok (.aload_n 2, 1) := by decide +kernel
theorem dL_law_678 : decode cL_law 678 = .ok (.aload_n 0, 1) := by decide +kernel
theorem dL_law_679 : decode cL_law 679 = .ok (.iload_n 3, 1) := by decide +kernel
theorem dL_law_680 : decode cL_law 680 = .ok (.iconst 1, 1) := by decide +kernel
theorem dL_law_681 : decode cL_law 681 = .ok (.iadd, 1) := by decide +kernel
theorem dL_law_682 : decode cL_law 682 = .ok (.iaload, 1) := by decide +kernel
theorem dL_law_683 : decode cL_law 683 = .ok (.aload_n 0, 1) := by decide +kernel
theorem dL_law_684 : decode cL_law 684 = .ok (.iload_n 3, 1) := by decide +kernel
theorem dL_law_685 : decode cL_law 685 = .ok (.iconst 2, 1) := by decide +kernel
theorem dL_law_686 : decode cL_law 686 = .ok (.iadd, 1) := by decide +kernel
theorem dL_law_687 : decode cL_law 687 = .ok (.iaload, 1) := by decide +kernel
theorem dL_law_688 : decode cL_law 688 = .ok (.ifCond .eq 7, 3) := by decide +kernel
theorem dL_law_691 : decode cL_law 691 = .ok (.iconst 1, 1) := by decide +kernel
theorem dL_law_692 : decode cL_law 692 = .ok (.goto 4, 3) := by decide +kernel
theorem dL_law_695 : decode cL_law 695 = .ok (.iconst 0, 1) := by decide +kernel
theorem dL_law_696 : decode cL_law 696 = .ok (.invokevirtual 79, 3) := by decide +kernel
theorem dL_law_699 : decode cL_law 699 = .ok (.pop, 1) := by decide +kernel
theorem dL_law_700 : decode cL_law 700 = .ok (.goto 834, 3) := by decide +kernel
theorem dL_law_703 : decode cL_law 703 = .ok (.aload_n 1, 1) := by decide +kernel
theorem dL_law_704 : decode cL_law 704 = .ok (.aload_n 0, 1) := by decide +kernel
theorem dL_law_705 : decode cL_law 705 = .ok (.iload_n 3, 1) := by decide +kernel
theorem dL_law_706 : decode cL_law 706 = .ok (.iconst 1, 1) := by decide +kernel
theorem dL_law_707 : decode cL_law 707 = .ok (.iadd, 1) := by decide +kernel
theorem dL_law_708 : decode cL_law 708 = .ok (.iaload, 1) := by decide +kernel
theorem dL_law_709 : decode cL_law 709 = .ok (.invokevirtual 80, 3) := by decide +kernel
theorem dL_law_712 : decode cL_law 712 = .ok (.pop, 1) := by decide +kernel
theorem dL_law_713 : decode cL_law 713 = .ok (.aload_n 2, 1) := by decide +kernel
theorem dL_law_714 : decode cL_law 714 = .ok (.aload_n 0, 1) := by decide +kernel
theorem dL_law_715 : decode cL_law 715 = .ok (.iload_n 3, 1) := by decide +kernel
theorem dL_law_716 : decode cL_law 716 = .ok (.iconst 1, 1) := by decide +kernel
theorem dL_law_717 : decode cL_law 717 = .ok (.iadd, 1) := by decide +kernel
theorem dL_law_718 : decode cL_law 718 = .ok (.iaload, 1) := by decide +kernel
theorem dL_law_719 : decode cL_law 719 = .ok (.invokevirtual 83, 3) := by decide +kernel
theorem dL_law_722 : decode cL_law 722 = .ok (.pop, 1) := by decide +kernel
theorem dL_law_723 : decode cL_law 723 = .ok (.goto 811, 3) := by decide +kernel
theorem dL_law_726 : decode cL_law 726 = .ok (.aload_n 1, 1) := by decide +kernel
theorem dL_law_727 : decode cL_law 727 = .ok (.aload_n 0, 1) := by decide +kernel
theorem dL_law_728 : decode cL_law 728 = .ok (.iload_n 3, 1) := by decide +kernel
theorem dL_law_729 : decode cL_law 729 = .ok (.iconst 1, 1) := by decide +kernel
theorem dL_law_730 : decode cL_law 730 = .ok (.iadd, 1) := by decide +kernel
theorem dL_law_731 : decode cL_law 731 = .ok (.iaload, 1) := by decide +kernel
theorem dL_law_732 : decode cL_law 732 = .ok (.aload_n 0, 1) := by decide +kernel
theorem dL_law_733 : decode cL_law 733 = .ok (.iload_n 3, 1) := by decide +kernel
theorem dL_law_734 : decode cL_law 734 = .ok (.iconst 2, 1) := by decide +kernel
theorem dL_law_735 : decode cL_law 735 = .ok (.iadd, 1) := by decide +kernel
theorem dL_law_736 : decode cL_law 736 = .ok (.iaload, 1) := by decide +kernel
theorem dL_law_737 : decode cL_law 737 = .ok (.aload_n 0, 1) := by decide +kernel
theorem dL_law_738 : decode cL_law 738 = .ok (.iload_n 3, 1) := by decide +kernel
theorem dL_law_739 : decode cL_law 739 = .ok (.iconst 3, 1) := by decide +kernel
theorem dL_law_740 : decode cL_law 740 = .ok (.iadd, 1) := by decide +kernel
theorem dL_law_741 : decode cL_law 741 = .ok (.iaload, 1) := by decide +kernel
theorem dL_law_742 : decode cL_law 742 = .ok (.invokevirtual 84, 3) := by decide +kernel
theorem dL_law_745 : decode cL_law 745 = .ok (.pop, 1) := by decide +kernel
theorem dL_law_746 : decode cL_law 746 = .ok (.aload_n 2, 1) := by decide +kernel
theorem dL_law_747 : decode cL_law 747 = .ok (.aload_n 0, 1) := by decide +kernel
theorem dL_law_748 : decode cL_law 748 = .ok (.iload_n 3, 1) := by decide +kernel
theorem dL_law_749 : decode cL_law 749 = .ok (.iconst 1, 1) := by decide +kernel
theorem dL_law_750 : decode cL_law 750 = .ok (.iadd, 1) := by decide +kernel
theorem dL_law_751 : decode cL_law 751 = .ok (.iaload, 1) := by decide +kernel
theorem dL_law_752 : decode cL_law 752 = .ok (.aload_n 0, 1) := by decide +kernel
theorem dL_law_753 : decode cL_law 753 = .ok (.iload_n 3, 1) := by decide +kernel
theorem dL_law_754 : decode cL_law 754 = .ok (.iconst 2, 1) := by decide +kernel
theorem dL_law_755 : decode cL_law 755 = .ok (.iadd, 1) := by decide +kernel
theorem dL_law_756 : decode cL_law 756 = .ok (.iaload, 1) := by decide +kernel
theorem dL_law_757 : decode cL_law 757 = .ok (.aload_n 0, 1) := by decide +kernel
theorem dL_law_758 : decode cL_law 758 = .ok (.iload_n 3, 1) := by decide +kernel
theorem dL_law_759 : decode cL_law 759 = .ok (.iconst 3, 1) := by decide +kernel
theorem dL_law_760 : decode cL_law 760 = .ok (.iadd, 1) := by decide +kernel
theorem dL_law_761 : decode cL_law 761 = .ok (.iaload, 1) := by decide +kernel
theorem dL_law_762 : decode cL_law 762 = .ok (.invokevirtual 87, 3) := by decide +kernel
theorem dL_law_765 : decode cL_law 765 = .ok (.pop, 1) := by decide +kernel
theorem dL_law_766 : decode cL_law 766 = .ok (.goto 768, 3) := by decide +kernel
theorem dL_law_769 : decode cL_law 769 = .ok (.aload_n 1, 1) := by decide +kernel
theorem dL_law_770 : decode cL_law 770 = .ok (.aload_n 0, 1) := by decide +kernel
theorem dL_law_771 : decode cL_law 771 = .ok (.iload_n 3, 1) := by decide +kernel
theorem dL_law_772 : decode cL_law 772 = .ok (.iconst 1, 1) := by decide +kernel
theorem dL_law_773 : decode cL_law 773 = .ok (.iadd, 1) := by decide +kernel
theorem dL_law_774 : decode cL_law 774 = .ok (.iaload, 1) := by decide +kernel
theorem dL_law_775 : decode cL_law 775 = .ok (.aload_n 0, 1) := by decide +kernel
theorem dL_law_776 : decode cL_law 776 = .ok (.iload_n 3, 1) := by decide +kernel
theorem dL_law_777 : decode cL_law 777 = .ok (.iconst 2, 1) := by decide +kernel
theorem dL_law_778 : decode cL_law 778 = .ok (.iadd, 1) := by decide +kernel
theorem dL_law_779 : decode cL_law 779 = .ok (.iaload, 1) := by decide +kernel
theorem dL_law_780 : decode cL_law 780 = .ok (.invokevirtual 88, 3) := by decide +kernel
theorem dL_law_783 : decode cL_law 783 = .ok (.pop, 1) := by decide +kernel
theorem dL_law_784 : decode cL_law 784 = .ok (.aload_n 2, 1) := by decide +kernel
theorem dL_law_785 : decode cL_law 785 = .ok (.aload_n 0, 1) := by decide +kernel
theorem dL_law_786 : decode cL_law 786 = .ok (.iload_n 3, 1) := by decide +kernel
theorem dL_law_787 : decode cL_law 787 = .ok (.iconst 1, 1) := by decide +kernel
theorem dL_law_788 : decode cL_law 788 = .ok (.iadd, 1) := by decide +kernel
theorem dL_law_789 : decode cL_law 789 = .ok (.iaload, 1) := by decide +kernel
theorem dL_law_790 : decode cL_law 790 = .ok (.aload_n 0, 1) := by decide +kernel
theorem dL_law_791 : decode cL_law 791 = .ok (.iload_n 3, 1) := by decide +kernel
theorem dL_law_792 : decode cL_law 792 = .ok (.iconst 2, 1) := by decide +kernel
theorem dL_law_793 : decode cL_law 793 = .ok (.iadd, 1) := by decide +kernel
theorem dL_law_794 : decode cL_law 794 = .ok (.iaload, 1) := by decide +kernel
theorem dL_law_795 : decode cL_law 795 = .ok (.invokevirtual 91, 3) := by decide +kernel
theorem dL_law_798 : decode cL_law 798 = .ok (.pop, 1) := by decide +kernel
theorem dL_law_799 : decode cL_law 799 = .ok (.goto 735, 3) := by decide +kernel
theorem dL_law_802 : decode cL_law 802 = .ok (.aload_n 1, 1) := by decide +kernel
theorem dL_law_803 : decode cL_law 803 = .ok (.aload_n 0, 1) := by decide +kernel
theorem dL_law_804 : decode cL_law 804 = .ok (.iload_n 3, 1) := by decide +kernel
theorem dL_law_805 : decode cL_law 805 = .ok (.iconst 1, 1) := by decide +kernel
theorem dL_law_806 : decode cL_law 806 = .ok (.iadd, 1) := by decide +kernel
theorem dL_law_807 : decode cL_law 807 = .ok (.iaload, 1) := by decide +kernel
theorem dL_law_808 : decode cL_law 808 = .ok (.aload_n 0, 1) := by decide +kernel
theorem dL_law_809 : decode cL_law 809 = .ok (.iload_n 3, 1) := by decide +kernel
theorem dL_law_810 : decode cL_law 810 = .ok (.iconst 2, 1) := by decide +kernel
theorem dL_law_811 : decode cL_law 811 = .ok (.iadd, 1) := by decide +kernel
theorem dL_law_812 : decode cL_law 812 = .ok (.iaload, 1) := by decide +kernel
theorem dL_law_813 : decode cL_law 813 = .ok (.invokevirtual 92, 3) := by decide +kernel
theorem dL_law_816 : decode cL_law 816 = .ok (.pop, 1) := by decide +kernel
theorem dL_law_817 : decode cL_law 817 = .ok (.aload_n 2, 1) := by decide +kernel
theorem dL_law_818 : decode cL_law 818 = .ok (.aload_n 0, 1) := by decide +kernel
theorem dL_law_819 : decode cL_law 819 = .ok (.iload_n 3, 1) := by decide +kernel
theorem dL_law_820 : decode cL_law 820 = .ok (.iconst 1, 1) := by decide +kernel
theorem dL_law_821 : decode cL_law 821 = .ok (.iadd, 1) := by decide +kernel
theorem dL_law_822 : decode cL_law 822 = .ok (.iaload, 1) := by decide +kernel
theorem dL_law_823 : decode cL_law 823 = .ok (.aload_n 0, 1) := by decide +kernel
theorem dL_law_824 : decode cL_law 824 = .ok (.iload_n 3, 1) := by decide +kernel
theorem dL_law_825 : decode cL_law 825 = .ok (.iconst 2, 1) := by decide +kernel
theorem dL_law_826 : decode cL_law 826 = .ok (.iadd, 1) := by decide +kernel
theorem dL_law_827 : decode cL_law 827 = .ok (.iaload, 1) := by decide +kernel
theorem dL_law_828 : decode cL_law 828 = .ok (.invokevirtual 95, 3) := by decide +kernel
theorem dL_law_831 : decode cL_law 831 = .ok (.pop, 1) := by decide +kernel
theorem dL_law_832 : decode cL_law 832 = .ok (.goto 702, 3) := by decide +kernel
theorem dL_law_835 : decode cL_law 835 = .ok (.aload_n 1, 1) := by decide +kernel
theorem dL_law_836 : decode cL_law 836 = .ok (.invokevirtual 96, 3) := by decide +kernel
theorem dL_law_839 : decode cL_law 839 = .ok (.pop, 1) := by decide +kernel
theorem dL_law_840 : decode cL_law 840 = .ok (.aload_n 2, 1) := by decide +kernel
theorem dL_law_841 : decode cL_law 841 = .ok (.invokevirtual 99, 3) := by decide +kernel
theorem dL_law_844 : decode cL_law 844 = .ok (.pop, 1) := by decide +kernel
theorem dL_law_845 : decode cL_law 845 = .ok (.goto 689, 3) := by decide +kernel
theorem dL_law_848 : decode cL_law 848 = .ok (.aload_n 1, 1) := by decide +kernel
theorem dL_law_849 : decode cL_law 849 = .ok (.invokevirtual 100, 3) := by decide +kernel
theorem dL_law_852 : decode cL_law 852 = .ok (.pop, 1) := by decide +kernel
theorem dL_law_853 : decode cL_law 853 = .ok (.aload_n 2, 1) := by decide +kernel
theorem dL_law_854 : decode cL_law 854 = .ok (.invokevirtual 103, 3) := by decide +kernel
theorem dL_law_857 : decode cL_law 857 = .ok (.pop, 1) := by decide +kernel
theorem dL_law_858 : decode cL_law 858 = .ok (.goto 676, 3) := by decide +kernel
theorem dL_law_861 : decode cL_law 861 = .ok (.aload_n 1, 1) := by decide +kernel
theorem dL_law_862 : decode cL_law 862 = .ok (.aload_n 0, 1) := by decide +kernel
theorem dL_law_863 : decode cL_law 863 = .ok (.iload_n 3, 1) := by decide +kernel
theorem dL_law_864 : decode cL_law 864 = .ok (.iconst 1, 1) := by decide +kernel
theorem dL_law_865 : decode cL_law 865 = .ok (.iadd, 1) := by decide +kernel
theorem dL_law_866 : decode cL_law 866 = .ok (.iaload, 1) := by decide +kernel
theorem dL_law_867 : decode cL_law 867 = .ok (.invokevirtual 104, 3) := by decide +kernel
theorem dL_law_870 : decode cL_law 870 = .ok (.pop, 1) := by decide +kernel
theorem dL_law_871 : decode cL_law 871 = .ok (.aload_n 2, 1) := by decide +kernel
theorem dL_law_872 : decode cL_law 872 = .ok (.aload_n 0, 1) := by decide +kernel
theorem dL_law_873 : decode cL_law 873 = .ok (.iload_n 3, 1) := by decide +kernel
theorem dL_law_874 : decode cL_law 874 = .ok (.iconst 1, 1) := by decide +kernel
theorem dL_law_875 : decode cL_law 875 = .ok (.iadd, 1) := by decide +kernel
theorem dL_law_876 : decode cL_law 876 = .ok (.iaload, 1) := by decide +kernel
theorem dL_law_877 : decode cL_law 877 = .ok (.invokevirtual 107, 3) := by decide +kernel
theorem dL_law_880 : decode cL_law 880 = .ok (.pop, 1) := by decide +kernel
theorem dL_law_881 : decode cL_law 881 = .ok (.goto 653, 3) := by decide +kernel
theorem dL_law_884 : decode cL_law 884 = .ok (.aload_n 1, 1) := by decide +kernel
theorem dL_law_885 : decode cL_law 885 = .ok (.aload_n 0, 1) := by decide +kernel
theorem dL_law_886 : decode cL_law 886 = .ok (.iload_n 3, 1) := by decide +kernel
theorem dL_law_887 : decode cL_law 887 = .ok (.iconst 1, 1) := by decide +kernel
theorem dL_law_888 : decode cL_law 888 = .ok (.iadd, 1) := by decide +kernel
theorem dL_law_889 : decode cL_law 889 = .ok (.iaload, 1) := by decide +kernel
theorem dL_law_890 : decode cL_law 890 = .ok (.aload_n 0, 1) := by decide +kernel
theorem dL_law_891 : decode cL_law 891 = .ok (.iload_n 3, 1) := by decide +kernel
theorem dL_law_892 : decode cL_law 892 = .ok (.iconst 2, 1) := by decide +kernel
theorem dL_law_893 : decode cL_law 893 = .ok (.iadd, 1) := by decide +kernel
theorem dL_law_894 : decode cL_law 894 = .ok (.iaload, 1) := by decide +kernel
theorem dL_law_895 : decode cL_law 895 = .ok (.aload_n 0, 1) := by decide +kernel
theorem dL_law_896 : decode cL_law 896 = .ok (.iload_n 3, 1) := by decide +kernel
theorem dL_law_897 : decode cL_law 897 = .ok (.iconst 3, 1) := by decide +kernel
theorem dL_law_898 : decode cL_law 898 = .ok (.iadd, 1) := by decide +kernel
theorem dL_law_899 : decode cL_law 899 = .ok (.iaload, 1) := by decide +kernel
theorem dL_law_900 : decode cL_law 900 = .ok (.invokevirtual 108, 3) := by decide +kernel
theorem dL_law_903 : decode cL_law 903 = .ok (.pop, 1) := by decide +kernel
theorem dL_law_904 : decode cL_law 904 = .ok (.aload_n 2, 1) := by decide +kernel
theorem dL_law_905 : decode cL_law 905 = .ok (.aload_n 0, 1) := by decide +kernel
theorem dL_law_906 : decode cL_law 906 = .ok (.iload_n 3, 1) := by decide +kernel
theorem dL_law_907 : decode cL_law 907 = .ok (.iconst 1, 1) := by decide +kernel
theorem dL_law_908 : decode cL_law 908 = .ok (.iadd, 1) := by decide +kernel
theorem dL_law_909 : decode cL_law 909 = .ok (.iaload, 1) := by decide +kernel
theorem dL_law_910 : decode cL_law 910 = .ok (.aload_n 0, 1) := by decide +kernel
theorem dL_law_911 : decode cL_law 911 = .ok (.iload_n 3, 1) := by decide +kernel
theorem dL_law_912 : decode cL_law 912 = .ok (.iconst 2, 1) := by decide +kernel
theorem dL_law_913 : decode cL_law 913 = .ok (.iadd, 1) := by decide +kernel
theorem dL_law_914 : decode cL_law 914 = .ok (.iaload, 1) := by decide +kernel
theorem dL_law_915 : decode cL_law 915 = .ok (.aload_n 0, 1) := by decide +kernel
theorem dL_law_916 : decode cL_law 916 = .ok (.iload_n 3, 1) := by decide +kernel
theorem dL_law_917 : decode cL_law 917 = .ok (.iconst 3, 1) := by decide +kernel
theorem dL_law_918 : decode cL_law 918 = .ok (.iadd, 1) := by decide +kernel
theorem dL_law_919 : decode cL_law 919 = .ok (.iaload, 1) := by decide +kernel
theorem dL_law_920 : decode cL_law 920 = .ok (.invokevirtual 111, 3) := by decide +kernel
theorem dL_law_923 : decode cL_law 923 = .ok (.pop, 1) := by decide +kernel
theorem dL_law_924 : decode cL_law 924 = .ok (.goto 610, 3) := by decide +kernel
theorem dL_law_927 : decode cL_law 927 = .ok (.aload_n 1, 1) := by decide +kernel
theorem dL_law_928 : decode cL_law 928 = .ok (.aload_n 0, 1) := by decide +kernel
theorem dL_law_929 : decode cL_law 929 = .ok (.iload_n 3, 1) := by decide +kernel
theorem dL_law_930 : decode cL_law 930 = .ok (.iconst 1, 1) := by decide +kernel
theorem dL_law_931 : decode cL_law 931 = .ok (.iadd, 1) := by decide +kernel
theorem dL_law_932 : decode cL_law 932 = .ok (.iaload, 1) := by decide +kernel
theorem dL_law_933 : decode cL_law 933 = .ok (.aload_n 0, 1) := by decide +kernel
theorem dL_law_934 : decode cL_law 934 = .ok (.iload_n 3, 1) := by decide +kernel
theorem dL_law_935 : decode cL_law 935 = .ok (.iconst 2, 1) := by decide +kernel
theorem dL_law_936 : decode cL_law 936 = .ok (.iadd, 1) := by decide +kernel
theorem dL_law_937 : decode cL_law 937 = .ok (.iaload, 1) := by decide +kernel
theorem dL_law_938 : decode cL_law 938 = .ok (.invokevirtual 112, 3) := by decide +kernel
theorem dL_law_941 : decode cL_law 941 = .ok (.pop, 1) := by decide +kernel
theorem dL_law_942 : decode cL_law 942 = .ok (.aload_n 2, 1) := by decide +kernel
theorem dL_law_943 : decode cL_law 943 = .ok (.aload_n 0, 1) := by decide +kernel
theorem dL_law_944 : decode cL_law 944 = .ok (.iload_n 3, 1) := by decide +kernel
theorem dL_law_945 : decode cL_law 945 = .ok (.iconst 1, 1) := by decide +kernel
theorem dL_law_946 : decode cL_law 946 = .ok (.iadd, 1) := by decide +kernel
theorem dL_law_947 : decode cL_law 947 = .ok (.iaload, 1) := by decide +kernel
theorem dL_law_948 : decode cL_law 948 = .ok (.aload_n 0, 1) := by decide +kernel
theorem dL_law_949 : decode cL_law 949 = .ok (.iload_n 3, 1) := by decide +kernel
theorem dL_law_950 : decode cL_law 950 = .ok (.iconst 2, 1) := by decide +kernel
theorem dL_law_951 : decode cL_law 951 = .ok (.iadd, 1) := by decide +kernel
theorem dL_law_952 : decode cL_law 952 = .ok (.iaload, 1) := by decide +kernel
theorem dL_law_953 : decode cL_law 953 = .ok (.invokevirtual 115, 3) := by decide +kernel
theorem dL_law_956 : decode cL_law 956 = .ok (.pop, 1) := by decide +kernel
theorem dL_law_957 : decode cL_law 957 = .ok (.goto 577, 3) := by decide +kernel
theorem dL_law_960 : decode cL_law 960 = .ok (.aload_n 1, 1) := by decide +kernel
theorem dL_law_961 : decode cL_law 961 = .ok (.aload_n 0, 1) := by decide +kernel
theorem dL_law_962 : decode cL_law 962 = .ok (.iload_n 3, 1) := by decide +kernel
theorem dL_law_963 : decode cL_law 963 = .ok (.iconst 1, 1) := by decide +kernel
theorem dL_law_964 : decode cL_law 964 = .ok (.iadd, 1) := by decide +kernel
theorem dL_law_965 : decode cL_law 965 = .ok (.iaload, 1) := by decide +kernel
theorem dL_law_966 : decode cL_law 966 = .ok (.aload_n 0, 1) := by decide +kernel
theorem dL_law_967 : decode cL_law 967 = .ok (.iload_n 3, 1) := by decide +kernel
theorem dL_law_968 : decode cL_law 968 = .ok (.iconst 2, 1) := by decide +kernel
theorem dL_law_969 : decode cL_law 969 = .ok (.iadd, 1) := by decide +kernel
theorem dL_law_970 : decode cL_law 970 = .ok (.iaload, 1) := by decide +kernel
theorem dL_law_971 : decode cL_law 971 = .ok (.aload_n 0, 1) := by decide +kernel
theorem dL_law_972 : decode cL_law 972 = .ok (.iload_n 3, 1) := by decide +kernel
theorem dL_law_973 : decode cL_law 973 = .ok (.iconst 3, 1) := by decide +kernel
theorem dL_law_974 : decode cL_law 974 = .ok (.iadd, 1) := by decide +kernel
theorem dL_law_975 : decode cL_law 975 = .ok (.iaload, 1) := by decide +kernel
theorem dL_law_976 : decode cL_law 976 = .ok (.invokevirtual 116, 3) := by decide +kernel
theorem dL_law_979 : decode cL_law 979 = .ok (.pop, 1) := by decide +kernel
theorem dL_law_980 : decode cL_law 980 = .ok (.aload_n 2, 1) := by decide +kernel
theorem dL_law_981 : decode cL_law 981 = .ok (.aload_n 0, 1) := by decide +kernel
theorem dL_law_982 : decode cL_law 982 = .ok (.iload_n 3, 1) := by decide +kernel
theorem dL_law_983 : decode cL_law 983 = .ok (.iconst 1, 1) := by decide +kernel
theorem dL_law_984 : decode cL_law 984 = .ok (.iadd, 1) := by decide +kernel
theorem dL_law_985 : decode cL_law 985 = .ok (.iaload, 1) := by decide +kernel
theorem dL_law_986 : decode cL_law 986 = .ok (.aload_n 0, 1) := by decide +kernel
theorem dL_law_987 : decode cL_law 987 = .ok (.iload_n 3, 1) := by decide +kernel
theorem dL_law_988 : decode cL_law 988 = .ok (.iconst 2, 1) := by decide +kernel
theorem dL_law_989 : decode cL_law 989 = .ok (.iadd, 1) := by decide +kernel
theorem dL_law_990 : decode cL_law 990 = .ok (.iaload, 1) := by decide +kernel
theorem dL_law_991 : decode cL_law 991 = .ok (.aload_n 0, 1) := by decide +kernel
theorem dL_law_992 : decode cL_law 992 = .ok (.iload_n 3, 1) := by decide +kernel
theorem dL_law_993 : decode cL_law 993 = .ok (.iconst 3, 1) := by decide +kernel
theorem dL_law_994 : decode cL_law 994 = .ok (.iadd, 1) := by decide +kernel
theorem dL_law_995 : decode cL_law 995 = .ok (.iaload, 1) := by decide +kernel
theorem dL_law_996 : decode cL_law 996 = .ok (.invokevirtual 119, 3) := by decide +kernel
theorem dL_law_999 : decode cL_law 999 = .ok (.pop, 1) := by decide +kernel
theorem dL_law_1000 : decode cL_law 1000 = .ok (.goto 534, 3) := by decide +kernel
theorem dL_law_1003 : decode cL_law 1003 = .ok (.aload_n 1, 1) := by decide +kernel
theorem dL_law_1004 : decode cL_law 1004 = .ok (.aload_n 0, 1) := by decide +kernel
theorem dL_law_1005 : decode cL_law 1005 = .ok (.iload_n 3, 1) := by decide +kernel
theorem dL_law_1006 : decode cL_law 1006 = .ok (.iconst 1, 1) := by decide +kernel
theorem dL_law_1007 : decode cL_law 1007 = .ok (.iadd, 1) := by decide +kernel
theorem dL_law_1008 : decode cL_law 1008 = .ok (.iaload, 1) := by decide +kernel
theorem dL_law_1009 : decode cL_law 1009 = .ok (.aload_n 0, 1) := by decide +kernel
theorem dL_law_1010 : decode cL_law 1010 = .ok (.iload_n 3, 1) := by decide +kernel
theorem dL_law_1011 : decode cL_law 1011 = .ok (.iconst 2, 1) := by decide +kernel
theorem dL_law_1012 : decode cL_law 1012 = .ok (.iadd, 1) := by decide +kernel
theorem dL_law_1013 : decode cL_law 1013 = .ok (.iaload, 1) := by decide +kernel
theorem dL_law_1014 : decode cL_law 1014 = .ok (.aload_n 0, 1) := by decide +kernel
theorem dL_law_1015 : decode cL_law 1015 = .ok (.iload_n 3, 1) := by decide +kernel
theorem dL_law_1016 : decode cL_law 1016 = .ok (.iconst 3, 1) := by decide +kernel
theorem dL_law_1017 : decode cL_law 1017 = .ok (.iadd, 1) := by decide +kernel
theorem dL_law_1018 : decode cL_law 1018 = .ok (.iaload, 1) := by decide +kernel
theorem dL_law_1019 : decode cL_law 1019 = .ok (.invokevirtual 120, 3) := by decide +kernel
theorem dL_law_1022 : decode cL_law 1022 = .ok (.pop, 1) := by decide +kernel
theorem dL_law_1023 : decode cL_law 1023 = .ok (.aload_n 2, 1) := by decide +kernel
theorem dL_law_1024 : decode cL_law 1024 = .ok (.aload_n 0, 1) := by decide +kernel
theorem dL_law_1025 : decode cL_law 1025 = .ok (.iload_n 3, 1) := by decide +kernel
theorem dL_law_1026 : decode cL_law 1026 = .ok (.iconst 1, 1) := by decide +kernel
theorem dL_law_1027 : decode cL_law 1027 = .ok (.iadd, 1) := by decide +kernel
theorem dL_law_1028 : decode cL_law 1028 = .ok (.iaload, 1) := by decide +kernel
theorem dL_law_1029 : decode cL_law 1029 = .ok (.aload_n 0, 1) := by decide +kernel
theorem dL_law_1030 : decode cL_law 1030 = .ok (.iload_n 3, 1) := by decide +kernel
theorem dL_law_1031 : decode cL_law 1031 = .ok (.iconst 2, 1) := by decide +kernel
theorem dL_law_1032 : decode cL_law 1032 = .ok (.iadd, 1) := by decide +kernel
theorem dL_law_1033 : decode cL_law 1033 = .ok (.iaload, 1) := by decide +kernel
theorem dL_law_1034 : decode cL_law 1034 = .ok (.aload_n 0, 1) := by decide +kernel
theorem dL_law_1035 : decode cL_law 1035 = .ok (.iload_n 3, 1) := by decide +kernel
theorem dL_law_1036 : decode cL_law 1036 = .ok (.iconst 3, 1) := by decide +kernel
theorem dL_law_1037 : decode cL_law 1037 = .ok (.iadd, 1) := by decide +kernel
theorem dL_law_1038 : decode cL_law 1038 = .ok (.iaload, 1) := by decide +kernel
theorem dL_law_1039 : decode cL_law 1039 = .ok (.invokevirtual 123, 3) := by decide +kernel
theorem dL_law_1042 : decode cL_law 1042 = .ok (.pop, 1) := by decide +kernel
theorem dL_law_1043 : decode cL_law 1043 = .ok (.goto 491, 3) := by decide +kernel
theorem dL_law_1046 : decode cL_law 1046 = .ok (.aload_n 1, 1) := by decide +kernel
theorem dL_law_1047 : decode cL_law 1047 = .ok (.aload_n 0, 1) := by decide +kernel
theorem dL_law_1048 : decode cL_law 1048 = .ok (.iload_n 3, 1) := by decide +kernel
theorem dL_law_1049 : decode cL_law 1049 = .ok (.iconst 1, 1) := by decide +kernel
theorem dL_law_1050 : decode cL_law 1050 = .ok (.iadd, 1) := by decide +kernel
theorem dL_law_1051 : decode cL_law 1051 = .ok (.iaload, 1) := by decide +kernel
theorem dL_law_1052 : decode cL_law 1052 = .ok (.aload_n 0, 1) := by decide +kernel
theorem dL_law_1053 : decode cL_law 1053 = .ok (.iload_n 3, 1) := by decide +kernel
theorem dL_law_1054 : decode cL_law 1054 = .ok (.iconst 2, 1) := by decide +kernel
theorem dL_law_1055 : decode cL_law 1055 = .ok (.iadd, 1) := by decide +kernel
theorem dL_law_1056 : decode cL_law 1056 = .ok (.iaload, 1) := by decide +kernel
theorem dL_law_1057 : decode cL_law 1057 = .ok (.invokevirtual 124, 3) := by decide +kernel
theorem dL_law_1060 : decode cL_law 1060 = .ok (.pop, 1) := by decide +kernel
theorem dL_law_1061 : decode cL_law 1061 = .ok (.aload_n 2, 1) := by decide +kernel
theorem dL_law_1062 : decode cL_law 1062 = .ok (.aload_n 0, 1) := by decide +kernel
theorem dL_law_1063 : decode cL_law 1063 = .ok (.iload_n 3, 1) := by decide +kernel
theorem dL_law_1064 : decode cL_law 1064 = .ok (.iconst 1, 1) := by decide +kernel
theorem dL_law_1065 : decode cL_law 1065 = .ok (.iadd, 1) := by decide +kernel
theorem dL_law_1066 : decode cL_law 1066 = .ok (.iaload, 1) := by decide +kernel
theorem dL_law_1067 : decode cL_law 1067 = .ok (.aload_n 0, 1) := by decide +kernel
theorem dL_law_1068 : decode cL_law 1068 = .ok (.iload_n 3, 1) := by decide +kernel
theorem dL_law_1069 : decode cL_law 1069 = .ok (.iconst 2, 1) := by decide +kernel
theorem dL_law_1070 : decode cL_law 1070 = .ok (.iadd, 1) := by decide +kernel
theorem dL_law_1071 : decode cL_law 1071 = .ok (.iaload, 1) := by decide +kernel
theorem dL_law_1072 : decode cL_law 1072 = .ok (.invokevirtual 127, 3) := by decide +kernel
theorem dL_law_1075 : decode cL_law 1075 = .ok (.pop, 1) := by decide +kernel
theorem dL_law_1076 : decode cL_law 1076 = .ok (.goto 458, 3) := by decide +kernel
theorem dL_law_1079 : decode cL_law 1079 = .ok (.aload_n 1, 1) := by decide +kernel
theorem dL_law_1080 : decode cL_law 1080 = .ok (.aload_n 0, 1) := by decide +kernel
theorem dL_law_1081 : decode cL_law 1081 = .ok (.iload_n 3, 1) := by decide +kernel
theorem dL_law_1082 : decode cL_law 1082 = .ok (.iconst 1, 1) := by decide +kernel
theorem dL_law_1083 : decode cL_law 1083 = .ok (.iadd, 1) := by decide +kernel
theorem dL_law_1084 : decode cL_law 1084 = .ok (.iaload, 1) := by decide +kernel
theorem dL_law_1085 : decode cL_law 1085 = .ok (.aload_n 0, 1) := by decide +kernel
theorem dL_law_1086 : decode cL_law 1086 = .ok (.iload_n 3, 1) := by decide +kernel
theorem dL_law_1087 : decode cL_law 1087 = .ok (.iconst 2, 1) := by decide +kernel
theorem dL_law_1088 : decode cL_law 1088 = .ok (.iadd, 1) := by decide +kernel
theorem dL_law_1089 : decode cL_law 1089 = .ok (.iaload, 1) := by decide +kernel
theorem dL_law_1090 : decode cL_law 1090 = .ok (.aload_n 0, 1) := by decide +kernel
theorem dL_law_1091 : decode cL_law 1091 = .ok (.iload_n 3, 1) := by decide +kernel
theorem dL_law_1092 : decode cL_law 1092 = .ok (.iconst 3, 1) := by decide +kernel
theorem dL_law_1093 : decode cL_law 1093 = .ok (.iadd, 1) := by decide +kernel
theorem dL_law_1094 : decode cL_law 1094 = .ok (.iaload, 1) := by decide +kernel
theorem dL_law_1095 : decode cL_law 1095 = .ok (.invokevirtual 128, 3) := by decide +kernel
theorem dL_law_1098 : decode cL_law 1098 = .ok (.pop, 1) := by decide +kernel
theorem dL_law_1099 : decode cL_law 1099 = .ok (.aload_n 2, 1) := by decide +kernel
theorem dL_law_1100 : decode cL_law 1100 = .ok (.aload_n 0, 1) := by decide +kernel
theorem dL_law_1101 : decode cL_law 1101 = .ok (.iload_n 3, 1) := by decide +kernel
theorem dL_law_1102 : decode cL_law 1102 = .ok (.iconst 1, 1) := by decide +kernel
theorem dL_law_1103 : decode cL_law 1103 = .ok (.iadd, 1) := by decide +kernel
theorem dL_law_1104 : decode cL_law 1104 = .ok (.iaload, 1) := by decide +kernel
theorem dL_law_1105 : decode cL_law 1105 = .ok (.aload_n 0, 1) := by decide +kernel
theorem dL_law_1106 : decode cL_law 1106 = .ok (.iload_n 3, 1) := by decide +kernel
theorem dL_law_1107 : decode cL_law 1107 = .ok (.iconst 2, 1) := by decide +kernel
theorem dL_law_1108 : decode cL_law 1108 = .ok (.iadd, 1) := by decide +kernel
theorem dL_law_1109 : decode cL_law 1109 = .ok (.iaload, 1) := by decide +kernel
theorem dL_law_1110 : decode cL_law 1110 = .ok (.aload_n 0, 1) := by decide +kernel
theorem dL_law_1111 : decode cL_law 1111 = .ok (.iload_n 3, 1) := by decide +kernel
theorem dL_law_1112 : decode cL_law 1112 = .ok (.iconst 3, 1) := by decide +kernel
theorem dL_law_1113 : decode cL_law 1113 = .ok (.iadd, 1) := by decide +kernel
theorem dL_law_1114 : decode cL_law 1114 = .ok (.iaload, 1) := by decide +kernel
theorem dL_law_1115 : decode cL_law 1115 = .ok (.invokevirtual 131, 3) := by decide +kernel
theorem dL_law_1118 : decode cL_law 1118 = .ok (.pop, 1) := by decide +kernel
theorem dL_law_1119 : decode cL_law 1119 = .ok (.goto 415, 3) := by decide +kernel
theorem dL_law_1122 : decode cL_law 1122 = .ok (.aload_n 1, 1) := by decide +kernel
theorem dL_law_1123 : decode cL_law 1123 = .ok (.aload_n 0, 1) := by decide +kernel
theorem dL_law_1124 : decode cL_law 1124 = .ok (.iload_n 3, 1) := by decide +kernel
theorem dL_law_1125 : decode cL_law 1125 = .ok (.iconst 1, 1) := by decide +kernel
theorem dL_law_1126 : decode cL_law 1126 = .ok (.iadd, 1) := by decide +kernel
theorem dL_law_1127 : decode cL_law 1127 = .ok (.iaload, 1) := by decide +kernel
theorem dL_law_1128 : decode cL_law 1128 = .ok (.aload_n 0, 1) := by decide +kernel
theorem dL_law_1129 : decode cL_law 1129 = .ok (.iload_n 3, 1) := by decide +kernel
theorem dL_law_1130 : decode cL_law 1130 = .ok (.iconst 2, 1) := by decide +kernel
theorem dL_law_1131 : decode cL_law 1131 = .ok (.iadd, 1) := by decide +kernel
theorem dL_law_1132 : decode cL_law 1132 = .ok (.iaload, 1) := by decide +kernel
theorem dL_law_1133 : decode cL_law 1133 = .ok (.invokevirtual 132, 3) := by decide +kernel
theorem dL_law_1136 : decode cL_law 1136 = .ok (.pop, 1) := by decide +kernel
theorem dL_law_1137 : decode cL_law 1137 = .ok (.aload_n 2, 1) := by decide +kernel
theorem dL_law_1138 : decode cL_law 1138 = .ok (.aload_n 0, 1) := by decide +kernel
theorem dL_law_1139 : decode cL_law 1139 = .ok (.iload_n 3, 1) := by decide +kernel
theorem dL_law_1140 : decode cL_law 1140 = .ok (.iconst 1, 1) := by decide +kernel
theorem dL_law_1141 : decode cL_law 1141 = .ok (.iadd, 1) := by decide +kernel
theorem dL_law_1142 : decode cL_law 1142 = .ok (.iaload, 1) := by decide +kernel
theorem dL_law_1143 : decode cL_law 1143 = .ok (.aload_n 0, 1) := by decide +kernel
theorem dL_law_1144 : decode cL_law 1144 = .ok (.iload_n 3, 1) := by decide +kernel
theorem dL_law_1145 : decode cL_law 1145 = .ok (.iconst 2, 1) := by decide +kernel
theorem dL_law_1146 : decode cL_law 1146 = .ok (.iadd, 1) := by decide +kernel
theorem dL_law_1147 : decode cL_law 1147 = .ok (.iaload, 1) := by decide +kernel
theorem dL_law_1148 : decode cL_law 1148 = .ok (.invokevirtual 135, 3) := by decide +kernel
theorem dL_law_1151 : decode cL_law 1151 = .ok (.pop, 1) := by decide +kernel
theorem dL_law_1152 : decode cL_law 1152 = .ok (.goto 382, 3) := by decide +kernel
theorem dL_law_1155 : decode cL_law 1155 = .ok (.aload_n 1, 1) := by decide +kernel
theorem dL_law_1156 : decode cL_law 1156 = .ok (.invokevirtual 136, 3) := by decide +kernel
theorem dL_law_1159 : decode cL_law 1159 = .ok (.aload_n 2, 1) := by decide +kernel
theorem dL_law_1160 : decode cL_law 1160 = .ok (.invokevirtual 139, 3) := by decide +kernel
theorem dL_law_1163 : decode cL_law 1163 = .ok (.if_icmp .eq 371, 3) := by decide +kernel
theorem dL_law_1166 : decode cL_law 1166 = .ok (.iconst 0, 1) := by decide +kernel
theorem dL_law_1167 : decode cL_law 1167 = .ok (.ireturn, 1) := by decide +kernel
theorem dL_law_1168 : decode cL_law 1168 = .ok (.aload_n 1, 1) := by decide +kernel
theorem dL_law_1169 : decode cL_law 1169 = .ok (.aload_n 0, 1) := by decide +kernel
theorem dL_law_1170 : decode cL_law 1170 = .ok (.iload_n 3, 1) := by decide +kernel
theorem dL_law_1171 : decode cL_law 1171 = .ok (.iconst 1, 1) := by decide +kernel
theorem dL_law_1172 : decode cL_law 1172 = .ok (.iadd, 1) := by decide +kernel
theorem dL_law_1173 : decode cL_law 1173 = .ok (.iaload, 1) := by decide +kernel
theorem dL_law_1174 : decode cL_law 1174 = .ok (.aload_n 0, 1) := by decide +kernel
theorem dL_law_1175 : decode cL_law 1175 = .ok (.iload_n 3, 1) := by decide +kernel
theorem dL_law_1176 : decode cL_law 1176 = .ok (.iconst 2, 1) := by decide +kernel
theorem dL_law_1177 : decode cL_law 1177 = .ok (.iadd, 1) := by decide +kernel
theorem dL_law_1178 : decode cL_law 1178 = .ok (.iaload, 1) := by decide +kernel
theorem dL_law_1179 : decode cL_law 1179 = .ok (.invokevirtual 140, 3) := by decide +kernel
theorem dL_law_1182 : decode cL_law 1182 = .ok (.pop, 1) := by decide +kernel
theorem dL_law_1183 : decode cL_law 1183 = .ok (.aload_n 2, 1) := by decide +kernel
theorem dL_law_1184 : decode cL_law 1184 = .ok (.aload_n 0, 1) := by decide +kernel
theorem dL_law_1185 : decode cL_law 1185 = .ok (.iload_n 3, 1) := by decide +kernel
theorem dL_law_1186 : decode cL_law 1186 = .ok (.iconst 1, 1) := by decide +kernel
theorem dL_law_1187 : decode cL_law 1187 = .ok (.iadd, 1) := by decide +kernel
theorem dL_law_1188 : decode cL_law 1188 = .ok (.iaload, 1) := by decide +kernel
theorem dL_law_1189 : decode cL_law 1189 = .ok (.aload_n 0, 1) := by decide +kernel
theorem dL_law_1190 : decode cL_law 1190 = .ok (.iload_n 3, 1) := by decide +kernel
theorem dL_law_1191 : decode cL_law 1191 = .ok (.iconst 2, 1) := by decide +kernel
theorem dL_law_1192 : decode cL_law 1192 = .ok (.iadd, 1) := by decide +kernel
theorem dL_law_1193 : decode cL_law 1193 = .ok (.iaload, 1) := by decide +kernel
theorem dL_law_1194 : decode cL_law 1194 = .ok (.invokevirtual 143, 3) := by decide +kernel
theorem dL_law_1197 : decode cL_law 1197 = .ok (.pop, 1) := by decide +kernel
theorem dL_law_1198 : decode cL_law 1198 = .ok (.goto 336, 3) := by decide +kernel
theorem dL_law_1201 : decode cL_law 1201 = .ok (.aload_n 1, 1) := by decide +kernel
theorem dL_law_1202 : decode cL_law 1202 = .ok (.aload_n 0, 1) := by decide +kernel
theorem dL_law_1203 : decode cL_law 1203 = .ok (.iload_n 3, 1) := by decide +kernel
theorem dL_law_1204 : decode cL_law 1204 = .ok (.iconst 1, 1) := by decide +kernel
theorem dL_law_1205 : decode cL_law 1205 = .ok (.iadd, 1) := by decide +kernel
theorem dL_law_1206 : decode cL_law 1206 = .ok (.iaload, 1) := by decide +kernel
theorem dL_law_1207 : decode cL_law 1207 = .ok (.aload_n 0, 1) := by decide +kernel
theorem dL_law_1208 : decode cL_law 1208 = .ok (.iload_n 3, 1) := by decide +kernel
theorem dL_law_1209 : decode cL_law 1209 = .ok (.iconst 2, 1) := by decide +kernel
theorem dL_law_1210 : decode cL_law 1210 = .ok (.iadd, 1) := by decide +kernel
theorem dL_law_1211 : decode cL_law 1211 = .ok (.iaload, 1) := by decide +kernel
theorem dL_law_1212 : decode cL_law 1212 = .ok (.invokevirtual 144, 3) := by decide +kernel
theorem dL_law_1215 : decode cL_law 1215 = .ok (.pop, 1) := by decide +kernel
theorem dL_law_1216 : decode cL_law 1216 = .ok (.aload_n 2, 1) := by decide +kernel
theorem dL_law_1217 : decode cL_law 1217 = .ok (.aload_n 0, 1) := by decide +kernel
theorem dL_law_1218 : decode cL_law 1218 = .ok (.iload_n 3, 1) := by decide +kernel
theorem dL_law_1219 : decode cL_law 1219 = .ok (.iconst 1, 1) := by decide +kernel
theorem dL_law_1220 : decode cL_law 1220 = .ok (.iadd, 1) := by decide +kernel
theorem dL_law_1221 : decode cL_law 1221 = .ok (.iaload, 1) := by decide +kernel
theorem dL_law_1222 : decode cL_law 1222 = .ok (.aload_n 0, 1) := by decide +kernel
theorem dL_law_1223 : decode cL_law 1223 = .ok (.iload_n 3, 1) := by decide +kernel
theorem dL_law_1224 : decode cL_law 1224 = .ok (.iconst 2, 1) := by decide +kernel
theorem dL_law_1225 : decode cL_law 1225 = .ok (.iadd, 1) := by decide +kernel
theorem dL_law_1226 : decode cL_law 1226 = .ok (.iaload, 1) := by decide +kernel
theorem dL_law_1227 : decode cL_law 1227 = .ok (.invokevirtual 147, 3) := by decide +kernel
theorem dL_law_1230 : decode cL_law 1230 = .ok (.pop, 1) := by decide +kernel
theorem dL_law_1231 : decode cL_law 1231 = .ok (.goto 303, 3) := by decide +kernel
theorem dL_law_1234 : decode cL_law 1234 = .ok (.aload_n 1, 1) := by decide +kernel
theorem dL_law_1235 : decode cL_law 1235 = .ok (.aload_n 0, 1) := by decide +kernel
theorem dL_law_1236 : decode cL_law 1236 = .ok (.iload_n 3, 1) := by decide +kernel
theorem dL_law_1237 : decode cL_law 1237 = .ok (.iconst 1, 1) := by decide +kernel
theorem dL_law_1238 : decode cL_law 1238 = .ok (.iadd, 1) := by decide +kernel
theorem dL_law_1239 : decode cL_law 1239 = .ok (.iaload, 1) := by decide +kernel
theorem dL_law_1240 : decode cL_law 1240 = .ok (.aload_n 0, 1) := by decide +kernel
theorem dL_law_1241 : decode cL_law 1241 = .ok (.iload_n 3, 1) := by decide +kernel
theorem dL_law_1242 : decode cL_law 1242 = .ok (.iconst 2, 1) := by decide +kernel
theorem dL_law_1243 : decode cL_law 1243 = .ok (.iadd, 1) := by decide +kernel
theorem dL_law_1244 : decode cL_law 1244 = .ok (.iaload, 1) := by decide +kernel
theorem dL_law_1245 : decode cL_law 1245 = .ok (.invokevirtual 148, 3) := by decide +kernel
theorem dL_law_1248 : decode cL_law 1248 = .ok (.pop, 1) := by decide +kernel
theorem dL_law_1249 : decode cL_law 1249 = .ok (.aload_n 2, 1) := by decide +kernel
theorem dL_law_1250 : decode cL_law 1250 = .ok (.aload_n 0, 1) := by decide +kernel
theorem dL_law_1251 : decode cL_law 1251 = .ok (.iload_n 3, 1) := by decide +kernel
theorem dL_law_1252 : decode cL_law 1252 = .ok (.iconst 1, 1) := by decide +kernel
theorem dL_law_1253 : decode cL_law 1253 = .ok (.iadd, 1) := by decide +kernel
theorem dL_law_1254 : decode cL_law 1254 = .ok (.iaload, 1) := by decide +kernel
theorem dL_law_1255 : decode cL_law 1255 = .ok (.aload_n 0, 1) := by decide +kernel
theorem dL_law_1256 : decode cL_law 1256 = .ok (.iload_n 3, 1) := by decide +kernel
theorem dL_law_1257 : decode cL_law 1257 = .ok (.iconst 2, 1) := by decide +kernel
theorem dL_law_1258 : decode cL_law 1258 = .ok (.iadd, 1) := by decide +kernel
theorem dL_law_1259 : decode cL_law 1259 = .ok (.iaload, 1) := by decide +kernel
theorem dL_law_1260 : decode cL_law 1260 = .ok (.invokevirtual 151, 3) := by decide +kernel
theorem dL_law_1263 : decode cL_law 1263 = .ok (.pop, 1) := by decide +kernel
theorem dL_law_1264 : decode cL_law 1264 = .ok (.goto 270, 3) := by decide +kernel
theorem dL_law_1267 : decode cL_law 1267 = .ok (.aload_n 1, 1) := by decide +kernel
theorem dL_law_1268 : decode cL_law 1268 = .ok (.aload_n 0, 1) := by decide +kernel
theorem dL_law_1269 : decode cL_law 1269 = .ok (.iload_n 3, 1) := by decide +kernel
theorem dL_law_1270 : decode cL_law 1270 = .ok (.iconst 1, 1) := by decide +kernel
theorem dL_law_1271 : decode cL_law 1271 = .ok (.iadd, 1) := by decide +kernel
theorem dL_law_1272 : decode cL_law 1272 = .ok (.iaload, 1) := by decide +kernel
theorem dL_law_1273 : decode cL_law 1273 = .ok (.invokevirtual 152, 3) := by decide +kernel
theorem dL_law_1276 : decode cL_law 1276 = .ok (.pop, 1) := by decide +kernel
theorem dL_law_1277 : decode cL_law 1277 = .ok (.aload_n 2, 1) := by decide +kernel
theorem dL_law_1278 : decode cL_law 1278 = .ok (.aload_n 0, 1) := by decide +kernel
theorem dL_law_1279 : decode cL_law 1279 = .ok (.iload_n 3, 1) := by decide +kernel
theorem dL_law_1280 : decode cL_law 1280 = .ok (.iconst 1, 1) := by decide +kernel
theorem dL_law_1281 : decode cL_law 1281 = .ok (.iadd, 1) := by decide +kernel
theorem dL_law_1282 : decode cL_law 1282 = .ok (.iaload, 1) := by decide +kernel
theorem dL_law_1283 : decode cL_law 1283 = .ok (.invokevirtual 155, 3) := by decide +kernel
theorem dL_law_1286 : decode cL_law 1286 = .ok (.pop, 1) := by decide +kernel
theorem dL_law_1287 : decode cL_law 1287 = .ok (.goto 247, 3) := by decide +kernel
theorem dL_law_1290 : decode cL_law 1290 = .ok (.aload_n 1, 1) := by decide +kernel
theorem dL_law_1291 : decode cL_law 1291 = .ok (.aload_n 0, 1) := by decide +kernel
theorem dL_law_1292 : decode cL_law 1292 = .ok (.iload_n 3, 1) := by decide +kernel
theorem dL_law_1293 : decode cL_law 1293 = .ok (.iconst 1, 1) := by decide +kernel
theorem dL_law_1294 : decode cL_law 1294 = .ok (.iadd, 1) := by decide +kernel
theorem dL_law_1295 : decode cL_law 1295 = .ok (.iaload, 1) := by decide +kernel
theorem dL_law_1296 : decode cL_law 1296 = .ok (.aload_n 0, 1) := by decide +kernel
theorem dL_law_1297 : decode cL_law 1297 = .ok (.iload_n 3, 1) := by decide +kernel
theorem dL_law_1298 : decode cL_law 1298 = .ok (.iconst 2, 1) := by decide +kernel
theorem dL_law_1299 : decode cL_law 1299 = .ok (.iadd, 1) := by decide +kernel
theorem dL_law_1300 : decode cL_law 1300 = .ok (.iaload, 1) := by decide +kernel
theorem dL_law_1301 : decode cL_law 1301 = .ok (.aload_n 0, 1) := by decide +kernel
theorem dL_law_1302 : decode cL_law 1302 = .ok (.iload_n 3, 1) := by decide +kernel
theorem dL_law_1303 : decode cL_law 1303 = .ok (.iconst 3, 1) := by decide +kernel
theorem dL_law_1304 : decode cL_law 1304 = .ok (.iadd, 1) := by decide +kernel
theorem dL_law_1305 : decode cL_law 1305 = .ok (.iaload, 1) := by decide +kernel
theorem dL_law_1306 : decode cL_law 1306 = .ok (.invokevirtual 156, 3) := by decide +kernel
theorem dL_law_1309 : decode cL_law 1309 = .ok (.pop, 1) := by decide +kernel
theorem dL_law_1310 : decode cL_law 1310 = .ok (.aload_n 2, 1) := by decide +kernel
theorem dL_law_1311 : decode cL_law 1311 = .ok (.aload_n 0, 1) := by decide +kernel
theorem dL_law_1312 : decode cL_law 1312 = .ok (.iload_n 3, 1) := by decide +kernel
theorem dL_law_1313 : decode cL_law 1313 = .ok (.iconst 1, 1) := by decide +kernel
theorem dL_law_1314 : decode cL_law 1314 = .ok (.iadd, 1) := by decide +kernel
theorem dL_law_1315 : decode cL_law 1315 = .ok (.iaload, 1) := by decide +kernel
theorem dL_law_1316 : decode cL_law 1316 = .ok (.aload_n 0, 1) := by decide +kernel
theorem dL_law_1317 : decode cL_law 1317 = .ok (.iload_n 3, 1) := by decide +kernel
theorem dL_law_1318 : decode cL_law 1318 = .ok (.iconst 2, 1) := by decide +kernel
theorem dL_law_1319 : decode cL_law 1319 = .ok (.iadd, 1) := by decide +kernel
theorem dL_law_1320 : decode cL_law 1320 = .ok (.iaload, 1) := by decide +kernel
theorem dL_law_1321 : decode cL_law 1321 = .ok (.aload_n 0, 1) := by decide +kernel
theorem dL_law_1322 : decode cL_law 1322 = .ok (.iload_n 3, 1) := by decide +kernel
theorem dL_law_1323 : decode cL_law 1323 = .ok (.iconst 3, 1) := by decide +kernel
theorem dL_law_1324 : decode cL_law 1324 = .ok (.iadd, 1) := by decide +kernel
theorem dL_law_1325 : decode cL_law 1325 = .ok (.iaload, 1) := by decide +kernel
theorem dL_law_1326 : decode cL_law 1326 = .ok (.invokevirtual 159, 3) := by decide +kernel
theorem dL_law_1329 : decode cL_law 1329 = .ok (.pop, 1) := by decide +kernel
theorem dL_law_1330 : decode cL_law 1330 = .ok (.goto 204, 3) := by decide +kernel
theorem dL_law_1333 : decode cL_law 1333 = .ok (.aload_n 1, 1) := by decide +kernel
theorem dL_law_1334 : decode cL_law 1334 = .ok (.aload_n 0, 1) := by decide +kernel
theorem dL_law_1335 : decode cL_law 1335 = .ok (.iload_n 3, 1) := by decide +kernel
theorem dL_law_1336 : decode cL_law 1336 = .ok (.iconst 1, 1) := by decide +kernel
theorem dL_law_1337 : decode cL_law 1337 = .ok (.iadd, 1) := by decide +kernel
theorem dL_law_1338 : decode cL_law 1338 = .ok (.iaload, 1) := by decide +kernel
theorem dL_law_1339 : decode cL_law 1339 = .ok (.aload_n 0, 1) := by decide +kernel
theorem dL_law_1340 : decode cL_law 1340 = .ok (.iload_n 3, 1) := by decide +kernel
theorem dL_law_1341 : decode cL_law 1341 = .ok (.iconst 2, 1) := by decide +kernel
theorem dL_law_1342 : decode cL_law 1342 = .ok (.iadd, 1) := by decide +kernel
theorem dL_law_1343 : decode cL_law 1343 = .ok (.iaload, 1) := by decide +kernel
theorem dL_law_1344 : decode cL_law 1344 = .ok (.invokevirtual 160, 3) := by decide +kernel
theorem dL_law_1347 : decode cL_law 1347 = .ok (.pop, 1) := by decide +kernel
theorem dL_law_1348 : decode cL_law 1348 = .ok (.aload_n 2, 1) := by decide +kernel
theorem dL_law_1349 : decode cL_law 1349 = .ok (.aload_n 0, 1) := by decide +kernel
theorem dL_law_1350 : decode cL_law 1350 = .ok (.iload_n 3, 1) := by decide +kernel
theorem dL_law_1351 : decode cL_law 1351 = .ok (.iconst 1, 1) := by decide +kernel
theorem dL_law_1352 : decode cL_law 1352 = .ok (.iadd, 1) := by decide +kernel
theorem dL_law_1353 : decode cL_law 1353 = .ok (.iaload, 1) := by decide +kernel
theorem dL_law_1354 : decode cL_law 1354 = .ok (.aload_n 0, 1) := by decide +kernel
theorem dL_law_1355 : decode cL_law 1355 = .ok (.iload_n 3, 1) := by decide +kernel
theorem dL_law_1356 : decode cL_law 1356 = .ok (.iconst 2, 1) := by decide +kernel
theorem dL_law_1357 : decode cL_law 1357 = .ok (.iadd, 1) := by decide +kernel
theorem dL_law_1358 : decode cL_law 1358 = .ok (.iaload, 1) := by decide +kernel
theorem dL_law_1359 : decode cL_law 1359 = .ok (.invokevirtual 163, 3) := by decide +kernel
theorem dL_law_1362 : decode cL_law 1362 = .ok (.pop, 1) := by decide +kernel
theorem dL_law_1363 : decode cL_law 1363 = .ok (.goto 171, 3) := by decide +kernel
theorem dL_law_1366 : decode cL_law 1366 = .ok (.aload_n 1, 1) := by decide +kernel
theorem dL_law_1367 : decode cL_law 1367 = .ok (.aload_n 0, 1) := by decide +kernel
theorem dL_law_1368 : decode cL_law 1368 = .ok (.iload_n 3, 1) := by decide +kernel
theorem dL_law_1369 : decode cL_law 1369 = .ok (.iconst 1, 1) := by decide +kernel
theorem dL_law_1370 : decode cL_law 1370 = .ok (.iadd, 1) := by decide +kernel
theorem dL_law_1371 : decode cL_law 1371 = .ok (.iaload, 1) := by decide +kernel
theorem dL_law_1372 : decode cL_law 1372 = .ok (.aload_n 0, 1) := by decide +kernel
theorem dL_law_1373 : decode cL_law 1373 = .ok (.iload_n 3, 1) := by decide +kernel
theorem dL_law_1374 : decode cL_law 1374 = .ok (.iconst 2, 1) := by decide +kernel
theorem dL_law_1375 : decode cL_law 1375 = .ok (.iadd, 1) := by decide +kernel
theorem dL_law_1376 : decode cL_law 1376 = .ok (.iaload, 1) := by decide +kernel
theorem dL_law_1377 : decode cL_law 1377 = .ok (.aload_n 0, 1) := by decide +kernel
theorem dL_law_1378 : decode cL_law 1378 = .ok (.iload_n 3, 1) := by decide +kernel
theorem dL_law_1379 : decode cL_law 1379 = .ok (.iconst 3, 1) := by decide +kernel
theorem dL_law_1380 : decode cL_law 1380 = .ok (.iadd, 1) := by decide +kernel
theorem dL_law_1381 : decode cL_law 1381 = .ok (.iaload, 1) := by decide +kernel
theorem dL_law_1382 : decode cL_law 1382 = .ok (.invokevirtual 164, 3) := by decide +kernel
theorem dL_law_1385 : decode cL_law 1385 = .ok (.pop, 1) := by decide +kernel
theorem dL_law_1386 : decode cL_law 1386 = .ok (.aload_n 2, 1) := by decide +kernel
theorem dL_law_1387 : decode cL_law 1387 = .ok (.aload_n 0, 1) := by decide +kernel
theorem dL_law_1388 : decode cL_law 1388 = .ok (.iload_n 3, 1) := by decide +kernel
theorem dL_law_1389 : decode cL_law 1389 = .ok (.iconst 1, 1) := by decide +kernel
theorem dL_law_1390 : decode cL_law 1390 = .ok (.iadd, 1) := by decide +kernel
theorem dL_law_1391 : decode cL_law 1391 = .ok (.iaload, 1) := by decide +kernel
theorem dL_law_1392 : decode cL_law 1392 = .ok (.aload_n 0, 1) := by decide +kernel
theorem dL_law_1393 : decode cL_law 1393 = .ok (.iload_n 3, 1) := by decide +kernel
theorem dL_law_1394 : decode cL_law 1394 = .ok (.iconst 2, 1) := by decide +kernel
theorem dL_law_1395 : decode cL_law 1395 = .ok (.iadd, 1) := by decide +kernel
theorem dL_law_1396 : decode cL_law 1396 = .ok (.iaload, 1) := by decide +kernel
theorem dL_law_1397 : decode cL_law 1397 = .ok (.aload_n 0, 1) := by decide +kernel
theorem dL_law_1398 : decode cL_law 1398 = .ok (.iload_n 3, 1) := by decide +kernel
theorem dL_law_1399 : decode cL_law 1399 = .ok (.iconst 3, 1) := by decide +kernel
theorem dL_law_1400 : decode cL_law 1400 = .ok (.iadd, 1) := by decide +kernel
theorem dL_law_1401 : decode cL_law 1401 = .ok (.iaload, 1) := by decide +kernel
theorem dL_law_1402 : decode cL_law 1402 = .ok (.invokevirtual 167, 3) := by decide +kernel
theorem dL_law_1405 : decode cL_law 1405 = .ok (.pop, 1) := by decide +kernel
theorem dL_law_1406 : decode cL_law 1406 = .ok (.goto 128, 3) := by decide +kernel
theorem dL_law_1409 : decode cL_law 1409 = .ok (.aload_n 1, 1) := by decide +kernel
theorem dL_law_1410 : decode cL_law 1410 = .ok (.aload_n 0, 1) := by decide +kernel
theorem dL_law_1411 : decode cL_law 1411 = .ok (.iload_n 3, 1) := by decide +kernel
theorem dL_law_1412 : decode cL_law 1412 = .ok (.iconst 1, 1) := by decide +kernel
theorem dL_law_1413 : decode cL_law 1413 = .ok (.iadd, 1) := by decide +kernel
theorem dL_law_1414 : decode cL_law 1414 = .ok (.iaload, 1) := by decide +kernel
theorem dL_law_1415 : decode cL_law 1415 = .ok (.aload_n 0, 1) := by decide +kernel
theorem dL_law_1416 : decode cL_law 1416 = .ok (.iload_n 3, 1) := by decide +kernel
theorem dL_law_1417 : decode cL_law 1417 = .ok (.iconst 2, 1) := by decide +kernel
theorem dL_law_1418 : decode cL_law 1418 = .ok (.iadd, 1) := by decide +kernel
theorem dL_law_1419 : decode cL_law 1419 = .ok (.iaload, 1) := by decide +kernel
theorem dL_law_1420 : decode cL_law 1420 = .ok (.invokevirtual 168, 3) := by decide +kernel
theorem dL_law_1423 : decode cL_law 1423 = .ok (.pop, 1) := by decide +kernel
theorem dL_law_1424 : decode cL_law 1424 = .ok (.aload_n 2, 1) := by decide +kernel
theorem dL_law_1425 : decode cL_law 1425 = .ok (.aload_n 0, 1) := by decide +kernel
theorem dL_law_1426 : decode cL_law 1426 = .ok (.iload_n 3, 1) := by decide +kernel
theorem dL_law_1427 : decode cL_law 1427 = .ok (.iconst 1, 1) := by decide +kernel
theorem dL_law_1428 : decode cL_law 1428 = .ok (.iadd, 1) := by decide +kernel
theorem dL_law_1429 : decode cL_law 1429 = .ok (.iaload, 1) := by decide +kernel
theorem dL_law_1430 : decode cL_law 1430 = .ok (.aload_n 0, 1) := by decide +kernel
theorem dL_law_1431 : decode cL_law 1431 = .ok (.iload_n 3, 1) := by decide +kernel
theorem dL_law_1432 : decode cL_law 1432 = .ok (.iconst 2, 1) := by decide +kernel
theorem dL_law_1433 : decode cL_law 1433 = .ok (.iadd, 1) := by decide +kernel
theorem dL_law_1434 : decode cL_law 1434 = .ok (.iaload, 1) := by decide +kernel
theorem dL_law_1435 : decode cL_law 1435 = .ok (.invokevirtual 171, 3) := by decide +kernel
theorem dL_law_1438 : decode cL_law 1438 = .ok (.pop, 1) := by decide +kernel
theorem dL_law_1439 : decode cL_law 1439 = .ok (.goto 95, 3) := by decide +kernel
theorem dL_law_1442 : decode cL_law 1442 = .ok (.aload_n 1, 1) := by decide +kernel
theorem dL_law_1443 : decode cL_law 1443 = .ok (.aload_n 0, 1) := by decide +kernel
theorem dL_law_1444 : decode cL_law 1444 = .ok (.iload_n 3, 1) := by decide +kernel
theorem dL_law_1445 : decode cL_law 1445 = .ok (.iconst 1, 1) := by decide +kernel
theorem dL_law_1446 : decode cL_law 1446 = .ok (.iadd, 1) := by decide +kernel
theorem dL_law_1447 : decode cL_law 1447 = .ok (.iaload, 1) := by decide +kernel
theorem dL_law_1448 : decode cL_law 1448 = .ok (.aload_n 0, 1) := by decide +kernel
theorem dL_law_1449 : decode cL_law 1449 = .ok (.iload_n 3, 1) := by decide +kernel
theorem dL_law_1450 : decode cL_law 1450 = .ok (.iconst 2, 1) := by decide +kernel
theorem dL_law_1451 : decode cL_law 1451 = .ok (.iadd, 1) := by decide +kernel
theorem dL_law_1452 : decode cL_law 1452 = .ok (.iaload, 1) := by decide +kernel
theorem dL_law_1453 : decode cL_law 1453 = .ok (.invokevirtual 172, 3) := by decide +kernel
theorem dL_law_1456 : decode cL_law 1456 = .ok (.pop, 1) := by decide +kernel
theorem dL_law_1457 : decode cL_law 1457 = .ok (.aload_n 2, 1) := by decide +kernel
theorem dL_law_1458 : decode cL_law 1458 = .ok (.aload_n 0, 1) := by decide +kernel
theorem dL_law_1459 : decode cL_law 1459 = .ok (.iload_n 3, 1) := by decide +kernel
theorem dL_law_1460 : decode cL_law 1460 = .ok (.iconst 1, 1) := by decide +kernel
theorem dL_law_1461 : decode cL_law 1461 = .ok (.iadd, 1) := by decide +kernel
theorem dL_law_1462 : decode cL_law 1462 = .ok (.iaload, 1) := by decide +kernel
theorem dL_law_1463 : decode cL_law 1463 = .ok (.aload_n 0, 1) := by decide +kernel
theorem dL_law_1464 : decode cL_law 1464 = .ok (.iload_n 3, 1) := by decide +kernel
theorem dL_law_1465 : decode cL_law 1465 = .ok (.iconst 2, 1) := by decide +kernel
theorem dL_law_1466 : decode cL_law 1466 = .ok (.iadd, 1) := by decide +kernel
theorem dL_law_1467 : decode cL_law 1467 = .ok (.iaload, 1) := by decide +kernel
theorem dL_law_1468 : decode cL_law 1468 = .ok (.invokevirtual 175, 3) := by decide +kernel
theorem dL_law_1471 : decode cL_law 1471 = .ok (.pop, 1) := by decide +kernel
theorem dL_law_1472 : decode cL_law 1472 = .ok (.goto 62, 3) := by decide +kernel
theorem dL_law_1475 : decode cL_law 1475 = .ok (.aload_n 1, 1) := by decide +kernel
theorem dL_law_1476 : decode cL_law 1476 = .ok (.invokevirtual 176, 3) := by decide +kernel
theorem dL_law_1479 : decode cL_law 1479 = .ok (.pop, 1) := by decide +kernel
theorem dL_law_1480 : decode cL_law 1480 = .ok (.aload_n 2, 1) := by decide +kernel
theorem dL_law_1481 : decode cL_law 1481 = .ok (.invokevirtual 179, 3) := by decide +kernel
theorem dL_law_1484 : decode cL_law 1484 = .ok (.pop, 1) := by decide +kernel
theorem dL_law_1485 : decode cL_law 1485 = .ok (.goto 49, 3) := by decide +kernel
theorem dL_law_1488 : decode cL_law 1488 = .ok (.aload_n 1, 1) := by decide +kernel
theorem dL_law_1489 : decode cL_law 1489 = .ok (.aload_n 0, 1) := by decide +kernel
theorem dL_law_1490 : decode cL_law 1490 = .ok (.iload_n 3, 1) := by decide +kernel
theorem dL_law_1491 : decode cL_law 1491 = .ok (.iconst 1, 1) := by decide +kernel
theorem dL_law_1492 : decode cL_law 1492 = .ok (.iadd, 1) := by decide +kernel
theorem dL_law_1493 : decode cL_law 1493 = .ok (.iaload, 1) := by decide +kernel
theorem dL_law_1494 : decode cL_law 1494 = .ok (.invokevirtual 180, 3) := by decide +kernel
theorem dL_law_1497 : decode cL_law 1497 = .ok (.pop, 1) := by decide +kernel
theorem dL_law_1498 : decode cL_law 1498 = .ok (.aload_n 2, 1) := by decide +kernel
theorem dL_law_1499 : decode cL_law 1499 = .ok (.aload_n 0, 1) := by decide +kernel
theorem dL_law_1500 : decode cL_law 1500 = .ok (.iload_n 3, 1) := by decide +kernel
theorem dL_law_1501 : decode cL_law 1501 = .ok (.iconst 1, 1) := by decide +kernel
theorem dL_law_1502 : decode cL_law 1502 = .ok (.iadd, 1) := by decide +kernel
theorem dL_law_1503 : decode cL_law 1503 = .ok (.iaload, 1) := by decide +kernel
theorem dL_law_1504 : decode cL_law 1504 = .ok (.invokevirtual 183, 3) := by decide +kernel
theorem dL_law_1507 : decode cL_law 1507 = .ok (.pop, 1) := by decide +kernel
theorem dL_law_1508 : decode cL_law 1508 = .ok (.goto 26, 3) := by decide +kernel
theorem dL_law_1511 : decode cL_law 1511 = .ok (.aload_n 1, 1) := by decide +kernel
theorem dL_law_1512 : decode cL_law 1512 = .ok (.aload_n 0, 1) := by decide +kernel
theorem dL_law_1513 : decode cL_law 1513 = .ok (.iload_n 3, 1) := by decide +kernel
theorem dL_law_1514 : decode cL_law 1514 = .ok (.iconst 1, 1) := by decide +kernel
theorem dL_law_1515 : decode cL_law 1515 = .ok (.iadd, 1) := by decide +kernel
theorem dL_law_1516 : decode cL_law 1516 = .ok (.iaload, 1) := by decide +kernel
theorem dL_law_1517 : decode cL_law 1517 = .ok (.invokevirtual 184, 3) := by decide +kernel
theorem dL_law_1520 : decode cL_law 1520 = .ok (.pop, 1) := by decide +kernel
theorem dL_law_1521 : decode cL_law 1521 = .ok (.aload_n 2, 1) := by decide +kernel
theorem dL_law_1522 : decode cL_law 1522 = .ok (.aload_n 0, 1) := by decide +kernel
theorem dL_law_1523 : decode cL_law 1523 = .ok (.iload_n 3, 1) := by decide +kernel
theorem dL_law_1524 : decode cL_law 1524 = .ok (.iconst 1, 1) := by decide +kernel
theorem dL_law_1525 : decode cL_law 1525 = .ok (.iadd, 1) := by decide +kernel
theorem dL_law_1526 : decode cL_law 1526 = .ok (.iaload, 1) := by decide +kernel
theorem dL_law_1527 : decode cL_law 1527 = .ok (.invokevirtual 187, 3) := by decide +kernel
theorem dL_law_1530 : decode cL_law 1530 = .ok (.pop, 1) := by decide +kernel
theorem dL_law_1531 : decode cL_law 1531 = .ok (.goto 3, 3) := by decide +kernel
theorem dL_law_1534 : decode cL_law 1534 = .ok (.iinc 3 6, 3) := by decide +kernel
theorem dL_law_1537 : decode cL_law 1537 = .ok (.goto (-1519), 3) := by decide +kernel
theorem dL_law_1540 : decode cL_law 1540 = .ok (.iconst 1, 1) := by decide +kernel
theorem dL_law_1541 : decode cL_law 1541 = .ok (.ireturn, 1) := by decide +kernel
theorem zl_w684 : (Cond.methodLink RL 13 yX11_feed) ∈ gwL := gwt_3 25 (by decide +kernel) rfl
theorem zl_w685 : (Cond.instanceMethod yX11_feed) ∈ gwL := gwt_3 26 (by decide +kernel) rfl
theorem zl_w686 : (Cond.selects RX11 yX11_feed yX11_feed) ∈ gwL := gwt_3 27 (by decide +kernel) rfl
theorem zl_w687 : (Cond.code yX11_feed cX11_feed 6 (some .int)) ∈ gwL := gwt_3 28 (by decide +kernel) rfl
theorem zl_w180 : (Cond.initialized RX11) ∈ gwL := gwt_1 1 (by decide +kernel) rfl
theorem zl_w1445 : (Cond.methodLink RL 17 yX12_feed) ∈ gwL := gwt_6 66 (by decide +kernel) rfl
theorem zl_w1446 : (Cond.instanceMethod yX12_feed) ∈ gwL := gwt_6 67 (by decide +kernel) rfl
theorem zl_w1447 : (Cond.selects RX12 yX12_feed yX12_feed) ∈ gwL := gwt_6 68 (by decide +kernel) rfl
theorem zl_w1448 : (Cond.code yX12_feed cX12_feed 6 (some .int)) ∈ gwL := gwt_6 69 (by decide +kernel) rfl
theorem zl_w196 : (Cond.initialized RX12) ∈ gwL := gwt_1 17 (by decide +kernel) rfl
theorem zl_w692 : (Cond.methodLink RL 18 yX11_end) ∈ gwL := gwt_3 33 (by decide +kernel) rfl
theorem zl_w693 : (Cond.instanceMethod yX11_end) ∈ gwL := gwt_3 34 (by decide +kernel) rfl
theorem zl_w694 : (Cond.selects RX11 yX11_end yX11_end) ∈ gwL := gwt_3 35 (by decide +kernel) rfl
theorem zl_w695 : (Cond.code yX11_end cX11_end 2 (some .boolean)) ∈ gwL := gwt_3 36 (by decide +kernel) rfl
theorem zl_w1453 : (Cond.methodLink RL 22 yX12_end) ∈ gwL := gwt_6 74 (by decide +kernel) rfl
theorem zl_w1454 : (Cond.instanceMethod yX12_end) ∈ gwL := gwt_6 75 (by decide +kernel) rfl
theorem zl_w1455 : (Cond.selects RX12 yX12_end yX12_end) ∈ gwL := gwt_6 76 (by decide +kernel) rfl
theorem zl_w1456 : (Cond.code yX12_end cX12_end 2 (some .boolean)) ∈ gwL := gwt_6 77 (by decide +kernel) rfl
theorem zl_w696 : (Cond.methodLink RL 23 yX11_net) ∈ gwL := gwt_3 37 (by decide +kernel) rfl
theorem zl_w697 : (Cond.instanceMethod yX11_net) ∈ gwL := gwt_3 38 (by decide +kernel) rfl
theorem zl_w698 : (Cond.selects RX11 yX11_net yX11_net) ∈ gwL := gwt_3 39 (by decide +kernel) rfl
theorem zl_w699 : (Cond.code yX11_net cX11_net 2 (some .int)) ∈ gwL := gwt_3 40 (by decide +kernel) rfl
theorem zl_w1460 : (Cond.methodLink RL 27 yX12_net) ∈ gwL := gwt_6 81 (by decide +kernel) rfl
theorem zl_w1461 : (Cond.instanceMethod yX12_net) ∈ gwL := gwt_6 82 (by decide +kernel) rfl
theorem zl_w1462 : (Cond.selects RX12 yX12_net yX12_net) ∈ gwL := gwt_6 83 (by decide +kernel) rfl
theorem zl_w1463 : (Cond.code yX12_net cX12_net 2 (some .int)) ∈ gwL := gwt_6 84 (by decide +kernel) rfl
theorem zl_w874 : (Cond.methodLink RL 28 yX11_plan) ∈ gwL := gwt_3 215 (by decide +kernel) rfl
theorem zl_w875 : (Cond.instanceMethod yX11_plan) ∈ gwL := gwt_3 216 (by decide +kernel) rfl
theorem zl_w876 : (Cond.selects RX11 yX11_plan yX11_plan) ∈ gwL := gwt_3 217 (by decide +kernel) rfl
theorem zl_w877 : (Cond.code yX11_plan cX11_plan 2 (some .int)) ∈ gwL := gwt_3 218 (by decide +kernel) rfl
theorem zl_w1668 : (Cond.methodLink RL 31 yX12_plan) ∈ gwL := gwt_7 49 (by decide +kernel) rfl
theorem zl_w1669 : (Cond.instanceMethod yX12_plan) ∈ gwL := gwt_7 50 (by decide +kernel) rfl
theorem zl_w1670 : (Cond.selects RX12 yX12_plan yX12_plan) ∈ gwL := gwt_7 51 (by decide +kernel) rfl
theorem zl_w1671 : (Cond.code yX12_plan cX12_plan 3 (some .int)) ∈ gwL := gwt_7 52 (by decide +kernel) rfl
theorem zl_w951 : (Cond.methodLink RL 32 yX11_fault) ∈ gwL := gwt_4 52 (by decide +kernel) rfl
theorem zl_w952 : (Cond.instanceMethod yX11_fault) ∈ gwL := gwt_4 53 (by decide +kernel) rfl
theorem zl_w953 : (Cond.selects RX11 yX11_fault yX11_fault) ∈ gwL := gwt_4 54 (by decide +kernel) rfl
theorem zl_w954 : (Cond.code yX11_fault cX11_fault 2 (some .int)) ∈ gwL := gwt_4 55 (by decide +kernel) rfl
theorem zl_w1664 : (Cond.methodLink RL 36 yX12_fault) ∈ gwL := gwt_7 45 (by decide +kernel) rfl
theorem zl_w1665 : (Cond.instanceMethod yX12_fault) ∈ gwL := gwt_7 46 (by decide +kernel) rfl
theorem zl_w1666 : (Cond.selects RX12 yX12_fault yX12_fault) ∈ gwL := gwt_7 47 (by decide +kernel) rfl
theorem zl_w1667 : (Cond.code yX12_fault cX12_fault 2 (some .int)) ∈ gwL := gwt_7 48 (by decide +kernel) rfl
theorem zl_w955 : (Cond.methodLink RL 37 yX11_has) ∈ gwL := gwt_4 56 (by decide +kernel) rfl
theorem zl_w956 : (Cond.instanceMethod yX11_has) ∈ gwL := gwt_4 57 (by decide +kernel) rfl
theorem zl_w957 : (Cond.selects RX11 yX11_has yX11_has) ∈ gwL := gwt_4 58 (by decide +kernel) rfl
theorem zl_w958 : (Cond.code yX11_has cX11_has 2 (some .int)) ∈ gwL := gwt_4 59 (by decide +kernel) rfl
theorem zl_w1696 : (Cond.methodLink RL 40 yX12_has) ∈ gwL := gwt_7 77 (by decide +kernel) rfl
theorem zl_w1697 : (Cond.instanceMethod yX12_has) ∈ gwL := gwt_7 78 (by decide +kernel) rfl
theorem zl_w1698 : (Cond.selects RX12 yX12_has yX12_has) ∈ gwL := gwt_7 79 (by decide +kernel) rfl
theorem zl_w1699 : (Cond.code yX12_has cX12_has 2 (some .int)) ∈ gwL := gwt_7 80 (by decide +kernel) rfl
theorem zl_w969 : (Cond.methodLink RL 41 yX11_group) ∈ gwL := gwt_4 70 (by decide +kernel) rfl
theorem zl_w970 : (Cond.instanceMethod yX11_group) ∈ gwL := gwt_4 71 (by decide +kernel) rfl
theorem zl_w971 : (Cond.selects RX11 yX11_group yX11_group) ∈ gwL := gwt_4 72 (by decide +kernel) rfl
theorem zl_w972 : (Cond.code yX11_group cX11_group 3 (some .int)) ∈ gwL := gwt_4 73 (by decide +kernel) rfl
theorem zl_w1707 : (Cond.methodLink RL 45 yX12_group) ∈ gwL := gwt_7 88 (by decide +kernel) rfl
theorem zl_w1708 : (Cond.instanceMethod yX12_group) ∈ gwL := gwt_7 89 (by decide +kernel) rfl
theorem zl_w1709 : (Cond.selects RX12 yX12_group yX12_group) ∈ gwL := gwt_7 90 (by decide +kernel) rfl
theorem zl_w1710 : (Cond.code yX12_group cX12_group 3 (some .int)) ∈ gwL := gwt_7 91 (by decide +kernel) rfl
theorem zl_w974 : (Cond.methodLink RL 46 yX11_member) ∈ gwL := gwt_4 75 (by decide +kernel) rfl
theorem zl_w975 : (Cond.instanceMethod yX11_member) ∈ gwL := gwt_4 76 (by decide +kernel) rfl
theorem zl_w976 : (Cond.selects RX11 yX11_member yX11_member) ∈ gwL := gwt_4 77 (by decide +kernel) rfl
theorem zl_w977 : (Cond.code yX11_member cX11_member 5 (some .int)) ∈ gwL := gwt_4 78 (by decide +kernel) rfl
theorem zl_w1715 : (Cond.methodLink RL 50 yX12_member) ∈ gwL := gwt_7 96 (by decide +kernel) rfl
theorem zl_w1716 : (Cond.instanceMethod yX12_member) ∈ gwL := gwt_7 97 (by decide +kernel) rfl
theorem zl_w1717 : (Cond.selects RX12 yX12_member yX12_member) ∈ gwL := gwt_7 98 (by decide +kernel) rfl
theorem zl_w1718 : (Cond.code yX12_member cX12_member 5 (some .int)) ∈ gwL := gwt_7 99 (by decide +kernel) rfl
theorem zl_w992 : (Cond.methodLink RL 51 yX11_letter) ∈ gwL := gwt_4 93 (by decide +kernel) rfl
theorem zl_w993 : (Cond.instanceMethod yX11_letter) ∈ gwL := gwt_4 94 (by decide +kernel) rfl
theorem zl_w994 : (Cond.selects RX11 yX11_letter yX11_letter) ∈ gwL := gwt_4 95 (by decide +kernel) rfl
theorem zl_w995 : (Cond.code yX11_letter cX11_letter 4 (some .int)) ∈ gwL := gwt_4 96 (by decide +kernel) rfl
theorem zl_w1719 : (Cond.methodLink RL 54 yX12_letter) ∈ gwL := gwt_7 100 (by decide +kernel) rfl
theorem zl_w1720 : (Cond.instanceMethod yX12_letter) ∈ gwL := gwt_7 101 (by decide +kernel) rfl
theorem zl_w1721 : (Cond.selects RX12 yX12_letter yX12_letter) ∈ gwL := gwt_7 102 (by decide +kernel) rfl
theorem zl_w1722 : (Cond.code yX12_letter cX12_letter 6 (some .int)) ∈ gwL := gwt_7 103 (by decide +kernel) rfl
theorem zl_w1000 : (Cond.methodLink RL 55 yX11_track) ∈ gwL := gwt_4 101 (by decide +kernel) rfl
theorem zl_w1001 : (Cond.instanceMethod yX11_track) ∈ gwL := gwt_4 102 (by decide +kernel) rfl
theorem zl_w1002 : (Cond.selects RX11 yX11_track yX11_track) ∈ gwL := gwt_4 103 (by decide +kernel) rfl
theorem zl_w1003 : (Cond.code yX11_track cX11_track 3 (some .int)) ∈ gwL := gwt_4 104 (by decide +kernel) rfl
theorem zl_w1725 : (Cond.methodLink RL 58 yX12_track) ∈ gwL := gwt_7 106 (by decide +kernel) rfl
theorem zl_w1726 : (Cond.instanceMethod yX12_track) ∈ gwL := gwt_7 107 (by decide +kernel) rfl
theorem zl_w1727 : (Cond.selects RX12 yX12_track yX12_track) ∈ gwL := gwt_7 108 (by decide +kernel) rfl
theorem zl_w1728 : (Cond.code yX12_track cX12_track 3 (some .int)) ∈ gwL := gwt_7 109 (by decide +kernel) rfl
theorem zl_w1004 : (Cond.methodLink RL 59 yX11_event) ∈ gwL := gwt_4 105 (by decide +kernel) rfl
theorem zl_w1005 : (Cond.instanceMethod yX11_event) ∈ gwL := gwt_4 106 (by decide +kernel) rfl
theorem zl_w1006 : (Cond.selects RX11 yX11_event yX11_event) ∈ gwL := gwt_4 107 (by decide +kernel) rfl
theorem zl_w1007 : (Cond.code yX11_event cX11_event 3 (some .int)) ∈ gwL := gwt_4 108 (by decide +kernel) rfl
theorem zl_w1730 : (Cond.methodLink RL 62 yX12_event) ∈ gwL := gwt_7 111 (by decide +kernel) rfl
theorem zl_w1731 : (Cond.instanceMethod yX12_event) ∈ gwL := gwt_7 112 (by decide +kernel) rfl
theorem zl_w1732 : (Cond.selects RX12 yX12_event yX12_event) ∈ gwL := gwt_7 113 (by decide +kernel) rfl
theorem zl_w1733 : (Cond.code yX12_event cX12_event 3 (some .int)) ∈ gwL := gwt_7 114 (by decide +kernel) rfl
theorem zl_w1008 : (Cond.methodLink RL 63 yX11_ticks) ∈ gwL := gwt_4 109 (by decide +kernel) rfl
theorem zl_w1009 : (Cond.instanceMethod yX11_ticks) ∈ gwL := gwt_4 110 (by decide +kernel) rfl
theorem zl_w1010 : (Cond.selects RX11 yX11_ticks yX11_ticks) ∈ gwL := gwt_4 111 (by decide +kernel) rfl
theorem zl_w1011 : (Cond.code yX11_ticks cX11_ticks 2 (some .int)) ∈ gwL := gwt_4 112 (by decide +kernel) rfl
theorem zl_w1735 : (Cond.methodLink RL 66 yX12_ticks) ∈ gwL := gwt_7 116 (by decide +kernel) rfl
theorem zl_w1736 : (Cond.instanceMethod yX12_ticks) ∈ gwL := gwt_7 117 (by decide +kernel) rfl
theorem zl_w1737 : (Cond.selects RX12 yX12_ticks yX12_ticks) ∈ gwL := gwt_7 118 (by decide +kernel) rfl
theorem zl_w1738 : (Cond.code yX12_ticks cX12_ticks 3 (some .int)) ∈ gwL := gwt_7 119 (by decide +kernel) rfl
theorem zl_w1091 : (Cond.methodLink RL 67 yX11_up) ∈ gwL := gwt_4 192 (by decide +kernel) rfl
theorem zl_w1092 : (Cond.instanceMethod yX11_up) ∈ gwL := gwt_4 193 (by decide +kernel) rfl
theorem zl_w1093 : (Cond.selects RX11 yX11_up yX11_up) ∈ gwL := gwt_4 194 (by decide +kernel) rfl
theorem zl_w1094 : (Cond.code yX11_up cX11_up 2 (some .int)) ∈ gwL := gwt_4 195 (by decide +kernel) rfl
theorem zl_w1804 : (Cond.methodLink RL 70 yX12_up) ∈ gwL := gwt_7 185 (by decide +kernel) rfl
theorem zl_w1805 : (Cond.instanceMethod yX12_up) ∈ gwL := gwt_7 186 (by decide +kernel) rfl
theorem zl_w1806 : (Cond.selects RX12 yX12_up yX12_up) ∈ gwL := gwt_7 187 (by decide +kernel) rfl
theorem zl_w1807 : (Cond.code yX12_up cX12_up 2 (some .int)) ∈ gwL := gwt_7 188 (by decide +kernel) rfl
theorem zl_w1097 : (Cond.methodLink RL 71 yX11_down) ∈ gwL := gwt_4 198 (by decide +kernel) rfl
theorem zl_w1098 : (Cond.instanceMethod yX11_down) ∈ gwL := gwt_4 199 (by decide +kernel) rfl
theorem zl_w1099 : (Cond.selects RX11 yX11_down yX11_down) ∈ gwL := gwt_4 200 (by decide +kernel) rfl
theorem zl_w1100 : (Cond.code yX11_down cX11_down 3 (some .int)) ∈ gwL := gwt_4 201 (by decide +kernel) rfl
theorem zl_w1808 : (Cond.methodLink RL 75 yX12_down) ∈ gwL := gwt_7 189 (by decide +kernel) rfl
theorem zl_w1809 : (Cond.instanceMethod yX12_down) ∈ gwL := gwt_7 190 (by decide +kernel) rfl
theorem zl_w1810 : (Cond.selects RX12 yX12_down yX12_down) ∈ gwL := gwt_7 191 (by decide +kernel) rfl
theorem zl_w1811 : (Cond.code yX12_down cX12_down 3 (some .int)) ∈ gwL := gwt_7 192 (by decide +kernel) rfl
theorem zl_w1102 : (Cond.methodLink RL 76 yX11_cut) ∈ gwL := gwt_4 203 (by decide +kernel) rfl
theorem zl_w1103 : (Cond.instanceMethod yX11_cut) ∈ gwL := gwt_4 204 (by decide +kernel) rfl
theorem zl_w1104 : (Cond.selects RX11 yX11_cut yX11_cut) ∈ gwL := gwt_4 205 (by decide +kernel) rfl
theorem zl_w1105 : (Cond.code yX11_cut cX11_cut 3 (some .int)) ∈ gwL := gwt_4 206 (by decide +kernel) rfl
theorem zl_w1812 : (Cond.methodLink RL 79 yX12_cut) ∈ gwL := gwt_7 193 (by decide +kernel) rfl
theorem zl_w1813 : (Cond.instanceMethod yX12_cut) ∈ gwL := gwt_7 194 (by decide +kernel) rfl
theorem zl_w1814 : (Cond.selects RX12 yX12_cut yX12_cut) ∈ gwL := gwt_7 195 (by decide +kernel) rfl
theorem zl_w1815 : (Cond.code yX12_cut cX12_cut 3 (some .int)) ∈ gwL := gwt_7 196 (by decide +kernel) rfl
theorem zl_w1111 : (Cond.methodLink RL 80 yX11_split) ∈ gwL := gwt_4 212 (by decide +kernel) rfl
theorem zl_w1112 : (Cond.instanceMethod yX11_split) ∈ gwL := gwt_4 213 (by decide +kernel) rfl
theorem zl_w1113 : (Cond.selects RX11 yX11_split yX11_split) ∈ gwL := gwt_4 214 (by decide +kernel) rfl
theorem zl_w1114 : (Cond.code yX11_split cX11_split 2 (some .int)) ∈ gwL := gwt_4 215 (by decide +kernel) rfl
theorem zl_w1816 : (Cond.methodLink RL 83 yX12_split) ∈ gwL := gwt_7 197 (by decide +kernel) rfl
theorem zl_w1817 : (Cond.instanceMethod yX12_split) ∈ gwL := gwt_7 198 (by decide +kernel) rfl
theorem zl_w1818 : (Cond.selects RX12 yX12_split yX12_split) ∈ gwL := gwt_7 199 (by decide +kernel) rfl
theorem zl_w1819 : (Cond.code yX12_split cX12_split 2 (some .int)) ∈ gwL := gwt_7 200 (by decide +kernel) rfl
theorem zl_w1119 : (Cond.methodLink RL 84 yX11_word) ∈ gwL := gwt_4 220 (by decide +kernel) rfl
theorem zl_w1120 : (Cond.instanceMethod yX11_word) ∈ gwL := gwt_4 221 (by decide +kernel) rfl
theorem zl_w1121 : (Cond.selects RX11 yX11_word yX11_word) ∈ gwL := gwt_4 222 (by decide +kernel) rfl
theorem zl_w1122 : (Cond.code yX11_word cX11_word 5 (some .int)) ∈ gwL := gwt_4 223 (by decide +kernel) rfl
theorem zl_w1820 : (Cond.methodLink RL 87 yX12_word) ∈ gwL := gwt_7 201 (by decide +kernel) rfl
theorem zl_w1821 : (Cond.instanceMethod yX12_word) ∈ gwL := gwt_7 202 (by decide +kernel) rfl
theorem zl_w1822 : (Cond.selects RX12 yX12_word yX12_word) ∈ gwL := gwt_7 203 (by decide +kernel) rfl
theorem zl_w1823 : (Cond.code yX12_word cX12_word 5 (some .int)) ∈ gwL := gwt_7 204 (by decide +kernel) rfl
theorem zl_w1124 : (Cond.methodLink RL 88 yX11_chance) ∈ gwL := gwt_4 225 (by decide +kernel) rfl
theorem zl_w1125 : (Cond.instanceMethod yX11_chance) ∈ gwL := gwt_4 226 (by decide +kernel) rfl
theorem zl_w1126 : (Cond.selects RX11 yX11_chance yX11_chance) ∈ gwL := gwt_4 227 (by decide +kernel) rfl
theorem zl_w1127 : (Cond.code yX11_chance cX11_chance 3 (some .int)) ∈ gwL := gwt_4 228 (by decide +kernel) rfl
theorem zl_w1825 : (Cond.methodLink RL 91 yX12_chance) ∈ gwL := gwt_7 206 (by decide +kernel) rfl
theorem zl_w1826 : (Cond.instanceMethod yX12_chance) ∈ gwL := gwt_7 207 (by decide +kernel) rfl
theorem zl_w1827 : (Cond.selects RX12 yX12_chance yX12_chance) ∈ gwL := gwt_7 208 (by decide +kernel) rfl
theorem zl_w1828 : (Cond.code yX12_chance cX12_chance 3 (some .int)) ∈ gwL := gwt_7 209 (by decide +kernel) rfl
theorem zl_w1128 : (Cond.methodLink RL 92 yX11_holder) ∈ gwL := gwt_4 229 (by decide +kernel) rfl
theorem zl_w1129 : (Cond.instanceMethod yX11_holder) ∈ gwL := gwt_4 230 (by decide +kernel) rfl
theorem zl_w1130 : (Cond.selects RX11 yX11_holder yX11_holder) ∈ gwL := gwt_4 231 (by decide +kernel) rfl
theorem zl_w1131 : (Cond.code yX11_holder cX11_holder 3 (some .int)) ∈ gwL := gwt_4 232 (by decide +kernel) rfl
theorem zl_w1830 : (Cond.methodLink RL 95 yX12_holder) ∈ gwL := gwt_7 211 (by decide +kernel) rfl
theorem zl_w1831 : (Cond.instanceMethod yX12_holder) ∈ gwL := gwt_7 212 (by decide +kernel) rfl
theorem zl_w1832 : (Cond.selects RX12 yX12_holder yX12_holder) ∈ gwL := gwt_7 213 (by decide +kernel) rfl
theorem zl_w1833 : (Cond.code yX12_holder cX12_holder 3 (some .int)) ∈ gwL := gwt_7 214 (by decide +kernel) rfl
theorem zl_w1145 : (Cond.methodLink RL 96 yX11_doubles) ∈ gwL := gwt_5 6 (by decide +kernel) rfl
theorem zl_w1146 : (Cond.instanceMethod yX11_doubles) ∈ gwL := gwt_5 7 (by decide +kernel) rfl
theorem zl_w1147 : (Cond.selects RX11 yX11_doubles yX11_doubles) ∈ gwL := gwt_5 8 (by decide +kernel) rfl
theorem zl_w1148 : (Cond.code yX11_doubles cX11_doubles 3 (some .int)) ∈ gwL := gwt_5 9 (by decide +kernel) rfl
theorem zl_w1846 : (Cond.methodLink RL 99 yX12_doubles) ∈ gwL := gwt_7 227 (by decide +kernel) rfl
theorem zl_w1847 : (Cond.instanceMethod yX12_doubles) ∈ gwL := gwt_7 228 (by decide +kernel) rfl
theorem zl_w1848 : (Cond.selects RX12 yX12_doubles yX12_doubles) ∈ gwL := gwt_7 229 (by decide +kernel) rfl
theorem zl_w1849 : (Cond.code yX12_doubles cX12_doubles 3 (some .int)) ∈ gwL := gwt_7 230 (by decide +kernel) rfl
theorem zl_w1150 : (Cond.methodLink RL 100 yX11_orphans) ∈ gwL := gwt_5 11 (by decide +kernel) rfl
theorem zl_w1151 : (Cond.instanceMethod yX11_orphans) ∈ gwL := gwt_5 12 (by decide +kernel) rfl
theorem zl_w1152 : (Cond.selects RX11 yX11_orphans yX11_orphans) ∈ gwL := gwt_5 13 (by decide +kernel) rfl
theorem zl_w1153 : (Cond.code yX11_orphans cX11_orphans 4 (some .int)) ∈ gwL := gwt_5 14 (by decide +kernel) rfl
theorem zl_w1850 : (Cond.methodLink RL 103 yX12_orphans) ∈ gwL := gwt_7 231 (by decide +kernel) rfl
theorem zl_w1851 : (Cond.instanceMethod yX12_orphans) ∈ gwL := gwt_7 232 (by decide +kernel) rfl
theorem zl_w1852 : (Cond.selects RX12 yX12_orphans yX12_orphans) ∈ gwL := gwt_7 233 (by decide +kernel) rfl
theorem zl_w1853 : (Cond.code yX12_orphans cX12_orphans 3 (some .int)) ∈ gwL := gwt_7 234 (by decide +kernel) rfl
theorem zl_w1154 : (Cond.methodLink RL 104 yX11_holds) ∈ gwL := gwt_5 15 (by decide +kernel) rfl
theorem zl_w1155 : (Cond.instanceMethod yX11_holds) ∈ gwL := gwt_5 16 (by decide +kernel) rfl
theorem zl_w1156 : (Cond.selects RX11 yX11_holds yX11_holds) ∈ gwL := gwt_5 17 (by decide +kernel) rfl
theorem zl_w1157 : (Cond.code yX11_holds cX11_holds 4 (some .int)) ∈ gwL := gwt_5 18 (by decide +kernel) rfl
theorem zl_w1854 : (Cond.methodLink RL 107 yX12_holds) ∈ gwL := gwt_7 235 (by decide +kernel) rfl
theorem zl_w1855 : (Cond.instanceMethod yX12_holds) ∈ gwL := gwt_7 236 (by decide +kernel) rfl
theorem zl_w1856 : (Cond.selects RX12 yX12_holds yX12_holds) ∈ gwL := gwt_7 237 (by decide +kernel) rfl
theorem zl_w1857 : (Cond.code yX12_holds cX12_holds 4 (some .int)) ∈ gwL := gwt_7 238 (by decide +kernel) rfl
theorem zl_w1158 : (Cond.methodLink RL 108 yX11_slot) ∈ gwL := gwt_5 19 (by decide +kernel) rfl
theorem zl_w1159 : (Cond.instanceMethod yX11_slot) ∈ gwL := gwt_5 20 (by decide +kernel) rfl
theorem zl_w1160 : (Cond.selects RX11 yX11_slot yX11_slot) ∈ gwL := gwt_5 21 (by decide +kernel) rfl
theorem zl_w1161 : (Cond.code yX11_slot cX11_slot 4 (some .int)) ∈ gwL := gwt_5 22 (by decide +kernel) rfl
theorem zl_w1858 : (Cond.methodLink RL 111 yX12_slot) ∈ gwL := gwt_7 239 (by decide +kernel) rfl
theorem zl_w1859 : (Cond.instanceMethod yX12_slot) ∈ gwL := gwt_8 0 (by decide +kernel) rfl
theorem zl_w1860 : (Cond.selects RX12 yX12_slot yX12_slot) ∈ gwL := gwt_8 1 (by decide +kernel) rfl
theorem zl_w1861 : (Cond.code yX12_slot cX12_slot 4 (some .int)) ∈ gwL := gwt_8 2 (by decide +kernel) rfl
theorem zl_w1175 : (Cond.methodLink RL 112 yX11_slots) ∈ gwL := gwt_5 36 (by decide +kernel) rfl
theorem zl_w1176 : (Cond.instanceMethod yX11_slots) ∈ gwL := gwt_5 37 (by decide +kernel) rfl
theorem zl_w1177 : (Cond.selects RX11 yX11_slots yX11_slots) ∈ gwL := gwt_5 38 (by decide +kernel) rfl
theorem zl_w1178 : (Cond.code yX11_slots cX11_slots 3 (some .int)) ∈ gwL := gwt_5 39 (by decide +kernel) rfl
theorem zl_w1866 : (Cond.methodLink RL 115 yX12_slots) ∈ gwL := gwt_8 7 (by decide +kernel) rfl
theorem zl_w1867 : (Cond.instanceMethod yX12_slots) ∈ gwL := gwt_8 8 (by decide +kernel) rfl
theorem zl_w1868 : (Cond.selects RX12 yX12_slots yX12_slots) ∈ gwL := gwt_8 9 (by decide +kernel) rfl
theorem zl_w1869 : (Cond.code yX12_slots cX12_slots 3 (some .int)) ∈ gwL := gwt_8 10 (by decide +kernel) rfl
theorem zl_w1179 : (Cond.methodLink RL 116 yX11_host) ∈ gwL := gwt_5 40 (by decide +kernel) rfl
theorem zl_w1180 : (Cond.instanceMethod yX11_host) ∈ gwL := gwt_5 41 (by decide +kernel) rfl
theorem zl_w1181 : (Cond.selects RX11 yX11_host yX11_host) ∈ gwL := gwt_5 42 (by decide +kernel) rfl
theorem zl_w1182 : (Cond.code yX11_host cX11_host 4 (some .int)) ∈ gwL := gwt_5 43 (by decide +kernel) rfl
theorem zl_w1870 : (Cond.methodLink RL 119 yX12_host) ∈ gwL := gwt_8 11 (by decide +kernel) rfl
theorem zl_w1871 : (Cond.instanceMethod yX12_host) ∈ gwL := gwt_8 12 (by decide +kernel) rfl
theorem zl_w1872 : (Cond.selects RX12 yX12_host yX12_host) ∈ gwL := gwt_8 13 (by decide +kernel) rfl
theorem zl_w1873 : (Cond.code yX12_host cX12_host 4 (some .int)) ∈ gwL := gwt_8 14 (by decide +kernel) rfl
theorem zl_w1183 : (Cond.methodLink RL 120 yX11_load) ∈ gwL := gwt_5 44 (by decide +kernel) rfl
theorem zl_w1184 : (Cond.instanceMethod yX11_load) ∈ gwL := gwt_5 45 (by decide +kernel) rfl
theorem zl_w1185 : (Cond.selects RX11 yX11_load yX11_load) ∈ gwL := gwt_5 46 (by decide +kernel) rfl
theorem zl_w1186 : (Cond.code yX11_load cX11_load 4 (some .int)) ∈ gwL := gwt_5 47 (by decide +kernel) rfl
theorem zl_w1874 : (Cond.methodLink RL 123 yX12_load) ∈ gwL := gwt_8 15 (by decide +kernel) rfl
theorem zl_w1875 : (Cond.instanceMethod yX12_load) ∈ gwL := gwt_8 16 (by decide +kernel) rfl
theorem zl_w1876 : (Cond.selects RX12 yX12_load yX12_load) ∈ gwL := gwt_8 17 (by decide +kernel) rfl
theorem zl_w1877 : (Cond.code yX12_load cX12_load 7 (some .int)) ∈ gwL := gwt_8 18 (by decide +kernel) rfl
theorem zl_w1191 : (Cond.methodLink RL 124 yX11_ahead) ∈ gwL := gwt_5 52 (by decide +kernel) rfl
theorem zl_w1192 : (Cond.instanceMethod yX11_ahead) ∈ gwL := gwt_5 53 (by decide +kernel) rfl
theorem zl_w1193 : (Cond.selects RX11 yX11_ahead yX11_ahead) ∈ gwL := gwt_5 54 (by decide +kernel) rfl
theorem zl_w1194 : (Cond.code yX11_ahead cX11_ahead 4 (some .int)) ∈ gwL := gwt_5 55 (by decide +kernel) rfl
theorem zl_w1879 : (Cond.methodLink RL 127 yX12_ahead) ∈ gwL := gwt_8 20 (by decide +kernel) rfl
theorem zl_w1880 : (Cond.instanceMethod yX12_ahead) ∈ gwL := gwt_8 21 (by decide +kernel) rfl
theorem zl_w1881 : (Cond.selects RX12 yX12_ahead yX12_ahead) ∈ gwL := gwt_8 22 (by decide +kernel) rfl
theorem zl_w1882 : (Cond.code yX12_ahead cX12_ahead 3 (some .int)) ∈ gwL := gwt_8 23 (by decide +kernel) rfl
theorem zl_w1214 : (Cond.methodLink RL 128 yX11_fails) ∈ gwL := gwt_5 75 (by decide +kernel) rfl
theorem zl_w1215 : (Cond.instanceMethod yX11_fails) ∈ gwL := gwt_5 76 (by decide +kernel) rfl
theorem zl_w1216 : (Cond.selects RX11 yX11_fails yX11_fails) ∈ gwL := gwt_5 77 (by decide +kernel) rfl
theorem zl_w1217 : (Cond.code yX11_fails cX11_fails 5 (some .int)) ∈ gwL := gwt_5 78 (by decide +kernel) rfl
theorem zl_w1903 : (Cond.methodLink RL 131 yX12_fails) ∈ gwL := gwt_8 44 (by decide +kernel) rfl
theorem zl_w1904 : (Cond.instanceMethod yX12_fails) ∈ gwL := gwt_8 45 (by decide +kernel) rfl
theorem zl_w1905 : (Cond.selects RX12 yX12_fails yX12_fails) ∈ gwL := gwt_8 46 (by decide +kernel) rfl
theorem zl_w1906 : (Cond.code yX12_fails cX12_fails 5 (some .int)) ∈ gwL := gwt_8 47 (by decide +kernel) rfl
theorem zl_w1237 : (Cond.methodLink RL 132 yX11_worst) ∈ gwL := gwt_5 98 (by decide +kernel) rfl
theorem zl_w1238 : (Cond.instanceMethod yX11_worst) ∈ gwL := gwt_5 99 (by decide +kernel) rfl
theorem zl_w1239 : (Cond.selects RX11 yX11_worst yX11_worst) ∈ gwL := gwt_5 100 (by decide +kernel) rfl
theorem zl_w1240 : (Cond.code yX11_worst cX11_worst 8 (some .int)) ∈ gwL := gwt_5 101 (by decide +kernel) rfl
theorem zl_w1911 : (Cond.methodLink RL 135 yX12_worst) ∈ gwL := gwt_8 52 (by decide +kernel) rfl
theorem zl_w1912 : (Cond.instanceMethod yX12_worst) ∈ gwL := gwt_8 53 (by decide +kernel) rfl
theorem zl_w1913 : (Cond.selects RX12 yX12_worst yX12_worst) ∈ gwL := gwt_8 54 (by decide +kernel) rfl
theorem zl_w1914 : (Cond.code yX12_worst cX12_worst 7 (some .int)) ∈ gwL := gwt_8 55 (by decide +kernel) rfl
theorem zl_w1241 : (Cond.methodLink RL 136 yX11_settles) ∈ gwL := gwt_5 102 (by decide +kernel) rfl
theorem zl_w1242 : (Cond.instanceMethod yX11_settles) ∈ gwL := gwt_5 103 (by decide +kernel) rfl
theorem zl_w1243 : (Cond.selects RX11 yX11_settles yX11_settles) ∈ gwL := gwt_5 104 (by decide +kernel) rfl
theorem zl_w1244 : (Cond.code yX11_settles cX11_settles 1 (some .int)) ∈ gwL := gwt_5 105 (by decide +kernel) rfl
theorem zl_w1915 : (Cond.methodLink RL 139 yX12_settles) ∈ gwL := gwt_8 56 (by decide +kernel) rfl
theorem zl_w1916 : (Cond.instanceMethod yX12_settles) ∈ gwL := gwt_8 57 (by decide +kernel) rfl
theorem zl_w1917 : (Cond.selects RX12 yX12_settles yX12_settles) ∈ gwL := gwt_8 58 (by decide +kernel) rfl
theorem zl_w1918 : (Cond.code yX12_settles cX12_settles 4 (some .int)) ∈ gwL := gwt_8 59 (by decide +kernel) rfl
theorem zl_w1253 : (Cond.methodLink RL 140 yX11_least) ∈ gwL := gwt_5 114 (by decide +kernel) rfl
theorem zl_w1254 : (Cond.instanceMethod yX11_least) ∈ gwL := gwt_5 115 (by decide +kernel) rfl
theorem zl_w1255 : (Cond.selects RX11 yX11_least yX11_least) ∈ gwL := gwt_5 116 (by decide +kernel) rfl
theorem zl_w1256 : (Cond.code yX11_least cX11_least 3 (some .int)) ∈ gwL := gwt_5 117 (by decide +kernel) rfl
theorem zl_w1919 : (Cond.methodLink RL 143 yX12_least) ∈ gwL := gwt_8 60 (by decide +kernel) rfl
theorem zl_w1920 : (Cond.instanceMethod yX12_least) ∈ gwL := gwt_8 61 (by decide +kernel) rfl
theorem zl_w1921 : (Cond.selects RX12 yX12_least yX12_least) ∈ gwL := gwt_8 62 (by decide +kernel) rfl
theorem zl_w1922 : (Cond.code yX12_least cX12_least 4 (some .int)) ∈ gwL := gwt_8 63 (by decide +kernel) rfl
theorem zl_w1263 : (Cond.methodLink RL 144 yX11_flaps) ∈ gwL := gwt_5 124 (by decide +kernel) rfl
theorem zl_w1264 : (Cond.instanceMethod yX11_flaps) ∈ gwL := gwt_5 125 (by decide +kernel) rfl
theorem zl_w1265 : (Cond.selects RX11 yX11_flaps yX11_flaps) ∈ gwL := gwt_5 126 (by decide +kernel) rfl
theorem zl_w1266 : (Cond.code yX11_flaps cX11_flaps 3 (some .int)) ∈ gwL := gwt_5 127 (by decide +kernel) rfl
theorem zl_w1923 : (Cond.methodLink RL 147 yX12_flaps) ∈ gwL := gwt_8 64 (by decide +kernel) rfl
theorem zl_w1924 : (Cond.instanceMethod yX12_flaps) ∈ gwL := gwt_8 65 (by decide +kernel) rfl
theorem zl_w1925 : (Cond.selects RX12 yX12_flaps yX12_flaps) ∈ gwL := gwt_8 66 (by decide +kernel) rfl
theorem zl_w1926 : (Cond.code yX12_flaps cX12_flaps 4 (some .int)) ∈ gwL := gwt_8 67 (by decide +kernel) rfl
theorem zl_w1275 : (Cond.methodLink RL 148 yX11_needs) ∈ gwL := gwt_5 136 (by decide +kernel) rfl
theorem zl_w1276 : (Cond.instanceMethod yX11_needs) ∈ gwL := gwt_5 137 (by decide +kernel) rfl
theorem zl_w1277 : (Cond.selects RX11 yX11_needs yX11_needs) ∈ gwL := gwt_5 138 (by decide +kernel) rfl
theorem zl_w1278 : (Cond.code yX11_needs cX11_needs 7 (some .int)) ∈ gwL := gwt_5 139 (by decide +kernel) rfl
theorem zl_w1927 : (Cond.methodLink RL 151 yX12_needs) ∈ gwL := gwt_8 68 (by decide +kernel) rfl
theorem zl_w1928 : (Cond.instanceMethod yX12_needs) ∈ gwL := gwt_8 69 (by decide +kernel) rfl
theorem zl_w1929 : (Cond.selects RX12 yX12_needs yX12_needs) ∈ gwL := gwt_8 70 (by decide +kernel) rfl
theorem zl_w1930 : (Cond.code yX12_needs cX12_needs 6 (some .int)) ∈ gwL := gwt_8 71 (by decide +kernel) rfl
theorem zl_w1285 : (Cond.methodLink RL 152 yX11_letters) ∈ gwL := gwt_5 146 (by decide +kernel) rfl
theorem zl_w1286 : (Cond.instanceMethod yX11_letters) ∈ gwL := gwt_5 147 (by decide +kernel) rfl
theorem zl_w1287 : (Cond.selects RX11 yX11_letters yX11_letters) ∈ gwL := gwt_5 148 (by decide +kernel) rfl
theorem zl_w1288 : (Cond.code yX11_letters cX11_letters 2 (some .int)) ∈ gwL := gwt_5 149 (by decide +kernel) rfl
theorem zl_w1931 : (Cond.methodLink RL 155 yX12_letters) ∈ gwL := gwt_8 72 (by decide +kernel) rfl
theorem zl_w1932 : (Cond.instanceMethod yX12_letters) ∈ gwL := gwt_8 73 (by decide +kernel) rfl
theorem zl_w1933 : (Cond.selects RX12 yX12_letters yX12_letters) ∈ gwL := gwt_8 74 (by decide +kernel) rfl
theorem zl_w1934 : (Cond.code yX12_letters cX12_letters 3 (some .int)) ∈ gwL := gwt_8 75 (by decide +kernel) rfl
theorem zl_w1293 : (Cond.methodLink RL 156 yX11_stands) ∈ gwL := gwt_5 154 (by decide +kernel) rfl
theorem zl_w1294 : (Cond.instanceMethod yX11_stands) ∈ gwL := gwt_5 155 (by decide +kernel) rfl
theorem zl_w1295 : (Cond.selects RX11 yX11_stands yX11_stands) ∈ gwL := gwt_5 156 (by decide +kernel) rfl
theorem zl_w1296 : (Cond.code yX11_stands cX11_stands 4 (some .int)) ∈ gwL := gwt_5 157 (by decide +kernel) rfl
theorem zl_w1935 : (Cond.methodLink RL 159 yX12_stands) ∈ gwL := gwt_8 76 (by decide +kernel) rfl
theorem zl_w1936 : (Cond.instanceMethod yX12_stands) ∈ gwL := gwt_8 77 (by decide +kernel) rfl
theorem zl_w1937 : (Cond.selects RX12 yX12_stands yX12_stands) ∈ gwL := gwt_8 78 (by decide +kernel) rfl
theorem zl_w1938 : (Cond.code yX12_stands cX12_stands 6 (some .int)) ∈ gwL := gwt_8 79 (by decide +kernel) rfl
theorem zl_w1301 : (Cond.methodLink RL 160 yX11_returns) ∈ gwL := gwt_5 162 (by decide +kernel) rfl
theorem zl_w1302 : (Cond.instanceMethod yX11_returns) ∈ gwL := gwt_5 163 (by decide +kernel) rfl
theorem zl_w1303 : (Cond.selects RX11 yX11_returns yX11_returns) ∈ gwL := gwt_5 164 (by decide +kernel) rfl
theorem zl_w1304 : (Cond.code yX11_returns cX11_returns 3 (some .int)) ∈ gwL := gwt_5 165 (by decide +kernel) rfl
theorem zl_w1939 : (Cond.methodLink RL 163 yX12_returns) ∈ gwL := gwt_8 80 (by decide +kernel) rfl
theorem zl_w1940 : (Cond.instanceMethod yX12_returns) ∈ gwL := gwt_8 81 (by decide +kernel) rfl
theorem zl_w1941 : (Cond.selects RX12 yX12_returns yX12_returns) ∈ gwL := gwt_8 82 (by decide +kernel) rfl
theorem zl_w1942 : (Cond.code yX12_returns cX12_returns 4 (some .int)) ∈ gwL := gwt_8 83 (by decide +kernel) rfl
theorem zl_w1310 : (Cond.methodLink RL 164 yX11_under) ∈ gwL := gwt_5 171 (by decide +kernel) rfl
theorem zl_w1311 : (Cond.instanceMethod yX11_under) ∈ gwL := gwt_5 172 (by decide +kernel) rfl
theorem zl_w1312 : (Cond.selects RX11 yX11_under yX11_under) ∈ gwL := gwt_5 173 (by decide +kernel) rfl
theorem zl_w1313 : (Cond.code yX11_under cX11_under 5 (some .int)) ∈ gwL := gwt_5 174 (by decide +kernel) rfl
theorem zl_w1943 : (Cond.methodLink RL 167 yX12_under) ∈ gwL := gwt_8 84 (by decide +kernel) rfl
theorem zl_w1944 : (Cond.instanceMethod yX12_under) ∈ gwL := gwt_8 85 (by decide +kernel) rfl
theorem zl_w1945 : (Cond.selects RX12 yX12_under yX12_under) ∈ gwL := gwt_8 86 (by decide +kernel) rfl
theorem zl_w1946 : (Cond.code yX12_under cX12_under 4 (some .int)) ∈ gwL := gwt_8 87 (by decide +kernel) rfl
theorem zl_w1318 : (Cond.methodLink RL 168 yX11_rank) ∈ gwL := gwt_5 179 (by decide +kernel) rfl
theorem zl_w1319 : (Cond.instanceMethod yX11_rank) ∈ gwL := gwt_5 180 (by decide +kernel) rfl
theorem zl_w1320 : (Cond.selects RX11 yX11_rank yX11_rank) ∈ gwL := gwt_5 181 (by decide +kernel) rfl
theorem zl_w1321 : (Cond.code yX11_rank cX11_rank 6 (some .int)) ∈ gwL := gwt_5 182 (by decide +kernel) rfl
theorem zl_w1947 : (Cond.methodLink RL 171 yX12_rank) ∈ gwL := gwt_8 88 (by decide +kernel) rfl
theorem zl_w1948 : (Cond.instanceMethod yX12_rank) ∈ gwL := gwt_8 89 (by decide +kernel) rfl
theorem zl_w1949 : (Cond.selects RX12 yX12_rank yX12_rank) ∈ gwL := gwt_8 90 (by decide +kernel) rfl
theorem zl_w1950 : (Cond.code yX12_rank cX12_rank 6 (some .int)) ∈ gwL := gwt_8 91 (by decide +kernel) rfl
theorem zl_w1324 : (Cond.methodLink RL 172 yX11_log) ∈ gwL := gwt_5 185 (by decide +kernel) rfl
theorem zl_w1325 : (Cond.instanceMethod yX11_log) ∈ gwL := gwt_5 186 (by decide +kernel) rfl
theorem zl_w1326 : (Cond.selects RX11 yX11_log yX11_log) ∈ gwL := gwt_5 187 (by decide +kernel) rfl
theorem zl_w1327 : (Cond.code yX11_log cX11_log 3 (some .int)) ∈ gwL := gwt_5 188 (by decide +kernel) rfl
theorem zl_w1951 : (Cond.methodLink RL 175 yX12_log) ∈ gwL := gwt_8 92 (by decide +kernel) rfl
theorem zl_w1952 : (Cond.instanceMethod yX12_log) ∈ gwL := gwt_8 93 (by decide +kernel) rfl
theorem zl_w1953 : (Cond.selects RX12 yX12_log yX12_log) ∈ gwL := gwt_8 94 (by decide +kernel) rfl
theorem zl_w1954 : (Cond.code yX12_log cX12_log 3 (some .int)) ∈ gwL := gwt_8 95 (by decide +kernel) rfl
theorem zl_w1332 : (Cond.methodLink RL 176 yX11_undo) ∈ gwL := gwt_5 193 (by decide +kernel) rfl
theorem zl_w1333 : (Cond.instanceMethod yX11_undo) ∈ gwL := gwt_5 194 (by decide +kernel) rfl
theorem zl_w1334 : (Cond.selects RX11 yX11_undo yX11_undo) ∈ gwL := gwt_5 195 (by decide +kernel) rfl
theorem zl_w1335 : (Cond.code yX11_undo cX11_undo 1 (some .int)) ∈ gwL := gwt_5 196 (by decide +kernel) rfl
theorem zl_w1955 : (Cond.methodLink RL 179 yX12_undo) ∈ gwL := gwt_8 96 (by decide +kernel) rfl
theorem zl_w1956 : (Cond.instanceMethod yX12_undo) ∈ gwL := gwt_8 97 (by decide +kernel) rfl
theorem zl_w1957 : (Cond.selects RX12 yX12_undo yX12_undo) ∈ gwL := gwt_8 98 (by decide +kernel) rfl
theorem zl_w1958 : (Cond.code yX12_undo cX12_undo 1 (some .int)) ∈ gwL := gwt_8 99 (by decide +kernel) rfl
theorem zl_w1340 : (Cond.methodLink RL 180 yX11_keep) ∈ gwL := gwt_5 201 (by decide +kernel) rfl
theorem zl_w1341 : (Cond.instanceMethod yX11_keep) ∈ gwL := gwt_5 202 (by decide +kernel) rfl
theorem zl_w1342 : (Cond.selects RX11 yX11_keep yX11_keep) ∈ gwL := gwt_5 203 (by decide +kernel) rfl
theorem zl_w1343 : (Cond.code yX11_keep cX11_keep 2 (some .int)) ∈ gwL := gwt_5 204 (by decide +kernel) rfl
theorem zl_w1959 : (Cond.methodLink RL 183 yX12_keep) ∈ gwL := gwt_8 100 (by decide +kernel) rfl
theorem zl_w1960 : (Cond.instanceMethod yX12_keep) ∈ gwL := gwt_8 101 (by decide +kernel) rfl
theorem zl_w1961 : (Cond.selects RX12 yX12_keep yX12_keep) ∈ gwL := gwt_8 102 (by decide +kernel) rfl
theorem zl_w1962 : (Cond.code yX12_keep cX12_keep 2 (some .int)) ∈ gwL := gwt_8 103 (by decide +kernel) rfl
theorem zl_w1348 : (Cond.methodLink RL 184 yX11_back) ∈ gwL := gwt_5 209 (by decide +kernel) rfl
theorem zl_w1349 : (Cond.instanceMethod yX11_back) ∈ gwL := gwt_5 210 (by decide +kernel) rfl
theorem zl_w1350 : (Cond.selects RX11 yX11_back yX11_back) ∈ gwL := gwt_5 211 (by decide +kernel) rfl
theorem zl_w1351 : (Cond.code yX11_back cX11_back 2 (some .int)) ∈ gwL := gwt_5 212 (by decide +kernel) rfl
theorem zl_w1963 : (Cond.methodLink RL 187 yX12_back) ∈ gwL := gwt_8 104 (by decide +kernel) rfl
theorem zl_w1964 : (Cond.instanceMethod yX12_back) ∈ gwL := gwt_8 105 (by decide +kernel) rfl
theorem zl_w1965 : (Cond.selects RX12 yX12_back yX12_back) ∈ gwL := gwt_8 106 (by decide +kernel) rfl
theorem zl_w1966 : (Cond.code yX12_back cX12_back 2 (some .int)) ∈ gwL := gwt_8 107 (by decide +kernel) rfl
