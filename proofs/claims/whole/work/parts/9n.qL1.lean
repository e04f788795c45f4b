theorem q326_0 : qD 326 0 (.new 8) 3 3 ∧ 10 < 12 ∧ inG 136 (.classLink (mN 326).cls 8 (vC 10)) ∧ inG 137 (.instantiable (vC 10) (vN 10)) ∧ inG 111 (.initialized (vC 10)) := by decide +kernel
theorem q326_3 : qD 326 3 (.dup) 1 4 := by decide +kernel
theorem q326_4 : qD 326 4 (.invokespecial 15) 3 7 ∧ qI 326 15 86 138 ∧ mR 86 = none := by decide +kernel
theorem q326_7 : qD 326 7 (.astore_n 1) 1 8 ∧ ((1 : Fin 4) : Nat) = 1 ∧ 1 < mL 326 := by decide +kernel
theorem q326_8 : qD 326 8 (.new 16) 3 11 ∧ 11 < 12 ∧ inG 1257 (.classLink (mN 326).cls 16 (vC 11)) ∧ inG 1258 (.instantiable (vC 11) (vN 11)) ∧ inG 122 (.initialized (vC 11)) := by decide +kernel
theorem q326_11 : qD 326 11 (.dup) 1 12 := by decide +kernel
theorem q326_12 : qD 326 12 (.invokespecial 18) 3 15 ∧ qI 326 18 168 1259 ∧ mR 168 = none := by decide +kernel
theorem q326_15 : qD 326 15 (.astore_n 2) 1 16 ∧ ((2 : Fin 4) : Nat) = 2 ∧ 2 < mL 326 := by decide +kernel
theorem q326_16 : qD 326 16 (.iconst 1) 1 17 ∧ Int32.ofInt (1) = (1 : Int32) := by decide +kernel
theorem q326_17 : qD 326 17 (.newarray .long) 2 19 ∧ (103 = 100 ∨ 103 = 101 ∨ 103 = 102 ∨ 103 = 103) ∧ newarray.typeOf .long = kty 103 ∧ inG 1937 (.arrayClass (kty 103)) := by decide +kernel
theorem q326_19 : qD 326 19 (.astore_n 3) 1 20 ∧ ((3 : Fin 4) : Nat) = 3 ∧ 3 < mL 326 := by decide +kernel
theorem q326_20 : qD 326 20 (.iconst 0) 1 21 ∧ Int32.ofInt (0) = (0 : Int32) := by decide +kernel
theorem q326_21 : qD 326 21 (.istore 4) 2 23 ∧ 4 < mL 326 := by decide +kernel
theorem q326_23 : qD 326 23 (.iload 4) 2 25 := by decide +kernel
theorem q326_25 : qD 326 25 (.aload_n 0) 1 26 ∧ ((0 : Fin 4) : Nat) = 0 := by decide +kernel
theorem q326_26 : qD 326 26 (.arraylength) 1 27 := by decide +kernel
theorem q326_27 : qD 326 27 (.bipush 6) 2 29 ∧ (Int8.ofInt (6)).toInt32 = (6 : Int32) := by decide +kernel
theorem q326_29 : qD 326 29 (.isub) 1 30 := by decide +kernel
theorem q326_30 : qJ 326 30 (.if_icmp .gt 1688) 33 (1688) 1718 := by decide +kernel
theorem q326_33 : qD 326 33 (.aload_n 0) 1 34 ∧ ((0 : Fin 4) : Nat) = 0 := by decide +kernel
theorem q326_34 : qD 326 34 (.iload 4) 2 36 := by decide +kernel
theorem q326_36 : qD 326 36 (.iaload) 1 37 := by decide +kernel
theorem q326_37 : qD 326 37 (.bipush 63) 2 39 ∧ (Int8.ofInt (63)).toInt32 = (63 : Int32) := by decide +kernel
theorem q326_39 : qD 326 39 (.iand) 1 40 := by decide +kernel
theorem q326_40 : qD 326 40 (.tableswitch 1672 0 48 #[212, 285, 310, 335, 360, 385, 453, 490, 527, 552, 577, 602, 615, 652, 689, 702, 727, 796, 809, 846, 895, 932, 957, 994, 1031, 1056, 1069, 1094, 1159, 1172, 1209, 1246, 1271, 1284, 1309, 1334, 1371, 1384, 1409, 1422, 1447, 1460, 1473, 1486, 1511, 1572, 1621, 1634, 1647]) 212 252 ∧ (40 : Int) + (1672) = (1712 : Int) ∧ ((48 : Int) - (0) + 1).toNat = (#[212, 285, 310, 335, 360, 385, 453, 490, 527, 552, 577, 602, 615, 652, 689, 702, 727, 796, 809, 846, 895, 932, 957, 994, 1031, 1056, 1069, 1094, 1159, 1172, 1209, 1246, 1271, 1284, 1309, 1334, 1371, 1384, 1409, 1422, 1447, 1460, 1473, 1486, 1511, 1572, 1621, 1634, 1647] : Array Int).size := by decide +kernel
theorem q326_252 : qD 326 252 (.aload_n 1) 1 253 ∧ ((1 : Fin 4) : Nat) = 1 := by decide +kernel
theorem q326_253 : qD 326 253 (.aload_n 0) 1 254 ∧ ((0 : Fin 4) : Nat) = 0 := by decide +kernel
theorem q326_254 : qD 326 254 (.iload 4) 2 256 := by decide +kernel
theorem q326_256 : qD 326 256 (.iconst 1) 1 257 ∧ Int32.ofInt (1) = (1 : Int32) := by decide +kernel
theorem q326_257 : qD 326 257 (.iadd) 1 258 := by decide +kernel
theorem q326_258 : qD 326 258 (.iaload) 1 259 := by decide +kernel
theorem q326_259 : qD 326 259 (.aload_n 0) 1 260 ∧ ((0 : Fin 4) : Nat) = 0 := by decide +kernel
theorem q326_260 : qD 326 260 (.iload 4) 2 262 := by decide +kernel
theorem q326_262 : qD 326 262 (.iconst 2) 1 263 ∧ Int32.ofInt (2) = (2 : Int32) := by decide +kernel
theorem q326_263 : qD 326 263 (.iadd) 1 264 := by decide +kernel
theorem q326_264 : qD 326 264 (.iaload) 1 265 := by decide +kernel
theorem q326_265 : qD 326 265 (.aload_n 0) 1 266 ∧ ((0 : Fin 4) : Nat) = 0 := by decide +kernel
theorem q326_266 : qD 326 266 (.iload 4) 2 268 := by decide +kernel
theorem q326_268 : qD 326 268 (.iconst 3) 1 269 ∧ Int32.ofInt (3) = (3 : Int32) := by decide +kernel
theorem q326_269 : qD 326 269 (.iadd) 1 270 := by decide +kernel
theorem q326_270 : qD 326 270 (.iaload) 1 271 := by decide +kernel
theorem q326_271 : qD 326 271 (.aload_n 0) 1 272 ∧ ((0 : Fin 4) : Nat) = 0 := by decide +kernel
theorem q326_272 : qD 326 272 (.iload 4) 2 274 := by decide +kernel
theorem q326_274 : qD 326 274 (.iconst 4) 1 275 ∧ Int32.ofInt (4) = (4 : Int32) := by decide +kernel
theorem q326_275 : qD 326 275 (.iadd) 1 276 := by decide +kernel
theorem q326_276 : qD 326 276 (.iaload) 1 277 := by decide +kernel
theorem q326_277 : qD 326 277 (.aload_n 0) 1 278 ∧ ((0 : Fin 4) : Nat) = 0 := by decide +kernel
theorem q326_278 : qD 326 278 (.iload 4) 2 280 := by decide +kernel
theorem q326_280 : qD 326 280 (.iconst 5) 1 281 ∧ Int32.ofInt (5) = (5 : Int32) := by decide +kernel
theorem q326_281 : qD 326 281 (.iadd) 1 282 := by decide +kernel
theorem q326_282 : qD 326 282 (.iaload) 1 283 := by decide +kernel
theorem q326_283 : qD 326 283 (.invokevirtual 19) 3 286 ∧ qI 326 19 87 385 := by decide +kernel
theorem q326_286 : qD 326 286 (.aload_n 2) 1 287 ∧ ((2 : Fin 4) : Nat) = 2 := by decide +kernel
theorem q326_287 : qD 326 287 (.aload_n 0) 1 288 ∧ ((0 : Fin 4) : Nat) = 0 := by decide +kernel
theorem q326_288 : qD 326 288 (.iload 4) 2 290 := by decide +kernel
theorem q326_290 : qD 326 290 (.iconst 1) 1 291 ∧ Int32.ofInt (1) = (1 : Int32) := by decide +kernel
theorem q326_291 : qD 326 291 (.iadd) 1 292 := by decide +kernel
theorem q326_292 : qD 326 292 (.iaload) 1 293 := by decide +kernel
theorem q326_293 : qD 326 293 (.aload_n 0) 1 294 ∧ ((0 : Fin 4) : Nat) = 0 := by decide +kernel
theorem q326_294 : qD 326 294 (.iload 4) 2 296 := by decide +kernel
theorem q326_296 : qD 326 296 (.iconst 2) 1 297 ∧ Int32.ofInt (2) = (2 : Int32) := by decide +kernel
theorem q326_297 : qD 326 297 (.iadd) 1 298 := by decide +kernel
theorem q326_298 : qD 326 298 (.iaload) 1 299 := by decide +kernel
theorem q326_299 : qD 326 299 (.aload_n 0) 1 300 ∧ ((0 : Fin 4) : Nat) = 0 := by decide +kernel
theorem q326_300 : qD 326 300 (.iload 4) 2 302 := by decide +kernel
theorem q326_302 : qD 326 302 (.iconst 3) 1 303 ∧ Int32.ofInt (3) = (3 : Int32) := by decide +kernel
theorem q326_303 : qD 326 303 (.iadd) 1 304 := by decide +kernel
theorem q326_304 : qD 326 304 (.iaload) 1 305 := by decide +kernel
theorem q326_305 : qD 326 305 (.aload_n 0) 1 306 ∧ ((0 : Fin 4) : Nat) = 0 := by decide +kernel
theorem q326_306 : qD 326 306 (.iload 4) 2 308 := by decide +kernel
theorem q326_308 : qD 326 308 (.iconst 4) 1 309 ∧ Int32.ofInt (4) = (4 : Int32) := by decide +kernel
theorem q326_309 : qD 326 309 (.iadd) 1 310 := by decide +kernel
theorem q326_310 : qD 326 310 (.iaload) 1 311 := by decide +kernel
theorem q326_311 : qD 326 311 (.aload_n 0) 1 312 ∧ ((0 : Fin 4) : Nat) = 0 := by decide +kernel
theorem q326_312 : qD 326 312 (.iload 4) 2 314 := by decide +kernel
theorem q326_314 : qD 326 314 (.iconst 5) 1 315 ∧ Int32.ofInt (5) = (5 : Int32) := by decide +kernel
theorem q326_315 : qD 326 315 (.iadd) 1 316 := by decide +kernel
theorem q326_316 : qD 326 316 (.iaload) 1 317 := by decide +kernel
theorem q326_317 : qD 326 317 (.invokevirtual 23) 3 320 ∧ qI 326 23 175 1415 := by decide +kernel
theorem q326_320 : qJ 326 320 (.if_icmp .eq 1392) 323 (1392) 1712 := by decide +kernel
theorem q326_323 : qD 326 323 (.iconst 0) 1 324 ∧ Int32.ofInt (0) = (0 : Int32) := by decide +kernel
theorem q326_324 : qD 326 324 (.ireturn) 1 325 ∧ mR 326 = some .boolean := by decide +kernel
theorem q326_325 : qD 326 325 (.aload_n 1) 1 326 ∧ ((1 : Fin 4) : Nat) = 1 := by decide +kernel
theorem q326_326 : qD 326 326 (.aload_n 0) 1 327 ∧ ((0 : Fin 4) : Nat) = 0 := by decide +kernel
theorem q326_327 : qD 326 327 (.iload 4) 2 329 := by decide +kernel
theorem q326_329 : qD 326 329 (.iconst 1) 1 330 ∧ Int32.ofInt (1) = (1 : Int32) := by decide +kernel
theorem q326_330 : qD 326 330 (.iadd) 1 331 := by decide +kernel
theorem q326_331 : qD 326 331 (.iaload) 1 332 := by decide +kernel
theorem q326_332 : qD 326 332 (.invokevirtual 24) 3 335 ∧ qI 326 24 88 396 := by decide +kernel
theorem q326_335 : qD 326 335 (.aload_n 2) 1 336 ∧ ((2 : Fin 4) : Nat) = 2 := by decide +kernel
theorem q326_336 : qD 326 336 (.aload_n 0) 1 337 ∧ ((0 : Fin 4) : Nat) = 0 := by decide +kernel
theorem q326_337 : qD 326 337 (.iload 4) 2 339 := by decide +kernel
theorem q326_339 : qD 326 339 (.iconst 1) 1 340 ∧ Int32.ofInt (1) = (1 : Int32) := by decide +kernel
theorem q326_340 : qD 326 340 (.iadd) 1 341 := by decide +kernel
theorem q326_341 : qD 326 341 (.iaload) 1 342 := by decide +kernel
theorem q326_342 : qD 326 342 (.invokevirtual 28) 3 345 ∧ qI 326 28 176 1426 := by decide +kernel
theorem q326_345 : qJ 326 345 (.if_icmp .eq 1367) 348 (1367) 1712 := by decide +kernel
theorem q326_348 : qD 326 348 (.iconst 0) 1 349 ∧ Int32.ofInt (0) = (0 : Int32) := by decide +kernel
theorem q326_349 : qD 326 349 (.ireturn) 1 350 ∧ mR 326 = some .boolean := by decide +kernel
theorem q326_350 : qD 326 350 (.aload_n 1) 1 351 ∧ ((1 : Fin 4) : Nat) = 1 := by decide +kernel
theorem q326_351 : qD 326 351 (.aload_n 0) 1 352 ∧ ((0 : Fin 4) : Nat) = 0 := by decide +kernel
theorem q326_352 : qD 326 352 (.iload 4) 2 354 := by decide +kernel
theorem q326_354 : qD 326 354 (.iconst 1) 1 355 ∧ Int32.ofInt (1) = (1 : Int32) := by decide +kernel
theorem q326_355 : qD 326 355 (.iadd) 1 356 := by decide +kernel
theorem q326_356 : qD 326 356 (.iaload) 1 357 := by decide +kernel
theorem q326_357 : qD 326 357 (.invokevirtual 29) 3 360 ∧ qI 326 29 89 400 := by decide +kernel
theorem q326_360 : qD 326 360 (.aload_n 2) 1 361 ∧ ((2 : Fin 4) : Nat) = 2 := by decide +kernel
theorem q326_361 : qD 326 361 (.aload_n 0) 1 362 ∧ ((0 : Fin 4) : Nat) = 0 := by decide +kernel
theorem q326_362 : qD 326 362 (.iload 4) 2 364 := by decide +kernel
theorem q326_364 : qD 326 364 (.iconst 1) 1 365 ∧ Int32.ofInt (1) = (1 : Int32) := by decide +kernel
theorem q326_365 : qD 326 365 (.iadd) 1 366 := by decide +kernel
theorem q326_366 : qD 326 366 (.iaload) 1 367 := by decide +kernel
theorem q326_367 : qD 326 367 (.invokevirtual 33) 3 370 ∧ qI 326 33 206 1430 := by decide +kernel
theorem q326_370 : qJ 326 370 (.if_icmp .eq 1342) 373 (1342) 1712 := by decide +kernel
theorem q326_373 : qD 326 373 (.iconst 0) 1 374 ∧ Int32.ofInt (0) = (0 : Int32) := by decide +kernel
theorem q326_374 : qD 326 374 (.ireturn) 1 375 ∧ mR 326 = some .boolean := by decide +kernel
theorem q326_375 : qD 326 375 (.aload_n 1) 1 376 ∧ ((1 : Fin 4) : Nat) = 1 := by decide +kernel
theorem q326_376 : qD 326 376 (.aload_n 0) 1 377 ∧ ((0 : Fin 4) : Nat) = 0 := by decide +kernel
theorem q326_377 : qD 326 377 (.iload 4) 2 379 := by decide +kernel
theorem q326_379 : qD 326 379 (.iconst 1) 1 380 ∧ Int32.ofInt (1) = (1 : Int32) := by decide +kernel
theorem q326_380 : qD 326 380 (.iadd) 1 381 := by decide +kernel
theorem q326_381 : qD 326 381 (.iaload) 1 382 := by decide +kernel
theorem q326_382 : qD 326 382 (.invokevirtual 34) 3 385 ∧ qI 326 34 90 659 := by decide +kernel
theorem q326_385 : qD 326 385 (.aload_n 2) 1 386 ∧ ((2 : Fin 4) : Nat) = 2 := by decide +kernel
theorem q326_386 : qD 326 386 (.aload_n 0) 1 387 ∧ ((0 : Fin 4) : Nat) = 0 := by decide +kernel
theorem q326_387 : qD 326 387 (.iload 4) 2 389 := by decide +kernel
theorem q326_389 : qD 326 389 (.iconst 1) 1 390 ∧ Int32.ofInt (1) = (1 : Int32) := by decide +kernel
theorem q326_390 : qD 326 390 (.iadd) 1 391 := by decide +kernel
theorem q326_391 : qD 326 391 (.iaload) 1 392 := by decide +kernel
theorem q326_392 : qD 326 392 (.invokevirtual 37) 3 395 ∧ qI 326 37 207 1583 := by decide +kernel
theorem q326_395 : qJ 326 395 (.if_icmp .eq 1317) 398 (1317) 1712 := by decide +kernel
theorem q326_398 : qD 326 398 (.iconst 0) 1 399 ∧ Int32.ofInt (0) = (0 : Int32) := by decide +kernel
theorem q326_399 : qD 326 399 (.ireturn) 1 400 ∧ mR 326 = some .boolean := by decide +kernel
theorem q326_400 : qD 326 400 (.aload_n 1) 1 401 ∧ ((1 : Fin 4) : Nat) = 1 := by decide +kernel
theorem q326_401 : qD 326 401 (.aload_n 0) 1 402 ∧ ((0 : Fin 4) : Nat) = 0 := by decide +kernel
theorem q326_402 : qD 326 402 (.iload 4) 2 404 := by decide +kernel
theorem q326_404 : qD 326 404 (.iconst 1) 1 405 ∧ Int32.ofInt (1) = (1 : Int32) := by decide +kernel
theorem q326_405 : qD 326 405 (.iadd) 1 406 := by decide +kernel
theorem q326_406 : qD 326 406 (.iaload) 1 407 := by decide +kernel
theorem q326_407 : qD 326 407 (.invokevirtual 38) 3 410 ∧ qI 326 38 94 691 := by decide +kernel
theorem q326_410 : qD 326 410 (.aload_n 2) 1 411 ∧ ((2 : Fin 4) : Nat) = 2 := by decide +kernel
theorem q326_411 : qD 326 411 (.aload_n 0) 1 412 ∧ ((0 : Fin 4) : Nat) = 0 := by decide +kernel
theorem q326_412 : qD 326 412 (.iload 4) 2 414 := by decide +kernel
theorem q326_414 : qD 326 414 (.iconst 1) 1 415 ∧ Int32.ofInt (1) = (1 : Int32) := by decide +kernel
theorem q326_415 : qD 326 415 (.iadd) 1 416 := by decide +kernel
theorem q326_416 : qD 326 416 (.iaload) 1 417 := by decide +kernel
theorem q326_417 : qD 326 417 (.invokevirtual 41) 3 420 ∧ qI 326 41 222 1592 := by decide +kernel
theorem q326_420 : qJ 326 420 (.if_icmp .eq 1292) 423 (1292) 1712 := by decide +kernel
theorem q326_423 : qD 326 423 (.iconst 0) 1 424 ∧ Int32.ofInt (0) = (0 : Int32) := by decide +kernel
theorem q326_424 : qD 326 424 (.ireturn) 1 425 ∧ mR 326 = some .boolean := by decide +kernel
theorem q326_425 : qD 326 425 (.aload_n 1) 1 426 ∧ ((1 : Fin 4) : Nat) = 1 := by decide +kernel
theorem q326_426 : qD 326 426 (.aload_n 0) 1 427 ∧ ((0 : Fin 4) : Nat) = 0 := by decide +kernel
theorem q326_427 : qD 326 427 (.iload 4) 2 429 := by decide +kernel
theorem q326_429 : qD 326 429 (.iconst 1) 1 430 ∧ Int32.ofInt (1) = (1 : Int32) := by decide +kernel
theorem q326_430 : qD 326 430 (.iadd) 1 431 := by decide +kernel
theorem q326_431 : qD 326 431 (.iaload) 1 432 := by decide +kernel
theorem q326_432 : qD 326 432 (.aload_n 0) 1 433 ∧ ((0 : Fin 4) : Nat) = 0 := by decide +kernel
theorem q326_433 : qD 326 433 (.iload 4) 2 435 := by decide +kernel
theorem q326_435 : qD 326 435 (.iconst 2) 1 436 ∧ Int32.ofInt (2) = (2 : Int32) := by decide +kernel
theorem q326_436 : qD 326 436 (.iadd) 1 437 := by decide +kernel
theorem q326_437 : qD 326 437 (.iaload) 1 438 := by decide +kernel
theorem q326_438 : qD 326 438 (.aload_n 3) 1 439 ∧ ((3 : Fin 4) : Nat) = 3 := by decide +kernel
theorem q326_439 : qD 326 439 (.invokestatic 42) 3 442 ∧ qI 326 42 325 1182 := by decide +kernel
theorem q326_442 : qD 326 442 (.istore 5) 2 444 ∧ 5 < mL 326 := by decide +kernel
theorem q326_444 : qD 326 444 (.aload_n 2) 1 445 ∧ ((2 : Fin 4) : Nat) = 2 := by decide +kernel
theorem q326_445 : qD 326 445 (.aload_n 0) 1 446 ∧ ((0 : Fin 4) : Nat) = 0 := by decide +kernel
theorem q326_446 : qD 326 446 (.iload 4) 2 448 := by decide +kernel
theorem q326_448 : qD 326 448 (.iconst 1) 1 449 ∧ Int32.ofInt (1) = (1 : Int32) := by decide +kernel
theorem q326_449 : qD 326 449 (.iadd) 1 450 := by decide +kernel
theorem q326_450 : qD 326 450 (.iaload) 1 451 := by decide +kernel
theorem q326_451 : qD 326 451 (.aload_n 0) 1 452 ∧ ((0 : Fin 4) : Nat) = 0 := by decide +kernel
theorem q326_452 : qD 326 452 (.iload 4) 2 454 := by decide +kernel
theorem q326_454 : qD 326 454 (.iconst 2) 1 455 ∧ Int32.ofInt (2) = (2 : Int32) := by decide +kernel
theorem q326_455 : qD 326 455 (.iadd) 1 456 := by decide +kernel
theorem q326_456 : qD 326 456 (.iaload) 1 457 := by decide +kernel
theorem q326_457 : qD 326 457 (.invokevirtual 47) 3 460 ∧ qI 326 47 223 1597 := by decide +kernel
theorem q326_460 : qD 326 460 (.istore 6) 2 462 ∧ 6 < mL 326 := by decide +kernel
theorem q326_462 : qD 326 462 (.aload_n 2) 1 463 ∧ ((2 : Fin 4) : Nat) = 2 := by decide +kernel
theorem q326_463 : qD 326 463 (.invokevirtual 48) 3 466 ∧ qI 326 48 169 1411 := by decide +kernel
theorem q326_466 : qD 326 466 (.iload 5) 2 468 := by decide +kernel
theorem q326_468 : qJ 326 468 (.if_icmp .eq 5) 471 (5) 473 := by decide +kernel
theorem q326_471 : qD 326 471 (.iconst 0) 1 472 ∧ Int32.ofInt (0) = (0 : Int32) := by decide +kernel
theorem q326_472 : qD 326 472 (.ireturn) 1 473 ∧ mR 326 = some .boolean := by decide +kernel
theorem q326_473 : qD 326 473 (.iload 5) 2 475 := by decide +kernel
theorem q326_475 : qJ 326 475 (.ifCond .ne 15) 478 (15) 490 := by decide +kernel
theorem q326_478 : qD 326 478 (.aload_n 3) 1 479 ∧ ((3 : Fin 4) : Nat) = 3 := by decide +kernel
theorem q326_479 : qD 326 479 (.iconst 0) 1 480 ∧ Int32.ofInt (0) = (0 : Int32) := by decide +kernel
theorem q326_480 : qD 326 480 (.laload) 1 481 := by decide +kernel
theorem q326_481 : qD 326 481 (.iload 6) 2 483 := by decide +kernel
theorem q326_483 : qD 326 483 (.i2l) 1 484 := by decide +kernel
theorem q326_484 : qD 326 484 (.lcmp) 1 485 := by decide +kernel
theorem q326_485 : qJ 326 485 (.ifCond .eq 5) 488 (5) 490 := by decide +kernel
theorem q326_488 : qD 326 488 (.iconst 0) 1 489 ∧ Int32.ofInt (0) = (0 : Int32) := by decide +kernel
theorem q326_489 : qD 326 489 (.ireturn) 1 490 ∧ mR 326 = some .boolean := by decide +kernel
theorem q326_490 : qJ 326 490 (.goto 1222) 493 (1222) 1712 := by decide +kernel
theorem q326_493 : qD 326 493 (.aload_n 1) 1 494 ∧ ((1 : Fin 4) : Nat) = 1 := by decide +kernel
theorem q326_494 : qD 326 494 (.aload_n 0) 1 495 ∧ ((0 : Fin 4) : Nat) = 0 := by decide +kernel
theorem q326_495 : qD 326 495 (.iload 4) 2 497 := by decide +kernel
theorem q326_497 : qD 326 497 (.iconst 1) 1 498 ∧ Int32.ofInt (1) = (1 : Int32) := by decide +kernel
theorem q326_498 : qD 326 498 (.iadd) 1 499 := by decide +kernel
theorem q326_499 : qD 326 499 (.iaload) 1 500 := by decide +kernel
theorem q326_500 : qD 326 500 (.aload_n 0) 1 501 ∧ ((0 : Fin 4) : Nat) = 0 := by decide +kernel
theorem q326_501 : qD 326 501 (.iload 4) 2 503 := by decide +kernel
theorem q326_503 : qD 326 503 (.iconst 2) 1 504 ∧ Int32.ofInt (2) = (2 : Int32) := by decide +kernel
theorem q326_504 : qD 326 504 (.iadd) 1 505 := by decide +kernel
theorem q326_505 : qD 326 505 (.iaload) 1 506 := by decide +kernel
theorem q326_506 : qD 326 506 (.invokevirtual 52) 3 509 ∧ qI 326 52 96 699 := by decide +kernel
theorem q326_509 : qD 326 509 (.aload_n 2) 1 510 ∧ ((2 : Fin 4) : Nat) = 2 := by decide +kernel
theorem q326_510 : qD 326 510 (.aload_n 0) 1 511 ∧ ((0 : Fin 4) : Nat) = 0 := by decide +kernel
theorem q326_511 : qD 326 511 (.iload 4) 2 513 := by decide +kernel
theorem q326_513 : qD 326 513 (.iconst 1) 1 514 ∧ Int32.ofInt (1) = (1 : Int32) := by decide +kernel
theorem q326_514 : qD 326 514 (.iadd) 1 515 := by decide +kernel
theorem q326_515 : qD 326 515 (.iaload) 1 516 := by decide +kernel
theorem q326_516 : qD 326 516 (.aload_n 0) 1 517 ∧ ((0 : Fin 4) : Nat) = 0 := by decide +kernel
theorem q326_517 : qD 326 517 (.iload 4) 2 519 := by decide +kernel
theorem q326_519 : qD 326 519 (.iconst 2) 1 520 ∧ Int32.ofInt (2) = (2 : Int32) := by decide +kernel
theorem q326_520 : qD 326 520 (.iadd) 1 521 := by decide +kernel
theorem q326_521 : qD 326 521 (.iaload) 1 522 := by decide +kernel
theorem q326_522 : qD 326 522 (.invokevirtual 55) 3 525 ∧ qI 326 55 224 1606 := by decide +kernel
theorem q326_525 : qJ 326 525 (.if_icmp .eq 1187) 528 (1187) 1712 := by decide +kernel
theorem q326_528 : qD 326 528 (.iconst 0) 1 529 ∧ Int32.ofInt (0) = (0 : Int32) := by decide +kernel
theorem q326_529 : qD 326 529 (.ireturn) 1 530 ∧ mR 326 = some .boolean := by decide +kernel
theorem q326_530 : qD 326 530 (.aload_n 1) 1 531 ∧ ((1 : Fin 4) : Nat) = 1 := by decide +kernel
theorem q326_531 : qD 326 531 (.aload_n 0) 1 532 ∧ ((0 : Fin 4) : Nat) = 0 := by decide +kernel
theorem q326_532 : qD 326 532 (.iload 4) 2 534 := by decide +kernel
theorem q326_534 : qD 326 534 (.iconst 1) 1 535 ∧ Int32.ofInt (1) = (1 : Int32) := by decide +kernel
theorem q326_535 : qD 326 535 (.iadd) 1 536 := by decide +kernel
theorem q326_536 : qD 326 536 (.iaload) 1 537 := by decide +kernel
theorem q326_537 : qD 326 537 (.aload_n 0) 1 538 ∧ ((0 : Fin 4) : Nat) = 0 := by decide +kernel
theorem q326_538 : qD 326 538 (.iload 4) 2 540 := by decide +kernel
theorem q326_540 : qD 326 540 (.iconst 2) 1 541 ∧ Int32.ofInt (2) = (2 : Int32) := by decide +kernel
theorem q326_541 : qD 326 541 (.iadd) 1 542 := by decide +kernel
theorem q326_542 : qD 326 542 (.iaload) 1 543 := by decide +kernel
theorem q326_543 : qD 326 543 (.invokevirtual 56) 3 546 ∧ qI 326 56 97 711 := by decide +kernel
theorem q326_546 : qD 326 546 (.aload_n 2) 1 547 ∧ ((2 : Fin 4) : Nat) = 2 := by decide +kernel
theorem q326_547 : qD 326 547 (.aload_n 0) 1 548 ∧ ((0 : Fin 4) : Nat) = 0 := by decide +kernel
theorem q326_548 : qD 326 548 (.iload 4) 2 550 := by decide +kernel
theorem q326_550 : qD 326 550 (.iconst 1) 1 551 ∧ Int32.ofInt (1) = (1 : Int32) := by decide +kernel
theorem q326_551 : qD 326 551 (.iadd) 1 552 := by decide +kernel
theorem q326_552 : qD 326 552 (.iaload) 1 553 := by decide +kernel
theorem q326_553 : qD 326 553 (.aload_n 0) 1 554 ∧ ((0 : Fin 4) : Nat) = 0 := by decide +kernel
theorem q326_554 : qD 326 554 (.iload 4) 2 556 := by decide +kernel
theorem q326_556 : qD 326 556 (.iconst 2) 1 557 ∧ Int32.ofInt (2) = (2 : Int32) := by decide +kernel
theorem q326_557 : qD 326 557 (.iadd) 1 558 := by decide +kernel
theorem q326_558 : qD 326 558 (.iaload) 1 559 := by decide +kernel
theorem q326_559 : qD 326 559 (.invokevirtual 59) 3 562 ∧ qI 326 59 225 1614 := by decide +kernel
theorem q326_562 : qJ 326 562 (.if_icmp .eq 1150) 565 (1150) 1712 := by decide +kernel
theorem q326_565 : qD 326 565 (.iconst 0) 1 566 ∧ Int32.ofInt (0) = (0 : Int32) := by decide +kernel
theorem q326_566 : qD 326 566 (.ireturn) 1 567 ∧ mR 326 = some .boolean := by decide +kernel
theorem q326_567 : qD 326 567 (.aload_n 1) 1 568 ∧ ((1 : Fin 4) : Nat) = 1 := by decide +kernel
theorem q326_568 : qD 326 568 (.aload_n 0) 1 569 ∧ ((0 : Fin 4) : Nat) = 0 := by decide +kernel
theorem q326_569 : qD 326 569 (.iload 4) 2 571 := by decide +kernel
theorem q326_571 : qD 326 571 (.iconst 1) 1 572 ∧ Int32.ofInt (1) = (1 : Int32) := by decide +kernel
theorem q326_572 : qD 326 572 (.iadd) 1 573 := by decide +kernel
theorem q326_573 : qD 326 573 (.iaload) 1 574 := by decide +kernel
theorem q326_574 : qD 326 574 (.invokevirtual 60) 3 577 ∧ qI 326 60 98 731 := by decide +kernel
theorem q326_577 : qD 326 577 (.aload_n 2) 1 578 ∧ ((2 : Fin 4) : Nat) = 2 := by decide +kernel
theorem q326_578 : qD 326 578 (.aload_n 0) 1 579 ∧ ((0 : Fin 4) : Nat) = 0 := by decide +kernel
theorem q326_579 : qD 326 579 (.iload 4) 2 581 := by decide +kernel
theorem q326_581 : qD 326 581 (.iconst 1) 1 582 ∧ Int32.ofInt (1) = (1 : Int32) := by decide +kernel
theorem q326_582 : qD 326 582 (.iadd) 1 583 := by decide +kernel
