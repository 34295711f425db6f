/-! ===== the law: its cases, 1 ===== -/
theorem law_status {b L : Nat} {xs : Nat → Int32} {h : HP} {t u i : Nat} (hL : L ≤ 3072) (hi : i + 6 ≤ L) (I : Inv h t u) (k : ∀ h' t' u', Inv h' t' u' → V cL_law miL_law (ZL b L xs) 0 1892 [.ref (NUL + 1), .ref 0, .ref 113, .int (nI i)] [] h') : V cL_law miL_law (ZL b L xs) 0 284 [.ref (NUL + 1), .ref 0, .ref 113, .int (nI i)] [] h := by
  obtain ⟨r, h1, h2, e1, e2, I2⟩ := op_status I
  have ly := I.1.1
  refine V.aload_n dL_law_284 rfl rfl rfl ?_
  refine V.lcall (a := 0) (ci := 9) (z := 0) ly dL_law_285 ml_L_13 mo_X11_status mv_X11_status rfl (fun q hq => by cases hq; rfl) (by decide) (th_X11_status ly e1) rfl rfl ⟨Nat.le_of_ble_eq_true rfl, Nat.le_of_ble_eq_true rfl⟩ ⟨rfl, rfl⟩ (Nat.le_of_ble_eq_true rfl) (fun v0 g0 ex => ?_)
  obtain ⟨r0, rfl, ⟨rfl, rfl⟩, s0⟩ := ex
  have ly1 : Lay g0 := s0.ly ly
  refine V.aload_n dL_law_288 rfl rfl rfl ?_
  refine V.lcall (a := 113) (ci := 10) (z := 0) ly1 dL_law_289 ml_L_17 mo_X12_status mv_X12_status rfl (fun q hq => by cases hq; rfl) (by decide) (th_X12_status ly1 e2) rfl rfl ⟨Nat.le_of_ble_eq_true rfl, Nat.le_of_ble_eq_true rfl⟩ ⟨rfl, rfl⟩ (Nat.le_of_ble_eq_true rfl) (fun v1 g1 ex => ?_)
  obtain ⟨r1, rfl, ⟨rfl, rfl⟩, s1⟩ := ex
  exact V.icmp_eq (tgt := 1892) dL_law_292 (by decide) (fun _ => k _ _ _ I2) (fun q => absurd rfl q)
theorem law_top {b L : Nat} {xs : Nat → Int32} {h : HP} {t u i : Nat} (hL : L ≤ 3072) (hi : i + 6 ≤ L) (I : Inv h t u) (k : ∀ h' t' u', Inv h' t' u' → V cL_law miL_law (ZL b L xs) 0 1892 [.ref (NUL + 1), .ref 0, .ref 113, .int (nI i)] [] h') : V cL_law miL_law (ZL b L xs) 0 297 [.ref (NUL + 1), .ref 0, .ref 113, .int (nI i)] [] h := by
  obtain ⟨r, h1, h2, e1, e2, I2⟩ := op_top I
  have ly := I.1.1
  refine V.aload_n dL_law_297 rfl rfl rfl ?_
  refine V.lcall (a := 0) (ci := 9) (z := 0) ly dL_law_298 ml_L_18 mo_X11_top mv_X11_top rfl (fun q hq => by cases hq; rfl) (by decide) (th_X11_top ly e1) rfl rfl ⟨Nat.le_of_ble_eq_true rfl, Nat.le_of_ble_eq_true rfl⟩ ⟨rfl, rfl⟩ (Nat.le_of_ble_eq_true rfl) (fun v0 g0 ex => ?_)
  obtain ⟨r0, rfl, ⟨rfl, rfl⟩, s0⟩ := ex
  have ly1 : Lay g0 := s0.ly ly
  refine V.aload_n dL_law_301 rfl rfl rfl ?_
  refine V.lcall (a := 113) (ci := 10) (z := 0) ly1 dL_law_302 ml_L_22 mo_X12_top mv_X12_top rfl (fun q hq => by cases hq; rfl) (by decide) (th_X12_top ly1 e2) rfl rfl ⟨Nat.le_of_ble_eq_true rfl, Nat.le_of_ble_eq_true rfl⟩ ⟨rfl, rfl⟩ (Nat.le_of_ble_eq_true rfl) (fun v1 g1 ex => ?_)
  obtain ⟨r1, rfl, ⟨rfl, rfl⟩, s1⟩ := ex
  refine V.lcmp dL_law_305 ?_
  exact V.if_eq (tgt := 1892) dL_law_306 (by decide) (fun _ => k _ _ _ I2) (fun q => absurd lg_cmp_self q)
theorem law_bottom {b L : Nat} {xs : Nat → Int32} {h : HP} {t u i : Nat} (hL : L ≤ 3072) (hi : i + 6 ≤ L) (I : Inv h t u) (k : ∀ h' t' u', Inv h' t' u' → V cL_law miL_law (ZL b L xs) 0 1892 [.ref (NUL + 1), .ref 0, .ref 113, .int (nI i)] [] h') : V cL_law miL_law (ZL b L xs) 0 311 [.ref (NUL + 1), .ref 0, .ref 113, .int (nI i)] [] h := by
  obtain ⟨r, h1, h2, e1, e2, I2⟩ := op_bottom I
  have ly := I.1.1
  refine V.aload_n dL_law_311 rfl rfl rfl ?_
  refine V.lcall (a := 0) (ci := 9) (z := 0) ly dL_law_312 ml_L_23 mo_X11_bottom mv_X11_bottom rfl (fun q hq => by cases hq; rfl) (by decide) (th_X11_bottom ly e1) rfl rfl ⟨Nat.le_of_ble_eq_true rfl, Nat.le_of_ble_eq_true rfl⟩ ⟨rfl, rfl⟩ (Nat.le_of_ble_eq_true rfl) (fun v0 g0 ex => ?_)
  obtain ⟨r0, rfl, ⟨rfl, rfl⟩, s0⟩ := ex
  have ly1 : Lay g0 := s0.ly ly
  refine V.aload_n dL_law_315 rfl rfl rfl ?_
  refine V.lcall (a := 113) (ci := 10) (z := 0) ly1 dL_law_316 ml_L_26 mo_X12_bottom mv_X12_bottom rfl (fun q hq => by cases hq; rfl) (by decide) (th_X12_bottom ly1 e2) rfl rfl ⟨Nat.le_of_ble_eq_true rfl, Nat.le_of_ble_eq_true rfl⟩ ⟨rfl, rfl⟩ (Nat.le_of_ble_eq_true rfl) (fun v1 g1 ex => ?_)
  obtain ⟨r1, rfl, ⟨rfl, rfl⟩, s1⟩ := ex
  refine V.lcmp dL_law_319 ?_
  exact V.if_eq (tgt := 1892) dL_law_320 (by decide) (fun _ => k _ _ _ I2) (fun q => absurd lg_cmp_self q)
theorem law_tray {b L : Nat} {xs : Nat → Int32} {h : HP} {t u i : Nat} (hL : L ≤ 3072) (hi : i + 6 ≤ L) (I : Inv h t u) (k : ∀ h' t' u', Inv h' t' u' → V cL_law miL_law (ZL b L xs) 0 1892 [.ref (NUL + 1), .ref 0, .ref 113, .int (nI i)] [] h') : V cL_law miL_law (ZL b L xs) 0 325 [.ref (NUL + 1), .ref 0, .ref 113, .int (nI i)] [] h := by
  obtain ⟨r, h1, h2, e1, e2, I2⟩ := op_tray I (xs (i + 1)) (xs (i + 2)) (xs (i + 3))
  have ly := I.1.1
  refine V.aload_n dL_law_325 rfl rfl rfl ?_
  refine V.larg (j := 1) dL_law_326 dL_law_327 dL_law_328 dL_law_329 dL_law_330 rfl hL (by omega) ?_
  refine V.larg (j := 2) dL_law_331 dL_law_332 dL_law_333 dL_law_334 dL_law_335 rfl hL (by omega) ?_
  refine V.larg (j := 3) dL_law_336 dL_law_337 dL_law_338 dL_law_339 dL_law_340 rfl hL (by omega) ?_
  refine V.lcall (a := 0) (ci := 9) (z := 0) ly dL_law_341 ml_L_27 mo_X11_tray mv_X11_tray rfl (fun q hq => by cases hq; rfl) (by decide) (th_X11_tray ly e1) rfl rfl ⟨Nat.le_of_ble_eq_true rfl, Nat.le_of_ble_eq_true rfl⟩ ⟨rfl, rfl⟩ (Nat.le_of_ble_eq_true rfl) (fun v0 g0 ex => ?_)
  obtain ⟨r0, rfl, ⟨rfl, rfl⟩, s0⟩ := ex
  have ly1 : Lay g0 := s0.ly ly
  refine V.aload_n dL_law_344 rfl rfl rfl ?_
  refine V.larg (j := 1) dL_law_345 dL_law_346 dL_law_347 dL_law_348 dL_law_349 rfl hL (by omega) ?_
  refine V.larg (j := 2) dL_law_350 dL_law_351 dL_law_352 dL_law_353 dL_law_354 rfl hL (by omega) ?_
  refine V.larg (j := 3) dL_law_355 dL_law_356 dL_law_357 dL_law_358 dL_law_359 rfl hL (by omega) ?_
  refine V.lcall (a := 113) (ci := 10) (z := 0) ly1 dL_law_360 ml_L_31 mo_X12_tray mv_X12_tray rfl (fun q hq => by cases hq; rfl) (by decide) (th_X12_tray ly1 e2) rfl rfl ⟨Nat.le_of_ble_eq_true rfl, Nat.le_of_ble_eq_true rfl⟩ ⟨rfl, rfl⟩ (Nat.le_of_ble_eq_true rfl) (fun v1 g1 ex => ?_)
  obtain ⟨r1, rfl, ⟨rfl, rfl⟩, s1⟩ := ex
  exact V.icmp_eq (tgt := 1892) dL_law_363 (by decide) (fun _ => k _ _ _ I2) (fun q => absurd rfl q)
theorem law_write {b L : Nat} {xs : Nat → Int32} {h : HP} {t u i : Nat} (hL : L ≤ 3072) (hi : i + 6 ≤ L) (I : Inv h t u) (k : ∀ h' t' u', Inv h' t' u' → V cL_law miL_law (ZL b L xs) 0 1892 [.ref (NUL + 1), .ref 0, .ref 113, .int (nI i)] [] h') : V cL_law miL_law (ZL b L xs) 0 368 [.ref (NUL + 1), .ref 0, .ref 113, .int (nI i)] [] h := by
  obtain ⟨r, h1, h2, e1, e2, I2⟩ := op_write I (xs (i + 1)) (xs (i + 2)) (((Int32.toInt64 (xs (i + 3)) <<< (Int32.toInt64 32 &&& 63)) ||| (Int32.toInt64 (xs (i + 4)) &&& 4294967295)))
  have ly := I.1.1
  refine V.aload_n dL_law_368 rfl rfl rfl ?_
  refine V.larg (j := 1) dL_law_369 dL_law_370 dL_law_371 dL_law_372 dL_law_373 rfl hL (by omega) ?_
  refine V.larg (j := 2) dL_law_374 dL_law_375 dL_law_376 dL_law_377 dL_law_378 rfl hL (by omega) ?_
  refine V.larg (j := 3) dL_law_379 dL_law_380 dL_law_381 dL_law_382 dL_law_383 rfl hL (by omega) ?_
  refine V.i2l dL_law_384 ?_
  refine V.bipush (v := 32) dL_law_385 rfl ?_
  refine V.lshl dL_law_387 ?_
  refine V.larg (j := 4) dL_law_388 dL_law_389 dL_law_390 dL_law_391 dL_law_392 rfl hL (by omega) ?_
  refine V.i2l dL_law_393 ?_
  refine V.ldc2 dL_law_394 kc_L_32 ?_
  refine V.land dL_law_397 ?_
  refine V.lor dL_law_398 ?_
  refine V.lcall (a := 0) (ci := 9) (z := 0) ly dL_law_399 ml_L_34 mo_X11_write mv_X11_write rfl (fun q hq => by cases hq; rfl) (by decide) (th_X11_write ly e1) rfl rfl ⟨Nat.le_of_ble_eq_true rfl, Nat.le_of_ble_eq_true rfl⟩ ⟨rfl, rfl⟩ (Nat.le_of_ble_eq_true rfl) (fun v0 g0 ex => ?_)
  obtain ⟨r0, rfl, ⟨rfl, rfl⟩, s0⟩ := ex
  have ly1 : Lay g0 := s0.ly ly
  refine V.aload_n dL_law_402 rfl rfl rfl ?_
  refine V.larg (j := 1) dL_law_403 dL_law_404 dL_law_405 dL_law_406 dL_law_407 rfl hL (by omega) ?_
  refine V.larg (j := 2) dL_law_408 dL_law_409 dL_law_410 dL_law_411 dL_law_412 rfl hL (by omega) ?_
  refine V.larg (j := 3) dL_law_413 dL_law_414 dL_law_415 dL_law_416 dL_law_417 rfl hL (by omega) ?_
  refine V.i2l dL_law_418 ?_
  refine V.bipush (v := 32) dL_law_419 rfl ?_
  refine V.lshl dL_law_421 ?_
  refine V.larg (j := 4) dL_law_422 dL_law_423 dL_law_424 dL_law_425 dL_law_426 rfl hL (by omega) ?_
  refine V.i2l dL_law_427 ?_
  refine V.ldc2 dL_law_428 kc_L_32 ?_
  refine V.land dL_law_431 ?_
  refine V.lor dL_law_432 ?_
  refine V.lcall (a := 113) (ci := 10) (z := 0) ly1 dL_law_433 ml_L_38 mo_X12_write mv_X12_write rfl (fun q hq => by cases hq; rfl) (by decide) (th_X12_write ly1 e2) rfl rfl ⟨Nat.le_of_ble_eq_true rfl, Nat.le_of_ble_eq_true rfl⟩ ⟨rfl, rfl⟩ (Nat.le_of_ble_eq_true rfl) (fun v1 g1 ex => ?_)
  obtain ⟨r1, rfl, ⟨rfl, rfl⟩, s1⟩ := ex
  exact V.icmp_eq (tgt := 1892) dL_law_436 (by decide) (fun _ => k _ _ _ I2) (fun q => absurd rfl q)
theorem law_read {b L : Nat} {xs : Nat → Int32} {h : HP} {t u i : Nat} (hL : L ≤ 3072) (hi : i + 6 ≤ L) (I : Inv h t u) (k : ∀ h' t' u', Inv h' t' u' → V cL_law miL_law (ZL b L xs) 0 1892 [.ref (NUL + 1), .ref 0, .ref 113, .int (nI i)] [] h') : V cL_law miL_law (ZL b L xs) 0 441 [.ref (NUL + 1), .ref 0, .ref 113, .int (nI i)] [] h := by
  obtain ⟨r, h1, h2, e1, e2, I2⟩ := op_read I (xs (i + 1)) (xs (i + 2))
  have ly := I.1.1
  refine V.aload_n dL_law_441 rfl rfl rfl ?_
  refine V.larg (j := 1) dL_law_442 dL_law_443 dL_law_444 dL_law_445 dL_law_446 rfl hL (by omega) ?_
  refine V.larg (j := 2) dL_law_447 dL_law_448 dL_law_449 dL_law_450 dL_law_451 rfl hL (by omega) ?_
  refine V.lcall (a := 0) (ci := 9) (z := 0) ly dL_law_452 ml_L_39 mo_X11_read mv_X11_read rfl (fun q hq => by cases hq; rfl) (by decide) (th_X11_read ly e1) rfl rfl ⟨Nat.le_of_ble_eq_true rfl, Nat.le_of_ble_eq_true rfl⟩ ⟨rfl, rfl⟩ (Nat.le_of_ble_eq_true rfl) (fun v0 g0 ex => ?_)
  obtain ⟨r0, rfl, ⟨rfl, rfl⟩, s0⟩ := ex
  have ly1 : Lay g0 := s0.ly ly
  refine V.aload_n dL_law_455 rfl rfl rfl ?_
  refine V.larg (j := 1) dL_law_456 dL_law_457 dL_law_458 dL_law_459 dL_law_460 rfl hL (by omega) ?_
  refine V.larg (j := 2) dL_law_461 dL_law_462 dL_law_463 dL_law_464 dL_law_465 rfl hL (by omega) ?_
  refine V.lcall (a := 113) (ci := 10) (z := 0) ly1 dL_law_466 ml_L_43 mo_X12_read mv_X12_read rfl (fun q hq => by cases hq; rfl) (by decide) (th_X12_read ly1 e2) rfl rfl ⟨Nat.le_of_ble_eq_true rfl, Nat.le_of_ble_eq_true rfl⟩ ⟨rfl, rfl⟩ (Nat.le_of_ble_eq_true rfl) (fun v1 g1 ex => ?_)
  obtain ⟨r1, rfl, ⟨rfl, rfl⟩, s1⟩ := ex
  refine V.lcmp dL_law_469 ?_
  exact V.if_eq (tgt := 1892) dL_law_470 (by decide) (fun _ => k _ _ _ I2) (fun q => absurd lg_cmp_self q)
theorem law_pour {b L : Nat} {xs : Nat → Int32} {h : HP} {t u i : Nat} (hL : L ≤ 3072) (hi : i + 6 ≤ L) (I : Inv h t u) (k : ∀ h' t' u', Inv h' t' u' → V cL_law miL_law (ZL b L xs) 0 1892 [.ref (NUL + 1), .ref 0, .ref 113, .int (nI i)] [] h') : V cL_law miL_law (ZL b L xs) 0 475 [.ref (NUL + 1), .ref 0, .ref 113, .int (nI i)] [] h := by
  obtain ⟨r, h1, h2, e1, e2, I2⟩ := op_pour I (xs (i + 1)) (xs (i + 2)) (xs (i + 3)) (xs (i + 4)) (xs (i + 5))
  have ly := I.1.1
  refine V.aload_n dL_law_475 rfl rfl rfl ?_
  refine V.larg (j := 1) dL_law_476 dL_law_477 dL_law_478 dL_law_479 dL_law_480 rfl hL (by omega) ?_
  refine V.larg (j := 2) dL_law_481 dL_law_482 dL_law_483 dL_law_484 dL_law_485 rfl hL (by omega) ?_
  refine V.larg (j := 3) dL_law_486 dL_law_487 dL_law_488 dL_law_489 dL_law_490 rfl hL (by omega) ?_
  refine V.larg (j := 4) dL_law_491 dL_law_492 dL_law_493 dL_law_494 dL_law_495 rfl hL (by omega) ?_
  refine V.larg (j := 5) dL_law_496 dL_law_497 dL_law_498 dL_law_499 dL_law_500 rfl hL (by omega) ?_
  refine V.lcall (a := 0) (ci := 9) (z := 0) ly dL_law_501 ml_L_44 mo_X11_pour mv_X11_pour rfl (fun q hq => by cases hq; rfl) (by decide) (th_X11_pour ly e1) rfl rfl ⟨Nat.le_of_ble_eq_true rfl, Nat.le_of_ble_eq_true rfl⟩ ⟨rfl, rfl⟩ (Nat.le_of_ble_eq_true rfl) (fun v0 g0 ex => ?_)
  obtain ⟨r0, rfl, ⟨rfl, rfl⟩, s0⟩ := ex
  have ly1 : Lay g0 := s0.ly ly
  refine V.aload_n dL_law_504 rfl rfl rfl ?_
  refine V.larg (j := 1) dL_law_505 dL_law_506 dL_law_507 dL_law_508 dL_law_509 rfl hL (by omega) ?_
  refine V.larg (j := 2) dL_law_510 dL_law_511 dL_law_512 dL_law_513 dL_law_514 rfl hL (by omega) ?_
  refine V.larg (j := 3) dL_law_515 dL_law_516 dL_law_517 dL_law_518 dL_law_519 rfl hL (by omega) ?_
  refine V.larg (j := 4) dL_law_520 dL_law_521 dL_law_522 dL_law_523 dL_law_524 rfl hL (by omega) ?_
  refine V.larg (j := 5) dL_law_525 dL_law_526 dL_law_527 dL_law_528 dL_law_529 rfl hL (by omega) ?_
  refine V.lcall (a := 113) (ci := 10) (z := 0) ly1 dL_law_530 ml_L_48 mo_X12_pour mv_X12_pour rfl (fun q hq => by cases hq; rfl) (by decide) (th_X12_pour ly1 e2) rfl rfl ⟨Nat.le_of_ble_eq_true rfl, Nat.le_of_ble_eq_true rfl⟩ ⟨rfl, rfl⟩ (Nat.le_of_ble_eq_true rfl) (fun v1 g1 ex => ?_)
  obtain ⟨r1, rfl, ⟨rfl, rfl⟩, s1⟩ := ex
  exact V.icmp_eq (tgt := 1892) dL_law_533 (by decide) (fun _ => k _ _ _ I2) (fun q => absurd rfl q)
theorem law_feed {b L : Nat} {xs : Nat → Int32} {h : HP} {t u i : Nat} (hL : L ≤ 3072) (hi : i + 6 ≤ L) (I : Inv h t u) (k : ∀ h' t' u', Inv h' t' u' → V cL_law miL_law (ZL b L xs) 0 1892 [.ref (NUL + 1), .ref 0, .ref 113, .int (nI i)] [] h') : V cL_law miL_law (ZL b L xs) 0 538 [.ref (NUL + 1), .ref 0, .ref 113, .int (nI i)] [] h := by
  obtain ⟨r, h1, h2, e1, e2, I2⟩ := op_feed I (xs (i + 1)) (xs (i + 2)) (xs (i + 3)) (xs (i + 4)) (xs (i + 5))
  have ly := I.1.1
  refine V.aload_n dL_law_538 rfl rfl rfl ?_
  refine V.larg (j := 1) dL_law_539 dL_law_540 dL_law_541 dL_law_542 dL_law_543 rfl hL (by omega) ?_
  refine V.larg (j := 2) dL_law_544 dL_law_545 dL_law_546 dL_law_547 dL_law_548 rfl hL (by omega) ?_
  refine V.larg (j := 3) dL_law_549 dL_law_550 dL_law_551 dL_law_552 dL_law_553 rfl hL (by omega) ?_
  refine V.larg (j := 4) dL_law_554 dL_law_555 dL_law_556 dL_law_557 dL_law_558 rfl hL (by omega) ?_
  refine V.larg (j := 5) dL_law_559 dL_law_560 dL_law_561 dL_law_562 dL_law_563 rfl hL (by omega) ?_
  refine V.lcall (a := 0) (ci := 9) (z := 0) ly dL_law_564 ml_L_49 mo_X11_feed mv_X11_feed rfl (fun q hq => by cases hq; rfl) (by decide) (th_X11_feed ly e1) rfl rfl ⟨Nat.le_of_ble_eq_true rfl, Nat.le_of_ble_eq_true rfl⟩ ⟨rfl, rfl⟩ (Nat.le_of_ble_eq_true rfl) (fun v0 g0 ex => ?_)
  obtain ⟨r0, rfl, ⟨rfl, rfl⟩, s0⟩ := ex
  have ly1 : Lay g0 := s0.ly ly
  refine V.aload_n dL_law_567 rfl rfl rfl ?_
  refine V.larg (j := 1) dL_law_568 dL_law_569 dL_law_570 dL_law_571 dL_law_572 rfl hL (by omega) ?_
  refine V.larg (j := 2) dL_law_573 dL_law_574 dL_law_575 dL_law_576 dL_law_577 rfl hL (by omega) ?_
  refine V.larg (j := 3) dL_law_578 dL_law_579 dL_law_580 dL_law_581 dL_law_582 rfl hL (by omega) ?_
  refine V.larg (j := 4) dL_law_583 dL_law_584 dL_law_585 dL_law_586 dL_law_587 rfl hL (by omega) ?_
  refine V.larg (j := 5) dL_law_588 dL_law_589 dL_law_590 dL_law_591 dL_law_592 rfl hL (by omega) ?_
  refine V.lcall (a := 113) (ci := 10) (z := 0) ly1 dL_law_593 ml_L_53 mo_X12_feed mv_X12_feed rfl (fun q hq => by cases hq; rfl) (by decide) (th_X12_feed ly1 e2) rfl rfl ⟨Nat.le_of_ble_eq_true rfl, Nat.le_of_ble_eq_true rfl⟩ ⟨rfl, rfl⟩ (Nat.le_of_ble_eq_true rfl) (fun v1 g1 ex => ?_)
  obtain ⟨r1, rfl, ⟨rfl, rfl⟩, s1⟩ := ex
  exact V.icmp_eq (tgt := 1892) dL_law_596 (by decide) (fun _ => k _ _ _ I2) (fun q => absurd rfl q)
theorem law_town {b L : Nat} {xs : Nat → Int32} {h : HP} {t u i : Nat} (hL : L ≤ 3072) (hi : i + 6 ≤ L) (I : Inv h t u) (k : ∀ h' t' u', Inv h' t' u' → V cL_law miL_law (ZL b L xs) 0 1892 [.ref (NUL + 1), .ref 0, .ref 113, .int (nI i)] [] h') : V cL_law miL_law (ZL b L xs) 0 601 [.ref (NUL + 1), .ref 0, .ref 113, .int (nI i)] [] h := by
  obtain ⟨r, h1, h2, e1, e2, I2⟩ := op_town I (xs (i + 1))
  have ly := I.1.1
  refine V.aload_n dL_law_601 rfl rfl rfl ?_
  refine V.larg (j := 1) dL_law_602 dL_law_603 dL_law_604 dL_law_605 dL_law_606 rfl hL (by omega) ?_
  refine V.lcall (a := 0) (ci := 9) (z := 0) ly dL_law_607 ml_L_54 mo_X11_town mv_X11_town rfl (fun q hq => by cases hq; rfl) (by decide) (th_X11_town ly I.1.2.2.1.1 I.1.2.2.1.2.1 I.1.2.2.2.1 I.1.2.2.2.2 e1) rfl rfl ⟨Nat.le_of_ble_eq_true rfl, Nat.le_of_ble_eq_true rfl⟩ ⟨rfl, rfl⟩ (Nat.le_of_ble_eq_true rfl) (fun v0 g0 ex => ?_)
  obtain ⟨r0, rfl, ⟨rfl, rfl⟩, s0⟩ := ex
  have ly1 : Lay g0 := s0
  refine V.aload_n dL_law_610 rfl rfl rfl ?_
  refine V.larg (j := 1) dL_law_611 dL_law_612 dL_law_613 dL_law_614 dL_law_615 rfl hL (by omega) ?_
  refine V.lcall (a := 113) (ci := 10) (z := 0) ly1 dL_law_616 ml_L_58 mo_X12_town mv_X12_town rfl (fun q hq => by cases hq; rfl) (by decide) (th_X12_town ly1 e2) rfl rfl ⟨Nat.le_of_ble_eq_true rfl, Nat.le_of_ble_eq_true rfl⟩ ⟨rfl, rfl⟩ (Nat.le_of_ble_eq_true rfl) (fun v1 g1 ex => ?_)
  obtain ⟨r1, rfl, ⟨rfl, rfl⟩, s1⟩ := ex
  refine V.icmp_eq (tgt := 1892) dL_law_619 (by decide) (fun _ => ?_) (fun q => absurd rfl q)
  rcases I2 with I2 | I2
  · exact k _ _ _ I2
  · exact k _ _ _ I2
theorem law_year {b L : Nat} {xs : Nat → Int32} {h : HP} {t u i : Nat} (hL : L ≤ 3072) (hi : i + 6 ≤ L) (I : Inv h t u) (k : ∀ h' t' u', Inv h' t' u' → V cL_law miL_law (ZL b L xs) 0 1892 [.ref (NUL + 1), .ref 0, .ref 113, .int (nI i)] [] h') : V cL_law miL_law (ZL b L xs) 0 624 [.ref (NUL + 1), .ref 0, .ref 113, .int (nI i)] [] h := by
  obtain ⟨r, h1, h2, e1, e2, I2⟩ := op_year I (xs (i + 1))
  have ly := I.1.1
  refine V.aload_n dL_law_624 rfl rfl rfl ?_
  refine V.larg (j := 1) dL_law_625 dL_law_626 dL_law_627 dL_law_628 dL_law_629 rfl hL (by omega) ?_
  refine V.lcall (a := 0) (ci := 9) (z := 0) ly dL_law_630 ml_L_59 mo_X11_year mv_X11_year rfl (fun q hq => by cases hq; rfl) (by decide) (th_X11_year ly I.1.2.2.1.1 I.1.2.2.1.2.1 I.1.2.2.2.1 I.1.2.2.2.2 e1) rfl rfl ⟨Nat.le_of_ble_eq_true rfl, Nat.le_of_ble_eq_true rfl⟩ ⟨rfl, rfl⟩ (Nat.le_of_ble_eq_true rfl) (fun v0 g0 ex => ?_)
  obtain ⟨r0, rfl, ⟨rfl, rfl⟩, s0⟩ := ex
  have ly1 : Lay g0 := s0.ly ly
  refine V.aload_n dL_law_633 rfl rfl rfl ?_
  refine V.larg (j := 1) dL_law_634 dL_law_635 dL_law_636 dL_law_637 dL_law_638 rfl hL (by omega) ?_
  refine V.lcall (a := 113) (ci := 10) (z := 0) ly1 dL_law_639 ml_L_62 mo_X12_year mv_X12_year rfl (fun q hq => by cases hq; rfl) (by decide) (th_X12_year ly1 e2) rfl rfl ⟨Nat.le_of_ble_eq_true rfl, Nat.le_of_ble_eq_true rfl⟩ ⟨rfl, rfl⟩ (Nat.le_of_ble_eq_true rfl) (fun v1 g1 ex => ?_)
  obtain ⟨r1, rfl, ⟨rfl, rfl⟩, s1⟩ := ex
  exact V.icmp_eq (tgt := 1892) dL_law_642 (by decide) (fun _ => k _ _ _ I2) (fun q => absurd rfl q)
theorem law_fault {b L : Nat} {xs : Nat → Int32} {h : HP} {t u i : Nat} (hL : L ≤ 3072) (hi : i + 6 ≤ L) (I : Inv h t u) (k : ∀ h' t' u', Inv h' t' u' → V cL_law miL_law (ZL b L xs) 0 1892 [.ref (NUL + 1), .ref 0, .ref 113, .int (nI i)] [] h') : V cL_law miL_law (ZL b L xs) 0 647 [.ref (NUL + 1), .ref 0, .ref 113, .int (nI i)] [] h := by
  obtain ⟨r, h1, h2, e1, e2, I2⟩ := op_fault I (xs (i + 1))
  have ly := I.1.1
  refine V.aload_n dL_law_647 rfl rfl rfl ?_
  refine V.larg (j := 1) dL_law_648 dL_law_649 dL_law_650 dL_law_651 dL_law_652 rfl hL (by omega) ?_
  refine V.lcall (a := 0) (ci := 9) (z := 0) ly dL_law_653 ml_L_63 mo_X11_fault mv_X11_fault rfl (fun q hq => by cases hq; rfl) (by decide) (th_X11_fault ly e1) rfl rfl ⟨Nat.le_of_ble_eq_true rfl, Nat.le_of_ble_eq_true rfl⟩ ⟨rfl, rfl⟩ (Nat.le_of_ble_eq_true rfl) (fun v0 g0 ex => ?_)
  obtain ⟨r0, rfl, ⟨rfl, rfl⟩, s0⟩ := ex
  have ly1 : Lay g0 := s0.ly ly
  refine V.aload_n dL_law_656 rfl rfl rfl ?_
  refine V.larg (j := 1) dL_law_657 dL_law_658 dL_law_659 dL_law_660 dL_law_661 rfl hL (by omega) ?_
  refine V.lcall (a := 113) (ci := 10) (z := 0) ly1 dL_law_662 ml_L_66 mo_X12_fault mv_X12_fault rfl (fun q hq => by cases hq; rfl) (by decide) (th_X12_fault ly1 e2) rfl rfl ⟨Nat.le_of_ble_eq_true rfl, Nat.le_of_ble_eq_true rfl⟩ ⟨rfl, rfl⟩ (Nat.le_of_ble_eq_true rfl) (fun v1 g1 ex => ?_)
  obtain ⟨r1, rfl, ⟨rfl, rfl⟩, s1⟩ := ex
  exact V.icmp_eq (tgt := 1892) dL_law_665 (by decide) (fun _ => k _ _ _ I2) (fun q => absurd rfl q)
theorem law_told {b L : Nat} {xs : Nat → Int32} {h : HP} {t u i : Nat} (hL : L ≤ 3072) (hi : i + 6 ≤ L) (I : Inv h t u) (k : ∀ h' t' u', Inv h' t' u' → V cL_law miL_law (ZL b L xs) 0 1892 [.ref (NUL + 1), .ref 0, .ref 113, .int (nI i)] [] h') : V cL_law miL_law (ZL b L xs) 0 670 [.ref (NUL + 1), .ref 0, .ref 113, .int (nI i)] [] h := by
  obtain ⟨r, h1, h2, e1, e2, I2⟩ := op_told I (xs (i + 1))
  have ly := I.1.1
  refine V.aload_n dL_law_670 rfl rfl rfl ?_
  refine V.larg (j := 1) dL_law_671 dL_law_672 dL_law_673 dL_law_674 dL_law_675 rfl hL (by omega) ?_
  refine V.lcall (a := 0) (ci := 9) (z := 0) ly dL_law_676 ml_L_67 mo_X11_told mv_X11_told rfl (fun q hq => by cases hq; rfl) (by decide) (th_X11_told ly I.1.2.2.1.1 I.1.2.2.2.1 e1) rfl rfl ⟨Nat.le_of_ble_eq_true rfl, Nat.le_of_ble_eq_true rfl⟩ ⟨rfl, rfl⟩ (Nat.le_of_ble_eq_true rfl) (fun v0 g0 ex => ?_)
  obtain ⟨r0, rfl, ⟨rfl, rfl⟩, s0⟩ := ex
  have ly1 : Lay g0 := s0.ly ly
  refine V.aload_n dL_law_679 rfl rfl rfl ?_
  refine V.larg (j := 1) dL_law_680 dL_law_681 dL_law_682 dL_law_683 dL_law_684 rfl hL (by omega) ?_
  refine V.lcall (a := 113) (ci := 10) (z := 0) ly1 dL_law_685 ml_L_70 mo_X12_told mv_X12_told rfl (fun q hq => by cases hq; rfl) (by decide) (th_X12_told ly1 e2) rfl rfl ⟨Nat.le_of_ble_eq_true rfl, Nat.le_of_ble_eq_true rfl⟩ ⟨rfl, rfl⟩ (Nat.le_of_ble_eq_true rfl) (fun v1 g1 ex => ?_)
  obtain ⟨r1, rfl, ⟨rfl, rfl⟩, s1⟩ := ex
  exact V.icmp_eq (tgt := 1892) dL_law_688 (by decide) (fun _ => k _ _ _ I2) (fun q => absurd rfl q)
theorem law_picture {b L : Nat} {xs : Nat → Int32} {h : HP} {t u i : Nat} (hL : L ≤ 3072) (hi : i + 6 ≤ L) (I : Inv h t u) (k : ∀ h' t' u', Inv h' t' u' → V cL_law miL_law (ZL b L xs) 0 1892 [.ref (NUL + 1), .ref 0, .ref 113, .int (nI i)] [] h') : V cL_law miL_law (ZL b L xs) 0 693 [.ref (NUL + 1), .ref 0, .ref 113, .int (nI i)] [] h := by
  obtain ⟨r, h1, h2, e1, e2, I2⟩ := op_picture I
  have ly := I.1.1
  refine V.aload_n dL_law_693 rfl rfl rfl ?_
  refine V.lcall (a := 0) (ci := 9) (z := 0) ly dL_law_694 ml_L_71 mo_X11_picture mv_X11_picture rfl (fun q hq => by cases hq; rfl) (by decide) (th_X11_picture ly I.1.2.2.1.1 I.1.2.2.2.1 e1) rfl rfl ⟨Nat.le_of_ble_eq_true rfl, Nat.le_of_ble_eq_true rfl⟩ ⟨rfl, rfl⟩ (Nat.le_of_ble_eq_true rfl) (fun v0 g0 ex => ?_)
  obtain ⟨r0, rfl, ⟨rfl, rfl⟩, s0⟩ := ex
  have ly1 : Lay g0 := s0.ly ly
  refine V.aload_n dL_law_697 rfl rfl rfl ?_
  refine V.lcall (a := 113) (ci := 10) (z := 0) ly1 dL_law_698 ml_L_74 mo_X12_picture mv_X12_picture rfl (fun q hq => by cases hq; rfl) (by decide) (th_X12_picture ly1 e2) rfl rfl ⟨Nat.le_of_ble_eq_true rfl, Nat.le_of_ble_eq_true rfl⟩ ⟨rfl, rfl⟩ (Nat.le_of_ble_eq_true rfl) (fun v1 g1 ex => ?_)
  obtain ⟨r1, rfl, ⟨rfl, rfl⟩, s1⟩ := ex
  refine V.lcmp dL_law_701 ?_
  exact V.if_eq (tgt := 1892) dL_law_702 (by decide) (fun _ => k _ _ _ I2) (fun q => absurd lg_cmp_self q)
theorem law_lamp {b L : Nat} {xs : Nat → Int32} {h : HP} {t u i : Nat} (hL : L ≤ 3072) (hi : i + 6 ≤ L) (I : Inv h t u) (k : ∀ h' t' u', Inv h' t' u' → V cL_law miL_law (ZL b L xs) 0 1892 [.ref (NUL + 1), .ref 0, .ref 113, .int (nI i)] [] h') : V cL_law miL_law (ZL b L xs) 0 707 [.ref (NUL + 1), .ref 0, .ref 113, .int (nI i)] [] h := by
  obtain ⟨r, h1, h2, e1, e2, I2⟩ := op_lamp I (xs (i + 1)) (xs (i + 2)) (xs (i + 3))
  have ly := I.1.1
  refine V.aload_n dL_law_707 rfl rfl rfl ?_
  refine V.larg (j := 1) dL_law_708 dL_law_709 dL_law_710 dL_law_711 dL_law_712 rfl hL (by omega) ?_
  refine V.larg (j := 2) dL_law_713 dL_law_714 dL_law_715 dL_law_716 dL_law_717 rfl hL (by omega) ?_
  refine V.larg (j := 3) dL_law_718 dL_law_719 dL_law_720 dL_law_721 dL_law_722 rfl hL (by omega) ?_
  refine V.lcall (a := 0) (ci := 9) (z := 0) ly dL_law_723 ml_L_75 mo_X11_lamp mv_X11_lamp rfl (fun q hq => by cases hq; rfl) (by decide) (th_X11_lamp ly I.1.2.2.1.1 I.1.2.2.2.1 e1) rfl rfl ⟨Nat.le_of_ble_eq_true rfl, Nat.le_of_ble_eq_true rfl⟩ ⟨rfl, rfl⟩ (Nat.le_of_ble_eq_true rfl) (fun v0 g0 ex => ?_)
  obtain ⟨r0, rfl, ⟨rfl, rfl⟩, s0⟩ := ex
  have ly1 : Lay g0 := s0.ly ly
  refine V.aload_n dL_law_726 rfl rfl rfl ?_
  refine V.larg (j := 1) dL_law_727 dL_law_728 dL_law_729 dL_law_730 dL_law_731 rfl hL (by omega) ?_
  refine V.larg (j := 2) dL_law_732 dL_law_733 dL_law_734 dL_law_735 dL_law_736 rfl hL (by omega) ?_
  refine V.larg (j := 3) dL_law_737 dL_law_738 dL_law_739 dL_law_740 dL_law_741 rfl hL (by omega) ?_
  refine V.lcall (a := 113) (ci := 10) (z := 0) ly1 dL_law_742 ml_L_79 mo_X12_lamp mv_X12_lamp rfl (fun q hq => by cases hq; rfl) (by decide) (th_X12_lamp ly1 e2) rfl rfl ⟨Nat.le_of_ble_eq_true rfl, Nat.le_of_ble_eq_true rfl⟩ ⟨rfl, rfl⟩ (Nat.le_of_ble_eq_true rfl) (fun v1 g1 ex => ?_)
  obtain ⟨r1, rfl, ⟨rfl, rfl⟩, s1⟩ := ex
  exact V.icmp_eq (tgt := 1892) dL_law_745 (by decide) (fun _ => k _ _ _ I2) (fun q => absurd rfl q)
theorem law_rule {b L : Nat} {xs : Nat → Int32} {h : HP} {t u i : Nat} (hL : L ≤ 3072) (hi : i + 6 ≤ L) (I : Inv h t u) (k : ∀ h' t' u', Inv h' t' u' → V cL_law miL_law (ZL b L xs) 0 1892 [.ref (NUL + 1), .ref 0, .ref 113, .int (nI i)] [] h') : V cL_law miL_law (ZL b L xs) 0 750 [.ref (NUL + 1), .ref 0, .ref 113, .int (nI i)] [] h := by
  obtain ⟨r, h1, h2, e1, e2, I2⟩ := op_rule I (xs (i + 1)) (xs (i + 2))
  have ly := I.1.1
  refine V.aload_n dL_law_750 rfl rfl rfl ?_
  refine V.larg (j := 1) dL_law_751 dL_law_752 dL_law_753 dL_law_754 dL_law_755 rfl hL (by omega) ?_
  refine V.larg (j := 2) dL_law_756 dL_law_757 dL_law_758 dL_law_759 dL_law_760 rfl hL (by omega) ?_
  refine V.lcall (a := 0) (ci := 9) (z := 0) ly dL_law_761 ml_L_80 mo_X11_rule mv_X11_rule rfl (fun q hq => by cases hq; rfl) (by decide) (th_X11_rule ly I.1.2.2.1.1 I.1.2.2.2.1 e1) rfl rfl ⟨Nat.le_of_ble_eq_true rfl, Nat.le_of_ble_eq_true rfl⟩ ⟨rfl, rfl⟩ (Nat.le_of_ble_eq_true rfl) (fun v0 g0 ex => ?_)
  obtain ⟨r0, rfl, ⟨rfl, rfl⟩, s0⟩ := ex
  have ly1 : Lay g0 := s0.ly ly
  refine V.aload_n dL_law_764 rfl rfl rfl ?_
  refine V.larg (j := 1) dL_law_765 dL_law_766 dL_law_767 dL_law_768 dL_law_769 rfl hL (by omega) ?_
  refine V.larg (j := 2) dL_law_770 dL_law_771 dL_law_772 dL_law_773 dL_law_774 rfl hL (by omega) ?_
  refine V.lcall (a := 113) (ci := 10) (z := 0) ly1 dL_law_775 ml_L_84 mo_X12_rule mv_X12_rule rfl (fun q hq => by cases hq; rfl) (by decide) (th_X12_rule ly1 e2) rfl rfl ⟨Nat.le_of_ble_eq_true rfl, Nat.le_of_ble_eq_true rfl⟩ ⟨rfl, rfl⟩ (Nat.le_of_ble_eq_true rfl) (fun v1 g1 ex => ?_)
  obtain ⟨r1, rfl, ⟨rfl, rfl⟩, s1⟩ := ex
  exact V.icmp_eq (tgt := 1892) dL_law_778 (by decide) (fun _ => k _ _ _ I2) (fun q => absurd rfl q)
theorem law_citizen {b L : Nat} {xs : Nat → Int32} {h : HP} {t u i : Nat} (hL : L ≤ 3072) (hi : i + 6 ≤ L) (I : Inv h t u) (k : ∀ h' t' u', Inv h' t' u' → V cL_law miL_law (ZL b L xs) 0 1892 [.ref (NUL + 1), .ref 0, .ref 113, .int (nI i)] [] h') : V cL_law miL_law (ZL b L xs) 0 783 [.ref (NUL + 1), .ref 0, .ref 113, .int (nI i)] [] h := by
  obtain ⟨r, h1, h2, e1, e2, I2⟩ := op_citizen I (xs (i + 1)) (xs (i + 2))
  have ly := I.1.1
  refine V.aload_n dL_law_783 rfl rfl rfl ?_
  refine V.larg (j := 1) dL_law_784 dL_law_785 dL_law_786 dL_law_787 dL_law_788 rfl hL (by omega) ?_
  refine V.larg (j := 2) dL_law_789 dL_law_790 dL_law_791 dL_law_792 dL_law_793 rfl hL (by omega) ?_
  refine V.lcall (a := 0) (ci := 9) (z := 0) ly dL_law_794 ml_L_85 mo_X11_citizen mv_X11_citizen rfl (fun q hq => by cases hq; rfl) (by decide) (th_X11_citizen ly I.1.2.2.1.1 I.1.2.2.2.1 e1) rfl rfl ⟨Nat.le_of_ble_eq_true rfl, Nat.le_of_ble_eq_true rfl⟩ ⟨rfl, rfl⟩ (Nat.le_of_ble_eq_true rfl) (fun v0 g0 ex => ?_)
  obtain ⟨r0, rfl, ⟨rfl, rfl⟩, s0⟩ := ex
  have ly1 : Lay g0 := s0.ly ly
  refine V.aload_n dL_law_797 rfl rfl rfl ?_
  refine V.larg (j := 1) dL_law_798 dL_law_799 dL_law_800 dL_law_801 dL_law_802 rfl hL (by omega) ?_
  refine V.larg (j := 2) dL_law_803 dL_law_804 dL_law_805 dL_law_806 dL_law_807 rfl hL (by omega) ?_
  refine V.lcall (a := 113) (ci := 10) (z := 0) ly1 dL_law_808 ml_L_88 mo_X12_citizen mv_X12_citizen rfl (fun q hq => by cases hq; rfl) (by decide) (th_X12_citizen ly1 e2) rfl rfl ⟨Nat.le_of_ble_eq_true rfl, Nat.le_of_ble_eq_true rfl⟩ ⟨rfl, rfl⟩ (Nat.le_of_ble_eq_true rfl) (fun v1 g1 ex => ?_)
  obtain ⟨r1, rfl, ⟨rfl, rfl⟩, s1⟩ := ex
  exact V.icmp_eq (tgt := 1892) dL_law_811 (by decide) (fun _ => k _ _ _ I2) (fun q => absurd rfl q)
theorem law_turn {b L : Nat} {xs : Nat → Int32} {h : HP} {t u i : Nat} (hL : L ≤ 3072) (hi : i + 6 ≤ L) (I : Inv h t u) (k : ∀ h' t' u', Inv h' t' u' → V cL_law miL_law (ZL b L xs) 0 1892 [.ref (NUL + 1), .ref 0, .ref 113, .int (nI i)] [] h') : V cL_law miL_law (ZL b L xs) 0 816 [.ref (NUL + 1), .ref 0, .ref 113, .int (nI i)] [] h := by
  obtain ⟨r, h1, h2, e1, e2, I2⟩ := op_turn I (xs (i + 1)) (xs (i + 2))
  have ly := I.1.1
  refine V.aload_n dL_law_816 rfl rfl rfl ?_
  refine V.larg (j := 1) dL_law_817 dL_law_818 dL_law_819 dL_law_820 dL_law_821 rfl hL (by omega) ?_
  refine V.larg (j := 2) dL_law_822 dL_law_823 dL_law_824 dL_law_825 dL_law_826 rfl hL (by omega) ?_
  refine V.lcall (a := 0) (ci := 9) (z := 0) ly dL_law_827 ml_L_89 mo_X11_turn mv_X11_turn rfl (fun q hq => by cases hq; rfl) (by decide) (th_X11_turn ly I.1.2.2.1.1 I.1.2.2.2.1 e1) rfl rfl ⟨Nat.le_of_ble_eq_true rfl, Nat.le_of_ble_eq_true rfl⟩ ⟨rfl, rfl⟩ (Nat.le_of_ble_eq_true rfl) (fun v0 g0 ex => ?_)
  obtain ⟨r0, rfl, ⟨rfl, rfl⟩, s0⟩ := ex
  have ly1 : Lay g0 := s0.ly ly
  refine V.aload_n dL_law_830 rfl rfl rfl ?_
  refine V.larg (j := 1) dL_law_831 dL_law_832 dL_law_833 dL_law_834 dL_law_835 rfl hL (by omega) ?_
  refine V.larg (j := 2) dL_law_836 dL_law_837 dL_law_838 dL_law_839 dL_law_840 rfl hL (by omega) ?_
  refine V.lcall (a := 113) (ci := 10) (z := 0) ly1 dL_law_841 ml_L_92 mo_X12_turn mv_X12_turn rfl (fun q hq => by cases hq; rfl) (by decide) (th_X12_turn ly1 e2) rfl rfl ⟨Nat.le_of_ble_eq_true rfl, Nat.le_of_ble_eq_true rfl⟩ ⟨rfl, rfl⟩ (Nat.le_of_ble_eq_true rfl) (fun v1 g1 ex => ?_)
  obtain ⟨r1, rfl, ⟨rfl, rfl⟩, s1⟩ := ex
  exact V.icmp_eq (tgt := 1892) dL_law_844 (by decide) (fun _ => k _ _ _ I2) (fun q => absurd rfl q)
theorem law_paint {b L : Nat} {xs : Nat → Int32} {h : HP} {t u i : Nat} (hL : L ≤ 3072) (hi : i + 6 ≤ L) (I : Inv h t u) (k : ∀ h' t' u', Inv h' t' u' → V cL_law miL_law (ZL b L xs) 0 1892 [.ref (NUL + 1), .ref 0, .ref 113, .int (nI i)] [] h') : V cL_law miL_law (ZL b L xs) 0 849 [.ref (NUL + 1), .ref 0, .ref 113, .int (nI i)] [] h := by
  obtain ⟨r, h1, h2, e1, e2, I2⟩ := op_paint I (((Int32.toInt64 (xs (i + 1)) <<< (Int32.toInt64 32 &&& 63)) ||| (Int32.toInt64 (xs (i + 2)) &&& 4294967295)))
  have ly := I.1.1
  refine V.aload_n dL_law_849 rfl rfl rfl ?_
  refine V.larg (j := 1) dL_law_850 dL_law_851 dL_law_852 dL_law_853 dL_law_854 rfl hL (by omega) ?_
  refine V.i2l dL_law_855 ?_
  refine V.bipush (v := 32) dL_law_856 rfl ?_
  refine V.lshl dL_law_858 ?_
  refine V.larg (j := 2) dL_law_859 dL_law_860 dL_law_861 dL_law_862 dL_law_863 rfl hL (by omega) ?_
  refine V.i2l dL_law_864 ?_
  refine V.ldc2 dL_law_865 kc_L_32 ?_
  refine V.land dL_law_868 ?_
  refine V.lor dL_law_869 ?_
  refine V.lcall (a := 0) (ci := 9) (z := 0) ly dL_law_870 ml_L_93 mo_X11_paint mv_X11_paint rfl (fun q hq => by cases hq; rfl) (by decide) (th_X11_paint ly I.1.2.2.1.1 I.1.2.2.2.1 e1) rfl rfl ⟨Nat.le_of_ble_eq_true rfl, Nat.le_of_ble_eq_true rfl⟩ ⟨rfl, rfl⟩ (Nat.le_of_ble_eq_true rfl) (fun v0 g0 ex => ?_)
  obtain ⟨r0, rfl, ⟨rfl, rfl⟩, s0⟩ := ex
  have ly1 : Lay g0 := s0.ly ly
  refine V.aload_n dL_law_873 rfl rfl rfl ?_
  refine V.larg (j := 1) dL_law_874 dL_law_875 dL_law_876 dL_law_877 dL_law_878 rfl hL (by omega) ?_
  refine V.i2l dL_law_879 ?_
  refine V.bipush (v := 32) dL_law_880 rfl ?_
  refine V.lshl dL_law_882 ?_
  refine V.larg (j := 2) dL_law_883 dL_law_884 dL_law_885 dL_law_886 dL_law_887 rfl hL (by omega) ?_
  refine V.i2l dL_law_888 ?_
  refine V.ldc2 dL_law_889 kc_L_32 ?_
  refine V.land dL_law_892 ?_
  refine V.lor dL_law_893 ?_
  refine V.lcall (a := 113) (ci := 10) (z := 0) ly1 dL_law_894 ml_L_97 mo_X12_paint mv_X12_paint rfl (fun q hq => by cases hq; rfl) (by decide) (th_X12_paint ly1 e2) rfl rfl ⟨Nat.le_of_ble_eq_true rfl, Nat.le_of_ble_eq_true rfl⟩ ⟨rfl, rfl⟩ (Nat.le_of_ble_eq_true rfl) (fun v1 g1 ex => ?_)
  obtain ⟨r1, rfl, ⟨rfl, rfl⟩, s1⟩ := ex
  exact V.icmp_eq (tgt := 1892) dL_law_897 (by decide) (fun _ => k _ _ _ I2) (fun q => absurd rfl q)
theorem law_paintRows {b L : Nat} {xs : Nat → Int32} {h : HP} {t u i : Nat} (hL : L ≤ 3072) (hi : i + 6 ≤ L) (I : Inv h t u) (k : ∀ h' t' u', Inv h' t' u' → V cL_law miL_law (ZL b L xs) 0 1892 [.ref (NUL + 1), .ref 0, .ref 113, .int (nI i)] [] h') : V cL_law miL_law (ZL b L xs) 0 902 [.ref (NUL + 1), .ref 0, .ref 113, .int (nI i)] [] h := by
  obtain ⟨r, h1, h2, e1, e2, I2⟩ := op_paintRows I (xs (i + 1))
  have ly := I.1.1
  refine V.aload_n dL_law_902 rfl rfl rfl ?_
  refine V.larg (j := 1) dL_law_903 dL_law_904 dL_law_905 dL_law_906 dL_law_907 rfl hL (by omega) ?_
  refine V.lcall (a := 0) (ci := 9) (z := 0) ly dL_law_908 ml_L_98 mo_X11_paintRows mv_X11_paintRows rfl (fun q hq => by cases hq; rfl) (by decide) (th_X11_paintRows ly I.1.2.2.1.1 I.1.2.2.2.1 e1) rfl rfl ⟨Nat.le_of_ble_eq_true rfl, Nat.le_of_ble_eq_true rfl⟩ ⟨rfl, rfl⟩ (Nat.le_of_ble_eq_true rfl) (fun v0 g0 ex => ?_)
  obtain ⟨r0, rfl, ⟨rfl, rfl⟩, s0⟩ := ex
  have ly1 : Lay g0 := s0.ly ly
  refine V.aload_n dL_law_911 rfl rfl rfl ?_
  refine V.larg (j := 1) dL_law_912 dL_law_913 dL_law_914 dL_law_915 dL_law_916 rfl hL (by omega) ?_
  refine V.lcall (a := 113) (ci := 10) (z := 0) ly1 dL_law_917 ml_L_101 mo_X12_paintRows mv_X12_paintRows rfl (fun q hq => by cases hq; rfl) (by decide) (th_X12_paintRows ly1 e2) rfl rfl ⟨Nat.le_of_ble_eq_true rfl, Nat.le_of_ble_eq_true rfl⟩ ⟨rfl, rfl⟩ (Nat.le_of_ble_eq_true rfl) (fun v1 g1 ex => ?_)
  obtain ⟨r1, rfl, ⟨rfl, rfl⟩, s1⟩ := ex
  exact V.icmp_eq (tgt := 1892) dL_law_920 (by decide) (fun _ => k _ _ _ I2) (fun q => absurd rfl q)
theorem law_copyRows {b L : Nat} {xs : Nat → Int32} {h : HP} {t u i : Nat} (hL : L ≤ 3072) (hi : i + 6 ≤ L) (I : Inv h t u) (k : ∀ h' t' u', Inv h' t' u' → V cL_law miL_law (ZL b L xs) 0 1892 [.ref (NUL + 1), .ref 0, .ref 113, .int (nI i)] [] h') : V cL_law miL_law (ZL b L xs) 0 925 [.ref (NUL + 1), .ref 0, .ref 113, .int (nI i)] [] h := by
  obtain ⟨r, h1, h2, e1, e2, I2⟩ := op_copyRows I (xs (i + 1))
  have ly := I.1.1
  refine V.aload_n dL_law_925 rfl rfl rfl ?_
  refine V.larg (j := 1) dL_law_926 dL_law_927 dL_law_928 dL_law_929 dL_law_930 rfl hL (by omega) ?_
  refine V.lcall (a := 0) (ci := 9) (z := 0) ly dL_law_931 ml_L_102 mo_X11_copyRows mv_X11_copyRows rfl (fun q hq => by cases hq; rfl) (by decide) (th_X11_copyRows ly I.1.2.2.1.1 I.1.2.2.2.1 e1) rfl rfl ⟨Nat.le_of_ble_eq_true rfl, Nat.le_of_ble_eq_true rfl⟩ ⟨rfl, rfl⟩ (Nat.le_of_ble_eq_true rfl) (fun v0 g0 ex => ?_)
  obtain ⟨r0, rfl, ⟨rfl, rfl⟩, s0⟩ := ex
  have ly1 : Lay g0 := s0.ly ly
  refine V.aload_n dL_law_934 rfl rfl rfl ?_
  refine V.larg (j := 1) dL_law_935 dL_law_936 dL_law_937 dL_law_938 dL_law_939 rfl hL (by omega) ?_
  refine V.lcall (a := 113) (ci := 10) (z := 0) ly1 dL_law_940 ml_L_105 mo_X12_copyRows mv_X12_copyRows rfl (fun q hq => by cases hq; rfl) (by decide) (th_X12_copyRows ly1 e2) rfl rfl ⟨Nat.le_of_ble_eq_true rfl, Nat.le_of_ble_eq_true rfl⟩ ⟨rfl, rfl⟩ (Nat.le_of_ble_eq_true rfl) (fun v1 g1 ex => ?_)
  obtain ⟨r1, rfl, ⟨rfl, rfl⟩, s1⟩ := ex
  exact V.icmp_eq (tgt := 1892) dL_law_943 (by decide) (fun _ => k _ _ _ I2) (fun q => absurd rfl q)
