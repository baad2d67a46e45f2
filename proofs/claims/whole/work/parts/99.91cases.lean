section
variable {l : Launch} {G : GT} {b L : Nat} {xs : Nat → Int32} {M : Mem} {i : Nat}
theorem L_0 (hL : L ≤ 3072) (hi : i + 6 ≤ L) (h : Rel M) (kk : ∀ M2, Rel M2 → LA l G b L xs 1667 (lvs G b i) [] M2) : LA l G b L xs 236 (lvs G b i) [] M := by
  refine l_aload_n eL_236 rfl ?_
  refine l_arg (j := 1) hL hi rfl (by decide) eL_237 eL_238 eL_239 eL_240 eL_241 ?_
  refine l_arg (j := 2) hL hi rfl (by decide) eL_242 eL_243 eL_244 eL_245 eL_246 ?_
  refine l_arg (j := 3) hL hi rfl (by decide) eL_247 eL_248 eL_249 eL_250 eL_251 ?_
  refine l_callV (y' := mX7_one) (k := 0) (st := []) [.int (xs (i + 1)), .int (xs (i + 2)), .int (xs (i + 3))] eL_252 sX7 kX7 rfl ml_L_13 im_X7_one se_X7_one in_X7 cw_X7_one (by decide +kernel) (np := 3) rfl (Nat.le_of_ble_eq_true rfl) (Nat.le_of_ble_eq_true rfl) rfl ((P_one h).mono (fun r M1 hr => ?_))
  obtain ⟨v, rfl, hM⟩ := hr
  refine l_aload_n eL_255 rfl ?_
  refine l_arg (j := 1) hL hi rfl (by decide) eL_256 eL_257 eL_258 eL_259 eL_260 ?_
  refine l_arg (j := 2) hL hi rfl (by decide) eL_261 eL_262 eL_263 eL_264 eL_265 ?_
  refine l_arg (j := 3) hL hi rfl (by decide) eL_266 eL_267 eL_268 eL_269 eL_270 ?_
  refine l_callV (y' := mX8_one) (k := 100) (st := [.int v]) [.int (xs (i + 1)), .int (xs (i + 2)), .int (xs (i + 3))] eL_271 sX8 kX8 rfl ml_L_17 im_X8_one se_X8_one in_X8 cw_X8_one (by decide +kernel) (np := 3) rfl (Nat.le_of_ble_eq_true rfl) (Nat.le_of_ble_eq_true rfl) rfl (hM.mono (fun r M2 hr => ?_))
  obtain ⟨rfl, hR⟩ := hr
  exact l_icmp_eq (tgt := 1667) eL_274 (by decide) (fun _ => kk M2 hR) (fun q => absurd rfl q)
theorem L_1 (hL : L ≤ 3072) (hi : i + 6 ≤ L) (h : Rel M) (kk : ∀ M2, Rel M2 → LA l G b L xs 1667 (lvs G b i) [] M2) : LA l G b L xs 279 (lvs G b i) [] M := by
  refine l_aload_n eL_279 rfl ?_
  refine l_arg (j := 1) hL hi rfl (by decide) eL_280 eL_281 eL_282 eL_283 eL_284 ?_
  refine l_arg (j := 2) hL hi rfl (by decide) eL_285 eL_286 eL_287 eL_288 eL_289 ?_
  refine l_callV (y' := mX7_way) (k := 0) (st := []) [.int (xs (i + 1)), .int (xs (i + 2))] eL_290 sX7 kX7 rfl ml_L_18 im_X7_way se_X7_way in_X7 cw_X7_way (by decide +kernel) (np := 2) rfl (Nat.le_of_ble_eq_true rfl) (Nat.le_of_ble_eq_true rfl) rfl ((P_way h).mono (fun r M1 hr => ?_))
  obtain ⟨v, rfl, hM⟩ := hr
  refine l_aload_n eL_293 rfl ?_
  refine l_arg (j := 1) hL hi rfl (by decide) eL_294 eL_295 eL_296 eL_297 eL_298 ?_
  refine l_arg (j := 2) hL hi rfl (by decide) eL_299 eL_300 eL_301 eL_302 eL_303 ?_
  refine l_callV (y' := mX8_way) (k := 100) (st := [.int v]) [.int (xs (i + 1)), .int (xs (i + 2))] eL_304 sX8 kX8 rfl ml_L_22 im_X8_way se_X8_way in_X8 cw_X8_way (by decide +kernel) (np := 2) rfl (Nat.le_of_ble_eq_true rfl) (Nat.le_of_ble_eq_true rfl) rfl (hM.mono (fun r M2 hr => ?_))
  obtain ⟨rfl, hR⟩ := hr
  exact l_icmp_eq (tgt := 1667) eL_307 (by decide) (fun _ => kk M2 hR) (fun q => absurd rfl q)
theorem L_2 (hL : L ≤ 3072) (hi : i + 6 ≤ L) (h : Rel M) (kk : ∀ M2, Rel M2 → LA l G b L xs 1667 (lvs G b i) [] M2) : LA l G b L xs 312 (lvs G b i) [] M := by
  refine l_aload_n eL_312 rfl ?_
  refine l_arg (j := 1) hL hi rfl (by decide) eL_313 eL_314 eL_315 eL_316 eL_317 ?_
  refine l_arg (j := 2) hL hi rfl (by decide) eL_318 eL_319 eL_320 eL_321 eL_322 ?_
  refine l_callV (y' := mX7_told) (k := 0) (st := []) [.int (xs (i + 1)), .int (xs (i + 2))] eL_323 sX7 kX7 rfl ml_L_23 im_X7_told se_X7_told in_X7 cw_X7_told (by decide +kernel) (np := 2) rfl (Nat.le_of_ble_eq_true rfl) (Nat.le_of_ble_eq_true rfl) rfl ((P_told h).mono (fun r M1 hr => ?_))
  obtain ⟨v, rfl, hM⟩ := hr
  refine l_aload_n eL_326 rfl ?_
  refine l_arg (j := 1) hL hi rfl (by decide) eL_327 eL_328 eL_329 eL_330 eL_331 ?_
  refine l_arg (j := 2) hL hi rfl (by decide) eL_332 eL_333 eL_334 eL_335 eL_336 ?_
  refine l_callV (y' := mX8_told) (k := 100) (st := [.int v]) [.int (xs (i + 1)), .int (xs (i + 2))] eL_337 sX8 kX8 rfl ml_L_26 im_X8_told se_X8_told in_X8 cw_X8_told (by decide +kernel) (np := 2) rfl (Nat.le_of_ble_eq_true rfl) (Nat.le_of_ble_eq_true rfl) rfl (hM.mono (fun r M2 hr => ?_))
  obtain ⟨rfl, hR⟩ := hr
  exact l_icmp_eq (tgt := 1667) eL_340 (by decide) (fun _ => kk M2 hR) (fun q => absurd rfl q)
theorem L_3 (hL : L ≤ 3072) (hi : i + 6 ≤ L) (h : Rel M) (kk : ∀ M2, Rel M2 → LA l G b L xs 1667 (lvs G b i) [] M2) : LA l G b L xs 345 (lvs G b i) [] M := by
  refine l_aload_n eL_345 rfl ?_
  refine l_arg (j := 1) hL hi rfl (by decide) eL_346 eL_347 eL_348 eL_349 eL_350 ?_
  refine l_arg (j := 2) hL hi rfl (by decide) eL_351 eL_352 eL_353 eL_354 eL_355 ?_
  refine l_callV (y' := mX7_as) (k := 0) (st := []) [.int (xs (i + 1)), .int (xs (i + 2))] eL_356 sX7 kX7 rfl ml_L_27 im_X7_as se_X7_as in_X7 cw_X7_as (by decide +kernel) (np := 2) rfl (Nat.le_of_ble_eq_true rfl) (Nat.le_of_ble_eq_true rfl) rfl ((P_as h).mono (fun r M1 hr => ?_))
  obtain ⟨v, rfl, hM⟩ := hr
  refine l_aload_n eL_359 rfl ?_
  refine l_arg (j := 1) hL hi rfl (by decide) eL_360 eL_361 eL_362 eL_363 eL_364 ?_
  refine l_arg (j := 2) hL hi rfl (by decide) eL_365 eL_366 eL_367 eL_368 eL_369 ?_
  refine l_callV (y' := mX8_as) (k := 100) (st := [.int v]) [.int (xs (i + 1)), .int (xs (i + 2))] eL_370 sX8 kX8 rfl ml_L_30 im_X8_as se_X8_as in_X8 cw_X8_as (by decide +kernel) (np := 2) rfl (Nat.le_of_ble_eq_true rfl) (Nat.le_of_ble_eq_true rfl) rfl (hM.mono (fun r M2 hr => ?_))
  obtain ⟨rfl, hR⟩ := hr
  exact l_icmp_eq (tgt := 1667) eL_373 (by decide) (fun _ => kk M2 hR) (fun q => absurd rfl q)
theorem L_4 (hL : L ≤ 3072) (hi : i + 6 ≤ L) (h : Rel M) (kk : ∀ M2, Rel M2 → LA l G b L xs 1667 (lvs G b i) [] M2) : LA l G b L xs 378 (lvs G b i) [] M := by
  refine l_aload_n eL_378 rfl ?_
  refine l_arg (j := 1) hL hi rfl (by decide) eL_379 eL_380 eL_381 eL_382 eL_383 ?_
  refine l_arg (j := 2) hL hi rfl (by decide) eL_384 eL_385 eL_386 eL_387 eL_388 ?_
  refine l_callV (y' := mX7_turns) (k := 0) (st := []) [.int (xs (i + 1)), .int (xs (i + 2))] eL_389 sX7 kX7 rfl ml_L_31 im_X7_turns se_X7_turns in_X7 cw_X7_turns (by decide +kernel) (np := 2) rfl (Nat.le_of_ble_eq_true rfl) (Nat.le_of_ble_eq_true rfl) rfl ((P_turns h).mono (fun r M1 hr => ?_))
  obtain ⟨v, rfl, hM⟩ := hr
  refine l_aload_n eL_392 rfl ?_
  refine l_arg (j := 1) hL hi rfl (by decide) eL_393 eL_394 eL_395 eL_396 eL_397 ?_
  refine l_arg (j := 2) hL hi rfl (by decide) eL_398 eL_399 eL_400 eL_401 eL_402 ?_
  refine l_callV (y' := mX8_turns) (k := 100) (st := [.int v]) [.int (xs (i + 1)), .int (xs (i + 2))] eL_403 sX8 kX8 rfl ml_L_34 im_X8_turns se_X8_turns in_X8 cw_X8_turns (by decide +kernel) (np := 2) rfl (Nat.le_of_ble_eq_true rfl) (Nat.le_of_ble_eq_true rfl) rfl (hM.mono (fun r M2 hr => ?_))
  obtain ⟨rfl, hR⟩ := hr
  exact l_icmp_eq (tgt := 1667) eL_406 (by decide) (fun _ => kk M2 hR) (fun q => absurd rfl q)
theorem L_5 (hL : L ≤ 3072) (hi : i + 6 ≤ L) (h : Rel M) (kk : ∀ M2, Rel M2 → LA l G b L xs 1667 (lvs G b i) [] M2) : LA l G b L xs 411 (lvs G b i) [] M := by
  refine l_aload_n eL_411 rfl ?_
  refine l_arg (j := 1) hL hi rfl (by decide) eL_412 eL_413 eL_414 eL_415 eL_416 ?_
  refine l_arg (j := 2) hL hi rfl (by decide) eL_417 eL_418 eL_419 eL_420 eL_421 ?_
  refine l_arg (j := 3) hL hi rfl (by decide) eL_422 eL_423 eL_424 eL_425 eL_426 ?_
  refine l_callV (y' := mX7_set) (k := 0) (st := []) [.int (xs (i + 1)), .int (xs (i + 2)), .int (xs (i + 3))] eL_427 sX7 kX7 rfl ml_L_35 im_X7_set se_X7_set in_X7 cw_X7_set (by decide +kernel) (np := 3) rfl (Nat.le_of_ble_eq_true rfl) (Nat.le_of_ble_eq_true rfl) rfl ((P_set h).mono (fun r M1 hr => ?_))
  obtain ⟨v, rfl, hM⟩ := hr
  refine l_aload_n eL_430 rfl ?_
  refine l_arg (j := 1) hL hi rfl (by decide) eL_431 eL_432 eL_433 eL_434 eL_435 ?_
  refine l_arg (j := 2) hL hi rfl (by decide) eL_436 eL_437 eL_438 eL_439 eL_440 ?_
  refine l_arg (j := 3) hL hi rfl (by decide) eL_441 eL_442 eL_443 eL_444 eL_445 ?_
  refine l_callV (y' := mX8_set) (k := 100) (st := [.int v]) [.int (xs (i + 1)), .int (xs (i + 2)), .int (xs (i + 3))] eL_446 sX8 kX8 rfl ml_L_38 im_X8_set se_X8_set in_X8 cw_X8_set (by decide +kernel) (np := 3) rfl (Nat.le_of_ble_eq_true rfl) (Nat.le_of_ble_eq_true rfl) rfl (hM.mono (fun r M2 hr => ?_))
  obtain ⟨rfl, hR⟩ := hr
  exact l_icmp_eq (tgt := 1667) eL_449 (by decide) (fun _ => kk M2 hR) (fun q => absurd rfl q)
theorem L_6 (hL : L ≤ 3072) (hi : i + 6 ≤ L) (h : Rel M) (kk : ∀ M2, Rel M2 → LA l G b L xs 1667 (lvs G b i) [] M2) : LA l G b L xs 454 (lvs G b i) [] M := by
  refine l_aload_n eL_454 rfl ?_
  refine l_arg (j := 1) hL hi rfl (by decide) eL_455 eL_456 eL_457 eL_458 eL_459 ?_
  refine l_arg (j := 2) hL hi rfl (by decide) eL_460 eL_461 eL_462 eL_463 eL_464 ?_
  refine l_callV (y' := mX7_ink) (k := 0) (st := []) [.int (xs (i + 1)), .int (xs (i + 2))] eL_465 sX7 kX7 rfl ml_L_39 im_X7_ink se_X7_ink in_X7 cw_X7_ink (by decide +kernel) (np := 2) rfl (Nat.le_of_ble_eq_true rfl) (Nat.le_of_ble_eq_true rfl) rfl ((P_ink h).mono (fun r M1 hr => ?_))
  obtain ⟨v, rfl, hM⟩ := hr
  refine l_aload_n eL_468 rfl ?_
  refine l_arg (j := 1) hL hi rfl (by decide) eL_469 eL_470 eL_471 eL_472 eL_473 ?_
  refine l_arg (j := 2) hL hi rfl (by decide) eL_474 eL_475 eL_476 eL_477 eL_478 ?_
  refine l_callV (y' := mX8_ink) (k := 100) (st := [.int v]) [.int (xs (i + 1)), .int (xs (i + 2))] eL_479 sX8 kX8 rfl ml_L_42 im_X8_ink se_X8_ink in_X8 cw_X8_ink (by decide +kernel) (np := 2) rfl (Nat.le_of_ble_eq_true rfl) (Nat.le_of_ble_eq_true rfl) rfl (hM.mono (fun r M2 hr => ?_))
  obtain ⟨rfl, hR⟩ := hr
  exact l_icmp_eq (tgt := 1667) eL_482 (by decide) (fun _ => kk M2 hR) (fun q => absurd rfl q)
theorem L_7 (hL : L ≤ 3072) (hi : i + 6 ≤ L) (h : Rel M) (kk : ∀ M2, Rel M2 → LA l G b L xs 1667 (lvs G b i) [] M2) : LA l G b L xs 487 (lvs G b i) [] M := by
  refine l_aload_n eL_487 rfl ?_
  refine l_arg (j := 1) hL hi rfl (by decide) eL_488 eL_489 eL_490 eL_491 eL_492 ?_
  refine l_arg (j := 2) hL hi rfl (by decide) eL_493 eL_494 eL_495 eL_496 eL_497 ?_
  refine l_callV (y' := mX7_scar) (k := 0) (st := []) [.int (xs (i + 1)), .int (xs (i + 2))] eL_498 sX7 kX7 rfl ml_L_43 im_X7_scar se_X7_scar in_X7 cw_X7_scar (by decide +kernel) (np := 2) rfl (Nat.le_of_ble_eq_true rfl) (Nat.le_of_ble_eq_true rfl) rfl ((P_scar h).mono (fun r M1 hr => ?_))
  obtain ⟨v, rfl, hM⟩ := hr
  refine l_aload_n eL_501 rfl ?_
  refine l_arg (j := 1) hL hi rfl (by decide) eL_502 eL_503 eL_504 eL_505 eL_506 ?_
  refine l_arg (j := 2) hL hi rfl (by decide) eL_507 eL_508 eL_509 eL_510 eL_511 ?_
  refine l_callV (y' := mX8_scar) (k := 100) (st := [.int v]) [.int (xs (i + 1)), .int (xs (i + 2))] eL_512 sX8 kX8 rfl ml_L_46 im_X8_scar se_X8_scar in_X8 cw_X8_scar (by decide +kernel) (np := 2) rfl (Nat.le_of_ble_eq_true rfl) (Nat.le_of_ble_eq_true rfl) rfl (hM.mono (fun r M2 hr => ?_))
  obtain ⟨rfl, hR⟩ := hr
  exact l_icmp_eq (tgt := 1667) eL_515 (by decide) (fun _ => kk M2 hR) (fun q => absurd rfl q)
theorem L_8 (hL : L ≤ 3072) (hi : i + 6 ≤ L) (h : Rel M) (kk : ∀ M2, Rel M2 → LA l G b L xs 1667 (lvs G b i) [] M2) : LA l G b L xs 520 (lvs G b i) [] M := by
  refine l_aload_n eL_520 rfl ?_
  refine l_arg (j := 1) hL hi rfl (by decide) eL_521 eL_522 eL_523 eL_524 eL_525 ?_
  refine l_arg (j := 2) hL hi rfl (by decide) eL_526 eL_527 eL_528 eL_529 eL_530 ?_
  refine l_callV (y' := mX7_about) (k := 0) (st := []) [.int (xs (i + 1)), .int (xs (i + 2))] eL_531 sX7 kX7 rfl ml_L_47 im_X7_about se_X7_about in_X7 cw_X7_about (by decide +kernel) (np := 2) rfl (Nat.le_of_ble_eq_true rfl) (Nat.le_of_ble_eq_true rfl) rfl ((P_about h).mono (fun r M1 hr => ?_))
  obtain ⟨v, rfl, hM⟩ := hr
  refine l_aload_n eL_534 rfl ?_
  refine l_arg (j := 1) hL hi rfl (by decide) eL_535 eL_536 eL_537 eL_538 eL_539 ?_
  refine l_arg (j := 2) hL hi rfl (by decide) eL_540 eL_541 eL_542 eL_543 eL_544 ?_
  refine l_callV (y' := mX8_about) (k := 100) (st := [.int v]) [.int (xs (i + 1)), .int (xs (i + 2))] eL_545 sX8 kX8 rfl ml_L_50 im_X8_about se_X8_about in_X8 cw_X8_about (by decide +kernel) (np := 2) rfl (Nat.le_of_ble_eq_true rfl) (Nat.le_of_ble_eq_true rfl) rfl (hM.mono (fun r M2 hr => ?_))
  obtain ⟨rfl, hR⟩ := hr
  exact l_icmp_eq (tgt := 1667) eL_548 (by decide) (fun _ => kk M2 hR) (fun q => absurd rfl q)
theorem L_9 (hL : L ≤ 3072) (hi : i + 6 ≤ L) (h : Rel M) (kk : ∀ M2, Rel M2 → LA l G b L xs 1667 (lvs G b i) [] M2) : LA l G b L xs 553 (lvs G b i) [] M := by
  refine l_aload_n eL_553 rfl ?_
  refine l_arg (j := 1) hL hi rfl (by decide) eL_554 eL_555 eL_556 eL_557 eL_558 ?_
  refine l_callV (y' := mX7_slides) (k := 0) (st := []) [.int (xs (i + 1))] eL_559 sX7 kX7 rfl ml_L_51 im_X7_slides se_X7_slides in_X7 cw_X7_slides (by decide +kernel) (np := 1) rfl (Nat.le_of_ble_eq_true rfl) (Nat.le_of_ble_eq_true rfl) rfl ((P_slides h).mono (fun r M1 hr => ?_))
  obtain ⟨v, rfl, hM⟩ := hr
  refine l_aload_n eL_562 rfl ?_
  refine l_arg (j := 1) hL hi rfl (by decide) eL_563 eL_564 eL_565 eL_566 eL_567 ?_
  refine l_callV (y' := mX8_slides) (k := 100) (st := [.int v]) [.int (xs (i + 1))] eL_568 sX8 kX8 rfl ml_L_55 im_X8_slides se_X8_slides in_X8 cw_X8_slides (by decide +kernel) (np := 1) rfl (Nat.le_of_ble_eq_true rfl) (Nat.le_of_ble_eq_true rfl) rfl (hM.mono (fun r M2 hr => ?_))
  obtain ⟨rfl, hR⟩ := hr
  exact l_icmp_eq (tgt := 1667) eL_571 (by decide) (fun _ => kk M2 hR) (fun q => absurd rfl q)
theorem L_10 (hL : L ≤ 3072) (hi : i + 6 ≤ L) (h : Rel M) (kk : ∀ M2, Rel M2 → LA l G b L xs 1667 (lvs G b i) [] M2) : LA l G b L xs 576 (lvs G b i) [] M := by
  refine l_aload_n eL_576 rfl ?_
  refine l_arg (j := 1) hL hi rfl (by decide) eL_577 eL_578 eL_579 eL_580 eL_581 ?_
  refine l_callV (y' := mX7_at) (k := 0) (st := []) [.int (xs (i + 1))] eL_582 sX7 kX7 rfl ml_L_56 im_X7_at se_X7_at in_X7 cw_X7_at (by decide +kernel) (np := 1) rfl (Nat.le_of_ble_eq_true rfl) (Nat.le_of_ble_eq_true rfl) rfl ((P_at h).mono (fun r M1 hr => ?_))
  obtain ⟨v, rfl, hM⟩ := hr
  refine l_aload_n eL_585 rfl ?_
  refine l_arg (j := 1) hL hi rfl (by decide) eL_586 eL_587 eL_588 eL_589 eL_590 ?_
  refine l_callV (y' := mX8_at) (k := 100) (st := [.int v]) [.int (xs (i + 1))] eL_591 sX8 kX8 rfl ml_L_59 im_X8_at se_X8_at in_X8 cw_X8_at (by decide +kernel) (np := 1) rfl (Nat.le_of_ble_eq_true rfl) (Nat.le_of_ble_eq_true rfl) rfl (hM.mono (fun r M2 hr => ?_))
  obtain ⟨rfl, hR⟩ := hr
  exact l_icmp_eq (tgt := 1667) eL_594 (by decide) (fun _ => kk M2 hR) (fun q => absurd rfl q)
theorem L_11 (hL : L ≤ 3072) (hi : i + 6 ≤ L) (h : Rel M) (kk : ∀ M2, Rel M2 → LA l G b L xs 1667 (lvs G b i) [] M2) : LA l G b L xs 599 (lvs G b i) [] M := by
  refine l_aload_n eL_599 rfl ?_
  refine l_arg (j := 1) hL hi rfl (by decide) eL_600 eL_601 eL_602 eL_603 eL_604 ?_
  refine l_arg (j := 2) hL hi rfl (by decide) eL_605 eL_606 eL_607 eL_608 eL_609 ?_
  refine l_callV (y' := mX7_rule) (k := 0) (st := []) [.int (xs (i + 1)), .int (xs (i + 2))] eL_610 sX7 kX7 rfl ml_L_60 im_X7_rule se_X7_rule in_X7 cw_X7_rule (by decide +kernel) (np := 2) rfl (Nat.le_of_ble_eq_true rfl) (Nat.le_of_ble_eq_true rfl) rfl ((P_rule h).mono (fun r M1 hr => ?_))
  obtain ⟨v, rfl, hM⟩ := hr
  refine l_aload_n eL_613 rfl ?_
  refine l_arg (j := 1) hL hi rfl (by decide) eL_614 eL_615 eL_616 eL_617 eL_618 ?_
  refine l_arg (j := 2) hL hi rfl (by decide) eL_619 eL_620 eL_621 eL_622 eL_623 ?_
  refine l_callV (y' := mX8_rule) (k := 100) (st := [.int v]) [.int (xs (i + 1)), .int (xs (i + 2))] eL_624 sX8 kX8 rfl ml_L_63 im_X8_rule se_X8_rule in_X8 cw_X8_rule (by decide +kernel) (np := 2) rfl (Nat.le_of_ble_eq_true rfl) (Nat.le_of_ble_eq_true rfl) rfl (hM.mono (fun r M2 hr => ?_))
  obtain ⟨rfl, hR⟩ := hr
  exact l_icmp_eq (tgt := 1667) eL_627 (by decide) (fun _ => kk M2 hR) (fun q => absurd rfl q)
theorem L_12 (hL : L ≤ 3072) (hi : i + 6 ≤ L) (h : Rel M) (kk : ∀ M2, Rel M2 → LA l G b L xs 1667 (lvs G b i) [] M2) : LA l G b L xs 632 (lvs G b i) [] M := by
  refine l_aload_n eL_632 rfl ?_
  refine l_arg (j := 1) hL hi rfl (by decide) eL_633 eL_634 eL_635 eL_636 eL_637 ?_
  refine l_callV (y' := mX7_deal) (k := 0) (st := []) [.int (xs (i + 1))] eL_638 sX7 kX7 rfl ml_L_64 im_X7_deal se_X7_deal in_X7 cw_X7_deal (by decide +kernel) (np := 1) rfl (Nat.le_of_ble_eq_true rfl) (Nat.le_of_ble_eq_true rfl) rfl ((P_deal h).mono (fun r M1 hr => ?_))
  obtain ⟨v, rfl, hM⟩ := hr
  refine l_aload_n eL_641 rfl ?_
  refine l_arg (j := 1) hL hi rfl (by decide) eL_642 eL_643 eL_644 eL_645 eL_646 ?_
  refine l_callV (y' := mX8_deal) (k := 100) (st := [.int v]) [.int (xs (i + 1))] eL_647 sX8 kX8 rfl ml_L_67 im_X8_deal se_X8_deal in_X8 cw_X8_deal (by decide +kernel) (np := 1) rfl (Nat.le_of_ble_eq_true rfl) (Nat.le_of_ble_eq_true rfl) rfl (hM.mono (fun r M2 hr => ?_))
  obtain ⟨rfl, hR⟩ := hr
  exact l_icmp_eq (tgt := 1667) eL_650 (by decide) (fun _ => kk M2 hR) (fun q => absurd rfl q)
theorem L_13 (hL : L ≤ 3072) (hi : i + 6 ≤ L) (h : Rel M) (kk : ∀ M2, Rel M2 → LA l G b L xs 1667 (lvs G b i) [] M2) : LA l G b L xs 655 (lvs G b i) [] M := by
  refine l_aload_n eL_655 rfl ?_
  refine l_arg (j := 1) hL hi rfl (by decide) eL_656 eL_657 eL_658 eL_659 eL_660 ?_
  refine l_callV (y' := mX7_seed) (k := 0) (st := []) [.int (xs (i + 1))] eL_661 sX7 kX7 rfl ml_L_68 im_X7_seed se_X7_seed in_X7 cw_X7_seed (by decide +kernel) (np := 1) rfl (Nat.le_of_ble_eq_true rfl) (Nat.le_of_ble_eq_true rfl) rfl ((P_seed h).mono (fun r M1 hr => ?_))
  obtain ⟨v, rfl, hM⟩ := hr
  refine l_aload_n eL_664 rfl ?_
  refine l_arg (j := 1) hL hi rfl (by decide) eL_665 eL_666 eL_667 eL_668 eL_669 ?_
  refine l_callV (y' := mX8_seed) (k := 100) (st := [.int v]) [.int (xs (i + 1))] eL_670 sX8 kX8 rfl ml_L_71 im_X8_seed se_X8_seed in_X8 cw_X8_seed (by decide +kernel) (np := 1) rfl (Nat.le_of_ble_eq_true rfl) (Nat.le_of_ble_eq_true rfl) rfl (hM.mono (fun r M2 hr => ?_))
  obtain ⟨rfl, hR⟩ := hr
  exact l_icmp_eq (tgt := 1667) eL_673 (by decide) (fun _ => kk M2 hR) (fun q => absurd rfl q)
theorem L_14 (hL : L ≤ 3072) (hi : i + 6 ≤ L) (h : Rel M) (kk : ∀ M2, Rel M2 → LA l G b L xs 1667 (lvs G b i) [] M2) : LA l G b L xs 678 (lvs G b i) [] M := by
  refine l_aload_n eL_678 rfl ?_
  refine l_arg (j := 1) hL hi rfl (by decide) eL_679 eL_680 eL_681 eL_682 eL_683 ?_
  refine l_callV (y' := mX7_days) (k := 0) (st := []) [.int (xs (i + 1))] eL_684 sX7 kX7 rfl ml_L_72 im_X7_days se_X7_days in_X7 cw_X7_days (by decide +kernel) (np := 1) rfl (Nat.le_of_ble_eq_true rfl) (Nat.le_of_ble_eq_true rfl) rfl ((P_days h).mono (fun r M1 hr => ?_))
  obtain ⟨v, rfl, hM⟩ := hr
  refine l_aload_n eL_687 rfl ?_
  refine l_arg (j := 1) hL hi rfl (by decide) eL_688 eL_689 eL_690 eL_691 eL_692 ?_
  refine l_callV (y' := mX8_days) (k := 100) (st := [.int v]) [.int (xs (i + 1))] eL_693 sX8 kX8 rfl ml_L_75 im_X8_days se_X8_days in_X8 cw_X8_days (by decide +kernel) (np := 1) rfl (Nat.le_of_ble_eq_true rfl) (Nat.le_of_ble_eq_true rfl) rfl (hM.mono (fun r M2 hr => ?_))
  obtain ⟨rfl, hR⟩ := hr
  exact l_icmp_eq (tgt := 1667) eL_696 (by decide) (fun _ => kk M2 hR) (fun q => absurd rfl q)
theorem L_15 (hL : L ≤ 3072) (hi : i + 6 ≤ L) (h : Rel M) (kk : ∀ M2, Rel M2 → LA l G b L xs 1667 (lvs G b i) [] M2) : LA l G b L xs 701 (lvs G b i) [] M := by
  refine l_aload_n eL_701 rfl ?_
  refine l_arg (j := 1) hL hi rfl (by decide) eL_702 eL_703 eL_704 eL_705 eL_706 ?_
  refine l_callV (y' := mX7_land) (k := 0) (st := []) [.int (xs (i + 1))] eL_707 sX7 kX7 rfl ml_L_76 im_X7_land se_X7_land in_X7 cw_X7_land (by decide +kernel) (np := 1) rfl (Nat.le_of_ble_eq_true rfl) (Nat.le_of_ble_eq_true rfl) rfl ((P_land h).mono (fun r M1 hr => ?_))
  obtain ⟨v, rfl, hM⟩ := hr
  refine l_aload_n eL_710 rfl ?_
  refine l_arg (j := 1) hL hi rfl (by decide) eL_711 eL_712 eL_713 eL_714 eL_715 ?_
  refine l_callV (y' := mX8_land) (k := 100) (st := [.int v]) [.int (xs (i + 1))] eL_716 sX8 kX8 rfl ml_L_79 im_X8_land se_X8_land in_X8 cw_X8_land (by decide +kernel) (np := 1) rfl (Nat.le_of_ble_eq_true rfl) (Nat.le_of_ble_eq_true rfl) rfl (hM.mono (fun r M2 hr => ?_))
  obtain ⟨rfl, hR⟩ := hr
  exact l_icmp_eq (tgt := 1667) eL_719 (by decide) (fun _ => kk M2 hR) (fun q => absurd rfl q)
theorem L_16 (hL : L ≤ 3072) (hi : i + 6 ≤ L) (h : Rel M) (kk : ∀ M2, Rel M2 → LA l G b L xs 1667 (lvs G b i) [] M2) : LA l G b L xs 724 (lvs G b i) [] M := by
  refine l_aload_n eL_724 rfl ?_
  refine l_arg (j := 1) hL hi rfl (by decide) eL_725 eL_726 eL_727 eL_728 eL_729 ?_
  refine l_arg (j := 2) hL hi rfl (by decide) eL_730 eL_731 eL_732 eL_733 eL_734 ?_
  refine l_arg (j := 3) hL hi rfl (by decide) eL_735 eL_736 eL_737 eL_738 eL_739 ?_
  refine l_callV (y' := mX7_journey) (k := 0) (st := []) [.int (xs (i + 1)), .int (xs (i + 2)), .int (xs (i + 3))] eL_740 sX7 kX7 rfl ml_L_80 im_X7_journey se_X7_journey in_X7 cw_X7_journey (by decide +kernel) (np := 3) rfl (Nat.le_of_ble_eq_true rfl) (Nat.le_of_ble_eq_true rfl) rfl ((P_journey h).mono (fun r M1 hr => ?_))
  obtain ⟨v, rfl, hM⟩ := hr
  refine l_aload_n eL_743 rfl ?_
  refine l_arg (j := 1) hL hi rfl (by decide) eL_744 eL_745 eL_746 eL_747 eL_748 ?_
  refine l_arg (j := 2) hL hi rfl (by decide) eL_749 eL_750 eL_751 eL_752 eL_753 ?_
  refine l_arg (j := 3) hL hi rfl (by decide) eL_754 eL_755 eL_756 eL_757 eL_758 ?_
  refine l_callV (y' := mX8_journey) (k := 100) (st := [.int v]) [.int (xs (i + 1)), .int (xs (i + 2)), .int (xs (i + 3))] eL_759 sX8 kX8 rfl ml_L_83 im_X8_journey se_X8_journey in_X8 cw_X8_journey (by decide +kernel) (np := 3) rfl (Nat.le_of_ble_eq_true rfl) (Nat.le_of_ble_eq_true rfl) rfl (hM.mono (fun r M2 hr => ?_))
  obtain ⟨rfl, hR⟩ := hr
  exact l_icmp_eq (tgt := 1667) eL_762 (by decide) (fun _ => kk M2 hR) (fun q => absurd rfl q)
theorem L_17 (hL : L ≤ 3072) (hi : i + 6 ≤ L) (h : Rel M) (kk : ∀ M2, Rel M2 → LA l G b L xs 1667 (lvs G b i) [] M2) : LA l G b L xs 767 (lvs G b i) [] M := by
  refine l_aload_n eL_767 rfl ?_
  refine l_arg (j := 1) hL hi rfl (by decide) eL_768 eL_769 eL_770 eL_771 eL_772 ?_
  refine l_callV (y' := mX7_reach) (k := 0) (st := []) [.int (xs (i + 1))] eL_773 sX7 kX7 rfl ml_L_84 im_X7_reach se_X7_reach in_X7 cw_X7_reach (by decide +kernel) (np := 1) rfl (Nat.le_of_ble_eq_true rfl) (Nat.le_of_ble_eq_true rfl) rfl ((P_reach h).mono (fun r M1 hr => ?_))
  obtain ⟨v, rfl, hM⟩ := hr
  refine l_aload_n eL_776 rfl ?_
  refine l_arg (j := 1) hL hi rfl (by decide) eL_777 eL_778 eL_779 eL_780 eL_781 ?_
  refine l_callV (y' := mX8_reach) (k := 100) (st := [.int v]) [.int (xs (i + 1))] eL_782 sX8 kX8 rfl ml_L_87 im_X8_reach se_X8_reach in_X8 cw_X8_reach (by decide +kernel) (np := 1) rfl (Nat.le_of_ble_eq_true rfl) (Nat.le_of_ble_eq_true rfl) rfl (hM.mono (fun r M2 hr => ?_))
  obtain ⟨rfl, hR⟩ := hr
  exact l_icmp_eq (tgt := 1667) eL_785 (by decide) (fun _ => kk M2 hR) (fun q => absurd rfl q)
theorem L_18 (hL : L ≤ 3072) (hi : i + 6 ≤ L) (h : Rel M) (kk : ∀ M2, Rel M2 → LA l G b L xs 1667 (lvs G b i) [] M2) : LA l G b L xs 790 (lvs G b i) [] M := by
  refine l_aload_n eL_790 rfl ?_
  refine l_arg (j := 1) hL hi rfl (by decide) eL_791 eL_792 eL_793 eL_794 eL_795 ?_
  refine l_arg (j := 2) hL hi rfl (by decide) eL_796 eL_797 eL_798 eL_799 eL_800 ?_
  refine l_arg (j := 3) hL hi rfl (by decide) eL_801 eL_802 eL_803 eL_804 eL_805 ?_
  refine l_callV (y' := mX7_company) (k := 0) (st := []) [.int (xs (i + 1)), .int (xs (i + 2)), .int (xs (i + 3))] eL_806 sX7 kX7 rfl ml_L_88 im_X7_company se_X7_company in_X7 cw_X7_company (by decide +kernel) (np := 3) rfl (Nat.le_of_ble_eq_true rfl) (Nat.le_of_ble_eq_true rfl) rfl ((P_company h).mono (fun r M1 hr => ?_))
  obtain ⟨v, rfl, hM⟩ := hr
  refine l_aload_n eL_809 rfl ?_
  refine l_arg (j := 1) hL hi rfl (by decide) eL_810 eL_811 eL_812 eL_813 eL_814 ?_
  refine l_arg (j := 2) hL hi rfl (by decide) eL_815 eL_816 eL_817 eL_818 eL_819 ?_
  refine l_arg (j := 3) hL hi rfl (by decide) eL_820 eL_821 eL_822 eL_823 eL_824 ?_
  refine l_callV (y' := mX8_company) (k := 100) (st := [.int v]) [.int (xs (i + 1)), .int (xs (i + 2)), .int (xs (i + 3))] eL_825 sX8 kX8 rfl ml_L_91 im_X8_company se_X8_company in_X8 cw_X8_company (by decide +kernel) (np := 3) rfl (Nat.le_of_ble_eq_true rfl) (Nat.le_of_ble_eq_true rfl) rfl (hM.mono (fun r M2 hr => ?_))
  obtain ⟨rfl, hR⟩ := hr
  exact l_icmp_eq (tgt := 1667) eL_828 (by decide) (fun _ => kk M2 hR) (fun q => absurd rfl q)
theorem L_19 (hL : L ≤ 3072) (hi : i + 6 ≤ L) (h : Rel M) (kk : ∀ M2, Rel M2 → LA l G b L xs 1667 (lvs G b i) [] M2) : LA l G b L xs 833 (lvs G b i) [] M := by
  refine l_aload_n eL_833 rfl ?_
  refine l_arg (j := 1) hL hi rfl (by decide) eL_834 eL_835 eL_836 eL_837 eL_838 ?_
  refine l_callV (y' := mX7_regiment) (k := 0) (st := []) [.int (xs (i + 1))] eL_839 sX7 kX7 rfl ml_L_92 im_X7_regiment se_X7_regiment in_X7 cw_X7_regiment (by decide +kernel) (np := 1) rfl (Nat.le_of_ble_eq_true rfl) (Nat.le_of_ble_eq_true rfl) rfl ((P_regiment h).mono (fun r M1 hr => ?_))
  obtain ⟨v, rfl, hM⟩ := hr
  refine l_aload_n eL_842 rfl ?_
  refine l_arg (j := 1) hL hi rfl (by decide) eL_843 eL_844 eL_845 eL_846 eL_847 ?_
  refine l_callV (y' := mX8_regiment) (k := 100) (st := [.int v]) [.int (xs (i + 1))] eL_848 sX8 kX8 rfl ml_L_95 im_X8_regiment se_X8_regiment in_X8 cw_X8_regiment (by decide +kernel) (np := 1) rfl (Nat.le_of_ble_eq_true rfl) (Nat.le_of_ble_eq_true rfl) rfl (hM.mono (fun r M2 hr => ?_))
  obtain ⟨rfl, hR⟩ := hr
  exact l_icmp_eq (tgt := 1667) eL_851 (by decide) (fun _ => kk M2 hR) (fun q => absurd rfl q)
theorem L_20 (hL : L ≤ 3072) (hi : i + 6 ≤ L) (h : Rel M) (kk : ∀ M2, Rel M2 → LA l G b L xs 1667 (lvs G b i) [] M2) : LA l G b L xs 856 (lvs G b i) [] M := by
  refine l_aload_n eL_856 rfl ?_
  refine l_arg (j := 1) hL hi rfl (by decide) eL_857 eL_858 eL_859 eL_860 eL_861 ?_
  refine l_callV (y' := mX7_dear) (k := 0) (st := []) [.int (xs (i + 1))] eL_862 sX7 kX7 rfl ml_L_96 im_X7_dear se_X7_dear in_X7 cw_X7_dear (by decide +kernel) (np := 1) rfl (Nat.le_of_ble_eq_true rfl) (Nat.le_of_ble_eq_true rfl) rfl ((P_dear h).mono (fun r M1 hr => ?_))
  obtain ⟨v, rfl, hM⟩ := hr
  refine l_aload_n eL_865 rfl ?_
  refine l_arg (j := 1) hL hi rfl (by decide) eL_866 eL_867 eL_868 eL_869 eL_870 ?_
  refine l_callV (y' := mX8_dear) (k := 100) (st := [.int v]) [.int (xs (i + 1))] eL_871 sX8 kX8 rfl ml_L_99 im_X8_dear se_X8_dear in_X8 cw_X8_dear (by decide +kernel) (np := 1) rfl (Nat.le_of_ble_eq_true rfl) (Nat.le_of_ble_eq_true rfl) rfl (hM.mono (fun r M2 hr => ?_))
  obtain ⟨rfl, hR⟩ := hr
  exact l_icmp_eq (tgt := 1667) eL_874 (by decide) (fun _ => kk M2 hR) (fun q => absurd rfl q)
theorem L_21 (hL : L ≤ 3072) (hi : i + 6 ≤ L) (h : Rel M) (kk : ∀ M2, Rel M2 → LA l G b L xs 1667 (lvs G b i) [] M2) : LA l G b L xs 879 (lvs G b i) [] M := by
  refine l_aload_n eL_879 rfl ?_
  refine l_arg (j := 1) hL hi rfl (by decide) eL_880 eL_881 eL_882 eL_883 eL_884 ?_
  refine l_arg (j := 2) hL hi rfl (by decide) eL_885 eL_886 eL_887 eL_888 eL_889 ?_
  refine l_callV (y' := mX7_behind) (k := 0) (st := []) [.int (xs (i + 1)), .int (xs (i + 2))] eL_890 sX7 kX7 rfl ml_L_100 im_X7_behind se_X7_behind in_X7 cw_X7_behind (by decide +kernel) (np := 2) rfl (Nat.le_of_ble_eq_true rfl) (Nat.le_of_ble_eq_true rfl) rfl ((P_behind h).mono (fun r M1 hr => ?_))
  obtain ⟨v, rfl, hM⟩ := hr
  refine l_aload_n eL_893 rfl ?_
  refine l_arg (j := 1) hL hi rfl (by decide) eL_894 eL_895 eL_896 eL_897 eL_898 ?_
  refine l_arg (j := 2) hL hi rfl (by decide) eL_899 eL_900 eL_901 eL_902 eL_903 ?_
  refine l_callV (y' := mX8_behind) (k := 100) (st := [.int v]) [.int (xs (i + 1)), .int (xs (i + 2))] eL_904 sX8 kX8 rfl ml_L_103 im_X8_behind se_X8_behind in_X8 cw_X8_behind (by decide +kernel) (np := 2) rfl (Nat.le_of_ble_eq_true rfl) (Nat.le_of_ble_eq_true rfl) rfl (hM.mono (fun r M2 hr => ?_))
  obtain ⟨rfl, hR⟩ := hr
  exact l_icmp_eq (tgt := 1667) eL_907 (by decide) (fun _ => kk M2 hR) (fun q => absurd rfl q)
theorem L_22 (hL : L ≤ 3072) (hi : i + 6 ≤ L) (h : Rel M) (kk : ∀ M2, Rel M2 → LA l G b L xs 1667 (lvs G b i) [] M2) : LA l G b L xs 912 (lvs G b i) [] M := by
  refine l_aload_n eL_912 rfl ?_
  refine l_arg (j := 1) hL hi rfl (by decide) eL_913 eL_914 eL_915 eL_916 eL_917 ?_
  refine l_arg (j := 2) hL hi rfl (by decide) eL_918 eL_919 eL_920 eL_921 eL_922 ?_
  refine l_callV (y' := mX7_arrives) (k := 0) (st := []) [.int (xs (i + 1)), .int (xs (i + 2))] eL_923 sX7 kX7 rfl ml_L_104 im_X7_arrives se_X7_arrives in_X7 cw_X7_arrives (by decide +kernel) (np := 2) rfl (Nat.le_of_ble_eq_true rfl) (Nat.le_of_ble_eq_true rfl) rfl ((P_arrives h).mono (fun r M1 hr => ?_))
  obtain ⟨v, rfl, hM⟩ := hr
  refine l_aload_n eL_926 rfl ?_
  refine l_arg (j := 1) hL hi rfl (by decide) eL_927 eL_928 eL_929 eL_930 eL_931 ?_
  refine l_arg (j := 2) hL hi rfl (by decide) eL_932 eL_933 eL_934 eL_935 eL_936 ?_
  refine l_callV (y' := mX8_arrives) (k := 100) (st := [.int v]) [.int (xs (i + 1)), .int (xs (i + 2))] eL_937 sX8 kX8 rfl ml_L_107 im_X8_arrives se_X8_arrives in_X8 cw_X8_arrives (by decide +kernel) (np := 2) rfl (Nat.le_of_ble_eq_true rfl) (Nat.le_of_ble_eq_true rfl) rfl (hM.mono (fun r M2 hr => ?_))
  obtain ⟨rfl, hR⟩ := hr
  exact l_icmp_eq (tgt := 1667) eL_940 (by decide) (fun _ => kk M2 hR) (fun q => absurd rfl q)
theorem L_23 (hL : L ≤ 3072) (hi : i + 6 ≤ L) (h : Rel M) (kk : ∀ M2, Rel M2 → LA l G b L xs 1667 (lvs G b i) [] M2) : LA l G b L xs 945 (lvs G b i) [] M := by
  refine l_aload_n eL_945 rfl ?_
  refine l_arg (j := 1) hL hi rfl (by decide) eL_946 eL_947 eL_948 eL_949 eL_950 ?_
  refine l_arg (j := 2) hL hi rfl (by decide) eL_951 eL_952 eL_953 eL_954 eL_955 ?_
  refine l_arg (j := 3) hL hi rfl (by decide) eL_956 eL_957 eL_958 eL_959 eL_960 ?_
  refine l_callV (y' := mX7_inks) (k := 0) (st := []) [.int (xs (i + 1)), .int (xs (i + 2)), .int (xs (i + 3))] eL_961 sX7 kX7 rfl ml_L_108 im_X7_inks se_X7_inks in_X7 cw_X7_inks (by decide +kernel) (np := 3) rfl (Nat.le_of_ble_eq_true rfl) (Nat.le_of_ble_eq_true rfl) rfl ((P_inks h).mono (fun r M1 hr => ?_))
  obtain ⟨v, rfl, hM⟩ := hr
  refine l_aload_n eL_964 rfl ?_
  refine l_arg (j := 1) hL hi rfl (by decide) eL_965 eL_966 eL_967 eL_968 eL_969 ?_
  refine l_arg (j := 2) hL hi rfl (by decide) eL_970 eL_971 eL_972 eL_973 eL_974 ?_
  refine l_arg (j := 3) hL hi rfl (by decide) eL_975 eL_976 eL_977 eL_978 eL_979 ?_
  refine l_callV (y' := mX8_inks) (k := 100) (st := [.int v]) [.int (xs (i + 1)), .int (xs (i + 2)), .int (xs (i + 3))] eL_980 sX8 kX8 rfl ml_L_111 im_X8_inks se_X8_inks in_X8 cw_X8_inks (by decide +kernel) (np := 3) rfl (Nat.le_of_ble_eq_true rfl) (Nat.le_of_ble_eq_true rfl) rfl (hM.mono (fun r M2 hr => ?_))
  obtain ⟨rfl, hR⟩ := hr
  exact l_icmp_eq (tgt := 1667) eL_983 (by decide) (fun _ => kk M2 hR) (fun q => absurd rfl q)
theorem L_24 (hL : L ≤ 3072) (hi : i + 6 ≤ L) (h : Rel M) (kk : ∀ M2, Rel M2 → LA l G b L xs 1667 (lvs G b i) [] M2) : LA l G b L xs 988 (lvs G b i) [] M := by
  refine l_aload_n eL_988 rfl ?_
  refine l_arg (j := 1) hL hi rfl (by decide) eL_989 eL_990 eL_991 eL_992 eL_993 ?_
  refine l_arg (j := 2) hL hi rfl (by decide) eL_994 eL_995 eL_996 eL_997 eL_998 ?_
  refine l_arg (j := 3) hL hi rfl (by decide) eL_999 eL_1000 eL_1001 eL_1002 eL_1003 ?_
  refine l_callV (y' := mX7_becomes) (k := 0) (st := []) [.int (xs (i + 1)), .int (xs (i + 2)), .int (xs (i + 3))] eL_1004 sX7 kX7 rfl ml_L_112 im_X7_becomes se_X7_becomes in_X7 cw_X7_becomes (by decide +kernel) (np := 3) rfl (Nat.le_of_ble_eq_true rfl) (Nat.le_of_ble_eq_true rfl) rfl ((P_becomes h).mono (fun r M1 hr => ?_))
  obtain ⟨v, rfl, hM⟩ := hr
  refine l_aload_n eL_1007 rfl ?_
  refine l_arg (j := 1) hL hi rfl (by decide) eL_1008 eL_1009 eL_1010 eL_1011 eL_1012 ?_
  refine l_arg (j := 2) hL hi rfl (by decide) eL_1013 eL_1014 eL_1015 eL_1016 eL_1017 ?_
  refine l_arg (j := 3) hL hi rfl (by decide) eL_1018 eL_1019 eL_1020 eL_1021 eL_1022 ?_
  refine l_callV (y' := mX8_becomes) (k := 100) (st := [.int v]) [.int (xs (i + 1)), .int (xs (i + 2)), .int (xs (i + 3))] eL_1023 sX8 kX8 rfl ml_L_115 im_X8_becomes se_X8_becomes in_X8 cw_X8_becomes (by decide +kernel) (np := 3) rfl (Nat.le_of_ble_eq_true rfl) (Nat.le_of_ble_eq_true rfl) rfl (hM.mono (fun r M2 hr => ?_))
  obtain ⟨rfl, hR⟩ := hr
  exact l_icmp_eq (tgt := 1667) eL_1026 (by decide) (fun _ => kk M2 hR) (fun q => absurd rfl q)
theorem L_25 (hL : L ≤ 3072) (hi : i + 6 ≤ L) (h : Rel M) (kk : ∀ M2, Rel M2 → LA l G b L xs 1667 (lvs G b i) [] M2) : LA l G b L xs 1031 (lvs G b i) [] M := by
  refine l_aload_n eL_1031 rfl ?_
  refine l_arg (j := 1) hL hi rfl (by decide) eL_1032 eL_1033 eL_1034 eL_1035 eL_1036 ?_
  refine l_arg (j := 2) hL hi rfl (by decide) eL_1037 eL_1038 eL_1039 eL_1040 eL_1041 ?_
  refine l_callV (y' := mX7_like) (k := 0) (st := []) [.int (xs (i + 1)), .int (xs (i + 2))] eL_1042 sX7 kX7 rfl ml_L_116 im_X7_like se_X7_like in_X7 cw_X7_like (by decide +kernel) (np := 2) rfl (Nat.le_of_ble_eq_true rfl) (Nat.le_of_ble_eq_true rfl) rfl ((P_like h).mono (fun r M1 hr => ?_))
  obtain ⟨v, rfl, hM⟩ := hr
  refine l_aload_n eL_1045 rfl ?_
  refine l_arg (j := 1) hL hi rfl (by decide) eL_1046 eL_1047 eL_1048 eL_1049 eL_1050 ?_
  refine l_arg (j := 2) hL hi rfl (by decide) eL_1051 eL_1052 eL_1053 eL_1054 eL_1055 ?_
  refine l_callV (y' := mX8_like) (k := 100) (st := [.int v]) [.int (xs (i + 1)), .int (xs (i + 2))] eL_1056 sX8 kX8 rfl ml_L_119 im_X8_like se_X8_like in_X8 cw_X8_like (by decide +kernel) (np := 2) rfl (Nat.le_of_ble_eq_true rfl) (Nat.le_of_ble_eq_true rfl) rfl (hM.mono (fun r M2 hr => ?_))
  obtain ⟨rfl, hR⟩ := hr
  exact l_icmp_eq (tgt := 1667) eL_1059 (by decide) (fun _ => kk M2 hR) (fun q => absurd rfl q)
theorem L_26 (hL : L ≤ 3072) (hi : i + 6 ≤ L) (h : Rel M) (kk : ∀ M2, Rel M2 → LA l G b L xs 1667 (lvs G b i) [] M2) : LA l G b L xs 1064 (lvs G b i) [] M := by
  refine l_aload_n eL_1064 rfl ?_
  refine l_callV (y' := mX7_fee) (k := 0) (st := []) [] eL_1065 sX7 kX7 rfl ml_L_120 im_X7_fee se_X7_fee in_X7 cw_X7_fee (by decide +kernel) (np := 0) rfl (Nat.le_of_ble_eq_true rfl) (Nat.le_of_ble_eq_true rfl) rfl ((P_fee h).mono (fun r M1 hr => ?_))
  obtain ⟨v, rfl, hM⟩ := hr
  refine l_aload_n eL_1068 rfl ?_
  refine l_callV (y' := mX8_fee) (k := 100) (st := [.int v]) [] eL_1069 sX8 kX8 rfl ml_L_124 im_X8_fee se_X8_fee in_X8 cw_X8_fee (by decide +kernel) (np := 0) rfl (Nat.le_of_ble_eq_true rfl) (Nat.le_of_ble_eq_true rfl) rfl (hM.mono (fun r M2 hr => ?_))
  obtain ⟨rfl, hR⟩ := hr
  exact l_icmp_eq (tgt := 1667) eL_1072 (by decide) (fun _ => kk M2 hR) (fun q => absurd rfl q)
theorem L_27 (hL : L ≤ 3072) (hi : i + 6 ≤ L) (h : Rel M) (kk : ∀ M2, Rel M2 → LA l G b L xs 1667 (lvs G b i) [] M2) : LA l G b L xs 1077 (lvs G b i) [] M := by
  refine l_aload_n eL_1077 rfl ?_
  refine l_arg (j := 1) hL hi rfl (by decide) eL_1078 eL_1079 eL_1080 eL_1081 eL_1082 ?_
  refine l_callV (y' := mX7_fine) (k := 0) (st := []) [.int (xs (i + 1))] eL_1083 sX7 kX7 rfl ml_L_125 im_X7_fine se_X7_fine in_X7 cw_X7_fine (by decide +kernel) (np := 1) rfl (Nat.le_of_ble_eq_true rfl) (Nat.le_of_ble_eq_true rfl) rfl ((P_fine h).mono (fun r M1 hr => ?_))
  obtain ⟨v, rfl, hM⟩ := hr
  refine l_aload_n eL_1086 rfl ?_
  refine l_arg (j := 1) hL hi rfl (by decide) eL_1087 eL_1088 eL_1089 eL_1090 eL_1091 ?_
  refine l_callV (y' := mX8_fine) (k := 100) (st := [.int v]) [.int (xs (i + 1))] eL_1092 sX8 kX8 rfl ml_L_128 im_X8_fine se_X8_fine in_X8 cw_X8_fine (by decide +kernel) (np := 1) rfl (Nat.le_of_ble_eq_true rfl) (Nat.le_of_ble_eq_true rfl) rfl (hM.mono (fun r M2 hr => ?_))
  obtain ⟨rfl, hR⟩ := hr
  exact l_icmp_eq (tgt := 1667) eL_1095 (by decide) (fun _ => kk M2 hR) (fun q => absurd rfl q)
theorem L_28 (hL : L ≤ 3072) (hi : i + 6 ≤ L) (h : Rel M) (kk : ∀ M2, Rel M2 → LA l G b L xs 1667 (lvs G b i) [] M2) : LA l G b L xs 1100 (lvs G b i) [] M := by
  refine l_aload_n eL_1100 rfl ?_
  refine l_arg (j := 1) hL hi rfl (by decide) eL_1101 eL_1102 eL_1103 eL_1104 eL_1105 ?_
  refine l_arg (j := 2) hL hi rfl (by decide) eL_1106 eL_1107 eL_1108 eL_1109 eL_1110 ?_
  refine l_arg (j := 3) hL hi rfl (by decide) eL_1111 eL_1112 eL_1113 eL_1114 eL_1115 ?_
  refine l_callV (y' := mX7_feed) (k := 0) (st := []) [.int (xs (i + 1)), .int (xs (i + 2)), .int (xs (i + 3))] eL_1116 sX7 kX7 rfl ml_L_129 im_X7_feed se_X7_feed in_X7 cw_X7_feed (by decide +kernel) (np := 3) rfl (Nat.le_of_ble_eq_true rfl) (Nat.le_of_ble_eq_true rfl) rfl ((P_feed h).mono (fun r M1 hr => ?_))
  obtain ⟨v, rfl, hM⟩ := hr
  refine l_aload_n eL_1119 rfl ?_
  refine l_arg (j := 1) hL hi rfl (by decide) eL_1120 eL_1121 eL_1122 eL_1123 eL_1124 ?_
  refine l_arg (j := 2) hL hi rfl (by decide) eL_1125 eL_1126 eL_1127 eL_1128 eL_1129 ?_
  refine l_arg (j := 3) hL hi rfl (by decide) eL_1130 eL_1131 eL_1132 eL_1133 eL_1134 ?_
  refine l_callV (y' := mX8_feed) (k := 100) (st := [.int v]) [.int (xs (i + 1)), .int (xs (i + 2)), .int (xs (i + 3))] eL_1135 sX8 kX8 rfl ml_L_132 im_X8_feed se_X8_feed in_X8 cw_X8_feed (by decide +kernel) (np := 3) rfl (Nat.le_of_ble_eq_true rfl) (Nat.le_of_ble_eq_true rfl) rfl (hM.mono (fun r M2 hr => ?_))
  obtain ⟨rfl, hR⟩ := hr
  exact l_icmp_eq (tgt := 1667) eL_1138 (by decide) (fun _ => kk M2 hR) (fun q => absurd rfl q)
theorem L_29 (hL : L ≤ 3072) (hi : i + 6 ≤ L) (h : Rel M) (kk : ∀ M2, Rel M2 → LA l G b L xs 1667 (lvs G b i) [] M2) : LA l G b L xs 1143 (lvs G b i) [] M := by
  refine l_aload_n eL_1143 rfl ?_
  refine l_arg (j := 1) hL hi rfl (by decide) eL_1144 eL_1145 eL_1146 eL_1147 eL_1148 ?_
  refine l_callV (y' := mX7_trim) (k := 0) (st := []) [.int (xs (i + 1))] eL_1149 sX7 kX7 rfl ml_L_133 im_X7_trim se_X7_trim in_X7 cw_X7_trim (by decide +kernel) (np := 1) rfl (Nat.le_of_ble_eq_true rfl) (Nat.le_of_ble_eq_true rfl) rfl ((P_trim h).mono (fun r M1 hr => ?_))
  obtain ⟨v, rfl, hM⟩ := hr
  refine l_aload_n eL_1152 rfl ?_
  refine l_arg (j := 1) hL hi rfl (by decide) eL_1153 eL_1154 eL_1155 eL_1156 eL_1157 ?_
  refine l_callV (y' := mX8_trim) (k := 100) (st := [.int v]) [.int (xs (i + 1))] eL_1158 sX8 kX8 rfl ml_L_136 im_X8_trim se_X8_trim in_X8 cw_X8_trim (by decide +kernel) (np := 1) rfl (Nat.le_of_ble_eq_true rfl) (Nat.le_of_ble_eq_true rfl) rfl (hM.mono (fun r M2 hr => ?_))
  obtain ⟨rfl, hR⟩ := hr
  exact l_icmp_eq (tgt := 1667) eL_1161 (by decide) (fun _ => kk M2 hR) (fun q => absurd rfl q)
theorem L_30 (hL : L ≤ 3072) (hi : i + 6 ≤ L) (h : Rel M) (kk : ∀ M2, Rel M2 → LA l G b L xs 1667 (lvs G b i) [] M2) : LA l G b L xs 1166 (lvs G b i) [] M := by
  refine l_aload_n eL_1166 rfl ?_
  refine l_callV (y' := mX7_text) (k := 0) (st := []) [] eL_1167 sX7 kX7 rfl ml_L_137 im_X7_text se_X7_text in_X7 cw_X7_text (by decide +kernel) (np := 0) rfl (Nat.le_of_ble_eq_true rfl) (Nat.le_of_ble_eq_true rfl) rfl ((P_text h).mono (fun r M1 hr => ?_))
  obtain ⟨v, rfl, hM⟩ := hr
  refine l_aload_n eL_1170 rfl ?_
  refine l_callV (y' := mX8_text) (k := 100) (st := [.int v]) [] eL_1171 sX8 kX8 rfl ml_L_140 im_X8_text se_X8_text in_X8 cw_X8_text (by decide +kernel) (np := 0) rfl (Nat.le_of_ble_eq_true rfl) (Nat.le_of_ble_eq_true rfl) rfl (hM.mono (fun r M2 hr => ?_))
  obtain ⟨rfl, hR⟩ := hr
  exact l_icmp_eq (tgt := 1667) eL_1174 (by decide) (fun _ => kk M2 hR) (fun q => absurd rfl q)
theorem L_31 (hL : L ≤ 3072) (hi : i + 6 ≤ L) (h : Rel M) (kk : ∀ M2, Rel M2 → LA l G b L xs 1667 (lvs G b i) [] M2) : LA l G b L xs 1179 (lvs G b i) [] M := by
  refine l_aload_n eL_1179 rfl ?_
  refine l_arg (j := 1) hL hi rfl (by decide) eL_1180 eL_1181 eL_1182 eL_1183 eL_1184 ?_
  refine l_arg (j := 2) hL hi rfl (by decide) eL_1185 eL_1186 eL_1187 eL_1188 eL_1189 ?_
  refine l_callV (y' := mX7_textTold) (k := 0) (st := []) [.int (xs (i + 1)), .int (xs (i + 2))] eL_1190 sX7 kX7 rfl ml_L_141 im_X7_textTold se_X7_textTold in_X7 cw_X7_textTold (by decide +kernel) (np := 2) rfl (Nat.le_of_ble_eq_true rfl) (Nat.le_of_ble_eq_true rfl) rfl ((P_textTold h).mono (fun r M1 hr => ?_))
  obtain ⟨v, rfl, hM⟩ := hr
  refine l_aload_n eL_1193 rfl ?_
  refine l_arg (j := 1) hL hi rfl (by decide) eL_1194 eL_1195 eL_1196 eL_1197 eL_1198 ?_
  refine l_arg (j := 2) hL hi rfl (by decide) eL_1199 eL_1200 eL_1201 eL_1202 eL_1203 ?_
  refine l_callV (y' := mX8_textTold) (k := 100) (st := [.int v]) [.int (xs (i + 1)), .int (xs (i + 2))] eL_1204 sX8 kX8 rfl ml_L_144 im_X8_textTold se_X8_textTold in_X8 cw_X8_textTold (by decide +kernel) (np := 2) rfl (Nat.le_of_ble_eq_true rfl) (Nat.le_of_ble_eq_true rfl) rfl (hM.mono (fun r M2 hr => ?_))
  obtain ⟨rfl, hR⟩ := hr
  exact l_icmp_eq (tgt := 1667) eL_1207 (by decide) (fun _ => kk M2 hR) (fun q => absurd rfl q)
theorem L_32 (hL : L ≤ 3072) (hi : i + 6 ≤ L) (h : Rel M) (kk : ∀ M2, Rel M2 → LA l G b L xs 1667 (lvs G b i) [] M2) : LA l G b L xs 1212 (lvs G b i) [] M := by
  refine l_aload_n eL_1212 rfl ?_
  refine l_arg (j := 1) hL hi rfl (by decide) eL_1213 eL_1214 eL_1215 eL_1216 eL_1217 ?_
  refine l_callV (y' := mX7_why) (k := 0) (st := []) [.int (xs (i + 1))] eL_1218 sX7 kX7 rfl ml_L_145 im_X7_why se_X7_why in_X7 cw_X7_why (by decide +kernel) (np := 1) rfl (Nat.le_of_ble_eq_true rfl) (Nat.le_of_ble_eq_true rfl) rfl ((P_why h).mono (fun r M1 hr => ?_))
  obtain ⟨v, rfl, hM⟩ := hr
  refine l_aload_n eL_1221 rfl ?_
  refine l_arg (j := 1) hL hi rfl (by decide) eL_1222 eL_1223 eL_1224 eL_1225 eL_1226 ?_
  refine l_callV (y' := mX8_why) (k := 100) (st := [.int v]) [.int (xs (i + 1))] eL_1227 sX8 kX8 rfl ml_L_148 im_X8_why se_X8_why in_X8 cw_X8_why (by decide +kernel) (np := 1) rfl (Nat.le_of_ble_eq_true rfl) (Nat.le_of_ble_eq_true rfl) rfl (hM.mono (fun r M2 hr => ?_))
  obtain ⟨rfl, hR⟩ := hr
  exact l_icmp_eq (tgt := 1667) eL_1230 (by decide) (fun _ => kk M2 hR) (fun q => absurd rfl q)
theorem L_33 (hL : L ≤ 3072) (hi : i + 6 ≤ L) (h : Rel M) (kk : ∀ M2, Rel M2 → LA l G b L xs 1667 (lvs G b i) [] M2) : LA l G b L xs 1235 (lvs G b i) [] M := by
  refine l_aload_n eL_1235 rfl ?_
  refine l_arg (j := 1) hL hi rfl (by decide) eL_1236 eL_1237 eL_1238 eL_1239 eL_1240 ?_
  refine l_arg (j := 2) hL hi rfl (by decide) eL_1241 eL_1242 eL_1243 eL_1244 eL_1245 ?_
  refine l_arg (j := 3) hL hi rfl (by decide) eL_1246 eL_1247 eL_1248 eL_1249 eL_1250 ?_
  refine l_callV (y' := mX7_sheet) (k := 0) (st := []) [.int (xs (i + 1)), .int (xs (i + 2)), .int (xs (i + 3))] eL_1251 sX7 kX7 rfl ml_L_149 im_X7_sheet se_X7_sheet in_X7 cw_X7_sheet (by decide +kernel) (np := 3) rfl (Nat.le_of_ble_eq_true rfl) (Nat.le_of_ble_eq_true rfl) rfl ((P_sheet h).mono (fun r M1 hr => ?_))
  obtain ⟨v, rfl, hM⟩ := hr
  refine l_aload_n eL_1254 rfl ?_
  refine l_arg (j := 1) hL hi rfl (by decide) eL_1255 eL_1256 eL_1257 eL_1258 eL_1259 ?_
  refine l_arg (j := 2) hL hi rfl (by decide) eL_1260 eL_1261 eL_1262 eL_1263 eL_1264 ?_
  refine l_arg (j := 3) hL hi rfl (by decide) eL_1265 eL_1266 eL_1267 eL_1268 eL_1269 ?_
  refine l_callV (y' := mX8_sheet) (k := 100) (st := [.int v]) [.int (xs (i + 1)), .int (xs (i + 2)), .int (xs (i + 3))] eL_1270 sX8 kX8 rfl ml_L_152 im_X8_sheet se_X8_sheet in_X8 cw_X8_sheet (by decide +kernel) (np := 3) rfl (Nat.le_of_ble_eq_true rfl) (Nat.le_of_ble_eq_true rfl) rfl (hM.mono (fun r M2 hr => ?_))
  obtain ⟨rfl, hR⟩ := hr
  exact l_icmp_eq (tgt := 1667) eL_1273 (by decide) (fun _ => kk M2 hR) (fun q => absurd rfl q)
theorem L_34 (hL : L ≤ 3072) (hi : i + 6 ≤ L) (h : Rel M) (kk : ∀ M2, Rel M2 → LA l G b L xs 1667 (lvs G b i) [] M2) : LA l G b L xs 1278 (lvs G b i) [] M := by
  refine l_aload_n eL_1278 rfl ?_
  refine l_arg (j := 1) hL hi rfl (by decide) eL_1279 eL_1280 eL_1281 eL_1282 eL_1283 ?_
  refine l_arg (j := 2) hL hi rfl (by decide) eL_1284 eL_1285 eL_1286 eL_1287 eL_1288 ?_
  refine l_arg (j := 3) hL hi rfl (by decide) eL_1289 eL_1290 eL_1291 eL_1292 eL_1293 ?_
  refine l_callV (y' := mX7_mark) (k := 0) (st := []) [.int (xs (i + 1)), .int (xs (i + 2)), .int (xs (i + 3))] eL_1294 sX7 kX7 rfl ml_L_153 im_X7_mark se_X7_mark in_X7 cw_X7_mark (by decide +kernel) (np := 3) rfl (Nat.le_of_ble_eq_true rfl) (Nat.le_of_ble_eq_true rfl) rfl ((P_mark h).mono (fun r M1 hr => ?_))
  obtain ⟨v, rfl, hM⟩ := hr
  refine l_aload_n eL_1297 rfl ?_
  refine l_arg (j := 1) hL hi rfl (by decide) eL_1298 eL_1299 eL_1300 eL_1301 eL_1302 ?_
  refine l_arg (j := 2) hL hi rfl (by decide) eL_1303 eL_1304 eL_1305 eL_1306 eL_1307 ?_
  refine l_arg (j := 3) hL hi rfl (by decide) eL_1308 eL_1309 eL_1310 eL_1311 eL_1312 ?_
  refine l_callV (y' := mX8_mark) (k := 100) (st := [.int v]) [.int (xs (i + 1)), .int (xs (i + 2)), .int (xs (i + 3))] eL_1313 sX8 kX8 rfl ml_L_156 im_X8_mark se_X8_mark in_X8 cw_X8_mark (by decide +kernel) (np := 3) rfl (Nat.le_of_ble_eq_true rfl) (Nat.le_of_ble_eq_true rfl) rfl (hM.mono (fun r M2 hr => ?_))
  obtain ⟨rfl, hR⟩ := hr
  exact l_icmp_eq (tgt := 1667) eL_1316 (by decide) (fun _ => kk M2 hR) (fun q => absurd rfl q)
theorem L_35 (hL : L ≤ 3072) (hi : i + 6 ≤ L) (h : Rel M) (kk : ∀ M2, Rel M2 → LA l G b L xs 1667 (lvs G b i) [] M2) : LA l G b L xs 1321 (lvs G b i) [] M := by
  refine l_aload_n eL_1321 rfl ?_
  refine l_arg (j := 1) hL hi rfl (by decide) eL_1322 eL_1323 eL_1324 eL_1325 eL_1326 ?_
  refine l_callV (y' := mX7_pour) (k := 0) (st := []) [.int (xs (i + 1))] eL_1327 sX7 kX7 rfl ml_L_157 im_X7_pour se_X7_pour in_X7 cw_X7_pour (by decide +kernel) (np := 1) rfl (Nat.le_of_ble_eq_true rfl) (Nat.le_of_ble_eq_true rfl) rfl ((P_pour h).mono (fun r M1 hr => ?_))
  obtain ⟨v, rfl, hM⟩ := hr
  refine l_aload_n eL_1330 rfl ?_
  refine l_arg (j := 1) hL hi rfl (by decide) eL_1331 eL_1332 eL_1333 eL_1334 eL_1335 ?_
  refine l_callV (y' := mX8_pour) (k := 100) (st := [.int v]) [.int (xs (i + 1))] eL_1336 sX8 kX8 rfl ml_L_160 im_X8_pour se_X8_pour in_X8 cw_X8_pour (by decide +kernel) (np := 1) rfl (Nat.le_of_ble_eq_true rfl) (Nat.le_of_ble_eq_true rfl) rfl (hM.mono (fun r M2 hr => ?_))
  obtain ⟨rfl, hR⟩ := hr
  exact l_icmp_eq (tgt := 1667) eL_1339 (by decide) (fun _ => kk M2 hR) (fun q => absurd rfl q)
theorem L_36 (hL : L ≤ 3072) (hi : i + 6 ≤ L) (h : Rel M) (kk : ∀ M2, Rel M2 → LA l G b L xs 1667 (lvs G b i) [] M2) : LA l G b L xs 1344 (lvs G b i) [] M := by
  refine l_aload_n eL_1344 rfl ?_
  refine l_arg (j := 1) hL hi rfl (by decide) eL_1345 eL_1346 eL_1347 eL_1348 eL_1349 ?_
  refine l_callV (y' := mX7_reads) (k := 0) (st := []) [.int (xs (i + 1))] eL_1350 sX7 kX7 rfl ml_L_161 im_X7_reads se_X7_reads in_X7 cw_X7_reads (by decide +kernel) (np := 1) rfl (Nat.le_of_ble_eq_true rfl) (Nat.le_of_ble_eq_true rfl) rfl ((P_reads h).mono (fun r M1 hr => ?_))
  obtain ⟨v, rfl, hM⟩ := hr
  refine l_aload_n eL_1353 rfl ?_
  refine l_arg (j := 1) hL hi rfl (by decide) eL_1354 eL_1355 eL_1356 eL_1357 eL_1358 ?_
  refine l_callV (y' := mX8_reads) (k := 100) (st := [.int v]) [.int (xs (i + 1))] eL_1359 sX8 kX8 rfl ml_L_164 im_X8_reads se_X8_reads in_X8 cw_X8_reads (by decide +kernel) (np := 1) rfl (Nat.le_of_ble_eq_true rfl) (Nat.le_of_ble_eq_true rfl) rfl (hM.mono (fun r M2 hr => ?_))
  obtain ⟨rfl, hR⟩ := hr
  exact l_icmp_eq (tgt := 1667) eL_1362 (by decide) (fun _ => kk M2 hR) (fun q => absurd rfl q)
theorem L_37 (hL : L ≤ 3072) (hi : i + 6 ≤ L) (h : Rel M) (kk : ∀ M2, Rel M2 → LA l G b L xs 1667 (lvs G b i) [] M2) : LA l G b L xs 1367 (lvs G b i) [] M := by
  refine l_aload_n eL_1367 rfl ?_
  refine l_arg (j := 1) hL hi rfl (by decide) eL_1368 eL_1369 eL_1370 eL_1371 eL_1372 ?_
  refine l_arg (j := 2) hL hi rfl (by decide) eL_1373 eL_1374 eL_1375 eL_1376 eL_1377 ?_
  refine l_arg (j := 3) hL hi rfl (by decide) eL_1378 eL_1379 eL_1380 eL_1381 eL_1382 ?_
  refine l_arg (j := 4) hL hi rfl (by decide) eL_1383 eL_1384 eL_1385 eL_1386 eL_1387 ?_
  refine l_arg (j := 5) hL hi rfl (by decide) eL_1388 eL_1389 eL_1390 eL_1391 eL_1392 ?_
  refine l_callV (y' := mX7_copy) (k := 0) (st := []) [.int (xs (i + 1)), .int (xs (i + 2)), .int (xs (i + 3)), .int (xs (i + 4)), .int (xs (i + 5))] eL_1393 sX7 kX7 rfl ml_L_165 im_X7_copy se_X7_copy in_X7 cw_X7_copy (by decide +kernel) (np := 5) rfl (Nat.le_of_ble_eq_true rfl) (Nat.le_of_ble_eq_true rfl) rfl ((P_copy h).mono (fun r M1 hr => ?_))
  obtain ⟨v, rfl, hM⟩ := hr
  refine l_aload_n eL_1396 rfl ?_
  refine l_arg (j := 1) hL hi rfl (by decide) eL_1397 eL_1398 eL_1399 eL_1400 eL_1401 ?_
  refine l_arg (j := 2) hL hi rfl (by decide) eL_1402 eL_1403 eL_1404 eL_1405 eL_1406 ?_
  refine l_arg (j := 3) hL hi rfl (by decide) eL_1407 eL_1408 eL_1409 eL_1410 eL_1411 ?_
  refine l_arg (j := 4) hL hi rfl (by decide) eL_1412 eL_1413 eL_1414 eL_1415 eL_1416 ?_
  refine l_arg (j := 5) hL hi rfl (by decide) eL_1417 eL_1418 eL_1419 eL_1420 eL_1421 ?_
  refine l_callV (y' := mX8_copy) (k := 100) (st := [.int v]) [.int (xs (i + 1)), .int (xs (i + 2)), .int (xs (i + 3)), .int (xs (i + 4)), .int (xs (i + 5))] eL_1422 sX8 kX8 rfl ml_L_169 im_X8_copy se_X8_copy in_X8 cw_X8_copy (by decide +kernel) (np := 5) rfl (Nat.le_of_ble_eq_true rfl) (Nat.le_of_ble_eq_true rfl) rfl (hM.mono (fun r M2 hr => ?_))
  obtain ⟨rfl, hR⟩ := hr
  exact l_icmp_eq (tgt := 1667) eL_1425 (by decide) (fun _ => kk M2 hR) (fun q => absurd rfl q)
theorem L_38 (hL : L ≤ 3072) (hi : i + 6 ≤ L) (h : Rel M) (kk : ∀ M2, Rel M2 → LA l G b L xs 1667 (lvs G b i) [] M2) : LA l G b L xs 1430 (lvs G b i) [] M := by
  refine l_aload_n eL_1430 rfl ?_
  refine l_arg (j := 1) hL hi rfl (by decide) eL_1431 eL_1432 eL_1433 eL_1434 eL_1435 ?_
  refine l_arg (j := 2) hL hi rfl (by decide) eL_1436 eL_1437 eL_1438 eL_1439 eL_1440 ?_
  refine l_arg (j := 3) hL hi rfl (by decide) eL_1441 eL_1442 eL_1443 eL_1444 eL_1445 ?_
  refine l_callV (y' := mX7_lay) (k := 0) (st := []) [.int (xs (i + 1)), .int (xs (i + 2)), .int (xs (i + 3))] eL_1446 sX7 kX7 rfl ml_L_170 im_X7_lay se_X7_lay in_X7 cw_X7_lay (by decide +kernel) (np := 3) rfl (Nat.le_of_ble_eq_true rfl) (Nat.le_of_ble_eq_true rfl) rfl ((P_lay h).mono (fun r M1 hr => ?_))
  obtain ⟨v, rfl, hM⟩ := hr
  refine l_aload_n eL_1449 rfl ?_
  refine l_arg (j := 1) hL hi rfl (by decide) eL_1450 eL_1451 eL_1452 eL_1453 eL_1454 ?_
  refine l_arg (j := 2) hL hi rfl (by decide) eL_1455 eL_1456 eL_1457 eL_1458 eL_1459 ?_
  refine l_arg (j := 3) hL hi rfl (by decide) eL_1460 eL_1461 eL_1462 eL_1463 eL_1464 ?_
  refine l_callV (y' := mX8_lay) (k := 100) (st := [.int v]) [.int (xs (i + 1)), .int (xs (i + 2)), .int (xs (i + 3))] eL_1465 sX8 kX8 rfl ml_L_173 im_X8_lay se_X8_lay in_X8 cw_X8_lay (by decide +kernel) (np := 3) rfl (Nat.le_of_ble_eq_true rfl) (Nat.le_of_ble_eq_true rfl) rfl (hM.mono (fun r M2 hr => ?_))
  obtain ⟨rfl, hR⟩ := hr
  exact l_icmp_eq (tgt := 1667) eL_1468 (by decide) (fun _ => kk M2 hR) (fun q => absurd rfl q)
theorem L_39 (hL : L ≤ 3072) (hi : i + 6 ≤ L) (h : Rel M) (kk : ∀ M2, Rel M2 → LA l G b L xs 1667 (lvs G b i) [] M2) : LA l G b L xs 1473 (lvs G b i) [] M := by
  refine l_aload_n eL_1473 rfl ?_
  refine l_arg (j := 1) hL hi rfl (by decide) eL_1474 eL_1475 eL_1476 eL_1477 eL_1478 ?_
  refine l_arg (j := 2) hL hi rfl (by decide) eL_1479 eL_1480 eL_1481 eL_1482 eL_1483 ?_
  refine l_callV (y' := mX7_ask) (k := 0) (st := []) [.int (xs (i + 1)), .int (xs (i + 2))] eL_1484 sX7 kX7 rfl ml_L_174 im_X7_ask se_X7_ask in_X7 cw_X7_ask (by decide +kernel) (np := 2) rfl (Nat.le_of_ble_eq_true rfl) (Nat.le_of_ble_eq_true rfl) rfl ((P_ask h).mono (fun r M1 hr => ?_))
  obtain ⟨v, rfl, hM⟩ := hr
  refine l_aload_n eL_1487 rfl ?_
  refine l_arg (j := 1) hL hi rfl (by decide) eL_1488 eL_1489 eL_1490 eL_1491 eL_1492 ?_
  refine l_arg (j := 2) hL hi rfl (by decide) eL_1493 eL_1494 eL_1495 eL_1496 eL_1497 ?_
  refine l_callV (y' := mX8_ask) (k := 100) (st := [.int v]) [.int (xs (i + 1)), .int (xs (i + 2))] eL_1498 sX8 kX8 rfl ml_L_177 im_X8_ask se_X8_ask in_X8 cw_X8_ask (by decide +kernel) (np := 2) rfl (Nat.le_of_ble_eq_true rfl) (Nat.le_of_ble_eq_true rfl) rfl (hM.mono (fun r M2 hr => ?_))
  obtain ⟨rfl, hR⟩ := hr
  exact l_icmp_eq (tgt := 1667) eL_1501 (by decide) (fun _ => kk M2 hR) (fun q => absurd rfl q)
theorem L_40 (hL : L ≤ 3072) (hi : i + 6 ≤ L) (h : Rel M) (kk : ∀ M2, Rel M2 → LA l G b L xs 1667 (lvs G b i) [] M2) : LA l G b L xs 1506 (lvs G b i) [] M := by
  refine l_aload_n eL_1506 rfl ?_
  refine l_arg (j := 1) hL hi rfl (by decide) eL_1507 eL_1508 eL_1509 eL_1510 eL_1511 ?_
  refine l_arg (j := 2) hL hi rfl (by decide) eL_1512 eL_1513 eL_1514 eL_1515 eL_1516 ?_
  refine l_callV (y' := mX7_item) (k := 0) (st := []) [.int (xs (i + 1)), .int (xs (i + 2))] eL_1517 sX7 kX7 rfl ml_L_178 im_X7_item se_X7_item in_X7 cw_X7_item (by decide +kernel) (np := 2) rfl (Nat.le_of_ble_eq_true rfl) (Nat.le_of_ble_eq_true rfl) rfl ((P_item h).mono (fun r M1 hr => ?_))
  obtain ⟨v, rfl, hM⟩ := hr
  refine l_aload_n eL_1520 rfl ?_
  refine l_arg (j := 1) hL hi rfl (by decide) eL_1521 eL_1522 eL_1523 eL_1524 eL_1525 ?_
  refine l_arg (j := 2) hL hi rfl (by decide) eL_1526 eL_1527 eL_1528 eL_1529 eL_1530 ?_
  refine l_callV (y' := mX8_item) (k := 100) (st := [.int v]) [.int (xs (i + 1)), .int (xs (i + 2))] eL_1531 sX8 kX8 rfl ml_L_181 im_X8_item se_X8_item in_X8 cw_X8_item (by decide +kernel) (np := 2) rfl (Nat.le_of_ble_eq_true rfl) (Nat.le_of_ble_eq_true rfl) rfl (hM.mono (fun r M2 hr => ?_))
  obtain ⟨rfl, hR⟩ := hr
  exact l_icmp_eq (tgt := 1667) eL_1534 (by decide) (fun _ => kk M2 hR) (fun q => absurd rfl q)
theorem L_41 (hL : L ≤ 3072) (hi : i + 6 ≤ L) (h : Rel M) (kk : ∀ M2, Rel M2 → LA l G b L xs 1667 (lvs G b i) [] M2) : LA l G b L xs 1539 (lvs G b i) [] M := by
  refine l_aload_n eL_1539 rfl ?_
  refine l_arg (j := 1) hL hi rfl (by decide) eL_1540 eL_1541 eL_1542 eL_1543 eL_1544 ?_
  refine l_arg (j := 2) hL hi rfl (by decide) eL_1545 eL_1546 eL_1547 eL_1548 eL_1549 ?_
  refine l_callV (y' := mX7_rest) (k := 0) (st := []) [.int (xs (i + 1)), .int (xs (i + 2))] eL_1550 sX7 kX7 rfl ml_L_182 im_X7_rest se_X7_rest in_X7 cw_X7_rest (by decide +kernel) (np := 2) rfl (Nat.le_of_ble_eq_true rfl) (Nat.le_of_ble_eq_true rfl) rfl ((P_rest h).mono (fun r M1 hr => ?_))
  obtain ⟨v, rfl, hM⟩ := hr
  refine l_aload_n eL_1553 rfl ?_
  refine l_arg (j := 1) hL hi rfl (by decide) eL_1554 eL_1555 eL_1556 eL_1557 eL_1558 ?_
  refine l_arg (j := 2) hL hi rfl (by decide) eL_1559 eL_1560 eL_1561 eL_1562 eL_1563 ?_
  refine l_callV (y' := mX8_rest) (k := 100) (st := [.int v]) [.int (xs (i + 1)), .int (xs (i + 2))] eL_1564 sX8 kX8 rfl ml_L_185 im_X8_rest se_X8_rest in_X8 cw_X8_rest (by decide +kernel) (np := 2) rfl (Nat.le_of_ble_eq_true rfl) (Nat.le_of_ble_eq_true rfl) rfl (hM.mono (fun r M2 hr => ?_))
  obtain ⟨rfl, hR⟩ := hr
  exact l_icmp_eq (tgt := 1667) eL_1567 (by decide) (fun _ => kk M2 hR) (fun q => absurd rfl q)
theorem L_42 (hL : L ≤ 3072) (hi : i + 6 ≤ L) (h : Rel M) (kk : ∀ M2, Rel M2 → LA l G b L xs 1667 (lvs G b i) [] M2) : LA l G b L xs 1572 (lvs G b i) [] M := by
  refine l_aload_n eL_1572 rfl ?_
  refine l_arg (j := 1) hL hi rfl (by decide) eL_1573 eL_1574 eL_1575 eL_1576 eL_1577 ?_
  refine l_callV (y' := mX7_tell) (k := 0) (st := []) [.int (xs (i + 1))] eL_1578 sX7 kX7 rfl ml_L_186 im_X7_tell se_X7_tell in_X7 cw_X7_tell (by decide +kernel) (np := 1) rfl (Nat.le_of_ble_eq_true rfl) (Nat.le_of_ble_eq_true rfl) rfl ((P_tell h).mono (fun r M1 hr => ?_))
  obtain ⟨v, rfl, hM⟩ := hr
  refine l_aload_n eL_1581 rfl ?_
  refine l_arg (j := 1) hL hi rfl (by decide) eL_1582 eL_1583 eL_1584 eL_1585 eL_1586 ?_
  refine l_callV (y' := mX8_tell) (k := 100) (st := [.int v]) [.int (xs (i + 1))] eL_1587 sX8 kX8 rfl ml_L_189 im_X8_tell se_X8_tell in_X8 cw_X8_tell (by decide +kernel) (np := 1) rfl (Nat.le_of_ble_eq_true rfl) (Nat.le_of_ble_eq_true rfl) rfl (hM.mono (fun r M2 hr => ?_))
  obtain ⟨rfl, hR⟩ := hr
  exact l_icmp_eq (tgt := 1667) eL_1590 (by decide) (fun _ => kk M2 hR) (fun q => absurd rfl q)
theorem L_43 (hL : L ≤ 3072) (hi : i + 6 ≤ L) (h : Rel M) (kk : ∀ M2, Rel M2 → LA l G b L xs 1667 (lvs G b i) [] M2) : LA l G b L xs 1595 (lvs G b i) [] M := by
  refine l_aload_n eL_1595 rfl ?_
  refine l_arg (j := 1) hL hi rfl (by decide) eL_1596 eL_1597 eL_1598 eL_1599 eL_1600 ?_
  refine l_callV (y' := mX7_check) (k := 0) (st := []) [.int (xs (i + 1))] eL_1601 sX7 kX7 rfl ml_L_190 im_X7_check se_X7_check in_X7 cw_X7_check (by decide +kernel) (np := 1) rfl (Nat.le_of_ble_eq_true rfl) (Nat.le_of_ble_eq_true rfl) rfl ((P_check h).mono (fun r M1 hr => ?_))
  obtain ⟨v, rfl, hM⟩ := hr
  refine l_aload_n eL_1604 rfl ?_
  refine l_arg (j := 1) hL hi rfl (by decide) eL_1605 eL_1606 eL_1607 eL_1608 eL_1609 ?_
  refine l_callV (y' := mX8_check) (k := 100) (st := [.int v]) [.int (xs (i + 1))] eL_1610 sX8 kX8 rfl ml_L_193 im_X8_check se_X8_check in_X8 cw_X8_check (by decide +kernel) (np := 1) rfl (Nat.le_of_ble_eq_true rfl) (Nat.le_of_ble_eq_true rfl) rfl (hM.mono (fun r M2 hr => ?_))
  obtain ⟨rfl, hR⟩ := hr
  exact l_icmp_eq (tgt := 1667) eL_1613 (by decide) (fun _ => kk M2 hR) (fun q => absurd rfl q)
theorem L_44 (hL : L ≤ 3072) (hi : i + 6 ≤ L) (h : Rel M) (kk : ∀ M2, Rel M2 → LA l G b L xs 1667 (lvs G b i) [] M2) : LA l G b L xs 1618 (lvs G b i) [] M := by
  refine l_aload_n eL_1618 rfl ?_
  refine l_callV (y' := mX7_keep) (k := 0) (st := []) [] eL_1619 sX7 kX7 rfl ml_L_194 im_X7_keep se_X7_keep in_X7 cw_X7_keep (by decide +kernel) (np := 0) rfl (Nat.le_of_ble_eq_true rfl) (Nat.le_of_ble_eq_true rfl) rfl ((P_keep h).mono (fun r M1 hr => ?_))
  obtain ⟨v, rfl, hM⟩ := hr
  refine l_aload_n eL_1622 rfl ?_
  refine l_callV (y' := mX8_keep) (k := 100) (st := [.int v]) [] eL_1623 sX8 kX8 rfl ml_L_197 im_X8_keep se_X8_keep in_X8 cw_X8_keep (by decide +kernel) (np := 0) rfl (Nat.le_of_ble_eq_true rfl) (Nat.le_of_ble_eq_true rfl) rfl (hM.mono (fun r M2 hr => ?_))
  obtain ⟨rfl, hR⟩ := hr
  exact l_icmp_eq (tgt := 1667) eL_1626 (by decide) (fun _ => kk M2 hR) (fun q => absurd rfl q)
theorem L_45 (hL : L ≤ 3072) (hi : i + 6 ≤ L) (h : Rel M) (kk : ∀ M2, Rel M2 → LA l G b L xs 1667 (lvs G b i) [] M2) : LA l G b L xs 1631 (lvs G b i) [] M := by
  refine l_aload_n eL_1631 rfl ?_
  refine l_callV (y' := mX7_back) (k := 0) (st := []) [] eL_1632 sX7 kX7 rfl ml_L_198 im_X7_back se_X7_back in_X7 cw_X7_back (by decide +kernel) (np := 0) rfl (Nat.le_of_ble_eq_true rfl) (Nat.le_of_ble_eq_true rfl) rfl ((P_back h).mono (fun r M1 hr => ?_))
  obtain ⟨v, rfl, hM⟩ := hr
  refine l_aload_n eL_1635 rfl ?_
  refine l_callV (y' := mX8_back) (k := 100) (st := [.int v]) [] eL_1636 sX8 kX8 rfl ml_L_201 im_X8_back se_X8_back in_X8 cw_X8_back (by decide +kernel) (np := 0) rfl (Nat.le_of_ble_eq_true rfl) (Nat.le_of_ble_eq_true rfl) rfl (hM.mono (fun r M2 hr => ?_))
  obtain ⟨rfl, hR⟩ := hr
  exact l_icmp_eq (tgt := 1667) eL_1639 (by decide) (fun _ => kk M2 hR) (fun q => absurd rfl q)
theorem L_46 (hL : L ≤ 3072) (hi : i + 6 ≤ L) (h : Rel M) (kk : ∀ M2, Rel M2 → LA l G b L xs 1667 (lvs G b i) [] M2) : LA l G b L xs 1644 (lvs G b i) [] M := by
  refine l_aload_n eL_1644 rfl ?_
  refine l_arg (j := 1) hL hi rfl (by decide) eL_1645 eL_1646 eL_1647 eL_1648 eL_1649 ?_
  refine l_callV (y' := mX7_count) (k := 0) (st := []) [.int (xs (i + 1))] eL_1650 sX7 kX7 rfl ml_L_202 im_X7_count se_X7_count in_X7 cw_X7_count (by decide +kernel) (np := 1) rfl (Nat.le_of_ble_eq_true rfl) (Nat.le_of_ble_eq_true rfl) rfl ((P_count h).mono (fun r M1 hr => ?_))
  obtain ⟨v, rfl, hM⟩ := hr
  refine l_aload_n eL_1653 rfl ?_
  refine l_arg (j := 1) hL hi rfl (by decide) eL_1654 eL_1655 eL_1656 eL_1657 eL_1658 ?_
  refine l_callV (y' := mX8_count) (k := 100) (st := [.int v]) [.int (xs (i + 1))] eL_1659 sX8 kX8 rfl ml_L_205 im_X8_count se_X8_count in_X8 cw_X8_count (by decide +kernel) (np := 1) rfl (Nat.le_of_ble_eq_true rfl) (Nat.le_of_ble_eq_true rfl) rfl (hM.mono (fun r M2 hr => ?_))
  obtain ⟨rfl, hR⟩ := hr
  exact l_icmp_eq (tgt := 1667) eL_1662 (by decide) (fun _ => kk M2 hR) (fun q => absurd rfl q)
/-- the rows of the script, one by one -/
theorem L_loop (hL : L ≤ 3072) : ∀ (f i : Nat) (M : Mem), i ≤ 3072 → L < i + f → Rel M → LA l G b L xs 18 (lvs G b i) [] M := by
  intro f
  induction f with
  | zero =>
    intro i M hi hf h
    refine l_iload_n eL_18 rfl (l_aload_n eL_19 rfl (l_slen eL_20 (l_bipush eL_21 (v := 6) (by decide +kernel) (l_isub eL_23 (l_icmp_gt (tgt := 1673) eL_24 (by decide) (fun _ => ?_) (fun q => absurd ?_ q))))))
    · exact l_iconst eL_1673 (v := 1) (by decide +kernel) (l_ret eL_1674)
    · show nI L - 6 < nI i
      rw [tlt, show (6 : Int32) = nI 6 from rfl, pk_sub_toInt (by omega) (by omega), tnI (by omega)]
      omega
  | succ f ih =>
    intro i M hi hf h
    refine l_iload_n eL_18 rfl (l_aload_n eL_19 rfl (l_slen eL_20 (l_bipush eL_21 (v := 6) (by decide +kernel) (l_isub eL_23 (l_icmp_gt (tgt := 1673) eL_24 (by decide) (fun _ => ?_) (fun q => ?_))))))
    · exact l_iconst eL_1673 (v := 1) (by decide +kernel) (l_ret eL_1674)
    · have hi6 : i + 6 ≤ L := by
        have q : ¬ nI L - 6 < nI i := q
        rw [tlt, show (6 : Int32) = nI 6 from rfl, pk_sub_toInt (by omega) (by omega), tnI (by omega)] at q
        omega
      have kk : ∀ M2, Rel M2 → LA l G b L xs 1667 (lvs G b i) [] M2 := fun M2 h2 => l_iinc (x := nI i) (v := 6) (vs' := lvs G b (i + 6)) eL_1667 rfl rfl (by decide +kernel) (by rw [show (6 : Int32) = nI 6 from rfl, nI_add]; rfl) (l_goto (tgt := 18) eL_1670 (by decide) (ih (i + 6) M2 (by omega) (by omega) h2))
      refine l_aload_n eL_27 rfl (l_iload_n eL_28 rfl (l_sld eL_29 (vpn (by omega) (by omega)) (l_bipush eL_30 (v := 63) (by decide +kernel) (l_iand eL_32 ?_))))
      obtain ⟨c, hc, e⟩ := pk_andE (xs (nI i).toNatClampNeg) (m := 63) 6 (by decide)
      by_cases h47 : 47 ≤ c
      · exact l_tswOut (tgt := 1667) eL_33 (Or.inr (by rw [e, tnI (by omega)]; omega)) (by decide) (kk M h)
      · have hc47 : c < 47 := by omega
        clear hc h47
        rcases (show c = 0 ∨ c = 1 ∨ c = 2 ∨ c = 3 ∨ c = 4 ∨ c = 5 ∨ c = 6 ∨ c = 7 ∨ c = 8 ∨ c = 9 ∨ c = 10 ∨ c = 11 ∨ c = 12 ∨ c = 13 ∨ c = 14 ∨ c = 15 ∨ c = 16 ∨ c = 17 ∨ c = 18 ∨ c = 19 ∨ c = 20 ∨ c = 21 ∨ c = 22 ∨ c = 23 ∨ c = 24 ∨ c = 25 ∨ c = 26 ∨ c = 27 ∨ c = 28 ∨ c = 29 ∨ c = 30 ∨ c = 31 ∨ c = 32 ∨ c = 33 ∨ c = 34 ∨ c = 35 ∨ c = 36 ∨ c = 37 ∨ c = 38 ∨ c = 39 ∨ c = 40 ∨ c = 41 ∨ c = 42 ∨ c = 43 ∨ c = 44 ∨ c = 45 ∨ c = 46 by omega) with rfl | rfl | rfl | rfl | rfl | rfl | rfl | rfl | rfl | rfl | rfl | rfl | rfl | rfl | rfl | rfl | rfl | rfl | rfl | rfl | rfl | rfl | rfl | rfl | rfl | rfl | rfl | rfl | rfl | rfl | rfl | rfl | rfl | rfl | rfl | rfl | rfl | rfl | rfl | rfl | rfl | rfl | rfl | rfl | rfl | rfl | rfl
        · exact l_tswIn (nI 0) (tgt := 236) eL_33 e (by decide) (by decide) rfl (by decide) (L_0 hL hi6 h kk)
        · exact l_tswIn (nI 1) (tgt := 279) eL_33 e (by decide) (by decide) rfl (by decide) (L_1 hL hi6 h kk)
        · exact l_tswIn (nI 2) (tgt := 312) eL_33 e (by decide) (by decide) rfl (by decide) (L_2 hL hi6 h kk)
        · exact l_tswIn (nI 3) (tgt := 345) eL_33 e (by decide) (by decide) rfl (by decide) (L_3 hL hi6 h kk)
        · exact l_tswIn (nI 4) (tgt := 378) eL_33 e (by decide) (by decide) rfl (by decide) (L_4 hL hi6 h kk)
        · exact l_tswIn (nI 5) (tgt := 411) eL_33 e (by decide) (by decide) rfl (by decide) (L_5 hL hi6 h kk)
        · exact l_tswIn (nI 6) (tgt := 454) eL_33 e (by decide) (by decide) rfl (by decide) (L_6 hL hi6 h kk)
        · exact l_tswIn (nI 7) (tgt := 487) eL_33 e (by decide) (by decide) rfl (by decide) (L_7 hL hi6 h kk)
        · exact l_tswIn (nI 8) (tgt := 520) eL_33 e (by decide) (by decide) rfl (by decide) (L_8 hL hi6 h kk)
        · exact l_tswIn (nI 9) (tgt := 553) eL_33 e (by decide) (by decide) rfl (by decide) (L_9 hL hi6 h kk)
        · exact l_tswIn (nI 10) (tgt := 576) eL_33 e (by decide) (by decide) rfl (by decide) (L_10 hL hi6 h kk)
        · exact l_tswIn (nI 11) (tgt := 599) eL_33 e (by decide) (by decide) rfl (by decide) (L_11 hL hi6 h kk)
        · exact l_tswIn (nI 12) (tgt := 632) eL_33 e (by decide) (by decide) rfl (by decide) (L_12 hL hi6 h kk)
        · exact l_tswIn (nI 13) (tgt := 655) eL_33 e (by decide) (by decide) rfl (by decide) (L_13 hL hi6 h kk)
        · exact l_tswIn (nI 14) (tgt := 678) eL_33 e (by decide) (by decide) rfl (by decide) (L_14 hL hi6 h kk)
        · exact l_tswIn (nI 15) (tgt := 701) eL_33 e (by decide) (by decide) rfl (by decide) (L_15 hL hi6 h kk)
        · exact l_tswIn (nI 16) (tgt := 724) eL_33 e (by decide) (by decide) rfl (by decide) (L_16 hL hi6 h kk)
        · exact l_tswIn (nI 17) (tgt := 767) eL_33 e (by decide) (by decide) rfl (by decide) (L_17 hL hi6 h kk)
        · exact l_tswIn (nI 18) (tgt := 790) eL_33 e (by decide) (by decide) rfl (by decide) (L_18 hL hi6 h kk)
        · exact l_tswIn (nI 19) (tgt := 833) eL_33 e (by decide) (by decide) rfl (by decide) (L_19 hL hi6 h kk)
        · exact l_tswIn (nI 20) (tgt := 856) eL_33 e (by decide) (by decide) rfl (by decide) (L_20 hL hi6 h kk)
        · exact l_tswIn (nI 21) (tgt := 879) eL_33 e (by decide) (by decide) rfl (by decide) (L_21 hL hi6 h kk)
        · exact l_tswIn (nI 22) (tgt := 912) eL_33 e (by decide) (by decide) rfl (by decide) (L_22 hL hi6 h kk)
        · exact l_tswIn (nI 23) (tgt := 945) eL_33 e (by decide) (by decide) rfl (by decide) (L_23 hL hi6 h kk)
        · exact l_tswIn (nI 24) (tgt := 988) eL_33 e (by decide) (by decide) rfl (by decide) (L_24 hL hi6 h kk)
        · exact l_tswIn (nI 25) (tgt := 1031) eL_33 e (by decide) (by decide) rfl (by decide) (L_25 hL hi6 h kk)
        · exact l_tswIn (nI 26) (tgt := 1064) eL_33 e (by decide) (by decide) rfl (by decide) (L_26 hL hi6 h kk)
        · exact l_tswIn (nI 27) (tgt := 1077) eL_33 e (by decide) (by decide) rfl (by decide) (L_27 hL hi6 h kk)
        · exact l_tswIn (nI 28) (tgt := 1100) eL_33 e (by decide) (by decide) rfl (by decide) (L_28 hL hi6 h kk)
        · exact l_tswIn (nI 29) (tgt := 1143) eL_33 e (by decide) (by decide) rfl (by decide) (L_29 hL hi6 h kk)
        · exact l_tswIn (nI 30) (tgt := 1166) eL_33 e (by decide) (by decide) rfl (by decide) (L_30 hL hi6 h kk)
        · exact l_tswIn (nI 31) (tgt := 1179) eL_33 e (by decide) (by decide) rfl (by decide) (L_31 hL hi6 h kk)
        · exact l_tswIn (nI 32) (tgt := 1212) eL_33 e (by decide) (by decide) rfl (by decide) (L_32 hL hi6 h kk)
        · exact l_tswIn (nI 33) (tgt := 1235) eL_33 e (by decide) (by decide) rfl (by decide) (L_33 hL hi6 h kk)
        · exact l_tswIn (nI 34) (tgt := 1278) eL_33 e (by decide) (by decide) rfl (by decide) (L_34 hL hi6 h kk)
        · exact l_tswIn (nI 35) (tgt := 1321) eL_33 e (by decide) (by decide) rfl (by decide) (L_35 hL hi6 h kk)
        · exact l_tswIn (nI 36) (tgt := 1344) eL_33 e (by decide) (by decide) rfl (by decide) (L_36 hL hi6 h kk)
        · exact l_tswIn (nI 37) (tgt := 1367) eL_33 e (by decide) (by decide) rfl (by decide) (L_37 hL hi6 h kk)
        · exact l_tswIn (nI 38) (tgt := 1430) eL_33 e (by decide) (by decide) rfl (by decide) (L_38 hL hi6 h kk)
        · exact l_tswIn (nI 39) (tgt := 1473) eL_33 e (by decide) (by decide) rfl (by decide) (L_39 hL hi6 h kk)
        · exact l_tswIn (nI 40) (tgt := 1506) eL_33 e (by decide) (by decide) rfl (by decide) (L_40 hL hi6 h kk)
        · exact l_tswIn (nI 41) (tgt := 1539) eL_33 e (by decide) (by decide) rfl (by decide) (L_41 hL hi6 h kk)
        · exact l_tswIn (nI 42) (tgt := 1572) eL_33 e (by decide) (by decide) rfl (by decide) (L_42 hL hi6 h kk)
        · exact l_tswIn (nI 43) (tgt := 1595) eL_33 e (by decide) (by decide) rfl (by decide) (L_43 hL hi6 h kk)
        · exact l_tswIn (nI 44) (tgt := 1618) eL_33 e (by decide) (by decide) rfl (by decide) (L_44 hL hi6 h kk)
        · exact l_tswIn (nI 45) (tgt := 1631) eL_33 e (by decide) (by decide) rfl (by decide) (L_45 hL hi6 h kk)
        · exact l_tswIn (nI 46) (tgt := 1644) eL_33 e (by decide) (by decide) rfl (by decide) (L_46 hL hi6 h kk)
end
