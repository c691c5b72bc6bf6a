/-! ===== the law: its cases ===== -/
section Law
variable {b L : Nat} {xs : Nat → Int32} {l : Launch} {K : Kx} {F : List Nat} {x m out : Nat} {am : Nat → Nat} {hh : List (Nat × Nat × Nat × Nat)} {nm : String} {H : Hp} {g k0 : Nat}
set_option maxRecDepth 100000 in
set_option maxHeartbeats 4000000 in
theorem law_4 (htr : l.stackTraces = false) (fx : FX F m out am) (W : WS K F x m out am H g k0) (hg : 7 * g + 7 ≤ L) (hL : L ≤ 3584) (kend : ∀ H3 k, WS K F x m out am H3 (g + 1) k → JL (b, L, xs) l K hh nm 1899 [] [(4, .int (nI (7 * g))), (0, .ref b), (1, .ref x), (2, .ref m), (3, .ref out)] H3 (77 + 400 * (g + 1)) (25893 + 7000 * (g + 1))) :
    JL (b, L, xs) l K hh nm 302 [] [(4, .int (nI (7 * g))), (0, .ref b), (1, .ref x), (2, .ref m), (3, .ref out)] H (77 + 400 * g) (25893 + 7000 * g) := by
  have hg9 : g + 1 < 2 ^ 20 := by omega
  refine JX_aload_n dL_law_302 2 rfl ?_
  refine JL_rd (j := 1) dL_law_303 dL_law_304 dL_law_306 (by decide) dL_law_307 dL_law_308 (q0 := 1) (q4 := 0) rfl rfl (by omega) (by omega) ?_
  refine JL_rd (j := 2) dL_law_309 dL_law_310 dL_law_312 (by decide) dL_law_313 dL_law_314 (q0 := 1) (q4 := 0) rfl rfl (by omega) (by omega) ?_
  refine JX_i2l dL_law_315 ?_
  refine JX_bipush (v := nI 32) dL_law_316 (by decide) ?_
  refine JX_lshl dL_law_318 ?_
  refine JL_rd (j := 3) dL_law_319 dL_law_320 dL_law_322 (by decide) dL_law_323 dL_law_324 (q0 := 1) (q4 := 0) rfl rfl (by omega) (by omega) ?_
  refine JX_i2l dL_law_325 ?_
  refine JX_ldc2 (v := 4294967295) dL_law_326 law_k93 ?_
  refine JX_land dL_law_329 ?_
  refine JX_lor dL_law_330 ?_
  refine JX_aload_n dL_law_331 4 rfl ?_
  refine JX_callSW (n := 4) (As := [.ref x, .int (xs (7 * g + 1)), .long (((((xs (7 * g + 2)).toInt64) <<< ((nI 32).toInt64 &&& 63)) ||| (((xs (7 * g + 3)).toInt64) &&& 4294967295))), .ref out]) (rest := []) dL_law_332 gL_law_L_put rfl (by decide +kernel) rfl (by decide) (Nat.le_of_ble_eq_true rfl) (by omega) (by omega) (lw_put htr fx W hg9) kI_no (kI_kx (fun kq H2 Gq => ?_))
  obtain ⟨kn, r, rfl, k5, hom, ⟨f, hf, hf0⟩, Gq⟩ := Gq
  refine JX_istore (lv' := [(5, .int (nI kn)), (4, .int (nI (7 * g))), (0, .ref b), (1, .ref x), (2, .ref m), (3, .ref out)]) dL_law_335 (by decide) rfl ?_
  refine JX_aload_n dL_law_337 4 rfl ?_
  refine JL_rd (j := 1) dL_law_338 dL_law_339 dL_law_341 (by decide) dL_law_342 dL_law_343 (q0 := 2) (q4 := 1) rfl rfl (by omega) (by omega) ?_
  refine JL_rd (j := 2) dL_law_344 dL_law_345 dL_law_347 (by decide) dL_law_348 dL_law_349 (q0 := 2) (q4 := 1) rfl rfl (by omega) (by omega) ?_
  refine JX_i2l dL_law_350 ?_
  refine JX_bipush (v := nI 32) dL_law_351 (by decide) ?_
  refine JX_lshl dL_law_353 ?_
  refine JL_rd (j := 3) dL_law_354 dL_law_355 dL_law_357 (by decide) dL_law_358 dL_law_359 (q0 := 2) (q4 := 1) rfl rfl (by omega) (by omega) ?_
  refine JX_i2l dL_law_360 ?_
  refine JX_ldc2 (v := 4294967295) dL_law_361 law_k93 ?_
  refine JX_land dL_law_364 ?_
  refine JX_lor dL_law_365 ?_
  refine JX_callV0 (ci := 4) (n := 2) (As := [.int (xs (7 * g + 1)), .long (((((xs (7 * g + 2)).toInt64) <<< ((nI 32).toInt64 &&& 63)) ||| (((xs (7 * g + 3)).toInt64) &&& 4294967295)))]) (rest := []) dL_law_366 rfl gL_law_X4_put rfl (by decide +kernel) rfl (by decide) hom (Nat.le_of_ble_eq_true rfl) (by omega) (by omega) Gq kH_no (kH_kx (fun r' H3 Gr => ?_))
  obtain ⟨W3, o3, hr⟩ := Gr
  refine JX_istore (lv' := [(6, .int r'), (5, .int (nI kn)), (4, .int (nI (7 * g))), (0, .ref b), (1, .ref x), (2, .ref m), (3, .ref out)]) dL_law_369 (by decide) rfl ?_
  refine JX_aload_n dL_law_371 5 rfl ?_
  refine JX_callV0 (ci := 4) (n := 0) (As := []) (rest := []) dL_law_372 rfl gL_law_X4_thrown rfl (by decide +kernel) rfl (by decide) W3.om (Nat.le_of_ble_eq_true rfl) (by omega) (by omega) (W3.thr htr) kI_no (kI_kx (fun tq H4 Gt => ?_))
  obtain ⟨rfl, rfl⟩ := Gt
  refine JX_iload dL_law_375 1 rfl ?_
  refine JX_icmp_eq (tgt := 382) dL_law_377 (by decide) (fun _ => ?_) (fun c => absurd rfl c)
  refine JX_iload dL_law_382 1 rfl ?_
  refine JX_if_ne (tgt := 399) dL_law_384 (by decide) (fun _ => ?_) (fun c => ?_)
  · skip
    refine JX_goto (tgt := 1899) dL_law_399 (by decide) ?_
    exact JX_sub [2, 3, 4, 5, 6] rfl (JX_wide (by omega) (by omega) (kend _ _ W3))
  · have kn0 : kn = 0 := (nI_eq (by omega) (by omega)).mp c
    have hrr := hr kn0
    have hff := hf0 kn0
    refine JX_aload_n dL_law_387 6 rfl ?_
    refine JX_iconst (v := nI 0) dL_law_388 (by decide) ?_
    refine JX_lald (v := f 0) dL_law_389 (aJ_x (o3.trans hf) (by decide) (by decide)) ?_
    refine JX_iload dL_law_390 0 rfl ?_
    refine JX_i2l dL_law_392 ?_
    refine JX_lcmp dL_law_393 ?_
    refine JX_if_eq (tgt := 399) dL_law_394 (by decide) (fun _ => ?_) (fun c9 => absurd (by rw [hff, ← hrr]; exact cmp_self _) c9)
    refine JX_goto (tgt := 1899) dL_law_399 (by decide) ?_
    exact JX_sub [2, 3, 4, 5, 6] rfl (JX_wide (by omega) (by omega) (kend _ _ W3))
set_option maxRecDepth 100000 in
set_option maxHeartbeats 4000000 in
theorem law_5 (htr : l.stackTraces = false) (fx : FX F m out am) (W : WS K F x m out am H g k0) (hg : 7 * g + 7 ≤ L) (hL : L ≤ 3584) (kend : ∀ H3 k, WS K F x m out am H3 (g + 1) k → JL (b, L, xs) l K hh nm 1899 [] [(4, .int (nI (7 * g))), (0, .ref b), (1, .ref x), (2, .ref m), (3, .ref out)] H3 (77 + 400 * (g + 1)) (25893 + 7000 * (g + 1))) :
    JL (b, L, xs) l K hh nm 402 [] [(4, .int (nI (7 * g))), (0, .ref b), (1, .ref x), (2, .ref m), (3, .ref out)] H (77 + 400 * g) (25893 + 7000 * g) := by
  have hg9 : g + 1 < 2 ^ 20 := by omega
  refine JX_aload_n dL_law_402 2 rfl ?_
  refine JL_rd (j := 1) dL_law_403 dL_law_404 dL_law_406 (by decide) dL_law_407 dL_law_408 (q0 := 1) (q4 := 0) rfl rfl (by omega) (by omega) ?_
  refine JX_aload_n dL_law_409 4 rfl ?_
  refine JX_callSW (n := 3) (As := [.ref x, .int (xs (7 * g + 1)), .ref out]) (rest := []) dL_law_410 gL_law_L_value rfl (by decide +kernel) rfl (by decide) (Nat.le_of_ble_eq_true rfl) (by omega) (by omega) (lw_value htr fx W hg9) kI_no (kI_kx (fun kq H2 Gq => ?_))
  obtain ⟨kn, r, rfl, k5, hom, ⟨f, hf, hf0⟩, Gq⟩ := Gq
  refine JX_istore (lv' := [(5, .int (nI kn)), (4, .int (nI (7 * g))), (0, .ref b), (1, .ref x), (2, .ref m), (3, .ref out)]) dL_law_413 (by decide) rfl ?_
  refine JX_aload_n dL_law_415 4 rfl ?_
  refine JL_rd (j := 1) dL_law_416 dL_law_417 dL_law_419 (by decide) dL_law_420 dL_law_421 (q0 := 2) (q4 := 1) rfl rfl (by omega) (by omega) ?_
  refine JX_callV0 (ci := 4) (n := 1) (As := [.int (xs (7 * g + 1))]) (rest := []) dL_law_422 rfl gL_law_X4_value rfl (by decide +kernel) rfl (by decide) hom (Nat.le_of_ble_eq_true rfl) (by omega) (by omega) Gq kH_no (kH_kx (fun r' H3 Gr => ?_))
  obtain ⟨W3, o3, hr⟩ := Gr
  refine JX_lstore (lv' := [(6, .long r'), (5, .int (nI kn)), (4, .int (nI (7 * g))), (0, .ref b), (1, .ref x), (2, .ref m), (3, .ref out)]) dL_law_425 (by decide) rfl ?_
  refine JX_aload_n dL_law_427 5 rfl ?_
  refine JX_callV0 (ci := 4) (n := 0) (As := []) (rest := []) dL_law_428 rfl gL_law_X4_thrown rfl (by decide +kernel) rfl (by decide) W3.om (Nat.le_of_ble_eq_true rfl) (by omega) (by omega) (W3.thr htr) kI_no (kI_kx (fun tq H4 Gt => ?_))
  obtain ⟨rfl, rfl⟩ := Gt
  refine JX_iload dL_law_431 1 rfl ?_
  refine JX_icmp_eq (tgt := 438) dL_law_433 (by decide) (fun _ => ?_) (fun c => absurd rfl c)
  refine JX_iload dL_law_438 1 rfl ?_
  refine JX_if_ne (tgt := 454) dL_law_440 (by decide) (fun _ => ?_) (fun c => ?_)
  · skip
    refine JX_goto (tgt := 1899) dL_law_454 (by decide) ?_
    exact JX_sub [2, 3, 4, 5, 6] rfl (JX_wide (by omega) (by omega) (kend _ _ W3))
  · have kn0 : kn = 0 := (nI_eq (by omega) (by omega)).mp c
    have hrr := hr kn0
    have hff := hf0 kn0
    refine JX_aload_n dL_law_443 6 rfl ?_
    refine JX_iconst (v := nI 0) dL_law_444 (by decide) ?_
    refine JX_lald (v := f 0) dL_law_445 (aJ_x (o3.trans hf) (by decide) (by decide)) ?_
    refine JX_lload dL_law_446 0 rfl ?_
    refine JX_lcmp dL_law_448 ?_
    refine JX_if_eq (tgt := 454) dL_law_449 (by decide) (fun _ => ?_) (fun c9 => absurd (by rw [hff, ← hrr]; exact cmp_self _) c9)
    refine JX_goto (tgt := 1899) dL_law_454 (by decide) ?_
    exact JX_sub [2, 3, 4, 5, 6] rfl (JX_wide (by omega) (by omega) (kend _ _ W3))
set_option maxRecDepth 100000 in
set_option maxHeartbeats 4000000 in
theorem law_6 (htr : l.stackTraces = false) (fx : FX F m out am) (W : WS K F x m out am H g k0) (hg : 7 * g + 7 ≤ L) (hL : L ≤ 3584) (kend : ∀ H3 k, WS K F x m out am H3 (g + 1) k → JL (b, L, xs) l K hh nm 1899 [] [(4, .int (nI (7 * g))), (0, .ref b), (1, .ref x), (2, .ref m), (3, .ref out)] H3 (77 + 400 * (g + 1)) (25893 + 7000 * (g + 1))) :
    JL (b, L, xs) l K hh nm 457 [] [(4, .int (nI (7 * g))), (0, .ref b), (1, .ref x), (2, .ref m), (3, .ref out)] H (77 + 400 * g) (25893 + 7000 * g) := by
  have hg9 : g + 1 < 2 ^ 20 := by omega
  refine JX_aload_n dL_law_457 2 rfl ?_
  refine JL_rd (j := 1) dL_law_458 dL_law_459 dL_law_461 (by decide) dL_law_462 dL_law_463 (q0 := 1) (q4 := 0) rfl rfl (by omega) (by omega) ?_
  refine JL_rd (j := 2) dL_law_464 dL_law_465 dL_law_467 (by decide) dL_law_468 dL_law_469 (q0 := 1) (q4 := 0) rfl rfl (by omega) (by omega) ?_
  refine JX_i2l dL_law_470 ?_
  refine JX_bipush (v := nI 32) dL_law_471 (by decide) ?_
  refine JX_lshl dL_law_473 ?_
  refine JL_rd (j := 3) dL_law_474 dL_law_475 dL_law_477 (by decide) dL_law_478 dL_law_479 (q0 := 1) (q4 := 0) rfl rfl (by omega) (by omega) ?_
  refine JX_i2l dL_law_480 ?_
  refine JX_ldc2 (v := 4294967295) dL_law_481 law_k93 ?_
  refine JX_land dL_law_484 ?_
  refine JX_lor dL_law_485 ?_
  refine JX_aload_n dL_law_486 4 rfl ?_
  refine JX_callSW (n := 4) (As := [.ref x, .int (xs (7 * g + 1)), .long (((((xs (7 * g + 2)).toInt64) <<< ((nI 32).toInt64 &&& 63)) ||| (((xs (7 * g + 3)).toInt64) &&& 4294967295))), .ref out]) (rest := []) dL_law_487 gL_law_L_add rfl (by decide +kernel) rfl (by decide) (Nat.le_of_ble_eq_true rfl) (by omega) (by omega) (lw_add htr fx W hg9) kI_no (kI_kx (fun kq H2 Gq => ?_))
  obtain ⟨kn, r, rfl, k5, hom, ⟨f, hf, hf0⟩, Gq⟩ := Gq
  refine JX_istore (lv' := [(5, .int (nI kn)), (4, .int (nI (7 * g))), (0, .ref b), (1, .ref x), (2, .ref m), (3, .ref out)]) dL_law_490 (by decide) rfl ?_
  refine JX_aload_n dL_law_492 4 rfl ?_
  refine JL_rd (j := 1) dL_law_493 dL_law_494 dL_law_496 (by decide) dL_law_497 dL_law_498 (q0 := 2) (q4 := 1) rfl rfl (by omega) (by omega) ?_
  refine JL_rd (j := 2) dL_law_499 dL_law_500 dL_law_502 (by decide) dL_law_503 dL_law_504 (q0 := 2) (q4 := 1) rfl rfl (by omega) (by omega) ?_
  refine JX_i2l dL_law_505 ?_
  refine JX_bipush (v := nI 32) dL_law_506 (by decide) ?_
  refine JX_lshl dL_law_508 ?_
  refine JL_rd (j := 3) dL_law_509 dL_law_510 dL_law_512 (by decide) dL_law_513 dL_law_514 (q0 := 2) (q4 := 1) rfl rfl (by omega) (by omega) ?_
  refine JX_i2l dL_law_515 ?_
  refine JX_ldc2 (v := 4294967295) dL_law_516 law_k93 ?_
  refine JX_land dL_law_519 ?_
  refine JX_lor dL_law_520 ?_
  refine JX_callV0 (ci := 4) (n := 2) (As := [.int (xs (7 * g + 1)), .long (((((xs (7 * g + 2)).toInt64) <<< ((nI 32).toInt64 &&& 63)) ||| (((xs (7 * g + 3)).toInt64) &&& 4294967295)))]) (rest := []) dL_law_521 rfl gL_law_X4_add rfl (by decide +kernel) rfl (by decide) hom (Nat.le_of_ble_eq_true rfl) (by omega) (by omega) Gq kH_no (kH_kx (fun r' H3 Gr => ?_))
  obtain ⟨W3, o3, hr⟩ := Gr
  refine JX_istore (lv' := [(6, .int r'), (5, .int (nI kn)), (4, .int (nI (7 * g))), (0, .ref b), (1, .ref x), (2, .ref m), (3, .ref out)]) dL_law_524 (by decide) rfl ?_
  refine JX_aload_n dL_law_526 5 rfl ?_
  refine JX_callV0 (ci := 4) (n := 0) (As := []) (rest := []) dL_law_527 rfl gL_law_X4_thrown rfl (by decide +kernel) rfl (by decide) W3.om (Nat.le_of_ble_eq_true rfl) (by omega) (by omega) (W3.thr htr) kI_no (kI_kx (fun tq H4 Gt => ?_))
  obtain ⟨rfl, rfl⟩ := Gt
  refine JX_iload dL_law_530 1 rfl ?_
  refine JX_icmp_eq (tgt := 537) dL_law_532 (by decide) (fun _ => ?_) (fun c => absurd rfl c)
  refine JX_iload dL_law_537 1 rfl ?_
  refine JX_if_ne (tgt := 554) dL_law_539 (by decide) (fun _ => ?_) (fun c => ?_)
  · skip
    refine JX_goto (tgt := 1899) dL_law_554 (by decide) ?_
    exact JX_sub [2, 3, 4, 5, 6] rfl (JX_wide (by omega) (by omega) (kend _ _ W3))
  · have kn0 : kn = 0 := (nI_eq (by omega) (by omega)).mp c
    have hrr := hr kn0
    have hff := hf0 kn0
    refine JX_aload_n dL_law_542 6 rfl ?_
    refine JX_iconst (v := nI 0) dL_law_543 (by decide) ?_
    refine JX_lald (v := f 0) dL_law_544 (aJ_x (o3.trans hf) (by decide) (by decide)) ?_
    refine JX_iload dL_law_545 0 rfl ?_
    refine JX_i2l dL_law_547 ?_
    refine JX_lcmp dL_law_548 ?_
    refine JX_if_eq (tgt := 554) dL_law_549 (by decide) (fun _ => ?_) (fun c9 => absurd (by rw [hff, ← hrr]; exact cmp_self _) c9)
    refine JX_goto (tgt := 1899) dL_law_554 (by decide) ?_
    exact JX_sub [2, 3, 4, 5, 6] rfl (JX_wide (by omega) (by omega) (kend _ _ W3))
set_option maxRecDepth 100000 in
set_option maxHeartbeats 4000000 in
theorem law_7 (htr : l.stackTraces = false) (fx : FX F m out am) (W : WS K F x m out am H g k0) (hg : 7 * g + 7 ≤ L) (hL : L ≤ 3584) (kend : ∀ H3 k, WS K F x m out am H3 (g + 1) k → JL (b, L, xs) l K hh nm 1899 [] [(4, .int (nI (7 * g))), (0, .ref b), (1, .ref x), (2, .ref m), (3, .ref out)] H3 (77 + 400 * (g + 1)) (25893 + 7000 * (g + 1))) :
    JL (b, L, xs) l K hh nm 557 [] [(4, .int (nI (7 * g))), (0, .ref b), (1, .ref x), (2, .ref m), (3, .ref out)] H (77 + 400 * g) (25893 + 7000 * g) := by
  have hg9 : g + 1 < 2 ^ 20 := by omega
  refine JX_aload_n dL_law_557 2 rfl ?_
  refine JL_rd (j := 1) dL_law_558 dL_law_559 dL_law_561 (by decide) dL_law_562 dL_law_563 (q0 := 1) (q4 := 0) rfl rfl (by omega) (by omega) ?_
  refine JL_rd (j := 2) dL_law_564 dL_law_565 dL_law_567 (by decide) dL_law_568 dL_law_569 (q0 := 1) (q4 := 0) rfl rfl (by omega) (by omega) ?_
  refine JX_aload_n dL_law_570 4 rfl ?_
  refine JX_callSW (n := 4) (As := [.ref x, .int (xs (7 * g + 1)), .int (xs (7 * g + 2)), .ref out]) (rest := []) dL_law_571 gL_law_L_item rfl (by decide +kernel) rfl (by decide) (Nat.le_of_ble_eq_true rfl) (by omega) (by omega) (lw_item htr fx W hg9) kI_no (kI_kx (fun kq H2 Gq => ?_))
  obtain ⟨kn, r, rfl, k5, hom, ⟨f, hf, hf0⟩, Gq⟩ := Gq
  refine JX_istore (lv' := [(5, .int (nI kn)), (4, .int (nI (7 * g))), (0, .ref b), (1, .ref x), (2, .ref m), (3, .ref out)]) dL_law_574 (by decide) rfl ?_
  refine JX_aload_n dL_law_576 4 rfl ?_
  refine JL_rd (j := 1) dL_law_577 dL_law_578 dL_law_580 (by decide) dL_law_581 dL_law_582 (q0 := 2) (q4 := 1) rfl rfl (by omega) (by omega) ?_
  refine JL_rd (j := 2) dL_law_583 dL_law_584 dL_law_586 (by decide) dL_law_587 dL_law_588 (q0 := 2) (q4 := 1) rfl rfl (by omega) (by omega) ?_
  refine JX_callV0 (ci := 4) (n := 2) (As := [.int (xs (7 * g + 1)), .int (xs (7 * g + 2))]) (rest := []) dL_law_589 rfl gL_law_X4_item rfl (by decide +kernel) rfl (by decide) hom (Nat.le_of_ble_eq_true rfl) (by omega) (by omega) Gq kH_no (kH_kx (fun r' H3 Gr => ?_))
  obtain ⟨W3, o3, hr⟩ := Gr
  refine JX_lstore (lv' := [(6, .long r'), (5, .int (nI kn)), (4, .int (nI (7 * g))), (0, .ref b), (1, .ref x), (2, .ref m), (3, .ref out)]) dL_law_592 (by decide) rfl ?_
  refine JX_aload_n dL_law_594 5 rfl ?_
  refine JX_callV0 (ci := 4) (n := 0) (As := []) (rest := []) dL_law_595 rfl gL_law_X4_thrown rfl (by decide +kernel) rfl (by decide) W3.om (Nat.le_of_ble_eq_true rfl) (by omega) (by omega) (W3.thr htr) kI_no (kI_kx (fun tq H4 Gt => ?_))
  obtain ⟨rfl, rfl⟩ := Gt
  refine JX_iload dL_law_598 1 rfl ?_
  refine JX_icmp_eq (tgt := 605) dL_law_600 (by decide) (fun _ => ?_) (fun c => absurd rfl c)
  refine JX_iload dL_law_605 1 rfl ?_
  refine JX_if_ne (tgt := 621) dL_law_607 (by decide) (fun _ => ?_) (fun c => ?_)
  · skip
    refine JX_goto (tgt := 1899) dL_law_621 (by decide) ?_
    exact JX_sub [2, 3, 4, 5, 6] rfl (JX_wide (by omega) (by omega) (kend _ _ W3))
  · have kn0 : kn = 0 := (nI_eq (by omega) (by omega)).mp c
    have hrr := hr kn0
    have hff := hf0 kn0
    refine JX_aload_n dL_law_610 6 rfl ?_
    refine JX_iconst (v := nI 0) dL_law_611 (by decide) ?_
    refine JX_lald (v := f 0) dL_law_612 (aJ_x (o3.trans hf) (by decide) (by decide)) ?_
    refine JX_lload dL_law_613 0 rfl ?_
    refine JX_lcmp dL_law_615 ?_
    refine JX_if_eq (tgt := 621) dL_law_616 (by decide) (fun _ => ?_) (fun c9 => absurd (by rw [hff, ← hrr]; exact cmp_self _) c9)
    refine JX_goto (tgt := 1899) dL_law_621 (by decide) ?_
    exact JX_sub [2, 3, 4, 5, 6] rfl (JX_wide (by omega) (by omega) (kend _ _ W3))
set_option maxRecDepth 100000 in
set_option maxHeartbeats 4000000 in
theorem law_8 (htr : l.stackTraces = false) (fx : FX F m out am) (W : WS K F x m out am H g k0) (hg : 7 * g + 7 ≤ L) (hL : L ≤ 3584) (kend : ∀ H3 k, WS K F x m out am H3 (g + 1) k → JL (b, L, xs) l K hh nm 1899 [] [(4, .int (nI (7 * g))), (0, .ref b), (1, .ref x), (2, .ref m), (3, .ref out)] H3 (77 + 400 * (g + 1)) (25893 + 7000 * (g + 1))) :
    JL (b, L, xs) l K hh nm 624 [] [(4, .int (nI (7 * g))), (0, .ref b), (1, .ref x), (2, .ref m), (3, .ref out)] H (77 + 400 * g) (25893 + 7000 * g) := by
  have hg9 : g + 1 < 2 ^ 20 := by omega
  refine JX_aload_n dL_law_624 2 rfl ?_
  refine JL_rd (j := 1) dL_law_625 dL_law_626 dL_law_628 (by decide) dL_law_629 dL_law_630 (q0 := 1) (q4 := 0) rfl rfl (by omega) (by omega) ?_
  refine JL_rd (j := 2) dL_law_631 dL_law_632 dL_law_634 (by decide) dL_law_635 dL_law_636 (q0 := 1) (q4 := 0) rfl rfl (by omega) (by omega) ?_
  refine JX_i2l dL_law_637 ?_
  refine JX_bipush (v := nI 32) dL_law_638 (by decide) ?_
  refine JX_lshl dL_law_640 ?_
  refine JL_rd (j := 3) dL_law_641 dL_law_642 dL_law_644 (by decide) dL_law_645 dL_law_646 (q0 := 1) (q4 := 0) rfl rfl (by omega) (by omega) ?_
  refine JX_i2l dL_law_647 ?_
  refine JX_ldc2 (v := 4294967295) dL_law_648 law_k93 ?_
  refine JX_land dL_law_651 ?_
  refine JX_lor dL_law_652 ?_
  refine JL_rd (j := 4) dL_law_653 dL_law_654 dL_law_656 (by decide) dL_law_657 dL_law_658 (q0 := 1) (q4 := 0) rfl rfl (by omega) (by omega) ?_
  refine JX_i2l dL_law_659 ?_
  refine JX_bipush (v := nI 32) dL_law_660 (by decide) ?_
  refine JX_lshl dL_law_662 ?_
  refine JL_rd (j := 5) dL_law_663 dL_law_664 dL_law_666 (by decide) dL_law_667 dL_law_668 (q0 := 1) (q4 := 0) rfl rfl (by omega) (by omega) ?_
  refine JX_i2l dL_law_669 ?_
  refine JX_ldc2 (v := 4294967295) dL_law_670 law_k93 ?_
  refine JX_land dL_law_673 ?_
  refine JX_lor dL_law_674 ?_
  refine JX_aload_n dL_law_675 4 rfl ?_
  refine JX_callSW (n := 5) (As := [.ref x, .int (xs (7 * g + 1)), .long (((((xs (7 * g + 2)).toInt64) <<< ((nI 32).toInt64 &&& 63)) ||| (((xs (7 * g + 3)).toInt64) &&& 4294967295))), .long (((((xs (7 * g + 4)).toInt64) <<< ((nI 32).toInt64 &&& 63)) ||| (((xs (7 * g + 5)).toInt64) &&& 4294967295))), .ref out]) (rest := []) dL_law_676 gL_law_L_set rfl (by decide +kernel) rfl (by decide) (Nat.le_of_ble_eq_true rfl) (by omega) (by omega) (lw_set htr fx W hg9) kI_no (kI_kx (fun kq H2 Gq => ?_))
  obtain ⟨kn, r, rfl, k5, hom, ⟨f, hf, hf0⟩, Gq⟩ := Gq
  refine JX_istore (lv' := [(5, .int (nI kn)), (4, .int (nI (7 * g))), (0, .ref b), (1, .ref x), (2, .ref m), (3, .ref out)]) dL_law_679 (by decide) rfl ?_
  refine JX_aload_n dL_law_681 4 rfl ?_
  refine JL_rd (j := 1) dL_law_682 dL_law_683 dL_law_685 (by decide) dL_law_686 dL_law_687 (q0 := 2) (q4 := 1) rfl rfl (by omega) (by omega) ?_
  refine JL_rd (j := 2) dL_law_688 dL_law_689 dL_law_691 (by decide) dL_law_692 dL_law_693 (q0 := 2) (q4 := 1) rfl rfl (by omega) (by omega) ?_
  refine JX_i2l dL_law_694 ?_
  refine JX_bipush (v := nI 32) dL_law_695 (by decide) ?_
  refine JX_lshl dL_law_697 ?_
  refine JL_rd (j := 3) dL_law_698 dL_law_699 dL_law_701 (by decide) dL_law_702 dL_law_703 (q0 := 2) (q4 := 1) rfl rfl (by omega) (by omega) ?_
  refine JX_i2l dL_law_704 ?_
  refine JX_ldc2 (v := 4294967295) dL_law_705 law_k93 ?_
  refine JX_land dL_law_708 ?_
  refine JX_lor dL_law_709 ?_
  refine JL_rd (j := 4) dL_law_710 dL_law_711 dL_law_713 (by decide) dL_law_714 dL_law_715 (q0 := 2) (q4 := 1) rfl rfl (by omega) (by omega) ?_
  refine JX_i2l dL_law_716 ?_
  refine JX_bipush (v := nI 32) dL_law_717 (by decide) ?_
  refine JX_lshl dL_law_719 ?_
  refine JL_rd (j := 5) dL_law_720 dL_law_721 dL_law_723 (by decide) dL_law_724 dL_law_725 (q0 := 2) (q4 := 1) rfl rfl (by omega) (by omega) ?_
  refine JX_i2l dL_law_726 ?_
  refine JX_ldc2 (v := 4294967295) dL_law_727 law_k93 ?_
  refine JX_land dL_law_730 ?_
  refine JX_lor dL_law_731 ?_
  refine JX_callV0 (ci := 4) (n := 3) (As := [.int (xs (7 * g + 1)), .long (((((xs (7 * g + 2)).toInt64) <<< ((nI 32).toInt64 &&& 63)) ||| (((xs (7 * g + 3)).toInt64) &&& 4294967295))), .long (((((xs (7 * g + 4)).toInt64) <<< ((nI 32).toInt64 &&& 63)) ||| (((xs (7 * g + 5)).toInt64) &&& 4294967295)))]) (rest := []) dL_law_732 rfl gL_law_X4_set rfl (by decide +kernel) rfl (by decide) hom (Nat.le_of_ble_eq_true rfl) (by omega) (by omega) Gq kH_no (kH_kx (fun r' H3 Gr => ?_))
  obtain ⟨W3, o3, hr⟩ := Gr
  refine JX_istore (lv' := [(6, .int r'), (5, .int (nI kn)), (4, .int (nI (7 * g))), (0, .ref b), (1, .ref x), (2, .ref m), (3, .ref out)]) dL_law_735 (by decide) rfl ?_
  refine JX_aload_n dL_law_737 5 rfl ?_
  refine JX_callV0 (ci := 4) (n := 0) (As := []) (rest := []) dL_law_738 rfl gL_law_X4_thrown rfl (by decide +kernel) rfl (by decide) W3.om (Nat.le_of_ble_eq_true rfl) (by omega) (by omega) (W3.thr htr) kI_no (kI_kx (fun tq H4 Gt => ?_))
  obtain ⟨rfl, rfl⟩ := Gt
  refine JX_iload dL_law_741 1 rfl ?_
  refine JX_icmp_eq (tgt := 748) dL_law_743 (by decide) (fun _ => ?_) (fun c => absurd rfl c)
  refine JX_iload dL_law_748 1 rfl ?_
  refine JX_if_ne (tgt := 765) dL_law_750 (by decide) (fun _ => ?_) (fun c => ?_)
  · skip
    refine JX_goto (tgt := 1899) dL_law_765 (by decide) ?_
    exact JX_sub [2, 3, 4, 5, 6] rfl (JX_wide (by omega) (by omega) (kend _ _ W3))
  · have kn0 : kn = 0 := (nI_eq (by omega) (by omega)).mp c
    have hrr := hr kn0
    have hff := hf0 kn0
    refine JX_aload_n dL_law_753 6 rfl ?_
    refine JX_iconst (v := nI 0) dL_law_754 (by decide) ?_
    refine JX_lald (v := f 0) dL_law_755 (aJ_x (o3.trans hf) (by decide) (by decide)) ?_
    refine JX_iload dL_law_756 0 rfl ?_
    refine JX_i2l dL_law_758 ?_
    refine JX_lcmp dL_law_759 ?_
    refine JX_if_eq (tgt := 765) dL_law_760 (by decide) (fun _ => ?_) (fun c9 => absurd (by rw [hff, ← hrr]; exact cmp_self _) c9)
    refine JX_goto (tgt := 1899) dL_law_765 (by decide) ?_
    exact JX_sub [2, 3, 4, 5, 6] rfl (JX_wide (by omega) (by omega) (kend _ _ W3))
end Law
