/-! the law's cases -/
section LawCases1
variable {p : Program} {l : Launch} {e : Env} {s : State} {m : MethodId} {below : List Frame} {meth : Method} {c0 : Code} {K : q_KK} {A : Nat → Prop} {ad : Nat → Nat} {b N : Nat} {xs : Nat → Int32} {c n : Nat → Nat} {M mm o : q_MM} {q kc kn : Nat}
set_option maxHeartbeats 2000000 in
set_option maxRecDepth 100000 in
theorem law_2 (X : q_X p s m #[Value.ref b] meth c0 K A ad 7 cL_law RL (some .boolean)) (hS : q_scr b N xs A ad s) (hN : N < 2147483648) (h : a_X c n mm M) (hq : q + 8 ≤ N) (hk : kc + 3 ≤ 601024) (hkn : kn + 97 ≤ 7293034) (kk : ∀ (c n : Nat → Nat) (M mm o : q_MM), a_X c n mm M → GG p l e room_1 s m #[Value.ref b] below meth c0 K A q_g0 ad true 7 (fun (_ : Unit) => lw_Z below #[Value.ref b] s) (some ()) 1910 [(0, .ref 960), (1, .ref 1), (2, .ref 5001), (3, .ref 6000), (4, .int (nI q))] [] (q_lw c M mm o) (kc + 3) (kn + 97)) : GG p l e room_1 s m #[Value.ref b] below meth c0 K A q_g0 ad true 7 (fun (_ : Unit) => lw_Z below #[Value.ref b] s) (some ()) 298 [(0, .ref 960), (1, .ref 1), (2, .ref 5001), (3, .ref 6000), (4, .int (nI q))] [] (q_lw c M mm o) kc kn := by
  obtain ⟨r, c', n', M', m', hx, hm, h'⟩ := pub_wall h (xs (q + 1)) (xs (q + 2)) (xs (q + 3)) (xs (q + 4))
  rw [← e_wall h] at hx
  refine g_aload_n X dL_law_298 rfl 1 rfl ?_
  refine g_arg5 X hS 1 hN (by omega) rfl rfl dL_law_299 dL_law_300 dL_law_302 rfl dL_law_303 dL_law_304 ?_
  refine g_arg5 X hS 2 hN (by omega) rfl rfl dL_law_305 dL_law_306 dL_law_308 rfl dL_law_309 dL_law_310 ?_
  refine g_arg5 X hS 3 hN (by omega) rfl rfl dL_law_311 dL_law_312 dL_law_314 rfl dL_law_315 dL_law_316 ?_
  refine g_arg5 X hS 4 hN (by omega) rfl rfl dL_law_317 dL_law_318 dL_law_320 rfl dL_law_321 dL_law_322 ?_
  refine g_callV (rv := some (.int r)) (As := [.int (xs (q + 1)), .int (xs (q + 2)), .int (xs (q + 3)), .int (xs (q + 4))]) (rest := []) X ((c_X11_wall l K c M (xs (q + 1)) (xs (q + 2)) (xs (q + 3)) (xs (q + 4)) _ hx).lawX h.C h'.C (fun _ hq => by cases hq) mm o) lk_L_40 rfl rfl rfl (Nat.le_of_ble_eq_true rfl) ⟨Nat.le_of_ble_eq_true rfl, Nat.le_of_ble_eq_true rfl⟩ ⟨by show kc + 3 ≤ 601024; omega, by show kn + 66 ≤ 7293034; omega⟩ dL_law_323 (fun _ => ⟨rfl, q_lwok, fun v hv => absurd hv List.not_mem_nil⟩) ?_
  refine g_aload_n X dL_law_326 rfl 2 rfl ?_
  refine g_arg5 X hS 1 hN (by omega) rfl rfl dL_law_327 dL_law_328 dL_law_330 rfl dL_law_331 dL_law_332 ?_
  refine g_arg5 X hS 2 hN (by omega) rfl rfl dL_law_333 dL_law_334 dL_law_336 rfl dL_law_337 dL_law_338 ?_
  refine g_arg5 X hS 3 hN (by omega) rfl rfl dL_law_339 dL_law_340 dL_law_342 rfl dL_law_343 dL_law_344 ?_
  refine g_arg5 X hS 4 hN (by omega) rfl rfl dL_law_345 dL_law_346 dL_law_348 rfl dL_law_349 dL_law_350 ?_
  refine g_alk (q_lw_alk h'.C).1 ?_
  refine g_callV (rv := some (.int r)) (As := [.int (xs (q + 1)), .int (xs (q + 2)), .int (xs (q + 3)), .int (xs (q + 4))]) (rest := [.int r]) X ((c_X12_wall l K mm (xs (q + 1)) (xs (q + 2)) (xs (q + 3)) (xs (q + 4)) _ hm).lawM h'.C (fun _ hq => by cases hq) o) lk_L_43 (q_lw2_T h'.C) rfl rfl (Nat.le_of_ble_eq_true rfl) ⟨Nat.le_of_ble_eq_true rfl, Nat.le_of_ble_eq_true rfl⟩ ⟨by show (kc + 3) + 0 ≤ 601024; omega, by show (kn + 66) + 0 ≤ 7293034; omega⟩ dL_law_351 (fun hq => by cases hq) ?_
  refine g_alk (q_lw_alk h'.C).2 ?_
  refine g_icmpT X 1910 dL_law_354 rfl ?_
  refine g_widen (kc' := kc + 3) (kn' := kn + 97) (by show kc + 3 + 0 ≤ kc + 3; omega) (by show kn + 66 + 0 ≤ kn + 97; omega) ?_
  exact kk c' n' M' m' o h'
set_option maxHeartbeats 2000000 in
set_option maxRecDepth 100000 in
theorem law_3 (X : q_X p s m #[Value.ref b] meth c0 K A ad 7 cL_law RL (some .boolean)) (hS : q_scr b N xs A ad s) (hN : N < 2147483648) (h : a_X c n mm M) (hq : q + 8 ≤ N) (hk : kc + 3 ≤ 601024) (hkn : kn + 97 ≤ 7293034) (kk : ∀ (c n : Nat → Nat) (M mm o : q_MM), a_X c n mm M → GG p l e room_1 s m #[Value.ref b] below meth c0 K A q_g0 ad true 7 (fun (_ : Unit) => lw_Z below #[Value.ref b] s) (some ()) 1910 [(0, .ref 960), (1, .ref 1), (2, .ref 5001), (3, .ref 6000), (4, .int (nI q))] [] (q_lw c M mm o) (kc + 3) (kn + 97)) : GG p l e room_1 s m #[Value.ref b] below meth c0 K A q_g0 ad true 7 (fun (_ : Unit) => lw_Z below #[Value.ref b] s) (some ()) 359 [(0, .ref 960), (1, .ref 1), (2, .ref 5001), (3, .ref 6000), (4, .int (nI q))] [] (q_lw c M mm o) kc kn := by
  obtain ⟨r, n', M', m', hx, hm, h'⟩ := pub_light h (xs (q + 1)) (xs (q + 2)) (xs (q + 3)) (xs (q + 4)) (xs (q + 5))
  refine g_aload_n X dL_law_359 rfl 1 rfl ?_
  refine g_arg5 X hS 1 hN (by omega) rfl rfl dL_law_360 dL_law_361 dL_law_363 rfl dL_law_364 dL_law_365 ?_
  refine g_arg5 X hS 2 hN (by omega) rfl rfl dL_law_366 dL_law_367 dL_law_369 rfl dL_law_370 dL_law_371 ?_
  refine g_arg5 X hS 3 hN (by omega) rfl rfl dL_law_372 dL_law_373 dL_law_375 rfl dL_law_376 dL_law_377 ?_
  refine g_arg5 X hS 4 hN (by omega) rfl rfl dL_law_378 dL_law_379 dL_law_381 rfl dL_law_382 dL_law_383 ?_
  refine g_arg5 X hS 5 hN (by omega) rfl rfl dL_law_384 dL_law_385 dL_law_387 rfl dL_law_388 dL_law_389 ?_
  refine g_callV (rv := some (.int r)) (As := [.int (xs (q + 1)), .int (xs (q + 2)), .int (xs (q + 3)), .int (xs (q + 4)), .int (xs (q + 5))]) (rest := []) X ((c_X11_light l K c M (xs (q + 1)) (xs (q + 2)) (xs (q + 3)) (xs (q + 4)) (xs (q + 5)) _ hx).lawX h.C h.C (fun _ hq => by cases hq) mm o) lk_L_44 rfl rfl rfl (Nat.le_of_ble_eq_true rfl) ⟨Nat.le_of_ble_eq_true rfl, Nat.le_of_ble_eq_true rfl⟩ ⟨by show kc + 0 ≤ 601024; omega, by show kn + 0 ≤ 7293034; omega⟩ dL_law_390 (fun hq => by cases hq) ?_
  refine g_aload_n X dL_law_393 rfl 2 rfl ?_
  refine g_arg5 X hS 1 hN (by omega) rfl rfl dL_law_394 dL_law_395 dL_law_397 rfl dL_law_398 dL_law_399 ?_
  refine g_arg5 X hS 2 hN (by omega) rfl rfl dL_law_400 dL_law_401 dL_law_403 rfl dL_law_404 dL_law_405 ?_
  refine g_arg5 X hS 3 hN (by omega) rfl rfl dL_law_406 dL_law_407 dL_law_409 rfl dL_law_410 dL_law_411 ?_
  refine g_arg5 X hS 4 hN (by omega) rfl rfl dL_law_412 dL_law_413 dL_law_415 rfl dL_law_416 dL_law_417 ?_
  refine g_arg5 X hS 5 hN (by omega) rfl rfl dL_law_418 dL_law_419 dL_law_421 rfl dL_law_422 dL_law_423 ?_
  refine g_alk (q_lw_alk h'.C).1 ?_
  refine g_callV (rv := some (.int r)) (As := [.int (xs (q + 1)), .int (xs (q + 2)), .int (xs (q + 3)), .int (xs (q + 4)), .int (xs (q + 5))]) (rest := [.int r]) X ((c_X12_light l K mm (xs (q + 1)) (xs (q + 2)) (xs (q + 3)) (xs (q + 4)) (xs (q + 5)) _ hm).lawM h'.C (fun _ hq => by cases hq) o) lk_L_48 (q_lw2_T h'.C) rfl rfl (Nat.le_of_ble_eq_true rfl) ⟨Nat.le_of_ble_eq_true rfl, Nat.le_of_ble_eq_true rfl⟩ ⟨by show (kc + 0) + 0 ≤ 601024; omega, by show (kn + 0) + 0 ≤ 7293034; omega⟩ dL_law_424 (fun hq => by cases hq) ?_
  refine g_alk (q_lw_alk h'.C).2 ?_
  refine g_icmpT X 1910 dL_law_427 rfl ?_
  refine g_widen (kc' := kc + 3) (kn' := kn + 97) (by show kc + 0 + 0 ≤ kc + 3; omega) (by show kn + 0 + 0 ≤ kn + 97; omega) ?_
  exact kk c n' M' m' o h'
set_option maxHeartbeats 2000000 in
set_option maxRecDepth 100000 in
theorem law_4 (X : q_X p s m #[Value.ref b] meth c0 K A ad 7 cL_law RL (some .boolean)) (hS : q_scr b N xs A ad s) (hN : N < 2147483648) (h : a_X c n mm M) (hq : q + 8 ≤ N) (hk : kc + 3 ≤ 601024) (hkn : kn + 97 ≤ 7293034) (kk : ∀ (c n : Nat → Nat) (M mm o : q_MM), a_X c n mm M → GG p l e room_1 s m #[Value.ref b] below meth c0 K A q_g0 ad true 7 (fun (_ : Unit) => lw_Z below #[Value.ref b] s) (some ()) 1910 [(0, .ref 960), (1, .ref 1), (2, .ref 5001), (3, .ref 6000), (4, .int (nI q))] [] (q_lw c M mm o) (kc + 3) (kn + 97)) : GG p l e room_1 s m #[Value.ref b] below meth c0 K A q_g0 ad true 7 (fun (_ : Unit) => lw_Z below #[Value.ref b] s) (some ()) 432 [(0, .ref 960), (1, .ref 1), (2, .ref 5001), (3, .ref 6000), (4, .int (nI q))] [] (q_lw c M mm o) kc kn := by
  obtain ⟨r, n', M', m', hx, hm, h'⟩ := pub_blind h (xs (q + 1)) (xs (q + 2)) (xs (q + 3))
  refine g_aload_n X dL_law_432 rfl 1 rfl ?_
  refine g_arg5 X hS 1 hN (by omega) rfl rfl dL_law_433 dL_law_434 dL_law_436 rfl dL_law_437 dL_law_438 ?_
  refine g_arg5 X hS 2 hN (by omega) rfl rfl dL_law_439 dL_law_440 dL_law_442 rfl dL_law_443 dL_law_444 ?_
  refine g_arg5 X hS 3 hN (by omega) rfl rfl dL_law_445 dL_law_446 dL_law_448 rfl dL_law_449 dL_law_450 ?_
  refine g_callV (rv := some (.int r)) (As := [.int (xs (q + 1)), .int (xs (q + 2)), .int (xs (q + 3))]) (rest := []) X ((c_X11_blind l K c M (xs (q + 1)) (xs (q + 2)) (xs (q + 3)) _ hx).lawX h.C h.C (fun _ hq => by cases hq) mm o) lk_L_49 rfl rfl rfl (Nat.le_of_ble_eq_true rfl) ⟨Nat.le_of_ble_eq_true rfl, Nat.le_of_ble_eq_true rfl⟩ ⟨by show kc + 0 ≤ 601024; omega, by show kn + 0 ≤ 7293034; omega⟩ dL_law_451 (fun hq => by cases hq) ?_
  refine g_aload_n X dL_law_454 rfl 2 rfl ?_
  refine g_arg5 X hS 1 hN (by omega) rfl rfl dL_law_455 dL_law_456 dL_law_458 rfl dL_law_459 dL_law_460 ?_
  refine g_arg5 X hS 2 hN (by omega) rfl rfl dL_law_461 dL_law_462 dL_law_464 rfl dL_law_465 dL_law_466 ?_
  refine g_arg5 X hS 3 hN (by omega) rfl rfl dL_law_467 dL_law_468 dL_law_470 rfl dL_law_471 dL_law_472 ?_
  refine g_alk (q_lw_alk h'.C).1 ?_
  refine g_callV (rv := some (.int r)) (As := [.int (xs (q + 1)), .int (xs (q + 2)), .int (xs (q + 3))]) (rest := [.int r]) X ((c_X12_blind l K mm (xs (q + 1)) (xs (q + 2)) (xs (q + 3)) _ hm).lawM h'.C (fun _ hq => by cases hq) o) lk_L_53 (q_lw2_T h'.C) rfl rfl (Nat.le_of_ble_eq_true rfl) ⟨Nat.le_of_ble_eq_true rfl, Nat.le_of_ble_eq_true rfl⟩ ⟨by show (kc + 0) + 0 ≤ 601024; omega, by show (kn + 0) + 0 ≤ 7293034; omega⟩ dL_law_473 (fun hq => by cases hq) ?_
  refine g_alk (q_lw_alk h'.C).2 ?_
  refine g_icmpT X 1910 dL_law_476 rfl ?_
  refine g_widen (kc' := kc + 3) (kn' := kn + 97) (by show kc + 0 + 0 ≤ kc + 3; omega) (by show kn + 0 + 0 ≤ kn + 97; omega) ?_
  exact kk c n' M' m' o h'
set_option maxHeartbeats 2000000 in
set_option maxRecDepth 100000 in
theorem law_6 (X : q_X p s m #[Value.ref b] meth c0 K A ad 7 cL_law RL (some .boolean)) (hS : q_scr b N xs A ad s) (hN : N < 2147483648) (h : a_X c n mm M) (hq : q + 8 ≤ N) (hk : kc + 3 ≤ 601024) (hkn : kn + 97 ≤ 7293034) (kk : ∀ (c n : Nat → Nat) (M mm o : q_MM), a_X c n mm M → GG p l e room_1 s m #[Value.ref b] below meth c0 K A q_g0 ad true 7 (fun (_ : Unit) => lw_Z below #[Value.ref b] s) (some ()) 1910 [(0, .ref 960), (1, .ref 1), (2, .ref 5001), (3, .ref 6000), (4, .int (nI q))] [] (q_lw c M mm o) (kc + 3) (kn + 97)) : GG p l e room_1 s m #[Value.ref b] below meth c0 K A q_g0 ad true 7 (fun (_ : Unit) => lw_Z below #[Value.ref b] s) (some ()) 518 [(0, .ref 960), (1, .ref 1), (2, .ref 5001), (3, .ref 6000), (4, .int (nI q))] [] (q_lw c M mm o) kc kn := by
  obtain ⟨r, c', n', M', m', hx, hm, h'⟩ := pub_picture h (xs (q + 1)) (xs (q + 2)) (xs (q + 3)) (xs (q + 4)) (xs (q + 5)) (xs (q + 6)) (xs (q + 7))
  rw [← e_picture h] at hx
  refine g_aload_n X dL_law_518 rfl 1 rfl ?_
  refine g_arg5 X hS 1 hN (by omega) rfl rfl dL_law_519 dL_law_520 dL_law_522 rfl dL_law_523 dL_law_524 ?_
  refine g_arg5 X hS 2 hN (by omega) rfl rfl dL_law_525 dL_law_526 dL_law_528 rfl dL_law_529 dL_law_530 ?_
  refine g_arg5 X hS 3 hN (by omega) rfl rfl dL_law_531 dL_law_532 dL_law_534 rfl dL_law_535 dL_law_536 ?_
  refine g_arg5 X hS 4 hN (by omega) rfl rfl dL_law_537 dL_law_538 dL_law_540 rfl dL_law_541 dL_law_542 ?_
  refine g_arg5 X hS 5 hN (by omega) rfl rfl dL_law_543 dL_law_544 dL_law_546 rfl dL_law_547 dL_law_548 ?_
  refine g_arg6 X hS 6 hN (by omega) rfl rfl dL_law_549 dL_law_550 dL_law_552 rfl dL_law_554 dL_law_555 ?_
  refine g_arg6 X hS 7 hN (by omega) rfl rfl dL_law_556 dL_law_557 dL_law_559 rfl dL_law_561 dL_law_562 ?_
  refine g_callV (rv := some (.int r)) (As := [.int (xs (q + 1)), .int (xs (q + 2)), .int (xs (q + 3)), .int (xs (q + 4)), .int (xs (q + 5)), .int (xs (q + 6)), .int (xs (q + 7))]) (rest := []) X ((c_X11_picture l K c M (xs (q + 1)) (xs (q + 2)) (xs (q + 3)) (xs (q + 4)) (xs (q + 5)) (xs (q + 6)) (xs (q + 7)) _ hx).lawX h.C h'.C (fun _ hq => by cases hq) mm o) lk_L_58 rfl rfl rfl (Nat.le_of_ble_eq_true rfl) ⟨Nat.le_of_ble_eq_true rfl, Nat.le_of_ble_eq_true rfl⟩ ⟨by show kc + 2 ≤ 601024; omega, by show kn + 47 ≤ 7293034; omega⟩ dL_law_563 (fun _ => ⟨rfl, q_lwok, fun v hv => absurd hv List.not_mem_nil⟩) ?_
  refine g_aload_n X dL_law_566 rfl 2 rfl ?_
  refine g_arg5 X hS 1 hN (by omega) rfl rfl dL_law_567 dL_law_568 dL_law_570 rfl dL_law_571 dL_law_572 ?_
  refine g_arg5 X hS 2 hN (by omega) rfl rfl dL_law_573 dL_law_574 dL_law_576 rfl dL_law_577 dL_law_578 ?_
  refine g_arg5 X hS 3 hN (by omega) rfl rfl dL_law_579 dL_law_580 dL_law_582 rfl dL_law_583 dL_law_584 ?_
  refine g_arg5 X hS 4 hN (by omega) rfl rfl dL_law_585 dL_law_586 dL_law_588 rfl dL_law_589 dL_law_590 ?_
  refine g_arg5 X hS 5 hN (by omega) rfl rfl dL_law_591 dL_law_592 dL_law_594 rfl dL_law_595 dL_law_596 ?_
  refine g_arg6 X hS 6 hN (by omega) rfl rfl dL_law_597 dL_law_598 dL_law_600 rfl dL_law_602 dL_law_603 ?_
  refine g_arg6 X hS 7 hN (by omega) rfl rfl dL_law_604 dL_law_605 dL_law_607 rfl dL_law_609 dL_law_610 ?_
  refine g_alk (q_lw_alk h'.C).1 ?_
  refine g_callV (rv := some (.int r)) (As := [.int (xs (q + 1)), .int (xs (q + 2)), .int (xs (q + 3)), .int (xs (q + 4)), .int (xs (q + 5)), .int (xs (q + 6)), .int (xs (q + 7))]) (rest := [.int r]) X ((c_X12_picture l K mm (xs (q + 1)) (xs (q + 2)) (xs (q + 3)) (xs (q + 4)) (xs (q + 5)) (xs (q + 6)) (xs (q + 7)) _ hm).lawM h'.C (fun _ hq => by cases hq) o) lk_L_62 (q_lw2_T h'.C) rfl rfl (Nat.le_of_ble_eq_true rfl) ⟨Nat.le_of_ble_eq_true rfl, Nat.le_of_ble_eq_true rfl⟩ ⟨by show (kc + 2) + 0 ≤ 601024; omega, by show (kn + 47) + 0 ≤ 7293034; omega⟩ dL_law_611 (fun hq => by cases hq) ?_
  refine g_alk (q_lw_alk h'.C).2 ?_
  refine g_icmpT X 1910 dL_law_614 rfl ?_
  refine g_widen (kc' := kc + 3) (kn' := kn + 97) (by show kc + 2 + 0 ≤ kc + 3; omega) (by show kn + 47 + 0 ≤ kn + 97; omega) ?_
  exact kk c' n' M' m' o h'
set_option maxHeartbeats 2000000 in
set_option maxRecDepth 100000 in
theorem law_7 (X : q_X p s m #[Value.ref b] meth c0 K A ad 7 cL_law RL (some .boolean)) (hS : q_scr b N xs A ad s) (hN : N < 2147483648) (h : a_X c n mm M) (hq : q + 8 ≤ N) (hk : kc + 3 ≤ 601024) (hkn : kn + 97 ≤ 7293034) (kk : ∀ (c n : Nat → Nat) (M mm o : q_MM), a_X c n mm M → GG p l e room_1 s m #[Value.ref b] below meth c0 K A q_g0 ad true 7 (fun (_ : Unit) => lw_Z below #[Value.ref b] s) (some ()) 1910 [(0, .ref 960), (1, .ref 1), (2, .ref 5001), (3, .ref 6000), (4, .int (nI q))] [] (q_lw c M mm o) (kc + 3) (kn + 97)) : GG p l e room_1 s m #[Value.ref b] below meth c0 K A q_g0 ad true 7 (fun (_ : Unit) => lw_Z below #[Value.ref b] s) (some ()) 619 [(0, .ref 960), (1, .ref 1), (2, .ref 5001), (3, .ref 6000), (4, .int (nI q))] [] (q_lw c M mm o) kc kn := by
  obtain ⟨r, n', M', m', hx, hm, h'⟩ := pub_tell h (xs (q + 1)) (xs (q + 2)) (xs (q + 3))
  refine g_aload_n X dL_law_619 rfl 1 rfl ?_
  refine g_arg5 X hS 1 hN (by omega) rfl rfl dL_law_620 dL_law_621 dL_law_623 rfl dL_law_624 dL_law_625 ?_
  refine g_arg5 X hS 2 hN (by omega) rfl rfl dL_law_626 dL_law_627 dL_law_629 rfl dL_law_630 dL_law_631 ?_
  refine g_arg5 X hS 3 hN (by omega) rfl rfl dL_law_632 dL_law_633 dL_law_635 rfl dL_law_636 dL_law_637 ?_
  refine g_callV (rv := some (.int r)) (As := [.int (xs (q + 1)), .int (xs (q + 2)), .int (xs (q + 3))]) (rest := []) X ((c_X11_tell l K c M (xs (q + 1)) (xs (q + 2)) (xs (q + 3)) _ hx).lawX h.C h.C (fun _ hq => by cases hq) mm o) lk_L_63 rfl rfl rfl (Nat.le_of_ble_eq_true rfl) ⟨Nat.le_of_ble_eq_true rfl, Nat.le_of_ble_eq_true rfl⟩ ⟨by show kc + 0 ≤ 601024; omega, by show kn + 0 ≤ 7293034; omega⟩ dL_law_638 (fun hq => by cases hq) ?_
  refine g_aload_n X dL_law_641 rfl 2 rfl ?_
  refine g_arg5 X hS 1 hN (by omega) rfl rfl dL_law_642 dL_law_643 dL_law_645 rfl dL_law_646 dL_law_647 ?_
  refine g_arg5 X hS 2 hN (by omega) rfl rfl dL_law_648 dL_law_649 dL_law_651 rfl dL_law_652 dL_law_653 ?_
  refine g_arg5 X hS 3 hN (by omega) rfl rfl dL_law_654 dL_law_655 dL_law_657 rfl dL_law_658 dL_law_659 ?_
  refine g_alk (q_lw_alk h'.C).1 ?_
  refine g_callV (rv := some (.int r)) (As := [.int (xs (q + 1)), .int (xs (q + 2)), .int (xs (q + 3))]) (rest := [.int r]) X ((c_X12_tell l K mm (xs (q + 1)) (xs (q + 2)) (xs (q + 3)) _ hm).lawM h'.C (fun _ hq => by cases hq) o) lk_L_66 (q_lw2_T h'.C) rfl rfl (Nat.le_of_ble_eq_true rfl) ⟨Nat.le_of_ble_eq_true rfl, Nat.le_of_ble_eq_true rfl⟩ ⟨by show (kc + 0) + 0 ≤ 601024; omega, by show (kn + 0) + 0 ≤ 7293034; omega⟩ dL_law_660 (fun hq => by cases hq) ?_
  refine g_alk (q_lw_alk h'.C).2 ?_
  refine g_icmpT X 1910 dL_law_663 rfl ?_
  refine g_widen (kc' := kc + 3) (kn' := kn + 97) (by show kc + 0 + 0 ≤ kc + 3; omega) (by show kn + 0 + 0 ≤ kn + 97; omega) ?_
  exact kk c n' M' m' o h'
set_option maxHeartbeats 2000000 in
set_option maxRecDepth 100000 in
theorem law_8 (X : q_X p s m #[Value.ref b] meth c0 K A ad 7 cL_law RL (some .boolean)) (hS : q_scr b N xs A ad s) (hN : N < 2147483648) (h : a_X c n mm M) (hq : q + 8 ≤ N) (hk : kc + 3 ≤ 601024) (hkn : kn + 97 ≤ 7293034) (kk : ∀ (c n : Nat → Nat) (M mm o : q_MM), a_X c n mm M → GG p l e room_1 s m #[Value.ref b] below meth c0 K A q_g0 ad true 7 (fun (_ : Unit) => lw_Z below #[Value.ref b] s) (some ()) 1910 [(0, .ref 960), (1, .ref 1), (2, .ref 5001), (3, .ref 6000), (4, .int (nI q))] [] (q_lw c M mm o) (kc + 3) (kn + 97)) : GG p l e room_1 s m #[Value.ref b] below meth c0 K A q_g0 ad true 7 (fun (_ : Unit) => lw_Z below #[Value.ref b] s) (some ()) 668 [(0, .ref 960), (1, .ref 1), (2, .ref 5001), (3, .ref 6000), (4, .int (nI q))] [] (q_lw c M mm o) kc kn := by
  obtain ⟨r, n', M', m', hx, hm, h'⟩ := pub_sign h (xs (q + 1))
  refine g_aload_n X dL_law_668 rfl 1 rfl ?_
  refine g_arg5 X hS 1 hN (by omega) rfl rfl dL_law_669 dL_law_670 dL_law_672 rfl dL_law_673 dL_law_674 ?_
  refine g_callV (rv := some (.int r)) (As := [.int (xs (q + 1))]) (rest := []) X ((c_X11_sign l K c M (xs (q + 1)) _ hx).lawX h.C h.C (fun _ hq => by cases hq) mm o) lk_L_67 rfl rfl rfl (Nat.le_of_ble_eq_true rfl) ⟨Nat.le_of_ble_eq_true rfl, Nat.le_of_ble_eq_true rfl⟩ ⟨by show kc + 0 ≤ 601024; omega, by show kn + 0 ≤ 7293034; omega⟩ dL_law_675 (fun hq => by cases hq) ?_
  refine g_aload_n X dL_law_678 rfl 2 rfl ?_
  refine g_arg5 X hS 1 hN (by omega) rfl rfl dL_law_679 dL_law_680 dL_law_682 rfl dL_law_683 dL_law_684 ?_
  refine g_alk (q_lw_alk h'.C).1 ?_
  refine g_callV (rv := some (.int r)) (As := [.int (xs (q + 1))]) (rest := [.int r]) X ((c_X12_sign l K mm (xs (q + 1)) _ hm).lawM h'.C (fun _ hq => by cases hq) o) lk_L_70 (q_lw2_T h'.C) rfl rfl (Nat.le_of_ble_eq_true rfl) ⟨Nat.le_of_ble_eq_true rfl, Nat.le_of_ble_eq_true rfl⟩ ⟨by show (kc + 0) + 0 ≤ 601024; omega, by show (kn + 0) + 0 ≤ 7293034; omega⟩ dL_law_685 (fun hq => by cases hq) ?_
  refine g_alk (q_lw_alk h'.C).2 ?_
  refine g_icmpT X 1910 dL_law_688 rfl ?_
  refine g_widen (kc' := kc + 3) (kn' := kn + 97) (by show kc + 0 + 0 ≤ kc + 3; omega) (by show kn + 0 + 0 ≤ kn + 97; omega) ?_
  exact kk c n' M' m' o h'
set_option maxHeartbeats 2000000 in
set_option maxRecDepth 100000 in
theorem law_9 (X : q_X p s m #[Value.ref b] meth c0 K A ad 7 cL_law RL (some .boolean)) (hS : q_scr b N xs A ad s) (hN : N < 2147483648) (h : a_X c n mm M) (hq : q + 8 ≤ N) (hk : kc + 3 ≤ 601024) (hkn : kn + 97 ≤ 7293034) (kk : ∀ (c n : Nat → Nat) (M mm o : q_MM), a_X c n mm M → GG p l e room_1 s m #[Value.ref b] below meth c0 K A q_g0 ad true 7 (fun (_ : Unit) => lw_Z below #[Value.ref b] s) (some ()) 1910 [(0, .ref 960), (1, .ref 1), (2, .ref 5001), (3, .ref 6000), (4, .int (nI q))] [] (q_lw c M mm o) (kc + 3) (kn + 97)) : GG p l e room_1 s m #[Value.ref b] below meth c0 K A q_g0 ad true 7 (fun (_ : Unit) => lw_Z below #[Value.ref b] s) (some ()) 693 [(0, .ref 960), (1, .ref 1), (2, .ref 5001), (3, .ref 6000), (4, .int (nI q))] [] (q_lw c M mm o) kc kn := by
  obtain ⟨r, n', M', m', hx, hm, h'⟩ := pub_end h (xs (q + 1))
  refine g_aload_n X dL_law_693 rfl 1 rfl ?_
  refine g_arg5 X hS 1 hN (by omega) rfl rfl dL_law_694 dL_law_695 dL_law_697 rfl dL_law_698 dL_law_699 ?_
  refine g_callV (rv := some (.int r)) (As := [.int (xs (q + 1))]) (rest := []) X ((c_X11_end l K c M (xs (q + 1)) _ hx).lawX h.C h.C (fun _ hq => by cases hq) mm o) lk_L_71 rfl rfl rfl (Nat.le_of_ble_eq_true rfl) ⟨Nat.le_of_ble_eq_true rfl, Nat.le_of_ble_eq_true rfl⟩ ⟨by show kc + 0 ≤ 601024; omega, by show kn + 0 ≤ 7293034; omega⟩ dL_law_700 (fun hq => by cases hq) ?_
  refine g_aload_n X dL_law_703 rfl 2 rfl ?_
  refine g_arg5 X hS 1 hN (by omega) rfl rfl dL_law_704 dL_law_705 dL_law_707 rfl dL_law_708 dL_law_709 ?_
  refine g_alk (q_lw_alk h'.C).1 ?_
  refine g_callV (rv := some (.int r)) (As := [.int (xs (q + 1))]) (rest := [.int r]) X ((c_X12_end l K mm (xs (q + 1)) _ hm).lawM h'.C (fun _ hq => by cases hq) o) lk_L_75 (q_lw2_T h'.C) rfl rfl (Nat.le_of_ble_eq_true rfl) ⟨Nat.le_of_ble_eq_true rfl, Nat.le_of_ble_eq_true rfl⟩ ⟨by show (kc + 0) + 0 ≤ 601024; omega, by show (kn + 0) + 0 ≤ 7293034; omega⟩ dL_law_710 (fun hq => by cases hq) ?_
  refine g_alk (q_lw_alk h'.C).2 ?_
  refine g_icmpT X 1910 dL_law_713 rfl ?_
  refine g_widen (kc' := kc + 3) (kn' := kn + 97) (by show kc + 0 + 0 ≤ kc + 3; omega) (by show kn + 0 + 0 ≤ kn + 97; omega) ?_
  exact kk c n' M' m' o h'
end LawCases1
