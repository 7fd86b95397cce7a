/-! THE LAW: its cases -/
set_option maxHeartbeats 4000000 in
set_option maxRecDepth 100000 in
theorem lc_told {p : Program} {l : Launch} {e : Env} {s : State} {m : MethodId} {below : List Frame} {meth : Method} {c : Code} {g : sn_G} {tb : Nat → sn_K} {b L : Nat} {xs : Nat → Int32} (C : lc_C p l s m meth c g tb b L xs) {x3 : Int32} (h1 : vp_in (x3 + 1) L) (h2 : vp_in (x3 + 2) L) (h3 : vp_in (x3 + 3) L) (K : lc_K p l e s m below meth c g tb b x3) {st : sn_S} {H : Heap} {locs : List Loc} {ls : Array Slot} (hR : Ri st) (X : lc_X s g tb st H locs) (hl : lv_has ls 4 [(0, .ref b), (1, .ref (g.2.2.2 0)), (2, .ref (g.2.2.2 73)), (3, .int x3)]) : lc_W p l e s m below meth c b H locs (F0 m 319 ls []) := by
  obtain ⟨⟨hx, hb, hml, hown, hts⟩, hC, hi, hA, hT5, hT6, hX, hbl⟩ := id C
  obtain ⟨r, st1, st2, d1, d2, hR2⟩ := q_told hR (xs (x3 + 1).toNatClampNeg) (xs (x3 + 2).toNatClampNeg)
  refine lv_aload_n hx hb dL_law_319 rfl (lv_at hl 1 rfl) ?_
  refine lv_aload_n hx hb dL_law_320 rfl (lv_at hl 0 rfl) ?_
  refine lv_iload_n hx hb dL_law_321 rfl (lv_at hl 3 rfl) ?_
  refine lv_iconst (v := (1 : Int32)) hx hb dL_law_322 (by decide) ?_
  refine lv_iadd hx hb dL_law_323 ?_
  refine lc_ld C X h1 dL_law_324 ?_
  refine lv_aload_n hx hb dL_law_325 rfl (lv_at hl 0 rfl) ?_
  refine lv_iload_n hx hb dL_law_326 rfl (lv_at hl 3 rfl) ?_
  refine lv_iconst (v := (2 : Int32)) hx hb dL_law_327 (by decide) ?_
  refine lv_iadd hx hb dL_law_328 ?_
  refine lc_ld C X h2 dL_law_329 ?_
  refine lc_Vi (ci := 4) (q := 0) (rest := []) (As := [.int (xs (x3 + 1).toNatClampNeg), .int (xs (x3 + 2).toNatClampNeg)]) C (c_X5_told (l := l) hi hT5 d1) (cwV 2 hts gL_law_X5_told rfl rfl rfl (by decide +kernel) ⟨Nat.le_of_ble_eq_true rfl, Nat.le_of_ble_eq_true rfl⟩) X (by decide) hT5.2.1 rfl rfl hl.1 rfl (Nat.le_of_ble_eq_true rfl) dL_law_330 (fun H locs X => ?_)
  refine lv_aload_n hx hb dL_law_333 rfl (lv_at hl 2 rfl) ?_
  refine lv_aload_n hx hb dL_law_334 rfl (lv_at hl 0 rfl) ?_
  refine lv_iload_n hx hb dL_law_335 rfl (lv_at hl 3 rfl) ?_
  refine lv_iconst (v := (1 : Int32)) hx hb dL_law_336 (by decide) ?_
  refine lv_iadd hx hb dL_law_337 ?_
  refine lc_ld C X h1 dL_law_338 ?_
  refine lv_aload_n hx hb dL_law_339 rfl (lv_at hl 0 rfl) ?_
  refine lv_iload_n hx hb dL_law_340 rfl (lv_at hl 3 rfl) ?_
  refine lv_iconst (v := (2 : Int32)) hx hb dL_law_341 (by decide) ?_
  refine lv_iadd hx hb dL_law_342 ?_
  refine lc_ld C X h2 dL_law_343 ?_
  refine lc_Vi (ci := 5) (q := 73) (rest := [.int r]) (As := [.int (xs (x3 + 1).toNatClampNeg), .int (xs (x3 + 2).toNatClampNeg)]) C (c_X6_told (l := l) hi hT6 d2) (cwV 2 hts gL_law_X6_told rfl rfl rfl (by decide +kernel) ⟨Nat.le_of_ble_eq_true rfl, Nat.le_of_ble_eq_true rfl⟩) X (by decide) hT6.2.1 rfl rfl hl.1 rfl (Nat.le_of_ble_eq_true rfl) dL_law_344 (fun H locs X => ?_)
  exact lv_icmp_eq (tgt := 770) hx hb dL_law_347 (by decide) (fun _ => K _ H locs ls hR2 X hl) (fun h => absurd rfl h)
set_option maxHeartbeats 4000000 in
set_option maxRecDepth 100000 in
theorem lc_seen {p : Program} {l : Launch} {e : Env} {s : State} {m : MethodId} {below : List Frame} {meth : Method} {c : Code} {g : sn_G} {tb : Nat → sn_K} {b L : Nat} {xs : Nat → Int32} (C : lc_C p l s m meth c g tb b L xs) {x3 : Int32} (h1 : vp_in (x3 + 1) L) (h2 : vp_in (x3 + 2) L) (h3 : vp_in (x3 + 3) L) (K : lc_K p l e s m below meth c g tb b x3) {st : sn_S} {H : Heap} {locs : List Loc} {ls : Array Slot} (hR : Ri st) (X : lc_X s g tb st H locs) (hl : lv_has ls 4 [(0, .ref b), (1, .ref (g.2.2.2 0)), (2, .ref (g.2.2.2 73)), (3, .int x3)]) : lc_W p l e s m below meth c b H locs (F0 m 352 ls []) := by
  obtain ⟨⟨hx, hb, hml, hown, hts⟩, hC, hi, hA, hT5, hT6, hX, hbl⟩ := id C
  obtain ⟨r, d1, d2⟩ := q_seen hR
  refine lv_aload_n hx hb dL_law_352 rfl (lv_at hl 1 rfl) ?_
  refine lc_Vi (ci := 4) (q := 0) (rest := []) (As := []) C (c_X5_seen (l := l) hi hT5 d1) (cwV 0 hts gL_law_X5_seen rfl rfl rfl (by decide +kernel) ⟨Nat.le_of_ble_eq_true rfl, Nat.le_of_ble_eq_true rfl⟩) X (by decide) hT5.2.1 rfl rfl hl.1 rfl (Nat.le_of_ble_eq_true rfl) dL_law_353 (fun H locs X => ?_)
  refine lv_aload_n hx hb dL_law_356 rfl (lv_at hl 2 rfl) ?_
  refine lc_Vi (ci := 5) (q := 73) (rest := [.int r]) (As := []) C (c_X6_seen (l := l) hi hT6 d2) (cwV 0 hts gL_law_X6_seen rfl rfl rfl (by decide +kernel) ⟨Nat.le_of_ble_eq_true rfl, Nat.le_of_ble_eq_true rfl⟩) X (by decide) hT6.2.1 rfl rfl hl.1 rfl (Nat.le_of_ble_eq_true rfl) dL_law_357 (fun H locs X => ?_)
  exact lv_icmp_eq (tgt := 770) hx hb dL_law_360 (by decide) (fun _ => K _ H locs ls hR X hl) (fun h => absurd rfl h)
set_option maxHeartbeats 4000000 in
set_option maxRecDepth 100000 in
theorem lc_neighbour {p : Program} {l : Launch} {e : Env} {s : State} {m : MethodId} {below : List Frame} {meth : Method} {c : Code} {g : sn_G} {tb : Nat → sn_K} {b L : Nat} {xs : Nat → Int32} (C : lc_C p l s m meth c g tb b L xs) {x3 : Int32} (h1 : vp_in (x3 + 1) L) (h2 : vp_in (x3 + 2) L) (h3 : vp_in (x3 + 3) L) (K : lc_K p l e s m below meth c g tb b x3) {st : sn_S} {H : Heap} {locs : List Loc} {ls : Array Slot} (hR : Ri st) (X : lc_X s g tb st H locs) (hl : lv_has ls 4 [(0, .ref b), (1, .ref (g.2.2.2 0)), (2, .ref (g.2.2.2 73)), (3, .int x3)]) : lc_W p l e s m below meth c b H locs (F0 m 365 ls []) := by
  obtain ⟨⟨hx, hb, hml, hown, hts⟩, hC, hi, hA, hT5, hT6, hX, hbl⟩ := id C
  obtain ⟨r, d1, d2⟩ := q_neighbour hR (xs (x3 + 1).toNatClampNeg) (xs (x3 + 2).toNatClampNeg)
  refine lv_aload_n hx hb dL_law_365 rfl (lv_at hl 1 rfl) ?_
  refine lv_aload_n hx hb dL_law_366 rfl (lv_at hl 0 rfl) ?_
  refine lv_iload_n hx hb dL_law_367 rfl (lv_at hl 3 rfl) ?_
  refine lv_iconst (v := (1 : Int32)) hx hb dL_law_368 (by decide) ?_
  refine lv_iadd hx hb dL_law_369 ?_
  refine lc_ld C X h1 dL_law_370 ?_
  refine lv_aload_n hx hb dL_law_371 rfl (lv_at hl 0 rfl) ?_
  refine lv_iload_n hx hb dL_law_372 rfl (lv_at hl 3 rfl) ?_
  refine lv_iconst (v := (2 : Int32)) hx hb dL_law_373 (by decide) ?_
  refine lv_iadd hx hb dL_law_374 ?_
  refine lc_ld C X h2 dL_law_375 ?_
  refine lc_Vi (ci := 4) (q := 0) (rest := []) (As := [.int (xs (x3 + 1).toNatClampNeg), .int (xs (x3 + 2).toNatClampNeg)]) C (c_X5_neighbour (l := l) hi hT5 d1) (cwV 2 hts gL_law_X5_neighbour rfl rfl rfl (by decide +kernel) ⟨Nat.le_of_ble_eq_true rfl, Nat.le_of_ble_eq_true rfl⟩) X (by decide) hT5.2.1 rfl rfl hl.1 rfl (Nat.le_of_ble_eq_true rfl) dL_law_376 (fun H locs X => ?_)
  refine lv_aload_n hx hb dL_law_379 rfl (lv_at hl 2 rfl) ?_
  refine lv_aload_n hx hb dL_law_380 rfl (lv_at hl 0 rfl) ?_
  refine lv_iload_n hx hb dL_law_381 rfl (lv_at hl 3 rfl) ?_
  refine lv_iconst (v := (1 : Int32)) hx hb dL_law_382 (by decide) ?_
  refine lv_iadd hx hb dL_law_383 ?_
  refine lc_ld C X h1 dL_law_384 ?_
  refine lv_aload_n hx hb dL_law_385 rfl (lv_at hl 0 rfl) ?_
  refine lv_iload_n hx hb dL_law_386 rfl (lv_at hl 3 rfl) ?_
  refine lv_iconst (v := (2 : Int32)) hx hb dL_law_387 (by decide) ?_
  refine lv_iadd hx hb dL_law_388 ?_
  refine lc_ld C X h2 dL_law_389 ?_
  refine lc_Vi (ci := 5) (q := 73) (rest := [.int r]) (As := [.int (xs (x3 + 1).toNatClampNeg), .int (xs (x3 + 2).toNatClampNeg)]) C (c_X6_neighbour (l := l) hi hT6 d2) (cwV 2 hts gL_law_X6_neighbour rfl rfl rfl (by decide +kernel) ⟨Nat.le_of_ble_eq_true rfl, Nat.le_of_ble_eq_true rfl⟩) X (by decide) hT6.2.1 rfl rfl hl.1 rfl (Nat.le_of_ble_eq_true rfl) dL_law_390 (fun H locs X => ?_)
  exact lv_icmp_eq (tgt := 770) hx hb dL_law_393 (by decide) (fun _ => K _ H locs ls hR X hl) (fun h => absurd rfl h)
set_option maxHeartbeats 4000000 in
set_option maxRecDepth 100000 in
theorem lc_child {p : Program} {l : Launch} {e : Env} {s : State} {m : MethodId} {below : List Frame} {meth : Method} {c : Code} {g : sn_G} {tb : Nat → sn_K} {b L : Nat} {xs : Nat → Int32} (C : lc_C p l s m meth c g tb b L xs) {x3 : Int32} (h1 : vp_in (x3 + 1) L) (h2 : vp_in (x3 + 2) L) (h3 : vp_in (x3 + 3) L) (K : lc_K p l e s m below meth c g tb b x3) {st : sn_S} {H : Heap} {locs : List Loc} {ls : Array Slot} (hR : Ri st) (X : lc_X s g tb st H locs) (hl : lv_has ls 4 [(0, .ref b), (1, .ref (g.2.2.2 0)), (2, .ref (g.2.2.2 73)), (3, .int x3)]) : lc_W p l e s m below meth c b H locs (F0 m 398 ls []) := by
  obtain ⟨⟨hx, hb, hml, hown, hts⟩, hC, hi, hA, hT5, hT6, hX, hbl⟩ := id C
  obtain ⟨r, d1, d2⟩ := q_child hR (xs (x3 + 1).toNatClampNeg) (xs (x3 + 2).toNatClampNeg)
  refine lv_aload_n hx hb dL_law_398 rfl (lv_at hl 1 rfl) ?_
  refine lv_aload_n hx hb dL_law_399 rfl (lv_at hl 0 rfl) ?_
  refine lv_iload_n hx hb dL_law_400 rfl (lv_at hl 3 rfl) ?_
  refine lv_iconst (v := (1 : Int32)) hx hb dL_law_401 (by decide) ?_
  refine lv_iadd hx hb dL_law_402 ?_
  refine lc_ld C X h1 dL_law_403 ?_
  refine lv_aload_n hx hb dL_law_404 rfl (lv_at hl 0 rfl) ?_
  refine lv_iload_n hx hb dL_law_405 rfl (lv_at hl 3 rfl) ?_
  refine lv_iconst (v := (2 : Int32)) hx hb dL_law_406 (by decide) ?_
  refine lv_iadd hx hb dL_law_407 ?_
  refine lc_ld C X h2 dL_law_408 ?_
  refine lc_Vi (ci := 4) (q := 0) (rest := []) (As := [.int (xs (x3 + 1).toNatClampNeg), .int (xs (x3 + 2).toNatClampNeg)]) C (c_X5_child (l := l) hi hT5 d1) (cwV 2 hts gL_law_X5_child rfl rfl rfl (by decide +kernel) ⟨Nat.le_of_ble_eq_true rfl, Nat.le_of_ble_eq_true rfl⟩) X (by decide) hT5.2.1 rfl rfl hl.1 rfl (Nat.le_of_ble_eq_true rfl) dL_law_409 (fun H locs X => ?_)
  refine lv_aload_n hx hb dL_law_412 rfl (lv_at hl 2 rfl) ?_
  refine lv_aload_n hx hb dL_law_413 rfl (lv_at hl 0 rfl) ?_
  refine lv_iload_n hx hb dL_law_414 rfl (lv_at hl 3 rfl) ?_
  refine lv_iconst (v := (1 : Int32)) hx hb dL_law_415 (by decide) ?_
  refine lv_iadd hx hb dL_law_416 ?_
  refine lc_ld C X h1 dL_law_417 ?_
  refine lv_aload_n hx hb dL_law_418 rfl (lv_at hl 0 rfl) ?_
  refine lv_iload_n hx hb dL_law_419 rfl (lv_at hl 3 rfl) ?_
  refine lv_iconst (v := (2 : Int32)) hx hb dL_law_420 (by decide) ?_
  refine lv_iadd hx hb dL_law_421 ?_
  refine lc_ld C X h2 dL_law_422 ?_
  refine lc_Vi (ci := 5) (q := 73) (rest := [.int r]) (As := [.int (xs (x3 + 1).toNatClampNeg), .int (xs (x3 + 2).toNatClampNeg)]) C (c_X6_child (l := l) hi hT6 d2) (cwV 2 hts gL_law_X6_child rfl rfl rfl (by decide +kernel) ⟨Nat.le_of_ble_eq_true rfl, Nat.le_of_ble_eq_true rfl⟩) X (by decide) hT6.2.1 rfl rfl hl.1 rfl (Nat.le_of_ble_eq_true rfl) dL_law_423 (fun H locs X => ?_)
  exact lv_icmp_eq (tgt := 770) hx hb dL_law_426 (by decide) (fun _ => K _ H locs ls hR X hl) (fun h => absurd rfl h)
set_option maxHeartbeats 4000000 in
set_option maxRecDepth 100000 in
theorem lc_enabled {p : Program} {l : Launch} {e : Env} {s : State} {m : MethodId} {below : List Frame} {meth : Method} {c : Code} {g : sn_G} {tb : Nat → sn_K} {b L : Nat} {xs : Nat → Int32} (C : lc_C p l s m meth c g tb b L xs) {x3 : Int32} (h1 : vp_in (x3 + 1) L) (h2 : vp_in (x3 + 2) L) (h3 : vp_in (x3 + 3) L) (K : lc_K p l e s m below meth c g tb b x3) {st : sn_S} {H : Heap} {locs : List Loc} {ls : Array Slot} (hR : Ri st) (X : lc_X s g tb st H locs) (hl : lv_has ls 4 [(0, .ref b), (1, .ref (g.2.2.2 0)), (2, .ref (g.2.2.2 73)), (3, .int x3)]) : lc_W p l e s m below meth c b H locs (F0 m 431 ls []) := by
  obtain ⟨⟨hx, hb, hml, hown, hts⟩, hC, hi, hA, hT5, hT6, hX, hbl⟩ := id C
  obtain ⟨r, d1, d2⟩ := q_enabled hR (xs (x3 + 1).toNatClampNeg)
  refine lv_aload_n hx hb dL_law_431 rfl (lv_at hl 1 rfl) ?_
  refine lv_aload_n hx hb dL_law_432 rfl (lv_at hl 0 rfl) ?_
  refine lv_iload_n hx hb dL_law_433 rfl (lv_at hl 3 rfl) ?_
  refine lv_iconst (v := (1 : Int32)) hx hb dL_law_434 (by decide) ?_
  refine lv_iadd hx hb dL_law_435 ?_
  refine lc_ld C X h1 dL_law_436 ?_
  refine lc_Vi (ci := 4) (q := 0) (rest := []) (As := [.int (xs (x3 + 1).toNatClampNeg)]) C (c_X5_enabled (l := l) hi hT5 d1) (cwV 1 hts gL_law_X5_enabled rfl rfl rfl (by decide +kernel) ⟨Nat.le_of_ble_eq_true rfl, Nat.le_of_ble_eq_true rfl⟩) X (by decide) hT5.2.1 rfl rfl hl.1 rfl (Nat.le_of_ble_eq_true rfl) dL_law_437 (fun H locs X => ?_)
  refine lv_aload_n hx hb dL_law_440 rfl (lv_at hl 2 rfl) ?_
  refine lv_aload_n hx hb dL_law_441 rfl (lv_at hl 0 rfl) ?_
  refine lv_iload_n hx hb dL_law_442 rfl (lv_at hl 3 rfl) ?_
  refine lv_iconst (v := (1 : Int32)) hx hb dL_law_443 (by decide) ?_
  refine lv_iadd hx hb dL_law_444 ?_
  refine lc_ld C X h1 dL_law_445 ?_
  refine lc_Vi (ci := 5) (q := 73) (rest := [.int r]) (As := [.int (xs (x3 + 1).toNatClampNeg)]) C (c_X6_enabled (l := l) hi hT6 d2) (cwV 1 hts gL_law_X6_enabled rfl rfl rfl (by decide +kernel) ⟨Nat.le_of_ble_eq_true rfl, Nat.le_of_ble_eq_true rfl⟩) X (by decide) hT6.2.1 rfl rfl hl.1 rfl (Nat.le_of_ble_eq_true rfl) dL_law_446 (fun H locs X => ?_)
  exact lv_icmp_eq (tgt := 770) hx hb dL_law_449 (by decide) (fun _ => K _ H locs ls hR X hl) (fun h => absurd rfl h)
