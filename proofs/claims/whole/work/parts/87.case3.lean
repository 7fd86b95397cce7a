/-! THE LAW: its cases -/
set_option maxHeartbeats 4000000 in
set_option maxRecDepth 100000 in
theorem lc_rights {p : Program} {l : Launch} {e : Env} {s : State} {m : MethodId} {below : List Frame} {meth : Method} {c : Code} {g : sn_G} {tb : Nat → sn_K} {b L : Nat} {xs : Nat → Int32} (C : lc_C p l s m meth c g tb b L xs) {x3 : Int32} (h1 : vp_in (x3 + 1) L) (h2 : vp_in (x3 + 2) L) (h3 : vp_in (x3 + 3) L) (K : lc_K p l e s m below meth c g tb b x3) {st : sn_S} {H : Heap} {locs : List Loc} {ls : Array Slot} (hR : Ri st) (X : lc_X s g tb st H locs) (hl : lv_has ls 4 [(0, .ref b), (1, .ref (g.2.2.2 0)), (2, .ref (g.2.2.2 73)), (3, .int x3)]) : lc_W p l e s m below meth c b H locs (F0 m 454 ls []) := by
  obtain ⟨⟨hx, hb, hml, hown, hts⟩, hC, hi, hA, hT5, hT6, hX, hbl⟩ := id C
  obtain ⟨r, d1, d2⟩ := q_rights hR
  refine lv_aload_n hx hb dL_law_454 rfl (lv_at hl 1 rfl) ?_
  refine lc_Vi (ci := 4) (q := 0) (rest := []) (As := []) C (c_X5_rights (l := l) hi hT5 d1) (cwV 0 hts gL_law_X5_rights rfl rfl rfl (by decide +kernel) ⟨Nat.le_of_ble_eq_true rfl, Nat.le_of_ble_eq_true rfl⟩) X (by decide) hT5.2.1 rfl rfl hl.1 rfl (Nat.le_of_ble_eq_true rfl) dL_law_455 (fun H locs X => ?_)
  refine lv_aload_n hx hb dL_law_458 rfl (lv_at hl 2 rfl) ?_
  refine lc_Vi (ci := 5) (q := 73) (rest := [.int r]) (As := []) C (c_X6_rights (l := l) hi hT6 d2) (cwV 0 hts gL_law_X6_rights rfl rfl rfl (by decide +kernel) ⟨Nat.le_of_ble_eq_true rfl, Nat.le_of_ble_eq_true rfl⟩) X (by decide) hT6.2.1 rfl rfl hl.1 rfl (Nat.le_of_ble_eq_true rfl) dL_law_459 (fun H locs X => ?_)
  exact lv_icmp_eq (tgt := 770) hx hb dL_law_462 (by decide) (fun _ => K _ H locs ls hR X hl) (fun h => absurd rfl h)
set_option maxHeartbeats 4000000 in
set_option maxRecDepth 100000 in
theorem lc_holder {p : Program} {l : Launch} {e : Env} {s : State} {m : MethodId} {below : List Frame} {meth : Method} {c : Code} {g : sn_G} {tb : Nat → sn_K} {b L : Nat} {xs : Nat → Int32} (C : lc_C p l s m meth c g tb b L xs) {x3 : Int32} (h1 : vp_in (x3 + 1) L) (h2 : vp_in (x3 + 2) L) (h3 : vp_in (x3 + 3) L) (K : lc_K p l e s m below meth c g tb b x3) {st : sn_S} {H : Heap} {locs : List Loc} {ls : Array Slot} (hR : Ri st) (X : lc_X s g tb st H locs) (hl : lv_has ls 4 [(0, .ref b), (1, .ref (g.2.2.2 0)), (2, .ref (g.2.2.2 73)), (3, .int x3)]) : lc_W p l e s m below meth c b H locs (F0 m 467 ls []) := by
  obtain ⟨⟨hx, hb, hml, hown, hts⟩, hC, hi, hA, hT5, hT6, hX, hbl⟩ := id C
  obtain ⟨r, d1, d2⟩ := q_holder hR (xs (x3 + 1).toNatClampNeg)
  refine lv_aload_n hx hb dL_law_467 rfl (lv_at hl 1 rfl) ?_
  refine lv_aload_n hx hb dL_law_468 rfl (lv_at hl 0 rfl) ?_
  refine lv_iload_n hx hb dL_law_469 rfl (lv_at hl 3 rfl) ?_
  refine lv_iconst (v := (1 : Int32)) hx hb dL_law_470 (by decide) ?_
  refine lv_iadd hx hb dL_law_471 ?_
  refine lc_ld C X h1 dL_law_472 ?_
  refine lc_Vi (ci := 4) (q := 0) (rest := []) (As := [.int (xs (x3 + 1).toNatClampNeg)]) C (c_X5_holder (l := l) hi hT5 d1) (cwV 1 hts gL_law_X5_holder rfl rfl rfl (by decide +kernel) ⟨Nat.le_of_ble_eq_true rfl, Nat.le_of_ble_eq_true rfl⟩) X (by decide) hT5.2.1 rfl rfl hl.1 rfl (Nat.le_of_ble_eq_true rfl) dL_law_473 (fun H locs X => ?_)
  refine lv_aload_n hx hb dL_law_476 rfl (lv_at hl 2 rfl) ?_
  refine lv_aload_n hx hb dL_law_477 rfl (lv_at hl 0 rfl) ?_
  refine lv_iload_n hx hb dL_law_478 rfl (lv_at hl 3 rfl) ?_
  refine lv_iconst (v := (1 : Int32)) hx hb dL_law_479 (by decide) ?_
  refine lv_iadd hx hb dL_law_480 ?_
  refine lc_ld C X h1 dL_law_481 ?_
  refine lc_Vi (ci := 5) (q := 73) (rest := [.int r]) (As := [.int (xs (x3 + 1).toNatClampNeg)]) C (c_X6_holder (l := l) hi hT6 d2) (cwV 1 hts gL_law_X6_holder rfl rfl rfl (by decide +kernel) ⟨Nat.le_of_ble_eq_true rfl, Nat.le_of_ble_eq_true rfl⟩) X (by decide) hT6.2.1 rfl rfl hl.1 rfl (Nat.le_of_ble_eq_true rfl) dL_law_482 (fun H locs X => ?_)
  exact lv_icmp_eq (tgt := 770) hx hb dL_law_485 (by decide) (fun _ => K _ H locs ls hR X hl) (fun h => absurd rfl h)
set_option maxHeartbeats 4000000 in
set_option maxRecDepth 100000 in
theorem lc_next {p : Program} {l : Launch} {e : Env} {s : State} {m : MethodId} {below : List Frame} {meth : Method} {c : Code} {g : sn_G} {tb : Nat → sn_K} {b L : Nat} {xs : Nat → Int32} (C : lc_C p l s m meth c g tb b L xs) {x3 : Int32} (h1 : vp_in (x3 + 1) L) (h2 : vp_in (x3 + 2) L) (h3 : vp_in (x3 + 3) L) (K : lc_K p l e s m below meth c g tb b x3) {st : sn_S} {H : Heap} {locs : List Loc} {ls : Array Slot} (hR : Ri st) (X : lc_X s g tb st H locs) (hl : lv_has ls 4 [(0, .ref b), (1, .ref (g.2.2.2 0)), (2, .ref (g.2.2.2 73)), (3, .int x3)]) : lc_W p l e s m below meth c b H locs (F0 m 490 ls []) := by
  obtain ⟨⟨hx, hb, hml, hown, hts⟩, hC, hi, hA, hT5, hT6, hX, hbl⟩ := id C
  obtain ⟨r, d1, d2⟩ := q_next hR (xs (x3 + 1).toNatClampNeg) (xs (x3 + 2).toNatClampNeg)
  refine lv_aload_n hx hb dL_law_490 rfl (lv_at hl 1 rfl) ?_
  refine lv_aload_n hx hb dL_law_491 rfl (lv_at hl 0 rfl) ?_
  refine lv_iload_n hx hb dL_law_492 rfl (lv_at hl 3 rfl) ?_
  refine lv_iconst (v := (1 : Int32)) hx hb dL_law_493 (by decide) ?_
  refine lv_iadd hx hb dL_law_494 ?_
  refine lc_ld C X h1 dL_law_495 ?_
  refine lv_aload_n hx hb dL_law_496 rfl (lv_at hl 0 rfl) ?_
  refine lv_iload_n hx hb dL_law_497 rfl (lv_at hl 3 rfl) ?_
  refine lv_iconst (v := (2 : Int32)) hx hb dL_law_498 (by decide) ?_
  refine lv_iadd hx hb dL_law_499 ?_
  refine lc_ld C X h2 dL_law_500 ?_
  refine lc_Vi (ci := 4) (q := 0) (rest := []) (As := [.int (xs (x3 + 1).toNatClampNeg), .int (xs (x3 + 2).toNatClampNeg)]) C (c_X5_next (l := l) hi hT5 d1) (cwV 2 hts gL_law_X5_next rfl rfl rfl (by decide +kernel) ⟨Nat.le_of_ble_eq_true rfl, Nat.le_of_ble_eq_true rfl⟩) X (by decide) hT5.2.1 rfl rfl hl.1 rfl (Nat.le_of_ble_eq_true rfl) dL_law_501 (fun H locs X => ?_)
  refine lv_aload_n hx hb dL_law_504 rfl (lv_at hl 2 rfl) ?_
  refine lv_aload_n hx hb dL_law_505 rfl (lv_at hl 0 rfl) ?_
  refine lv_iload_n hx hb dL_law_506 rfl (lv_at hl 3 rfl) ?_
  refine lv_iconst (v := (1 : Int32)) hx hb dL_law_507 (by decide) ?_
  refine lv_iadd hx hb dL_law_508 ?_
  refine lc_ld C X h1 dL_law_509 ?_
  refine lv_aload_n hx hb dL_law_510 rfl (lv_at hl 0 rfl) ?_
  refine lv_iload_n hx hb dL_law_511 rfl (lv_at hl 3 rfl) ?_
  refine lv_iconst (v := (2 : Int32)) hx hb dL_law_512 (by decide) ?_
  refine lv_iadd hx hb dL_law_513 ?_
  refine lc_ld C X h2 dL_law_514 ?_
  refine lc_Vi (ci := 5) (q := 73) (rest := [.int r]) (As := [.int (xs (x3 + 1).toNatClampNeg), .int (xs (x3 + 2).toNatClampNeg)]) C (c_X6_next (l := l) hi hT6 d2) (cwV 2 hts gL_law_X6_next rfl rfl rfl (by decide +kernel) ⟨Nat.le_of_ble_eq_true rfl, Nat.le_of_ble_eq_true rfl⟩) X (by decide) hT6.2.1 rfl rfl hl.1 rfl (Nat.le_of_ble_eq_true rfl) dL_law_515 (fun H locs X => ?_)
  exact lv_icmp_eq (tgt := 770) hx hb dL_law_518 (by decide) (fun _ => K _ H locs ls hR X hl) (fun h => absurd rfl h)
set_option maxHeartbeats 4000000 in
set_option maxRecDepth 100000 in
theorem lc_step {p : Program} {l : Launch} {e : Env} {s : State} {m : MethodId} {below : List Frame} {meth : Method} {c : Code} {g : sn_G} {tb : Nat → sn_K} {b L : Nat} {xs : Nat → Int32} (C : lc_C p l s m meth c g tb b L xs) {x3 : Int32} (h1 : vp_in (x3 + 1) L) (h2 : vp_in (x3 + 2) L) (h3 : vp_in (x3 + 3) L) (K : lc_K p l e s m below meth c g tb b x3) {st : sn_S} {H : Heap} {locs : List Loc} {ls : Array Slot} (hR : Ri st) (X : lc_X s g tb st H locs) (hl : lv_has ls 4 [(0, .ref b), (1, .ref (g.2.2.2 0)), (2, .ref (g.2.2.2 73)), (3, .int x3)]) : lc_W p l e s m below meth c b H locs (F0 m 523 ls []) := by
  obtain ⟨⟨hx, hb, hml, hown, hts⟩, hC, hi, hA, hT5, hT6, hX, hbl⟩ := id C
  obtain ⟨r, st1, st2, d1, d2, hR2⟩ := q_step hR (xs (x3 + 1).toNatClampNeg)
  refine lv_aload_n hx hb dL_law_523 rfl (lv_at hl 1 rfl) ?_
  refine lv_aload_n hx hb dL_law_524 rfl (lv_at hl 0 rfl) ?_
  refine lv_iload_n hx hb dL_law_525 rfl (lv_at hl 3 rfl) ?_
  refine lv_iconst (v := (1 : Int32)) hx hb dL_law_526 (by decide) ?_
  refine lv_iadd hx hb dL_law_527 ?_
  refine lc_ld C X h1 dL_law_528 ?_
  refine lc_Vi (ci := 4) (q := 0) (rest := []) (As := [.int (xs (x3 + 1).toNatClampNeg)]) C (c_X5_step (l := l) hi hT5 d1) (cwV 1 hts gL_law_X5_step rfl rfl rfl (by decide +kernel) ⟨Nat.le_of_ble_eq_true rfl, Nat.le_of_ble_eq_true rfl⟩) X (by decide) hT5.2.1 rfl rfl hl.1 rfl (Nat.le_of_ble_eq_true rfl) dL_law_529 (fun H locs X => ?_)
  refine lv_aload_n hx hb dL_law_532 rfl (lv_at hl 2 rfl) ?_
  refine lv_aload_n hx hb dL_law_533 rfl (lv_at hl 0 rfl) ?_
  refine lv_iload_n hx hb dL_law_534 rfl (lv_at hl 3 rfl) ?_
  refine lv_iconst (v := (1 : Int32)) hx hb dL_law_535 (by decide) ?_
  refine lv_iadd hx hb dL_law_536 ?_
  refine lc_ld C X h1 dL_law_537 ?_
  refine lc_Vi (ci := 5) (q := 73) (rest := [.int r]) (As := [.int (xs (x3 + 1).toNatClampNeg)]) C (c_X6_step (l := l) hi hT6 d2) (cwV 1 hts gL_law_X6_step rfl rfl rfl (by decide +kernel) ⟨Nat.le_of_ble_eq_true rfl, Nat.le_of_ble_eq_true rfl⟩) X (by decide) hT6.2.1 rfl rfl hl.1 rfl (Nat.le_of_ble_eq_true rfl) dL_law_538 (fun H locs X => ?_)
  exact lv_icmp_eq (tgt := 770) hx hb dL_law_541 (by decide) (fun _ => K _ H locs ls hR2 X hl) (fun h => absurd rfl h)
set_option maxHeartbeats 4000000 in
set_option maxRecDepth 100000 in
theorem lc_run {p : Program} {l : Launch} {e : Env} {s : State} {m : MethodId} {below : List Frame} {meth : Method} {c : Code} {g : sn_G} {tb : Nat → sn_K} {b L : Nat} {xs : Nat → Int32} (C : lc_C p l s m meth c g tb b L xs) {x3 : Int32} (h1 : vp_in (x3 + 1) L) (h2 : vp_in (x3 + 2) L) (h3 : vp_in (x3 + 3) L) (K : lc_K p l e s m below meth c g tb b x3) {st : sn_S} {H : Heap} {locs : List Loc} {ls : Array Slot} (hR : Ri st) (X : lc_X s g tb st H locs) (hl : lv_has ls 4 [(0, .ref b), (1, .ref (g.2.2.2 0)), (2, .ref (g.2.2.2 73)), (3, .int x3)]) : lc_W p l e s m below meth c b H locs (F0 m 546 ls []) := by
  obtain ⟨⟨hx, hb, hml, hown, hts⟩, hC, hi, hA, hT5, hT6, hX, hbl⟩ := id C
  obtain ⟨r, st1, st2, d1, d2, hR2⟩ := q_run hR (xs (x3 + 1).toNatClampNeg) (xs (x3 + 2).toNatClampNeg)
  refine lv_aload_n hx hb dL_law_546 rfl (lv_at hl 1 rfl) ?_
  refine lv_aload_n hx hb dL_law_547 rfl (lv_at hl 0 rfl) ?_
  refine lv_iload_n hx hb dL_law_548 rfl (lv_at hl 3 rfl) ?_
  refine lv_iconst (v := (1 : Int32)) hx hb dL_law_549 (by decide) ?_
  refine lv_iadd hx hb dL_law_550 ?_
  refine lc_ld C X h1 dL_law_551 ?_
  refine lv_aload_n hx hb dL_law_552 rfl (lv_at hl 0 rfl) ?_
  refine lv_iload_n hx hb dL_law_553 rfl (lv_at hl 3 rfl) ?_
  refine lv_iconst (v := (2 : Int32)) hx hb dL_law_554 (by decide) ?_
  refine lv_iadd hx hb dL_law_555 ?_
  refine lc_ld C X h2 dL_law_556 ?_
  refine lc_Vi (ci := 4) (q := 0) (rest := []) (As := [.int (xs (x3 + 1).toNatClampNeg), .int (xs (x3 + 2).toNatClampNeg)]) C (c_X5_run (l := l) hi hT5 d1) (cwV 2 hts gL_law_X5_run rfl rfl rfl (by decide +kernel) ⟨Nat.le_of_ble_eq_true rfl, Nat.le_of_ble_eq_true rfl⟩) X (by decide) hT5.2.1 rfl rfl hl.1 rfl (Nat.le_of_ble_eq_true rfl) dL_law_557 (fun H locs X => ?_)
  refine lv_aload_n hx hb dL_law_560 rfl (lv_at hl 2 rfl) ?_
  refine lv_aload_n hx hb dL_law_561 rfl (lv_at hl 0 rfl) ?_
  refine lv_iload_n hx hb dL_law_562 rfl (lv_at hl 3 rfl) ?_
  refine lv_iconst (v := (1 : Int32)) hx hb dL_law_563 (by decide) ?_
  refine lv_iadd hx hb dL_law_564 ?_
  refine lc_ld C X h1 dL_law_565 ?_
  refine lv_aload_n hx hb dL_law_566 rfl (lv_at hl 0 rfl) ?_
  refine lv_iload_n hx hb dL_law_567 rfl (lv_at hl 3 rfl) ?_
  refine lv_iconst (v := (2 : Int32)) hx hb dL_law_568 (by decide) ?_
  refine lv_iadd hx hb dL_law_569 ?_
  refine lc_ld C X h2 dL_law_570 ?_
  refine lc_Vi (ci := 5) (q := 73) (rest := [.int r]) (As := [.int (xs (x3 + 1).toNatClampNeg), .int (xs (x3 + 2).toNatClampNeg)]) C (c_X6_run (l := l) hi hT6 d2) (cwV 2 hts gL_law_X6_run rfl rfl rfl (by decide +kernel) ⟨Nat.le_of_ble_eq_true rfl, Nat.le_of_ble_eq_true rfl⟩) X (by decide) hT6.2.1 rfl rfl hl.1 rfl (Nat.le_of_ble_eq_true rfl) dL_law_571 (fun H locs X => ?_)
  exact lv_icmp_eq (tgt := 770) hx hb dL_law_574 (by decide) (fun _ => K _ H locs ls hR2 X hl) (fun h => absurd rfl h)
