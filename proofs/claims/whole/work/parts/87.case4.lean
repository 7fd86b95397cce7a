/-! THE LAW: its cases -/
set_option maxHeartbeats 4000000 in
set_option maxRecDepth 100000 in
theorem lc_dice {p : Program} {l : Launch} {e : Env} {s : State} {m : MethodId} {below : List Frame} {meth : Method} {c : Code} {g : sn_G} {tb : Nat → sn_K} {b L : Nat} {xs : Nat → Int32} (C : lc_C p l s m meth c g tb b L xs) {x3 : Int32} (h1 : vp_in (x3 + 1) L) (h2 : vp_in (x3 + 2) L) (h3 : vp_in (x3 + 3) L) (K : lc_K p l e s m below meth c g tb b x3) {st : sn_S} {H : Heap} {locs : List Loc} {ls : Array Slot} (hR : Ri st) (X : lc_X s g tb st H locs) (hl : lv_has ls 4 [(0, .ref b), (1, .ref (g.2.2.2 0)), (2, .ref (g.2.2.2 73)), (3, .int x3)]) : lc_W p l e s m below meth c b H locs (F0 m 579 ls []) := by
  obtain ⟨⟨hx, hb, hml, hown, hts⟩, hC, hi, hA, hT5, hT6, hX, hbl⟩ := id C
  obtain ⟨r, st1, st2, d1, d2, hR2⟩ := q_dice hR (xs (x3 + 1).toNatClampNeg)
  refine lv_aload_n hx hb dL_law_579 rfl (lv_at hl 1 rfl) ?_
  refine lv_aload_n hx hb dL_law_580 rfl (lv_at hl 0 rfl) ?_
  refine lv_iload_n hx hb dL_law_581 rfl (lv_at hl 3 rfl) ?_
  refine lv_iconst (v := (1 : Int32)) hx hb dL_law_582 (by decide) ?_
  refine lv_iadd hx hb dL_law_583 ?_
  refine lc_ld C X h1 dL_law_584 ?_
  refine lc_Vi (ci := 4) (q := 0) (rest := []) (As := [.int (xs (x3 + 1).toNatClampNeg)]) C (c_X5_dice (l := l) hi hT5 d1) (cwV 1 hts gL_law_X5_dice rfl rfl rfl (by decide +kernel) ⟨Nat.le_of_ble_eq_true rfl, Nat.le_of_ble_eq_true rfl⟩) X (by decide) hT5.2.1 rfl rfl hl.1 rfl (Nat.le_of_ble_eq_true rfl) dL_law_585 (fun H locs X => ?_)
  refine lv_aload_n hx hb dL_law_588 rfl (lv_at hl 2 rfl) ?_
  refine lv_aload_n hx hb dL_law_589 rfl (lv_at hl 0 rfl) ?_
  refine lv_iload_n hx hb dL_law_590 rfl (lv_at hl 3 rfl) ?_
  refine lv_iconst (v := (1 : Int32)) hx hb dL_law_591 (by decide) ?_
  refine lv_iadd hx hb dL_law_592 ?_
  refine lc_ld C X h1 dL_law_593 ?_
  refine lc_Vi (ci := 5) (q := 73) (rest := [.int r]) (As := [.int (xs (x3 + 1).toNatClampNeg)]) C (c_X6_dice (l := l) hi hT6 d2) (cwV 1 hts gL_law_X6_dice rfl rfl rfl (by decide +kernel) ⟨Nat.le_of_ble_eq_true rfl, Nat.le_of_ble_eq_true rfl⟩) X (by decide) hT6.2.1 rfl rfl hl.1 rfl (Nat.le_of_ble_eq_true rfl) dL_law_594 (fun H locs X => ?_)
  exact lv_icmp_eq (tgt := 770) hx hb dL_law_597 (by decide) (fun _ => K _ H locs ls hR2 X hl) (fun h => absurd rfl h)
set_option maxHeartbeats 4000000 in
set_option maxRecDepth 100000 in
theorem lc_settle {p : Program} {l : Launch} {e : Env} {s : State} {m : MethodId} {below : List Frame} {meth : Method} {c : Code} {g : sn_G} {tb : Nat → sn_K} {b L : Nat} {xs : Nat → Int32} (C : lc_C p l s m meth c g tb b L xs) {x3 : Int32} (h1 : vp_in (x3 + 1) L) (h2 : vp_in (x3 + 2) L) (h3 : vp_in (x3 + 3) L) (K : lc_K p l e s m below meth c g tb b x3) {st : sn_S} {H : Heap} {locs : List Loc} {ls : Array Slot} (hR : Ri st) (X : lc_X s g tb st H locs) (hl : lv_has ls 4 [(0, .ref b), (1, .ref (g.2.2.2 0)), (2, .ref (g.2.2.2 73)), (3, .int x3)]) : lc_W p l e s m below meth c b H locs (F0 m 602 ls []) := by
  obtain ⟨⟨hx, hb, hml, hown, hts⟩, hC, hi, hA, hT5, hT6, hX, hbl⟩ := id C
  obtain ⟨r, st1, st2, d1, d2, hR2⟩ := q_settle hR (xs (x3 + 1).toNatClampNeg) (xs (x3 + 2).toNatClampNeg)
  refine lv_aload_n hx hb dL_law_602 rfl (lv_at hl 1 rfl) ?_
  refine lv_aload_n hx hb dL_law_603 rfl (lv_at hl 0 rfl) ?_
  refine lv_iload_n hx hb dL_law_604 rfl (lv_at hl 3 rfl) ?_
  refine lv_iconst (v := (1 : Int32)) hx hb dL_law_605 (by decide) ?_
  refine lv_iadd hx hb dL_law_606 ?_
  refine lc_ld C X h1 dL_law_607 ?_
  refine lv_aload_n hx hb dL_law_608 rfl (lv_at hl 0 rfl) ?_
  refine lv_iload_n hx hb dL_law_609 rfl (lv_at hl 3 rfl) ?_
  refine lv_iconst (v := (2 : Int32)) hx hb dL_law_610 (by decide) ?_
  refine lv_iadd hx hb dL_law_611 ?_
  refine lc_ld C X h2 dL_law_612 ?_
  refine lc_Vi (ci := 4) (q := 0) (rest := []) (As := [.int (xs (x3 + 1).toNatClampNeg), .int (xs (x3 + 2).toNatClampNeg)]) C (c_X5_settle (l := l) hi hT5 d1) (cwV 2 hts gL_law_X5_settle rfl rfl rfl (by decide +kernel) ⟨Nat.le_of_ble_eq_true rfl, Nat.le_of_ble_eq_true rfl⟩) X (by decide) hT5.2.1 rfl rfl hl.1 rfl (Nat.le_of_ble_eq_true rfl) dL_law_613 (fun H locs X => ?_)
  refine lv_aload_n hx hb dL_law_616 rfl (lv_at hl 2 rfl) ?_
  refine lv_aload_n hx hb dL_law_617 rfl (lv_at hl 0 rfl) ?_
  refine lv_iload_n hx hb dL_law_618 rfl (lv_at hl 3 rfl) ?_
  refine lv_iconst (v := (1 : Int32)) hx hb dL_law_619 (by decide) ?_
  refine lv_iadd hx hb dL_law_620 ?_
  refine lc_ld C X h1 dL_law_621 ?_
  refine lv_aload_n hx hb dL_law_622 rfl (lv_at hl 0 rfl) ?_
  refine lv_iload_n hx hb dL_law_623 rfl (lv_at hl 3 rfl) ?_
  refine lv_iconst (v := (2 : Int32)) hx hb dL_law_624 (by decide) ?_
  refine lv_iadd hx hb dL_law_625 ?_
  refine lc_ld C X h2 dL_law_626 ?_
  refine lc_Vi (ci := 5) (q := 73) (rest := [.int r]) (As := [.int (xs (x3 + 1).toNatClampNeg), .int (xs (x3 + 2).toNatClampNeg)]) C (c_X6_settle (l := l) hi hT6 d2) (cwV 2 hts gL_law_X6_settle rfl rfl rfl (by decide +kernel) ⟨Nat.le_of_ble_eq_true rfl, Nat.le_of_ble_eq_true rfl⟩) X (by decide) hT6.2.1 rfl rfl hl.1 rfl (Nat.le_of_ble_eq_true rfl) dL_law_627 (fun H locs X => ?_)
  exact lv_icmp_eq (tgt := 770) hx hb dL_law_630 (by decide) (fun _ => K _ H locs ls hR2 X hl) (fun h => absurd rfl h)
set_option maxHeartbeats 4000000 in
set_option maxRecDepth 100000 in
theorem lc_rest {p : Program} {l : Launch} {e : Env} {s : State} {m : MethodId} {below : List Frame} {meth : Method} {c : Code} {g : sn_G} {tb : Nat → sn_K} {b L : Nat} {xs : Nat → Int32} (C : lc_C p l s m meth c g tb b L xs) {x3 : Int32} (h1 : vp_in (x3 + 1) L) (h2 : vp_in (x3 + 2) L) (h3 : vp_in (x3 + 3) L) (K : lc_K p l e s m below meth c g tb b x3) {st : sn_S} {H : Heap} {locs : List Loc} {ls : Array Slot} (hR : Ri st) (X : lc_X s g tb st H locs) (hl : lv_has ls 4 [(0, .ref b), (1, .ref (g.2.2.2 0)), (2, .ref (g.2.2.2 73)), (3, .int x3)]) : lc_W p l e s m below meth c b H locs (F0 m 635 ls []) := by
  obtain ⟨⟨hx, hb, hml, hown, hts⟩, hC, hi, hA, hT5, hT6, hX, hbl⟩ := id C
  obtain ⟨r, st2, d1, d2, hR2⟩ := q_rest hR
  refine lv_aload_n hx hb dL_law_635 rfl (lv_at hl 1 rfl) ?_
  refine lc_Vi (ci := 4) (q := 0) (rest := []) (As := []) C (c_X5_rest (l := l) hi hT5 d1) (cwV 0 hts gL_law_X5_rest rfl rfl rfl (by decide +kernel) ⟨Nat.le_of_ble_eq_true rfl, Nat.le_of_ble_eq_true rfl⟩) X (by decide) hT5.2.1 rfl rfl hl.1 rfl (Nat.le_of_ble_eq_true rfl) dL_law_636 (fun H locs X => ?_)
  refine lv_aload_n hx hb dL_law_639 rfl (lv_at hl 2 rfl) ?_
  refine lc_Vi (ci := 5) (q := 73) (rest := [.int r]) (As := []) C (c_X6_rest (l := l) hi hT6 d2) (cwV 0 hts gL_law_X6_rest rfl rfl rfl (by decide +kernel) ⟨Nat.le_of_ble_eq_true rfl, Nat.le_of_ble_eq_true rfl⟩) X (by decide) hT6.2.1 rfl rfl hl.1 rfl (Nat.le_of_ble_eq_true rfl) dL_law_640 (fun H locs X => ?_)
  exact lv_icmp_eq (tgt := 770) hx hb dL_law_643 (by decide) (fun _ => K _ H locs ls hR2 X hl) (fun h => absurd rfl h)
set_option maxHeartbeats 4000000 in
set_option maxRecDepth 100000 in
theorem lc_distance {p : Program} {l : Launch} {e : Env} {s : State} {m : MethodId} {below : List Frame} {meth : Method} {c : Code} {g : sn_G} {tb : Nat → sn_K} {b L : Nat} {xs : Nat → Int32} (C : lc_C p l s m meth c g tb b L xs) {x3 : Int32} (h1 : vp_in (x3 + 1) L) (h2 : vp_in (x3 + 2) L) (h3 : vp_in (x3 + 3) L) (K : lc_K p l e s m below meth c g tb b x3) {st : sn_S} {H : Heap} {locs : List Loc} {ls : Array Slot} (hR : Ri st) (X : lc_X s g tb st H locs) (hl : lv_has ls 4 [(0, .ref b), (1, .ref (g.2.2.2 0)), (2, .ref (g.2.2.2 73)), (3, .int x3)]) : lc_W p l e s m below meth c b H locs (F0 m 648 ls []) := by
  obtain ⟨⟨hx, hb, hml, hown, hts⟩, hC, hi, hA, hT5, hT6, hX, hbl⟩ := id C
  obtain ⟨r, st2, d1, d2, hR2⟩ := q_distance hR (xs (x3 + 1).toNatClampNeg)
  refine lv_aload_n hx hb dL_law_648 rfl (lv_at hl 1 rfl) ?_
  refine lv_aload_n hx hb dL_law_649 rfl (lv_at hl 0 rfl) ?_
  refine lv_iload_n hx hb dL_law_650 rfl (lv_at hl 3 rfl) ?_
  refine lv_iconst (v := (1 : Int32)) hx hb dL_law_651 (by decide) ?_
  refine lv_iadd hx hb dL_law_652 ?_
  refine lc_ld C X h1 dL_law_653 ?_
  refine lc_Vi (ci := 4) (q := 0) (rest := []) (As := [.int (xs (x3 + 1).toNatClampNeg)]) C (c_X5_distance (l := l) hi hT5 d1) (cwV 1 hts gL_law_X5_distance rfl rfl rfl (by decide +kernel) ⟨Nat.le_of_ble_eq_true rfl, Nat.le_of_ble_eq_true rfl⟩) X (by decide) hT5.2.1 rfl rfl hl.1 rfl (Nat.le_of_ble_eq_true rfl) dL_law_654 (fun H locs X => ?_)
  refine lv_aload_n hx hb dL_law_657 rfl (lv_at hl 2 rfl) ?_
  refine lv_aload_n hx hb dL_law_658 rfl (lv_at hl 0 rfl) ?_
  refine lv_iload_n hx hb dL_law_659 rfl (lv_at hl 3 rfl) ?_
  refine lv_iconst (v := (1 : Int32)) hx hb dL_law_660 (by decide) ?_
  refine lv_iadd hx hb dL_law_661 ?_
  refine lc_ld C X h1 dL_law_662 ?_
  refine lc_Vi (ci := 5) (q := 73) (rest := [.int r]) (As := [.int (xs (x3 + 1).toNatClampNeg)]) C (c_X6_distance (l := l) hi hT6 d2) (cwV 1 hts gL_law_X6_distance rfl rfl rfl (by decide +kernel) ⟨Nat.le_of_ble_eq_true rfl, Nat.le_of_ble_eq_true rfl⟩) X (by decide) hT6.2.1 rfl rfl hl.1 rfl (Nat.le_of_ble_eq_true rfl) dL_law_663 (fun H locs X => ?_)
  exact lv_icmp_eq (tgt := 770) hx hb dL_law_666 (by decide) (fun _ => K _ H locs ls hR2 X hl) (fun h => absurd rfl h)
set_option maxHeartbeats 4000000 in
set_option maxRecDepth 100000 in
theorem lc_wave {p : Program} {l : Launch} {e : Env} {s : State} {m : MethodId} {below : List Frame} {meth : Method} {c : Code} {g : sn_G} {tb : Nat → sn_K} {b L : Nat} {xs : Nat → Int32} (C : lc_C p l s m meth c g tb b L xs) {x3 : Int32} (h1 : vp_in (x3 + 1) L) (h2 : vp_in (x3 + 2) L) (h3 : vp_in (x3 + 3) L) (K : lc_K p l e s m below meth c g tb b x3) {st : sn_S} {H : Heap} {locs : List Loc} {ls : Array Slot} (hR : Ri st) (X : lc_X s g tb st H locs) (hl : lv_has ls 4 [(0, .ref b), (1, .ref (g.2.2.2 0)), (2, .ref (g.2.2.2 73)), (3, .int x3)]) : lc_W p l e s m below meth c b H locs (F0 m 671 ls []) := by
  obtain ⟨⟨hx, hb, hml, hown, hts⟩, hC, hi, hA, hT5, hT6, hX, hbl⟩ := id C
  obtain ⟨r, st1, st2, d1, d2, hR2⟩ := q_wave hR
  refine lv_aload_n hx hb dL_law_671 rfl (lv_at hl 1 rfl) ?_
  refine lc_Vi (ci := 4) (q := 0) (rest := []) (As := []) C (c_X5_wave (l := l) hi hT5 d1) (cwV 0 hts gL_law_X5_wave rfl rfl rfl (by decide +kernel) ⟨Nat.le_of_ble_eq_true rfl, Nat.le_of_ble_eq_true rfl⟩) X (by decide) hT5.2.1 rfl rfl hl.1 rfl (Nat.le_of_ble_eq_true rfl) dL_law_672 (fun H locs X => ?_)
  refine lv_aload_n hx hb dL_law_675 rfl (lv_at hl 2 rfl) ?_
  refine lc_Vi (ci := 5) (q := 73) (rest := [.int r]) (As := []) C (c_X6_wave (l := l) hi hT6 d2) (cwV 0 hts gL_law_X6_wave rfl rfl rfl (by decide +kernel) ⟨Nat.le_of_ble_eq_true rfl, Nat.le_of_ble_eq_true rfl⟩) X (by decide) hT6.2.1 rfl rfl hl.1 rfl (Nat.le_of_ble_eq_true rfl) dL_law_676 (fun H locs X => ?_)
  exact lv_icmp_eq (tgt := 770) hx hb dL_law_679 (by decide) (fun _ => K _ H locs ls hR2 X hl) (fun h => absurd rfl h)
