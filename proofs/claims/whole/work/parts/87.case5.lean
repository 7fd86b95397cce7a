/-! THE LAW: its cases -/
set_option maxHeartbeats 4000000 in
set_option maxRecDepth 100000 in
theorem lc_entries {p : Program} {l : Launch} {e : Env} {s : State} {m : MethodId} {below : List Frame} {meth : Method} {c : Code} {g : sn_G} {tb : Nat → sn_K} {b L : Nat} {xs : Nat → Int32} (C : lc_C p l s m meth c g tb b L xs) {x3 : Int32} (h1 : vp_in (x3 + 1) L) (h2 : vp_in (x3 + 2) L) (h3 : vp_in (x3 + 3) L) (K : lc_K p l e s m below meth c g tb b x3) {st : sn_S} {H : Heap} {locs : List Loc} {ls : Array Slot} (hR : Ri st) (X : lc_X s g tb st H locs) (hl : lv_has ls 4 [(0, .ref b), (1, .ref (g.2.2.2 0)), (2, .ref (g.2.2.2 73)), (3, .int x3)]) : lc_W p l e s m below meth c b H locs (F0 m 684 ls []) := by
  obtain ⟨⟨hx, hb, hml, hown, hts⟩, hC, hi, hA, hT5, hT6, hX, hbl⟩ := id C
  obtain ⟨r, d1, d2⟩ := q_entries hR (xs (x3 + 1).toNatClampNeg)
  refine lv_aload_n hx hb dL_law_684 rfl (lv_at hl 1 rfl) ?_
  refine lv_aload_n hx hb dL_law_685 rfl (lv_at hl 0 rfl) ?_
  refine lv_iload_n hx hb dL_law_686 rfl (lv_at hl 3 rfl) ?_
  refine lv_iconst (v := (1 : Int32)) hx hb dL_law_687 (by decide) ?_
  refine lv_iadd hx hb dL_law_688 ?_
  refine lc_ld C X h1 dL_law_689 ?_
  refine lc_Vi (ci := 4) (q := 0) (rest := []) (As := [.int (xs (x3 + 1).toNatClampNeg)]) C (c_X5_entries (l := l) hi hT5 d1) (cwV 1 hts gL_law_X5_entries rfl rfl rfl (by decide +kernel) ⟨Nat.le_of_ble_eq_true rfl, Nat.le_of_ble_eq_true rfl⟩) X (by decide) hT5.2.1 rfl rfl hl.1 rfl (Nat.le_of_ble_eq_true rfl) dL_law_690 (fun H locs X => ?_)
  refine lv_aload_n hx hb dL_law_693 rfl (lv_at hl 2 rfl) ?_
  refine lv_aload_n hx hb dL_law_694 rfl (lv_at hl 0 rfl) ?_
  refine lv_iload_n hx hb dL_law_695 rfl (lv_at hl 3 rfl) ?_
  refine lv_iconst (v := (1 : Int32)) hx hb dL_law_696 (by decide) ?_
  refine lv_iadd hx hb dL_law_697 ?_
  refine lc_ld C X h1 dL_law_698 ?_
  refine lc_Vi (ci := 5) (q := 73) (rest := [.int r]) (As := [.int (xs (x3 + 1).toNatClampNeg)]) C (c_X6_entries (l := l) hi hT6 d2) (cwV 1 hts gL_law_X6_entries rfl rfl rfl (by decide +kernel) ⟨Nat.le_of_ble_eq_true rfl, Nat.le_of_ble_eq_true rfl⟩) X (by decide) hT6.2.1 rfl rfl hl.1 rfl (Nat.le_of_ble_eq_true rfl) dL_law_699 (fun H locs X => ?_)
  exact lv_icmp_eq (tgt := 770) hx hb dL_law_702 (by decide) (fun _ => K _ H locs ls hR X hl) (fun h => absurd rfl h)
set_option maxHeartbeats 4000000 in
set_option maxRecDepth 100000 in
theorem lc_count {p : Program} {l : Launch} {e : Env} {s : State} {m : MethodId} {below : List Frame} {meth : Method} {c : Code} {g : sn_G} {tb : Nat → sn_K} {b L : Nat} {xs : Nat → Int32} (C : lc_C p l s m meth c g tb b L xs) {x3 : Int32} (h1 : vp_in (x3 + 1) L) (h2 : vp_in (x3 + 2) L) (h3 : vp_in (x3 + 3) L) (K : lc_K p l e s m below meth c g tb b x3) {st : sn_S} {H : Heap} {locs : List Loc} {ls : Array Slot} (hR : Ri st) (X : lc_X s g tb st H locs) (hl : lv_has ls 4 [(0, .ref b), (1, .ref (g.2.2.2 0)), (2, .ref (g.2.2.2 73)), (3, .int x3)]) : lc_W p l e s m below meth c b H locs (F0 m 707 ls []) := by
  obtain ⟨⟨hx, hb, hml, hown, hts⟩, hC, hi, hA, hT5, hT6, hX, hbl⟩ := id C
  obtain ⟨r, d1, d2⟩ := q_count hR (xs (x3 + 1).toNatClampNeg)
  refine lv_aload_n hx hb dL_law_707 rfl (lv_at hl 1 rfl) ?_
  refine lv_aload_n hx hb dL_law_708 rfl (lv_at hl 0 rfl) ?_
  refine lv_iload_n hx hb dL_law_709 rfl (lv_at hl 3 rfl) ?_
  refine lv_iconst (v := (1 : Int32)) hx hb dL_law_710 (by decide) ?_
  refine lv_iadd hx hb dL_law_711 ?_
  refine lc_ld C X h1 dL_law_712 ?_
  refine lc_Vi (ci := 4) (q := 0) (rest := []) (As := [.int (xs (x3 + 1).toNatClampNeg)]) C (c_X5_count (l := l) hi hT5 d1) (cwV 1 hts gL_law_X5_count rfl rfl rfl (by decide +kernel) ⟨Nat.le_of_ble_eq_true rfl, Nat.le_of_ble_eq_true rfl⟩) X (by decide) hT5.2.1 rfl rfl hl.1 rfl (Nat.le_of_ble_eq_true rfl) dL_law_713 (fun H locs X => ?_)
  refine lv_aload_n hx hb dL_law_716 rfl (lv_at hl 2 rfl) ?_
  refine lv_aload_n hx hb dL_law_717 rfl (lv_at hl 0 rfl) ?_
  refine lv_iload_n hx hb dL_law_718 rfl (lv_at hl 3 rfl) ?_
  refine lv_iconst (v := (1 : Int32)) hx hb dL_law_719 (by decide) ?_
  refine lv_iadd hx hb dL_law_720 ?_
  refine lc_ld C X h1 dL_law_721 ?_
  refine lc_Vi (ci := 5) (q := 73) (rest := [.int r]) (As := [.int (xs (x3 + 1).toNatClampNeg)]) C (c_X6_count (l := l) hi hT6 d2) (cwV 1 hts gL_law_X6_count rfl rfl rfl (by decide +kernel) ⟨Nat.le_of_ble_eq_true rfl, Nat.le_of_ble_eq_true rfl⟩) X (by decide) hT6.2.1 rfl rfl hl.1 rfl (Nat.le_of_ble_eq_true rfl) dL_law_722 (fun H locs X => ?_)
  exact lv_icmp_eq (tgt := 770) hx hb dL_law_725 (by decide) (fun _ => K _ H locs ls hR X hl) (fun h => absurd rfl h)
set_option maxHeartbeats 4000000 in
set_option maxRecDepth 100000 in
theorem lc_keep {p : Program} {l : Launch} {e : Env} {s : State} {m : MethodId} {below : List Frame} {meth : Method} {c : Code} {g : sn_G} {tb : Nat → sn_K} {b L : Nat} {xs : Nat → Int32} (C : lc_C p l s m meth c g tb b L xs) {x3 : Int32} (h1 : vp_in (x3 + 1) L) (h2 : vp_in (x3 + 2) L) (h3 : vp_in (x3 + 3) L) (K : lc_K p l e s m below meth c g tb b x3) {st : sn_S} {H : Heap} {locs : List Loc} {ls : Array Slot} (hR : Ri st) (X : lc_X s g tb st H locs) (hl : lv_has ls 4 [(0, .ref b), (1, .ref (g.2.2.2 0)), (2, .ref (g.2.2.2 73)), (3, .int x3)]) : lc_W p l e s m below meth c b H locs (F0 m 730 ls []) := by
  obtain ⟨⟨hx, hb, hml, hown, hts⟩, hC, hi, hA, hT5, hT6, hX, hbl⟩ := id C
  obtain ⟨r, st1, st2, d1, d2, hR2⟩ := q_keep hR
  refine lv_aload_n hx hb dL_law_730 rfl (lv_at hl 1 rfl) ?_
  refine lc_Vi (ci := 4) (q := 0) (rest := []) (As := []) C (c_X5_keep (l := l) hi hT5 d1) (cwV 0 hts gL_law_X5_keep rfl rfl rfl (by decide +kernel) ⟨Nat.le_of_ble_eq_true rfl, Nat.le_of_ble_eq_true rfl⟩) X (by decide) hT5.2.1 rfl rfl hl.1 rfl (Nat.le_of_ble_eq_true rfl) dL_law_731 (fun H locs X => ?_)
  refine lv_aload_n hx hb dL_law_734 rfl (lv_at hl 2 rfl) ?_
  refine lc_Vi (ci := 5) (q := 73) (rest := [.int r]) (As := []) C (c_X6_keep (l := l) hi hT6 d2) (cwV 0 hts gL_law_X6_keep rfl rfl rfl (by decide +kernel) ⟨Nat.le_of_ble_eq_true rfl, Nat.le_of_ble_eq_true rfl⟩) X (by decide) hT6.2.1 rfl rfl hl.1 rfl (Nat.le_of_ble_eq_true rfl) dL_law_735 (fun H locs X => ?_)
  exact lv_icmp_eq (tgt := 770) hx hb dL_law_738 (by decide) (fun _ => K _ H locs ls hR2 X hl) (fun h => absurd rfl h)
set_option maxHeartbeats 4000000 in
set_option maxRecDepth 100000 in
theorem lc_back {p : Program} {l : Launch} {e : Env} {s : State} {m : MethodId} {below : List Frame} {meth : Method} {c : Code} {g : sn_G} {tb : Nat → sn_K} {b L : Nat} {xs : Nat → Int32} (C : lc_C p l s m meth c g tb b L xs) {x3 : Int32} (h1 : vp_in (x3 + 1) L) (h2 : vp_in (x3 + 2) L) (h3 : vp_in (x3 + 3) L) (K : lc_K p l e s m below meth c g tb b x3) {st : sn_S} {H : Heap} {locs : List Loc} {ls : Array Slot} (hR : Ri st) (X : lc_X s g tb st H locs) (hl : lv_has ls 4 [(0, .ref b), (1, .ref (g.2.2.2 0)), (2, .ref (g.2.2.2 73)), (3, .int x3)]) : lc_W p l e s m below meth c b H locs (F0 m 743 ls []) := by
  obtain ⟨⟨hx, hb, hml, hown, hts⟩, hC, hi, hA, hT5, hT6, hX, hbl⟩ := id C
  obtain ⟨r, st1, st2, d1, d2, hR2⟩ := q_back hR
  refine lv_aload_n hx hb dL_law_743 rfl (lv_at hl 1 rfl) ?_
  refine lc_Vi (ci := 4) (q := 0) (rest := []) (As := []) C (c_X5_back (l := l) hi hT5 d1) (cwV 0 hts gL_law_X5_back rfl rfl rfl (by decide +kernel) ⟨Nat.le_of_ble_eq_true rfl, Nat.le_of_ble_eq_true rfl⟩) X (by decide) hT5.2.1 rfl rfl hl.1 rfl (Nat.le_of_ble_eq_true rfl) dL_law_744 (fun H locs X => ?_)
  refine lv_aload_n hx hb dL_law_747 rfl (lv_at hl 2 rfl) ?_
  refine lc_Vi (ci := 5) (q := 73) (rest := [.int r]) (As := []) C (c_X6_back (l := l) hi hT6 d2) (cwV 0 hts gL_law_X6_back rfl rfl rfl (by decide +kernel) ⟨Nat.le_of_ble_eq_true rfl, Nat.le_of_ble_eq_true rfl⟩) X (by decide) hT6.2.1 rfl rfl hl.1 rfl (Nat.le_of_ble_eq_true rfl) dL_law_748 (fun H locs X => ?_)
  exact lv_icmp_eq (tgt := 770) hx hb dL_law_751 (by decide) (fun _ => K _ H locs ls hR2 X hl) (fun h => absurd rfl h)
set_option maxHeartbeats 4000000 in
set_option maxRecDepth 100000 in
theorem lc_digest {p : Program} {l : Launch} {e : Env} {s : State} {m : MethodId} {below : List Frame} {meth : Method} {c : Code} {g : sn_G} {tb : Nat → sn_K} {b L : Nat} {xs : Nat → Int32} (C : lc_C p l s m meth c g tb b L xs) {x3 : Int32} (h1 : vp_in (x3 + 1) L) (h2 : vp_in (x3 + 2) L) (h3 : vp_in (x3 + 3) L) (K : lc_K p l e s m below meth c g tb b x3) {st : sn_S} {H : Heap} {locs : List Loc} {ls : Array Slot} (hR : Ri st) (X : lc_X s g tb st H locs) (hl : lv_has ls 4 [(0, .ref b), (1, .ref (g.2.2.2 0)), (2, .ref (g.2.2.2 73)), (3, .int x3)]) : lc_W p l e s m below meth c b H locs (F0 m 756 ls []) := by
  obtain ⟨⟨hx, hb, hml, hown, hts⟩, hC, hi, hA, hT5, hT6, hX, hbl⟩ := id C
  obtain ⟨r, st2, d1, d2, hR2⟩ := q_digest hR
  refine lv_aload_n hx hb dL_law_756 rfl (lv_at hl 1 rfl) ?_
  refine lc_Vl (ci := 4) (q := 0) (rest := []) (As := []) C (c_X5_digest (l := l) hi hT5 d1) (cwV 0 hts gL_law_X5_digest rfl rfl rfl (by decide +kernel) ⟨Nat.le_of_ble_eq_true rfl, Nat.le_of_ble_eq_true rfl⟩) X (by decide) hT5.2.1 rfl rfl hl.1 rfl (Nat.le_of_ble_eq_true rfl) dL_law_757 (fun H locs X => ?_)
  refine lv_aload_n hx hb dL_law_760 rfl (lv_at hl 2 rfl) ?_
  refine lc_Vl (ci := 5) (q := 73) (rest := [.long r]) (As := []) C (c_X6_digest (l := l) hi hT6 d2) (cwV 0 hts gL_law_X6_digest rfl rfl rfl (by decide +kernel) ⟨Nat.le_of_ble_eq_true rfl, Nat.le_of_ble_eq_true rfl⟩) X (by decide) hT6.2.1 rfl rfl hl.1 rfl (Nat.le_of_ble_eq_true rfl) dL_law_761 (fun H locs X => ?_)
  refine W.lcmp hx hb dL_law_764 ?_
  rw [show lg_cmp r r = 0 by unfold lg_cmp; rw [if_neg (show ¬ r > r from Int64.lt_irrefl), if_pos rfl]]
  exact lv_if_eq (tgt := 770) hx hb dL_law_765 (by decide) (fun _ => K _ H locs ls hR2 X hl) (fun h => absurd rfl h)
