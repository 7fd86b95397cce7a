set_option maxHeartbeats 4000000 in
set_option maxRecDepth 100000 in
theorem c_X6_in {l : Launch} {g : sn_G} {tb : Nat → sn_K} {N : Nat} (hi : sn_I g N) {x0 : Int32} {x1 : Int32} {x2 : Int32}  {st : sn_S} {o : Int32} (hd : D_X6_in x0 x1 x2 = some o) : sn_Mi l yX6_in wsX6_in { frames := 0, cells := 0, slots := 0, locals := 0 } g tb N [.int x0, .int x1, .int x2] st o st := by
  refine sn_Mi.of (cc := cX6_in) (nL := 3) (ret := (some .boolean)) hi (by decide) rfl (Nat.le_of_ble_eq_true rfl) ?_
  intro p e s m args below meth c ls C hP hS hl
  have hl : lv_has ls 3 [(0, .int x0), (1, .int x1), (2, .int x2)] := hl
  obtain ⟨⟨hx, hb, hml, hown, hts⟩, hr, hlk, hC, hi⟩ := id C
  unfold D_X6_in at hd
  refine lv_iload_n hx hb dX6_in_0 rfl (lv_at hl 0 rfl) ?_
  refine lv_iload_n hx hb dX6_in_1 rfl (lv_at hl 1 rfl) ?_
  refine lv_icmp_lt (tgt := 14) hx hb dX6_in_2 (by decide) (fun hc => ?_) (fun hc => ?_)
  · replace hd := (if_pos hc).symm.trans hd
    refine lv_iconst (v := (0 : Int32)) hx hb dX6_in_14 (by decide) ?_
    have ho := Option.some.inj hd
    subst ho
    exact sn_rz (Or.inl rfl) C hP hS dX6_in_15
  · replace hd := (if_neg hc).symm.trans hd
    refine lv_iload_n hx hb dX6_in_5 rfl (lv_at hl 0 rfl) ?_
    refine lv_iload_n hx hb dX6_in_6 rfl (lv_at hl 2 rfl) ?_
    refine lv_icmp_gt (tgt := 14) hx hb dX6_in_7 (by decide) (fun hc => ?_) (fun hc => ?_)
    · replace hd := (if_pos hc).symm.trans hd
      refine lv_iconst (v := (0 : Int32)) hx hb dX6_in_14 (by decide) ?_
      have ho := Option.some.inj hd
      subst ho
      exact sn_rz (Or.inl rfl) C hP hS dX6_in_15
    · replace hd := (if_neg hc).symm.trans hd
      refine lv_iconst (v := (1 : Int32)) hx hb dX6_in_10 (by decide) ?_
      refine lv_goto (tgt := 15) hx hb dX6_in_11 (by decide) ?_
      have ho := Option.some.inj hd
      subst ho
      exact sn_rz (Or.inr rfl) C hP hS dX6_in_15

set_option maxHeartbeats 4000000 in
set_option maxRecDepth 100000 in
theorem c_X6_isNode {l : Launch} {g : sn_G} {tb : Nat → sn_K} {N : Nat} (hi : sn_I g N) {b : Nat} {x1 : Int32} (hT : sn_Mo tb N b) {st : sn_S} {o : Int32} (hd : D_X6_isNode b x1 st = some o) : sn_Mi l yX6_isNode wsX6_isNode { frames := 1, cells := 0, slots := 0, locals := 22 } g tb N [.ref (g.2.2.2 b), .int x1] st o st := by
  refine sn_Mi.of (cc := cX6_isNode) (nL := 2) (ret := (some .boolean)) hi (by decide) rfl (Nat.le_of_ble_eq_true rfl) ?_
  intro p e s m args below meth c ls C hP hS hl
  have hl : lv_has ls 2 [(0, .ref (g.2.2.2 b)), (1, .int x1)] := hl
  obtain ⟨⟨hx, hb, hml, hown, hts⟩, hr, hlk, hC, hi⟩ := id C
  unfold D_X6_isNode at hd
  have hinX6 : ∀ w ∈ wsX60, w ∈ wsX6_isNode := by decide +kernel
  refine lv_iload_n hx hb dX6_isNode_0 rfl (lv_at hl 1 rfl) ?_
  refine lv_iconst (v := (0 : Int32)) hx hb dX6_isNode_1 (by decide) ?_
  refine lv_aload_n hx hb dX6_isNode_2 rfl (lv_at hl 0 rfl) ?_
  refine sn_get (ci := 5) (Cn := RX6) (T := TX6) (n := 6) (v := .ref (g.2.2.2 (b + 1))) C hinX6 hP b (sn_l0 hT.1 (by decide)) hT.2.1 rfl 0 (by decide) (by decide +kernel) rfl rfl dX6_isNode_3 ?_
  refine lv_sipush (v := (360 : Int32)) hx hb dX6_isNode_6 (by decide) ?_
  refine sn_aldc (k := 360) C hP (b + 1) (sn_l hT.1 (by decide)) hT.2.2.1 (by decide +kernel) dX6_isNode_9 ?_
  refine lv_iconst (v := (1 : Int32)) hx hb dX6_isNode_10 (by decide) ?_
  refine lv_isub hx hb dX6_isNode_11 ?_
  obtain ⟨r1, hr1, hd⟩ := Option.bind_eq_some_iff.mp hd
  refine sn_Si (rest := []) (As := [.int x1, .int (0 : Int32), .int ((st.1 (b + 1) 360) - (1 : Int32))]) (st := st) C (c_X6_in hi  hr1) (va_cwS 3 hts gX6_isNode_X6_in rfl rfl rfl (by decide +kernel) ⟨Nat.le_of_ble_eq_true rfl, Nat.le_of_ble_eq_true rfl⟩) hP hS rfl hl.1 rfl (Nat.le_of_ble_eq_true rfl) dX6_isNode_12 (fun H locs hP hS => ?_)
  by_cases hz2 : r1 = 0 ∨ r1 = 1
  rotate_left
  · exact nomatch (if_neg hz2).symm.trans hd
  replace hd := (if_pos hz2).symm.trans hd
  have ho := Option.some.inj hd
  subst ho
  exact sn_rz hz2 C hP hS dX6_isNode_15

set_option maxHeartbeats 4000000 in
set_option maxRecDepth 100000 in
theorem c_X6_isLink {l : Launch} {g : sn_G} {tb : Nat → sn_K} {N : Nat} (hi : sn_I g N) {b : Nat} {x1 : Int32} {x2 : Int32} (hT : sn_Mo tb N b) {st : sn_S} {o : Int32} (hd : D_X6_isLink b x1 x2 st = some o) : sn_Mi l yX6_isLink wsX6_isLink { frames := 2, cells := 0, slots := 0, locals := 43 } g tb N [.ref (g.2.2.2 b), .int x1, .int x2] st o st := by
  refine sn_Mi.of (cc := cX6_isLink) (nL := 3) (ret := (some .boolean)) hi (by decide) rfl (Nat.le_of_ble_eq_true rfl) ?_
  intro p e s m args below meth c ls C hP hS hl
  have hl : lv_has ls 3 [(0, .ref (g.2.2.2 b)), (1, .int x1), (2, .int x2)] := hl
  obtain ⟨⟨hx, hb, hml, hown, hts⟩, hr, hlk, hC, hi⟩ := id C
  unfold D_X6_isLink at hd
  have hinX6 : ∀ w ∈ wsX60, w ∈ wsX6_isLink := by decide +kernel
  refine lv_aload_n hx hb dX6_isLink_0 rfl (lv_at hl 0 rfl) ?_
  refine lv_iload_n hx hb dX6_isLink_1 rfl (lv_at hl 1 rfl) ?_
  obtain ⟨r1, hr1, hd⟩ := Option.bind_eq_some_iff.mp hd
  refine sn_Vi (b := b) (rest := []) (As := [.int x1]) (st := st) C (c_X6_isNode hi hT hr1) (cwV 1 hts gX6_isLink_X6_isNode rfl rfl rfl (by decide +kernel) ⟨Nat.le_of_ble_eq_true rfl, Nat.le_of_ble_eq_true rfl⟩) hP hS (sn_l0 hT.1 (by decide)) hT.2.1 rfl rfl hl.1 rfl (Nat.le_of_ble_eq_true rfl) dX6_isLink_2 (fun H locs hP hS => ?_)
  refine lv_if_eq (tgt := 39) hx hb dX6_isLink_5 (by decide) (fun hc => ?_) (fun hc => ?_)
  · replace hd := (if_pos hc).symm.trans hd
    refine lv_iconst (v := (0 : Int32)) hx hb dX6_isLink_39 (by decide) ?_
    have ho := Option.some.inj hd
    subst ho
    exact sn_rz (Or.inl rfl) C hP hS dX6_isLink_40
  · replace hd := (if_neg hc).symm.trans hd
    refine lv_aload_n hx hb dX6_isLink_8 rfl (lv_at hl 0 rfl) ?_
    refine lv_iload_n hx hb dX6_isLink_9 rfl (lv_at hl 2 rfl) ?_
    obtain ⟨r2, hr2, hd⟩ := Option.bind_eq_some_iff.mp hd
    refine sn_Vi (b := b) (rest := []) (As := [.int x2]) (st := st) C (c_X6_isNode hi hT hr2) (cwV 1 hts gX6_isLink_X6_isNode rfl rfl rfl (by decide +kernel) ⟨Nat.le_of_ble_eq_true rfl, Nat.le_of_ble_eq_true rfl⟩) hP hS (sn_l0 hT.1 (by decide)) hT.2.1 rfl rfl hl.1 rfl (Nat.le_of_ble_eq_true rfl) dX6_isLink_10 (fun H locs hP hS => ?_)
    refine lv_if_eq (tgt := 39) hx hb dX6_isLink_13 (by decide) (fun hc => ?_) (fun hc => ?_)
    · replace hd := (if_pos hc).symm.trans hd
      refine lv_iconst (v := (0 : Int32)) hx hb dX6_isLink_39 (by decide) ?_
      have ho := Option.some.inj hd
      subst ho
      exact sn_rz (Or.inl rfl) C hP hS dX6_isLink_40
    · replace hd := (if_neg hc).symm.trans hd
      refine lv_aload_n hx hb dX6_isLink_16 rfl (lv_at hl 0 rfl) ?_
      refine sn_get (ci := 5) (Cn := RX6) (T := TX6) (n := 6) (v := .ref (g.2.2.2 (b + 1))) C hinX6 hP b (sn_l0 hT.1 (by decide)) hT.2.1 rfl 0 (by decide) (by decide +kernel) rfl rfl dX6_isLink_17 ?_
      refine lv_sipush (v := (216 : Int32)) hx hb dX6_isLink_20 (by decide) ?_
      refine lv_bipush (v := (12 : Int32)) hx hb dX6_isLink_23 (by decide) ?_
      refine lv_iload_n hx hb dX6_isLink_25 rfl (lv_at hl 1 rfl) ?_
      refine lv_imul hx hb dX6_isLink_26 ?_
      refine lv_iadd hx hb dX6_isLink_27 ?_
      refine lv_iload_n hx hb dX6_isLink_28 rfl (lv_at hl 2 rfl) ?_
      refine lv_iadd hx hb dX6_isLink_29 ?_
      refine sn_ald C hP (b + 1) (sn_l hT.1 (by decide)) hT.2.2.1 hd dX6_isLink_30 (fun k3 hk3 hd => ?_)
      refine lv_iconst (v := (1 : Int32)) hx hb dX6_isLink_31 (by decide) ?_
      refine lv_icmp_ne (tgt := 39) hx hb dX6_isLink_32 (by decide) (fun hc => ?_) (fun hc => ?_)
      · replace hd := (if_neg hc).symm.trans hd
        refine lv_iconst (v := (0 : Int32)) hx hb dX6_isLink_39 (by decide) ?_
        have ho := Option.some.inj hd
        subst ho
        exact sn_rz (Or.inl rfl) C hP hS dX6_isLink_40
      · replace hd := (if_pos hc).symm.trans hd
        refine lv_iconst (v := (1 : Int32)) hx hb dX6_isLink_35 (by decide) ?_
        refine lv_goto (tgt := 40) hx hb dX6_isLink_36 (by decide) ?_
        have ho := Option.some.inj hd
        subst ho
        exact sn_rz (Or.inr rfl) C hP hS dX6_isLink_40

set_option maxHeartbeats 4000000 in
set_option maxRecDepth 100000 in
theorem c_X6_k {l : Launch} {g : sn_G} {tb : Nat → sn_K} {N : Nat} (hi : sn_I g N) {b : Nat} (hT : sn_Mo tb N b) {st : sn_S} {o : Int32} (hd : D_X6_k b st = some o) : sn_Mi l yX6_k wsX6_k { frames := 0, cells := 0, slots := 0, locals := 0 } g tb N [.ref (g.2.2.2 b)] st o st := by
  refine sn_Mi.of (cc := cX6_k) (nL := 1) (ret := (some .int)) hi (by decide) rfl (Nat.le_of_ble_eq_true rfl) ?_
  intro p e s m args below meth c ls C hP hS hl
  have hl : lv_has ls 1 [(0, .ref (g.2.2.2 b))] := hl
  obtain ⟨⟨hx, hb, hml, hown, hts⟩, hr, hlk, hC, hi⟩ := id C
  unfold D_X6_k at hd
  have hinX6 : ∀ w ∈ wsX60, w ∈ wsX6_k := by decide +kernel
  refine lv_iconst (v := (2 : Int32)) hx hb dX6_k_0 (by decide) ?_
  refine lv_aload_n hx hb dX6_k_1 rfl (lv_at hl 0 rfl) ?_
  refine sn_get (ci := 5) (Cn := RX6) (T := TX6) (n := 6) (v := .ref (g.2.2.2 (b + 1))) C hinX6 hP b (sn_l0 hT.1 (by decide)) hT.2.1 rfl 0 (by decide) (by decide +kernel) rfl rfl dX6_k_2 ?_
  refine lv_sipush (v := (360 : Int32)) hx hb dX6_k_5 (by decide) ?_
  refine sn_aldc (k := 360) C hP (b + 1) (sn_l hT.1 (by decide)) hT.2.2.1 (by decide +kernel) dX6_k_8 ?_
  refine lv_imul hx hb dX6_k_9 ?_
  refine lv_iconst (v := (1 : Int32)) hx hb dX6_k_10 (by decide) ?_
  refine lv_iadd hx hb dX6_k_11 ?_
  have ho := Option.some.inj hd
  subst ho
  exact sn_ri C hP hS dX6_k_12

set_option maxHeartbeats 4000000 in
set_option maxRecDepth 100000 in
theorem t_X6_open_L24 {p : Program} {l : Launch} {e : Env} {s : State} {m : MethodId} {args : Array Value} {below : List Frame} {meth : Method} {c : Code} {g : sn_G} {tb : Nat → sn_K} {N : Nat} {b : Nat} {x1 : Int32} {x2 : Int32} {o : Int32 × sn_S} (C : sn_Cx p s m args meth c g N cX6_open 4 wsX6_open yX6_open.cls (some .int)) (hT : sn_Mo tb N b)  : ∀ (n : Nat) (x3 : Int32) (st : sn_S) (H : Heap) (locs : List Loc) (ls : Array Slot), D_X6_open_L24 b x1 x2 n x3 st = some o → va_P g.1 vwCl (sn_W g tb N st) H → va_S (sn_A g N) s.heap H locs → lv_has ls 4 [(0, .ref (g.2.2.2 b)), (1, .int x1), (2, .int x2), (3, .int x3)] → W p l e { frames := 1, cells := 0, slots := 0, locals := 22 } s m args below meth c H locs 0 0 (MQ below (sn_Qi g tb N o.1 o.2) args s 0 0 (sn_A g N)) (F0 m 24 ls []) := by
  obtain ⟨⟨hx, hb, hml, hown, hts⟩, hr, hlk, hC, hi⟩ := id C
  have hinX6 : ∀ w ∈ wsX60, w ∈ wsX6_open := by decide +kernel
  intro n
  induction n with
  | zero => intro _ _ _ _ _ hd; exact nomatch (show (none : Option (Int32 × sn_S)) = some o from hd)
  | succ n ih =>
    intro x3 st H locs ls hd hP hS hl
    replace hd := (D_X6_open_L24.eq_2 _ _ _ _ _ _).symm.trans hd
    refine lv_iload_n hx hb dX6_open_24 rfl (lv_at hl 3 rfl) ?_
    refine lv_sipush (v := (374 : Int32)) hx hb dX6_open_25 (by decide) ?_
    refine lv_icmp_ge (tgt := 74) hx hb dX6_open_28 (by decide) (fun hc => ?_) (fun hc => ?_)
    · replace hd := (if_pos hc).symm.trans hd
      refine lv_aload_n hx hb dX6_open_74 rfl (lv_at hl 0 rfl) ?_
      refine sn_get (ci := 5) (Cn := RX6) (T := TX6) (n := 6) (v := .ref (g.2.2.2 (b + 1))) C hinX6 hP b (sn_l0 hT.1 (by decide)) hT.2.1 rfl 0 (by decide) (by decide +kernel) rfl rfl dX6_open_75 ?_
      refine lv_sipush (v := (360 : Int32)) hx hb dX6_open_78 (by decide) ?_
      refine lv_iload_n hx hb dX6_open_81 rfl (lv_at hl 1 rfl) ?_
      refine sn_astc (k := 360) C hP hS (b + 1) (sn_l hT.1 (by decide)) hT.2.2.1 (by decide +kernel) dX6_open_82 (fun H locs hP hS => ?_)
      refine lv_iload_n hx hb dX6_open_83 rfl (lv_at hl 2 rfl) ?_
      have ho := Option.some.inj hd
      subst ho
      exact sn_ri C hP hS dX6_open_84
    · replace hd := (if_neg hc).symm.trans hd
      refine lv_iload_n hx hb dX6_open_31 rfl (lv_at hl 3 rfl) ?_
      refine lv_sipush (v := (370 : Int32)) hx hb dX6_open_32 (by decide) ?_
      refine lv_icmp_eq (tgt := 68) hx hb dX6_open_35 (by decide) (fun hc => ?_) (fun hc => ?_)
      · replace hd := (if_pos hc).symm.trans hd
        refine lv_iinc (v := (x3 + (1 : Int32))) (lv' := [(3, .int (x3 + (1 : Int32))), (0, .ref (g.2.2.2 b)), (1, .int x1), (2, .int x2)]) hx hb dX6_open_68 hl (k := 3) rfl rfl (by decide) rfl (fun ls hl => ?_)
        refine lv_goto (tgt := 24) hx hb dX6_open_71 (by decide) ?_
        exact ih (x3 + (1 : Int32)) st _ _ _ hd hP hS (lv_sub hl [1, 2, 3, 0] rfl)
      · replace hd := (if_neg hc).symm.trans hd
        refine lv_iload_n hx hb dX6_open_38 rfl (lv_at hl 3 rfl) ?_
        refine lv_sipush (v := (371 : Int32)) hx hb dX6_open_39 (by decide) ?_
        refine lv_icmp_eq (tgt := 68) hx hb dX6_open_42 (by decide) (fun hc => ?_) (fun hc => ?_)
        · replace hd := (if_pos hc).symm.trans hd
          refine lv_iinc (v := (x3 + (1 : Int32))) (lv' := [(3, .int (x3 + (1 : Int32))), (0, .ref (g.2.2.2 b)), (1, .int x1), (2, .int x2)]) hx hb dX6_open_68 hl (k := 3) rfl rfl (by decide) rfl (fun ls hl => ?_)
          refine lv_goto (tgt := 24) hx hb dX6_open_71 (by decide) ?_
          exact ih (x3 + (1 : Int32)) st _ _ _ hd hP hS (lv_sub hl [1, 2, 3, 0] rfl)
        · replace hd := (if_neg hc).symm.trans hd
          refine lv_aload_n hx hb dX6_open_45 rfl (lv_at hl 0 rfl) ?_
          refine sn_get (ci := 5) (Cn := RX6) (T := TX6) (n := 6) (v := .ref (g.2.2.2 (b + 1))) C hinX6 hP b (sn_l0 hT.1 (by decide)) hT.2.1 rfl 0 (by decide) (by decide +kernel) rfl rfl dX6_open_46 ?_
          refine lv_iload_n hx hb dX6_open_49 rfl (lv_at hl 3 rfl) ?_
          refine lv_iload_n hx hb dX6_open_50 rfl (lv_at hl 3 rfl) ?_
          refine lv_bipush (v := (24 : Int32)) hx hb dX6_open_51 (by decide) ?_
          refine lv_icmp_lt (tgt := 66) hx hb dX6_open_53 (by decide) (fun hc => ?_) (fun hc => ?_)
          · replace hd := (if_pos hc).symm.trans hd
            refine lv_iconst (v := (0 : Int32)) hx hb dX6_open_66 (by decide) ?_
            refine sn_ast C hP hS (b + 1) (sn_l hT.1 (by decide)) hT.2.2.1 hd dX6_open_67 (fun k2 H locs hk2 hd hP hS => ?_)
            refine lv_iinc (v := (x3 + (1 : Int32))) (lv' := [(3, .int (x3 + (1 : Int32))), (0, .ref (g.2.2.2 b)), (1, .int x1), (2, .int x2)]) hx hb dX6_open_68 hl (k := 3) rfl rfl (by decide) rfl (fun ls hl => ?_)
            refine lv_goto (tgt := 24) hx hb dX6_open_71 (by decide) ?_
            exact ih (x3 + (1 : Int32)) (sn_wr st (b + 1) k2 (0 : Int32)) _ _ _ hd hP hS (lv_sub hl [1, 2, 3, 0] rfl)
          · replace hd := (if_neg hc).symm.trans hd
            refine lv_iload_n hx hb dX6_open_56 rfl (lv_at hl 3 rfl) ?_
            refine lv_bipush (v := (36 : Int32)) hx hb dX6_open_57 (by decide) ?_
            refine lv_icmp_ge (tgt := 66) hx hb dX6_open_59 (by decide) (fun hc => ?_) (fun hc => ?_)
            · replace hd := (if_pos hc).symm.trans hd
              refine lv_iconst (v := (0 : Int32)) hx hb dX6_open_66 (by decide) ?_
              refine sn_ast C hP hS (b + 1) (sn_l hT.1 (by decide)) hT.2.2.1 hd dX6_open_67 (fun k3 H locs hk3 hd hP hS => ?_)
              refine lv_iinc (v := (x3 + (1 : Int32))) (lv' := [(3, .int (x3 + (1 : Int32))), (0, .ref (g.2.2.2 b)), (1, .int x1), (2, .int x2)]) hx hb dX6_open_68 hl (k := 3) rfl rfl (by decide) rfl (fun ls hl => ?_)
              refine lv_goto (tgt := 24) hx hb dX6_open_71 (by decide) ?_
              exact ih (x3 + (1 : Int32)) (sn_wr st (b + 1) k3 (0 : Int32)) _ _ _ hd hP hS (lv_sub hl [1, 2, 3, 0] rfl)
            · replace hd := (if_neg hc).symm.trans hd
              refine lv_iconst (v := (-1 : Int32)) hx hb dX6_open_62 (by decide) ?_
              refine lv_goto (tgt := 67) hx hb dX6_open_63 (by decide) ?_
              refine sn_ast C hP hS (b + 1) (sn_l hT.1 (by decide)) hT.2.2.1 hd dX6_open_67 (fun k4 H locs hk4 hd hP hS => ?_)
              refine lv_iinc (v := (x3 + (1 : Int32))) (lv' := [(3, .int (x3 + (1 : Int32))), (0, .ref (g.2.2.2 b)), (1, .int x1), (2, .int x2)]) hx hb dX6_open_68 hl (k := 3) rfl rfl (by decide) rfl (fun ls hl => ?_)
              refine lv_goto (tgt := 24) hx hb dX6_open_71 (by decide) ?_
              exact ih (x3 + (1 : Int32)) (sn_wr st (b + 1) k4 (-1 : Int32)) _ _ _ hd hP hS (lv_sub hl [1, 2, 3, 0] rfl)

set_option maxHeartbeats 4000000 in
set_option maxRecDepth 100000 in
theorem c_X6_open {l : Launch} {g : sn_G} {tb : Nat → sn_K} {N : Nat} (hi : sn_I g N) {b : Nat} {x1 : Int32} (hT : sn_Mo tb N b) {st : sn_S} {o : Int32 × sn_S} (hd : D_X6_open b x1 st = some o) : sn_Mi l yX6_open wsX6_open { frames := 1, cells := 0, slots := 0, locals := 22 } g tb N [.ref (g.2.2.2 b), .int x1] st o.1 o.2 := by
  refine sn_Mi.of (cc := cX6_open) (nL := 4) (ret := (some .int)) hi (by decide) rfl (Nat.le_of_ble_eq_true rfl) ?_
  intro p e s m args below meth c ls C hP hS hl
  have hl : lv_has ls 4 [(0, .ref (g.2.2.2 b)), (1, .int x1)] := hl
  obtain ⟨⟨hx, hb, hml, hown, hts⟩, hr, hlk, hC, hi⟩ := id C
  unfold D_X6_open at hd
  have hinX6 : ∀ w ∈ wsX60, w ∈ wsX6_open := by decide +kernel
  refine lv_iload_n hx hb dX6_open_0 rfl (lv_at hl 1 rfl) ?_
  refine lv_iconst (v := (2 : Int32)) hx hb dX6_open_1 (by decide) ?_
  refine lv_bipush (v := (12 : Int32)) hx hb dX6_open_2 (by decide) ?_
  obtain ⟨r1, hr1, hd⟩ := Option.bind_eq_some_iff.mp hd
  refine sn_Si (rest := []) (As := [.int x1, .int (2 : Int32), .int (12 : Int32)]) (st := st) C (c_X6_in hi  hr1) (va_cwS 3 hts gX6_open_X6_in rfl rfl rfl (by decide +kernel) ⟨Nat.le_of_ble_eq_true rfl, Nat.le_of_ble_eq_true rfl⟩) hP hS rfl hl.1 rfl (Nat.le_of_ble_eq_true rfl) dX6_open_4 (fun H locs hP hS => ?_)
  refine lv_if_ne (tgt := 13) hx hb dX6_open_7 (by decide) (fun hc => ?_) (fun hc => ?_)
  · replace hd := (if_neg hc).symm.trans hd
    refine lv_aload_n hx hb dX6_open_13 rfl (lv_at hl 0 rfl) ?_
    refine sn_get (ci := 5) (Cn := RX6) (T := TX6) (n := 6) (v := .ref (g.2.2.2 (b + 1))) C hinX6 hP b (sn_l0 hT.1 (by decide)) hT.2.1 rfl 0 (by decide) (by decide +kernel) rfl rfl dX6_open_14 ?_
    refine lv_sipush (v := (360 : Int32)) hx hb dX6_open_17 (by decide) ?_
    refine sn_aldc (k := 360) C hP (b + 1) (sn_l hT.1 (by decide)) hT.2.2.1 (by decide +kernel) dX6_open_20 ?_
    refine lv_istore_n (lv' := [(2, .int (st.1 (b + 1) 360)), (0, .ref (g.2.2.2 b)), (1, .int x1)]) hx hb dX6_open_21 rfl hl (by decide) rfl (fun ls hl => ?_)
    refine lv_iconst (v := (0 : Int32)) hx hb dX6_open_22 (by decide) ?_
    refine lv_istore_n (lv' := [(3, .int (0 : Int32)), (2, .int (st.1 (b + 1) 360)), (0, .ref (g.2.2.2 b)), (1, .int x1)]) hx hb dX6_open_23 rfl hl (by decide) rfl (fun ls hl => ?_)
    exact t_X6_open_L24 C hT 4096 (0 : Int32) st _ _ _ hd hP hS (lv_sub hl [2, 3, 1, 0] rfl)
  · replace hd := (if_pos hc).symm.trans hd
    refine lv_bipush (v := (-102 : Int32)) hx hb dX6_open_10 (by decide) ?_
    have ho := Option.some.inj hd
    subst ho
    exact sn_ri C hP hS dX6_open_12

set_option maxHeartbeats 4000000 in
set_option maxRecDepth 100000 in
theorem c_X6_link {l : Launch} {g : sn_G} {tb : Nat → sn_K} {N : Nat} (hi : sn_I g N) {b : Nat} {x1 : Int32} {x2 : Int32} {x3 : Int32} (hT : sn_Mo tb N b) {st : sn_S} {o : Int32 × sn_S} (hd : D_X6_link b x1 x2 x3 st = some o) : sn_Mi l yX6_link wsX6_link { frames := 2, cells := 0, slots := 0, locals := 43 } g tb N [.ref (g.2.2.2 b), .int x1, .int x2, .int x3] st o.1 o.2 := by
  refine sn_Mi.of (cc := cX6_link) (nL := 5) (ret := (some .int)) hi (by decide) rfl (Nat.le_of_ble_eq_true rfl) ?_
  intro p e s m args below meth c ls C hP hS hl
  have hl : lv_has ls 5 [(0, .ref (g.2.2.2 b)), (1, .int x1), (2, .int x2), (3, .int x3)] := hl
  obtain ⟨⟨hx, hb, hml, hown, hts⟩, hr, hlk, hC, hi⟩ := id C
  unfold D_X6_link at hd
  have hinX6 : ∀ w ∈ wsX60, w ∈ wsX6_link := by decide +kernel
  refine lv_aload_n hx hb dX6_link_0 rfl (lv_at hl 0 rfl) ?_
  refine lv_iload_n hx hb dX6_link_1 rfl (lv_at hl 1 rfl) ?_
  obtain ⟨r1, hr1, hd⟩ := Option.bind_eq_some_iff.mp hd
  refine sn_Vi (b := b) (rest := []) (As := [.int x1]) (st := st) C (c_X6_isNode hi hT hr1) (cwV 1 hts gX6_link_X6_isNode rfl rfl rfl (by decide +kernel) ⟨Nat.le_of_ble_eq_true rfl, Nat.le_of_ble_eq_true rfl⟩) hP hS (sn_l0 hT.1 (by decide)) hT.2.1 rfl rfl hl.1 rfl (Nat.le_of_ble_eq_true rfl) dX6_link_2 (fun H locs hP hS => ?_)
  refine lv_if_eq (tgt := 16) hx hb dX6_link_5 (by decide) (fun hc => ?_) (fun hc => ?_)
  · replace hd := (if_pos hc).symm.trans hd
    refine lv_bipush (v := (-101 : Int32)) hx hb dX6_link_16 (by decide) ?_
    have ho := Option.some.inj hd
    subst ho
    exact sn_ri C hP hS dX6_link_18
  · replace hd := (if_neg hc).symm.trans hd
    refine lv_aload_n hx hb dX6_link_8 rfl (lv_at hl 0 rfl) ?_
    refine lv_iload_n hx hb dX6_link_9 rfl (lv_at hl 2 rfl) ?_
    obtain ⟨r2, hr2, hd⟩ := Option.bind_eq_some_iff.mp hd
    refine sn_Vi (b := b) (rest := []) (As := [.int x2]) (st := st) C (c_X6_isNode hi hT hr2) (cwV 1 hts gX6_link_X6_isNode rfl rfl rfl (by decide +kernel) ⟨Nat.le_of_ble_eq_true rfl, Nat.le_of_ble_eq_true rfl⟩) hP hS (sn_l0 hT.1 (by decide)) hT.2.1 rfl rfl hl.1 rfl (Nat.le_of_ble_eq_true rfl) dX6_link_10 (fun H locs hP hS => ?_)
    refine lv_if_ne (tgt := 19) hx hb dX6_link_13 (by decide) (fun hc => ?_) (fun hc => ?_)
    · replace hd := (if_neg hc).symm.trans hd
      refine lv_iload_n hx hb dX6_link_19 rfl (lv_at hl 1 rfl) ?_
      refine lv_iload_n hx hb dX6_link_20 rfl (lv_at hl 2 rfl) ?_
      refine lv_icmp_ne (tgt := 27) hx hb dX6_link_21 (by decide) (fun hc => ?_) (fun hc => ?_)
      · replace hd := (if_neg hc).symm.trans hd
        refine lv_aload_n hx hb dX6_link_27 rfl (lv_at hl 0 rfl) ?_
        refine sn_get (ci := 5) (Cn := RX6) (T := TX6) (n := 6) (v := .ref (g.2.2.2 (b + 1))) C hinX6 hP b (sn_l0 hT.1 (by decide)) hT.2.1 rfl 0 (by decide) (by decide +kernel) rfl rfl dX6_link_28 ?_
        refine lv_sipush (v := (361 : Int32)) hx hb dX6_link_31 (by decide) ?_
        refine sn_aldc (k := 361) C hP (b + 1) (sn_l hT.1 (by decide)) hT.2.2.1 (by decide +kernel) dX6_link_34 ?_
        refine lv_iconst (v := (1 : Int32)) hx hb dX6_link_35 (by decide) ?_
        refine lv_icmp_ne (tgt := 42) hx hb dX6_link_36 (by decide) (fun hc => ?_) (fun hc => ?_)
        · replace hd := (if_neg hc).symm.trans hd
          refine lv_aload_n hx hb dX6_link_42 rfl (lv_at hl 0 rfl) ?_
          refine sn_get (ci := 5) (Cn := RX6) (T := TX6) (n := 6) (v := .ref (g.2.2.2 (b + 1))) C hinX6 hP b (sn_l0 hT.1 (by decide)) hT.2.1 rfl 0 (by decide) (by decide +kernel) rfl rfl dX6_link_43 ?_
          refine lv_sipush (v := (216 : Int32)) hx hb dX6_link_46 (by decide) ?_
          refine lv_bipush (v := (12 : Int32)) hx hb dX6_link_49 (by decide) ?_
          refine lv_iload_n hx hb dX6_link_51 rfl (lv_at hl 1 rfl) ?_
          refine lv_imul hx hb dX6_link_52 ?_
          refine lv_iadd hx hb dX6_link_53 ?_
          refine lv_iload_n hx hb dX6_link_54 rfl (lv_at hl 2 rfl) ?_
          refine lv_iadd hx hb dX6_link_55 ?_
          refine sn_ald C hP (b + 1) (sn_l hT.1 (by decide)) hT.2.2.1 hd dX6_link_56 (fun k3 hk3 hd => ?_)
          refine lv_istore (lv' := [(4, .int (st.1 (b + 1) k3)), (0, .ref (g.2.2.2 b)), (1, .int x1), (2, .int x2), (3, .int x3)]) hx hb dX6_link_57 hl (by decide) rfl (fun ls hl => ?_)
          refine lv_aload_n hx hb dX6_link_59 rfl (lv_at hl 1 rfl) ?_
          refine sn_get (ci := 5) (Cn := RX6) (T := TX6) (n := 6) (v := .ref (g.2.2.2 (b + 1))) C hinX6 hP b (sn_l0 hT.1 (by decide)) hT.2.1 rfl 0 (by decide) (by decide +kernel) rfl rfl dX6_link_60 ?_
          refine lv_sipush (v := (216 : Int32)) hx hb dX6_link_63 (by decide) ?_
          refine lv_bipush (v := (12 : Int32)) hx hb dX6_link_66 (by decide) ?_
          refine lv_iload_n hx hb dX6_link_68 rfl (lv_at hl 2 rfl) ?_
          refine lv_imul hx hb dX6_link_69 ?_
          refine lv_iadd hx hb dX6_link_70 ?_
          refine lv_iload_n hx hb dX6_link_71 rfl (lv_at hl 3 rfl) ?_
          refine lv_iadd hx hb dX6_link_72 ?_
          refine lv_iload_n hx hb dX6_link_73 rfl (lv_at hl 4 rfl) ?_
          refine lv_if_eq (tgt := 81) hx hb dX6_link_74 (by decide) (fun hc => ?_) (fun hc => ?_)
          · replace hd := (if_pos hc).symm.trans hd
            refine lv_iconst (v := (0 : Int32)) hx hb dX6_link_81 (by decide) ?_
            refine sn_ast C hP hS (b + 1) (sn_l hT.1 (by decide)) hT.2.2.1 hd dX6_link_82 (fun k4 H locs hk4 hd hP hS => ?_)
            refine lv_aload_n hx hb dX6_link_83 rfl (lv_at hl 1 rfl) ?_
            refine sn_get (ci := 5) (Cn := RX6) (T := TX6) (n := 6) (v := .ref (g.2.2.2 (b + 1))) C hinX6 hP b (sn_l0 hT.1 (by decide)) hT.2.1 rfl 0 (by decide) (by decide +kernel) rfl rfl dX6_link_84 ?_
            refine lv_sipush (v := (216 : Int32)) hx hb dX6_link_87 (by decide) ?_
            refine lv_bipush (v := (12 : Int32)) hx hb dX6_link_90 (by decide) ?_
            refine lv_iload_n hx hb dX6_link_92 rfl (lv_at hl 3 rfl) ?_
            refine lv_imul hx hb dX6_link_93 ?_
            refine lv_iadd hx hb dX6_link_94 ?_
            refine lv_iload_n hx hb dX6_link_95 rfl (lv_at hl 2 rfl) ?_
            refine lv_iadd hx hb dX6_link_96 ?_
            refine lv_iload_n hx hb dX6_link_97 rfl (lv_at hl 4 rfl) ?_
            refine lv_if_eq (tgt := 105) hx hb dX6_link_98 (by decide) (fun hc => ?_) (fun hc => ?_)
            · replace hd := (if_pos hc).symm.trans hd
              refine lv_iconst (v := (0 : Int32)) hx hb dX6_link_105 (by decide) ?_
              refine sn_ast C hP hS (b + 1) (sn_l hT.1 (by decide)) hT.2.2.1 hd dX6_link_106 (fun k5 H locs hk5 hd hP hS => ?_)
              refine lv_iload hx hb dX6_link_107 (lv_at hl 0 rfl) ?_
              have ho := Option.some.inj hd
              subst ho
              exact sn_ri C hP hS dX6_link_109
            · replace hd := (if_neg hc).symm.trans hd
              refine lv_iconst (v := (1 : Int32)) hx hb dX6_link_101 (by decide) ?_
              refine lv_goto (tgt := 106) hx hb dX6_link_102 (by decide) ?_
              refine sn_ast C hP hS (b + 1) (sn_l hT.1 (by decide)) hT.2.2.1 hd dX6_link_106 (fun k6 H locs hk6 hd hP hS => ?_)
              refine lv_iload hx hb dX6_link_107 (lv_at hl 0 rfl) ?_
              have ho := Option.some.inj hd
              subst ho
              exact sn_ri C hP hS dX6_link_109
          · replace hd := (if_neg hc).symm.trans hd
            refine lv_iconst (v := (1 : Int32)) hx hb dX6_link_77 (by decide) ?_
            refine lv_goto (tgt := 82) hx hb dX6_link_78 (by decide) ?_
            refine sn_ast C hP hS (b + 1) (sn_l hT.1 (by decide)) hT.2.2.1 hd dX6_link_82 (fun k7 H locs hk7 hd hP hS => ?_)
            refine lv_aload_n hx hb dX6_link_83 rfl (lv_at hl 1 rfl) ?_
            refine sn_get (ci := 5) (Cn := RX6) (T := TX6) (n := 6) (v := .ref (g.2.2.2 (b + 1))) C hinX6 hP b (sn_l0 hT.1 (by decide)) hT.2.1 rfl 0 (by decide) (by decide +kernel) rfl rfl dX6_link_84 ?_
            refine lv_sipush (v := (216 : Int32)) hx hb dX6_link_87 (by decide) ?_
            refine lv_bipush (v := (12 : Int32)) hx hb dX6_link_90 (by decide) ?_
            refine lv_iload_n hx hb dX6_link_92 rfl (lv_at hl 3 rfl) ?_
            refine lv_imul hx hb dX6_link_93 ?_
            refine lv_iadd hx hb dX6_link_94 ?_
            refine lv_iload_n hx hb dX6_link_95 rfl (lv_at hl 2 rfl) ?_
            refine lv_iadd hx hb dX6_link_96 ?_
            refine lv_iload_n hx hb dX6_link_97 rfl (lv_at hl 4 rfl) ?_
            refine lv_if_eq (tgt := 105) hx hb dX6_link_98 (by decide) (fun hc => ?_) (fun hc => ?_)
            · replace hd := (if_pos hc).symm.trans hd
              refine lv_iconst (v := (0 : Int32)) hx hb dX6_link_105 (by decide) ?_
              refine sn_ast C hP hS (b + 1) (sn_l hT.1 (by decide)) hT.2.2.1 hd dX6_link_106 (fun k8 H locs hk8 hd hP hS => ?_)
              refine lv_iload hx hb dX6_link_107 (lv_at hl 0 rfl) ?_
              have ho := Option.some.inj hd
              subst ho
              exact sn_ri C hP hS dX6_link_109
            · replace hd := (if_neg hc).symm.trans hd
              refine lv_iconst (v := (1 : Int32)) hx hb dX6_link_101 (by decide) ?_
              refine lv_goto (tgt := 106) hx hb dX6_link_102 (by decide) ?_
              refine sn_ast C hP hS (b + 1) (sn_l hT.1 (by decide)) hT.2.2.1 hd dX6_link_106 (fun k9 H locs hk9 hd hP hS => ?_)
              refine lv_iload hx hb dX6_link_107 (lv_at hl 0 rfl) ?_
              have ho := Option.some.inj hd
              subst ho
              exact sn_ri C hP hS dX6_link_109
        · replace hd := (if_pos hc).symm.trans hd
          refine lv_bipush (v := (-103 : Int32)) hx hb dX6_link_39 (by decide) ?_
          have ho := Option.some.inj hd
          subst ho
          exact sn_ri C hP hS dX6_link_41
      · replace hd := (if_pos hc).symm.trans hd
        refine lv_bipush (v := (-102 : Int32)) hx hb dX6_link_24 (by decide) ?_
        have ho := Option.some.inj hd
        subst ho
        exact sn_ri C hP hS dX6_link_26
    · replace hd := (if_pos hc).symm.trans hd
      refine lv_bipush (v := (-101 : Int32)) hx hb dX6_link_16 (by decide) ?_
      have ho := Option.some.inj hd
      subst ho
      exact sn_ri C hP hS dX6_link_18

set_option maxHeartbeats 4000000 in
set_option maxRecDepth 100000 in
theorem t_X6_links_L4 {p : Program} {l : Launch} {e : Env} {s : State} {m : MethodId} {args : Array Value} {below : List Frame} {meth : Method} {c : Code} {g : sn_G} {tb : Nat → sn_K} {N : Nat} {b : Nat} {st : sn_S} {o : Int32} (C : sn_Cx p s m args meth c g N cX6_links 3 wsX6_links yX6_links.cls (some .int)) (hT : sn_Mo tb N b)  : ∀ (n : Nat) (x1 : Int32) (x2 : Int32) (H : Heap) (locs : List Loc) (ls : Array Slot), D_X6_links_L4 b st n x1 x2 = some o → va_P g.1 vwCl (sn_W g tb N st) H → va_S (sn_A g N) s.heap H locs → lv_has ls 3 [(0, .ref (g.2.2.2 b)), (1, .int x1), (2, .int x2)] → W p l e { frames := 0, cells := 0, slots := 0, locals := 0 } s m args below meth c H locs 0 0 (MQ below (sn_Qi g tb N o st) args s 0 0 (sn_A g N)) (F0 m 4 ls []) := by
  obtain ⟨⟨hx, hb, hml, hown, hts⟩, hr, hlk, hC, hi⟩ := id C
  have hinX6 : ∀ w ∈ wsX60, w ∈ wsX6_links := by decide +kernel
  intro n
  induction n with
  | zero => intro _ _ _ _ _ hd; exact nomatch (show (none : Option (Int32)) = some o from hd)
  | succ n ih =>
    intro x1 x2 H locs ls hd hP hS hl
    replace hd := (D_X6_links_L4.eq_2 _ _ _ _ _).symm.trans hd
    refine lv_iload_n hx hb dX6_links_4 rfl (lv_at hl 2 rfl) ?_
    refine lv_sipush (v := (144 : Int32)) hx hb dX6_links_5 (by decide) ?_
    refine lv_icmp_ge (tgt := 30) hx hb dX6_links_8 (by decide) (fun hc => ?_) (fun hc => ?_)
    · replace hd := (if_pos hc).symm.trans hd
      refine lv_iload_n hx hb dX6_links_30 rfl (lv_at hl 1 rfl) ?_
      refine lv_iconst (v := (2 : Int32)) hx hb dX6_links_31 (by decide) ?_
      refine lv_idiv hx hb dX6_links_32 (by decide) ?_
      have ho := Option.some.inj hd
      subst ho
      exact sn_ri C hP hS dX6_links_33
    · replace hd := (if_neg hc).symm.trans hd
      refine lv_iload_n hx hb dX6_links_11 rfl (lv_at hl 1 rfl) ?_
      refine lv_aload_n hx hb dX6_links_12 rfl (lv_at hl 0 rfl) ?_
      refine sn_get (ci := 5) (Cn := RX6) (T := TX6) (n := 6) (v := .ref (g.2.2.2 (b + 1))) C hinX6 hP b (sn_l0 hT.1 (by decide)) hT.2.1 rfl 0 (by decide) (by decide +kernel) rfl rfl dX6_links_13 ?_
      refine lv_sipush (v := (216 : Int32)) hx hb dX6_links_16 (by decide) ?_
      refine lv_iload_n hx hb dX6_links_19 rfl (lv_at hl 2 rfl) ?_
      refine lv_iadd hx hb dX6_links_20 ?_
      refine sn_ald C hP (b + 1) (sn_l hT.1 (by decide)) hT.2.2.1 hd dX6_links_21 (fun k1 hk1 hd => ?_)
      refine lv_iadd hx hb dX6_links_22 ?_
      refine lv_istore_n (lv' := [(1, .int (x1 + (st.1 (b + 1) k1))), (0, .ref (g.2.2.2 b)), (2, .int x2)]) hx hb dX6_links_23 rfl hl (by decide) rfl (fun ls hl => ?_)
      refine lv_iinc (v := (x2 + (1 : Int32))) (lv' := [(2, .int (x2 + (1 : Int32))), (1, .int (x1 + (st.1 (b + 1) k1))), (0, .ref (g.2.2.2 b))]) hx hb dX6_links_24 hl (k := 2) rfl rfl (by decide) rfl (fun ls hl => ?_)
      refine lv_goto (tgt := 4) hx hb dX6_links_27 (by decide) ?_
      exact ih (x1 + (st.1 (b + 1) k1)) (x2 + (1 : Int32)) _ _ _ hd hP hS (lv_sub hl [2, 1, 0] rfl)

set_option maxHeartbeats 4000000 in
set_option maxRecDepth 100000 in
theorem c_X6_links {l : Launch} {g : sn_G} {tb : Nat → sn_K} {N : Nat} (hi : sn_I g N) {b : Nat} (hT : sn_Mo tb N b) {st : sn_S} {o : Int32} (hd : D_X6_links b st = some o) : sn_Mi l yX6_links wsX6_links { frames := 0, cells := 0, slots := 0, locals := 0 } g tb N [.ref (g.2.2.2 b)] st o st := by
  refine sn_Mi.of (cc := cX6_links) (nL := 3) (ret := (some .int)) hi (by decide) rfl (Nat.le_of_ble_eq_true rfl) ?_
  intro p e s m args below meth c ls C hP hS hl
  have hl : lv_has ls 3 [(0, .ref (g.2.2.2 b))] := hl
  obtain ⟨⟨hx, hb, hml, hown, hts⟩, hr, hlk, hC, hi⟩ := id C
  unfold D_X6_links at hd
  have hinX6 : ∀ w ∈ wsX60, w ∈ wsX6_links := by decide +kernel
  refine lv_iconst (v := (0 : Int32)) hx hb dX6_links_0 (by decide) ?_
  refine lv_istore_n (lv' := [(1, .int (0 : Int32)), (0, .ref (g.2.2.2 b))]) hx hb dX6_links_1 rfl hl (by decide) rfl (fun ls hl => ?_)
  refine lv_iconst (v := (0 : Int32)) hx hb dX6_links_2 (by decide) ?_
  refine lv_istore_n (lv' := [(2, .int (0 : Int32)), (1, .int (0 : Int32)), (0, .ref (g.2.2.2 b))]) hx hb dX6_links_3 rfl hl (by decide) rfl (fun ls hl => ?_)
  exact t_X6_links_L4 (st := st) C hT 4096 (0 : Int32) (0 : Int32) _ _ _ hd hP hS (lv_sub hl [2, 1, 0] rfl)

set_option maxHeartbeats 4000000 in
set_option maxRecDepth 100000 in
theorem t_X6_measure_L59 {p : Program} {l : Launch} {e : Env} {s : State} {m : MethodId} {args : Array Value} {below : List Frame} {meth : Method} {c : Code} {g : sn_G} {tb : Nat → sn_K} {N : Nat} {b : Nat} {x1 : Int32} {x2 : Int32} {K : Int32 → sn_S → Option (sn_S)} {o : sn_S} (C : sn_Cx p s m args meth c g N cX6_measure 4 wsX6_measure yX6_measure.cls none) (hT : sn_Mo tb N b)  (hK : ∀ (x2 : Int32) (st : sn_S) (H : Heap) (locs : List Loc) (ls : Array Slot), K x2 st = some o → va_P g.1 vwCl (sn_W g tb N st) H → va_S (sn_A g N) s.heap H locs → lv_has ls 4 [(0, .ref (g.2.2.2 b)), (1, .int x1), (2, .int x2)] → W p l e { frames := 3, cells := 0, slots := 0, locals := 65 } s m args below meth c H locs 0 0 (MQ below (sn_Qv g tb N o) args s 0 0 (sn_A g N)) (F0 m 45 ls [])) : ∀ (n : Nat) (x3 : Int32) (st : sn_S) (H : Heap) (locs : List Loc) (ls : Array Slot), D_X6_measure_L59 b x1 x2 K n x3 st = some o → va_P g.1 vwCl (sn_W g tb N st) H → va_S (sn_A g N) s.heap H locs → lv_has ls 4 [(0, .ref (g.2.2.2 b)), (1, .int x1), (2, .int x2), (3, .int x3)] → W p l e { frames := 3, cells := 0, slots := 0, locals := 65 } s m args below meth c H locs 0 0 (MQ below (sn_Qv g tb N o) args s 0 0 (sn_A g N)) (F0 m 59 ls []) := by
  obtain ⟨⟨hx, hb, hml, hown, hts⟩, hr, hlk, hC, hi⟩ := id C
  have hinX6 : ∀ w ∈ wsX60, w ∈ wsX6_measure := by decide +kernel
  intro n
  induction n with
  | zero => intro _ _ _ _ _ hd; exact nomatch (show (none : Option (sn_S)) = some o from hd)
  | succ n ih =>
    intro x3 st H locs ls hd hP hS hl
    replace hd := (D_X6_measure_L59.eq_2 _ _ _ _ _ _ _).symm.trans hd
    refine lv_iload_n hx hb dX6_measure_59 rfl (lv_at hl 3 rfl) ?_
    refine lv_aload_n hx hb dX6_measure_60 rfl (lv_at hl 0 rfl) ?_
    refine sn_get (ci := 5) (Cn := RX6) (T := TX6) (n := 6) (v := .ref (g.2.2.2 (b + 1))) C hinX6 hP b (sn_l0 hT.1 (by decide)) hT.2.1 rfl 0 (by decide) (by decide +kernel) rfl rfl dX6_measure_61 ?_
    refine lv_sipush (v := (360 : Int32)) hx hb dX6_measure_64 (by decide) ?_
    refine sn_aldc (k := 360) C hP (b + 1) (sn_l hT.1 (by decide)) hT.2.2.1 (by decide +kernel) dX6_measure_67 ?_
    refine lv_icmp_ge (tgt := 115) hx hb dX6_measure_68 (by decide) (fun hc => ?_) (fun hc => ?_)
    · replace hd := (if_pos hc).symm.trans hd
      refine lv_iinc (v := (x2 + (1 : Int32))) (lv' := [(2, .int (x2 + (1 : Int32))), (0, .ref (g.2.2.2 b)), (1, .int x1), (3, .int x3)]) hx hb dX6_measure_115 hl (k := 2) rfl rfl (by decide) rfl (fun ls hl => ?_)
      refine lv_goto (tgt := 45) hx hb dX6_measure_118 (by decide) ?_
      exact hK (x2 + (1 : Int32)) st _ _ _ hd hP hS (lv_sub hl [1, 2, 0] rfl)
    · replace hd := (if_neg hc).symm.trans hd
      refine lv_aload_n hx hb dX6_measure_71 rfl (lv_at hl 0 rfl) ?_
      refine sn_get (ci := 5) (Cn := RX6) (T := TX6) (n := 6) (v := .ref (g.2.2.2 (b + 4))) C hinX6 hP b (sn_l0 hT.1 (by decide)) hT.2.1 rfl 4 (by decide) (by decide +kernel) rfl rfl dX6_measure_72 ?_
      refine lv_iload_n hx hb dX6_measure_75 rfl (lv_at hl 2 rfl) ?_
      refine sn_ald C hP (b + 4) (sn_l hT.1 (by decide)) hT.2.2.2.2.2 hd dX6_measure_76 (fun k1 hk1 hd => ?_)
      refine lv_iload_n hx hb dX6_measure_77 rfl (lv_at hl 1 rfl) ?_
      refine lv_icmp_ne (tgt := 109) hx hb dX6_measure_78 (by decide) (fun hc => ?_) (fun hc => ?_)
      · replace hd := (if_neg hc).symm.trans hd
        refine lv_iinc (v := (x3 + (1 : Int32))) (lv' := [(3, .int (x3 + (1 : Int32))), (0, .ref (g.2.2.2 b)), (1, .int x1), (2, .int x2)]) hx hb dX6_measure_109 hl (k := 3) rfl rfl (by decide) rfl (fun ls hl => ?_)
        refine lv_goto (tgt := 59) hx hb dX6_measure_112 (by decide) ?_
        exact ih (x3 + (1 : Int32)) st _ _ _ hd hP hS (lv_sub hl [1, 2, 3, 0] rfl)
      · replace hd := (if_pos hc).symm.trans hd
        refine lv_aload_n hx hb dX6_measure_81 rfl (lv_at hl 0 rfl) ?_
        refine lv_iload_n hx hb dX6_measure_82 rfl (lv_at hl 2 rfl) ?_
        refine lv_iload_n hx hb dX6_measure_83 rfl (lv_at hl 3 rfl) ?_
        obtain ⟨r2, hr2, hd⟩ := Option.bind_eq_some_iff.mp hd
        refine sn_Vi (b := b) (rest := []) (As := [.int x2, .int x3]) (st := st) C (c_X6_isLink hi hT hr2) (cwV 2 hts gX6_measure_X6_isLink rfl rfl rfl (by decide +kernel) ⟨Nat.le_of_ble_eq_true rfl, Nat.le_of_ble_eq_true rfl⟩) hP hS (sn_l0 hT.1 (by decide)) hT.2.1 rfl rfl hl.1 rfl (Nat.le_of_ble_eq_true rfl) dX6_measure_84 (fun H locs hP hS => ?_)
        refine lv_if_eq (tgt := 109) hx hb dX6_measure_87 (by decide) (fun hc => ?_) (fun hc => ?_)
        · replace hd := (if_pos hc).symm.trans hd
          refine lv_iinc (v := (x3 + (1 : Int32))) (lv' := [(3, .int (x3 + (1 : Int32))), (0, .ref (g.2.2.2 b)), (1, .int x1), (2, .int x2)]) hx hb dX6_measure_109 hl (k := 3) rfl rfl (by decide) rfl (fun ls hl => ?_)
          refine lv_goto (tgt := 59) hx hb dX6_measure_112 (by decide) ?_
          exact ih (x3 + (1 : Int32)) st _ _ _ hd hP hS (lv_sub hl [1, 2, 3, 0] rfl)
        · replace hd := (if_neg hc).symm.trans hd
          refine lv_aload_n hx hb dX6_measure_90 rfl (lv_at hl 0 rfl) ?_
          refine sn_get (ci := 5) (Cn := RX6) (T := TX6) (n := 6) (v := .ref (g.2.2.2 (b + 4))) C hinX6 hP b (sn_l0 hT.1 (by decide)) hT.2.1 rfl 4 (by decide) (by decide +kernel) rfl rfl dX6_measure_91 ?_
          refine lv_iload_n hx hb dX6_measure_94 rfl (lv_at hl 3 rfl) ?_
          refine sn_ald C hP (b + 4) (sn_l hT.1 (by decide)) hT.2.2.2.2.2 hd dX6_measure_95 (fun k3 hk3 hd => ?_)
          refine lv_iconst (v := (-1 : Int32)) hx hb dX6_measure_96 (by decide) ?_
          refine lv_icmp_ne (tgt := 109) hx hb dX6_measure_97 (by decide) (fun hc => ?_) (fun hc => ?_)
          · replace hd := (if_neg hc).symm.trans hd
            refine lv_iinc (v := (x3 + (1 : Int32))) (lv' := [(3, .int (x3 + (1 : Int32))), (0, .ref (g.2.2.2 b)), (1, .int x1), (2, .int x2)]) hx hb dX6_measure_109 hl (k := 3) rfl rfl (by decide) rfl (fun ls hl => ?_)
            refine lv_goto (tgt := 59) hx hb dX6_measure_112 (by decide) ?_
            exact ih (x3 + (1 : Int32)) st _ _ _ hd hP hS (lv_sub hl [1, 2, 3, 0] rfl)
          · replace hd := (if_pos hc).symm.trans hd
            refine lv_aload_n hx hb dX6_measure_100 rfl (lv_at hl 0 rfl) ?_
            refine sn_get (ci := 5) (Cn := RX6) (T := TX6) (n := 6) (v := .ref (g.2.2.2 (b + 4))) C hinX6 hP b (sn_l0 hT.1 (by decide)) hT.2.1 rfl 4 (by decide) (by decide +kernel) rfl rfl dX6_measure_101 ?_
            refine lv_iload_n hx hb dX6_measure_104 rfl (lv_at hl 3 rfl) ?_
            refine lv_iload_n hx hb dX6_measure_105 rfl (lv_at hl 1 rfl) ?_
            refine lv_iconst (v := (1 : Int32)) hx hb dX6_measure_106 (by decide) ?_
            refine lv_iadd hx hb dX6_measure_107 ?_
            refine sn_ast C hP hS (b + 4) (sn_l hT.1 (by decide)) hT.2.2.2.2.2 hd dX6_measure_108 (fun k4 H locs hk4 hd hP hS => ?_)
            refine lv_iinc (v := (x3 + (1 : Int32))) (lv' := [(3, .int (x3 + (1 : Int32))), (0, .ref (g.2.2.2 b)), (1, .int x1), (2, .int x2)]) hx hb dX6_measure_109 hl (k := 3) rfl rfl (by decide) rfl (fun ls hl => ?_)
            refine lv_goto (tgt := 59) hx hb dX6_measure_112 (by decide) ?_
            exact ih (x3 + (1 : Int32)) (sn_wr st (b + 4) k4 (x1 + (1 : Int32))) _ _ _ hd hP hS (lv_sub hl [1, 2, 3, 0] rfl)

set_option maxHeartbeats 4000000 in
set_option maxRecDepth 100000 in
theorem t_X6_measure_L45 {p : Program} {l : Launch} {e : Env} {s : State} {m : MethodId} {args : Array Value} {below : List Frame} {meth : Method} {c : Code} {g : sn_G} {tb : Nat → sn_K} {N : Nat} {b : Nat} {x1 : Int32} {K : Int32 → sn_S → Option (sn_S)} {o : sn_S} (C : sn_Cx p s m args meth c g N cX6_measure 4 wsX6_measure yX6_measure.cls none) (hT : sn_Mo tb N b)  (hK : ∀ (x1 : Int32) (st : sn_S) (H : Heap) (locs : List Loc) (ls : Array Slot), K x1 st = some o → va_P g.1 vwCl (sn_W g tb N st) H → va_S (sn_A g N) s.heap H locs → lv_has ls 4 [(0, .ref (g.2.2.2 b)), (1, .int x1)] → W p l e { frames := 3, cells := 0, slots := 0, locals := 65 } s m args below meth c H locs 0 0 (MQ below (sn_Qv g tb N o) args s 0 0 (sn_A g N)) (F0 m 31 ls [])) : ∀ (n : Nat) (x2 : Int32) (st : sn_S) (H : Heap) (locs : List Loc) (ls : Array Slot), D_X6_measure_L45 b x1 K n x2 st = some o → va_P g.1 vwCl (sn_W g tb N st) H → va_S (sn_A g N) s.heap H locs → lv_has ls 4 [(0, .ref (g.2.2.2 b)), (1, .int x1), (2, .int x2)] → W p l e { frames := 3, cells := 0, slots := 0, locals := 65 } s m args below meth c H locs 0 0 (MQ below (sn_Qv g tb N o) args s 0 0 (sn_A g N)) (F0 m 45 ls []) := by
  obtain ⟨⟨hx, hb, hml, hown, hts⟩, hr, hlk, hC, hi⟩ := id C
  have hinX6 : ∀ w ∈ wsX60, w ∈ wsX6_measure := by decide +kernel
  intro n
  induction n with
  | zero => intro _ _ _ _ _ hd; exact nomatch (show (none : Option (sn_S)) = some o from hd)
  | succ n ih =>
    intro x2 st H locs ls hd hP hS hl
    replace hd := (D_X6_measure_L45.eq_2 _ _ _ _ _ _).symm.trans hd
    refine lv_iload_n hx hb dX6_measure_45 rfl (lv_at hl 2 rfl) ?_
    refine lv_aload_n hx hb dX6_measure_46 rfl (lv_at hl 0 rfl) ?_
    refine sn_get (ci := 5) (Cn := RX6) (T := TX6) (n := 6) (v := .ref (g.2.2.2 (b + 1))) C hinX6 hP b (sn_l0 hT.1 (by decide)) hT.2.1 rfl 0 (by decide) (by decide +kernel) rfl rfl dX6_measure_47 ?_
    refine lv_sipush (v := (360 : Int32)) hx hb dX6_measure_50 (by decide) ?_
    refine sn_aldc (k := 360) C hP (b + 1) (sn_l hT.1 (by decide)) hT.2.2.1 (by decide +kernel) dX6_measure_53 ?_
    refine lv_icmp_ge (tgt := 121) hx hb dX6_measure_54 (by decide) (fun hc => ?_) (fun hc => ?_)
    · replace hd := (if_pos hc).symm.trans hd
      refine lv_iinc (v := (x1 + (1 : Int32))) (lv' := [(1, .int (x1 + (1 : Int32))), (0, .ref (g.2.2.2 b)), (2, .int x2)]) hx hb dX6_measure_121 hl (k := 1) rfl rfl (by decide) rfl (fun ls hl => ?_)
      refine lv_goto (tgt := 31) hx hb dX6_measure_124 (by decide) ?_
      exact hK (x1 + (1 : Int32)) st _ _ _ hd hP hS (lv_sub hl [1, 0] rfl)
    · replace hd := (if_neg hc).symm.trans hd
      refine lv_iconst (v := (0 : Int32)) hx hb dX6_measure_57 (by decide) ?_
      refine lv_istore_n (lv' := [(3, .int (0 : Int32)), (0, .ref (g.2.2.2 b)), (1, .int x1), (2, .int x2)]) hx hb dX6_measure_58 rfl hl (by decide) rfl (fun ls hl => ?_)
      exact t_X6_measure_L59 C hT ih 4096 (0 : Int32) st _ _ _ hd hP hS (lv_sub hl [1, 2, 3, 0] rfl)

set_option maxHeartbeats 4000000 in
set_option maxRecDepth 100000 in
theorem t_X6_measure_L31 {p : Program} {l : Launch} {e : Env} {s : State} {m : MethodId} {args : Array Value} {below : List Frame} {meth : Method} {c : Code} {g : sn_G} {tb : Nat → sn_K} {N : Nat} {b : Nat} {o : sn_S} (C : sn_Cx p s m args meth c g N cX6_measure 4 wsX6_measure yX6_measure.cls none) (hT : sn_Mo tb N b)  : ∀ (n : Nat) (x1 : Int32) (st : sn_S) (H : Heap) (locs : List Loc) (ls : Array Slot), D_X6_measure_L31 b n x1 st = some o → va_P g.1 vwCl (sn_W g tb N st) H → va_S (sn_A g N) s.heap H locs → lv_has ls 4 [(0, .ref (g.2.2.2 b)), (1, .int x1)] → W p l e { frames := 3, cells := 0, slots := 0, locals := 65 } s m args below meth c H locs 0 0 (MQ below (sn_Qv g tb N o) args s 0 0 (sn_A g N)) (F0 m 31 ls []) := by
  obtain ⟨⟨hx, hb, hml, hown, hts⟩, hr, hlk, hC, hi⟩ := id C
  have hinX6 : ∀ w ∈ wsX60, w ∈ wsX6_measure := by decide +kernel
  intro n
  induction n with
  | zero => intro _ _ _ _ _ hd; exact nomatch (show (none : Option (sn_S)) = some o from hd)
  | succ n ih =>
    intro x1 st H locs ls hd hP hS hl
    replace hd := (D_X6_measure_L31.eq_2 _ _ _ _).symm.trans hd
    refine lv_iload_n hx hb dX6_measure_31 rfl (lv_at hl 1 rfl) ?_
    refine lv_aload_n hx hb dX6_measure_32 rfl (lv_at hl 0 rfl) ?_
    refine sn_get (ci := 5) (Cn := RX6) (T := TX6) (n := 6) (v := .ref (g.2.2.2 (b + 1))) C hinX6 hP b (sn_l0 hT.1 (by decide)) hT.2.1 rfl 0 (by decide) (by decide +kernel) rfl rfl dX6_measure_33 ?_
    refine lv_sipush (v := (360 : Int32)) hx hb dX6_measure_36 (by decide) ?_
    refine sn_aldc (k := 360) C hP (b + 1) (sn_l hT.1 (by decide)) hT.2.2.1 (by decide +kernel) dX6_measure_39 ?_
    refine lv_icmp_ge (tgt := 127) hx hb dX6_measure_40 (by decide) (fun hc => ?_) (fun hc => ?_)
    · replace hd := (if_pos hc).symm.trans hd
      have ho := Option.some.inj hd
      subst ho
      exact sn_rv C hP hS dX6_measure_127
    · replace hd := (if_neg hc).symm.trans hd
      refine lv_iconst (v := (0 : Int32)) hx hb dX6_measure_43 (by decide) ?_
      refine lv_istore_n (lv' := [(2, .int (0 : Int32)), (0, .ref (g.2.2.2 b)), (1, .int x1)]) hx hb dX6_measure_44 rfl hl (by decide) rfl (fun ls hl => ?_)
      exact t_X6_measure_L45 C hT ih 4096 (0 : Int32) st _ _ _ hd hP hS (lv_sub hl [1, 2, 0] rfl)

set_option maxHeartbeats 4000000 in
set_option maxRecDepth 100000 in
theorem t_X6_measure_L2 {p : Program} {l : Launch} {e : Env} {s : State} {m : MethodId} {args : Array Value} {below : List Frame} {meth : Method} {c : Code} {g : sn_G} {tb : Nat → sn_K} {N : Nat} {b : Nat} {o : sn_S} (C : sn_Cx p s m args meth c g N cX6_measure 4 wsX6_measure yX6_measure.cls none) (hT : sn_Mo tb N b)  : ∀ (n : Nat) (x1 : Int32) (st : sn_S) (H : Heap) (locs : List Loc) (ls : Array Slot), D_X6_measure_L2 b n x1 st = some o → va_P g.1 vwCl (sn_W g tb N st) H → va_S (sn_A g N) s.heap H locs → lv_has ls 4 [(0, .ref (g.2.2.2 b)), (1, .int x1)] → W p l e { frames := 3, cells := 0, slots := 0, locals := 65 } s m args below meth c H locs 0 0 (MQ below (sn_Qv g tb N o) args s 0 0 (sn_A g N)) (F0 m 2 ls []) := by
  obtain ⟨⟨hx, hb, hml, hown, hts⟩, hr, hlk, hC, hi⟩ := id C
  have hinX6 : ∀ w ∈ wsX60, w ∈ wsX6_measure := by decide +kernel
  intro n
  induction n with
  | zero => intro _ _ _ _ _ hd; exact nomatch (show (none : Option (sn_S)) = some o from hd)
  | succ n ih =>
    intro x1 st H locs ls hd hP hS hl
    replace hd := (D_X6_measure_L2.eq_2 _ _ _ _).symm.trans hd
    refine lv_iload_n hx hb dX6_measure_2 rfl (lv_at hl 1 rfl) ?_
    refine lv_bipush (v := (12 : Int32)) hx hb dX6_measure_3 (by decide) ?_
    refine lv_icmp_ge (tgt := 29) hx hb dX6_measure_5 (by decide) (fun hc => ?_) (fun hc => ?_)
    · replace hd := (if_pos hc).symm.trans hd
      refine lv_iconst (v := (0 : Int32)) hx hb dX6_measure_29 (by decide) ?_
      refine lv_istore_n (lv' := [(1, .int (0 : Int32)), (0, .ref (g.2.2.2 b))]) hx hb dX6_measure_30 rfl hl (by decide) rfl (fun ls hl => ?_)
      exact t_X6_measure_L31 C hT 4096 (0 : Int32) st _ _ _ hd hP hS (lv_sub hl [1, 0] rfl)
    · replace hd := (if_neg hc).symm.trans hd
      refine lv_aload_n hx hb dX6_measure_8 rfl (lv_at hl 0 rfl) ?_
      refine sn_get (ci := 5) (Cn := RX6) (T := TX6) (n := 6) (v := .ref (g.2.2.2 (b + 4))) C hinX6 hP b (sn_l0 hT.1 (by decide)) hT.2.1 rfl 4 (by decide) (by decide +kernel) rfl rfl dX6_measure_9 ?_
      refine lv_iload_n hx hb dX6_measure_12 rfl (lv_at hl 1 rfl) ?_
      refine lv_iload_n hx hb dX6_measure_13 rfl (lv_at hl 1 rfl) ?_
      refine lv_if_ne (tgt := 21) hx hb dX6_measure_14 (by decide) (fun hc => ?_) (fun hc => ?_)
      · replace hd := (if_neg hc).symm.trans hd
        refine lv_iconst (v := (-1 : Int32)) hx hb dX6_measure_21 (by decide) ?_
        refine sn_ast C hP hS (b + 4) (sn_l hT.1 (by decide)) hT.2.2.2.2.2 hd dX6_measure_22 (fun k5 H locs hk5 hd hP hS => ?_)
        refine lv_iinc (v := (x1 + (1 : Int32))) (lv' := [(1, .int (x1 + (1 : Int32))), (0, .ref (g.2.2.2 b))]) hx hb dX6_measure_23 hl (k := 1) rfl rfl (by decide) rfl (fun ls hl => ?_)
        refine lv_goto (tgt := 2) hx hb dX6_measure_26 (by decide) ?_
        exact ih (x1 + (1 : Int32)) (sn_wr st (b + 4) k5 (-1 : Int32)) _ _ _ hd hP hS (lv_sub hl [1, 0] rfl)
      · replace hd := (if_pos hc).symm.trans hd
        refine lv_iconst (v := (0 : Int32)) hx hb dX6_measure_17 (by decide) ?_
        refine lv_goto (tgt := 22) hx hb dX6_measure_18 (by decide) ?_
        refine sn_ast C hP hS (b + 4) (sn_l hT.1 (by decide)) hT.2.2.2.2.2 hd dX6_measure_22 (fun k6 H locs hk6 hd hP hS => ?_)
        refine lv_iinc (v := (x1 + (1 : Int32))) (lv' := [(1, .int (x1 + (1 : Int32))), (0, .ref (g.2.2.2 b))]) hx hb dX6_measure_23 hl (k := 1) rfl rfl (by decide) rfl (fun ls hl => ?_)
        refine lv_goto (tgt := 2) hx hb dX6_measure_26 (by decide) ?_
        exact ih (x1 + (1 : Int32)) (sn_wr st (b + 4) k6 (0 : Int32)) _ _ _ hd hP hS (lv_sub hl [1, 0] rfl)

set_option maxHeartbeats 4000000 in
set_option maxRecDepth 100000 in
theorem c_X6_measure {l : Launch} {g : sn_G} {tb : Nat → sn_K} {N : Nat} (hi : sn_I g N) {b : Nat} (hT : sn_Mo tb N b) {st : sn_S} {o : sn_S} (hd : D_X6_measure b st = some o) : sn_Mv l yX6_measure wsX6_measure { frames := 3, cells := 0, slots := 0, locals := 65 } g tb N [.ref (g.2.2.2 b)] st o := by
  refine sn_Mv.of (cc := cX6_measure) (nL := 4) (ret := none) hi (by decide) rfl (Nat.le_of_ble_eq_true rfl) ?_
  intro p e s m args below meth c ls C hP hS hl
  have hl : lv_has ls 4 [(0, .ref (g.2.2.2 b))] := hl
  obtain ⟨⟨hx, hb, hml, hown, hts⟩, hr, hlk, hC, hi⟩ := id C
  unfold D_X6_measure at hd
  have hinX6 : ∀ w ∈ wsX60, w ∈ wsX6_measure := by decide +kernel
  refine lv_iconst (v := (0 : Int32)) hx hb dX6_measure_0 (by decide) ?_
  refine lv_istore_n (lv' := [(1, .int (0 : Int32)), (0, .ref (g.2.2.2 b))]) hx hb dX6_measure_1 rfl hl (by decide) rfl (fun ls hl => ?_)
  exact t_X6_measure_L2 C hT 4096 (0 : Int32) st _ _ _ hd hP hS (lv_sub hl [1, 0] rfl)

set_option maxHeartbeats 4000000 in
set_option maxRecDepth 100000 in
theorem c_X6_isSaneParent {l : Launch} {g : sn_G} {tb : Nat → sn_K} {N : Nat} (hi : sn_I g N) {b : Nat} {x1 : Int32} (hT : sn_Mo tb N b) {st : sn_S} {o : Int32} (hd : D_X6_isSaneParent b x1 st = some o) : sn_Mi l yX6_isSaneParent wsX6_isSaneParent { frames := 3, cells := 0, slots := 0, locals := 65 } g tb N [.ref (g.2.2.2 b), .int x1] st o st := by
  refine sn_Mi.of (cc := cX6_isSaneParent) (nL := 3) (ret := (some .boolean)) hi (by decide) rfl (Nat.le_of_ble_eq_true rfl) ?_
  intro p e s m args below meth c ls C hP hS hl
  have hl : lv_has ls 3 [(0, .ref (g.2.2.2 b)), (1, .int x1)] := hl
  obtain ⟨⟨hx, hb, hml, hown, hts⟩, hr, hlk, hC, hi⟩ := id C
  unfold D_X6_isSaneParent at hd
  have hinX6 : ∀ w ∈ wsX60, w ∈ wsX6_isSaneParent := by decide +kernel
  refine lv_aload_n hx hb dX6_isSaneParent_0 rfl (lv_at hl 0 rfl) ?_
  refine sn_get (ci := 5) (Cn := RX6) (T := TX6) (n := 6) (v := .ref (g.2.2.2 (b + 1))) C hinX6 hP b (sn_l0 hT.1 (by decide)) hT.2.1 rfl 0 (by decide) (by decide +kernel) rfl rfl dX6_isSaneParent_1 ?_
  refine lv_bipush (v := (24 : Int32)) hx hb dX6_isSaneParent_4 (by decide) ?_
  refine lv_iload_n hx hb dX6_isSaneParent_6 rfl (lv_at hl 1 rfl) ?_
  refine lv_iadd hx hb dX6_isSaneParent_7 ?_
  refine sn_ald C hP (b + 1) (sn_l hT.1 (by decide)) hT.2.2.1 hd dX6_isSaneParent_8 (fun k1 hk1 hd => ?_)
  refine lv_istore_n (lv' := [(2, .int (st.1 (b + 1) k1)), (0, .ref (g.2.2.2 b)), (1, .int x1)]) hx hb dX6_isSaneParent_9 rfl hl (by decide) rfl (fun ls hl => ?_)
  refine lv_iload_n hx hb dX6_isSaneParent_10 rfl (lv_at hl 0 rfl) ?_
  refine lv_iconst (v := (-1 : Int32)) hx hb dX6_isSaneParent_11 (by decide) ?_
  refine lv_icmp_eq (tgt := 24) hx hb dX6_isSaneParent_12 (by decide) (fun hc => ?_) (fun hc => ?_)
  · replace hd := (if_pos hc).symm.trans hd
    refine lv_iconst (v := (1 : Int32)) hx hb dX6_isSaneParent_24 (by decide) ?_
    refine lv_goto (tgt := 29) hx hb dX6_isSaneParent_25 (by decide) ?_
    have ho := Option.some.inj hd
    subst ho
    exact sn_rz (Or.inr rfl) C hP hS dX6_isSaneParent_29
  · replace hd := (if_neg hc).symm.trans hd
    refine lv_aload_n hx hb dX6_isSaneParent_15 rfl (lv_at hl 1 rfl) ?_
    refine lv_iload_n hx hb dX6_isSaneParent_16 rfl (lv_at hl 2 rfl) ?_
    refine lv_iload_n hx hb dX6_isSaneParent_17 rfl (lv_at hl 0 rfl) ?_
    obtain ⟨r2, hr2, hd⟩ := Option.bind_eq_some_iff.mp hd
    refine sn_Vi (b := b) (rest := []) (As := [.int x1, .int (st.1 (b + 1) k1)]) (st := st) C (c_X6_isLink hi hT hr2) (cwV 2 hts gX6_isSaneParent_X6_isLink rfl rfl rfl (by decide +kernel) ⟨Nat.le_of_ble_eq_true rfl, Nat.le_of_ble_eq_true rfl⟩) hP hS (sn_l0 hT.1 (by decide)) hT.2.1 rfl rfl hl.1 rfl (Nat.le_of_ble_eq_true rfl) dX6_isSaneParent_18 (fun H locs hP hS => ?_)
    refine lv_if_eq (tgt := 28) hx hb dX6_isSaneParent_21 (by decide) (fun hc => ?_) (fun hc => ?_)
    · replace hd := (if_pos hc).symm.trans hd
      refine lv_iconst (v := (0 : Int32)) hx hb dX6_isSaneParent_28 (by decide) ?_
      have ho := Option.some.inj hd
      subst ho
      exact sn_rz (Or.inl rfl) C hP hS dX6_isSaneParent_29
    · replace hd := (if_neg hc).symm.trans hd
      refine lv_iconst (v := (1 : Int32)) hx hb dX6_isSaneParent_24 (by decide) ?_
      refine lv_goto (tgt := 29) hx hb dX6_isSaneParent_25 (by decide) ?_
      have ho := Option.some.inj hd
      subst ho
      exact sn_rz (Or.inr rfl) C hP hS dX6_isSaneParent_29

set_option maxHeartbeats 4000000 in
set_option maxRecDepth 100000 in
theorem t_X6_isSane_L57 {p : Program} {l : Launch} {e : Env} {s : State} {m : MethodId} {args : Array Value} {below : List Frame} {meth : Method} {c : Code} {g : sn_G} {tb : Nat → sn_K} {N : Nat} {b : Nat} {x1 : Int32} {st : sn_S} {o : Int32} (C : sn_Cx p s m args meth c g N cX6_isSane 4 wsX6_isSane yX6_isSane.cls (some .boolean)) (hT : sn_Mo tb N b)  : ∀ (n : Nat) (x2 : Int32) (x3 : Int32) (H : Heap) (locs : List Loc) (ls : Array Slot), D_X6_isSane_L57 b x1 st n x2 x3 = some o → va_P g.1 vwCl (sn_W g tb N st) H → va_S (sn_A g N) s.heap H locs → lv_has ls 4 [(0, .ref (g.2.2.2 b)), (1, .int x1), (2, .int x2), (3, .int x3)] → W p l e { frames := 4, cells := 0, slots := 0, locals := 87 } s m args below meth c H locs 0 0 (MQ below (sn_Qi g tb N o st) args s 0 0 (sn_A g N)) (F0 m 57 ls []) := by
  obtain ⟨⟨hx, hb, hml, hown, hts⟩, hr, hlk, hC, hi⟩ := id C
  have hinX6 : ∀ w ∈ wsX60, w ∈ wsX6_isSane := by decide +kernel
  intro n
  induction n with
  | zero => intro _ _ _ _ _ hd; exact nomatch (show (none : Option (Int32)) = some o from hd)
  | succ n ih =>
    intro x2 x3 H locs ls hd hP hS hl
    replace hd := (D_X6_isSane_L57.eq_2 _ _ _ _ _ _).symm.trans hd
    refine lv_iload_n hx hb dX6_isSane_57 rfl (lv_at hl 3 rfl) ?_
    refine lv_aload_n hx hb dX6_isSane_58 rfl (lv_at hl 0 rfl) ?_
    refine sn_get (ci := 5) (Cn := RX6) (T := TX6) (n := 6) (v := .ref (g.2.2.2 (b + 1))) C hinX6 hP b (sn_l0 hT.1 (by decide)) hT.2.1 rfl 0 (by decide) (by decide +kernel) rfl rfl dX6_isSane_59 ?_
    refine lv_sipush (v := (360 : Int32)) hx hb dX6_isSane_62 (by decide) ?_
    refine sn_aldc (k := 360) C hP (b + 1) (sn_l hT.1 (by decide)) hT.2.2.1 (by decide +kernel) dX6_isSane_65 ?_
    refine lv_icmp_ge (tgt := 121) hx hb dX6_isSane_66 (by decide) (fun hc => ?_) (fun hc => ?_)
    · replace hd := (if_pos hc).symm.trans hd
      refine lv_iload_n hx hb dX6_isSane_121 rfl (lv_at hl 2 rfl) ?_
      by_cases hz3 : x2 = 0 ∨ x2 = 1
      rotate_left
      · exact nomatch (if_neg hz3).symm.trans hd
      replace hd := (if_pos hz3).symm.trans hd
      have ho := Option.some.inj hd
      subst ho
      exact sn_rz hz3 C hP hS dX6_isSane_122
    · replace hd := (if_neg hc).symm.trans hd
      refine lv_iload_n hx hb dX6_isSane_69 rfl (lv_at hl 2 rfl) ?_
      refine lv_if_eq (tgt := 113) hx hb dX6_isSane_70 (by decide) (fun hc => ?_) (fun hc => ?_)
      · replace hd := (if_pos hc).symm.trans hd
        refine lv_iconst (v := (0 : Int32)) hx hb dX6_isSane_113 (by decide) ?_
        refine lv_istore_n (lv' := [(2, .int (0 : Int32)), (0, .ref (g.2.2.2 b)), (1, .int x1), (3, .int x3)]) hx hb dX6_isSane_114 rfl hl (by decide) rfl (fun ls hl => ?_)
        refine lv_iinc (v := (x3 + (1 : Int32))) (lv' := [(3, .int (x3 + (1 : Int32))), (2, .int (0 : Int32)), (0, .ref (g.2.2.2 b)), (1, .int x1)]) hx hb dX6_isSane_115 hl (k := 3) rfl rfl (by decide) rfl (fun ls hl => ?_)
        refine lv_goto (tgt := 57) hx hb dX6_isSane_118 (by decide) ?_
        exact ih (0 : Int32) (x3 + (1 : Int32)) _ _ _ hd hP hS (lv_sub hl [2, 3, 1, 0] rfl)
      · replace hd := (if_neg hc).symm.trans hd
        refine lv_aload_n hx hb dX6_isSane_73 rfl (lv_at hl 0 rfl) ?_
        refine lv_iload_n hx hb dX6_isSane_74 rfl (lv_at hl 1 rfl) ?_
        refine lv_iload_n hx hb dX6_isSane_75 rfl (lv_at hl 3 rfl) ?_
        obtain ⟨r4, hr4, hd⟩ := Option.bind_eq_some_iff.mp hd
        refine sn_Vi (b := b) (rest := []) (As := [.int x1, .int x3]) (st := st) C (c_X6_isLink hi hT hr4) (cwV 2 hts gX6_isSane_X6_isLink rfl rfl rfl (by decide +kernel) ⟨Nat.le_of_ble_eq_true rfl, Nat.le_of_ble_eq_true rfl⟩) hP hS (sn_l0 hT.1 (by decide)) hT.2.1 rfl rfl hl.1 rfl (Nat.le_of_ble_eq_true rfl) dX6_isSane_76 (fun H locs hP hS => ?_)
        refine lv_if_eq (tgt := 109) hx hb dX6_isSane_79 (by decide) (fun hc => ?_) (fun hc => ?_)
        · replace hd := (if_pos hc).symm.trans hd
          refine lv_iconst (v := (1 : Int32)) hx hb dX6_isSane_109 (by decide) ?_
          refine lv_goto (tgt := 114) hx hb dX6_isSane_110 (by decide) ?_
          refine lv_istore_n (lv' := [(2, .int (1 : Int32)), (0, .ref (g.2.2.2 b)), (1, .int x1), (3, .int x3)]) hx hb dX6_isSane_114 rfl hl (by decide) rfl (fun ls hl => ?_)
          refine lv_iinc (v := (x3 + (1 : Int32))) (lv' := [(3, .int (x3 + (1 : Int32))), (2, .int (1 : Int32)), (0, .ref (g.2.2.2 b)), (1, .int x1)]) hx hb dX6_isSane_115 hl (k := 3) rfl rfl (by decide) rfl (fun ls hl => ?_)
          refine lv_goto (tgt := 57) hx hb dX6_isSane_118 (by decide) ?_
          exact ih (1 : Int32) (x3 + (1 : Int32)) _ _ _ hd hP hS (lv_sub hl [2, 3, 1, 0] rfl)
        · replace hd := (if_neg hc).symm.trans hd
          refine lv_aload_n hx hb dX6_isSane_82 rfl (lv_at hl 0 rfl) ?_
          refine sn_get (ci := 5) (Cn := RX6) (T := TX6) (n := 6) (v := .ref (g.2.2.2 (b + 1))) C hinX6 hP b (sn_l0 hT.1 (by decide)) hT.2.1 rfl 0 (by decide) (by decide +kernel) rfl rfl dX6_isSane_83 ?_
          refine lv_bipush (v := (72 : Int32)) hx hb dX6_isSane_86 (by decide) ?_
          refine lv_bipush (v := (12 : Int32)) hx hb dX6_isSane_88 (by decide) ?_
          refine lv_iload_n hx hb dX6_isSane_90 rfl (lv_at hl 1 rfl) ?_
          refine lv_imul hx hb dX6_isSane_91 ?_
          refine lv_iadd hx hb dX6_isSane_92 ?_
          refine lv_iload_n hx hb dX6_isSane_93 rfl (lv_at hl 3 rfl) ?_
          refine lv_iadd hx hb dX6_isSane_94 ?_
          refine sn_ald C hP (b + 1) (sn_l hT.1 (by decide)) hT.2.2.1 hd dX6_isSane_95 (fun k5 hk5 hd => ?_)
          refine lv_iconst (v := (0 : Int32)) hx hb dX6_isSane_96 (by decide) ?_
          refine lv_aload_n hx hb dX6_isSane_97 rfl (lv_at hl 0 rfl) ?_
          obtain ⟨r6, hr6, hd⟩ := Option.bind_eq_some_iff.mp hd
          refine sn_Vi (b := b) (rest := [.int (0 : Int32), .int (st.1 (b + 1) k5)]) (As := []) (st := st) C (c_X6_k hi hT hr6) (cwV 0 hts gX6_isSane_X6_k rfl rfl rfl (by decide +kernel) ⟨Nat.le_of_ble_eq_true rfl, Nat.le_of_ble_eq_true rfl⟩) hP hS (sn_l0 hT.1 (by decide)) hT.2.1 rfl rfl hl.1 rfl (Nat.le_of_ble_eq_true rfl) dX6_isSane_98 (fun H locs hP hS => ?_)
          refine lv_iconst (v := (1 : Int32)) hx hb dX6_isSane_101 (by decide) ?_
          refine lv_isub hx hb dX6_isSane_102 ?_
          obtain ⟨r7, hr7, hd⟩ := Option.bind_eq_some_iff.mp hd
          refine sn_Si (rest := []) (As := [.int (st.1 (b + 1) k5), .int (0 : Int32), .int (r6 - (1 : Int32))]) (st := st) C (c_X6_in hi  hr7) (va_cwS 3 hts gX6_isSane_X6_in rfl rfl rfl (by decide +kernel) ⟨Nat.le_of_ble_eq_true rfl, Nat.le_of_ble_eq_true rfl⟩) hP hS rfl hl.1 rfl (Nat.le_of_ble_eq_true rfl) dX6_isSane_103 (fun H locs hP hS => ?_)
          refine lv_if_eq (tgt := 113) hx hb dX6_isSane_106 (by decide) (fun hc => ?_) (fun hc => ?_)
          · replace hd := (if_pos hc).symm.trans hd
            refine lv_iconst (v := (0 : Int32)) hx hb dX6_isSane_113 (by decide) ?_
            refine lv_istore_n (lv' := [(2, .int (0 : Int32)), (0, .ref (g.2.2.2 b)), (1, .int x1), (3, .int x3)]) hx hb dX6_isSane_114 rfl hl (by decide) rfl (fun ls hl => ?_)
            refine lv_iinc (v := (x3 + (1 : Int32))) (lv' := [(3, .int (x3 + (1 : Int32))), (2, .int (0 : Int32)), (0, .ref (g.2.2.2 b)), (1, .int x1)]) hx hb dX6_isSane_115 hl (k := 3) rfl rfl (by decide) rfl (fun ls hl => ?_)
            refine lv_goto (tgt := 57) hx hb dX6_isSane_118 (by decide) ?_
            exact ih (0 : Int32) (x3 + (1 : Int32)) _ _ _ hd hP hS (lv_sub hl [2, 3, 1, 0] rfl)
          · replace hd := (if_neg hc).symm.trans hd
            refine lv_iconst (v := (1 : Int32)) hx hb dX6_isSane_109 (by decide) ?_
            refine lv_goto (tgt := 114) hx hb dX6_isSane_110 (by decide) ?_
            refine lv_istore_n (lv' := [(2, .int (1 : Int32)), (0, .ref (g.2.2.2 b)), (1, .int x1), (3, .int x3)]) hx hb dX6_isSane_114 rfl hl (by decide) rfl (fun ls hl => ?_)
            refine lv_iinc (v := (x3 + (1 : Int32))) (lv' := [(3, .int (x3 + (1 : Int32))), (2, .int (1 : Int32)), (0, .ref (g.2.2.2 b)), (1, .int x1)]) hx hb dX6_isSane_115 hl (k := 3) rfl rfl (by decide) rfl (fun ls hl => ?_)
            refine lv_goto (tgt := 57) hx hb dX6_isSane_118 (by decide) ?_
            exact ih (1 : Int32) (x3 + (1 : Int32)) _ _ _ hd hP hS (lv_sub hl [2, 3, 1, 0] rfl)

set_option maxHeartbeats 4000000 in
set_option maxRecDepth 100000 in
theorem c_X6_isSane {l : Launch} {g : sn_G} {tb : Nat → sn_K} {N : Nat} (hi : sn_I g N) {b : Nat} {x1 : Int32} (hT : sn_Mo tb N b) {st : sn_S} {o : Int32} (hd : D_X6_isSane b x1 st = some o) : sn_Mi l yX6_isSane wsX6_isSane { frames := 4, cells := 0, slots := 0, locals := 87 } g tb N [.ref (g.2.2.2 b), .int x1] st o st := by
  refine sn_Mi.of (cc := cX6_isSane) (nL := 4) (ret := (some .boolean)) hi (by decide) rfl (Nat.le_of_ble_eq_true rfl) ?_
  intro p e s m args below meth c ls C hP hS hl
  have hl : lv_has ls 4 [(0, .ref (g.2.2.2 b)), (1, .int x1)] := hl
  obtain ⟨⟨hx, hb, hml, hown, hts⟩, hr, hlk, hC, hi⟩ := id C
  unfold D_X6_isSane at hd
  have hinX6 : ∀ w ∈ wsX60, w ∈ wsX6_isSane := by decide +kernel
  refine lv_aload_n hx hb dX6_isSane_0 rfl (lv_at hl 0 rfl) ?_
  refine sn_get (ci := 5) (Cn := RX6) (T := TX6) (n := 6) (v := .ref (g.2.2.2 (b + 1))) C hinX6 hP b (sn_l0 hT.1 (by decide)) hT.2.1 rfl 0 (by decide) (by decide +kernel) rfl rfl dX6_isSane_1 ?_
  refine lv_bipush (v := (12 : Int32)) hx hb dX6_isSane_4 (by decide) ?_
  refine lv_iload_n hx hb dX6_isSane_6 rfl (lv_at hl 1 rfl) ?_
  refine lv_iadd hx hb dX6_isSane_7 ?_
  refine sn_ald C hP (b + 1) (sn_l hT.1 (by decide)) hT.2.2.1 hd dX6_isSane_8 (fun k1 hk1 hd => ?_)
  refine lv_iconst (v := (0 : Int32)) hx hb dX6_isSane_9 (by decide) ?_
  refine lv_aload_n hx hb dX6_isSane_10 rfl (lv_at hl 0 rfl) ?_
  refine sn_get (ci := 5) (Cn := RX6) (T := TX6) (n := 6) (v := .ref (g.2.2.2 (b + 1))) C hinX6 hP b (sn_l0 hT.1 (by decide)) hT.2.1 rfl 0 (by decide) (by decide +kernel) rfl rfl dX6_isSane_11 ?_
  refine lv_sipush (v := (360 : Int32)) hx hb dX6_isSane_14 (by decide) ?_
  refine sn_aldc (k := 360) C hP (b + 1) (sn_l hT.1 (by decide)) hT.2.2.1 (by decide +kernel) dX6_isSane_17 ?_
  obtain ⟨r2, hr2, hd⟩ := Option.bind_eq_some_iff.mp hd
  refine sn_Si (rest := []) (As := [.int (st.1 (b + 1) k1), .int (0 : Int32), .int (st.1 (b + 1) 360)]) (st := st) C (c_X6_in hi  hr2) (va_cwS 3 hts gX6_isSane_X6_in rfl rfl rfl (by decide +kernel) ⟨Nat.le_of_ble_eq_true rfl, Nat.le_of_ble_eq_true rfl⟩) hP hS rfl hl.1 rfl (Nat.le_of_ble_eq_true rfl) dX6_isSane_18 (fun H locs hP hS => ?_)
  refine lv_if_eq (tgt := 53) hx hb dX6_isSane_21 (by decide) (fun hc => ?_) (fun hc => ?_)
  · replace hd := (if_pos hc).symm.trans hd
    refine lv_iconst (v := (0 : Int32)) hx hb dX6_isSane_53 (by decide) ?_
    refine lv_istore_n (lv' := [(2, .int (0 : Int32)), (0, .ref (g.2.2.2 b)), (1, .int x1)]) hx hb dX6_isSane_54 rfl hl (by decide) rfl (fun ls hl => ?_)
    refine lv_iconst (v := (0 : Int32)) hx hb dX6_isSane_55 (by decide) ?_
    refine lv_istore_n (lv' := [(3, .int (0 : Int32)), (2, .int (0 : Int32)), (0, .ref (g.2.2.2 b)), (1, .int x1)]) hx hb dX6_isSane_56 rfl hl (by decide) rfl (fun ls hl => ?_)
    exact t_X6_isSane_L57 (st := st) C hT 4096 (0 : Int32) (0 : Int32) _ _ _ hd hP hS (lv_sub hl [2, 3, 1, 0] rfl)
  · replace hd := (if_neg hc).symm.trans hd
    refine lv_aload_n hx hb dX6_isSane_24 rfl (lv_at hl 0 rfl) ?_
    refine lv_iload_n hx hb dX6_isSane_25 rfl (lv_at hl 1 rfl) ?_
    obtain ⟨r8, hr8, hd⟩ := Option.bind_eq_some_iff.mp hd
    refine sn_Vi (b := b) (rest := []) (As := [.int x1]) (st := st) C (c_X6_isSaneParent hi hT hr8) (cwV 1 hts gX6_isSane_X6_isSaneParent rfl rfl rfl (by decide +kernel) ⟨Nat.le_of_ble_eq_true rfl, Nat.le_of_ble_eq_true rfl⟩) hP hS (sn_l0 hT.1 (by decide)) hT.2.1 rfl rfl hl.1 rfl (Nat.le_of_ble_eq_true rfl) dX6_isSane_26 (fun H locs hP hS => ?_)
    refine lv_if_eq (tgt := 53) hx hb dX6_isSane_29 (by decide) (fun hc => ?_) (fun hc => ?_)
    · replace hd := (if_pos hc).symm.trans hd
      refine lv_iconst (v := (0 : Int32)) hx hb dX6_isSane_53 (by decide) ?_
      refine lv_istore_n (lv' := [(2, .int (0 : Int32)), (0, .ref (g.2.2.2 b)), (1, .int x1)]) hx hb dX6_isSane_54 rfl hl (by decide) rfl (fun ls hl => ?_)
      refine lv_iconst (v := (0 : Int32)) hx hb dX6_isSane_55 (by decide) ?_
      refine lv_istore_n (lv' := [(3, .int (0 : Int32)), (2, .int (0 : Int32)), (0, .ref (g.2.2.2 b)), (1, .int x1)]) hx hb dX6_isSane_56 rfl hl (by decide) rfl (fun ls hl => ?_)
      exact t_X6_isSane_L57 (st := st) C hT 4096 (0 : Int32) (0 : Int32) _ _ _ hd hP hS (lv_sub hl [2, 3, 1, 0] rfl)
    · replace hd := (if_neg hc).symm.trans hd
      refine lv_aload_n hx hb dX6_isSane_32 rfl (lv_at hl 0 rfl) ?_
      refine sn_get (ci := 5) (Cn := RX6) (T := TX6) (n := 6) (v := .ref (g.2.2.2 (b + 1))) C hinX6 hP b (sn_l0 hT.1 (by decide)) hT.2.1 rfl 0 (by decide) (by decide +kernel) rfl rfl dX6_isSane_33 ?_
      refine lv_bipush (v := (36 : Int32)) hx hb dX6_isSane_36 (by decide) ?_
      refine lv_iload_n hx hb dX6_isSane_38 rfl (lv_at hl 1 rfl) ?_
      refine lv_iadd hx hb dX6_isSane_39 ?_
      refine sn_ald C hP (b + 1) (sn_l hT.1 (by decide)) hT.2.2.1 hd dX6_isSane_40 (fun k9 hk9 hd => ?_)
      refine lv_iconst (v := (0 : Int32)) hx hb dX6_isSane_41 (by decide) ?_
      refine lv_iconst (v := (2 : Int32)) hx hb dX6_isSane_42 (by decide) ?_
      obtain ⟨r10, hr10, hd⟩ := Option.bind_eq_some_iff.mp hd
      refine sn_Si (rest := []) (As := [.int (st.1 (b + 1) k9), .int (0 : Int32), .int (2 : Int32)]) (st := st) C (c_X6_in hi  hr10) (va_cwS 3 hts gX6_isSane_X6_in rfl rfl rfl (by decide +kernel) ⟨Nat.le_of_ble_eq_true rfl, Nat.le_of_ble_eq_true rfl⟩) hP hS rfl hl.1 rfl (Nat.le_of_ble_eq_true rfl) dX6_isSane_43 (fun H locs hP hS => ?_)
      refine lv_if_eq (tgt := 53) hx hb dX6_isSane_46 (by decide) (fun hc => ?_) (fun hc => ?_)
      · replace hd := (if_pos hc).symm.trans hd
        refine lv_iconst (v := (0 : Int32)) hx hb dX6_isSane_53 (by decide) ?_
        refine lv_istore_n (lv' := [(2, .int (0 : Int32)), (0, .ref (g.2.2.2 b)), (1, .int x1)]) hx hb dX6_isSane_54 rfl hl (by decide) rfl (fun ls hl => ?_)
        refine lv_iconst (v := (0 : Int32)) hx hb dX6_isSane_55 (by decide) ?_
        refine lv_istore_n (lv' := [(3, .int (0 : Int32)), (2, .int (0 : Int32)), (0, .ref (g.2.2.2 b)), (1, .int x1)]) hx hb dX6_isSane_56 rfl hl (by decide) rfl (fun ls hl => ?_)
        exact t_X6_isSane_L57 (st := st) C hT 4096 (0 : Int32) (0 : Int32) _ _ _ hd hP hS (lv_sub hl [2, 3, 1, 0] rfl)
      · replace hd := (if_neg hc).symm.trans hd
        refine lv_iconst (v := (1 : Int32)) hx hb dX6_isSane_49 (by decide) ?_
        refine lv_goto (tgt := 54) hx hb dX6_isSane_50 (by decide) ?_
        refine lv_istore_n (lv' := [(2, .int (1 : Int32)), (0, .ref (g.2.2.2 b)), (1, .int x1)]) hx hb dX6_isSane_54 rfl hl (by decide) rfl (fun ls hl => ?_)
        refine lv_iconst (v := (0 : Int32)) hx hb dX6_isSane_55 (by decide) ?_
        refine lv_istore_n (lv' := [(3, .int (0 : Int32)), (2, .int (1 : Int32)), (0, .ref (g.2.2.2 b)), (1, .int x1)]) hx hb dX6_isSane_56 rfl hl (by decide) rfl (fun ls hl => ?_)
        exact t_X6_isSane_L57 (st := st) C hT 4096 (1 : Int32) (0 : Int32) _ _ _ hd hP hS (lv_sub hl [2, 3, 1, 0] rfl)

set_option maxHeartbeats 4000000 in
set_option maxRecDepth 100000 in
theorem c_X6_distOf {l : Launch} {g : sn_G} {tb : Nat → sn_K} {N : Nat} (hi : sn_I g N) {b : Nat} {x1 : Int32} (hT : sn_Mo tb N b) {st : sn_S} {o : Int32} (hd : D_X6_distOf b x1 st = some o) : sn_Mi l yX6_distOf wsX6_distOf { frames := 1, cells := 0, slots := 0, locals := 22 } g tb N [.ref (g.2.2.2 b), .int x1] st o st := by
  refine sn_Mi.of (cc := cX6_distOf) (nL := 2) (ret := (some .int)) hi (by decide) rfl (Nat.le_of_ble_eq_true rfl) ?_
  intro p e s m args below meth c ls C hP hS hl
  have hl : lv_has ls 2 [(0, .ref (g.2.2.2 b)), (1, .int x1)] := hl
  obtain ⟨⟨hx, hb, hml, hown, hts⟩, hr, hlk, hC, hi⟩ := id C
  unfold D_X6_distOf at hd
  have hinX6 : ∀ w ∈ wsX60, w ∈ wsX6_distOf := by decide +kernel
  refine lv_aload_n hx hb dX6_distOf_0 rfl (lv_at hl 0 rfl) ?_
  refine sn_get (ci := 5) (Cn := RX6) (T := TX6) (n := 6) (v := .ref (g.2.2.2 (b + 1))) C hinX6 hP b (sn_l0 hT.1 (by decide)) hT.2.1 rfl 0 (by decide) (by decide +kernel) rfl rfl dX6_distOf_1 ?_
  refine lv_bipush (v := (12 : Int32)) hx hb dX6_distOf_4 (by decide) ?_
  refine lv_iload_n hx hb dX6_distOf_6 rfl (lv_at hl 1 rfl) ?_
  refine lv_iadd hx hb dX6_distOf_7 ?_
  refine sn_ald C hP (b + 1) (sn_l hT.1 (by decide)) hT.2.2.1 hd dX6_distOf_8 (fun k1 hk1 hd => ?_)
  refine lv_iconst (v := (0 : Int32)) hx hb dX6_distOf_9 (by decide) ?_
  refine lv_aload_n hx hb dX6_distOf_10 rfl (lv_at hl 0 rfl) ?_
  refine sn_get (ci := 5) (Cn := RX6) (T := TX6) (n := 6) (v := .ref (g.2.2.2 (b + 1))) C hinX6 hP b (sn_l0 hT.1 (by decide)) hT.2.1 rfl 0 (by decide) (by decide +kernel) rfl rfl dX6_distOf_11 ?_
  refine lv_sipush (v := (360 : Int32)) hx hb dX6_distOf_14 (by decide) ?_
  refine sn_aldc (k := 360) C hP (b + 1) (sn_l hT.1 (by decide)) hT.2.2.1 (by decide +kernel) dX6_distOf_17 ?_
  obtain ⟨r2, hr2, hd⟩ := Option.bind_eq_some_iff.mp hd
  refine sn_Si (rest := []) (As := [.int (st.1 (b + 1) k1), .int (0 : Int32), .int (st.1 (b + 1) 360)]) (st := st) C (c_X6_in hi  hr2) (va_cwS 3 hts gX6_distOf_X6_in rfl rfl rfl (by decide +kernel) ⟨Nat.le_of_ble_eq_true rfl, Nat.le_of_ble_eq_true rfl⟩) hP hS rfl hl.1 rfl (Nat.le_of_ble_eq_true rfl) dX6_distOf_18 (fun H locs hP hS => ?_)
  refine lv_if_eq (tgt := 36) hx hb dX6_distOf_21 (by decide) (fun hc => ?_) (fun hc => ?_)
  · replace hd := (if_pos hc).symm.trans hd
    refine lv_aload_n hx hb dX6_distOf_36 rfl (lv_at hl 0 rfl) ?_
    refine sn_get (ci := 5) (Cn := RX6) (T := TX6) (n := 6) (v := .ref (g.2.2.2 (b + 1))) C hinX6 hP b (sn_l0 hT.1 (by decide)) hT.2.1 rfl 0 (by decide) (by decide +kernel) rfl rfl dX6_distOf_37 ?_
    refine lv_sipush (v := (360 : Int32)) hx hb dX6_distOf_40 (by decide) ?_
    refine sn_aldc (k := 360) C hP (b + 1) (sn_l hT.1 (by decide)) hT.2.2.1 (by decide +kernel) dX6_distOf_43 ?_
    have ho := Option.some.inj hd
    subst ho
    exact sn_ri C hP hS dX6_distOf_44
  · replace hd := (if_neg hc).symm.trans hd
    refine lv_aload_n hx hb dX6_distOf_24 rfl (lv_at hl 0 rfl) ?_
    refine sn_get (ci := 5) (Cn := RX6) (T := TX6) (n := 6) (v := .ref (g.2.2.2 (b + 1))) C hinX6 hP b (sn_l0 hT.1 (by decide)) hT.2.1 rfl 0 (by decide) (by decide +kernel) rfl rfl dX6_distOf_25 ?_
    refine lv_bipush (v := (12 : Int32)) hx hb dX6_distOf_28 (by decide) ?_
    refine lv_iload_n hx hb dX6_distOf_30 rfl (lv_at hl 1 rfl) ?_
    refine lv_iadd hx hb dX6_distOf_31 ?_
    refine sn_ald C hP (b + 1) (sn_l hT.1 (by decide)) hT.2.2.1 hd dX6_distOf_32 (fun k3 hk3 hd => ?_)
    refine lv_goto (tgt := 44) hx hb dX6_distOf_33 (by decide) ?_
    have ho := Option.some.inj hd
    subst ho
    exact sn_ri C hP hS dX6_distOf_44

set_option maxHeartbeats 4000000 in
set_option maxRecDepth 100000 in
theorem t_X6_treeParent_L4 {p : Program} {l : Launch} {e : Env} {s : State} {m : MethodId} {args : Array Value} {below : List Frame} {meth : Method} {c : Code} {g : sn_G} {tb : Nat → sn_K} {N : Nat} {b : Nat} {x1 : Int32} {st : sn_S} {o : Int32} (C : sn_Cx p s m args meth c g N cX6_treeParent 4 wsX6_treeParent yX6_treeParent.cls (some .int)) (hT : sn_Mo tb N b)  : ∀ (n : Nat) (x2 : Int32) (x3 : Int32) (H : Heap) (locs : List Loc) (ls : Array Slot), D_X6_treeParent_L4 b x1 st n x2 x3 = some o → va_P g.1 vwCl (sn_W g tb N st) H → va_S (sn_A g N) s.heap H locs → lv_has ls 4 [(0, .ref (g.2.2.2 b)), (1, .int x1), (2, .int x2), (3, .int x3)] → W p l e { frames := 3, cells := 0, slots := 0, locals := 65 } s m args below meth c H locs 0 0 (MQ below (sn_Qi g tb N o st) args s 0 0 (sn_A g N)) (F0 m 4 ls []) := by
  obtain ⟨⟨hx, hb, hml, hown, hts⟩, hr, hlk, hC, hi⟩ := id C
  have hinX6 : ∀ w ∈ wsX60, w ∈ wsX6_treeParent := by decide +kernel
  intro n
  induction n with
  | zero => intro _ _ _ _ _ hd; exact nomatch (show (none : Option (Int32)) = some o from hd)
  | succ n ih =>
    intro x2 x3 H locs ls hd hP hS hl
    replace hd := (D_X6_treeParent_L4.eq_2 _ _ _ _ _ _).symm.trans hd
    refine lv_iload_n hx hb dX6_treeParent_4 rfl (lv_at hl 3 rfl) ?_
    refine lv_aload_n hx hb dX6_treeParent_5 rfl (lv_at hl 0 rfl) ?_
    refine sn_get (ci := 5) (Cn := RX6) (T := TX6) (n := 6) (v := .ref (g.2.2.2 (b + 1))) C hinX6 hP b (sn_l0 hT.1 (by decide)) hT.2.1 rfl 0 (by decide) (by decide +kernel) rfl rfl dX6_treeParent_6 ?_
    refine lv_sipush (v := (360 : Int32)) hx hb dX6_treeParent_9 (by decide) ?_
    refine sn_aldc (k := 360) C hP (b + 1) (sn_l hT.1 (by decide)) hT.2.2.1 (by decide +kernel) dX6_treeParent_12 ?_
    refine lv_icmp_ge (tgt := 55) hx hb dX6_treeParent_13 (by decide) (fun hc => ?_) (fun hc => ?_)
    · replace hd := (if_pos hc).symm.trans hd
      refine lv_iload_n hx hb dX6_treeParent_55 rfl (lv_at hl 2 rfl) ?_
      have ho := Option.some.inj hd
      subst ho
      exact sn_ri C hP hS dX6_treeParent_56
    · replace hd := (if_neg hc).symm.trans hd
      refine lv_iload_n hx hb dX6_treeParent_16 rfl (lv_at hl 1 rfl) ?_
      refine lv_if_eq (tgt := 55) hx hb dX6_treeParent_17 (by decide) (fun hc => ?_) (fun hc => ?_)
      · replace hd := (if_pos hc).symm.trans hd
        refine lv_iload_n hx hb dX6_treeParent_55 rfl (lv_at hl 2 rfl) ?_
        have ho := Option.some.inj hd
        subst ho
        exact sn_ri C hP hS dX6_treeParent_56
      · replace hd := (if_neg hc).symm.trans hd
        refine lv_aload_n hx hb dX6_treeParent_20 rfl (lv_at hl 0 rfl) ?_
        refine lv_iload_n hx hb dX6_treeParent_21 rfl (lv_at hl 1 rfl) ?_
        refine lv_iload_n hx hb dX6_treeParent_22 rfl (lv_at hl 3 rfl) ?_
        obtain ⟨r1, hr1, hd⟩ := Option.bind_eq_some_iff.mp hd
        refine sn_Vi (b := b) (rest := []) (As := [.int x1, .int x3]) (st := st) C (c_X6_isLink hi hT hr1) (cwV 2 hts gX6_treeParent_X6_isLink rfl rfl rfl (by decide +kernel) ⟨Nat.le_of_ble_eq_true rfl, Nat.le_of_ble_eq_true rfl⟩) hP hS (sn_l0 hT.1 (by decide)) hT.2.1 rfl rfl hl.1 rfl (Nat.le_of_ble_eq_true rfl) dX6_treeParent_23 (fun H locs hP hS => ?_)
        refine lv_if_eq (tgt := 49) hx hb dX6_treeParent_26 (by decide) (fun hc => ?_) (fun hc => ?_)
        · replace hd := (if_pos hc).symm.trans hd
          refine lv_iinc (v := (x3 + (1 : Int32))) (lv' := [(3, .int (x3 + (1 : Int32))), (0, .ref (g.2.2.2 b)), (1, .int x1), (2, .int x2)]) hx hb dX6_treeParent_49 hl (k := 3) rfl rfl (by decide) rfl (fun ls hl => ?_)
          refine lv_goto (tgt := 4) hx hb dX6_treeParent_52 (by decide) ?_
          exact ih x2 (x3 + (1 : Int32)) _ _ _ hd hP hS (lv_sub hl [1, 2, 3, 0] rfl)
        · replace hd := (if_neg hc).symm.trans hd
          refine lv_iload_n hx hb dX6_treeParent_29 rfl (lv_at hl 2 rfl) ?_
          refine lv_iconst (v := (-1 : Int32)) hx hb dX6_treeParent_30 (by decide) ?_
          refine lv_icmp_eq (tgt := 47) hx hb dX6_treeParent_31 (by decide) (fun hc => ?_) (fun hc => ?_)
          · replace hd := (if_pos hc).symm.trans hd
            refine lv_iload_n hx hb dX6_treeParent_47 rfl (lv_at hl 3 rfl) ?_
            refine lv_istore_n (lv' := [(2, .int x3), (0, .ref (g.2.2.2 b)), (1, .int x1), (3, .int x3)]) hx hb dX6_treeParent_48 rfl hl (by decide) rfl (fun ls hl => ?_)
            refine lv_iinc (v := (x3 + (1 : Int32))) (lv' := [(3, .int (x3 + (1 : Int32))), (2, .int x3), (0, .ref (g.2.2.2 b)), (1, .int x1)]) hx hb dX6_treeParent_49 hl (k := 3) rfl rfl (by decide) rfl (fun ls hl => ?_)
            refine lv_goto (tgt := 4) hx hb dX6_treeParent_52 (by decide) ?_
            exact ih x3 (x3 + (1 : Int32)) _ _ _ hd hP hS (lv_sub hl [2, 3, 1, 0] rfl)
          · replace hd := (if_neg hc).symm.trans hd
            refine lv_aload_n hx hb dX6_treeParent_34 rfl (lv_at hl 0 rfl) ?_
            refine lv_iload_n hx hb dX6_treeParent_35 rfl (lv_at hl 3 rfl) ?_
            obtain ⟨r2, hr2, hd⟩ := Option.bind_eq_some_iff.mp hd
            refine sn_Vi (b := b) (rest := []) (As := [.int x3]) (st := st) C (c_X6_distOf hi hT hr2) (cwV 1 hts gX6_treeParent_X6_distOf rfl rfl rfl (by decide +kernel) ⟨Nat.le_of_ble_eq_true rfl, Nat.le_of_ble_eq_true rfl⟩) hP hS (sn_l0 hT.1 (by decide)) hT.2.1 rfl rfl hl.1 rfl (Nat.le_of_ble_eq_true rfl) dX6_treeParent_36 (fun H locs hP hS => ?_)
            refine lv_aload_n hx hb dX6_treeParent_39 rfl (lv_at hl 0 rfl) ?_
            refine lv_iload_n hx hb dX6_treeParent_40 rfl (lv_at hl 2 rfl) ?_
            obtain ⟨r3, hr3, hd⟩ := Option.bind_eq_some_iff.mp hd
            refine sn_Vi (b := b) (rest := [.int r2]) (As := [.int x2]) (st := st) C (c_X6_distOf hi hT hr3) (cwV 1 hts gX6_treeParent_X6_distOf rfl rfl rfl (by decide +kernel) ⟨Nat.le_of_ble_eq_true rfl, Nat.le_of_ble_eq_true rfl⟩) hP hS (sn_l0 hT.1 (by decide)) hT.2.1 rfl rfl hl.1 rfl (Nat.le_of_ble_eq_true rfl) dX6_treeParent_41 (fun H locs hP hS => ?_)
            refine lv_icmp_ge (tgt := 49) hx hb dX6_treeParent_44 (by decide) (fun hc => ?_) (fun hc => ?_)
            · replace hd := (if_pos hc).symm.trans hd
              refine lv_iinc (v := (x3 + (1 : Int32))) (lv' := [(3, .int (x3 + (1 : Int32))), (0, .ref (g.2.2.2 b)), (1, .int x1), (2, .int x2)]) hx hb dX6_treeParent_49 hl (k := 3) rfl rfl (by decide) rfl (fun ls hl => ?_)
              refine lv_goto (tgt := 4) hx hb dX6_treeParent_52 (by decide) ?_
              exact ih x2 (x3 + (1 : Int32)) _ _ _ hd hP hS (lv_sub hl [1, 2, 3, 0] rfl)
            · replace hd := (if_neg hc).symm.trans hd
              refine lv_iload_n hx hb dX6_treeParent_47 rfl (lv_at hl 3 rfl) ?_
              refine lv_istore_n (lv' := [(2, .int x3), (0, .ref (g.2.2.2 b)), (1, .int x1), (3, .int x3)]) hx hb dX6_treeParent_48 rfl hl (by decide) rfl (fun ls hl => ?_)
              refine lv_iinc (v := (x3 + (1 : Int32))) (lv' := [(3, .int (x3 + (1 : Int32))), (2, .int x3), (0, .ref (g.2.2.2 b)), (1, .int x1)]) hx hb dX6_treeParent_49 hl (k := 3) rfl rfl (by decide) rfl (fun ls hl => ?_)
              refine lv_goto (tgt := 4) hx hb dX6_treeParent_52 (by decide) ?_
              exact ih x3 (x3 + (1 : Int32)) _ _ _ hd hP hS (lv_sub hl [2, 3, 1, 0] rfl)

set_option maxHeartbeats 4000000 in
set_option maxRecDepth 100000 in
theorem c_X6_treeParent {l : Launch} {g : sn_G} {tb : Nat → sn_K} {N : Nat} (hi : sn_I g N) {b : Nat} {x1 : Int32} (hT : sn_Mo tb N b) {st : sn_S} {o : Int32} (hd : D_X6_treeParent b x1 st = some o) : sn_Mi l yX6_treeParent wsX6_treeParent { frames := 3, cells := 0, slots := 0, locals := 65 } g tb N [.ref (g.2.2.2 b), .int x1] st o st := by
  refine sn_Mi.of (cc := cX6_treeParent) (nL := 4) (ret := (some .int)) hi (by decide) rfl (Nat.le_of_ble_eq_true rfl) ?_
  intro p e s m args below meth c ls C hP hS hl
  have hl : lv_has ls 4 [(0, .ref (g.2.2.2 b)), (1, .int x1)] := hl
  obtain ⟨⟨hx, hb, hml, hown, hts⟩, hr, hlk, hC, hi⟩ := id C
  unfold D_X6_treeParent at hd
  have hinX6 : ∀ w ∈ wsX60, w ∈ wsX6_treeParent := by decide +kernel
  refine lv_iconst (v := (-1 : Int32)) hx hb dX6_treeParent_0 (by decide) ?_
  refine lv_istore_n (lv' := [(2, .int (-1 : Int32)), (0, .ref (g.2.2.2 b)), (1, .int x1)]) hx hb dX6_treeParent_1 rfl hl (by decide) rfl (fun ls hl => ?_)
  refine lv_iconst (v := (0 : Int32)) hx hb dX6_treeParent_2 (by decide) ?_
  refine lv_istore_n (lv' := [(3, .int (0 : Int32)), (2, .int (-1 : Int32)), (0, .ref (g.2.2.2 b)), (1, .int x1)]) hx hb dX6_treeParent_3 rfl hl (by decide) rfl (fun ls hl => ?_)
  exact t_X6_treeParent_L4 (st := st) C hT 4096 (-1 : Int32) (0 : Int32) _ _ _ hd hP hS (lv_sub hl [2, 3, 1, 0] rfl)

set_option maxHeartbeats 4000000 in
set_option maxRecDepth 100000 in
theorem c_X6_treeDist {l : Launch} {g : sn_G} {tb : Nat → sn_K} {N : Nat} (hi : sn_I g N) {b : Nat} {x1 : Int32} (hT : sn_Mo tb N b) {st : sn_S} {o : Int32} (hd : D_X6_treeDist b x1 st = some o) : sn_Mi l yX6_treeDist wsX6_treeDist { frames := 4, cells := 0, slots := 0, locals := 88 } g tb N [.ref (g.2.2.2 b), .int x1] st o st := by
  refine sn_Mi.of (cc := cX6_treeDist) (nL := 3) (ret := (some .int)) hi (by decide) rfl (Nat.le_of_ble_eq_true rfl) ?_
  intro p e s m args below meth c ls C hP hS hl
  have hl : lv_has ls 3 [(0, .ref (g.2.2.2 b)), (1, .int x1)] := hl
  obtain ⟨⟨hx, hb, hml, hown, hts⟩, hr, hlk, hC, hi⟩ := id C
  unfold D_X6_treeDist at hd
  have hinX6 : ∀ w ∈ wsX60, w ∈ wsX6_treeDist := by decide +kernel
  refine lv_iload_n hx hb dX6_treeDist_0 rfl (lv_at hl 1 rfl) ?_
  refine lv_if_ne (tgt := 6) hx hb dX6_treeDist_1 (by decide) (fun hc => ?_) (fun hc => ?_)
  · replace hd := (if_neg hc).symm.trans hd
    refine lv_aload_n hx hb dX6_treeDist_6 rfl (lv_at hl 0 rfl) ?_
    refine lv_aload_n hx hb dX6_treeDist_7 rfl (lv_at hl 0 rfl) ?_
    refine lv_iload_n hx hb dX6_treeDist_8 rfl (lv_at hl 1 rfl) ?_
    obtain ⟨r1, hr1, hd⟩ := Option.bind_eq_some_iff.mp hd
    refine sn_Vi (b := b) (rest := [.ref (g.2.2.2 b)]) (As := [.int x1]) (st := st) C (c_X6_treeParent hi hT hr1) (cwV 1 hts gX6_treeDist_X6_treeParent rfl rfl rfl (by decide +kernel) ⟨Nat.le_of_ble_eq_true rfl, Nat.le_of_ble_eq_true rfl⟩) hP hS (sn_l0 hT.1 (by decide)) hT.2.1 rfl rfl hl.1 rfl (Nat.le_of_ble_eq_true rfl) dX6_treeDist_9 (fun H locs hP hS => ?_)
    obtain ⟨r2, hr2, hd⟩ := Option.bind_eq_some_iff.mp hd
    refine sn_Vi (b := b) (rest := []) (As := [.int r1]) (st := st) C (c_X6_distOf hi hT hr2) (cwV 1 hts gX6_treeDist_X6_distOf rfl rfl rfl (by decide +kernel) ⟨Nat.le_of_ble_eq_true rfl, Nat.le_of_ble_eq_true rfl⟩) hP hS (sn_l0 hT.1 (by decide)) hT.2.1 rfl rfl hl.1 rfl (Nat.le_of_ble_eq_true rfl) dX6_treeDist_12 (fun H locs hP hS => ?_)
    refine lv_iconst (v := (1 : Int32)) hx hb dX6_treeDist_15 (by decide) ?_
    refine lv_iadd hx hb dX6_treeDist_16 ?_
    refine lv_istore_n (lv' := [(2, .int (r2 + (1 : Int32))), (0, .ref (g.2.2.2 b)), (1, .int x1)]) hx hb dX6_treeDist_17 rfl hl (by decide) rfl (fun ls hl => ?_)
    refine lv_iload_n hx hb dX6_treeDist_18 rfl (lv_at hl 0 rfl) ?_
    refine lv_aload_n hx hb dX6_treeDist_19 rfl (lv_at hl 1 rfl) ?_
    refine sn_get (ci := 5) (Cn := RX6) (T := TX6) (n := 6) (v := .ref (g.2.2.2 (b + 1))) C hinX6 hP b (sn_l0 hT.1 (by decide)) hT.2.1 rfl 0 (by decide) (by decide +kernel) rfl rfl dX6_treeDist_20 ?_
    refine lv_sipush (v := (360 : Int32)) hx hb dX6_treeDist_23 (by decide) ?_
    refine sn_aldc (k := 360) C hP (b + 1) (sn_l hT.1 (by decide)) hT.2.2.1 (by decide +kernel) dX6_treeDist_26 ?_
    refine lv_icmp_le (tgt := 41) hx hb dX6_treeDist_27 (by decide) (fun hc => ?_) (fun hc => ?_)
    · replace hd := (if_pos hc).symm.trans hd
      refine lv_iload_n hx hb dX6_treeDist_41 rfl (lv_at hl 0 rfl) ?_
      have ho := Option.some.inj hd
      subst ho
      exact sn_ri C hP hS dX6_treeDist_42
    · replace hd := (if_neg hc).symm.trans hd
      refine lv_aload_n hx hb dX6_treeDist_30 rfl (lv_at hl 1 rfl) ?_
      refine sn_get (ci := 5) (Cn := RX6) (T := TX6) (n := 6) (v := .ref (g.2.2.2 (b + 1))) C hinX6 hP b (sn_l0 hT.1 (by decide)) hT.2.1 rfl 0 (by decide) (by decide +kernel) rfl rfl dX6_treeDist_31 ?_
      refine lv_sipush (v := (360 : Int32)) hx hb dX6_treeDist_34 (by decide) ?_
      refine sn_aldc (k := 360) C hP (b + 1) (sn_l hT.1 (by decide)) hT.2.2.1 (by decide +kernel) dX6_treeDist_37 ?_
      refine lv_goto (tgt := 42) hx hb dX6_treeDist_38 (by decide) ?_
      have ho := Option.some.inj hd
      subst ho
      exact sn_ri C hP hS dX6_treeDist_42
  · replace hd := (if_pos hc).symm.trans hd
    refine lv_iconst (v := (0 : Int32)) hx hb dX6_treeDist_4 (by decide) ?_
    have ho := Option.some.inj hd
    subst ho
    exact sn_ri C hP hS dX6_treeDist_5

set_option maxHeartbeats 4000000 in
set_option maxRecDepth 100000 in
theorem c_X6_parentOf {l : Launch} {g : sn_G} {tb : Nat → sn_K} {N : Nat} (hi : sn_I g N) {b : Nat} {x1 : Int32} (hT : sn_Mo tb N b) {st : sn_S} {o : Int32} (hd : D_X6_parentOf b x1 st = some o) : sn_Mi l yX6_parentOf wsX6_parentOf { frames := 4, cells := 0, slots := 0, locals := 87 } g tb N [.ref (g.2.2.2 b), .int x1] st o st := by
  refine sn_Mi.of (cc := cX6_parentOf) (nL := 2) (ret := (some .int)) hi (by decide) rfl (Nat.le_of_ble_eq_true rfl) ?_
  intro p e s m args below meth c ls C hP hS hl
  have hl : lv_has ls 2 [(0, .ref (g.2.2.2 b)), (1, .int x1)] := hl
  obtain ⟨⟨hx, hb, hml, hown, hts⟩, hr, hlk, hC, hi⟩ := id C
  unfold D_X6_parentOf at hd
  have hinX6 : ∀ w ∈ wsX60, w ∈ wsX6_parentOf := by decide +kernel
  refine lv_aload_n hx hb dX6_parentOf_0 rfl (lv_at hl 0 rfl) ?_
  refine lv_iload_n hx hb dX6_parentOf_1 rfl (lv_at hl 1 rfl) ?_
  obtain ⟨r1, hr1, hd⟩ := Option.bind_eq_some_iff.mp hd
  refine sn_Vi (b := b) (rest := []) (As := [.int x1]) (st := st) C (c_X6_isSaneParent hi hT hr1) (cwV 1 hts gX6_parentOf_X6_isSaneParent rfl rfl rfl (by decide +kernel) ⟨Nat.le_of_ble_eq_true rfl, Nat.le_of_ble_eq_true rfl⟩) hP hS (sn_l0 hT.1 (by decide)) hT.2.1 rfl rfl hl.1 rfl (Nat.le_of_ble_eq_true rfl) dX6_parentOf_2 (fun H locs hP hS => ?_)
  refine lv_if_eq (tgt := 20) hx hb dX6_parentOf_5 (by decide) (fun hc => ?_) (fun hc => ?_)
  · replace hd := (if_pos hc).symm.trans hd
    refine lv_iconst (v := (-1 : Int32)) hx hb dX6_parentOf_20 (by decide) ?_
    have ho := Option.some.inj hd
    subst ho
    exact sn_ri C hP hS dX6_parentOf_21
  · replace hd := (if_neg hc).symm.trans hd
    refine lv_aload_n hx hb dX6_parentOf_8 rfl (lv_at hl 0 rfl) ?_
    refine sn_get (ci := 5) (Cn := RX6) (T := TX6) (n := 6) (v := .ref (g.2.2.2 (b + 1))) C hinX6 hP b (sn_l0 hT.1 (by decide)) hT.2.1 rfl 0 (by decide) (by decide +kernel) rfl rfl dX6_parentOf_9 ?_
    refine lv_bipush (v := (24 : Int32)) hx hb dX6_parentOf_12 (by decide) ?_
    refine lv_iload_n hx hb dX6_parentOf_14 rfl (lv_at hl 1 rfl) ?_
    refine lv_iadd hx hb dX6_parentOf_15 ?_
    refine sn_ald C hP (b + 1) (sn_l hT.1 (by decide)) hT.2.2.1 hd dX6_parentOf_16 (fun k2 hk2 hd => ?_)
    refine lv_goto (tgt := 21) hx hb dX6_parentOf_17 (by decide) ?_
    have ho := Option.some.inj hd
    subst ho
    exact sn_ri C hP hS dX6_parentOf_21

set_option maxHeartbeats 4000000 in
set_option maxRecDepth 100000 in
theorem c_X6_isChild {l : Launch} {g : sn_G} {tb : Nat → sn_K} {N : Nat} (hi : sn_I g N) {b : Nat} {x1 : Int32} {x2 : Int32} (hT : sn_Mo tb N b) {st : sn_S} {o : Int32} (hd : D_X6_isChild b x1 x2 st = some o) : sn_Mi l yX6_isChild wsX6_isChild { frames := 5, cells := 0, slots := 0, locals := 108 } g tb N [.ref (g.2.2.2 b), .int x1, .int x2] st o st := by
  refine sn_Mi.of (cc := cX6_isChild) (nL := 3) (ret := (some .boolean)) hi (by decide) rfl (Nat.le_of_ble_eq_true rfl) ?_
  intro p e s m args below meth c ls C hP hS hl
  have hl : lv_has ls 3 [(0, .ref (g.2.2.2 b)), (1, .int x1), (2, .int x2)] := hl
  obtain ⟨⟨hx, hb, hml, hown, hts⟩, hr, hlk, hC, hi⟩ := id C
  unfold D_X6_isChild at hd
  refine lv_aload_n hx hb dX6_isChild_0 rfl (lv_at hl 0 rfl) ?_
  refine lv_iload_n hx hb dX6_isChild_1 rfl (lv_at hl 1 rfl) ?_
  refine lv_iload_n hx hb dX6_isChild_2 rfl (lv_at hl 2 rfl) ?_
  obtain ⟨r1, hr1, hd⟩ := Option.bind_eq_some_iff.mp hd
  refine sn_Vi (b := b) (rest := []) (As := [.int x1, .int x2]) (st := st) C (c_X6_isLink hi hT hr1) (cwV 2 hts gX6_isChild_X6_isLink rfl rfl rfl (by decide +kernel) ⟨Nat.le_of_ble_eq_true rfl, Nat.le_of_ble_eq_true rfl⟩) hP hS (sn_l0 hT.1 (by decide)) hT.2.1 rfl rfl hl.1 rfl (Nat.le_of_ble_eq_true rfl) dX6_isChild_3 (fun H locs hP hS => ?_)
  refine lv_if_eq (tgt := 22) hx hb dX6_isChild_6 (by decide) (fun hc => ?_) (fun hc => ?_)
  · replace hd := (if_pos hc).symm.trans hd
    refine lv_iconst (v := (0 : Int32)) hx hb dX6_isChild_22 (by decide) ?_
    have ho := Option.some.inj hd
    subst ho
    exact sn_rz (Or.inl rfl) C hP hS dX6_isChild_23
  · replace hd := (if_neg hc).symm.trans hd
    refine lv_aload_n hx hb dX6_isChild_9 rfl (lv_at hl 0 rfl) ?_
    refine lv_iload_n hx hb dX6_isChild_10 rfl (lv_at hl 2 rfl) ?_
    obtain ⟨r2, hr2, hd⟩ := Option.bind_eq_some_iff.mp hd
    refine sn_Vi (b := b) (rest := []) (As := [.int x2]) (st := st) C (c_X6_parentOf hi hT hr2) (cwV 1 hts gX6_isChild_X6_parentOf rfl rfl rfl (by decide +kernel) ⟨Nat.le_of_ble_eq_true rfl, Nat.le_of_ble_eq_true rfl⟩) hP hS (sn_l0 hT.1 (by decide)) hT.2.1 rfl rfl hl.1 rfl (Nat.le_of_ble_eq_true rfl) dX6_isChild_11 (fun H locs hP hS => ?_)
    refine lv_iload_n hx hb dX6_isChild_14 rfl (lv_at hl 1 rfl) ?_
    refine lv_icmp_ne (tgt := 22) hx hb dX6_isChild_15 (by decide) (fun hc => ?_) (fun hc => ?_)
    · replace hd := (if_neg hc).symm.trans hd
      refine lv_iconst (v := (0 : Int32)) hx hb dX6_isChild_22 (by decide) ?_
      have ho := Option.some.inj hd
      subst ho
      exact sn_rz (Or.inl rfl) C hP hS dX6_isChild_23
    · replace hd := (if_pos hc).symm.trans hd
      refine lv_iconst (v := (1 : Int32)) hx hb dX6_isChild_18 (by decide) ?_
      refine lv_goto (tgt := 23) hx hb dX6_isChild_19 (by decide) ?_
      have ho := Option.some.inj hd
      subst ho
      exact sn_rz (Or.inr rfl) C hP hS dX6_isChild_23

set_option maxHeartbeats 4000000 in
set_option maxRecDepth 100000 in
theorem c_X6_phaseOf {l : Launch} {g : sn_G} {tb : Nat → sn_K} {N : Nat} (hi : sn_I g N) {b : Nat} {x1 : Int32} (hT : sn_Mo tb N b) {st : sn_S} {o : Int32} (hd : D_X6_phaseOf b x1 st = some o) : sn_Mi l yX6_phaseOf wsX6_phaseOf { frames := 1, cells := 0, slots := 0, locals := 22 } g tb N [.ref (g.2.2.2 b), .int x1] st o st := by
  refine sn_Mi.of (cc := cX6_phaseOf) (nL := 2) (ret := (some .int)) hi (by decide) rfl (Nat.le_of_ble_eq_true rfl) ?_
  intro p e s m args below meth c ls C hP hS hl
  have hl : lv_has ls 2 [(0, .ref (g.2.2.2 b)), (1, .int x1)] := hl
  obtain ⟨⟨hx, hb, hml, hown, hts⟩, hr, hlk, hC, hi⟩ := id C
  unfold D_X6_phaseOf at hd
  have hinX6 : ∀ w ∈ wsX60, w ∈ wsX6_phaseOf := by decide +kernel
  refine lv_aload_n hx hb dX6_phaseOf_0 rfl (lv_at hl 0 rfl) ?_
  refine sn_get (ci := 5) (Cn := RX6) (T := TX6) (n := 6) (v := .ref (g.2.2.2 (b + 1))) C hinX6 hP b (sn_l0 hT.1 (by decide)) hT.2.1 rfl 0 (by decide) (by decide +kernel) rfl rfl dX6_phaseOf_1 ?_
  refine lv_bipush (v := (36 : Int32)) hx hb dX6_phaseOf_4 (by decide) ?_
  refine lv_iload_n hx hb dX6_phaseOf_6 rfl (lv_at hl 1 rfl) ?_
  refine lv_iadd hx hb dX6_phaseOf_7 ?_
  refine sn_ald C hP (b + 1) (sn_l hT.1 (by decide)) hT.2.2.1 hd dX6_phaseOf_8 (fun k1 hk1 hd => ?_)
  refine lv_iconst (v := (0 : Int32)) hx hb dX6_phaseOf_9 (by decide) ?_
  refine lv_iconst (v := (2 : Int32)) hx hb dX6_phaseOf_10 (by decide) ?_
  obtain ⟨r2, hr2, hd⟩ := Option.bind_eq_some_iff.mp hd
  refine sn_Si (rest := []) (As := [.int (st.1 (b + 1) k1), .int (0 : Int32), .int (2 : Int32)]) (st := st) C (c_X6_in hi  hr2) (va_cwS 3 hts gX6_phaseOf_X6_in rfl rfl rfl (by decide +kernel) ⟨Nat.le_of_ble_eq_true rfl, Nat.le_of_ble_eq_true rfl⟩) hP hS rfl hl.1 rfl (Nat.le_of_ble_eq_true rfl) dX6_phaseOf_11 (fun H locs hP hS => ?_)
  refine lv_if_eq (tgt := 29) hx hb dX6_phaseOf_14 (by decide) (fun hc => ?_) (fun hc => ?_)
  · replace hd := (if_pos hc).symm.trans hd
    refine lv_iconst (v := (0 : Int32)) hx hb dX6_phaseOf_29 (by decide) ?_
    have ho := Option.some.inj hd
    subst ho
    exact sn_ri C hP hS dX6_phaseOf_30
  · replace hd := (if_neg hc).symm.trans hd
    refine lv_aload_n hx hb dX6_phaseOf_17 rfl (lv_at hl 0 rfl) ?_
    refine sn_get (ci := 5) (Cn := RX6) (T := TX6) (n := 6) (v := .ref (g.2.2.2 (b + 1))) C hinX6 hP b (sn_l0 hT.1 (by decide)) hT.2.1 rfl 0 (by decide) (by decide +kernel) rfl rfl dX6_phaseOf_18 ?_
    refine lv_bipush (v := (36 : Int32)) hx hb dX6_phaseOf_21 (by decide) ?_
    refine lv_iload_n hx hb dX6_phaseOf_23 rfl (lv_at hl 1 rfl) ?_
    refine lv_iadd hx hb dX6_phaseOf_24 ?_
    refine sn_ald C hP (b + 1) (sn_l hT.1 (by decide)) hT.2.2.1 hd dX6_phaseOf_25 (fun k3 hk3 hd => ?_)
    refine lv_goto (tgt := 30) hx hb dX6_phaseOf_26 (by decide) ?_
    have ho := Option.some.inj hd
    subst ho
    exact sn_ri C hP hS dX6_phaseOf_30

set_option maxHeartbeats 4000000 in
set_option maxRecDepth 100000 in
theorem t_X6_allChildren_L5 {p : Program} {l : Launch} {e : Env} {s : State} {m : MethodId} {args : Array Value} {below : List Frame} {meth : Method} {c : Code} {g : sn_G} {tb : Nat → sn_K} {N : Nat} {b : Nat} {x1 : Int32} {x2 : Int32} {st : sn_S} {o : Int32} (C : sn_Cx p s m args meth c g N cX6_allChildren 5 wsX6_allChildren yX6_allChildren.cls (some .boolean)) (hT : sn_Mo tb N b)  : ∀ (n : Nat) (x3 : Int32) (x4 : Int32) (H : Heap) (locs : List Loc) (ls : Array Slot), D_X6_allChildren_L5 b x1 x2 st n x3 x4 = some o → va_P g.1 vwCl (sn_W g tb N st) H → va_S (sn_A g N) s.heap H locs → lv_has ls 5 [(0, .ref (g.2.2.2 b)), (1, .int x1), (2, .int x2), (3, .int x3), (4, .int x4)] → W p l e { frames := 6, cells := 0, slots := 0, locals := 130 } s m args below meth c H locs 0 0 (MQ below (sn_Qi g tb N o st) args s 0 0 (sn_A g N)) (F0 m 5 ls []) := by
  obtain ⟨⟨hx, hb, hml, hown, hts⟩, hr, hlk, hC, hi⟩ := id C
  have hinX6 : ∀ w ∈ wsX60, w ∈ wsX6_allChildren := by decide +kernel
  intro n
  induction n with
  | zero => intro _ _ _ _ _ hd; exact nomatch (show (none : Option (Int32)) = some o from hd)
  | succ n ih =>
    intro x3 x4 H locs ls hd hP hS hl
    replace hd := (D_X6_allChildren_L5.eq_2 _ _ _ _ _ _ _).symm.trans hd
    refine lv_iload hx hb dX6_allChildren_5 (lv_at hl 4 rfl) ?_
    refine lv_aload_n hx hb dX6_allChildren_7 rfl (lv_at hl 0 rfl) ?_
    refine sn_get (ci := 5) (Cn := RX6) (T := TX6) (n := 6) (v := .ref (g.2.2.2 (b + 1))) C hinX6 hP b (sn_l0 hT.1 (by decide)) hT.2.1 rfl 0 (by decide) (by decide +kernel) rfl rfl dX6_allChildren_8 ?_
    refine lv_sipush (v := (360 : Int32)) hx hb dX6_allChildren_11 (by decide) ?_
    refine sn_aldc (k := 360) C hP (b + 1) (sn_l hT.1 (by decide)) hT.2.2.1 (by decide +kernel) dX6_allChildren_14 ?_
    refine lv_icmp_ge (tgt := 54) hx hb dX6_allChildren_15 (by decide) (fun hc => ?_) (fun hc => ?_)
    · replace hd := (if_pos hc).symm.trans hd
      refine lv_iload_n hx hb dX6_allChildren_54 rfl (lv_at hl 3 rfl) ?_
      by_cases hz1 : x3 = 0 ∨ x3 = 1
      rotate_left
      · exact nomatch (if_neg hz1).symm.trans hd
      replace hd := (if_pos hz1).symm.trans hd
      have ho := Option.some.inj hd
      subst ho
      exact sn_rz hz1 C hP hS dX6_allChildren_55
    · replace hd := (if_neg hc).symm.trans hd
      refine lv_iload_n hx hb dX6_allChildren_18 rfl (lv_at hl 3 rfl) ?_
      refine lv_if_eq (tgt := 46) hx hb dX6_allChildren_19 (by decide) (fun hc => ?_) (fun hc => ?_)
      · replace hd := (if_pos hc).symm.trans hd
        refine lv_iconst (v := (0 : Int32)) hx hb dX6_allChildren_46 (by decide) ?_
        refine lv_istore_n (lv' := [(3, .int (0 : Int32)), (0, .ref (g.2.2.2 b)), (1, .int x1), (2, .int x2), (4, .int x4)]) hx hb dX6_allChildren_47 rfl hl (by decide) rfl (fun ls hl => ?_)
        refine lv_iinc (v := (x4 + (1 : Int32))) (lv' := [(4, .int (x4 + (1 : Int32))), (3, .int (0 : Int32)), (0, .ref (g.2.2.2 b)), (1, .int x1), (2, .int x2)]) hx hb dX6_allChildren_48 hl (k := 4) rfl rfl (by decide) rfl (fun ls hl => ?_)
        refine lv_goto (tgt := 5) hx hb dX6_allChildren_51 (by decide) ?_
        exact ih (0 : Int32) (x4 + (1 : Int32)) _ _ _ hd hP hS (lv_sub hl [2, 3, 4, 1, 0] rfl)
      · replace hd := (if_neg hc).symm.trans hd
        refine lv_aload_n hx hb dX6_allChildren_22 rfl (lv_at hl 0 rfl) ?_
        refine lv_iload_n hx hb dX6_allChildren_23 rfl (lv_at hl 1 rfl) ?_
        refine lv_iload hx hb dX6_allChildren_24 (lv_at hl 4 rfl) ?_
        obtain ⟨r2, hr2, hd⟩ := Option.bind_eq_some_iff.mp hd
        refine sn_Vi (b := b) (rest := []) (As := [.int x1, .int x4]) (st := st) C (c_X6_isChild hi hT hr2) (cwV 2 hts gX6_allChildren_X6_isChild rfl rfl rfl (by decide +kernel) ⟨Nat.le_of_ble_eq_true rfl, Nat.le_of_ble_eq_true rfl⟩) hP hS (sn_l0 hT.1 (by decide)) hT.2.1 rfl rfl hl.1 rfl (Nat.le_of_ble_eq_true rfl) dX6_allChildren_26 (fun H locs hP hS => ?_)
        refine lv_if_eq (tgt := 42) hx hb dX6_allChildren_29 (by decide) (fun hc => ?_) (fun hc => ?_)
        · replace hd := (if_pos hc).symm.trans hd
          refine lv_iconst (v := (1 : Int32)) hx hb dX6_allChildren_42 (by decide) ?_
          refine lv_goto (tgt := 47) hx hb dX6_allChildren_43 (by decide) ?_
          refine lv_istore_n (lv' := [(3, .int (1 : Int32)), (0, .ref (g.2.2.2 b)), (1, .int x1), (2, .int x2), (4, .int x4)]) hx hb dX6_allChildren_47 rfl hl (by decide) rfl (fun ls hl => ?_)
          refine lv_iinc (v := (x4 + (1 : Int32))) (lv' := [(4, .int (x4 + (1 : Int32))), (3, .int (1 : Int32)), (0, .ref (g.2.2.2 b)), (1, .int x1), (2, .int x2)]) hx hb dX6_allChildren_48 hl (k := 4) rfl rfl (by decide) rfl (fun ls hl => ?_)
          refine lv_goto (tgt := 5) hx hb dX6_allChildren_51 (by decide) ?_
          exact ih (1 : Int32) (x4 + (1 : Int32)) _ _ _ hd hP hS (lv_sub hl [2, 3, 4, 1, 0] rfl)
        · replace hd := (if_neg hc).symm.trans hd
          refine lv_aload_n hx hb dX6_allChildren_32 rfl (lv_at hl 0 rfl) ?_
          refine lv_iload hx hb dX6_allChildren_33 (lv_at hl 4 rfl) ?_
          obtain ⟨r3, hr3, hd⟩ := Option.bind_eq_some_iff.mp hd
          refine sn_Vi (b := b) (rest := []) (As := [.int x4]) (st := st) C (c_X6_phaseOf hi hT hr3) (cwV 1 hts gX6_allChildren_X6_phaseOf rfl rfl rfl (by decide +kernel) ⟨Nat.le_of_ble_eq_true rfl, Nat.le_of_ble_eq_true rfl⟩) hP hS (sn_l0 hT.1 (by decide)) hT.2.1 rfl rfl hl.1 rfl (Nat.le_of_ble_eq_true rfl) dX6_allChildren_35 (fun H locs hP hS => ?_)
          refine lv_iload_n hx hb dX6_allChildren_38 rfl (lv_at hl 2 rfl) ?_
          refine lv_icmp_ne (tgt := 46) hx hb dX6_allChildren_39 (by decide) (fun hc => ?_) (fun hc => ?_)
          · replace hd := (if_neg hc).symm.trans hd
            refine lv_iconst (v := (0 : Int32)) hx hb dX6_allChildren_46 (by decide) ?_
            refine lv_istore_n (lv' := [(3, .int (0 : Int32)), (0, .ref (g.2.2.2 b)), (1, .int x1), (2, .int x2), (4, .int x4)]) hx hb dX6_allChildren_47 rfl hl (by decide) rfl (fun ls hl => ?_)
            refine lv_iinc (v := (x4 + (1 : Int32))) (lv' := [(4, .int (x4 + (1 : Int32))), (3, .int (0 : Int32)), (0, .ref (g.2.2.2 b)), (1, .int x1), (2, .int x2)]) hx hb dX6_allChildren_48 hl (k := 4) rfl rfl (by decide) rfl (fun ls hl => ?_)
            refine lv_goto (tgt := 5) hx hb dX6_allChildren_51 (by decide) ?_
            exact ih (0 : Int32) (x4 + (1 : Int32)) _ _ _ hd hP hS (lv_sub hl [2, 3, 4, 1, 0] rfl)
          · replace hd := (if_pos hc).symm.trans hd
            refine lv_iconst (v := (1 : Int32)) hx hb dX6_allChildren_42 (by decide) ?_
            refine lv_goto (tgt := 47) hx hb dX6_allChildren_43 (by decide) ?_
            refine lv_istore_n (lv' := [(3, .int (1 : Int32)), (0, .ref (g.2.2.2 b)), (1, .int x1), (2, .int x2), (4, .int x4)]) hx hb dX6_allChildren_47 rfl hl (by decide) rfl (fun ls hl => ?_)
            refine lv_iinc (v := (x4 + (1 : Int32))) (lv' := [(4, .int (x4 + (1 : Int32))), (3, .int (1 : Int32)), (0, .ref (g.2.2.2 b)), (1, .int x1), (2, .int x2)]) hx hb dX6_allChildren_48 hl (k := 4) rfl rfl (by decide) rfl (fun ls hl => ?_)
            refine lv_goto (tgt := 5) hx hb dX6_allChildren_51 (by decide) ?_
            exact ih (1 : Int32) (x4 + (1 : Int32)) _ _ _ hd hP hS (lv_sub hl [2, 3, 4, 1, 0] rfl)

set_option maxHeartbeats 4000000 in
set_option maxRecDepth 100000 in
theorem c_X6_allChildren {l : Launch} {g : sn_G} {tb : Nat → sn_K} {N : Nat} (hi : sn_I g N) {b : Nat} {x1 : Int32} {x2 : Int32} (hT : sn_Mo tb N b) {st : sn_S} {o : Int32} (hd : D_X6_allChildren b x1 x2 st = some o) : sn_Mi l yX6_allChildren wsX6_allChildren { frames := 6, cells := 0, slots := 0, locals := 130 } g tb N [.ref (g.2.2.2 b), .int x1, .int x2] st o st := by
  refine sn_Mi.of (cc := cX6_allChildren) (nL := 5) (ret := (some .boolean)) hi (by decide) rfl (Nat.le_of_ble_eq_true rfl) ?_
  intro p e s m args below meth c ls C hP hS hl
  have hl : lv_has ls 5 [(0, .ref (g.2.2.2 b)), (1, .int x1), (2, .int x2)] := hl
  obtain ⟨⟨hx, hb, hml, hown, hts⟩, hr, hlk, hC, hi⟩ := id C
  unfold D_X6_allChildren at hd
  have hinX6 : ∀ w ∈ wsX60, w ∈ wsX6_allChildren := by decide +kernel
  refine lv_iconst (v := (1 : Int32)) hx hb dX6_allChildren_0 (by decide) ?_
  refine lv_istore_n (lv' := [(3, .int (1 : Int32)), (0, .ref (g.2.2.2 b)), (1, .int x1), (2, .int x2)]) hx hb dX6_allChildren_1 rfl hl (by decide) rfl (fun ls hl => ?_)
  refine lv_iconst (v := (0 : Int32)) hx hb dX6_allChildren_2 (by decide) ?_
  refine lv_istore (lv' := [(4, .int (0 : Int32)), (3, .int (1 : Int32)), (0, .ref (g.2.2.2 b)), (1, .int x1), (2, .int x2)]) hx hb dX6_allChildren_3 hl (by decide) rfl (fun ls hl => ?_)
  exact t_X6_allChildren_L5 (st := st) C hT 4096 (1 : Int32) (0 : Int32) _ _ _ hd hP hS (lv_sub hl [2, 3, 4, 1, 0] rfl)

set_option maxHeartbeats 4000000 in
set_option maxRecDepth 100000 in
theorem c_X6_wavePhase {l : Launch} {g : sn_G} {tb : Nat → sn_K} {N : Nat} (hi : sn_I g N) {b : Nat} {x1 : Int32} (hT : sn_Mo tb N b) {st : sn_S} {o : Int32} (hd : D_X6_wavePhase b x1 st = some o) : sn_Mi l yX6_wavePhase wsX6_wavePhase { frames := 7, cells := 0, slots := 0, locals := 154 } g tb N [.ref (g.2.2.2 b), .int x1] st o st := by
  refine sn_Mi.of (cc := cX6_wavePhase) (nL := 4) (ret := (some .int)) hi (by decide) rfl (Nat.le_of_ble_eq_true rfl) ?_
  intro p e s m args below meth c ls C hP hS hl
  have hl : lv_has ls 4 [(0, .ref (g.2.2.2 b)), (1, .int x1)] := hl
  obtain ⟨⟨hx, hb, hml, hown, hts⟩, hr, hlk, hC, hi⟩ := id C
  unfold D_X6_wavePhase at hd
  have hinX6 : ∀ w ∈ wsX60, w ∈ wsX6_wavePhase := by decide +kernel
  refine lv_aload_n hx hb dX6_wavePhase_0 rfl (lv_at hl 0 rfl) ?_
  refine sn_get (ci := 5) (Cn := RX6) (T := TX6) (n := 6) (v := .ref (g.2.2.2 (b + 1))) C hinX6 hP b (sn_l0 hT.1 (by decide)) hT.2.1 rfl 0 (by decide) (by decide +kernel) rfl rfl dX6_wavePhase_1 ?_
  refine lv_bipush (v := (36 : Int32)) hx hb dX6_wavePhase_4 (by decide) ?_
  refine lv_iload_n hx hb dX6_wavePhase_6 rfl (lv_at hl 1 rfl) ?_
  refine lv_iadd hx hb dX6_wavePhase_7 ?_
  refine sn_ald C hP (b + 1) (sn_l hT.1 (by decide)) hT.2.2.1 hd dX6_wavePhase_8 (fun k1 hk1 hd => ?_)
  refine lv_istore_n (lv' := [(2, .int (st.1 (b + 1) k1)), (0, .ref (g.2.2.2 b)), (1, .int x1)]) hx hb dX6_wavePhase_9 rfl hl (by decide) rfl (fun ls hl => ?_)
  refine lv_iload_n hx hb dX6_wavePhase_10 rfl (lv_at hl 2 rfl) ?_
  refine lv_if_ne (tgt := 56) hx hb dX6_wavePhase_11 (by decide) (fun hc => ?_) (fun hc => ?_)
  · replace hd := (if_neg hc).symm.trans hd
    refine lv_aload_n hx hb dX6_wavePhase_56 rfl (lv_at hl 1 rfl) ?_
    refine lv_iload_n hx hb dX6_wavePhase_57 rfl (lv_at hl 2 rfl) ?_
    obtain ⟨r2, hr2, hd⟩ := Option.bind_eq_some_iff.mp hd
    refine sn_Vi (b := b) (rest := []) (As := [.int x1]) (st := st) C (c_X6_parentOf hi hT hr2) (cwV 1 hts gX6_wavePhase_X6_parentOf rfl rfl rfl (by decide +kernel) ⟨Nat.le_of_ble_eq_true rfl, Nat.le_of_ble_eq_true rfl⟩) hP hS (sn_l0 hT.1 (by decide)) hT.2.1 rfl rfl hl.1 rfl (Nat.le_of_ble_eq_true rfl) dX6_wavePhase_58 (fun H locs hP hS => ?_)
    refine lv_iconst (v := (-1 : Int32)) hx hb dX6_wavePhase_61 (by decide) ?_
    refine lv_icmp_ne (tgt := 69) hx hb dX6_wavePhase_62 (by decide) (fun hc => ?_) (fun hc => ?_)
    · replace hd := (if_neg hc).symm.trans hd
      refine lv_aload_n hx hb dX6_wavePhase_69 rfl (lv_at hl 1 rfl) ?_
      refine lv_aload_n hx hb dX6_wavePhase_70 rfl (lv_at hl 1 rfl) ?_
      refine lv_iload_n hx hb dX6_wavePhase_71 rfl (lv_at hl 2 rfl) ?_
      obtain ⟨r3, hr3, hd⟩ := Option.bind_eq_some_iff.mp hd
      refine sn_Vi (b := b) (rest := [.ref (g.2.2.2 b)]) (As := [.int x1]) (st := st) C (c_X6_parentOf hi hT hr3) (cwV 1 hts gX6_wavePhase_X6_parentOf rfl rfl rfl (by decide +kernel) ⟨Nat.le_of_ble_eq_true rfl, Nat.le_of_ble_eq_true rfl⟩) hP hS (sn_l0 hT.1 (by decide)) hT.2.1 rfl rfl hl.1 rfl (Nat.le_of_ble_eq_true rfl) dX6_wavePhase_72 (fun H locs hP hS => ?_)
      obtain ⟨r4, hr4, hd⟩ := Option.bind_eq_some_iff.mp hd
      refine sn_Vi (b := b) (rest := []) (As := [.int r3]) (st := st) C (c_X6_phaseOf hi hT hr4) (cwV 1 hts gX6_wavePhase_X6_phaseOf rfl rfl rfl (by decide +kernel) ⟨Nat.le_of_ble_eq_true rfl, Nat.le_of_ble_eq_true rfl⟩) hP hS (sn_l0 hT.1 (by decide)) hT.2.1 rfl rfl hl.1 rfl (Nat.le_of_ble_eq_true rfl) dX6_wavePhase_75 (fun H locs hP hS => ?_)
      refine lv_istore_n (lv' := [(3, .int r4), (2, .int (st.1 (b + 1) k1)), (0, .ref (g.2.2.2 b)), (1, .int x1)]) hx hb dX6_wavePhase_78 rfl hl (by decide) rfl (fun ls hl => ?_)
      refine lv_iload_n hx hb dX6_wavePhase_79 rfl (lv_at hl 1 rfl) ?_
      refine lv_if_ne (tgt := 103) hx hb dX6_wavePhase_80 (by decide) (fun hc => ?_) (fun hc => ?_)
      · replace hd := (if_neg hc).symm.trans hd
        refine lv_iload_n hx hb dX6_wavePhase_103 rfl (lv_at hl 1 rfl) ?_
        refine lv_iconst (v := (1 : Int32)) hx hb dX6_wavePhase_104 (by decide) ?_
        refine lv_icmp_ne (tgt := 132) hx hb dX6_wavePhase_105 (by decide) (fun hc => ?_) (fun hc => ?_)
        · replace hd := (if_neg hc).symm.trans hd
          refine lv_iload_n hx hb dX6_wavePhase_132 rfl (lv_at hl 0 rfl) ?_
          refine lv_if_ne (tgt := 140) hx hb dX6_wavePhase_133 (by decide) (fun hc => ?_) (fun hc => ?_)
          · replace hd := (if_neg hc).symm.trans hd
            refine lv_iload_n hx hb dX6_wavePhase_140 rfl (lv_at hl 1 rfl) ?_
            have ho := Option.some.inj hd
            subst ho
            exact sn_ri C hP hS dX6_wavePhase_141
          · replace hd := (if_pos hc).symm.trans hd
            refine lv_iconst (v := (0 : Int32)) hx hb dX6_wavePhase_136 (by decide) ?_
            refine lv_goto (tgt := 141) hx hb dX6_wavePhase_137 (by decide) ?_
            have ho := Option.some.inj hd
            subst ho
            exact sn_ri C hP hS dX6_wavePhase_141
        · replace hd := (if_pos hc).symm.trans hd
          refine lv_iload_n hx hb dX6_wavePhase_108 rfl (lv_at hl 0 rfl) ?_
          refine lv_iconst (v := (1 : Int32)) hx hb dX6_wavePhase_109 (by decide) ?_
          refine lv_icmp_eq (tgt := 117) hx hb dX6_wavePhase_110 (by decide) (fun hc => ?_) (fun hc => ?_)
          · replace hd := (if_pos hc).symm.trans hd
            refine lv_aload_n hx hb dX6_wavePhase_117 rfl (lv_at hl 2 rfl) ?_
            refine lv_iload_n hx hb dX6_wavePhase_118 rfl (lv_at hl 3 rfl) ?_
            refine lv_iconst (v := (2 : Int32)) hx hb dX6_wavePhase_119 (by decide) ?_
            obtain ⟨r5, hr5, hd⟩ := Option.bind_eq_some_iff.mp hd
            refine sn_Vi (b := b) (rest := []) (As := [.int x1, .int (2 : Int32)]) (st := st) C (c_X6_allChildren hi hT hr5) (cwV 2 hts gX6_wavePhase_X6_allChildren rfl rfl rfl (by decide +kernel) ⟨Nat.le_of_ble_eq_true rfl, Nat.le_of_ble_eq_true rfl⟩) hP hS (sn_l0 hT.1 (by decide)) hT.2.1 rfl rfl hl.1 rfl (Nat.le_of_ble_eq_true rfl) dX6_wavePhase_120 (fun H locs hP hS => ?_)
            refine lv_if_eq (tgt := 130) hx hb dX6_wavePhase_123 (by decide) (fun hc => ?_) (fun hc => ?_)
            · replace hd := (if_pos hc).symm.trans hd
              refine lv_iload_n hx hb dX6_wavePhase_130 rfl (lv_at hl 1 rfl) ?_
              have ho := Option.some.inj hd
              subst ho
              exact sn_ri C hP hS dX6_wavePhase_131
            · replace hd := (if_neg hc).symm.trans hd
              refine lv_iconst (v := (2 : Int32)) hx hb dX6_wavePhase_126 (by decide) ?_
              refine lv_goto (tgt := 131) hx hb dX6_wavePhase_127 (by decide) ?_
              have ho := Option.some.inj hd
              subst ho
              exact sn_ri C hP hS dX6_wavePhase_131
          · replace hd := (if_neg hc).symm.trans hd
            refine lv_iconst (v := (0 : Int32)) hx hb dX6_wavePhase_113 (by decide) ?_
            refine lv_goto (tgt := 131) hx hb dX6_wavePhase_114 (by decide) ?_
            have ho := Option.some.inj hd
            subst ho
            exact sn_ri C hP hS dX6_wavePhase_131
      · replace hd := (if_pos hc).symm.trans hd
        refine lv_iload_n hx hb dX6_wavePhase_83 rfl (lv_at hl 0 rfl) ?_
        refine lv_iconst (v := (1 : Int32)) hx hb dX6_wavePhase_84 (by decide) ?_
        refine lv_icmp_ne (tgt := 101) hx hb dX6_wavePhase_85 (by decide) (fun hc => ?_) (fun hc => ?_)
        · replace hd := (if_neg hc).symm.trans hd
          refine lv_iload_n hx hb dX6_wavePhase_101 rfl (lv_at hl 1 rfl) ?_
          have ho := Option.some.inj hd
          subst ho
          exact sn_ri C hP hS dX6_wavePhase_102
        · replace hd := (if_pos hc).symm.trans hd
          refine lv_aload_n hx hb dX6_wavePhase_88 rfl (lv_at hl 2 rfl) ?_
          refine lv_iload_n hx hb dX6_wavePhase_89 rfl (lv_at hl 3 rfl) ?_
          refine lv_iconst (v := (0 : Int32)) hx hb dX6_wavePhase_90 (by decide) ?_
          obtain ⟨r6, hr6, hd⟩ := Option.bind_eq_some_iff.mp hd
          refine sn_Vi (b := b) (rest := []) (As := [.int x1, .int (0 : Int32)]) (st := st) C (c_X6_allChildren hi hT hr6) (cwV 2 hts gX6_wavePhase_X6_allChildren rfl rfl rfl (by decide +kernel) ⟨Nat.le_of_ble_eq_true rfl, Nat.le_of_ble_eq_true rfl⟩) hP hS (sn_l0 hT.1 (by decide)) hT.2.1 rfl rfl hl.1 rfl (Nat.le_of_ble_eq_true rfl) dX6_wavePhase_91 (fun H locs hP hS => ?_)
          refine lv_if_eq (tgt := 101) hx hb dX6_wavePhase_94 (by decide) (fun hc => ?_) (fun hc => ?_)
          · replace hd := (if_pos hc).symm.trans hd
            refine lv_iload_n hx hb dX6_wavePhase_101 rfl (lv_at hl 1 rfl) ?_
            have ho := Option.some.inj hd
            subst ho
            exact sn_ri C hP hS dX6_wavePhase_102
          · replace hd := (if_neg hc).symm.trans hd
            refine lv_iconst (v := (1 : Int32)) hx hb dX6_wavePhase_97 (by decide) ?_
            refine lv_goto (tgt := 102) hx hb dX6_wavePhase_98 (by decide) ?_
            have ho := Option.some.inj hd
            subst ho
            exact sn_ri C hP hS dX6_wavePhase_102
    · replace hd := (if_pos hc).symm.trans hd
      refine lv_iconst (v := (0 : Int32)) hx hb dX6_wavePhase_65 (by decide) ?_
      refine lv_goto (tgt := 78) hx hb dX6_wavePhase_66 (by decide) ?_
      refine lv_istore_n (lv' := [(3, .int (0 : Int32)), (2, .int (st.1 (b + 1) k1)), (0, .ref (g.2.2.2 b)), (1, .int x1)]) hx hb dX6_wavePhase_78 rfl hl (by decide) rfl (fun ls hl => ?_)
      refine lv_iload_n hx hb dX6_wavePhase_79 rfl (lv_at hl 1 rfl) ?_
      refine lv_if_ne (tgt := 103) hx hb dX6_wavePhase_80 (by decide) (fun hc => ?_) (fun hc => ?_)
      · replace hd := (if_neg hc).symm.trans hd
        refine lv_iload_n hx hb dX6_wavePhase_103 rfl (lv_at hl 1 rfl) ?_
        refine lv_iconst (v := (1 : Int32)) hx hb dX6_wavePhase_104 (by decide) ?_
        refine lv_icmp_ne (tgt := 132) hx hb dX6_wavePhase_105 (by decide) (fun hc => ?_) (fun hc => ?_)
        · replace hd := (if_neg hc).symm.trans hd
          refine lv_iload_n hx hb dX6_wavePhase_132 rfl (lv_at hl 0 rfl) ?_
          refine lv_if_ne (tgt := 140) hx hb dX6_wavePhase_133 (by decide) (fun hc => ?_) (fun hc => ?_)
          · replace hd := (if_neg hc).symm.trans hd
            refine lv_iload_n hx hb dX6_wavePhase_140 rfl (lv_at hl 1 rfl) ?_
            have ho := Option.some.inj hd
            subst ho
            exact sn_ri C hP hS dX6_wavePhase_141
          · replace hd := (if_pos hc).symm.trans hd
            refine lv_iconst (v := (0 : Int32)) hx hb dX6_wavePhase_136 (by decide) ?_
            refine lv_goto (tgt := 141) hx hb dX6_wavePhase_137 (by decide) ?_
            have ho := Option.some.inj hd
            subst ho
            exact sn_ri C hP hS dX6_wavePhase_141
        · replace hd := (if_pos hc).symm.trans hd
          refine lv_iload_n hx hb dX6_wavePhase_108 rfl (lv_at hl 0 rfl) ?_
          refine lv_iconst (v := (1 : Int32)) hx hb dX6_wavePhase_109 (by decide) ?_
          refine lv_icmp_eq (tgt := 117) hx hb dX6_wavePhase_110 (by decide) (fun hc => ?_) (fun hc => ?_)
          · replace hd := (if_pos hc).symm.trans hd
            refine lv_aload_n hx hb dX6_wavePhase_117 rfl (lv_at hl 2 rfl) ?_
            refine lv_iload_n hx hb dX6_wavePhase_118 rfl (lv_at hl 3 rfl) ?_
            refine lv_iconst (v := (2 : Int32)) hx hb dX6_wavePhase_119 (by decide) ?_
            obtain ⟨r7, hr7, hd⟩ := Option.bind_eq_some_iff.mp hd
            refine sn_Vi (b := b) (rest := []) (As := [.int x1, .int (2 : Int32)]) (st := st) C (c_X6_allChildren hi hT hr7) (cwV 2 hts gX6_wavePhase_X6_allChildren rfl rfl rfl (by decide +kernel) ⟨Nat.le_of_ble_eq_true rfl, Nat.le_of_ble_eq_true rfl⟩) hP hS (sn_l0 hT.1 (by decide)) hT.2.1 rfl rfl hl.1 rfl (Nat.le_of_ble_eq_true rfl) dX6_wavePhase_120 (fun H locs hP hS => ?_)
            refine lv_if_eq (tgt := 130) hx hb dX6_wavePhase_123 (by decide) (fun hc => ?_) (fun hc => ?_)
            · replace hd := (if_pos hc).symm.trans hd
              refine lv_iload_n hx hb dX6_wavePhase_130 rfl (lv_at hl 1 rfl) ?_
              have ho := Option.some.inj hd
              subst ho
              exact sn_ri C hP hS dX6_wavePhase_131
            · replace hd := (if_neg hc).symm.trans hd
              refine lv_iconst (v := (2 : Int32)) hx hb dX6_wavePhase_126 (by decide) ?_
              refine lv_goto (tgt := 131) hx hb dX6_wavePhase_127 (by decide) ?_
              have ho := Option.some.inj hd
              subst ho
              exact sn_ri C hP hS dX6_wavePhase_131
          · replace hd := (if_neg hc).symm.trans hd
            refine lv_iconst (v := (0 : Int32)) hx hb dX6_wavePhase_113 (by decide) ?_
            refine lv_goto (tgt := 131) hx hb dX6_wavePhase_114 (by decide) ?_
            have ho := Option.some.inj hd
            subst ho
            exact sn_ri C hP hS dX6_wavePhase_131
      · replace hd := (if_pos hc).symm.trans hd
        refine lv_iload_n hx hb dX6_wavePhase_83 rfl (lv_at hl 0 rfl) ?_
        refine lv_iconst (v := (1 : Int32)) hx hb dX6_wavePhase_84 (by decide) ?_
        refine lv_icmp_ne (tgt := 101) hx hb dX6_wavePhase_85 (by decide) (fun hc => ?_) (fun hc => ?_)
        · replace hd := (if_neg hc).symm.trans hd
          refine lv_iload_n hx hb dX6_wavePhase_101 rfl (lv_at hl 1 rfl) ?_
          have ho := Option.some.inj hd
          subst ho
          exact sn_ri C hP hS dX6_wavePhase_102
        · replace hd := (if_pos hc).symm.trans hd
          refine lv_aload_n hx hb dX6_wavePhase_88 rfl (lv_at hl 2 rfl) ?_
          refine lv_iload_n hx hb dX6_wavePhase_89 rfl (lv_at hl 3 rfl) ?_
          refine lv_iconst (v := (0 : Int32)) hx hb dX6_wavePhase_90 (by decide) ?_
          obtain ⟨r8, hr8, hd⟩ := Option.bind_eq_some_iff.mp hd
          refine sn_Vi (b := b) (rest := []) (As := [.int x1, .int (0 : Int32)]) (st := st) C (c_X6_allChildren hi hT hr8) (cwV 2 hts gX6_wavePhase_X6_allChildren rfl rfl rfl (by decide +kernel) ⟨Nat.le_of_ble_eq_true rfl, Nat.le_of_ble_eq_true rfl⟩) hP hS (sn_l0 hT.1 (by decide)) hT.2.1 rfl rfl hl.1 rfl (Nat.le_of_ble_eq_true rfl) dX6_wavePhase_91 (fun H locs hP hS => ?_)
          refine lv_if_eq (tgt := 101) hx hb dX6_wavePhase_94 (by decide) (fun hc => ?_) (fun hc => ?_)
          · replace hd := (if_pos hc).symm.trans hd
            refine lv_iload_n hx hb dX6_wavePhase_101 rfl (lv_at hl 1 rfl) ?_
            have ho := Option.some.inj hd
            subst ho
            exact sn_ri C hP hS dX6_wavePhase_102
          · replace hd := (if_neg hc).symm.trans hd
            refine lv_iconst (v := (1 : Int32)) hx hb dX6_wavePhase_97 (by decide) ?_
            refine lv_goto (tgt := 102) hx hb dX6_wavePhase_98 (by decide) ?_
            have ho := Option.some.inj hd
            subst ho
            exact sn_ri C hP hS dX6_wavePhase_102
  · replace hd := (if_pos hc).symm.trans hd
    refine lv_iload_n hx hb dX6_wavePhase_14 rfl (lv_at hl 0 rfl) ?_
    refine lv_if_ne (tgt := 31) hx hb dX6_wavePhase_15 (by decide) (fun hc => ?_) (fun hc => ?_)
    · replace hd := (if_neg hc).symm.trans hd
      refine lv_iload_n hx hb dX6_wavePhase_31 rfl (lv_at hl 0 rfl) ?_
      refine lv_iconst (v := (1 : Int32)) hx hb dX6_wavePhase_32 (by decide) ?_
      refine lv_icmp_ne (tgt := 45) hx hb dX6_wavePhase_33 (by decide) (fun hc => ?_) (fun hc => ?_)
      · replace hd := (if_neg hc).symm.trans hd
        refine lv_iload_n hx hb dX6_wavePhase_45 rfl (lv_at hl 0 rfl) ?_
        refine lv_iconst (v := (2 : Int32)) hx hb dX6_wavePhase_46 (by decide) ?_
        refine lv_icmp_ne (tgt := 54) hx hb dX6_wavePhase_47 (by decide) (fun hc => ?_) (fun hc => ?_)
        · replace hd := (if_neg hc).symm.trans hd
          refine lv_iload_n hx hb dX6_wavePhase_54 rfl (lv_at hl 0 rfl) ?_
          have ho := Option.some.inj hd
          subst ho
          exact sn_ri C hP hS dX6_wavePhase_55
        · replace hd := (if_pos hc).symm.trans hd
          refine lv_iconst (v := (0 : Int32)) hx hb dX6_wavePhase_50 (by decide) ?_
          refine lv_goto (tgt := 55) hx hb dX6_wavePhase_51 (by decide) ?_
          have ho := Option.some.inj hd
          subst ho
          exact sn_ri C hP hS dX6_wavePhase_55
      · replace hd := (if_pos hc).symm.trans hd
        refine lv_aload_n hx hb dX6_wavePhase_36 rfl (lv_at hl 1 rfl) ?_
        refine lv_iload_n hx hb dX6_wavePhase_37 rfl (lv_at hl 2 rfl) ?_
        refine lv_iconst (v := (2 : Int32)) hx hb dX6_wavePhase_38 (by decide) ?_
        obtain ⟨r9, hr9, hd⟩ := Option.bind_eq_some_iff.mp hd
        refine sn_Vi (b := b) (rest := []) (As := [.int x1, .int (2 : Int32)]) (st := st) C (c_X6_allChildren hi hT hr9) (cwV 2 hts gX6_wavePhase_X6_allChildren rfl rfl rfl (by decide +kernel) ⟨Nat.le_of_ble_eq_true rfl, Nat.le_of_ble_eq_true rfl⟩) hP hS (sn_l0 hT.1 (by decide)) hT.2.1 rfl rfl hl.1 rfl (Nat.le_of_ble_eq_true rfl) dX6_wavePhase_39 (fun H locs hP hS => ?_)
        refine lv_if_ne (tgt := 50) hx hb dX6_wavePhase_42 (by decide) (fun hc => ?_) (fun hc => ?_)
        · replace hd := (if_neg hc).symm.trans hd
          refine lv_iconst (v := (0 : Int32)) hx hb dX6_wavePhase_50 (by decide) ?_
          refine lv_goto (tgt := 55) hx hb dX6_wavePhase_51 (by decide) ?_
          have ho := Option.some.inj hd
          subst ho
          exact sn_ri C hP hS dX6_wavePhase_55
        · replace hd := (if_pos hc).symm.trans hd
          refine lv_iload_n hx hb dX6_wavePhase_45 rfl (lv_at hl 0 rfl) ?_
          refine lv_iconst (v := (2 : Int32)) hx hb dX6_wavePhase_46 (by decide) ?_
          refine lv_icmp_ne (tgt := 54) hx hb dX6_wavePhase_47 (by decide) (fun hc => ?_) (fun hc => ?_)
          · replace hd := (if_neg hc).symm.trans hd
            refine lv_iload_n hx hb dX6_wavePhase_54 rfl (lv_at hl 0 rfl) ?_
            have ho := Option.some.inj hd
            subst ho
            exact sn_ri C hP hS dX6_wavePhase_55
          · replace hd := (if_pos hc).symm.trans hd
            refine lv_iconst (v := (0 : Int32)) hx hb dX6_wavePhase_50 (by decide) ?_
            refine lv_goto (tgt := 55) hx hb dX6_wavePhase_51 (by decide) ?_
            have ho := Option.some.inj hd
            subst ho
            exact sn_ri C hP hS dX6_wavePhase_55
    · replace hd := (if_pos hc).symm.trans hd
      refine lv_aload_n hx hb dX6_wavePhase_18 rfl (lv_at hl 1 rfl) ?_
      refine lv_iload_n hx hb dX6_wavePhase_19 rfl (lv_at hl 2 rfl) ?_
      refine lv_iconst (v := (0 : Int32)) hx hb dX6_wavePhase_20 (by decide) ?_
      obtain ⟨r10, hr10, hd⟩ := Option.bind_eq_some_iff.mp hd
      refine sn_Vi (b := b) (rest := []) (As := [.int x1, .int (0 : Int32)]) (st := st) C (c_X6_allChildren hi hT hr10) (cwV 2 hts gX6_wavePhase_X6_allChildren rfl rfl rfl (by decide +kernel) ⟨Nat.le_of_ble_eq_true rfl, Nat.le_of_ble_eq_true rfl⟩) hP hS (sn_l0 hT.1 (by decide)) hT.2.1 rfl rfl hl.1 rfl (Nat.le_of_ble_eq_true rfl) dX6_wavePhase_21 (fun H locs hP hS => ?_)
      refine lv_if_eq (tgt := 31) hx hb dX6_wavePhase_24 (by decide) (fun hc => ?_) (fun hc => ?_)
      · replace hd := (if_pos hc).symm.trans hd
        refine lv_iload_n hx hb dX6_wavePhase_31 rfl (lv_at hl 0 rfl) ?_
        refine lv_iconst (v := (1 : Int32)) hx hb dX6_wavePhase_32 (by decide) ?_
        refine lv_icmp_ne (tgt := 45) hx hb dX6_wavePhase_33 (by decide) (fun hc => ?_) (fun hc => ?_)
        · replace hd := (if_neg hc).symm.trans hd
          refine lv_iload_n hx hb dX6_wavePhase_45 rfl (lv_at hl 0 rfl) ?_
          refine lv_iconst (v := (2 : Int32)) hx hb dX6_wavePhase_46 (by decide) ?_
          refine lv_icmp_ne (tgt := 54) hx hb dX6_wavePhase_47 (by decide) (fun hc => ?_) (fun hc => ?_)
          · replace hd := (if_neg hc).symm.trans hd
            refine lv_iload_n hx hb dX6_wavePhase_54 rfl (lv_at hl 0 rfl) ?_
            have ho := Option.some.inj hd
            subst ho
            exact sn_ri C hP hS dX6_wavePhase_55
          · replace hd := (if_pos hc).symm.trans hd
            refine lv_iconst (v := (0 : Int32)) hx hb dX6_wavePhase_50 (by decide) ?_
            refine lv_goto (tgt := 55) hx hb dX6_wavePhase_51 (by decide) ?_
            have ho := Option.some.inj hd
            subst ho
            exact sn_ri C hP hS dX6_wavePhase_55
        · replace hd := (if_pos hc).symm.trans hd
          refine lv_aload_n hx hb dX6_wavePhase_36 rfl (lv_at hl 1 rfl) ?_
          refine lv_iload_n hx hb dX6_wavePhase_37 rfl (lv_at hl 2 rfl) ?_
          refine lv_iconst (v := (2 : Int32)) hx hb dX6_wavePhase_38 (by decide) ?_
          obtain ⟨r11, hr11, hd⟩ := Option.bind_eq_some_iff.mp hd
          refine sn_Vi (b := b) (rest := []) (As := [.int x1, .int (2 : Int32)]) (st := st) C (c_X6_allChildren hi hT hr11) (cwV 2 hts gX6_wavePhase_X6_allChildren rfl rfl rfl (by decide +kernel) ⟨Nat.le_of_ble_eq_true rfl, Nat.le_of_ble_eq_true rfl⟩) hP hS (sn_l0 hT.1 (by decide)) hT.2.1 rfl rfl hl.1 rfl (Nat.le_of_ble_eq_true rfl) dX6_wavePhase_39 (fun H locs hP hS => ?_)
          refine lv_if_ne (tgt := 50) hx hb dX6_wavePhase_42 (by decide) (fun hc => ?_) (fun hc => ?_)
          · replace hd := (if_neg hc).symm.trans hd
            refine lv_iconst (v := (0 : Int32)) hx hb dX6_wavePhase_50 (by decide) ?_
            refine lv_goto (tgt := 55) hx hb dX6_wavePhase_51 (by decide) ?_
            have ho := Option.some.inj hd
            subst ho
            exact sn_ri C hP hS dX6_wavePhase_55
          · replace hd := (if_pos hc).symm.trans hd
            refine lv_iload_n hx hb dX6_wavePhase_45 rfl (lv_at hl 0 rfl) ?_
            refine lv_iconst (v := (2 : Int32)) hx hb dX6_wavePhase_46 (by decide) ?_
            refine lv_icmp_ne (tgt := 54) hx hb dX6_wavePhase_47 (by decide) (fun hc => ?_) (fun hc => ?_)
            · replace hd := (if_neg hc).symm.trans hd
              refine lv_iload_n hx hb dX6_wavePhase_54 rfl (lv_at hl 0 rfl) ?_
              have ho := Option.some.inj hd
              subst ho
              exact sn_ri C hP hS dX6_wavePhase_55
            · replace hd := (if_pos hc).symm.trans hd
              refine lv_iconst (v := (0 : Int32)) hx hb dX6_wavePhase_50 (by decide) ?_
              refine lv_goto (tgt := 55) hx hb dX6_wavePhase_51 (by decide) ?_
              have ho := Option.some.inj hd
              subst ho
              exact sn_ri C hP hS dX6_wavePhase_55
      · replace hd := (if_neg hc).symm.trans hd
        refine lv_iconst (v := (1 : Int32)) hx hb dX6_wavePhase_27 (by decide) ?_
        refine lv_goto (tgt := 55) hx hb dX6_wavePhase_28 (by decide) ?_
        have ho := Option.some.inj hd
        subst ho
        exact sn_ri C hP hS dX6_wavePhase_55
