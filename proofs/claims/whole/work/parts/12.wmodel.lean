set_option maxHeartbeats 4000000 in
set_option maxRecDepth 100000 in
theorem c_X6_isTie {l : Launch} {g : sn_G} {tb : Nat → sn_K} {N : Nat} (hi : sn_I g N) {b : Nat} {x1 : Int32} {x2 : Int32} (hT : sn_Mo tb N b) {st : sn_S} {o : Int32} (hd : D_X6_isTie b x1 x2 st = some o) : sn_Mi l yX6_isTie wsX6_isTie { frames := 6, cells := 0, slots := 0, locals := 130 } g tb N [.ref (g.2.2.2 b), .int x1, .int x2] st o st := by
  refine sn_Mi.of (cc := cX6_isTie) (nL := 3) (ret := (some .boolean)) hi (by decide) rfl (Nat.le_of_ble_eq_true rfl) ?_
  intro p e s m args below meth c ls C hP hS hl
  have hl : lv_has ls 3 [(0, .ref (g.2.2.2 b)), (1, .int x1), (2, .int x2)] := hl
  obtain ⟨⟨hx, hb, hml, hown, hts⟩, hr, hlk, hC, hi⟩ := id C
  unfold D_X6_isTie at hd
  refine lv_aload_n hx hb dX6_isTie_0 rfl (lv_at hl 0 rfl) ?_
  refine lv_iload_n hx hb dX6_isTie_1 rfl (lv_at hl 1 rfl) ?_
  refine lv_iload_n hx hb dX6_isTie_2 rfl (lv_at hl 2 rfl) ?_
  obtain ⟨r1, hr1, hd⟩ := Option.bind_eq_some_iff.mp hd
  refine sn_Vi (b := b) (rest := []) (As := [.int x1, .int x2]) (st := st) C (c_X6_isChild hi hT hr1) (cwV 2 hts gX6_isTie_X6_isChild rfl rfl rfl (by decide +kernel) ⟨Nat.le_of_ble_eq_true rfl, Nat.le_of_ble_eq_true rfl⟩) hP hS (sn_l0 hT.1 (by decide)) hT.2.1 rfl rfl hl.1 rfl (Nat.le_of_ble_eq_true rfl) dX6_isTie_3 (fun H locs hP hS => ?_)
  refine lv_if_ne (tgt := 23) hx hb dX6_isTie_6 (by decide) (fun hc => ?_) (fun hc => ?_)
  · replace hd := (if_neg hc).symm.trans hd
    refine lv_iconst (v := (1 : Int32)) hx hb dX6_isTie_23 (by decide) ?_
    refine lv_goto (tgt := 28) hx hb dX6_isTie_24 (by decide) ?_
    have ho := Option.some.inj hd
    subst ho
    exact sn_rz (Or.inr rfl) C hP hS dX6_isTie_28
  · replace hd := (if_pos hc).symm.trans hd
    refine lv_iload_n hx hb dX6_isTie_9 rfl (lv_at hl 2 rfl) ?_
    refine lv_iconst (v := (-1 : Int32)) hx hb dX6_isTie_10 (by decide) ?_
    refine lv_icmp_eq (tgt := 27) hx hb dX6_isTie_11 (by decide) (fun hc => ?_) (fun hc => ?_)
    · replace hd := (if_pos hc).symm.trans hd
      refine lv_iconst (v := (0 : Int32)) hx hb dX6_isTie_27 (by decide) ?_
      have ho := Option.some.inj hd
      subst ho
      exact sn_rz (Or.inl rfl) C hP hS dX6_isTie_28
    · replace hd := (if_neg hc).symm.trans hd
      refine lv_aload_n hx hb dX6_isTie_14 rfl (lv_at hl 0 rfl) ?_
      refine lv_iload_n hx hb dX6_isTie_15 rfl (lv_at hl 1 rfl) ?_
      obtain ⟨r2, hr2, hd⟩ := Option.bind_eq_some_iff.mp hd
      refine sn_Vi (b := b) (rest := []) (As := [.int x1]) (st := st) C (c_X6_parentOf hi hT hr2) (cwV 1 hts gX6_isTie_X6_parentOf rfl rfl rfl (by decide +kernel) ⟨Nat.le_of_ble_eq_true rfl, Nat.le_of_ble_eq_true rfl⟩) hP hS (sn_l0 hT.1 (by decide)) hT.2.1 rfl rfl hl.1 rfl (Nat.le_of_ble_eq_true rfl) dX6_isTie_16 (fun H locs hP hS => ?_)
      refine lv_iload_n hx hb dX6_isTie_19 rfl (lv_at hl 2 rfl) ?_
      refine lv_icmp_ne (tgt := 27) hx hb dX6_isTie_20 (by decide) (fun hc => ?_) (fun hc => ?_)
      · replace hd := (if_neg hc).symm.trans hd
        refine lv_iconst (v := (0 : Int32)) hx hb dX6_isTie_27 (by decide) ?_
        have ho := Option.some.inj hd
        subst ho
        exact sn_rz (Or.inl rfl) C hP hS dX6_isTie_28
      · replace hd := (if_pos hc).symm.trans hd
        refine lv_iconst (v := (1 : Int32)) hx hb dX6_isTie_23 (by decide) ?_
        refine lv_goto (tgt := 28) hx hb dX6_isTie_24 (by decide) ?_
        have ho := Option.some.inj hd
        subst ho
        exact sn_rz (Or.inr rfl) C hP hS dX6_isTie_28

set_option maxHeartbeats 4000000 in
set_option maxRecDepth 100000 in
theorem c_X6_xOf {l : Launch} {g : sn_G} {tb : Nat → sn_K} {N : Nat} (hi : sn_I g N) {b : Nat} {x1 : Int32} {x2 : Int32} (hT : sn_Mo tb N b) {st : sn_S} {o : Int32} (hd : D_X6_xOf b x1 x2 st = some o) : sn_Mi l yX6_xOf wsX6_xOf { frames := 1, cells := 0, slots := 0, locals := 22 } g tb N [.ref (g.2.2.2 b), .int x1, .int x2] st o st := by
  refine sn_Mi.of (cc := cX6_xOf) (nL := 4) (ret := (some .int)) hi (by decide) rfl (Nat.le_of_ble_eq_true rfl) ?_
  intro p e s m args below meth c ls C hP hS hl
  have hl : lv_has ls 4 [(0, .ref (g.2.2.2 b)), (1, .int x1), (2, .int x2)] := hl
  obtain ⟨⟨hx, hb, hml, hown, hts⟩, hr, hlk, hC, hi⟩ := id C
  unfold D_X6_xOf at hd
  have hinX6 : ∀ w ∈ wsX60, w ∈ wsX6_xOf := by decide +kernel
  refine lv_aload_n hx hb dX6_xOf_0 rfl (lv_at hl 0 rfl) ?_
  refine sn_get (ci := 5) (Cn := RX6) (T := TX6) (n := 6) (v := .ref (g.2.2.2 (b + 1))) C hinX6 hP b (sn_l0 hT.1 (by decide)) hT.2.1 rfl 0 (by decide) (by decide +kernel) rfl rfl dX6_xOf_1 ?_
  refine lv_bipush (v := (72 : Int32)) hx hb dX6_xOf_4 (by decide) ?_
  refine lv_bipush (v := (12 : Int32)) hx hb dX6_xOf_6 (by decide) ?_
  refine lv_iload_n hx hb dX6_xOf_8 rfl (lv_at hl 1 rfl) ?_
  refine lv_imul hx hb dX6_xOf_9 ?_
  refine lv_iadd hx hb dX6_xOf_10 ?_
  refine lv_iload_n hx hb dX6_xOf_11 rfl (lv_at hl 2 rfl) ?_
  refine lv_iadd hx hb dX6_xOf_12 ?_
  refine sn_ald C hP (b + 1) (sn_l hT.1 (by decide)) hT.2.2.1 hd dX6_xOf_13 (fun k1 hk1 hd => ?_)
  refine lv_istore_n (lv' := [(3, .int (st.1 (b + 1) k1)), (0, .ref (g.2.2.2 b)), (1, .int x1), (2, .int x2)]) hx hb dX6_xOf_14 rfl hl (by decide) rfl (fun ls hl => ?_)
  refine lv_iload_n hx hb dX6_xOf_15 rfl (lv_at hl 0 rfl) ?_
  refine lv_iconst (v := (0 : Int32)) hx hb dX6_xOf_16 (by decide) ?_
  refine lv_aload_n hx hb dX6_xOf_17 rfl (lv_at hl 1 rfl) ?_
  obtain ⟨r2, hr2, hd⟩ := Option.bind_eq_some_iff.mp hd
  refine sn_Vi (b := b) (rest := [.int (0 : Int32), .int (st.1 (b + 1) k1)]) (As := []) (st := st) C (c_X6_k hi hT hr2) (cwV 0 hts gX6_xOf_X6_k rfl rfl rfl (by decide +kernel) ⟨Nat.le_of_ble_eq_true rfl, Nat.le_of_ble_eq_true rfl⟩) hP hS (sn_l0 hT.1 (by decide)) hT.2.1 rfl rfl hl.1 rfl (Nat.le_of_ble_eq_true rfl) dX6_xOf_18 (fun H locs hP hS => ?_)
  refine lv_iconst (v := (1 : Int32)) hx hb dX6_xOf_21 (by decide) ?_
  refine lv_isub hx hb dX6_xOf_22 ?_
  obtain ⟨r3, hr3, hd⟩ := Option.bind_eq_some_iff.mp hd
  refine sn_Si (rest := []) (As := [.int (st.1 (b + 1) k1), .int (0 : Int32), .int (r2 - (1 : Int32))]) (st := st) C (c_X6_in hi  hr3) (va_cwS 3 hts gX6_xOf_X6_in rfl rfl rfl (by decide +kernel) ⟨Nat.le_of_ble_eq_true rfl, Nat.le_of_ble_eq_true rfl⟩) hP hS rfl hl.1 rfl (Nat.le_of_ble_eq_true rfl) dX6_xOf_23 (fun H locs hP hS => ?_)
  refine lv_if_eq (tgt := 33) hx hb dX6_xOf_26 (by decide) (fun hc => ?_) (fun hc => ?_)
  · replace hd := (if_pos hc).symm.trans hd
    refine lv_iconst (v := (0 : Int32)) hx hb dX6_xOf_33 (by decide) ?_
    have ho := Option.some.inj hd
    subst ho
    exact sn_ri C hP hS dX6_xOf_34
  · replace hd := (if_neg hc).symm.trans hd
    refine lv_iload_n hx hb dX6_xOf_29 rfl (lv_at hl 0 rfl) ?_
    refine lv_goto (tgt := 34) hx hb dX6_xOf_30 (by decide) ?_
    have ho := Option.some.inj hd
    subst ho
    exact sn_ri C hP hS dX6_xOf_34

set_option maxHeartbeats 4000000 in
set_option maxRecDepth 100000 in
theorem t_X6_tieAhead_L8 {p : Program} {l : Launch} {e : Env} {s : State} {m : MethodId} {args : Array Value} {below : List Frame} {meth : Method} {c : Code} {g : sn_G} {tb : Nat → sn_K} {N : Nat} {b : Nat} {x1 : Int32} {x2 : Int32} {st : sn_S} {o : Int32} (C : sn_Cx p s m args meth c g N cX6_tieAhead 6 wsX6_tieAhead yX6_tieAhead.cls (some .int)) (hT : sn_Mo tb N b)  : ∀ (n : Nat) (x3 : Int32) (x4 : Int32) (x5 : Int32) (H : Heap) (locs : List Loc) (ls : Array Slot), D_X6_tieAhead_L8 b x1 x2 st n x3 x4 x5 = some o → va_P g.1 vwCl (sn_W g tb N st) H → va_S (sn_A g N) s.heap H locs → lv_has ls 6 [(0, .ref (g.2.2.2 b)), (1, .int x1), (2, .int x2), (3, .int x3), (4, .int x4), (5, .int x5)] → W p l e { frames := 7, cells := 0, slots := 0, locals := 152 } s m args below meth c H locs 0 0 (MQ below (sn_Qi g tb N o st) args s 0 0 (sn_A g N)) (F0 m 8 ls []) := by
  obtain ⟨⟨hx, hb, hml, hown, hts⟩, hr, hlk, hC, hi⟩ := id C
  have hinX6 : ∀ w ∈ wsX60, w ∈ wsX6_tieAhead := by decide +kernel
  intro n
  induction n with
  | zero => intro _ _ _ _ _ _ hd; exact nomatch (show (none : Option (Int32)) = some o from hd)
  | succ n ih =>
    intro x3 x4 x5 H locs ls hd hP hS hl
    replace hd := (D_X6_tieAhead_L8.eq_2 _ _ _ _ _ _ _ _).symm.trans hd
    refine lv_iload hx hb dX6_tieAhead_8 (lv_at hl 5 rfl) ?_
    refine lv_aload_n hx hb dX6_tieAhead_10 rfl (lv_at hl 0 rfl) ?_
    refine sn_get (ci := 5) (Cn := RX6) (T := TX6) (n := 6) (v := .ref (g.2.2.2 (b + 1))) C hinX6 hP b (sn_l0 hT.1 (by decide)) hT.2.1 rfl 0 (by decide) (by decide +kernel) rfl rfl dX6_tieAhead_11 ?_
    refine lv_sipush (v := (360 : Int32)) hx hb dX6_tieAhead_14 (by decide) ?_
    refine sn_aldc (k := 360) C hP (b + 1) (sn_l hT.1 (by decide)) hT.2.2.1 (by decide +kernel) dX6_tieAhead_17 ?_
    refine lv_icmp_ge (tgt := 55) hx hb dX6_tieAhead_18 (by decide) (fun hc => ?_) (fun hc => ?_)
    · replace hd := (if_pos hc).symm.trans hd
      refine lv_iload hx hb dX6_tieAhead_55 (lv_at hl 4 rfl) ?_
      refine lv_iconst (v := (-1 : Int32)) hx hb dX6_tieAhead_57 (by decide) ?_
      refine lv_icmp_ne (tgt := 65) hx hb dX6_tieAhead_58 (by decide) (fun hc => ?_) (fun hc => ?_)
      · replace hd := (if_neg hc).symm.trans hd
        refine lv_iload hx hb dX6_tieAhead_65 (lv_at hl 4 rfl) ?_
        have ho := Option.some.inj hd
        subst ho
        exact sn_ri C hP hS dX6_tieAhead_67
      · replace hd := (if_pos hc).symm.trans hd
        refine lv_iload_n hx hb dX6_tieAhead_61 rfl (lv_at hl 3 rfl) ?_
        refine lv_goto (tgt := 67) hx hb dX6_tieAhead_62 (by decide) ?_
        have ho := Option.some.inj hd
        subst ho
        exact sn_ri C hP hS dX6_tieAhead_67
    · replace hd := (if_neg hc).symm.trans hd
      refine lv_aload_n hx hb dX6_tieAhead_21 rfl (lv_at hl 0 rfl) ?_
      refine lv_iload_n hx hb dX6_tieAhead_22 rfl (lv_at hl 1 rfl) ?_
      refine lv_iload hx hb dX6_tieAhead_23 (lv_at hl 5 rfl) ?_
      obtain ⟨r1, hr1, hd⟩ := Option.bind_eq_some_iff.mp hd
      refine sn_Vi (b := b) (rest := []) (As := [.int x1, .int x5]) (st := st) C (c_X6_isTie hi hT hr1) (cwV 2 hts gX6_tieAhead_X6_isTie rfl rfl rfl (by decide +kernel) ⟨Nat.le_of_ble_eq_true rfl, Nat.le_of_ble_eq_true rfl⟩) hP hS (sn_l0 hT.1 (by decide)) hT.2.1 rfl rfl hl.1 rfl (Nat.le_of_ble_eq_true rfl) dX6_tieAhead_25 (fun H locs hP hS => ?_)
      refine lv_if_eq (tgt := 49) hx hb dX6_tieAhead_28 (by decide) (fun hc => ?_) (fun hc => ?_)
      · replace hd := (if_pos hc).symm.trans hd
        refine lv_iinc (v := (x5 + (1 : Int32))) (lv' := [(5, .int (x5 + (1 : Int32))), (0, .ref (g.2.2.2 b)), (1, .int x1), (2, .int x2), (3, .int x3), (4, .int x4)]) hx hb dX6_tieAhead_49 hl (k := 5) rfl rfl (by decide) rfl (fun ls hl => ?_)
        refine lv_goto (tgt := 8) hx hb dX6_tieAhead_52 (by decide) ?_
        exact ih x3 x4 (x5 + (1 : Int32)) _ _ _ hd hP hS (lv_sub hl [1, 2, 3, 4, 5, 0] rfl)
      · replace hd := (if_neg hc).symm.trans hd
        refine lv_iload hx hb dX6_tieAhead_31 (lv_at hl 5 rfl) ?_
        refine lv_iload_n hx hb dX6_tieAhead_33 rfl (lv_at hl 2 rfl) ?_
        refine lv_icmp_ge (tgt := 42) hx hb dX6_tieAhead_34 (by decide) (fun hc => ?_) (fun hc => ?_)
        · replace hd := (if_pos hc).symm.trans hd
          refine lv_iload hx hb dX6_tieAhead_42 (lv_at hl 4 rfl) ?_
          refine lv_istore (lv' := [(4, .int x4), (0, .ref (g.2.2.2 b)), (1, .int x1), (2, .int x2), (3, .int x3), (5, .int x5)]) hx hb dX6_tieAhead_44 hl (by decide) rfl (fun ls hl => ?_)
          refine lv_iload hx hb dX6_tieAhead_46 (lv_at hl 5 rfl) ?_
          refine lv_istore_n (lv' := [(3, .int x5), (4, .int x4), (0, .ref (g.2.2.2 b)), (1, .int x1), (2, .int x2), (5, .int x5)]) hx hb dX6_tieAhead_48 rfl hl (by decide) rfl (fun ls hl => ?_)
          refine lv_iinc (v := (x5 + (1 : Int32))) (lv' := [(5, .int (x5 + (1 : Int32))), (3, .int x5), (4, .int x4), (0, .ref (g.2.2.2 b)), (1, .int x1), (2, .int x2)]) hx hb dX6_tieAhead_49 hl (k := 5) rfl rfl (by decide) rfl (fun ls hl => ?_)
          refine lv_goto (tgt := 8) hx hb dX6_tieAhead_52 (by decide) ?_
          exact ih x5 x4 (x5 + (1 : Int32)) _ _ _ hd hP hS (lv_sub hl [3, 4, 5, 1, 2, 0] rfl)
        · replace hd := (if_neg hc).symm.trans hd
          refine lv_iload hx hb dX6_tieAhead_37 (lv_at hl 5 rfl) ?_
          refine lv_goto (tgt := 44) hx hb dX6_tieAhead_39 (by decide) ?_
          refine lv_istore (lv' := [(4, .int x5), (0, .ref (g.2.2.2 b)), (1, .int x1), (2, .int x2), (3, .int x3), (5, .int x5)]) hx hb dX6_tieAhead_44 hl (by decide) rfl (fun ls hl => ?_)
          refine lv_iload hx hb dX6_tieAhead_46 (lv_at hl 5 rfl) ?_
          refine lv_istore_n (lv' := [(3, .int x5), (4, .int x5), (0, .ref (g.2.2.2 b)), (1, .int x1), (2, .int x2), (5, .int x5)]) hx hb dX6_tieAhead_48 rfl hl (by decide) rfl (fun ls hl => ?_)
          refine lv_iinc (v := (x5 + (1 : Int32))) (lv' := [(5, .int (x5 + (1 : Int32))), (3, .int x5), (4, .int x5), (0, .ref (g.2.2.2 b)), (1, .int x1), (2, .int x2)]) hx hb dX6_tieAhead_49 hl (k := 5) rfl rfl (by decide) rfl (fun ls hl => ?_)
          refine lv_goto (tgt := 8) hx hb dX6_tieAhead_52 (by decide) ?_
          exact ih x5 x5 (x5 + (1 : Int32)) _ _ _ hd hP hS (lv_sub hl [3, 4, 5, 1, 2, 0] rfl)

set_option maxHeartbeats 4000000 in
set_option maxRecDepth 100000 in
theorem c_X6_tieAhead {l : Launch} {g : sn_G} {tb : Nat → sn_K} {N : Nat} (hi : sn_I g N) {b : Nat} {x1 : Int32} {x2 : Int32} (hT : sn_Mo tb N b) {st : sn_S} {o : Int32} (hd : D_X6_tieAhead b x1 x2 st = some o) : sn_Mi l yX6_tieAhead wsX6_tieAhead { frames := 7, cells := 0, slots := 0, locals := 152 } g tb N [.ref (g.2.2.2 b), .int x1, .int x2] st o st := by
  refine sn_Mi.of (cc := cX6_tieAhead) (nL := 6) (ret := (some .int)) hi (by decide) rfl (Nat.le_of_ble_eq_true rfl) ?_
  intro p e s m args below meth c ls C hP hS hl
  have hl : lv_has ls 6 [(0, .ref (g.2.2.2 b)), (1, .int x1), (2, .int x2)] := hl
  obtain ⟨⟨hx, hb, hml, hown, hts⟩, hr, hlk, hC, hi⟩ := id C
  unfold D_X6_tieAhead at hd
  have hinX6 : ∀ w ∈ wsX60, w ∈ wsX6_tieAhead := by decide +kernel
  refine lv_iconst (v := (-1 : Int32)) hx hb dX6_tieAhead_0 (by decide) ?_
  refine lv_istore_n (lv' := [(3, .int (-1 : Int32)), (0, .ref (g.2.2.2 b)), (1, .int x1), (2, .int x2)]) hx hb dX6_tieAhead_1 rfl hl (by decide) rfl (fun ls hl => ?_)
  refine lv_iconst (v := (-1 : Int32)) hx hb dX6_tieAhead_2 (by decide) ?_
  refine lv_istore (lv' := [(4, .int (-1 : Int32)), (3, .int (-1 : Int32)), (0, .ref (g.2.2.2 b)), (1, .int x1), (2, .int x2)]) hx hb dX6_tieAhead_3 hl (by decide) rfl (fun ls hl => ?_)
  refine lv_iconst (v := (0 : Int32)) hx hb dX6_tieAhead_5 (by decide) ?_
  refine lv_istore (lv' := [(5, .int (0 : Int32)), (4, .int (-1 : Int32)), (3, .int (-1 : Int32)), (0, .ref (g.2.2.2 b)), (1, .int x1), (2, .int x2)]) hx hb dX6_tieAhead_6 hl (by decide) rfl (fun ls hl => ?_)
  exact t_X6_tieAhead_L8 (st := st) C hT 4096 (-1 : Int32) (-1 : Int32) (0 : Int32) _ _ _ hd hP hS (lv_sub hl [3, 4, 5, 2, 1, 0] rfl)

set_option maxHeartbeats 4000000 in
set_option maxRecDepth 100000 in
theorem t_X6_firstTie_L2 {p : Program} {l : Launch} {e : Env} {s : State} {m : MethodId} {args : Array Value} {below : List Frame} {meth : Method} {c : Code} {g : sn_G} {tb : Nat → sn_K} {N : Nat} {b : Nat} {x1 : Int32} {st : sn_S} {o : Int32} (C : sn_Cx p s m args meth c g N cX6_firstTie 3 wsX6_firstTie yX6_firstTie.cls (some .int)) (hT : sn_Mo tb N b)  : ∀ (n : Nat) (x2 : Int32) (H : Heap) (locs : List Loc) (ls : Array Slot), D_X6_firstTie_L2 b x1 st n x2 = some o → va_P g.1 vwCl (sn_W g tb N st) H → va_S (sn_A g N) s.heap H locs → lv_has ls 3 [(0, .ref (g.2.2.2 b)), (1, .int x1), (2, .int x2)] → W p l e { frames := 7, cells := 0, slots := 0, locals := 152 } s m args below meth c H locs 0 0 (MQ below (sn_Qi g tb N o st) args s 0 0 (sn_A g N)) (F0 m 2 ls []) := by
  obtain ⟨⟨hx, hb, hml, hown, hts⟩, hr, hlk, hC, hi⟩ := id C
  have hinX6 : ∀ w ∈ wsX60, w ∈ wsX6_firstTie := by decide +kernel
  intro n
  induction n with
  | zero => intro _ _ _ _ hd; exact nomatch (show (none : Option (Int32)) = some o from hd)
  | succ n ih =>
    intro x2 H locs ls hd hP hS hl
    replace hd := (D_X6_firstTie_L2.eq_2 _ _ _ _ _).symm.trans hd
    refine lv_iload_n hx hb dX6_firstTie_2 rfl (lv_at hl 2 rfl) ?_
    refine lv_aload_n hx hb dX6_firstTie_3 rfl (lv_at hl 0 rfl) ?_
    refine sn_get (ci := 5) (Cn := RX6) (T := TX6) (n := 6) (v := .ref (g.2.2.2 (b + 1))) C hinX6 hP b (sn_l0 hT.1 (by decide)) hT.2.1 rfl 0 (by decide) (by decide +kernel) rfl rfl dX6_firstTie_4 ?_
    refine lv_sipush (v := (360 : Int32)) hx hb dX6_firstTie_7 (by decide) ?_
    refine sn_aldc (k := 360) C hP (b + 1) (sn_l hT.1 (by decide)) hT.2.2.1 (by decide +kernel) dX6_firstTie_10 ?_
    refine lv_icmp_ge (tgt := 29) hx hb dX6_firstTie_11 (by decide) (fun hc => ?_) (fun hc => ?_)
    · replace hd := (if_pos hc).symm.trans hd
      refine lv_iload_n hx hb dX6_firstTie_29 rfl (lv_at hl 2 rfl) ?_
      have ho := Option.some.inj hd
      subst ho
      exact sn_ri C hP hS dX6_firstTie_30
    · replace hd := (if_neg hc).symm.trans hd
      refine lv_aload_n hx hb dX6_firstTie_14 rfl (lv_at hl 0 rfl) ?_
      refine lv_iload_n hx hb dX6_firstTie_15 rfl (lv_at hl 1 rfl) ?_
      refine lv_iload_n hx hb dX6_firstTie_16 rfl (lv_at hl 2 rfl) ?_
      obtain ⟨r1, hr1, hd⟩ := Option.bind_eq_some_iff.mp hd
      refine sn_Vi (b := b) (rest := []) (As := [.int x1, .int x2]) (st := st) C (c_X6_isTie hi hT hr1) (cwV 2 hts gX6_firstTie_X6_isTie rfl rfl rfl (by decide +kernel) ⟨Nat.le_of_ble_eq_true rfl, Nat.le_of_ble_eq_true rfl⟩) hP hS (sn_l0 hT.1 (by decide)) hT.2.1 rfl rfl hl.1 rfl (Nat.le_of_ble_eq_true rfl) dX6_firstTie_17 (fun H locs hP hS => ?_)
      refine lv_if_ne (tgt := 29) hx hb dX6_firstTie_20 (by decide) (fun hc => ?_) (fun hc => ?_)
      · replace hd := (if_neg hc).symm.trans hd
        refine lv_iload_n hx hb dX6_firstTie_29 rfl (lv_at hl 2 rfl) ?_
        have ho := Option.some.inj hd
        subst ho
        exact sn_ri C hP hS dX6_firstTie_30
      · replace hd := (if_pos hc).symm.trans hd
        refine lv_iinc (v := (x2 + (1 : Int32))) (lv' := [(2, .int (x2 + (1 : Int32))), (0, .ref (g.2.2.2 b)), (1, .int x1)]) hx hb dX6_firstTie_23 hl (k := 2) rfl rfl (by decide) rfl (fun ls hl => ?_)
        refine lv_goto (tgt := 2) hx hb dX6_firstTie_26 (by decide) ?_
        exact ih (x2 + (1 : Int32)) _ _ _ hd hP hS (lv_sub hl [1, 2, 0] rfl)

set_option maxHeartbeats 4000000 in
set_option maxRecDepth 100000 in
theorem c_X6_firstTie {l : Launch} {g : sn_G} {tb : Nat → sn_K} {N : Nat} (hi : sn_I g N) {b : Nat} {x1 : Int32} (hT : sn_Mo tb N b) {st : sn_S} {o : Int32} (hd : D_X6_firstTie b x1 st = some o) : sn_Mi l yX6_firstTie wsX6_firstTie { frames := 7, cells := 0, slots := 0, locals := 152 } g tb N [.ref (g.2.2.2 b), .int x1] st o st := by
  refine sn_Mi.of (cc := cX6_firstTie) (nL := 3) (ret := (some .int)) hi (by decide) rfl (Nat.le_of_ble_eq_true rfl) ?_
  intro p e s m args below meth c ls C hP hS hl
  have hl : lv_has ls 3 [(0, .ref (g.2.2.2 b)), (1, .int x1)] := hl
  obtain ⟨⟨hx, hb, hml, hown, hts⟩, hr, hlk, hC, hi⟩ := id C
  unfold D_X6_firstTie at hd
  have hinX6 : ∀ w ∈ wsX60, w ∈ wsX6_firstTie := by decide +kernel
  refine lv_iconst (v := (0 : Int32)) hx hb dX6_firstTie_0 (by decide) ?_
  refine lv_istore_n (lv' := [(2, .int (0 : Int32)), (0, .ref (g.2.2.2 b)), (1, .int x1)]) hx hb dX6_firstTie_1 rfl hl (by decide) rfl (fun ls hl => ?_)
  exact t_X6_firstTie_L2 (st := st) C hT 4096 (0 : Int32) _ _ _ hd hP hS (lv_sub hl [1, 2, 0] rfl)

set_option maxHeartbeats 4000000 in
set_option maxRecDepth 100000 in
theorem c_X6_hasRight {l : Launch} {g : sn_G} {tb : Nat → sn_K} {N : Nat} (hi : sn_I g N) {b : Nat} {x1 : Int32} {x2 : Int32} (hT : sn_Mo tb N b) {st : sn_S} {o : Int32} (hd : D_X6_hasRight b x1 x2 st = some o) : sn_Mi l yX6_hasRight wsX6_hasRight { frames := 8, cells := 0, slots := 0, locals := 177 } g tb N [.ref (g.2.2.2 b), .int x1, .int x2] st o st := by
  refine sn_Mi.of (cc := cX6_hasRight) (nL := 4) (ret := (some .boolean)) hi (by decide) rfl (Nat.le_of_ble_eq_true rfl) ?_
  intro p e s m args below meth c ls C hP hS hl
  have hl : lv_has ls 4 [(0, .ref (g.2.2.2 b)), (1, .int x1), (2, .int x2)] := hl
  obtain ⟨⟨hx, hb, hml, hown, hts⟩, hr, hlk, hC, hi⟩ := id C
  unfold D_X6_hasRight at hd
  refine lv_aload_n hx hb dX6_hasRight_0 rfl (lv_at hl 0 rfl) ?_
  refine lv_iload_n hx hb dX6_hasRight_1 rfl (lv_at hl 1 rfl) ?_
  refine lv_iload_n hx hb dX6_hasRight_2 rfl (lv_at hl 2 rfl) ?_
  obtain ⟨r1, hr1, hd⟩ := Option.bind_eq_some_iff.mp hd
  refine sn_Vi (b := b) (rest := []) (As := [.int x1, .int x2]) (st := st) C (c_X6_xOf hi hT hr1) (cwV 2 hts gX6_hasRight_X6_xOf rfl rfl rfl (by decide +kernel) ⟨Nat.le_of_ble_eq_true rfl, Nat.le_of_ble_eq_true rfl⟩) hP hS (sn_l0 hT.1 (by decide)) hT.2.1 rfl rfl hl.1 rfl (Nat.le_of_ble_eq_true rfl) dX6_hasRight_3 (fun H locs hP hS => ?_)
  refine lv_aload_n hx hb dX6_hasRight_6 rfl (lv_at hl 0 rfl) ?_
  refine lv_aload_n hx hb dX6_hasRight_7 rfl (lv_at hl 0 rfl) ?_
  refine lv_iload_n hx hb dX6_hasRight_8 rfl (lv_at hl 1 rfl) ?_
  refine lv_iload_n hx hb dX6_hasRight_9 rfl (lv_at hl 2 rfl) ?_
  obtain ⟨r2, hr2, hd⟩ := Option.bind_eq_some_iff.mp hd
  refine sn_Vi (b := b) (rest := [.ref (g.2.2.2 b), .int r1]) (As := [.int x1, .int x2]) (st := st) C (c_X6_tieAhead hi hT hr2) (cwV 2 hts gX6_hasRight_X6_tieAhead rfl rfl rfl (by decide +kernel) ⟨Nat.le_of_ble_eq_true rfl, Nat.le_of_ble_eq_true rfl⟩) hP hS (sn_l0 hT.1 (by decide)) hT.2.1 rfl rfl hl.1 rfl (Nat.le_of_ble_eq_true rfl) dX6_hasRight_10 (fun H locs hP hS => ?_)
  refine lv_iload_n hx hb dX6_hasRight_13 rfl (lv_at hl 1 rfl) ?_
  obtain ⟨r3, hr3, hd⟩ := Option.bind_eq_some_iff.mp hd
  refine sn_Vi (b := b) (rest := [.int r1]) (As := [.int r2, .int x1]) (st := st) C (c_X6_xOf hi hT hr3) (cwV 2 hts gX6_hasRight_X6_xOf rfl rfl rfl (by decide +kernel) ⟨Nat.le_of_ble_eq_true rfl, Nat.le_of_ble_eq_true rfl⟩) hP hS (sn_l0 hT.1 (by decide)) hT.2.1 rfl rfl hl.1 rfl (Nat.le_of_ble_eq_true rfl) dX6_hasRight_14 (fun H locs hP hS => ?_)
  refine lv_icmp_ne (tgt := 24) hx hb dX6_hasRight_17 (by decide) (fun hc => ?_) (fun hc => ?_)
  · replace hd := (if_neg hc).symm.trans hd
    refine lv_iconst (v := (0 : Int32)) hx hb dX6_hasRight_24 (by decide) ?_
    refine lv_istore_n (lv' := [(3, .int (0 : Int32)), (0, .ref (g.2.2.2 b)), (1, .int x1), (2, .int x2)]) hx hb dX6_hasRight_25 rfl hl (by decide) rfl (fun ls hl => ?_)
    refine lv_iload_n hx hb dX6_hasRight_26 rfl (lv_at hl 2 rfl) ?_
    refine lv_if_ne (tgt := 43) hx hb dX6_hasRight_27 (by decide) (fun hc => ?_) (fun hc => ?_)
    · replace hd := (if_neg hc).symm.trans hd
      refine lv_iload_n hx hb dX6_hasRight_43 rfl (lv_at hl 0 rfl) ?_
      refine lv_if_ne (tgt := 51) hx hb dX6_hasRight_44 (by decide) (fun hc => ?_) (fun hc => ?_)
      · replace hd := (if_neg hc).symm.trans hd
        refine lv_iconst (v := (0 : Int32)) hx hb dX6_hasRight_51 (by decide) ?_
        have ho := Option.some.inj hd
        subst ho
        exact sn_rz (Or.inl rfl) C hP hS dX6_hasRight_52
      · replace hd := (if_pos hc).symm.trans hd
        refine lv_iconst (v := (1 : Int32)) hx hb dX6_hasRight_47 (by decide) ?_
        refine lv_goto (tgt := 52) hx hb dX6_hasRight_48 (by decide) ?_
        have ho := Option.some.inj hd
        subst ho
        exact sn_rz (Or.inr rfl) C hP hS dX6_hasRight_52
    · replace hd := (if_pos hc).symm.trans hd
      refine lv_iload_n hx hb dX6_hasRight_30 rfl (lv_at hl 3 rfl) ?_
      refine lv_aload_n hx hb dX6_hasRight_31 rfl (lv_at hl 1 rfl) ?_
      refine lv_iconst (v := (0 : Int32)) hx hb dX6_hasRight_32 (by decide) ?_
      obtain ⟨r4, hr4, hd⟩ := Option.bind_eq_some_iff.mp hd
      refine sn_Vi (b := b) (rest := [.int x2]) (As := [.int (0 : Int32)]) (st := st) C (c_X6_firstTie hi hT hr4) (cwV 1 hts gX6_hasRight_X6_firstTie rfl rfl rfl (by decide +kernel) ⟨Nat.le_of_ble_eq_true rfl, Nat.le_of_ble_eq_true rfl⟩) hP hS (sn_l0 hT.1 (by decide)) hT.2.1 rfl rfl hl.1 rfl (Nat.le_of_ble_eq_true rfl) dX6_hasRight_33 (fun H locs hP hS => ?_)
      refine lv_icmp_ne (tgt := 43) hx hb dX6_hasRight_36 (by decide) (fun hc => ?_) (fun hc => ?_)
      · replace hd := (if_neg hc).symm.trans hd
        refine lv_iload_n hx hb dX6_hasRight_43 rfl (lv_at hl 0 rfl) ?_
        refine lv_if_ne (tgt := 51) hx hb dX6_hasRight_44 (by decide) (fun hc => ?_) (fun hc => ?_)
        · replace hd := (if_neg hc).symm.trans hd
          refine lv_iconst (v := (0 : Int32)) hx hb dX6_hasRight_51 (by decide) ?_
          have ho := Option.some.inj hd
          subst ho
          exact sn_rz (Or.inl rfl) C hP hS dX6_hasRight_52
        · replace hd := (if_pos hc).symm.trans hd
          refine lv_iconst (v := (1 : Int32)) hx hb dX6_hasRight_47 (by decide) ?_
          refine lv_goto (tgt := 52) hx hb dX6_hasRight_48 (by decide) ?_
          have ho := Option.some.inj hd
          subst ho
          exact sn_rz (Or.inr rfl) C hP hS dX6_hasRight_52
      · replace hd := (if_pos hc).symm.trans hd
        refine lv_iload_n hx hb dX6_hasRight_39 rfl (lv_at hl 0 rfl) ?_
        refine lv_goto (tgt := 52) hx hb dX6_hasRight_40 (by decide) ?_
        have ho := Option.some.inj hd
        subst ho
        exact sn_rz (Or.inl rfl) C hP hS dX6_hasRight_52
  · replace hd := (if_pos hc).symm.trans hd
    refine lv_iconst (v := (1 : Int32)) hx hb dX6_hasRight_20 (by decide) ?_
    refine lv_goto (tgt := 25) hx hb dX6_hasRight_21 (by decide) ?_
    refine lv_istore_n (lv' := [(3, .int (1 : Int32)), (0, .ref (g.2.2.2 b)), (1, .int x1), (2, .int x2)]) hx hb dX6_hasRight_25 rfl hl (by decide) rfl (fun ls hl => ?_)
    refine lv_iload_n hx hb dX6_hasRight_26 rfl (lv_at hl 2 rfl) ?_
    refine lv_if_ne (tgt := 43) hx hb dX6_hasRight_27 (by decide) (fun hc => ?_) (fun hc => ?_)
    · replace hd := (if_neg hc).symm.trans hd
      refine lv_iload_n hx hb dX6_hasRight_43 rfl (lv_at hl 0 rfl) ?_
      refine lv_if_ne (tgt := 51) hx hb dX6_hasRight_44 (by decide) (fun hc => ?_) (fun hc => ?_)
      · replace hd := (if_neg hc).symm.trans hd
        refine lv_iconst (v := (0 : Int32)) hx hb dX6_hasRight_51 (by decide) ?_
        have ho := Option.some.inj hd
        subst ho
        exact sn_rz (Or.inl rfl) C hP hS dX6_hasRight_52
      · replace hd := (if_pos hc).symm.trans hd
        refine lv_iconst (v := (1 : Int32)) hx hb dX6_hasRight_47 (by decide) ?_
        refine lv_goto (tgt := 52) hx hb dX6_hasRight_48 (by decide) ?_
        have ho := Option.some.inj hd
        subst ho
        exact sn_rz (Or.inr rfl) C hP hS dX6_hasRight_52
    · replace hd := (if_pos hc).symm.trans hd
      refine lv_iload_n hx hb dX6_hasRight_30 rfl (lv_at hl 3 rfl) ?_
      refine lv_aload_n hx hb dX6_hasRight_31 rfl (lv_at hl 1 rfl) ?_
      refine lv_iconst (v := (0 : Int32)) hx hb dX6_hasRight_32 (by decide) ?_
      obtain ⟨r5, hr5, hd⟩ := Option.bind_eq_some_iff.mp hd
      refine sn_Vi (b := b) (rest := [.int x2]) (As := [.int (0 : Int32)]) (st := st) C (c_X6_firstTie hi hT hr5) (cwV 1 hts gX6_hasRight_X6_firstTie rfl rfl rfl (by decide +kernel) ⟨Nat.le_of_ble_eq_true rfl, Nat.le_of_ble_eq_true rfl⟩) hP hS (sn_l0 hT.1 (by decide)) hT.2.1 rfl rfl hl.1 rfl (Nat.le_of_ble_eq_true rfl) dX6_hasRight_33 (fun H locs hP hS => ?_)
      refine lv_icmp_ne (tgt := 43) hx hb dX6_hasRight_36 (by decide) (fun hc => ?_) (fun hc => ?_)
      · replace hd := (if_neg hc).symm.trans hd
        refine lv_iload_n hx hb dX6_hasRight_43 rfl (lv_at hl 0 rfl) ?_
        refine lv_if_ne (tgt := 51) hx hb dX6_hasRight_44 (by decide) (fun hc => ?_) (fun hc => ?_)
        · replace hd := (if_neg hc).symm.trans hd
          refine lv_iconst (v := (0 : Int32)) hx hb dX6_hasRight_51 (by decide) ?_
          have ho := Option.some.inj hd
          subst ho
          exact sn_rz (Or.inl rfl) C hP hS dX6_hasRight_52
        · replace hd := (if_pos hc).symm.trans hd
          refine lv_iconst (v := (1 : Int32)) hx hb dX6_hasRight_47 (by decide) ?_
          refine lv_goto (tgt := 52) hx hb dX6_hasRight_48 (by decide) ?_
          have ho := Option.some.inj hd
          subst ho
          exact sn_rz (Or.inr rfl) C hP hS dX6_hasRight_52
      · replace hd := (if_pos hc).symm.trans hd
        refine lv_iload_n hx hb dX6_hasRight_39 rfl (lv_at hl 0 rfl) ?_
        refine lv_goto (tgt := 52) hx hb dX6_hasRight_40 (by decide) ?_
        have ho := Option.some.inj hd
        subst ho
        exact sn_rz (Or.inr rfl) C hP hS dX6_hasRight_52

set_option maxHeartbeats 4000000 in
set_option maxRecDepth 100000 in
theorem t_X6_firstRight_L2 {p : Program} {l : Launch} {e : Env} {s : State} {m : MethodId} {args : Array Value} {below : List Frame} {meth : Method} {c : Code} {g : sn_G} {tb : Nat → sn_K} {N : Nat} {b : Nat} {x1 : Int32} {st : sn_S} {o : Int32} (C : sn_Cx p s m args meth c g N cX6_firstRight 3 wsX6_firstRight yX6_firstRight.cls (some .int)) (hT : sn_Mo tb N b)  : ∀ (n : Nat) (x2 : Int32) (H : Heap) (locs : List Loc) (ls : Array Slot), D_X6_firstRight_L2 b x1 st n x2 = some o → va_P g.1 vwCl (sn_W g tb N st) H → va_S (sn_A g N) s.heap H locs → lv_has ls 3 [(0, .ref (g.2.2.2 b)), (1, .int x1), (2, .int x2)] → W p l e { frames := 9, cells := 0, slots := 0, locals := 200 } s m args below meth c H locs 0 0 (MQ below (sn_Qi g tb N o st) args s 0 0 (sn_A g N)) (F0 m 2 ls []) := by
  obtain ⟨⟨hx, hb, hml, hown, hts⟩, hr, hlk, hC, hi⟩ := id C
  have hinX6 : ∀ w ∈ wsX60, w ∈ wsX6_firstRight := by decide +kernel
  intro n
  induction n with
  | zero => intro _ _ _ _ hd; exact nomatch (show (none : Option (Int32)) = some o from hd)
  | succ n ih =>
    intro x2 H locs ls hd hP hS hl
    replace hd := (D_X6_firstRight_L2.eq_2 _ _ _ _ _).symm.trans hd
    refine lv_iload_n hx hb dX6_firstRight_2 rfl (lv_at hl 2 rfl) ?_
    refine lv_aload_n hx hb dX6_firstRight_3 rfl (lv_at hl 0 rfl) ?_
    refine sn_get (ci := 5) (Cn := RX6) (T := TX6) (n := 6) (v := .ref (g.2.2.2 (b + 1))) C hinX6 hP b (sn_l0 hT.1 (by decide)) hT.2.1 rfl 0 (by decide) (by decide +kernel) rfl rfl dX6_firstRight_4 ?_
    refine lv_sipush (v := (360 : Int32)) hx hb dX6_firstRight_7 (by decide) ?_
    refine sn_aldc (k := 360) C hP (b + 1) (sn_l hT.1 (by decide)) hT.2.2.1 (by decide +kernel) dX6_firstRight_10 ?_
    refine lv_icmp_ge (tgt := 40) hx hb dX6_firstRight_11 (by decide) (fun hc => ?_) (fun hc => ?_)
    · replace hd := (if_pos hc).symm.trans hd
      refine lv_iconst (v := (-1 : Int32)) hx hb dX6_firstRight_40 (by decide) ?_
      have ho := Option.some.inj hd
      subst ho
      exact sn_ri C hP hS dX6_firstRight_41
    · replace hd := (if_neg hc).symm.trans hd
      refine lv_aload_n hx hb dX6_firstRight_14 rfl (lv_at hl 0 rfl) ?_
      refine lv_iload_n hx hb dX6_firstRight_15 rfl (lv_at hl 1 rfl) ?_
      refine lv_iload_n hx hb dX6_firstRight_16 rfl (lv_at hl 2 rfl) ?_
      obtain ⟨r1, hr1, hd⟩ := Option.bind_eq_some_iff.mp hd
      refine sn_Vi (b := b) (rest := []) (As := [.int x1, .int x2]) (st := st) C (c_X6_isTie hi hT hr1) (cwV 2 hts gX6_firstRight_X6_isTie rfl rfl rfl (by decide +kernel) ⟨Nat.le_of_ble_eq_true rfl, Nat.le_of_ble_eq_true rfl⟩) hP hS (sn_l0 hT.1 (by decide)) hT.2.1 rfl rfl hl.1 rfl (Nat.le_of_ble_eq_true rfl) dX6_firstRight_17 (fun H locs hP hS => ?_)
      refine lv_if_eq (tgt := 34) hx hb dX6_firstRight_20 (by decide) (fun hc => ?_) (fun hc => ?_)
      · replace hd := (if_pos hc).symm.trans hd
        refine lv_iinc (v := (x2 + (1 : Int32))) (lv' := [(2, .int (x2 + (1 : Int32))), (0, .ref (g.2.2.2 b)), (1, .int x1)]) hx hb dX6_firstRight_34 hl (k := 2) rfl rfl (by decide) rfl (fun ls hl => ?_)
        refine lv_goto (tgt := 2) hx hb dX6_firstRight_37 (by decide) ?_
        exact ih (x2 + (1 : Int32)) _ _ _ hd hP hS (lv_sub hl [1, 2, 0] rfl)
      · replace hd := (if_neg hc).symm.trans hd
        refine lv_aload_n hx hb dX6_firstRight_23 rfl (lv_at hl 0 rfl) ?_
        refine lv_iload_n hx hb dX6_firstRight_24 rfl (lv_at hl 1 rfl) ?_
        refine lv_iload_n hx hb dX6_firstRight_25 rfl (lv_at hl 2 rfl) ?_
        obtain ⟨r2, hr2, hd⟩ := Option.bind_eq_some_iff.mp hd
        refine sn_Vi (b := b) (rest := []) (As := [.int x1, .int x2]) (st := st) C (c_X6_hasRight hi hT hr2) (cwV 2 hts gX6_firstRight_X6_hasRight rfl rfl rfl (by decide +kernel) ⟨Nat.le_of_ble_eq_true rfl, Nat.le_of_ble_eq_true rfl⟩) hP hS (sn_l0 hT.1 (by decide)) hT.2.1 rfl rfl hl.1 rfl (Nat.le_of_ble_eq_true rfl) dX6_firstRight_26 (fun H locs hP hS => ?_)
        refine lv_if_eq (tgt := 34) hx hb dX6_firstRight_29 (by decide) (fun hc => ?_) (fun hc => ?_)
        · replace hd := (if_pos hc).symm.trans hd
          refine lv_iinc (v := (x2 + (1 : Int32))) (lv' := [(2, .int (x2 + (1 : Int32))), (0, .ref (g.2.2.2 b)), (1, .int x1)]) hx hb dX6_firstRight_34 hl (k := 2) rfl rfl (by decide) rfl (fun ls hl => ?_)
          refine lv_goto (tgt := 2) hx hb dX6_firstRight_37 (by decide) ?_
          exact ih (x2 + (1 : Int32)) _ _ _ hd hP hS (lv_sub hl [1, 2, 0] rfl)
        · replace hd := (if_neg hc).symm.trans hd
          refine lv_iload_n hx hb dX6_firstRight_32 rfl (lv_at hl 2 rfl) ?_
          have ho := Option.some.inj hd
          subst ho
          exact sn_ri C hP hS dX6_firstRight_33

set_option maxHeartbeats 4000000 in
set_option maxRecDepth 100000 in
theorem c_X6_firstRight {l : Launch} {g : sn_G} {tb : Nat → sn_K} {N : Nat} (hi : sn_I g N) {b : Nat} {x1 : Int32} (hT : sn_Mo tb N b) {st : sn_S} {o : Int32} (hd : D_X6_firstRight b x1 st = some o) : sn_Mi l yX6_firstRight wsX6_firstRight { frames := 9, cells := 0, slots := 0, locals := 200 } g tb N [.ref (g.2.2.2 b), .int x1] st o st := by
  refine sn_Mi.of (cc := cX6_firstRight) (nL := 3) (ret := (some .int)) hi (by decide) rfl (Nat.le_of_ble_eq_true rfl) ?_
  intro p e s m args below meth c ls C hP hS hl
  have hl : lv_has ls 3 [(0, .ref (g.2.2.2 b)), (1, .int x1)] := hl
  obtain ⟨⟨hx, hb, hml, hown, hts⟩, hr, hlk, hC, hi⟩ := id C
  unfold D_X6_firstRight at hd
  have hinX6 : ∀ w ∈ wsX60, w ∈ wsX6_firstRight := by decide +kernel
  refine lv_iconst (v := (0 : Int32)) hx hb dX6_firstRight_0 (by decide) ?_
  refine lv_istore_n (lv' := [(2, .int (0 : Int32)), (0, .ref (g.2.2.2 b)), (1, .int x1)]) hx hb dX6_firstRight_1 rfl hl (by decide) rfl (fun ls hl => ?_)
  exact t_X6_firstRight_L2 (st := st) C hT 4096 (0 : Int32) _ _ _ hd hP hS (lv_sub hl [1, 2, 0] rfl)

set_option maxHeartbeats 4000000 in
set_option maxRecDepth 100000 in
theorem c_X6_ruleOf {l : Launch} {g : sn_G} {tb : Nat → sn_K} {N : Nat} (hi : sn_I g N) {b : Nat} {x1 : Int32} (hT : sn_Mo tb N b) {st : sn_S} {o : Int32} (hd : D_X6_ruleOf b x1 st = some o) : sn_Mi l yX6_ruleOf wsX6_ruleOf { frames := 10, cells := 0, slots := 0, locals := 222 } g tb N [.ref (g.2.2.2 b), .int x1] st o st := by
  refine sn_Mi.of (cc := cX6_ruleOf) (nL := 2) (ret := (some .int)) hi (by decide) rfl (Nat.le_of_ble_eq_true rfl) ?_
  intro p e s m args below meth c ls C hP hS hl
  have hl : lv_has ls 2 [(0, .ref (g.2.2.2 b)), (1, .int x1)] := hl
  obtain ⟨⟨hx, hb, hml, hown, hts⟩, hr, hlk, hC, hi⟩ := id C
  unfold D_X6_ruleOf at hd
  have hinX6 : ∀ w ∈ wsX60, w ∈ wsX6_ruleOf := by decide +kernel
  refine lv_aload_n hx hb dX6_ruleOf_0 rfl (lv_at hl 0 rfl) ?_
  refine lv_iload_n hx hb dX6_ruleOf_1 rfl (lv_at hl 1 rfl) ?_
  obtain ⟨r1, hr1, hd⟩ := Option.bind_eq_some_iff.mp hd
  refine sn_Vi (b := b) (rest := []) (As := [.int x1]) (st := st) C (c_X6_isSane hi hT hr1) (cwV 1 hts gX6_ruleOf_X6_isSane rfl rfl rfl (by decide +kernel) ⟨Nat.le_of_ble_eq_true rfl, Nat.le_of_ble_eq_true rfl⟩) hP hS (sn_l0 hT.1 (by decide)) hT.2.1 rfl rfl hl.1 rfl (Nat.le_of_ble_eq_true rfl) dX6_ruleOf_2 (fun H locs hP hS => ?_)
  refine lv_if_ne (tgt := 10) hx hb dX6_ruleOf_5 (by decide) (fun hc => ?_) (fun hc => ?_)
  · replace hd := (if_neg hc).symm.trans hd
    refine lv_aload_n hx hb dX6_ruleOf_10 rfl (lv_at hl 0 rfl) ?_
    refine sn_get (ci := 5) (Cn := RX6) (T := TX6) (n := 6) (v := .ref (g.2.2.2 (b + 1))) C hinX6 hP b (sn_l0 hT.1 (by decide)) hT.2.1 rfl 0 (by decide) (by decide +kernel) rfl rfl dX6_ruleOf_11 ?_
    refine lv_bipush (v := (12 : Int32)) hx hb dX6_ruleOf_14 (by decide) ?_
    refine lv_iload_n hx hb dX6_ruleOf_16 rfl (lv_at hl 1 rfl) ?_
    refine lv_iadd hx hb dX6_ruleOf_17 ?_
    refine sn_ald C hP (b + 1) (sn_l hT.1 (by decide)) hT.2.2.1 hd dX6_ruleOf_18 (fun k2 hk2 hd => ?_)
    refine lv_aload_n hx hb dX6_ruleOf_19 rfl (lv_at hl 0 rfl) ?_
    refine lv_iload_n hx hb dX6_ruleOf_20 rfl (lv_at hl 1 rfl) ?_
    obtain ⟨r3, hr3, hd⟩ := Option.bind_eq_some_iff.mp hd
    refine sn_Vi (b := b) (rest := [.int (st.1 (b + 1) k2)]) (As := [.int x1]) (st := st) C (c_X6_treeDist hi hT hr3) (cwV 1 hts gX6_ruleOf_X6_treeDist rfl rfl rfl (by decide +kernel) ⟨Nat.le_of_ble_eq_true rfl, Nat.le_of_ble_eq_true rfl⟩) hP hS (sn_l0 hT.1 (by decide)) hT.2.1 rfl rfl hl.1 rfl (Nat.le_of_ble_eq_true rfl) dX6_ruleOf_21 (fun H locs hP hS => ?_)
    refine lv_icmp_ne (tgt := 44) hx hb dX6_ruleOf_24 (by decide) (fun hc => ?_) (fun hc => ?_)
    · replace hd := (if_neg hc).symm.trans hd
      refine lv_iconst (v := (1 : Int32)) hx hb dX6_ruleOf_44 (by decide) ?_
      have ho := Option.some.inj hd
      subst ho
      exact sn_ri C hP hS dX6_ruleOf_45
    · replace hd := (if_pos hc).symm.trans hd
      refine lv_aload_n hx hb dX6_ruleOf_27 rfl (lv_at hl 0 rfl) ?_
      refine sn_get (ci := 5) (Cn := RX6) (T := TX6) (n := 6) (v := .ref (g.2.2.2 (b + 1))) C hinX6 hP b (sn_l0 hT.1 (by decide)) hT.2.1 rfl 0 (by decide) (by decide +kernel) rfl rfl dX6_ruleOf_28 ?_
      refine lv_bipush (v := (24 : Int32)) hx hb dX6_ruleOf_31 (by decide) ?_
      refine lv_iload_n hx hb dX6_ruleOf_33 rfl (lv_at hl 1 rfl) ?_
      refine lv_iadd hx hb dX6_ruleOf_34 ?_
      refine sn_ald C hP (b + 1) (sn_l hT.1 (by decide)) hT.2.2.1 hd dX6_ruleOf_35 (fun k4 hk4 hd => ?_)
      refine lv_aload_n hx hb dX6_ruleOf_36 rfl (lv_at hl 0 rfl) ?_
      refine lv_iload_n hx hb dX6_ruleOf_37 rfl (lv_at hl 1 rfl) ?_
      obtain ⟨r5, hr5, hd⟩ := Option.bind_eq_some_iff.mp hd
      refine sn_Vi (b := b) (rest := [.int (st.1 (b + 1) k4)]) (As := [.int x1]) (st := st) C (c_X6_treeParent hi hT hr5) (cwV 1 hts gX6_ruleOf_X6_treeParent rfl rfl rfl (by decide +kernel) ⟨Nat.le_of_ble_eq_true rfl, Nat.le_of_ble_eq_true rfl⟩) hP hS (sn_l0 hT.1 (by decide)) hT.2.1 rfl rfl hl.1 rfl (Nat.le_of_ble_eq_true rfl) dX6_ruleOf_38 (fun H locs hP hS => ?_)
      refine lv_icmp_eq (tgt := 46) hx hb dX6_ruleOf_41 (by decide) (fun hc => ?_) (fun hc => ?_)
      · replace hd := (if_pos hc).symm.trans hd
        refine lv_aload_n hx hb dX6_ruleOf_46 rfl (lv_at hl 0 rfl) ?_
        refine lv_iload_n hx hb dX6_ruleOf_47 rfl (lv_at hl 1 rfl) ?_
        obtain ⟨r6, hr6, hd⟩ := Option.bind_eq_some_iff.mp hd
        refine sn_Vi (b := b) (rest := []) (As := [.int x1]) (st := st) C (c_X6_wavePhase hi hT hr6) (cwV 1 hts gX6_ruleOf_X6_wavePhase rfl rfl rfl (by decide +kernel) ⟨Nat.le_of_ble_eq_true rfl, Nat.le_of_ble_eq_true rfl⟩) hP hS (sn_l0 hT.1 (by decide)) hT.2.1 rfl rfl hl.1 rfl (Nat.le_of_ble_eq_true rfl) dX6_ruleOf_48 (fun H locs hP hS => ?_)
        refine lv_aload_n hx hb dX6_ruleOf_51 rfl (lv_at hl 0 rfl) ?_
        refine sn_get (ci := 5) (Cn := RX6) (T := TX6) (n := 6) (v := .ref (g.2.2.2 (b + 1))) C hinX6 hP b (sn_l0 hT.1 (by decide)) hT.2.1 rfl 0 (by decide) (by decide +kernel) rfl rfl dX6_ruleOf_52 ?_
        refine lv_bipush (v := (36 : Int32)) hx hb dX6_ruleOf_55 (by decide) ?_
        refine lv_iload_n hx hb dX6_ruleOf_57 rfl (lv_at hl 1 rfl) ?_
        refine lv_iadd hx hb dX6_ruleOf_58 ?_
        refine sn_ald C hP (b + 1) (sn_l hT.1 (by decide)) hT.2.2.1 hd dX6_ruleOf_59 (fun k7 hk7 hd => ?_)
        refine lv_icmp_eq (tgt := 65) hx hb dX6_ruleOf_60 (by decide) (fun hc => ?_) (fun hc => ?_)
        · replace hd := (if_pos hc).symm.trans hd
          refine lv_aload_n hx hb dX6_ruleOf_65 rfl (lv_at hl 0 rfl) ?_
          refine lv_iload_n hx hb dX6_ruleOf_66 rfl (lv_at hl 1 rfl) ?_
          obtain ⟨r8, hr8, hd⟩ := Option.bind_eq_some_iff.mp hd
          refine sn_Vi (b := b) (rest := []) (As := [.int x1]) (st := st) C (c_X6_firstRight hi hT hr8) (cwV 1 hts gX6_ruleOf_X6_firstRight rfl rfl rfl (by decide +kernel) ⟨Nat.le_of_ble_eq_true rfl, Nat.le_of_ble_eq_true rfl⟩) hP hS (sn_l0 hT.1 (by decide)) hT.2.1 rfl rfl hl.1 rfl (Nat.le_of_ble_eq_true rfl) dX6_ruleOf_67 (fun H locs hP hS => ?_)
          refine lv_iconst (v := (-1 : Int32)) hx hb dX6_ruleOf_70 (by decide) ?_
          refine lv_icmp_eq (tgt := 78) hx hb dX6_ruleOf_71 (by decide) (fun hc => ?_) (fun hc => ?_)
          · replace hd := (if_pos hc).symm.trans hd
            refine lv_iconst (v := (-1 : Int32)) hx hb dX6_ruleOf_78 (by decide) ?_
            have ho := Option.some.inj hd
            subst ho
            exact sn_ri C hP hS dX6_ruleOf_79
          · replace hd := (if_neg hc).symm.trans hd
            refine lv_iconst (v := (3 : Int32)) hx hb dX6_ruleOf_74 (by decide) ?_
            refine lv_goto (tgt := 79) hx hb dX6_ruleOf_75 (by decide) ?_
            have ho := Option.some.inj hd
            subst ho
            exact sn_ri C hP hS dX6_ruleOf_79
        · replace hd := (if_neg hc).symm.trans hd
          refine lv_iconst (v := (2 : Int32)) hx hb dX6_ruleOf_63 (by decide) ?_
          have ho := Option.some.inj hd
          subst ho
          exact sn_ri C hP hS dX6_ruleOf_64
      · replace hd := (if_neg hc).symm.trans hd
        refine lv_iconst (v := (1 : Int32)) hx hb dX6_ruleOf_44 (by decide) ?_
        have ho := Option.some.inj hd
        subst ho
        exact sn_ri C hP hS dX6_ruleOf_45
  · replace hd := (if_pos hc).symm.trans hd
    refine lv_iconst (v := (0 : Int32)) hx hb dX6_ruleOf_8 (by decide) ?_
    have ho := Option.some.inj hd
    subst ho
    exact sn_ri C hP hS dX6_ruleOf_9

set_option maxHeartbeats 4000000 in
set_option maxRecDepth 100000 in
theorem t_X6_enabledAll_L4 {p : Program} {l : Launch} {e : Env} {s : State} {m : MethodId} {args : Array Value} {below : List Frame} {meth : Method} {c : Code} {g : sn_G} {tb : Nat → sn_K} {N : Nat} {b : Nat} {st : sn_S} {o : Int32} (C : sn_Cx p s m args meth c g N cX6_enabledAll 3 wsX6_enabledAll yX6_enabledAll.cls (some .int)) (hT : sn_Mo tb N b)  : ∀ (n : Nat) (x1 : Int32) (x2 : Int32) (H : Heap) (locs : List Loc) (ls : Array Slot), D_X6_enabledAll_L4 b st n x1 x2 = some o → va_P g.1 vwCl (sn_W g tb N st) H → va_S (sn_A g N) s.heap H locs → lv_has ls 3 [(0, .ref (g.2.2.2 b)), (1, .int x1), (2, .int x2)] → W p l e { frames := 11, cells := 0, slots := 0, locals := 243 } s m args below meth c H locs 0 0 (MQ below (sn_Qi g tb N o st) args s 0 0 (sn_A g N)) (F0 m 4 ls []) := by
  obtain ⟨⟨hx, hb, hml, hown, hts⟩, hr, hlk, hC, hi⟩ := id C
  have hinX6 : ∀ w ∈ wsX60, w ∈ wsX6_enabledAll := by decide +kernel
  intro n
  induction n with
  | zero => intro _ _ _ _ _ hd; exact nomatch (show (none : Option (Int32)) = some o from hd)
  | succ n ih =>
    intro x1 x2 H locs ls hd hP hS hl
    replace hd := (D_X6_enabledAll_L4.eq_2 _ _ _ _ _).symm.trans hd
    refine lv_iload_n hx hb dX6_enabledAll_4 rfl (lv_at hl 2 rfl) ?_
    refine lv_aload_n hx hb dX6_enabledAll_5 rfl (lv_at hl 0 rfl) ?_
    refine sn_get (ci := 5) (Cn := RX6) (T := TX6) (n := 6) (v := .ref (g.2.2.2 (b + 1))) C hinX6 hP b (sn_l0 hT.1 (by decide)) hT.2.1 rfl 0 (by decide) (by decide +kernel) rfl rfl dX6_enabledAll_6 ?_
    refine lv_sipush (v := (360 : Int32)) hx hb dX6_enabledAll_9 (by decide) ?_
    refine sn_aldc (k := 360) C hP (b + 1) (sn_l hT.1 (by decide)) hT.2.2.1 (by decide +kernel) dX6_enabledAll_12 ?_
    refine lv_icmp_ge (tgt := 53) hx hb dX6_enabledAll_13 (by decide) (fun hc => ?_) (fun hc => ?_)
    · replace hd := (if_pos hc).symm.trans hd
      refine lv_iload_n hx hb dX6_enabledAll_53 rfl (lv_at hl 1 rfl) ?_
      have ho := Option.some.inj hd
      subst ho
      exact sn_ri C hP hS dX6_enabledAll_54
    · replace hd := (if_neg hc).symm.trans hd
      refine lv_aload_n hx hb dX6_enabledAll_16 rfl (lv_at hl 0 rfl) ?_
      refine sn_get (ci := 5) (Cn := RX6) (T := TX6) (n := 6) (v := .ref (g.2.2.2 (b + 1))) C hinX6 hP b (sn_l0 hT.1 (by decide)) hT.2.1 rfl 0 (by decide) (by decide +kernel) rfl rfl dX6_enabledAll_17 ?_
      refine lv_sipush (v := (361 : Int32)) hx hb dX6_enabledAll_20 (by decide) ?_
      refine sn_aldc (k := 361) C hP (b + 1) (sn_l hT.1 (by decide)) hT.2.2.1 (by decide +kernel) dX6_enabledAll_23 ?_
      refine lv_iconst (v := (1 : Int32)) hx hb dX6_enabledAll_24 (by decide) ?_
      refine lv_icmp_ne (tgt := 53) hx hb dX6_enabledAll_25 (by decide) (fun hc => ?_) (fun hc => ?_)
      · replace hd := (if_neg hc).symm.trans hd
        refine lv_iload_n hx hb dX6_enabledAll_53 rfl (lv_at hl 1 rfl) ?_
        have ho := Option.some.inj hd
        subst ho
        exact sn_ri C hP hS dX6_enabledAll_54
      · replace hd := (if_pos hc).symm.trans hd
        refine lv_iload_n hx hb dX6_enabledAll_28 rfl (lv_at hl 1 rfl) ?_
        refine lv_aload_n hx hb dX6_enabledAll_29 rfl (lv_at hl 0 rfl) ?_
        refine lv_iload_n hx hb dX6_enabledAll_30 rfl (lv_at hl 2 rfl) ?_
        obtain ⟨r1, hr1, hd⟩ := Option.bind_eq_some_iff.mp hd
        refine sn_Vi (b := b) (rest := [.int x1]) (As := [.int x2]) (st := st) C (c_X6_ruleOf hi hT hr1) (cwV 1 hts gX6_enabledAll_X6_ruleOf rfl rfl rfl (by decide +kernel) ⟨Nat.le_of_ble_eq_true rfl, Nat.le_of_ble_eq_true rfl⟩) hP hS (sn_l0 hT.1 (by decide)) hT.2.1 rfl rfl hl.1 rfl (Nat.le_of_ble_eq_true rfl) dX6_enabledAll_31 (fun H locs hP hS => ?_)
        refine lv_iconst (v := (-1 : Int32)) hx hb dX6_enabledAll_34 (by decide) ?_
        refine lv_icmp_ne (tgt := 42) hx hb dX6_enabledAll_35 (by decide) (fun hc => ?_) (fun hc => ?_)
        · replace hd := (if_neg hc).symm.trans hd
          refine lv_iconst (v := (1 : Int32)) hx hb dX6_enabledAll_42 (by decide) ?_
          refine lv_iload_n hx hb dX6_enabledAll_43 rfl (lv_at hl 2 rfl) ?_
          refine lv_ishl hx hb dX6_enabledAll_44 ?_
          refine lv_ior hx hb dX6_enabledAll_45 ?_
          refine lv_istore_n (lv' := [(1, .int (x1 ||| ((1 : Int32) <<< (x2 &&& 31)))), (0, .ref (g.2.2.2 b)), (2, .int x2)]) hx hb dX6_enabledAll_46 rfl hl (by decide) rfl (fun ls hl => ?_)
          refine lv_iinc (v := (x2 + (1 : Int32))) (lv' := [(2, .int (x2 + (1 : Int32))), (1, .int (x1 ||| ((1 : Int32) <<< (x2 &&& 31)))), (0, .ref (g.2.2.2 b))]) hx hb dX6_enabledAll_47 hl (k := 2) rfl rfl (by decide) rfl (fun ls hl => ?_)
          refine lv_goto (tgt := 4) hx hb dX6_enabledAll_50 (by decide) ?_
          exact ih (x1 ||| ((1 : Int32) <<< (x2 &&& 31))) (x2 + (1 : Int32)) _ _ _ hd hP hS (lv_sub hl [2, 1, 0] rfl)
        · replace hd := (if_pos hc).symm.trans hd
          refine lv_iconst (v := (0 : Int32)) hx hb dX6_enabledAll_38 (by decide) ?_
          refine lv_goto (tgt := 45) hx hb dX6_enabledAll_39 (by decide) ?_
          refine lv_ior hx hb dX6_enabledAll_45 ?_
          refine lv_istore_n (lv' := [(1, .int (x1 ||| (0 : Int32))), (0, .ref (g.2.2.2 b)), (2, .int x2)]) hx hb dX6_enabledAll_46 rfl hl (by decide) rfl (fun ls hl => ?_)
          refine lv_iinc (v := (x2 + (1 : Int32))) (lv' := [(2, .int (x2 + (1 : Int32))), (1, .int (x1 ||| (0 : Int32))), (0, .ref (g.2.2.2 b))]) hx hb dX6_enabledAll_47 hl (k := 2) rfl rfl (by decide) rfl (fun ls hl => ?_)
          refine lv_goto (tgt := 4) hx hb dX6_enabledAll_50 (by decide) ?_
          exact ih (x1 ||| (0 : Int32)) (x2 + (1 : Int32)) _ _ _ hd hP hS (lv_sub hl [2, 1, 0] rfl)

set_option maxHeartbeats 4000000 in
set_option maxRecDepth 100000 in
theorem c_X6_enabledAll {l : Launch} {g : sn_G} {tb : Nat → sn_K} {N : Nat} (hi : sn_I g N) {b : Nat} (hT : sn_Mo tb N b) {st : sn_S} {o : Int32} (hd : D_X6_enabledAll b st = some o) : sn_Mi l yX6_enabledAll wsX6_enabledAll { frames := 11, cells := 0, slots := 0, locals := 243 } g tb N [.ref (g.2.2.2 b)] st o st := by
  refine sn_Mi.of (cc := cX6_enabledAll) (nL := 3) (ret := (some .int)) hi (by decide) rfl (Nat.le_of_ble_eq_true rfl) ?_
  intro p e s m args below meth c ls C hP hS hl
  have hl : lv_has ls 3 [(0, .ref (g.2.2.2 b))] := hl
  obtain ⟨⟨hx, hb, hml, hown, hts⟩, hr, hlk, hC, hi⟩ := id C
  unfold D_X6_enabledAll at hd
  have hinX6 : ∀ w ∈ wsX60, w ∈ wsX6_enabledAll := by decide +kernel
  refine lv_iconst (v := (0 : Int32)) hx hb dX6_enabledAll_0 (by decide) ?_
  refine lv_istore_n (lv' := [(1, .int (0 : Int32)), (0, .ref (g.2.2.2 b))]) hx hb dX6_enabledAll_1 rfl hl (by decide) rfl (fun ls hl => ?_)
  refine lv_iconst (v := (0 : Int32)) hx hb dX6_enabledAll_2 (by decide) ?_
  refine lv_istore_n (lv' := [(2, .int (0 : Int32)), (1, .int (0 : Int32)), (0, .ref (g.2.2.2 b))]) hx hb dX6_enabledAll_3 rfl hl (by decide) rfl (fun ls hl => ?_)
  exact t_X6_enabledAll_L4 (st := st) C hT 4096 (0 : Int32) (0 : Int32) _ _ _ hd hP hS (lv_sub hl [2, 1, 0] rfl)

set_option maxHeartbeats 4000000 in
set_option maxRecDepth 100000 in
theorem c_X6_beginRound {l : Launch} {g : sn_G} {tb : Nat → sn_K} {N : Nat} (hi : sn_I g N) {b : Nat} (hT : sn_Mo tb N b) {st : sn_S} {o : sn_S} (hd : D_X6_beginRound b st = some o) : sn_Mv l yX6_beginRound wsX6_beginRound { frames := 12, cells := 0, slots := 0, locals := 265 } g tb N [.ref (g.2.2.2 b)] st o := by
  refine sn_Mv.of (cc := cX6_beginRound) (nL := 1) (ret := none) hi (by decide) rfl (Nat.le_of_ble_eq_true rfl) ?_
  intro p e s m args below meth c ls C hP hS hl
  have hl : lv_has ls 1 [(0, .ref (g.2.2.2 b))] := hl
  obtain ⟨⟨hx, hb, hml, hown, hts⟩, hr, hlk, hC, hi⟩ := id C
  unfold D_X6_beginRound at hd
  have hinX6 : ∀ w ∈ wsX60, w ∈ wsX6_beginRound := by decide +kernel
  refine lv_aload_n hx hb dX6_beginRound_0 rfl (lv_at hl 0 rfl) ?_
  refine sn_get (ci := 5) (Cn := RX6) (T := TX6) (n := 6) (v := .ref (g.2.2.2 (b + 1))) C hinX6 hP b (sn_l0 hT.1 (by decide)) hT.2.1 rfl 0 (by decide) (by decide +kernel) rfl rfl dX6_beginRound_1 ?_
  refine lv_sipush (v := (373 : Int32)) hx hb dX6_beginRound_4 (by decide) ?_
  refine lv_aload_n hx hb dX6_beginRound_7 rfl (lv_at hl 0 rfl) ?_
  obtain ⟨r1, hr1, hd⟩ := Option.bind_eq_some_iff.mp hd
  refine sn_Vi (b := b) (rest := [.int (373 : Int32), .ref (g.2.2.2 (b + 1))]) (As := []) (st := st) C (c_X6_enabledAll hi hT hr1) (cwV 0 hts gX6_beginRound_X6_enabledAll rfl rfl rfl (by decide +kernel) ⟨Nat.le_of_ble_eq_true rfl, Nat.le_of_ble_eq_true rfl⟩) hP hS (sn_l0 hT.1 (by decide)) hT.2.1 rfl rfl hl.1 rfl (Nat.le_of_ble_eq_true rfl) dX6_beginRound_8 (fun H locs hP hS => ?_)
  refine sn_astc (k := 373) C hP hS (b + 1) (sn_l hT.1 (by decide)) hT.2.2.1 (by decide +kernel) dX6_beginRound_11 (fun H locs hP hS => ?_)
  have ho := Option.some.inj hd
  subst ho
  exact sn_rv C hP hS dX6_beginRound_12

set_option maxHeartbeats 4000000 in
set_option maxRecDepth 100000 in
theorem t_X6_build_L79 {p : Program} {l : Launch} {e : Env} {s : State} {m : MethodId} {args : Array Value} {below : List Frame} {meth : Method} {c : Code} {g : sn_G} {tb : Nat → sn_K} {N : Nat} {b : Nat} {x1 : Int32} {o : Int32 × sn_S} (C : sn_Cx p s m args meth c g N cX6_build 3 wsX6_build yX6_build.cls (some .int)) (hT : sn_Mo tb N b)  : ∀ (n : Nat) (x2 : Int32) (st : sn_S) (H : Heap) (locs : List Loc) (ls : Array Slot), D_X6_build_L79 b x1 n x2 st = some o → va_P g.1 vwCl (sn_W g tb N st) H → va_S (sn_A g N) s.heap H locs → lv_has ls 3 [(0, .ref (g.2.2.2 b)), (1, .int x1), (2, .int x2)] → W p l e { frames := 13, cells := 0, slots := 0, locals := 285 } s m args below meth c H locs 0 0 (MQ below (sn_Qi g tb N o.1 o.2) args s 0 0 (sn_A g N)) (F0 m 79 ls []) := by
  obtain ⟨⟨hx, hb, hml, hown, hts⟩, hr, hlk, hC, hi⟩ := id C
  have hinX6 : ∀ w ∈ wsX60, w ∈ wsX6_build := by decide +kernel
  intro n
  induction n with
  | zero => intro _ _ _ _ _ hd; exact nomatch (show (none : Option (Int32 × sn_S)) = some o from hd)
  | succ n ih =>
    intro x2 st H locs ls hd hP hS hl
    replace hd := (D_X6_build_L79.eq_2 _ _ _ _ _).symm.trans hd
    refine lv_iload_n hx hb dX6_build_79 rfl (lv_at hl 2 rfl) ?_
    refine lv_sipush (v := (144 : Int32)) hx hb dX6_build_80 (by decide) ?_
    refine lv_icmp_ge (tgt := 102) hx hb dX6_build_83 (by decide) (fun hc => ?_) (fun hc => ?_)
    · replace hd := (if_pos hc).symm.trans hd
      refine lv_aload_n hx hb dX6_build_102 rfl (lv_at hl 0 rfl) ?_
      obtain ⟨r2, hr2, hd⟩ := Option.bind_eq_some_iff.mp hd
      refine sn_Vv (b := b) (rest := []) (As := []) (st := st) C (c_X6_beginRound hi hT hr2) (cwV 0 hts gX6_build_X6_beginRound rfl rfl rfl (by decide +kernel) ⟨Nat.le_of_ble_eq_true rfl, Nat.le_of_ble_eq_true rfl⟩) hP hS (sn_l0 hT.1 (by decide)) hT.2.1 rfl rfl hl.1 rfl (Nat.le_of_ble_eq_true rfl) dX6_build_103 (fun H locs hP hS => ?_)
      refine lv_aload_n hx hb dX6_build_106 rfl (lv_at hl 0 rfl) ?_
      obtain ⟨r3, hr3, hd⟩ := Option.bind_eq_some_iff.mp hd
      refine sn_Vi (b := b) (rest := []) (As := []) (st := r2) C (c_X6_links hi hT hr3) (cwV 0 hts gX6_build_X6_links rfl rfl rfl (by decide +kernel) ⟨Nat.le_of_ble_eq_true rfl, Nat.le_of_ble_eq_true rfl⟩) hP hS (sn_l0 hT.1 (by decide)) hT.2.1 rfl rfl hl.1 rfl (Nat.le_of_ble_eq_true rfl) dX6_build_107 (fun H locs hP hS => ?_)
      have ho := Option.some.inj hd
      subst ho
      exact sn_ri C hP hS dX6_build_110
    · replace hd := (if_neg hc).symm.trans hd
      refine lv_aload_n hx hb dX6_build_86 rfl (lv_at hl 0 rfl) ?_
      refine sn_get (ci := 5) (Cn := RX6) (T := TX6) (n := 6) (v := .ref (g.2.2.2 (b + 1))) C hinX6 hP b (sn_l0 hT.1 (by decide)) hT.2.1 rfl 0 (by decide) (by decide +kernel) rfl rfl dX6_build_87 ?_
      refine lv_bipush (v := (72 : Int32)) hx hb dX6_build_90 (by decide) ?_
      refine lv_iload_n hx hb dX6_build_92 rfl (lv_at hl 2 rfl) ?_
      refine lv_iadd hx hb dX6_build_93 ?_
      refine lv_iconst (v := (0 : Int32)) hx hb dX6_build_94 (by decide) ?_
      refine sn_ast C hP hS (b + 1) (sn_l hT.1 (by decide)) hT.2.2.1 hd dX6_build_95 (fun k4 H locs hk4 hd hP hS => ?_)
      refine lv_iinc (v := (x2 + (1 : Int32))) (lv' := [(2, .int (x2 + (1 : Int32))), (0, .ref (g.2.2.2 b)), (1, .int x1)]) hx hb dX6_build_96 hl (k := 2) rfl rfl (by decide) rfl (fun ls hl => ?_)
      refine lv_goto (tgt := 79) hx hb dX6_build_99 (by decide) ?_
      exact ih (x2 + (1 : Int32)) (sn_wr st (b + 1) k4 (0 : Int32)) _ _ _ hd hP hS (lv_sub hl [1, 2, 0] rfl)

set_option maxHeartbeats 4000000 in
set_option maxRecDepth 100000 in
theorem t_X6_build_L23 {p : Program} {l : Launch} {e : Env} {s : State} {m : MethodId} {args : Array Value} {below : List Frame} {meth : Method} {c : Code} {g : sn_G} {tb : Nat → sn_K} {N : Nat} {b : Nat} {st : sn_S} {o : Int32 × sn_S} (C : sn_Cx p s m args meth c g N cX6_build 3 wsX6_build yX6_build.cls (some .int)) (hT : sn_Mo tb N b)  : ∀ (n : Nat) (x1 : Int32) (x2 : Int32) (H : Heap) (locs : List Loc) (ls : Array Slot), D_X6_build_L23 b st n x1 x2 = some o → va_P g.1 vwCl (sn_W g tb N st) H → va_S (sn_A g N) s.heap H locs → lv_has ls 3 [(0, .ref (g.2.2.2 b)), (1, .int x1), (2, .int x2)] → W p l e { frames := 13, cells := 0, slots := 0, locals := 285 } s m args below meth c H locs 0 0 (MQ below (sn_Qi g tb N o.1 o.2) args s 0 0 (sn_A g N)) (F0 m 23 ls []) := by
  obtain ⟨⟨hx, hb, hml, hown, hts⟩, hr, hlk, hC, hi⟩ := id C
  have hinX6 : ∀ w ∈ wsX60, w ∈ wsX6_build := by decide +kernel
  intro n
  induction n with
  | zero => intro _ _ _ _ _ hd; exact nomatch (show (none : Option (Int32 × sn_S)) = some o from hd)
  | succ n ih =>
    intro x1 x2 H locs ls hd hP hS hl
    replace hd := (D_X6_build_L23.eq_2 _ _ _ _ _).symm.trans hd
    refine lv_iload_n hx hb dX6_build_23 rfl (lv_at hl 2 rfl) ?_
    refine lv_aload_n hx hb dX6_build_24 rfl (lv_at hl 0 rfl) ?_
    refine sn_get (ci := 5) (Cn := RX6) (T := TX6) (n := 6) (v := .ref (g.2.2.2 (b + 1))) C hinX6 hP b (sn_l0 hT.1 (by decide)) hT.2.1 rfl 0 (by decide) (by decide +kernel) rfl rfl dX6_build_25 ?_
    refine lv_sipush (v := (360 : Int32)) hx hb dX6_build_28 (by decide) ?_
    refine sn_aldc (k := 360) C hP (b + 1) (sn_l hT.1 (by decide)) hT.2.2.1 (by decide +kernel) dX6_build_31 ?_
    refine lv_icmp_ge (tgt := 61) hx hb dX6_build_32 (by decide) (fun hc => ?_) (fun hc => ?_)
    · replace hd := (if_pos hc).symm.trans hd
      refine lv_iload_n hx hb dX6_build_61 rfl (lv_at hl 1 rfl) ?_
      refine lv_if_ne (tgt := 68) hx hb dX6_build_62 (by decide) (fun hc => ?_) (fun hc => ?_)
      · replace hd := (if_neg hc).symm.trans hd
        refine lv_aload_n hx hb dX6_build_68 rfl (lv_at hl 0 rfl) ?_
        refine sn_get (ci := 5) (Cn := RX6) (T := TX6) (n := 6) (v := .ref (g.2.2.2 (b + 1))) C hinX6 hP b (sn_l0 hT.1 (by decide)) hT.2.1 rfl 0 (by decide) (by decide +kernel) rfl rfl dX6_build_69 ?_
        refine lv_sipush (v := (361 : Int32)) hx hb dX6_build_72 (by decide) ?_
        refine lv_iconst (v := (1 : Int32)) hx hb dX6_build_75 (by decide) ?_
        refine sn_astc (k := 361) C hP hS (b + 1) (sn_l hT.1 (by decide)) hT.2.2.1 (by decide +kernel) dX6_build_76 (fun H locs hP hS => ?_)
        refine lv_iconst (v := (0 : Int32)) hx hb dX6_build_77 (by decide) ?_
        refine lv_istore_n (lv' := [(2, .int (0 : Int32)), (0, .ref (g.2.2.2 b)), (1, .int x1)]) hx hb dX6_build_78 rfl hl (by decide) rfl (fun ls hl => ?_)
        exact t_X6_build_L79 C hT 4096 (0 : Int32) (sn_wr st (b + 1) 361 (1 : Int32)) _ _ _ hd hP hS (lv_sub hl [1, 2, 0] rfl)
      · replace hd := (if_pos hc).symm.trans hd
        refine lv_bipush (v := (-103 : Int32)) hx hb dX6_build_65 (by decide) ?_
        have ho := Option.some.inj hd
        subst ho
        exact sn_ri C hP hS dX6_build_67
    · replace hd := (if_neg hc).symm.trans hd
      refine lv_iload_n hx hb dX6_build_35 rfl (lv_at hl 1 rfl) ?_
      refine lv_if_eq (tgt := 53) hx hb dX6_build_36 (by decide) (fun hc => ?_) (fun hc => ?_)
      · replace hd := (if_pos hc).symm.trans hd
        refine lv_iconst (v := (0 : Int32)) hx hb dX6_build_53 (by decide) ?_
        refine lv_istore_n (lv' := [(1, .int (0 : Int32)), (0, .ref (g.2.2.2 b)), (2, .int x2)]) hx hb dX6_build_54 rfl hl (by decide) rfl (fun ls hl => ?_)
        refine lv_iinc (v := (x2 + (1 : Int32))) (lv' := [(2, .int (x2 + (1 : Int32))), (1, .int (0 : Int32)), (0, .ref (g.2.2.2 b))]) hx hb dX6_build_55 hl (k := 2) rfl rfl (by decide) rfl (fun ls hl => ?_)
        refine lv_goto (tgt := 23) hx hb dX6_build_58 (by decide) ?_
        exact ih (0 : Int32) (x2 + (1 : Int32)) _ _ _ hd hP hS (lv_sub hl [2, 1, 0] rfl)
      · replace hd := (if_neg hc).symm.trans hd
        refine lv_aload_n hx hb dX6_build_39 rfl (lv_at hl 0 rfl) ?_
        refine sn_get (ci := 5) (Cn := RX6) (T := TX6) (n := 6) (v := .ref (g.2.2.2 (b + 4))) C hinX6 hP b (sn_l0 hT.1 (by decide)) hT.2.1 rfl 4 (by decide) (by decide +kernel) rfl rfl dX6_build_40 ?_
        refine lv_iload_n hx hb dX6_build_43 rfl (lv_at hl 2 rfl) ?_
        refine sn_ald C hP (b + 4) (sn_l hT.1 (by decide)) hT.2.2.2.2.2 hd dX6_build_44 (fun k5 hk5 hd => ?_)
        refine lv_iconst (v := (-1 : Int32)) hx hb dX6_build_45 (by decide) ?_
        refine lv_icmp_eq (tgt := 53) hx hb dX6_build_46 (by decide) (fun hc => ?_) (fun hc => ?_)
        · replace hd := (if_pos hc).symm.trans hd
          refine lv_iconst (v := (0 : Int32)) hx hb dX6_build_53 (by decide) ?_
          refine lv_istore_n (lv' := [(1, .int (0 : Int32)), (0, .ref (g.2.2.2 b)), (2, .int x2)]) hx hb dX6_build_54 rfl hl (by decide) rfl (fun ls hl => ?_)
          refine lv_iinc (v := (x2 + (1 : Int32))) (lv' := [(2, .int (x2 + (1 : Int32))), (1, .int (0 : Int32)), (0, .ref (g.2.2.2 b))]) hx hb dX6_build_55 hl (k := 2) rfl rfl (by decide) rfl (fun ls hl => ?_)
          refine lv_goto (tgt := 23) hx hb dX6_build_58 (by decide) ?_
          exact ih (0 : Int32) (x2 + (1 : Int32)) _ _ _ hd hP hS (lv_sub hl [2, 1, 0] rfl)
        · replace hd := (if_neg hc).symm.trans hd
          refine lv_iconst (v := (1 : Int32)) hx hb dX6_build_49 (by decide) ?_
          refine lv_goto (tgt := 54) hx hb dX6_build_50 (by decide) ?_
          refine lv_istore_n (lv' := [(1, .int (1 : Int32)), (0, .ref (g.2.2.2 b)), (2, .int x2)]) hx hb dX6_build_54 rfl hl (by decide) rfl (fun ls hl => ?_)
          refine lv_iinc (v := (x2 + (1 : Int32))) (lv' := [(2, .int (x2 + (1 : Int32))), (1, .int (1 : Int32)), (0, .ref (g.2.2.2 b))]) hx hb dX6_build_55 hl (k := 2) rfl rfl (by decide) rfl (fun ls hl => ?_)
          refine lv_goto (tgt := 23) hx hb dX6_build_58 (by decide) ?_
          exact ih (1 : Int32) (x2 + (1 : Int32)) _ _ _ hd hP hS (lv_sub hl [2, 1, 0] rfl)

set_option maxHeartbeats 4000000 in
set_option maxRecDepth 100000 in
theorem c_X6_build {l : Launch} {g : sn_G} {tb : Nat → sn_K} {N : Nat} (hi : sn_I g N) {b : Nat} (hT : sn_Mo tb N b) {st : sn_S} {o : Int32 × sn_S} (hd : D_X6_build b st = some o) : sn_Mi l yX6_build wsX6_build { frames := 13, cells := 0, slots := 0, locals := 285 } g tb N [.ref (g.2.2.2 b)] st o.1 o.2 := by
  refine sn_Mi.of (cc := cX6_build) (nL := 3) (ret := (some .int)) hi (by decide) rfl (Nat.le_of_ble_eq_true rfl) ?_
  intro p e s m args below meth c ls C hP hS hl
  have hl : lv_has ls 3 [(0, .ref (g.2.2.2 b))] := hl
  obtain ⟨⟨hx, hb, hml, hown, hts⟩, hr, hlk, hC, hi⟩ := id C
  unfold D_X6_build at hd
  have hinX6 : ∀ w ∈ wsX60, w ∈ wsX6_build := by decide +kernel
  refine lv_aload_n hx hb dX6_build_0 rfl (lv_at hl 0 rfl) ?_
  obtain ⟨r1, hr1, hd⟩ := Option.bind_eq_some_iff.mp hd
  refine sn_Vv (b := b) (rest := []) (As := []) (st := st) C (c_X6_measure hi hT hr1) (cwV 0 hts gX6_build_X6_measure rfl rfl rfl (by decide +kernel) ⟨Nat.le_of_ble_eq_true rfl, Nat.le_of_ble_eq_true rfl⟩) hP hS (sn_l0 hT.1 (by decide)) hT.2.1 rfl rfl hl.1 rfl (Nat.le_of_ble_eq_true rfl) dX6_build_1 (fun H locs hP hS => ?_)
  refine lv_aload_n hx hb dX6_build_4 rfl (lv_at hl 0 rfl) ?_
  refine sn_get (ci := 5) (Cn := RX6) (T := TX6) (n := 6) (v := .ref (g.2.2.2 (b + 1))) C hinX6 hP b (sn_l0 hT.1 (by decide)) hT.2.1 rfl 0 (by decide) (by decide +kernel) rfl rfl dX6_build_5 ?_
  refine lv_sipush (v := (361 : Int32)) hx hb dX6_build_8 (by decide) ?_
  refine sn_aldc (k := 361) C hP (b + 1) (sn_l hT.1 (by decide)) hT.2.2.1 (by decide +kernel) dX6_build_11 ?_
  refine lv_if_ne (tgt := 19) hx hb dX6_build_12 (by decide) (fun hc => ?_) (fun hc => ?_)
  · replace hd := (if_neg hc).symm.trans hd
    refine lv_iconst (v := (0 : Int32)) hx hb dX6_build_19 (by decide) ?_
    refine lv_istore_n (lv' := [(1, .int (0 : Int32)), (0, .ref (g.2.2.2 b))]) hx hb dX6_build_20 rfl hl (by decide) rfl (fun ls hl => ?_)
    refine lv_iconst (v := (0 : Int32)) hx hb dX6_build_21 (by decide) ?_
    refine lv_istore_n (lv' := [(2, .int (0 : Int32)), (1, .int (0 : Int32)), (0, .ref (g.2.2.2 b))]) hx hb dX6_build_22 rfl hl (by decide) rfl (fun ls hl => ?_)
    exact t_X6_build_L23 (st := r1) C hT 4096 (0 : Int32) (0 : Int32) _ _ _ hd hP hS (lv_sub hl [2, 1, 0] rfl)
  · replace hd := (if_pos hc).symm.trans hd
    refine lv_iconst (v := (1 : Int32)) hx hb dX6_build_15 (by decide) ?_
    refine lv_goto (tgt := 20) hx hb dX6_build_16 (by decide) ?_
    refine lv_istore_n (lv' := [(1, .int (1 : Int32)), (0, .ref (g.2.2.2 b))]) hx hb dX6_build_20 rfl hl (by decide) rfl (fun ls hl => ?_)
    refine lv_iconst (v := (0 : Int32)) hx hb dX6_build_21 (by decide) ?_
    refine lv_istore_n (lv' := [(2, .int (0 : Int32)), (1, .int (1 : Int32)), (0, .ref (g.2.2.2 b))]) hx hb dX6_build_22 rfl hl (by decide) rfl (fun ls hl => ?_)
    exact t_X6_build_L23 (st := r1) C hT 4096 (1 : Int32) (0 : Int32) _ _ _ hd hP hS (lv_sub hl [2, 1, 0] rfl)

set_option maxHeartbeats 4000000 in
set_option maxRecDepth 100000 in
theorem c_X6_value {l : Launch} {g : sn_G} {tb : Nat → sn_K} {N : Nat} (hi : sn_I g N) {b : Nat} {x1 : Int32} {x2 : Int32} (hT : sn_Mo tb N b) {st : sn_S} {o : Int32 × sn_S} (hd : D_X6_value b x1 x2 st = some o) : sn_Mi l yX6_value wsX6_value { frames := 13, cells := 0, slots := 0, locals := 285 } g tb N [.ref (g.2.2.2 b), .int x1, .int x2] st o.1 o.2 := by
  refine sn_Mi.of (cc := cX6_value) (nL := 4) (ret := (some .int)) hi (by decide) rfl (Nat.le_of_ble_eq_true rfl) ?_
  intro p e s m args below meth c ls C hP hS hl
  have hl : lv_has ls 4 [(0, .ref (g.2.2.2 b)), (1, .int x1), (2, .int x2)] := hl
  obtain ⟨⟨hx, hb, hml, hown, hts⟩, hr, hlk, hC, hi⟩ := id C
  unfold D_X6_value at hd
  have hinX6 : ∀ w ∈ wsX60, w ∈ wsX6_value := by decide +kernel
  refine lv_aload_n hx hb dX6_value_0 rfl (lv_at hl 0 rfl) ?_
  refine lv_iload_n hx hb dX6_value_1 rfl (lv_at hl 1 rfl) ?_
  obtain ⟨r1, hr1, hd⟩ := Option.bind_eq_some_iff.mp hd
  refine sn_Vi (b := b) (rest := []) (As := [.int x1]) (st := st) C (c_X6_isNode hi hT hr1) (cwV 1 hts gX6_value_X6_isNode rfl rfl rfl (by decide +kernel) ⟨Nat.le_of_ble_eq_true rfl, Nat.le_of_ble_eq_true rfl⟩) hP hS (sn_l0 hT.1 (by decide)) hT.2.1 rfl rfl hl.1 rfl (Nat.le_of_ble_eq_true rfl) dX6_value_2 (fun H locs hP hS => ?_)
  refine lv_if_ne (tgt := 11) hx hb dX6_value_5 (by decide) (fun hc => ?_) (fun hc => ?_)
  · replace hd := (if_neg hc).symm.trans hd
    refine lv_aload_n hx hb dX6_value_11 rfl (lv_at hl 0 rfl) ?_
    refine sn_get (ci := 5) (Cn := RX6) (T := TX6) (n := 6) (v := .ref (g.2.2.2 (b + 1))) C hinX6 hP b (sn_l0 hT.1 (by decide)) hT.2.1 rfl 0 (by decide) (by decide +kernel) rfl rfl dX6_value_12 ?_
    refine lv_iconst (v := (0 : Int32)) hx hb dX6_value_15 (by decide) ?_
    refine lv_iload_n hx hb dX6_value_16 rfl (lv_at hl 1 rfl) ?_
    refine lv_iadd hx hb dX6_value_17 ?_
    refine sn_ald C hP (b + 1) (sn_l hT.1 (by decide)) hT.2.2.1 hd dX6_value_18 (fun k2 hk2 hd => ?_)
    refine lv_istore_n (lv' := [(3, .int (st.1 (b + 1) k2)), (0, .ref (g.2.2.2 b)), (1, .int x1), (2, .int x2)]) hx hb dX6_value_19 rfl hl (by decide) rfl (fun ls hl => ?_)
    refine lv_aload_n hx hb dX6_value_20 rfl (lv_at hl 1 rfl) ?_
    refine sn_get (ci := 5) (Cn := RX6) (T := TX6) (n := 6) (v := .ref (g.2.2.2 (b + 1))) C hinX6 hP b (sn_l0 hT.1 (by decide)) hT.2.1 rfl 0 (by decide) (by decide +kernel) rfl rfl dX6_value_21 ?_
    refine lv_iconst (v := (0 : Int32)) hx hb dX6_value_24 (by decide) ?_
    refine lv_iload_n hx hb dX6_value_25 rfl (lv_at hl 2 rfl) ?_
    refine lv_iadd hx hb dX6_value_26 ?_
    refine lv_iload_n hx hb dX6_value_27 rfl (lv_at hl 3 rfl) ?_
    refine sn_ast C hP hS (b + 1) (sn_l hT.1 (by decide)) hT.2.2.1 hd dX6_value_28 (fun k3 H locs hk3 hd hP hS => ?_)
    refine lv_aload_n hx hb dX6_value_29 rfl (lv_at hl 1 rfl) ?_
    obtain ⟨r4, hr4, hd⟩ := Option.bind_eq_some_iff.mp hd
    refine sn_Vv (b := b) (rest := []) (As := []) (st := (sn_wr st (b + 1) k3 x2)) C (c_X6_beginRound hi hT hr4) (cwV 0 hts gX6_value_X6_beginRound rfl rfl rfl (by decide +kernel) ⟨Nat.le_of_ble_eq_true rfl, Nat.le_of_ble_eq_true rfl⟩) hP hS (sn_l0 hT.1 (by decide)) hT.2.1 rfl rfl hl.1 rfl (Nat.le_of_ble_eq_true rfl) dX6_value_30 (fun H locs hP hS => ?_)
    refine lv_iload_n hx hb dX6_value_33 rfl (lv_at hl 0 rfl) ?_
    have ho := Option.some.inj hd
    subst ho
    exact sn_ri C hP hS dX6_value_34
  · replace hd := (if_pos hc).symm.trans hd
    refine lv_bipush (v := (-101 : Int32)) hx hb dX6_value_8 (by decide) ?_
    have ho := Option.some.inj hd
    subst ho
    exact sn_ri C hP hS dX6_value_10

set_option maxHeartbeats 4000000 in
set_option maxRecDepth 100000 in
theorem t_X6_neighbourOf_L5 {p : Program} {l : Launch} {e : Env} {s : State} {m : MethodId} {args : Array Value} {below : List Frame} {meth : Method} {c : Code} {g : sn_G} {tb : Nat → sn_K} {N : Nat} {b : Nat} {x1 : Int32} {x2 : Int32} {st : sn_S} {o : Int32} (C : sn_Cx p s m args meth c g N cX6_neighbourOf 5 wsX6_neighbourOf yX6_neighbourOf.cls (some .int)) (hT : sn_Mo tb N b)  : ∀ (n : Nat) (x3 : Int32) (x4 : Int32) (H : Heap) (locs : List Loc) (ls : Array Slot), D_X6_neighbourOf_L5 b x1 x2 st n x3 x4 = some o → va_P g.1 vwCl (sn_W g tb N st) H → va_S (sn_A g N) s.heap H locs → lv_has ls 5 [(0, .ref (g.2.2.2 b)), (1, .int x1), (2, .int x2), (3, .int x3), (4, .int x4)] → W p l e { frames := 3, cells := 0, slots := 0, locals := 65 } s m args below meth c H locs 0 0 (MQ below (sn_Qi g tb N o st) args s 0 0 (sn_A g N)) (F0 m 5 ls []) := by
  obtain ⟨⟨hx, hb, hml, hown, hts⟩, hr, hlk, hC, hi⟩ := id C
  have hinX6 : ∀ w ∈ wsX60, w ∈ wsX6_neighbourOf := by decide +kernel
  intro n
  induction n with
  | zero => intro _ _ _ _ _ hd; exact nomatch (show (none : Option (Int32)) = some o from hd)
  | succ n ih =>
    intro x3 x4 H locs ls hd hP hS hl
    replace hd := (D_X6_neighbourOf_L5.eq_2 _ _ _ _ _ _ _).symm.trans hd
    refine lv_iload hx hb dX6_neighbourOf_5 (lv_at hl 4 rfl) ?_
    refine lv_aload_n hx hb dX6_neighbourOf_7 rfl (lv_at hl 0 rfl) ?_
    refine sn_get (ci := 5) (Cn := RX6) (T := TX6) (n := 6) (v := .ref (g.2.2.2 (b + 1))) C hinX6 hP b (sn_l0 hT.1 (by decide)) hT.2.1 rfl 0 (by decide) (by decide +kernel) rfl rfl dX6_neighbourOf_8 ?_
    refine lv_sipush (v := (360 : Int32)) hx hb dX6_neighbourOf_11 (by decide) ?_
    refine sn_aldc (k := 360) C hP (b + 1) (sn_l hT.1 (by decide)) hT.2.2.1 (by decide +kernel) dX6_neighbourOf_14 ?_
    refine lv_icmp_ge (tgt := 45) hx hb dX6_neighbourOf_15 (by decide) (fun hc => ?_) (fun hc => ?_)
    · replace hd := (if_pos hc).symm.trans hd
      refine lv_iconst (v := (-1 : Int32)) hx hb dX6_neighbourOf_45 (by decide) ?_
      have ho := Option.some.inj hd
      subst ho
      exact sn_ri C hP hS dX6_neighbourOf_46
    · replace hd := (if_neg hc).symm.trans hd
      refine lv_aload_n hx hb dX6_neighbourOf_18 rfl (lv_at hl 0 rfl) ?_
      refine lv_iload_n hx hb dX6_neighbourOf_19 rfl (lv_at hl 1 rfl) ?_
      refine lv_iload hx hb dX6_neighbourOf_20 (lv_at hl 4 rfl) ?_
      obtain ⟨r1, hr1, hd⟩ := Option.bind_eq_some_iff.mp hd
      refine sn_Vi (b := b) (rest := []) (As := [.int x1, .int x4]) (st := st) C (c_X6_isLink hi hT hr1) (cwV 2 hts gX6_neighbourOf_X6_isLink rfl rfl rfl (by decide +kernel) ⟨Nat.le_of_ble_eq_true rfl, Nat.le_of_ble_eq_true rfl⟩) hP hS (sn_l0 hT.1 (by decide)) hT.2.1 rfl rfl hl.1 rfl (Nat.le_of_ble_eq_true rfl) dX6_neighbourOf_22 (fun H locs hP hS => ?_)
      refine lv_if_eq (tgt := 39) hx hb dX6_neighbourOf_25 (by decide) (fun hc => ?_) (fun hc => ?_)
      · replace hd := (if_pos hc).symm.trans hd
        refine lv_iinc (v := (x4 + (1 : Int32))) (lv' := [(4, .int (x4 + (1 : Int32))), (0, .ref (g.2.2.2 b)), (1, .int x1), (2, .int x2), (3, .int x3)]) hx hb dX6_neighbourOf_39 hl (k := 4) rfl rfl (by decide) rfl (fun ls hl => ?_)
        refine lv_goto (tgt := 5) hx hb dX6_neighbourOf_42 (by decide) ?_
        exact ih x3 (x4 + (1 : Int32)) _ _ _ hd hP hS (lv_sub hl [1, 2, 3, 4, 0] rfl)
      · replace hd := (if_neg hc).symm.trans hd
        refine lv_iload_n hx hb dX6_neighbourOf_28 rfl (lv_at hl 3 rfl) ?_
        refine lv_iload_n hx hb dX6_neighbourOf_29 rfl (lv_at hl 2 rfl) ?_
        refine lv_icmp_ne (tgt := 36) hx hb dX6_neighbourOf_30 (by decide) (fun hc => ?_) (fun hc => ?_)
        · replace hd := (if_neg hc).symm.trans hd
          refine lv_iinc (v := (x3 + (1 : Int32))) (lv' := [(3, .int (x3 + (1 : Int32))), (0, .ref (g.2.2.2 b)), (1, .int x1), (2, .int x2), (4, .int x4)]) hx hb dX6_neighbourOf_36 hl (k := 3) rfl rfl (by decide) rfl (fun ls hl => ?_)
          refine lv_iinc (v := (x4 + (1 : Int32))) (lv' := [(4, .int (x4 + (1 : Int32))), (3, .int (x3 + (1 : Int32))), (0, .ref (g.2.2.2 b)), (1, .int x1), (2, .int x2)]) hx hb dX6_neighbourOf_39 hl (k := 4) rfl rfl (by decide) rfl (fun ls hl => ?_)
          refine lv_goto (tgt := 5) hx hb dX6_neighbourOf_42 (by decide) ?_
          exact ih (x3 + (1 : Int32)) (x4 + (1 : Int32)) _ _ _ hd hP hS (lv_sub hl [2, 3, 4, 1, 0] rfl)
        · replace hd := (if_pos hc).symm.trans hd
          refine lv_iload hx hb dX6_neighbourOf_33 (lv_at hl 4 rfl) ?_
          have ho := Option.some.inj hd
          subst ho
          exact sn_ri C hP hS dX6_neighbourOf_35

set_option maxHeartbeats 4000000 in
set_option maxRecDepth 100000 in
theorem c_X6_neighbourOf {l : Launch} {g : sn_G} {tb : Nat → sn_K} {N : Nat} (hi : sn_I g N) {b : Nat} {x1 : Int32} {x2 : Int32} (hT : sn_Mo tb N b) {st : sn_S} {o : Int32} (hd : D_X6_neighbourOf b x1 x2 st = some o) : sn_Mi l yX6_neighbourOf wsX6_neighbourOf { frames := 3, cells := 0, slots := 0, locals := 65 } g tb N [.ref (g.2.2.2 b), .int x1, .int x2] st o st := by
  refine sn_Mi.of (cc := cX6_neighbourOf) (nL := 5) (ret := (some .int)) hi (by decide) rfl (Nat.le_of_ble_eq_true rfl) ?_
  intro p e s m args below meth c ls C hP hS hl
  have hl : lv_has ls 5 [(0, .ref (g.2.2.2 b)), (1, .int x1), (2, .int x2)] := hl
  obtain ⟨⟨hx, hb, hml, hown, hts⟩, hr, hlk, hC, hi⟩ := id C
  unfold D_X6_neighbourOf at hd
  have hinX6 : ∀ w ∈ wsX60, w ∈ wsX6_neighbourOf := by decide +kernel
  refine lv_iconst (v := (0 : Int32)) hx hb dX6_neighbourOf_0 (by decide) ?_
  refine lv_istore_n (lv' := [(3, .int (0 : Int32)), (0, .ref (g.2.2.2 b)), (1, .int x1), (2, .int x2)]) hx hb dX6_neighbourOf_1 rfl hl (by decide) rfl (fun ls hl => ?_)
  refine lv_iconst (v := (0 : Int32)) hx hb dX6_neighbourOf_2 (by decide) ?_
  refine lv_istore (lv' := [(4, .int (0 : Int32)), (3, .int (0 : Int32)), (0, .ref (g.2.2.2 b)), (1, .int x1), (2, .int x2)]) hx hb dX6_neighbourOf_3 hl (by decide) rfl (fun ls hl => ?_)
  exact t_X6_neighbourOf_L5 (st := st) C hT 4096 (0 : Int32) (0 : Int32) _ _ _ hd hP hS (lv_sub hl [2, 3, 4, 1, 0] rfl)

set_option maxHeartbeats 4000000 in
set_option maxRecDepth 100000 in
theorem c_X6_placeOf {l : Launch} {g : sn_G} {tb : Nat → sn_K} {N : Nat} (hi : sn_I g N) {b : Nat} {x1 : Int32} {x2 : Int32} (hT : sn_Mo tb N b) {st : sn_S} {o : Int32} (hd : D_X6_placeOf b x1 x2 st = some o) : sn_Mi l yX6_placeOf wsX6_placeOf { frames := 4, cells := 0, slots := 0, locals := 89 } g tb N [.ref (g.2.2.2 b), .int x1, .int x2] st o st := by
  refine sn_Mi.of (cc := cX6_placeOf) (nL := 3) (ret := (some .int)) hi (by decide) rfl (Nat.le_of_ble_eq_true rfl) ?_
  intro p e s m args below meth c ls C hP hS hl
  have hl : lv_has ls 3 [(0, .ref (g.2.2.2 b)), (1, .int x1), (2, .int x2)] := hl
  obtain ⟨⟨hx, hb, hml, hown, hts⟩, hr, hlk, hC, hi⟩ := id C
  unfold D_X6_placeOf at hd
  refine lv_iload_n hx hb dX6_placeOf_0 rfl (lv_at hl 2 rfl) ?_
  refine lv_if_ne (tgt := 11) hx hb dX6_placeOf_1 (by decide) (fun hc => ?_) (fun hc => ?_)
  · replace hd := (if_neg hc).symm.trans hd
    refine lv_iload_n hx hb dX6_placeOf_11 rfl (lv_at hl 2 rfl) ?_
    refine lv_iconst (v := (1 : Int32)) hx hb dX6_placeOf_12 (by decide) ?_
    refine lv_icmp_ne (tgt := 23) hx hb dX6_placeOf_13 (by decide) (fun hc => ?_) (fun hc => ?_)
    · replace hd := (if_neg hc).symm.trans hd
      refine lv_iload_n hx hb dX6_placeOf_23 rfl (lv_at hl 2 rfl) ?_
      refine lv_iconst (v := (2 : Int32)) hx hb dX6_placeOf_24 (by decide) ?_
      refine lv_icmp_ne (tgt := 35) hx hb dX6_placeOf_25 (by decide) (fun hc => ?_) (fun hc => ?_)
      · replace hd := (if_neg hc).symm.trans hd
        refine lv_iload_n hx hb dX6_placeOf_35 rfl (lv_at hl 2 rfl) ?_
        refine lv_iconst (v := (3 : Int32)) hx hb dX6_placeOf_36 (by decide) ?_
        refine lv_icmp_ne (tgt := 47) hx hb dX6_placeOf_37 (by decide) (fun hc => ?_) (fun hc => ?_)
        · replace hd := (if_neg hc).symm.trans hd
          refine lv_iload_n hx hb dX6_placeOf_47 rfl (lv_at hl 2 rfl) ?_
          refine lv_iconst (v := (4 : Int32)) hx hb dX6_placeOf_48 (by decide) ?_
          refine lv_icmp_ne (tgt := 58) hx hb dX6_placeOf_49 (by decide) (fun hc => ?_) (fun hc => ?_)
          · replace hd := (if_neg hc).symm.trans hd
            refine lv_bipush (v := (72 : Int32)) hx hb dX6_placeOf_58 (by decide) ?_
            refine lv_bipush (v := (12 : Int32)) hx hb dX6_placeOf_60 (by decide) ?_
            refine lv_iload_n hx hb dX6_placeOf_62 rfl (lv_at hl 1 rfl) ?_
            refine lv_imul hx hb dX6_placeOf_63 ?_
            refine lv_iadd hx hb dX6_placeOf_64 ?_
            refine lv_aload_n hx hb dX6_placeOf_65 rfl (lv_at hl 0 rfl) ?_
            refine lv_iload_n hx hb dX6_placeOf_66 rfl (lv_at hl 1 rfl) ?_
            refine lv_iload_n hx hb dX6_placeOf_67 rfl (lv_at hl 2 rfl) ?_
            refine lv_iconst (v := (5 : Int32)) hx hb dX6_placeOf_68 (by decide) ?_
            refine lv_isub hx hb dX6_placeOf_69 ?_
            obtain ⟨r1, hr1, hd⟩ := Option.bind_eq_some_iff.mp hd
            refine sn_Vi (b := b) (rest := [.int ((72 : Int32) + ((12 : Int32) * x1))]) (As := [.int x1, .int (x2 - (5 : Int32))]) (st := st) C (c_X6_neighbourOf hi hT hr1) (cwV 2 hts gX6_placeOf_X6_neighbourOf rfl rfl rfl (by decide +kernel) ⟨Nat.le_of_ble_eq_true rfl, Nat.le_of_ble_eq_true rfl⟩) hP hS (sn_l0 hT.1 (by decide)) hT.2.1 rfl rfl hl.1 rfl (Nat.le_of_ble_eq_true rfl) dX6_placeOf_70 (fun H locs hP hS => ?_)
            refine lv_iadd hx hb dX6_placeOf_73 ?_
            have ho := Option.some.inj hd
            subst ho
            exact sn_ri C hP hS dX6_placeOf_74
          · replace hd := (if_pos hc).symm.trans hd
            refine lv_iconst (v := (0 : Int32)) hx hb dX6_placeOf_52 (by decide) ?_
            refine lv_iload_n hx hb dX6_placeOf_53 rfl (lv_at hl 1 rfl) ?_
            refine lv_iadd hx hb dX6_placeOf_54 ?_
            refine lv_goto (tgt := 74) hx hb dX6_placeOf_55 (by decide) ?_
            have ho := Option.some.inj hd
            subst ho
            exact sn_ri C hP hS dX6_placeOf_74
        · replace hd := (if_pos hc).symm.trans hd
          refine lv_bipush (v := (48 : Int32)) hx hb dX6_placeOf_40 (by decide) ?_
          refine lv_iload_n hx hb dX6_placeOf_42 rfl (lv_at hl 1 rfl) ?_
          refine lv_iadd hx hb dX6_placeOf_43 ?_
          refine lv_goto (tgt := 74) hx hb dX6_placeOf_44 (by decide) ?_
          have ho := Option.some.inj hd
          subst ho
          exact sn_ri C hP hS dX6_placeOf_74
      · replace hd := (if_pos hc).symm.trans hd
        refine lv_bipush (v := (36 : Int32)) hx hb dX6_placeOf_28 (by decide) ?_
        refine lv_iload_n hx hb dX6_placeOf_30 rfl (lv_at hl 1 rfl) ?_
        refine lv_iadd hx hb dX6_placeOf_31 ?_
        refine lv_goto (tgt := 74) hx hb dX6_placeOf_32 (by decide) ?_
        have ho := Option.some.inj hd
        subst ho
        exact sn_ri C hP hS dX6_placeOf_74
    · replace hd := (if_pos hc).symm.trans hd
      refine lv_bipush (v := (24 : Int32)) hx hb dX6_placeOf_16 (by decide) ?_
      refine lv_iload_n hx hb dX6_placeOf_18 rfl (lv_at hl 1 rfl) ?_
      refine lv_iadd hx hb dX6_placeOf_19 ?_
      refine lv_goto (tgt := 74) hx hb dX6_placeOf_20 (by decide) ?_
      have ho := Option.some.inj hd
      subst ho
      exact sn_ri C hP hS dX6_placeOf_74
  · replace hd := (if_pos hc).symm.trans hd
    refine lv_bipush (v := (12 : Int32)) hx hb dX6_placeOf_4 (by decide) ?_
    refine lv_iload_n hx hb dX6_placeOf_6 rfl (lv_at hl 1 rfl) ?_
    refine lv_iadd hx hb dX6_placeOf_7 ?_
    refine lv_goto (tgt := 74) hx hb dX6_placeOf_8 (by decide) ?_
    have ho := Option.some.inj hd
    subst ho
    exact sn_ri C hP hS dX6_placeOf_74

set_option maxHeartbeats 4000000 in
set_option maxRecDepth 100000 in
theorem c_X6_fault {l : Launch} {g : sn_G} {tb : Nat → sn_K} {N : Nat} (hi : sn_I g N) {b : Nat} {x1 : Int32} {x2 : Int32} {x3 : Int32} (hT : sn_Mo tb N b) {st : sn_S} {o : Int32 × sn_S} (hd : D_X6_fault b x1 x2 x3 st = some o) : sn_Mi l yX6_fault wsX6_fault { frames := 13, cells := 0, slots := 0, locals := 285 } g tb N [.ref (g.2.2.2 b), .int x1, .int x2, .int x3] st o.1 o.2 := by
  refine sn_Mi.of (cc := cX6_fault) (nL := 4) (ret := (some .int)) hi (by decide) rfl (Nat.le_of_ble_eq_true rfl) ?_
  intro p e s m args below meth c ls C hP hS hl
  have hl : lv_has ls 4 [(0, .ref (g.2.2.2 b)), (1, .int x1), (2, .int x2), (3, .int x3)] := hl
  obtain ⟨⟨hx, hb, hml, hown, hts⟩, hr, hlk, hC, hi⟩ := id C
  unfold D_X6_fault at hd
  have hinX6 : ∀ w ∈ wsX60, w ∈ wsX6_fault := by decide +kernel
  refine lv_aload_n hx hb dX6_fault_0 rfl (lv_at hl 0 rfl) ?_
  refine lv_iload_n hx hb dX6_fault_1 rfl (lv_at hl 1 rfl) ?_
  obtain ⟨r1, hr1, hd⟩ := Option.bind_eq_some_iff.mp hd
  refine sn_Vi (b := b) (rest := []) (As := [.int x1]) (st := st) C (c_X6_isNode hi hT hr1) (cwV 1 hts gX6_fault_X6_isNode rfl rfl rfl (by decide +kernel) ⟨Nat.le_of_ble_eq_true rfl, Nat.le_of_ble_eq_true rfl⟩) hP hS (sn_l0 hT.1 (by decide)) hT.2.1 rfl rfl hl.1 rfl (Nat.le_of_ble_eq_true rfl) dX6_fault_2 (fun H locs hP hS => ?_)
  refine lv_if_ne (tgt := 11) hx hb dX6_fault_5 (by decide) (fun hc => ?_) (fun hc => ?_)
  · replace hd := (if_neg hc).symm.trans hd
    refine lv_iload_n hx hb dX6_fault_11 rfl (lv_at hl 2 rfl) ?_
    refine lv_iconst (v := (0 : Int32)) hx hb dX6_fault_12 (by decide) ?_
    refine lv_iconst (v := (3 : Int32)) hx hb dX6_fault_13 (by decide) ?_
    obtain ⟨r2, hr2, hd⟩ := Option.bind_eq_some_iff.mp hd
    refine sn_Si (rest := []) (As := [.int x2, .int (0 : Int32), .int (3 : Int32)]) (st := st) C (c_X6_in hi  hr2) (va_cwS 3 hts gX6_fault_X6_in rfl rfl rfl (by decide +kernel) ⟨Nat.le_of_ble_eq_true rfl, Nat.le_of_ble_eq_true rfl⟩) hP hS rfl hl.1 rfl (Nat.le_of_ble_eq_true rfl) dX6_fault_14 (fun H locs hP hS => ?_)
    refine lv_if_ne (tgt := 46) hx hb dX6_fault_17 (by decide) (fun hc => ?_) (fun hc => ?_)
    · replace hd := (if_neg hc).symm.trans hd
      refine lv_aload_n hx hb dX6_fault_46 rfl (lv_at hl 0 rfl) ?_
      refine sn_get (ci := 5) (Cn := RX6) (T := TX6) (n := 6) (v := .ref (g.2.2.2 (b + 1))) C hinX6 hP b (sn_l0 hT.1 (by decide)) hT.2.1 rfl 0 (by decide) (by decide +kernel) rfl rfl dX6_fault_47 ?_
      refine lv_sipush (v := (361 : Int32)) hx hb dX6_fault_50 (by decide) ?_
      refine sn_aldc (k := 361) C hP (b + 1) (sn_l hT.1 (by decide)) hT.2.2.1 (by decide +kernel) dX6_fault_53 ?_
      refine lv_if_ne (tgt := 60) hx hb dX6_fault_54 (by decide) (fun hc => ?_) (fun hc => ?_)
      · replace hd := (if_neg hc).symm.trans hd
        refine lv_aload_n hx hb dX6_fault_60 rfl (lv_at hl 0 rfl) ?_
        refine sn_get (ci := 5) (Cn := RX6) (T := TX6) (n := 6) (v := .ref (g.2.2.2 (b + 1))) C hinX6 hP b (sn_l0 hT.1 (by decide)) hT.2.1 rfl 0 (by decide) (by decide +kernel) rfl rfl dX6_fault_61 ?_
        refine lv_aload_n hx hb dX6_fault_64 rfl (lv_at hl 0 rfl) ?_
        refine lv_iload_n hx hb dX6_fault_65 rfl (lv_at hl 1 rfl) ?_
        refine lv_iload_n hx hb dX6_fault_66 rfl (lv_at hl 2 rfl) ?_
        obtain ⟨r3, hr3, hd⟩ := Option.bind_eq_some_iff.mp hd
        refine sn_Vi (b := b) (rest := [.ref (g.2.2.2 (b + 1))]) (As := [.int x1, .int x2]) (st := st) C (c_X6_placeOf hi hT hr3) (cwV 2 hts gX6_fault_X6_placeOf rfl rfl rfl (by decide +kernel) ⟨Nat.le_of_ble_eq_true rfl, Nat.le_of_ble_eq_true rfl⟩) hP hS (sn_l0 hT.1 (by decide)) hT.2.1 rfl rfl hl.1 rfl (Nat.le_of_ble_eq_true rfl) dX6_fault_67 (fun H locs hP hS => ?_)
        refine lv_iload_n hx hb dX6_fault_70 rfl (lv_at hl 3 rfl) ?_
        refine sn_ast C hP hS (b + 1) (sn_l hT.1 (by decide)) hT.2.2.1 hd dX6_fault_71 (fun k4 H locs hk4 hd hP hS => ?_)
        refine lv_aload_n hx hb dX6_fault_72 rfl (lv_at hl 0 rfl) ?_
        obtain ⟨r5, hr5, hd⟩ := Option.bind_eq_some_iff.mp hd
        refine sn_Vv (b := b) (rest := []) (As := []) (st := (sn_wr st (b + 1) k4 x3)) C (c_X6_beginRound hi hT hr5) (cwV 0 hts gX6_fault_X6_beginRound rfl rfl rfl (by decide +kernel) ⟨Nat.le_of_ble_eq_true rfl, Nat.le_of_ble_eq_true rfl⟩) hP hS (sn_l0 hT.1 (by decide)) hT.2.1 rfl rfl hl.1 rfl (Nat.le_of_ble_eq_true rfl) dX6_fault_73 (fun H locs hP hS => ?_)
        refine lv_iconst (v := (1 : Int32)) hx hb dX6_fault_76 (by decide) ?_
        have ho := Option.some.inj hd
        subst ho
        exact sn_ri C hP hS dX6_fault_77
      · replace hd := (if_pos hc).symm.trans hd
        refine lv_bipush (v := (-103 : Int32)) hx hb dX6_fault_57 (by decide) ?_
        have ho := Option.some.inj hd
        subst ho
        exact sn_ri C hP hS dX6_fault_59
    · replace hd := (if_pos hc).symm.trans hd
      refine lv_iload_n hx hb dX6_fault_20 rfl (lv_at hl 2 rfl) ?_
      refine lv_iconst (v := (4 : Int32)) hx hb dX6_fault_21 (by decide) ?_
      refine lv_icmp_le (tgt := 43) hx hb dX6_fault_22 (by decide) (fun hc => ?_) (fun hc => ?_)
      · replace hd := (if_pos hc).symm.trans hd
        refine lv_bipush (v := (-102 : Int32)) hx hb dX6_fault_43 (by decide) ?_
        have ho := Option.some.inj hd
        subst ho
        exact sn_ri C hP hS dX6_fault_45
      · replace hd := (if_neg hc).symm.trans hd
        refine lv_iload_n hx hb dX6_fault_25 rfl (lv_at hl 2 rfl) ?_
        refine lv_bipush (v := (17 : Int32)) hx hb dX6_fault_26 (by decide) ?_
        refine lv_icmp_ge (tgt := 43) hx hb dX6_fault_28 (by decide) (fun hc => ?_) (fun hc => ?_)
        · replace hd := (if_pos hc).symm.trans hd
          refine lv_bipush (v := (-102 : Int32)) hx hb dX6_fault_43 (by decide) ?_
          have ho := Option.some.inj hd
          subst ho
          exact sn_ri C hP hS dX6_fault_45
        · replace hd := (if_neg hc).symm.trans hd
          refine lv_aload_n hx hb dX6_fault_31 rfl (lv_at hl 0 rfl) ?_
          refine lv_iload_n hx hb dX6_fault_32 rfl (lv_at hl 1 rfl) ?_
          refine lv_iload_n hx hb dX6_fault_33 rfl (lv_at hl 2 rfl) ?_
          refine lv_iconst (v := (5 : Int32)) hx hb dX6_fault_34 (by decide) ?_
          refine lv_isub hx hb dX6_fault_35 ?_
          obtain ⟨r6, hr6, hd⟩ := Option.bind_eq_some_iff.mp hd
          refine sn_Vi (b := b) (rest := []) (As := [.int x1, .int (x2 - (5 : Int32))]) (st := st) C (c_X6_neighbourOf hi hT hr6) (cwV 2 hts gX6_fault_X6_neighbourOf rfl rfl rfl (by decide +kernel) ⟨Nat.le_of_ble_eq_true rfl, Nat.le_of_ble_eq_true rfl⟩) hP hS (sn_l0 hT.1 (by decide)) hT.2.1 rfl rfl hl.1 rfl (Nat.le_of_ble_eq_true rfl) dX6_fault_36 (fun H locs hP hS => ?_)
          refine lv_iconst (v := (-1 : Int32)) hx hb dX6_fault_39 (by decide) ?_
          refine lv_icmp_ne (tgt := 46) hx hb dX6_fault_40 (by decide) (fun hc => ?_) (fun hc => ?_)
          · replace hd := (if_neg hc).symm.trans hd
            refine lv_aload_n hx hb dX6_fault_46 rfl (lv_at hl 0 rfl) ?_
            refine sn_get (ci := 5) (Cn := RX6) (T := TX6) (n := 6) (v := .ref (g.2.2.2 (b + 1))) C hinX6 hP b (sn_l0 hT.1 (by decide)) hT.2.1 rfl 0 (by decide) (by decide +kernel) rfl rfl dX6_fault_47 ?_
            refine lv_sipush (v := (361 : Int32)) hx hb dX6_fault_50 (by decide) ?_
            refine sn_aldc (k := 361) C hP (b + 1) (sn_l hT.1 (by decide)) hT.2.2.1 (by decide +kernel) dX6_fault_53 ?_
            refine lv_if_ne (tgt := 60) hx hb dX6_fault_54 (by decide) (fun hc => ?_) (fun hc => ?_)
            · replace hd := (if_neg hc).symm.trans hd
              refine lv_aload_n hx hb dX6_fault_60 rfl (lv_at hl 0 rfl) ?_
              refine sn_get (ci := 5) (Cn := RX6) (T := TX6) (n := 6) (v := .ref (g.2.2.2 (b + 1))) C hinX6 hP b (sn_l0 hT.1 (by decide)) hT.2.1 rfl 0 (by decide) (by decide +kernel) rfl rfl dX6_fault_61 ?_
              refine lv_aload_n hx hb dX6_fault_64 rfl (lv_at hl 0 rfl) ?_
              refine lv_iload_n hx hb dX6_fault_65 rfl (lv_at hl 1 rfl) ?_
              refine lv_iload_n hx hb dX6_fault_66 rfl (lv_at hl 2 rfl) ?_
              obtain ⟨r7, hr7, hd⟩ := Option.bind_eq_some_iff.mp hd
              refine sn_Vi (b := b) (rest := [.ref (g.2.2.2 (b + 1))]) (As := [.int x1, .int x2]) (st := st) C (c_X6_placeOf hi hT hr7) (cwV 2 hts gX6_fault_X6_placeOf rfl rfl rfl (by decide +kernel) ⟨Nat.le_of_ble_eq_true rfl, Nat.le_of_ble_eq_true rfl⟩) hP hS (sn_l0 hT.1 (by decide)) hT.2.1 rfl rfl hl.1 rfl (Nat.le_of_ble_eq_true rfl) dX6_fault_67 (fun H locs hP hS => ?_)
              refine lv_iload_n hx hb dX6_fault_70 rfl (lv_at hl 3 rfl) ?_
              refine sn_ast C hP hS (b + 1) (sn_l hT.1 (by decide)) hT.2.2.1 hd dX6_fault_71 (fun k8 H locs hk8 hd hP hS => ?_)
              refine lv_aload_n hx hb dX6_fault_72 rfl (lv_at hl 0 rfl) ?_
              obtain ⟨r9, hr9, hd⟩ := Option.bind_eq_some_iff.mp hd
              refine sn_Vv (b := b) (rest := []) (As := []) (st := (sn_wr st (b + 1) k8 x3)) C (c_X6_beginRound hi hT hr9) (cwV 0 hts gX6_fault_X6_beginRound rfl rfl rfl (by decide +kernel) ⟨Nat.le_of_ble_eq_true rfl, Nat.le_of_ble_eq_true rfl⟩) hP hS (sn_l0 hT.1 (by decide)) hT.2.1 rfl rfl hl.1 rfl (Nat.le_of_ble_eq_true rfl) dX6_fault_73 (fun H locs hP hS => ?_)
              refine lv_iconst (v := (1 : Int32)) hx hb dX6_fault_76 (by decide) ?_
              have ho := Option.some.inj hd
              subst ho
              exact sn_ri C hP hS dX6_fault_77
            · replace hd := (if_pos hc).symm.trans hd
              refine lv_bipush (v := (-103 : Int32)) hx hb dX6_fault_57 (by decide) ?_
              have ho := Option.some.inj hd
              subst ho
              exact sn_ri C hP hS dX6_fault_59
          · replace hd := (if_pos hc).symm.trans hd
            refine lv_bipush (v := (-102 : Int32)) hx hb dX6_fault_43 (by decide) ?_
            have ho := Option.some.inj hd
            subst ho
            exact sn_ri C hP hS dX6_fault_45
  · replace hd := (if_pos hc).symm.trans hd
    refine lv_bipush (v := (-101 : Int32)) hx hb dX6_fault_8 (by decide) ?_
    have ho := Option.some.inj hd
    subst ho
    exact sn_ri C hP hS dX6_fault_10

set_option maxHeartbeats 4000000 in
set_option maxRecDepth 100000 in
theorem c_X6_told {l : Launch} {g : sn_G} {tb : Nat → sn_K} {N : Nat} (hi : sn_I g N) {b : Nat} {x1 : Int32} {x2 : Int32} (hT : sn_Mo tb N b) {st : sn_S} {o : Int32 × sn_S} (hd : D_X6_told b x1 x2 st = some o) : sn_Mi l yX6_told wsX6_told { frames := 5, cells := 0, slots := 0, locals := 111 } g tb N [.ref (g.2.2.2 b), .int x1, .int x2] st o.1 o.2 := by
  refine sn_Mi.of (cc := cX6_told) (nL := 3) (ret := (some .int)) hi (by decide) rfl (Nat.le_of_ble_eq_true rfl) ?_
  intro p e s m args below meth c ls C hP hS hl
  have hl : lv_has ls 3 [(0, .ref (g.2.2.2 b)), (1, .int x1), (2, .int x2)] := hl
  obtain ⟨⟨hx, hb, hml, hown, hts⟩, hr, hlk, hC, hi⟩ := id C
  unfold D_X6_told at hd
  have hinX6 : ∀ w ∈ wsX60, w ∈ wsX6_told := by decide +kernel
  refine lv_aload_n hx hb dX6_told_0 rfl (lv_at hl 0 rfl) ?_
  refine lv_iload_n hx hb dX6_told_1 rfl (lv_at hl 1 rfl) ?_
  obtain ⟨r1, hr1, hd⟩ := Option.bind_eq_some_iff.mp hd
  refine sn_Vi (b := b) (rest := []) (As := [.int x1]) (st := st) C (c_X6_isNode hi hT hr1) (cwV 1 hts gX6_told_X6_isNode rfl rfl rfl (by decide +kernel) ⟨Nat.le_of_ble_eq_true rfl, Nat.le_of_ble_eq_true rfl⟩) hP hS (sn_l0 hT.1 (by decide)) hT.2.1 rfl rfl hl.1 rfl (Nat.le_of_ble_eq_true rfl) dX6_told_2 (fun H locs hP hS => ?_)
  refine lv_if_ne (tgt := 11) hx hb dX6_told_5 (by decide) (fun hc => ?_) (fun hc => ?_)
  · replace hd := (if_neg hc).symm.trans hd
    refine lv_iload_n hx hb dX6_told_11 rfl (lv_at hl 2 rfl) ?_
    refine lv_iconst (v := (0 : Int32)) hx hb dX6_told_12 (by decide) ?_
    refine lv_iconst (v := (4 : Int32)) hx hb dX6_told_13 (by decide) ?_
    obtain ⟨r2, hr2, hd⟩ := Option.bind_eq_some_iff.mp hd
    refine sn_Si (rest := []) (As := [.int x2, .int (0 : Int32), .int (4 : Int32)]) (st := st) C (c_X6_in hi  hr2) (va_cwS 3 hts gX6_told_X6_in rfl rfl rfl (by decide +kernel) ⟨Nat.le_of_ble_eq_true rfl, Nat.le_of_ble_eq_true rfl⟩) hP hS rfl hl.1 rfl (Nat.le_of_ble_eq_true rfl) dX6_told_14 (fun H locs hP hS => ?_)
    refine lv_if_ne (tgt := 46) hx hb dX6_told_17 (by decide) (fun hc => ?_) (fun hc => ?_)
    · replace hd := (if_neg hc).symm.trans hd
      refine lv_iload_n hx hb dX6_told_46 rfl (lv_at hl 2 rfl) ?_
      refine lv_iconst (v := (4 : Int32)) hx hb dX6_told_47 (by decide) ?_
      refine lv_icmp_le (tgt := 65) hx hb dX6_told_48 (by decide) (fun hc => ?_) (fun hc => ?_)
      · replace hd := (if_pos hc).symm.trans hd
        refine lv_aload_n hx hb dX6_told_65 rfl (lv_at hl 0 rfl) ?_
        refine sn_get (ci := 5) (Cn := RX6) (T := TX6) (n := 6) (v := .ref (g.2.2.2 (b + 1))) C hinX6 hP b (sn_l0 hT.1 (by decide)) hT.2.1 rfl 0 (by decide) (by decide +kernel) rfl rfl dX6_told_66 ?_
        refine lv_sipush (v := (371 : Int32)) hx hb dX6_told_69 (by decide) ?_
        refine lv_aload_n hx hb dX6_told_72 rfl (lv_at hl 0 rfl) ?_
        refine sn_get (ci := 5) (Cn := RX6) (T := TX6) (n := 6) (v := .ref (g.2.2.2 (b + 1))) C hinX6 hP b (sn_l0 hT.1 (by decide)) hT.2.1 rfl 0 (by decide) (by decide +kernel) rfl rfl dX6_told_73 ?_
        refine lv_aload_n hx hb dX6_told_76 rfl (lv_at hl 0 rfl) ?_
        refine lv_iload_n hx hb dX6_told_77 rfl (lv_at hl 1 rfl) ?_
        refine lv_iload_n hx hb dX6_told_78 rfl (lv_at hl 2 rfl) ?_
        obtain ⟨r3, hr3, hd⟩ := Option.bind_eq_some_iff.mp hd
        refine sn_Vi (b := b) (rest := [.ref (g.2.2.2 (b + 1)), .int (371 : Int32), .ref (g.2.2.2 (b + 1))]) (As := [.int x1, .int x2]) (st := st) C (c_X6_placeOf hi hT hr3) (cwV 2 hts gX6_told_X6_placeOf rfl rfl rfl (by decide +kernel) ⟨Nat.le_of_ble_eq_true rfl, Nat.le_of_ble_eq_true rfl⟩) hP hS (sn_l0 hT.1 (by decide)) hT.2.1 rfl rfl hl.1 rfl (Nat.le_of_ble_eq_true rfl) dX6_told_79 (fun H locs hP hS => ?_)
        refine sn_ald C hP (b + 1) (sn_l hT.1 (by decide)) hT.2.2.1 hd dX6_told_82 (fun k4 hk4 hd => ?_)
        refine sn_astc (k := 371) C hP hS (b + 1) (sn_l hT.1 (by decide)) hT.2.2.1 (by decide +kernel) dX6_told_83 (fun H locs hP hS => ?_)
        refine lv_iconst (v := (1 : Int32)) hx hb dX6_told_84 (by decide) ?_
        have ho := Option.some.inj hd
        subst ho
        exact sn_ri C hP hS dX6_told_85
      · replace hd := (if_neg hc).symm.trans hd
        refine lv_aload_n hx hb dX6_told_51 rfl (lv_at hl 0 rfl) ?_
        refine sn_get (ci := 5) (Cn := RX6) (T := TX6) (n := 6) (v := .ref (g.2.2.2 (b + 1))) C hinX6 hP b (sn_l0 hT.1 (by decide)) hT.2.1 rfl 0 (by decide) (by decide +kernel) rfl rfl dX6_told_52 ?_
        refine lv_sipush (v := (361 : Int32)) hx hb dX6_told_55 (by decide) ?_
        refine sn_aldc (k := 361) C hP (b + 1) (sn_l hT.1 (by decide)) hT.2.2.1 (by decide +kernel) dX6_told_58 ?_
        refine lv_if_ne (tgt := 65) hx hb dX6_told_59 (by decide) (fun hc => ?_) (fun hc => ?_)
        · replace hd := (if_neg hc).symm.trans hd
          refine lv_aload_n hx hb dX6_told_65 rfl (lv_at hl 0 rfl) ?_
          refine sn_get (ci := 5) (Cn := RX6) (T := TX6) (n := 6) (v := .ref (g.2.2.2 (b + 1))) C hinX6 hP b (sn_l0 hT.1 (by decide)) hT.2.1 rfl 0 (by decide) (by decide +kernel) rfl rfl dX6_told_66 ?_
          refine lv_sipush (v := (371 : Int32)) hx hb dX6_told_69 (by decide) ?_
          refine lv_aload_n hx hb dX6_told_72 rfl (lv_at hl 0 rfl) ?_
          refine sn_get (ci := 5) (Cn := RX6) (T := TX6) (n := 6) (v := .ref (g.2.2.2 (b + 1))) C hinX6 hP b (sn_l0 hT.1 (by decide)) hT.2.1 rfl 0 (by decide) (by decide +kernel) rfl rfl dX6_told_73 ?_
          refine lv_aload_n hx hb dX6_told_76 rfl (lv_at hl 0 rfl) ?_
          refine lv_iload_n hx hb dX6_told_77 rfl (lv_at hl 1 rfl) ?_
          refine lv_iload_n hx hb dX6_told_78 rfl (lv_at hl 2 rfl) ?_
          obtain ⟨r5, hr5, hd⟩ := Option.bind_eq_some_iff.mp hd
          refine sn_Vi (b := b) (rest := [.ref (g.2.2.2 (b + 1)), .int (371 : Int32), .ref (g.2.2.2 (b + 1))]) (As := [.int x1, .int x2]) (st := st) C (c_X6_placeOf hi hT hr5) (cwV 2 hts gX6_told_X6_placeOf rfl rfl rfl (by decide +kernel) ⟨Nat.le_of_ble_eq_true rfl, Nat.le_of_ble_eq_true rfl⟩) hP hS (sn_l0 hT.1 (by decide)) hT.2.1 rfl rfl hl.1 rfl (Nat.le_of_ble_eq_true rfl) dX6_told_79 (fun H locs hP hS => ?_)
          refine sn_ald C hP (b + 1) (sn_l hT.1 (by decide)) hT.2.2.1 hd dX6_told_82 (fun k6 hk6 hd => ?_)
          refine sn_astc (k := 371) C hP hS (b + 1) (sn_l hT.1 (by decide)) hT.2.2.1 (by decide +kernel) dX6_told_83 (fun H locs hP hS => ?_)
          refine lv_iconst (v := (1 : Int32)) hx hb dX6_told_84 (by decide) ?_
          have ho := Option.some.inj hd
          subst ho
          exact sn_ri C hP hS dX6_told_85
        · replace hd := (if_pos hc).symm.trans hd
          refine lv_bipush (v := (-103 : Int32)) hx hb dX6_told_62 (by decide) ?_
          have ho := Option.some.inj hd
          subst ho
          exact sn_ri C hP hS dX6_told_64
    · replace hd := (if_pos hc).symm.trans hd
      refine lv_iload_n hx hb dX6_told_20 rfl (lv_at hl 2 rfl) ?_
      refine lv_iconst (v := (4 : Int32)) hx hb dX6_told_21 (by decide) ?_
      refine lv_icmp_le (tgt := 43) hx hb dX6_told_22 (by decide) (fun hc => ?_) (fun hc => ?_)
      · replace hd := (if_pos hc).symm.trans hd
        refine lv_bipush (v := (-102 : Int32)) hx hb dX6_told_43 (by decide) ?_
        have ho := Option.some.inj hd
        subst ho
        exact sn_ri C hP hS dX6_told_45
      · replace hd := (if_neg hc).symm.trans hd
        refine lv_iload_n hx hb dX6_told_25 rfl (lv_at hl 2 rfl) ?_
        refine lv_bipush (v := (17 : Int32)) hx hb dX6_told_26 (by decide) ?_
        refine lv_icmp_ge (tgt := 43) hx hb dX6_told_28 (by decide) (fun hc => ?_) (fun hc => ?_)
        · replace hd := (if_pos hc).symm.trans hd
          refine lv_bipush (v := (-102 : Int32)) hx hb dX6_told_43 (by decide) ?_
          have ho := Option.some.inj hd
          subst ho
          exact sn_ri C hP hS dX6_told_45
        · replace hd := (if_neg hc).symm.trans hd
          refine lv_aload_n hx hb dX6_told_31 rfl (lv_at hl 0 rfl) ?_
          refine lv_iload_n hx hb dX6_told_32 rfl (lv_at hl 1 rfl) ?_
          refine lv_iload_n hx hb dX6_told_33 rfl (lv_at hl 2 rfl) ?_
          refine lv_iconst (v := (5 : Int32)) hx hb dX6_told_34 (by decide) ?_
          refine lv_isub hx hb dX6_told_35 ?_
          obtain ⟨r7, hr7, hd⟩ := Option.bind_eq_some_iff.mp hd
          refine sn_Vi (b := b) (rest := []) (As := [.int x1, .int (x2 - (5 : Int32))]) (st := st) C (c_X6_neighbourOf hi hT hr7) (cwV 2 hts gX6_told_X6_neighbourOf rfl rfl rfl (by decide +kernel) ⟨Nat.le_of_ble_eq_true rfl, Nat.le_of_ble_eq_true rfl⟩) hP hS (sn_l0 hT.1 (by decide)) hT.2.1 rfl rfl hl.1 rfl (Nat.le_of_ble_eq_true rfl) dX6_told_36 (fun H locs hP hS => ?_)
          refine lv_iconst (v := (-1 : Int32)) hx hb dX6_told_39 (by decide) ?_
          refine lv_icmp_ne (tgt := 46) hx hb dX6_told_40 (by decide) (fun hc => ?_) (fun hc => ?_)
          · replace hd := (if_neg hc).symm.trans hd
            refine lv_iload_n hx hb dX6_told_46 rfl (lv_at hl 2 rfl) ?_
            refine lv_iconst (v := (4 : Int32)) hx hb dX6_told_47 (by decide) ?_
            refine lv_icmp_le (tgt := 65) hx hb dX6_told_48 (by decide) (fun hc => ?_) (fun hc => ?_)
            · replace hd := (if_pos hc).symm.trans hd
              refine lv_aload_n hx hb dX6_told_65 rfl (lv_at hl 0 rfl) ?_
              refine sn_get (ci := 5) (Cn := RX6) (T := TX6) (n := 6) (v := .ref (g.2.2.2 (b + 1))) C hinX6 hP b (sn_l0 hT.1 (by decide)) hT.2.1 rfl 0 (by decide) (by decide +kernel) rfl rfl dX6_told_66 ?_
              refine lv_sipush (v := (371 : Int32)) hx hb dX6_told_69 (by decide) ?_
              refine lv_aload_n hx hb dX6_told_72 rfl (lv_at hl 0 rfl) ?_
              refine sn_get (ci := 5) (Cn := RX6) (T := TX6) (n := 6) (v := .ref (g.2.2.2 (b + 1))) C hinX6 hP b (sn_l0 hT.1 (by decide)) hT.2.1 rfl 0 (by decide) (by decide +kernel) rfl rfl dX6_told_73 ?_
              refine lv_aload_n hx hb dX6_told_76 rfl (lv_at hl 0 rfl) ?_
              refine lv_iload_n hx hb dX6_told_77 rfl (lv_at hl 1 rfl) ?_
              refine lv_iload_n hx hb dX6_told_78 rfl (lv_at hl 2 rfl) ?_
              obtain ⟨r8, hr8, hd⟩ := Option.bind_eq_some_iff.mp hd
              refine sn_Vi (b := b) (rest := [.ref (g.2.2.2 (b + 1)), .int (371 : Int32), .ref (g.2.2.2 (b + 1))]) (As := [.int x1, .int x2]) (st := st) C (c_X6_placeOf hi hT hr8) (cwV 2 hts gX6_told_X6_placeOf rfl rfl rfl (by decide +kernel) ⟨Nat.le_of_ble_eq_true rfl, Nat.le_of_ble_eq_true rfl⟩) hP hS (sn_l0 hT.1 (by decide)) hT.2.1 rfl rfl hl.1 rfl (Nat.le_of_ble_eq_true rfl) dX6_told_79 (fun H locs hP hS => ?_)
              refine sn_ald C hP (b + 1) (sn_l hT.1 (by decide)) hT.2.2.1 hd dX6_told_82 (fun k9 hk9 hd => ?_)
              refine sn_astc (k := 371) C hP hS (b + 1) (sn_l hT.1 (by decide)) hT.2.2.1 (by decide +kernel) dX6_told_83 (fun H locs hP hS => ?_)
              refine lv_iconst (v := (1 : Int32)) hx hb dX6_told_84 (by decide) ?_
              have ho := Option.some.inj hd
              subst ho
              exact sn_ri C hP hS dX6_told_85
            · replace hd := (if_neg hc).symm.trans hd
              refine lv_aload_n hx hb dX6_told_51 rfl (lv_at hl 0 rfl) ?_
              refine sn_get (ci := 5) (Cn := RX6) (T := TX6) (n := 6) (v := .ref (g.2.2.2 (b + 1))) C hinX6 hP b (sn_l0 hT.1 (by decide)) hT.2.1 rfl 0 (by decide) (by decide +kernel) rfl rfl dX6_told_52 ?_
              refine lv_sipush (v := (361 : Int32)) hx hb dX6_told_55 (by decide) ?_
              refine sn_aldc (k := 361) C hP (b + 1) (sn_l hT.1 (by decide)) hT.2.2.1 (by decide +kernel) dX6_told_58 ?_
              refine lv_if_ne (tgt := 65) hx hb dX6_told_59 (by decide) (fun hc => ?_) (fun hc => ?_)
              · replace hd := (if_neg hc).symm.trans hd
                refine lv_aload_n hx hb dX6_told_65 rfl (lv_at hl 0 rfl) ?_
                refine sn_get (ci := 5) (Cn := RX6) (T := TX6) (n := 6) (v := .ref (g.2.2.2 (b + 1))) C hinX6 hP b (sn_l0 hT.1 (by decide)) hT.2.1 rfl 0 (by decide) (by decide +kernel) rfl rfl dX6_told_66 ?_
                refine lv_sipush (v := (371 : Int32)) hx hb dX6_told_69 (by decide) ?_
                refine lv_aload_n hx hb dX6_told_72 rfl (lv_at hl 0 rfl) ?_
                refine sn_get (ci := 5) (Cn := RX6) (T := TX6) (n := 6) (v := .ref (g.2.2.2 (b + 1))) C hinX6 hP b (sn_l0 hT.1 (by decide)) hT.2.1 rfl 0 (by decide) (by decide +kernel) rfl rfl dX6_told_73 ?_
                refine lv_aload_n hx hb dX6_told_76 rfl (lv_at hl 0 rfl) ?_
                refine lv_iload_n hx hb dX6_told_77 rfl (lv_at hl 1 rfl) ?_
                refine lv_iload_n hx hb dX6_told_78 rfl (lv_at hl 2 rfl) ?_
                obtain ⟨r10, hr10, hd⟩ := Option.bind_eq_some_iff.mp hd
                refine sn_Vi (b := b) (rest := [.ref (g.2.2.2 (b + 1)), .int (371 : Int32), .ref (g.2.2.2 (b + 1))]) (As := [.int x1, .int x2]) (st := st) C (c_X6_placeOf hi hT hr10) (cwV 2 hts gX6_told_X6_placeOf rfl rfl rfl (by decide +kernel) ⟨Nat.le_of_ble_eq_true rfl, Nat.le_of_ble_eq_true rfl⟩) hP hS (sn_l0 hT.1 (by decide)) hT.2.1 rfl rfl hl.1 rfl (Nat.le_of_ble_eq_true rfl) dX6_told_79 (fun H locs hP hS => ?_)
                refine sn_ald C hP (b + 1) (sn_l hT.1 (by decide)) hT.2.2.1 hd dX6_told_82 (fun k11 hk11 hd => ?_)
                refine sn_astc (k := 371) C hP hS (b + 1) (sn_l hT.1 (by decide)) hT.2.2.1 (by decide +kernel) dX6_told_83 (fun H locs hP hS => ?_)
                refine lv_iconst (v := (1 : Int32)) hx hb dX6_told_84 (by decide) ?_
                have ho := Option.some.inj hd
                subst ho
                exact sn_ri C hP hS dX6_told_85
              · replace hd := (if_pos hc).symm.trans hd
                refine lv_bipush (v := (-103 : Int32)) hx hb dX6_told_62 (by decide) ?_
                have ho := Option.some.inj hd
                subst ho
                exact sn_ri C hP hS dX6_told_64
          · replace hd := (if_pos hc).symm.trans hd
            refine lv_bipush (v := (-102 : Int32)) hx hb dX6_told_43 (by decide) ?_
            have ho := Option.some.inj hd
            subst ho
            exact sn_ri C hP hS dX6_told_45
  · replace hd := (if_pos hc).symm.trans hd
    refine lv_bipush (v := (-101 : Int32)) hx hb dX6_told_8 (by decide) ?_
    have ho := Option.some.inj hd
    subst ho
    exact sn_ri C hP hS dX6_told_10

set_option maxHeartbeats 4000000 in
set_option maxRecDepth 100000 in
theorem c_X6_seen {l : Launch} {g : sn_G} {tb : Nat → sn_K} {N : Nat} (hi : sn_I g N) {b : Nat} (hT : sn_Mo tb N b) {st : sn_S} {o : Int32} (hd : D_X6_seen b st = some o) : sn_Mi l yX6_seen wsX6_seen { frames := 0, cells := 0, slots := 0, locals := 0 } g tb N [.ref (g.2.2.2 b)] st o st := by
  refine sn_Mi.of (cc := cX6_seen) (nL := 1) (ret := (some .int)) hi (by decide) rfl (Nat.le_of_ble_eq_true rfl) ?_
  intro p e s m args below meth c ls C hP hS hl
  have hl : lv_has ls 1 [(0, .ref (g.2.2.2 b))] := hl
  obtain ⟨⟨hx, hb, hml, hown, hts⟩, hr, hlk, hC, hi⟩ := id C
  unfold D_X6_seen at hd
  have hinX6 : ∀ w ∈ wsX60, w ∈ wsX6_seen := by decide +kernel
  refine lv_aload_n hx hb dX6_seen_0 rfl (lv_at hl 0 rfl) ?_
  refine sn_get (ci := 5) (Cn := RX6) (T := TX6) (n := 6) (v := .ref (g.2.2.2 (b + 1))) C hinX6 hP b (sn_l0 hT.1 (by decide)) hT.2.1 rfl 0 (by decide) (by decide +kernel) rfl rfl dX6_seen_1 ?_
  refine lv_sipush (v := (371 : Int32)) hx hb dX6_seen_4 (by decide) ?_
  refine sn_aldc (k := 371) C hP (b + 1) (sn_l hT.1 (by decide)) hT.2.2.1 (by decide +kernel) dX6_seen_7 ?_
  have ho := Option.some.inj hd
  subst ho
  exact sn_ri C hP hS dX6_seen_8

set_option maxHeartbeats 4000000 in
set_option maxRecDepth 100000 in
theorem c_X6_neighbour {l : Launch} {g : sn_G} {tb : Nat → sn_K} {N : Nat} (hi : sn_I g N) {b : Nat} {x1 : Int32} {x2 : Int32} (hT : sn_Mo tb N b) {st : sn_S} {o : Int32} (hd : D_X6_neighbour b x1 x2 st = some o) : sn_Mi l yX6_neighbour wsX6_neighbour { frames := 4, cells := 0, slots := 0, locals := 89 } g tb N [.ref (g.2.2.2 b), .int x1, .int x2] st o st := by
  refine sn_Mi.of (cc := cX6_neighbour) (nL := 3) (ret := (some .int)) hi (by decide) rfl (Nat.le_of_ble_eq_true rfl) ?_
  intro p e s m args below meth c ls C hP hS hl
  have hl : lv_has ls 3 [(0, .ref (g.2.2.2 b)), (1, .int x1), (2, .int x2)] := hl
  obtain ⟨⟨hx, hb, hml, hown, hts⟩, hr, hlk, hC, hi⟩ := id C
  unfold D_X6_neighbour at hd
  refine lv_aload_n hx hb dX6_neighbour_0 rfl (lv_at hl 0 rfl) ?_
  refine lv_iload_n hx hb dX6_neighbour_1 rfl (lv_at hl 1 rfl) ?_
  obtain ⟨r1, hr1, hd⟩ := Option.bind_eq_some_iff.mp hd
  refine sn_Vi (b := b) (rest := []) (As := [.int x1]) (st := st) C (c_X6_isNode hi hT hr1) (cwV 1 hts gX6_neighbour_X6_isNode rfl rfl rfl (by decide +kernel) ⟨Nat.le_of_ble_eq_true rfl, Nat.le_of_ble_eq_true rfl⟩) hP hS (sn_l0 hT.1 (by decide)) hT.2.1 rfl rfl hl.1 rfl (Nat.le_of_ble_eq_true rfl) dX6_neighbour_2 (fun H locs hP hS => ?_)
  refine lv_if_eq (tgt := 17) hx hb dX6_neighbour_5 (by decide) (fun hc => ?_) (fun hc => ?_)
  · replace hd := (if_pos hc).symm.trans hd
    refine lv_bipush (v := (-101 : Int32)) hx hb dX6_neighbour_17 (by decide) ?_
    have ho := Option.some.inj hd
    subst ho
    exact sn_ri C hP hS dX6_neighbour_19
  · replace hd := (if_neg hc).symm.trans hd
    refine lv_aload_n hx hb dX6_neighbour_8 rfl (lv_at hl 0 rfl) ?_
    refine lv_iload_n hx hb dX6_neighbour_9 rfl (lv_at hl 1 rfl) ?_
    refine lv_iload_n hx hb dX6_neighbour_10 rfl (lv_at hl 2 rfl) ?_
    obtain ⟨r2, hr2, hd⟩ := Option.bind_eq_some_iff.mp hd
    refine sn_Vi (b := b) (rest := []) (As := [.int x1, .int x2]) (st := st) C (c_X6_neighbourOf hi hT hr2) (cwV 2 hts gX6_neighbour_X6_neighbourOf rfl rfl rfl (by decide +kernel) ⟨Nat.le_of_ble_eq_true rfl, Nat.le_of_ble_eq_true rfl⟩) hP hS (sn_l0 hT.1 (by decide)) hT.2.1 rfl rfl hl.1 rfl (Nat.le_of_ble_eq_true rfl) dX6_neighbour_11 (fun H locs hP hS => ?_)
    refine lv_goto (tgt := 19) hx hb dX6_neighbour_14 (by decide) ?_
    have ho := Option.some.inj hd
    subst ho
    exact sn_ri C hP hS dX6_neighbour_19

set_option maxHeartbeats 4000000 in
set_option maxRecDepth 100000 in
theorem t_X6_child_L16 {p : Program} {l : Launch} {e : Env} {s : State} {m : MethodId} {args : Array Value} {below : List Frame} {meth : Method} {c : Code} {g : sn_G} {tb : Nat → sn_K} {N : Nat} {b : Nat} {x1 : Int32} {x2 : Int32} {st : sn_S} {o : Int32} (C : sn_Cx p s m args meth c g N cX6_child 5 wsX6_child yX6_child.cls (some .int)) (hT : sn_Mo tb N b)  : ∀ (n : Nat) (x3 : Int32) (x4 : Int32) (H : Heap) (locs : List Loc) (ls : Array Slot), D_X6_child_L16 b x1 x2 st n x3 x4 = some o → va_P g.1 vwCl (sn_W g tb N st) H → va_S (sn_A g N) s.heap H locs → lv_has ls 5 [(0, .ref (g.2.2.2 b)), (1, .int x1), (2, .int x2), (3, .int x3), (4, .int x4)] → W p l e { frames := 6, cells := 0, slots := 0, locals := 130 } s m args below meth c H locs 0 0 (MQ below (sn_Qi g tb N o st) args s 0 0 (sn_A g N)) (F0 m 16 ls []) := by
  obtain ⟨⟨hx, hb, hml, hown, hts⟩, hr, hlk, hC, hi⟩ := id C
  have hinX6 : ∀ w ∈ wsX60, w ∈ wsX6_child := by decide +kernel
  intro n
  induction n with
  | zero => intro _ _ _ _ _ hd; exact nomatch (show (none : Option (Int32)) = some o from hd)
  | succ n ih =>
    intro x3 x4 H locs ls hd hP hS hl
    replace hd := (D_X6_child_L16.eq_2 _ _ _ _ _ _ _).symm.trans hd
    refine lv_iload hx hb dX6_child_16 (lv_at hl 4 rfl) ?_
    refine lv_aload_n hx hb dX6_child_18 rfl (lv_at hl 0 rfl) ?_
    refine sn_get (ci := 5) (Cn := RX6) (T := TX6) (n := 6) (v := .ref (g.2.2.2 (b + 1))) C hinX6 hP b (sn_l0 hT.1 (by decide)) hT.2.1 rfl 0 (by decide) (by decide +kernel) rfl rfl dX6_child_19 ?_
    refine lv_sipush (v := (360 : Int32)) hx hb dX6_child_22 (by decide) ?_
    refine sn_aldc (k := 360) C hP (b + 1) (sn_l hT.1 (by decide)) hT.2.2.1 (by decide +kernel) dX6_child_25 ?_
    refine lv_icmp_ge (tgt := 56) hx hb dX6_child_26 (by decide) (fun hc => ?_) (fun hc => ?_)
    · replace hd := (if_pos hc).symm.trans hd
      refine lv_iconst (v := (-1 : Int32)) hx hb dX6_child_56 (by decide) ?_
      have ho := Option.some.inj hd
      subst ho
      exact sn_ri C hP hS dX6_child_57
    · replace hd := (if_neg hc).symm.trans hd
      refine lv_aload_n hx hb dX6_child_29 rfl (lv_at hl 0 rfl) ?_
      refine lv_iload_n hx hb dX6_child_30 rfl (lv_at hl 1 rfl) ?_
      refine lv_iload hx hb dX6_child_31 (lv_at hl 4 rfl) ?_
      obtain ⟨r2, hr2, hd⟩ := Option.bind_eq_some_iff.mp hd
      refine sn_Vi (b := b) (rest := []) (As := [.int x1, .int x4]) (st := st) C (c_X6_isChild hi hT hr2) (cwV 2 hts gX6_child_X6_isChild rfl rfl rfl (by decide +kernel) ⟨Nat.le_of_ble_eq_true rfl, Nat.le_of_ble_eq_true rfl⟩) hP hS (sn_l0 hT.1 (by decide)) hT.2.1 rfl rfl hl.1 rfl (Nat.le_of_ble_eq_true rfl) dX6_child_33 (fun H locs hP hS => ?_)
      refine lv_if_eq (tgt := 50) hx hb dX6_child_36 (by decide) (fun hc => ?_) (fun hc => ?_)
      · replace hd := (if_pos hc).symm.trans hd
        refine lv_iinc (v := (x4 + (1 : Int32))) (lv' := [(4, .int (x4 + (1 : Int32))), (0, .ref (g.2.2.2 b)), (1, .int x1), (2, .int x2), (3, .int x3)]) hx hb dX6_child_50 hl (k := 4) rfl rfl (by decide) rfl (fun ls hl => ?_)
        refine lv_goto (tgt := 16) hx hb dX6_child_53 (by decide) ?_
        exact ih x3 (x4 + (1 : Int32)) _ _ _ hd hP hS (lv_sub hl [1, 2, 3, 4, 0] rfl)
      · replace hd := (if_neg hc).symm.trans hd
        refine lv_iload_n hx hb dX6_child_39 rfl (lv_at hl 3 rfl) ?_
        refine lv_iload_n hx hb dX6_child_40 rfl (lv_at hl 2 rfl) ?_
        refine lv_icmp_ne (tgt := 47) hx hb dX6_child_41 (by decide) (fun hc => ?_) (fun hc => ?_)
        · replace hd := (if_neg hc).symm.trans hd
          refine lv_iinc (v := (x3 + (1 : Int32))) (lv' := [(3, .int (x3 + (1 : Int32))), (0, .ref (g.2.2.2 b)), (1, .int x1), (2, .int x2), (4, .int x4)]) hx hb dX6_child_47 hl (k := 3) rfl rfl (by decide) rfl (fun ls hl => ?_)
          refine lv_iinc (v := (x4 + (1 : Int32))) (lv' := [(4, .int (x4 + (1 : Int32))), (3, .int (x3 + (1 : Int32))), (0, .ref (g.2.2.2 b)), (1, .int x1), (2, .int x2)]) hx hb dX6_child_50 hl (k := 4) rfl rfl (by decide) rfl (fun ls hl => ?_)
          refine lv_goto (tgt := 16) hx hb dX6_child_53 (by decide) ?_
          exact ih (x3 + (1 : Int32)) (x4 + (1 : Int32)) _ _ _ hd hP hS (lv_sub hl [2, 3, 4, 1, 0] rfl)
        · replace hd := (if_pos hc).symm.trans hd
          refine lv_iload hx hb dX6_child_44 (lv_at hl 4 rfl) ?_
          have ho := Option.some.inj hd
          subst ho
          exact sn_ri C hP hS dX6_child_46

set_option maxHeartbeats 4000000 in
set_option maxRecDepth 100000 in
theorem c_X6_child {l : Launch} {g : sn_G} {tb : Nat → sn_K} {N : Nat} (hi : sn_I g N) {b : Nat} {x1 : Int32} {x2 : Int32} (hT : sn_Mo tb N b) {st : sn_S} {o : Int32} (hd : D_X6_child b x1 x2 st = some o) : sn_Mi l yX6_child wsX6_child { frames := 6, cells := 0, slots := 0, locals := 130 } g tb N [.ref (g.2.2.2 b), .int x1, .int x2] st o st := by
  refine sn_Mi.of (cc := cX6_child) (nL := 5) (ret := (some .int)) hi (by decide) rfl (Nat.le_of_ble_eq_true rfl) ?_
  intro p e s m args below meth c ls C hP hS hl
  have hl : lv_has ls 5 [(0, .ref (g.2.2.2 b)), (1, .int x1), (2, .int x2)] := hl
  obtain ⟨⟨hx, hb, hml, hown, hts⟩, hr, hlk, hC, hi⟩ := id C
  unfold D_X6_child at hd
  have hinX6 : ∀ w ∈ wsX60, w ∈ wsX6_child := by decide +kernel
  refine lv_aload_n hx hb dX6_child_0 rfl (lv_at hl 0 rfl) ?_
  refine lv_iload_n hx hb dX6_child_1 rfl (lv_at hl 1 rfl) ?_
  obtain ⟨r1, hr1, hd⟩ := Option.bind_eq_some_iff.mp hd
  refine sn_Vi (b := b) (rest := []) (As := [.int x1]) (st := st) C (c_X6_isNode hi hT hr1) (cwV 1 hts gX6_child_X6_isNode rfl rfl rfl (by decide +kernel) ⟨Nat.le_of_ble_eq_true rfl, Nat.le_of_ble_eq_true rfl⟩) hP hS (sn_l0 hT.1 (by decide)) hT.2.1 rfl rfl hl.1 rfl (Nat.le_of_ble_eq_true rfl) dX6_child_2 (fun H locs hP hS => ?_)
  refine lv_if_ne (tgt := 11) hx hb dX6_child_5 (by decide) (fun hc => ?_) (fun hc => ?_)
  · replace hd := (if_neg hc).symm.trans hd
    refine lv_iconst (v := (0 : Int32)) hx hb dX6_child_11 (by decide) ?_
    refine lv_istore_n (lv' := [(3, .int (0 : Int32)), (0, .ref (g.2.2.2 b)), (1, .int x1), (2, .int x2)]) hx hb dX6_child_12 rfl hl (by decide) rfl (fun ls hl => ?_)
    refine lv_iconst (v := (0 : Int32)) hx hb dX6_child_13 (by decide) ?_
    refine lv_istore (lv' := [(4, .int (0 : Int32)), (3, .int (0 : Int32)), (0, .ref (g.2.2.2 b)), (1, .int x1), (2, .int x2)]) hx hb dX6_child_14 hl (by decide) rfl (fun ls hl => ?_)
    exact t_X6_child_L16 (st := st) C hT 4096 (0 : Int32) (0 : Int32) _ _ _ hd hP hS (lv_sub hl [2, 3, 4, 1, 0] rfl)
  · replace hd := (if_pos hc).symm.trans hd
    refine lv_bipush (v := (-101 : Int32)) hx hb dX6_child_8 (by decide) ?_
    have ho := Option.some.inj hd
    subst ho
    exact sn_ri C hP hS dX6_child_10

set_option maxHeartbeats 4000000 in
set_option maxRecDepth 100000 in
theorem c_X6_enabled {l : Launch} {g : sn_G} {tb : Nat → sn_K} {N : Nat} (hi : sn_I g N) {b : Nat} {x1 : Int32} (hT : sn_Mo tb N b) {st : sn_S} {o : Int32} (hd : D_X6_enabled b x1 st = some o) : sn_Mi l yX6_enabled wsX6_enabled { frames := 11, cells := 0, slots := 0, locals := 243 } g tb N [.ref (g.2.2.2 b), .int x1] st o st := by
  refine sn_Mi.of (cc := cX6_enabled) (nL := 2) (ret := (some .int)) hi (by decide) rfl (Nat.le_of_ble_eq_true rfl) ?_
  intro p e s m args below meth c ls C hP hS hl
  have hl : lv_has ls 2 [(0, .ref (g.2.2.2 b)), (1, .int x1)] := hl
  obtain ⟨⟨hx, hb, hml, hown, hts⟩, hr, hlk, hC, hi⟩ := id C
  unfold D_X6_enabled at hd
  have hinX6 : ∀ w ∈ wsX60, w ∈ wsX6_enabled := by decide +kernel
  refine lv_aload_n hx hb dX6_enabled_0 rfl (lv_at hl 0 rfl) ?_
  refine lv_iload_n hx hb dX6_enabled_1 rfl (lv_at hl 1 rfl) ?_
  obtain ⟨r1, hr1, hd⟩ := Option.bind_eq_some_iff.mp hd
  refine sn_Vi (b := b) (rest := []) (As := [.int x1]) (st := st) C (c_X6_isNode hi hT hr1) (cwV 1 hts gX6_enabled_X6_isNode rfl rfl rfl (by decide +kernel) ⟨Nat.le_of_ble_eq_true rfl, Nat.le_of_ble_eq_true rfl⟩) hP hS (sn_l0 hT.1 (by decide)) hT.2.1 rfl rfl hl.1 rfl (Nat.le_of_ble_eq_true rfl) dX6_enabled_2 (fun H locs hP hS => ?_)
  refine lv_if_ne (tgt := 11) hx hb dX6_enabled_5 (by decide) (fun hc => ?_) (fun hc => ?_)
  · replace hd := (if_neg hc).symm.trans hd
    refine lv_aload_n hx hb dX6_enabled_11 rfl (lv_at hl 0 rfl) ?_
    refine sn_get (ci := 5) (Cn := RX6) (T := TX6) (n := 6) (v := .ref (g.2.2.2 (b + 1))) C hinX6 hP b (sn_l0 hT.1 (by decide)) hT.2.1 rfl 0 (by decide) (by decide +kernel) rfl rfl dX6_enabled_12 ?_
    refine lv_sipush (v := (361 : Int32)) hx hb dX6_enabled_15 (by decide) ?_
    refine sn_aldc (k := 361) C hP (b + 1) (sn_l hT.1 (by decide)) hT.2.2.1 (by decide +kernel) dX6_enabled_18 ?_
    refine lv_iconst (v := (1 : Int32)) hx hb dX6_enabled_19 (by decide) ?_
    refine lv_icmp_ne (tgt := 31) hx hb dX6_enabled_20 (by decide) (fun hc => ?_) (fun hc => ?_)
    · replace hd := (if_neg hc).symm.trans hd
      refine lv_bipush (v := (-103 : Int32)) hx hb dX6_enabled_31 (by decide) ?_
      have ho := Option.some.inj hd
      subst ho
      exact sn_ri C hP hS dX6_enabled_33
    · replace hd := (if_pos hc).symm.trans hd
      refine lv_aload_n hx hb dX6_enabled_23 rfl (lv_at hl 0 rfl) ?_
      refine lv_iload_n hx hb dX6_enabled_24 rfl (lv_at hl 1 rfl) ?_
      obtain ⟨r2, hr2, hd⟩ := Option.bind_eq_some_iff.mp hd
      refine sn_Vi (b := b) (rest := []) (As := [.int x1]) (st := st) C (c_X6_ruleOf hi hT hr2) (cwV 1 hts gX6_enabled_X6_ruleOf rfl rfl rfl (by decide +kernel) ⟨Nat.le_of_ble_eq_true rfl, Nat.le_of_ble_eq_true rfl⟩) hP hS (sn_l0 hT.1 (by decide)) hT.2.1 rfl rfl hl.1 rfl (Nat.le_of_ble_eq_true rfl) dX6_enabled_25 (fun H locs hP hS => ?_)
      refine lv_goto (tgt := 33) hx hb dX6_enabled_28 (by decide) ?_
      have ho := Option.some.inj hd
      subst ho
      exact sn_ri C hP hS dX6_enabled_33
  · replace hd := (if_pos hc).symm.trans hd
    refine lv_bipush (v := (-101 : Int32)) hx hb dX6_enabled_8 (by decide) ?_
    have ho := Option.some.inj hd
    subst ho
    exact sn_ri C hP hS dX6_enabled_10

set_option maxHeartbeats 4000000 in
set_option maxRecDepth 100000 in
theorem t_X6_rights_L30 {p : Program} {l : Launch} {e : Env} {s : State} {m : MethodId} {args : Array Value} {below : List Frame} {meth : Method} {c : Code} {g : sn_G} {tb : Nat → sn_K} {N : Nat} {b : Nat} {x2 : Int32} {st : sn_S} {K : Int32 → Int32 → Option (Int32)} {o : Int32} (C : sn_Cx p s m args meth c g N cX6_rights 4 wsX6_rights yX6_rights.cls (some .int)) (hT : sn_Mo tb N b)  (hK : ∀ (x1 : Int32) (x2 : Int32) (H : Heap) (locs : List Loc) (ls : Array Slot), K x1 x2 = some o → va_P g.1 vwCl (sn_W g tb N st) H → va_S (sn_A g N) s.heap H locs → lv_has ls 4 [(0, .ref (g.2.2.2 b)), (1, .int x1), (2, .int x2)] → W p l e { frames := 9, cells := 0, slots := 0, locals := 200 } s m args below meth c H locs 0 0 (MQ below (sn_Qi g tb N o st) args s 0 0 (sn_A g N)) (F0 m 4 ls [])) : ∀ (n : Nat) (x1 : Int32) (x3 : Int32) (H : Heap) (locs : List Loc) (ls : Array Slot), D_X6_rights_L30 b x2 st K n x1 x3 = some o → va_P g.1 vwCl (sn_W g tb N st) H → va_S (sn_A g N) s.heap H locs → lv_has ls 4 [(0, .ref (g.2.2.2 b)), (1, .int x1), (2, .int x2), (3, .int x3)] → W p l e { frames := 9, cells := 0, slots := 0, locals := 200 } s m args below meth c H locs 0 0 (MQ below (sn_Qi g tb N o st) args s 0 0 (sn_A g N)) (F0 m 30 ls []) := by
  obtain ⟨⟨hx, hb, hml, hown, hts⟩, hr, hlk, hC, hi⟩ := id C
  have hinX6 : ∀ w ∈ wsX60, w ∈ wsX6_rights := by decide +kernel
  intro n
  induction n with
  | zero => intro _ _ _ _ _ hd; exact nomatch (show (none : Option (Int32)) = some o from hd)
  | succ n ih =>
    intro x1 x3 H locs ls hd hP hS hl
    replace hd := (D_X6_rights_L30.eq_2 _ _ _ _ _ _ _).symm.trans hd
    refine lv_iload_n hx hb dX6_rights_30 rfl (lv_at hl 3 rfl) ?_
    refine lv_aload_n hx hb dX6_rights_31 rfl (lv_at hl 0 rfl) ?_
    refine sn_get (ci := 5) (Cn := RX6) (T := TX6) (n := 6) (v := .ref (g.2.2.2 (b + 1))) C hinX6 hP b (sn_l0 hT.1 (by decide)) hT.2.1 rfl 0 (by decide) (by decide +kernel) rfl rfl dX6_rights_32 ?_
    refine lv_sipush (v := (360 : Int32)) hx hb dX6_rights_35 (by decide) ?_
    refine sn_aldc (k := 360) C hP (b + 1) (sn_l hT.1 (by decide)) hT.2.2.1 (by decide +kernel) dX6_rights_38 ?_
    refine lv_icmp_ge (tgt := 74) hx hb dX6_rights_39 (by decide) (fun hc => ?_) (fun hc => ?_)
    · replace hd := (if_pos hc).symm.trans hd
      refine lv_iinc (v := (x2 + (1 : Int32))) (lv' := [(2, .int (x2 + (1 : Int32))), (0, .ref (g.2.2.2 b)), (1, .int x1), (3, .int x3)]) hx hb dX6_rights_74 hl (k := 2) rfl rfl (by decide) rfl (fun ls hl => ?_)
      refine lv_goto (tgt := 4) hx hb dX6_rights_77 (by decide) ?_
      exact hK x1 (x2 + (1 : Int32)) _ _ _ hd hP hS (lv_sub hl [1, 2, 0] rfl)
    · replace hd := (if_neg hc).symm.trans hd
      refine lv_iload_n hx hb dX6_rights_42 rfl (lv_at hl 1 rfl) ?_
      refine lv_aload_n hx hb dX6_rights_43 rfl (lv_at hl 0 rfl) ?_
      refine lv_iload_n hx hb dX6_rights_44 rfl (lv_at hl 2 rfl) ?_
      refine lv_iload_n hx hb dX6_rights_45 rfl (lv_at hl 3 rfl) ?_
      obtain ⟨r1, hr1, hd⟩ := Option.bind_eq_some_iff.mp hd
      refine sn_Vi (b := b) (rest := [.int x1]) (As := [.int x2, .int x3]) (st := st) C (c_X6_isTie hi hT hr1) (cwV 2 hts gX6_rights_X6_isTie rfl rfl rfl (by decide +kernel) ⟨Nat.le_of_ble_eq_true rfl, Nat.le_of_ble_eq_true rfl⟩) hP hS (sn_l0 hT.1 (by decide)) hT.2.1 rfl rfl hl.1 rfl (Nat.le_of_ble_eq_true rfl) dX6_rights_46 (fun H locs hP hS => ?_)
      refine lv_if_eq (tgt := 65) hx hb dX6_rights_49 (by decide) (fun hc => ?_) (fun hc => ?_)
      · replace hd := (if_pos hc).symm.trans hd
        refine lv_iconst (v := (0 : Int32)) hx hb dX6_rights_65 (by decide) ?_
        refine lv_iadd hx hb dX6_rights_66 ?_
        refine lv_istore_n (lv' := [(1, .int (x1 + (0 : Int32))), (0, .ref (g.2.2.2 b)), (2, .int x2), (3, .int x3)]) hx hb dX6_rights_67 rfl hl (by decide) rfl (fun ls hl => ?_)
        refine lv_iinc (v := (x3 + (1 : Int32))) (lv' := [(3, .int (x3 + (1 : Int32))), (1, .int (x1 + (0 : Int32))), (0, .ref (g.2.2.2 b)), (2, .int x2)]) hx hb dX6_rights_68 hl (k := 3) rfl rfl (by decide) rfl (fun ls hl => ?_)
        refine lv_goto (tgt := 30) hx hb dX6_rights_71 (by decide) ?_
        exact ih (x1 + (0 : Int32)) (x3 + (1 : Int32)) _ _ _ hd hP hS (lv_sub hl [2, 1, 3, 0] rfl)
      · replace hd := (if_neg hc).symm.trans hd
        refine lv_aload_n hx hb dX6_rights_52 rfl (lv_at hl 0 rfl) ?_
        refine lv_iload_n hx hb dX6_rights_53 rfl (lv_at hl 2 rfl) ?_
        refine lv_iload_n hx hb dX6_rights_54 rfl (lv_at hl 3 rfl) ?_
        obtain ⟨r2, hr2, hd⟩ := Option.bind_eq_some_iff.mp hd
        refine sn_Vi (b := b) (rest := [.int x1]) (As := [.int x2, .int x3]) (st := st) C (c_X6_hasRight hi hT hr2) (cwV 2 hts gX6_rights_X6_hasRight rfl rfl rfl (by decide +kernel) ⟨Nat.le_of_ble_eq_true rfl, Nat.le_of_ble_eq_true rfl⟩) hP hS (sn_l0 hT.1 (by decide)) hT.2.1 rfl rfl hl.1 rfl (Nat.le_of_ble_eq_true rfl) dX6_rights_55 (fun H locs hP hS => ?_)
        refine lv_if_eq (tgt := 65) hx hb dX6_rights_58 (by decide) (fun hc => ?_) (fun hc => ?_)
        · replace hd := (if_pos hc).symm.trans hd
          refine lv_iconst (v := (0 : Int32)) hx hb dX6_rights_65 (by decide) ?_
          refine lv_iadd hx hb dX6_rights_66 ?_
          refine lv_istore_n (lv' := [(1, .int (x1 + (0 : Int32))), (0, .ref (g.2.2.2 b)), (2, .int x2), (3, .int x3)]) hx hb dX6_rights_67 rfl hl (by decide) rfl (fun ls hl => ?_)
          refine lv_iinc (v := (x3 + (1 : Int32))) (lv' := [(3, .int (x3 + (1 : Int32))), (1, .int (x1 + (0 : Int32))), (0, .ref (g.2.2.2 b)), (2, .int x2)]) hx hb dX6_rights_68 hl (k := 3) rfl rfl (by decide) rfl (fun ls hl => ?_)
          refine lv_goto (tgt := 30) hx hb dX6_rights_71 (by decide) ?_
          exact ih (x1 + (0 : Int32)) (x3 + (1 : Int32)) _ _ _ hd hP hS (lv_sub hl [2, 1, 3, 0] rfl)
        · replace hd := (if_neg hc).symm.trans hd
          refine lv_iconst (v := (1 : Int32)) hx hb dX6_rights_61 (by decide) ?_
          refine lv_goto (tgt := 66) hx hb dX6_rights_62 (by decide) ?_
          refine lv_iadd hx hb dX6_rights_66 ?_
          refine lv_istore_n (lv' := [(1, .int (x1 + (1 : Int32))), (0, .ref (g.2.2.2 b)), (2, .int x2), (3, .int x3)]) hx hb dX6_rights_67 rfl hl (by decide) rfl (fun ls hl => ?_)
          refine lv_iinc (v := (x3 + (1 : Int32))) (lv' := [(3, .int (x3 + (1 : Int32))), (1, .int (x1 + (1 : Int32))), (0, .ref (g.2.2.2 b)), (2, .int x2)]) hx hb dX6_rights_68 hl (k := 3) rfl rfl (by decide) rfl (fun ls hl => ?_)
          refine lv_goto (tgt := 30) hx hb dX6_rights_71 (by decide) ?_
          exact ih (x1 + (1 : Int32)) (x3 + (1 : Int32)) _ _ _ hd hP hS (lv_sub hl [2, 1, 3, 0] rfl)

set_option maxHeartbeats 4000000 in
set_option maxRecDepth 100000 in
theorem t_X6_rights_L4 {p : Program} {l : Launch} {e : Env} {s : State} {m : MethodId} {args : Array Value} {below : List Frame} {meth : Method} {c : Code} {g : sn_G} {tb : Nat → sn_K} {N : Nat} {b : Nat} {st : sn_S} {o : Int32} (C : sn_Cx p s m args meth c g N cX6_rights 4 wsX6_rights yX6_rights.cls (some .int)) (hT : sn_Mo tb N b)  : ∀ (n : Nat) (x1 : Int32) (x2 : Int32) (H : Heap) (locs : List Loc) (ls : Array Slot), D_X6_rights_L4 b st n x1 x2 = some o → va_P g.1 vwCl (sn_W g tb N st) H → va_S (sn_A g N) s.heap H locs → lv_has ls 4 [(0, .ref (g.2.2.2 b)), (1, .int x1), (2, .int x2)] → W p l e { frames := 9, cells := 0, slots := 0, locals := 200 } s m args below meth c H locs 0 0 (MQ below (sn_Qi g tb N o st) args s 0 0 (sn_A g N)) (F0 m 4 ls []) := by
  obtain ⟨⟨hx, hb, hml, hown, hts⟩, hr, hlk, hC, hi⟩ := id C
  have hinX6 : ∀ w ∈ wsX60, w ∈ wsX6_rights := by decide +kernel
  intro n
  induction n with
  | zero => intro _ _ _ _ _ hd; exact nomatch (show (none : Option (Int32)) = some o from hd)
  | succ n ih =>
    intro x1 x2 H locs ls hd hP hS hl
    replace hd := (D_X6_rights_L4.eq_2 _ _ _ _ _).symm.trans hd
    refine lv_iload_n hx hb dX6_rights_4 rfl (lv_at hl 2 rfl) ?_
    refine lv_aload_n hx hb dX6_rights_5 rfl (lv_at hl 0 rfl) ?_
    refine sn_get (ci := 5) (Cn := RX6) (T := TX6) (n := 6) (v := .ref (g.2.2.2 (b + 1))) C hinX6 hP b (sn_l0 hT.1 (by decide)) hT.2.1 rfl 0 (by decide) (by decide +kernel) rfl rfl dX6_rights_6 ?_
    refine lv_sipush (v := (360 : Int32)) hx hb dX6_rights_9 (by decide) ?_
    refine sn_aldc (k := 360) C hP (b + 1) (sn_l hT.1 (by decide)) hT.2.2.1 (by decide +kernel) dX6_rights_12 ?_
    refine lv_icmp_ge (tgt := 80) hx hb dX6_rights_13 (by decide) (fun hc => ?_) (fun hc => ?_)
    · replace hd := (if_pos hc).symm.trans hd
      refine lv_iload_n hx hb dX6_rights_80 rfl (lv_at hl 1 rfl) ?_
      have ho := Option.some.inj hd
      subst ho
      exact sn_ri C hP hS dX6_rights_81
    · replace hd := (if_neg hc).symm.trans hd
      refine lv_aload_n hx hb dX6_rights_16 rfl (lv_at hl 0 rfl) ?_
      refine sn_get (ci := 5) (Cn := RX6) (T := TX6) (n := 6) (v := .ref (g.2.2.2 (b + 1))) C hinX6 hP b (sn_l0 hT.1 (by decide)) hT.2.1 rfl 0 (by decide) (by decide +kernel) rfl rfl dX6_rights_17 ?_
      refine lv_sipush (v := (361 : Int32)) hx hb dX6_rights_20 (by decide) ?_
      refine sn_aldc (k := 361) C hP (b + 1) (sn_l hT.1 (by decide)) hT.2.2.1 (by decide +kernel) dX6_rights_23 ?_
      refine lv_iconst (v := (1 : Int32)) hx hb dX6_rights_24 (by decide) ?_
      refine lv_icmp_ne (tgt := 80) hx hb dX6_rights_25 (by decide) (fun hc => ?_) (fun hc => ?_)
      · replace hd := (if_neg hc).symm.trans hd
        refine lv_iload_n hx hb dX6_rights_80 rfl (lv_at hl 1 rfl) ?_
        have ho := Option.some.inj hd
        subst ho
        exact sn_ri C hP hS dX6_rights_81
      · replace hd := (if_pos hc).symm.trans hd
        refine lv_iconst (v := (0 : Int32)) hx hb dX6_rights_28 (by decide) ?_
        refine lv_istore_n (lv' := [(3, .int (0 : Int32)), (0, .ref (g.2.2.2 b)), (1, .int x1), (2, .int x2)]) hx hb dX6_rights_29 rfl hl (by decide) rfl (fun ls hl => ?_)
        exact t_X6_rights_L30 (st := st) C hT ih 4096 x1 (0 : Int32) _ _ _ hd hP hS (lv_sub hl [1, 2, 3, 0] rfl)

set_option maxHeartbeats 4000000 in
set_option maxRecDepth 100000 in
theorem c_X6_rights {l : Launch} {g : sn_G} {tb : Nat → sn_K} {N : Nat} (hi : sn_I g N) {b : Nat} (hT : sn_Mo tb N b) {st : sn_S} {o : Int32} (hd : D_X6_rights b st = some o) : sn_Mi l yX6_rights wsX6_rights { frames := 9, cells := 0, slots := 0, locals := 200 } g tb N [.ref (g.2.2.2 b)] st o st := by
  refine sn_Mi.of (cc := cX6_rights) (nL := 4) (ret := (some .int)) hi (by decide) rfl (Nat.le_of_ble_eq_true rfl) ?_
  intro p e s m args below meth c ls C hP hS hl
  have hl : lv_has ls 4 [(0, .ref (g.2.2.2 b))] := hl
  obtain ⟨⟨hx, hb, hml, hown, hts⟩, hr, hlk, hC, hi⟩ := id C
  unfold D_X6_rights at hd
  have hinX6 : ∀ w ∈ wsX60, w ∈ wsX6_rights := by decide +kernel
  refine lv_iconst (v := (0 : Int32)) hx hb dX6_rights_0 (by decide) ?_
  refine lv_istore_n (lv' := [(1, .int (0 : Int32)), (0, .ref (g.2.2.2 b))]) hx hb dX6_rights_1 rfl hl (by decide) rfl (fun ls hl => ?_)
  refine lv_iconst (v := (0 : Int32)) hx hb dX6_rights_2 (by decide) ?_
  refine lv_istore_n (lv' := [(2, .int (0 : Int32)), (1, .int (0 : Int32)), (0, .ref (g.2.2.2 b))]) hx hb dX6_rights_3 rfl hl (by decide) rfl (fun ls hl => ?_)
  exact t_X6_rights_L4 (st := st) C hT 4096 (0 : Int32) (0 : Int32) _ _ _ hd hP hS (lv_sub hl [2, 1, 0] rfl)
