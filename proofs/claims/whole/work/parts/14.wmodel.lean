set_option maxHeartbeats 4000000 in
set_option maxRecDepth 100000 in
theorem t_X6_run_L42 {p : Program} {l : Launch} {e : Env} {s : State} {m : MethodId} {args : Array Value} {below : List Frame} {meth : Method} {c : Code} {g : sn_G} {tb : Nat → sn_K} {N : Nat} {b : Nat} {x1 : Int32} {x2 : Int32} {o : Int32 × sn_S} (C : sn_Cx p s m args meth c g N cX6_run 5 wsX6_run yX6_run.cls (some .int)) (hT : sn_Mo tb N b)  : ∀ (n : Nat) (x3 : Int32) (x4 : Int32) (st : sn_S) (H : Heap) (locs : List Loc) (ls : Array Slot), D_X6_run_L42 b x1 x2 n x3 x4 st = some o → va_P g.1 vwCl (sn_W g tb N st) H → va_S (sn_A g N) s.heap H locs → lv_has ls 5 [(0, .ref (g.2.2.2 b)), (1, .int x1), (2, .int x2), (3, .int x3), (4, .int x4)] → W p l e { frames := 15, cells := 0, slots := 0, locals := 332 } s m args below meth c H locs 0 0 (MQ below (sn_Qi g tb N o.1 o.2) args s 0 0 (sn_A g N)) (F0 m 42 ls []) := by
  obtain ⟨⟨hx, hb, hml, hown, hts⟩, hr, hlk, hC, hi⟩ := id C
  have hinX6 : ∀ w ∈ wsX60, w ∈ wsX6_run := by decide +kernel
  intro n
  induction n with
  | zero => intro _ _ _ _ _ _ hd; exact nomatch (show (none : Option (Int32 × sn_S)) = some o from hd)
  | succ n ih =>
    intro x3 x4 st H locs ls hd hP hS hl
    replace hd := (D_X6_run_L42.eq_2 _ _ _ _ _ _ _).symm.trans hd
    refine lv_iload hx hb dX6_run_42 (lv_at hl 4 rfl) ?_
    refine lv_iload_n hx hb dX6_run_44 rfl (lv_at hl 2 rfl) ?_
    refine lv_icmp_ge (tgt := 62) hx hb dX6_run_45 (by decide) (fun hc => ?_) (fun hc => ?_)
    · replace hd := (if_pos hc).symm.trans hd
      refine lv_iload_n hx hb dX6_run_62 rfl (lv_at hl 3 rfl) ?_
      have ho := Option.some.inj hd
      subst ho
      exact sn_ri C hP hS dX6_run_63
    · replace hd := (if_neg hc).symm.trans hd
      refine lv_iload_n hx hb dX6_run_48 rfl (lv_at hl 3 rfl) ?_
      refine lv_aload_n hx hb dX6_run_49 rfl (lv_at hl 0 rfl) ?_
      refine lv_iload_n hx hb dX6_run_50 rfl (lv_at hl 1 rfl) ?_
      obtain ⟨r3, hr3, hd⟩ := Option.bind_eq_some_iff.mp hd
      refine sn_Vi (b := b) (rest := [.int x3]) (As := [.int x1]) (st := st) C (c_X6_stepBy hi hT hr3) (cwV 1 hts gX6_run_X6_stepBy rfl rfl rfl (by decide +kernel) ⟨Nat.le_of_ble_eq_true rfl, Nat.le_of_ble_eq_true rfl⟩) hP hS (sn_l0 hT.1 (by decide)) hT.2.1 rfl rfl hl.1 rfl (Nat.le_of_ble_eq_true rfl) dX6_run_51 (fun H locs hP hS => ?_)
      refine lv_iadd hx hb dX6_run_54 ?_
      refine lv_istore_n (lv' := [(3, .int (x3 + r3.1)), (0, .ref (g.2.2.2 b)), (1, .int x1), (2, .int x2), (4, .int x4)]) hx hb dX6_run_55 rfl hl (by decide) rfl (fun ls hl => ?_)
      refine lv_iinc (v := (x4 + (1 : Int32))) (lv' := [(4, .int (x4 + (1 : Int32))), (3, .int (x3 + r3.1)), (0, .ref (g.2.2.2 b)), (1, .int x1), (2, .int x2)]) hx hb dX6_run_56 hl (k := 4) rfl rfl (by decide) rfl (fun ls hl => ?_)
      refine lv_goto (tgt := 42) hx hb dX6_run_59 (by decide) ?_
      exact ih (x3 + r3.1) (x4 + (1 : Int32)) r3.2 _ _ _ hd hP hS (lv_sub hl [2, 3, 4, 1, 0] rfl)

set_option maxHeartbeats 4000000 in
set_option maxRecDepth 100000 in
theorem c_X6_run {l : Launch} {g : sn_G} {tb : Nat → sn_K} {N : Nat} (hi : sn_I g N) {b : Nat} {x1 : Int32} {x2 : Int32} (hT : sn_Mo tb N b) {st : sn_S} {o : Int32 × sn_S} (hd : D_X6_run b x1 x2 st = some o) : sn_Mi l yX6_run wsX6_run { frames := 15, cells := 0, slots := 0, locals := 332 } g tb N [.ref (g.2.2.2 b), .int x1, .int x2] st o.1 o.2 := by
  refine sn_Mi.of (cc := cX6_run) (nL := 5) (ret := (some .int)) hi (by decide) rfl (Nat.le_of_ble_eq_true rfl) ?_
  intro p e s m args below meth c ls C hP hS hl
  have hl : lv_has ls 5 [(0, .ref (g.2.2.2 b)), (1, .int x1), (2, .int x2)] := hl
  obtain ⟨⟨hx, hb, hml, hown, hts⟩, hr, hlk, hC, hi⟩ := id C
  unfold D_X6_run at hd
  have hinX6 : ∀ w ∈ wsX60, w ∈ wsX6_run := by decide +kernel
  refine lv_iload_n hx hb dX6_run_0 rfl (lv_at hl 1 rfl) ?_
  refine lv_iconst (v := (0 : Int32)) hx hb dX6_run_1 (by decide) ?_
  refine lv_iconst (v := (4 : Int32)) hx hb dX6_run_2 (by decide) ?_
  obtain ⟨r1, hr1, hd⟩ := Option.bind_eq_some_iff.mp hd
  refine sn_Si (rest := []) (As := [.int x1, .int (0 : Int32), .int (4 : Int32)]) (st := st) C (c_X6_in hi  hr1) (va_cwS 3 hts gX6_run_X6_in rfl rfl rfl (by decide +kernel) ⟨Nat.le_of_ble_eq_true rfl, Nat.le_of_ble_eq_true rfl⟩) hP hS rfl hl.1 rfl (Nat.le_of_ble_eq_true rfl) dX6_run_3 (fun H locs hP hS => ?_)
  refine lv_if_eq (tgt := 20) hx hb dX6_run_6 (by decide) (fun hc => ?_) (fun hc => ?_)
  · replace hd := (if_pos hc).symm.trans hd
    refine lv_bipush (v := (-102 : Int32)) hx hb dX6_run_20 (by decide) ?_
    have ho := Option.some.inj hd
    subst ho
    exact sn_ri C hP hS dX6_run_22
  · replace hd := (if_neg hc).symm.trans hd
    refine lv_iload_n hx hb dX6_run_9 rfl (lv_at hl 2 rfl) ?_
    refine lv_iconst (v := (0 : Int32)) hx hb dX6_run_10 (by decide) ?_
    refine lv_sipush (v := (300 : Int32)) hx hb dX6_run_11 (by decide) ?_
    obtain ⟨r2, hr2, hd⟩ := Option.bind_eq_some_iff.mp hd
    refine sn_Si (rest := []) (As := [.int x2, .int (0 : Int32), .int (300 : Int32)]) (st := st) C (c_X6_in hi  hr2) (va_cwS 3 hts gX6_run_X6_in rfl rfl rfl (by decide +kernel) ⟨Nat.le_of_ble_eq_true rfl, Nat.le_of_ble_eq_true rfl⟩) hP hS rfl hl.1 rfl (Nat.le_of_ble_eq_true rfl) dX6_run_14 (fun H locs hP hS => ?_)
    refine lv_if_ne (tgt := 23) hx hb dX6_run_17 (by decide) (fun hc => ?_) (fun hc => ?_)
    · replace hd := (if_neg hc).symm.trans hd
      refine lv_aload_n hx hb dX6_run_23 rfl (lv_at hl 0 rfl) ?_
      refine sn_get (ci := 5) (Cn := RX6) (T := TX6) (n := 6) (v := .ref (g.2.2.2 (b + 1))) C hinX6 hP b (sn_l0 hT.1 (by decide)) hT.2.1 rfl 0 (by decide) (by decide +kernel) rfl rfl dX6_run_24 ?_
      refine lv_sipush (v := (361 : Int32)) hx hb dX6_run_27 (by decide) ?_
      refine sn_aldc (k := 361) C hP (b + 1) (sn_l hT.1 (by decide)) hT.2.2.1 (by decide +kernel) dX6_run_30 ?_
      refine lv_if_ne (tgt := 37) hx hb dX6_run_31 (by decide) (fun hc => ?_) (fun hc => ?_)
      · replace hd := (if_neg hc).symm.trans hd
        refine lv_iconst (v := (0 : Int32)) hx hb dX6_run_37 (by decide) ?_
        refine lv_istore_n (lv' := [(3, .int (0 : Int32)), (0, .ref (g.2.2.2 b)), (1, .int x1), (2, .int x2)]) hx hb dX6_run_38 rfl hl (by decide) rfl (fun ls hl => ?_)
        refine lv_iconst (v := (0 : Int32)) hx hb dX6_run_39 (by decide) ?_
        refine lv_istore (lv' := [(4, .int (0 : Int32)), (3, .int (0 : Int32)), (0, .ref (g.2.2.2 b)), (1, .int x1), (2, .int x2)]) hx hb dX6_run_40 hl (by decide) rfl (fun ls hl => ?_)
        exact t_X6_run_L42 C hT 4096 (0 : Int32) (0 : Int32) st _ _ _ hd hP hS (lv_sub hl [2, 3, 4, 1, 0] rfl)
      · replace hd := (if_pos hc).symm.trans hd
        refine lv_bipush (v := (-103 : Int32)) hx hb dX6_run_34 (by decide) ?_
        have ho := Option.some.inj hd
        subst ho
        exact sn_ri C hP hS dX6_run_36
    · replace hd := (if_pos hc).symm.trans hd
      refine lv_bipush (v := (-102 : Int32)) hx hb dX6_run_20 (by decide) ?_
      have ho := Option.some.inj hd
      subst ho
      exact sn_ri C hP hS dX6_run_22

set_option maxHeartbeats 4000000 in
set_option maxRecDepth 100000 in
theorem c_X6_dice {l : Launch} {g : sn_G} {tb : Nat → sn_K} {N : Nat} (hi : sn_I g N) {b : Nat} {x1 : Int32} (hT : sn_Mo tb N b) {st : sn_S} {o : Int32 × sn_S} (hd : D_X6_dice b x1 st = some o) : sn_Mi l yX6_dice wsX6_dice { frames := 0, cells := 0, slots := 0, locals := 0 } g tb N [.ref (g.2.2.2 b), .int x1] st o.1 o.2 := by
  refine sn_Mi.of (cc := cX6_dice) (nL := 3) (ret := (some .int)) hi (by decide) rfl (Nat.le_of_ble_eq_true rfl) ?_
  intro p e s m args below meth c ls C hP hS hl
  have hl : lv_has ls 3 [(0, .ref (g.2.2.2 b)), (1, .int x1)] := hl
  obtain ⟨⟨hx, hb, hml, hown, hts⟩, hr, hlk, hC, hi⟩ := id C
  unfold D_X6_dice at hd
  have hinX6 : ∀ w ∈ wsX60, w ∈ wsX6_dice := by decide +kernel
  refine lv_aload_n hx hb dX6_dice_0 rfl (lv_at hl 0 rfl) ?_
  refine sn_get (ci := 5) (Cn := RX6) (T := TX6) (n := 6) (v := .ref (g.2.2.2 (b + 1))) C hinX6 hP b (sn_l0 hT.1 (by decide)) hT.2.1 rfl 0 (by decide) (by decide +kernel) rfl rfl dX6_dice_1 ?_
  refine lv_sipush (v := (370 : Int32)) hx hb dX6_dice_4 (by decide) ?_
  refine sn_aldc (k := 370) C hP (b + 1) (sn_l hT.1 (by decide)) hT.2.2.1 (by decide +kernel) dX6_dice_7 ?_
  refine lv_istore_n (lv' := [(2, .int (st.1 (b + 1) 370)), (0, .ref (g.2.2.2 b)), (1, .int x1)]) hx hb dX6_dice_8 rfl hl (by decide) rfl (fun ls hl => ?_)
  refine lv_aload_n hx hb dX6_dice_9 rfl (lv_at hl 1 rfl) ?_
  refine sn_get (ci := 5) (Cn := RX6) (T := TX6) (n := 6) (v := .ref (g.2.2.2 (b + 1))) C hinX6 hP b (sn_l0 hT.1 (by decide)) hT.2.1 rfl 0 (by decide) (by decide +kernel) rfl rfl dX6_dice_10 ?_
  refine lv_sipush (v := (370 : Int32)) hx hb dX6_dice_13 (by decide) ?_
  refine lv_iload_n hx hb dX6_dice_16 rfl (lv_at hl 2 rfl) ?_
  refine sn_astc (k := 370) C hP hS (b + 1) (sn_l hT.1 (by decide)) hT.2.2.1 (by decide +kernel) dX6_dice_17 (fun H locs hP hS => ?_)
  refine lv_iload_n hx hb dX6_dice_18 rfl (lv_at hl 0 rfl) ?_
  have ho := Option.some.inj hd
  subst ho
  exact sn_ri C hP hS dX6_dice_19

set_option maxHeartbeats 4000000 in
set_option maxRecDepth 100000 in
theorem t_X6_isRest_L47 {p : Program} {l : Launch} {e : Env} {s : State} {m : MethodId} {args : Array Value} {below : List Frame} {meth : Method} {c : Code} {g : sn_G} {tb : Nat → sn_K} {N : Nat} {b : Nat} {x1 : Int32} {x2 : Int32} {st : sn_S} {K : Int32 → Int32 → Option (Int32 × sn_S)} {o : Int32 × sn_S} (C : sn_Cx p s m args meth c g N cX6_isRest 5 wsX6_isRest yX6_isRest.cls (some .boolean)) (hT : sn_Mo tb N b)  (hK : ∀ (x1 : Int32) (x2 : Int32) (H : Heap) (locs : List Loc) (ls : Array Slot), K x1 x2 = some o → va_P g.1 vwCl (sn_W g tb N st) H → va_S (sn_A g N) s.heap H locs → lv_has ls 5 [(0, .ref (g.2.2.2 b)), (1, .int x1), (2, .int x2)] → W p l e { frames := 10, cells := 0, slots := 0, locals := 223 } s m args below meth c H locs 0 0 (MQ below (sn_Qi g tb N o.1 o.2) args s 0 0 (sn_A g N)) (F0 m 21 ls [])) : ∀ (n : Nat) (x3 : Int32) (x4 : Int32) (H : Heap) (locs : List Loc) (ls : Array Slot), D_X6_isRest_L47 b x1 x2 st K n x3 x4 = some o → va_P g.1 vwCl (sn_W g tb N st) H → va_S (sn_A g N) s.heap H locs → lv_has ls 5 [(0, .ref (g.2.2.2 b)), (1, .int x1), (2, .int x2), (3, .int x3), (4, .int x4)] → W p l e { frames := 10, cells := 0, slots := 0, locals := 223 } s m args below meth c H locs 0 0 (MQ below (sn_Qi g tb N o.1 o.2) args s 0 0 (sn_A g N)) (F0 m 47 ls []) := by
  obtain ⟨⟨hx, hb, hml, hown, hts⟩, hr, hlk, hC, hi⟩ := id C
  have hinX6 : ∀ w ∈ wsX60, w ∈ wsX6_isRest := by decide +kernel
  intro n
  induction n with
  | zero => intro _ _ _ _ _ hd; exact nomatch (show (none : Option (Int32 × sn_S)) = some o from hd)
  | succ n ih =>
    intro x3 x4 H locs ls hd hP hS hl
    replace hd := (D_X6_isRest_L47.eq_2 _ _ _ _ _ _ _ _).symm.trans hd
    refine lv_iload hx hb dX6_isRest_47 (lv_at hl 4 rfl) ?_
    refine lv_if_lt (tgt := 91) hx hb dX6_isRest_49 (by decide) (fun hc => ?_) (fun hc => ?_)
    · replace hd := (if_pos hc).symm.trans hd
      refine lv_iload_n hx hb dX6_isRest_91 rfl (lv_at hl 1 rfl) ?_
      refine lv_if_eq (tgt := 138) hx hb dX6_isRest_92 (by decide) (fun hc => ?_) (fun hc => ?_)
      · replace hd := (if_pos hc).symm.trans hd
        refine lv_iconst (v := (0 : Int32)) hx hb dX6_isRest_138 (by decide) ?_
        refine lv_istore_n (lv' := [(1, .int (0 : Int32)), (0, .ref (g.2.2.2 b)), (2, .int x2), (3, .int x3), (4, .int x4)]) hx hb dX6_isRest_139 rfl hl (by decide) rfl (fun ls hl => ?_)
        refine lv_iinc (v := (x2 + (1 : Int32))) (lv' := [(2, .int (x2 + (1 : Int32))), (1, .int (0 : Int32)), (0, .ref (g.2.2.2 b)), (3, .int x3), (4, .int x4)]) hx hb dX6_isRest_140 hl (k := 2) rfl rfl (by decide) rfl (fun ls hl => ?_)
        refine lv_goto (tgt := 21) hx hb dX6_isRest_143 (by decide) ?_
        exact hK (0 : Int32) (x2 + (1 : Int32)) _ _ _ hd hP hS (lv_sub hl [2, 1, 0] rfl)
      · replace hd := (if_neg hc).symm.trans hd
        refine lv_aload_n hx hb dX6_isRest_95 rfl (lv_at hl 0 rfl) ?_
        refine lv_iload_n hx hb dX6_isRest_96 rfl (lv_at hl 2 rfl) ?_
        obtain ⟨r3, hr3, hd⟩ := Option.bind_eq_some_iff.mp hd
        refine sn_Vi (b := b) (rest := []) (As := [.int x2]) (st := st) C (c_X6_isSane hi hT hr3) (cwV 1 hts gX6_isRest_X6_isSane rfl rfl rfl (by decide +kernel) ⟨Nat.le_of_ble_eq_true rfl, Nat.le_of_ble_eq_true rfl⟩) hP hS (sn_l0 hT.1 (by decide)) hT.2.1 rfl rfl hl.1 rfl (Nat.le_of_ble_eq_true rfl) dX6_isRest_97 (fun H locs hP hS => ?_)
        refine lv_if_eq (tgt := 138) hx hb dX6_isRest_100 (by decide) (fun hc => ?_) (fun hc => ?_)
        · replace hd := (if_pos hc).symm.trans hd
          refine lv_iconst (v := (0 : Int32)) hx hb dX6_isRest_138 (by decide) ?_
          refine lv_istore_n (lv' := [(1, .int (0 : Int32)), (0, .ref (g.2.2.2 b)), (2, .int x2), (3, .int x3), (4, .int x4)]) hx hb dX6_isRest_139 rfl hl (by decide) rfl (fun ls hl => ?_)
          refine lv_iinc (v := (x2 + (1 : Int32))) (lv' := [(2, .int (x2 + (1 : Int32))), (1, .int (0 : Int32)), (0, .ref (g.2.2.2 b)), (3, .int x3), (4, .int x4)]) hx hb dX6_isRest_140 hl (k := 2) rfl rfl (by decide) rfl (fun ls hl => ?_)
          refine lv_goto (tgt := 21) hx hb dX6_isRest_143 (by decide) ?_
          exact hK (0 : Int32) (x2 + (1 : Int32)) _ _ _ hd hP hS (lv_sub hl [2, 1, 0] rfl)
        · replace hd := (if_neg hc).symm.trans hd
          refine lv_aload_n hx hb dX6_isRest_103 rfl (lv_at hl 0 rfl) ?_
          refine sn_get (ci := 5) (Cn := RX6) (T := TX6) (n := 6) (v := .ref (g.2.2.2 (b + 1))) C hinX6 hP b (sn_l0 hT.1 (by decide)) hT.2.1 rfl 0 (by decide) (by decide +kernel) rfl rfl dX6_isRest_104 ?_
          refine lv_bipush (v := (12 : Int32)) hx hb dX6_isRest_107 (by decide) ?_
          refine lv_iload_n hx hb dX6_isRest_109 rfl (lv_at hl 2 rfl) ?_
          refine lv_iadd hx hb dX6_isRest_110 ?_
          refine sn_ald C hP (b + 1) (sn_l hT.1 (by decide)) hT.2.2.1 hd dX6_isRest_111 (fun k4 hk4 hd => ?_)
          refine lv_aload_n hx hb dX6_isRest_112 rfl (lv_at hl 0 rfl) ?_
          refine sn_get (ci := 5) (Cn := RX6) (T := TX6) (n := 6) (v := .ref (g.2.2.2 (b + 4))) C hinX6 hP b (sn_l0 hT.1 (by decide)) hT.2.1 rfl 4 (by decide) (by decide +kernel) rfl rfl dX6_isRest_113 ?_
          refine lv_iload_n hx hb dX6_isRest_116 rfl (lv_at hl 2 rfl) ?_
          refine sn_ald C hP (b + 4) (sn_l hT.1 (by decide)) hT.2.2.2.2.2 hd dX6_isRest_117 (fun k5 hk5 hd => ?_)
          refine lv_icmp_ne (tgt := 138) hx hb dX6_isRest_118 (by decide) (fun hc => ?_) (fun hc => ?_)
          · replace hd := (if_neg hc).symm.trans hd
            refine lv_iconst (v := (0 : Int32)) hx hb dX6_isRest_138 (by decide) ?_
            refine lv_istore_n (lv' := [(1, .int (0 : Int32)), (0, .ref (g.2.2.2 b)), (2, .int x2), (3, .int x3), (4, .int x4)]) hx hb dX6_isRest_139 rfl hl (by decide) rfl (fun ls hl => ?_)
            refine lv_iinc (v := (x2 + (1 : Int32))) (lv' := [(2, .int (x2 + (1 : Int32))), (1, .int (0 : Int32)), (0, .ref (g.2.2.2 b)), (3, .int x3), (4, .int x4)]) hx hb dX6_isRest_140 hl (k := 2) rfl rfl (by decide) rfl (fun ls hl => ?_)
            refine lv_goto (tgt := 21) hx hb dX6_isRest_143 (by decide) ?_
            exact hK (0 : Int32) (x2 + (1 : Int32)) _ _ _ hd hP hS (lv_sub hl [2, 1, 0] rfl)
          · replace hd := (if_pos hc).symm.trans hd
            refine lv_aload_n hx hb dX6_isRest_121 rfl (lv_at hl 0 rfl) ?_
            refine sn_get (ci := 5) (Cn := RX6) (T := TX6) (n := 6) (v := .ref (g.2.2.2 (b + 1))) C hinX6 hP b (sn_l0 hT.1 (by decide)) hT.2.1 rfl 0 (by decide) (by decide +kernel) rfl rfl dX6_isRest_122 ?_
            refine lv_bipush (v := (24 : Int32)) hx hb dX6_isRest_125 (by decide) ?_
            refine lv_iload_n hx hb dX6_isRest_127 rfl (lv_at hl 2 rfl) ?_
            refine lv_iadd hx hb dX6_isRest_128 ?_
            refine sn_ald C hP (b + 1) (sn_l hT.1 (by decide)) hT.2.2.1 hd dX6_isRest_129 (fun k6 hk6 hd => ?_)
            refine lv_iload_n hx hb dX6_isRest_130 rfl (lv_at hl 3 rfl) ?_
            refine lv_icmp_ne (tgt := 138) hx hb dX6_isRest_131 (by decide) (fun hc => ?_) (fun hc => ?_)
            · replace hd := (if_neg hc).symm.trans hd
              refine lv_iconst (v := (0 : Int32)) hx hb dX6_isRest_138 (by decide) ?_
              refine lv_istore_n (lv' := [(1, .int (0 : Int32)), (0, .ref (g.2.2.2 b)), (2, .int x2), (3, .int x3), (4, .int x4)]) hx hb dX6_isRest_139 rfl hl (by decide) rfl (fun ls hl => ?_)
              refine lv_iinc (v := (x2 + (1 : Int32))) (lv' := [(2, .int (x2 + (1 : Int32))), (1, .int (0 : Int32)), (0, .ref (g.2.2.2 b)), (3, .int x3), (4, .int x4)]) hx hb dX6_isRest_140 hl (k := 2) rfl rfl (by decide) rfl (fun ls hl => ?_)
              refine lv_goto (tgt := 21) hx hb dX6_isRest_143 (by decide) ?_
              exact hK (0 : Int32) (x2 + (1 : Int32)) _ _ _ hd hP hS (lv_sub hl [2, 1, 0] rfl)
            · replace hd := (if_pos hc).symm.trans hd
              refine lv_iconst (v := (1 : Int32)) hx hb dX6_isRest_134 (by decide) ?_
              refine lv_goto (tgt := 139) hx hb dX6_isRest_135 (by decide) ?_
              refine lv_istore_n (lv' := [(1, .int (1 : Int32)), (0, .ref (g.2.2.2 b)), (2, .int x2), (3, .int x3), (4, .int x4)]) hx hb dX6_isRest_139 rfl hl (by decide) rfl (fun ls hl => ?_)
              refine lv_iinc (v := (x2 + (1 : Int32))) (lv' := [(2, .int (x2 + (1 : Int32))), (1, .int (1 : Int32)), (0, .ref (g.2.2.2 b)), (3, .int x3), (4, .int x4)]) hx hb dX6_isRest_140 hl (k := 2) rfl rfl (by decide) rfl (fun ls hl => ?_)
              refine lv_goto (tgt := 21) hx hb dX6_isRest_143 (by decide) ?_
              exact hK (1 : Int32) (x2 + (1 : Int32)) _ _ _ hd hP hS (lv_sub hl [2, 1, 0] rfl)
    · replace hd := (if_neg hc).symm.trans hd
      refine lv_aload_n hx hb dX6_isRest_52 rfl (lv_at hl 0 rfl) ?_
      refine lv_iload_n hx hb dX6_isRest_53 rfl (lv_at hl 2 rfl) ?_
      refine lv_iload hx hb dX6_isRest_54 (lv_at hl 4 rfl) ?_
      obtain ⟨r7, hr7, hd⟩ := Option.bind_eq_some_iff.mp hd
      refine sn_Vi (b := b) (rest := []) (As := [.int x2, .int x4]) (st := st) C (c_X6_isLink hi hT hr7) (cwV 2 hts gX6_isRest_X6_isLink rfl rfl rfl (by decide +kernel) ⟨Nat.le_of_ble_eq_true rfl, Nat.le_of_ble_eq_true rfl⟩) hP hS (sn_l0 hT.1 (by decide)) hT.2.1 rfl rfl hl.1 rfl (Nat.le_of_ble_eq_true rfl) dX6_isRest_56 (fun H locs hP hS => ?_)
      refine lv_if_eq (tgt := 83) hx hb dX6_isRest_59 (by decide) (fun hc => ?_) (fun hc => ?_)
      · replace hd := (if_pos hc).symm.trans hd
        refine lv_iload_n hx hb dX6_isRest_83 rfl (lv_at hl 3 rfl) ?_
        refine lv_istore_n (lv' := [(3, .int x3), (0, .ref (g.2.2.2 b)), (1, .int x1), (2, .int x2), (4, .int x4)]) hx hb dX6_isRest_84 rfl hl (by decide) rfl (fun ls hl => ?_)
        refine lv_iinc (v := (x4 + (-1 : Int32))) (lv' := [(4, .int (x4 + (-1 : Int32))), (3, .int x3), (0, .ref (g.2.2.2 b)), (1, .int x1), (2, .int x2)]) hx hb dX6_isRest_85 hl (k := 4) rfl rfl (by decide) rfl (fun ls hl => ?_)
        refine lv_goto (tgt := 47) hx hb dX6_isRest_88 (by decide) ?_
        exact ih x3 (x4 + (-1 : Int32)) _ _ _ hd hP hS (lv_sub hl [2, 3, 4, 1, 0] rfl)
      · replace hd := (if_neg hc).symm.trans hd
        refine lv_aload_n hx hb dX6_isRest_62 rfl (lv_at hl 0 rfl) ?_
        refine sn_get (ci := 5) (Cn := RX6) (T := TX6) (n := 6) (v := .ref (g.2.2.2 (b + 4))) C hinX6 hP b (sn_l0 hT.1 (by decide)) hT.2.1 rfl 4 (by decide) (by decide +kernel) rfl rfl dX6_isRest_63 ?_
        refine lv_iload hx hb dX6_isRest_66 (lv_at hl 4 rfl) ?_
        refine sn_ald C hP (b + 4) (sn_l hT.1 (by decide)) hT.2.2.2.2.2 hd dX6_isRest_68 (fun k8 hk8 hd => ?_)
        refine lv_aload_n hx hb dX6_isRest_69 rfl (lv_at hl 0 rfl) ?_
        refine sn_get (ci := 5) (Cn := RX6) (T := TX6) (n := 6) (v := .ref (g.2.2.2 (b + 4))) C hinX6 hP b (sn_l0 hT.1 (by decide)) hT.2.1 rfl 4 (by decide) (by decide +kernel) rfl rfl dX6_isRest_70 ?_
        refine lv_iload_n hx hb dX6_isRest_73 rfl (lv_at hl 2 rfl) ?_
        refine sn_ald C hP (b + 4) (sn_l hT.1 (by decide)) hT.2.2.2.2.2 hd dX6_isRest_74 (fun k9 hk9 hd => ?_)
        refine lv_icmp_ge (tgt := 83) hx hb dX6_isRest_75 (by decide) (fun hc => ?_) (fun hc => ?_)
        · replace hd := (if_pos hc).symm.trans hd
          refine lv_iload_n hx hb dX6_isRest_83 rfl (lv_at hl 3 rfl) ?_
          refine lv_istore_n (lv' := [(3, .int x3), (0, .ref (g.2.2.2 b)), (1, .int x1), (2, .int x2), (4, .int x4)]) hx hb dX6_isRest_84 rfl hl (by decide) rfl (fun ls hl => ?_)
          refine lv_iinc (v := (x4 + (-1 : Int32))) (lv' := [(4, .int (x4 + (-1 : Int32))), (3, .int x3), (0, .ref (g.2.2.2 b)), (1, .int x1), (2, .int x2)]) hx hb dX6_isRest_85 hl (k := 4) rfl rfl (by decide) rfl (fun ls hl => ?_)
          refine lv_goto (tgt := 47) hx hb dX6_isRest_88 (by decide) ?_
          exact ih x3 (x4 + (-1 : Int32)) _ _ _ hd hP hS (lv_sub hl [2, 3, 4, 1, 0] rfl)
        · replace hd := (if_neg hc).symm.trans hd
          refine lv_iload hx hb dX6_isRest_78 (lv_at hl 4 rfl) ?_
          refine lv_goto (tgt := 84) hx hb dX6_isRest_80 (by decide) ?_
          refine lv_istore_n (lv' := [(3, .int x4), (0, .ref (g.2.2.2 b)), (1, .int x1), (2, .int x2), (4, .int x4)]) hx hb dX6_isRest_84 rfl hl (by decide) rfl (fun ls hl => ?_)
          refine lv_iinc (v := (x4 + (-1 : Int32))) (lv' := [(4, .int (x4 + (-1 : Int32))), (3, .int x4), (0, .ref (g.2.2.2 b)), (1, .int x1), (2, .int x2)]) hx hb dX6_isRest_85 hl (k := 4) rfl rfl (by decide) rfl (fun ls hl => ?_)
          refine lv_goto (tgt := 47) hx hb dX6_isRest_88 (by decide) ?_
          exact ih x4 (x4 + (-1 : Int32)) _ _ _ hd hP hS (lv_sub hl [2, 3, 4, 1, 0] rfl)

set_option maxHeartbeats 4000000 in
set_option maxRecDepth 100000 in
theorem t_X6_isRest_L21 {p : Program} {l : Launch} {e : Env} {s : State} {m : MethodId} {args : Array Value} {below : List Frame} {meth : Method} {c : Code} {g : sn_G} {tb : Nat → sn_K} {N : Nat} {b : Nat} {st : sn_S} {o : Int32 × sn_S} (C : sn_Cx p s m args meth c g N cX6_isRest 5 wsX6_isRest yX6_isRest.cls (some .boolean)) (hT : sn_Mo tb N b)  : ∀ (n : Nat) (x1 : Int32) (x2 : Int32) (H : Heap) (locs : List Loc) (ls : Array Slot), D_X6_isRest_L21 b st n x1 x2 = some o → va_P g.1 vwCl (sn_W g tb N st) H → va_S (sn_A g N) s.heap H locs → lv_has ls 5 [(0, .ref (g.2.2.2 b)), (1, .int x1), (2, .int x2)] → W p l e { frames := 10, cells := 0, slots := 0, locals := 223 } s m args below meth c H locs 0 0 (MQ below (sn_Qi g tb N o.1 o.2) args s 0 0 (sn_A g N)) (F0 m 21 ls []) := by
  obtain ⟨⟨hx, hb, hml, hown, hts⟩, hr, hlk, hC, hi⟩ := id C
  have hinX6 : ∀ w ∈ wsX60, w ∈ wsX6_isRest := by decide +kernel
  intro n
  induction n with
  | zero => intro _ _ _ _ _ hd; exact nomatch (show (none : Option (Int32 × sn_S)) = some o from hd)
  | succ n ih =>
    intro x1 x2 H locs ls hd hP hS hl
    replace hd := (D_X6_isRest_L21.eq_2 _ _ _ _ _).symm.trans hd
    refine lv_iload_n hx hb dX6_isRest_21 rfl (lv_at hl 2 rfl) ?_
    refine lv_aload_n hx hb dX6_isRest_22 rfl (lv_at hl 0 rfl) ?_
    refine sn_get (ci := 5) (Cn := RX6) (T := TX6) (n := 6) (v := .ref (g.2.2.2 (b + 1))) C hinX6 hP b (sn_l0 hT.1 (by decide)) hT.2.1 rfl 0 (by decide) (by decide +kernel) rfl rfl dX6_isRest_23 ?_
    refine lv_sipush (v := (360 : Int32)) hx hb dX6_isRest_26 (by decide) ?_
    refine sn_aldc (k := 360) C hP (b + 1) (sn_l hT.1 (by decide)) hT.2.2.1 (by decide +kernel) dX6_isRest_29 ?_
    refine lv_icmp_ge (tgt := 146) hx hb dX6_isRest_30 (by decide) (fun hc => ?_) (fun hc => ?_)
    · replace hd := (if_pos hc).symm.trans hd
      refine lv_iload_n hx hb dX6_isRest_146 rfl (lv_at hl 1 rfl) ?_
      refine lv_if_eq (tgt := 162) hx hb dX6_isRest_147 (by decide) (fun hc => ?_) (fun hc => ?_)
      · replace hd := (if_pos hc).symm.trans hd
        refine lv_iconst (v := (0 : Int32)) hx hb dX6_isRest_162 (by decide) ?_
        have ho := Option.some.inj hd
        subst ho
        exact sn_rz (Or.inl rfl) C hP hS dX6_isRest_163
      · replace hd := (if_neg hc).symm.trans hd
        refine lv_aload_n hx hb dX6_isRest_150 rfl (lv_at hl 0 rfl) ?_
        obtain ⟨r2, hr2, hd⟩ := Option.bind_eq_some_iff.mp hd
        refine sn_Vi (b := b) (rest := []) (As := []) (st := st) C (c_X6_rights hi hT hr2) (cwV 0 hts gX6_isRest_X6_rights rfl rfl rfl (by decide +kernel) ⟨Nat.le_of_ble_eq_true rfl, Nat.le_of_ble_eq_true rfl⟩) hP hS (sn_l0 hT.1 (by decide)) hT.2.1 rfl rfl hl.1 rfl (Nat.le_of_ble_eq_true rfl) dX6_isRest_151 (fun H locs hP hS => ?_)
        refine lv_iconst (v := (1 : Int32)) hx hb dX6_isRest_154 (by decide) ?_
        refine lv_icmp_ne (tgt := 162) hx hb dX6_isRest_155 (by decide) (fun hc => ?_) (fun hc => ?_)
        · replace hd := (if_neg hc).symm.trans hd
          refine lv_iconst (v := (0 : Int32)) hx hb dX6_isRest_162 (by decide) ?_
          have ho := Option.some.inj hd
          subst ho
          exact sn_rz (Or.inl rfl) C hP hS dX6_isRest_163
        · replace hd := (if_pos hc).symm.trans hd
          refine lv_iconst (v := (1 : Int32)) hx hb dX6_isRest_158 (by decide) ?_
          refine lv_goto (tgt := 163) hx hb dX6_isRest_159 (by decide) ?_
          have ho := Option.some.inj hd
          subst ho
          exact sn_rz (Or.inr rfl) C hP hS dX6_isRest_163
    · replace hd := (if_neg hc).symm.trans hd
      refine lv_iconst (v := (-1 : Int32)) hx hb dX6_isRest_33 (by decide) ?_
      refine lv_istore_n (lv' := [(3, .int (-1 : Int32)), (0, .ref (g.2.2.2 b)), (1, .int x1), (2, .int x2)]) hx hb dX6_isRest_34 rfl hl (by decide) rfl (fun ls hl => ?_)
      refine lv_aload_n hx hb dX6_isRest_35 rfl (lv_at hl 1 rfl) ?_
      refine sn_get (ci := 5) (Cn := RX6) (T := TX6) (n := 6) (v := .ref (g.2.2.2 (b + 1))) C hinX6 hP b (sn_l0 hT.1 (by decide)) hT.2.1 rfl 0 (by decide) (by decide +kernel) rfl rfl dX6_isRest_36 ?_
      refine lv_sipush (v := (360 : Int32)) hx hb dX6_isRest_39 (by decide) ?_
      refine sn_aldc (k := 360) C hP (b + 1) (sn_l hT.1 (by decide)) hT.2.2.1 (by decide +kernel) dX6_isRest_42 ?_
      refine lv_iconst (v := (1 : Int32)) hx hb dX6_isRest_43 (by decide) ?_
      refine lv_isub hx hb dX6_isRest_44 ?_
      refine lv_istore (lv' := [(4, .int ((st.1 (b + 1) 360) - (1 : Int32))), (3, .int (-1 : Int32)), (0, .ref (g.2.2.2 b)), (1, .int x1), (2, .int x2)]) hx hb dX6_isRest_45 hl (by decide) rfl (fun ls hl => ?_)
      exact t_X6_isRest_L47 (st := st) C hT ih 4096 (-1 : Int32) ((st.1 (b + 1) 360) - (1 : Int32)) _ _ _ hd hP hS (lv_sub hl [2, 3, 4, 1, 0] rfl)

set_option maxHeartbeats 4000000 in
set_option maxRecDepth 100000 in
theorem c_X6_isRest {l : Launch} {g : sn_G} {tb : Nat → sn_K} {N : Nat} (hi : sn_I g N) {b : Nat} (hT : sn_Mo tb N b) {st : sn_S} {o : Int32 × sn_S} (hd : D_X6_isRest b st = some o) : sn_Mi l yX6_isRest wsX6_isRest { frames := 10, cells := 0, slots := 0, locals := 223 } g tb N [.ref (g.2.2.2 b)] st o.1 o.2 := by
  refine sn_Mi.of (cc := cX6_isRest) (nL := 5) (ret := (some .boolean)) hi (by decide) rfl (Nat.le_of_ble_eq_true rfl) ?_
  intro p e s m args below meth c ls C hP hS hl
  have hl : lv_has ls 5 [(0, .ref (g.2.2.2 b))] := hl
  obtain ⟨⟨hx, hb, hml, hown, hts⟩, hr, hlk, hC, hi⟩ := id C
  unfold D_X6_isRest at hd
  have hinX6 : ∀ w ∈ wsX60, w ∈ wsX6_isRest := by decide +kernel
  refine lv_aload_n hx hb dX6_isRest_0 rfl (lv_at hl 0 rfl) ?_
  refine sn_get (ci := 5) (Cn := RX6) (T := TX6) (n := 6) (v := .ref (g.2.2.2 (b + 1))) C hinX6 hP b (sn_l0 hT.1 (by decide)) hT.2.1 rfl 0 (by decide) (by decide +kernel) rfl rfl dX6_isRest_1 ?_
  refine lv_sipush (v := (361 : Int32)) hx hb dX6_isRest_4 (by decide) ?_
  refine sn_aldc (k := 361) C hP (b + 1) (sn_l hT.1 (by decide)) hT.2.2.1 (by decide +kernel) dX6_isRest_7 ?_
  refine lv_if_ne (tgt := 13) hx hb dX6_isRest_8 (by decide) (fun hc => ?_) (fun hc => ?_)
  · replace hd := (if_neg hc).symm.trans hd
    refine lv_aload_n hx hb dX6_isRest_13 rfl (lv_at hl 0 rfl) ?_
    obtain ⟨r1, hr1, hd⟩ := Option.bind_eq_some_iff.mp hd
    refine sn_Vv (b := b) (rest := []) (As := []) (st := st) C (c_X6_measure hi hT hr1) (cwV 0 hts gX6_isRest_X6_measure rfl rfl rfl (by decide +kernel) ⟨Nat.le_of_ble_eq_true rfl, Nat.le_of_ble_eq_true rfl⟩) hP hS (sn_l0 hT.1 (by decide)) hT.2.1 rfl rfl hl.1 rfl (Nat.le_of_ble_eq_true rfl) dX6_isRest_14 (fun H locs hP hS => ?_)
    refine lv_iconst (v := (1 : Int32)) hx hb dX6_isRest_17 (by decide) ?_
    refine lv_istore_n (lv' := [(1, .int (1 : Int32)), (0, .ref (g.2.2.2 b))]) hx hb dX6_isRest_18 rfl hl (by decide) rfl (fun ls hl => ?_)
    refine lv_iconst (v := (0 : Int32)) hx hb dX6_isRest_19 (by decide) ?_
    refine lv_istore_n (lv' := [(2, .int (0 : Int32)), (1, .int (1 : Int32)), (0, .ref (g.2.2.2 b))]) hx hb dX6_isRest_20 rfl hl (by decide) rfl (fun ls hl => ?_)
    exact t_X6_isRest_L21 (st := r1) C hT 4096 (1 : Int32) (0 : Int32) _ _ _ hd hP hS (lv_sub hl [2, 1, 0] rfl)
  · replace hd := (if_pos hc).symm.trans hd
    refine lv_iconst (v := (0 : Int32)) hx hb dX6_isRest_11 (by decide) ?_
    have ho := Option.some.inj hd
    subst ho
    exact sn_rz (Or.inl rfl) C hP hS dX6_isRest_12

set_option maxHeartbeats 4000000 in
set_option maxRecDepth 100000 in
theorem t_X6_settle_L45 {p : Program} {l : Launch} {e : Env} {s : State} {m : MethodId} {args : Array Value} {below : List Frame} {meth : Method} {c : Code} {g : sn_G} {tb : Nat → sn_K} {N : Nat} {b : Nat} {x1 : Int32} {x2 : Int32} {o : Int32 × sn_S} (C : sn_Cx p s m args meth c g N cX6_settle 6 wsX6_settle yX6_settle.cls (some .int)) (hT : sn_Mo tb N b)  : ∀ (n : Nat) (x3 : Int32) (x4 : Int32) (st : sn_S) (H : Heap) (locs : List Loc) (ls : Array Slot), D_X6_settle_L45 b x1 x2 n x3 x4 st = some o → va_P g.1 vwCl (sn_W g tb N st) H → va_S (sn_A g N) s.heap H locs → lv_has ls 6 [(0, .ref (g.2.2.2 b)), (1, .int x1), (2, .int x2), (3, .int x3), (4, .int x4)] → W p l e { frames := 15, cells := 0, slots := 0, locals := 332 } s m args below meth c H locs 0 0 (MQ below (sn_Qi g tb N o.1 o.2) args s 0 0 (sn_A g N)) (F0 m 45 ls []) := by
  obtain ⟨⟨hx, hb, hml, hown, hts⟩, hr, hlk, hC, hi⟩ := id C
  have hinX6 : ∀ w ∈ wsX60, w ∈ wsX6_settle := by decide +kernel
  intro n
  induction n with
  | zero => intro _ _ _ _ _ _ hd; exact nomatch (show (none : Option (Int32 × sn_S)) = some o from hd)
  | succ n ih =>
    intro x3 x4 st H locs ls hd hP hS hl
    replace hd := (D_X6_settle_L45.eq_2 _ _ _ _ _ _ _).symm.trans hd
    refine lv_iload hx hb dX6_settle_45 (lv_at hl 4 rfl) ?_
    refine lv_if_ne (tgt := 87) hx hb dX6_settle_47 (by decide) (fun hc => ?_) (fun hc => ?_)
    · replace hd := (if_neg hc).symm.trans hd
      refine lv_iload hx hb dX6_settle_87 (lv_at hl 4 rfl) ?_
      refine lv_if_eq (tgt := 96) hx hb dX6_settle_89 (by decide) (fun hc => ?_) (fun hc => ?_)
      · replace hd := (if_pos hc).symm.trans hd
        refine lv_iconst (v := (-1 : Int32)) hx hb dX6_settle_96 (by decide) ?_
        refine lv_iload_n hx hb dX6_settle_97 rfl (lv_at hl 2 rfl) ?_
        refine lv_isub hx hb dX6_settle_98 ?_
        have ho := Option.some.inj hd
        subst ho
        exact sn_ri C hP hS dX6_settle_99
      · replace hd := (if_neg hc).symm.trans hd
        refine lv_iload_n hx hb dX6_settle_92 rfl (lv_at hl 3 rfl) ?_
        refine lv_goto (tgt := 99) hx hb dX6_settle_93 (by decide) ?_
        have ho := Option.some.inj hd
        subst ho
        exact sn_ri C hP hS dX6_settle_99
    · replace hd := (if_pos hc).symm.trans hd
      refine lv_iload_n hx hb dX6_settle_50 rfl (lv_at hl 3 rfl) ?_
      refine lv_iload_n hx hb dX6_settle_51 rfl (lv_at hl 2 rfl) ?_
      refine lv_icmp_ge (tgt := 87) hx hb dX6_settle_52 (by decide) (fun hc => ?_) (fun hc => ?_)
      · replace hd := (if_pos hc).symm.trans hd
        refine lv_iload hx hb dX6_settle_87 (lv_at hl 4 rfl) ?_
        refine lv_if_eq (tgt := 96) hx hb dX6_settle_89 (by decide) (fun hc => ?_) (fun hc => ?_)
        · replace hd := (if_pos hc).symm.trans hd
          refine lv_iconst (v := (-1 : Int32)) hx hb dX6_settle_96 (by decide) ?_
          refine lv_iload_n hx hb dX6_settle_97 rfl (lv_at hl 2 rfl) ?_
          refine lv_isub hx hb dX6_settle_98 ?_
          have ho := Option.some.inj hd
          subst ho
          exact sn_ri C hP hS dX6_settle_99
        · replace hd := (if_neg hc).symm.trans hd
          refine lv_iload_n hx hb dX6_settle_92 rfl (lv_at hl 3 rfl) ?_
          refine lv_goto (tgt := 99) hx hb dX6_settle_93 (by decide) ?_
          have ho := Option.some.inj hd
          subst ho
          exact sn_ri C hP hS dX6_settle_99
      · replace hd := (if_neg hc).symm.trans hd
        refine lv_aload_n hx hb dX6_settle_55 rfl (lv_at hl 0 rfl) ?_
        refine lv_iload_n hx hb dX6_settle_56 rfl (lv_at hl 1 rfl) ?_
        obtain ⟨r4, hr4, hd⟩ := Option.bind_eq_some_iff.mp hd
        refine sn_Vi (b := b) (rest := []) (As := [.int x1]) (st := st) C (c_X6_stepBy hi hT hr4) (cwV 1 hts gX6_settle_X6_stepBy rfl rfl rfl (by decide +kernel) ⟨Nat.le_of_ble_eq_true rfl, Nat.le_of_ble_eq_true rfl⟩) hP hS (sn_l0 hT.1 (by decide)) hT.2.1 rfl rfl hl.1 rfl (Nat.le_of_ble_eq_true rfl) dX6_settle_57 (fun H locs hP hS => ?_)
        refine lv_istore (lv' := [(5, .int r4.1), (0, .ref (g.2.2.2 b)), (1, .int x1), (2, .int x2), (3, .int x3), (4, .int x4)]) hx hb dX6_settle_60 hl (by decide) rfl (fun ls hl => ?_)
        refine lv_iinc (v := (x3 + (1 : Int32))) (lv' := [(3, .int (x3 + (1 : Int32))), (5, .int r4.1), (0, .ref (g.2.2.2 b)), (1, .int x1), (2, .int x2), (4, .int x4)]) hx hb dX6_settle_62 hl (k := 4) rfl rfl (by decide) rfl (fun ls hl => ?_)
        refine lv_iload hx hb dX6_settle_65 (lv_at hl 1 rfl) ?_
        refine lv_if_le (tgt := 81) hx hb dX6_settle_67 (by decide) (fun hc => ?_) (fun hc => ?_)
        · replace hd := (if_pos hc).symm.trans hd
          refine lv_iconst (v := (0 : Int32)) hx hb dX6_settle_81 (by decide) ?_
          refine lv_istore (lv' := [(4, .int (0 : Int32)), (3, .int (x3 + (1 : Int32))), (5, .int r4.1), (0, .ref (g.2.2.2 b)), (1, .int x1), (2, .int x2)]) hx hb dX6_settle_82 hl (by decide) rfl (fun ls hl => ?_)
          refine lv_goto (tgt := 45) hx hb dX6_settle_84 (by decide) ?_
          exact ih (x3 + (1 : Int32)) (0 : Int32) r4.2 _ _ _ hd hP hS (lv_sub hl [3, 4, 5, 1, 0] rfl)
        · replace hd := (if_neg hc).symm.trans hd
          refine lv_aload_n hx hb dX6_settle_70 rfl (lv_at hl 2 rfl) ?_
          obtain ⟨r5, hr5, hd⟩ := Option.bind_eq_some_iff.mp hd
          refine sn_Vi (b := b) (rest := []) (As := []) (st := r4.2) C (c_X6_isRest hi hT hr5) (cwV 0 hts gX6_settle_X6_isRest rfl rfl rfl (by decide +kernel) ⟨Nat.le_of_ble_eq_true rfl, Nat.le_of_ble_eq_true rfl⟩) hP hS (sn_l0 hT.1 (by decide)) hT.2.1 rfl rfl hl.1 rfl (Nat.le_of_ble_eq_true rfl) dX6_settle_71 (fun H locs hP hS => ?_)
          refine lv_if_eq (tgt := 81) hx hb dX6_settle_74 (by decide) (fun hc => ?_) (fun hc => ?_)
          · replace hd := (if_pos hc).symm.trans hd
            refine lv_iconst (v := (0 : Int32)) hx hb dX6_settle_81 (by decide) ?_
            refine lv_istore (lv' := [(4, .int (0 : Int32)), (3, .int (x3 + (1 : Int32))), (5, .int r4.1), (0, .ref (g.2.2.2 b)), (1, .int x1), (2, .int x2)]) hx hb dX6_settle_82 hl (by decide) rfl (fun ls hl => ?_)
            refine lv_goto (tgt := 45) hx hb dX6_settle_84 (by decide) ?_
            exact ih (x3 + (1 : Int32)) (0 : Int32) r5.2 _ _ _ hd hP hS (lv_sub hl [3, 4, 5, 1, 0] rfl)
          · replace hd := (if_neg hc).symm.trans hd
            refine lv_iconst (v := (1 : Int32)) hx hb dX6_settle_77 (by decide) ?_
            refine lv_goto (tgt := 82) hx hb dX6_settle_78 (by decide) ?_
            refine lv_istore (lv' := [(4, .int (1 : Int32)), (3, .int (x3 + (1 : Int32))), (5, .int r4.1), (0, .ref (g.2.2.2 b)), (1, .int x1), (2, .int x2)]) hx hb dX6_settle_82 hl (by decide) rfl (fun ls hl => ?_)
            refine lv_goto (tgt := 45) hx hb dX6_settle_84 (by decide) ?_
            exact ih (x3 + (1 : Int32)) (1 : Int32) r5.2 _ _ _ hd hP hS (lv_sub hl [3, 4, 5, 1, 0] rfl)

set_option maxHeartbeats 4000000 in
set_option maxRecDepth 100000 in
theorem c_X6_settle {l : Launch} {g : sn_G} {tb : Nat → sn_K} {N : Nat} (hi : sn_I g N) {b : Nat} {x1 : Int32} {x2 : Int32} (hT : sn_Mo tb N b) {st : sn_S} {o : Int32 × sn_S} (hd : D_X6_settle b x1 x2 st = some o) : sn_Mi l yX6_settle wsX6_settle { frames := 15, cells := 0, slots := 0, locals := 332 } g tb N [.ref (g.2.2.2 b), .int x1, .int x2] st o.1 o.2 := by
  refine sn_Mi.of (cc := cX6_settle) (nL := 6) (ret := (some .int)) hi (by decide) rfl (Nat.le_of_ble_eq_true rfl) ?_
  intro p e s m args below meth c ls C hP hS hl
  have hl : lv_has ls 6 [(0, .ref (g.2.2.2 b)), (1, .int x1), (2, .int x2)] := hl
  obtain ⟨⟨hx, hb, hml, hown, hts⟩, hr, hlk, hC, hi⟩ := id C
  unfold D_X6_settle at hd
  have hinX6 : ∀ w ∈ wsX60, w ∈ wsX6_settle := by decide +kernel
  refine lv_iload_n hx hb dX6_settle_0 rfl (lv_at hl 1 rfl) ?_
  refine lv_iconst (v := (0 : Int32)) hx hb dX6_settle_1 (by decide) ?_
  refine lv_iconst (v := (4 : Int32)) hx hb dX6_settle_2 (by decide) ?_
  obtain ⟨r1, hr1, hd⟩ := Option.bind_eq_some_iff.mp hd
  refine sn_Si (rest := []) (As := [.int x1, .int (0 : Int32), .int (4 : Int32)]) (st := st) C (c_X6_in hi  hr1) (va_cwS 3 hts gX6_settle_X6_in rfl rfl rfl (by decide +kernel) ⟨Nat.le_of_ble_eq_true rfl, Nat.le_of_ble_eq_true rfl⟩) hP hS rfl hl.1 rfl (Nat.le_of_ble_eq_true rfl) dX6_settle_3 (fun H locs hP hS => ?_)
  refine lv_if_eq (tgt := 20) hx hb dX6_settle_6 (by decide) (fun hc => ?_) (fun hc => ?_)
  · replace hd := (if_pos hc).symm.trans hd
    refine lv_bipush (v := (-102 : Int32)) hx hb dX6_settle_20 (by decide) ?_
    have ho := Option.some.inj hd
    subst ho
    exact sn_ri C hP hS dX6_settle_22
  · replace hd := (if_neg hc).symm.trans hd
    refine lv_iload_n hx hb dX6_settle_9 rfl (lv_at hl 2 rfl) ?_
    refine lv_iconst (v := (0 : Int32)) hx hb dX6_settle_10 (by decide) ?_
    refine lv_sipush (v := (2000 : Int32)) hx hb dX6_settle_11 (by decide) ?_
    obtain ⟨r2, hr2, hd⟩ := Option.bind_eq_some_iff.mp hd
    refine sn_Si (rest := []) (As := [.int x2, .int (0 : Int32), .int (2000 : Int32)]) (st := st) C (c_X6_in hi  hr2) (va_cwS 3 hts gX6_settle_X6_in rfl rfl rfl (by decide +kernel) ⟨Nat.le_of_ble_eq_true rfl, Nat.le_of_ble_eq_true rfl⟩) hP hS rfl hl.1 rfl (Nat.le_of_ble_eq_true rfl) dX6_settle_14 (fun H locs hP hS => ?_)
    refine lv_if_ne (tgt := 23) hx hb dX6_settle_17 (by decide) (fun hc => ?_) (fun hc => ?_)
    · replace hd := (if_neg hc).symm.trans hd
      refine lv_aload_n hx hb dX6_settle_23 rfl (lv_at hl 0 rfl) ?_
      refine sn_get (ci := 5) (Cn := RX6) (T := TX6) (n := 6) (v := .ref (g.2.2.2 (b + 1))) C hinX6 hP b (sn_l0 hT.1 (by decide)) hT.2.1 rfl 0 (by decide) (by decide +kernel) rfl rfl dX6_settle_24 ?_
      refine lv_sipush (v := (361 : Int32)) hx hb dX6_settle_27 (by decide) ?_
      refine sn_aldc (k := 361) C hP (b + 1) (sn_l hT.1 (by decide)) hT.2.2.1 (by decide +kernel) dX6_settle_30 ?_
      refine lv_if_ne (tgt := 37) hx hb dX6_settle_31 (by decide) (fun hc => ?_) (fun hc => ?_)
      · replace hd := (if_neg hc).symm.trans hd
        refine lv_iconst (v := (0 : Int32)) hx hb dX6_settle_37 (by decide) ?_
        refine lv_istore_n (lv' := [(3, .int (0 : Int32)), (0, .ref (g.2.2.2 b)), (1, .int x1), (2, .int x2)]) hx hb dX6_settle_38 rfl hl (by decide) rfl (fun ls hl => ?_)
        refine lv_aload_n hx hb dX6_settle_39 rfl (lv_at hl 1 rfl) ?_
        obtain ⟨r3, hr3, hd⟩ := Option.bind_eq_some_iff.mp hd
        refine sn_Vi (b := b) (rest := []) (As := []) (st := st) C (c_X6_isRest hi hT hr3) (cwV 0 hts gX6_settle_X6_isRest rfl rfl rfl (by decide +kernel) ⟨Nat.le_of_ble_eq_true rfl, Nat.le_of_ble_eq_true rfl⟩) hP hS (sn_l0 hT.1 (by decide)) hT.2.1 rfl rfl hl.1 rfl (Nat.le_of_ble_eq_true rfl) dX6_settle_40 (fun H locs hP hS => ?_)
        refine lv_istore (lv' := [(4, .int r3.1), (3, .int (0 : Int32)), (0, .ref (g.2.2.2 b)), (1, .int x1), (2, .int x2)]) hx hb dX6_settle_43 hl (by decide) rfl (fun ls hl => ?_)
        exact t_X6_settle_L45 C hT 4096 (0 : Int32) r3.1 r3.2 _ _ _ hd hP hS (lv_sub hl [2, 3, 4, 1, 0] rfl)
      · replace hd := (if_pos hc).symm.trans hd
        refine lv_bipush (v := (-103 : Int32)) hx hb dX6_settle_34 (by decide) ?_
        have ho := Option.some.inj hd
        subst ho
        exact sn_ri C hP hS dX6_settle_36
    · replace hd := (if_pos hc).symm.trans hd
      refine lv_bipush (v := (-102 : Int32)) hx hb dX6_settle_20 (by decide) ?_
      have ho := Option.some.inj hd
      subst ho
      exact sn_ri C hP hS dX6_settle_22

set_option maxHeartbeats 4000000 in
set_option maxRecDepth 100000 in
theorem c_X6_rest {l : Launch} {g : sn_G} {tb : Nat → sn_K} {N : Nat} (hi : sn_I g N) {b : Nat} (hT : sn_Mo tb N b) {st : sn_S} {o : Int32 × sn_S} (hd : D_X6_rest b st = some o) : sn_Mi l yX6_rest wsX6_rest { frames := 11, cells := 0, slots := 0, locals := 247 } g tb N [.ref (g.2.2.2 b)] st o.1 o.2 := by
  refine sn_Mi.of (cc := cX6_rest) (nL := 1) (ret := (some .int)) hi (by decide) rfl (Nat.le_of_ble_eq_true rfl) ?_
  intro p e s m args below meth c ls C hP hS hl
  have hl : lv_has ls 1 [(0, .ref (g.2.2.2 b))] := hl
  obtain ⟨⟨hx, hb, hml, hown, hts⟩, hr, hlk, hC, hi⟩ := id C
  unfold D_X6_rest at hd
  refine lv_aload_n hx hb dX6_rest_0 rfl (lv_at hl 0 rfl) ?_
  obtain ⟨r1, hr1, hd⟩ := Option.bind_eq_some_iff.mp hd
  refine sn_Vi (b := b) (rest := []) (As := []) (st := st) C (c_X6_isRest hi hT hr1) (cwV 0 hts gX6_rest_X6_isRest rfl rfl rfl (by decide +kernel) ⟨Nat.le_of_ble_eq_true rfl, Nat.le_of_ble_eq_true rfl⟩) hP hS (sn_l0 hT.1 (by decide)) hT.2.1 rfl rfl hl.1 rfl (Nat.le_of_ble_eq_true rfl) dX6_rest_1 (fun H locs hP hS => ?_)
  refine lv_if_eq (tgt := 11) hx hb dX6_rest_4 (by decide) (fun hc => ?_) (fun hc => ?_)
  · replace hd := (if_pos hc).symm.trans hd
    refine lv_iconst (v := (0 : Int32)) hx hb dX6_rest_11 (by decide) ?_
    have ho := Option.some.inj hd
    subst ho
    exact sn_ri C hP hS dX6_rest_12
  · replace hd := (if_neg hc).symm.trans hd
    refine lv_iconst (v := (1 : Int32)) hx hb dX6_rest_7 (by decide) ?_
    refine lv_goto (tgt := 12) hx hb dX6_rest_8 (by decide) ?_
    have ho := Option.some.inj hd
    subst ho
    exact sn_ri C hP hS dX6_rest_12

set_option maxHeartbeats 4000000 in
set_option maxRecDepth 100000 in
theorem c_X6_distance {l : Launch} {g : sn_G} {tb : Nat → sn_K} {N : Nat} (hi : sn_I g N) {b : Nat} {x1 : Int32} (hT : sn_Mo tb N b) {st : sn_S} {o : Int32 × sn_S} (hd : D_X6_distance b x1 st = some o) : sn_Mi l yX6_distance wsX6_distance { frames := 4, cells := 0, slots := 0, locals := 88 } g tb N [.ref (g.2.2.2 b), .int x1] st o.1 o.2 := by
  refine sn_Mi.of (cc := cX6_distance) (nL := 2) (ret := (some .int)) hi (by decide) rfl (Nat.le_of_ble_eq_true rfl) ?_
  intro p e s m args below meth c ls C hP hS hl
  have hl : lv_has ls 2 [(0, .ref (g.2.2.2 b)), (1, .int x1)] := hl
  obtain ⟨⟨hx, hb, hml, hown, hts⟩, hr, hlk, hC, hi⟩ := id C
  unfold D_X6_distance at hd
  have hinX6 : ∀ w ∈ wsX60, w ∈ wsX6_distance := by decide +kernel
  refine lv_aload_n hx hb dX6_distance_0 rfl (lv_at hl 0 rfl) ?_
  refine lv_iload_n hx hb dX6_distance_1 rfl (lv_at hl 1 rfl) ?_
  obtain ⟨r1, hr1, hd⟩ := Option.bind_eq_some_iff.mp hd
  refine sn_Vi (b := b) (rest := []) (As := [.int x1]) (st := st) C (c_X6_isNode hi hT hr1) (cwV 1 hts gX6_distance_X6_isNode rfl rfl rfl (by decide +kernel) ⟨Nat.le_of_ble_eq_true rfl, Nat.le_of_ble_eq_true rfl⟩) hP hS (sn_l0 hT.1 (by decide)) hT.2.1 rfl rfl hl.1 rfl (Nat.le_of_ble_eq_true rfl) dX6_distance_2 (fun H locs hP hS => ?_)
  refine lv_if_ne (tgt := 11) hx hb dX6_distance_5 (by decide) (fun hc => ?_) (fun hc => ?_)
  · replace hd := (if_neg hc).symm.trans hd
    refine lv_aload_n hx hb dX6_distance_11 rfl (lv_at hl 0 rfl) ?_
    obtain ⟨r2, hr2, hd⟩ := Option.bind_eq_some_iff.mp hd
    refine sn_Vv (b := b) (rest := []) (As := []) (st := st) C (c_X6_measure hi hT hr2) (cwV 0 hts gX6_distance_X6_measure rfl rfl rfl (by decide +kernel) ⟨Nat.le_of_ble_eq_true rfl, Nat.le_of_ble_eq_true rfl⟩) hP hS (sn_l0 hT.1 (by decide)) hT.2.1 rfl rfl hl.1 rfl (Nat.le_of_ble_eq_true rfl) dX6_distance_12 (fun H locs hP hS => ?_)
    refine lv_aload_n hx hb dX6_distance_15 rfl (lv_at hl 0 rfl) ?_
    refine sn_get (ci := 5) (Cn := RX6) (T := TX6) (n := 6) (v := .ref (g.2.2.2 (b + 4))) C hinX6 hP b (sn_l0 hT.1 (by decide)) hT.2.1 rfl 4 (by decide) (by decide +kernel) rfl rfl dX6_distance_16 ?_
    refine lv_iload_n hx hb dX6_distance_19 rfl (lv_at hl 1 rfl) ?_
    refine sn_ald C hP (b + 4) (sn_l hT.1 (by decide)) hT.2.2.2.2.2 hd dX6_distance_20 (fun k3 hk3 hd => ?_)
    have ho := Option.some.inj hd
    subst ho
    exact sn_ri C hP hS dX6_distance_21
  · replace hd := (if_pos hc).symm.trans hd
    refine lv_bipush (v := (-101 : Int32)) hx hb dX6_distance_8 (by decide) ?_
    have ho := Option.some.inj hd
    subst ho
    exact sn_ri C hP hS dX6_distance_10

set_option maxHeartbeats 4000000 in
set_option maxRecDepth 100000 in
theorem c_X6_wave {l : Launch} {g : sn_G} {tb : Nat → sn_K} {N : Nat} (hi : sn_I g N) {b : Nat} (hT : sn_Mo tb N b) {st : sn_S} {o : Int32 × sn_S} (hd : D_X6_wave b st = some o) : sn_Mi l yX6_wave wsX6_wave { frames := 0, cells := 0, slots := 0, locals := 0 } g tb N [.ref (g.2.2.2 b)] st o.1 o.2 := by
  refine sn_Mi.of (cc := cX6_wave) (nL := 1) (ret := (some .int)) hi (by decide) rfl (Nat.le_of_ble_eq_true rfl) ?_
  intro p e s m args below meth c ls C hP hS hl
  have hl : lv_has ls 1 [(0, .ref (g.2.2.2 b))] := hl
  obtain ⟨⟨hx, hb, hml, hown, hts⟩, hr, hlk, hC, hi⟩ := id C
  unfold D_X6_wave at hd
  have hinX6 : ∀ w ∈ wsX60, w ∈ wsX6_wave := by decide +kernel
  refine lv_aload_n hx hb dX6_wave_0 rfl (lv_at hl 0 rfl) ?_
  refine sn_get (ci := 5) (Cn := RX6) (T := TX6) (n := 6) (v := .ref (g.2.2.2 (b + 1))) C hinX6 hP b (sn_l0 hT.1 (by decide)) hT.2.1 rfl 0 (by decide) (by decide +kernel) rfl rfl dX6_wave_1 ?_
  refine lv_sipush (v := (371 : Int32)) hx hb dX6_wave_4 (by decide) ?_
  refine lv_aload_n hx hb dX6_wave_7 rfl (lv_at hl 0 rfl) ?_
  refine sn_get (ci := 5) (Cn := RX6) (T := TX6) (n := 6) (v := .ref (g.2.2.2 (b + 1))) C hinX6 hP b (sn_l0 hT.1 (by decide)) hT.2.1 rfl 0 (by decide) (by decide +kernel) rfl rfl dX6_wave_8 ?_
  refine lv_sipush (v := (369 : Int32)) hx hb dX6_wave_11 (by decide) ?_
  refine sn_aldc (k := 369) C hP (b + 1) (sn_l hT.1 (by decide)) hT.2.2.1 (by decide +kernel) dX6_wave_14 ?_
  refine sn_astc (k := 371) C hP hS (b + 1) (sn_l hT.1 (by decide)) hT.2.2.1 (by decide +kernel) dX6_wave_15 (fun H locs hP hS => ?_)
  refine lv_aload_n hx hb dX6_wave_16 rfl (lv_at hl 0 rfl) ?_
  refine sn_get (ci := 5) (Cn := RX6) (T := TX6) (n := 6) (v := .ref (g.2.2.2 (b + 1))) C hinX6 hP b (sn_l0 hT.1 (by decide)) hT.2.1 rfl 0 (by decide) (by decide +kernel) rfl rfl dX6_wave_17 ?_
  refine lv_sipush (v := (368 : Int32)) hx hb dX6_wave_20 (by decide) ?_
  refine sn_aldc (k := 368) C hP (b + 1) (sn_l hT.1 (by decide)) hT.2.2.1 (by decide +kernel) dX6_wave_23 ?_
  have ho := Option.some.inj hd
  subst ho
  exact sn_ri C hP hS dX6_wave_24

set_option maxHeartbeats 4000000 in
set_option maxRecDepth 100000 in
theorem c_X6_entries {l : Launch} {g : sn_G} {tb : Nat → sn_K} {N : Nat} (hi : sn_I g N) {b : Nat} {x1 : Int32} (hT : sn_Mo tb N b) {st : sn_S} {o : Int32} (hd : D_X6_entries b x1 st = some o) : sn_Mi l yX6_entries wsX6_entries { frames := 2, cells := 0, slots := 0, locals := 43 } g tb N [.ref (g.2.2.2 b), .int x1] st o st := by
  refine sn_Mi.of (cc := cX6_entries) (nL := 2) (ret := (some .int)) hi (by decide) rfl (Nat.le_of_ble_eq_true rfl) ?_
  intro p e s m args below meth c ls C hP hS hl
  have hl : lv_has ls 2 [(0, .ref (g.2.2.2 b)), (1, .int x1)] := hl
  obtain ⟨⟨hx, hb, hml, hown, hts⟩, hr, hlk, hC, hi⟩ := id C
  unfold D_X6_entries at hd
  have hinX6 : ∀ w ∈ wsX60, w ∈ wsX6_entries := by decide +kernel
  refine lv_aload_n hx hb dX6_entries_0 rfl (lv_at hl 0 rfl) ?_
  refine lv_iload_n hx hb dX6_entries_1 rfl (lv_at hl 1 rfl) ?_
  obtain ⟨r1, hr1, hd⟩ := Option.bind_eq_some_iff.mp hd
  refine sn_Vi (b := b) (rest := []) (As := [.int x1]) (st := st) C (c_X6_isNode hi hT hr1) (cwV 1 hts gX6_entries_X6_isNode rfl rfl rfl (by decide +kernel) ⟨Nat.le_of_ble_eq_true rfl, Nat.le_of_ble_eq_true rfl⟩) hP hS (sn_l0 hT.1 (by decide)) hT.2.1 rfl rfl hl.1 rfl (Nat.le_of_ble_eq_true rfl) dX6_entries_2 (fun H locs hP hS => ?_)
  refine lv_if_eq (tgt := 20) hx hb dX6_entries_5 (by decide) (fun hc => ?_) (fun hc => ?_)
  · replace hd := (if_pos hc).symm.trans hd
    refine lv_bipush (v := (-101 : Int32)) hx hb dX6_entries_20 (by decide) ?_
    have ho := Option.some.inj hd
    subst ho
    exact sn_ri C hP hS dX6_entries_22
  · replace hd := (if_neg hc).symm.trans hd
    refine lv_aload_n hx hb dX6_entries_8 rfl (lv_at hl 0 rfl) ?_
    refine sn_get (ci := 5) (Cn := RX6) (T := TX6) (n := 6) (v := .ref (g.2.2.2 (b + 1))) C hinX6 hP b (sn_l0 hT.1 (by decide)) hT.2.1 rfl 0 (by decide) (by decide +kernel) rfl rfl dX6_entries_9 ?_
    refine lv_bipush (v := (60 : Int32)) hx hb dX6_entries_12 (by decide) ?_
    refine lv_iload_n hx hb dX6_entries_14 rfl (lv_at hl 1 rfl) ?_
    refine lv_iadd hx hb dX6_entries_15 ?_
    refine sn_ald C hP (b + 1) (sn_l hT.1 (by decide)) hT.2.2.1 hd dX6_entries_16 (fun k2 hk2 hd => ?_)
    refine lv_goto (tgt := 22) hx hb dX6_entries_17 (by decide) ?_
    have ho := Option.some.inj hd
    subst ho
    exact sn_ri C hP hS dX6_entries_22

set_option maxHeartbeats 4000000 in
set_option maxRecDepth 100000 in
theorem c_X6_count {l : Launch} {g : sn_G} {tb : Nat → sn_K} {N : Nat} (hi : sn_I g N) {b : Nat} {x1 : Int32} (hT : sn_Mo tb N b) {st : sn_S} {o : Int32} (hd : D_X6_count b x1 st = some o) : sn_Mi l yX6_count wsX6_count { frames := 1, cells := 0, slots := 0, locals := 22 } g tb N [.ref (g.2.2.2 b), .int x1] st o st := by
  refine sn_Mi.of (cc := cX6_count) (nL := 2) (ret := (some .int)) hi (by decide) rfl (Nat.le_of_ble_eq_true rfl) ?_
  intro p e s m args below meth c ls C hP hS hl
  have hl : lv_has ls 2 [(0, .ref (g.2.2.2 b)), (1, .int x1)] := hl
  obtain ⟨⟨hx, hb, hml, hown, hts⟩, hr, hlk, hC, hi⟩ := id C
  unfold D_X6_count at hd
  have hinX6 : ∀ w ∈ wsX60, w ∈ wsX6_count := by decide +kernel
  refine lv_iload_n hx hb dX6_count_0 rfl (lv_at hl 1 rfl) ?_
  by_cases hs1_0 : x1 = (0 : Int32)
  · replace hd := (if_pos hs1_0).symm.trans hd
    refine lv_tableIn (off := 35) (tgt := 36) hx hb dX6_count_1 (by rw [hs1_0]; decide) (by rw [hs1_0]; decide) (by rw [hs1_0]; rfl) (by decide) ?_
    refine lv_aload_n hx hb dX6_count_36 rfl (lv_at hl 0 rfl) ?_
    refine sn_get (ci := 5) (Cn := RX6) (T := TX6) (n := 6) (v := .ref (g.2.2.2 (b + 1))) C hinX6 hP b (sn_l0 hT.1 (by decide)) hT.2.1 rfl 0 (by decide) (by decide +kernel) rfl rfl dX6_count_37 ?_
    refine lv_sipush (v := (360 : Int32)) hx hb dX6_count_40 (by decide) ?_
    refine sn_aldc (k := 360) C hP (b + 1) (sn_l hT.1 (by decide)) hT.2.2.1 (by decide +kernel) dX6_count_43 ?_
    have ho := Option.some.inj hd
    subst ho
    exact sn_ri C hP hS dX6_count_44
  replace hd := (if_neg hs1_0).symm.trans hd
  by_cases hs1_1 : x1 = (1 : Int32)
  · replace hd := (if_pos hs1_1).symm.trans hd
    refine lv_tableIn (off := 44) (tgt := 45) hx hb dX6_count_1 (by rw [hs1_1]; decide) (by rw [hs1_1]; decide) (by rw [hs1_1]; rfl) (by decide) ?_
    refine lv_aload_n hx hb dX6_count_45 rfl (lv_at hl 0 rfl) ?_
    obtain ⟨r1, hr1, hd⟩ := Option.bind_eq_some_iff.mp hd
    refine sn_Vi (b := b) (rest := []) (As := []) (st := st) C (c_X6_links hi hT hr1) (cwV 0 hts gX6_count_X6_links rfl rfl rfl (by decide +kernel) ⟨Nat.le_of_ble_eq_true rfl, Nat.le_of_ble_eq_true rfl⟩) hP hS (sn_l0 hT.1 (by decide)) hT.2.1 rfl rfl hl.1 rfl (Nat.le_of_ble_eq_true rfl) dX6_count_46 (fun H locs hP hS => ?_)
    have ho := Option.some.inj hd
    subst ho
    exact sn_ri C hP hS dX6_count_49
  replace hd := (if_neg hs1_1).symm.trans hd
  by_cases hs1_2 : x1 = (2 : Int32)
  · replace hd := (if_pos hs1_2).symm.trans hd
    refine lv_tableIn (off := 49) (tgt := 50) hx hb dX6_count_1 (by rw [hs1_2]; decide) (by rw [hs1_2]; decide) (by rw [hs1_2]; rfl) (by decide) ?_
    refine lv_aload_n hx hb dX6_count_50 rfl (lv_at hl 0 rfl) ?_
    refine sn_get (ci := 5) (Cn := RX6) (T := TX6) (n := 6) (v := .ref (g.2.2.2 (b + 1))) C hinX6 hP b (sn_l0 hT.1 (by decide)) hT.2.1 rfl 0 (by decide) (by decide +kernel) rfl rfl dX6_count_51 ?_
    refine lv_sipush (v := (362 : Int32)) hx hb dX6_count_54 (by decide) ?_
    refine sn_aldc (k := 362) C hP (b + 1) (sn_l hT.1 (by decide)) hT.2.2.1 (by decide +kernel) dX6_count_57 ?_
    have ho := Option.some.inj hd
    subst ho
    exact sn_ri C hP hS dX6_count_58
  replace hd := (if_neg hs1_2).symm.trans hd
  by_cases hs1_3 : x1 = (3 : Int32)
  · replace hd := (if_pos hs1_3).symm.trans hd
    refine lv_tableIn (off := 58) (tgt := 59) hx hb dX6_count_1 (by rw [hs1_3]; decide) (by rw [hs1_3]; decide) (by rw [hs1_3]; rfl) (by decide) ?_
    refine lv_aload_n hx hb dX6_count_59 rfl (lv_at hl 0 rfl) ?_
    refine sn_get (ci := 5) (Cn := RX6) (T := TX6) (n := 6) (v := .ref (g.2.2.2 (b + 1))) C hinX6 hP b (sn_l0 hT.1 (by decide)) hT.2.1 rfl 0 (by decide) (by decide +kernel) rfl rfl dX6_count_60 ?_
    refine lv_sipush (v := (363 : Int32)) hx hb dX6_count_63 (by decide) ?_
    refine sn_aldc (k := 363) C hP (b + 1) (sn_l hT.1 (by decide)) hT.2.2.1 (by decide +kernel) dX6_count_66 ?_
    have ho := Option.some.inj hd
    subst ho
    exact sn_ri C hP hS dX6_count_67
  replace hd := (if_neg hs1_3).symm.trans hd
  by_cases hs1_4 : x1 = (4 : Int32)
  · replace hd := (if_pos hs1_4).symm.trans hd
    refine lv_tableIn (off := 67) (tgt := 68) hx hb dX6_count_1 (by rw [hs1_4]; decide) (by rw [hs1_4]; decide) (by rw [hs1_4]; rfl) (by decide) ?_
    refine lv_aload_n hx hb dX6_count_68 rfl (lv_at hl 0 rfl) ?_
    refine sn_get (ci := 5) (Cn := RX6) (T := TX6) (n := 6) (v := .ref (g.2.2.2 (b + 1))) C hinX6 hP b (sn_l0 hT.1 (by decide)) hT.2.1 rfl 0 (by decide) (by decide +kernel) rfl rfl dX6_count_69 ?_
    refine lv_sipush (v := (361 : Int32)) hx hb dX6_count_72 (by decide) ?_
    refine sn_aldc (k := 361) C hP (b + 1) (sn_l hT.1 (by decide)) hT.2.2.1 (by decide +kernel) dX6_count_75 ?_
    have ho := Option.some.inj hd
    subst ho
    exact sn_ri C hP hS dX6_count_76
  replace hd := (if_neg hs1_4).symm.trans hd
  refine lv_tableOut (tgt := 77) hx hb dX6_count_1 (by have q0 := lv_neT (a := 0) hs1_0 (by decide); have q1 := lv_neT (a := 1) hs1_1 (by decide); have q2 := lv_neT (a := 2) hs1_2 (by decide); have q3 := lv_neT (a := 3) hs1_3 (by decide); have q4 := lv_neT (a := 4) hs1_4 (by decide); omega) (by decide) ?_
  refine lv_iload_n hx hb dX6_count_77 rfl (lv_at hl 1 rfl) ?_
  refine lv_iconst (v := (5 : Int32)) hx hb dX6_count_78 (by decide) ?_
  refine lv_bipush (v := (8 : Int32)) hx hb dX6_count_79 (by decide) ?_
  obtain ⟨r2, hr2, hd⟩ := Option.bind_eq_some_iff.mp hd
  refine sn_Si (rest := []) (As := [.int x1, .int (5 : Int32), .int (8 : Int32)]) (st := st) C (c_X6_in hi  hr2) (va_cwS 3 hts gX6_count_X6_in rfl rfl rfl (by decide +kernel) ⟨Nat.le_of_ble_eq_true rfl, Nat.le_of_ble_eq_true rfl⟩) hP hS rfl hl.1 rfl (Nat.le_of_ble_eq_true rfl) dX6_count_81 (fun H locs hP hS => ?_)
  refine lv_if_eq (tgt := 102) hx hb dX6_count_84 (by decide) (fun hc => ?_) (fun hc => ?_)
  · replace hd := (if_pos hc).symm.trans hd
    refine lv_bipush (v := (-102 : Int32)) hx hb dX6_count_102 (by decide) ?_
    have ho := Option.some.inj hd
    subst ho
    exact sn_ri C hP hS dX6_count_104
  · replace hd := (if_neg hc).symm.trans hd
    refine lv_aload_n hx hb dX6_count_87 rfl (lv_at hl 0 rfl) ?_
    refine sn_get (ci := 5) (Cn := RX6) (T := TX6) (n := 6) (v := .ref (g.2.2.2 (b + 1))) C hinX6 hP b (sn_l0 hT.1 (by decide)) hT.2.1 rfl 0 (by decide) (by decide +kernel) rfl rfl dX6_count_88 ?_
    refine lv_sipush (v := (364 : Int32)) hx hb dX6_count_91 (by decide) ?_
    refine lv_iload_n hx hb dX6_count_94 rfl (lv_at hl 1 rfl) ?_
    refine lv_iadd hx hb dX6_count_95 ?_
    refine lv_iconst (v := (5 : Int32)) hx hb dX6_count_96 (by decide) ?_
    refine lv_isub hx hb dX6_count_97 ?_
    refine sn_ald C hP (b + 1) (sn_l hT.1 (by decide)) hT.2.2.1 hd dX6_count_98 (fun k3 hk3 hd => ?_)
    refine lv_goto (tgt := 104) hx hb dX6_count_99 (by decide) ?_
    have ho := Option.some.inj hd
    subst ho
    exact sn_ri C hP hS dX6_count_104

set_option maxHeartbeats 4000000 in
set_option maxRecDepth 100000 in
theorem t_X6_keep_L2 {p : Program} {l : Launch} {e : Env} {s : State} {m : MethodId} {args : Array Value} {below : List Frame} {meth : Method} {c : Code} {g : sn_G} {tb : Nat → sn_K} {N : Nat} {b : Nat} {o : Int32 × sn_S} (C : sn_Cx p s m args meth c g N cX6_keep 2 wsX6_keep yX6_keep.cls (some .int)) (hT : sn_Mo tb N b)  : ∀ (n : Nat) (x1 : Int32) (st : sn_S) (H : Heap) (locs : List Loc) (ls : Array Slot), D_X6_keep_L2 b n x1 st = some o → va_P g.1 vwCl (sn_W g tb N st) H → va_S (sn_A g N) s.heap H locs → lv_has ls 2 [(0, .ref (g.2.2.2 b)), (1, .int x1)] → W p l e { frames := 0, cells := 0, slots := 0, locals := 0 } s m args below meth c H locs 0 0 (MQ below (sn_Qi g tb N o.1 o.2) args s 0 0 (sn_A g N)) (F0 m 2 ls []) := by
  obtain ⟨⟨hx, hb, hml, hown, hts⟩, hr, hlk, hC, hi⟩ := id C
  have hinX6 : ∀ w ∈ wsX60, w ∈ wsX6_keep := by decide +kernel
  intro n
  induction n with
  | zero => intro _ _ _ _ _ hd; exact nomatch (show (none : Option (Int32 × sn_S)) = some o from hd)
  | succ n ih =>
    intro x1 st H locs ls hd hP hS hl
    replace hd := (D_X6_keep_L2.eq_2 _ _ _ _).symm.trans hd
    refine lv_iload_n hx hb dX6_keep_2 rfl (lv_at hl 1 rfl) ?_
    refine lv_sipush (v := (374 : Int32)) hx hb dX6_keep_3 (by decide) ?_
    refine lv_icmp_ge (tgt := 27) hx hb dX6_keep_6 (by decide) (fun hc => ?_) (fun hc => ?_)
    · replace hd := (if_pos hc).symm.trans hd
      refine lv_aload_n hx hb dX6_keep_27 rfl (lv_at hl 0 rfl) ?_
      refine lv_iconst (v := (1 : Int32)) hx hb dX6_keep_28 (by decide) ?_
      refine sn_pf (ci := 5) (Cn := RX6) (T := TX6) (n := 6) (ty0 := tyX6) C hinX6 tyX6_ok nmX6 hP hS b (sn_l0 hT.1 (by decide)) hT.2.1 rfl 2 (by decide) (by decide +kernel) rfl rfl rfl rfl rfl dX6_keep_29 (fun H locs hP hS => ?_)
      refine lv_iconst (v := (1 : Int32)) hx hb dX6_keep_32 (by decide) ?_
      have ho := Option.some.inj hd
      subst ho
      exact sn_ri C hP hS dX6_keep_33
    · replace hd := (if_neg hc).symm.trans hd
      refine lv_aload_n hx hb dX6_keep_9 rfl (lv_at hl 0 rfl) ?_
      refine sn_get (ci := 5) (Cn := RX6) (T := TX6) (n := 6) (v := .ref (g.2.2.2 (b + 2))) C hinX6 hP b (sn_l0 hT.1 (by decide)) hT.2.1 rfl 1 (by decide) (by decide +kernel) rfl rfl dX6_keep_10 ?_
      refine lv_iload_n hx hb dX6_keep_13 rfl (lv_at hl 1 rfl) ?_
      refine lv_aload_n hx hb dX6_keep_14 rfl (lv_at hl 0 rfl) ?_
      refine sn_get (ci := 5) (Cn := RX6) (T := TX6) (n := 6) (v := .ref (g.2.2.2 (b + 1))) C hinX6 hP b (sn_l0 hT.1 (by decide)) hT.2.1 rfl 0 (by decide) (by decide +kernel) rfl rfl dX6_keep_15 ?_
      refine lv_iload_n hx hb dX6_keep_18 rfl (lv_at hl 1 rfl) ?_
      refine sn_ald C hP (b + 1) (sn_l hT.1 (by decide)) hT.2.2.1 hd dX6_keep_19 (fun k1 hk1 hd => ?_)
      refine sn_ast C hP hS (b + 2) (sn_l hT.1 (by decide)) hT.2.2.2.1 hd dX6_keep_20 (fun k2 H locs hk2 hd hP hS => ?_)
      refine lv_iinc (v := (x1 + (1 : Int32))) (lv' := [(1, .int (x1 + (1 : Int32))), (0, .ref (g.2.2.2 b))]) hx hb dX6_keep_21 hl (k := 1) rfl rfl (by decide) rfl (fun ls hl => ?_)
      refine lv_goto (tgt := 2) hx hb dX6_keep_24 (by decide) ?_
      exact ih (x1 + (1 : Int32)) (sn_wr st (b + 2) k2 (st.1 (b + 1) k1)) _ _ _ hd hP hS (lv_sub hl [1, 0] rfl)

set_option maxHeartbeats 4000000 in
set_option maxRecDepth 100000 in
theorem c_X6_keep {l : Launch} {g : sn_G} {tb : Nat → sn_K} {N : Nat} (hi : sn_I g N) {b : Nat} (hT : sn_Mo tb N b) {st : sn_S} {o : Int32 × sn_S} (hd : D_X6_keep b st = some o) : sn_Mi l yX6_keep wsX6_keep { frames := 0, cells := 0, slots := 0, locals := 0 } g tb N [.ref (g.2.2.2 b)] st o.1 o.2 := by
  refine sn_Mi.of (cc := cX6_keep) (nL := 2) (ret := (some .int)) hi (by decide) rfl (Nat.le_of_ble_eq_true rfl) ?_
  intro p e s m args below meth c ls C hP hS hl
  have hl : lv_has ls 2 [(0, .ref (g.2.2.2 b))] := hl
  obtain ⟨⟨hx, hb, hml, hown, hts⟩, hr, hlk, hC, hi⟩ := id C
  unfold D_X6_keep at hd
  have hinX6 : ∀ w ∈ wsX60, w ∈ wsX6_keep := by decide +kernel
  refine lv_iconst (v := (0 : Int32)) hx hb dX6_keep_0 (by decide) ?_
  refine lv_istore_n (lv' := [(1, .int (0 : Int32)), (0, .ref (g.2.2.2 b))]) hx hb dX6_keep_1 rfl hl (by decide) rfl (fun ls hl => ?_)
  exact t_X6_keep_L2 C hT 4096 (0 : Int32) st _ _ _ hd hP hS (lv_sub hl [1, 0] rfl)

set_option maxHeartbeats 4000000 in
set_option maxRecDepth 100000 in
theorem t_X6_back_L12 {p : Program} {l : Launch} {e : Env} {s : State} {m : MethodId} {args : Array Value} {below : List Frame} {meth : Method} {c : Code} {g : sn_G} {tb : Nat → sn_K} {N : Nat} {b : Nat} {o : Int32 × sn_S} (C : sn_Cx p s m args meth c g N cX6_back 2 wsX6_back yX6_back.cls (some .int)) (hT : sn_Mo tb N b)  : ∀ (n : Nat) (x1 : Int32) (st : sn_S) (H : Heap) (locs : List Loc) (ls : Array Slot), D_X6_back_L12 b n x1 st = some o → va_P g.1 vwCl (sn_W g tb N st) H → va_S (sn_A g N) s.heap H locs → lv_has ls 2 [(0, .ref (g.2.2.2 b)), (1, .int x1)] → W p l e { frames := 0, cells := 0, slots := 0, locals := 0 } s m args below meth c H locs 0 0 (MQ below (sn_Qi g tb N o.1 o.2) args s 0 0 (sn_A g N)) (F0 m 12 ls []) := by
  obtain ⟨⟨hx, hb, hml, hown, hts⟩, hr, hlk, hC, hi⟩ := id C
  have hinX6 : ∀ w ∈ wsX60, w ∈ wsX6_back := by decide +kernel
  intro n
  induction n with
  | zero => intro _ _ _ _ _ hd; exact nomatch (show (none : Option (Int32 × sn_S)) = some o from hd)
  | succ n ih =>
    intro x1 st H locs ls hd hP hS hl
    replace hd := (D_X6_back_L12.eq_2 _ _ _ _).symm.trans hd
    refine lv_iload_n hx hb dX6_back_12 rfl (lv_at hl 1 rfl) ?_
    refine lv_sipush (v := (374 : Int32)) hx hb dX6_back_13 (by decide) ?_
    refine lv_icmp_ge (tgt := 37) hx hb dX6_back_16 (by decide) (fun hc => ?_) (fun hc => ?_)
    · replace hd := (if_pos hc).symm.trans hd
      refine lv_iconst (v := (1 : Int32)) hx hb dX6_back_37 (by decide) ?_
      have ho := Option.some.inj hd
      subst ho
      exact sn_ri C hP hS dX6_back_38
    · replace hd := (if_neg hc).symm.trans hd
      refine lv_aload_n hx hb dX6_back_19 rfl (lv_at hl 0 rfl) ?_
      refine sn_get (ci := 5) (Cn := RX6) (T := TX6) (n := 6) (v := .ref (g.2.2.2 (b + 1))) C hinX6 hP b (sn_l0 hT.1 (by decide)) hT.2.1 rfl 0 (by decide) (by decide +kernel) rfl rfl dX6_back_20 ?_
      refine lv_iload_n hx hb dX6_back_23 rfl (lv_at hl 1 rfl) ?_
      refine lv_aload_n hx hb dX6_back_24 rfl (lv_at hl 0 rfl) ?_
      refine sn_get (ci := 5) (Cn := RX6) (T := TX6) (n := 6) (v := .ref (g.2.2.2 (b + 2))) C hinX6 hP b (sn_l0 hT.1 (by decide)) hT.2.1 rfl 1 (by decide) (by decide +kernel) rfl rfl dX6_back_25 ?_
      refine lv_iload_n hx hb dX6_back_28 rfl (lv_at hl 1 rfl) ?_
      refine sn_ald C hP (b + 2) (sn_l hT.1 (by decide)) hT.2.2.2.1 hd dX6_back_29 (fun k1 hk1 hd => ?_)
      refine sn_ast C hP hS (b + 1) (sn_l hT.1 (by decide)) hT.2.2.1 hd dX6_back_30 (fun k2 H locs hk2 hd hP hS => ?_)
      refine lv_iinc (v := (x1 + (1 : Int32))) (lv' := [(1, .int (x1 + (1 : Int32))), (0, .ref (g.2.2.2 b))]) hx hb dX6_back_31 hl (k := 1) rfl rfl (by decide) rfl (fun ls hl => ?_)
      refine lv_goto (tgt := 12) hx hb dX6_back_34 (by decide) ?_
      exact ih (x1 + (1 : Int32)) (sn_wr st (b + 1) k2 (st.1 (b + 2) k1)) _ _ _ hd hP hS (lv_sub hl [1, 0] rfl)

set_option maxHeartbeats 4000000 in
set_option maxRecDepth 100000 in
theorem c_X6_back {l : Launch} {g : sn_G} {tb : Nat → sn_K} {N : Nat} (hi : sn_I g N) {b : Nat} (hT : sn_Mo tb N b) {st : sn_S} {o : Int32 × sn_S} (hd : D_X6_back b st = some o) : sn_Mi l yX6_back wsX6_back { frames := 0, cells := 0, slots := 0, locals := 0 } g tb N [.ref (g.2.2.2 b)] st o.1 o.2 := by
  refine sn_Mi.of (cc := cX6_back) (nL := 2) (ret := (some .int)) hi (by decide) rfl (Nat.le_of_ble_eq_true rfl) ?_
  intro p e s m args below meth c ls C hP hS hl
  have hl : lv_has ls 2 [(0, .ref (g.2.2.2 b))] := hl
  obtain ⟨⟨hx, hb, hml, hown, hts⟩, hr, hlk, hC, hi⟩ := id C
  unfold D_X6_back at hd
  have hinX6 : ∀ w ∈ wsX60, w ∈ wsX6_back := by decide +kernel
  refine lv_aload_n hx hb dX6_back_0 rfl (lv_at hl 0 rfl) ?_
  refine sn_get (ci := 5) (Cn := RX6) (T := TX6) (n := 6) (v := .int (st.1 b 2)) C hinX6 hP b (sn_l0 hT.1 (by decide)) hT.2.1 rfl 2 (by decide) (by decide +kernel) rfl rfl dX6_back_1 ?_
  refine lv_if_ne (tgt := 10) hx hb dX6_back_4 (by decide) (fun hc => ?_) (fun hc => ?_)
  · replace hd := (if_neg hc).symm.trans hd
    refine lv_iconst (v := (0 : Int32)) hx hb dX6_back_10 (by decide) ?_
    refine lv_istore_n (lv' := [(1, .int (0 : Int32)), (0, .ref (g.2.2.2 b))]) hx hb dX6_back_11 rfl hl (by decide) rfl (fun ls hl => ?_)
    exact t_X6_back_L12 C hT 4096 (0 : Int32) st _ _ _ hd hP hS (lv_sub hl [1, 0] rfl)
  · replace hd := (if_pos hc).symm.trans hd
    refine lv_bipush (v := (-103 : Int32)) hx hb dX6_back_7 (by decide) ?_
    have ho := Option.some.inj hd
    subst ho
    exact sn_ri C hP hS dX6_back_9

set_option maxHeartbeats 4000000 in
set_option maxRecDepth 100000 in
theorem c_X6_mix {l : Launch} {g : sn_G} {tb : Nat → sn_K} {N : Nat} (hi : sn_I g N) {b : Nat} {j1 : Int64} (hT : sn_Mo tb N b) {st : sn_S} {o : sn_S} (hd : D_X6_mix b j1 st = some o) : sn_Mv l yX6_mix wsX6_mix { frames := 0, cells := 0, slots := 0, locals := 0 } g tb N [.ref (g.2.2.2 b), .long j1] st o := by
  refine sn_Mv.of (cc := cX6_mix) (nL := 3) (ret := none) hi (by decide) rfl (Nat.le_of_ble_eq_true rfl) ?_
  intro p e s m args below meth c ls C hP hS hl
  have hl : lv_has ls 3 [(0, .ref (g.2.2.2 b)), (1, .long j1)] := hl
  obtain ⟨⟨hx, hb, hml, hown, hts⟩, hr, hlk, hC, hi⟩ := id C
  unfold D_X6_mix at hd
  have hinX6 : ∀ w ∈ wsX60, w ∈ wsX6_mix := by decide +kernel
  refine lv_aload_n hx hb dX6_mix_0 rfl (lv_at hl 0 rfl) ?_
  refine lv_ldc2 (v := 31) hx hb hown (hts (.constantLong RX6 140 (31)) (by decide +kernel)) dX6_mix_1 ?_
  refine lv_aload_n hx hb dX6_mix_4 rfl (lv_at hl 0 rfl) ?_
  refine sn_get (ci := 5) (Cn := RX6) (T := TX6) (n := 6) (v := .long (st.2 b)) C hinX6 hP b (sn_l0 hT.1 (by decide)) hT.2.1 rfl 5 (by decide) (by decide +kernel) rfl rfl dX6_mix_5 ?_
  refine lv_lmul hx hb dX6_mix_8 ?_
  refine lv_lload_n hx hb dX6_mix_9 rfl (lv_at hl 1 rfl) ?_
  refine lv_ladd hx hb dX6_mix_10 ?_
  refine sn_pl (ci := 5) (Cn := RX6) (T := TX6) (n := 6) (ty0 := tyX6) C hinX6 tyX6_ok nmX6 hP hS b (sn_l0 hT.1 (by decide)) hT.2.1 rfl 5 (by decide) (by decide +kernel) rfl rfl rfl rfl rfl (Nat.le_of_ble_eq_true rfl) dX6_mix_11 (fun H locs hP hS => ?_)
  have ho := Option.some.inj hd
  subst ho
  exact sn_rv C hP hS dX6_mix_14

set_option maxHeartbeats 4000000 in
set_option maxRecDepth 100000 in
theorem t_X6_digest_L118 {p : Program} {l : Launch} {e : Env} {s : State} {m : MethodId} {args : Array Value} {below : List Frame} {meth : Method} {c : Code} {g : sn_G} {tb : Nat → sn_K} {N : Nat} {b : Nat} {x1 : Int32} {K : Int32 → sn_S → Option (Int64 × sn_S)} {o : Int64 × sn_S} (C : sn_Cx p s m args meth c g N cX6_digest 3 wsX6_digest yX6_digest.cls (some .long)) (hT : sn_Mo tb N b)  (hK : ∀ (x1 : Int32) (st : sn_S) (H : Heap) (locs : List Loc) (ls : Array Slot), K x1 st = some o → va_P g.1 vwCl (sn_W g tb N st) H → va_S (sn_A g N) s.heap H locs → lv_has ls 3 [(0, .ref (g.2.2.2 b)), (1, .int x1)] → W p l e { frames := 3, cells := 0, slots := 0, locals := 65 } s m args below meth c H locs 0 0 (MQ below (sn_Ql g tb N o.1 o.2) args s 0 0 (sn_A g N)) (F0 m 35 ls [])) : ∀ (n : Nat) (x2 : Int32) (st : sn_S) (H : Heap) (locs : List Loc) (ls : Array Slot), D_X6_digest_L118 b x1 K n x2 st = some o → va_P g.1 vwCl (sn_W g tb N st) H → va_S (sn_A g N) s.heap H locs → lv_has ls 3 [(0, .ref (g.2.2.2 b)), (1, .int x1), (2, .int x2)] → W p l e { frames := 3, cells := 0, slots := 0, locals := 65 } s m args below meth c H locs 0 0 (MQ below (sn_Ql g tb N o.1 o.2) args s 0 0 (sn_A g N)) (F0 m 118 ls []) := by
  obtain ⟨⟨hx, hb, hml, hown, hts⟩, hr, hlk, hC, hi⟩ := id C
  have hinX6 : ∀ w ∈ wsX60, w ∈ wsX6_digest := by decide +kernel
  intro n
  induction n with
  | zero => intro _ _ _ _ _ hd; exact nomatch (show (none : Option (Int64 × sn_S)) = some o from hd)
  | succ n ih =>
    intro x2 st H locs ls hd hP hS hl
    replace hd := (D_X6_digest_L118.eq_2 _ _ _ _ _ _).symm.trans hd
    refine lv_iload_n hx hb dX6_digest_118 rfl (lv_at hl 2 rfl) ?_
    refine lv_aload_n hx hb dX6_digest_119 rfl (lv_at hl 0 rfl) ?_
    refine sn_get (ci := 5) (Cn := RX6) (T := TX6) (n := 6) (v := .ref (g.2.2.2 (b + 1))) C hinX6 hP b (sn_l0 hT.1 (by decide)) hT.2.1 rfl 0 (by decide) (by decide +kernel) rfl rfl dX6_digest_120 ?_
    refine lv_sipush (v := (360 : Int32)) hx hb dX6_digest_123 (by decide) ?_
    refine sn_aldc (k := 360) C hP (b + 1) (sn_l hT.1 (by decide)) hT.2.2.1 (by decide +kernel) dX6_digest_126 ?_
    refine lv_icmp_ge (tgt := 186) hx hb dX6_digest_127 (by decide) (fun hc => ?_) (fun hc => ?_)
    · replace hd := (if_pos hc).symm.trans hd
      refine lv_aload_n hx hb dX6_digest_186 rfl (lv_at hl 0 rfl) ?_
      refine lv_aload_n hx hb dX6_digest_187 rfl (lv_at hl 0 rfl) ?_
      refine sn_get (ci := 5) (Cn := RX6) (T := TX6) (n := 6) (v := .ref (g.2.2.2 (b + 1))) C hinX6 hP b (sn_l0 hT.1 (by decide)) hT.2.1 rfl 0 (by decide) (by decide +kernel) rfl rfl dX6_digest_188 ?_
      refine lv_bipush (v := (60 : Int32)) hx hb dX6_digest_191 (by decide) ?_
      refine lv_iload_n hx hb dX6_digest_193 rfl (lv_at hl 1 rfl) ?_
      refine lv_iadd hx hb dX6_digest_194 ?_
      refine sn_ald C hP (b + 1) (sn_l hT.1 (by decide)) hT.2.2.1 hd dX6_digest_195 (fun k14 hk14 hd => ?_)
      refine lv_i2l (v := (st.1 (b + 1) k14).toInt64) hx hb dX6_digest_196 rfl ?_
      obtain ⟨r15, hr15, hd⟩ := Option.bind_eq_some_iff.mp hd
      refine sn_Vv (b := b) (rest := []) (As := [.long ((st.1 (b + 1) k14).toInt64)]) (st := st) C (c_X6_mix hi hT hr15) (cwV 1 hts gX6_digest_X6_mix rfl rfl rfl (by decide +kernel) ⟨Nat.le_of_ble_eq_true rfl, Nat.le_of_ble_eq_true rfl⟩) hP hS (sn_l0 hT.1 (by decide)) hT.2.1 rfl rfl hl.1 rfl (Nat.le_of_ble_eq_true rfl) dX6_digest_197 (fun H locs hP hS => ?_)
      refine lv_iinc (v := (x1 + (1 : Int32))) (lv' := [(1, .int (x1 + (1 : Int32))), (0, .ref (g.2.2.2 b)), (2, .int x2)]) hx hb dX6_digest_200 hl (k := 1) rfl rfl (by decide) rfl (fun ls hl => ?_)
      refine lv_goto (tgt := 35) hx hb dX6_digest_203 (by decide) ?_
      exact hK (x1 + (1 : Int32)) r15 _ _ _ hd hP hS (lv_sub hl [1, 0] rfl)
    · replace hd := (if_neg hc).symm.trans hd
      refine lv_aload_n hx hb dX6_digest_130 rfl (lv_at hl 0 rfl) ?_
      refine lv_iload_n hx hb dX6_digest_131 rfl (lv_at hl 1 rfl) ?_
      refine lv_iload_n hx hb dX6_digest_132 rfl (lv_at hl 2 rfl) ?_
      obtain ⟨r16, hr16, hd⟩ := Option.bind_eq_some_iff.mp hd
      refine sn_Vi (b := b) (rest := []) (As := [.int x1, .int x2]) (st := st) C (c_X6_isLink hi hT hr16) (cwV 2 hts gX6_digest_X6_isLink rfl rfl rfl (by decide +kernel) ⟨Nat.le_of_ble_eq_true rfl, Nat.le_of_ble_eq_true rfl⟩) hP hS (sn_l0 hT.1 (by decide)) hT.2.1 rfl rfl hl.1 rfl (Nat.le_of_ble_eq_true rfl) dX6_digest_133 (fun H locs hP hS => ?_)
      refine lv_if_eq (tgt := 180) hx hb dX6_digest_136 (by decide) (fun hc => ?_) (fun hc => ?_)
      · replace hd := (if_pos hc).symm.trans hd
        refine lv_iinc (v := (x2 + (1 : Int32))) (lv' := [(2, .int (x2 + (1 : Int32))), (0, .ref (g.2.2.2 b)), (1, .int x1)]) hx hb dX6_digest_180 hl (k := 2) rfl rfl (by decide) rfl (fun ls hl => ?_)
        refine lv_goto (tgt := 118) hx hb dX6_digest_183 (by decide) ?_
        exact ih (x2 + (1 : Int32)) st _ _ _ hd hP hS (lv_sub hl [1, 2, 0] rfl)
      · replace hd := (if_neg hc).symm.trans hd
        refine lv_aload_n hx hb dX6_digest_139 rfl (lv_at hl 0 rfl) ?_
        refine lv_iload_n hx hb dX6_digest_140 rfl (lv_at hl 2 rfl) ?_
        refine lv_i2l (v := x2.toInt64) hx hb dX6_digest_141 rfl ?_
        obtain ⟨r17, hr17, hd⟩ := Option.bind_eq_some_iff.mp hd
        refine sn_Vv (b := b) (rest := []) (As := [.long x2.toInt64]) (st := st) C (c_X6_mix hi hT hr17) (cwV 1 hts gX6_digest_X6_mix rfl rfl rfl (by decide +kernel) ⟨Nat.le_of_ble_eq_true rfl, Nat.le_of_ble_eq_true rfl⟩) hP hS (sn_l0 hT.1 (by decide)) hT.2.1 rfl rfl hl.1 rfl (Nat.le_of_ble_eq_true rfl) dX6_digest_142 (fun H locs hP hS => ?_)
        refine lv_aload_n hx hb dX6_digest_145 rfl (lv_at hl 0 rfl) ?_
        refine lv_aload_n hx hb dX6_digest_146 rfl (lv_at hl 0 rfl) ?_
        refine sn_get (ci := 5) (Cn := RX6) (T := TX6) (n := 6) (v := .ref (g.2.2.2 (b + 1))) C hinX6 hP b (sn_l0 hT.1 (by decide)) hT.2.1 rfl 0 (by decide) (by decide +kernel) rfl rfl dX6_digest_147 ?_
        refine lv_sipush (v := (361 : Int32)) hx hb dX6_digest_150 (by decide) ?_
        refine sn_aldc (k := 361) C hP (b + 1) (sn_l hT.1 (by decide)) hT.2.2.1 (by decide +kernel) dX6_digest_153 ?_
        refine lv_iconst (v := (1 : Int32)) hx hb dX6_digest_154 (by decide) ?_
        refine lv_icmp_ne (tgt := 176) hx hb dX6_digest_155 (by decide) (fun hc => ?_) (fun hc => ?_)
        · replace hd := (if_neg hc).symm.trans hd
          refine lv_lconst (v := 0) hx hb dX6_digest_176 (by decide) ?_
          obtain ⟨r18, hr18, hd⟩ := Option.bind_eq_some_iff.mp hd
          refine sn_Vv (b := b) (rest := []) (As := [.long (0 : Int64)]) (st := r17) C (c_X6_mix hi hT hr18) (cwV 1 hts gX6_digest_X6_mix rfl rfl rfl (by decide +kernel) ⟨Nat.le_of_ble_eq_true rfl, Nat.le_of_ble_eq_true rfl⟩) hP hS (sn_l0 hT.1 (by decide)) hT.2.1 rfl rfl hl.1 rfl (Nat.le_of_ble_eq_true rfl) dX6_digest_177 (fun H locs hP hS => ?_)
          refine lv_iinc (v := (x2 + (1 : Int32))) (lv' := [(2, .int (x2 + (1 : Int32))), (0, .ref (g.2.2.2 b)), (1, .int x1)]) hx hb dX6_digest_180 hl (k := 2) rfl rfl (by decide) rfl (fun ls hl => ?_)
          refine lv_goto (tgt := 118) hx hb dX6_digest_183 (by decide) ?_
          exact ih (x2 + (1 : Int32)) r18 _ _ _ hd hP hS (lv_sub hl [1, 2, 0] rfl)
        · replace hd := (if_pos hc).symm.trans hd
          refine lv_aload_n hx hb dX6_digest_158 rfl (lv_at hl 0 rfl) ?_
          refine sn_get (ci := 5) (Cn := RX6) (T := TX6) (n := 6) (v := .ref (g.2.2.2 (b + 1))) C hinX6 hP b (sn_l0 hT.1 (by decide)) hT.2.1 rfl 0 (by decide) (by decide +kernel) rfl rfl dX6_digest_159 ?_
          refine lv_bipush (v := (72 : Int32)) hx hb dX6_digest_162 (by decide) ?_
          refine lv_bipush (v := (12 : Int32)) hx hb dX6_digest_164 (by decide) ?_
          refine lv_iload_n hx hb dX6_digest_166 rfl (lv_at hl 1 rfl) ?_
          refine lv_imul hx hb dX6_digest_167 ?_
          refine lv_iadd hx hb dX6_digest_168 ?_
          refine lv_iload_n hx hb dX6_digest_169 rfl (lv_at hl 2 rfl) ?_
          refine lv_iadd hx hb dX6_digest_170 ?_
          refine sn_ald C hP (b + 1) (sn_l hT.1 (by decide)) hT.2.2.1 hd dX6_digest_171 (fun k19 hk19 hd => ?_)
          refine lv_i2l (v := (r17.1 (b + 1) k19).toInt64) hx hb dX6_digest_172 rfl ?_
          refine lv_goto (tgt := 177) hx hb dX6_digest_173 (by decide) ?_
          obtain ⟨r20, hr20, hd⟩ := Option.bind_eq_some_iff.mp hd
          refine sn_Vv (b := b) (rest := []) (As := [.long ((r17.1 (b + 1) k19).toInt64)]) (st := r17) C (c_X6_mix hi hT hr20) (cwV 1 hts gX6_digest_X6_mix rfl rfl rfl (by decide +kernel) ⟨Nat.le_of_ble_eq_true rfl, Nat.le_of_ble_eq_true rfl⟩) hP hS (sn_l0 hT.1 (by decide)) hT.2.1 rfl rfl hl.1 rfl (Nat.le_of_ble_eq_true rfl) dX6_digest_177 (fun H locs hP hS => ?_)
          refine lv_iinc (v := (x2 + (1 : Int32))) (lv' := [(2, .int (x2 + (1 : Int32))), (0, .ref (g.2.2.2 b)), (1, .int x1)]) hx hb dX6_digest_180 hl (k := 2) rfl rfl (by decide) rfl (fun ls hl => ?_)
          refine lv_goto (tgt := 118) hx hb dX6_digest_183 (by decide) ?_
          exact ih (x2 + (1 : Int32)) r20 _ _ _ hd hP hS (lv_sub hl [1, 2, 0] rfl)

set_option maxHeartbeats 4000000 in
set_option maxRecDepth 100000 in
theorem t_X6_digest_L35 {p : Program} {l : Launch} {e : Env} {s : State} {m : MethodId} {args : Array Value} {below : List Frame} {meth : Method} {c : Code} {g : sn_G} {tb : Nat → sn_K} {N : Nat} {b : Nat} {o : Int64 × sn_S} (C : sn_Cx p s m args meth c g N cX6_digest 3 wsX6_digest yX6_digest.cls (some .long)) (hT : sn_Mo tb N b)  : ∀ (n : Nat) (x1 : Int32) (st : sn_S) (H : Heap) (locs : List Loc) (ls : Array Slot), D_X6_digest_L35 b n x1 st = some o → va_P g.1 vwCl (sn_W g tb N st) H → va_S (sn_A g N) s.heap H locs → lv_has ls 3 [(0, .ref (g.2.2.2 b)), (1, .int x1)] → W p l e { frames := 3, cells := 0, slots := 0, locals := 65 } s m args below meth c H locs 0 0 (MQ below (sn_Ql g tb N o.1 o.2) args s 0 0 (sn_A g N)) (F0 m 35 ls []) := by
  obtain ⟨⟨hx, hb, hml, hown, hts⟩, hr, hlk, hC, hi⟩ := id C
  have hinX6 : ∀ w ∈ wsX60, w ∈ wsX6_digest := by decide +kernel
  intro n
  induction n with
  | zero => intro _ _ _ _ _ hd; exact nomatch (show (none : Option (Int64 × sn_S)) = some o from hd)
  | succ n ih =>
    intro x1 st H locs ls hd hP hS hl
    replace hd := (D_X6_digest_L35.eq_2 _ _ _ _).symm.trans hd
    refine lv_iload_n hx hb dX6_digest_35 rfl (lv_at hl 1 rfl) ?_
    refine lv_aload_n hx hb dX6_digest_36 rfl (lv_at hl 0 rfl) ?_
    refine sn_get (ci := 5) (Cn := RX6) (T := TX6) (n := 6) (v := .ref (g.2.2.2 (b + 1))) C hinX6 hP b (sn_l0 hT.1 (by decide)) hT.2.1 rfl 0 (by decide) (by decide +kernel) rfl rfl dX6_digest_37 ?_
    refine lv_sipush (v := (360 : Int32)) hx hb dX6_digest_40 (by decide) ?_
    refine sn_aldc (k := 360) C hP (b + 1) (sn_l hT.1 (by decide)) hT.2.2.1 (by decide +kernel) dX6_digest_43 ?_
    refine lv_icmp_ge (tgt := 206) hx hb dX6_digest_44 (by decide) (fun hc => ?_) (fun hc => ?_)
    · replace hd := (if_pos hc).symm.trans hd
      refine lv_aload_n hx hb dX6_digest_206 rfl (lv_at hl 0 rfl) ?_
      refine lv_aload_n hx hb dX6_digest_207 rfl (lv_at hl 0 rfl) ?_
      refine sn_get (ci := 5) (Cn := RX6) (T := TX6) (n := 6) (v := .ref (g.2.2.2 (b + 1))) C hinX6 hP b (sn_l0 hT.1 (by decide)) hT.2.1 rfl 0 (by decide) (by decide +kernel) rfl rfl dX6_digest_208 ?_
      refine lv_sipush (v := (370 : Int32)) hx hb dX6_digest_211 (by decide) ?_
      refine sn_aldc (k := 370) C hP (b + 1) (sn_l hT.1 (by decide)) hT.2.2.1 (by decide +kernel) dX6_digest_214 ?_
      refine lv_i2l (v := (st.1 (b + 1) 370).toInt64) hx hb dX6_digest_215 rfl ?_
      obtain ⟨r3, hr3, hd⟩ := Option.bind_eq_some_iff.mp hd
      refine sn_Vv (b := b) (rest := []) (As := [.long ((st.1 (b + 1) 370).toInt64)]) (st := st) C (c_X6_mix hi hT hr3) (cwV 1 hts gX6_digest_X6_mix rfl rfl rfl (by decide +kernel) ⟨Nat.le_of_ble_eq_true rfl, Nat.le_of_ble_eq_true rfl⟩) hP hS (sn_l0 hT.1 (by decide)) hT.2.1 rfl rfl hl.1 rfl (Nat.le_of_ble_eq_true rfl) dX6_digest_216 (fun H locs hP hS => ?_)
      refine lv_aload_n hx hb dX6_digest_219 rfl (lv_at hl 0 rfl) ?_
      refine sn_get (ci := 5) (Cn := RX6) (T := TX6) (n := 6) (v := .long (r3.2 b)) C hinX6 hP b (sn_l0 hT.1 (by decide)) hT.2.1 rfl 5 (by decide) (by decide +kernel) rfl rfl dX6_digest_220 ?_
      have ho := Option.some.inj hd
      subst ho
      exact sn_rl C hP hS dX6_digest_223
    · replace hd := (if_neg hc).symm.trans hd
      refine lv_aload_n hx hb dX6_digest_47 rfl (lv_at hl 0 rfl) ?_
      refine lv_aload_n hx hb dX6_digest_48 rfl (lv_at hl 0 rfl) ?_
      refine sn_get (ci := 5) (Cn := RX6) (T := TX6) (n := 6) (v := .ref (g.2.2.2 (b + 1))) C hinX6 hP b (sn_l0 hT.1 (by decide)) hT.2.1 rfl 0 (by decide) (by decide +kernel) rfl rfl dX6_digest_49 ?_
      refine lv_bipush (v := (12 : Int32)) hx hb dX6_digest_52 (by decide) ?_
      refine lv_iload_n hx hb dX6_digest_54 rfl (lv_at hl 1 rfl) ?_
      refine lv_iadd hx hb dX6_digest_55 ?_
      refine sn_ald C hP (b + 1) (sn_l hT.1 (by decide)) hT.2.2.1 hd dX6_digest_56 (fun k4 hk4 hd => ?_)
      refine lv_i2l (v := (st.1 (b + 1) k4).toInt64) hx hb dX6_digest_57 rfl ?_
      obtain ⟨r5, hr5, hd⟩ := Option.bind_eq_some_iff.mp hd
      refine sn_Vv (b := b) (rest := []) (As := [.long ((st.1 (b + 1) k4).toInt64)]) (st := st) C (c_X6_mix hi hT hr5) (cwV 1 hts gX6_digest_X6_mix rfl rfl rfl (by decide +kernel) ⟨Nat.le_of_ble_eq_true rfl, Nat.le_of_ble_eq_true rfl⟩) hP hS (sn_l0 hT.1 (by decide)) hT.2.1 rfl rfl hl.1 rfl (Nat.le_of_ble_eq_true rfl) dX6_digest_58 (fun H locs hP hS => ?_)
      refine lv_aload_n hx hb dX6_digest_61 rfl (lv_at hl 0 rfl) ?_
      refine lv_aload_n hx hb dX6_digest_62 rfl (lv_at hl 0 rfl) ?_
      refine sn_get (ci := 5) (Cn := RX6) (T := TX6) (n := 6) (v := .ref (g.2.2.2 (b + 1))) C hinX6 hP b (sn_l0 hT.1 (by decide)) hT.2.1 rfl 0 (by decide) (by decide +kernel) rfl rfl dX6_digest_63 ?_
      refine lv_bipush (v := (24 : Int32)) hx hb dX6_digest_66 (by decide) ?_
      refine lv_iload_n hx hb dX6_digest_68 rfl (lv_at hl 1 rfl) ?_
      refine lv_iadd hx hb dX6_digest_69 ?_
      refine sn_ald C hP (b + 1) (sn_l hT.1 (by decide)) hT.2.2.1 hd dX6_digest_70 (fun k6 hk6 hd => ?_)
      refine lv_i2l (v := (r5.1 (b + 1) k6).toInt64) hx hb dX6_digest_71 rfl ?_
      obtain ⟨r7, hr7, hd⟩ := Option.bind_eq_some_iff.mp hd
      refine sn_Vv (b := b) (rest := []) (As := [.long ((r5.1 (b + 1) k6).toInt64)]) (st := r5) C (c_X6_mix hi hT hr7) (cwV 1 hts gX6_digest_X6_mix rfl rfl rfl (by decide +kernel) ⟨Nat.le_of_ble_eq_true rfl, Nat.le_of_ble_eq_true rfl⟩) hP hS (sn_l0 hT.1 (by decide)) hT.2.1 rfl rfl hl.1 rfl (Nat.le_of_ble_eq_true rfl) dX6_digest_72 (fun H locs hP hS => ?_)
      refine lv_aload_n hx hb dX6_digest_75 rfl (lv_at hl 0 rfl) ?_
      refine lv_aload_n hx hb dX6_digest_76 rfl (lv_at hl 0 rfl) ?_
      refine sn_get (ci := 5) (Cn := RX6) (T := TX6) (n := 6) (v := .ref (g.2.2.2 (b + 1))) C hinX6 hP b (sn_l0 hT.1 (by decide)) hT.2.1 rfl 0 (by decide) (by decide +kernel) rfl rfl dX6_digest_77 ?_
      refine lv_bipush (v := (36 : Int32)) hx hb dX6_digest_80 (by decide) ?_
      refine lv_iload_n hx hb dX6_digest_82 rfl (lv_at hl 1 rfl) ?_
      refine lv_iadd hx hb dX6_digest_83 ?_
      refine sn_ald C hP (b + 1) (sn_l hT.1 (by decide)) hT.2.2.1 hd dX6_digest_84 (fun k8 hk8 hd => ?_)
      refine lv_i2l (v := (r7.1 (b + 1) k8).toInt64) hx hb dX6_digest_85 rfl ?_
      obtain ⟨r9, hr9, hd⟩ := Option.bind_eq_some_iff.mp hd
      refine sn_Vv (b := b) (rest := []) (As := [.long ((r7.1 (b + 1) k8).toInt64)]) (st := r7) C (c_X6_mix hi hT hr9) (cwV 1 hts gX6_digest_X6_mix rfl rfl rfl (by decide +kernel) ⟨Nat.le_of_ble_eq_true rfl, Nat.le_of_ble_eq_true rfl⟩) hP hS (sn_l0 hT.1 (by decide)) hT.2.1 rfl rfl hl.1 rfl (Nat.le_of_ble_eq_true rfl) dX6_digest_86 (fun H locs hP hS => ?_)
      refine lv_aload_n hx hb dX6_digest_89 rfl (lv_at hl 0 rfl) ?_
      refine lv_aload_n hx hb dX6_digest_90 rfl (lv_at hl 0 rfl) ?_
      refine sn_get (ci := 5) (Cn := RX6) (T := TX6) (n := 6) (v := .ref (g.2.2.2 (b + 1))) C hinX6 hP b (sn_l0 hT.1 (by decide)) hT.2.1 rfl 0 (by decide) (by decide +kernel) rfl rfl dX6_digest_91 ?_
      refine lv_bipush (v := (48 : Int32)) hx hb dX6_digest_94 (by decide) ?_
      refine lv_iload_n hx hb dX6_digest_96 rfl (lv_at hl 1 rfl) ?_
      refine lv_iadd hx hb dX6_digest_97 ?_
      refine sn_ald C hP (b + 1) (sn_l hT.1 (by decide)) hT.2.2.1 hd dX6_digest_98 (fun k10 hk10 hd => ?_)
      refine lv_i2l (v := (r9.1 (b + 1) k10).toInt64) hx hb dX6_digest_99 rfl ?_
      obtain ⟨r11, hr11, hd⟩ := Option.bind_eq_some_iff.mp hd
      refine sn_Vv (b := b) (rest := []) (As := [.long ((r9.1 (b + 1) k10).toInt64)]) (st := r9) C (c_X6_mix hi hT hr11) (cwV 1 hts gX6_digest_X6_mix rfl rfl rfl (by decide +kernel) ⟨Nat.le_of_ble_eq_true rfl, Nat.le_of_ble_eq_true rfl⟩) hP hS (sn_l0 hT.1 (by decide)) hT.2.1 rfl rfl hl.1 rfl (Nat.le_of_ble_eq_true rfl) dX6_digest_100 (fun H locs hP hS => ?_)
      refine lv_aload_n hx hb dX6_digest_103 rfl (lv_at hl 0 rfl) ?_
      refine lv_aload_n hx hb dX6_digest_104 rfl (lv_at hl 0 rfl) ?_
      refine sn_get (ci := 5) (Cn := RX6) (T := TX6) (n := 6) (v := .ref (g.2.2.2 (b + 1))) C hinX6 hP b (sn_l0 hT.1 (by decide)) hT.2.1 rfl 0 (by decide) (by decide +kernel) rfl rfl dX6_digest_105 ?_
      refine lv_iconst (v := (0 : Int32)) hx hb dX6_digest_108 (by decide) ?_
      refine lv_iload_n hx hb dX6_digest_109 rfl (lv_at hl 1 rfl) ?_
      refine lv_iadd hx hb dX6_digest_110 ?_
      refine sn_ald C hP (b + 1) (sn_l hT.1 (by decide)) hT.2.2.1 hd dX6_digest_111 (fun k12 hk12 hd => ?_)
      refine lv_i2l (v := (r11.1 (b + 1) k12).toInt64) hx hb dX6_digest_112 rfl ?_
      obtain ⟨r13, hr13, hd⟩ := Option.bind_eq_some_iff.mp hd
      refine sn_Vv (b := b) (rest := []) (As := [.long ((r11.1 (b + 1) k12).toInt64)]) (st := r11) C (c_X6_mix hi hT hr13) (cwV 1 hts gX6_digest_X6_mix rfl rfl rfl (by decide +kernel) ⟨Nat.le_of_ble_eq_true rfl, Nat.le_of_ble_eq_true rfl⟩) hP hS (sn_l0 hT.1 (by decide)) hT.2.1 rfl rfl hl.1 rfl (Nat.le_of_ble_eq_true rfl) dX6_digest_113 (fun H locs hP hS => ?_)
      refine lv_iconst (v := (0 : Int32)) hx hb dX6_digest_116 (by decide) ?_
      refine lv_istore_n (lv' := [(2, .int (0 : Int32)), (0, .ref (g.2.2.2 b)), (1, .int x1)]) hx hb dX6_digest_117 rfl hl (by decide) rfl (fun ls hl => ?_)
      exact t_X6_digest_L118 C hT ih 4096 (0 : Int32) r13 _ _ _ hd hP hS (lv_sub hl [1, 2, 0] rfl)

set_option maxHeartbeats 4000000 in
set_option maxRecDepth 100000 in
theorem c_X6_digest {l : Launch} {g : sn_G} {tb : Nat → sn_K} {N : Nat} (hi : sn_I g N) {b : Nat} (hT : sn_Mo tb N b) {st : sn_S} {o : Int64 × sn_S} (hd : D_X6_digest b st = some o) : sn_Ml l yX6_digest wsX6_digest { frames := 3, cells := 0, slots := 0, locals := 65 } g tb N [.ref (g.2.2.2 b)] st o.1 o.2 := by
  refine sn_Ml.of (cc := cX6_digest) (nL := 3) (ret := (some .long)) hi (by decide) rfl (Nat.le_of_ble_eq_true rfl) ?_
  intro p e s m args below meth c ls C hP hS hl
  have hl : lv_has ls 3 [(0, .ref (g.2.2.2 b))] := hl
  obtain ⟨⟨hx, hb, hml, hown, hts⟩, hr, hlk, hC, hi⟩ := id C
  unfold D_X6_digest at hd
  have hinX6 : ∀ w ∈ wsX60, w ∈ wsX6_digest := by decide +kernel
  refine lv_aload_n hx hb dX6_digest_0 rfl (lv_at hl 0 rfl) ?_
  refine lv_ldc2 (v := 59) hx hb hown (hts (.constantLong RX6 146 (59)) (by decide +kernel)) dX6_digest_1 ?_
  refine sn_pl (ci := 5) (Cn := RX6) (T := TX6) (n := 6) (ty0 := tyX6) C hinX6 tyX6_ok nmX6 hP hS b (sn_l0 hT.1 (by decide)) hT.2.1 rfl 5 (by decide) (by decide +kernel) rfl rfl rfl rfl rfl (Nat.le_of_ble_eq_true rfl) dX6_digest_4 (fun H locs hP hS => ?_)
  refine lv_aload_n hx hb dX6_digest_7 rfl (lv_at hl 0 rfl) ?_
  refine lv_aload_n hx hb dX6_digest_8 rfl (lv_at hl 0 rfl) ?_
  refine sn_get (ci := 5) (Cn := RX6) (T := TX6) (n := 6) (v := .ref (g.2.2.2 (b + 1))) C hinX6 hP b (sn_l0 hT.1 (by decide)) hT.2.1 rfl 0 (by decide) (by decide +kernel) rfl rfl dX6_digest_9 ?_
  refine lv_sipush (v := (360 : Int32)) hx hb dX6_digest_12 (by decide) ?_
  refine sn_aldc (k := 360) C hP (b + 1) (sn_l hT.1 (by decide)) hT.2.2.1 (by decide +kernel) dX6_digest_15 ?_
  refine lv_i2l (v := ((sn_wl st b (59 : Int64)).1 (b + 1) 360).toInt64) hx hb dX6_digest_16 rfl ?_
  obtain ⟨r1, hr1, hd⟩ := Option.bind_eq_some_iff.mp hd
  refine sn_Vv (b := b) (rest := []) (As := [.long (((sn_wl st b (59 : Int64)).1 (b + 1) 360).toInt64)]) (st := (sn_wl st b (59 : Int64))) C (c_X6_mix hi hT hr1) (cwV 1 hts gX6_digest_X6_mix rfl rfl rfl (by decide +kernel) ⟨Nat.le_of_ble_eq_true rfl, Nat.le_of_ble_eq_true rfl⟩) hP hS (sn_l0 hT.1 (by decide)) hT.2.1 rfl rfl hl.1 rfl (Nat.le_of_ble_eq_true rfl) dX6_digest_17 (fun H locs hP hS => ?_)
  refine lv_aload_n hx hb dX6_digest_20 rfl (lv_at hl 0 rfl) ?_
  refine lv_aload_n hx hb dX6_digest_21 rfl (lv_at hl 0 rfl) ?_
  refine sn_get (ci := 5) (Cn := RX6) (T := TX6) (n := 6) (v := .ref (g.2.2.2 (b + 1))) C hinX6 hP b (sn_l0 hT.1 (by decide)) hT.2.1 rfl 0 (by decide) (by decide +kernel) rfl rfl dX6_digest_22 ?_
  refine lv_sipush (v := (361 : Int32)) hx hb dX6_digest_25 (by decide) ?_
  refine sn_aldc (k := 361) C hP (b + 1) (sn_l hT.1 (by decide)) hT.2.2.1 (by decide +kernel) dX6_digest_28 ?_
  refine lv_i2l (v := (r1.1 (b + 1) 361).toInt64) hx hb dX6_digest_29 rfl ?_
  obtain ⟨r2, hr2, hd⟩ := Option.bind_eq_some_iff.mp hd
  refine sn_Vv (b := b) (rest := []) (As := [.long ((r1.1 (b + 1) 361).toInt64)]) (st := r1) C (c_X6_mix hi hT hr2) (cwV 1 hts gX6_digest_X6_mix rfl rfl rfl (by decide +kernel) ⟨Nat.le_of_ble_eq_true rfl, Nat.le_of_ble_eq_true rfl⟩) hP hS (sn_l0 hT.1 (by decide)) hT.2.1 rfl rfl hl.1 rfl (Nat.le_of_ble_eq_true rfl) dX6_digest_30 (fun H locs hP hS => ?_)
  refine lv_iconst (v := (0 : Int32)) hx hb dX6_digest_33 (by decide) ?_
  refine lv_istore_n (lv' := [(1, .int (0 : Int32)), (0, .ref (g.2.2.2 b))]) hx hb dX6_digest_34 rfl hl (by decide) rfl (fun ls hl => ?_)
  exact t_X6_digest_L35 C hT 4096 (0 : Int32) r2 _ _ _ hd hP hS (lv_sub hl [1, 0] rfl)
