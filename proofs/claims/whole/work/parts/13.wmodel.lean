set_option maxHeartbeats 4000000 in
set_option maxRecDepth 100000 in
theorem t_X6_holder_L31 {p : Program} {l : Launch} {e : Env} {s : State} {m : MethodId} {args : Array Value} {below : List Frame} {meth : Method} {c : Code} {g : sn_G} {tb : Nat → sn_K} {N : Nat} {b : Nat} {x1 : Int32} {x3 : Int32} {st : sn_S} {K : Int32 → Int32 → Option (Int32)} {o : Int32} (C : sn_Cx p s m args meth c g N cX6_holder 5 wsX6_holder yX6_holder.cls (some .int)) (hT : sn_Mo tb N b)  (hK : ∀ (x2 : Int32) (x3 : Int32) (H : Heap) (locs : List Loc) (ls : Array Slot), K x2 x3 = some o → va_P g.1 vwCl (sn_W g tb N st) H → va_S (sn_A g N) s.heap H locs → lv_has ls 5 [(0, .ref (g.2.2.2 b)), (1, .int x1), (2, .int x2), (3, .int x3)] → W p l e { frames := 9, cells := 0, slots := 0, locals := 200 } s m args below meth c H locs 0 0 (MQ below (sn_Qi g tb N o st) args s 0 0 (sn_A g N)) (F0 m 4 ls [])) : ∀ (n : Nat) (x2 : Int32) (x4 : Int32) (H : Heap) (locs : List Loc) (ls : Array Slot), D_X6_holder_L31 b x1 x3 st K n x2 x4 = some o → va_P g.1 vwCl (sn_W g tb N st) H → va_S (sn_A g N) s.heap H locs → lv_has ls 5 [(0, .ref (g.2.2.2 b)), (1, .int x1), (2, .int x2), (3, .int x3), (4, .int x4)] → W p l e { frames := 9, cells := 0, slots := 0, locals := 200 } s m args below meth c H locs 0 0 (MQ below (sn_Qi g tb N o st) args s 0 0 (sn_A g N)) (F0 m 31 ls []) := by
  obtain ⟨⟨hx, hb, hml, hown, hts⟩, hr, hlk, hC, hi⟩ := id C
  have hinX6 : ∀ w ∈ wsX60, w ∈ wsX6_holder := by decide +kernel
  intro n
  induction n with
  | zero => intro _ _ _ _ _ hd; exact nomatch (show (none : Option (Int32)) = some o from hd)
  | succ n ih =>
    intro x2 x4 H locs ls hd hP hS hl
    replace hd := (D_X6_holder_L31.eq_2 _ _ _ _ _ _ _ _).symm.trans hd
    refine lv_iload hx hb dX6_holder_31 (lv_at hl 4 rfl) ?_
    refine lv_aload_n hx hb dX6_holder_33 rfl (lv_at hl 0 rfl) ?_
    refine sn_get (ci := 5) (Cn := RX6) (T := TX6) (n := 6) (v := .ref (g.2.2.2 (b + 1))) C hinX6 hP b (sn_l0 hT.1 (by decide)) hT.2.1 rfl 0 (by decide) (by decide +kernel) rfl rfl dX6_holder_34 ?_
    refine lv_sipush (v := (360 : Int32)) hx hb dX6_holder_37 (by decide) ?_
    refine sn_aldc (k := 360) C hP (b + 1) (sn_l hT.1 (by decide)) hT.2.2.1 (by decide +kernel) dX6_holder_40 ?_
    refine lv_icmp_ge (tgt := 80) hx hb dX6_holder_41 (by decide) (fun hc => ?_) (fun hc => ?_)
    · replace hd := (if_pos hc).symm.trans hd
      refine lv_iinc (v := (x3 + (1 : Int32))) (lv' := [(3, .int (x3 + (1 : Int32))), (0, .ref (g.2.2.2 b)), (1, .int x1), (2, .int x2), (4, .int x4)]) hx hb dX6_holder_80 hl (k := 3) rfl rfl (by decide) rfl (fun ls hl => ?_)
      refine lv_goto (tgt := 4) hx hb dX6_holder_83 (by decide) ?_
      exact hK x2 (x3 + (1 : Int32)) _ _ _ hd hP hS (lv_sub hl [1, 2, 3, 0] rfl)
    · replace hd := (if_neg hc).symm.trans hd
      refine lv_aload_n hx hb dX6_holder_44 rfl (lv_at hl 0 rfl) ?_
      refine lv_iload_n hx hb dX6_holder_45 rfl (lv_at hl 3 rfl) ?_
      refine lv_iload hx hb dX6_holder_46 (lv_at hl 4 rfl) ?_
      obtain ⟨r1, hr1, hd⟩ := Option.bind_eq_some_iff.mp hd
      refine sn_Vi (b := b) (rest := []) (As := [.int x3, .int x4]) (st := st) C (c_X6_isTie hi hT hr1) (cwV 2 hts gX6_holder_X6_isTie rfl rfl rfl (by decide +kernel) ⟨Nat.le_of_ble_eq_true rfl, Nat.le_of_ble_eq_true rfl⟩) hP hS (sn_l0 hT.1 (by decide)) hT.2.1 rfl rfl hl.1 rfl (Nat.le_of_ble_eq_true rfl) dX6_holder_48 (fun H locs hP hS => ?_)
      refine lv_if_eq (tgt := 74) hx hb dX6_holder_51 (by decide) (fun hc => ?_) (fun hc => ?_)
      · replace hd := (if_pos hc).symm.trans hd
        refine lv_iinc (v := (x4 + (1 : Int32))) (lv' := [(4, .int (x4 + (1 : Int32))), (0, .ref (g.2.2.2 b)), (1, .int x1), (2, .int x2), (3, .int x3)]) hx hb dX6_holder_74 hl (k := 4) rfl rfl (by decide) rfl (fun ls hl => ?_)
        refine lv_goto (tgt := 31) hx hb dX6_holder_77 (by decide) ?_
        exact ih x2 (x4 + (1 : Int32)) _ _ _ hd hP hS (lv_sub hl [1, 2, 3, 4, 0] rfl)
      · replace hd := (if_neg hc).symm.trans hd
        refine lv_aload_n hx hb dX6_holder_54 rfl (lv_at hl 0 rfl) ?_
        refine lv_iload_n hx hb dX6_holder_55 rfl (lv_at hl 3 rfl) ?_
        refine lv_iload hx hb dX6_holder_56 (lv_at hl 4 rfl) ?_
        obtain ⟨r2, hr2, hd⟩ := Option.bind_eq_some_iff.mp hd
        refine sn_Vi (b := b) (rest := []) (As := [.int x3, .int x4]) (st := st) C (c_X6_hasRight hi hT hr2) (cwV 2 hts gX6_holder_X6_hasRight rfl rfl rfl (by decide +kernel) ⟨Nat.le_of_ble_eq_true rfl, Nat.le_of_ble_eq_true rfl⟩) hP hS (sn_l0 hT.1 (by decide)) hT.2.1 rfl rfl hl.1 rfl (Nat.le_of_ble_eq_true rfl) dX6_holder_58 (fun H locs hP hS => ?_)
        refine lv_if_eq (tgt := 74) hx hb dX6_holder_61 (by decide) (fun hc => ?_) (fun hc => ?_)
        · replace hd := (if_pos hc).symm.trans hd
          refine lv_iinc (v := (x4 + (1 : Int32))) (lv' := [(4, .int (x4 + (1 : Int32))), (0, .ref (g.2.2.2 b)), (1, .int x1), (2, .int x2), (3, .int x3)]) hx hb dX6_holder_74 hl (k := 4) rfl rfl (by decide) rfl (fun ls hl => ?_)
          refine lv_goto (tgt := 31) hx hb dX6_holder_77 (by decide) ?_
          exact ih x2 (x4 + (1 : Int32)) _ _ _ hd hP hS (lv_sub hl [1, 2, 3, 4, 0] rfl)
        · replace hd := (if_neg hc).symm.trans hd
          refine lv_iload_n hx hb dX6_holder_64 rfl (lv_at hl 2 rfl) ?_
          refine lv_iload_n hx hb dX6_holder_65 rfl (lv_at hl 1 rfl) ?_
          refine lv_icmp_ne (tgt := 71) hx hb dX6_holder_66 (by decide) (fun hc => ?_) (fun hc => ?_)
          · replace hd := (if_neg hc).symm.trans hd
            refine lv_iinc (v := (x2 + (1 : Int32))) (lv' := [(2, .int (x2 + (1 : Int32))), (0, .ref (g.2.2.2 b)), (1, .int x1), (3, .int x3), (4, .int x4)]) hx hb dX6_holder_71 hl (k := 2) rfl rfl (by decide) rfl (fun ls hl => ?_)
            refine lv_iinc (v := (x4 + (1 : Int32))) (lv' := [(4, .int (x4 + (1 : Int32))), (2, .int (x2 + (1 : Int32))), (0, .ref (g.2.2.2 b)), (1, .int x1), (3, .int x3)]) hx hb dX6_holder_74 hl (k := 4) rfl rfl (by decide) rfl (fun ls hl => ?_)
            refine lv_goto (tgt := 31) hx hb dX6_holder_77 (by decide) ?_
            exact ih (x2 + (1 : Int32)) (x4 + (1 : Int32)) _ _ _ hd hP hS (lv_sub hl [2, 3, 1, 4, 0] rfl)
          · replace hd := (if_pos hc).symm.trans hd
            refine lv_iload_n hx hb dX6_holder_69 rfl (lv_at hl 3 rfl) ?_
            have ho := Option.some.inj hd
            subst ho
            exact sn_ri C hP hS dX6_holder_70

set_option maxHeartbeats 4000000 in
set_option maxRecDepth 100000 in
theorem t_X6_holder_L4 {p : Program} {l : Launch} {e : Env} {s : State} {m : MethodId} {args : Array Value} {below : List Frame} {meth : Method} {c : Code} {g : sn_G} {tb : Nat → sn_K} {N : Nat} {b : Nat} {x1 : Int32} {st : sn_S} {o : Int32} (C : sn_Cx p s m args meth c g N cX6_holder 5 wsX6_holder yX6_holder.cls (some .int)) (hT : sn_Mo tb N b)  : ∀ (n : Nat) (x2 : Int32) (x3 : Int32) (H : Heap) (locs : List Loc) (ls : Array Slot), D_X6_holder_L4 b x1 st n x2 x3 = some o → va_P g.1 vwCl (sn_W g tb N st) H → va_S (sn_A g N) s.heap H locs → lv_has ls 5 [(0, .ref (g.2.2.2 b)), (1, .int x1), (2, .int x2), (3, .int x3)] → W p l e { frames := 9, cells := 0, slots := 0, locals := 200 } s m args below meth c H locs 0 0 (MQ below (sn_Qi g tb N o st) args s 0 0 (sn_A g N)) (F0 m 4 ls []) := by
  obtain ⟨⟨hx, hb, hml, hown, hts⟩, hr, hlk, hC, hi⟩ := id C
  have hinX6 : ∀ w ∈ wsX60, w ∈ wsX6_holder := by decide +kernel
  intro n
  induction n with
  | zero => intro _ _ _ _ _ hd; exact nomatch (show (none : Option (Int32)) = some o from hd)
  | succ n ih =>
    intro x2 x3 H locs ls hd hP hS hl
    replace hd := (D_X6_holder_L4.eq_2 _ _ _ _ _ _).symm.trans hd
    refine lv_iload_n hx hb dX6_holder_4 rfl (lv_at hl 3 rfl) ?_
    refine lv_aload_n hx hb dX6_holder_5 rfl (lv_at hl 0 rfl) ?_
    refine sn_get (ci := 5) (Cn := RX6) (T := TX6) (n := 6) (v := .ref (g.2.2.2 (b + 1))) C hinX6 hP b (sn_l0 hT.1 (by decide)) hT.2.1 rfl 0 (by decide) (by decide +kernel) rfl rfl dX6_holder_6 ?_
    refine lv_sipush (v := (360 : Int32)) hx hb dX6_holder_9 (by decide) ?_
    refine sn_aldc (k := 360) C hP (b + 1) (sn_l hT.1 (by decide)) hT.2.2.1 (by decide +kernel) dX6_holder_12 ?_
    refine lv_icmp_ge (tgt := 86) hx hb dX6_holder_13 (by decide) (fun hc => ?_) (fun hc => ?_)
    · replace hd := (if_pos hc).symm.trans hd
      refine lv_iconst (v := (-1 : Int32)) hx hb dX6_holder_86 (by decide) ?_
      have ho := Option.some.inj hd
      subst ho
      exact sn_ri C hP hS dX6_holder_87
    · replace hd := (if_neg hc).symm.trans hd
      refine lv_aload_n hx hb dX6_holder_16 rfl (lv_at hl 0 rfl) ?_
      refine sn_get (ci := 5) (Cn := RX6) (T := TX6) (n := 6) (v := .ref (g.2.2.2 (b + 1))) C hinX6 hP b (sn_l0 hT.1 (by decide)) hT.2.1 rfl 0 (by decide) (by decide +kernel) rfl rfl dX6_holder_17 ?_
      refine lv_sipush (v := (361 : Int32)) hx hb dX6_holder_20 (by decide) ?_
      refine sn_aldc (k := 361) C hP (b + 1) (sn_l hT.1 (by decide)) hT.2.2.1 (by decide +kernel) dX6_holder_23 ?_
      refine lv_iconst (v := (1 : Int32)) hx hb dX6_holder_24 (by decide) ?_
      refine lv_icmp_ne (tgt := 86) hx hb dX6_holder_25 (by decide) (fun hc => ?_) (fun hc => ?_)
      · replace hd := (if_neg hc).symm.trans hd
        refine lv_iconst (v := (-1 : Int32)) hx hb dX6_holder_86 (by decide) ?_
        have ho := Option.some.inj hd
        subst ho
        exact sn_ri C hP hS dX6_holder_87
      · replace hd := (if_pos hc).symm.trans hd
        refine lv_iconst (v := (0 : Int32)) hx hb dX6_holder_28 (by decide) ?_
        refine lv_istore (lv' := [(4, .int (0 : Int32)), (0, .ref (g.2.2.2 b)), (1, .int x1), (2, .int x2), (3, .int x3)]) hx hb dX6_holder_29 hl (by decide) rfl (fun ls hl => ?_)
        exact t_X6_holder_L31 (st := st) C hT ih 4096 x2 (0 : Int32) _ _ _ hd hP hS (lv_sub hl [1, 2, 3, 4, 0] rfl)

set_option maxHeartbeats 4000000 in
set_option maxRecDepth 100000 in
theorem c_X6_holder {l : Launch} {g : sn_G} {tb : Nat → sn_K} {N : Nat} (hi : sn_I g N) {b : Nat} {x1 : Int32} (hT : sn_Mo tb N b) {st : sn_S} {o : Int32} (hd : D_X6_holder b x1 st = some o) : sn_Mi l yX6_holder wsX6_holder { frames := 9, cells := 0, slots := 0, locals := 200 } g tb N [.ref (g.2.2.2 b), .int x1] st o st := by
  refine sn_Mi.of (cc := cX6_holder) (nL := 5) (ret := (some .int)) hi (by decide) rfl (Nat.le_of_ble_eq_true rfl) ?_
  intro p e s m args below meth c ls C hP hS hl
  have hl : lv_has ls 5 [(0, .ref (g.2.2.2 b)), (1, .int x1)] := hl
  obtain ⟨⟨hx, hb, hml, hown, hts⟩, hr, hlk, hC, hi⟩ := id C
  unfold D_X6_holder at hd
  have hinX6 : ∀ w ∈ wsX60, w ∈ wsX6_holder := by decide +kernel
  refine lv_iconst (v := (0 : Int32)) hx hb dX6_holder_0 (by decide) ?_
  refine lv_istore_n (lv' := [(2, .int (0 : Int32)), (0, .ref (g.2.2.2 b)), (1, .int x1)]) hx hb dX6_holder_1 rfl hl (by decide) rfl (fun ls hl => ?_)
  refine lv_iconst (v := (0 : Int32)) hx hb dX6_holder_2 (by decide) ?_
  refine lv_istore_n (lv' := [(3, .int (0 : Int32)), (2, .int (0 : Int32)), (0, .ref (g.2.2.2 b)), (1, .int x1)]) hx hb dX6_holder_3 rfl hl (by decide) rfl (fun ls hl => ?_)
  exact t_X6_holder_L4 (st := st) C hT 4096 (0 : Int32) (0 : Int32) _ _ _ hd hP hS (lv_sub hl [2, 3, 1, 0] rfl)

set_option maxHeartbeats 4000000 in
set_option maxRecDepth 100000 in
theorem t_X6_next_L68 {p : Program} {l : Launch} {e : Env} {s : State} {m : MethodId} {args : Array Value} {below : List Frame} {meth : Method} {c : Code} {g : sn_G} {tb : Nat → sn_K} {N : Nat} {b : Nat} {x1 : Int32} {x2 : Int32} {st : sn_S} {o : Int32} (C : sn_Cx p s m args meth c g N cX6_next 5 wsX6_next yX6_next.cls (some .int)) (hT : sn_Mo tb N b)  : ∀ (n : Nat) (x3 : Int32) (x4 : Int32) (H : Heap) (locs : List Loc) (ls : Array Slot), D_X6_next_L68 b x1 x2 st n x3 x4 = some o → va_P g.1 vwCl (sn_W g tb N st) H → va_S (sn_A g N) s.heap H locs → lv_has ls 5 [(0, .ref (g.2.2.2 b)), (1, .int x1), (2, .int x2), (3, .int x3), (4, .int x4)] → W p l e { frames := 8, cells := 0, slots := 0, locals := 174 } s m args below meth c H locs 0 0 (MQ below (sn_Qi g tb N o st) args s 0 0 (sn_A g N)) (F0 m 68 ls []) := by
  obtain ⟨⟨hx, hb, hml, hown, hts⟩, hr, hlk, hC, hi⟩ := id C
  have hinX6 : ∀ w ∈ wsX60, w ∈ wsX6_next := by decide +kernel
  intro n
  induction n with
  | zero => intro _ _ _ _ _ hd; exact nomatch (show (none : Option (Int32)) = some o from hd)
  | succ n ih =>
    intro x3 x4 H locs ls hd hP hS hl
    replace hd := (D_X6_next_L68.eq_2 _ _ _ _ _ _ _).symm.trans hd
    refine lv_iload hx hb dX6_next_68 (lv_at hl 4 rfl) ?_
    refine lv_iload_n hx hb dX6_next_70 rfl (lv_at hl 1 rfl) ?_
    refine lv_icmp_le (tgt := 97) hx hb dX6_next_71 (by decide) (fun hc => ?_) (fun hc => ?_)
    · replace hd := (if_pos hc).symm.trans hd
      refine lv_iload_n hx hb dX6_next_97 rfl (lv_at hl 3 rfl) ?_
      refine lv_iconst (v := (-1 : Int32)) hx hb dX6_next_98 (by decide) ?_
      refine lv_icmp_ne (tgt := 110) hx hb dX6_next_99 (by decide) (fun hc => ?_) (fun hc => ?_)
      · replace hd := (if_neg hc).symm.trans hd
        refine lv_iload_n hx hb dX6_next_110 rfl (lv_at hl 3 rfl) ?_
        have ho := Option.some.inj hd
        subst ho
        exact sn_ri C hP hS dX6_next_111
      · replace hd := (if_pos hc).symm.trans hd
        refine lv_aload_n hx hb dX6_next_102 rfl (lv_at hl 0 rfl) ?_
        refine lv_iload_n hx hb dX6_next_103 rfl (lv_at hl 2 rfl) ?_
        obtain ⟨r5, hr5, hd⟩ := Option.bind_eq_some_iff.mp hd
        refine sn_Vi (b := b) (rest := []) (As := [.int x2]) (st := st) C (c_X6_firstTie hi hT hr5) (cwV 1 hts gX6_next_X6_firstTie rfl rfl rfl (by decide +kernel) ⟨Nat.le_of_ble_eq_true rfl, Nat.le_of_ble_eq_true rfl⟩) hP hS (sn_l0 hT.1 (by decide)) hT.2.1 rfl rfl hl.1 rfl (Nat.le_of_ble_eq_true rfl) dX6_next_104 (fun H locs hP hS => ?_)
        refine lv_goto (tgt := 111) hx hb dX6_next_107 (by decide) ?_
        have ho := Option.some.inj hd
        subst ho
        exact sn_ri C hP hS dX6_next_111
    · replace hd := (if_neg hc).symm.trans hd
      refine lv_aload_n hx hb dX6_next_74 rfl (lv_at hl 0 rfl) ?_
      refine lv_iload_n hx hb dX6_next_75 rfl (lv_at hl 2 rfl) ?_
      refine lv_iload hx hb dX6_next_76 (lv_at hl 4 rfl) ?_
      obtain ⟨r6, hr6, hd⟩ := Option.bind_eq_some_iff.mp hd
      refine sn_Vi (b := b) (rest := []) (As := [.int x2, .int x4]) (st := st) C (c_X6_isTie hi hT hr6) (cwV 2 hts gX6_next_X6_isTie rfl rfl rfl (by decide +kernel) ⟨Nat.le_of_ble_eq_true rfl, Nat.le_of_ble_eq_true rfl⟩) hP hS (sn_l0 hT.1 (by decide)) hT.2.1 rfl rfl hl.1 rfl (Nat.le_of_ble_eq_true rfl) dX6_next_78 (fun H locs hP hS => ?_)
      refine lv_if_eq (tgt := 89) hx hb dX6_next_81 (by decide) (fun hc => ?_) (fun hc => ?_)
      · replace hd := (if_pos hc).symm.trans hd
        refine lv_iload_n hx hb dX6_next_89 rfl (lv_at hl 3 rfl) ?_
        refine lv_istore_n (lv' := [(3, .int x3), (0, .ref (g.2.2.2 b)), (1, .int x1), (2, .int x2), (4, .int x4)]) hx hb dX6_next_90 rfl hl (by decide) rfl (fun ls hl => ?_)
        refine lv_iinc (v := (x4 + (-1 : Int32))) (lv' := [(4, .int (x4 + (-1 : Int32))), (3, .int x3), (0, .ref (g.2.2.2 b)), (1, .int x1), (2, .int x2)]) hx hb dX6_next_91 hl (k := 4) rfl rfl (by decide) rfl (fun ls hl => ?_)
        refine lv_goto (tgt := 68) hx hb dX6_next_94 (by decide) ?_
        exact ih x3 (x4 + (-1 : Int32)) _ _ _ hd hP hS (lv_sub hl [2, 3, 4, 1, 0] rfl)
      · replace hd := (if_neg hc).symm.trans hd
        refine lv_iload hx hb dX6_next_84 (lv_at hl 4 rfl) ?_
        refine lv_goto (tgt := 90) hx hb dX6_next_86 (by decide) ?_
        refine lv_istore_n (lv' := [(3, .int x4), (0, .ref (g.2.2.2 b)), (1, .int x1), (2, .int x2), (4, .int x4)]) hx hb dX6_next_90 rfl hl (by decide) rfl (fun ls hl => ?_)
        refine lv_iinc (v := (x4 + (-1 : Int32))) (lv' := [(4, .int (x4 + (-1 : Int32))), (3, .int x4), (0, .ref (g.2.2.2 b)), (1, .int x1), (2, .int x2)]) hx hb dX6_next_91 hl (k := 4) rfl rfl (by decide) rfl (fun ls hl => ?_)
        refine lv_goto (tgt := 68) hx hb dX6_next_94 (by decide) ?_
        exact ih x4 (x4 + (-1 : Int32)) _ _ _ hd hP hS (lv_sub hl [2, 3, 4, 1, 0] rfl)

set_option maxHeartbeats 4000000 in
set_option maxRecDepth 100000 in
theorem c_X6_next {l : Launch} {g : sn_G} {tb : Nat → sn_K} {N : Nat} (hi : sn_I g N) {b : Nat} {x1 : Int32} {x2 : Int32} (hT : sn_Mo tb N b) {st : sn_S} {o : Int32} (hd : D_X6_next b x1 x2 st = some o) : sn_Mi l yX6_next wsX6_next { frames := 8, cells := 0, slots := 0, locals := 174 } g tb N [.ref (g.2.2.2 b), .int x1, .int x2] st o st := by
  refine sn_Mi.of (cc := cX6_next) (nL := 5) (ret := (some .int)) hi (by decide) rfl (Nat.le_of_ble_eq_true rfl) ?_
  intro p e s m args below meth c ls C hP hS hl
  have hl : lv_has ls 5 [(0, .ref (g.2.2.2 b)), (1, .int x1), (2, .int x2)] := hl
  obtain ⟨⟨hx, hb, hml, hown, hts⟩, hr, hlk, hC, hi⟩ := id C
  unfold D_X6_next at hd
  have hinX6 : ∀ w ∈ wsX60, w ∈ wsX6_next := by decide +kernel
  refine lv_aload_n hx hb dX6_next_0 rfl (lv_at hl 0 rfl) ?_
  refine lv_iload_n hx hb dX6_next_1 rfl (lv_at hl 1 rfl) ?_
  obtain ⟨r1, hr1, hd⟩ := Option.bind_eq_some_iff.mp hd
  refine sn_Vi (b := b) (rest := []) (As := [.int x1]) (st := st) C (c_X6_isNode hi hT hr1) (cwV 1 hts gX6_next_X6_isNode rfl rfl rfl (by decide +kernel) ⟨Nat.le_of_ble_eq_true rfl, Nat.le_of_ble_eq_true rfl⟩) hP hS (sn_l0 hT.1 (by decide)) hT.2.1 rfl rfl hl.1 rfl (Nat.le_of_ble_eq_true rfl) dX6_next_2 (fun H locs hP hS => ?_)
  refine lv_if_eq (tgt := 16) hx hb dX6_next_5 (by decide) (fun hc => ?_) (fun hc => ?_)
  · replace hd := (if_pos hc).symm.trans hd
    refine lv_bipush (v := (-101 : Int32)) hx hb dX6_next_16 (by decide) ?_
    have ho := Option.some.inj hd
    subst ho
    exact sn_ri C hP hS dX6_next_18
  · replace hd := (if_neg hc).symm.trans hd
    refine lv_aload_n hx hb dX6_next_8 rfl (lv_at hl 0 rfl) ?_
    refine lv_iload_n hx hb dX6_next_9 rfl (lv_at hl 2 rfl) ?_
    obtain ⟨r2, hr2, hd⟩ := Option.bind_eq_some_iff.mp hd
    refine sn_Vi (b := b) (rest := []) (As := [.int x2]) (st := st) C (c_X6_isNode hi hT hr2) (cwV 1 hts gX6_next_X6_isNode rfl rfl rfl (by decide +kernel) ⟨Nat.le_of_ble_eq_true rfl, Nat.le_of_ble_eq_true rfl⟩) hP hS (sn_l0 hT.1 (by decide)) hT.2.1 rfl rfl hl.1 rfl (Nat.le_of_ble_eq_true rfl) dX6_next_10 (fun H locs hP hS => ?_)
    refine lv_if_ne (tgt := 19) hx hb dX6_next_13 (by decide) (fun hc => ?_) (fun hc => ?_)
    · replace hd := (if_neg hc).symm.trans hd
      refine lv_aload_n hx hb dX6_next_19 rfl (lv_at hl 0 rfl) ?_
      refine lv_iload_n hx hb dX6_next_20 rfl (lv_at hl 1 rfl) ?_
      refine lv_iload_n hx hb dX6_next_21 rfl (lv_at hl 2 rfl) ?_
      obtain ⟨r3, hr3, hd⟩ := Option.bind_eq_some_iff.mp hd
      refine sn_Vi (b := b) (rest := []) (As := [.int x1, .int x2]) (st := st) C (c_X6_isTie hi hT hr3) (cwV 2 hts gX6_next_X6_isTie rfl rfl rfl (by decide +kernel) ⟨Nat.le_of_ble_eq_true rfl, Nat.le_of_ble_eq_true rfl⟩) hP hS (sn_l0 hT.1 (by decide)) hT.2.1 rfl rfl hl.1 rfl (Nat.le_of_ble_eq_true rfl) dX6_next_22 (fun H locs hP hS => ?_)
      refine lv_if_eq (tgt := 37) hx hb dX6_next_25 (by decide) (fun hc => ?_) (fun hc => ?_)
      · replace hd := (if_pos hc).symm.trans hd
        refine lv_bipush (v := (-102 : Int32)) hx hb dX6_next_37 (by decide) ?_
        have ho := Option.some.inj hd
        subst ho
        exact sn_ri C hP hS dX6_next_39
      · replace hd := (if_neg hc).symm.trans hd
        refine lv_aload_n hx hb dX6_next_28 rfl (lv_at hl 0 rfl) ?_
        refine lv_iload_n hx hb dX6_next_29 rfl (lv_at hl 2 rfl) ?_
        refine lv_iload_n hx hb dX6_next_30 rfl (lv_at hl 1 rfl) ?_
        obtain ⟨r4, hr4, hd⟩ := Option.bind_eq_some_iff.mp hd
        refine sn_Vi (b := b) (rest := []) (As := [.int x2, .int x1]) (st := st) C (c_X6_isTie hi hT hr4) (cwV 2 hts gX6_next_X6_isTie rfl rfl rfl (by decide +kernel) ⟨Nat.le_of_ble_eq_true rfl, Nat.le_of_ble_eq_true rfl⟩) hP hS (sn_l0 hT.1 (by decide)) hT.2.1 rfl rfl hl.1 rfl (Nat.le_of_ble_eq_true rfl) dX6_next_31 (fun H locs hP hS => ?_)
        refine lv_if_ne (tgt := 40) hx hb dX6_next_34 (by decide) (fun hc => ?_) (fun hc => ?_)
        · replace hd := (if_neg hc).symm.trans hd
          refine lv_aload_n hx hb dX6_next_40 rfl (lv_at hl 0 rfl) ?_
          refine sn_get (ci := 5) (Cn := RX6) (T := TX6) (n := 6) (v := .ref (g.2.2.2 (b + 1))) C hinX6 hP b (sn_l0 hT.1 (by decide)) hT.2.1 rfl 0 (by decide) (by decide +kernel) rfl rfl dX6_next_41 ?_
          refine lv_sipush (v := (361 : Int32)) hx hb dX6_next_44 (by decide) ?_
          refine sn_aldc (k := 361) C hP (b + 1) (sn_l hT.1 (by decide)) hT.2.2.1 (by decide +kernel) dX6_next_47 ?_
          refine lv_if_ne (tgt := 54) hx hb dX6_next_48 (by decide) (fun hc => ?_) (fun hc => ?_)
          · replace hd := (if_neg hc).symm.trans hd
            refine lv_iconst (v := (-1 : Int32)) hx hb dX6_next_54 (by decide) ?_
            refine lv_istore_n (lv' := [(3, .int (-1 : Int32)), (0, .ref (g.2.2.2 b)), (1, .int x1), (2, .int x2)]) hx hb dX6_next_55 rfl hl (by decide) rfl (fun ls hl => ?_)
            refine lv_aload_n hx hb dX6_next_56 rfl (lv_at hl 1 rfl) ?_
            refine sn_get (ci := 5) (Cn := RX6) (T := TX6) (n := 6) (v := .ref (g.2.2.2 (b + 1))) C hinX6 hP b (sn_l0 hT.1 (by decide)) hT.2.1 rfl 0 (by decide) (by decide +kernel) rfl rfl dX6_next_57 ?_
            refine lv_sipush (v := (360 : Int32)) hx hb dX6_next_60 (by decide) ?_
            refine sn_aldc (k := 360) C hP (b + 1) (sn_l hT.1 (by decide)) hT.2.2.1 (by decide +kernel) dX6_next_63 ?_
            refine lv_iconst (v := (1 : Int32)) hx hb dX6_next_64 (by decide) ?_
            refine lv_isub hx hb dX6_next_65 ?_
            refine lv_istore (lv' := [(4, .int ((st.1 (b + 1) 360) - (1 : Int32))), (3, .int (-1 : Int32)), (0, .ref (g.2.2.2 b)), (1, .int x1), (2, .int x2)]) hx hb dX6_next_66 hl (by decide) rfl (fun ls hl => ?_)
            exact t_X6_next_L68 (st := st) C hT 4096 (-1 : Int32) ((st.1 (b + 1) 360) - (1 : Int32)) _ _ _ hd hP hS (lv_sub hl [2, 3, 4, 1, 0] rfl)
          · replace hd := (if_pos hc).symm.trans hd
            refine lv_bipush (v := (-103 : Int32)) hx hb dX6_next_51 (by decide) ?_
            have ho := Option.some.inj hd
            subst ho
            exact sn_ri C hP hS dX6_next_53
        · replace hd := (if_pos hc).symm.trans hd
          refine lv_bipush (v := (-102 : Int32)) hx hb dX6_next_37 (by decide) ?_
          have ho := Option.some.inj hd
          subst ho
          exact sn_ri C hP hS dX6_next_39
    · replace hd := (if_pos hc).symm.trans hd
      refine lv_bipush (v := (-101 : Int32)) hx hb dX6_next_16 (by decide) ?_
      have ho := Option.some.inj hd
      subst ho
      exact sn_ri C hP hS dX6_next_18

set_option maxHeartbeats 4000000 in
set_option maxRecDepth 100000 in
theorem t_X6_act_L195 {p : Program} {l : Launch} {e : Env} {s : State} {m : MethodId} {args : Array Value} {below : List Frame} {meth : Method} {c : Code} {g : sn_G} {tb : Nat → sn_K} {N : Nat} {b : Nat} {x1 : Int32} {x2 : Int32} {x3 : Int32} {x4 : Int32} {st : sn_S} {o : sn_S} (C : sn_Cx p s m args meth c g N cX6_act 7 wsX6_act yX6_act.cls none) (hT : sn_Mo tb N b)  : ∀ (n : Nat) (x5 : Int32) (x6 : Int32) (H : Heap) (locs : List Loc) (ls : Array Slot), D_X6_act_L195 b x1 x2 x3 x4 st n x5 x6 = some o → va_P g.1 vwCl (sn_W g tb N st) H → va_S (sn_A g N) s.heap H locs → lv_has ls 7 [(0, .ref (g.2.2.2 b)), (1, .int x1), (2, .int x2), (3, .int x3), (4, .int x4), (5, .int x5), (6, .int x6)] → W p l e { frames := 10, cells := 0, slots := 0, locals := 222 } s m args below meth c H locs 0 0 (MQ below (sn_Qv g tb N o) args s 0 0 (sn_A g N)) (F0 m 195 ls []) := by
  obtain ⟨⟨hx, hb, hml, hown, hts⟩, hr, hlk, hC, hi⟩ := id C
  have hinX6 : ∀ w ∈ wsX60, w ∈ wsX6_act := by decide +kernel
  intro n
  induction n with
  | zero => intro _ _ _ _ _ hd; exact nomatch (show (none : Option (sn_S)) = some o from hd)
  | succ n ih =>
    intro x5 x6 H locs ls hd hP hS hl
    replace hd := (D_X6_act_L195.eq_2 _ _ _ _ _ _ _ _ _).symm.trans hd
    refine lv_iload hx hb dX6_act_195 (lv_at hl 6 rfl) ?_
    refine lv_aload_n hx hb dX6_act_197 rfl (lv_at hl 0 rfl) ?_
    refine sn_get (ci := 5) (Cn := RX6) (T := TX6) (n := 6) (v := .ref (g.2.2.2 (b + 1))) C hinX6 hP b (sn_l0 hT.1 (by decide)) hT.2.1 rfl 0 (by decide) (by decide +kernel) rfl rfl dX6_act_198 ?_
    refine lv_sipush (v := (360 : Int32)) hx hb dX6_act_201 (by decide) ?_
    refine sn_aldc (k := 360) C hP (b + 1) (sn_l hT.1 (by decide)) hT.2.2.1 (by decide +kernel) dX6_act_204 ?_
    refine lv_icmp_ge (tgt := 243) hx hb dX6_act_205 (by decide) (fun hc => ?_) (fun hc => ?_)
    · replace hd := (if_pos hc).symm.trans hd
      refine lv_aload_n hx hb dX6_act_243 rfl (lv_at hl 0 rfl) ?_
      refine sn_get (ci := 5) (Cn := RX6) (T := TX6) (n := 6) (v := .ref (g.2.2.2 (b + 3))) C hinX6 hP b (sn_l0 hT.1 (by decide)) hT.2.1 rfl 3 (by decide) (by decide +kernel) rfl rfl dX6_act_244 ?_
      refine lv_bipush (v := (48 : Int32)) hx hb dX6_act_247 (by decide) ?_
      refine lv_iload_n hx hb dX6_act_249 rfl (lv_at hl 1 rfl) ?_
      refine lv_iadd hx hb dX6_act_250 ?_
      refine lv_iload hx hb dX6_act_251 (lv_at hl 5 rfl) ?_
      refine sn_ast C hP hS (b + 3) (sn_l hT.1 (by decide)) hT.2.2.2.2.1 hd dX6_act_253 (fun k28 H locs hk28 hd hP hS => ?_)
      refine lv_iload_n hx hb dX6_act_254 rfl (lv_at hl 1 rfl) ?_
      refine lv_if_ne (tgt := 280) hx hb dX6_act_255 (by decide) (fun hc => ?_) (fun hc => ?_)
      · replace hd := (if_neg hc).symm.trans hd
        refine lv_goto (tgt := 356) hx hb dX6_act_280 (by decide) ?_
        refine lv_aload_n hx hb dX6_act_356 rfl (lv_at hl 0 rfl) ?_
        refine sn_get (ci := 5) (Cn := RX6) (T := TX6) (n := 6) (v := .ref (g.2.2.2 (b + 3))) C hinX6 hP b (sn_l0 hT.1 (by decide)) hT.2.1 rfl 3 (by decide) (by decide +kernel) rfl rfl dX6_act_357 ?_
        refine lv_sipush (v := (364 : Int32)) hx hb dX6_act_360 (by decide) ?_
        refine lv_iload_n hx hb dX6_act_363 rfl (lv_at hl 2 rfl) ?_
        refine lv_iadd hx hb dX6_act_364 ?_
        refine lv_dup2_11 hx hb dX6_act_365 rfl rfl ?_
        refine sn_ald C hP (b + 3) (sn_l hT.1 (by decide)) hT.2.2.2.2.1 hd dX6_act_366 (fun k29 hk29 hd => ?_)
        refine lv_iconst (v := (1 : Int32)) hx hb dX6_act_367 (by decide) ?_
        refine lv_iadd hx hb dX6_act_368 ?_
        refine sn_ast C hP hS (b + 3) (sn_l hT.1 (by decide)) hT.2.2.2.2.1 hd dX6_act_369 (fun k30 H locs hk30 hd hP hS => ?_)
        have ho := Option.some.inj hd
        subst ho
        exact sn_rv C hP hS dX6_act_370
      · replace hd := (if_pos hc).symm.trans hd
        refine lv_aload_n hx hb dX6_act_258 rfl (lv_at hl 0 rfl) ?_
        refine sn_get (ci := 5) (Cn := RX6) (T := TX6) (n := 6) (v := .ref (g.2.2.2 (b + 3))) C hinX6 hP b (sn_l0 hT.1 (by decide)) hT.2.1 rfl 3 (by decide) (by decide +kernel) rfl rfl dX6_act_259 ?_
        refine lv_sipush (v := (368 : Int32)) hx hb dX6_act_262 (by decide) ?_
        refine lv_dup2_11 hx hb dX6_act_265 rfl rfl ?_
        refine sn_aldc (k := 368) C hP (b + 3) (sn_l hT.1 (by decide)) hT.2.2.2.2.1 (by decide +kernel) dX6_act_266 ?_
        refine lv_iconst (v := (1 : Int32)) hx hb dX6_act_267 (by decide) ?_
        refine lv_iadd hx hb dX6_act_268 ?_
        refine sn_astc (k := 368) C hP hS (b + 3) (sn_l hT.1 (by decide)) hT.2.2.2.2.1 (by decide +kernel) dX6_act_269 (fun H locs hP hS => ?_)
        refine lv_aload_n hx hb dX6_act_270 rfl (lv_at hl 0 rfl) ?_
        refine sn_get (ci := 5) (Cn := RX6) (T := TX6) (n := 6) (v := .ref (g.2.2.2 (b + 3))) C hinX6 hP b (sn_l0 hT.1 (by decide)) hT.2.1 rfl 3 (by decide) (by decide +kernel) rfl rfl dX6_act_271 ?_
        refine lv_sipush (v := (369 : Int32)) hx hb dX6_act_274 (by decide) ?_
        refine lv_iload hx hb dX6_act_277 (lv_at hl 5 rfl) ?_
        refine sn_astc (k := 369) C hP hS (b + 3) (sn_l hT.1 (by decide)) hT.2.2.2.2.1 (by decide +kernel) dX6_act_279 (fun H locs hP hS => ?_)
        refine lv_goto (tgt := 356) hx hb dX6_act_280 (by decide) ?_
        refine lv_aload_n hx hb dX6_act_356 rfl (lv_at hl 0 rfl) ?_
        refine sn_get (ci := 5) (Cn := RX6) (T := TX6) (n := 6) (v := .ref (g.2.2.2 (b + 3))) C hinX6 hP b (sn_l0 hT.1 (by decide)) hT.2.1 rfl 3 (by decide) (by decide +kernel) rfl rfl dX6_act_357 ?_
        refine lv_sipush (v := (364 : Int32)) hx hb dX6_act_360 (by decide) ?_
        refine lv_iload_n hx hb dX6_act_363 rfl (lv_at hl 2 rfl) ?_
        refine lv_iadd hx hb dX6_act_364 ?_
        refine lv_dup2_11 hx hb dX6_act_365 rfl rfl ?_
        refine sn_ald C hP (b + 3) (sn_l hT.1 (by decide)) hT.2.2.2.2.1 hd dX6_act_366 (fun k31 hk31 hd => ?_)
        refine lv_iconst (v := (1 : Int32)) hx hb dX6_act_367 (by decide) ?_
        refine lv_iadd hx hb dX6_act_368 ?_
        refine sn_ast C hP hS (b + 3) (sn_l hT.1 (by decide)) hT.2.2.2.2.1 hd dX6_act_369 (fun k32 H locs hk32 hd hP hS => ?_)
        have ho := Option.some.inj hd
        subst ho
        exact sn_rv C hP hS dX6_act_370
    · replace hd := (if_neg hc).symm.trans hd
      refine lv_iload hx hb dX6_act_208 (lv_at hl 5 rfl) ?_
      refine lv_aload_n hx hb dX6_act_210 rfl (lv_at hl 0 rfl) ?_
      refine lv_iload_n hx hb dX6_act_211 rfl (lv_at hl 1 rfl) ?_
      refine lv_iload hx hb dX6_act_212 (lv_at hl 6 rfl) ?_
      obtain ⟨r33, hr33, hd⟩ := Option.bind_eq_some_iff.mp hd
      refine sn_Vi (b := b) (rest := [.int x5]) (As := [.int x1, .int x6]) (st := st) C (c_X6_isChild hi hT hr33) (cwV 2 hts gX6_act_X6_isChild rfl rfl rfl (by decide +kernel) ⟨Nat.le_of_ble_eq_true rfl, Nat.le_of_ble_eq_true rfl⟩) hP hS (sn_l0 hT.1 (by decide)) hT.2.1 rfl rfl hl.1 rfl (Nat.le_of_ble_eq_true rfl) dX6_act_214 (fun H locs hP hS => ?_)
      refine lv_if_eq (tgt := 233) hx hb dX6_act_217 (by decide) (fun hc => ?_) (fun hc => ?_)
      · replace hd := (if_pos hc).symm.trans hd
        refine lv_iconst (v := (0 : Int32)) hx hb dX6_act_233 (by decide) ?_
        refine lv_iadd hx hb dX6_act_234 ?_
        refine lv_istore (lv' := [(5, .int (x5 + (0 : Int32))), (0, .ref (g.2.2.2 b)), (1, .int x1), (2, .int x2), (3, .int x3), (4, .int x4), (6, .int x6)]) hx hb dX6_act_235 hl (by decide) rfl (fun ls hl => ?_)
        refine lv_iinc (v := (x6 + (1 : Int32))) (lv' := [(6, .int (x6 + (1 : Int32))), (5, .int (x5 + (0 : Int32))), (0, .ref (g.2.2.2 b)), (1, .int x1), (2, .int x2), (3, .int x3), (4, .int x4)]) hx hb dX6_act_237 hl (k := 6) rfl rfl (by decide) rfl (fun ls hl => ?_)
        refine lv_goto (tgt := 195) hx hb dX6_act_240 (by decide) ?_
        exact ih (x5 + (0 : Int32)) (x6 + (1 : Int32)) _ _ _ hd hP hS (lv_sub hl [2, 3, 4, 5, 6, 1, 0] rfl)
      · replace hd := (if_neg hc).symm.trans hd
        refine lv_aload_n hx hb dX6_act_220 rfl (lv_at hl 0 rfl) ?_
        refine sn_get (ci := 5) (Cn := RX6) (T := TX6) (n := 6) (v := .ref (g.2.2.2 (b + 1))) C hinX6 hP b (sn_l0 hT.1 (by decide)) hT.2.1 rfl 0 (by decide) (by decide +kernel) rfl rfl dX6_act_221 ?_
        refine lv_bipush (v := (48 : Int32)) hx hb dX6_act_224 (by decide) ?_
        refine lv_iload hx hb dX6_act_226 (lv_at hl 6 rfl) ?_
        refine lv_iadd hx hb dX6_act_228 ?_
        refine sn_ald C hP (b + 1) (sn_l hT.1 (by decide)) hT.2.2.1 hd dX6_act_229 (fun k34 hk34 hd => ?_)
        refine lv_goto (tgt := 234) hx hb dX6_act_230 (by decide) ?_
        refine lv_iadd hx hb dX6_act_234 ?_
        refine lv_istore (lv' := [(5, .int (x5 + (st.1 (b + 1) k34))), (0, .ref (g.2.2.2 b)), (1, .int x1), (2, .int x2), (3, .int x3), (4, .int x4), (6, .int x6)]) hx hb dX6_act_235 hl (by decide) rfl (fun ls hl => ?_)
        refine lv_iinc (v := (x6 + (1 : Int32))) (lv' := [(6, .int (x6 + (1 : Int32))), (5, .int (x5 + (st.1 (b + 1) k34))), (0, .ref (g.2.2.2 b)), (1, .int x1), (2, .int x2), (3, .int x3), (4, .int x4)]) hx hb dX6_act_237 hl (k := 6) rfl rfl (by decide) rfl (fun ls hl => ?_)
        refine lv_goto (tgt := 195) hx hb dX6_act_240 (by decide) ?_
        exact ih (x5 + (st.1 (b + 1) k34)) (x6 + (1 : Int32)) _ _ _ hd hP hS (lv_sub hl [2, 3, 4, 5, 6, 1, 0] rfl)

set_option maxHeartbeats 4000000 in
set_option maxRecDepth 100000 in
theorem t_X6_act_L48 {p : Program} {l : Launch} {e : Env} {s : State} {m : MethodId} {args : Array Value} {below : List Frame} {meth : Method} {c : Code} {g : sn_G} {tb : Nat → sn_K} {N : Nat} {b : Nat} {x1 : Int32} {x2 : Int32} {o : sn_S} (C : sn_Cx p s m args meth c g N cX6_act 7 wsX6_act yX6_act.cls none) (hT : sn_Mo tb N b)  : ∀ (n : Nat) (x3 : Int32) (st : sn_S) (H : Heap) (locs : List Loc) (ls : Array Slot), D_X6_act_L48 b x1 x2 n x3 st = some o → va_P g.1 vwCl (sn_W g tb N st) H → va_S (sn_A g N) s.heap H locs → lv_has ls 7 [(0, .ref (g.2.2.2 b)), (1, .int x1), (2, .int x2), (3, .int x3)] → W p l e { frames := 10, cells := 0, slots := 0, locals := 222 } s m args below meth c H locs 0 0 (MQ below (sn_Qv g tb N o) args s 0 0 (sn_A g N)) (F0 m 48 ls []) := by
  obtain ⟨⟨hx, hb, hml, hown, hts⟩, hr, hlk, hC, hi⟩ := id C
  have hinX6 : ∀ w ∈ wsX60, w ∈ wsX6_act := by decide +kernel
  intro n
  induction n with
  | zero => intro _ _ _ _ _ hd; exact nomatch (show (none : Option (sn_S)) = some o from hd)
  | succ n ih =>
    intro x3 st H locs ls hd hP hS hl
    replace hd := (D_X6_act_L48.eq_2 _ _ _ _ _ _).symm.trans hd
    refine lv_iload_n hx hb dX6_act_48 rfl (lv_at hl 3 rfl) ?_
    refine lv_aload_n hx hb dX6_act_49 rfl (lv_at hl 0 rfl) ?_
    refine sn_get (ci := 5) (Cn := RX6) (T := TX6) (n := 6) (v := .ref (g.2.2.2 (b + 1))) C hinX6 hP b (sn_l0 hT.1 (by decide)) hT.2.1 rfl 0 (by decide) (by decide +kernel) rfl rfl dX6_act_50 ?_
    refine lv_sipush (v := (360 : Int32)) hx hb dX6_act_53 (by decide) ?_
    refine sn_aldc (k := 360) C hP (b + 1) (sn_l hT.1 (by decide)) hT.2.2.1 (by decide +kernel) dX6_act_56 ?_
    refine lv_icmp_ge (tgt := 95) hx hb dX6_act_57 (by decide) (fun hc => ?_) (fun hc => ?_)
    · replace hd := (if_pos hc).symm.trans hd
      refine lv_goto (tgt := 356) hx hb dX6_act_95 (by decide) ?_
      refine lv_aload_n hx hb dX6_act_356 rfl (lv_at hl 0 rfl) ?_
      refine sn_get (ci := 5) (Cn := RX6) (T := TX6) (n := 6) (v := .ref (g.2.2.2 (b + 3))) C hinX6 hP b (sn_l0 hT.1 (by decide)) hT.2.1 rfl 3 (by decide) (by decide +kernel) rfl rfl dX6_act_357 ?_
      refine lv_sipush (v := (364 : Int32)) hx hb dX6_act_360 (by decide) ?_
      refine lv_iload_n hx hb dX6_act_363 rfl (lv_at hl 2 rfl) ?_
      refine lv_iadd hx hb dX6_act_364 ?_
      refine lv_dup2_11 hx hb dX6_act_365 rfl rfl ?_
      refine sn_ald C hP (b + 3) (sn_l hT.1 (by decide)) hT.2.2.2.2.1 hd dX6_act_366 (fun k50 hk50 hd => ?_)
      refine lv_iconst (v := (1 : Int32)) hx hb dX6_act_367 (by decide) ?_
      refine lv_iadd hx hb dX6_act_368 ?_
      refine sn_ast C hP hS (b + 3) (sn_l hT.1 (by decide)) hT.2.2.2.2.1 hd dX6_act_369 (fun k51 H locs hk51 hd hP hS => ?_)
      have ho := Option.some.inj hd
      subst ho
      exact sn_rv C hP hS dX6_act_370
    · replace hd := (if_neg hc).symm.trans hd
      refine lv_aload_n hx hb dX6_act_60 rfl (lv_at hl 0 rfl) ?_
      refine lv_iload_n hx hb dX6_act_61 rfl (lv_at hl 1 rfl) ?_
      refine lv_iload_n hx hb dX6_act_62 rfl (lv_at hl 3 rfl) ?_
      obtain ⟨r52, hr52, hd⟩ := Option.bind_eq_some_iff.mp hd
      refine sn_Vi (b := b) (rest := []) (As := [.int x1, .int x3]) (st := st) C (c_X6_isLink hi hT hr52) (cwV 2 hts gX6_act_X6_isLink rfl rfl rfl (by decide +kernel) ⟨Nat.le_of_ble_eq_true rfl, Nat.le_of_ble_eq_true rfl⟩) hP hS (sn_l0 hT.1 (by decide)) hT.2.1 rfl rfl hl.1 rfl (Nat.le_of_ble_eq_true rfl) dX6_act_63 (fun H locs hP hS => ?_)
      refine lv_if_eq (tgt := 89) hx hb dX6_act_66 (by decide) (fun hc => ?_) (fun hc => ?_)
      · replace hd := (if_pos hc).symm.trans hd
        refine lv_iinc (v := (x3 + (1 : Int32))) (lv' := [(3, .int (x3 + (1 : Int32))), (0, .ref (g.2.2.2 b)), (1, .int x1), (2, .int x2)]) hx hb dX6_act_89 hl (k := 3) rfl rfl (by decide) rfl (fun ls hl => ?_)
        refine lv_goto (tgt := 48) hx hb dX6_act_92 (by decide) ?_
        exact ih (x3 + (1 : Int32)) st _ _ _ hd hP hS (lv_sub hl [1, 2, 3, 0] rfl)
      · replace hd := (if_neg hc).symm.trans hd
        refine lv_aload_n hx hb dX6_act_69 rfl (lv_at hl 0 rfl) ?_
        refine sn_get (ci := 5) (Cn := RX6) (T := TX6) (n := 6) (v := .ref (g.2.2.2 (b + 3))) C hinX6 hP b (sn_l0 hT.1 (by decide)) hT.2.1 rfl 3 (by decide) (by decide +kernel) rfl rfl dX6_act_70 ?_
        refine lv_bipush (v := (72 : Int32)) hx hb dX6_act_73 (by decide) ?_
        refine lv_bipush (v := (12 : Int32)) hx hb dX6_act_75 (by decide) ?_
        refine lv_iload_n hx hb dX6_act_77 rfl (lv_at hl 1 rfl) ?_
        refine lv_imul hx hb dX6_act_78 ?_
        refine lv_iadd hx hb dX6_act_79 ?_
        refine lv_iload_n hx hb dX6_act_80 rfl (lv_at hl 3 rfl) ?_
        refine lv_iadd hx hb dX6_act_81 ?_
        refine lv_aload_n hx hb dX6_act_82 rfl (lv_at hl 0 rfl) ?_
        refine lv_iload_n hx hb dX6_act_83 rfl (lv_at hl 1 rfl) ?_
        refine lv_iload_n hx hb dX6_act_84 rfl (lv_at hl 3 rfl) ?_
        obtain ⟨r53, hr53, hd⟩ := Option.bind_eq_some_iff.mp hd
        refine sn_Vi (b := b) (rest := [.int (((72 : Int32) + ((12 : Int32) * x1)) + x3), .ref (g.2.2.2 (b + 3))]) (As := [.int x1, .int x3]) (st := st) C (c_X6_xOf hi hT hr53) (cwV 2 hts gX6_act_X6_xOf rfl rfl rfl (by decide +kernel) ⟨Nat.le_of_ble_eq_true rfl, Nat.le_of_ble_eq_true rfl⟩) hP hS (sn_l0 hT.1 (by decide)) hT.2.1 rfl rfl hl.1 rfl (Nat.le_of_ble_eq_true rfl) dX6_act_85 (fun H locs hP hS => ?_)
        refine sn_ast C hP hS (b + 3) (sn_l hT.1 (by decide)) hT.2.2.2.2.1 hd dX6_act_88 (fun k54 H locs hk54 hd hP hS => ?_)
        refine lv_iinc (v := (x3 + (1 : Int32))) (lv' := [(3, .int (x3 + (1 : Int32))), (0, .ref (g.2.2.2 b)), (1, .int x1), (2, .int x2)]) hx hb dX6_act_89 hl (k := 3) rfl rfl (by decide) rfl (fun ls hl => ?_)
        refine lv_goto (tgt := 48) hx hb dX6_act_92 (by decide) ?_
        exact ih (x3 + (1 : Int32)) (sn_wr st (b + 3) k54 r53) _ _ _ hd hP hS (lv_sub hl [1, 2, 3, 0] rfl)

set_option maxHeartbeats 4000000 in
set_option maxRecDepth 100000 in
theorem c_X6_act {l : Launch} {g : sn_G} {tb : Nat → sn_K} {N : Nat} (hi : sn_I g N) {b : Nat} {x1 : Int32} {x2 : Int32} (hT : sn_Mo tb N b) {st : sn_S} {o : sn_S} (hd : D_X6_act b x1 x2 st = some o) : sn_Mv l yX6_act wsX6_act { frames := 10, cells := 0, slots := 0, locals := 222 } g tb N [.ref (g.2.2.2 b), .int x1, .int x2] st o := by
  refine sn_Mv.of (cc := cX6_act) (nL := 7) (ret := none) hi (by decide) rfl (Nat.le_of_ble_eq_true rfl) ?_
  intro p e s m args below meth c ls C hP hS hl
  have hl : lv_has ls 7 [(0, .ref (g.2.2.2 b)), (1, .int x1), (2, .int x2)] := hl
  obtain ⟨⟨hx, hb, hml, hown, hts⟩, hr, hlk, hC, hi⟩ := id C
  unfold D_X6_act at hd
  have hinX6 : ∀ w ∈ wsX60, w ∈ wsX6_act := by decide +kernel
  refine lv_iload_n hx hb dX6_act_0 rfl (lv_at hl 2 rfl) ?_
  refine lv_if_ne (tgt := 98) hx hb dX6_act_1 (by decide) (fun hc => ?_) (fun hc => ?_)
  · replace hd := (if_neg hc).symm.trans hd
    refine lv_iload_n hx hb dX6_act_98 rfl (lv_at hl 2 rfl) ?_
    refine lv_iconst (v := (1 : Int32)) hx hb dX6_act_99 (by decide) ?_
    refine lv_icmp_ne (tgt := 134) hx hb dX6_act_100 (by decide) (fun hc => ?_) (fun hc => ?_)
    · replace hd := (if_neg hc).symm.trans hd
      refine lv_iload_n hx hb dX6_act_134 rfl (lv_at hl 2 rfl) ?_
      refine lv_iconst (v := (2 : Int32)) hx hb dX6_act_135 (by decide) ?_
      refine lv_icmp_ne (tgt := 283) hx hb dX6_act_136 (by decide) (fun hc => ?_) (fun hc => ?_)
      · replace hd := (if_neg hc).symm.trans hd
        refine lv_aload_n hx hb dX6_act_283 rfl (lv_at hl 0 rfl) ?_
        refine lv_iload_n hx hb dX6_act_284 rfl (lv_at hl 1 rfl) ?_
        obtain ⟨r1, hr1, hd⟩ := Option.bind_eq_some_iff.mp hd
        refine sn_Vi (b := b) (rest := []) (As := [.int x1]) (st := st) C (c_X6_firstRight hi hT hr1) (cwV 1 hts gX6_act_X6_firstRight rfl rfl rfl (by decide +kernel) ⟨Nat.le_of_ble_eq_true rfl, Nat.le_of_ble_eq_true rfl⟩) hP hS (sn_l0 hT.1 (by decide)) hT.2.1 rfl rfl hl.1 rfl (Nat.le_of_ble_eq_true rfl) dX6_act_285 (fun H locs hP hS => ?_)
        refine lv_istore_n (lv' := [(3, .int r1), (0, .ref (g.2.2.2 b)), (1, .int x1), (2, .int x2)]) hx hb dX6_act_288 rfl hl (by decide) rfl (fun ls hl => ?_)
        refine lv_aload_n hx hb dX6_act_289 rfl (lv_at hl 1 rfl) ?_
        refine lv_aload_n hx hb dX6_act_290 rfl (lv_at hl 1 rfl) ?_
        refine lv_iload_n hx hb dX6_act_291 rfl (lv_at hl 2 rfl) ?_
        refine lv_iload_n hx hb dX6_act_292 rfl (lv_at hl 0 rfl) ?_
        obtain ⟨r2, hr2, hd⟩ := Option.bind_eq_some_iff.mp hd
        refine sn_Vi (b := b) (rest := [.ref (g.2.2.2 b)]) (As := [.int x1, .int r1]) (st := st) C (c_X6_tieAhead hi hT hr2) (cwV 2 hts gX6_act_X6_tieAhead rfl rfl rfl (by decide +kernel) ⟨Nat.le_of_ble_eq_true rfl, Nat.le_of_ble_eq_true rfl⟩) hP hS (sn_l0 hT.1 (by decide)) hT.2.1 rfl rfl hl.1 rfl (Nat.le_of_ble_eq_true rfl) dX6_act_293 (fun H locs hP hS => ?_)
        refine lv_iload_n hx hb dX6_act_296 rfl (lv_at hl 2 rfl) ?_
        obtain ⟨r3, hr3, hd⟩ := Option.bind_eq_some_iff.mp hd
        refine sn_Vi (b := b) (rest := []) (As := [.int r2, .int x1]) (st := st) C (c_X6_xOf hi hT hr3) (cwV 2 hts gX6_act_X6_xOf rfl rfl rfl (by decide +kernel) ⟨Nat.le_of_ble_eq_true rfl, Nat.le_of_ble_eq_true rfl⟩) hP hS (sn_l0 hT.1 (by decide)) hT.2.1 rfl rfl hl.1 rfl (Nat.le_of_ble_eq_true rfl) dX6_act_297 (fun H locs hP hS => ?_)
        refine lv_istore (lv' := [(4, .int r3), (3, .int r1), (0, .ref (g.2.2.2 b)), (1, .int x1), (2, .int x2)]) hx hb dX6_act_300 hl (by decide) rfl (fun ls hl => ?_)
        refine lv_aload_n hx hb dX6_act_302 rfl (lv_at hl 2 rfl) ?_
        refine sn_get (ci := 5) (Cn := RX6) (T := TX6) (n := 6) (v := .ref (g.2.2.2 (b + 3))) C hinX6 hP b (sn_l0 hT.1 (by decide)) hT.2.1 rfl 3 (by decide) (by decide +kernel) rfl rfl dX6_act_303 ?_
        refine lv_bipush (v := (72 : Int32)) hx hb dX6_act_306 (by decide) ?_
        refine lv_bipush (v := (12 : Int32)) hx hb dX6_act_308 (by decide) ?_
        refine lv_iload_n hx hb dX6_act_310 rfl (lv_at hl 3 rfl) ?_
        refine lv_imul hx hb dX6_act_311 ?_
        refine lv_iadd hx hb dX6_act_312 ?_
        refine lv_iload_n hx hb dX6_act_313 rfl (lv_at hl 1 rfl) ?_
        refine lv_iadd hx hb dX6_act_314 ?_
        refine lv_iload_n hx hb dX6_act_315 rfl (lv_at hl 3 rfl) ?_
        refine lv_if_ne (tgt := 340) hx hb dX6_act_316 (by decide) (fun hc => ?_) (fun hc => ?_)
        · replace hd := (if_neg hc).symm.trans hd
          refine lv_iload hx hb dX6_act_340 (lv_at hl 0 rfl) ?_
          refine sn_ast C hP hS (b + 3) (sn_l hT.1 (by decide)) hT.2.2.2.2.1 hd dX6_act_342 (fun k4 H locs hk4 hd hP hS => ?_)
          refine lv_aload_n hx hb dX6_act_343 rfl (lv_at hl 2 rfl) ?_
          refine sn_get (ci := 5) (Cn := RX6) (T := TX6) (n := 6) (v := .ref (g.2.2.2 (b + 3))) C hinX6 hP b (sn_l0 hT.1 (by decide)) hT.2.1 rfl 3 (by decide) (by decide +kernel) rfl rfl dX6_act_344 ?_
          refine lv_bipush (v := (60 : Int32)) hx hb dX6_act_347 (by decide) ?_
          refine lv_iload_n hx hb dX6_act_349 rfl (lv_at hl 3 rfl) ?_
          refine lv_iadd hx hb dX6_act_350 ?_
          refine lv_dup2_11 hx hb dX6_act_351 rfl rfl ?_
          refine sn_ald C hP (b + 3) (sn_l hT.1 (by decide)) hT.2.2.2.2.1 hd dX6_act_352 (fun k5 hk5 hd => ?_)
          refine lv_iconst (v := (1 : Int32)) hx hb dX6_act_353 (by decide) ?_
          refine lv_iadd hx hb dX6_act_354 ?_
          refine sn_ast C hP hS (b + 3) (sn_l hT.1 (by decide)) hT.2.2.2.2.1 hd dX6_act_355 (fun k6 H locs hk6 hd hP hS => ?_)
          refine lv_aload_n hx hb dX6_act_356 rfl (lv_at hl 2 rfl) ?_
          refine sn_get (ci := 5) (Cn := RX6) (T := TX6) (n := 6) (v := .ref (g.2.2.2 (b + 3))) C hinX6 hP b (sn_l0 hT.1 (by decide)) hT.2.1 rfl 3 (by decide) (by decide +kernel) rfl rfl dX6_act_357 ?_
          refine lv_sipush (v := (364 : Int32)) hx hb dX6_act_360 (by decide) ?_
          refine lv_iload_n hx hb dX6_act_363 rfl (lv_at hl 4 rfl) ?_
          refine lv_iadd hx hb dX6_act_364 ?_
          refine lv_dup2_11 hx hb dX6_act_365 rfl rfl ?_
          refine sn_ald C hP (b + 3) (sn_l hT.1 (by decide)) hT.2.2.2.2.1 hd dX6_act_366 (fun k7 hk7 hd => ?_)
          refine lv_iconst (v := (1 : Int32)) hx hb dX6_act_367 (by decide) ?_
          refine lv_iadd hx hb dX6_act_368 ?_
          refine sn_ast C hP hS (b + 3) (sn_l hT.1 (by decide)) hT.2.2.2.2.1 hd dX6_act_369 (fun k8 H locs hk8 hd hP hS => ?_)
          have ho := Option.some.inj hd
          subst ho
          exact sn_rv C hP hS dX6_act_370
        · replace hd := (if_pos hc).symm.trans hd
          refine lv_iload_n hx hb dX6_act_319 rfl (lv_at hl 1 rfl) ?_
          refine lv_aload_n hx hb dX6_act_320 rfl (lv_at hl 2 rfl) ?_
          refine lv_iconst (v := (0 : Int32)) hx hb dX6_act_321 (by decide) ?_
          obtain ⟨r9, hr9, hd⟩ := Option.bind_eq_some_iff.mp hd
          refine sn_Vi (b := b) (rest := [.int r1, .int (((72 : Int32) + ((12 : Int32) * x1)) + r1), .ref (g.2.2.2 (b + 3))]) (As := [.int (0 : Int32)]) (st := st) C (c_X6_firstTie hi hT hr9) (cwV 1 hts gX6_act_X6_firstTie rfl rfl rfl (by decide +kernel) ⟨Nat.le_of_ble_eq_true rfl, Nat.le_of_ble_eq_true rfl⟩) hP hS (sn_l0 hT.1 (by decide)) hT.2.1 rfl rfl hl.1 rfl (Nat.le_of_ble_eq_true rfl) dX6_act_322 (fun H locs hP hS => ?_)
          refine lv_icmp_ne (tgt := 340) hx hb dX6_act_325 (by decide) (fun hc => ?_) (fun hc => ?_)
          · replace hd := (if_neg hc).symm.trans hd
            refine lv_iload hx hb dX6_act_340 (lv_at hl 0 rfl) ?_
            refine sn_ast C hP hS (b + 3) (sn_l hT.1 (by decide)) hT.2.2.2.2.1 hd dX6_act_342 (fun k10 H locs hk10 hd hP hS => ?_)
            refine lv_aload_n hx hb dX6_act_343 rfl (lv_at hl 2 rfl) ?_
            refine sn_get (ci := 5) (Cn := RX6) (T := TX6) (n := 6) (v := .ref (g.2.2.2 (b + 3))) C hinX6 hP b (sn_l0 hT.1 (by decide)) hT.2.1 rfl 3 (by decide) (by decide +kernel) rfl rfl dX6_act_344 ?_
            refine lv_bipush (v := (60 : Int32)) hx hb dX6_act_347 (by decide) ?_
            refine lv_iload_n hx hb dX6_act_349 rfl (lv_at hl 3 rfl) ?_
            refine lv_iadd hx hb dX6_act_350 ?_
            refine lv_dup2_11 hx hb dX6_act_351 rfl rfl ?_
            refine sn_ald C hP (b + 3) (sn_l hT.1 (by decide)) hT.2.2.2.2.1 hd dX6_act_352 (fun k11 hk11 hd => ?_)
            refine lv_iconst (v := (1 : Int32)) hx hb dX6_act_353 (by decide) ?_
            refine lv_iadd hx hb dX6_act_354 ?_
            refine sn_ast C hP hS (b + 3) (sn_l hT.1 (by decide)) hT.2.2.2.2.1 hd dX6_act_355 (fun k12 H locs hk12 hd hP hS => ?_)
            refine lv_aload_n hx hb dX6_act_356 rfl (lv_at hl 2 rfl) ?_
            refine sn_get (ci := 5) (Cn := RX6) (T := TX6) (n := 6) (v := .ref (g.2.2.2 (b + 3))) C hinX6 hP b (sn_l0 hT.1 (by decide)) hT.2.1 rfl 3 (by decide) (by decide +kernel) rfl rfl dX6_act_357 ?_
            refine lv_sipush (v := (364 : Int32)) hx hb dX6_act_360 (by decide) ?_
            refine lv_iload_n hx hb dX6_act_363 rfl (lv_at hl 4 rfl) ?_
            refine lv_iadd hx hb dX6_act_364 ?_
            refine lv_dup2_11 hx hb dX6_act_365 rfl rfl ?_
            refine sn_ald C hP (b + 3) (sn_l hT.1 (by decide)) hT.2.2.2.2.1 hd dX6_act_366 (fun k13 hk13 hd => ?_)
            refine lv_iconst (v := (1 : Int32)) hx hb dX6_act_367 (by decide) ?_
            refine lv_iadd hx hb dX6_act_368 ?_
            refine sn_ast C hP hS (b + 3) (sn_l hT.1 (by decide)) hT.2.2.2.2.1 hd dX6_act_369 (fun k14 H locs hk14 hd hP hS => ?_)
            have ho := Option.some.inj hd
            subst ho
            exact sn_rv C hP hS dX6_act_370
          · replace hd := (if_pos hc).symm.trans hd
            refine lv_iload hx hb dX6_act_328 (lv_at hl 0 rfl) ?_
            refine lv_iconst (v := (1 : Int32)) hx hb dX6_act_330 (by decide) ?_
            refine lv_iadd hx hb dX6_act_331 ?_
            refine lv_aload_n hx hb dX6_act_332 rfl (lv_at hl 2 rfl) ?_
            obtain ⟨r15, hr15, hd⟩ := Option.bind_eq_some_iff.mp hd
            refine sn_Vi (b := b) (rest := [.int (r3 + (1 : Int32)), .int (((72 : Int32) + ((12 : Int32) * x1)) + r1), .ref (g.2.2.2 (b + 3))]) (As := []) (st := st) C (c_X6_k hi hT hr15) (cwV 0 hts gX6_act_X6_k rfl rfl rfl (by decide +kernel) ⟨Nat.le_of_ble_eq_true rfl, Nat.le_of_ble_eq_true rfl⟩) hP hS (sn_l0 hT.1 (by decide)) hT.2.1 rfl rfl hl.1 rfl (Nat.le_of_ble_eq_true rfl) dX6_act_333 (fun H locs hP hS => ?_)
            by_cases hz16 : r15 = 0
            · exact nomatch (if_pos hz16).symm.trans hd
            replace hd := (if_neg hz16).symm.trans hd
            refine lv_irem hx hb dX6_act_336 hz16 ?_
            refine lv_goto (tgt := 342) hx hb dX6_act_337 (by decide) ?_
            refine sn_ast C hP hS (b + 3) (sn_l hT.1 (by decide)) hT.2.2.2.2.1 hd dX6_act_342 (fun k17 H locs hk17 hd hP hS => ?_)
            refine lv_aload_n hx hb dX6_act_343 rfl (lv_at hl 2 rfl) ?_
            refine sn_get (ci := 5) (Cn := RX6) (T := TX6) (n := 6) (v := .ref (g.2.2.2 (b + 3))) C hinX6 hP b (sn_l0 hT.1 (by decide)) hT.2.1 rfl 3 (by decide) (by decide +kernel) rfl rfl dX6_act_344 ?_
            refine lv_bipush (v := (60 : Int32)) hx hb dX6_act_347 (by decide) ?_
            refine lv_iload_n hx hb dX6_act_349 rfl (lv_at hl 3 rfl) ?_
            refine lv_iadd hx hb dX6_act_350 ?_
            refine lv_dup2_11 hx hb dX6_act_351 rfl rfl ?_
            refine sn_ald C hP (b + 3) (sn_l hT.1 (by decide)) hT.2.2.2.2.1 hd dX6_act_352 (fun k18 hk18 hd => ?_)
            refine lv_iconst (v := (1 : Int32)) hx hb dX6_act_353 (by decide) ?_
            refine lv_iadd hx hb dX6_act_354 ?_
            refine sn_ast C hP hS (b + 3) (sn_l hT.1 (by decide)) hT.2.2.2.2.1 hd dX6_act_355 (fun k19 H locs hk19 hd hP hS => ?_)
            refine lv_aload_n hx hb dX6_act_356 rfl (lv_at hl 2 rfl) ?_
            refine sn_get (ci := 5) (Cn := RX6) (T := TX6) (n := 6) (v := .ref (g.2.2.2 (b + 3))) C hinX6 hP b (sn_l0 hT.1 (by decide)) hT.2.1 rfl 3 (by decide) (by decide +kernel) rfl rfl dX6_act_357 ?_
            refine lv_sipush (v := (364 : Int32)) hx hb dX6_act_360 (by decide) ?_
            refine lv_iload_n hx hb dX6_act_363 rfl (lv_at hl 4 rfl) ?_
            refine lv_iadd hx hb dX6_act_364 ?_
            refine lv_dup2_11 hx hb dX6_act_365 rfl rfl ?_
            refine sn_ald C hP (b + 3) (sn_l hT.1 (by decide)) hT.2.2.2.2.1 hd dX6_act_366 (fun k20 hk20 hd => ?_)
            refine lv_iconst (v := (1 : Int32)) hx hb dX6_act_367 (by decide) ?_
            refine lv_iadd hx hb dX6_act_368 ?_
            refine sn_ast C hP hS (b + 3) (sn_l hT.1 (by decide)) hT.2.2.2.2.1 hd dX6_act_369 (fun k21 H locs hk21 hd hP hS => ?_)
            have ho := Option.some.inj hd
            subst ho
            exact sn_rv C hP hS dX6_act_370
      · replace hd := (if_pos hc).symm.trans hd
        refine lv_aload_n hx hb dX6_act_139 rfl (lv_at hl 0 rfl) ?_
        refine sn_get (ci := 5) (Cn := RX6) (T := TX6) (n := 6) (v := .ref (g.2.2.2 (b + 1))) C hinX6 hP b (sn_l0 hT.1 (by decide)) hT.2.1 rfl 0 (by decide) (by decide +kernel) rfl rfl dX6_act_140 ?_
        refine lv_bipush (v := (36 : Int32)) hx hb dX6_act_143 (by decide) ?_
        refine lv_iload_n hx hb dX6_act_145 rfl (lv_at hl 1 rfl) ?_
        refine lv_iadd hx hb dX6_act_146 ?_
        refine sn_ald C hP (b + 1) (sn_l hT.1 (by decide)) hT.2.2.1 hd dX6_act_147 (fun k22 hk22 hd => ?_)
        refine lv_istore_n (lv' := [(3, .int (st.1 (b + 1) k22)), (0, .ref (g.2.2.2 b)), (1, .int x1), (2, .int x2)]) hx hb dX6_act_148 rfl hl (by decide) rfl (fun ls hl => ?_)
        refine lv_aload_n hx hb dX6_act_149 rfl (lv_at hl 1 rfl) ?_
        refine lv_iload_n hx hb dX6_act_150 rfl (lv_at hl 2 rfl) ?_
        obtain ⟨r23, hr23, hd⟩ := Option.bind_eq_some_iff.mp hd
        refine sn_Vi (b := b) (rest := []) (As := [.int x1]) (st := st) C (c_X6_wavePhase hi hT hr23) (cwV 1 hts gX6_act_X6_wavePhase rfl rfl rfl (by decide +kernel) ⟨Nat.le_of_ble_eq_true rfl, Nat.le_of_ble_eq_true rfl⟩) hP hS (sn_l0 hT.1 (by decide)) hT.2.1 rfl rfl hl.1 rfl (Nat.le_of_ble_eq_true rfl) dX6_act_151 (fun H locs hP hS => ?_)
        refine lv_istore (lv' := [(4, .int r23), (3, .int (st.1 (b + 1) k22)), (0, .ref (g.2.2.2 b)), (1, .int x1), (2, .int x2)]) hx hb dX6_act_154 hl (by decide) rfl (fun ls hl => ?_)
        refine lv_aload_n hx hb dX6_act_156 rfl (lv_at hl 2 rfl) ?_
        refine sn_get (ci := 5) (Cn := RX6) (T := TX6) (n := 6) (v := .ref (g.2.2.2 (b + 3))) C hinX6 hP b (sn_l0 hT.1 (by decide)) hT.2.1 rfl 3 (by decide) (by decide +kernel) rfl rfl dX6_act_157 ?_
        refine lv_bipush (v := (36 : Int32)) hx hb dX6_act_160 (by decide) ?_
        refine lv_iload_n hx hb dX6_act_162 rfl (lv_at hl 3 rfl) ?_
        refine lv_iadd hx hb dX6_act_163 ?_
        refine lv_iload hx hb dX6_act_164 (lv_at hl 0 rfl) ?_
        refine sn_ast C hP hS (b + 3) (sn_l hT.1 (by decide)) hT.2.2.2.2.1 hd dX6_act_166 (fun k24 H locs hk24 hd hP hS => ?_)
        refine lv_iload_n hx hb dX6_act_167 rfl (lv_at hl 1 rfl) ?_
        refine lv_iconst (v := (1 : Int32)) hx hb dX6_act_168 (by decide) ?_
        refine lv_icmp_ne (tgt := 280) hx hb dX6_act_169 (by decide) (fun hc => ?_) (fun hc => ?_)
        · replace hd := (if_neg hc).symm.trans hd
          refine lv_goto (tgt := 356) hx hb dX6_act_280 (by decide) ?_
          refine lv_aload_n hx hb dX6_act_356 rfl (lv_at hl 2 rfl) ?_
          refine sn_get (ci := 5) (Cn := RX6) (T := TX6) (n := 6) (v := .ref (g.2.2.2 (b + 3))) C hinX6 hP b (sn_l0 hT.1 (by decide)) hT.2.1 rfl 3 (by decide) (by decide +kernel) rfl rfl dX6_act_357 ?_
          refine lv_sipush (v := (364 : Int32)) hx hb dX6_act_360 (by decide) ?_
          refine lv_iload_n hx hb dX6_act_363 rfl (lv_at hl 4 rfl) ?_
          refine lv_iadd hx hb dX6_act_364 ?_
          refine lv_dup2_11 hx hb dX6_act_365 rfl rfl ?_
          refine sn_ald C hP (b + 3) (sn_l hT.1 (by decide)) hT.2.2.2.2.1 hd dX6_act_366 (fun k25 hk25 hd => ?_)
          refine lv_iconst (v := (1 : Int32)) hx hb dX6_act_367 (by decide) ?_
          refine lv_iadd hx hb dX6_act_368 ?_
          refine sn_ast C hP hS (b + 3) (sn_l hT.1 (by decide)) hT.2.2.2.2.1 hd dX6_act_369 (fun k26 H locs hk26 hd hP hS => ?_)
          have ho := Option.some.inj hd
          subst ho
          exact sn_rv C hP hS dX6_act_370
        · replace hd := (if_pos hc).symm.trans hd
          refine lv_iload_n hx hb dX6_act_172 rfl (lv_at hl 3 rfl) ?_
          refine lv_if_eq (tgt := 182) hx hb dX6_act_173 (by decide) (fun hc => ?_) (fun hc => ?_)
          · replace hd := (if_pos hc).symm.trans hd
            refine lv_aload_n hx hb dX6_act_182 rfl (lv_at hl 2 rfl) ?_
            refine sn_get (ci := 5) (Cn := RX6) (T := TX6) (n := 6) (v := .ref (g.2.2.2 (b + 1))) C hinX6 hP b (sn_l0 hT.1 (by decide)) hT.2.1 rfl 0 (by decide) (by decide +kernel) rfl rfl dX6_act_183 ?_
            refine lv_iconst (v := (0 : Int32)) hx hb dX6_act_186 (by decide) ?_
            refine lv_iload_n hx hb dX6_act_187 rfl (lv_at hl 3 rfl) ?_
            refine lv_iadd hx hb dX6_act_188 ?_
            refine sn_ald C hP (b + 1) (sn_l hT.1 (by decide)) hT.2.2.1 hd dX6_act_189 (fun k27 hk27 hd => ?_)
            refine lv_istore (lv' := [(5, .int ((sn_wr st (b + 3) k24 r23).1 (b + 1) k27)), (4, .int r23), (3, .int (st.1 (b + 1) k22)), (0, .ref (g.2.2.2 b)), (1, .int x1), (2, .int x2)]) hx hb dX6_act_190 hl (by decide) rfl (fun ls hl => ?_)
            refine lv_iconst (v := (0 : Int32)) hx hb dX6_act_192 (by decide) ?_
            refine lv_istore (lv' := [(6, .int (0 : Int32)), (5, .int ((sn_wr st (b + 3) k24 r23).1 (b + 1) k27)), (4, .int r23), (3, .int (st.1 (b + 1) k22)), (0, .ref (g.2.2.2 b)), (1, .int x1), (2, .int x2)]) hx hb dX6_act_193 hl (by decide) rfl (fun ls hl => ?_)
            exact t_X6_act_L195 (st := (sn_wr st (b + 3) k24 r23)) C hT 4096 ((sn_wr st (b + 3) k24 r23).1 (b + 1) k27) (0 : Int32) _ _ _ hd hP hS (lv_sub hl [4, 5, 6, 3, 2, 1, 0] rfl)
          · replace hd := (if_neg hc).symm.trans hd
            refine lv_iload hx hb dX6_act_176 (lv_at hl 0 rfl) ?_
            refine lv_iconst (v := (2 : Int32)) hx hb dX6_act_178 (by decide) ?_
            refine lv_icmp_ne (tgt := 280) hx hb dX6_act_179 (by decide) (fun hc => ?_) (fun hc => ?_)
            · replace hd := (if_neg hc).symm.trans hd
              refine lv_goto (tgt := 356) hx hb dX6_act_280 (by decide) ?_
              refine lv_aload_n hx hb dX6_act_356 rfl (lv_at hl 2 rfl) ?_
              refine sn_get (ci := 5) (Cn := RX6) (T := TX6) (n := 6) (v := .ref (g.2.2.2 (b + 3))) C hinX6 hP b (sn_l0 hT.1 (by decide)) hT.2.1 rfl 3 (by decide) (by decide +kernel) rfl rfl dX6_act_357 ?_
              refine lv_sipush (v := (364 : Int32)) hx hb dX6_act_360 (by decide) ?_
              refine lv_iload_n hx hb dX6_act_363 rfl (lv_at hl 4 rfl) ?_
              refine lv_iadd hx hb dX6_act_364 ?_
              refine lv_dup2_11 hx hb dX6_act_365 rfl rfl ?_
              refine sn_ald C hP (b + 3) (sn_l hT.1 (by decide)) hT.2.2.2.2.1 hd dX6_act_366 (fun k35 hk35 hd => ?_)
              refine lv_iconst (v := (1 : Int32)) hx hb dX6_act_367 (by decide) ?_
              refine lv_iadd hx hb dX6_act_368 ?_
              refine sn_ast C hP hS (b + 3) (sn_l hT.1 (by decide)) hT.2.2.2.2.1 hd dX6_act_369 (fun k36 H locs hk36 hd hP hS => ?_)
              have ho := Option.some.inj hd
              subst ho
              exact sn_rv C hP hS dX6_act_370
            · replace hd := (if_pos hc).symm.trans hd
              refine lv_aload_n hx hb dX6_act_182 rfl (lv_at hl 2 rfl) ?_
              refine sn_get (ci := 5) (Cn := RX6) (T := TX6) (n := 6) (v := .ref (g.2.2.2 (b + 1))) C hinX6 hP b (sn_l0 hT.1 (by decide)) hT.2.1 rfl 0 (by decide) (by decide +kernel) rfl rfl dX6_act_183 ?_
              refine lv_iconst (v := (0 : Int32)) hx hb dX6_act_186 (by decide) ?_
              refine lv_iload_n hx hb dX6_act_187 rfl (lv_at hl 3 rfl) ?_
              refine lv_iadd hx hb dX6_act_188 ?_
              refine sn_ald C hP (b + 1) (sn_l hT.1 (by decide)) hT.2.2.1 hd dX6_act_189 (fun k37 hk37 hd => ?_)
              refine lv_istore (lv' := [(5, .int ((sn_wr st (b + 3) k24 r23).1 (b + 1) k37)), (4, .int r23), (3, .int (st.1 (b + 1) k22)), (0, .ref (g.2.2.2 b)), (1, .int x1), (2, .int x2)]) hx hb dX6_act_190 hl (by decide) rfl (fun ls hl => ?_)
              refine lv_iconst (v := (0 : Int32)) hx hb dX6_act_192 (by decide) ?_
              refine lv_istore (lv' := [(6, .int (0 : Int32)), (5, .int ((sn_wr st (b + 3) k24 r23).1 (b + 1) k37)), (4, .int r23), (3, .int (st.1 (b + 1) k22)), (0, .ref (g.2.2.2 b)), (1, .int x1), (2, .int x2)]) hx hb dX6_act_193 hl (by decide) rfl (fun ls hl => ?_)
              exact t_X6_act_L195 (st := (sn_wr st (b + 3) k24 r23)) C hT 4096 ((sn_wr st (b + 3) k24 r23).1 (b + 1) k37) (0 : Int32) _ _ _ hd hP hS (lv_sub hl [4, 5, 6, 3, 2, 1, 0] rfl)
    · replace hd := (if_pos hc).symm.trans hd
      refine lv_aload_n hx hb dX6_act_103 rfl (lv_at hl 0 rfl) ?_
      refine sn_get (ci := 5) (Cn := RX6) (T := TX6) (n := 6) (v := .ref (g.2.2.2 (b + 3))) C hinX6 hP b (sn_l0 hT.1 (by decide)) hT.2.1 rfl 3 (by decide) (by decide +kernel) rfl rfl dX6_act_104 ?_
      refine lv_bipush (v := (12 : Int32)) hx hb dX6_act_107 (by decide) ?_
      refine lv_iload_n hx hb dX6_act_109 rfl (lv_at hl 1 rfl) ?_
      refine lv_iadd hx hb dX6_act_110 ?_
      refine lv_aload_n hx hb dX6_act_111 rfl (lv_at hl 0 rfl) ?_
      refine lv_iload_n hx hb dX6_act_112 rfl (lv_at hl 1 rfl) ?_
      obtain ⟨r38, hr38, hd⟩ := Option.bind_eq_some_iff.mp hd
      refine sn_Vi (b := b) (rest := [.int ((12 : Int32) + x1), .ref (g.2.2.2 (b + 3))]) (As := [.int x1]) (st := st) C (c_X6_treeDist hi hT hr38) (cwV 1 hts gX6_act_X6_treeDist rfl rfl rfl (by decide +kernel) ⟨Nat.le_of_ble_eq_true rfl, Nat.le_of_ble_eq_true rfl⟩) hP hS (sn_l0 hT.1 (by decide)) hT.2.1 rfl rfl hl.1 rfl (Nat.le_of_ble_eq_true rfl) dX6_act_113 (fun H locs hP hS => ?_)
      refine sn_ast C hP hS (b + 3) (sn_l hT.1 (by decide)) hT.2.2.2.2.1 hd dX6_act_116 (fun k39 H locs hk39 hd hP hS => ?_)
      refine lv_aload_n hx hb dX6_act_117 rfl (lv_at hl 0 rfl) ?_
      refine sn_get (ci := 5) (Cn := RX6) (T := TX6) (n := 6) (v := .ref (g.2.2.2 (b + 3))) C hinX6 hP b (sn_l0 hT.1 (by decide)) hT.2.1 rfl 3 (by decide) (by decide +kernel) rfl rfl dX6_act_118 ?_
      refine lv_bipush (v := (24 : Int32)) hx hb dX6_act_121 (by decide) ?_
      refine lv_iload_n hx hb dX6_act_123 rfl (lv_at hl 1 rfl) ?_
      refine lv_iadd hx hb dX6_act_124 ?_
      refine lv_aload_n hx hb dX6_act_125 rfl (lv_at hl 0 rfl) ?_
      refine lv_iload_n hx hb dX6_act_126 rfl (lv_at hl 1 rfl) ?_
      obtain ⟨r40, hr40, hd⟩ := Option.bind_eq_some_iff.mp hd
      refine sn_Vi (b := b) (rest := [.int ((24 : Int32) + x1), .ref (g.2.2.2 (b + 3))]) (As := [.int x1]) (st := (sn_wr st (b + 3) k39 r38)) C (c_X6_treeParent hi hT hr40) (cwV 1 hts gX6_act_X6_treeParent rfl rfl rfl (by decide +kernel) ⟨Nat.le_of_ble_eq_true rfl, Nat.le_of_ble_eq_true rfl⟩) hP hS (sn_l0 hT.1 (by decide)) hT.2.1 rfl rfl hl.1 rfl (Nat.le_of_ble_eq_true rfl) dX6_act_127 (fun H locs hP hS => ?_)
      refine sn_ast C hP hS (b + 3) (sn_l hT.1 (by decide)) hT.2.2.2.2.1 hd dX6_act_130 (fun k41 H locs hk41 hd hP hS => ?_)
      refine lv_goto (tgt := 356) hx hb dX6_act_131 (by decide) ?_
      refine lv_aload_n hx hb dX6_act_356 rfl (lv_at hl 0 rfl) ?_
      refine sn_get (ci := 5) (Cn := RX6) (T := TX6) (n := 6) (v := .ref (g.2.2.2 (b + 3))) C hinX6 hP b (sn_l0 hT.1 (by decide)) hT.2.1 rfl 3 (by decide) (by decide +kernel) rfl rfl dX6_act_357 ?_
      refine lv_sipush (v := (364 : Int32)) hx hb dX6_act_360 (by decide) ?_
      refine lv_iload_n hx hb dX6_act_363 rfl (lv_at hl 2 rfl) ?_
      refine lv_iadd hx hb dX6_act_364 ?_
      refine lv_dup2_11 hx hb dX6_act_365 rfl rfl ?_
      refine sn_ald C hP (b + 3) (sn_l hT.1 (by decide)) hT.2.2.2.2.1 hd dX6_act_366 (fun k42 hk42 hd => ?_)
      refine lv_iconst (v := (1 : Int32)) hx hb dX6_act_367 (by decide) ?_
      refine lv_iadd hx hb dX6_act_368 ?_
      refine sn_ast C hP hS (b + 3) (sn_l hT.1 (by decide)) hT.2.2.2.2.1 hd dX6_act_369 (fun k43 H locs hk43 hd hP hS => ?_)
      have ho := Option.some.inj hd
      subst ho
      exact sn_rv C hP hS dX6_act_370
  · replace hd := (if_pos hc).symm.trans hd
    refine lv_aload_n hx hb dX6_act_4 rfl (lv_at hl 0 rfl) ?_
    refine sn_get (ci := 5) (Cn := RX6) (T := TX6) (n := 6) (v := .ref (g.2.2.2 (b + 3))) C hinX6 hP b (sn_l0 hT.1 (by decide)) hT.2.1 rfl 3 (by decide) (by decide +kernel) rfl rfl dX6_act_5 ?_
    refine lv_bipush (v := (12 : Int32)) hx hb dX6_act_8 (by decide) ?_
    refine lv_iload_n hx hb dX6_act_10 rfl (lv_at hl 1 rfl) ?_
    refine lv_iadd hx hb dX6_act_11 ?_
    refine lv_aload_n hx hb dX6_act_12 rfl (lv_at hl 0 rfl) ?_
    refine lv_iload_n hx hb dX6_act_13 rfl (lv_at hl 1 rfl) ?_
    obtain ⟨r44, hr44, hd⟩ := Option.bind_eq_some_iff.mp hd
    refine sn_Vi (b := b) (rest := [.int ((12 : Int32) + x1), .ref (g.2.2.2 (b + 3))]) (As := [.int x1]) (st := st) C (c_X6_distOf hi hT hr44) (cwV 1 hts gX6_act_X6_distOf rfl rfl rfl (by decide +kernel) ⟨Nat.le_of_ble_eq_true rfl, Nat.le_of_ble_eq_true rfl⟩) hP hS (sn_l0 hT.1 (by decide)) hT.2.1 rfl rfl hl.1 rfl (Nat.le_of_ble_eq_true rfl) dX6_act_14 (fun H locs hP hS => ?_)
    refine sn_ast C hP hS (b + 3) (sn_l hT.1 (by decide)) hT.2.2.2.2.1 hd dX6_act_17 (fun k45 H locs hk45 hd hP hS => ?_)
    refine lv_aload_n hx hb dX6_act_18 rfl (lv_at hl 0 rfl) ?_
    refine sn_get (ci := 5) (Cn := RX6) (T := TX6) (n := 6) (v := .ref (g.2.2.2 (b + 3))) C hinX6 hP b (sn_l0 hT.1 (by decide)) hT.2.1 rfl 3 (by decide) (by decide +kernel) rfl rfl dX6_act_19 ?_
    refine lv_bipush (v := (24 : Int32)) hx hb dX6_act_22 (by decide) ?_
    refine lv_iload_n hx hb dX6_act_24 rfl (lv_at hl 1 rfl) ?_
    refine lv_iadd hx hb dX6_act_25 ?_
    refine lv_aload_n hx hb dX6_act_26 rfl (lv_at hl 0 rfl) ?_
    refine lv_iload_n hx hb dX6_act_27 rfl (lv_at hl 1 rfl) ?_
    obtain ⟨r46, hr46, hd⟩ := Option.bind_eq_some_iff.mp hd
    refine sn_Vi (b := b) (rest := [.int ((24 : Int32) + x1), .ref (g.2.2.2 (b + 3))]) (As := [.int x1]) (st := (sn_wr st (b + 3) k45 r44)) C (c_X6_parentOf hi hT hr46) (cwV 1 hts gX6_act_X6_parentOf rfl rfl rfl (by decide +kernel) ⟨Nat.le_of_ble_eq_true rfl, Nat.le_of_ble_eq_true rfl⟩) hP hS (sn_l0 hT.1 (by decide)) hT.2.1 rfl rfl hl.1 rfl (Nat.le_of_ble_eq_true rfl) dX6_act_28 (fun H locs hP hS => ?_)
    refine sn_ast C hP hS (b + 3) (sn_l hT.1 (by decide)) hT.2.2.2.2.1 hd dX6_act_31 (fun k47 H locs hk47 hd hP hS => ?_)
    refine lv_aload_n hx hb dX6_act_32 rfl (lv_at hl 0 rfl) ?_
    refine sn_get (ci := 5) (Cn := RX6) (T := TX6) (n := 6) (v := .ref (g.2.2.2 (b + 3))) C hinX6 hP b (sn_l0 hT.1 (by decide)) hT.2.1 rfl 3 (by decide) (by decide +kernel) rfl rfl dX6_act_33 ?_
    refine lv_bipush (v := (36 : Int32)) hx hb dX6_act_36 (by decide) ?_
    refine lv_iload_n hx hb dX6_act_38 rfl (lv_at hl 1 rfl) ?_
    refine lv_iadd hx hb dX6_act_39 ?_
    refine lv_aload_n hx hb dX6_act_40 rfl (lv_at hl 0 rfl) ?_
    refine lv_iload_n hx hb dX6_act_41 rfl (lv_at hl 1 rfl) ?_
    obtain ⟨r48, hr48, hd⟩ := Option.bind_eq_some_iff.mp hd
    refine sn_Vi (b := b) (rest := [.int ((36 : Int32) + x1), .ref (g.2.2.2 (b + 3))]) (As := [.int x1]) (st := (sn_wr (sn_wr st (b + 3) k45 r44) (b + 3) k47 r46)) C (c_X6_phaseOf hi hT hr48) (cwV 1 hts gX6_act_X6_phaseOf rfl rfl rfl (by decide +kernel) ⟨Nat.le_of_ble_eq_true rfl, Nat.le_of_ble_eq_true rfl⟩) hP hS (sn_l0 hT.1 (by decide)) hT.2.1 rfl rfl hl.1 rfl (Nat.le_of_ble_eq_true rfl) dX6_act_42 (fun H locs hP hS => ?_)
    refine sn_ast C hP hS (b + 3) (sn_l hT.1 (by decide)) hT.2.2.2.2.1 hd dX6_act_45 (fun k49 H locs hk49 hd hP hS => ?_)
    refine lv_iconst (v := (0 : Int32)) hx hb dX6_act_46 (by decide) ?_
    refine lv_istore_n (lv' := [(3, .int (0 : Int32)), (0, .ref (g.2.2.2 b)), (1, .int x1), (2, .int x2)]) hx hb dX6_act_47 rfl hl (by decide) rfl (fun ls hl => ?_)
    exact t_X6_act_L48 C hT 4096 (0 : Int32) (sn_wr (sn_wr (sn_wr st (b + 3) k45 r44) (b + 3) k47 r46) (b + 3) k49 r48) _ _ _ hd hP hS (lv_sub hl [1, 2, 3, 0] rfl)

set_option maxHeartbeats 4000000 in
set_option maxRecDepth 100000 in
theorem c_X6_acts {l : Launch} {g : sn_G} {tb : Nat → sn_K} {N : Nat} (hi : sn_I g N) {b : Nat} {x1 : Int32} {x2 : Int32} (hT : sn_Mo tb N b) {st : sn_S} {o : sn_S} (hd : D_X6_acts b x1 x2 st = some o) : sn_Mv l yX6_acts wsX6_acts { frames := 11, cells := 0, slots := 0, locals := 248 } g tb N [.ref (g.2.2.2 b), .int x1, .int x2] st o := by
  refine sn_Mv.of (cc := cX6_acts) (nL := 3) (ret := none) hi (by decide) rfl (Nat.le_of_ble_eq_true rfl) ?_
  intro p e s m args below meth c ls C hP hS hl
  have hl : lv_has ls 3 [(0, .ref (g.2.2.2 b)), (1, .int x1), (2, .int x2)] := hl
  obtain ⟨⟨hx, hb, hml, hown, hts⟩, hr, hlk, hC, hi⟩ := id C
  unfold D_X6_acts at hd
  refine lv_aload_n hx hb dX6_acts_0 rfl (lv_at hl 0 rfl) ?_
  refine lv_iload_n hx hb dX6_acts_1 rfl (lv_at hl 1 rfl) ?_
  refine lv_iload_n hx hb dX6_acts_2 rfl (lv_at hl 2 rfl) ?_
  obtain ⟨r1, hr1, hd⟩ := Option.bind_eq_some_iff.mp hd
  refine sn_Vv (b := b) (rest := []) (As := [.int x1, .int x2]) (st := st) C (c_X6_act hi hT hr1) (cwV 2 hts gX6_acts_X6_act rfl rfl rfl (by decide +kernel) ⟨Nat.le_of_ble_eq_true rfl, Nat.le_of_ble_eq_true rfl⟩) hP hS (sn_l0 hT.1 (by decide)) hT.2.1 rfl rfl hl.1 rfl (Nat.le_of_ble_eq_true rfl) dX6_acts_3 (fun H locs hP hS => ?_)
  refine lv_iload_n hx hb dX6_acts_6 rfl (lv_at hl 2 rfl) ?_
  refine lv_iconst (v := (2 : Int32)) hx hb dX6_acts_7 (by decide) ?_
  refine lv_icmp_ne (tgt := 26) hx hb dX6_acts_8 (by decide) (fun hc => ?_) (fun hc => ?_)
  · replace hd := (if_neg hc).symm.trans hd
    have ho := Option.some.inj hd
    subst ho
    exact sn_rv C hP hS dX6_acts_26
  · replace hd := (if_pos hc).symm.trans hd
    refine lv_aload_n hx hb dX6_acts_11 rfl (lv_at hl 0 rfl) ?_
    refine lv_iload_n hx hb dX6_acts_12 rfl (lv_at hl 1 rfl) ?_
    obtain ⟨r2, hr2, hd⟩ := Option.bind_eq_some_iff.mp hd
    refine sn_Vi (b := b) (rest := []) (As := [.int x1]) (st := r1) C (c_X6_firstRight hi hT hr2) (cwV 1 hts gX6_acts_X6_firstRight rfl rfl rfl (by decide +kernel) ⟨Nat.le_of_ble_eq_true rfl, Nat.le_of_ble_eq_true rfl⟩) hP hS (sn_l0 hT.1 (by decide)) hT.2.1 rfl rfl hl.1 rfl (Nat.le_of_ble_eq_true rfl) dX6_acts_13 (fun H locs hP hS => ?_)
    refine lv_iconst (v := (-1 : Int32)) hx hb dX6_acts_16 (by decide) ?_
    refine lv_icmp_eq (tgt := 26) hx hb dX6_acts_17 (by decide) (fun hc => ?_) (fun hc => ?_)
    · replace hd := (if_pos hc).symm.trans hd
      have ho := Option.some.inj hd
      subst ho
      exact sn_rv C hP hS dX6_acts_26
    · replace hd := (if_neg hc).symm.trans hd
      refine lv_aload_n hx hb dX6_acts_20 rfl (lv_at hl 0 rfl) ?_
      refine lv_iload_n hx hb dX6_acts_21 rfl (lv_at hl 1 rfl) ?_
      refine lv_iconst (v := (3 : Int32)) hx hb dX6_acts_22 (by decide) ?_
      obtain ⟨r3, hr3, hd⟩ := Option.bind_eq_some_iff.mp hd
      refine sn_Vv (b := b) (rest := []) (As := [.int x1, .int (3 : Int32)]) (st := r1) C (c_X6_act hi hT hr3) (cwV 2 hts gX6_acts_X6_act rfl rfl rfl (by decide +kernel) ⟨Nat.le_of_ble_eq_true rfl, Nat.le_of_ble_eq_true rfl⟩) hP hS (sn_l0 hT.1 (by decide)) hT.2.1 rfl rfl hl.1 rfl (Nat.le_of_ble_eq_true rfl) dX6_acts_23 (fun H locs hP hS => ?_)
      have ho := Option.some.inj hd
      subst ho
      exact sn_rv C hP hS dX6_acts_26

set_option maxHeartbeats 4000000 in
set_option maxRecDepth 100000 in
theorem t_X6_doStep_L108 {p : Program} {l : Launch} {e : Env} {s : State} {m : MethodId} {args : Array Value} {below : List Frame} {meth : Method} {c : Code} {g : sn_G} {tb : Nat → sn_K} {N : Nat} {b : Nat} {x1 : Int32} {x2 : Int32} {x3 : Int32} {o : Int32 × sn_S} (C : sn_Cx p s m args meth c g N cX6_doStep 6 wsX6_doStep yX6_doStep.cls (some .int)) (hT : sn_Mo tb N b)  : ∀ (n : Nat) (x4 : Int32) (st : sn_S) (H : Heap) (locs : List Loc) (ls : Array Slot), D_X6_doStep_L108 b x1 x2 x3 n x4 st = some o → va_P g.1 vwCl (sn_W g tb N st) H → va_S (sn_A g N) s.heap H locs → lv_has ls 6 [(0, .ref (g.2.2.2 b)), (1, .int x1), (2, .int x2), (3, .int x3), (4, .int x4)] → W p l e { frames := 13, cells := 0, slots := 0, locals := 285 } s m args below meth c H locs 0 0 (MQ below (sn_Qi g tb N o.1 o.2) args s 0 0 (sn_A g N)) (F0 m 108 ls []) := by
  obtain ⟨⟨hx, hb, hml, hown, hts⟩, hr, hlk, hC, hi⟩ := id C
  have hinX6 : ∀ w ∈ wsX60, w ∈ wsX6_doStep := by decide +kernel
  intro n
  induction n with
  | zero => intro _ _ _ _ _ hd; exact nomatch (show (none : Option (Int32 × sn_S)) = some o from hd)
  | succ n ih =>
    intro x4 st H locs ls hd hP hS hl
    replace hd := (D_X6_doStep_L108.eq_2 _ _ _ _ _ _ _).symm.trans hd
    refine lv_iload hx hb dX6_doStep_108 (lv_at hl 4 rfl) ?_
    refine lv_sipush (v := (374 : Int32)) hx hb dX6_doStep_110 (by decide) ?_
    refine lv_icmp_ge (tgt := 136) hx hb dX6_doStep_113 (by decide) (fun hc => ?_) (fun hc => ?_)
    · replace hd := (if_pos hc).symm.trans hd
      refine lv_aload_n hx hb dX6_doStep_136 rfl (lv_at hl 0 rfl) ?_
      refine sn_get (ci := 5) (Cn := RX6) (T := TX6) (n := 6) (v := .ref (g.2.2.2 (b + 1))) C hinX6 hP b (sn_l0 hT.1 (by decide)) hT.2.1 rfl 0 (by decide) (by decide +kernel) rfl rfl dX6_doStep_137 ?_
      refine lv_sipush (v := (362 : Int32)) hx hb dX6_doStep_140 (by decide) ?_
      refine lv_dup2_11 hx hb dX6_doStep_143 rfl rfl ?_
      refine sn_aldc (k := 362) C hP (b + 1) (sn_l hT.1 (by decide)) hT.2.2.1 (by decide +kernel) dX6_doStep_144 ?_
      refine lv_iconst (v := (1 : Int32)) hx hb dX6_doStep_145 (by decide) ?_
      refine lv_iadd hx hb dX6_doStep_146 ?_
      refine sn_astc (k := 362) C hP hS (b + 1) (sn_l hT.1 (by decide)) hT.2.2.1 (by decide +kernel) dX6_doStep_147 (fun H locs hP hS => ?_)
      refine lv_aload_n hx hb dX6_doStep_148 rfl (lv_at hl 0 rfl) ?_
      refine sn_get (ci := 5) (Cn := RX6) (T := TX6) (n := 6) (v := .ref (g.2.2.2 (b + 1))) C hinX6 hP b (sn_l0 hT.1 (by decide)) hT.2.1 rfl 0 (by decide) (by decide +kernel) rfl rfl dX6_doStep_149 ?_
      refine lv_sipush (v := (373 : Int32)) hx hb dX6_doStep_152 (by decide) ?_
      refine sn_aldc (k := 373) C hP (b + 1) (sn_l hT.1 (by decide)) hT.2.2.1 (by decide +kernel) dX6_doStep_155 ?_
      refine lv_iload_n hx hb dX6_doStep_156 rfl (lv_at hl 3 rfl) ?_
      refine lv_iconst (v := (-1 : Int32)) hx hb dX6_doStep_157 (by decide) ?_
      refine lv_ixor hx hb dX6_doStep_158 ?_
      refine lv_iand hx hb dX6_doStep_159 ?_
      refine lv_aload_n hx hb dX6_doStep_160 rfl (lv_at hl 0 rfl) ?_
      obtain ⟨r1, hr1, hd⟩ := Option.bind_eq_some_iff.mp hd
      refine sn_Vi (b := b) (rest := [.int (((sn_wr st (b + 1) 362 ((st.1 (b + 1) 362) + (1 : Int32))).1 (b + 1) 373) &&& (x3 ^^^ (-1 : Int32)))]) (As := []) (st := (sn_wr st (b + 1) 362 ((st.1 (b + 1) 362) + (1 : Int32)))) C (c_X6_enabledAll hi hT hr1) (cwV 0 hts gX6_doStep_X6_enabledAll rfl rfl rfl (by decide +kernel) ⟨Nat.le_of_ble_eq_true rfl, Nat.le_of_ble_eq_true rfl⟩) hP hS (sn_l0 hT.1 (by decide)) hT.2.1 rfl rfl hl.1 rfl (Nat.le_of_ble_eq_true rfl) dX6_doStep_161 (fun H locs hP hS => ?_)
      refine lv_iand hx hb dX6_doStep_164 ?_
      refine lv_istore (lv' := [(4, .int ((((sn_wr st (b + 1) 362 ((st.1 (b + 1) 362) + (1 : Int32))).1 (b + 1) 373) &&& (x3 ^^^ (-1 : Int32))) &&& r1)), (0, .ref (g.2.2.2 b)), (1, .int x1), (2, .int x2), (3, .int x3)]) hx hb dX6_doStep_165 hl (by decide) rfl (fun ls hl => ?_)
      refine lv_aload_n hx hb dX6_doStep_167 rfl (lv_at hl 1 rfl) ?_
      refine sn_get (ci := 5) (Cn := RX6) (T := TX6) (n := 6) (v := .ref (g.2.2.2 (b + 1))) C hinX6 hP b (sn_l0 hT.1 (by decide)) hT.2.1 rfl 0 (by decide) (by decide +kernel) rfl rfl dX6_doStep_168 ?_
      refine lv_sipush (v := (373 : Int32)) hx hb dX6_doStep_171 (by decide) ?_
      refine lv_iload hx hb dX6_doStep_174 (lv_at hl 0 rfl) ?_
      refine sn_astc (k := 373) C hP hS (b + 1) (sn_l hT.1 (by decide)) hT.2.2.1 (by decide +kernel) dX6_doStep_176 (fun H locs hP hS => ?_)
      refine lv_iload hx hb dX6_doStep_177 (lv_at hl 0 rfl) ?_
      refine lv_if_ne (tgt := 198) hx hb dX6_doStep_179 (by decide) (fun hc => ?_) (fun hc => ?_)
      · replace hd := (if_neg hc).symm.trans hd
        refine lv_iload_n hx hb dX6_doStep_198 rfl (lv_at hl 3 rfl) ?_
        have ho := Option.some.inj hd
        subst ho
        exact sn_ri C hP hS dX6_doStep_199
      · replace hd := (if_pos hc).symm.trans hd
        refine lv_aload_n hx hb dX6_doStep_182 rfl (lv_at hl 1 rfl) ?_
        refine sn_get (ci := 5) (Cn := RX6) (T := TX6) (n := 6) (v := .ref (g.2.2.2 (b + 1))) C hinX6 hP b (sn_l0 hT.1 (by decide)) hT.2.1 rfl 0 (by decide) (by decide +kernel) rfl rfl dX6_doStep_183 ?_
        refine lv_sipush (v := (363 : Int32)) hx hb dX6_doStep_186 (by decide) ?_
        refine lv_dup2_11 hx hb dX6_doStep_189 rfl rfl ?_
        refine sn_aldc (k := 363) C hP (b + 1) (sn_l hT.1 (by decide)) hT.2.2.1 (by decide +kernel) dX6_doStep_190 ?_
        refine lv_iconst (v := (1 : Int32)) hx hb dX6_doStep_191 (by decide) ?_
        refine lv_iadd hx hb dX6_doStep_192 ?_
        refine sn_astc (k := 363) C hP hS (b + 1) (sn_l hT.1 (by decide)) hT.2.2.1 (by decide +kernel) dX6_doStep_193 (fun H locs hP hS => ?_)
        refine lv_aload_n hx hb dX6_doStep_194 rfl (lv_at hl 1 rfl) ?_
        obtain ⟨r2, hr2, hd⟩ := Option.bind_eq_some_iff.mp hd
        refine sn_Vv (b := b) (rest := []) (As := []) (st := (sn_wr (sn_wr (sn_wr st (b + 1) 362 ((st.1 (b + 1) 362) + (1 : Int32))) (b + 1) 373 ((((sn_wr st (b + 1) 362 ((st.1 (b + 1) 362) + (1 : Int32))).1 (b + 1) 373) &&& (x3 ^^^ (-1 : Int32))) &&& r1)) (b + 1) 363 (((sn_wr (sn_wr st (b + 1) 362 ((st.1 (b + 1) 362) + (1 : Int32))) (b + 1) 373 ((((sn_wr st (b + 1) 362 ((st.1 (b + 1) 362) + (1 : Int32))).1 (b + 1) 373) &&& (x3 ^^^ (-1 : Int32))) &&& r1)).1 (b + 1) 363) + (1 : Int32)))) C (c_X6_beginRound hi hT hr2) (cwV 0 hts gX6_doStep_X6_beginRound rfl rfl rfl (by decide +kernel) ⟨Nat.le_of_ble_eq_true rfl, Nat.le_of_ble_eq_true rfl⟩) hP hS (sn_l0 hT.1 (by decide)) hT.2.1 rfl rfl hl.1 rfl (Nat.le_of_ble_eq_true rfl) dX6_doStep_195 (fun H locs hP hS => ?_)
        refine lv_iload_n hx hb dX6_doStep_198 rfl (lv_at hl 3 rfl) ?_
        have ho := Option.some.inj hd
        subst ho
        exact sn_ri C hP hS dX6_doStep_199
    · replace hd := (if_neg hc).symm.trans hd
      refine lv_aload_n hx hb dX6_doStep_116 rfl (lv_at hl 0 rfl) ?_
      refine sn_get (ci := 5) (Cn := RX6) (T := TX6) (n := 6) (v := .ref (g.2.2.2 (b + 1))) C hinX6 hP b (sn_l0 hT.1 (by decide)) hT.2.1 rfl 0 (by decide) (by decide +kernel) rfl rfl dX6_doStep_117 ?_
      refine lv_iload hx hb dX6_doStep_120 (lv_at hl 4 rfl) ?_
      refine lv_aload_n hx hb dX6_doStep_122 rfl (lv_at hl 0 rfl) ?_
      refine sn_get (ci := 5) (Cn := RX6) (T := TX6) (n := 6) (v := .ref (g.2.2.2 (b + 3))) C hinX6 hP b (sn_l0 hT.1 (by decide)) hT.2.1 rfl 3 (by decide) (by decide +kernel) rfl rfl dX6_doStep_123 ?_
      refine lv_iload hx hb dX6_doStep_126 (lv_at hl 4 rfl) ?_
      refine sn_ald C hP (b + 3) (sn_l hT.1 (by decide)) hT.2.2.2.2.1 hd dX6_doStep_128 (fun k3 hk3 hd => ?_)
      refine sn_ast C hP hS (b + 1) (sn_l hT.1 (by decide)) hT.2.2.1 hd dX6_doStep_129 (fun k4 H locs hk4 hd hP hS => ?_)
      refine lv_iinc (v := (x4 + (1 : Int32))) (lv' := [(4, .int (x4 + (1 : Int32))), (0, .ref (g.2.2.2 b)), (1, .int x1), (2, .int x2), (3, .int x3)]) hx hb dX6_doStep_130 hl (k := 4) rfl rfl (by decide) rfl (fun ls hl => ?_)
      refine lv_goto (tgt := 108) hx hb dX6_doStep_133 (by decide) ?_
      exact ih (x4 + (1 : Int32)) (sn_wr st (b + 1) k4 (st.1 (b + 3) k3)) _ _ _ hd hP hS (lv_sub hl [1, 2, 3, 4, 0] rfl)

set_option maxHeartbeats 4000000 in
set_option maxRecDepth 100000 in
theorem t_X6_doStep_L34 {p : Program} {l : Launch} {e : Env} {s : State} {m : MethodId} {args : Array Value} {below : List Frame} {meth : Method} {c : Code} {g : sn_G} {tb : Nat → sn_K} {N : Nat} {b : Nat} {x1 : Int32} {o : Int32 × sn_S} (C : sn_Cx p s m args meth c g N cX6_doStep 6 wsX6_doStep yX6_doStep.cls (some .int)) (hT : sn_Mo tb N b)  : ∀ (n : Nat) (x2 : Int32) (x3 : Int32) (x4 : Int32) (st : sn_S) (H : Heap) (locs : List Loc) (ls : Array Slot), D_X6_doStep_L34 b x1 n x2 x3 x4 st = some o → va_P g.1 vwCl (sn_W g tb N st) H → va_S (sn_A g N) s.heap H locs → lv_has ls 6 [(0, .ref (g.2.2.2 b)), (1, .int x1), (2, .int x2), (3, .int x3), (4, .int x4)] → W p l e { frames := 13, cells := 0, slots := 0, locals := 285 } s m args below meth c H locs 0 0 (MQ below (sn_Qi g tb N o.1 o.2) args s 0 0 (sn_A g N)) (F0 m 34 ls []) := by
  obtain ⟨⟨hx, hb, hml, hown, hts⟩, hr, hlk, hC, hi⟩ := id C
  have hinX6 : ∀ w ∈ wsX60, w ∈ wsX6_doStep := by decide +kernel
  intro n
  induction n with
  | zero => intro _ _ _ _ _ _ _ hd; exact nomatch (show (none : Option (Int32 × sn_S)) = some o from hd)
  | succ n ih =>
    intro x2 x3 x4 st H locs ls hd hP hS hl
    replace hd := (D_X6_doStep_L34.eq_2 _ _ _ _ _ _ _).symm.trans hd
    refine lv_iload hx hb dX6_doStep_34 (lv_at hl 4 rfl) ?_
    refine lv_aload_n hx hb dX6_doStep_36 rfl (lv_at hl 0 rfl) ?_
    refine sn_get (ci := 5) (Cn := RX6) (T := TX6) (n := 6) (v := .ref (g.2.2.2 (b + 1))) C hinX6 hP b (sn_l0 hT.1 (by decide)) hT.2.1 rfl 0 (by decide) (by decide +kernel) rfl rfl dX6_doStep_37 ?_
    refine lv_sipush (v := (360 : Int32)) hx hb dX6_doStep_40 (by decide) ?_
    refine sn_aldc (k := 360) C hP (b + 1) (sn_l hT.1 (by decide)) hT.2.2.1 (by decide +kernel) dX6_doStep_43 ?_
    refine lv_icmp_ge (tgt := 99) hx hb dX6_doStep_44 (by decide) (fun hc => ?_) (fun hc => ?_)
    · replace hd := (if_pos hc).symm.trans hd
      refine lv_iload_n hx hb dX6_doStep_99 rfl (lv_at hl 2 rfl) ?_
      refine lv_if_ne (tgt := 105) hx hb dX6_doStep_100 (by decide) (fun hc => ?_) (fun hc => ?_)
      · replace hd := (if_neg hc).symm.trans hd
        refine lv_iconst (v := (0 : Int32)) hx hb dX6_doStep_105 (by decide) ?_
        refine lv_istore (lv' := [(4, .int (0 : Int32)), (0, .ref (g.2.2.2 b)), (1, .int x1), (2, .int x2), (3, .int x3)]) hx hb dX6_doStep_106 hl (by decide) rfl (fun ls hl => ?_)
        exact t_X6_doStep_L108 C hT 4096 (0 : Int32) st _ _ _ hd hP hS (lv_sub hl [1, 2, 3, 4, 0] rfl)
      · replace hd := (if_pos hc).symm.trans hd
        refine lv_iconst (v := (0 : Int32)) hx hb dX6_doStep_103 (by decide) ?_
        have ho := Option.some.inj hd
        subst ho
        exact sn_ri C hP hS dX6_doStep_104
    · replace hd := (if_neg hc).symm.trans hd
      refine lv_iload_n hx hb dX6_doStep_47 rfl (lv_at hl 1 rfl) ?_
      refine lv_iload hx hb dX6_doStep_48 (lv_at hl 4 rfl) ?_
      refine lv_ishr hx hb dX6_doStep_50 ?_
      refine lv_iconst (v := (1 : Int32)) hx hb dX6_doStep_51 (by decide) ?_
      refine lv_iand hx hb dX6_doStep_52 ?_
      refine lv_iconst (v := (1 : Int32)) hx hb dX6_doStep_53 (by decide) ?_
      refine lv_icmp_ne (tgt := 66) hx hb dX6_doStep_54 (by decide) (fun hc => ?_) (fun hc => ?_)
      · replace hd := (if_neg hc).symm.trans hd
        refine lv_iconst (v := (-1 : Int32)) hx hb dX6_doStep_66 (by decide) ?_
        refine lv_istore (lv' := [(5, .int (-1 : Int32)), (0, .ref (g.2.2.2 b)), (1, .int x1), (2, .int x2), (3, .int x3), (4, .int x4)]) hx hb dX6_doStep_67 hl (by decide) rfl (fun ls hl => ?_)
        refine lv_iload hx hb dX6_doStep_69 (lv_at hl 0 rfl) ?_
        refine lv_iconst (v := (-1 : Int32)) hx hb dX6_doStep_71 (by decide) ?_
        refine lv_icmp_eq (tgt := 93) hx hb dX6_doStep_72 (by decide) (fun hc => ?_) (fun hc => ?_)
        · replace hd := (if_pos hc).symm.trans hd
          refine lv_iinc (v := (x4 + (1 : Int32))) (lv' := [(4, .int (x4 + (1 : Int32))), (5, .int (-1 : Int32)), (0, .ref (g.2.2.2 b)), (1, .int x1), (2, .int x2), (3, .int x3)]) hx hb dX6_doStep_93 hl (k := 5) rfl rfl (by decide) rfl (fun ls hl => ?_)
          refine lv_goto (tgt := 34) hx hb dX6_doStep_96 (by decide) ?_
          exact ih x2 x3 (x4 + (1 : Int32)) st _ _ _ hd hP hS (lv_sub hl [2, 3, 4, 5, 0] rfl)
        · replace hd := (if_neg hc).symm.trans hd
          refine lv_aload_n hx hb dX6_doStep_75 rfl (lv_at hl 1 rfl) ?_
          refine lv_iload hx hb dX6_doStep_76 (lv_at hl 5 rfl) ?_
          refine lv_iload hx hb dX6_doStep_78 (lv_at hl 0 rfl) ?_
          obtain ⟨r5, hr5, hd⟩ := Option.bind_eq_some_iff.mp hd
          refine sn_Vv (b := b) (rest := []) (As := [.int x4, .int (-1 : Int32)]) (st := st) C (c_X6_acts hi hT hr5) (cwV 2 hts gX6_doStep_X6_acts rfl rfl rfl (by decide +kernel) ⟨Nat.le_of_ble_eq_true rfl, Nat.le_of_ble_eq_true rfl⟩) hP hS (sn_l0 hT.1 (by decide)) hT.2.1 rfl rfl hl.1 rfl (Nat.le_of_ble_eq_true rfl) dX6_doStep_80 (fun H locs hP hS => ?_)
          refine lv_iinc (v := (x2 + (1 : Int32))) (lv' := [(2, .int (x2 + (1 : Int32))), (5, .int (-1 : Int32)), (0, .ref (g.2.2.2 b)), (1, .int x1), (3, .int x3), (4, .int x4)]) hx hb dX6_doStep_83 hl (k := 3) rfl rfl (by decide) rfl (fun ls hl => ?_)
          refine lv_iload_n hx hb dX6_doStep_86 rfl (lv_at hl 4 rfl) ?_
          refine lv_iconst (v := (1 : Int32)) hx hb dX6_doStep_87 (by decide) ?_
          refine lv_iload hx hb dX6_doStep_88 (lv_at hl 5 rfl) ?_
          refine lv_ishl hx hb dX6_doStep_90 ?_
          refine lv_ior hx hb dX6_doStep_91 ?_
          refine lv_istore_n (lv' := [(3, .int (x3 ||| ((1 : Int32) <<< (x4 &&& 31)))), (2, .int (x2 + (1 : Int32))), (5, .int (-1 : Int32)), (0, .ref (g.2.2.2 b)), (1, .int x1), (4, .int x4)]) hx hb dX6_doStep_92 rfl hl (by decide) rfl (fun ls hl => ?_)
          refine lv_iinc (v := (x4 + (1 : Int32))) (lv' := [(4, .int (x4 + (1 : Int32))), (3, .int (x3 ||| ((1 : Int32) <<< (x4 &&& 31)))), (2, .int (x2 + (1 : Int32))), (5, .int (-1 : Int32)), (0, .ref (g.2.2.2 b)), (1, .int x1)]) hx hb dX6_doStep_93 hl (k := 5) rfl rfl (by decide) rfl (fun ls hl => ?_)
          refine lv_goto (tgt := 34) hx hb dX6_doStep_96 (by decide) ?_
          exact ih (x2 + (1 : Int32)) (x3 ||| ((1 : Int32) <<< (x4 &&& 31))) (x4 + (1 : Int32)) r5 _ _ _ hd hP hS (lv_sub hl [4, 5, 2, 1, 0] rfl)
      · replace hd := (if_pos hc).symm.trans hd
        refine lv_aload_n hx hb dX6_doStep_57 rfl (lv_at hl 0 rfl) ?_
        refine lv_iload hx hb dX6_doStep_58 (lv_at hl 4 rfl) ?_
        obtain ⟨r6, hr6, hd⟩ := Option.bind_eq_some_iff.mp hd
        refine sn_Vi (b := b) (rest := []) (As := [.int x4]) (st := st) C (c_X6_ruleOf hi hT hr6) (cwV 1 hts gX6_doStep_X6_ruleOf rfl rfl rfl (by decide +kernel) ⟨Nat.le_of_ble_eq_true rfl, Nat.le_of_ble_eq_true rfl⟩) hP hS (sn_l0 hT.1 (by decide)) hT.2.1 rfl rfl hl.1 rfl (Nat.le_of_ble_eq_true rfl) dX6_doStep_60 (fun H locs hP hS => ?_)
        refine lv_goto (tgt := 67) hx hb dX6_doStep_63 (by decide) ?_
        refine lv_istore (lv' := [(5, .int r6), (0, .ref (g.2.2.2 b)), (1, .int x1), (2, .int x2), (3, .int x3), (4, .int x4)]) hx hb dX6_doStep_67 hl (by decide) rfl (fun ls hl => ?_)
        refine lv_iload hx hb dX6_doStep_69 (lv_at hl 0 rfl) ?_
        refine lv_iconst (v := (-1 : Int32)) hx hb dX6_doStep_71 (by decide) ?_
        refine lv_icmp_eq (tgt := 93) hx hb dX6_doStep_72 (by decide) (fun hc => ?_) (fun hc => ?_)
        · replace hd := (if_pos hc).symm.trans hd
          refine lv_iinc (v := (x4 + (1 : Int32))) (lv' := [(4, .int (x4 + (1 : Int32))), (5, .int r6), (0, .ref (g.2.2.2 b)), (1, .int x1), (2, .int x2), (3, .int x3)]) hx hb dX6_doStep_93 hl (k := 5) rfl rfl (by decide) rfl (fun ls hl => ?_)
          refine lv_goto (tgt := 34) hx hb dX6_doStep_96 (by decide) ?_
          exact ih x2 x3 (x4 + (1 : Int32)) st _ _ _ hd hP hS (lv_sub hl [2, 3, 4, 5, 0] rfl)
        · replace hd := (if_neg hc).symm.trans hd
          refine lv_aload_n hx hb dX6_doStep_75 rfl (lv_at hl 1 rfl) ?_
          refine lv_iload hx hb dX6_doStep_76 (lv_at hl 5 rfl) ?_
          refine lv_iload hx hb dX6_doStep_78 (lv_at hl 0 rfl) ?_
          obtain ⟨r7, hr7, hd⟩ := Option.bind_eq_some_iff.mp hd
          refine sn_Vv (b := b) (rest := []) (As := [.int x4, .int r6]) (st := st) C (c_X6_acts hi hT hr7) (cwV 2 hts gX6_doStep_X6_acts rfl rfl rfl (by decide +kernel) ⟨Nat.le_of_ble_eq_true rfl, Nat.le_of_ble_eq_true rfl⟩) hP hS (sn_l0 hT.1 (by decide)) hT.2.1 rfl rfl hl.1 rfl (Nat.le_of_ble_eq_true rfl) dX6_doStep_80 (fun H locs hP hS => ?_)
          refine lv_iinc (v := (x2 + (1 : Int32))) (lv' := [(2, .int (x2 + (1 : Int32))), (5, .int r6), (0, .ref (g.2.2.2 b)), (1, .int x1), (3, .int x3), (4, .int x4)]) hx hb dX6_doStep_83 hl (k := 3) rfl rfl (by decide) rfl (fun ls hl => ?_)
          refine lv_iload_n hx hb dX6_doStep_86 rfl (lv_at hl 4 rfl) ?_
          refine lv_iconst (v := (1 : Int32)) hx hb dX6_doStep_87 (by decide) ?_
          refine lv_iload hx hb dX6_doStep_88 (lv_at hl 5 rfl) ?_
          refine lv_ishl hx hb dX6_doStep_90 ?_
          refine lv_ior hx hb dX6_doStep_91 ?_
          refine lv_istore_n (lv' := [(3, .int (x3 ||| ((1 : Int32) <<< (x4 &&& 31)))), (2, .int (x2 + (1 : Int32))), (5, .int r6), (0, .ref (g.2.2.2 b)), (1, .int x1), (4, .int x4)]) hx hb dX6_doStep_92 rfl hl (by decide) rfl (fun ls hl => ?_)
          refine lv_iinc (v := (x4 + (1 : Int32))) (lv' := [(4, .int (x4 + (1 : Int32))), (3, .int (x3 ||| ((1 : Int32) <<< (x4 &&& 31)))), (2, .int (x2 + (1 : Int32))), (5, .int r6), (0, .ref (g.2.2.2 b)), (1, .int x1)]) hx hb dX6_doStep_93 hl (k := 5) rfl rfl (by decide) rfl (fun ls hl => ?_)
          refine lv_goto (tgt := 34) hx hb dX6_doStep_96 (by decide) ?_
          exact ih (x2 + (1 : Int32)) (x3 ||| ((1 : Int32) <<< (x4 &&& 31))) (x4 + (1 : Int32)) r7 _ _ _ hd hP hS (lv_sub hl [4, 5, 2, 1, 0] rfl)

set_option maxHeartbeats 4000000 in
set_option maxRecDepth 100000 in
theorem t_X6_doStep_L2 {p : Program} {l : Launch} {e : Env} {s : State} {m : MethodId} {args : Array Value} {below : List Frame} {meth : Method} {c : Code} {g : sn_G} {tb : Nat → sn_K} {N : Nat} {b : Nat} {x1 : Int32} {o : Int32 × sn_S} (C : sn_Cx p s m args meth c g N cX6_doStep 6 wsX6_doStep yX6_doStep.cls (some .int)) (hT : sn_Mo tb N b)  : ∀ (n : Nat) (x2 : Int32) (st : sn_S) (H : Heap) (locs : List Loc) (ls : Array Slot), D_X6_doStep_L2 b x1 n x2 st = some o → va_P g.1 vwCl (sn_W g tb N st) H → va_S (sn_A g N) s.heap H locs → lv_has ls 6 [(0, .ref (g.2.2.2 b)), (1, .int x1), (2, .int x2)] → W p l e { frames := 13, cells := 0, slots := 0, locals := 285 } s m args below meth c H locs 0 0 (MQ below (sn_Qi g tb N o.1 o.2) args s 0 0 (sn_A g N)) (F0 m 2 ls []) := by
  obtain ⟨⟨hx, hb, hml, hown, hts⟩, hr, hlk, hC, hi⟩ := id C
  have hinX6 : ∀ w ∈ wsX60, w ∈ wsX6_doStep := by decide +kernel
  intro n
  induction n with
  | zero => intro _ _ _ _ _ hd; exact nomatch (show (none : Option (Int32 × sn_S)) = some o from hd)
  | succ n ih =>
    intro x2 st H locs ls hd hP hS hl
    replace hd := (D_X6_doStep_L2.eq_2 _ _ _ _ _).symm.trans hd
    refine lv_iload_n hx hb dX6_doStep_2 rfl (lv_at hl 2 rfl) ?_
    refine lv_sipush (v := (374 : Int32)) hx hb dX6_doStep_3 (by decide) ?_
    refine lv_icmp_ge (tgt := 27) hx hb dX6_doStep_6 (by decide) (fun hc => ?_) (fun hc => ?_)
    · replace hd := (if_pos hc).symm.trans hd
      refine lv_iconst (v := (0 : Int32)) hx hb dX6_doStep_27 (by decide) ?_
      refine lv_istore_n (lv' := [(2, .int (0 : Int32)), (0, .ref (g.2.2.2 b)), (1, .int x1)]) hx hb dX6_doStep_28 rfl hl (by decide) rfl (fun ls hl => ?_)
      refine lv_iconst (v := (0 : Int32)) hx hb dX6_doStep_29 (by decide) ?_
      refine lv_istore_n (lv' := [(3, .int (0 : Int32)), (2, .int (0 : Int32)), (0, .ref (g.2.2.2 b)), (1, .int x1)]) hx hb dX6_doStep_30 rfl hl (by decide) rfl (fun ls hl => ?_)
      refine lv_iconst (v := (0 : Int32)) hx hb dX6_doStep_31 (by decide) ?_
      refine lv_istore (lv' := [(4, .int (0 : Int32)), (3, .int (0 : Int32)), (2, .int (0 : Int32)), (0, .ref (g.2.2.2 b)), (1, .int x1)]) hx hb dX6_doStep_32 hl (by decide) rfl (fun ls hl => ?_)
      exact t_X6_doStep_L34 C hT 4096 (0 : Int32) (0 : Int32) (0 : Int32) st _ _ _ hd hP hS (lv_sub hl [3, 4, 2, 1, 0] rfl)
    · replace hd := (if_neg hc).symm.trans hd
      refine lv_aload_n hx hb dX6_doStep_9 rfl (lv_at hl 0 rfl) ?_
      refine sn_get (ci := 5) (Cn := RX6) (T := TX6) (n := 6) (v := .ref (g.2.2.2 (b + 3))) C hinX6 hP b (sn_l0 hT.1 (by decide)) hT.2.1 rfl 3 (by decide) (by decide +kernel) rfl rfl dX6_doStep_10 ?_
      refine lv_iload_n hx hb dX6_doStep_13 rfl (lv_at hl 2 rfl) ?_
      refine lv_aload_n hx hb dX6_doStep_14 rfl (lv_at hl 0 rfl) ?_
      refine sn_get (ci := 5) (Cn := RX6) (T := TX6) (n := 6) (v := .ref (g.2.2.2 (b + 1))) C hinX6 hP b (sn_l0 hT.1 (by decide)) hT.2.1 rfl 0 (by decide) (by decide +kernel) rfl rfl dX6_doStep_15 ?_
      refine lv_iload_n hx hb dX6_doStep_18 rfl (lv_at hl 2 rfl) ?_
      refine sn_ald C hP (b + 1) (sn_l hT.1 (by decide)) hT.2.2.1 hd dX6_doStep_19 (fun k8 hk8 hd => ?_)
      refine sn_ast C hP hS (b + 3) (sn_l hT.1 (by decide)) hT.2.2.2.2.1 hd dX6_doStep_20 (fun k9 H locs hk9 hd hP hS => ?_)
      refine lv_iinc (v := (x2 + (1 : Int32))) (lv' := [(2, .int (x2 + (1 : Int32))), (0, .ref (g.2.2.2 b)), (1, .int x1)]) hx hb dX6_doStep_21 hl (k := 2) rfl rfl (by decide) rfl (fun ls hl => ?_)
      refine lv_goto (tgt := 2) hx hb dX6_doStep_24 (by decide) ?_
      exact ih (x2 + (1 : Int32)) (sn_wr st (b + 3) k9 (st.1 (b + 1) k8)) _ _ _ hd hP hS (lv_sub hl [1, 2, 0] rfl)

set_option maxHeartbeats 4000000 in
set_option maxRecDepth 100000 in
theorem c_X6_doStep {l : Launch} {g : sn_G} {tb : Nat → sn_K} {N : Nat} (hi : sn_I g N) {b : Nat} {x1 : Int32} (hT : sn_Mo tb N b) {st : sn_S} {o : Int32 × sn_S} (hd : D_X6_doStep b x1 st = some o) : sn_Mi l yX6_doStep wsX6_doStep { frames := 13, cells := 0, slots := 0, locals := 285 } g tb N [.ref (g.2.2.2 b), .int x1] st o.1 o.2 := by
  refine sn_Mi.of (cc := cX6_doStep) (nL := 6) (ret := (some .int)) hi (by decide) rfl (Nat.le_of_ble_eq_true rfl) ?_
  intro p e s m args below meth c ls C hP hS hl
  have hl : lv_has ls 6 [(0, .ref (g.2.2.2 b)), (1, .int x1)] := hl
  obtain ⟨⟨hx, hb, hml, hown, hts⟩, hr, hlk, hC, hi⟩ := id C
  unfold D_X6_doStep at hd
  have hinX6 : ∀ w ∈ wsX60, w ∈ wsX6_doStep := by decide +kernel
  refine lv_iconst (v := (0 : Int32)) hx hb dX6_doStep_0 (by decide) ?_
  refine lv_istore_n (lv' := [(2, .int (0 : Int32)), (0, .ref (g.2.2.2 b)), (1, .int x1)]) hx hb dX6_doStep_1 rfl hl (by decide) rfl (fun ls hl => ?_)
  exact t_X6_doStep_L2 C hT 4096 (0 : Int32) st _ _ _ hd hP hS (lv_sub hl [1, 2, 0] rfl)

set_option maxHeartbeats 4000000 in
set_option maxRecDepth 100000 in
theorem c_X6_step {l : Launch} {g : sn_G} {tb : Nat → sn_K} {N : Nat} (hi : sn_I g N) {b : Nat} {x1 : Int32} (hT : sn_Mo tb N b) {st : sn_S} {o : Int32 × sn_S} (hd : D_X6_step b x1 st = some o) : sn_Mi l yX6_step wsX6_step { frames := 14, cells := 0, slots := 0, locals := 310 } g tb N [.ref (g.2.2.2 b), .int x1] st o.1 o.2 := by
  refine sn_Mi.of (cc := cX6_step) (nL := 2) (ret := (some .int)) hi (by decide) rfl (Nat.le_of_ble_eq_true rfl) ?_
  intro p e s m args below meth c ls C hP hS hl
  have hl : lv_has ls 2 [(0, .ref (g.2.2.2 b)), (1, .int x1)] := hl
  obtain ⟨⟨hx, hb, hml, hown, hts⟩, hr, hlk, hC, hi⟩ := id C
  unfold D_X6_step at hd
  have hinX6 : ∀ w ∈ wsX60, w ∈ wsX6_step := by decide +kernel
  refine lv_aload_n hx hb dX6_step_0 rfl (lv_at hl 0 rfl) ?_
  refine sn_get (ci := 5) (Cn := RX6) (T := TX6) (n := 6) (v := .ref (g.2.2.2 (b + 1))) C hinX6 hP b (sn_l0 hT.1 (by decide)) hT.2.1 rfl 0 (by decide) (by decide +kernel) rfl rfl dX6_step_1 ?_
  refine lv_sipush (v := (361 : Int32)) hx hb dX6_step_4 (by decide) ?_
  refine sn_aldc (k := 361) C hP (b + 1) (sn_l hT.1 (by decide)) hT.2.2.1 (by decide +kernel) dX6_step_7 ?_
  refine lv_iconst (v := (1 : Int32)) hx hb dX6_step_8 (by decide) ?_
  refine lv_icmp_ne (tgt := 20) hx hb dX6_step_9 (by decide) (fun hc => ?_) (fun hc => ?_)
  · replace hd := (if_neg hc).symm.trans hd
    refine lv_bipush (v := (-103 : Int32)) hx hb dX6_step_20 (by decide) ?_
    have ho := Option.some.inj hd
    subst ho
    exact sn_ri C hP hS dX6_step_22
  · replace hd := (if_pos hc).symm.trans hd
    refine lv_aload_n hx hb dX6_step_12 rfl (lv_at hl 0 rfl) ?_
    refine lv_iload_n hx hb dX6_step_13 rfl (lv_at hl 1 rfl) ?_
    obtain ⟨r1, hr1, hd⟩ := Option.bind_eq_some_iff.mp hd
    refine sn_Vi (b := b) (rest := []) (As := [.int x1]) (st := st) C (c_X6_doStep hi hT hr1) (cwV 1 hts gX6_step_X6_doStep rfl rfl rfl (by decide +kernel) ⟨Nat.le_of_ble_eq_true rfl, Nat.le_of_ble_eq_true rfl⟩) hP hS (sn_l0 hT.1 (by decide)) hT.2.1 rfl rfl hl.1 rfl (Nat.le_of_ble_eq_true rfl) dX6_step_14 (fun H locs hP hS => ?_)
    refine lv_goto (tgt := 22) hx hb dX6_step_17 (by decide) ?_
    have ho := Option.some.inj hd
    subst ho
    exact sn_ri C hP hS dX6_step_22

set_option maxHeartbeats 4000000 in
set_option maxRecDepth 100000 in
theorem c_X6_least {l : Launch} {g : sn_G} {tb : Nat → sn_K} {N : Nat} (hi : sn_I g N) {b : Nat} (hT : sn_Mo tb N b) {st : sn_S} {o : Int32} (hd : D_X6_least b st = some o) : sn_Mi l yX6_least wsX6_least { frames := 12, cells := 0, slots := 0, locals := 265 } g tb N [.ref (g.2.2.2 b)] st o st := by
  refine sn_Mi.of (cc := cX6_least) (nL := 2) (ret := (some .int)) hi (by decide) rfl (Nat.le_of_ble_eq_true rfl) ?_
  intro p e s m args below meth c ls C hP hS hl
  have hl : lv_has ls 2 [(0, .ref (g.2.2.2 b))] := hl
  obtain ⟨⟨hx, hb, hml, hown, hts⟩, hr, hlk, hC, hi⟩ := id C
  unfold D_X6_least at hd
  refine lv_aload_n hx hb dX6_least_0 rfl (lv_at hl 0 rfl) ?_
  obtain ⟨r1, hr1, hd⟩ := Option.bind_eq_some_iff.mp hd
  refine sn_Vi (b := b) (rest := []) (As := []) (st := st) C (c_X6_enabledAll hi hT hr1) (cwV 0 hts gX6_least_X6_enabledAll rfl rfl rfl (by decide +kernel) ⟨Nat.le_of_ble_eq_true rfl, Nat.le_of_ble_eq_true rfl⟩) hP hS (sn_l0 hT.1 (by decide)) hT.2.1 rfl rfl hl.1 rfl (Nat.le_of_ble_eq_true rfl) dX6_least_1 (fun H locs hP hS => ?_)
  refine lv_istore_n (lv' := [(1, .int r1), (0, .ref (g.2.2.2 b))]) hx hb dX6_least_4 rfl hl (by decide) rfl (fun ls hl => ?_)
  refine lv_iload_n hx hb dX6_least_5 rfl (lv_at hl 0 rfl) ?_
  refine lv_iload_n hx hb dX6_least_6 rfl (lv_at hl 0 rfl) ?_
  refine lv_ineg hx hb dX6_least_7 ?_
  refine lv_iand hx hb dX6_least_8 ?_
  have ho := Option.some.inj hd
  subst ho
  exact sn_ri C hP hS dX6_least_9

set_option maxHeartbeats 4000000 in
set_option maxRecDepth 100000 in
theorem t_X6_greatest_L9 {p : Program} {l : Launch} {e : Env} {s : State} {m : MethodId} {args : Array Value} {below : List Frame} {meth : Method} {c : Code} {g : sn_G} {tb : Nat → sn_K} {N : Nat} {b : Nat} {x1 : Int32} {st : sn_S} {o : Int32} (C : sn_Cx p s m args meth c g N cX6_greatest 4 wsX6_greatest yX6_greatest.cls (some .int)) (hT : sn_Mo tb N b)  : ∀ (n : Nat) (x2 : Int32) (x3 : Int32) (H : Heap) (locs : List Loc) (ls : Array Slot), D_X6_greatest_L9 b x1 st n x2 x3 = some o → va_P g.1 vwCl (sn_W g tb N st) H → va_S (sn_A g N) s.heap H locs → lv_has ls 4 [(0, .ref (g.2.2.2 b)), (1, .int x1), (2, .int x2), (3, .int x3)] → W p l e { frames := 12, cells := 0, slots := 0, locals := 265 } s m args below meth c H locs 0 0 (MQ below (sn_Qi g tb N o st) args s 0 0 (sn_A g N)) (F0 m 9 ls []) := by
  obtain ⟨⟨hx, hb, hml, hown, hts⟩, hr, hlk, hC, hi⟩ := id C
  intro n
  induction n with
  | zero => intro _ _ _ _ _ hd; exact nomatch (show (none : Option (Int32)) = some o from hd)
  | succ n ih =>
    intro x2 x3 H locs ls hd hP hS hl
    replace hd := (D_X6_greatest_L9.eq_2 _ _ _ _ _ _).symm.trans hd
    refine lv_iload_n hx hb dX6_greatest_9 rfl (lv_at hl 3 rfl) ?_
    refine lv_bipush (v := (12 : Int32)) hx hb dX6_greatest_10 (by decide) ?_
    refine lv_icmp_ge (tgt := 38) hx hb dX6_greatest_12 (by decide) (fun hc => ?_) (fun hc => ?_)
    · replace hd := (if_pos hc).symm.trans hd
      refine lv_iload_n hx hb dX6_greatest_38 rfl (lv_at hl 2 rfl) ?_
      have ho := Option.some.inj hd
      subst ho
      exact sn_ri C hP hS dX6_greatest_39
    · replace hd := (if_neg hc).symm.trans hd
      refine lv_iload_n hx hb dX6_greatest_15 rfl (lv_at hl 1 rfl) ?_
      refine lv_iload_n hx hb dX6_greatest_16 rfl (lv_at hl 3 rfl) ?_
      refine lv_ishr hx hb dX6_greatest_17 ?_
      refine lv_iconst (v := (1 : Int32)) hx hb dX6_greatest_18 (by decide) ?_
      refine lv_iand hx hb dX6_greatest_19 ?_
      refine lv_iconst (v := (1 : Int32)) hx hb dX6_greatest_20 (by decide) ?_
      refine lv_icmp_ne (tgt := 30) hx hb dX6_greatest_21 (by decide) (fun hc => ?_) (fun hc => ?_)
      · replace hd := (if_neg hc).symm.trans hd
        refine lv_iload_n hx hb dX6_greatest_30 rfl (lv_at hl 2 rfl) ?_
        refine lv_istore_n (lv' := [(2, .int x2), (0, .ref (g.2.2.2 b)), (1, .int x1), (3, .int x3)]) hx hb dX6_greatest_31 rfl hl (by decide) rfl (fun ls hl => ?_)
        refine lv_iinc (v := (x3 + (1 : Int32))) (lv' := [(3, .int (x3 + (1 : Int32))), (2, .int x2), (0, .ref (g.2.2.2 b)), (1, .int x1)]) hx hb dX6_greatest_32 hl (k := 3) rfl rfl (by decide) rfl (fun ls hl => ?_)
        refine lv_goto (tgt := 9) hx hb dX6_greatest_35 (by decide) ?_
        exact ih x2 (x3 + (1 : Int32)) _ _ _ hd hP hS (lv_sub hl [2, 3, 1, 0] rfl)
      · replace hd := (if_pos hc).symm.trans hd
        refine lv_iconst (v := (1 : Int32)) hx hb dX6_greatest_24 (by decide) ?_
        refine lv_iload_n hx hb dX6_greatest_25 rfl (lv_at hl 3 rfl) ?_
        refine lv_ishl hx hb dX6_greatest_26 ?_
        refine lv_goto (tgt := 31) hx hb dX6_greatest_27 (by decide) ?_
        refine lv_istore_n (lv' := [(2, .int ((1 : Int32) <<< (x3 &&& 31))), (0, .ref (g.2.2.2 b)), (1, .int x1), (3, .int x3)]) hx hb dX6_greatest_31 rfl hl (by decide) rfl (fun ls hl => ?_)
        refine lv_iinc (v := (x3 + (1 : Int32))) (lv' := [(3, .int (x3 + (1 : Int32))), (2, .int ((1 : Int32) <<< (x3 &&& 31))), (0, .ref (g.2.2.2 b)), (1, .int x1)]) hx hb dX6_greatest_32 hl (k := 3) rfl rfl (by decide) rfl (fun ls hl => ?_)
        refine lv_goto (tgt := 9) hx hb dX6_greatest_35 (by decide) ?_
        exact ih ((1 : Int32) <<< (x3 &&& 31)) (x3 + (1 : Int32)) _ _ _ hd hP hS (lv_sub hl [2, 3, 1, 0] rfl)

set_option maxHeartbeats 4000000 in
set_option maxRecDepth 100000 in
theorem c_X6_greatest {l : Launch} {g : sn_G} {tb : Nat → sn_K} {N : Nat} (hi : sn_I g N) {b : Nat} (hT : sn_Mo tb N b) {st : sn_S} {o : Int32} (hd : D_X6_greatest b st = some o) : sn_Mi l yX6_greatest wsX6_greatest { frames := 12, cells := 0, slots := 0, locals := 265 } g tb N [.ref (g.2.2.2 b)] st o st := by
  refine sn_Mi.of (cc := cX6_greatest) (nL := 4) (ret := (some .int)) hi (by decide) rfl (Nat.le_of_ble_eq_true rfl) ?_
  intro p e s m args below meth c ls C hP hS hl
  have hl : lv_has ls 4 [(0, .ref (g.2.2.2 b))] := hl
  obtain ⟨⟨hx, hb, hml, hown, hts⟩, hr, hlk, hC, hi⟩ := id C
  unfold D_X6_greatest at hd
  refine lv_aload_n hx hb dX6_greatest_0 rfl (lv_at hl 0 rfl) ?_
  obtain ⟨r1, hr1, hd⟩ := Option.bind_eq_some_iff.mp hd
  refine sn_Vi (b := b) (rest := []) (As := []) (st := st) C (c_X6_enabledAll hi hT hr1) (cwV 0 hts gX6_greatest_X6_enabledAll rfl rfl rfl (by decide +kernel) ⟨Nat.le_of_ble_eq_true rfl, Nat.le_of_ble_eq_true rfl⟩) hP hS (sn_l0 hT.1 (by decide)) hT.2.1 rfl rfl hl.1 rfl (Nat.le_of_ble_eq_true rfl) dX6_greatest_1 (fun H locs hP hS => ?_)
  refine lv_istore_n (lv' := [(1, .int r1), (0, .ref (g.2.2.2 b))]) hx hb dX6_greatest_4 rfl hl (by decide) rfl (fun ls hl => ?_)
  refine lv_iconst (v := (0 : Int32)) hx hb dX6_greatest_5 (by decide) ?_
  refine lv_istore_n (lv' := [(2, .int (0 : Int32)), (1, .int r1), (0, .ref (g.2.2.2 b))]) hx hb dX6_greatest_6 rfl hl (by decide) rfl (fun ls hl => ?_)
  refine lv_iconst (v := (0 : Int32)) hx hb dX6_greatest_7 (by decide) ?_
  refine lv_istore_n (lv' := [(3, .int (0 : Int32)), (2, .int (0 : Int32)), (1, .int r1), (0, .ref (g.2.2.2 b))]) hx hb dX6_greatest_8 rfl hl (by decide) rfl (fun ls hl => ?_)
  exact t_X6_greatest_L9 (st := st) C hT 4096 (0 : Int32) (0 : Int32) _ _ _ hd hP hS (lv_sub hl [3, 2, 1, 0] rfl)

set_option maxHeartbeats 4000000 in
set_option maxRecDepth 100000 in
theorem c_X6_stepBy {l : Launch} {g : sn_G} {tb : Nat → sn_K} {N : Nat} (hi : sn_I g N) {b : Nat} {x1 : Int32} (hT : sn_Mo tb N b) {st : sn_S} {o : Int32 × sn_S} (hd : D_X6_stepBy b x1 st = some o) : sn_Mi l yX6_stepBy wsX6_stepBy { frames := 14, cells := 0, slots := 0, locals := 310 } g tb N [.ref (g.2.2.2 b), .int x1] st o.1 o.2 := by
  refine sn_Mi.of (cc := cX6_stepBy) (nL := 3) (ret := (some .int)) hi (by decide) rfl (Nat.le_of_ble_eq_true rfl) ?_
  intro p e s m args below meth c ls C hP hS hl
  have hl : lv_has ls 3 [(0, .ref (g.2.2.2 b)), (1, .int x1)] := hl
  obtain ⟨⟨hx, hb, hml, hown, hts⟩, hr, hlk, hC, hi⟩ := id C
  unfold D_X6_stepBy at hd
  have hinX6 : ∀ w ∈ wsX60, w ∈ wsX6_stepBy := by decide +kernel
  refine lv_iload_n hx hb dX6_stepBy_0 rfl (lv_at hl 1 rfl) ?_
  refine lv_if_ne (tgt := 12) hx hb dX6_stepBy_1 (by decide) (fun hc => ?_) (fun hc => ?_)
  · replace hd := (if_neg hc).symm.trans hd
    refine lv_iload_n hx hb dX6_stepBy_12 rfl (lv_at hl 1 rfl) ?_
    refine lv_iconst (v := (1 : Int32)) hx hb dX6_stepBy_13 (by decide) ?_
    refine lv_icmp_ne (tgt := 26) hx hb dX6_stepBy_14 (by decide) (fun hc => ?_) (fun hc => ?_)
    · replace hd := (if_neg hc).symm.trans hd
      refine lv_iload_n hx hb dX6_stepBy_26 rfl (lv_at hl 1 rfl) ?_
      refine lv_iconst (v := (2 : Int32)) hx hb dX6_stepBy_27 (by decide) ?_
      refine lv_icmp_ne (tgt := 40) hx hb dX6_stepBy_28 (by decide) (fun hc => ?_) (fun hc => ?_)
      · replace hd := (if_neg hc).symm.trans hd
        refine lv_iload_n hx hb dX6_stepBy_40 rfl (lv_at hl 1 rfl) ?_
        refine lv_iconst (v := (3 : Int32)) hx hb dX6_stepBy_41 (by decide) ?_
        refine lv_icmp_ne (tgt := 91) hx hb dX6_stepBy_42 (by decide) (fun hc => ?_) (fun hc => ?_)
        · replace hd := (if_neg hc).symm.trans hd
          refine lv_aload_n hx hb dX6_stepBy_91 rfl (lv_at hl 0 rfl) ?_
          refine sn_get (ci := 5) (Cn := RX6) (T := TX6) (n := 6) (v := .ref (g.2.2.2 (b + 1))) C hinX6 hP b (sn_l0 hT.1 (by decide)) hT.2.1 rfl 0 (by decide) (by decide +kernel) rfl rfl dX6_stepBy_92 ?_
          refine lv_sipush (v := (370 : Int32)) hx hb dX6_stepBy_95 (by decide) ?_
          refine lv_ldc (v := (1103515245 : Int32)) hx hb hown (hts (.constant RX6 125 (1103515245)) (by decide +kernel)) dX6_stepBy_98 ?_
          refine lv_aload_n hx hb dX6_stepBy_100 rfl (lv_at hl 0 rfl) ?_
          refine sn_get (ci := 5) (Cn := RX6) (T := TX6) (n := 6) (v := .ref (g.2.2.2 (b + 1))) C hinX6 hP b (sn_l0 hT.1 (by decide)) hT.2.1 rfl 0 (by decide) (by decide +kernel) rfl rfl dX6_stepBy_101 ?_
          refine lv_sipush (v := (370 : Int32)) hx hb dX6_stepBy_104 (by decide) ?_
          refine sn_aldc (k := 370) C hP (b + 1) (sn_l hT.1 (by decide)) hT.2.2.1 (by decide +kernel) dX6_stepBy_107 ?_
          refine lv_imul hx hb dX6_stepBy_108 ?_
          refine lv_sipush (v := (12345 : Int32)) hx hb dX6_stepBy_109 (by decide) ?_
          refine lv_iadd hx hb dX6_stepBy_112 ?_
          refine sn_astc (k := 370) C hP hS (b + 1) (sn_l hT.1 (by decide)) hT.2.2.1 (by decide +kernel) dX6_stepBy_113 (fun H locs hP hS => ?_)
          refine lv_aload_n hx hb dX6_stepBy_114 rfl (lv_at hl 0 rfl) ?_
          refine lv_aload_n hx hb dX6_stepBy_115 rfl (lv_at hl 0 rfl) ?_
          refine sn_get (ci := 5) (Cn := RX6) (T := TX6) (n := 6) (v := .ref (g.2.2.2 (b + 1))) C hinX6 hP b (sn_l0 hT.1 (by decide)) hT.2.1 rfl 0 (by decide) (by decide +kernel) rfl rfl dX6_stepBy_116 ?_
          refine lv_sipush (v := (370 : Int32)) hx hb dX6_stepBy_119 (by decide) ?_
          refine sn_aldc (k := 370) C hP (b + 1) (sn_l hT.1 (by decide)) hT.2.2.1 (by decide +kernel) dX6_stepBy_122 ?_
          refine lv_bipush (v := (8 : Int32)) hx hb dX6_stepBy_123 (by decide) ?_
          refine lv_ishr hx hb dX6_stepBy_125 ?_
          refine lv_sipush (v := (4095 : Int32)) hx hb dX6_stepBy_126 (by decide) ?_
          refine lv_iand hx hb dX6_stepBy_129 ?_
          obtain ⟨r1, hr1, hd⟩ := Option.bind_eq_some_iff.mp hd
          refine sn_Vi (b := b) (rest := []) (As := [.int ((((sn_wr st (b + 1) 370 (((1103515245 : Int32) * (st.1 (b + 1) 370)) + (12345 : Int32))).1 (b + 1) 370) >>> ((8 : Int32) &&& 31)) &&& (4095 : Int32))]) (st := (sn_wr st (b + 1) 370 (((1103515245 : Int32) * (st.1 (b + 1) 370)) + (12345 : Int32)))) C (c_X6_doStep hi hT hr1) (cwV 1 hts gX6_stepBy_X6_doStep rfl rfl rfl (by decide +kernel) ⟨Nat.le_of_ble_eq_true rfl, Nat.le_of_ble_eq_true rfl⟩) hP hS (sn_l0 hT.1 (by decide)) hT.2.1 rfl rfl hl.1 rfl (Nat.le_of_ble_eq_true rfl) dX6_stepBy_130 (fun H locs hP hS => ?_)
          have ho := Option.some.inj hd
          subst ho
          exact sn_ri C hP hS dX6_stepBy_133
        · replace hd := (if_pos hc).symm.trans hd
          refine lv_aload_n hx hb dX6_stepBy_45 rfl (lv_at hl 0 rfl) ?_
          refine sn_get (ci := 5) (Cn := RX6) (T := TX6) (n := 6) (v := .ref (g.2.2.2 (b + 1))) C hinX6 hP b (sn_l0 hT.1 (by decide)) hT.2.1 rfl 0 (by decide) (by decide +kernel) rfl rfl dX6_stepBy_46 ?_
          refine lv_sipush (v := (372 : Int32)) hx hb dX6_stepBy_49 (by decide) ?_
          refine sn_aldc (k := 372) C hP (b + 1) (sn_l hT.1 (by decide)) hT.2.2.1 (by decide +kernel) dX6_stepBy_52 ?_
          refine lv_istore_n (lv' := [(2, .int (st.1 (b + 1) 372)), (0, .ref (g.2.2.2 b)), (1, .int x1)]) hx hb dX6_stepBy_53 rfl hl (by decide) rfl (fun ls hl => ?_)
          refine lv_aload_n hx hb dX6_stepBy_54 rfl (lv_at hl 1 rfl) ?_
          refine sn_get (ci := 5) (Cn := RX6) (T := TX6) (n := 6) (v := .ref (g.2.2.2 (b + 1))) C hinX6 hP b (sn_l0 hT.1 (by decide)) hT.2.1 rfl 0 (by decide) (by decide +kernel) rfl rfl dX6_stepBy_55 ?_
          refine lv_sipush (v := (372 : Int32)) hx hb dX6_stepBy_58 (by decide) ?_
          refine lv_iload_n hx hb dX6_stepBy_61 rfl (lv_at hl 0 rfl) ?_
          refine lv_iconst (v := (1 : Int32)) hx hb dX6_stepBy_62 (by decide) ?_
          refine lv_iadd hx hb dX6_stepBy_63 ?_
          refine lv_aload_n hx hb dX6_stepBy_64 rfl (lv_at hl 1 rfl) ?_
          refine sn_get (ci := 5) (Cn := RX6) (T := TX6) (n := 6) (v := .ref (g.2.2.2 (b + 1))) C hinX6 hP b (sn_l0 hT.1 (by decide)) hT.2.1 rfl 0 (by decide) (by decide +kernel) rfl rfl dX6_stepBy_65 ?_
          refine lv_sipush (v := (360 : Int32)) hx hb dX6_stepBy_68 (by decide) ?_
          refine sn_aldc (k := 360) C hP (b + 1) (sn_l hT.1 (by decide)) hT.2.2.1 (by decide +kernel) dX6_stepBy_71 ?_
          refine lv_icmp_ne (tgt := 79) hx hb dX6_stepBy_72 (by decide) (fun hc => ?_) (fun hc => ?_)
          · replace hd := (if_neg hc).symm.trans hd
            refine lv_iload_n hx hb dX6_stepBy_79 rfl (lv_at hl 0 rfl) ?_
            refine lv_iconst (v := (1 : Int32)) hx hb dX6_stepBy_80 (by decide) ?_
            refine lv_iadd hx hb dX6_stepBy_81 ?_
            refine sn_astc (k := 372) C hP hS (b + 1) (sn_l hT.1 (by decide)) hT.2.2.1 (by decide +kernel) dX6_stepBy_82 (fun H locs hP hS => ?_)
            refine lv_aload_n hx hb dX6_stepBy_83 rfl (lv_at hl 1 rfl) ?_
            refine lv_iconst (v := (1 : Int32)) hx hb dX6_stepBy_84 (by decide) ?_
            refine lv_iload_n hx hb dX6_stepBy_85 rfl (lv_at hl 0 rfl) ?_
            refine lv_ishl hx hb dX6_stepBy_86 ?_
            obtain ⟨r2, hr2, hd⟩ := Option.bind_eq_some_iff.mp hd
            refine sn_Vi (b := b) (rest := []) (As := [.int ((1 : Int32) <<< ((st.1 (b + 1) 372) &&& 31))]) (st := (sn_wr st (b + 1) 372 ((st.1 (b + 1) 372) + (1 : Int32)))) C (c_X6_doStep hi hT hr2) (cwV 1 hts gX6_stepBy_X6_doStep rfl rfl rfl (by decide +kernel) ⟨Nat.le_of_ble_eq_true rfl, Nat.le_of_ble_eq_true rfl⟩) hP hS (sn_l0 hT.1 (by decide)) hT.2.1 rfl rfl hl.1 rfl (Nat.le_of_ble_eq_true rfl) dX6_stepBy_87 (fun H locs hP hS => ?_)
            have ho := Option.some.inj hd
            subst ho
            exact sn_ri C hP hS dX6_stepBy_90
          · replace hd := (if_pos hc).symm.trans hd
            refine lv_iconst (v := (0 : Int32)) hx hb dX6_stepBy_75 (by decide) ?_
            refine lv_goto (tgt := 82) hx hb dX6_stepBy_76 (by decide) ?_
            refine sn_astc (k := 372) C hP hS (b + 1) (sn_l hT.1 (by decide)) hT.2.2.1 (by decide +kernel) dX6_stepBy_82 (fun H locs hP hS => ?_)
            refine lv_aload_n hx hb dX6_stepBy_83 rfl (lv_at hl 1 rfl) ?_
            refine lv_iconst (v := (1 : Int32)) hx hb dX6_stepBy_84 (by decide) ?_
            refine lv_iload_n hx hb dX6_stepBy_85 rfl (lv_at hl 0 rfl) ?_
            refine lv_ishl hx hb dX6_stepBy_86 ?_
            obtain ⟨r3, hr3, hd⟩ := Option.bind_eq_some_iff.mp hd
            refine sn_Vi (b := b) (rest := []) (As := [.int ((1 : Int32) <<< ((st.1 (b + 1) 372) &&& 31))]) (st := (sn_wr st (b + 1) 372 (0 : Int32))) C (c_X6_doStep hi hT hr3) (cwV 1 hts gX6_stepBy_X6_doStep rfl rfl rfl (by decide +kernel) ⟨Nat.le_of_ble_eq_true rfl, Nat.le_of_ble_eq_true rfl⟩) hP hS (sn_l0 hT.1 (by decide)) hT.2.1 rfl rfl hl.1 rfl (Nat.le_of_ble_eq_true rfl) dX6_stepBy_87 (fun H locs hP hS => ?_)
            have ho := Option.some.inj hd
            subst ho
            exact sn_ri C hP hS dX6_stepBy_90
      · replace hd := (if_pos hc).symm.trans hd
        refine lv_aload_n hx hb dX6_stepBy_31 rfl (lv_at hl 0 rfl) ?_
        refine lv_aload_n hx hb dX6_stepBy_32 rfl (lv_at hl 0 rfl) ?_
        obtain ⟨r4, hr4, hd⟩ := Option.bind_eq_some_iff.mp hd
        refine sn_Vi (b := b) (rest := [.ref (g.2.2.2 b)]) (As := []) (st := st) C (c_X6_greatest hi hT hr4) (cwV 0 hts gX6_stepBy_X6_greatest rfl rfl rfl (by decide +kernel) ⟨Nat.le_of_ble_eq_true rfl, Nat.le_of_ble_eq_true rfl⟩) hP hS (sn_l0 hT.1 (by decide)) hT.2.1 rfl rfl hl.1 rfl (Nat.le_of_ble_eq_true rfl) dX6_stepBy_33 (fun H locs hP hS => ?_)
        obtain ⟨r5, hr5, hd⟩ := Option.bind_eq_some_iff.mp hd
        refine sn_Vi (b := b) (rest := []) (As := [.int r4]) (st := st) C (c_X6_doStep hi hT hr5) (cwV 1 hts gX6_stepBy_X6_doStep rfl rfl rfl (by decide +kernel) ⟨Nat.le_of_ble_eq_true rfl, Nat.le_of_ble_eq_true rfl⟩) hP hS (sn_l0 hT.1 (by decide)) hT.2.1 rfl rfl hl.1 rfl (Nat.le_of_ble_eq_true rfl) dX6_stepBy_36 (fun H locs hP hS => ?_)
        have ho := Option.some.inj hd
        subst ho
        exact sn_ri C hP hS dX6_stepBy_39
    · replace hd := (if_pos hc).symm.trans hd
      refine lv_aload_n hx hb dX6_stepBy_17 rfl (lv_at hl 0 rfl) ?_
      refine lv_aload_n hx hb dX6_stepBy_18 rfl (lv_at hl 0 rfl) ?_
      obtain ⟨r6, hr6, hd⟩ := Option.bind_eq_some_iff.mp hd
      refine sn_Vi (b := b) (rest := [.ref (g.2.2.2 b)]) (As := []) (st := st) C (c_X6_least hi hT hr6) (cwV 0 hts gX6_stepBy_X6_least rfl rfl rfl (by decide +kernel) ⟨Nat.le_of_ble_eq_true rfl, Nat.le_of_ble_eq_true rfl⟩) hP hS (sn_l0 hT.1 (by decide)) hT.2.1 rfl rfl hl.1 rfl (Nat.le_of_ble_eq_true rfl) dX6_stepBy_19 (fun H locs hP hS => ?_)
      obtain ⟨r7, hr7, hd⟩ := Option.bind_eq_some_iff.mp hd
      refine sn_Vi (b := b) (rest := []) (As := [.int r6]) (st := st) C (c_X6_doStep hi hT hr7) (cwV 1 hts gX6_stepBy_X6_doStep rfl rfl rfl (by decide +kernel) ⟨Nat.le_of_ble_eq_true rfl, Nat.le_of_ble_eq_true rfl⟩) hP hS (sn_l0 hT.1 (by decide)) hT.2.1 rfl rfl hl.1 rfl (Nat.le_of_ble_eq_true rfl) dX6_stepBy_22 (fun H locs hP hS => ?_)
      have ho := Option.some.inj hd
      subst ho
      exact sn_ri C hP hS dX6_stepBy_25
  · replace hd := (if_pos hc).symm.trans hd
    refine lv_aload_n hx hb dX6_stepBy_4 rfl (lv_at hl 0 rfl) ?_
    refine lv_sipush (v := (4095 : Int32)) hx hb dX6_stepBy_5 (by decide) ?_
    obtain ⟨r8, hr8, hd⟩ := Option.bind_eq_some_iff.mp hd
    refine sn_Vi (b := b) (rest := []) (As := [.int (4095 : Int32)]) (st := st) C (c_X6_doStep hi hT hr8) (cwV 1 hts gX6_stepBy_X6_doStep rfl rfl rfl (by decide +kernel) ⟨Nat.le_of_ble_eq_true rfl, Nat.le_of_ble_eq_true rfl⟩) hP hS (sn_l0 hT.1 (by decide)) hT.2.1 rfl rfl hl.1 rfl (Nat.le_of_ble_eq_true rfl) dX6_stepBy_8 (fun H locs hP hS => ?_)
    have ho := Option.some.inj hd
    subst ho
    exact sn_ri C hP hS dX6_stepBy_11
