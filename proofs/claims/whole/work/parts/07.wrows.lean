set_option maxHeartbeats 4000000 in
set_option maxRecDepth 100000 in
theorem t_X1_clear_L2 {p : Program} {l : Launch} {e : Env} {s : State} {m : MethodId} {args : Array Value} {below : List Frame} {meth : Method} {c : Code} {g : sn_G} {tb : Nat → sn_K} {N : Nat} {b : Nat} {o : sn_S} (C : sn_Cx p s m args meth c g N cX1_clear 2 wsX1_clear yX1_clear.cls none) (hT : sn_Ro tb N b)  : ∀ (n : Nat) (x1 : Int32) (st : sn_S) (H : Heap) (locs : List Loc) (ls : Array Slot), D_X1_clear_L2 b n x1 st = some o → va_P g.1 vwCl (sn_W g tb N st) H → va_S (sn_A g N) s.heap H locs → lv_has ls 2 [(0, .ref (g.2.2.2 b)), (1, .int x1)] → W p l e { frames := 1, cells := 0, slots := 0, locals := 23 } s m args below meth c H locs 0 0 (MQ below (sn_Qv g tb N o) args s 0 0 (sn_A g N)) (F0 m 2 ls []) := by
  obtain ⟨⟨hx, hb, hml, hown, hts⟩, hr, hlk, hC, hi⟩ := id C
  have hinX1 : ∀ w ∈ wsX10, w ∈ wsX1_clear := by decide +kernel
  intro n
  induction n with
  | zero => intro _ _ _ _ _ hd; exact nomatch (show (none : Option (sn_S)) = some o from hd)
  | succ n ih =>
    intro x1 st H locs ls hd hP hS hl
    replace hd := (D_X1_clear_L2.eq_2 _ _ _ _).symm.trans hd
    refine lv_iload_n hx hb dX1_clear_2 rfl (lv_at hl 1 rfl) ?_
    refine lv_bipush (v := (12 : Int32)) hx hb dX1_clear_3 (by decide) ?_
    refine lv_icmp_ge (tgt := 52) hx hb dX1_clear_5 (by decide) (fun hc => ?_) (fun hc => ?_)
    · replace hd := (if_pos hc).symm.trans hd
      refine lv_aload_n hx hb dX1_clear_52 rfl (lv_at hl 0 rfl) ?_
      refine sn_get (ci := 1) (Cn := RX1) (T := TX1) (n := 4) (v := .ref (g.2.2.2 (b + 27))) C hinX1 hP b (sn_l0 hT.1 (by decide)) hT.2.1 rfl 2 (by decide) (by decide +kernel) rfl rfl dX1_clear_53 ?_
      refine lv_iconst (v := (0 : Int32)) hx hb dX1_clear_56 (by decide) ?_
      obtain ⟨r1, hr1, hd⟩ := Option.bind_eq_some_iff.mp hd
      refine sn_Sv (rest := []) (As := [.ref (g.2.2.2 (b + 27)), .int (0 : Int32)]) (st := st) C (c_J7_fill_53178 hi (sn_l hT.1 (by decide)) hT.2.2.2.2.2.2.1 hr1) (va_cwS 2 hts gX1_clear_J7_fill_53178 rfl rfl rfl (by decide +kernel) ⟨Nat.le_of_ble_eq_true rfl, Nat.le_of_ble_eq_true rfl⟩) hP hS rfl hl.1 rfl (Nat.le_of_ble_eq_true rfl) dX1_clear_57 (fun H locs hP hS => ?_)
      refine lv_aload_n hx hb dX1_clear_60 rfl (lv_at hl 0 rfl) ?_
      refine sn_get (ci := 1) (Cn := RX1) (T := TX1) (n := 4) (v := .ref (g.2.2.2 (b + 28))) C hinX1 hP b (sn_l0 hT.1 (by decide)) hT.2.1 rfl 3 (by decide) (by decide +kernel) rfl rfl dX1_clear_61 ?_
      refine lv_iconst (v := (0 : Int32)) hx hb dX1_clear_64 (by decide) ?_
      obtain ⟨r2, hr2, hd⟩ := Option.bind_eq_some_iff.mp hd
      refine sn_Sv (rest := []) (As := [.ref (g.2.2.2 (b + 28)), .int (0 : Int32)]) (st := r1) C (c_J7_fill_53178 hi (sn_l hT.1 (by decide)) hT.2.2.2.2.2.2.2 hr2) (va_cwS 2 hts gX1_clear_J7_fill_53178 rfl rfl rfl (by decide +kernel) ⟨Nat.le_of_ble_eq_true rfl, Nat.le_of_ble_eq_true rfl⟩) hP hS rfl hl.1 rfl (Nat.le_of_ble_eq_true rfl) dX1_clear_65 (fun H locs hP hS => ?_)
      cases hd
      exact sn_rv C hP hS dX1_clear_68
    · replace hd := (if_neg hc).symm.trans hd
      refine lv_aload_n hx hb dX1_clear_8 rfl (lv_at hl 0 rfl) ?_
      refine sn_get (ci := 1) (Cn := RX1) (T := TX1) (n := 4) (v := .ref (g.2.2.2 (b + 1))) C hinX1 hP b (sn_l0 hT.1 (by decide)) hT.2.1 rfl 0 (by decide) (by decide +kernel) rfl rfl dX1_clear_9 ?_
      refine lv_iload_n hx hb dX1_clear_12 rfl (lv_at hl 1 rfl) ?_
      refine sn_aald C hP (b + 1) (sn_l hT.1 (by decide)) hT.2.2.1 hd dX1_clear_13 (fun k3 hk3 hd => ?_)
      refine lv_iconst (v := (0 : Int32)) hx hb dX1_clear_14 (by decide) ?_
      obtain ⟨r4, hr4, hd⟩ := Option.bind_eq_some_iff.mp hd
      refine sn_Sv (rest := []) (As := [.ref (g.2.2.2 (b + 1 + 1 + k3)), .int (0 : Int32)]) (st := st) C (c_J7_fill_53178 hi (hT.2.2.2.1 k3 hk3).2 (hT.2.2.2.1 k3 hk3).1 hr4) (va_cwS 2 hts gX1_clear_J7_fill_53178 rfl rfl rfl (by decide +kernel) ⟨Nat.le_of_ble_eq_true rfl, Nat.le_of_ble_eq_true rfl⟩) hP hS rfl hl.1 rfl (Nat.le_of_ble_eq_true rfl) dX1_clear_15 (fun H locs hP hS => ?_)
      refine lv_aload_n hx hb dX1_clear_18 rfl (lv_at hl 0 rfl) ?_
      refine sn_get (ci := 1) (Cn := RX1) (T := TX1) (n := 4) (v := .ref (g.2.2.2 (b + 14))) C hinX1 hP b (sn_l0 hT.1 (by decide)) hT.2.1 rfl 1 (by decide) (by decide +kernel) rfl rfl dX1_clear_19 ?_
      refine lv_iload_n hx hb dX1_clear_22 rfl (lv_at hl 1 rfl) ?_
      refine sn_aald C hP (b + 14) (sn_l hT.1 (by decide)) hT.2.2.2.2.1 hd dX1_clear_23 (fun k5 hk5 hd => ?_)
      refine lv_iconst (v := (0 : Int32)) hx hb dX1_clear_24 (by decide) ?_
      obtain ⟨r6, hr6, hd⟩ := Option.bind_eq_some_iff.mp hd
      refine sn_Sv (rest := []) (As := [.ref (g.2.2.2 (b + 14 + 1 + k5)), .int (0 : Int32)]) (st := r4) C (c_J7_fill_53178 hi (hT.2.2.2.2.2.1 k5 hk5).2 (hT.2.2.2.2.2.1 k5 hk5).1 hr6) (va_cwS 2 hts gX1_clear_J7_fill_53178 rfl rfl rfl (by decide +kernel) ⟨Nat.le_of_ble_eq_true rfl, Nat.le_of_ble_eq_true rfl⟩) hP hS rfl hl.1 rfl (Nat.le_of_ble_eq_true rfl) dX1_clear_25 (fun H locs hP hS => ?_)
      refine lv_aload_n hx hb dX1_clear_28 rfl (lv_at hl 0 rfl) ?_
      refine sn_get (ci := 1) (Cn := RX1) (T := TX1) (n := 4) (v := .ref (g.2.2.2 (b + 1))) C hinX1 hP b (sn_l0 hT.1 (by decide)) hT.2.1 rfl 0 (by decide) (by decide +kernel) rfl rfl dX1_clear_29 ?_
      refine lv_iload_n hx hb dX1_clear_32 rfl (lv_at hl 1 rfl) ?_
      refine sn_aald C hP (b + 1) (sn_l hT.1 (by decide)) hT.2.2.1 hd dX1_clear_33 (fun k7 hk7 hd => ?_)
      refine lv_iconst (v := (1 : Int32)) hx hb dX1_clear_34 (by decide) ?_
      refine lv_iconst (v := (-1 : Int32)) hx hb dX1_clear_35 (by decide) ?_
      refine sn_astc (k := 1) C hP hS (b + 1 + 1 + k7) (hT.2.2.2.1 k7 hk7).2 (hT.2.2.2.1 k7 hk7).1 (by decide +kernel) dX1_clear_36 (fun H locs hP hS => ?_)
      refine lv_aload_n hx hb dX1_clear_37 rfl (lv_at hl 0 rfl) ?_
      refine sn_get (ci := 1) (Cn := RX1) (T := TX1) (n := 4) (v := .ref (g.2.2.2 (b + 14))) C hinX1 hP b (sn_l0 hT.1 (by decide)) hT.2.1 rfl 1 (by decide) (by decide +kernel) rfl rfl dX1_clear_38 ?_
      refine lv_iload_n hx hb dX1_clear_41 rfl (lv_at hl 1 rfl) ?_
      refine sn_aald C hP (b + 14) (sn_l hT.1 (by decide)) hT.2.2.2.2.1 hd dX1_clear_42 (fun k8 hk8 hd => ?_)
      refine lv_iconst (v := (1 : Int32)) hx hb dX1_clear_43 (by decide) ?_
      refine lv_iconst (v := (-1 : Int32)) hx hb dX1_clear_44 (by decide) ?_
      refine sn_astc (k := 1) C hP hS (b + 14 + 1 + k8) (hT.2.2.2.2.2.1 k8 hk8).2 (hT.2.2.2.2.2.1 k8 hk8).1 (by decide +kernel) dX1_clear_45 (fun H locs hP hS => ?_)
      refine lv_iinc (v := (x1 + (1 : Int32))) (lv' := [(1, .int (x1 + (1 : Int32))), (0, .ref (g.2.2.2 b))]) hx hb dX1_clear_46 hl (k := 1) rfl rfl (by decide) rfl (fun ls hl => ?_)
      refine lv_goto (tgt := 2) hx hb dX1_clear_49 (by decide) ?_
      exact ih (x1 + (1 : Int32)) (sn_wr (sn_wr r6 (b + 1 + 1 + k7) 1 (-1 : Int32)) (b + 14 + 1 + k8) 1 (-1 : Int32)) _ _ _ hd hP hS (lv_sub hl [1, 0] rfl)

set_option maxHeartbeats 4000000 in
set_option maxRecDepth 100000 in
theorem c_X1_clear {l : Launch} {g : sn_G} {tb : Nat → sn_K} {N : Nat} (hi : sn_I g N) {b : Nat} (hT : sn_Ro tb N b) {st : sn_S} {o : sn_S} (hd : D_X1_clear b st = some o) : sn_Mv l yX1_clear wsX1_clear { frames := 1, cells := 0, slots := 0, locals := 23 } g tb N [.ref (g.2.2.2 b)] st o := by
  refine sn_Mv.of (cc := cX1_clear) (nL := 2) (ret := none) hi (by decide) rfl (Nat.le_of_ble_eq_true rfl) ?_
  intro p e s m args below meth c ls C hP hS hl
  have hl : lv_has ls 2 [(0, .ref (g.2.2.2 b))] := hl
  obtain ⟨⟨hx, hb, hml, hown, hts⟩, hr, hlk, hC, hi⟩ := id C
  unfold D_X1_clear at hd
  have hinX1 : ∀ w ∈ wsX10, w ∈ wsX1_clear := by decide +kernel
  refine lv_iconst (v := (0 : Int32)) hx hb dX1_clear_0 (by decide) ?_
  refine lv_istore_n (lv' := [(1, .int (0 : Int32)), (0, .ref (g.2.2.2 b))]) hx hb dX1_clear_1 rfl hl (by decide) rfl (fun ls hl => ?_)
  exact t_X1_clear_L2 C hT 4096 (0 : Int32) st _ _ _ hd hP hS (lv_sub hl [1, 0] rfl)

set_option maxHeartbeats 4000000 in
set_option maxRecDepth 100000 in
theorem c_X4_clear {l : Launch} {g : sn_G} {tb : Nat → sn_K} {N : Nat} (hi : sn_I g N) {b : Nat} (hT : sn_Ta tb N b) {st : sn_S} {o : sn_S} (hd : D_X4_clear b st = some o) : sn_Mv l yX4_clear wsX4_clear { frames := 1, cells := 0, slots := 0, locals := 23 } g tb N [.ref (g.2.2.2 b)] st o := by
  refine sn_Mv.of (cc := cX4_clear) (nL := 1) (ret := none) hi (by decide) rfl (Nat.le_of_ble_eq_true rfl) ?_
  intro p e s m args below meth c ls C hP hS hl
  have hl : lv_has ls 1 [(0, .ref (g.2.2.2 b))] := hl
  obtain ⟨⟨hx, hb, hml, hown, hts⟩, hr, hlk, hC, hi⟩ := id C
  unfold D_X4_clear at hd
  have hinX4 : ∀ w ∈ wsX40, w ∈ wsX4_clear := by decide +kernel
  refine lv_aload_n hx hb dX4_clear_0 rfl (lv_at hl 0 rfl) ?_
  refine lv_iconst (v := (0 : Int32)) hx hb dX4_clear_1 (by decide) ?_
  refine sn_pf (ci := 3) (Cn := RX4) (T := TX4) (n := 6) (ty0 := tyX4) C hinX4 tyX4_ok nmX4 hP hS b (sn_l0 hT.1 (by decide)) hT.2.1 rfl 0 (by decide) (by decide +kernel) rfl rfl rfl rfl rfl dX4_clear_2 (fun H locs hP hS => ?_)
  refine lv_aload_n hx hb dX4_clear_5 rfl (lv_at hl 0 rfl) ?_
  refine lv_iconst (v := (0 : Int32)) hx hb dX4_clear_6 (by decide) ?_
  refine sn_pf (ci := 3) (Cn := RX4) (T := TX4) (n := 6) (ty0 := tyX4) C hinX4 tyX4_ok nmX4 hP hS b (sn_l0 hT.1 (by decide)) hT.2.1 rfl 1 (by decide) (by decide +kernel) rfl rfl rfl rfl rfl dX4_clear_7 (fun H locs hP hS => ?_)
  refine lv_aload_n hx hb dX4_clear_10 rfl (lv_at hl 0 rfl) ?_
  refine lv_iconst (v := (0 : Int32)) hx hb dX4_clear_11 (by decide) ?_
  refine sn_pf (ci := 3) (Cn := RX4) (T := TX4) (n := 6) (ty0 := tyX4) C hinX4 tyX4_ok nmX4 hP hS b (sn_l0 hT.1 (by decide)) hT.2.1 rfl 2 (by decide) (by decide +kernel) rfl rfl rfl rfl rfl dX4_clear_12 (fun H locs hP hS => ?_)
  refine lv_aload_n hx hb dX4_clear_15 rfl (lv_at hl 0 rfl) ?_
  refine lv_iconst (v := (0 : Int32)) hx hb dX4_clear_16 (by decide) ?_
  refine sn_pf (ci := 3) (Cn := RX4) (T := TX4) (n := 6) (ty0 := tyX4) C hinX4 tyX4_ok nmX4 hP hS b (sn_l0 hT.1 (by decide)) hT.2.1 rfl 3 (by decide) (by decide +kernel) rfl rfl rfl rfl rfl dX4_clear_17 (fun H locs hP hS => ?_)
  refine lv_aload_n hx hb dX4_clear_20 rfl (lv_at hl 0 rfl) ?_
  refine sn_get (ci := 3) (Cn := RX4) (T := TX4) (n := 6) (v := .ref (g.2.2.2 (b + 1))) C hinX4 hP b (sn_l0 hT.1 (by decide)) hT.2.1 rfl 4 (by decide) (by decide +kernel) rfl rfl dX4_clear_21 ?_
  refine lv_iconst (v := (0 : Int32)) hx hb dX4_clear_24 (by decide) ?_
  obtain ⟨r1, hr1, hd⟩ := Option.bind_eq_some_iff.mp hd
  refine sn_Sv (rest := []) (As := [.ref (g.2.2.2 (b + 1)), .int (0 : Int32)]) (st := (sn_wr (sn_wr (sn_wr (sn_wr st b 0 (0 : Int32)) b 1 (0 : Int32)) b 2 (0 : Int32)) b 3 (0 : Int32))) C (c_J7_fill_53178 hi (sn_l hT.1 (by decide)) hT.2.2.1 hr1) (va_cwS 2 hts gX4_clear_J7_fill_53178 rfl rfl rfl (by decide +kernel) ⟨Nat.le_of_ble_eq_true rfl, Nat.le_of_ble_eq_true rfl⟩) hP hS rfl hl.1 rfl (Nat.le_of_ble_eq_true rfl) dX4_clear_25 (fun H locs hP hS => ?_)
  refine lv_aload_n hx hb dX4_clear_28 rfl (lv_at hl 0 rfl) ?_
  refine sn_get (ci := 3) (Cn := RX4) (T := TX4) (n := 6) (v := .ref (g.2.2.2 (b + 2))) C hinX4 hP b (sn_l0 hT.1 (by decide)) hT.2.1 rfl 5 (by decide) (by decide +kernel) rfl rfl dX4_clear_29 ?_
  refine lv_iconst (v := (0 : Int32)) hx hb dX4_clear_32 (by decide) ?_
  obtain ⟨r2, hr2, hd⟩ := Option.bind_eq_some_iff.mp hd
  refine sn_Sv (rest := []) (As := [.ref (g.2.2.2 (b + 2)), .int (0 : Int32)]) (st := r1) C (c_J7_fill_53178 hi (sn_l hT.1 (by decide)) hT.2.2.2 hr2) (va_cwS 2 hts gX4_clear_J7_fill_53178 rfl rfl rfl (by decide +kernel) ⟨Nat.le_of_ble_eq_true rfl, Nat.le_of_ble_eq_true rfl⟩) hP hS rfl hl.1 rfl (Nat.le_of_ble_eq_true rfl) dX4_clear_33 (fun H locs hP hS => ?_)
  cases hd
  exact sn_rv C hP hS dX4_clear_36

set_option maxHeartbeats 4000000 in
set_option maxRecDepth 100000 in
theorem t_X1_isSane_L2 {p : Program} {l : Launch} {e : Env} {s : State} {m : MethodId} {args : Array Value} {below : List Frame} {meth : Method} {c : Code} {g : sn_G} {tb : Nat → sn_K} {N : Nat} {b : Nat} {x1 : Int32} {st : sn_S} {o : Int32} (C : sn_Cx p s m args meth c g N cX1_isSane 3 wsX1_isSane yX1_isSane.cls (some .boolean)) (hT : sn_Ro tb N b)  : ∀ (n : Nat) (x2 : Int32) (H : Heap) (locs : List Loc) (ls : Array Slot), D_X1_isSane_L2 b x1 st n x2 = some o → va_P g.1 vwCl (sn_W g tb N st) H → va_S (sn_A g N) s.heap H locs → lv_has ls 3 [(0, .ref (g.2.2.2 b)), (1, .int x1), (2, .int x2)] → W p l e { frames := 0, cells := 0, slots := 0, locals := 0 } s m args below meth c H locs 0 0 (MQ below (sn_Qi g tb N o st) args s 0 0 (sn_A g N)) (F0 m 2 ls []) := by
  obtain ⟨⟨hx, hb, hml, hown, hts⟩, hr, hlk, hC, hi⟩ := id C
  have hinX1 : ∀ w ∈ wsX10, w ∈ wsX1_isSane := by decide +kernel
  intro n
  induction n with
  | zero => intro _ _ _ _ hd; exact nomatch (show (none : Option (Int32)) = some o from hd)
  | succ n ih =>
    intro x2 H locs ls hd hP hS hl
    replace hd := (D_X1_isSane_L2.eq_2 _ _ _ _ _).symm.trans hd
    refine lv_iload_n hx hb dX1_isSane_2 rfl (lv_at hl 2 rfl) ?_
    refine lv_bipush (v := (17 : Int32)) hx hb dX1_isSane_3 (by decide) ?_
    refine lv_icmp_ge (tgt := 35) hx hb dX1_isSane_5 (by decide) (fun hc => ?_) (fun hc => ?_)
    · replace hd := (if_pos hc).symm.trans hd
      refine lv_iconst (v := (1 : Int32)) hx hb dX1_isSane_35 (by decide) ?_
      cases hd
      exact sn_rz (Or.inr rfl) C hP hS dX1_isSane_36
    · replace hd := (if_neg hc).symm.trans hd
      refine lv_aload_n hx hb dX1_isSane_8 rfl (lv_at hl 0 rfl) ?_
      refine sn_get (ci := 1) (Cn := RX1) (T := TX1) (n := 4) (v := .ref (g.2.2.2 (b + 1))) C hinX1 hP b (sn_l0 hT.1 (by decide)) hT.2.1 rfl 0 (by decide) (by decide +kernel) rfl rfl dX1_isSane_9 ?_
      refine lv_iload_n hx hb dX1_isSane_12 rfl (lv_at hl 1 rfl) ?_
      refine sn_aald C hP (b + 1) (sn_l hT.1 (by decide)) hT.2.2.1 hd dX1_isSane_13 (fun k1 hk1 hd => ?_)
      refine lv_iload_n hx hb dX1_isSane_14 rfl (lv_at hl 2 rfl) ?_
      refine sn_ald C hP (b + 1 + 1 + k1) (hT.2.2.2.1 k1 hk1).2 (hT.2.2.2.1 k1 hk1).1 hd dX1_isSane_15 (fun k2 hk2 hd => ?_)
      refine lv_aload_n hx hb dX1_isSane_16 rfl (lv_at hl 0 rfl) ?_
      refine sn_get (ci := 1) (Cn := RX1) (T := TX1) (n := 4) (v := .ref (g.2.2.2 (b + 14))) C hinX1 hP b (sn_l0 hT.1 (by decide)) hT.2.1 rfl 1 (by decide) (by decide +kernel) rfl rfl dX1_isSane_17 ?_
      refine lv_iload_n hx hb dX1_isSane_20 rfl (lv_at hl 1 rfl) ?_
      refine sn_aald C hP (b + 14) (sn_l hT.1 (by decide)) hT.2.2.2.2.1 hd dX1_isSane_21 (fun k3 hk3 hd => ?_)
      refine lv_iload_n hx hb dX1_isSane_22 rfl (lv_at hl 2 rfl) ?_
      refine sn_ald C hP (b + 14 + 1 + k3) (hT.2.2.2.2.2.1 k3 hk3).2 (hT.2.2.2.2.2.1 k3 hk3).1 hd dX1_isSane_23 (fun k4 hk4 hd => ?_)
      refine lv_icmp_eq (tgt := 29) hx hb dX1_isSane_24 (by decide) (fun hc => ?_) (fun hc => ?_)
      · replace hd := (if_pos hc).symm.trans hd
        refine lv_iinc (v := (x2 + (1 : Int32))) (lv' := [(2, .int (x2 + (1 : Int32))), (0, .ref (g.2.2.2 b)), (1, .int x1)]) hx hb dX1_isSane_29 hl (k := 2) rfl rfl (by decide) rfl (fun ls hl => ?_)
        refine lv_goto (tgt := 2) hx hb dX1_isSane_32 (by decide) ?_
        exact ih (x2 + (1 : Int32)) _ _ _ hd hP hS (lv_sub hl [1, 2, 0] rfl)
      · replace hd := (if_neg hc).symm.trans hd
        refine lv_iconst (v := (0 : Int32)) hx hb dX1_isSane_27 (by decide) ?_
        cases hd
        exact sn_rz (Or.inl rfl) C hP hS dX1_isSane_28

set_option maxHeartbeats 4000000 in
set_option maxRecDepth 100000 in
theorem c_X1_isSane {l : Launch} {g : sn_G} {tb : Nat → sn_K} {N : Nat} (hi : sn_I g N) {b : Nat} {x1 : Int32} (hT : sn_Ro tb N b) {st : sn_S} {o : Int32} (hd : D_X1_isSane b x1 st = some o) : sn_Mi l yX1_isSane wsX1_isSane { frames := 0, cells := 0, slots := 0, locals := 0 } g tb N [.ref (g.2.2.2 b), .int x1] st o st := by
  refine sn_Mi.of (cc := cX1_isSane) (nL := 3) (ret := (some .boolean)) hi (by decide) rfl (Nat.le_of_ble_eq_true rfl) ?_
  intro p e s m args below meth c ls C hP hS hl
  have hl : lv_has ls 3 [(0, .ref (g.2.2.2 b)), (1, .int x1)] := hl
  obtain ⟨⟨hx, hb, hml, hown, hts⟩, hr, hlk, hC, hi⟩ := id C
  unfold D_X1_isSane at hd
  have hinX1 : ∀ w ∈ wsX10, w ∈ wsX1_isSane := by decide +kernel
  refine lv_iconst (v := (0 : Int32)) hx hb dX1_isSane_0 (by decide) ?_
  refine lv_istore_n (lv' := [(2, .int (0 : Int32)), (0, .ref (g.2.2.2 b)), (1, .int x1)]) hx hb dX1_isSane_1 rfl hl (by decide) rfl (fun ls hl => ?_)
  exact t_X1_isSane_L2 (st := st) C hT 4096 (0 : Int32) _ _ _ hd hP hS (lv_sub hl [1, 2, 0] rfl)

set_option maxHeartbeats 4000000 in
set_option maxRecDepth 100000 in
theorem t_X1_tieAgain_L18 {p : Program} {l : Launch} {e : Env} {s : State} {m : MethodId} {args : Array Value} {below : List Frame} {meth : Method} {c : Code} {g : sn_G} {tb : Nat → sn_K} {N : Nat} {b : Nat} {x1 : Int32} {o : sn_S} (C : sn_Cx p s m args meth c g N cX1_tieAgain 4 wsX1_tieAgain yX1_tieAgain.cls none) (hT : sn_Ro tb N b)  : ∀ (n : Nat) (x2 : Int32) (st : sn_S) (H : Heap) (locs : List Loc) (ls : Array Slot), D_X1_tieAgain_L18 b x1 n x2 st = some o → va_P g.1 vwCl (sn_W g tb N st) H → va_S (sn_A g N) s.heap H locs → lv_has ls 4 [(0, .ref (g.2.2.2 b)), (1, .int x1), (2, .int x2)] → W p l e { frames := 1, cells := 0, slots := 0, locals := 23 } s m args below meth c H locs 0 0 (MQ below (sn_Qv g tb N o) args s 0 0 (sn_A g N)) (F0 m 18 ls []) := by
  obtain ⟨⟨hx, hb, hml, hown, hts⟩, hr, hlk, hC, hi⟩ := id C
  have hinX1 : ∀ w ∈ wsX10, w ∈ wsX1_tieAgain := by decide +kernel
  intro n
  induction n with
  | zero => intro _ _ _ _ _ hd; exact nomatch (show (none : Option (sn_S)) = some o from hd)
  | succ n ih =>
    intro x2 st H locs ls hd hP hS hl
    replace hd := (D_X1_tieAgain_L18.eq_2 _ _ _ _ _).symm.trans hd
    refine lv_iload_n hx hb dX1_tieAgain_18 rfl (lv_at hl 2 rfl) ?_
    refine lv_iload_n hx hb dX1_tieAgain_19 rfl (lv_at hl 1 rfl) ?_
    refine lv_icmp_ge (tgt := 83) hx hb dX1_tieAgain_20 (by decide) (fun hc => ?_) (fun hc => ?_)
    · replace hd := (if_pos hc).symm.trans hd
      cases hd
      exact sn_rv C hP hS dX1_tieAgain_83
    · replace hd := (if_neg hc).symm.trans hd
      refine lv_aload_n hx hb dX1_tieAgain_23 rfl (lv_at hl 0 rfl) ?_
      refine sn_get (ci := 1) (Cn := RX1) (T := TX1) (n := 4) (v := .ref (g.2.2.2 (b + 14))) C hinX1 hP b (sn_l0 hT.1 (by decide)) hT.2.1 rfl 1 (by decide) (by decide +kernel) rfl rfl dX1_tieAgain_24 ?_
      refine lv_iload_n hx hb dX1_tieAgain_27 rfl (lv_at hl 2 rfl) ?_
      refine sn_aald C hP (b + 14) (sn_l hT.1 (by decide)) hT.2.2.2.2.1 hd dX1_tieAgain_28 (fun k3 hk3 hd => ?_)
      refine lv_iconst (v := (1 : Int32)) hx hb dX1_tieAgain_29 (by decide) ?_
      refine sn_aldc (k := 1) C hP (b + 14 + 1 + k3) (hT.2.2.2.2.2.1 k3 hk3).2 (hT.2.2.2.2.2.1 k3 hk3).1 (by decide +kernel) dX1_tieAgain_30 ?_
      refine lv_istore_n (lv' := [(3, .int (st.1 (b + 14 + 1 + k3) 1)), (0, .ref (g.2.2.2 b)), (1, .int x1), (2, .int x2)]) hx hb dX1_tieAgain_31 rfl hl (by decide) rfl (fun ls hl => ?_)
      refine lv_iload_n hx hb dX1_tieAgain_32 rfl (lv_at hl 0 rfl) ?_
      refine lv_if_lt (tgt := 77) hx hb dX1_tieAgain_33 (by decide) (fun hc => ?_) (fun hc => ?_)
      · replace hd := (if_pos hc).symm.trans hd
        refine lv_iinc (v := (x2 + (1 : Int32))) (lv' := [(2, .int (x2 + (1 : Int32))), (3, .int (st.1 (b + 14 + 1 + k3) 1)), (0, .ref (g.2.2.2 b)), (1, .int x1)]) hx hb dX1_tieAgain_77 hl (k := 3) rfl rfl (by decide) rfl (fun ls hl => ?_)
        refine lv_goto (tgt := 18) hx hb dX1_tieAgain_80 (by decide) ?_
        exact ih (x2 + (1 : Int32)) st _ _ _ hd hP hS (lv_sub hl [2, 3, 0] rfl)
      · replace hd := (if_neg hc).symm.trans hd
        refine lv_iload_n hx hb dX1_tieAgain_36 rfl (lv_at hl 0 rfl) ?_
        refine lv_iload_n hx hb dX1_tieAgain_37 rfl (lv_at hl 2 rfl) ?_
        refine lv_icmp_ge (tgt := 77) hx hb dX1_tieAgain_38 (by decide) (fun hc => ?_) (fun hc => ?_)
        · replace hd := (if_pos hc).symm.trans hd
          refine lv_iinc (v := (x2 + (1 : Int32))) (lv' := [(2, .int (x2 + (1 : Int32))), (3, .int (st.1 (b + 14 + 1 + k3) 1)), (0, .ref (g.2.2.2 b)), (1, .int x1)]) hx hb dX1_tieAgain_77 hl (k := 3) rfl rfl (by decide) rfl (fun ls hl => ?_)
          refine lv_goto (tgt := 18) hx hb dX1_tieAgain_80 (by decide) ?_
          exact ih (x2 + (1 : Int32)) st _ _ _ hd hP hS (lv_sub hl [2, 3, 0] rfl)
        · replace hd := (if_neg hc).symm.trans hd
          refine lv_aload_n hx hb dX1_tieAgain_41 rfl (lv_at hl 1 rfl) ?_
          refine sn_get (ci := 1) (Cn := RX1) (T := TX1) (n := 4) (v := .ref (g.2.2.2 (b + 27))) C hinX1 hP b (sn_l0 hT.1 (by decide)) hT.2.1 rfl 2 (by decide) (by decide +kernel) rfl rfl dX1_tieAgain_42 ?_
          refine lv_iload_n hx hb dX1_tieAgain_45 rfl (lv_at hl 0 rfl) ?_
          refine lv_dup2_11 hx hb dX1_tieAgain_46 rfl rfl ?_
          refine sn_ald C hP (b + 27) (sn_l hT.1 (by decide)) hT.2.2.2.2.2.2.1 hd dX1_tieAgain_47 (fun k4 hk4 hd => ?_)
          refine lv_iconst (v := (1 : Int32)) hx hb dX1_tieAgain_48 (by decide) ?_
          refine lv_iload_n hx hb dX1_tieAgain_49 rfl (lv_at hl 3 rfl) ?_
          refine lv_ishl hx hb dX1_tieAgain_50 ?_
          refine lv_ior hx hb dX1_tieAgain_51 ?_
          refine sn_ast C hP hS (b + 27) (sn_l hT.1 (by decide)) hT.2.2.2.2.2.2.1 hd dX1_tieAgain_52 (fun k5 H locs hk5 hd hP hS => ?_)
          refine lv_aload_n hx hb dX1_tieAgain_53 rfl (lv_at hl 1 rfl) ?_
          refine sn_get (ci := 1) (Cn := RX1) (T := TX1) (n := 4) (v := .ref (g.2.2.2 (b + 28))) C hinX1 hP b (sn_l0 hT.1 (by decide)) hT.2.1 rfl 3 (by decide) (by decide +kernel) rfl rfl dX1_tieAgain_54 ?_
          refine lv_iload_n hx hb dX1_tieAgain_57 rfl (lv_at hl 0 rfl) ?_
          refine lv_dup2_11 hx hb dX1_tieAgain_58 rfl rfl ?_
          refine sn_ald C hP (b + 28) (sn_l hT.1 (by decide)) hT.2.2.2.2.2.2.2 hd dX1_tieAgain_59 (fun k6 hk6 hd => ?_)
          refine lv_iconst (v := (1 : Int32)) hx hb dX1_tieAgain_60 (by decide) ?_
          refine lv_iload_n hx hb dX1_tieAgain_61 rfl (lv_at hl 3 rfl) ?_
          refine lv_ishl hx hb dX1_tieAgain_62 ?_
          refine lv_ior hx hb dX1_tieAgain_63 ?_
          refine sn_ast C hP hS (b + 28) (sn_l hT.1 (by decide)) hT.2.2.2.2.2.2.2 hd dX1_tieAgain_64 (fun k7 H locs hk7 hd hP hS => ?_)
          refine lv_aload_n hx hb dX1_tieAgain_65 rfl (lv_at hl 1 rfl) ?_
          refine sn_get (ci := 1) (Cn := RX1) (T := TX1) (n := 4) (v := .ref (g.2.2.2 (b + 28))) C hinX1 hP b (sn_l0 hT.1 (by decide)) hT.2.1 rfl 3 (by decide) (by decide +kernel) rfl rfl dX1_tieAgain_66 ?_
          refine lv_iload_n hx hb dX1_tieAgain_69 rfl (lv_at hl 3 rfl) ?_
          refine lv_dup2_11 hx hb dX1_tieAgain_70 rfl rfl ?_
          refine sn_ald C hP (b + 28) (sn_l hT.1 (by decide)) hT.2.2.2.2.2.2.2 hd dX1_tieAgain_71 (fun k8 hk8 hd => ?_)
          refine lv_iconst (v := (1 : Int32)) hx hb dX1_tieAgain_72 (by decide) ?_
          refine lv_iload_n hx hb dX1_tieAgain_73 rfl (lv_at hl 0 rfl) ?_
          refine lv_ishl hx hb dX1_tieAgain_74 ?_
          refine lv_ior hx hb dX1_tieAgain_75 ?_
          refine sn_ast C hP hS (b + 28) (sn_l hT.1 (by decide)) hT.2.2.2.2.2.2.2 hd dX1_tieAgain_76 (fun k9 H locs hk9 hd hP hS => ?_)
          refine lv_iinc (v := (x2 + (1 : Int32))) (lv' := [(2, .int (x2 + (1 : Int32))), (3, .int (st.1 (b + 14 + 1 + k3) 1)), (0, .ref (g.2.2.2 b)), (1, .int x1)]) hx hb dX1_tieAgain_77 hl (k := 3) rfl rfl (by decide) rfl (fun ls hl => ?_)
          refine lv_goto (tgt := 18) hx hb dX1_tieAgain_80 (by decide) ?_
          exact ih (x2 + (1 : Int32)) (sn_wr (sn_wr (sn_wr st (b + 27) k5 ((st.1 (b + 27) k4) ||| ((1 : Int32) <<< (x2 &&& 31)))) (b + 28) k7 (((sn_wr st (b + 27) k5 ((st.1 (b + 27) k4) ||| ((1 : Int32) <<< (x2 &&& 31)))).1 (b + 28) k6) ||| ((1 : Int32) <<< (x2 &&& 31)))) (b + 28) k9 (((sn_wr (sn_wr st (b + 27) k5 ((st.1 (b + 27) k4) ||| ((1 : Int32) <<< (x2 &&& 31)))) (b + 28) k7 (((sn_wr st (b + 27) k5 ((st.1 (b + 27) k4) ||| ((1 : Int32) <<< (x2 &&& 31)))).1 (b + 28) k6) ||| ((1 : Int32) <<< (x2 &&& 31)))).1 (b + 28) k8) ||| ((1 : Int32) <<< ((st.1 (b + 14 + 1 + k3) 1) &&& 31)))) _ _ _ hd hP hS (lv_sub hl [2, 3, 0] rfl)

set_option maxHeartbeats 4000000 in
set_option maxRecDepth 100000 in
theorem c_X1_tieAgain {l : Launch} {g : sn_G} {tb : Nat → sn_K} {N : Nat} (hi : sn_I g N) {b : Nat} {x1 : Int32} (hT : sn_Ro tb N b) {st : sn_S} {o : sn_S} (hd : D_X1_tieAgain b x1 st = some o) : sn_Mv l yX1_tieAgain wsX1_tieAgain { frames := 1, cells := 0, slots := 0, locals := 23 } g tb N [.ref (g.2.2.2 b), .int x1] st o := by
  refine sn_Mv.of (cc := cX1_tieAgain) (nL := 4) (ret := none) hi (by decide) rfl (Nat.le_of_ble_eq_true rfl) ?_
  intro p e s m args below meth c ls C hP hS hl
  have hl : lv_has ls 4 [(0, .ref (g.2.2.2 b)), (1, .int x1)] := hl
  obtain ⟨⟨hx, hb, hml, hown, hts⟩, hr, hlk, hC, hi⟩ := id C
  unfold D_X1_tieAgain at hd
  have hinX1 : ∀ w ∈ wsX10, w ∈ wsX1_tieAgain := by decide +kernel
  refine lv_aload_n hx hb dX1_tieAgain_0 rfl (lv_at hl 0 rfl) ?_
  refine sn_get (ci := 1) (Cn := RX1) (T := TX1) (n := 4) (v := .ref (g.2.2.2 (b + 27))) C hinX1 hP b (sn_l0 hT.1 (by decide)) hT.2.1 rfl 2 (by decide) (by decide +kernel) rfl rfl dX1_tieAgain_1 ?_
  refine lv_iconst (v := (0 : Int32)) hx hb dX1_tieAgain_4 (by decide) ?_
  obtain ⟨r1, hr1, hd⟩ := Option.bind_eq_some_iff.mp hd
  refine sn_Sv (rest := []) (As := [.ref (g.2.2.2 (b + 27)), .int (0 : Int32)]) (st := st) C (c_J7_fill_53178 hi (sn_l hT.1 (by decide)) hT.2.2.2.2.2.2.1 hr1) (va_cwS 2 hts gX1_tieAgain_J7_fill_53178 rfl rfl rfl (by decide +kernel) ⟨Nat.le_of_ble_eq_true rfl, Nat.le_of_ble_eq_true rfl⟩) hP hS rfl hl.1 rfl (Nat.le_of_ble_eq_true rfl) dX1_tieAgain_5 (fun H locs hP hS => ?_)
  refine lv_aload_n hx hb dX1_tieAgain_8 rfl (lv_at hl 0 rfl) ?_
  refine sn_get (ci := 1) (Cn := RX1) (T := TX1) (n := 4) (v := .ref (g.2.2.2 (b + 28))) C hinX1 hP b (sn_l0 hT.1 (by decide)) hT.2.1 rfl 3 (by decide) (by decide +kernel) rfl rfl dX1_tieAgain_9 ?_
  refine lv_iconst (v := (0 : Int32)) hx hb dX1_tieAgain_12 (by decide) ?_
  obtain ⟨r2, hr2, hd⟩ := Option.bind_eq_some_iff.mp hd
  refine sn_Sv (rest := []) (As := [.ref (g.2.2.2 (b + 28)), .int (0 : Int32)]) (st := r1) C (c_J7_fill_53178 hi (sn_l hT.1 (by decide)) hT.2.2.2.2.2.2.2 hr2) (va_cwS 2 hts gX1_tieAgain_J7_fill_53178 rfl rfl rfl (by decide +kernel) ⟨Nat.le_of_ble_eq_true rfl, Nat.le_of_ble_eq_true rfl⟩) hP hS rfl hl.1 rfl (Nat.le_of_ble_eq_true rfl) dX1_tieAgain_13 (fun H locs hP hS => ?_)
  refine lv_iconst (v := (0 : Int32)) hx hb dX1_tieAgain_16 (by decide) ?_
  refine lv_istore_n (lv' := [(2, .int (0 : Int32)), (0, .ref (g.2.2.2 b)), (1, .int x1)]) hx hb dX1_tieAgain_17 rfl hl (by decide) rfl (fun ls hl => ?_)
  exact t_X1_tieAgain_L18 C hT 4096 (0 : Int32) r2 _ _ _ hd hP hS (lv_sub hl [1, 2, 0] rfl)

set_option maxHeartbeats 4000000 in
set_option maxRecDepth 100000 in
theorem t_X1_readAgain_L21 {p : Program} {l : Launch} {e : Env} {s : State} {m : MethodId} {args : Array Value} {below : List Frame} {meth : Method} {c : Code} {g : sn_G} {tb : Nat → sn_K} {N : Nat} {b : Nat} {o1 : Nat} {x2 : Int32} {x3 : Int32} {K : Int32 → sn_S → Option (sn_S)} {o : sn_S} (C : sn_Cx p s m args meth c g N cX1_readAgain 5 wsX1_readAgain yX1_readAgain.cls none) (hT : sn_Ro tb N b) (hO1 : sn_Sh tb N o1)  (hK : ∀ (x3 : Int32) (st : sn_S) (H : Heap) (locs : List Loc) (ls : Array Slot), K x3 st = some o → va_P g.1 vwCl (sn_W g tb N st) H → va_S (sn_A g N) s.heap H locs → lv_has ls 5 [(0, .ref (g.2.2.2 b)), (1, .ref (g.2.2.2 o1)), (2, .int x2), (3, .int x3)] → W p l e { frames := 2, cells := 0, slots := 0, locals := 46 } s m args below meth c H locs 0 0 (MQ below (sn_Qv g tb N o) args s 0 0 (sn_A g N)) (F0 m 2 ls [])) : ∀ (n : Nat) (x4 : Int32) (st : sn_S) (H : Heap) (locs : List Loc) (ls : Array Slot), D_X1_readAgain_L21 b o1 x2 x3 K n x4 st = some o → va_P g.1 vwCl (sn_W g tb N st) H → va_S (sn_A g N) s.heap H locs → lv_has ls 5 [(0, .ref (g.2.2.2 b)), (1, .ref (g.2.2.2 o1)), (2, .int x2), (3, .int x3), (4, .int x4)] → W p l e { frames := 2, cells := 0, slots := 0, locals := 46 } s m args below meth c H locs 0 0 (MQ below (sn_Qv g tb N o) args s 0 0 (sn_A g N)) (F0 m 21 ls []) := by
  obtain ⟨⟨hx, hb, hml, hown, hts⟩, hr, hlk, hC, hi⟩ := id C
  have hinX1 : ∀ w ∈ wsX10, w ∈ wsX1_readAgain := by decide +kernel
  have hinX3 : ∀ w ∈ wsX30, w ∈ wsX1_readAgain := by decide +kernel
  intro n
  induction n with
  | zero => intro _ _ _ _ _ hd; exact nomatch (show (none : Option (sn_S)) = some o from hd)
  | succ n ih =>
    intro x4 st H locs ls hd hP hS hl
    replace hd := (D_X1_readAgain_L21.eq_2 _ _ _ _ _ _ _ _).symm.trans hd
    refine lv_iload hx hb dX1_readAgain_21 (lv_at hl 4 rfl) ?_
    refine lv_bipush (v := (17 : Int32)) hx hb dX1_readAgain_23 (by decide) ?_
    refine lv_icmp_ge (tgt := 59) hx hb dX1_readAgain_25 (by decide) (fun hc => ?_) (fun hc => ?_)
    · replace hd := (if_pos hc).symm.trans hd
      refine lv_iinc (v := (x3 + (1 : Int32))) (lv' := [(3, .int (x3 + (1 : Int32))), (0, .ref (g.2.2.2 b)), (1, .ref (g.2.2.2 o1)), (2, .int x2), (4, .int x4)]) hx hb dX1_readAgain_59 hl (k := 3) rfl rfl (by decide) rfl (fun ls hl => ?_)
      refine lv_goto (tgt := 2) hx hb dX1_readAgain_62 (by decide) ?_
      exact hK (x3 + (1 : Int32)) st _ _ _ hd hP hS (lv_sub hl [1, 2, 3, 0] rfl)
    · replace hd := (if_neg hc).symm.trans hd
      refine lv_aload_n hx hb dX1_readAgain_28 rfl (lv_at hl 0 rfl) ?_
      refine sn_get (ci := 1) (Cn := RX1) (T := TX1) (n := 4) (v := .ref (g.2.2.2 (b + 14))) C hinX1 hP b (sn_l0 hT.1 (by decide)) hT.2.1 rfl 1 (by decide) (by decide +kernel) rfl rfl dX1_readAgain_29 ?_
      refine lv_iload_n hx hb dX1_readAgain_32 rfl (lv_at hl 3 rfl) ?_
      refine sn_aald C hP (b + 14) (sn_l hT.1 (by decide)) hT.2.2.2.2.1 hd dX1_readAgain_33 (fun k3 hk3 hd => ?_)
      refine lv_iload hx hb dX1_readAgain_34 (lv_at hl 4 rfl) ?_
      refine lv_aload_n hx hb dX1_readAgain_36 rfl (lv_at hl 1 rfl) ?_
      refine lv_iload_n hx hb dX1_readAgain_37 rfl (lv_at hl 3 rfl) ?_
      refine lv_iload hx hb dX1_readAgain_38 (lv_at hl 4 rfl) ?_
      refine lv_aload_n hx hb dX1_readAgain_40 rfl (lv_at hl 0 rfl) ?_
      refine sn_get (ci := 1) (Cn := RX1) (T := TX1) (n := 4) (v := .ref (g.2.2.2 (b + 1))) C hinX1 hP b (sn_l0 hT.1 (by decide)) hT.2.1 rfl 0 (by decide) (by decide +kernel) rfl rfl dX1_readAgain_41 ?_
      refine lv_iload_n hx hb dX1_readAgain_44 rfl (lv_at hl 3 rfl) ?_
      refine sn_aald C hP (b + 1) (sn_l hT.1 (by decide)) hT.2.2.1 hd dX1_readAgain_45 (fun k4 hk4 hd => ?_)
      refine lv_iload hx hb dX1_readAgain_46 (lv_at hl 4 rfl) ?_
      refine sn_ald C hP (b + 1 + 1 + k4) (hT.2.2.2.1 k4 hk4).2 (hT.2.2.2.1 k4 hk4).1 hd dX1_readAgain_48 (fun k5 hk5 hd => ?_)
      obtain ⟨r6, hr6, hd⟩ := Option.bind_eq_some_iff.mp hd
      refine sn_Vi (b := o1) (rest := [.int x4, .ref (g.2.2.2 (b + 14 + 1 + k3))]) (As := [.int x3, .int x4, .int (st.1 (b + 1 + 1 + k4) k5)]) (st := st) C (c_X3_countsAs hi hO1 hr6) (cwV 3 hts gX1_readAgain_X3_countsAs rfl rfl rfl (by decide +kernel) ⟨Nat.le_of_ble_eq_true rfl, Nat.le_of_ble_eq_true rfl⟩) hP hS (sn_l0 hO1.1 (by decide)) hO1.2.1 rfl rfl hl.1 rfl (Nat.le_of_ble_eq_true rfl) dX1_readAgain_49 (fun H locs hP hS => ?_)
      refine sn_ast C hP hS (b + 14 + 1 + k3) (hT.2.2.2.2.2.1 k3 hk3).2 (hT.2.2.2.2.2.1 k3 hk3).1 hd dX1_readAgain_52 (fun k7 H locs hk7 hd hP hS => ?_)
      refine lv_iinc (v := (x4 + (1 : Int32))) (lv' := [(4, .int (x4 + (1 : Int32))), (0, .ref (g.2.2.2 b)), (1, .ref (g.2.2.2 o1)), (2, .int x2), (3, .int x3)]) hx hb dX1_readAgain_53 hl (k := 4) rfl rfl (by decide) rfl (fun ls hl => ?_)
      refine lv_goto (tgt := 21) hx hb dX1_readAgain_56 (by decide) ?_
      exact ih (x4 + (1 : Int32)) (sn_wr st (b + 14 + 1 + k3) k7 r6) _ _ _ hd hP hS (lv_sub hl [1, 2, 3, 4, 0] rfl)

set_option maxHeartbeats 4000000 in
set_option maxRecDepth 100000 in
theorem t_X1_readAgain_L2 {p : Program} {l : Launch} {e : Env} {s : State} {m : MethodId} {args : Array Value} {below : List Frame} {meth : Method} {c : Code} {g : sn_G} {tb : Nat → sn_K} {N : Nat} {b : Nat} {o1 : Nat} {x2 : Int32} {o : sn_S} (C : sn_Cx p s m args meth c g N cX1_readAgain 5 wsX1_readAgain yX1_readAgain.cls none) (hT : sn_Ro tb N b) (hO1 : sn_Sh tb N o1)  : ∀ (n : Nat) (x3 : Int32) (st : sn_S) (H : Heap) (locs : List Loc) (ls : Array Slot), D_X1_readAgain_L2 b o1 x2 n x3 st = some o → va_P g.1 vwCl (sn_W g tb N st) H → va_S (sn_A g N) s.heap H locs → lv_has ls 5 [(0, .ref (g.2.2.2 b)), (1, .ref (g.2.2.2 o1)), (2, .int x2), (3, .int x3)] → W p l e { frames := 2, cells := 0, slots := 0, locals := 46 } s m args below meth c H locs 0 0 (MQ below (sn_Qv g tb N o) args s 0 0 (sn_A g N)) (F0 m 2 ls []) := by
  obtain ⟨⟨hx, hb, hml, hown, hts⟩, hr, hlk, hC, hi⟩ := id C
  have hinX1 : ∀ w ∈ wsX10, w ∈ wsX1_readAgain := by decide +kernel
  have hinX3 : ∀ w ∈ wsX30, w ∈ wsX1_readAgain := by decide +kernel
  intro n
  induction n with
  | zero => intro _ _ _ _ _ hd; exact nomatch (show (none : Option (sn_S)) = some o from hd)
  | succ n ih =>
    intro x3 st H locs ls hd hP hS hl
    replace hd := (D_X1_readAgain_L2.eq_2 _ _ _ _ _ _).symm.trans hd
    refine lv_iload_n hx hb dX1_readAgain_2 rfl (lv_at hl 3 rfl) ?_
    refine lv_aload_n hx hb dX1_readAgain_3 rfl (lv_at hl 1 rfl) ?_
    refine sn_get (ci := 2) (Cn := RX3) (T := TX3) (n := 3) (v := .int (st.1 o1 0)) C hinX3 hP o1 (sn_l0 hO1.1 (by decide)) hO1.2.1 rfl 0 (by decide) (by decide +kernel) rfl rfl dX1_readAgain_4 ?_
    refine lv_icmp_ge (tgt := 65) hx hb dX1_readAgain_7 (by decide) (fun hc => ?_) (fun hc => ?_)
    · replace hd := (if_pos hc).symm.trans hd
      refine lv_aload_n hx hb dX1_readAgain_65 rfl (lv_at hl 0 rfl) ?_
      refine lv_aload_n hx hb dX1_readAgain_66 rfl (lv_at hl 1 rfl) ?_
      refine sn_get (ci := 2) (Cn := RX3) (T := TX3) (n := 3) (v := .int (st.1 o1 0)) C hinX3 hP o1 (sn_l0 hO1.1 (by decide)) hO1.2.1 rfl 0 (by decide) (by decide +kernel) rfl rfl dX1_readAgain_67 ?_
      obtain ⟨r1, hr1, hd⟩ := Option.bind_eq_some_iff.mp hd
      refine sn_Vv (b := b) (rest := []) (As := [.int (st.1 o1 0)]) (st := st) C (c_X1_tieAgain hi hT hr1) (cwV 1 hts gX1_readAgain_X1_tieAgain rfl rfl rfl (by decide +kernel) ⟨Nat.le_of_ble_eq_true rfl, Nat.le_of_ble_eq_true rfl⟩) hP hS (sn_l0 hT.1 (by decide)) hT.2.1 rfl rfl hl.1 rfl (Nat.le_of_ble_eq_true rfl) dX1_readAgain_70 (fun H locs hP hS => ?_)
      cases hd
      exact sn_rv C hP hS dX1_readAgain_73
    · replace hd := (if_neg hc).symm.trans hd
      refine lv_iload_n hx hb dX1_readAgain_10 rfl (lv_at hl 2 rfl) ?_
      refine lv_iload_n hx hb dX1_readAgain_11 rfl (lv_at hl 3 rfl) ?_
      obtain ⟨r2, hr2, hd⟩ := Option.bind_eq_some_iff.mp hd
      refine sn_Ni (host := RX5) (rest := []) (As := [.int x2, .int x3]) (st := st) C (c_X5_has hi  hr2) ⟨va_cnB 2 hts gX1_readAgain_X5_has_n47 rfl rfl rfl (hC.2 _ (by decide +kernel)) (hts (.initialized RX5) (by decide +kernel)) (by decide +kernel) ⟨Nat.le_of_ble_eq_true rfl, Nat.le_of_ble_eq_true rfl⟩, hts (.static yX5_has) (by decide +kernel), trivial⟩ hP hS rfl hl.1 rfl (Nat.le_of_ble_eq_true rfl) dX1_readAgain_12 (fun H locs hP hS => ?_)
      refine lv_if_eq (tgt := 59) hx hb dX1_readAgain_15 (by decide) (fun hc => ?_) (fun hc => ?_)
      · replace hd := (if_pos hc).symm.trans hd
        refine lv_iinc (v := (x3 + (1 : Int32))) (lv' := [(3, .int (x3 + (1 : Int32))), (0, .ref (g.2.2.2 b)), (1, .ref (g.2.2.2 o1)), (2, .int x2)]) hx hb dX1_readAgain_59 hl (k := 3) rfl rfl (by decide) rfl (fun ls hl => ?_)
        refine lv_goto (tgt := 2) hx hb dX1_readAgain_62 (by decide) ?_
        exact ih (x3 + (1 : Int32)) st _ _ _ hd hP hS (lv_sub hl [1, 2, 3, 0] rfl)
      · replace hd := (if_neg hc).symm.trans hd
        refine lv_iconst (v := (0 : Int32)) hx hb dX1_readAgain_18 (by decide) ?_
        refine lv_istore (lv' := [(4, .int (0 : Int32)), (0, .ref (g.2.2.2 b)), (1, .ref (g.2.2.2 o1)), (2, .int x2), (3, .int x3)]) hx hb dX1_readAgain_19 hl (by decide) rfl (fun ls hl => ?_)
        exact t_X1_readAgain_L21 C hT hO1 ih 4096 (0 : Int32) st _ _ _ hd hP hS (lv_sub hl [1, 2, 3, 4, 0] rfl)

set_option maxHeartbeats 4000000 in
set_option maxRecDepth 100000 in
theorem c_X1_readAgain {l : Launch} {g : sn_G} {tb : Nat → sn_K} {N : Nat} (hi : sn_I g N) {b : Nat} {o1 : Nat} {x2 : Int32} (hT : sn_Ro tb N b) (hO1 : sn_Sh tb N o1) {st : sn_S} {o : sn_S} (hd : D_X1_readAgain b o1 x2 st = some o) : sn_Mv l yX1_readAgain wsX1_readAgain { frames := 2, cells := 0, slots := 0, locals := 46 } g tb N [.ref (g.2.2.2 b), .ref (g.2.2.2 o1), .int x2] st o := by
  refine sn_Mv.of (cc := cX1_readAgain) (nL := 5) (ret := none) hi (by decide) rfl (Nat.le_of_ble_eq_true rfl) ?_
  intro p e s m args below meth c ls C hP hS hl
  have hl : lv_has ls 5 [(0, .ref (g.2.2.2 b)), (1, .ref (g.2.2.2 o1)), (2, .int x2)] := hl
  obtain ⟨⟨hx, hb, hml, hown, hts⟩, hr, hlk, hC, hi⟩ := id C
  unfold D_X1_readAgain at hd
  have hinX1 : ∀ w ∈ wsX10, w ∈ wsX1_readAgain := by decide +kernel
  have hinX3 : ∀ w ∈ wsX30, w ∈ wsX1_readAgain := by decide +kernel
  refine lv_iconst (v := (0 : Int32)) hx hb dX1_readAgain_0 (by decide) ?_
  refine lv_istore_n (lv' := [(3, .int (0 : Int32)), (0, .ref (g.2.2.2 b)), (1, .ref (g.2.2.2 o1)), (2, .int x2)]) hx hb dX1_readAgain_1 rfl hl (by decide) rfl (fun ls hl => ?_)
  exact t_X1_readAgain_L2 C hT hO1 4096 (0 : Int32) st _ _ _ hd hP hS (lv_sub hl [1, 2, 3, 0] rfl)

set_option maxHeartbeats 4000000 in
set_option maxRecDepth 100000 in
theorem t_X1_copyFrom_L2 {p : Program} {l : Launch} {e : Env} {s : State} {m : MethodId} {args : Array Value} {below : List Frame} {meth : Method} {c : Code} {g : sn_G} {tb : Nat → sn_K} {N : Nat} {b : Nat} {o1 : Nat} {o : sn_S} (C : sn_Cx p s m args meth c g N cX1_copyFrom 3 wsX1_copyFrom yX1_copyFrom.cls none) (hT : sn_Ro tb N b) (hO1 : sn_Ro tb N o1)  : ∀ (n : Nat) (x2 : Int32) (st : sn_S) (H : Heap) (locs : List Loc) (ls : Array Slot), D_X1_copyFrom_L2 b o1 n x2 st = some o → va_P g.1 vwCl (sn_W g tb N st) H → va_S (sn_A g N) s.heap H locs → lv_has ls 3 [(0, .ref (g.2.2.2 b)), (1, .ref (g.2.2.2 o1)), (2, .int x2)] → W p l e { frames := 1, cells := 0, slots := 0, locals := 60 } s m args below meth c H locs 0 0 (MQ below (sn_Qv g tb N o) args s 0 0 (sn_A g N)) (F0 m 2 ls []) := by
  obtain ⟨⟨hx, hb, hml, hown, hts⟩, hr, hlk, hC, hi⟩ := id C
  have hinX1 : ∀ w ∈ wsX10, w ∈ wsX1_copyFrom := by decide +kernel
  intro n
  induction n with
  | zero => intro _ _ _ _ _ hd; exact nomatch (show (none : Option (sn_S)) = some o from hd)
  | succ n ih =>
    intro x2 st H locs ls hd hP hS hl
    replace hd := (D_X1_copyFrom_L2.eq_2 _ _ _ _ _).symm.trans hd
    refine lv_iload_n hx hb dX1_copyFrom_2 rfl (lv_at hl 2 rfl) ?_
    refine lv_bipush (v := (12 : Int32)) hx hb dX1_copyFrom_3 (by decide) ?_
    refine lv_icmp_ge (tgt := 52) hx hb dX1_copyFrom_5 (by decide) (fun hc => ?_) (fun hc => ?_)
    · replace hd := (if_pos hc).symm.trans hd
      refine lv_aload_n hx hb dX1_copyFrom_52 rfl (lv_at hl 1 rfl) ?_
      refine sn_get (ci := 1) (Cn := RX1) (T := TX1) (n := 4) (v := .ref (g.2.2.2 (o1 + 27))) C hinX1 hP o1 (sn_l0 hO1.1 (by decide)) hO1.2.1 rfl 2 (by decide) (by decide +kernel) rfl rfl dX1_copyFrom_53 ?_
      refine lv_iconst (v := (0 : Int32)) hx hb dX1_copyFrom_56 (by decide) ?_
      refine lv_aload_n hx hb dX1_copyFrom_57 rfl (lv_at hl 0 rfl) ?_
      refine sn_get (ci := 1) (Cn := RX1) (T := TX1) (n := 4) (v := .ref (g.2.2.2 (b + 27))) C hinX1 hP b (sn_l0 hT.1 (by decide)) hT.2.1 rfl 2 (by decide) (by decide +kernel) rfl rfl dX1_copyFrom_58 ?_
      refine lv_iconst (v := (0 : Int32)) hx hb dX1_copyFrom_61 (by decide) ?_
      refine lv_bipush (v := (12 : Int32)) hx hb dX1_copyFrom_62 (by decide) ?_
      refine sn_acp (n := 12) C (by decide +kernel) (by decide +kernel) (by decide +kernel) (by decide +kernel) hP hS (o1 + 27) (sn_l hO1.1 (by decide)) hO1.2.2.2.2.2.2.1 (b + 27) (sn_l hT.1 (by decide)) hT.2.2.2.2.2.2.1 (by decide) (by decide) (by decide) (by decide) hl.1 (Nat.le_of_ble_eq_true rfl) (Nat.le_of_ble_eq_true rfl) dX1_copyFrom_64 (fun H locs hP hS => ?_)
      refine lv_aload_n hx hb dX1_copyFrom_67 rfl (lv_at hl 1 rfl) ?_
      refine sn_get (ci := 1) (Cn := RX1) (T := TX1) (n := 4) (v := .ref (g.2.2.2 (o1 + 28))) C hinX1 hP o1 (sn_l0 hO1.1 (by decide)) hO1.2.1 rfl 3 (by decide) (by decide +kernel) rfl rfl dX1_copyFrom_68 ?_
      refine lv_iconst (v := (0 : Int32)) hx hb dX1_copyFrom_71 (by decide) ?_
      refine lv_aload_n hx hb dX1_copyFrom_72 rfl (lv_at hl 0 rfl) ?_
      refine sn_get (ci := 1) (Cn := RX1) (T := TX1) (n := 4) (v := .ref (g.2.2.2 (b + 28))) C hinX1 hP b (sn_l0 hT.1 (by decide)) hT.2.1 rfl 3 (by decide) (by decide +kernel) rfl rfl dX1_copyFrom_73 ?_
      refine lv_iconst (v := (0 : Int32)) hx hb dX1_copyFrom_76 (by decide) ?_
      refine lv_bipush (v := (12 : Int32)) hx hb dX1_copyFrom_77 (by decide) ?_
      refine sn_acp (n := 12) C (by decide +kernel) (by decide +kernel) (by decide +kernel) (by decide +kernel) hP hS (o1 + 28) (sn_l hO1.1 (by decide)) hO1.2.2.2.2.2.2.2 (b + 28) (sn_l hT.1 (by decide)) hT.2.2.2.2.2.2.2 (by decide) (by decide) (by decide) (by decide) hl.1 (Nat.le_of_ble_eq_true rfl) (Nat.le_of_ble_eq_true rfl) dX1_copyFrom_79 (fun H locs hP hS => ?_)
      cases hd
      exact sn_rv C hP hS dX1_copyFrom_82
    · replace hd := (if_neg hc).symm.trans hd
      refine lv_aload_n hx hb dX1_copyFrom_8 rfl (lv_at hl 1 rfl) ?_
      refine sn_get (ci := 1) (Cn := RX1) (T := TX1) (n := 4) (v := .ref (g.2.2.2 (o1 + 1))) C hinX1 hP o1 (sn_l0 hO1.1 (by decide)) hO1.2.1 rfl 0 (by decide) (by decide +kernel) rfl rfl dX1_copyFrom_9 ?_
      refine lv_iload_n hx hb dX1_copyFrom_12 rfl (lv_at hl 2 rfl) ?_
      refine sn_aald C hP (o1 + 1) (sn_l hO1.1 (by decide)) hO1.2.2.1 hd dX1_copyFrom_13 (fun k1 hk1 hd => ?_)
      refine lv_iconst (v := (0 : Int32)) hx hb dX1_copyFrom_14 (by decide) ?_
      refine lv_aload_n hx hb dX1_copyFrom_15 rfl (lv_at hl 0 rfl) ?_
      refine sn_get (ci := 1) (Cn := RX1) (T := TX1) (n := 4) (v := .ref (g.2.2.2 (b + 1))) C hinX1 hP b (sn_l0 hT.1 (by decide)) hT.2.1 rfl 0 (by decide) (by decide +kernel) rfl rfl dX1_copyFrom_16 ?_
      refine lv_iload_n hx hb dX1_copyFrom_19 rfl (lv_at hl 2 rfl) ?_
      refine sn_aald C hP (b + 1) (sn_l hT.1 (by decide)) hT.2.2.1 hd dX1_copyFrom_20 (fun k2 hk2 hd => ?_)
      refine lv_iconst (v := (0 : Int32)) hx hb dX1_copyFrom_21 (by decide) ?_
      refine lv_bipush (v := (17 : Int32)) hx hb dX1_copyFrom_22 (by decide) ?_
      refine sn_acp (n := 17) C (by decide +kernel) (by decide +kernel) (by decide +kernel) (by decide +kernel) hP hS (o1 + 1 + 1 + k1) (hO1.2.2.2.1 k1 hk1).2 (hO1.2.2.2.1 k1 hk1).1 (b + 1 + 1 + k2) (hT.2.2.2.1 k2 hk2).2 (hT.2.2.2.1 k2 hk2).1 (by decide) (by decide) (by decide) (by decide) hl.1 (Nat.le_of_ble_eq_true rfl) (Nat.le_of_ble_eq_true rfl) dX1_copyFrom_24 (fun H locs hP hS => ?_)
      refine lv_aload_n hx hb dX1_copyFrom_27 rfl (lv_at hl 1 rfl) ?_
      refine sn_get (ci := 1) (Cn := RX1) (T := TX1) (n := 4) (v := .ref (g.2.2.2 (o1 + 14))) C hinX1 hP o1 (sn_l0 hO1.1 (by decide)) hO1.2.1 rfl 1 (by decide) (by decide +kernel) rfl rfl dX1_copyFrom_28 ?_
      refine lv_iload_n hx hb dX1_copyFrom_31 rfl (lv_at hl 2 rfl) ?_
      refine sn_aald C hP (o1 + 14) (sn_l hO1.1 (by decide)) hO1.2.2.2.2.1 hd dX1_copyFrom_32 (fun k3 hk3 hd => ?_)
      refine lv_iconst (v := (0 : Int32)) hx hb dX1_copyFrom_33 (by decide) ?_
      refine lv_aload_n hx hb dX1_copyFrom_34 rfl (lv_at hl 0 rfl) ?_
      refine sn_get (ci := 1) (Cn := RX1) (T := TX1) (n := 4) (v := .ref (g.2.2.2 (b + 14))) C hinX1 hP b (sn_l0 hT.1 (by decide)) hT.2.1 rfl 1 (by decide) (by decide +kernel) rfl rfl dX1_copyFrom_35 ?_
      refine lv_iload_n hx hb dX1_copyFrom_38 rfl (lv_at hl 2 rfl) ?_
      refine sn_aald C hP (b + 14) (sn_l hT.1 (by decide)) hT.2.2.2.2.1 hd dX1_copyFrom_39 (fun k4 hk4 hd => ?_)
      refine lv_iconst (v := (0 : Int32)) hx hb dX1_copyFrom_40 (by decide) ?_
      refine lv_bipush (v := (17 : Int32)) hx hb dX1_copyFrom_41 (by decide) ?_
      refine sn_acp (n := 17) C (by decide +kernel) (by decide +kernel) (by decide +kernel) (by decide +kernel) hP hS (o1 + 14 + 1 + k3) (hO1.2.2.2.2.2.1 k3 hk3).2 (hO1.2.2.2.2.2.1 k3 hk3).1 (b + 14 + 1 + k4) (hT.2.2.2.2.2.1 k4 hk4).2 (hT.2.2.2.2.2.1 k4 hk4).1 (by decide) (by decide) (by decide) (by decide) hl.1 (Nat.le_of_ble_eq_true rfl) (Nat.le_of_ble_eq_true rfl) dX1_copyFrom_43 (fun H locs hP hS => ?_)
      refine lv_iinc (v := (x2 + (1 : Int32))) (lv' := [(2, .int (x2 + (1 : Int32))), (0, .ref (g.2.2.2 b)), (1, .ref (g.2.2.2 o1))]) hx hb dX1_copyFrom_46 hl (k := 2) rfl rfl (by decide) rfl (fun ls hl => ?_)
      refine lv_goto (tgt := 2) hx hb dX1_copyFrom_49 (by decide) ?_
      exact ih (x2 + (1 : Int32)) (sn_cp (sn_cp st (o1 + 1 + 1 + k1) (b + 1 + 1 + k2) 17) (o1 + 14 + 1 + k3) (b + 14 + 1 + k4) 17) _ _ _ hd hP hS (lv_sub hl [1, 2, 0] rfl)

set_option maxHeartbeats 4000000 in
set_option maxRecDepth 100000 in
theorem c_X1_copyFrom {l : Launch} {g : sn_G} {tb : Nat → sn_K} {N : Nat} (hi : sn_I g N) {b : Nat} {o1 : Nat} (hT : sn_Ro tb N b) (hO1 : sn_Ro tb N o1) {st : sn_S} {o : sn_S} (hd : D_X1_copyFrom b o1 st = some o) : sn_Mv l yX1_copyFrom wsX1_copyFrom { frames := 1, cells := 0, slots := 0, locals := 60 } g tb N [.ref (g.2.2.2 b), .ref (g.2.2.2 o1)] st o := by
  refine sn_Mv.of (cc := cX1_copyFrom) (nL := 3) (ret := none) hi (by decide) rfl (Nat.le_of_ble_eq_true rfl) ?_
  intro p e s m args below meth c ls C hP hS hl
  have hl : lv_has ls 3 [(0, .ref (g.2.2.2 b)), (1, .ref (g.2.2.2 o1))] := hl
  obtain ⟨⟨hx, hb, hml, hown, hts⟩, hr, hlk, hC, hi⟩ := id C
  unfold D_X1_copyFrom at hd
  have hinX1 : ∀ w ∈ wsX10, w ∈ wsX1_copyFrom := by decide +kernel
  refine lv_iconst (v := (0 : Int32)) hx hb dX1_copyFrom_0 (by decide) ?_
  refine lv_istore_n (lv' := [(2, .int (0 : Int32)), (0, .ref (g.2.2.2 b)), (1, .ref (g.2.2.2 o1))]) hx hb dX1_copyFrom_1 rfl hl (by decide) rfl (fun ls hl => ?_)
  exact t_X1_copyFrom_L2 C hT hO1 4096 (0 : Int32) st _ _ _ hd hP hS (lv_sub hl [1, 2, 0] rfl)

set_option maxHeartbeats 4000000 in
set_option maxRecDepth 100000 in
theorem c_X4_copyFrom {l : Launch} {g : sn_G} {tb : Nat → sn_K} {N : Nat} (hi : sn_I g N) {b : Nat} {o1 : Nat} (hT : sn_Ta tb N b) (hO1 : sn_Ta tb N o1) {st : sn_S} {o : sn_S} (hd : D_X4_copyFrom b o1 st = some o) : sn_Mv l yX4_copyFrom wsX4_copyFrom { frames := 1, cells := 0, slots := 0, locals := 60 } g tb N [.ref (g.2.2.2 b), .ref (g.2.2.2 o1)] st o := by
  refine sn_Mv.of (cc := cX4_copyFrom) (nL := 2) (ret := none) hi (by decide) rfl (Nat.le_of_ble_eq_true rfl) ?_
  intro p e s m args below meth c ls C hP hS hl
  have hl : lv_has ls 2 [(0, .ref (g.2.2.2 b)), (1, .ref (g.2.2.2 o1))] := hl
  obtain ⟨⟨hx, hb, hml, hown, hts⟩, hr, hlk, hC, hi⟩ := id C
  unfold D_X4_copyFrom at hd
  have hinX4 : ∀ w ∈ wsX40, w ∈ wsX4_copyFrom := by decide +kernel
  refine lv_aload_n hx hb dX4_copyFrom_0 rfl (lv_at hl 0 rfl) ?_
  refine lv_aload_n hx hb dX4_copyFrom_1 rfl (lv_at hl 1 rfl) ?_
  refine sn_get (ci := 3) (Cn := RX4) (T := TX4) (n := 6) (v := .int (st.1 o1 0)) C hinX4 hP o1 (sn_l0 hO1.1 (by decide)) hO1.2.1 rfl 0 (by decide) (by decide +kernel) rfl rfl dX4_copyFrom_2 ?_
  refine sn_pf (ci := 3) (Cn := RX4) (T := TX4) (n := 6) (ty0 := tyX4) C hinX4 tyX4_ok nmX4 hP hS b (sn_l0 hT.1 (by decide)) hT.2.1 rfl 0 (by decide) (by decide +kernel) rfl rfl rfl rfl rfl dX4_copyFrom_5 (fun H locs hP hS => ?_)
  refine lv_aload_n hx hb dX4_copyFrom_8 rfl (lv_at hl 0 rfl) ?_
  refine lv_aload_n hx hb dX4_copyFrom_9 rfl (lv_at hl 1 rfl) ?_
  refine sn_get (ci := 3) (Cn := RX4) (T := TX4) (n := 6) (v := .int ((sn_wr st b 0 (st.1 o1 0)).1 o1 1)) C hinX4 hP o1 (sn_l0 hO1.1 (by decide)) hO1.2.1 rfl 1 (by decide) (by decide +kernel) rfl rfl dX4_copyFrom_10 ?_
  refine sn_pf (ci := 3) (Cn := RX4) (T := TX4) (n := 6) (ty0 := tyX4) C hinX4 tyX4_ok nmX4 hP hS b (sn_l0 hT.1 (by decide)) hT.2.1 rfl 1 (by decide) (by decide +kernel) rfl rfl rfl rfl rfl dX4_copyFrom_13 (fun H locs hP hS => ?_)
  refine lv_aload_n hx hb dX4_copyFrom_16 rfl (lv_at hl 0 rfl) ?_
  refine lv_aload_n hx hb dX4_copyFrom_17 rfl (lv_at hl 1 rfl) ?_
  refine sn_get (ci := 3) (Cn := RX4) (T := TX4) (n := 6) (v := .int ((sn_wr (sn_wr st b 0 (st.1 o1 0)) b 1 ((sn_wr st b 0 (st.1 o1 0)).1 o1 1)).1 o1 2)) C hinX4 hP o1 (sn_l0 hO1.1 (by decide)) hO1.2.1 rfl 2 (by decide) (by decide +kernel) rfl rfl dX4_copyFrom_18 ?_
  refine sn_pf (ci := 3) (Cn := RX4) (T := TX4) (n := 6) (ty0 := tyX4) C hinX4 tyX4_ok nmX4 hP hS b (sn_l0 hT.1 (by decide)) hT.2.1 rfl 2 (by decide) (by decide +kernel) rfl rfl rfl rfl rfl dX4_copyFrom_21 (fun H locs hP hS => ?_)
  refine lv_aload_n hx hb dX4_copyFrom_24 rfl (lv_at hl 0 rfl) ?_
  refine lv_aload_n hx hb dX4_copyFrom_25 rfl (lv_at hl 1 rfl) ?_
  refine sn_get (ci := 3) (Cn := RX4) (T := TX4) (n := 6) (v := .int ((sn_wr (sn_wr (sn_wr st b 0 (st.1 o1 0)) b 1 ((sn_wr st b 0 (st.1 o1 0)).1 o1 1)) b 2 ((sn_wr (sn_wr st b 0 (st.1 o1 0)) b 1 ((sn_wr st b 0 (st.1 o1 0)).1 o1 1)).1 o1 2)).1 o1 3)) C hinX4 hP o1 (sn_l0 hO1.1 (by decide)) hO1.2.1 rfl 3 (by decide) (by decide +kernel) rfl rfl dX4_copyFrom_26 ?_
  refine sn_pf (ci := 3) (Cn := RX4) (T := TX4) (n := 6) (ty0 := tyX4) C hinX4 tyX4_ok nmX4 hP hS b (sn_l0 hT.1 (by decide)) hT.2.1 rfl 3 (by decide) (by decide +kernel) rfl rfl rfl rfl rfl dX4_copyFrom_29 (fun H locs hP hS => ?_)
  refine lv_aload_n hx hb dX4_copyFrom_32 rfl (lv_at hl 1 rfl) ?_
  refine sn_get (ci := 3) (Cn := RX4) (T := TX4) (n := 6) (v := .ref (g.2.2.2 (o1 + 1))) C hinX4 hP o1 (sn_l0 hO1.1 (by decide)) hO1.2.1 rfl 4 (by decide) (by decide +kernel) rfl rfl dX4_copyFrom_33 ?_
  refine lv_iconst (v := (0 : Int32)) hx hb dX4_copyFrom_36 (by decide) ?_
  refine lv_aload_n hx hb dX4_copyFrom_37 rfl (lv_at hl 0 rfl) ?_
  refine sn_get (ci := 3) (Cn := RX4) (T := TX4) (n := 6) (v := .ref (g.2.2.2 (b + 1))) C hinX4 hP b (sn_l0 hT.1 (by decide)) hT.2.1 rfl 4 (by decide) (by decide +kernel) rfl rfl dX4_copyFrom_38 ?_
  refine lv_iconst (v := (0 : Int32)) hx hb dX4_copyFrom_41 (by decide) ?_
  refine lv_iconst (v := (4 : Int32)) hx hb dX4_copyFrom_42 (by decide) ?_
  refine sn_acp (n := 4) C (by decide +kernel) (by decide +kernel) (by decide +kernel) (by decide +kernel) hP hS (o1 + 1) (sn_l hO1.1 (by decide)) hO1.2.2.1 (b + 1) (sn_l hT.1 (by decide)) hT.2.2.1 (by decide) (by decide) (by decide) (by decide) hl.1 (Nat.le_of_ble_eq_true rfl) (Nat.le_of_ble_eq_true rfl) dX4_copyFrom_43 (fun H locs hP hS => ?_)
  refine lv_aload_n hx hb dX4_copyFrom_46 rfl (lv_at hl 1 rfl) ?_
  refine sn_get (ci := 3) (Cn := RX4) (T := TX4) (n := 6) (v := .ref (g.2.2.2 (o1 + 2))) C hinX4 hP o1 (sn_l0 hO1.1 (by decide)) hO1.2.1 rfl 5 (by decide) (by decide +kernel) rfl rfl dX4_copyFrom_47 ?_
  refine lv_iconst (v := (0 : Int32)) hx hb dX4_copyFrom_50 (by decide) ?_
  refine lv_aload_n hx hb dX4_copyFrom_51 rfl (lv_at hl 0 rfl) ?_
  refine sn_get (ci := 3) (Cn := RX4) (T := TX4) (n := 6) (v := .ref (g.2.2.2 (b + 2))) C hinX4 hP b (sn_l0 hT.1 (by decide)) hT.2.1 rfl 5 (by decide) (by decide +kernel) rfl rfl dX4_copyFrom_52 ?_
  refine lv_iconst (v := (0 : Int32)) hx hb dX4_copyFrom_55 (by decide) ?_
  refine lv_bipush (v := (12 : Int32)) hx hb dX4_copyFrom_56 (by decide) ?_
  refine sn_acp (n := 12) C (by decide +kernel) (by decide +kernel) (by decide +kernel) (by decide +kernel) hP hS (o1 + 2) (sn_l hO1.1 (by decide)) hO1.2.2.2 (b + 2) (sn_l hT.1 (by decide)) hT.2.2.2 (by decide) (by decide) (by decide) (by decide) hl.1 (Nat.le_of_ble_eq_true rfl) (Nat.le_of_ble_eq_true rfl) dX4_copyFrom_58 (fun H locs hP hS => ?_)
  cases hd
  exact sn_rv C hP hS dX4_copyFrom_61
