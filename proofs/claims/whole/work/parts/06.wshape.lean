set_option maxHeartbeats 4000000 in
set_option maxRecDepth 100000 in
theorem t_X3_measure_L28 {p : Program} {l : Launch} {e : Env} {s : State} {m : MethodId} {args : Array Value} {below : List Frame} {meth : Method} {c : Code} {g : sn_G} {tb : Nat → sn_K} {N : Nat} {b : Nat} {x1 : Int32} {x2 : Int32} {x3 : Int32} {K : Int32 → Int32 → Int32 → sn_S → Option (sn_S)} {o : sn_S} (C : sn_Cx p s m args meth c g N cX3_measure 6 wsX3_measure yX3_measure.cls none) (hT : sn_Sh tb N b)  (hK : ∀ (x1 : Int32) (x2 : Int32) (x3 : Int32) (st : sn_S) (H : Heap) (locs : List Loc) (ls : Array Slot), K x1 x2 x3 st = some o → va_P g.1 vwCl (sn_W g tb N st) H → va_S (sn_A g N) s.heap H locs → lv_has ls 6 [(0, .ref (g.2.2.2 b)), (1, .int x1), (2, .int x2), (3, .int x3)] → W p l e { frames := 1, cells := 0, slots := 0, locals := 23 } s m args below meth c H locs 0 0 (MQ below (sn_Qv g tb N o) args s 0 0 (sn_A g N)) (F0 m 14 ls [])) : ∀ (n : Nat) (x4 : Int32) (x5 : Int32) (st : sn_S) (H : Heap) (locs : List Loc) (ls : Array Slot), D_X3_measure_L28 b x1 x2 x3 K n x4 x5 st = some o → va_P g.1 vwCl (sn_W g tb N st) H → va_S (sn_A g N) s.heap H locs → lv_has ls 6 [(0, .ref (g.2.2.2 b)), (1, .int x1), (2, .int x2), (3, .int x3), (4, .int x4), (5, .int x5)] → W p l e { frames := 1, cells := 0, slots := 0, locals := 23 } s m args below meth c H locs 0 0 (MQ below (sn_Qv g tb N o) args s 0 0 (sn_A g N)) (F0 m 28 ls []) := by
  obtain ⟨⟨hx, hb, hml, hown, hts⟩, hr, hlk, hC, hi⟩ := id C
  have hinX3 : ∀ w ∈ wsX30, w ∈ wsX3_measure := by decide +kernel
  intro n
  induction n with
  | zero => intro _ _ _ _ _ _ hd; exact nomatch (show (none : Option (sn_S)) = some o from hd)
  | succ n ih =>
    intro x4 x5 st H locs ls hd hP hS hl
    replace hd := (D_X3_measure_L28.eq_2 _ _ _ _ _ _ _ _ _).symm.trans hd
    refine lv_iload hx hb dX3_measure_28 (lv_at hl 5 rfl) ?_
    refine lv_aload_n hx hb dX3_measure_30 rfl (lv_at hl 0 rfl) ?_
    refine sn_get (ci := 2) (Cn := RX3) (T := TX3) (n := 3) (v := .int (st.1 b 0)) C hinX3 hP b (sn_l0 hT.1 (by decide)) hT.2.1 rfl 0 (by decide) (by decide +kernel) rfl rfl dX3_measure_31 ?_
    refine lv_icmp_ge (tgt := 72) hx hb dX3_measure_34 (by decide) (fun hc => ?_) (fun hc => ?_)
    · replace hd := (if_pos hc).symm.trans hd
      refine lv_iload hx hb dX3_measure_72 (lv_at hl 4 rfl) ?_
      refine lv_iload_n hx hb dX3_measure_74 rfl (lv_at hl 1 rfl) ?_
      refine lv_iconst (v := (-1 : Int32)) hx hb dX3_measure_75 (by decide) ?_
      refine lv_ixor hx hb dX3_measure_76 ?_
      refine lv_iand hx hb dX3_measure_77 ?_
      refine lv_istore_n (lv' := [(2, .int (x4 &&& (x1 ^^^ (-1 : Int32)))), (0, .ref (g.2.2.2 b)), (1, .int x1), (3, .int x3), (4, .int x4), (5, .int x5)]) hx hb dX3_measure_78 rfl hl (by decide) rfl (fun ls hl => ?_)
      refine lv_iload_n hx hb dX3_measure_79 rfl (lv_at hl 2 rfl) ?_
      refine lv_iload_n hx hb dX3_measure_80 rfl (lv_at hl 0 rfl) ?_
      refine lv_ior hx hb dX3_measure_81 ?_
      refine lv_istore_n (lv' := [(1, .int (x1 ||| (x4 &&& (x1 ^^^ (-1 : Int32))))), (2, .int (x4 &&& (x1 ^^^ (-1 : Int32)))), (0, .ref (g.2.2.2 b)), (3, .int x3), (4, .int x4), (5, .int x5)]) hx hb dX3_measure_82 rfl hl (by decide) rfl (fun ls hl => ?_)
      refine lv_iinc (v := (x3 + (1 : Int32))) (lv' := [(3, .int (x3 + (1 : Int32))), (1, .int (x1 ||| (x4 &&& (x1 ^^^ (-1 : Int32))))), (2, .int (x4 &&& (x1 ^^^ (-1 : Int32)))), (0, .ref (g.2.2.2 b)), (4, .int x4), (5, .int x5)]) hx hb dX3_measure_83 hl (k := 3) rfl rfl (by decide) rfl (fun ls hl => ?_)
      refine lv_goto (tgt := 14) hx hb dX3_measure_86 (by decide) ?_
      exact hK (x1 ||| (x4 &&& (x1 ^^^ (-1 : Int32)))) (x4 &&& (x1 ^^^ (-1 : Int32))) (x3 + (1 : Int32)) st _ _ _ hd hP hS (lv_sub hl [3, 1, 2, 0] rfl)
    · replace hd := (if_neg hc).symm.trans hd
      refine lv_iload_n hx hb dX3_measure_37 rfl (lv_at hl 2 rfl) ?_
      refine lv_iload hx hb dX3_measure_38 (lv_at hl 5 rfl) ?_
      obtain ⟨r2, hr2, hd⟩ := Option.bind_eq_some_iff.mp hd
      refine sn_Ni (host := RX5) (rest := []) (As := [.int x2, .int x5]) (st := st) C (c_X5_has hi  hr2) ⟨va_cnB 2 hts gX3_measure_X5_has_n43 rfl rfl rfl (hC.2 _ (by decide +kernel)) (hts (.initialized RX5) (by decide +kernel)) (by decide +kernel) ⟨Nat.le_of_ble_eq_true rfl, Nat.le_of_ble_eq_true rfl⟩, hts (.static yX5_has) (by decide +kernel), trivial⟩ hP hS rfl hl.1 rfl (Nat.le_of_ble_eq_true rfl) dX3_measure_40 (fun H locs hP hS => ?_)
      refine lv_if_eq (tgt := 66) hx hb dX3_measure_43 (by decide) (fun hc => ?_) (fun hc => ?_)
      · replace hd := (if_pos hc).symm.trans hd
        refine lv_iinc (v := (x5 + (1 : Int32))) (lv' := [(5, .int (x5 + (1 : Int32))), (0, .ref (g.2.2.2 b)), (1, .int x1), (2, .int x2), (3, .int x3), (4, .int x4)]) hx hb dX3_measure_66 hl (k := 5) rfl rfl (by decide) rfl (fun ls hl => ?_)
        refine lv_goto (tgt := 28) hx hb dX3_measure_69 (by decide) ?_
        exact ih x4 (x5 + (1 : Int32)) st _ _ _ hd hP hS (lv_sub hl [1, 2, 3, 4, 5, 0] rfl)
      · replace hd := (if_neg hc).symm.trans hd
        refine lv_aload_n hx hb dX3_measure_46 rfl (lv_at hl 0 rfl) ?_
        refine sn_get (ci := 2) (Cn := RX3) (T := TX3) (n := 3) (v := .ref (g.2.2.2 (b + 2))) C hinX3 hP b (sn_l0 hT.1 (by decide)) hT.2.1 rfl 2 (by decide) (by decide +kernel) rfl rfl dX3_measure_47 ?_
        refine lv_iload hx hb dX3_measure_50 (lv_at hl 5 rfl) ?_
        refine lv_iload_n hx hb dX3_measure_52 rfl (lv_at hl 3 rfl) ?_
        refine sn_ast C hP hS (b + 2) (sn_l hT.1 (by decide)) hT.2.2.2 hd dX3_measure_53 (fun k3 H locs hk3 hd hP hS => ?_)
        refine lv_iload hx hb dX3_measure_54 (lv_at hl 4 rfl) ?_
        refine lv_aload_n hx hb dX3_measure_56 rfl (lv_at hl 0 rfl) ?_
        refine sn_get (ci := 2) (Cn := RX3) (T := TX3) (n := 3) (v := .ref (g.2.2.2 (b + 1))) C hinX3 hP b (sn_l0 hT.1 (by decide)) hT.2.1 rfl 1 (by decide) (by decide +kernel) rfl rfl dX3_measure_57 ?_
        refine lv_iload hx hb dX3_measure_60 (lv_at hl 5 rfl) ?_
        refine sn_ald C hP (b + 1) (sn_l hT.1 (by decide)) hT.2.2.1 hd dX3_measure_62 (fun k4 hk4 hd => ?_)
        refine lv_ior hx hb dX3_measure_63 ?_
        refine lv_istore (lv' := [(4, .int (x4 ||| ((sn_wr st (b + 2) k3 x3).1 (b + 1) k4))), (0, .ref (g.2.2.2 b)), (1, .int x1), (2, .int x2), (3, .int x3), (5, .int x5)]) hx hb dX3_measure_64 hl (by decide) rfl (fun ls hl => ?_)
        refine lv_iinc (v := (x5 + (1 : Int32))) (lv' := [(5, .int (x5 + (1 : Int32))), (4, .int (x4 ||| ((sn_wr st (b + 2) k3 x3).1 (b + 1) k4))), (0, .ref (g.2.2.2 b)), (1, .int x1), (2, .int x2), (3, .int x3)]) hx hb dX3_measure_66 hl (k := 5) rfl rfl (by decide) rfl (fun ls hl => ?_)
        refine lv_goto (tgt := 28) hx hb dX3_measure_69 (by decide) ?_
        exact ih (x4 ||| ((sn_wr st (b + 2) k3 x3).1 (b + 1) k4)) (x5 + (1 : Int32)) (sn_wr st (b + 2) k3 x3) _ _ _ hd hP hS (lv_sub hl [2, 3, 4, 5, 1, 0] rfl)

set_option maxHeartbeats 4000000 in
set_option maxRecDepth 100000 in
theorem t_X3_measure_L14 {p : Program} {l : Launch} {e : Env} {s : State} {m : MethodId} {args : Array Value} {below : List Frame} {meth : Method} {c : Code} {g : sn_G} {tb : Nat → sn_K} {N : Nat} {b : Nat} {o : sn_S} (C : sn_Cx p s m args meth c g N cX3_measure 6 wsX3_measure yX3_measure.cls none) (hT : sn_Sh tb N b)  : ∀ (n : Nat) (x1 : Int32) (x2 : Int32) (x3 : Int32) (st : sn_S) (H : Heap) (locs : List Loc) (ls : Array Slot), D_X3_measure_L14 b n x1 x2 x3 st = some o → va_P g.1 vwCl (sn_W g tb N st) H → va_S (sn_A g N) s.heap H locs → lv_has ls 6 [(0, .ref (g.2.2.2 b)), (1, .int x1), (2, .int x2), (3, .int x3)] → W p l e { frames := 1, cells := 0, slots := 0, locals := 23 } s m args below meth c H locs 0 0 (MQ below (sn_Qv g tb N o) args s 0 0 (sn_A g N)) (F0 m 14 ls []) := by
  obtain ⟨⟨hx, hb, hml, hown, hts⟩, hr, hlk, hC, hi⟩ := id C
  have hinX3 : ∀ w ∈ wsX30, w ∈ wsX3_measure := by decide +kernel
  intro n
  induction n with
  | zero => intro _ _ _ _ _ _ _ hd; exact nomatch (show (none : Option (sn_S)) = some o from hd)
  | succ n ih =>
    intro x1 x2 x3 st H locs ls hd hP hS hl
    replace hd := (D_X3_measure_L14.eq_2 _ _ _ _ _ _).symm.trans hd
    refine lv_iload_n hx hb dX3_measure_14 rfl (lv_at hl 3 rfl) ?_
    refine lv_aload_n hx hb dX3_measure_15 rfl (lv_at hl 0 rfl) ?_
    refine sn_get (ci := 2) (Cn := RX3) (T := TX3) (n := 3) (v := .int (st.1 b 0)) C hinX3 hP b (sn_l0 hT.1 (by decide)) hT.2.1 rfl 0 (by decide) (by decide +kernel) rfl rfl dX3_measure_16 ?_
    refine lv_icmp_ge (tgt := 89) hx hb dX3_measure_19 (by decide) (fun hc => ?_) (fun hc => ?_)
    · replace hd := (if_pos hc).symm.trans hd
      cases hd
      exact sn_rv C hP hS dX3_measure_89
    · replace hd := (if_neg hc).symm.trans hd
      refine lv_iconst (v := (0 : Int32)) hx hb dX3_measure_22 (by decide) ?_
      refine lv_istore (lv' := [(4, .int (0 : Int32)), (0, .ref (g.2.2.2 b)), (1, .int x1), (2, .int x2), (3, .int x3)]) hx hb dX3_measure_23 hl (by decide) rfl (fun ls hl => ?_)
      refine lv_iconst (v := (0 : Int32)) hx hb dX3_measure_25 (by decide) ?_
      refine lv_istore (lv' := [(5, .int (0 : Int32)), (4, .int (0 : Int32)), (0, .ref (g.2.2.2 b)), (1, .int x1), (2, .int x2), (3, .int x3)]) hx hb dX3_measure_26 hl (by decide) rfl (fun ls hl => ?_)
      exact t_X3_measure_L28 C hT ih 4096 (0 : Int32) (0 : Int32) st _ _ _ hd hP hS (lv_sub hl [2, 3, 4, 5, 1, 0] rfl)

set_option maxHeartbeats 4000000 in
set_option maxRecDepth 100000 in
theorem c_X3_measure {l : Launch} {g : sn_G} {tb : Nat → sn_K} {N : Nat} (hi : sn_I g N) {b : Nat} (hT : sn_Sh tb N b) {st : sn_S} {o : sn_S} (hd : D_X3_measure b st = some o) : sn_Mv l yX3_measure wsX3_measure { frames := 1, cells := 0, slots := 0, locals := 23 } g tb N [.ref (g.2.2.2 b)] st o := by
  refine sn_Mv.of (cc := cX3_measure) (nL := 6) (ret := none) hi (by decide) rfl (Nat.le_of_ble_eq_true rfl) ?_
  intro p e s m args below meth c ls C hP hS hl
  have hl : lv_has ls 6 [(0, .ref (g.2.2.2 b))] := hl
  obtain ⟨⟨hx, hb, hml, hown, hts⟩, hr, hlk, hC, hi⟩ := id C
  unfold D_X3_measure at hd
  have hinX3 : ∀ w ∈ wsX30, w ∈ wsX3_measure := by decide +kernel
  refine lv_aload_n hx hb dX3_measure_0 rfl (lv_at hl 0 rfl) ?_
  refine sn_get (ci := 2) (Cn := RX3) (T := TX3) (n := 3) (v := .ref (g.2.2.2 (b + 2))) C hinX3 hP b (sn_l0 hT.1 (by decide)) hT.2.1 rfl 2 (by decide) (by decide +kernel) rfl rfl dX3_measure_1 ?_
  refine lv_iconst (v := (-1 : Int32)) hx hb dX3_measure_4 (by decide) ?_
  obtain ⟨r1, hr1, hd⟩ := Option.bind_eq_some_iff.mp hd
  refine sn_Sv (rest := []) (As := [.ref (g.2.2.2 (b + 2)), .int (-1 : Int32)]) (st := st) C (c_J7_fill_53178 hi (sn_l hT.1 (by decide)) hT.2.2.2 hr1) (va_cwS 2 hts gX3_measure_J7_fill_53178 rfl rfl rfl (by decide +kernel) ⟨Nat.le_of_ble_eq_true rfl, Nat.le_of_ble_eq_true rfl⟩) hP hS rfl hl.1 rfl (Nat.le_of_ble_eq_true rfl) dX3_measure_5 (fun H locs hP hS => ?_)
  refine lv_iconst (v := (1 : Int32)) hx hb dX3_measure_8 (by decide) ?_
  refine lv_istore_n (lv' := [(1, .int (1 : Int32)), (0, .ref (g.2.2.2 b))]) hx hb dX3_measure_9 rfl hl (by decide) rfl (fun ls hl => ?_)
  refine lv_iload_n hx hb dX3_measure_10 rfl (lv_at hl 0 rfl) ?_
  refine lv_istore_n (lv' := [(2, .int (1 : Int32)), (1, .int (1 : Int32)), (0, .ref (g.2.2.2 b))]) hx hb dX3_measure_11 rfl hl (by decide) rfl (fun ls hl => ?_)
  refine lv_iconst (v := (0 : Int32)) hx hb dX3_measure_12 (by decide) ?_
  refine lv_istore_n (lv' := [(3, .int (0 : Int32)), (2, .int (1 : Int32)), (1, .int (1 : Int32)), (0, .ref (g.2.2.2 b))]) hx hb dX3_measure_13 rfl hl (by decide) rfl (fun ls hl => ?_)
  exact t_X3_measure_L14 C hT 4096 (1 : Int32) (1 : Int32) (0 : Int32) r1 _ _ _ hd hP hS (lv_sub hl [3, 2, 1, 0] rfl)

set_option maxHeartbeats 4000000 in
set_option maxRecDepth 100000 in
theorem c_X3_clear {l : Launch} {g : sn_G} {tb : Nat → sn_K} {N : Nat} (hi : sn_I g N) {b : Nat} {x1 : Int32} (hT : sn_Sh tb N b) {st : sn_S} {o : sn_S} (hd : D_X3_clear b x1 st = some o) : sn_Mv l yX3_clear wsX3_clear { frames := 2, cells := 0, slots := 0, locals := 48 } g tb N [.ref (g.2.2.2 b), .int x1] st o := by
  refine sn_Mv.of (cc := cX3_clear) (nL := 2) (ret := none) hi (by decide) rfl (Nat.le_of_ble_eq_true rfl) ?_
  intro p e s m args below meth c ls C hP hS hl
  have hl : lv_has ls 2 [(0, .ref (g.2.2.2 b)), (1, .int x1)] := hl
  obtain ⟨⟨hx, hb, hml, hown, hts⟩, hr, hlk, hC, hi⟩ := id C
  unfold D_X3_clear at hd
  have hinX3 : ∀ w ∈ wsX30, w ∈ wsX3_clear := by decide +kernel
  refine lv_aload_n hx hb dX3_clear_0 rfl (lv_at hl 0 rfl) ?_
  refine lv_iload_n hx hb dX3_clear_1 rfl (lv_at hl 1 rfl) ?_
  refine sn_pf (ci := 2) (Cn := RX3) (T := TX3) (n := 3) (ty0 := tyX3) C hinX3 tyX3_ok nmX3 hP hS b (sn_l0 hT.1 (by decide)) hT.2.1 rfl 0 (by decide) (by decide +kernel) rfl rfl rfl rfl rfl dX3_clear_2 (fun H locs hP hS => ?_)
  refine lv_aload_n hx hb dX3_clear_5 rfl (lv_at hl 0 rfl) ?_
  refine sn_get (ci := 2) (Cn := RX3) (T := TX3) (n := 3) (v := .ref (g.2.2.2 (b + 1))) C hinX3 hP b (sn_l0 hT.1 (by decide)) hT.2.1 rfl 1 (by decide) (by decide +kernel) rfl rfl dX3_clear_6 ?_
  refine lv_iconst (v := (0 : Int32)) hx hb dX3_clear_9 (by decide) ?_
  obtain ⟨r1, hr1, hd⟩ := Option.bind_eq_some_iff.mp hd
  refine sn_Sv (rest := []) (As := [.ref (g.2.2.2 (b + 1)), .int (0 : Int32)]) (st := (sn_wr st b 0 x1)) C (c_J7_fill_53178 hi (sn_l hT.1 (by decide)) hT.2.2.1 hr1) (va_cwS 2 hts gX3_clear_J7_fill_53178 rfl rfl rfl (by decide +kernel) ⟨Nat.le_of_ble_eq_true rfl, Nat.le_of_ble_eq_true rfl⟩) hP hS rfl hl.1 rfl (Nat.le_of_ble_eq_true rfl) dX3_clear_10 (fun H locs hP hS => ?_)
  refine lv_aload_n hx hb dX3_clear_13 rfl (lv_at hl 0 rfl) ?_
  obtain ⟨r2, hr2, hd⟩ := Option.bind_eq_some_iff.mp hd
  refine sn_Vv (b := b) (rest := []) (As := []) (st := r1) C (c_X3_measure hi hT hr2) (cwV 0 hts gX3_clear_X3_measure rfl rfl rfl (by decide +kernel) ⟨Nat.le_of_ble_eq_true rfl, Nat.le_of_ble_eq_true rfl⟩) hP hS (sn_l0 hT.1 (by decide)) hT.2.1 rfl rfl hl.1 rfl (Nat.le_of_ble_eq_true rfl) dX3_clear_14 (fun H locs hP hS => ?_)
  cases hd
  exact sn_rv C hP hS dX3_clear_17

set_option maxHeartbeats 4000000 in
set_option maxRecDepth 100000 in
theorem c_X3_isNode {l : Launch} {g : sn_G} {tb : Nat → sn_K} {N : Nat} (hi : sn_I g N) {b : Nat} {x1 : Int32} (hT : sn_Sh tb N b) {st : sn_S} {o : Int32} (hd : D_X3_isNode b x1 st = some o) : sn_Mi l yX3_isNode wsX3_isNode { frames := 0, cells := 0, slots := 0, locals := 0 } g tb N [.ref (g.2.2.2 b), .int x1] st o st := by
  refine sn_Mi.of (cc := cX3_isNode) (nL := 2) (ret := (some .boolean)) hi (by decide) rfl (Nat.le_of_ble_eq_true rfl) ?_
  intro p e s m args below meth c ls C hP hS hl
  have hl : lv_has ls 2 [(0, .ref (g.2.2.2 b)), (1, .int x1)] := hl
  obtain ⟨⟨hx, hb, hml, hown, hts⟩, hr, hlk, hC, hi⟩ := id C
  unfold D_X3_isNode at hd
  have hinX3 : ∀ w ∈ wsX30, w ∈ wsX3_isNode := by decide +kernel
  refine lv_iload_n hx hb dX3_isNode_0 rfl (lv_at hl 1 rfl) ?_
  refine lv_if_lt (tgt := 16) hx hb dX3_isNode_1 (by decide) (fun hc => ?_) (fun hc => ?_)
  · replace hd := (if_pos hc).symm.trans hd
    refine lv_iconst (v := (0 : Int32)) hx hb dX3_isNode_16 (by decide) ?_
    cases hd
    exact sn_rz (Or.inl rfl) C hP hS dX3_isNode_17
  · replace hd := (if_neg hc).symm.trans hd
    refine lv_iload_n hx hb dX3_isNode_4 rfl (lv_at hl 1 rfl) ?_
    refine lv_aload_n hx hb dX3_isNode_5 rfl (lv_at hl 0 rfl) ?_
    refine sn_get (ci := 2) (Cn := RX3) (T := TX3) (n := 3) (v := .int (st.1 b 0)) C hinX3 hP b (sn_l0 hT.1 (by decide)) hT.2.1 rfl 0 (by decide) (by decide +kernel) rfl rfl dX3_isNode_6 ?_
    refine lv_icmp_ge (tgt := 16) hx hb dX3_isNode_9 (by decide) (fun hc => ?_) (fun hc => ?_)
    · replace hd := (if_pos hc).symm.trans hd
      refine lv_iconst (v := (0 : Int32)) hx hb dX3_isNode_16 (by decide) ?_
      cases hd
      exact sn_rz (Or.inl rfl) C hP hS dX3_isNode_17
    · replace hd := (if_neg hc).symm.trans hd
      refine lv_iconst (v := (1 : Int32)) hx hb dX3_isNode_12 (by decide) ?_
      refine lv_goto (tgt := 17) hx hb dX3_isNode_13 (by decide) ?_
      cases hd
      exact sn_rz (Or.inr rfl) C hP hS dX3_isNode_17

set_option maxHeartbeats 4000000 in
set_option maxRecDepth 100000 in
theorem c_X3_join {l : Launch} {g : sn_G} {tb : Nat → sn_K} {N : Nat} (hi : sn_I g N) {b : Nat} {x1 : Int32} {x2 : Int32} {x3 : Int32} (hT : sn_Sh tb N b) {st : sn_S} {o : sn_S} (hd : D_X3_join b x1 x2 x3 st = some o) : sn_Mv l yX3_join wsX3_join { frames := 2, cells := 0, slots := 0, locals := 48 } g tb N [.ref (g.2.2.2 b), .int x1, .int x2, .int x3] st o := by
  refine sn_Mv.of (cc := cX3_join) (nL := 4) (ret := none) hi (by decide) rfl (Nat.le_of_ble_eq_true rfl) ?_
  intro p e s m args below meth c ls C hP hS hl
  have hl : lv_has ls 4 [(0, .ref (g.2.2.2 b)), (1, .int x1), (2, .int x2), (3, .int x3)] := hl
  obtain ⟨⟨hx, hb, hml, hown, hts⟩, hr, hlk, hC, hi⟩ := id C
  unfold D_X3_join at hd
  have hinX3 : ∀ w ∈ wsX30, w ∈ wsX3_join := by decide +kernel
  refine lv_iload_n hx hb dX3_join_0 rfl (lv_at hl 3 rfl) ?_
  refine lv_if_eq (tgt := 31) hx hb dX3_join_1 (by decide) (fun hc => ?_) (fun hc => ?_)
  · replace hd := (if_pos hc).symm.trans hd
    refine lv_aload_n hx hb dX3_join_31 rfl (lv_at hl 0 rfl) ?_
    refine sn_get (ci := 2) (Cn := RX3) (T := TX3) (n := 3) (v := .ref (g.2.2.2 (b + 1))) C hinX3 hP b (sn_l0 hT.1 (by decide)) hT.2.1 rfl 1 (by decide) (by decide +kernel) rfl rfl dX3_join_32 ?_
    refine lv_iload_n hx hb dX3_join_35 rfl (lv_at hl 1 rfl) ?_
    refine lv_dup2_11 hx hb dX3_join_36 rfl rfl ?_
    refine sn_ald C hP (b + 1) (sn_l hT.1 (by decide)) hT.2.2.1 hd dX3_join_37 (fun k1 hk1 hd => ?_)
    refine lv_iconst (v := (1 : Int32)) hx hb dX3_join_38 (by decide) ?_
    refine lv_iload_n hx hb dX3_join_39 rfl (lv_at hl 2 rfl) ?_
    refine lv_ishl hx hb dX3_join_40 ?_
    refine lv_iconst (v := (-1 : Int32)) hx hb dX3_join_41 (by decide) ?_
    refine lv_ixor hx hb dX3_join_42 ?_
    refine lv_iand hx hb dX3_join_43 ?_
    refine sn_ast C hP hS (b + 1) (sn_l hT.1 (by decide)) hT.2.2.1 hd dX3_join_44 (fun k2 H locs hk2 hd hP hS => ?_)
    refine lv_aload_n hx hb dX3_join_45 rfl (lv_at hl 0 rfl) ?_
    refine sn_get (ci := 2) (Cn := RX3) (T := TX3) (n := 3) (v := .ref (g.2.2.2 (b + 1))) C hinX3 hP b (sn_l0 hT.1 (by decide)) hT.2.1 rfl 1 (by decide) (by decide +kernel) rfl rfl dX3_join_46 ?_
    refine lv_iload_n hx hb dX3_join_49 rfl (lv_at hl 2 rfl) ?_
    refine lv_dup2_11 hx hb dX3_join_50 rfl rfl ?_
    refine sn_ald C hP (b + 1) (sn_l hT.1 (by decide)) hT.2.2.1 hd dX3_join_51 (fun k3 hk3 hd => ?_)
    refine lv_iconst (v := (1 : Int32)) hx hb dX3_join_52 (by decide) ?_
    refine lv_iload_n hx hb dX3_join_53 rfl (lv_at hl 1 rfl) ?_
    refine lv_ishl hx hb dX3_join_54 ?_
    refine lv_iconst (v := (-1 : Int32)) hx hb dX3_join_55 (by decide) ?_
    refine lv_ixor hx hb dX3_join_56 ?_
    refine lv_iand hx hb dX3_join_57 ?_
    refine sn_ast C hP hS (b + 1) (sn_l hT.1 (by decide)) hT.2.2.1 hd dX3_join_58 (fun k4 H locs hk4 hd hP hS => ?_)
    refine lv_aload_n hx hb dX3_join_59 rfl (lv_at hl 0 rfl) ?_
    obtain ⟨r5, hr5, hd⟩ := Option.bind_eq_some_iff.mp hd
    refine sn_Vv (b := b) (rest := []) (As := []) (st := (sn_wr (sn_wr st (b + 1) k2 ((st.1 (b + 1) k1) &&& (((1 : Int32) <<< (x2 &&& 31)) ^^^ (-1 : Int32)))) (b + 1) k4 (((sn_wr st (b + 1) k2 ((st.1 (b + 1) k1) &&& (((1 : Int32) <<< (x2 &&& 31)) ^^^ (-1 : Int32)))).1 (b + 1) k3) &&& (((1 : Int32) <<< (x1 &&& 31)) ^^^ (-1 : Int32))))) C (c_X3_measure hi hT hr5) (cwV 0 hts gX3_join_X3_measure rfl rfl rfl (by decide +kernel) ⟨Nat.le_of_ble_eq_true rfl, Nat.le_of_ble_eq_true rfl⟩) hP hS (sn_l0 hT.1 (by decide)) hT.2.1 rfl rfl hl.1 rfl (Nat.le_of_ble_eq_true rfl) dX3_join_60 (fun H locs hP hS => ?_)
    cases hd
    exact sn_rv C hP hS dX3_join_63
  · replace hd := (if_neg hc).symm.trans hd
    refine lv_aload_n hx hb dX3_join_4 rfl (lv_at hl 0 rfl) ?_
    refine sn_get (ci := 2) (Cn := RX3) (T := TX3) (n := 3) (v := .ref (g.2.2.2 (b + 1))) C hinX3 hP b (sn_l0 hT.1 (by decide)) hT.2.1 rfl 1 (by decide) (by decide +kernel) rfl rfl dX3_join_5 ?_
    refine lv_iload_n hx hb dX3_join_8 rfl (lv_at hl 1 rfl) ?_
    refine lv_dup2_11 hx hb dX3_join_9 rfl rfl ?_
    refine sn_ald C hP (b + 1) (sn_l hT.1 (by decide)) hT.2.2.1 hd dX3_join_10 (fun k6 hk6 hd => ?_)
    refine lv_iconst (v := (1 : Int32)) hx hb dX3_join_11 (by decide) ?_
    refine lv_iload_n hx hb dX3_join_12 rfl (lv_at hl 2 rfl) ?_
    refine lv_ishl hx hb dX3_join_13 ?_
    refine lv_ior hx hb dX3_join_14 ?_
    refine sn_ast C hP hS (b + 1) (sn_l hT.1 (by decide)) hT.2.2.1 hd dX3_join_15 (fun k7 H locs hk7 hd hP hS => ?_)
    refine lv_aload_n hx hb dX3_join_16 rfl (lv_at hl 0 rfl) ?_
    refine sn_get (ci := 2) (Cn := RX3) (T := TX3) (n := 3) (v := .ref (g.2.2.2 (b + 1))) C hinX3 hP b (sn_l0 hT.1 (by decide)) hT.2.1 rfl 1 (by decide) (by decide +kernel) rfl rfl dX3_join_17 ?_
    refine lv_iload_n hx hb dX3_join_20 rfl (lv_at hl 2 rfl) ?_
    refine lv_dup2_11 hx hb dX3_join_21 rfl rfl ?_
    refine sn_ald C hP (b + 1) (sn_l hT.1 (by decide)) hT.2.2.1 hd dX3_join_22 (fun k8 hk8 hd => ?_)
    refine lv_iconst (v := (1 : Int32)) hx hb dX3_join_23 (by decide) ?_
    refine lv_iload_n hx hb dX3_join_24 rfl (lv_at hl 1 rfl) ?_
    refine lv_ishl hx hb dX3_join_25 ?_
    refine lv_ior hx hb dX3_join_26 ?_
    refine sn_ast C hP hS (b + 1) (sn_l hT.1 (by decide)) hT.2.2.1 hd dX3_join_27 (fun k9 H locs hk9 hd hP hS => ?_)
    refine lv_goto (tgt := 59) hx hb dX3_join_28 (by decide) ?_
    refine lv_aload_n hx hb dX3_join_59 rfl (lv_at hl 0 rfl) ?_
    obtain ⟨r10, hr10, hd⟩ := Option.bind_eq_some_iff.mp hd
    refine sn_Vv (b := b) (rest := []) (As := []) (st := (sn_wr (sn_wr st (b + 1) k7 ((st.1 (b + 1) k6) ||| ((1 : Int32) <<< (x2 &&& 31)))) (b + 1) k9 (((sn_wr st (b + 1) k7 ((st.1 (b + 1) k6) ||| ((1 : Int32) <<< (x2 &&& 31)))).1 (b + 1) k8) ||| ((1 : Int32) <<< (x1 &&& 31))))) C (c_X3_measure hi hT hr10) (cwV 0 hts gX3_join_X3_measure rfl rfl rfl (by decide +kernel) ⟨Nat.le_of_ble_eq_true rfl, Nat.le_of_ble_eq_true rfl⟩) hP hS (sn_l0 hT.1 (by decide)) hT.2.1 rfl rfl hl.1 rfl (Nat.le_of_ble_eq_true rfl) dX3_join_60 (fun H locs hP hS => ?_)
    cases hd
    exact sn_rv C hP hS dX3_join_63

set_option maxHeartbeats 4000000 in
set_option maxRecDepth 100000 in
theorem t_X3_isWhole_L2 {p : Program} {l : Launch} {e : Env} {s : State} {m : MethodId} {args : Array Value} {below : List Frame} {meth : Method} {c : Code} {g : sn_G} {tb : Nat → sn_K} {N : Nat} {b : Nat} {st : sn_S} {o : Int32} (C : sn_Cx p s m args meth c g N cX3_isWhole 2 wsX3_isWhole yX3_isWhole.cls (some .boolean)) (hT : sn_Sh tb N b)  : ∀ (n : Nat) (x1 : Int32) (H : Heap) (locs : List Loc) (ls : Array Slot), D_X3_isWhole_L2 b st n x1 = some o → va_P g.1 vwCl (sn_W g tb N st) H → va_S (sn_A g N) s.heap H locs → lv_has ls 2 [(0, .ref (g.2.2.2 b)), (1, .int x1)] → W p l e { frames := 0, cells := 0, slots := 0, locals := 0 } s m args below meth c H locs 0 0 (MQ below (sn_Qi g tb N o st) args s 0 0 (sn_A g N)) (F0 m 2 ls []) := by
  obtain ⟨⟨hx, hb, hml, hown, hts⟩, hr, hlk, hC, hi⟩ := id C
  have hinX3 : ∀ w ∈ wsX30, w ∈ wsX3_isWhole := by decide +kernel
  intro n
  induction n with
  | zero => intro _ _ _ _ hd; exact nomatch (show (none : Option (Int32)) = some o from hd)
  | succ n ih =>
    intro x1 H locs ls hd hP hS hl
    replace hd := (D_X3_isWhole_L2.eq_2 _ _ _ _).symm.trans hd
    refine lv_iload_n hx hb dX3_isWhole_2 rfl (lv_at hl 1 rfl) ?_
    refine lv_aload_n hx hb dX3_isWhole_3 rfl (lv_at hl 0 rfl) ?_
    refine sn_get (ci := 2) (Cn := RX3) (T := TX3) (n := 3) (v := .int (st.1 b 0)) C hinX3 hP b (sn_l0 hT.1 (by decide)) hT.2.1 rfl 0 (by decide) (by decide +kernel) rfl rfl dX3_isWhole_4 ?_
    refine lv_icmp_ge (tgt := 28) hx hb dX3_isWhole_7 (by decide) (fun hc => ?_) (fun hc => ?_)
    · replace hd := (if_pos hc).symm.trans hd
      refine lv_iconst (v := (1 : Int32)) hx hb dX3_isWhole_28 (by decide) ?_
      cases hd
      exact sn_rz (Or.inr rfl) C hP hS dX3_isWhole_29
    · replace hd := (if_neg hc).symm.trans hd
      refine lv_aload_n hx hb dX3_isWhole_10 rfl (lv_at hl 0 rfl) ?_
      refine sn_get (ci := 2) (Cn := RX3) (T := TX3) (n := 3) (v := .ref (g.2.2.2 (b + 2))) C hinX3 hP b (sn_l0 hT.1 (by decide)) hT.2.1 rfl 2 (by decide) (by decide +kernel) rfl rfl dX3_isWhole_11 ?_
      refine lv_iload_n hx hb dX3_isWhole_14 rfl (lv_at hl 1 rfl) ?_
      refine sn_ald C hP (b + 2) (sn_l hT.1 (by decide)) hT.2.2.2 hd dX3_isWhole_15 (fun k1 hk1 hd => ?_)
      refine lv_iconst (v := (-1 : Int32)) hx hb dX3_isWhole_16 (by decide) ?_
      refine lv_icmp_ne (tgt := 22) hx hb dX3_isWhole_17 (by decide) (fun hc => ?_) (fun hc => ?_)
      · replace hd := (if_neg hc).symm.trans hd
        refine lv_iinc (v := (x1 + (1 : Int32))) (lv' := [(1, .int (x1 + (1 : Int32))), (0, .ref (g.2.2.2 b))]) hx hb dX3_isWhole_22 hl (k := 1) rfl rfl (by decide) rfl (fun ls hl => ?_)
        refine lv_goto (tgt := 2) hx hb dX3_isWhole_25 (by decide) ?_
        exact ih (x1 + (1 : Int32)) _ _ _ hd hP hS (lv_sub hl [1, 0] rfl)
      · replace hd := (if_pos hc).symm.trans hd
        refine lv_iconst (v := (0 : Int32)) hx hb dX3_isWhole_20 (by decide) ?_
        cases hd
        exact sn_rz (Or.inl rfl) C hP hS dX3_isWhole_21

set_option maxHeartbeats 4000000 in
set_option maxRecDepth 100000 in
theorem c_X3_isWhole {l : Launch} {g : sn_G} {tb : Nat → sn_K} {N : Nat} (hi : sn_I g N) {b : Nat} (hT : sn_Sh tb N b) {st : sn_S} {o : Int32} (hd : D_X3_isWhole b st = some o) : sn_Mi l yX3_isWhole wsX3_isWhole { frames := 0, cells := 0, slots := 0, locals := 0 } g tb N [.ref (g.2.2.2 b)] st o st := by
  refine sn_Mi.of (cc := cX3_isWhole) (nL := 2) (ret := (some .boolean)) hi (by decide) rfl (Nat.le_of_ble_eq_true rfl) ?_
  intro p e s m args below meth c ls C hP hS hl
  have hl : lv_has ls 2 [(0, .ref (g.2.2.2 b))] := hl
  obtain ⟨⟨hx, hb, hml, hown, hts⟩, hr, hlk, hC, hi⟩ := id C
  unfold D_X3_isWhole at hd
  have hinX3 : ∀ w ∈ wsX30, w ∈ wsX3_isWhole := by decide +kernel
  refine lv_iconst (v := (0 : Int32)) hx hb dX3_isWhole_0 (by decide) ?_
  refine lv_istore_n (lv' := [(1, .int (0 : Int32)), (0, .ref (g.2.2.2 b))]) hx hb dX3_isWhole_1 rfl hl (by decide) rfl (fun ls hl => ?_)
  exact t_X3_isWhole_L2 (st := st) C hT 4096 (0 : Int32) _ _ _ hd hP hS (lv_sub hl [1, 0] rfl)

set_option maxHeartbeats 4000000 in
set_option maxRecDepth 100000 in
theorem t_X3_linkCount_L4 {p : Program} {l : Launch} {e : Env} {s : State} {m : MethodId} {args : Array Value} {below : List Frame} {meth : Method} {c : Code} {g : sn_G} {tb : Nat → sn_K} {N : Nat} {b : Nat} {st : sn_S} {o : Int32} (C : sn_Cx p s m args meth c g N cX3_linkCount 3 wsX3_linkCount yX3_linkCount.cls (some .int)) (hT : sn_Sh tb N b)  : ∀ (n : Nat) (x1 : Int32) (x2 : Int32) (H : Heap) (locs : List Loc) (ls : Array Slot), D_X3_linkCount_L4 b st n x1 x2 = some o → va_P g.1 vwCl (sn_W g tb N st) H → va_S (sn_A g N) s.heap H locs → lv_has ls 3 [(0, .ref (g.2.2.2 b)), (1, .int x1), (2, .int x2)] → W p l e { frames := 1, cells := 0, slots := 0, locals := 20 } s m args below meth c H locs 0 0 (MQ below (sn_Qi g tb N o st) args s 0 0 (sn_A g N)) (F0 m 4 ls []) := by
  obtain ⟨⟨hx, hb, hml, hown, hts⟩, hr, hlk, hC, hi⟩ := id C
  have hinX3 : ∀ w ∈ wsX30, w ∈ wsX3_linkCount := by decide +kernel
  intro n
  induction n with
  | zero => intro _ _ _ _ _ hd; exact nomatch (show (none : Option (Int32)) = some o from hd)
  | succ n ih =>
    intro x1 x2 H locs ls hd hP hS hl
    replace hd := (D_X3_linkCount_L4.eq_2 _ _ _ _ _).symm.trans hd
    refine lv_iload_n hx hb dX3_linkCount_4 rfl (lv_at hl 2 rfl) ?_
    refine lv_aload_n hx hb dX3_linkCount_5 rfl (lv_at hl 0 rfl) ?_
    refine sn_get (ci := 2) (Cn := RX3) (T := TX3) (n := 3) (v := .int (st.1 b 0)) C hinX3 hP b (sn_l0 hT.1 (by decide)) hT.2.1 rfl 0 (by decide) (by decide +kernel) rfl rfl dX3_linkCount_6 ?_
    refine lv_icmp_ge (tgt := 30) hx hb dX3_linkCount_9 (by decide) (fun hc => ?_) (fun hc => ?_)
    · replace hd := (if_pos hc).symm.trans hd
      refine lv_iload_n hx hb dX3_linkCount_30 rfl (lv_at hl 1 rfl) ?_
      refine lv_iconst (v := (2 : Int32)) hx hb dX3_linkCount_31 (by decide) ?_
      refine lv_idiv hx hb dX3_linkCount_32 (by decide) ?_
      cases hd
      exact sn_ri C hP hS dX3_linkCount_33
    · replace hd := (if_neg hc).symm.trans hd
      refine lv_iload_n hx hb dX3_linkCount_12 rfl (lv_at hl 1 rfl) ?_
      refine lv_aload_n hx hb dX3_linkCount_13 rfl (lv_at hl 0 rfl) ?_
      refine sn_get (ci := 2) (Cn := RX3) (T := TX3) (n := 3) (v := .ref (g.2.2.2 (b + 1))) C hinX3 hP b (sn_l0 hT.1 (by decide)) hT.2.1 rfl 1 (by decide) (by decide +kernel) rfl rfl dX3_linkCount_14 ?_
      refine lv_iload_n hx hb dX3_linkCount_17 rfl (lv_at hl 2 rfl) ?_
      refine sn_ald C hP (b + 1) (sn_l hT.1 (by decide)) hT.2.2.1 hd dX3_linkCount_18 (fun k1 hk1 hd => ?_)
      obtain ⟨r2, hr2, hd⟩ := Option.bind_eq_some_iff.mp hd
      refine sn_Si (rest := [.int x1]) (As := [.int (st.1 (b + 1) k1)]) (st := st) C (c_J6_bitCount_0f7a4 hi  hr2) (va_cwS 1 hts gX3_linkCount_J6_bitCount_0f7a4 rfl rfl rfl (by decide +kernel) ⟨Nat.le_of_ble_eq_true rfl, Nat.le_of_ble_eq_true rfl⟩) hP hS rfl hl.1 rfl (Nat.le_of_ble_eq_true rfl) dX3_linkCount_19 (fun H locs hP hS => ?_)
      refine lv_iadd hx hb dX3_linkCount_22 ?_
      refine lv_istore_n (lv' := [(1, .int (x1 + r2)), (0, .ref (g.2.2.2 b)), (2, .int x2)]) hx hb dX3_linkCount_23 rfl hl (by decide) rfl (fun ls hl => ?_)
      refine lv_iinc (v := (x2 + (1 : Int32))) (lv' := [(2, .int (x2 + (1 : Int32))), (1, .int (x1 + r2)), (0, .ref (g.2.2.2 b))]) hx hb dX3_linkCount_24 hl (k := 2) rfl rfl (by decide) rfl (fun ls hl => ?_)
      refine lv_goto (tgt := 4) hx hb dX3_linkCount_27 (by decide) ?_
      exact ih (x1 + r2) (x2 + (1 : Int32)) _ _ _ hd hP hS (lv_sub hl [2, 1, 0] rfl)

set_option maxHeartbeats 4000000 in
set_option maxRecDepth 100000 in
theorem c_X3_linkCount {l : Launch} {g : sn_G} {tb : Nat → sn_K} {N : Nat} (hi : sn_I g N) {b : Nat} (hT : sn_Sh tb N b) {st : sn_S} {o : Int32} (hd : D_X3_linkCount b st = some o) : sn_Mi l yX3_linkCount wsX3_linkCount { frames := 1, cells := 0, slots := 0, locals := 20 } g tb N [.ref (g.2.2.2 b)] st o st := by
  refine sn_Mi.of (cc := cX3_linkCount) (nL := 3) (ret := (some .int)) hi (by decide) rfl (Nat.le_of_ble_eq_true rfl) ?_
  intro p e s m args below meth c ls C hP hS hl
  have hl : lv_has ls 3 [(0, .ref (g.2.2.2 b))] := hl
  obtain ⟨⟨hx, hb, hml, hown, hts⟩, hr, hlk, hC, hi⟩ := id C
  unfold D_X3_linkCount at hd
  have hinX3 : ∀ w ∈ wsX30, w ∈ wsX3_linkCount := by decide +kernel
  refine lv_iconst (v := (0 : Int32)) hx hb dX3_linkCount_0 (by decide) ?_
  refine lv_istore_n (lv' := [(1, .int (0 : Int32)), (0, .ref (g.2.2.2 b))]) hx hb dX3_linkCount_1 rfl hl (by decide) rfl (fun ls hl => ?_)
  refine lv_iconst (v := (0 : Int32)) hx hb dX3_linkCount_2 (by decide) ?_
  refine lv_istore_n (lv' := [(2, .int (0 : Int32)), (1, .int (0 : Int32)), (0, .ref (g.2.2.2 b))]) hx hb dX3_linkCount_3 rfl hl (by decide) rfl (fun ls hl => ?_)
  exact t_X3_linkCount_L4 (st := st) C hT 4096 (0 : Int32) (0 : Int32) _ _ _ hd hP hS (lv_sub hl [2, 1, 0] rfl)

set_option maxHeartbeats 4000000 in
set_option maxRecDepth 100000 in
theorem c_X3_greatestX {l : Launch} {g : sn_G} {tb : Nat → sn_K} {N : Nat} (hi : sn_I g N) {b : Nat} (hT : sn_Sh tb N b) {st : sn_S} {o : Int32} (hd : D_X3_greatestX b st = some o) : sn_Mi l yX3_greatestX wsX3_greatestX { frames := 0, cells := 0, slots := 0, locals := 0 } g tb N [.ref (g.2.2.2 b)] st o st := by
  refine sn_Mi.of (cc := cX3_greatestX) (nL := 1) (ret := (some .int)) hi (by decide) rfl (Nat.le_of_ble_eq_true rfl) ?_
  intro p e s m args below meth c ls C hP hS hl
  have hl : lv_has ls 1 [(0, .ref (g.2.2.2 b))] := hl
  obtain ⟨⟨hx, hb, hml, hown, hts⟩, hr, hlk, hC, hi⟩ := id C
  unfold D_X3_greatestX at hd
  have hinX3 : ∀ w ∈ wsX30, w ∈ wsX3_greatestX := by decide +kernel
  refine lv_iconst (v := (2 : Int32)) hx hb dX3_greatestX_0 (by decide) ?_
  refine lv_aload_n hx hb dX3_greatestX_1 rfl (lv_at hl 0 rfl) ?_
  refine sn_get (ci := 2) (Cn := RX3) (T := TX3) (n := 3) (v := .int (st.1 b 0)) C hinX3 hP b (sn_l0 hT.1 (by decide)) hT.2.1 rfl 0 (by decide) (by decide +kernel) rfl rfl dX3_greatestX_2 ?_
  refine lv_imul hx hb dX3_greatestX_5 ?_
  cases hd
  exact sn_ri C hP hS dX3_greatestX_6

set_option maxHeartbeats 4000000 in
set_option maxRecDepth 100000 in
theorem c_X3_countsAs {l : Launch} {g : sn_G} {tb : Nat → sn_K} {N : Nat} (hi : sn_I g N) {b : Nat} {x1 : Int32} {x2 : Int32} {x3 : Int32} (hT : sn_Sh tb N b) {st : sn_S} {o : Int32} (hd : D_X3_countsAs b x1 x2 x3 st = some o) : sn_Mi l yX3_countsAs wsX3_countsAs { frames := 1, cells := 0, slots := 0, locals := 21 } g tb N [.ref (g.2.2.2 b), .int x1, .int x2, .int x3] st o st := by
  refine sn_Mi.of (cc := cX3_countsAs) (nL := 4) (ret := (some .int)) hi (by decide) rfl (Nat.le_of_ble_eq_true rfl) ?_
  intro p e s m args below meth c ls C hP hS hl
  have hl : lv_has ls 4 [(0, .ref (g.2.2.2 b)), (1, .int x1), (2, .int x2), (3, .int x3)] := hl
  obtain ⟨⟨hx, hb, hml, hown, hts⟩, hr, hlk, hC, hi⟩ := id C
  unfold D_X3_countsAs at hd
  have hinX3 : ∀ w ∈ wsX30, w ∈ wsX3_countsAs := by decide +kernel
  refine lv_iload_n hx hb dX3_countsAs_0 rfl (lv_at hl 2 rfl) ?_
  by_cases hs1_0 : x2 = (0 : Int32)
  · replace hd := (if_pos hs1_0).symm.trans hd
    refine lv_tableIn (off := 35) (tgt := 36) hx hb dX3_countsAs_1 (by rw [hs1_0]; decide) (by rw [hs1_0]; decide) (by rw [hs1_0]; rfl) (by decide) ?_
    refine lv_iload_n hx hb dX3_countsAs_36 rfl (lv_at hl 3 rfl) ?_
    refine lv_if_lt (tgt := 52) hx hb dX3_countsAs_37 (by decide) (fun hc => ?_) (fun hc => ?_)
    · replace hd := (if_pos hc).symm.trans hd
      refine lv_aload_n hx hb dX3_countsAs_52 rfl (lv_at hl 0 rfl) ?_
      refine sn_get (ci := 2) (Cn := RX3) (T := TX3) (n := 3) (v := .int (st.1 b 0)) C hinX3 hP b (sn_l0 hT.1 (by decide)) hT.2.1 rfl 0 (by decide) (by decide +kernel) rfl rfl dX3_countsAs_53 ?_
      cases hd
      exact sn_ri C hP hS dX3_countsAs_56
    · replace hd := (if_neg hc).symm.trans hd
      refine lv_iload_n hx hb dX3_countsAs_40 rfl (lv_at hl 3 rfl) ?_
      refine lv_aload_n hx hb dX3_countsAs_41 rfl (lv_at hl 0 rfl) ?_
      refine sn_get (ci := 2) (Cn := RX3) (T := TX3) (n := 3) (v := .int (st.1 b 0)) C hinX3 hP b (sn_l0 hT.1 (by decide)) hT.2.1 rfl 0 (by decide) (by decide +kernel) rfl rfl dX3_countsAs_42 ?_
      refine lv_icmp_gt (tgt := 52) hx hb dX3_countsAs_45 (by decide) (fun hc => ?_) (fun hc => ?_)
      · replace hd := (if_pos hc).symm.trans hd
        refine lv_aload_n hx hb dX3_countsAs_52 rfl (lv_at hl 0 rfl) ?_
        refine sn_get (ci := 2) (Cn := RX3) (T := TX3) (n := 3) (v := .int (st.1 b 0)) C hinX3 hP b (sn_l0 hT.1 (by decide)) hT.2.1 rfl 0 (by decide) (by decide +kernel) rfl rfl dX3_countsAs_53 ?_
        cases hd
        exact sn_ri C hP hS dX3_countsAs_56
      · replace hd := (if_neg hc).symm.trans hd
        refine lv_iload_n hx hb dX3_countsAs_48 rfl (lv_at hl 3 rfl) ?_
        refine lv_goto (tgt := 56) hx hb dX3_countsAs_49 (by decide) ?_
        cases hd
        exact sn_ri C hP hS dX3_countsAs_56
  replace hd := (if_neg hs1_0).symm.trans hd
  by_cases hs1_1 : x2 = (1 : Int32)
  · replace hd := (if_pos hs1_1).symm.trans hd
    refine lv_tableIn (off := 56) (tgt := 57) hx hb dX3_countsAs_1 (by rw [hs1_1]; decide) (by rw [hs1_1]; decide) (by rw [hs1_1]; rfl) (by decide) ?_
    refine lv_aload_n hx hb dX3_countsAs_57 rfl (lv_at hl 0 rfl) ?_
    refine lv_iload_n hx hb dX3_countsAs_58 rfl (lv_at hl 3 rfl) ?_
    obtain ⟨r1, hr1, hd⟩ := Option.bind_eq_some_iff.mp hd
    refine sn_Vi (b := b) (rest := []) (As := [.int x3]) (st := st) C (c_X3_isNode hi hT hr1) (cwV 1 hts gX3_countsAs_X3_isNode rfl rfl rfl (by decide +kernel) ⟨Nat.le_of_ble_eq_true rfl, Nat.le_of_ble_eq_true rfl⟩) hP hS (sn_l0 hT.1 (by decide)) hT.2.1 rfl rfl hl.1 rfl (Nat.le_of_ble_eq_true rfl) dX3_countsAs_59 (fun H locs hP hS => ?_)
    refine lv_if_eq (tgt := 82) hx hb dX3_countsAs_62 (by decide) (fun hc => ?_) (fun hc => ?_)
    · replace hd := (if_pos hc).symm.trans hd
      refine lv_iconst (v := (-1 : Int32)) hx hb dX3_countsAs_82 (by decide) ?_
      cases hd
      exact sn_ri C hP hS dX3_countsAs_83
    · replace hd := (if_neg hc).symm.trans hd
      refine lv_aload_n hx hb dX3_countsAs_65 rfl (lv_at hl 0 rfl) ?_
      refine sn_get (ci := 2) (Cn := RX3) (T := TX3) (n := 3) (v := .ref (g.2.2.2 (b + 1))) C hinX3 hP b (sn_l0 hT.1 (by decide)) hT.2.1 rfl 1 (by decide) (by decide +kernel) rfl rfl dX3_countsAs_66 ?_
      refine lv_iload_n hx hb dX3_countsAs_69 rfl (lv_at hl 1 rfl) ?_
      refine sn_ald C hP (b + 1) (sn_l hT.1 (by decide)) hT.2.2.1 hd dX3_countsAs_70 (fun k2 hk2 hd => ?_)
      refine lv_iload_n hx hb dX3_countsAs_71 rfl (lv_at hl 3 rfl) ?_
      obtain ⟨r3, hr3, hd⟩ := Option.bind_eq_some_iff.mp hd
      refine sn_Ni (host := RX5) (rest := []) (As := [.int (st.1 (b + 1) k2), .int x3]) (st := st) C (c_X5_has hi  hr3) ⟨va_cnB 2 hts gX3_countsAs_X5_has_n43 rfl rfl rfl (hC.2 _ (by decide +kernel)) (hts (.initialized RX5) (by decide +kernel)) (by decide +kernel) ⟨Nat.le_of_ble_eq_true rfl, Nat.le_of_ble_eq_true rfl⟩, hts (.static yX5_has) (by decide +kernel), trivial⟩ hP hS rfl hl.1 rfl (Nat.le_of_ble_eq_true rfl) dX3_countsAs_72 (fun H locs hP hS => ?_)
      refine lv_if_eq (tgt := 82) hx hb dX3_countsAs_75 (by decide) (fun hc => ?_) (fun hc => ?_)
      · replace hd := (if_pos hc).symm.trans hd
        refine lv_iconst (v := (-1 : Int32)) hx hb dX3_countsAs_82 (by decide) ?_
        cases hd
        exact sn_ri C hP hS dX3_countsAs_83
      · replace hd := (if_neg hc).symm.trans hd
        refine lv_iload_n hx hb dX3_countsAs_78 rfl (lv_at hl 3 rfl) ?_
        refine lv_goto (tgt := 83) hx hb dX3_countsAs_79 (by decide) ?_
        cases hd
        exact sn_ri C hP hS dX3_countsAs_83
  replace hd := (if_neg hs1_1).symm.trans hd
  by_cases hs1_2 : x2 = (2 : Int32)
  · replace hd := (if_pos hs1_2).symm.trans hd
    refine lv_tableIn (off := 83) (tgt := 84) hx hb dX3_countsAs_1 (by rw [hs1_2]; decide) (by rw [hs1_2]; decide) (by rw [hs1_2]; rfl) (by decide) ?_
    refine lv_iload_n hx hb dX3_countsAs_84 rfl (lv_at hl 3 rfl) ?_
    refine lv_if_lt (tgt := 97) hx hb dX3_countsAs_85 (by decide) (fun hc => ?_) (fun hc => ?_)
    · replace hd := (if_pos hc).symm.trans hd
      refine lv_iconst (v := (0 : Int32)) hx hb dX3_countsAs_97 (by decide) ?_
      cases hd
      exact sn_ri C hP hS dX3_countsAs_98
    · replace hd := (if_neg hc).symm.trans hd
      refine lv_iload_n hx hb dX3_countsAs_88 rfl (lv_at hl 3 rfl) ?_
      refine lv_iconst (v := (2 : Int32)) hx hb dX3_countsAs_89 (by decide) ?_
      refine lv_icmp_gt (tgt := 97) hx hb dX3_countsAs_90 (by decide) (fun hc => ?_) (fun hc => ?_)
      · replace hd := (if_pos hc).symm.trans hd
        refine lv_iconst (v := (0 : Int32)) hx hb dX3_countsAs_97 (by decide) ?_
        cases hd
        exact sn_ri C hP hS dX3_countsAs_98
      · replace hd := (if_neg hc).symm.trans hd
        refine lv_iload_n hx hb dX3_countsAs_93 rfl (lv_at hl 3 rfl) ?_
        refine lv_goto (tgt := 98) hx hb dX3_countsAs_94 (by decide) ?_
        cases hd
        exact sn_ri C hP hS dX3_countsAs_98
  replace hd := (if_neg hs1_2).symm.trans hd
  by_cases hs1_3 : x2 = (3 : Int32)
  · replace hd := (if_pos hs1_3).symm.trans hd
    refine lv_tableIn (off := 98) (tgt := 99) hx hb dX3_countsAs_1 (by rw [hs1_3]; decide) (by rw [hs1_3]; decide) (by rw [hs1_3]; rfl) (by decide) ?_
    refine lv_iload_n hx hb dX3_countsAs_99 rfl (lv_at hl 3 rfl) ?_
    cases hd
    exact sn_ri C hP hS dX3_countsAs_100
  replace hd := (if_neg hs1_3).symm.trans hd
  by_cases hs1_4 : x2 = (4 : Int32)
  · replace hd := (if_pos hs1_4).symm.trans hd
    refine lv_tableIn (off := 98) (tgt := 99) hx hb dX3_countsAs_1 (by rw [hs1_4]; decide) (by rw [hs1_4]; decide) (by rw [hs1_4]; rfl) (by decide) ?_
    refine lv_iload_n hx hb dX3_countsAs_99 rfl (lv_at hl 3 rfl) ?_
    cases hd
    exact sn_ri C hP hS dX3_countsAs_100
  replace hd := (if_neg hs1_4).symm.trans hd
  refine lv_tableOut (tgt := 101) hx hb dX3_countsAs_1 (by have q0 := lv_neT (a := 0) hs1_0 (by decide); have q1 := lv_neT (a := 1) hs1_1 (by decide); have q2 := lv_neT (a := 2) hs1_2 (by decide); have q3 := lv_neT (a := 3) hs1_3 (by decide); have q4 := lv_neT (a := 4) hs1_4 (by decide); omega) (by decide) ?_
  refine lv_iload_n hx hb dX3_countsAs_101 rfl (lv_at hl 3 rfl) ?_
  refine lv_if_lt (tgt := 117) hx hb dX3_countsAs_102 (by decide) (fun hc => ?_) (fun hc => ?_)
  · replace hd := (if_pos hc).symm.trans hd
    refine lv_iconst (v := (0 : Int32)) hx hb dX3_countsAs_117 (by decide) ?_
    cases hd
    exact sn_ri C hP hS dX3_countsAs_118
  · replace hd := (if_neg hc).symm.trans hd
    refine lv_iload_n hx hb dX3_countsAs_105 rfl (lv_at hl 3 rfl) ?_
    refine lv_aload_n hx hb dX3_countsAs_106 rfl (lv_at hl 0 rfl) ?_
    obtain ⟨r4, hr4, hd⟩ := Option.bind_eq_some_iff.mp hd
    refine sn_Vi (b := b) (rest := [.int x3]) (As := []) (st := st) C (c_X3_greatestX hi hT hr4) (cwV 0 hts gX3_countsAs_X3_greatestX rfl rfl rfl (by decide +kernel) ⟨Nat.le_of_ble_eq_true rfl, Nat.le_of_ble_eq_true rfl⟩) hP hS (sn_l0 hT.1 (by decide)) hT.2.1 rfl rfl hl.1 rfl (Nat.le_of_ble_eq_true rfl) dX3_countsAs_107 (fun H locs hP hS => ?_)
    refine lv_icmp_gt (tgt := 117) hx hb dX3_countsAs_110 (by decide) (fun hc => ?_) (fun hc => ?_)
    · replace hd := (if_pos hc).symm.trans hd
      refine lv_iconst (v := (0 : Int32)) hx hb dX3_countsAs_117 (by decide) ?_
      cases hd
      exact sn_ri C hP hS dX3_countsAs_118
    · replace hd := (if_neg hc).symm.trans hd
      refine lv_iload_n hx hb dX3_countsAs_113 rfl (lv_at hl 3 rfl) ?_
      refine lv_goto (tgt := 118) hx hb dX3_countsAs_114 (by decide) ?_
      cases hd
      exact sn_ri C hP hS dX3_countsAs_118

set_option maxHeartbeats 4000000 in
set_option maxRecDepth 100000 in
theorem c_X3_slotOf {l : Launch} {g : sn_G} {tb : Nat → sn_K} {N : Nat} (hi : sn_I g N) {b : Nat} {x1 : Int32} {x2 : Int32} (hT : sn_Sh tb N b) {st : sn_S} {o : Int32} (hd : D_X3_slotOf b x1 x2 st = some o) : sn_Mi l yX3_slotOf wsX3_slotOf { frames := 2, cells := 0, slots := 0, locals := 44 } g tb N [.ref (g.2.2.2 b), .int x1, .int x2] st o st := by
  refine sn_Mi.of (cc := cX3_slotOf) (nL := 4) (ret := (some .int)) hi (by decide) rfl (Nat.le_of_ble_eq_true rfl) ?_
  intro p e s m args below meth c ls C hP hS hl
  have hl : lv_has ls 4 [(0, .ref (g.2.2.2 b)), (1, .int x1), (2, .int x2)] := hl
  obtain ⟨⟨hx, hb, hml, hown, hts⟩, hr, hlk, hC, hi⟩ := id C
  unfold D_X3_slotOf at hd
  have hinX3 : ∀ w ∈ wsX30, w ∈ wsX3_slotOf := by decide +kernel
  refine lv_iload_n hx hb dX3_slotOf_0 rfl (lv_at hl 2 rfl) ?_
  refine lv_iconst (v := (5 : Int32)) hx hb dX3_slotOf_1 (by decide) ?_
  refine lv_icmp_ge (tgt := 15) hx hb dX3_slotOf_2 (by decide) (fun hc => ?_) (fun hc => ?_)
  · replace hd := (if_pos hc).symm.trans hd
    refine lv_aload_n hx hb dX3_slotOf_15 rfl (lv_at hl 0 rfl) ?_
    refine sn_get (ci := 2) (Cn := RX3) (T := TX3) (n := 3) (v := .ref (g.2.2.2 (b + 1))) C hinX3 hP b (sn_l0 hT.1 (by decide)) hT.2.1 rfl 1 (by decide) (by decide +kernel) rfl rfl dX3_slotOf_16 ?_
    refine lv_iload_n hx hb dX3_slotOf_19 rfl (lv_at hl 1 rfl) ?_
    refine sn_ald C hP (b + 1) (sn_l hT.1 (by decide)) hT.2.2.1 hd dX3_slotOf_20 (fun k1 hk1 hd => ?_)
    refine lv_iload_n hx hb dX3_slotOf_21 rfl (lv_at hl 2 rfl) ?_
    refine lv_iconst (v := (5 : Int32)) hx hb dX3_slotOf_22 (by decide) ?_
    refine lv_isub hx hb dX3_slotOf_23 ?_
    obtain ⟨r2, hr2, hd⟩ := Option.bind_eq_some_iff.mp hd
    refine sn_Ni (host := RX5) (rest := []) (As := [.int (st.1 (b + 1) k1), .int (x2 - (5 : Int32))]) (st := st) C (c_X5_pick hi  hr2) ⟨va_cnB 2 hts gX3_slotOf_X5_pick_n47 rfl rfl rfl (hC.2 _ (by decide +kernel)) (hts (.initialized RX5) (by decide +kernel)) (by decide +kernel) ⟨Nat.le_of_ble_eq_true rfl, Nat.le_of_ble_eq_true rfl⟩, hts (.static yX5_pick) (by decide +kernel), trivial⟩ hP hS rfl hl.1 rfl (Nat.le_of_ble_eq_true rfl) dX3_slotOf_24 (fun H locs hP hS => ?_)
    refine lv_istore_n (lv' := [(3, .int r2), (0, .ref (g.2.2.2 b)), (1, .int x1), (2, .int x2)]) hx hb dX3_slotOf_27 rfl hl (by decide) rfl (fun ls hl => ?_)
    refine lv_iload_n hx hb dX3_slotOf_28 rfl (lv_at hl 0 rfl) ?_
    refine lv_iconst (v := (-1 : Int32)) hx hb dX3_slotOf_29 (by decide) ?_
    refine lv_icmp_ne (tgt := 37) hx hb dX3_slotOf_30 (by decide) (fun hc => ?_) (fun hc => ?_)
    · replace hd := (if_neg hc).symm.trans hd
      refine lv_iconst (v := (5 : Int32)) hx hb dX3_slotOf_37 (by decide) ?_
      refine lv_iload_n hx hb dX3_slotOf_38 rfl (lv_at hl 0 rfl) ?_
      refine lv_iadd hx hb dX3_slotOf_39 ?_
      cases hd
      exact sn_ri C hP hS dX3_slotOf_40
    · replace hd := (if_pos hc).symm.trans hd
      refine lv_iconst (v := (-1 : Int32)) hx hb dX3_slotOf_33 (by decide) ?_
      refine lv_goto (tgt := 40) hx hb dX3_slotOf_34 (by decide) ?_
      cases hd
      exact sn_ri C hP hS dX3_slotOf_40
  · replace hd := (if_neg hc).symm.trans hd
    refine lv_iload_n hx hb dX3_slotOf_5 rfl (lv_at hl 2 rfl) ?_
    refine lv_if_ge (tgt := 13) hx hb dX3_slotOf_6 (by decide) (fun hc => ?_) (fun hc => ?_)
    · replace hd := (if_pos hc).symm.trans hd
      refine lv_iload_n hx hb dX3_slotOf_13 rfl (lv_at hl 2 rfl) ?_
      cases hd
      exact sn_ri C hP hS dX3_slotOf_14
    · replace hd := (if_neg hc).symm.trans hd
      refine lv_iconst (v := (-1 : Int32)) hx hb dX3_slotOf_9 (by decide) ?_
      refine lv_goto (tgt := 14) hx hb dX3_slotOf_10 (by decide) ?_
      cases hd
      exact sn_ri C hP hS dX3_slotOf_14

set_option maxHeartbeats 4000000 in
set_option maxRecDepth 100000 in
theorem t_X3_around_L4 {p : Program} {l : Launch} {e : Env} {s : State} {m : MethodId} {args : Array Value} {below : List Frame} {meth : Method} {c : Code} {g : sn_G} {tb : Nat → sn_K} {N : Nat} {b : Nat} {x1 : Int32} {st : sn_S} {o : Int32} (C : sn_Cx p s m args meth c g N cX3_around 4 wsX3_around yX3_around.cls (some .int)) (hT : sn_Sh tb N b)  : ∀ (n : Nat) (x2 : Int32) (x3 : Int32) (H : Heap) (locs : List Loc) (ls : Array Slot), D_X3_around_L4 b x1 st n x2 x3 = some o → va_P g.1 vwCl (sn_W g tb N st) H → va_S (sn_A g N) s.heap H locs → lv_has ls 4 [(0, .ref (g.2.2.2 b)), (1, .int x1), (2, .int x2), (3, .int x3)] → W p l e { frames := 1, cells := 0, slots := 0, locals := 21 } s m args below meth c H locs 0 0 (MQ below (sn_Qi g tb N o st) args s 0 0 (sn_A g N)) (F0 m 4 ls []) := by
  obtain ⟨⟨hx, hb, hml, hown, hts⟩, hr, hlk, hC, hi⟩ := id C
  have hinX3 : ∀ w ∈ wsX30, w ∈ wsX3_around := by decide +kernel
  intro n
  induction n with
  | zero => intro _ _ _ _ _ hd; exact nomatch (show (none : Option (Int32)) = some o from hd)
  | succ n ih =>
    intro x2 x3 H locs ls hd hP hS hl
    replace hd := (D_X3_around_L4.eq_2 _ _ _ _ _ _).symm.trans hd
    refine lv_iload_n hx hb dX3_around_4 rfl (lv_at hl 3 rfl) ?_
    refine lv_aload_n hx hb dX3_around_5 rfl (lv_at hl 0 rfl) ?_
    refine sn_get (ci := 2) (Cn := RX3) (T := TX3) (n := 3) (v := .int (st.1 b 0)) C hinX3 hP b (sn_l0 hT.1 (by decide)) hT.2.1 rfl 0 (by decide) (by decide +kernel) rfl rfl dX3_around_6 ?_
    refine lv_icmp_ge (tgt := 35) hx hb dX3_around_9 (by decide) (fun hc => ?_) (fun hc => ?_)
    · replace hd := (if_pos hc).symm.trans hd
      refine lv_iload_n hx hb dX3_around_35 rfl (lv_at hl 2 rfl) ?_
      cases hd
      exact sn_ri C hP hS dX3_around_36
    · replace hd := (if_neg hc).symm.trans hd
      refine lv_iload_n hx hb dX3_around_12 rfl (lv_at hl 1 rfl) ?_
      refine lv_iload_n hx hb dX3_around_13 rfl (lv_at hl 3 rfl) ?_
      obtain ⟨r1, hr1, hd⟩ := Option.bind_eq_some_iff.mp hd
      refine sn_Ni (host := RX5) (rest := []) (As := [.int x1, .int x3]) (st := st) C (c_X5_has hi  hr1) ⟨va_cnB 2 hts gX3_around_X5_has_n43 rfl rfl rfl (hC.2 _ (by decide +kernel)) (hts (.initialized RX5) (by decide +kernel)) (by decide +kernel) ⟨Nat.le_of_ble_eq_true rfl, Nat.le_of_ble_eq_true rfl⟩, hts (.static yX5_has) (by decide +kernel), trivial⟩ hP hS rfl hl.1 rfl (Nat.le_of_ble_eq_true rfl) dX3_around_14 (fun H locs hP hS => ?_)
      refine lv_if_eq (tgt := 29) hx hb dX3_around_17 (by decide) (fun hc => ?_) (fun hc => ?_)
      · replace hd := (if_pos hc).symm.trans hd
        refine lv_iinc (v := (x3 + (1 : Int32))) (lv' := [(3, .int (x3 + (1 : Int32))), (0, .ref (g.2.2.2 b)), (1, .int x1), (2, .int x2)]) hx hb dX3_around_29 hl (k := 3) rfl rfl (by decide) rfl (fun ls hl => ?_)
        refine lv_goto (tgt := 4) hx hb dX3_around_32 (by decide) ?_
        exact ih x2 (x3 + (1 : Int32)) _ _ _ hd hP hS (lv_sub hl [1, 2, 3, 0] rfl)
      · replace hd := (if_neg hc).symm.trans hd
        refine lv_iload_n hx hb dX3_around_20 rfl (lv_at hl 2 rfl) ?_
        refine lv_aload_n hx hb dX3_around_21 rfl (lv_at hl 0 rfl) ?_
        refine sn_get (ci := 2) (Cn := RX3) (T := TX3) (n := 3) (v := .ref (g.2.2.2 (b + 1))) C hinX3 hP b (sn_l0 hT.1 (by decide)) hT.2.1 rfl 1 (by decide) (by decide +kernel) rfl rfl dX3_around_22 ?_
        refine lv_iload_n hx hb dX3_around_25 rfl (lv_at hl 3 rfl) ?_
        refine sn_ald C hP (b + 1) (sn_l hT.1 (by decide)) hT.2.2.1 hd dX3_around_26 (fun k2 hk2 hd => ?_)
        refine lv_ior hx hb dX3_around_27 ?_
        refine lv_istore_n (lv' := [(2, .int (x2 ||| (st.1 (b + 1) k2))), (0, .ref (g.2.2.2 b)), (1, .int x1), (3, .int x3)]) hx hb dX3_around_28 rfl hl (by decide) rfl (fun ls hl => ?_)
        refine lv_iinc (v := (x3 + (1 : Int32))) (lv' := [(3, .int (x3 + (1 : Int32))), (2, .int (x2 ||| (st.1 (b + 1) k2))), (0, .ref (g.2.2.2 b)), (1, .int x1)]) hx hb dX3_around_29 hl (k := 3) rfl rfl (by decide) rfl (fun ls hl => ?_)
        refine lv_goto (tgt := 4) hx hb dX3_around_32 (by decide) ?_
        exact ih (x2 ||| (st.1 (b + 1) k2)) (x3 + (1 : Int32)) _ _ _ hd hP hS (lv_sub hl [2, 3, 1, 0] rfl)

set_option maxHeartbeats 4000000 in
set_option maxRecDepth 100000 in
theorem c_X3_around {l : Launch} {g : sn_G} {tb : Nat → sn_K} {N : Nat} (hi : sn_I g N) {b : Nat} {x1 : Int32} (hT : sn_Sh tb N b) {st : sn_S} {o : Int32} (hd : D_X3_around b x1 st = some o) : sn_Mi l yX3_around wsX3_around { frames := 1, cells := 0, slots := 0, locals := 21 } g tb N [.ref (g.2.2.2 b), .int x1] st o st := by
  refine sn_Mi.of (cc := cX3_around) (nL := 4) (ret := (some .int)) hi (by decide) rfl (Nat.le_of_ble_eq_true rfl) ?_
  intro p e s m args below meth c ls C hP hS hl
  have hl : lv_has ls 4 [(0, .ref (g.2.2.2 b)), (1, .int x1)] := hl
  obtain ⟨⟨hx, hb, hml, hown, hts⟩, hr, hlk, hC, hi⟩ := id C
  unfold D_X3_around at hd
  have hinX3 : ∀ w ∈ wsX30, w ∈ wsX3_around := by decide +kernel
  refine lv_iload_n hx hb dX3_around_0 rfl (lv_at hl 1 rfl) ?_
  refine lv_istore_n (lv' := [(2, .int x1), (0, .ref (g.2.2.2 b)), (1, .int x1)]) hx hb dX3_around_1 rfl hl (by decide) rfl (fun ls hl => ?_)
  refine lv_iconst (v := (0 : Int32)) hx hb dX3_around_2 (by decide) ?_
  refine lv_istore_n (lv' := [(3, .int (0 : Int32)), (2, .int x1), (0, .ref (g.2.2.2 b)), (1, .int x1)]) hx hb dX3_around_3 rfl hl (by decide) rfl (fun ls hl => ?_)
  exact t_X3_around_L4 (st := st) C hT 4096 x1 (0 : Int32) _ _ _ hd hP hS (lv_sub hl [2, 3, 1, 0] rfl)

set_option maxHeartbeats 4000000 in
set_option maxRecDepth 100000 in
theorem t_X3_nearer_L8 {p : Program} {l : Launch} {e : Env} {s : State} {m : MethodId} {args : Array Value} {below : List Frame} {meth : Method} {c : Code} {g : sn_G} {tb : Nat → sn_K} {N : Nat} {b : Nat} {x1 : Int32} {st : sn_S} {o : Int32} (C : sn_Cx p s m args meth c g N cX3_nearer 3 wsX3_nearer yX3_nearer.cls (some .int)) (hT : sn_Sh tb N b)  : ∀ (n : Nat) (x2 : Int32) (H : Heap) (locs : List Loc) (ls : Array Slot), D_X3_nearer_L8 b x1 st n x2 = some o → va_P g.1 vwCl (sn_W g tb N st) H → va_S (sn_A g N) s.heap H locs → lv_has ls 3 [(0, .ref (g.2.2.2 b)), (1, .int x1), (2, .int x2)] → W p l e { frames := 1, cells := 0, slots := 0, locals := 21 } s m args below meth c H locs 0 0 (MQ below (sn_Qi g tb N o st) args s 0 0 (sn_A g N)) (F0 m 8 ls []) := by
  obtain ⟨⟨hx, hb, hml, hown, hts⟩, hr, hlk, hC, hi⟩ := id C
  have hinX3 : ∀ w ∈ wsX30, w ∈ wsX3_nearer := by decide +kernel
  intro n
  induction n with
  | zero => intro _ _ _ _ hd; exact nomatch (show (none : Option (Int32)) = some o from hd)
  | succ n ih =>
    intro x2 H locs ls hd hP hS hl
    replace hd := (D_X3_nearer_L8.eq_2 _ _ _ _ _).symm.trans hd
    refine lv_iload_n hx hb dX3_nearer_8 rfl (lv_at hl 2 rfl) ?_
    refine lv_aload_n hx hb dX3_nearer_9 rfl (lv_at hl 0 rfl) ?_
    refine sn_get (ci := 2) (Cn := RX3) (T := TX3) (n := 3) (v := .int (st.1 b 0)) C hinX3 hP b (sn_l0 hT.1 (by decide)) hT.2.1 rfl 0 (by decide) (by decide +kernel) rfl rfl dX3_nearer_10 ?_
    refine lv_icmp_ge (tgt := 54) hx hb dX3_nearer_13 (by decide) (fun hc => ?_) (fun hc => ?_)
    · replace hd := (if_pos hc).symm.trans hd
      refine lv_iconst (v := (-1 : Int32)) hx hb dX3_nearer_54 (by decide) ?_
      cases hd
      exact sn_ri C hP hS dX3_nearer_55
    · replace hd := (if_neg hc).symm.trans hd
      refine lv_aload_n hx hb dX3_nearer_16 rfl (lv_at hl 0 rfl) ?_
      refine sn_get (ci := 2) (Cn := RX3) (T := TX3) (n := 3) (v := .ref (g.2.2.2 (b + 1))) C hinX3 hP b (sn_l0 hT.1 (by decide)) hT.2.1 rfl 1 (by decide) (by decide +kernel) rfl rfl dX3_nearer_17 ?_
      refine lv_iload_n hx hb dX3_nearer_20 rfl (lv_at hl 1 rfl) ?_
      refine sn_ald C hP (b + 1) (sn_l hT.1 (by decide)) hT.2.2.1 hd dX3_nearer_21 (fun k1 hk1 hd => ?_)
      refine lv_iload_n hx hb dX3_nearer_22 rfl (lv_at hl 2 rfl) ?_
      obtain ⟨r2, hr2, hd⟩ := Option.bind_eq_some_iff.mp hd
      refine sn_Ni (host := RX5) (rest := []) (As := [.int (st.1 (b + 1) k1), .int x2]) (st := st) C (c_X5_has hi  hr2) ⟨va_cnB 2 hts gX3_nearer_X5_has_n43 rfl rfl rfl (hC.2 _ (by decide +kernel)) (hts (.initialized RX5) (by decide +kernel)) (by decide +kernel) ⟨Nat.le_of_ble_eq_true rfl, Nat.le_of_ble_eq_true rfl⟩, hts (.static yX5_has) (by decide +kernel), trivial⟩ hP hS rfl hl.1 rfl (Nat.le_of_ble_eq_true rfl) dX3_nearer_23 (fun H locs hP hS => ?_)
      refine lv_if_eq (tgt := 48) hx hb dX3_nearer_26 (by decide) (fun hc => ?_) (fun hc => ?_)
      · replace hd := (if_pos hc).symm.trans hd
        refine lv_iinc (v := (x2 + (1 : Int32))) (lv' := [(2, .int (x2 + (1 : Int32))), (0, .ref (g.2.2.2 b)), (1, .int x1)]) hx hb dX3_nearer_48 hl (k := 2) rfl rfl (by decide) rfl (fun ls hl => ?_)
        refine lv_goto (tgt := 8) hx hb dX3_nearer_51 (by decide) ?_
        exact ih (x2 + (1 : Int32)) _ _ _ hd hP hS (lv_sub hl [1, 2, 0] rfl)
      · replace hd := (if_neg hc).symm.trans hd
        refine lv_aload_n hx hb dX3_nearer_29 rfl (lv_at hl 0 rfl) ?_
        refine sn_get (ci := 2) (Cn := RX3) (T := TX3) (n := 3) (v := .ref (g.2.2.2 (b + 2))) C hinX3 hP b (sn_l0 hT.1 (by decide)) hT.2.1 rfl 2 (by decide) (by decide +kernel) rfl rfl dX3_nearer_30 ?_
        refine lv_iload_n hx hb dX3_nearer_33 rfl (lv_at hl 2 rfl) ?_
        refine sn_ald C hP (b + 2) (sn_l hT.1 (by decide)) hT.2.2.2 hd dX3_nearer_34 (fun k3 hk3 hd => ?_)
        refine lv_aload_n hx hb dX3_nearer_35 rfl (lv_at hl 0 rfl) ?_
        refine sn_get (ci := 2) (Cn := RX3) (T := TX3) (n := 3) (v := .ref (g.2.2.2 (b + 2))) C hinX3 hP b (sn_l0 hT.1 (by decide)) hT.2.1 rfl 2 (by decide) (by decide +kernel) rfl rfl dX3_nearer_36 ?_
        refine lv_iload_n hx hb dX3_nearer_39 rfl (lv_at hl 1 rfl) ?_
        refine sn_ald C hP (b + 2) (sn_l hT.1 (by decide)) hT.2.2.2 hd dX3_nearer_40 (fun k4 hk4 hd => ?_)
        refine lv_iconst (v := (1 : Int32)) hx hb dX3_nearer_41 (by decide) ?_
        refine lv_isub hx hb dX3_nearer_42 ?_
        refine lv_icmp_ne (tgt := 48) hx hb dX3_nearer_43 (by decide) (fun hc => ?_) (fun hc => ?_)
        · replace hd := (if_neg hc).symm.trans hd
          refine lv_iinc (v := (x2 + (1 : Int32))) (lv' := [(2, .int (x2 + (1 : Int32))), (0, .ref (g.2.2.2 b)), (1, .int x1)]) hx hb dX3_nearer_48 hl (k := 2) rfl rfl (by decide) rfl (fun ls hl => ?_)
          refine lv_goto (tgt := 8) hx hb dX3_nearer_51 (by decide) ?_
          exact ih (x2 + (1 : Int32)) _ _ _ hd hP hS (lv_sub hl [1, 2, 0] rfl)
        · replace hd := (if_pos hc).symm.trans hd
          refine lv_iload_n hx hb dX3_nearer_46 rfl (lv_at hl 2 rfl) ?_
          cases hd
          exact sn_ri C hP hS dX3_nearer_47

set_option maxHeartbeats 4000000 in
set_option maxRecDepth 100000 in
theorem c_X3_nearer {l : Launch} {g : sn_G} {tb : Nat → sn_K} {N : Nat} (hi : sn_I g N) {b : Nat} {x1 : Int32} (hT : sn_Sh tb N b) {st : sn_S} {o : Int32} (hd : D_X3_nearer b x1 st = some o) : sn_Mi l yX3_nearer wsX3_nearer { frames := 1, cells := 0, slots := 0, locals := 21 } g tb N [.ref (g.2.2.2 b), .int x1] st o st := by
  refine sn_Mi.of (cc := cX3_nearer) (nL := 3) (ret := (some .int)) hi (by decide) rfl (Nat.le_of_ble_eq_true rfl) ?_
  intro p e s m args below meth c ls C hP hS hl
  have hl : lv_has ls 3 [(0, .ref (g.2.2.2 b)), (1, .int x1)] := hl
  obtain ⟨⟨hx, hb, hml, hown, hts⟩, hr, hlk, hC, hi⟩ := id C
  unfold D_X3_nearer at hd
  have hinX3 : ∀ w ∈ wsX30, w ∈ wsX3_nearer := by decide +kernel
  refine lv_iload_n hx hb dX3_nearer_0 rfl (lv_at hl 1 rfl) ?_
  refine lv_if_ne (tgt := 6) hx hb dX3_nearer_1 (by decide) (fun hc => ?_) (fun hc => ?_)
  · replace hd := (if_neg hc).symm.trans hd
    refine lv_iconst (v := (0 : Int32)) hx hb dX3_nearer_6 (by decide) ?_
    refine lv_istore_n (lv' := [(2, .int (0 : Int32)), (0, .ref (g.2.2.2 b)), (1, .int x1)]) hx hb dX3_nearer_7 rfl hl (by decide) rfl (fun ls hl => ?_)
    exact t_X3_nearer_L8 (st := st) C hT 4096 (0 : Int32) _ _ _ hd hP hS (lv_sub hl [1, 2, 0] rfl)
  · replace hd := (if_pos hc).symm.trans hd
    refine lv_iconst (v := (-1 : Int32)) hx hb dX3_nearer_4 (by decide) ?_
    cases hd
    exact sn_ri C hP hS dX3_nearer_5

set_option maxHeartbeats 4000000 in
set_option maxRecDepth 100000 in
theorem c_X3_copyFrom {l : Launch} {g : sn_G} {tb : Nat → sn_K} {N : Nat} (hi : sn_I g N) {b : Nat} {o1 : Nat} (hT : sn_Sh tb N b) (hO1 : sn_Sh tb N o1) {st : sn_S} {o : sn_S} (hd : D_X3_copyFrom b o1 st = some o) : sn_Mv l yX3_copyFrom wsX3_copyFrom { frames := 1, cells := 0, slots := 0, locals := 60 } g tb N [.ref (g.2.2.2 b), .ref (g.2.2.2 o1)] st o := by
  refine sn_Mv.of (cc := cX3_copyFrom) (nL := 2) (ret := none) hi (by decide) rfl (Nat.le_of_ble_eq_true rfl) ?_
  intro p e s m args below meth c ls C hP hS hl
  have hl : lv_has ls 2 [(0, .ref (g.2.2.2 b)), (1, .ref (g.2.2.2 o1))] := hl
  obtain ⟨⟨hx, hb, hml, hown, hts⟩, hr, hlk, hC, hi⟩ := id C
  unfold D_X3_copyFrom at hd
  have hinX3 : ∀ w ∈ wsX30, w ∈ wsX3_copyFrom := by decide +kernel
  refine lv_aload_n hx hb dX3_copyFrom_0 rfl (lv_at hl 0 rfl) ?_
  refine lv_aload_n hx hb dX3_copyFrom_1 rfl (lv_at hl 1 rfl) ?_
  refine sn_get (ci := 2) (Cn := RX3) (T := TX3) (n := 3) (v := .int (st.1 o1 0)) C hinX3 hP o1 (sn_l0 hO1.1 (by decide)) hO1.2.1 rfl 0 (by decide) (by decide +kernel) rfl rfl dX3_copyFrom_2 ?_
  refine sn_pf (ci := 2) (Cn := RX3) (T := TX3) (n := 3) (ty0 := tyX3) C hinX3 tyX3_ok nmX3 hP hS b (sn_l0 hT.1 (by decide)) hT.2.1 rfl 0 (by decide) (by decide +kernel) rfl rfl rfl rfl rfl dX3_copyFrom_5 (fun H locs hP hS => ?_)
  refine lv_aload_n hx hb dX3_copyFrom_8 rfl (lv_at hl 1 rfl) ?_
  refine sn_get (ci := 2) (Cn := RX3) (T := TX3) (n := 3) (v := .ref (g.2.2.2 (o1 + 1))) C hinX3 hP o1 (sn_l0 hO1.1 (by decide)) hO1.2.1 rfl 1 (by decide) (by decide +kernel) rfl rfl dX3_copyFrom_9 ?_
  refine lv_iconst (v := (0 : Int32)) hx hb dX3_copyFrom_12 (by decide) ?_
  refine lv_aload_n hx hb dX3_copyFrom_13 rfl (lv_at hl 0 rfl) ?_
  refine sn_get (ci := 2) (Cn := RX3) (T := TX3) (n := 3) (v := .ref (g.2.2.2 (b + 1))) C hinX3 hP b (sn_l0 hT.1 (by decide)) hT.2.1 rfl 1 (by decide) (by decide +kernel) rfl rfl dX3_copyFrom_14 ?_
  refine lv_iconst (v := (0 : Int32)) hx hb dX3_copyFrom_17 (by decide) ?_
  refine lv_bipush (v := (12 : Int32)) hx hb dX3_copyFrom_18 (by decide) ?_
  refine sn_acp (n := 12) C (by decide +kernel) (by decide +kernel) (by decide +kernel) (by decide +kernel) hP hS (o1 + 1) (sn_l hO1.1 (by decide)) hO1.2.2.1 (b + 1) (sn_l hT.1 (by decide)) hT.2.2.1 (by decide) (by decide) (by decide) (by decide) hl.1 (Nat.le_of_ble_eq_true rfl) (Nat.le_of_ble_eq_true rfl) dX3_copyFrom_20 (fun H locs hP hS => ?_)
  refine lv_aload_n hx hb dX3_copyFrom_23 rfl (lv_at hl 1 rfl) ?_
  refine sn_get (ci := 2) (Cn := RX3) (T := TX3) (n := 3) (v := .ref (g.2.2.2 (o1 + 2))) C hinX3 hP o1 (sn_l0 hO1.1 (by decide)) hO1.2.1 rfl 2 (by decide) (by decide +kernel) rfl rfl dX3_copyFrom_24 ?_
  refine lv_iconst (v := (0 : Int32)) hx hb dX3_copyFrom_27 (by decide) ?_
  refine lv_aload_n hx hb dX3_copyFrom_28 rfl (lv_at hl 0 rfl) ?_
  refine sn_get (ci := 2) (Cn := RX3) (T := TX3) (n := 3) (v := .ref (g.2.2.2 (b + 2))) C hinX3 hP b (sn_l0 hT.1 (by decide)) hT.2.1 rfl 2 (by decide) (by decide +kernel) rfl rfl dX3_copyFrom_29 ?_
  refine lv_iconst (v := (0 : Int32)) hx hb dX3_copyFrom_32 (by decide) ?_
  refine lv_bipush (v := (12 : Int32)) hx hb dX3_copyFrom_33 (by decide) ?_
  refine sn_acp (n := 12) C (by decide +kernel) (by decide +kernel) (by decide +kernel) (by decide +kernel) hP hS (o1 + 2) (sn_l hO1.1 (by decide)) hO1.2.2.2 (b + 2) (sn_l hT.1 (by decide)) hT.2.2.2 (by decide) (by decide) (by decide) (by decide) hl.1 (Nat.le_of_ble_eq_true rfl) (Nat.le_of_ble_eq_true rfl) dX3_copyFrom_35 (fun H locs hP hS => ?_)
  cases hd
  exact sn_rv C hP hS dX3_copyFrom_38
