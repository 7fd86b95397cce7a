set_option maxHeartbeats 4000000 in
set_option maxRecDepth 100000 in
theorem c_X0_clear {l : Launch} {g : sn_G} {tb : Nat → sn_K} {N : Nat} (hi : sn_I g N) {b : Nat} {x1 : Int32} (hT : sn_Ne tb N b) {st : sn_S} {o : sn_S} (hd : D_X0_clear b x1 st = some o) : sn_Mv l yX0_clear wsX0_clear { frames := 3, cells := 0, slots := 0, locals := 69 } g tb N [.ref (g.2.2.2 b), .int x1] st o := by
  refine sn_Mv.of (cc := cX0_clear) (nL := 2) (ret := none) hi (by decide) rfl (Nat.le_of_ble_eq_true rfl) ?_
  intro p e s m args below meth c ls C hP hS hl
  have hl : lv_has ls 2 [(0, .ref (g.2.2.2 b)), (1, .int x1)] := hl
  obtain ⟨⟨hx, hb, hml, hown, hts⟩, hr, hlk, hC, hi⟩ := id C
  unfold D_X0_clear at hd
  have hinX0 : ∀ w ∈ wsX00, w ∈ wsX0_clear := by decide +kernel
  refine lv_aload_n hx hb dX0_clear_0 rfl (lv_at hl 0 rfl) ?_
  refine sn_get (ci := 0) (Cn := RX0) (T := TX0) (n := 9) (v := .ref (g.2.2.2 (b + 1))) C hinX0 hP b (sn_l0 hT.1 (by decide)) hT.2.1 rfl 0 (by decide) (by decide +kernel) rfl rfl dX0_clear_1 ?_
  refine lv_iload_n hx hb dX0_clear_4 rfl (lv_at hl 1 rfl) ?_
  obtain ⟨r1, hr1, hd⟩ := Option.bind_eq_some_iff.mp hd
  refine sn_Vv (b := b + 1) (rest := []) (As := [.int x1]) (st := st) C (c_X3_clear hi hT.2.2.1 hr1) (cwV 1 hts gX0_clear_X3_clear rfl rfl rfl (by decide +kernel) ⟨Nat.le_of_ble_eq_true rfl, Nat.le_of_ble_eq_true rfl⟩) hP hS (sn_l0 hT.2.2.1.1 (by decide)) hT.2.2.1.2.1 rfl rfl hl.1 rfl (Nat.le_of_ble_eq_true rfl) dX0_clear_5 (fun H locs hP hS => ?_)
  refine lv_aload_n hx hb dX0_clear_8 rfl (lv_at hl 0 rfl) ?_
  refine sn_get (ci := 0) (Cn := RX0) (T := TX0) (n := 9) (v := .ref (g.2.2.2 (b + 4))) C hinX0 hP b (sn_l0 hT.1 (by decide)) hT.2.1 rfl 1 (by decide) (by decide +kernel) rfl rfl dX0_clear_9 ?_
  obtain ⟨r2, hr2, hd⟩ := Option.bind_eq_some_iff.mp hd
  refine sn_Vv (b := b + 4) (rest := []) (As := []) (st := r1) C (c_X1_clear hi hT.2.2.2.1 hr2) (cwV 0 hts gX0_clear_X1_clear rfl rfl rfl (by decide +kernel) ⟨Nat.le_of_ble_eq_true rfl, Nat.le_of_ble_eq_true rfl⟩) hP hS (sn_l0 hT.2.2.2.1.1 (by decide)) hT.2.2.2.1.2.1 rfl rfl hl.1 rfl (Nat.le_of_ble_eq_true rfl) dX0_clear_12 (fun H locs hP hS => ?_)
  refine lv_aload_n hx hb dX0_clear_15 rfl (lv_at hl 0 rfl) ?_
  refine sn_get (ci := 0) (Cn := RX0) (T := TX0) (n := 9) (v := .ref (g.2.2.2 (b + 33))) C hinX0 hP b (sn_l0 hT.1 (by decide)) hT.2.1 rfl 2 (by decide) (by decide +kernel) rfl rfl dX0_clear_16 ?_
  obtain ⟨r3, hr3, hd⟩ := Option.bind_eq_some_iff.mp hd
  refine sn_Vv (b := b + 33) (rest := []) (As := []) (st := r2) C (c_X4_clear hi hT.2.2.2.2 hr3) (cwV 0 hts gX0_clear_X4_clear rfl rfl rfl (by decide +kernel) ⟨Nat.le_of_ble_eq_true rfl, Nat.le_of_ble_eq_true rfl⟩) hP hS (sn_l0 hT.2.2.2.2.1 (by decide)) hT.2.2.2.2.2.1 rfl rfl hl.1 rfl (Nat.le_of_ble_eq_true rfl) dX0_clear_19 (fun H locs hP hS => ?_)
  refine lv_aload_n hx hb dX0_clear_22 rfl (lv_at hl 0 rfl) ?_
  refine lv_iconst (v := (0 : Int32)) hx hb dX0_clear_23 (by decide) ?_
  refine sn_pf (ci := 0) (Cn := RX0) (T := TX0) (n := 9) (ty0 := tyX0) C hinX0 tyX0_ok nmX0 hP hS b (sn_l0 hT.1 (by decide)) hT.2.1 rfl 3 (by decide) (by decide +kernel) rfl rfl rfl rfl rfl dX0_clear_24 (fun H locs hP hS => ?_)
  refine lv_aload_n hx hb dX0_clear_27 rfl (lv_at hl 0 rfl) ?_
  refine lv_iconst (v := (0 : Int32)) hx hb dX0_clear_28 (by decide) ?_
  refine sn_pf (ci := 0) (Cn := RX0) (T := TX0) (n := 9) (ty0 := tyX0) C hinX0 tyX0_ok nmX0 hP hS b (sn_l0 hT.1 (by decide)) hT.2.1 rfl 6 (by decide) (by decide +kernel) rfl rfl rfl rfl rfl dX0_clear_29 (fun H locs hP hS => ?_)
  refine lv_aload_n hx hb dX0_clear_32 rfl (lv_at hl 0 rfl) ?_
  refine lv_iconst (v := (0 : Int32)) hx hb dX0_clear_33 (by decide) ?_
  refine sn_pf (ci := 0) (Cn := RX0) (T := TX0) (n := 9) (ty0 := tyX0) C hinX0 tyX0_ok nmX0 hP hS b (sn_l0 hT.1 (by decide)) hT.2.1 rfl 7 (by decide) (by decide +kernel) rfl rfl rfl rfl rfl dX0_clear_34 (fun H locs hP hS => ?_)
  refine lv_aload_n hx hb dX0_clear_37 rfl (lv_at hl 0 rfl) ?_
  refine lv_iconst (v := (0 : Int32)) hx hb dX0_clear_38 (by decide) ?_
  refine sn_pf (ci := 0) (Cn := RX0) (T := TX0) (n := 9) (ty0 := tyX0) C hinX0 tyX0_ok nmX0 hP hS b (sn_l0 hT.1 (by decide)) hT.2.1 rfl 8 (by decide) (by decide +kernel) rfl rfl rfl rfl rfl dX0_clear_39 (fun H locs hP hS => ?_)
  cases hd
  exact sn_rv C hP hS dX0_clear_42

set_option maxHeartbeats 4000000 in
set_option maxRecDepth 100000 in
theorem t_X0_lookAgain_L2 {p : Program} {l : Launch} {e : Env} {s : State} {m : MethodId} {args : Array Value} {below : List Frame} {meth : Method} {c : Code} {g : sn_G} {tb : Nat → sn_K} {N : Nat} {b : Nat} {x1 : Int32} {o : sn_S} (C : sn_Cx p s m args meth c g N cX0_lookAgain 3 wsX0_lookAgain yX0_lookAgain.cls none) (hT : sn_Ne tb N b)  : ∀ (n : Nat) (x2 : Int32) (st : sn_S) (H : Heap) (locs : List Loc) (ls : Array Slot), D_X0_lookAgain_L2 b x1 n x2 st = some o → va_P g.1 vwCl (sn_W g tb N st) H → va_S (sn_A g N) s.heap H locs → lv_has ls 3 [(0, .ref (g.2.2.2 b)), (1, .int x1), (2, .int x2)] → W p l e { frames := 4, cells := 0, slots := 0, locals := 93 } s m args below meth c H locs 0 0 (MQ below (sn_Qv g tb N o) args s 0 0 (sn_A g N)) (F0 m 2 ls []) := by
  obtain ⟨⟨hx, hb, hml, hown, hts⟩, hr, hlk, hC, hi⟩ := id C
  have hinX0 : ∀ w ∈ wsX00, w ∈ wsX0_lookAgain := by decide +kernel
  have hinX3 : ∀ w ∈ wsX30, w ∈ wsX0_lookAgain := by decide +kernel
  intro n
  induction n with
  | zero => intro _ _ _ _ _ hd; exact nomatch (show (none : Option (sn_S)) = some o from hd)
  | succ n ih =>
    intro x2 st H locs ls hd hP hS hl
    replace hd := (D_X0_lookAgain_L2.eq_2 _ _ _ _ _).symm.trans hd
    refine lv_iload_n hx hb dX0_lookAgain_2 rfl (lv_at hl 2 rfl) ?_
    refine lv_aload_n hx hb dX0_lookAgain_3 rfl (lv_at hl 0 rfl) ?_
    refine sn_get (ci := 0) (Cn := RX0) (T := TX0) (n := 9) (v := .ref (g.2.2.2 (b + 1))) C hinX0 hP b (sn_l0 hT.1 (by decide)) hT.2.1 rfl 0 (by decide) (by decide +kernel) rfl rfl dX0_lookAgain_4 ?_
    refine sn_get (ci := 2) (Cn := RX3) (T := TX3) (n := 3) (v := .int (st.1 (b + 1) 0)) C hinX3 hP (b + 1) (sn_l0 hT.2.2.1.1 (by decide)) hT.2.2.1.2.1 rfl 0 (by decide) (by decide +kernel) rfl rfl dX0_lookAgain_7 ?_
    refine lv_icmp_ge (tgt := 62) hx hb dX0_lookAgain_10 (by decide) (fun hc => ?_) (fun hc => ?_)
    · replace hd := (if_pos hc).symm.trans hd
      cases hd
      exact sn_rv C hP hS dX0_lookAgain_62
    · replace hd := (if_neg hc).symm.trans hd
      refine lv_iload_n hx hb dX0_lookAgain_13 rfl (lv_at hl 1 rfl) ?_
      refine lv_iload_n hx hb dX0_lookAgain_14 rfl (lv_at hl 2 rfl) ?_
      obtain ⟨r1, hr1, hd⟩ := Option.bind_eq_some_iff.mp hd
      refine sn_Ni (host := RX5) (rest := []) (As := [.int x1, .int x2]) (st := st) C (c_X5_has hi  hr1) ⟨va_cnB 2 hts gX0_lookAgain_X5_has_n87 rfl rfl rfl (hC.2 _ (by decide +kernel)) (hts (.initialized RX5) (by decide +kernel)) (by decide +kernel) ⟨Nat.le_of_ble_eq_true rfl, Nat.le_of_ble_eq_true rfl⟩, hts (.static yX5_has) (by decide +kernel), trivial⟩ hP hS rfl hl.1 rfl (Nat.le_of_ble_eq_true rfl) dX0_lookAgain_15 (fun H locs hP hS => ?_)
      refine lv_if_eq (tgt := 56) hx hb dX0_lookAgain_18 (by decide) (fun hc => ?_) (fun hc => ?_)
      · replace hd := (if_pos hc).symm.trans hd
        refine lv_iinc (v := (x2 + (1 : Int32))) (lv' := [(2, .int (x2 + (1 : Int32))), (0, .ref (g.2.2.2 b)), (1, .int x1)]) hx hb dX0_lookAgain_56 hl (k := 2) rfl rfl (by decide) rfl (fun ls hl => ?_)
        refine lv_goto (tgt := 2) hx hb dX0_lookAgain_59 (by decide) ?_
        exact ih (x2 + (1 : Int32)) st _ _ _ hd hP hS (lv_sub hl [1, 2, 0] rfl)
      · replace hd := (if_neg hc).symm.trans hd
        refine lv_aload_n hx hb dX0_lookAgain_21 rfl (lv_at hl 0 rfl) ?_
        refine lv_dup hx hb dX0_lookAgain_22 rfl ?_
        refine sn_get (ci := 0) (Cn := RX0) (T := TX0) (n := 9) (v := .int (st.1 b 7)) C hinX0 hP b (sn_l0 hT.1 (by decide)) hT.2.1 rfl 7 (by decide) (by decide +kernel) rfl rfl dX0_lookAgain_23 ?_
        refine lv_iconst (v := (1 : Int32)) hx hb dX0_lookAgain_26 (by decide) ?_
        refine lv_iload_n hx hb dX0_lookAgain_27 rfl (lv_at hl 2 rfl) ?_
        refine lv_ishl hx hb dX0_lookAgain_28 ?_
        refine lv_iconst (v := (-1 : Int32)) hx hb dX0_lookAgain_29 (by decide) ?_
        refine lv_ixor hx hb dX0_lookAgain_30 ?_
        refine lv_iand hx hb dX0_lookAgain_31 ?_
        refine sn_pf (ci := 0) (Cn := RX0) (T := TX0) (n := 9) (ty0 := tyX0) C hinX0 tyX0_ok nmX0 hP hS b (sn_l0 hT.1 (by decide)) hT.2.1 rfl 7 (by decide) (by decide +kernel) rfl rfl rfl rfl rfl dX0_lookAgain_32 (fun H locs hP hS => ?_)
        refine lv_aload_n hx hb dX0_lookAgain_35 rfl (lv_at hl 0 rfl) ?_
        refine lv_iload_n hx hb dX0_lookAgain_36 rfl (lv_at hl 2 rfl) ?_
        obtain ⟨r2, hr2, hd⟩ := Option.bind_eq_some_iff.mp hd
        refine sn_Si (rest := []) (As := [.ref (g.2.2.2 b), .int x2]) (st := (sn_wr st b 7 ((st.1 b 7) &&& (((1 : Int32) <<< (x2 &&& 31)) ^^^ (-1 : Int32))))) C (c_X2_firstRule hi hT hr2) (va_cwS 2 hts gX0_lookAgain_X2_firstRule rfl rfl rfl (by decide +kernel) ⟨Nat.le_of_ble_eq_true rfl, Nat.le_of_ble_eq_true rfl⟩) hP hS rfl hl.1 rfl (Nat.le_of_ble_eq_true rfl) dX0_lookAgain_37 (fun H locs hP hS => ?_)
        refine lv_iconst (v := (-1 : Int32)) hx hb dX0_lookAgain_40 (by decide) ?_
        refine lv_icmp_eq (tgt := 56) hx hb dX0_lookAgain_41 (by decide) (fun hc => ?_) (fun hc => ?_)
        · replace hd := (if_pos hc).symm.trans hd
          refine lv_iinc (v := (x2 + (1 : Int32))) (lv' := [(2, .int (x2 + (1 : Int32))), (0, .ref (g.2.2.2 b)), (1, .int x1)]) hx hb dX0_lookAgain_56 hl (k := 2) rfl rfl (by decide) rfl (fun ls hl => ?_)
          refine lv_goto (tgt := 2) hx hb dX0_lookAgain_59 (by decide) ?_
          exact ih (x2 + (1 : Int32)) (sn_wr st b 7 ((st.1 b 7) &&& (((1 : Int32) <<< (x2 &&& 31)) ^^^ (-1 : Int32)))) _ _ _ hd hP hS (lv_sub hl [1, 2, 0] rfl)
        · replace hd := (if_neg hc).symm.trans hd
          refine lv_aload_n hx hb dX0_lookAgain_44 rfl (lv_at hl 0 rfl) ?_
          refine lv_dup hx hb dX0_lookAgain_45 rfl ?_
          refine sn_get (ci := 0) (Cn := RX0) (T := TX0) (n := 9) (v := .int ((sn_wr st b 7 ((st.1 b 7) &&& (((1 : Int32) <<< (x2 &&& 31)) ^^^ (-1 : Int32)))).1 b 7)) C hinX0 hP b (sn_l0 hT.1 (by decide)) hT.2.1 rfl 7 (by decide) (by decide +kernel) rfl rfl dX0_lookAgain_46 ?_
          refine lv_iconst (v := (1 : Int32)) hx hb dX0_lookAgain_49 (by decide) ?_
          refine lv_iload_n hx hb dX0_lookAgain_50 rfl (lv_at hl 2 rfl) ?_
          refine lv_ishl hx hb dX0_lookAgain_51 ?_
          refine lv_ior hx hb dX0_lookAgain_52 ?_
          refine sn_pf (ci := 0) (Cn := RX0) (T := TX0) (n := 9) (ty0 := tyX0) C hinX0 tyX0_ok nmX0 hP hS b (sn_l0 hT.1 (by decide)) hT.2.1 rfl 7 (by decide) (by decide +kernel) rfl rfl rfl rfl rfl dX0_lookAgain_53 (fun H locs hP hS => ?_)
          refine lv_iinc (v := (x2 + (1 : Int32))) (lv' := [(2, .int (x2 + (1 : Int32))), (0, .ref (g.2.2.2 b)), (1, .int x1)]) hx hb dX0_lookAgain_56 hl (k := 2) rfl rfl (by decide) rfl (fun ls hl => ?_)
          refine lv_goto (tgt := 2) hx hb dX0_lookAgain_59 (by decide) ?_
          exact ih (x2 + (1 : Int32)) (sn_wr (sn_wr st b 7 ((st.1 b 7) &&& (((1 : Int32) <<< (x2 &&& 31)) ^^^ (-1 : Int32)))) b 7 (((sn_wr st b 7 ((st.1 b 7) &&& (((1 : Int32) <<< (x2 &&& 31)) ^^^ (-1 : Int32)))).1 b 7) ||| ((1 : Int32) <<< (x2 &&& 31)))) _ _ _ hd hP hS (lv_sub hl [1, 2, 0] rfl)

set_option maxHeartbeats 4000000 in
set_option maxRecDepth 100000 in
theorem c_X0_lookAgain {l : Launch} {g : sn_G} {tb : Nat → sn_K} {N : Nat} (hi : sn_I g N) {b : Nat} {x1 : Int32} (hT : sn_Ne tb N b) {st : sn_S} {o : sn_S} (hd : D_X0_lookAgain b x1 st = some o) : sn_Mv l yX0_lookAgain wsX0_lookAgain { frames := 4, cells := 0, slots := 0, locals := 93 } g tb N [.ref (g.2.2.2 b), .int x1] st o := by
  refine sn_Mv.of (cc := cX0_lookAgain) (nL := 3) (ret := none) hi (by decide) rfl (Nat.le_of_ble_eq_true rfl) ?_
  intro p e s m args below meth c ls C hP hS hl
  have hl : lv_has ls 3 [(0, .ref (g.2.2.2 b)), (1, .int x1)] := hl
  obtain ⟨⟨hx, hb, hml, hown, hts⟩, hr, hlk, hC, hi⟩ := id C
  unfold D_X0_lookAgain at hd
  have hinX0 : ∀ w ∈ wsX00, w ∈ wsX0_lookAgain := by decide +kernel
  have hinX3 : ∀ w ∈ wsX30, w ∈ wsX0_lookAgain := by decide +kernel
  refine lv_iconst (v := (0 : Int32)) hx hb dX0_lookAgain_0 (by decide) ?_
  refine lv_istore_n (lv' := [(2, .int (0 : Int32)), (0, .ref (g.2.2.2 b)), (1, .int x1)]) hx hb dX0_lookAgain_1 rfl hl (by decide) rfl (fun ls hl => ?_)
  exact t_X0_lookAgain_L2 C hT 4096 (0 : Int32) st _ _ _ hd hP hS (lv_sub hl [1, 2, 0] rfl)

set_option maxHeartbeats 4000000 in
set_option maxRecDepth 100000 in
theorem c_X0_beginAnew {l : Launch} {g : sn_G} {tb : Nat → sn_K} {N : Nat} (hi : sn_I g N) {b : Nat} (hT : sn_Ne tb N b) {st : sn_S} {o : sn_S} (hd : D_X0_beginAnew b st = some o) : sn_Mv l yX0_beginAnew wsX0_beginAnew { frames := 5, cells := 0, slots := 0, locals := 115 } g tb N [.ref (g.2.2.2 b)] st o := by
  refine sn_Mv.of (cc := cX0_beginAnew) (nL := 1) (ret := none) hi (by decide) rfl (Nat.le_of_ble_eq_true rfl) ?_
  intro p e s m args below meth c ls C hP hS hl
  have hl : lv_has ls 1 [(0, .ref (g.2.2.2 b))] := hl
  obtain ⟨⟨hx, hb, hml, hown, hts⟩, hr, hlk, hC, hi⟩ := id C
  unfold D_X0_beginAnew at hd
  have hinX0 : ∀ w ∈ wsX00, w ∈ wsX0_beginAnew := by decide +kernel
  have hinX3 : ∀ w ∈ wsX30, w ∈ wsX0_beginAnew := by decide +kernel
  refine lv_aload_n hx hb dX0_beginAnew_0 rfl (lv_at hl 0 rfl) ?_
  refine sn_get (ci := 0) (Cn := RX0) (T := TX0) (n := 9) (v := .int (st.1 b 3)) C hinX0 hP b (sn_l0 hT.1 (by decide)) hT.2.1 rfl 3 (by decide) (by decide +kernel) rfl rfl dX0_beginAnew_1 ?_
  refine lv_if_eq (tgt := 29) hx hb dX0_beginAnew_4 (by decide) (fun hc => ?_) (fun hc => ?_)
  · replace hd := (if_pos hc).symm.trans hd
    cases hd
    exact sn_rv C hP hS dX0_beginAnew_29
  · replace hd := (if_neg hc).symm.trans hd
    refine lv_aload_n hx hb dX0_beginAnew_7 rfl (lv_at hl 0 rfl) ?_
    refine lv_aload_n hx hb dX0_beginAnew_8 rfl (lv_at hl 0 rfl) ?_
    refine sn_get (ci := 0) (Cn := RX0) (T := TX0) (n := 9) (v := .ref (g.2.2.2 (b + 1))) C hinX0 hP b (sn_l0 hT.1 (by decide)) hT.2.1 rfl 0 (by decide) (by decide +kernel) rfl rfl dX0_beginAnew_9 ?_
    refine sn_get (ci := 2) (Cn := RX3) (T := TX3) (n := 3) (v := .int (st.1 (b + 1) 0)) C hinX3 hP (b + 1) (sn_l0 hT.2.2.1.1 (by decide)) hT.2.2.1.2.1 rfl 0 (by decide) (by decide +kernel) rfl rfl dX0_beginAnew_12 ?_
    obtain ⟨r1, hr1, hd⟩ := Option.bind_eq_some_iff.mp hd
    refine sn_Ni (host := RX5) (rest := [.ref (g.2.2.2 b)]) (As := [.int (st.1 (b + 1) 0)]) (st := st) C (c_X5_below hi  hr1) ⟨va_cnB 1 hts gX0_beginAnew_X5_below_n80 rfl rfl rfl (hC.2 _ (by decide +kernel)) (hts (.initialized RX5) (by decide +kernel)) (by decide +kernel) ⟨Nat.le_of_ble_eq_true rfl, Nat.le_of_ble_eq_true rfl⟩, hts (.static yX5_below) (by decide +kernel), trivial⟩ hP hS rfl hl.1 rfl (Nat.le_of_ble_eq_true rfl) dX0_beginAnew_15 (fun H locs hP hS => ?_)
    obtain ⟨r2, hr2, hd⟩ := Option.bind_eq_some_iff.mp hd
    refine sn_Vv (b := b) (rest := []) (As := [.int r1]) (st := st) C (c_X0_lookAgain hi hT hr2) (cwV 1 hts gX0_beginAnew_X0_lookAgain rfl rfl rfl (by decide +kernel) ⟨Nat.le_of_ble_eq_true rfl, Nat.le_of_ble_eq_true rfl⟩) hP hS (sn_l0 hT.1 (by decide)) hT.2.1 rfl rfl hl.1 rfl (Nat.le_of_ble_eq_true rfl) dX0_beginAnew_18 (fun H locs hP hS => ?_)
    refine lv_aload_n hx hb dX0_beginAnew_21 rfl (lv_at hl 0 rfl) ?_
    refine lv_aload_n hx hb dX0_beginAnew_22 rfl (lv_at hl 0 rfl) ?_
    refine sn_get (ci := 0) (Cn := RX0) (T := TX0) (n := 9) (v := .int (r2.1 b 7)) C hinX0 hP b (sn_l0 hT.1 (by decide)) hT.2.1 rfl 7 (by decide) (by decide +kernel) rfl rfl dX0_beginAnew_23 ?_
    refine sn_pf (ci := 0) (Cn := RX0) (T := TX0) (n := 9) (ty0 := tyX0) C hinX0 tyX0_ok nmX0 hP hS b (sn_l0 hT.1 (by decide)) hT.2.1 rfl 8 (by decide) (by decide +kernel) rfl rfl rfl rfl rfl dX0_beginAnew_26 (fun H locs hP hS => ?_)
    cases hd
    exact sn_rv C hP hS dX0_beginAnew_29

set_option maxHeartbeats 4000000 in
set_option maxRecDepth 100000 in
theorem c_X0_overwrite {l : Launch} {g : sn_G} {tb : Nat → sn_K} {N : Nat} (hi : sn_I g N) {b : Nat} {x1 : Int32} {x2 : Int32} {x3 : Int32} (hT : sn_Ne tb N b) {st : sn_S} {o : sn_S} (hd : D_X0_overwrite b x1 x2 x3 st = some o) : sn_Mv l yX0_overwrite wsX0_overwrite { frames := 3, cells := 0, slots := 0, locals := 70 } g tb N [.ref (g.2.2.2 b), .int x1, .int x2, .int x3] st o := by
  refine sn_Mv.of (cc := cX0_overwrite) (nL := 4) (ret := none) hi (by decide) rfl (Nat.le_of_ble_eq_true rfl) ?_
  intro p e s m args below meth c ls C hP hS hl
  have hl : lv_has ls 4 [(0, .ref (g.2.2.2 b)), (1, .int x1), (2, .int x2), (3, .int x3)] := hl
  obtain ⟨⟨hx, hb, hml, hown, hts⟩, hr, hlk, hC, hi⟩ := id C
  unfold D_X0_overwrite at hd
  have hinX0 : ∀ w ∈ wsX00, w ∈ wsX0_overwrite := by decide +kernel
  have hinX1 : ∀ w ∈ wsX10, w ∈ wsX0_overwrite := by decide +kernel
  refine lv_aload_n hx hb dX0_overwrite_0 rfl (lv_at hl 0 rfl) ?_
  refine sn_get (ci := 0) (Cn := RX0) (T := TX0) (n := 9) (v := .ref (g.2.2.2 (b + 4))) C hinX0 hP b (sn_l0 hT.1 (by decide)) hT.2.1 rfl 1 (by decide) (by decide +kernel) rfl rfl dX0_overwrite_1 ?_
  refine sn_get (ci := 1) (Cn := RX1) (T := TX1) (n := 4) (v := .ref (g.2.2.2 (b + 4 + 1))) C hinX1 hP (b + 4) (sn_l0 hT.2.2.2.1.1 (by decide)) hT.2.2.2.1.2.1 rfl 0 (by decide) (by decide +kernel) rfl rfl dX0_overwrite_4 ?_
  refine lv_iload_n hx hb dX0_overwrite_7 rfl (lv_at hl 1 rfl) ?_
  refine sn_aald C hP (b + 4 + 1) (sn_l hT.2.2.2.1.1 (by decide)) hT.2.2.2.1.2.2.1 hd dX0_overwrite_8 (fun k1 hk1 hd => ?_)
  refine lv_iload_n hx hb dX0_overwrite_9 rfl (lv_at hl 2 rfl) ?_
  refine lv_iload_n hx hb dX0_overwrite_10 rfl (lv_at hl 3 rfl) ?_
  refine sn_ast C hP hS (b + 4 + 1 + 1 + k1) (hT.2.2.2.1.2.2.2.1 k1 hk1).2 (hT.2.2.2.1.2.2.2.1 k1 hk1).1 hd dX0_overwrite_11 (fun k2 H locs hk2 hd hP hS => ?_)
  refine lv_aload_n hx hb dX0_overwrite_12 rfl (lv_at hl 0 rfl) ?_
  refine sn_get (ci := 0) (Cn := RX0) (T := TX0) (n := 9) (v := .ref (g.2.2.2 (b + 4))) C hinX0 hP b (sn_l0 hT.1 (by decide)) hT.2.1 rfl 1 (by decide) (by decide +kernel) rfl rfl dX0_overwrite_13 ?_
  refine lv_aload_n hx hb dX0_overwrite_16 rfl (lv_at hl 0 rfl) ?_
  refine sn_get (ci := 0) (Cn := RX0) (T := TX0) (n := 9) (v := .ref (g.2.2.2 (b + 1))) C hinX0 hP b (sn_l0 hT.1 (by decide)) hT.2.1 rfl 0 (by decide) (by decide +kernel) rfl rfl dX0_overwrite_17 ?_
  refine lv_iconst (v := (1 : Int32)) hx hb dX0_overwrite_20 (by decide) ?_
  refine lv_iload_n hx hb dX0_overwrite_21 rfl (lv_at hl 1 rfl) ?_
  refine lv_ishl hx hb dX0_overwrite_22 ?_
  obtain ⟨r3, hr3, hd⟩ := Option.bind_eq_some_iff.mp hd
  refine sn_Vv (b := b + 4) (rest := []) (As := [.ref (g.2.2.2 (b + 1)), .int ((1 : Int32) <<< (x1 &&& 31))]) (st := (sn_wr st (b + 4 + 1 + 1 + k1) k2 x3)) C (c_X1_readAgain hi hT.2.2.2.1 hT.2.2.1 hr3) (cwV 2 hts gX0_overwrite_X1_readAgain rfl rfl rfl (by decide +kernel) ⟨Nat.le_of_ble_eq_true rfl, Nat.le_of_ble_eq_true rfl⟩) hP hS (sn_l0 hT.2.2.2.1.1 (by decide)) hT.2.2.2.1.2.1 rfl rfl hl.1 rfl (Nat.le_of_ble_eq_true rfl) dX0_overwrite_23 (fun H locs hP hS => ?_)
  cases hd
  exact sn_rv C hP hS dX0_overwrite_26

set_option maxHeartbeats 4000000 in
set_option maxRecDepth 100000 in
theorem c_X0_endRound {l : Launch} {g : sn_G} {tb : Nat → sn_K} {N : Nat} (hi : sn_I g N) {b : Nat} {x1 : Int32} (hT : sn_Ne tb N b) {st : sn_S} {o : sn_S} (hd : D_X0_endRound b x1 st = some o) : sn_Mv l yX0_endRound wsX0_endRound { frames := 0, cells := 0, slots := 0, locals := 0 } g tb N [.ref (g.2.2.2 b), .int x1] st o := by
  refine sn_Mv.of (cc := cX0_endRound) (nL := 2) (ret := none) hi (by decide) rfl (Nat.le_of_ble_eq_true rfl) ?_
  intro p e s m args below meth c ls C hP hS hl
  have hl : lv_has ls 2 [(0, .ref (g.2.2.2 b)), (1, .int x1)] := hl
  obtain ⟨⟨hx, hb, hml, hown, hts⟩, hr, hlk, hC, hi⟩ := id C
  unfold D_X0_endRound at hd
  have hinX0 : ∀ w ∈ wsX00, w ∈ wsX0_endRound := by decide +kernel
  have hinX4 : ∀ w ∈ wsX40, w ∈ wsX0_endRound := by decide +kernel
  refine lv_aload_n hx hb dX0_endRound_0 rfl (lv_at hl 0 rfl) ?_
  refine lv_dup hx hb dX0_endRound_1 rfl ?_
  refine sn_get (ci := 0) (Cn := RX0) (T := TX0) (n := 9) (v := .int (st.1 b 8)) C hinX0 hP b (sn_l0 hT.1 (by decide)) hT.2.1 rfl 8 (by decide) (by decide +kernel) rfl rfl dX0_endRound_2 ?_
  refine lv_aload_n hx hb dX0_endRound_5 rfl (lv_at hl 0 rfl) ?_
  refine sn_get (ci := 0) (Cn := RX0) (T := TX0) (n := 9) (v := .int (st.1 b 7)) C hinX0 hP b (sn_l0 hT.1 (by decide)) hT.2.1 rfl 7 (by decide) (by decide +kernel) rfl rfl dX0_endRound_6 ?_
  refine lv_iload_n hx hb dX0_endRound_9 rfl (lv_at hl 1 rfl) ?_
  refine lv_iconst (v := (-1 : Int32)) hx hb dX0_endRound_10 (by decide) ?_
  refine lv_ixor hx hb dX0_endRound_11 ?_
  refine lv_iand hx hb dX0_endRound_12 ?_
  refine lv_iand hx hb dX0_endRound_13 ?_
  refine sn_pf (ci := 0) (Cn := RX0) (T := TX0) (n := 9) (ty0 := tyX0) C hinX0 tyX0_ok nmX0 hP hS b (sn_l0 hT.1 (by decide)) hT.2.1 rfl 8 (by decide) (by decide +kernel) rfl rfl rfl rfl rfl dX0_endRound_14 (fun H locs hP hS => ?_)
  refine lv_aload_n hx hb dX0_endRound_17 rfl (lv_at hl 0 rfl) ?_
  refine sn_get (ci := 0) (Cn := RX0) (T := TX0) (n := 9) (v := .int ((sn_wr st b 8 ((st.1 b 8) &&& ((st.1 b 7) &&& (x1 ^^^ (-1 : Int32))))).1 b 8)) C hinX0 hP b (sn_l0 hT.1 (by decide)) hT.2.1 rfl 8 (by decide) (by decide +kernel) rfl rfl dX0_endRound_18 ?_
  refine lv_if_ne (tgt := 45) hx hb dX0_endRound_21 (by decide) (fun hc => ?_) (fun hc => ?_)
  · replace hd := (if_neg hc).symm.trans hd
    cases hd
    exact sn_rv C hP hS dX0_endRound_45
  · replace hd := (if_pos hc).symm.trans hd
    refine lv_aload_n hx hb dX0_endRound_24 rfl (lv_at hl 0 rfl) ?_
    refine sn_get (ci := 0) (Cn := RX0) (T := TX0) (n := 9) (v := .ref (g.2.2.2 (b + 33))) C hinX0 hP b (sn_l0 hT.1 (by decide)) hT.2.1 rfl 2 (by decide) (by decide +kernel) rfl rfl dX0_endRound_25 ?_
    refine lv_dup hx hb dX0_endRound_28 rfl ?_
    refine sn_get (ci := 3) (Cn := RX4) (T := TX4) (n := 6) (v := .int ((sn_wr st b 8 ((st.1 b 8) &&& ((st.1 b 7) &&& (x1 ^^^ (-1 : Int32))))).1 (b + 33) 1)) C hinX4 hP (b + 33) (sn_l0 hT.2.2.2.2.1 (by decide)) hT.2.2.2.2.2.1 rfl 1 (by decide) (by decide +kernel) rfl rfl dX0_endRound_29 ?_
    refine lv_iconst (v := (1 : Int32)) hx hb dX0_endRound_32 (by decide) ?_
    refine lv_iadd hx hb dX0_endRound_33 ?_
    refine sn_pf (ci := 3) (Cn := RX4) (T := TX4) (n := 6) (ty0 := tyX4) C hinX4 tyX4_ok nmX4 hP hS (b + 33) (sn_l0 hT.2.2.2.2.1 (by decide)) hT.2.2.2.2.2.1 rfl 1 (by decide) (by decide +kernel) rfl rfl rfl rfl rfl dX0_endRound_34 (fun H locs hP hS => ?_)
    refine lv_aload_n hx hb dX0_endRound_37 rfl (lv_at hl 0 rfl) ?_
    refine lv_aload_n hx hb dX0_endRound_38 rfl (lv_at hl 0 rfl) ?_
    refine sn_get (ci := 0) (Cn := RX0) (T := TX0) (n := 9) (v := .int ((sn_wr (sn_wr st b 8 ((st.1 b 8) &&& ((st.1 b 7) &&& (x1 ^^^ (-1 : Int32))))) (b + 33) 1 (((sn_wr st b 8 ((st.1 b 8) &&& ((st.1 b 7) &&& (x1 ^^^ (-1 : Int32))))).1 (b + 33) 1) + (1 : Int32))).1 b 7)) C hinX0 hP b (sn_l0 hT.1 (by decide)) hT.2.1 rfl 7 (by decide) (by decide +kernel) rfl rfl dX0_endRound_39 ?_
    refine sn_pf (ci := 0) (Cn := RX0) (T := TX0) (n := 9) (ty0 := tyX0) C hinX0 tyX0_ok nmX0 hP hS b (sn_l0 hT.1 (by decide)) hT.2.1 rfl 8 (by decide) (by decide +kernel) rfl rfl rfl rfl rfl dX0_endRound_42 (fun H locs hP hS => ?_)
    cases hd
    exact sn_rv C hP hS dX0_endRound_45

set_option maxHeartbeats 4000000 in
set_option maxRecDepth 100000 in
theorem t_X0_act_L15 {p : Program} {l : Launch} {e : Env} {s : State} {m : MethodId} {args : Array Value} {below : List Frame} {meth : Method} {c : Code} {g : sn_G} {tb : Nat → sn_K} {N : Nat} {b : Nat} {x1 : Int32} {x2 : Int32} {o : Int32 × sn_S} (C : sn_Cx p s m args meth c g N cX0_act 4 wsX0_act yX0_act.cls (some .int)) (hT : sn_Ne tb N b)  : ∀ (n : Nat) (x3 : Int32) (st : sn_S) (H : Heap) (locs : List Loc) (ls : Array Slot), D_X0_act_L15 b x1 x2 n x3 st = some o → va_P g.1 vwCl (sn_W g tb N st) H → va_S (sn_A g N) s.heap H locs → lv_has ls 4 [(0, .ref (g.2.2.2 b)), (1, .int x1), (2, .int x2), (3, .int x3)] → W p l e { frames := 5, cells := 0, slots := 0, locals := 115 } s m args below meth c H locs 0 0 (MQ below (sn_Qi g tb N o.1 o.2) args s 0 0 (sn_A g N)) (F0 m 15 ls []) := by
  obtain ⟨⟨hx, hb, hml, hown, hts⟩, hr, hlk, hC, hi⟩ := id C
  have hinX0 : ∀ w ∈ wsX00, w ∈ wsX0_act := by decide +kernel
  have hinX3 : ∀ w ∈ wsX30, w ∈ wsX0_act := by decide +kernel
  have hinX4 : ∀ w ∈ wsX40, w ∈ wsX0_act := by decide +kernel
  intro n
  induction n with
  | zero => intro _ _ _ _ _ hd; exact nomatch (show (none : Option (Int32 × sn_S)) = some o from hd)
  | succ n ih =>
    intro x3 st H locs ls hd hP hS hl
    replace hd := (D_X0_act_L15.eq_2 _ _ _ _ _ _).symm.trans hd
    refine lv_iload_n hx hb dX0_act_15 rfl (lv_at hl 3 rfl) ?_
    refine lv_aload_n hx hb dX0_act_16 rfl (lv_at hl 0 rfl) ?_
    refine sn_get (ci := 0) (Cn := RX0) (T := TX0) (n := 9) (v := .ref (g.2.2.2 (b + 1))) C hinX0 hP b (sn_l0 hT.1 (by decide)) hT.2.1 rfl 0 (by decide) (by decide +kernel) rfl rfl dX0_act_17 ?_
    refine sn_get (ci := 2) (Cn := RX3) (T := TX3) (n := 3) (v := .int (st.1 (b + 1) 0)) C hinX3 hP (b + 1) (sn_l0 hT.2.2.1.1 (by decide)) hT.2.2.1.2.1 rfl 0 (by decide) (by decide +kernel) rfl rfl dX0_act_20 ?_
    refine lv_icmp_ge (tgt := 45) hx hb dX0_act_23 (by decide) (fun hc => ?_) (fun hc => ?_)
    · replace hd := (if_pos hc).symm.trans hd
      refine lv_aload_n hx hb dX0_act_45 rfl (lv_at hl 0 rfl) ?_
      refine sn_get (ci := 0) (Cn := RX0) (T := TX0) (n := 9) (v := .ref (g.2.2.2 (b + 4))) C hinX0 hP b (sn_l0 hT.1 (by decide)) hT.2.1 rfl 1 (by decide) (by decide +kernel) rfl rfl dX0_act_46 ?_
      refine lv_aload_n hx hb dX0_act_49 rfl (lv_at hl 0 rfl) ?_
      refine sn_get (ci := 0) (Cn := RX0) (T := TX0) (n := 9) (v := .ref (g.2.2.2 (b + 1))) C hinX0 hP b (sn_l0 hT.1 (by decide)) hT.2.1 rfl 0 (by decide) (by decide +kernel) rfl rfl dX0_act_50 ?_
      refine lv_iload_n hx hb dX0_act_53 rfl (lv_at hl 2 rfl) ?_
      obtain ⟨r1, hr1, hd⟩ := Option.bind_eq_some_iff.mp hd
      refine sn_Vv (b := b + 4) (rest := []) (As := [.ref (g.2.2.2 (b + 1)), .int x2]) (st := st) C (c_X1_readAgain hi hT.2.2.2.1 hT.2.2.1 hr1) (cwV 2 hts gX0_act_X1_readAgain rfl rfl rfl (by decide +kernel) ⟨Nat.le_of_ble_eq_true rfl, Nat.le_of_ble_eq_true rfl⟩) hP hS (sn_l0 hT.2.2.2.1.1 (by decide)) hT.2.2.2.1.2.1 rfl rfl hl.1 rfl (Nat.le_of_ble_eq_true rfl) dX0_act_54 (fun H locs hP hS => ?_)
      refine lv_aload_n hx hb dX0_act_57 rfl (lv_at hl 0 rfl) ?_
      refine lv_aload_n hx hb dX0_act_58 rfl (lv_at hl 0 rfl) ?_
      refine sn_get (ci := 0) (Cn := RX0) (T := TX0) (n := 9) (v := .ref (g.2.2.2 (b + 1))) C hinX0 hP b (sn_l0 hT.1 (by decide)) hT.2.1 rfl 0 (by decide) (by decide +kernel) rfl rfl dX0_act_59 ?_
      refine lv_iload_n hx hb dX0_act_62 rfl (lv_at hl 2 rfl) ?_
      obtain ⟨r2, hr2, hd⟩ := Option.bind_eq_some_iff.mp hd
      refine sn_Vi (b := b + 1) (rest := [.ref (g.2.2.2 b)]) (As := [.int x2]) (st := r1) C (c_X3_around hi hT.2.2.1 hr2) (cwV 1 hts gX0_act_X3_around rfl rfl rfl (by decide +kernel) ⟨Nat.le_of_ble_eq_true rfl, Nat.le_of_ble_eq_true rfl⟩) hP hS (sn_l0 hT.2.2.1.1 (by decide)) hT.2.2.1.2.1 rfl rfl hl.1 rfl (Nat.le_of_ble_eq_true rfl) dX0_act_63 (fun H locs hP hS => ?_)
      obtain ⟨r3, hr3, hd⟩ := Option.bind_eq_some_iff.mp hd
      refine sn_Vv (b := b) (rest := []) (As := [.int r2]) (st := r1) C (c_X0_lookAgain hi hT hr3) (cwV 1 hts gX0_act_X0_lookAgain rfl rfl rfl (by decide +kernel) ⟨Nat.le_of_ble_eq_true rfl, Nat.le_of_ble_eq_true rfl⟩) hP hS (sn_l0 hT.1 (by decide)) hT.2.1 rfl rfl hl.1 rfl (Nat.le_of_ble_eq_true rfl) dX0_act_66 (fun H locs hP hS => ?_)
      refine lv_aload_n hx hb dX0_act_69 rfl (lv_at hl 0 rfl) ?_
      refine sn_get (ci := 0) (Cn := RX0) (T := TX0) (n := 9) (v := .ref (g.2.2.2 (b + 33))) C hinX0 hP b (sn_l0 hT.1 (by decide)) hT.2.1 rfl 2 (by decide) (by decide +kernel) rfl rfl dX0_act_70 ?_
      refine lv_dup hx hb dX0_act_73 rfl ?_
      refine sn_get (ci := 3) (Cn := RX4) (T := TX4) (n := 6) (v := .int (r3.1 (b + 33) 0)) C hinX4 hP (b + 33) (sn_l0 hT.2.2.2.2.1 (by decide)) hT.2.2.2.2.2.1 rfl 0 (by decide) (by decide +kernel) rfl rfl dX0_act_74 ?_
      refine lv_iconst (v := (1 : Int32)) hx hb dX0_act_77 (by decide) ?_
      refine lv_iadd hx hb dX0_act_78 ?_
      refine sn_pf (ci := 3) (Cn := RX4) (T := TX4) (n := 6) (ty0 := tyX4) C hinX4 tyX4_ok nmX4 hP hS (b + 33) (sn_l0 hT.2.2.2.2.1 (by decide)) hT.2.2.2.2.2.1 rfl 0 (by decide) (by decide +kernel) rfl rfl rfl rfl rfl dX0_act_79 (fun H locs hP hS => ?_)
      refine lv_aload_n hx hb dX0_act_82 rfl (lv_at hl 0 rfl) ?_
      refine lv_iload_n hx hb dX0_act_83 rfl (lv_at hl 2 rfl) ?_
      obtain ⟨r4, hr4, hd⟩ := Option.bind_eq_some_iff.mp hd
      refine sn_Vv (b := b) (rest := []) (As := [.int x2]) (st := (sn_wr r3 (b + 33) 0 ((r3.1 (b + 33) 0) + (1 : Int32)))) C (c_X0_endRound hi hT hr4) (cwV 1 hts gX0_act_X0_endRound rfl rfl rfl (by decide +kernel) ⟨Nat.le_of_ble_eq_true rfl, Nat.le_of_ble_eq_true rfl⟩) hP hS (sn_l0 hT.1 (by decide)) hT.2.1 rfl rfl hl.1 rfl (Nat.le_of_ble_eq_true rfl) dX0_act_84 (fun H locs hP hS => ?_)
      refine lv_iload_n hx hb dX0_act_87 rfl (lv_at hl 2 rfl) ?_
      obtain ⟨r5, hr5, hd⟩ := Option.bind_eq_some_iff.mp hd
      refine sn_Si (rest := []) (As := [.int x2]) (st := r4) C (c_J6_bitCount_0f7a4 hi  hr5) (va_cwS 1 hts gX0_act_J6_bitCount_0f7a4 rfl rfl rfl (by decide +kernel) ⟨Nat.le_of_ble_eq_true rfl, Nat.le_of_ble_eq_true rfl⟩) hP hS rfl hl.1 rfl (Nat.le_of_ble_eq_true rfl) dX0_act_88 (fun H locs hP hS => ?_)
      cases hd
      exact sn_ri C hP hS dX0_act_91
    · replace hd := (if_neg hc).symm.trans hd
      refine lv_iload_n hx hb dX0_act_26 rfl (lv_at hl 2 rfl) ?_
      refine lv_iload_n hx hb dX0_act_27 rfl (lv_at hl 3 rfl) ?_
      obtain ⟨r6, hr6, hd⟩ := Option.bind_eq_some_iff.mp hd
      refine sn_Ni (host := RX5) (rest := []) (As := [.int x2, .int x3]) (st := st) C (c_X5_has hi  hr6) ⟨va_cnB 2 hts gX0_act_X5_has_n87 rfl rfl rfl (hC.2 _ (by decide +kernel)) (hts (.initialized RX5) (by decide +kernel)) (by decide +kernel) ⟨Nat.le_of_ble_eq_true rfl, Nat.le_of_ble_eq_true rfl⟩, hts (.static yX5_has) (by decide +kernel), trivial⟩ hP hS rfl hl.1 rfl (Nat.le_of_ble_eq_true rfl) dX0_act_28 (fun H locs hP hS => ?_)
      refine lv_if_eq (tgt := 39) hx hb dX0_act_31 (by decide) (fun hc => ?_) (fun hc => ?_)
      · replace hd := (if_pos hc).symm.trans hd
        refine lv_iinc (v := (x3 + (1 : Int32))) (lv' := [(3, .int (x3 + (1 : Int32))), (0, .ref (g.2.2.2 b)), (1, .int x1), (2, .int x2)]) hx hb dX0_act_39 hl (k := 3) rfl rfl (by decide) rfl (fun ls hl => ?_)
        refine lv_goto (tgt := 15) hx hb dX0_act_42 (by decide) ?_
        exact ih (x3 + (1 : Int32)) st _ _ _ hd hP hS (lv_sub hl [1, 2, 3, 0] rfl)
      · replace hd := (if_neg hc).symm.trans hd
        refine lv_aload_n hx hb dX0_act_34 rfl (lv_at hl 0 rfl) ?_
        refine lv_iload_n hx hb dX0_act_35 rfl (lv_at hl 3 rfl) ?_
        obtain ⟨r7, hr7, hd⟩ := Option.bind_eq_some_iff.mp hd
        refine sn_Sv (rest := []) (As := [.ref (g.2.2.2 b), .int x3]) (st := st) C (c_X2_doRules hi hT hr7) (va_cwS 2 hts gX0_act_X2_doRules rfl rfl rfl (by decide +kernel) ⟨Nat.le_of_ble_eq_true rfl, Nat.le_of_ble_eq_true rfl⟩) hP hS rfl hl.1 rfl (Nat.le_of_ble_eq_true rfl) dX0_act_36 (fun H locs hP hS => ?_)
        refine lv_iinc (v := (x3 + (1 : Int32))) (lv' := [(3, .int (x3 + (1 : Int32))), (0, .ref (g.2.2.2 b)), (1, .int x1), (2, .int x2)]) hx hb dX0_act_39 hl (k := 3) rfl rfl (by decide) rfl (fun ls hl => ?_)
        refine lv_goto (tgt := 15) hx hb dX0_act_42 (by decide) ?_
        exact ih (x3 + (1 : Int32)) r7 _ _ _ hd hP hS (lv_sub hl [1, 2, 3, 0] rfl)

set_option maxHeartbeats 4000000 in
set_option maxRecDepth 100000 in
theorem c_X0_act {l : Launch} {g : sn_G} {tb : Nat → sn_K} {N : Nat} (hi : sn_I g N) {b : Nat} {x1 : Int32} (hT : sn_Ne tb N b) {st : sn_S} {o : Int32 × sn_S} (hd : D_X0_act b x1 st = some o) : sn_Mi l yX0_act wsX0_act { frames := 5, cells := 0, slots := 0, locals := 115 } g tb N [.ref (g.2.2.2 b), .int x1] st o.1 o.2 := by
  refine sn_Mi.of (cc := cX0_act) (nL := 4) (ret := (some .int)) hi (by decide) rfl (Nat.le_of_ble_eq_true rfl) ?_
  intro p e s m args below meth c ls C hP hS hl
  have hl : lv_has ls 4 [(0, .ref (g.2.2.2 b)), (1, .int x1)] := hl
  obtain ⟨⟨hx, hb, hml, hown, hts⟩, hr, hlk, hC, hi⟩ := id C
  unfold D_X0_act at hd
  have hinX0 : ∀ w ∈ wsX00, w ∈ wsX0_act := by decide +kernel
  have hinX3 : ∀ w ∈ wsX30, w ∈ wsX0_act := by decide +kernel
  have hinX4 : ∀ w ∈ wsX40, w ∈ wsX0_act := by decide +kernel
  refine lv_iload_n hx hb dX0_act_0 rfl (lv_at hl 1 rfl) ?_
  refine lv_aload_n hx hb dX0_act_1 rfl (lv_at hl 0 rfl) ?_
  refine sn_get (ci := 0) (Cn := RX0) (T := TX0) (n := 9) (v := .int (st.1 b 7)) C hinX0 hP b (sn_l0 hT.1 (by decide)) hT.2.1 rfl 7 (by decide) (by decide +kernel) rfl rfl dX0_act_2 ?_
  refine lv_iand hx hb dX0_act_5 ?_
  refine lv_istore_n (lv' := [(2, .int (x1 &&& (st.1 b 7))), (0, .ref (g.2.2.2 b)), (1, .int x1)]) hx hb dX0_act_6 rfl hl (by decide) rfl (fun ls hl => ?_)
  refine lv_iload_n hx hb dX0_act_7 rfl (lv_at hl 0 rfl) ?_
  refine lv_if_ne (tgt := 13) hx hb dX0_act_8 (by decide) (fun hc => ?_) (fun hc => ?_)
  · replace hd := (if_neg hc).symm.trans hd
    refine lv_iconst (v := (0 : Int32)) hx hb dX0_act_13 (by decide) ?_
    refine lv_istore_n (lv' := [(3, .int (0 : Int32)), (2, .int (x1 &&& (st.1 b 7))), (0, .ref (g.2.2.2 b)), (1, .int x1)]) hx hb dX0_act_14 rfl hl (by decide) rfl (fun ls hl => ?_)
    exact t_X0_act_L15 C hT 4096 (0 : Int32) st _ _ _ hd hP hS (lv_sub hl [2, 3, 1, 0] rfl)
  · replace hd := (if_pos hc).symm.trans hd
    refine lv_iconst (v := (0 : Int32)) hx hb dX0_act_11 (by decide) ?_
    cases hd
    exact sn_ri C hP hS dX0_act_12

set_option maxHeartbeats 4000000 in
set_option maxRecDepth 100000 in
theorem c_X0_takeTurn {l : Launch} {g : sn_G} {tb : Nat → sn_K} {N : Nat} (hi : sn_I g N) {b : Nat} (hT : sn_Ne tb N b) {st : sn_S} {o : Int32 × sn_S} (hd : D_X0_takeTurn b st = some o) : sn_Mi l yX0_takeTurn wsX0_takeTurn { frames := 0, cells := 0, slots := 0, locals := 0 } g tb N [.ref (g.2.2.2 b)] st o.1 o.2 := by
  refine sn_Mi.of (cc := cX0_takeTurn) (nL := 2) (ret := (some .int)) hi (by decide) rfl (Nat.le_of_ble_eq_true rfl) ?_
  intro p e s m args below meth c ls C hP hS hl
  have hl : lv_has ls 2 [(0, .ref (g.2.2.2 b))] := hl
  obtain ⟨⟨hx, hb, hml, hown, hts⟩, hr, hlk, hC, hi⟩ := id C
  unfold D_X0_takeTurn at hd
  have hinX0 : ∀ w ∈ wsX00, w ∈ wsX0_takeTurn := by decide +kernel
  have hinX3 : ∀ w ∈ wsX30, w ∈ wsX0_takeTurn := by decide +kernel
  refine lv_iconst (v := (1 : Int32)) hx hb dX0_takeTurn_0 (by decide) ?_
  refine lv_aload_n hx hb dX0_takeTurn_1 rfl (lv_at hl 0 rfl) ?_
  refine sn_get (ci := 0) (Cn := RX0) (T := TX0) (n := 9) (v := .int (st.1 b 6)) C hinX0 hP b (sn_l0 hT.1 (by decide)) hT.2.1 rfl 6 (by decide) (by decide +kernel) rfl rfl dX0_takeTurn_2 ?_
  refine lv_ishl hx hb dX0_takeTurn_5 ?_
  refine lv_istore_n (lv' := [(1, .int ((1 : Int32) <<< ((st.1 b 6) &&& 31))), (0, .ref (g.2.2.2 b))]) hx hb dX0_takeTurn_6 rfl hl (by decide) rfl (fun ls hl => ?_)
  refine lv_aload_n hx hb dX0_takeTurn_7 rfl (lv_at hl 1 rfl) ?_
  refine lv_aload_n hx hb dX0_takeTurn_8 rfl (lv_at hl 1 rfl) ?_
  refine sn_get (ci := 0) (Cn := RX0) (T := TX0) (n := 9) (v := .int (st.1 b 6)) C hinX0 hP b (sn_l0 hT.1 (by decide)) hT.2.1 rfl 6 (by decide) (by decide +kernel) rfl rfl dX0_takeTurn_9 ?_
  refine lv_iconst (v := (1 : Int32)) hx hb dX0_takeTurn_12 (by decide) ?_
  refine lv_iadd hx hb dX0_takeTurn_13 ?_
  refine lv_aload_n hx hb dX0_takeTurn_14 rfl (lv_at hl 1 rfl) ?_
  refine sn_get (ci := 0) (Cn := RX0) (T := TX0) (n := 9) (v := .ref (g.2.2.2 (b + 1))) C hinX0 hP b (sn_l0 hT.1 (by decide)) hT.2.1 rfl 0 (by decide) (by decide +kernel) rfl rfl dX0_takeTurn_15 ?_
  refine sn_get (ci := 2) (Cn := RX3) (T := TX3) (n := 3) (v := .int (st.1 (b + 1) 0)) C hinX3 hP (b + 1) (sn_l0 hT.2.2.1.1 (by decide)) hT.2.2.1.2.1 rfl 0 (by decide) (by decide +kernel) rfl rfl dX0_takeTurn_18 ?_
  refine lv_icmp_ge (tgt := 33) hx hb dX0_takeTurn_21 (by decide) (fun hc => ?_) (fun hc => ?_)
  · replace hd := (if_pos hc).symm.trans hd
    refine lv_iconst (v := (0 : Int32)) hx hb dX0_takeTurn_33 (by decide) ?_
    refine sn_pf (ci := 0) (Cn := RX0) (T := TX0) (n := 9) (ty0 := tyX0) C hinX0 tyX0_ok nmX0 hP hS b (sn_l0 hT.1 (by decide)) hT.2.1 rfl 6 (by decide) (by decide +kernel) rfl rfl rfl rfl rfl dX0_takeTurn_34 (fun H locs hP hS => ?_)
    refine lv_iload_n hx hb dX0_takeTurn_37 rfl (lv_at hl 0 rfl) ?_
    cases hd
    exact sn_ri C hP hS dX0_takeTurn_38
  · replace hd := (if_neg hc).symm.trans hd
    refine lv_aload_n hx hb dX0_takeTurn_24 rfl (lv_at hl 1 rfl) ?_
    refine sn_get (ci := 0) (Cn := RX0) (T := TX0) (n := 9) (v := .int (st.1 b 6)) C hinX0 hP b (sn_l0 hT.1 (by decide)) hT.2.1 rfl 6 (by decide) (by decide +kernel) rfl rfl dX0_takeTurn_25 ?_
    refine lv_iconst (v := (1 : Int32)) hx hb dX0_takeTurn_28 (by decide) ?_
    refine lv_iadd hx hb dX0_takeTurn_29 ?_
    refine lv_goto (tgt := 34) hx hb dX0_takeTurn_30 (by decide) ?_
    refine sn_pf (ci := 0) (Cn := RX0) (T := TX0) (n := 9) (ty0 := tyX0) C hinX0 tyX0_ok nmX0 hP hS b (sn_l0 hT.1 (by decide)) hT.2.1 rfl 6 (by decide) (by decide +kernel) rfl rfl rfl rfl rfl dX0_takeTurn_34 (fun H locs hP hS => ?_)
    refine lv_iload_n hx hb dX0_takeTurn_37 rfl (lv_at hl 0 rfl) ?_
    cases hd
    exact sn_ri C hP hS dX0_takeTurn_38

set_option maxHeartbeats 4000000 in
set_option maxRecDepth 100000 in
theorem c_X0_rollDice {l : Launch} {g : sn_G} {tb : Nat → sn_K} {N : Nat} (hi : sn_I g N) {b : Nat} (hT : sn_Ne tb N b) {st : sn_S} {o : Int32 × sn_S} (hd : D_X0_rollDice b st = some o) : sn_Mi l yX0_rollDice wsX0_rollDice { frames := 0, cells := 0, slots := 0, locals := 0 } g tb N [.ref (g.2.2.2 b)] st o.1 o.2 := by
  refine sn_Mi.of (cc := cX0_rollDice) (nL := 1) (ret := (some .int)) hi (by decide) rfl (Nat.le_of_ble_eq_true rfl) ?_
  intro p e s m args below meth c ls C hP hS hl
  have hl : lv_has ls 1 [(0, .ref (g.2.2.2 b))] := hl
  obtain ⟨⟨hx, hb, hml, hown, hts⟩, hr, hlk, hC, hi⟩ := id C
  unfold D_X0_rollDice at hd
  have hinX0 : ∀ w ∈ wsX00, w ∈ wsX0_rollDice := by decide +kernel
  refine lv_aload_n hx hb dX0_rollDice_0 rfl (lv_at hl 0 rfl) ?_
  refine lv_ldc (v := (1103515245 : Int32)) hx hb hown (hts (.constant RX0 107 (1103515245)) (by decide +kernel)) dX0_rollDice_1 ?_
  refine lv_aload_n hx hb dX0_rollDice_3 rfl (lv_at hl 0 rfl) ?_
  refine sn_get (ci := 0) (Cn := RX0) (T := TX0) (n := 9) (v := .int (st.1 b 4)) C hinX0 hP b (sn_l0 hT.1 (by decide)) hT.2.1 rfl 4 (by decide) (by decide +kernel) rfl rfl dX0_rollDice_4 ?_
  refine lv_imul hx hb dX0_rollDice_7 ?_
  refine lv_sipush (v := (12345 : Int32)) hx hb dX0_rollDice_8 (by decide) ?_
  refine lv_iadd hx hb dX0_rollDice_11 ?_
  refine sn_pf (ci := 0) (Cn := RX0) (T := TX0) (n := 9) (ty0 := tyX0) C hinX0 tyX0_ok nmX0 hP hS b (sn_l0 hT.1 (by decide)) hT.2.1 rfl 4 (by decide) (by decide +kernel) rfl rfl rfl rfl rfl dX0_rollDice_12 (fun H locs hP hS => ?_)
  refine lv_aload_n hx hb dX0_rollDice_15 rfl (lv_at hl 0 rfl) ?_
  refine sn_get (ci := 0) (Cn := RX0) (T := TX0) (n := 9) (v := .int ((sn_wr st b 4 (((1103515245 : Int32) * (st.1 b 4)) + (12345 : Int32))).1 b 4)) C hinX0 hP b (sn_l0 hT.1 (by decide)) hT.2.1 rfl 4 (by decide) (by decide +kernel) rfl rfl dX0_rollDice_16 ?_
  refine lv_bipush (v := (8 : Int32)) hx hb dX0_rollDice_19 (by decide) ?_
  refine lv_ishr hx hb dX0_rollDice_21 ?_
  cases hd
  exact sn_ri C hP hS dX0_rollDice_22

set_option maxHeartbeats 4000000 in
set_option maxRecDepth 100000 in
theorem c_X0_choose {l : Launch} {g : sn_G} {tb : Nat → sn_K} {N : Nat} (hi : sn_I g N) {b : Nat} {x1 : Int32} (hT : sn_Ne tb N b) {st : sn_S} {o : Int32 × sn_S} (hd : D_X0_choose b x1 st = some o) : sn_Mi l yX0_choose wsX0_choose { frames := 1, cells := 0, slots := 0, locals := 21 } g tb N [.ref (g.2.2.2 b), .int x1] st o.1 o.2 := by
  refine sn_Mi.of (cc := cX0_choose) (nL := 2) (ret := (some .int)) hi (by decide) rfl (Nat.le_of_ble_eq_true rfl) ?_
  intro p e s m args below meth c ls C hP hS hl
  have hl : lv_has ls 2 [(0, .ref (g.2.2.2 b)), (1, .int x1)] := hl
  obtain ⟨⟨hx, hb, hml, hown, hts⟩, hr, hlk, hC, hi⟩ := id C
  unfold D_X0_choose at hd
  have hinX0 : ∀ w ∈ wsX00, w ∈ wsX0_choose := by decide +kernel
  refine lv_iload_n hx hb dX0_choose_0 rfl (lv_at hl 1 rfl) ?_
  by_cases hs1_0 : x1 = (0 : Int32)
  · replace hd := (if_pos hs1_0).symm.trans hd
    refine lv_tableIn (off := 31) (tgt := 32) hx hb dX0_choose_1 (by rw [hs1_0]; decide) (by rw [hs1_0]; decide) (by rw [hs1_0]; rfl) (by decide) ?_
    refine lv_aload_n hx hb dX0_choose_32 rfl (lv_at hl 0 rfl) ?_
    refine sn_get (ci := 0) (Cn := RX0) (T := TX0) (n := 9) (v := .int (st.1 b 7)) C hinX0 hP b (sn_l0 hT.1 (by decide)) hT.2.1 rfl 7 (by decide) (by decide +kernel) rfl rfl dX0_choose_33 ?_
    cases hd
    exact sn_ri C hP hS dX0_choose_36
  replace hd := (if_neg hs1_0).symm.trans hd
  by_cases hs1_1 : x1 = (1 : Int32)
  · replace hd := (if_pos hs1_1).symm.trans hd
    refine lv_tableIn (off := 36) (tgt := 37) hx hb dX0_choose_1 (by rw [hs1_1]; decide) (by rw [hs1_1]; decide) (by rw [hs1_1]; rfl) (by decide) ?_
    refine lv_aload_n hx hb dX0_choose_37 rfl (lv_at hl 0 rfl) ?_
    refine sn_get (ci := 0) (Cn := RX0) (T := TX0) (n := 9) (v := .int (st.1 b 7)) C hinX0 hP b (sn_l0 hT.1 (by decide)) hT.2.1 rfl 7 (by decide) (by decide +kernel) rfl rfl dX0_choose_38 ?_
    refine lv_aload_n hx hb dX0_choose_41 rfl (lv_at hl 0 rfl) ?_
    refine sn_get (ci := 0) (Cn := RX0) (T := TX0) (n := 9) (v := .int (st.1 b 7)) C hinX0 hP b (sn_l0 hT.1 (by decide)) hT.2.1 rfl 7 (by decide) (by decide +kernel) rfl rfl dX0_choose_42 ?_
    refine lv_ineg hx hb dX0_choose_45 ?_
    refine lv_iand hx hb dX0_choose_46 ?_
    cases hd
    exact sn_ri C hP hS dX0_choose_47
  replace hd := (if_neg hs1_1).symm.trans hd
  by_cases hs1_2 : x1 = (2 : Int32)
  · replace hd := (if_pos hs1_2).symm.trans hd
    refine lv_tableIn (off := 47) (tgt := 48) hx hb dX0_choose_1 (by rw [hs1_2]; decide) (by rw [hs1_2]; decide) (by rw [hs1_2]; rfl) (by decide) ?_
    refine lv_aload_n hx hb dX0_choose_48 rfl (lv_at hl 0 rfl) ?_
    refine sn_get (ci := 0) (Cn := RX0) (T := TX0) (n := 9) (v := .int (st.1 b 7)) C hinX0 hP b (sn_l0 hT.1 (by decide)) hT.2.1 rfl 7 (by decide) (by decide +kernel) rfl rfl dX0_choose_49 ?_
    refine lv_if_ne (tgt := 59) hx hb dX0_choose_52 (by decide) (fun hc => ?_) (fun hc => ?_)
    · replace hd := (if_neg hc).symm.trans hd
      refine lv_iconst (v := (1 : Int32)) hx hb dX0_choose_59 (by decide) ?_
      refine lv_aload_n hx hb dX0_choose_60 rfl (lv_at hl 0 rfl) ?_
      refine sn_get (ci := 0) (Cn := RX0) (T := TX0) (n := 9) (v := .int (st.1 b 7)) C hinX0 hP b (sn_l0 hT.1 (by decide)) hT.2.1 rfl 7 (by decide) (by decide +kernel) rfl rfl dX0_choose_61 ?_
      obtain ⟨r1, hr1, hd⟩ := Option.bind_eq_some_iff.mp hd
      refine sn_Ni (host := RX5) (rest := [.int (1 : Int32)]) (As := [.int (st.1 b 7)]) (st := st) C (c_X5_greatest hi  hr1) ⟨va_cnB 1 hts gX0_choose_X5_greatest_n97 rfl rfl rfl (hC.2 _ (by decide +kernel)) (hts (.initialized RX5) (by decide +kernel)) (by decide +kernel) ⟨Nat.le_of_ble_eq_true rfl, Nat.le_of_ble_eq_true rfl⟩, hts (.static yX5_greatest) (by decide +kernel), trivial⟩ hP hS rfl hl.1 rfl (Nat.le_of_ble_eq_true rfl) dX0_choose_64 (fun H locs hP hS => ?_)
      refine lv_ishl hx hb dX0_choose_67 ?_
      cases hd
      exact sn_ri C hP hS dX0_choose_68
    · replace hd := (if_pos hc).symm.trans hd
      refine lv_iconst (v := (0 : Int32)) hx hb dX0_choose_55 (by decide) ?_
      refine lv_goto (tgt := 68) hx hb dX0_choose_56 (by decide) ?_
      cases hd
      exact sn_ri C hP hS dX0_choose_68
  replace hd := (if_neg hs1_2).symm.trans hd
  by_cases hs1_3 : x1 = (3 : Int32)
  · replace hd := (if_pos hs1_3).symm.trans hd
    refine lv_tableIn (off := 68) (tgt := 69) hx hb dX0_choose_1 (by rw [hs1_3]; decide) (by rw [hs1_3]; decide) (by rw [hs1_3]; rfl) (by decide) ?_
    refine lv_aload_n hx hb dX0_choose_69 rfl (lv_at hl 0 rfl) ?_
    obtain ⟨r2, hr2, hd⟩ := Option.bind_eq_some_iff.mp hd
    refine sn_Vi (b := b) (rest := []) (As := []) (st := st) C (c_X0_takeTurn hi hT hr2) (cwV 0 hts gX0_choose_X0_takeTurn rfl rfl rfl (by decide +kernel) ⟨Nat.le_of_ble_eq_true rfl, Nat.le_of_ble_eq_true rfl⟩) hP hS (sn_l0 hT.1 (by decide)) hT.2.1 rfl rfl hl.1 rfl (Nat.le_of_ble_eq_true rfl) dX0_choose_70 (fun H locs hP hS => ?_)
    cases hd
    exact sn_ri C hP hS dX0_choose_73
  replace hd := (if_neg hs1_3).symm.trans hd
  refine lv_tableOut (tgt := 74) hx hb dX0_choose_1 (by have q0 := lv_neT (a := 0) hs1_0 (by decide); have q1 := lv_neT (a := 1) hs1_1 (by decide); have q2 := lv_neT (a := 2) hs1_2 (by decide); have q3 := lv_neT (a := 3) hs1_3 (by decide); omega) (by decide) ?_
  refine lv_aload_n hx hb dX0_choose_74 rfl (lv_at hl 0 rfl) ?_
  obtain ⟨r3, hr3, hd⟩ := Option.bind_eq_some_iff.mp hd
  refine sn_Vi (b := b) (rest := []) (As := []) (st := st) C (c_X0_rollDice hi hT hr3) (cwV 0 hts gX0_choose_X0_rollDice rfl rfl rfl (by decide +kernel) ⟨Nat.le_of_ble_eq_true rfl, Nat.le_of_ble_eq_true rfl⟩) hP hS (sn_l0 hT.1 (by decide)) hT.2.1 rfl rfl hl.1 rfl (Nat.le_of_ble_eq_true rfl) dX0_choose_75 (fun H locs hP hS => ?_)
  cases hd
  exact sn_ri C hP hS dX0_choose_78

set_option maxHeartbeats 4000000 in
set_option maxRecDepth 100000 in
theorem t_X0_isAtRest_L11 {p : Program} {l : Launch} {e : Env} {s : State} {m : MethodId} {args : Array Value} {below : List Frame} {meth : Method} {c : Code} {g : sn_G} {tb : Nat → sn_K} {N : Nat} {b : Nat} {st : sn_S} {o : Int32} (C : sn_Cx p s m args meth c g N cX0_isAtRest 2 wsX0_isAtRest yX0_isAtRest.cls (some .boolean)) (hT : sn_Ne tb N b)  : ∀ (n : Nat) (x1 : Int32) (H : Heap) (locs : List Loc) (ls : Array Slot), D_X0_isAtRest_L11 b st n x1 = some o → va_P g.1 vwCl (sn_W g tb N st) H → va_S (sn_A g N) s.heap H locs → lv_has ls 2 [(0, .ref (g.2.2.2 b)), (1, .int x1)] → W p l e { frames := 4, cells := 0, slots := 0, locals := 92 } s m args below meth c H locs 0 0 (MQ below (sn_Qi g tb N o st) args s 0 0 (sn_A g N)) (F0 m 11 ls []) := by
  obtain ⟨⟨hx, hb, hml, hown, hts⟩, hr, hlk, hC, hi⟩ := id C
  have hinX0 : ∀ w ∈ wsX00, w ∈ wsX0_isAtRest := by decide +kernel
  have hinX1 : ∀ w ∈ wsX10, w ∈ wsX0_isAtRest := by decide +kernel
  have hinX3 : ∀ w ∈ wsX30, w ∈ wsX0_isAtRest := by decide +kernel
  intro n
  induction n with
  | zero => intro _ _ _ _ hd; exact nomatch (show (none : Option (Int32)) = some o from hd)
  | succ n ih =>
    intro x1 H locs ls hd hP hS hl
    replace hd := (D_X0_isAtRest_L11.eq_2 _ _ _ _).symm.trans hd
    refine lv_iload_n hx hb dX0_isAtRest_11 rfl (lv_at hl 1 rfl) ?_
    refine lv_aload_n hx hb dX0_isAtRest_12 rfl (lv_at hl 0 rfl) ?_
    refine sn_get (ci := 0) (Cn := RX0) (T := TX0) (n := 9) (v := .ref (g.2.2.2 (b + 1))) C hinX0 hP b (sn_l0 hT.1 (by decide)) hT.2.1 rfl 0 (by decide) (by decide +kernel) rfl rfl dX0_isAtRest_13 ?_
    refine sn_get (ci := 2) (Cn := RX3) (T := TX3) (n := 3) (v := .int (st.1 (b + 1) 0)) C hinX3 hP (b + 1) (sn_l0 hT.2.2.1.1 (by decide)) hT.2.2.1.2.1 rfl 0 (by decide) (by decide +kernel) rfl rfl dX0_isAtRest_16 ?_
    refine lv_icmp_ge (tgt := 86) hx hb dX0_isAtRest_19 (by decide) (fun hc => ?_) (fun hc => ?_)
    · replace hd := (if_pos hc).symm.trans hd
      refine lv_aload_n hx hb dX0_isAtRest_86 rfl (lv_at hl 0 rfl) ?_
      obtain ⟨r1, hr1, hd⟩ := Option.bind_eq_some_iff.mp hd
      refine sn_Si (rest := []) (As := [.ref (g.2.2.2 b)]) (st := st) C (c_X2_rightsInAll hi hT hr1) (va_cwS 1 hts gX0_isAtRest_X2_rightsInAll rfl rfl rfl (by decide +kernel) ⟨Nat.le_of_ble_eq_true rfl, Nat.le_of_ble_eq_true rfl⟩) hP hS rfl hl.1 rfl (Nat.le_of_ble_eq_true rfl) dX0_isAtRest_87 (fun H locs hP hS => ?_)
      refine lv_iconst (v := (1 : Int32)) hx hb dX0_isAtRest_90 (by decide) ?_
      refine lv_icmp_ne (tgt := 98) hx hb dX0_isAtRest_91 (by decide) (fun hc => ?_) (fun hc => ?_)
      · replace hd := (if_neg hc).symm.trans hd
        refine lv_iconst (v := (0 : Int32)) hx hb dX0_isAtRest_98 (by decide) ?_
        cases hd
        exact sn_rz (Or.inl rfl) C hP hS dX0_isAtRest_99
      · replace hd := (if_pos hc).symm.trans hd
        refine lv_iconst (v := (1 : Int32)) hx hb dX0_isAtRest_94 (by decide) ?_
        refine lv_goto (tgt := 99) hx hb dX0_isAtRest_95 (by decide) ?_
        cases hd
        exact sn_rz (Or.inr rfl) C hP hS dX0_isAtRest_99
    · replace hd := (if_neg hc).symm.trans hd
      refine lv_aload_n hx hb dX0_isAtRest_22 rfl (lv_at hl 0 rfl) ?_
      refine sn_get (ci := 0) (Cn := RX0) (T := TX0) (n := 9) (v := .ref (g.2.2.2 (b + 4))) C hinX0 hP b (sn_l0 hT.1 (by decide)) hT.2.1 rfl 1 (by decide) (by decide +kernel) rfl rfl dX0_isAtRest_23 ?_
      refine sn_get (ci := 1) (Cn := RX1) (T := TX1) (n := 4) (v := .ref (g.2.2.2 (b + 4 + 1))) C hinX1 hP (b + 4) (sn_l0 hT.2.2.2.1.1 (by decide)) hT.2.2.2.1.2.1 rfl 0 (by decide) (by decide +kernel) rfl rfl dX0_isAtRest_26 ?_
      refine lv_iload_n hx hb dX0_isAtRest_29 rfl (lv_at hl 1 rfl) ?_
      refine sn_aald C hP (b + 4 + 1) (sn_l hT.2.2.2.1.1 (by decide)) hT.2.2.2.1.2.2.1 hd dX0_isAtRest_30 (fun k2 hk2 hd => ?_)
      refine lv_iconst (v := (0 : Int32)) hx hb dX0_isAtRest_31 (by decide) ?_
      refine sn_aldc (k := 0) C hP (b + 4 + 1 + 1 + k2) (hT.2.2.2.1.2.2.2.1 k2 hk2).2 (hT.2.2.2.1.2.2.2.1 k2 hk2).1 (by decide +kernel) dX0_isAtRest_32 ?_
      refine lv_aload_n hx hb dX0_isAtRest_33 rfl (lv_at hl 0 rfl) ?_
      refine sn_get (ci := 0) (Cn := RX0) (T := TX0) (n := 9) (v := .ref (g.2.2.2 (b + 1))) C hinX0 hP b (sn_l0 hT.1 (by decide)) hT.2.1 rfl 0 (by decide) (by decide +kernel) rfl rfl dX0_isAtRest_34 ?_
      refine sn_get (ci := 2) (Cn := RX3) (T := TX3) (n := 3) (v := .ref (g.2.2.2 (b + 1 + 2))) C hinX3 hP (b + 1) (sn_l0 hT.2.2.1.1 (by decide)) hT.2.2.1.2.1 rfl 2 (by decide) (by decide +kernel) rfl rfl dX0_isAtRest_37 ?_
      refine lv_iload_n hx hb dX0_isAtRest_40 rfl (lv_at hl 1 rfl) ?_
      refine sn_ald C hP (b + 1 + 2) (sn_l hT.2.2.1.1 (by decide)) hT.2.2.1.2.2.2 hd dX0_isAtRest_41 (fun k3 hk3 hd => ?_)
      refine lv_icmp_ne (tgt := 78) hx hb dX0_isAtRest_42 (by decide) (fun hc => ?_) (fun hc => ?_)
      · replace hd := (if_neg hc).symm.trans hd
        refine lv_iconst (v := (0 : Int32)) hx hb dX0_isAtRest_78 (by decide) ?_
        cases hd
        exact sn_rz (Or.inl rfl) C hP hS dX0_isAtRest_79
      · replace hd := (if_pos hc).symm.trans hd
        refine lv_aload_n hx hb dX0_isAtRest_45 rfl (lv_at hl 0 rfl) ?_
        refine sn_get (ci := 0) (Cn := RX0) (T := TX0) (n := 9) (v := .ref (g.2.2.2 (b + 4))) C hinX0 hP b (sn_l0 hT.1 (by decide)) hT.2.1 rfl 1 (by decide) (by decide +kernel) rfl rfl dX0_isAtRest_46 ?_
        refine sn_get (ci := 1) (Cn := RX1) (T := TX1) (n := 4) (v := .ref (g.2.2.2 (b + 4 + 1))) C hinX1 hP (b + 4) (sn_l0 hT.2.2.2.1.1 (by decide)) hT.2.2.2.1.2.1 rfl 0 (by decide) (by decide +kernel) rfl rfl dX0_isAtRest_49 ?_
        refine lv_iload_n hx hb dX0_isAtRest_52 rfl (lv_at hl 1 rfl) ?_
        refine sn_aald C hP (b + 4 + 1) (sn_l hT.2.2.2.1.1 (by decide)) hT.2.2.2.1.2.2.1 hd dX0_isAtRest_53 (fun k4 hk4 hd => ?_)
        refine lv_iconst (v := (1 : Int32)) hx hb dX0_isAtRest_54 (by decide) ?_
        refine sn_aldc (k := 1) C hP (b + 4 + 1 + 1 + k4) (hT.2.2.2.1.2.2.2.1 k4 hk4).2 (hT.2.2.2.1.2.2.2.1 k4 hk4).1 (by decide +kernel) dX0_isAtRest_55 ?_
        refine lv_aload_n hx hb dX0_isAtRest_56 rfl (lv_at hl 0 rfl) ?_
        refine sn_get (ci := 0) (Cn := RX0) (T := TX0) (n := 9) (v := .ref (g.2.2.2 (b + 1))) C hinX0 hP b (sn_l0 hT.1 (by decide)) hT.2.1 rfl 0 (by decide) (by decide +kernel) rfl rfl dX0_isAtRest_57 ?_
        refine lv_iload_n hx hb dX0_isAtRest_60 rfl (lv_at hl 1 rfl) ?_
        obtain ⟨r5, hr5, hd⟩ := Option.bind_eq_some_iff.mp hd
        refine sn_Vi (b := b + 1) (rest := [.int (st.1 (b + 4 + 1 + 1 + k4) 1)]) (As := [.int x1]) (st := st) C (c_X3_nearer hi hT.2.2.1 hr5) (cwV 1 hts gX0_isAtRest_X3_nearer rfl rfl rfl (by decide +kernel) ⟨Nat.le_of_ble_eq_true rfl, Nat.le_of_ble_eq_true rfl⟩) hP hS (sn_l0 hT.2.2.1.1 (by decide)) hT.2.2.1.2.1 rfl rfl hl.1 rfl (Nat.le_of_ble_eq_true rfl) dX0_isAtRest_61 (fun H locs hP hS => ?_)
        refine lv_icmp_ne (tgt := 78) hx hb dX0_isAtRest_64 (by decide) (fun hc => ?_) (fun hc => ?_)
        · replace hd := (if_neg hc).symm.trans hd
          refine lv_iconst (v := (0 : Int32)) hx hb dX0_isAtRest_78 (by decide) ?_
          cases hd
          exact sn_rz (Or.inl rfl) C hP hS dX0_isAtRest_79
        · replace hd := (if_pos hc).symm.trans hd
          refine lv_aload_n hx hb dX0_isAtRest_67 rfl (lv_at hl 0 rfl) ?_
          refine sn_get (ci := 0) (Cn := RX0) (T := TX0) (n := 9) (v := .ref (g.2.2.2 (b + 4))) C hinX0 hP b (sn_l0 hT.1 (by decide)) hT.2.1 rfl 1 (by decide) (by decide +kernel) rfl rfl dX0_isAtRest_68 ?_
          refine lv_iload_n hx hb dX0_isAtRest_71 rfl (lv_at hl 1 rfl) ?_
          obtain ⟨r6, hr6, hd⟩ := Option.bind_eq_some_iff.mp hd
          refine sn_Vi (b := b + 4) (rest := []) (As := [.int x1]) (st := st) C (c_X1_isSane hi hT.2.2.2.1 hr6) (cwV 1 hts gX0_isAtRest_X1_isSane rfl rfl rfl (by decide +kernel) ⟨Nat.le_of_ble_eq_true rfl, Nat.le_of_ble_eq_true rfl⟩) hP hS (sn_l0 hT.2.2.2.1.1 (by decide)) hT.2.2.2.1.2.1 rfl rfl hl.1 rfl (Nat.le_of_ble_eq_true rfl) dX0_isAtRest_72 (fun H locs hP hS => ?_)
          refine lv_if_ne (tgt := 80) hx hb dX0_isAtRest_75 (by decide) (fun hc => ?_) (fun hc => ?_)
          · replace hd := (if_neg hc).symm.trans hd
            refine lv_iinc (v := (x1 + (1 : Int32))) (lv' := [(1, .int (x1 + (1 : Int32))), (0, .ref (g.2.2.2 b))]) hx hb dX0_isAtRest_80 hl (k := 1) rfl rfl (by decide) rfl (fun ls hl => ?_)
            refine lv_goto (tgt := 11) hx hb dX0_isAtRest_83 (by decide) ?_
            exact ih (x1 + (1 : Int32)) _ _ _ hd hP hS (lv_sub hl [1, 0] rfl)
          · replace hd := (if_pos hc).symm.trans hd
            refine lv_iconst (v := (0 : Int32)) hx hb dX0_isAtRest_78 (by decide) ?_
            cases hd
            exact sn_rz (Or.inl rfl) C hP hS dX0_isAtRest_79

set_option maxHeartbeats 4000000 in
set_option maxRecDepth 100000 in
theorem c_X0_isAtRest {l : Launch} {g : sn_G} {tb : Nat → sn_K} {N : Nat} (hi : sn_I g N) {b : Nat} (hT : sn_Ne tb N b) {st : sn_S} {o : Int32} (hd : D_X0_isAtRest b st = some o) : sn_Mi l yX0_isAtRest wsX0_isAtRest { frames := 4, cells := 0, slots := 0, locals := 92 } g tb N [.ref (g.2.2.2 b)] st o st := by
  refine sn_Mi.of (cc := cX0_isAtRest) (nL := 2) (ret := (some .boolean)) hi (by decide) rfl (Nat.le_of_ble_eq_true rfl) ?_
  intro p e s m args below meth c ls C hP hS hl
  have hl : lv_has ls 2 [(0, .ref (g.2.2.2 b))] := hl
  obtain ⟨⟨hx, hb, hml, hown, hts⟩, hr, hlk, hC, hi⟩ := id C
  unfold D_X0_isAtRest at hd
  have hinX0 : ∀ w ∈ wsX00, w ∈ wsX0_isAtRest := by decide +kernel
  have hinX1 : ∀ w ∈ wsX10, w ∈ wsX0_isAtRest := by decide +kernel
  have hinX3 : ∀ w ∈ wsX30, w ∈ wsX0_isAtRest := by decide +kernel
  refine lv_aload_n hx hb dX0_isAtRest_0 rfl (lv_at hl 0 rfl) ?_
  refine sn_get (ci := 0) (Cn := RX0) (T := TX0) (n := 9) (v := .int (st.1 b 3)) C hinX0 hP b (sn_l0 hT.1 (by decide)) hT.2.1 rfl 3 (by decide) (by decide +kernel) rfl rfl dX0_isAtRest_1 ?_
  refine lv_if_ne (tgt := 9) hx hb dX0_isAtRest_4 (by decide) (fun hc => ?_) (fun hc => ?_)
  · replace hd := (if_neg hc).symm.trans hd
    refine lv_iconst (v := (0 : Int32)) hx hb dX0_isAtRest_9 (by decide) ?_
    refine lv_istore_n (lv' := [(1, .int (0 : Int32)), (0, .ref (g.2.2.2 b))]) hx hb dX0_isAtRest_10 rfl hl (by decide) rfl (fun ls hl => ?_)
    exact t_X0_isAtRest_L11 (st := st) C hT 4096 (0 : Int32) _ _ _ hd hP hS (lv_sub hl [1, 0] rfl)
  · replace hd := (if_pos hc).symm.trans hd
    refine lv_iconst (v := (0 : Int32)) hx hb dX0_isAtRest_7 (by decide) ?_
    cases hd
    exact sn_rz (Or.inl rfl) C hP hS dX0_isAtRest_8

set_option maxHeartbeats 4000000 in
set_option maxRecDepth 100000 in
theorem c_X0_copyFrom {l : Launch} {g : sn_G} {tb : Nat → sn_K} {N : Nat} (hi : sn_I g N) {b : Nat} {o1 : Nat} (hT : sn_Ne tb N b) (hO1 : sn_Ne tb N o1) {st : sn_S} {o : sn_S} (hd : D_X0_copyFrom b o1 st = some o) : sn_Mv l yX0_copyFrom wsX0_copyFrom { frames := 2, cells := 0, slots := 0, locals := 82 } g tb N [.ref (g.2.2.2 b), .ref (g.2.2.2 o1)] st o := by
  refine sn_Mv.of (cc := cX0_copyFrom) (nL := 2) (ret := none) hi (by decide) rfl (Nat.le_of_ble_eq_true rfl) ?_
  intro p e s m args below meth c ls C hP hS hl
  have hl : lv_has ls 2 [(0, .ref (g.2.2.2 b)), (1, .ref (g.2.2.2 o1))] := hl
  obtain ⟨⟨hx, hb, hml, hown, hts⟩, hr, hlk, hC, hi⟩ := id C
  unfold D_X0_copyFrom at hd
  have hinX0 : ∀ w ∈ wsX00, w ∈ wsX0_copyFrom := by decide +kernel
  refine lv_aload_n hx hb dX0_copyFrom_0 rfl (lv_at hl 0 rfl) ?_
  refine sn_get (ci := 0) (Cn := RX0) (T := TX0) (n := 9) (v := .ref (g.2.2.2 (b + 1))) C hinX0 hP b (sn_l0 hT.1 (by decide)) hT.2.1 rfl 0 (by decide) (by decide +kernel) rfl rfl dX0_copyFrom_1 ?_
  refine lv_aload_n hx hb dX0_copyFrom_4 rfl (lv_at hl 1 rfl) ?_
  refine sn_get (ci := 0) (Cn := RX0) (T := TX0) (n := 9) (v := .ref (g.2.2.2 (o1 + 1))) C hinX0 hP o1 (sn_l0 hO1.1 (by decide)) hO1.2.1 rfl 0 (by decide) (by decide +kernel) rfl rfl dX0_copyFrom_5 ?_
  obtain ⟨r1, hr1, hd⟩ := Option.bind_eq_some_iff.mp hd
  refine sn_Vv (b := b + 1) (rest := []) (As := [.ref (g.2.2.2 (o1 + 1))]) (st := st) C (c_X3_copyFrom hi hT.2.2.1 hO1.2.2.1 hr1) (cwV 1 hts gX0_copyFrom_X3_copyFrom rfl rfl rfl (by decide +kernel) ⟨Nat.le_of_ble_eq_true rfl, Nat.le_of_ble_eq_true rfl⟩) hP hS (sn_l0 hT.2.2.1.1 (by decide)) hT.2.2.1.2.1 rfl rfl hl.1 rfl (Nat.le_of_ble_eq_true rfl) dX0_copyFrom_8 (fun H locs hP hS => ?_)
  refine lv_aload_n hx hb dX0_copyFrom_11 rfl (lv_at hl 0 rfl) ?_
  refine sn_get (ci := 0) (Cn := RX0) (T := TX0) (n := 9) (v := .ref (g.2.2.2 (b + 4))) C hinX0 hP b (sn_l0 hT.1 (by decide)) hT.2.1 rfl 1 (by decide) (by decide +kernel) rfl rfl dX0_copyFrom_12 ?_
  refine lv_aload_n hx hb dX0_copyFrom_15 rfl (lv_at hl 1 rfl) ?_
  refine sn_get (ci := 0) (Cn := RX0) (T := TX0) (n := 9) (v := .ref (g.2.2.2 (o1 + 4))) C hinX0 hP o1 (sn_l0 hO1.1 (by decide)) hO1.2.1 rfl 1 (by decide) (by decide +kernel) rfl rfl dX0_copyFrom_16 ?_
  obtain ⟨r2, hr2, hd⟩ := Option.bind_eq_some_iff.mp hd
  refine sn_Vv (b := b + 4) (rest := []) (As := [.ref (g.2.2.2 (o1 + 4))]) (st := r1) C (c_X1_copyFrom hi hT.2.2.2.1 hO1.2.2.2.1 hr2) (cwV 1 hts gX0_copyFrom_X1_copyFrom rfl rfl rfl (by decide +kernel) ⟨Nat.le_of_ble_eq_true rfl, Nat.le_of_ble_eq_true rfl⟩) hP hS (sn_l0 hT.2.2.2.1.1 (by decide)) hT.2.2.2.1.2.1 rfl rfl hl.1 rfl (Nat.le_of_ble_eq_true rfl) dX0_copyFrom_19 (fun H locs hP hS => ?_)
  refine lv_aload_n hx hb dX0_copyFrom_22 rfl (lv_at hl 0 rfl) ?_
  refine sn_get (ci := 0) (Cn := RX0) (T := TX0) (n := 9) (v := .ref (g.2.2.2 (b + 33))) C hinX0 hP b (sn_l0 hT.1 (by decide)) hT.2.1 rfl 2 (by decide) (by decide +kernel) rfl rfl dX0_copyFrom_23 ?_
  refine lv_aload_n hx hb dX0_copyFrom_26 rfl (lv_at hl 1 rfl) ?_
  refine sn_get (ci := 0) (Cn := RX0) (T := TX0) (n := 9) (v := .ref (g.2.2.2 (o1 + 33))) C hinX0 hP o1 (sn_l0 hO1.1 (by decide)) hO1.2.1 rfl 2 (by decide) (by decide +kernel) rfl rfl dX0_copyFrom_27 ?_
  obtain ⟨r3, hr3, hd⟩ := Option.bind_eq_some_iff.mp hd
  refine sn_Vv (b := b + 33) (rest := []) (As := [.ref (g.2.2.2 (o1 + 33))]) (st := r2) C (c_X4_copyFrom hi hT.2.2.2.2 hO1.2.2.2.2 hr3) (cwV 1 hts gX0_copyFrom_X4_copyFrom rfl rfl rfl (by decide +kernel) ⟨Nat.le_of_ble_eq_true rfl, Nat.le_of_ble_eq_true rfl⟩) hP hS (sn_l0 hT.2.2.2.2.1 (by decide)) hT.2.2.2.2.2.1 rfl rfl hl.1 rfl (Nat.le_of_ble_eq_true rfl) dX0_copyFrom_30 (fun H locs hP hS => ?_)
  refine lv_aload_n hx hb dX0_copyFrom_33 rfl (lv_at hl 0 rfl) ?_
  refine lv_aload_n hx hb dX0_copyFrom_34 rfl (lv_at hl 1 rfl) ?_
  refine sn_get (ci := 0) (Cn := RX0) (T := TX0) (n := 9) (v := .int (r3.1 o1 3)) C hinX0 hP o1 (sn_l0 hO1.1 (by decide)) hO1.2.1 rfl 3 (by decide) (by decide +kernel) rfl rfl dX0_copyFrom_35 ?_
  by_cases hz4 : (r3.1 o1 3) = 0 ∨ (r3.1 o1 3) = 1
  rotate_left
  · exact nomatch (if_neg hz4).symm.trans hd
  replace hd := (if_pos hz4).symm.trans hd
  refine sn_pf (ci := 0) (Cn := RX0) (T := TX0) (n := 9) (ty0 := tyX0) C hinX0 tyX0_ok nmX0 hP hS b (sn_l0 hT.1 (by decide)) hT.2.1 rfl 3 (by decide) (by decide +kernel) rfl rfl rfl (sn_nz hz4) (sn_fz hz4) dX0_copyFrom_38 (fun H locs hP hS => ?_)
  refine lv_aload_n hx hb dX0_copyFrom_41 rfl (lv_at hl 0 rfl) ?_
  refine lv_aload_n hx hb dX0_copyFrom_42 rfl (lv_at hl 1 rfl) ?_
  refine sn_get (ci := 0) (Cn := RX0) (T := TX0) (n := 9) (v := .int ((sn_wr r3 b 3 (r3.1 o1 3)).1 o1 4)) C hinX0 hP o1 (sn_l0 hO1.1 (by decide)) hO1.2.1 rfl 4 (by decide) (by decide +kernel) rfl rfl dX0_copyFrom_43 ?_
  refine sn_pf (ci := 0) (Cn := RX0) (T := TX0) (n := 9) (ty0 := tyX0) C hinX0 tyX0_ok nmX0 hP hS b (sn_l0 hT.1 (by decide)) hT.2.1 rfl 4 (by decide) (by decide +kernel) rfl rfl rfl rfl rfl dX0_copyFrom_46 (fun H locs hP hS => ?_)
  refine lv_aload_n hx hb dX0_copyFrom_49 rfl (lv_at hl 0 rfl) ?_
  refine lv_aload_n hx hb dX0_copyFrom_50 rfl (lv_at hl 1 rfl) ?_
  refine sn_get (ci := 0) (Cn := RX0) (T := TX0) (n := 9) (v := .int ((sn_wr (sn_wr r3 b 3 (r3.1 o1 3)) b 4 ((sn_wr r3 b 3 (r3.1 o1 3)).1 o1 4)).1 o1 5)) C hinX0 hP o1 (sn_l0 hO1.1 (by decide)) hO1.2.1 rfl 5 (by decide) (by decide +kernel) rfl rfl dX0_copyFrom_51 ?_
  refine sn_pf (ci := 0) (Cn := RX0) (T := TX0) (n := 9) (ty0 := tyX0) C hinX0 tyX0_ok nmX0 hP hS b (sn_l0 hT.1 (by decide)) hT.2.1 rfl 5 (by decide) (by decide +kernel) rfl rfl rfl rfl rfl dX0_copyFrom_54 (fun H locs hP hS => ?_)
  refine lv_aload_n hx hb dX0_copyFrom_57 rfl (lv_at hl 0 rfl) ?_
  refine lv_aload_n hx hb dX0_copyFrom_58 rfl (lv_at hl 1 rfl) ?_
  refine sn_get (ci := 0) (Cn := RX0) (T := TX0) (n := 9) (v := .int ((sn_wr (sn_wr (sn_wr r3 b 3 (r3.1 o1 3)) b 4 ((sn_wr r3 b 3 (r3.1 o1 3)).1 o1 4)) b 5 ((sn_wr (sn_wr r3 b 3 (r3.1 o1 3)) b 4 ((sn_wr r3 b 3 (r3.1 o1 3)).1 o1 4)).1 o1 5)).1 o1 6)) C hinX0 hP o1 (sn_l0 hO1.1 (by decide)) hO1.2.1 rfl 6 (by decide) (by decide +kernel) rfl rfl dX0_copyFrom_59 ?_
  refine sn_pf (ci := 0) (Cn := RX0) (T := TX0) (n := 9) (ty0 := tyX0) C hinX0 tyX0_ok nmX0 hP hS b (sn_l0 hT.1 (by decide)) hT.2.1 rfl 6 (by decide) (by decide +kernel) rfl rfl rfl rfl rfl dX0_copyFrom_62 (fun H locs hP hS => ?_)
  refine lv_aload_n hx hb dX0_copyFrom_65 rfl (lv_at hl 0 rfl) ?_
  refine lv_aload_n hx hb dX0_copyFrom_66 rfl (lv_at hl 1 rfl) ?_
  refine sn_get (ci := 0) (Cn := RX0) (T := TX0) (n := 9) (v := .int ((sn_wr (sn_wr (sn_wr (sn_wr r3 b 3 (r3.1 o1 3)) b 4 ((sn_wr r3 b 3 (r3.1 o1 3)).1 o1 4)) b 5 ((sn_wr (sn_wr r3 b 3 (r3.1 o1 3)) b 4 ((sn_wr r3 b 3 (r3.1 o1 3)).1 o1 4)).1 o1 5)) b 6 ((sn_wr (sn_wr (sn_wr r3 b 3 (r3.1 o1 3)) b 4 ((sn_wr r3 b 3 (r3.1 o1 3)).1 o1 4)) b 5 ((sn_wr (sn_wr r3 b 3 (r3.1 o1 3)) b 4 ((sn_wr r3 b 3 (r3.1 o1 3)).1 o1 4)).1 o1 5)).1 o1 6)).1 o1 7)) C hinX0 hP o1 (sn_l0 hO1.1 (by decide)) hO1.2.1 rfl 7 (by decide) (by decide +kernel) rfl rfl dX0_copyFrom_67 ?_
  refine sn_pf (ci := 0) (Cn := RX0) (T := TX0) (n := 9) (ty0 := tyX0) C hinX0 tyX0_ok nmX0 hP hS b (sn_l0 hT.1 (by decide)) hT.2.1 rfl 7 (by decide) (by decide +kernel) rfl rfl rfl rfl rfl dX0_copyFrom_70 (fun H locs hP hS => ?_)
  refine lv_aload_n hx hb dX0_copyFrom_73 rfl (lv_at hl 0 rfl) ?_
  refine lv_aload_n hx hb dX0_copyFrom_74 rfl (lv_at hl 1 rfl) ?_
  refine sn_get (ci := 0) (Cn := RX0) (T := TX0) (n := 9) (v := .int ((sn_wr (sn_wr (sn_wr (sn_wr (sn_wr r3 b 3 (r3.1 o1 3)) b 4 ((sn_wr r3 b 3 (r3.1 o1 3)).1 o1 4)) b 5 ((sn_wr (sn_wr r3 b 3 (r3.1 o1 3)) b 4 ((sn_wr r3 b 3 (r3.1 o1 3)).1 o1 4)).1 o1 5)) b 6 ((sn_wr (sn_wr (sn_wr r3 b 3 (r3.1 o1 3)) b 4 ((sn_wr r3 b 3 (r3.1 o1 3)).1 o1 4)) b 5 ((sn_wr (sn_wr r3 b 3 (r3.1 o1 3)) b 4 ((sn_wr r3 b 3 (r3.1 o1 3)).1 o1 4)).1 o1 5)).1 o1 6)) b 7 ((sn_wr (sn_wr (sn_wr (sn_wr r3 b 3 (r3.1 o1 3)) b 4 ((sn_wr r3 b 3 (r3.1 o1 3)).1 o1 4)) b 5 ((sn_wr (sn_wr r3 b 3 (r3.1 o1 3)) b 4 ((sn_wr r3 b 3 (r3.1 o1 3)).1 o1 4)).1 o1 5)) b 6 ((sn_wr (sn_wr (sn_wr r3 b 3 (r3.1 o1 3)) b 4 ((sn_wr r3 b 3 (r3.1 o1 3)).1 o1 4)) b 5 ((sn_wr (sn_wr r3 b 3 (r3.1 o1 3)) b 4 ((sn_wr r3 b 3 (r3.1 o1 3)).1 o1 4)).1 o1 5)).1 o1 6)).1 o1 7)).1 o1 8)) C hinX0 hP o1 (sn_l0 hO1.1 (by decide)) hO1.2.1 rfl 8 (by decide) (by decide +kernel) rfl rfl dX0_copyFrom_75 ?_
  refine sn_pf (ci := 0) (Cn := RX0) (T := TX0) (n := 9) (ty0 := tyX0) C hinX0 tyX0_ok nmX0 hP hS b (sn_l0 hT.1 (by decide)) hT.2.1 rfl 8 (by decide) (by decide +kernel) rfl rfl rfl rfl rfl dX0_copyFrom_78 (fun H locs hP hS => ?_)
  cases hd
  exact sn_rv C hP hS dX0_copyFrom_81
