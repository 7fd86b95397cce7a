set_option maxHeartbeats 4000000 in
set_option maxRecDepth 100000 in
theorem c_X5_open {l : Launch} {g : sn_G} {tb : Nat → sn_K} {N : Nat} (hi : sn_I g N) {b : Nat} {x1 : Int32} (hT : sn_SN tb N b) {st : sn_S} {o : Int32 × sn_S} (hd : D_X5_open b x1 st = some o) : sn_Mi l yX5_open wsX5_open { frames := 4, cells := 0, slots := 0, locals := 90 } g tb N [.ref (g.2.2.2 b), .int x1] st o.1 o.2 := by
  refine sn_Mi.of (cc := cX5_open) (nL := 3) (ret := (some .int)) hi (by decide) rfl (Nat.le_of_ble_eq_true rfl) ?_
  intro p e s m args below meth c ls C hP hS hl
  have hl : lv_has ls 3 [(0, .ref (g.2.2.2 b)), (1, .int x1)] := hl
  obtain ⟨⟨hx, hb, hml, hown, hts⟩, hr, hlk, hC, hi⟩ := id C
  unfold D_X5_open at hd
  have hinX0 : ∀ w ∈ wsX00, w ∈ wsX5_open := by decide +kernel
  have hinX5 : ∀ w ∈ wsX50, w ∈ wsX5_open := by decide +kernel
  have hinX3 : ∀ w ∈ wsX30, w ∈ wsX5_open := by decide +kernel
  refine lv_iload_n hx hb dX5_open_0 rfl (lv_at hl 1 rfl) ?_
  refine lv_iconst (v := (2 : Int32)) hx hb dX5_open_1 (by decide) ?_
  refine lv_icmp_lt (tgt := 11) hx hb dX5_open_2 (by decide) (fun hc => ?_) (fun hc => ?_)
  · replace hd := (if_pos hc).symm.trans hd
    refine lv_bipush (v := (-102 : Int32)) hx hb dX5_open_11 (by decide) ?_
    have ho := Option.some.inj hd
    subst ho
    exact sn_ri C hP hS dX5_open_13
  · replace hd := (if_neg hc).symm.trans hd
    refine lv_iload_n hx hb dX5_open_5 rfl (lv_at hl 1 rfl) ?_
    refine lv_bipush (v := (12 : Int32)) hx hb dX5_open_6 (by decide) ?_
    refine lv_icmp_le (tgt := 14) hx hb dX5_open_8 (by decide) (fun hc => ?_) (fun hc => ?_)
    · replace hd := (if_pos hc).symm.trans hd
      refine lv_aload_n hx hb dX5_open_14 rfl (lv_at hl 0 rfl) ?_
      refine sn_get (ci := 4) (Cn := RX5) (T := TX5) (n := 3) (v := .ref (g.2.2.2 (b + 1))) C hinX5 hP b (sn_l0 hT.1 (by decide)) hT.2.1 rfl 0 (by decide) (by decide +kernel) rfl rfl dX5_open_15 ?_
      refine sn_get (ci := 0) (Cn := RX0) (T := TX0) (n := 9) (v := .ref (g.2.2.2 (b + 1 + 1))) C hinX0 hP (b + 1) (sn_l0 hT.2.2.1.1 (by decide)) hT.2.2.1.2.1 rfl 0 (by decide) (by decide +kernel) rfl rfl dX5_open_18 ?_
      refine sn_get (ci := 2) (Cn := RX3) (T := TX3) (n := 3) (v := .int (st.1 (b + 1 + 1) 0)) C hinX3 hP (b + 1 + 1) (sn_l0 hT.2.2.1.2.2.1.1 (by decide)) hT.2.2.1.2.2.1.2.1 rfl 0 (by decide) (by decide +kernel) rfl rfl dX5_open_21 ?_
      refine lv_istore_n (lv' := [(2, .int (st.1 (b + 1 + 1) 0)), (0, .ref (g.2.2.2 b)), (1, .int x1)]) hx hb dX5_open_24 rfl hl (by decide) rfl (fun ls hl => ?_)
      refine lv_aload_n hx hb dX5_open_25 rfl (lv_at hl 1 rfl) ?_
      refine sn_get (ci := 4) (Cn := RX5) (T := TX5) (n := 3) (v := .ref (g.2.2.2 (b + 1))) C hinX5 hP b (sn_l0 hT.1 (by decide)) hT.2.1 rfl 0 (by decide) (by decide +kernel) rfl rfl dX5_open_26 ?_
      refine lv_iload_n hx hb dX5_open_29 rfl (lv_at hl 2 rfl) ?_
      obtain ⟨r1, hr1, hd⟩ := Option.bind_eq_some_iff.mp hd
      refine sn_Vv (b := b + 1) (rest := []) (As := [.int x1]) (st := st) C (c_X0_clear hi hT.2.2.1 hr1) (cwV 1 hts gX5_open_X0_clear rfl rfl rfl (by decide +kernel) ⟨Nat.le_of_ble_eq_true rfl, Nat.le_of_ble_eq_true rfl⟩) hP hS (sn_l0 hT.2.2.1.1 (by decide)) hT.2.2.1.2.1 rfl rfl hl.1 rfl (Nat.le_of_ble_eq_true rfl) dX5_open_30 (fun H locs hP hS => ?_)
      refine lv_iload_n hx hb dX5_open_33 rfl (lv_at hl 0 rfl) ?_
      have ho := Option.some.inj hd
      subst ho
      exact sn_ri C hP hS dX5_open_34
    · replace hd := (if_neg hc).symm.trans hd
      refine lv_bipush (v := (-102 : Int32)) hx hb dX5_open_11 (by decide) ?_
      have ho := Option.some.inj hd
      subst ho
      exact sn_ri C hP hS dX5_open_13

set_option maxHeartbeats 4000000 in
set_option maxRecDepth 100000 in
theorem c_X5_link {l : Launch} {g : sn_G} {tb : Nat → sn_K} {N : Nat} (hi : sn_I g N) {b : Nat} {x1 : Int32} {x2 : Int32} {x3 : Int32} (hT : sn_SN tb N b) {st : sn_S} {o : Int32 × sn_S} (hd : D_X5_link b x1 x2 x3 st = some o) : sn_Mi l yX5_link wsX5_link { frames := 3, cells := 0, slots := 0, locals := 71 } g tb N [.ref (g.2.2.2 b), .int x1, .int x2, .int x3] st o.1 o.2 := by
  refine sn_Mi.of (cc := cX5_link) (nL := 5) (ret := (some .int)) hi (by decide) rfl (Nat.le_of_ble_eq_true rfl) ?_
  intro p e s m args below meth c ls C hP hS hl
  have hl : lv_has ls 5 [(0, .ref (g.2.2.2 b)), (1, .int x1), (2, .int x2), (3, .int x3)] := hl
  obtain ⟨⟨hx, hb, hml, hown, hts⟩, hr, hlk, hC, hi⟩ := id C
  unfold D_X5_link at hd
  have hinX0 : ∀ w ∈ wsX00, w ∈ wsX5_link := by decide +kernel
  have hinX5 : ∀ w ∈ wsX50, w ∈ wsX5_link := by decide +kernel
  have hinX3 : ∀ w ∈ wsX30, w ∈ wsX5_link := by decide +kernel
  refine lv_aload_n hx hb dX5_link_0 rfl (lv_at hl 0 rfl) ?_
  refine sn_get (ci := 4) (Cn := RX5) (T := TX5) (n := 3) (v := .ref (g.2.2.2 (b + 1))) C hinX5 hP b (sn_l0 hT.1 (by decide)) hT.2.1 rfl 0 (by decide) (by decide +kernel) rfl rfl dX5_link_1 ?_
  refine sn_get (ci := 0) (Cn := RX0) (T := TX0) (n := 9) (v := .ref (g.2.2.2 (b + 1 + 1))) C hinX0 hP (b + 1) (sn_l0 hT.2.2.1.1 (by decide)) hT.2.2.1.2.1 rfl 0 (by decide) (by decide +kernel) rfl rfl dX5_link_4 ?_
  refine lv_iload_n hx hb dX5_link_7 rfl (lv_at hl 1 rfl) ?_
  obtain ⟨r1, hr1, hd⟩ := Option.bind_eq_some_iff.mp hd
  refine sn_Vi (b := b + 1 + 1) (rest := []) (As := [.int x1]) (st := st) C (c_X3_isNode hi hT.2.2.1.2.2.1 hr1) (cwV 1 hts gX5_link_X3_isNode rfl rfl rfl (by decide +kernel) ⟨Nat.le_of_ble_eq_true rfl, Nat.le_of_ble_eq_true rfl⟩) hP hS (sn_l0 hT.2.2.1.2.2.1.1 (by decide)) hT.2.2.1.2.2.1.2.1 rfl rfl hl.1 rfl (Nat.le_of_ble_eq_true rfl) dX5_link_8 (fun H locs hP hS => ?_)
  refine lv_if_eq (tgt := 28) hx hb dX5_link_11 (by decide) (fun hc => ?_) (fun hc => ?_)
  · replace hd := (if_pos hc).symm.trans hd
    refine lv_bipush (v := (-101 : Int32)) hx hb dX5_link_28 (by decide) ?_
    have ho := Option.some.inj hd
    subst ho
    exact sn_ri C hP hS dX5_link_30
  · replace hd := (if_neg hc).symm.trans hd
    refine lv_aload_n hx hb dX5_link_14 rfl (lv_at hl 0 rfl) ?_
    refine sn_get (ci := 4) (Cn := RX5) (T := TX5) (n := 3) (v := .ref (g.2.2.2 (b + 1))) C hinX5 hP b (sn_l0 hT.1 (by decide)) hT.2.1 rfl 0 (by decide) (by decide +kernel) rfl rfl dX5_link_15 ?_
    refine sn_get (ci := 0) (Cn := RX0) (T := TX0) (n := 9) (v := .ref (g.2.2.2 (b + 1 + 1))) C hinX0 hP (b + 1) (sn_l0 hT.2.2.1.1 (by decide)) hT.2.2.1.2.1 rfl 0 (by decide) (by decide +kernel) rfl rfl dX5_link_18 ?_
    refine lv_iload_n hx hb dX5_link_21 rfl (lv_at hl 2 rfl) ?_
    obtain ⟨r2, hr2, hd⟩ := Option.bind_eq_some_iff.mp hd
    refine sn_Vi (b := b + 1 + 1) (rest := []) (As := [.int x2]) (st := st) C (c_X3_isNode hi hT.2.2.1.2.2.1 hr2) (cwV 1 hts gX5_link_X3_isNode rfl rfl rfl (by decide +kernel) ⟨Nat.le_of_ble_eq_true rfl, Nat.le_of_ble_eq_true rfl⟩) hP hS (sn_l0 hT.2.2.1.2.2.1.1 (by decide)) hT.2.2.1.2.2.1.2.1 rfl rfl hl.1 rfl (Nat.le_of_ble_eq_true rfl) dX5_link_22 (fun H locs hP hS => ?_)
    refine lv_if_ne (tgt := 31) hx hb dX5_link_25 (by decide) (fun hc => ?_) (fun hc => ?_)
    · replace hd := (if_neg hc).symm.trans hd
      refine lv_iload_n hx hb dX5_link_31 rfl (lv_at hl 1 rfl) ?_
      refine lv_iload_n hx hb dX5_link_32 rfl (lv_at hl 2 rfl) ?_
      refine lv_icmp_ne (tgt := 39) hx hb dX5_link_33 (by decide) (fun hc => ?_) (fun hc => ?_)
      · replace hd := (if_neg hc).symm.trans hd
        refine lv_aload_n hx hb dX5_link_39 rfl (lv_at hl 0 rfl) ?_
        refine sn_get (ci := 4) (Cn := RX5) (T := TX5) (n := 3) (v := .ref (g.2.2.2 (b + 1))) C hinX5 hP b (sn_l0 hT.1 (by decide)) hT.2.1 rfl 0 (by decide) (by decide +kernel) rfl rfl dX5_link_40 ?_
        refine sn_get (ci := 0) (Cn := RX0) (T := TX0) (n := 9) (v := .int (st.1 (b + 1) 3)) C hinX0 hP (b + 1) (sn_l0 hT.2.2.1.1 (by decide)) hT.2.2.1.2.1 rfl 3 (by decide) (by decide +kernel) rfl rfl dX5_link_43 ?_
        refine lv_if_eq (tgt := 52) hx hb dX5_link_46 (by decide) (fun hc => ?_) (fun hc => ?_)
        · replace hd := (if_pos hc).symm.trans hd
          refine lv_aload_n hx hb dX5_link_52 rfl (lv_at hl 0 rfl) ?_
          refine sn_get (ci := 4) (Cn := RX5) (T := TX5) (n := 3) (v := .ref (g.2.2.2 (b + 1))) C hinX5 hP b (sn_l0 hT.1 (by decide)) hT.2.1 rfl 0 (by decide) (by decide +kernel) rfl rfl dX5_link_53 ?_
          refine sn_get (ci := 0) (Cn := RX0) (T := TX0) (n := 9) (v := .ref (g.2.2.2 (b + 1 + 1))) C hinX0 hP (b + 1) (sn_l0 hT.2.2.1.1 (by decide)) hT.2.2.1.2.1 rfl 0 (by decide) (by decide +kernel) rfl rfl dX5_link_56 ?_
          refine sn_get (ci := 2) (Cn := RX3) (T := TX3) (n := 3) (v := .ref (g.2.2.2 (b + 1 + 1 + 1))) C hinX3 hP (b + 1 + 1) (sn_l0 hT.2.2.1.2.2.1.1 (by decide)) hT.2.2.1.2.2.1.2.1 rfl 1 (by decide) (by decide +kernel) rfl rfl dX5_link_59 ?_
          refine lv_iload_n hx hb dX5_link_62 rfl (lv_at hl 1 rfl) ?_
          refine sn_ald C hP (b + 1 + 1 + 1) (sn_l hT.2.2.1.2.2.1.1 (by decide)) hT.2.2.1.2.2.1.2.2.1 hd dX5_link_63 (fun k3 hk3 hd => ?_)
          refine lv_iload_n hx hb dX5_link_64 rfl (lv_at hl 2 rfl) ?_
          obtain ⟨r4, hr4, hd⟩ := Option.bind_eq_some_iff.mp hd
          refine sn_Si (rest := []) (As := [.int (st.1 (b + 1 + 1 + 1) k3), .int x2]) (st := st) C (c_X5_has hi  hr4) (va_cwS 2 hts gX5_link_X5_has rfl rfl rfl (by decide +kernel) ⟨Nat.le_of_ble_eq_true rfl, Nat.le_of_ble_eq_true rfl⟩) hP hS rfl hl.1 rfl (Nat.le_of_ble_eq_true rfl) dX5_link_65 (fun H locs hP hS => ?_)
          refine lv_if_eq (tgt := 75) hx hb dX5_link_68 (by decide) (fun hc => ?_) (fun hc => ?_)
          · replace hd := (if_pos hc).symm.trans hd
            refine lv_iconst (v := (0 : Int32)) hx hb dX5_link_75 (by decide) ?_
            refine lv_istore (lv' := [(4, .int (0 : Int32)), (0, .ref (g.2.2.2 b)), (1, .int x1), (2, .int x2), (3, .int x3)]) hx hb dX5_link_76 hl (by decide) rfl (fun ls hl => ?_)
            refine lv_aload_n hx hb dX5_link_78 rfl (lv_at hl 1 rfl) ?_
            refine sn_get (ci := 4) (Cn := RX5) (T := TX5) (n := 3) (v := .ref (g.2.2.2 (b + 1))) C hinX5 hP b (sn_l0 hT.1 (by decide)) hT.2.1 rfl 0 (by decide) (by decide +kernel) rfl rfl dX5_link_79 ?_
            refine sn_get (ci := 0) (Cn := RX0) (T := TX0) (n := 9) (v := .ref (g.2.2.2 (b + 1 + 1))) C hinX0 hP (b + 1) (sn_l0 hT.2.2.1.1 (by decide)) hT.2.2.1.2.1 rfl 0 (by decide) (by decide +kernel) rfl rfl dX5_link_82 ?_
            refine lv_iload_n hx hb dX5_link_85 rfl (lv_at hl 2 rfl) ?_
            refine lv_iload_n hx hb dX5_link_86 rfl (lv_at hl 3 rfl) ?_
            refine lv_iload_n hx hb dX5_link_87 rfl (lv_at hl 4 rfl) ?_
            obtain ⟨r5, hr5, hd⟩ := Option.bind_eq_some_iff.mp hd
            refine sn_Vv (b := b + 1 + 1) (rest := []) (As := [.int x1, .int x2, .int x3]) (st := st) C (c_X3_join hi hT.2.2.1.2.2.1 hr5) (cwV 3 hts gX5_link_X3_join rfl rfl rfl (by decide +kernel) ⟨Nat.le_of_ble_eq_true rfl, Nat.le_of_ble_eq_true rfl⟩) hP hS (sn_l0 hT.2.2.1.2.2.1.1 (by decide)) hT.2.2.1.2.2.1.2.1 rfl rfl hl.1 rfl (Nat.le_of_ble_eq_true rfl) dX5_link_88 (fun H locs hP hS => ?_)
            refine lv_iload hx hb dX5_link_91 (lv_at hl 0 rfl) ?_
            have ho := Option.some.inj hd
            subst ho
            exact sn_ri C hP hS dX5_link_93
          · replace hd := (if_neg hc).symm.trans hd
            refine lv_iconst (v := (1 : Int32)) hx hb dX5_link_71 (by decide) ?_
            refine lv_goto (tgt := 76) hx hb dX5_link_72 (by decide) ?_
            refine lv_istore (lv' := [(4, .int (1 : Int32)), (0, .ref (g.2.2.2 b)), (1, .int x1), (2, .int x2), (3, .int x3)]) hx hb dX5_link_76 hl (by decide) rfl (fun ls hl => ?_)
            refine lv_aload_n hx hb dX5_link_78 rfl (lv_at hl 1 rfl) ?_
            refine sn_get (ci := 4) (Cn := RX5) (T := TX5) (n := 3) (v := .ref (g.2.2.2 (b + 1))) C hinX5 hP b (sn_l0 hT.1 (by decide)) hT.2.1 rfl 0 (by decide) (by decide +kernel) rfl rfl dX5_link_79 ?_
            refine sn_get (ci := 0) (Cn := RX0) (T := TX0) (n := 9) (v := .ref (g.2.2.2 (b + 1 + 1))) C hinX0 hP (b + 1) (sn_l0 hT.2.2.1.1 (by decide)) hT.2.2.1.2.1 rfl 0 (by decide) (by decide +kernel) rfl rfl dX5_link_82 ?_
            refine lv_iload_n hx hb dX5_link_85 rfl (lv_at hl 2 rfl) ?_
            refine lv_iload_n hx hb dX5_link_86 rfl (lv_at hl 3 rfl) ?_
            refine lv_iload_n hx hb dX5_link_87 rfl (lv_at hl 4 rfl) ?_
            obtain ⟨r6, hr6, hd⟩ := Option.bind_eq_some_iff.mp hd
            refine sn_Vv (b := b + 1 + 1) (rest := []) (As := [.int x1, .int x2, .int x3]) (st := st) C (c_X3_join hi hT.2.2.1.2.2.1 hr6) (cwV 3 hts gX5_link_X3_join rfl rfl rfl (by decide +kernel) ⟨Nat.le_of_ble_eq_true rfl, Nat.le_of_ble_eq_true rfl⟩) hP hS (sn_l0 hT.2.2.1.2.2.1.1 (by decide)) hT.2.2.1.2.2.1.2.1 rfl rfl hl.1 rfl (Nat.le_of_ble_eq_true rfl) dX5_link_88 (fun H locs hP hS => ?_)
            refine lv_iload hx hb dX5_link_91 (lv_at hl 0 rfl) ?_
            have ho := Option.some.inj hd
            subst ho
            exact sn_ri C hP hS dX5_link_93
        · replace hd := (if_neg hc).symm.trans hd
          refine lv_bipush (v := (-103 : Int32)) hx hb dX5_link_49 (by decide) ?_
          have ho := Option.some.inj hd
          subst ho
          exact sn_ri C hP hS dX5_link_51
      · replace hd := (if_pos hc).symm.trans hd
        refine lv_bipush (v := (-102 : Int32)) hx hb dX5_link_36 (by decide) ?_
        have ho := Option.some.inj hd
        subst ho
        exact sn_ri C hP hS dX5_link_38
    · replace hd := (if_pos hc).symm.trans hd
      refine lv_bipush (v := (-101 : Int32)) hx hb dX5_link_28 (by decide) ?_
      have ho := Option.some.inj hd
      subst ho
      exact sn_ri C hP hS dX5_link_30

set_option maxHeartbeats 4000000 in
set_option maxRecDepth 100000 in
theorem c_X5_build {l : Launch} {g : sn_G} {tb : Nat → sn_K} {N : Nat} (hi : sn_I g N) {b : Nat} (hT : sn_SN tb N b) {st : sn_S} {o : Int32 × sn_S} (hd : D_X5_build b st = some o) : sn_Mi l yX5_build wsX5_build { frames := 6, cells := 0, slots := 0, locals := 135 } g tb N [.ref (g.2.2.2 b)] st o.1 o.2 := by
  refine sn_Mi.of (cc := cX5_build) (nL := 1) (ret := (some .int)) hi (by decide) rfl (Nat.le_of_ble_eq_true rfl) ?_
  intro p e s m args below meth c ls C hP hS hl
  have hl : lv_has ls 1 [(0, .ref (g.2.2.2 b))] := hl
  obtain ⟨⟨hx, hb, hml, hown, hts⟩, hr, hlk, hC, hi⟩ := id C
  unfold D_X5_build at hd
  have hinX0 : ∀ w ∈ wsX00, w ∈ wsX5_build := by decide +kernel
  have hinX5 : ∀ w ∈ wsX50, w ∈ wsX5_build := by decide +kernel
  refine lv_aload_n hx hb dX5_build_0 rfl (lv_at hl 0 rfl) ?_
  refine sn_get (ci := 4) (Cn := RX5) (T := TX5) (n := 3) (v := .ref (g.2.2.2 (b + 1))) C hinX5 hP b (sn_l0 hT.1 (by decide)) hT.2.1 rfl 0 (by decide) (by decide +kernel) rfl rfl dX5_build_1 ?_
  refine sn_get (ci := 0) (Cn := RX0) (T := TX0) (n := 9) (v := .int (st.1 (b + 1) 3)) C hinX0 hP (b + 1) (sn_l0 hT.2.2.1.1 (by decide)) hT.2.2.1.2.1 rfl 3 (by decide) (by decide +kernel) rfl rfl dX5_build_4 ?_
  refine lv_if_ne (tgt := 23) hx hb dX5_build_7 (by decide) (fun hc => ?_) (fun hc => ?_)
  · replace hd := (if_neg hc).symm.trans hd
    refine lv_bipush (v := (-103 : Int32)) hx hb dX5_build_23 (by decide) ?_
    have ho := Option.some.inj hd
    subst ho
    exact sn_ri C hP hS dX5_build_25
  · replace hd := (if_pos hc).symm.trans hd
    refine lv_aload_n hx hb dX5_build_10 rfl (lv_at hl 0 rfl) ?_
    refine sn_get (ci := 4) (Cn := RX5) (T := TX5) (n := 3) (v := .ref (g.2.2.2 (b + 1))) C hinX5 hP b (sn_l0 hT.1 (by decide)) hT.2.1 rfl 0 (by decide) (by decide +kernel) rfl rfl dX5_build_11 ?_
    refine sn_get (ci := 0) (Cn := RX0) (T := TX0) (n := 9) (v := .ref (g.2.2.2 (b + 1 + 1))) C hinX0 hP (b + 1) (sn_l0 hT.2.2.1.1 (by decide)) hT.2.2.1.2.1 rfl 0 (by decide) (by decide +kernel) rfl rfl dX5_build_14 ?_
    obtain ⟨r1, hr1, hd⟩ := Option.bind_eq_some_iff.mp hd
    refine sn_Vi (b := b + 1 + 1) (rest := []) (As := []) (st := st) C (c_X3_isWhole hi hT.2.2.1.2.2.1 hr1) (cwV 0 hts gX5_build_X3_isWhole rfl rfl rfl (by decide +kernel) ⟨Nat.le_of_ble_eq_true rfl, Nat.le_of_ble_eq_true rfl⟩) hP hS (sn_l0 hT.2.2.1.2.2.1.1 (by decide)) hT.2.2.1.2.2.1.2.1 rfl rfl hl.1 rfl (Nat.le_of_ble_eq_true rfl) dX5_build_17 (fun H locs hP hS => ?_)
    refine lv_if_ne (tgt := 26) hx hb dX5_build_20 (by decide) (fun hc => ?_) (fun hc => ?_)
    · replace hd := (if_neg hc).symm.trans hd
      refine lv_aload_n hx hb dX5_build_26 rfl (lv_at hl 0 rfl) ?_
      refine sn_get (ci := 4) (Cn := RX5) (T := TX5) (n := 3) (v := .ref (g.2.2.2 (b + 1))) C hinX5 hP b (sn_l0 hT.1 (by decide)) hT.2.1 rfl 0 (by decide) (by decide +kernel) rfl rfl dX5_build_27 ?_
      refine lv_iconst (v := (1 : Int32)) hx hb dX5_build_30 (by decide) ?_
      refine sn_pf (ci := 0) (Cn := RX0) (T := TX0) (n := 9) (ty0 := tyX0) C hinX0 tyX0_ok nmX0 hP hS (b + 1) (sn_l0 hT.2.2.1.1 (by decide)) hT.2.2.1.2.1 rfl 3 (by decide) (by decide +kernel) rfl rfl rfl rfl rfl dX5_build_31 (fun H locs hP hS => ?_)
      refine lv_aload_n hx hb dX5_build_34 rfl (lv_at hl 0 rfl) ?_
      refine sn_get (ci := 4) (Cn := RX5) (T := TX5) (n := 3) (v := .ref (g.2.2.2 (b + 1))) C hinX5 hP b (sn_l0 hT.1 (by decide)) hT.2.1 rfl 0 (by decide) (by decide +kernel) rfl rfl dX5_build_35 ?_
      obtain ⟨r2, hr2, hd⟩ := Option.bind_eq_some_iff.mp hd
      refine sn_Vv (b := b + 1) (rest := []) (As := []) (st := (sn_wr st (b + 1) 3 (1 : Int32))) C (c_X0_beginAnew hi hT.2.2.1 hr2) (cwV 0 hts gX5_build_X0_beginAnew rfl rfl rfl (by decide +kernel) ⟨Nat.le_of_ble_eq_true rfl, Nat.le_of_ble_eq_true rfl⟩) hP hS (sn_l0 hT.2.2.1.1 (by decide)) hT.2.2.1.2.1 rfl rfl hl.1 rfl (Nat.le_of_ble_eq_true rfl) dX5_build_38 (fun H locs hP hS => ?_)
      refine lv_aload_n hx hb dX5_build_41 rfl (lv_at hl 0 rfl) ?_
      refine sn_get (ci := 4) (Cn := RX5) (T := TX5) (n := 3) (v := .ref (g.2.2.2 (b + 1))) C hinX5 hP b (sn_l0 hT.1 (by decide)) hT.2.1 rfl 0 (by decide) (by decide +kernel) rfl rfl dX5_build_42 ?_
      refine sn_get (ci := 0) (Cn := RX0) (T := TX0) (n := 9) (v := .ref (g.2.2.2 (b + 1 + 1))) C hinX0 hP (b + 1) (sn_l0 hT.2.2.1.1 (by decide)) hT.2.2.1.2.1 rfl 0 (by decide) (by decide +kernel) rfl rfl dX5_build_45 ?_
      obtain ⟨r3, hr3, hd⟩ := Option.bind_eq_some_iff.mp hd
      refine sn_Vi (b := b + 1 + 1) (rest := []) (As := []) (st := r2) C (c_X3_linkCount hi hT.2.2.1.2.2.1 hr3) (cwV 0 hts gX5_build_X3_linkCount rfl rfl rfl (by decide +kernel) ⟨Nat.le_of_ble_eq_true rfl, Nat.le_of_ble_eq_true rfl⟩) hP hS (sn_l0 hT.2.2.1.2.2.1.1 (by decide)) hT.2.2.1.2.2.1.2.1 rfl rfl hl.1 rfl (Nat.le_of_ble_eq_true rfl) dX5_build_48 (fun H locs hP hS => ?_)
      have ho := Option.some.inj hd
      subst ho
      exact sn_ri C hP hS dX5_build_51
    · replace hd := (if_pos hc).symm.trans hd
      refine lv_bipush (v := (-103 : Int32)) hx hb dX5_build_23 (by decide) ?_
      have ho := Option.some.inj hd
      subst ho
      exact sn_ri C hP hS dX5_build_25

set_option maxHeartbeats 4000000 in
set_option maxRecDepth 100000 in
theorem c_X5_value {l : Launch} {g : sn_G} {tb : Nat → sn_K} {N : Nat} (hi : sn_I g N) {b : Nat} {x1 : Int32} {x2 : Int32} (hT : sn_SN tb N b) {st : sn_S} {o : Int32 × sn_S} (hd : D_X5_value b x1 x2 st = some o) : sn_Mi l yX5_value wsX5_value { frames := 6, cells := 0, slots := 0, locals := 135 } g tb N [.ref (g.2.2.2 b), .int x1, .int x2] st o.1 o.2 := by
  refine sn_Mi.of (cc := cX5_value) (nL := 4) (ret := (some .int)) hi (by decide) rfl (Nat.le_of_ble_eq_true rfl) ?_
  intro p e s m args below meth c ls C hP hS hl
  have hl : lv_has ls 4 [(0, .ref (g.2.2.2 b)), (1, .int x1), (2, .int x2)] := hl
  obtain ⟨⟨hx, hb, hml, hown, hts⟩, hr, hlk, hC, hi⟩ := id C
  unfold D_X5_value at hd
  have hinX0 : ∀ w ∈ wsX00, w ∈ wsX5_value := by decide +kernel
  have hinX1 : ∀ w ∈ wsX10, w ∈ wsX5_value := by decide +kernel
  have hinX5 : ∀ w ∈ wsX50, w ∈ wsX5_value := by decide +kernel
  refine lv_aload_n hx hb dX5_value_0 rfl (lv_at hl 0 rfl) ?_
  refine sn_get (ci := 4) (Cn := RX5) (T := TX5) (n := 3) (v := .ref (g.2.2.2 (b + 1))) C hinX5 hP b (sn_l0 hT.1 (by decide)) hT.2.1 rfl 0 (by decide) (by decide +kernel) rfl rfl dX5_value_1 ?_
  refine sn_get (ci := 0) (Cn := RX0) (T := TX0) (n := 9) (v := .ref (g.2.2.2 (b + 1 + 1))) C hinX0 hP (b + 1) (sn_l0 hT.2.2.1.1 (by decide)) hT.2.2.1.2.1 rfl 0 (by decide) (by decide +kernel) rfl rfl dX5_value_4 ?_
  refine lv_iload_n hx hb dX5_value_7 rfl (lv_at hl 1 rfl) ?_
  obtain ⟨r1, hr1, hd⟩ := Option.bind_eq_some_iff.mp hd
  refine sn_Vi (b := b + 1 + 1) (rest := []) (As := [.int x1]) (st := st) C (c_X3_isNode hi hT.2.2.1.2.2.1 hr1) (cwV 1 hts gX5_value_X3_isNode rfl rfl rfl (by decide +kernel) ⟨Nat.le_of_ble_eq_true rfl, Nat.le_of_ble_eq_true rfl⟩) hP hS (sn_l0 hT.2.2.1.2.2.1.1 (by decide)) hT.2.2.1.2.2.1.2.1 rfl rfl hl.1 rfl (Nat.le_of_ble_eq_true rfl) dX5_value_8 (fun H locs hP hS => ?_)
  refine lv_if_ne (tgt := 17) hx hb dX5_value_11 (by decide) (fun hc => ?_) (fun hc => ?_)
  · replace hd := (if_neg hc).symm.trans hd
    refine lv_aload_n hx hb dX5_value_17 rfl (lv_at hl 0 rfl) ?_
    refine sn_get (ci := 4) (Cn := RX5) (T := TX5) (n := 3) (v := .ref (g.2.2.2 (b + 1))) C hinX5 hP b (sn_l0 hT.1 (by decide)) hT.2.1 rfl 0 (by decide) (by decide +kernel) rfl rfl dX5_value_18 ?_
    refine sn_get (ci := 0) (Cn := RX0) (T := TX0) (n := 9) (v := .ref (g.2.2.2 (b + 1 + 4))) C hinX0 hP (b + 1) (sn_l0 hT.2.2.1.1 (by decide)) hT.2.2.1.2.1 rfl 1 (by decide) (by decide +kernel) rfl rfl dX5_value_21 ?_
    refine sn_get (ci := 1) (Cn := RX1) (T := TX1) (n := 4) (v := .ref (g.2.2.2 (b + 1 + 4 + 1))) C hinX1 hP (b + 1 + 4) (sn_l0 hT.2.2.1.2.2.2.1.1 (by decide)) hT.2.2.1.2.2.2.1.2.1 rfl 0 (by decide) (by decide +kernel) rfl rfl dX5_value_24 ?_
    refine lv_iload_n hx hb dX5_value_27 rfl (lv_at hl 1 rfl) ?_
    refine sn_aald C hP (b + 1 + 4 + 1) (sn_l hT.2.2.1.2.2.2.1.1 (by decide)) hT.2.2.1.2.2.2.1.2.2.1 hd dX5_value_28 (fun k2 hk2 hd => ?_)
    refine lv_iconst (v := (4 : Int32)) hx hb dX5_value_29 (by decide) ?_
    refine sn_aldc (k := 4) C hP (b + 1 + 4 + 1 + 1 + k2) (hT.2.2.1.2.2.2.1.2.2.2.1 k2 hk2).2 (hT.2.2.1.2.2.2.1.2.2.2.1 k2 hk2).1 (by decide +kernel) dX5_value_30 ?_
    refine lv_istore_n (lv' := [(3, .int (st.1 (b + 1 + 4 + 1 + 1 + k2) 4)), (0, .ref (g.2.2.2 b)), (1, .int x1), (2, .int x2)]) hx hb dX5_value_31 rfl hl (by decide) rfl (fun ls hl => ?_)
    refine lv_aload_n hx hb dX5_value_32 rfl (lv_at hl 1 rfl) ?_
    refine sn_get (ci := 4) (Cn := RX5) (T := TX5) (n := 3) (v := .ref (g.2.2.2 (b + 1))) C hinX5 hP b (sn_l0 hT.1 (by decide)) hT.2.1 rfl 0 (by decide) (by decide +kernel) rfl rfl dX5_value_33 ?_
    refine lv_iload_n hx hb dX5_value_36 rfl (lv_at hl 2 rfl) ?_
    refine lv_iconst (v := (4 : Int32)) hx hb dX5_value_37 (by decide) ?_
    refine lv_iload_n hx hb dX5_value_38 rfl (lv_at hl 3 rfl) ?_
    obtain ⟨r3, hr3, hd⟩ := Option.bind_eq_some_iff.mp hd
    refine sn_Vv (b := b + 1) (rest := []) (As := [.int x1, .int (4 : Int32), .int x2]) (st := st) C (c_X0_overwrite hi hT.2.2.1 hr3) (cwV 3 hts gX5_value_X0_overwrite rfl rfl rfl (by decide +kernel) ⟨Nat.le_of_ble_eq_true rfl, Nat.le_of_ble_eq_true rfl⟩) hP hS (sn_l0 hT.2.2.1.1 (by decide)) hT.2.2.1.2.1 rfl rfl hl.1 rfl (Nat.le_of_ble_eq_true rfl) dX5_value_39 (fun H locs hP hS => ?_)
    refine lv_aload_n hx hb dX5_value_42 rfl (lv_at hl 1 rfl) ?_
    refine sn_get (ci := 4) (Cn := RX5) (T := TX5) (n := 3) (v := .ref (g.2.2.2 (b + 1))) C hinX5 hP b (sn_l0 hT.1 (by decide)) hT.2.1 rfl 0 (by decide) (by decide +kernel) rfl rfl dX5_value_43 ?_
    obtain ⟨r4, hr4, hd⟩ := Option.bind_eq_some_iff.mp hd
    refine sn_Vv (b := b + 1) (rest := []) (As := []) (st := r3) C (c_X0_beginAnew hi hT.2.2.1 hr4) (cwV 0 hts gX5_value_X0_beginAnew rfl rfl rfl (by decide +kernel) ⟨Nat.le_of_ble_eq_true rfl, Nat.le_of_ble_eq_true rfl⟩) hP hS (sn_l0 hT.2.2.1.1 (by decide)) hT.2.2.1.2.1 rfl rfl hl.1 rfl (Nat.le_of_ble_eq_true rfl) dX5_value_46 (fun H locs hP hS => ?_)
    refine lv_iload_n hx hb dX5_value_49 rfl (lv_at hl 0 rfl) ?_
    have ho := Option.some.inj hd
    subst ho
    exact sn_ri C hP hS dX5_value_50
  · replace hd := (if_pos hc).symm.trans hd
    refine lv_bipush (v := (-101 : Int32)) hx hb dX5_value_14 (by decide) ?_
    have ho := Option.some.inj hd
    subst ho
    exact sn_ri C hP hS dX5_value_16

set_option maxHeartbeats 4000000 in
set_option maxRecDepth 100000 in
theorem c_X5_fault {l : Launch} {g : sn_G} {tb : Nat → sn_K} {N : Nat} (hi : sn_I g N) {b : Nat} {x1 : Int32} {x2 : Int32} {x3 : Int32} (hT : sn_SN tb N b) {st : sn_S} {o : Int32 × sn_S} (hd : D_X5_fault b x1 x2 x3 st = some o) : sn_Mi l yX5_fault wsX5_fault { frames := 6, cells := 0, slots := 0, locals := 135 } g tb N [.ref (g.2.2.2 b), .int x1, .int x2, .int x3] st o.1 o.2 := by
  refine sn_Mi.of (cc := cX5_fault) (nL := 5) (ret := (some .int)) hi (by decide) rfl (Nat.le_of_ble_eq_true rfl) ?_
  intro p e s m args below meth c ls C hP hS hl
  have hl : lv_has ls 5 [(0, .ref (g.2.2.2 b)), (1, .int x1), (2, .int x2), (3, .int x3)] := hl
  obtain ⟨⟨hx, hb, hml, hown, hts⟩, hr, hlk, hC, hi⟩ := id C
  unfold D_X5_fault at hd
  have hinX0 : ∀ w ∈ wsX00, w ∈ wsX5_fault := by decide +kernel
  have hinX5 : ∀ w ∈ wsX50, w ∈ wsX5_fault := by decide +kernel
  refine lv_aload_n hx hb dX5_fault_0 rfl (lv_at hl 0 rfl) ?_
  refine sn_get (ci := 4) (Cn := RX5) (T := TX5) (n := 3) (v := .ref (g.2.2.2 (b + 1))) C hinX5 hP b (sn_l0 hT.1 (by decide)) hT.2.1 rfl 0 (by decide) (by decide +kernel) rfl rfl dX5_fault_1 ?_
  refine sn_get (ci := 0) (Cn := RX0) (T := TX0) (n := 9) (v := .ref (g.2.2.2 (b + 1 + 1))) C hinX0 hP (b + 1) (sn_l0 hT.2.2.1.1 (by decide)) hT.2.2.1.2.1 rfl 0 (by decide) (by decide +kernel) rfl rfl dX5_fault_4 ?_
  refine lv_iload_n hx hb dX5_fault_7 rfl (lv_at hl 1 rfl) ?_
  obtain ⟨r1, hr1, hd⟩ := Option.bind_eq_some_iff.mp hd
  refine sn_Vi (b := b + 1 + 1) (rest := []) (As := [.int x1]) (st := st) C (c_X3_isNode hi hT.2.2.1.2.2.1 hr1) (cwV 1 hts gX5_fault_X3_isNode rfl rfl rfl (by decide +kernel) ⟨Nat.le_of_ble_eq_true rfl, Nat.le_of_ble_eq_true rfl⟩) hP hS (sn_l0 hT.2.2.1.2.2.1.1 (by decide)) hT.2.2.1.2.2.1.2.1 rfl rfl hl.1 rfl (Nat.le_of_ble_eq_true rfl) dX5_fault_8 (fun H locs hP hS => ?_)
  refine lv_if_ne (tgt := 17) hx hb dX5_fault_11 (by decide) (fun hc => ?_) (fun hc => ?_)
  · replace hd := (if_neg hc).symm.trans hd
    refine lv_aload_n hx hb dX5_fault_17 rfl (lv_at hl 0 rfl) ?_
    refine sn_get (ci := 4) (Cn := RX5) (T := TX5) (n := 3) (v := .ref (g.2.2.2 (b + 1))) C hinX5 hP b (sn_l0 hT.1 (by decide)) hT.2.1 rfl 0 (by decide) (by decide +kernel) rfl rfl dX5_fault_18 ?_
    refine sn_get (ci := 0) (Cn := RX0) (T := TX0) (n := 9) (v := .ref (g.2.2.2 (b + 1 + 1))) C hinX0 hP (b + 1) (sn_l0 hT.2.2.1.1 (by decide)) hT.2.2.1.2.1 rfl 0 (by decide) (by decide +kernel) rfl rfl dX5_fault_21 ?_
    refine lv_iload_n hx hb dX5_fault_24 rfl (lv_at hl 1 rfl) ?_
    refine lv_iload_n hx hb dX5_fault_25 rfl (lv_at hl 2 rfl) ?_
    obtain ⟨r2, hr2, hd⟩ := Option.bind_eq_some_iff.mp hd
    refine sn_Vi (b := b + 1 + 1) (rest := []) (As := [.int x1, .int x2]) (st := st) C (c_X3_slotOf hi hT.2.2.1.2.2.1 hr2) (cwV 2 hts gX5_fault_X3_slotOf rfl rfl rfl (by decide +kernel) ⟨Nat.le_of_ble_eq_true rfl, Nat.le_of_ble_eq_true rfl⟩) hP hS (sn_l0 hT.2.2.1.2.2.1.1 (by decide)) hT.2.2.1.2.2.1.2.1 rfl rfl hl.1 rfl (Nat.le_of_ble_eq_true rfl) dX5_fault_26 (fun H locs hP hS => ?_)
    refine lv_istore (lv' := [(4, .int r2), (0, .ref (g.2.2.2 b)), (1, .int x1), (2, .int x2), (3, .int x3)]) hx hb dX5_fault_29 hl (by decide) rfl (fun ls hl => ?_)
    refine lv_iload hx hb dX5_fault_31 (lv_at hl 0 rfl) ?_
    refine lv_iconst (v := (-1 : Int32)) hx hb dX5_fault_33 (by decide) ?_
    refine lv_icmp_eq (tgt := 43) hx hb dX5_fault_34 (by decide) (fun hc => ?_) (fun hc => ?_)
    · replace hd := (if_pos hc).symm.trans hd
      refine lv_bipush (v := (-102 : Int32)) hx hb dX5_fault_43 (by decide) ?_
      have ho := Option.some.inj hd
      subst ho
      exact sn_ri C hP hS dX5_fault_45
    · replace hd := (if_neg hc).symm.trans hd
      refine lv_iload hx hb dX5_fault_37 (lv_at hl 0 rfl) ?_
      refine lv_iconst (v := (4 : Int32)) hx hb dX5_fault_39 (by decide) ?_
      refine lv_icmp_ne (tgt := 46) hx hb dX5_fault_40 (by decide) (fun hc => ?_) (fun hc => ?_)
      · replace hd := (if_neg hc).symm.trans hd
        refine lv_aload_n hx hb dX5_fault_46 rfl (lv_at hl 1 rfl) ?_
        refine sn_get (ci := 4) (Cn := RX5) (T := TX5) (n := 3) (v := .ref (g.2.2.2 (b + 1))) C hinX5 hP b (sn_l0 hT.1 (by decide)) hT.2.1 rfl 0 (by decide) (by decide +kernel) rfl rfl dX5_fault_47 ?_
        refine sn_get (ci := 0) (Cn := RX0) (T := TX0) (n := 9) (v := .int (st.1 (b + 1) 3)) C hinX0 hP (b + 1) (sn_l0 hT.2.2.1.1 (by decide)) hT.2.2.1.2.1 rfl 3 (by decide) (by decide +kernel) rfl rfl dX5_fault_50 ?_
        refine lv_if_ne (tgt := 59) hx hb dX5_fault_53 (by decide) (fun hc => ?_) (fun hc => ?_)
        · replace hd := (if_neg hc).symm.trans hd
          refine lv_aload_n hx hb dX5_fault_59 rfl (lv_at hl 1 rfl) ?_
          refine sn_get (ci := 4) (Cn := RX5) (T := TX5) (n := 3) (v := .ref (g.2.2.2 (b + 1))) C hinX5 hP b (sn_l0 hT.1 (by decide)) hT.2.1 rfl 0 (by decide) (by decide +kernel) rfl rfl dX5_fault_60 ?_
          refine lv_iload_n hx hb dX5_fault_63 rfl (lv_at hl 2 rfl) ?_
          refine lv_iload hx hb dX5_fault_64 (lv_at hl 0 rfl) ?_
          refine lv_iload_n hx hb dX5_fault_66 rfl (lv_at hl 4 rfl) ?_
          obtain ⟨r3, hr3, hd⟩ := Option.bind_eq_some_iff.mp hd
          refine sn_Vv (b := b + 1) (rest := []) (As := [.int x1, .int r2, .int x3]) (st := st) C (c_X0_overwrite hi hT.2.2.1 hr3) (cwV 3 hts gX5_fault_X0_overwrite rfl rfl rfl (by decide +kernel) ⟨Nat.le_of_ble_eq_true rfl, Nat.le_of_ble_eq_true rfl⟩) hP hS (sn_l0 hT.2.2.1.1 (by decide)) hT.2.2.1.2.1 rfl rfl hl.1 rfl (Nat.le_of_ble_eq_true rfl) dX5_fault_67 (fun H locs hP hS => ?_)
          refine lv_aload_n hx hb dX5_fault_70 rfl (lv_at hl 1 rfl) ?_
          refine sn_get (ci := 4) (Cn := RX5) (T := TX5) (n := 3) (v := .ref (g.2.2.2 (b + 1))) C hinX5 hP b (sn_l0 hT.1 (by decide)) hT.2.1 rfl 0 (by decide) (by decide +kernel) rfl rfl dX5_fault_71 ?_
          obtain ⟨r4, hr4, hd⟩ := Option.bind_eq_some_iff.mp hd
          refine sn_Vv (b := b + 1) (rest := []) (As := []) (st := r3) C (c_X0_beginAnew hi hT.2.2.1 hr4) (cwV 0 hts gX5_fault_X0_beginAnew rfl rfl rfl (by decide +kernel) ⟨Nat.le_of_ble_eq_true rfl, Nat.le_of_ble_eq_true rfl⟩) hP hS (sn_l0 hT.2.2.1.1 (by decide)) hT.2.2.1.2.1 rfl rfl hl.1 rfl (Nat.le_of_ble_eq_true rfl) dX5_fault_74 (fun H locs hP hS => ?_)
          refine lv_iconst (v := (1 : Int32)) hx hb dX5_fault_77 (by decide) ?_
          have ho := Option.some.inj hd
          subst ho
          exact sn_ri C hP hS dX5_fault_78
        · replace hd := (if_pos hc).symm.trans hd
          refine lv_bipush (v := (-103 : Int32)) hx hb dX5_fault_56 (by decide) ?_
          have ho := Option.some.inj hd
          subst ho
          exact sn_ri C hP hS dX5_fault_58
      · replace hd := (if_pos hc).symm.trans hd
        refine lv_bipush (v := (-102 : Int32)) hx hb dX5_fault_43 (by decide) ?_
        have ho := Option.some.inj hd
        subst ho
        exact sn_ri C hP hS dX5_fault_45
  · replace hd := (if_pos hc).symm.trans hd
    refine lv_bipush (v := (-101 : Int32)) hx hb dX5_fault_14 (by decide) ?_
    have ho := Option.some.inj hd
    subst ho
    exact sn_ri C hP hS dX5_fault_16

set_option maxHeartbeats 4000000 in
set_option maxRecDepth 100000 in
theorem c_X5_told {l : Launch} {g : sn_G} {tb : Nat → sn_K} {N : Nat} (hi : sn_I g N) {b : Nat} {x1 : Int32} {x2 : Int32} (hT : sn_SN tb N b) {st : sn_S} {o : Int32 × sn_S} (hd : D_X5_told b x1 x2 st = some o) : sn_Mi l yX5_told wsX5_told { frames := 3, cells := 0, slots := 0, locals := 67 } g tb N [.ref (g.2.2.2 b), .int x1, .int x2] st o.1 o.2 := by
  refine sn_Mi.of (cc := cX5_told) (nL := 4) (ret := (some .int)) hi (by decide) rfl (Nat.le_of_ble_eq_true rfl) ?_
  intro p e s m args below meth c ls C hP hS hl
  have hl : lv_has ls 4 [(0, .ref (g.2.2.2 b)), (1, .int x1), (2, .int x2)] := hl
  obtain ⟨⟨hx, hb, hml, hown, hts⟩, hr, hlk, hC, hi⟩ := id C
  unfold D_X5_told at hd
  have hinX0 : ∀ w ∈ wsX00, w ∈ wsX5_told := by decide +kernel
  have hinX1 : ∀ w ∈ wsX10, w ∈ wsX5_told := by decide +kernel
  have hinX5 : ∀ w ∈ wsX50, w ∈ wsX5_told := by decide +kernel
  refine lv_aload_n hx hb dX5_told_0 rfl (lv_at hl 0 rfl) ?_
  refine sn_get (ci := 4) (Cn := RX5) (T := TX5) (n := 3) (v := .ref (g.2.2.2 (b + 1))) C hinX5 hP b (sn_l0 hT.1 (by decide)) hT.2.1 rfl 0 (by decide) (by decide +kernel) rfl rfl dX5_told_1 ?_
  refine sn_get (ci := 0) (Cn := RX0) (T := TX0) (n := 9) (v := .ref (g.2.2.2 (b + 1 + 1))) C hinX0 hP (b + 1) (sn_l0 hT.2.2.1.1 (by decide)) hT.2.2.1.2.1 rfl 0 (by decide) (by decide +kernel) rfl rfl dX5_told_4 ?_
  refine lv_iload_n hx hb dX5_told_7 rfl (lv_at hl 1 rfl) ?_
  obtain ⟨r1, hr1, hd⟩ := Option.bind_eq_some_iff.mp hd
  refine sn_Vi (b := b + 1 + 1) (rest := []) (As := [.int x1]) (st := st) C (c_X3_isNode hi hT.2.2.1.2.2.1 hr1) (cwV 1 hts gX5_told_X3_isNode rfl rfl rfl (by decide +kernel) ⟨Nat.le_of_ble_eq_true rfl, Nat.le_of_ble_eq_true rfl⟩) hP hS (sn_l0 hT.2.2.1.2.2.1.1 (by decide)) hT.2.2.1.2.2.1.2.1 rfl rfl hl.1 rfl (Nat.le_of_ble_eq_true rfl) dX5_told_8 (fun H locs hP hS => ?_)
  refine lv_if_ne (tgt := 17) hx hb dX5_told_11 (by decide) (fun hc => ?_) (fun hc => ?_)
  · replace hd := (if_neg hc).symm.trans hd
    refine lv_aload_n hx hb dX5_told_17 rfl (lv_at hl 0 rfl) ?_
    refine sn_get (ci := 4) (Cn := RX5) (T := TX5) (n := 3) (v := .ref (g.2.2.2 (b + 1))) C hinX5 hP b (sn_l0 hT.1 (by decide)) hT.2.1 rfl 0 (by decide) (by decide +kernel) rfl rfl dX5_told_18 ?_
    refine sn_get (ci := 0) (Cn := RX0) (T := TX0) (n := 9) (v := .ref (g.2.2.2 (b + 1 + 1))) C hinX0 hP (b + 1) (sn_l0 hT.2.2.1.1 (by decide)) hT.2.2.1.2.1 rfl 0 (by decide) (by decide +kernel) rfl rfl dX5_told_21 ?_
    refine lv_iload_n hx hb dX5_told_24 rfl (lv_at hl 1 rfl) ?_
    refine lv_iload_n hx hb dX5_told_25 rfl (lv_at hl 2 rfl) ?_
    obtain ⟨r2, hr2, hd⟩ := Option.bind_eq_some_iff.mp hd
    refine sn_Vi (b := b + 1 + 1) (rest := []) (As := [.int x1, .int x2]) (st := st) C (c_X3_slotOf hi hT.2.2.1.2.2.1 hr2) (cwV 2 hts gX5_told_X3_slotOf rfl rfl rfl (by decide +kernel) ⟨Nat.le_of_ble_eq_true rfl, Nat.le_of_ble_eq_true rfl⟩) hP hS (sn_l0 hT.2.2.1.2.2.1.1 (by decide)) hT.2.2.1.2.2.1.2.1 rfl rfl hl.1 rfl (Nat.le_of_ble_eq_true rfl) dX5_told_26 (fun H locs hP hS => ?_)
    refine lv_istore_n (lv' := [(3, .int r2), (0, .ref (g.2.2.2 b)), (1, .int x1), (2, .int x2)]) hx hb dX5_told_29 rfl hl (by decide) rfl (fun ls hl => ?_)
    refine lv_iload_n hx hb dX5_told_30 rfl (lv_at hl 0 rfl) ?_
    refine lv_iconst (v := (-1 : Int32)) hx hb dX5_told_31 (by decide) ?_
    refine lv_icmp_ne (tgt := 38) hx hb dX5_told_32 (by decide) (fun hc => ?_) (fun hc => ?_)
    · replace hd := (if_neg hc).symm.trans hd
      refine lv_iload_n hx hb dX5_told_38 rfl (lv_at hl 0 rfl) ?_
      refine lv_iconst (v := (5 : Int32)) hx hb dX5_told_39 (by decide) ?_
      refine lv_icmp_lt (tgt := 56) hx hb dX5_told_40 (by decide) (fun hc => ?_) (fun hc => ?_)
      · replace hd := (if_pos hc).symm.trans hd
        refine lv_aload_n hx hb dX5_told_56 rfl (lv_at hl 1 rfl) ?_
        refine sn_get (ci := 4) (Cn := RX5) (T := TX5) (n := 3) (v := .ref (g.2.2.2 (b + 1))) C hinX5 hP b (sn_l0 hT.1 (by decide)) hT.2.1 rfl 0 (by decide) (by decide +kernel) rfl rfl dX5_told_57 ?_
        refine lv_aload_n hx hb dX5_told_60 rfl (lv_at hl 1 rfl) ?_
        refine sn_get (ci := 4) (Cn := RX5) (T := TX5) (n := 3) (v := .ref (g.2.2.2 (b + 1))) C hinX5 hP b (sn_l0 hT.1 (by decide)) hT.2.1 rfl 0 (by decide) (by decide +kernel) rfl rfl dX5_told_61 ?_
        refine sn_get (ci := 0) (Cn := RX0) (T := TX0) (n := 9) (v := .ref (g.2.2.2 (b + 1 + 4))) C hinX0 hP (b + 1) (sn_l0 hT.2.2.1.1 (by decide)) hT.2.2.1.2.1 rfl 1 (by decide) (by decide +kernel) rfl rfl dX5_told_64 ?_
        refine sn_get (ci := 1) (Cn := RX1) (T := TX1) (n := 4) (v := .ref (g.2.2.2 (b + 1 + 4 + 1))) C hinX1 hP (b + 1 + 4) (sn_l0 hT.2.2.1.2.2.2.1.1 (by decide)) hT.2.2.1.2.2.2.1.2.1 rfl 0 (by decide) (by decide +kernel) rfl rfl dX5_told_67 ?_
        refine lv_iload_n hx hb dX5_told_70 rfl (lv_at hl 2 rfl) ?_
        refine sn_aald C hP (b + 1 + 4 + 1) (sn_l hT.2.2.1.2.2.2.1.1 (by decide)) hT.2.2.1.2.2.2.1.2.2.1 hd dX5_told_71 (fun k3 hk3 hd => ?_)
        refine lv_iload_n hx hb dX5_told_72 rfl (lv_at hl 0 rfl) ?_
        refine sn_ald C hP (b + 1 + 4 + 1 + 1 + k3) (hT.2.2.1.2.2.2.1.2.2.2.1 k3 hk3).2 (hT.2.2.1.2.2.2.1.2.2.2.1 k3 hk3).1 hd dX5_told_73 (fun k4 hk4 hd => ?_)
        refine sn_pf (ci := 0) (Cn := RX0) (T := TX0) (n := 9) (ty0 := tyX0) C hinX0 tyX0_ok nmX0 hP hS (b + 1) (sn_l0 hT.2.2.1.1 (by decide)) hT.2.2.1.2.1 rfl 5 (by decide) (by decide +kernel) rfl rfl rfl rfl rfl dX5_told_74 (fun H locs hP hS => ?_)
        refine lv_iconst (v := (1 : Int32)) hx hb dX5_told_77 (by decide) ?_
        have ho := Option.some.inj hd
        subst ho
        exact sn_ri C hP hS dX5_told_78
      · replace hd := (if_neg hc).symm.trans hd
        refine lv_aload_n hx hb dX5_told_43 rfl (lv_at hl 1 rfl) ?_
        refine sn_get (ci := 4) (Cn := RX5) (T := TX5) (n := 3) (v := .ref (g.2.2.2 (b + 1))) C hinX5 hP b (sn_l0 hT.1 (by decide)) hT.2.1 rfl 0 (by decide) (by decide +kernel) rfl rfl dX5_told_44 ?_
        refine sn_get (ci := 0) (Cn := RX0) (T := TX0) (n := 9) (v := .int (st.1 (b + 1) 3)) C hinX0 hP (b + 1) (sn_l0 hT.2.2.1.1 (by decide)) hT.2.2.1.2.1 rfl 3 (by decide) (by decide +kernel) rfl rfl dX5_told_47 ?_
        refine lv_if_ne (tgt := 56) hx hb dX5_told_50 (by decide) (fun hc => ?_) (fun hc => ?_)
        · replace hd := (if_neg hc).symm.trans hd
          refine lv_aload_n hx hb dX5_told_56 rfl (lv_at hl 1 rfl) ?_
          refine sn_get (ci := 4) (Cn := RX5) (T := TX5) (n := 3) (v := .ref (g.2.2.2 (b + 1))) C hinX5 hP b (sn_l0 hT.1 (by decide)) hT.2.1 rfl 0 (by decide) (by decide +kernel) rfl rfl dX5_told_57 ?_
          refine lv_aload_n hx hb dX5_told_60 rfl (lv_at hl 1 rfl) ?_
          refine sn_get (ci := 4) (Cn := RX5) (T := TX5) (n := 3) (v := .ref (g.2.2.2 (b + 1))) C hinX5 hP b (sn_l0 hT.1 (by decide)) hT.2.1 rfl 0 (by decide) (by decide +kernel) rfl rfl dX5_told_61 ?_
          refine sn_get (ci := 0) (Cn := RX0) (T := TX0) (n := 9) (v := .ref (g.2.2.2 (b + 1 + 4))) C hinX0 hP (b + 1) (sn_l0 hT.2.2.1.1 (by decide)) hT.2.2.1.2.1 rfl 1 (by decide) (by decide +kernel) rfl rfl dX5_told_64 ?_
          refine sn_get (ci := 1) (Cn := RX1) (T := TX1) (n := 4) (v := .ref (g.2.2.2 (b + 1 + 4 + 1))) C hinX1 hP (b + 1 + 4) (sn_l0 hT.2.2.1.2.2.2.1.1 (by decide)) hT.2.2.1.2.2.2.1.2.1 rfl 0 (by decide) (by decide +kernel) rfl rfl dX5_told_67 ?_
          refine lv_iload_n hx hb dX5_told_70 rfl (lv_at hl 2 rfl) ?_
          refine sn_aald C hP (b + 1 + 4 + 1) (sn_l hT.2.2.1.2.2.2.1.1 (by decide)) hT.2.2.1.2.2.2.1.2.2.1 hd dX5_told_71 (fun k5 hk5 hd => ?_)
          refine lv_iload_n hx hb dX5_told_72 rfl (lv_at hl 0 rfl) ?_
          refine sn_ald C hP (b + 1 + 4 + 1 + 1 + k5) (hT.2.2.1.2.2.2.1.2.2.2.1 k5 hk5).2 (hT.2.2.1.2.2.2.1.2.2.2.1 k5 hk5).1 hd dX5_told_73 (fun k6 hk6 hd => ?_)
          refine sn_pf (ci := 0) (Cn := RX0) (T := TX0) (n := 9) (ty0 := tyX0) C hinX0 tyX0_ok nmX0 hP hS (b + 1) (sn_l0 hT.2.2.1.1 (by decide)) hT.2.2.1.2.1 rfl 5 (by decide) (by decide +kernel) rfl rfl rfl rfl rfl dX5_told_74 (fun H locs hP hS => ?_)
          refine lv_iconst (v := (1 : Int32)) hx hb dX5_told_77 (by decide) ?_
          have ho := Option.some.inj hd
          subst ho
          exact sn_ri C hP hS dX5_told_78
        · replace hd := (if_pos hc).symm.trans hd
          refine lv_bipush (v := (-103 : Int32)) hx hb dX5_told_53 (by decide) ?_
          have ho := Option.some.inj hd
          subst ho
          exact sn_ri C hP hS dX5_told_55
    · replace hd := (if_pos hc).symm.trans hd
      refine lv_bipush (v := (-102 : Int32)) hx hb dX5_told_35 (by decide) ?_
      have ho := Option.some.inj hd
      subst ho
      exact sn_ri C hP hS dX5_told_37
  · replace hd := (if_pos hc).symm.trans hd
    refine lv_bipush (v := (-101 : Int32)) hx hb dX5_told_14 (by decide) ?_
    have ho := Option.some.inj hd
    subst ho
    exact sn_ri C hP hS dX5_told_16

set_option maxHeartbeats 4000000 in
set_option maxRecDepth 100000 in
theorem c_X5_seen {l : Launch} {g : sn_G} {tb : Nat → sn_K} {N : Nat} (hi : sn_I g N) {b : Nat} (hT : sn_SN tb N b) {st : sn_S} {o : Int32} (hd : D_X5_seen b st = some o) : sn_Mi l yX5_seen wsX5_seen { frames := 0, cells := 0, slots := 0, locals := 0 } g tb N [.ref (g.2.2.2 b)] st o st := by
  refine sn_Mi.of (cc := cX5_seen) (nL := 1) (ret := (some .int)) hi (by decide) rfl (Nat.le_of_ble_eq_true rfl) ?_
  intro p e s m args below meth c ls C hP hS hl
  have hl : lv_has ls 1 [(0, .ref (g.2.2.2 b))] := hl
  obtain ⟨⟨hx, hb, hml, hown, hts⟩, hr, hlk, hC, hi⟩ := id C
  unfold D_X5_seen at hd
  have hinX0 : ∀ w ∈ wsX00, w ∈ wsX5_seen := by decide +kernel
  have hinX5 : ∀ w ∈ wsX50, w ∈ wsX5_seen := by decide +kernel
  refine lv_aload_n hx hb dX5_seen_0 rfl (lv_at hl 0 rfl) ?_
  refine sn_get (ci := 4) (Cn := RX5) (T := TX5) (n := 3) (v := .ref (g.2.2.2 (b + 1))) C hinX5 hP b (sn_l0 hT.1 (by decide)) hT.2.1 rfl 0 (by decide) (by decide +kernel) rfl rfl dX5_seen_1 ?_
  refine sn_get (ci := 0) (Cn := RX0) (T := TX0) (n := 9) (v := .int (st.1 (b + 1) 5)) C hinX0 hP (b + 1) (sn_l0 hT.2.2.1.1 (by decide)) hT.2.2.1.2.1 rfl 5 (by decide) (by decide +kernel) rfl rfl dX5_seen_4 ?_
  have ho := Option.some.inj hd
  subst ho
  exact sn_ri C hP hS dX5_seen_7

set_option maxHeartbeats 4000000 in
set_option maxRecDepth 100000 in
theorem c_X5_neighbour {l : Launch} {g : sn_G} {tb : Nat → sn_K} {N : Nat} (hi : sn_I g N) {b : Nat} {x1 : Int32} {x2 : Int32} (hT : sn_SN tb N b) {st : sn_S} {o : Int32} (hd : D_X5_neighbour b x1 x2 st = some o) : sn_Mi l yX5_neighbour wsX5_neighbour { frames := 2, cells := 0, slots := 0, locals := 44 } g tb N [.ref (g.2.2.2 b), .int x1, .int x2] st o st := by
  refine sn_Mi.of (cc := cX5_neighbour) (nL := 3) (ret := (some .int)) hi (by decide) rfl (Nat.le_of_ble_eq_true rfl) ?_
  intro p e s m args below meth c ls C hP hS hl
  have hl : lv_has ls 3 [(0, .ref (g.2.2.2 b)), (1, .int x1), (2, .int x2)] := hl
  obtain ⟨⟨hx, hb, hml, hown, hts⟩, hr, hlk, hC, hi⟩ := id C
  unfold D_X5_neighbour at hd
  have hinX0 : ∀ w ∈ wsX00, w ∈ wsX5_neighbour := by decide +kernel
  have hinX5 : ∀ w ∈ wsX50, w ∈ wsX5_neighbour := by decide +kernel
  have hinX3 : ∀ w ∈ wsX30, w ∈ wsX5_neighbour := by decide +kernel
  refine lv_aload_n hx hb dX5_neighbour_0 rfl (lv_at hl 0 rfl) ?_
  refine sn_get (ci := 4) (Cn := RX5) (T := TX5) (n := 3) (v := .ref (g.2.2.2 (b + 1))) C hinX5 hP b (sn_l0 hT.1 (by decide)) hT.2.1 rfl 0 (by decide) (by decide +kernel) rfl rfl dX5_neighbour_1 ?_
  refine sn_get (ci := 0) (Cn := RX0) (T := TX0) (n := 9) (v := .ref (g.2.2.2 (b + 1 + 1))) C hinX0 hP (b + 1) (sn_l0 hT.2.2.1.1 (by decide)) hT.2.2.1.2.1 rfl 0 (by decide) (by decide +kernel) rfl rfl dX5_neighbour_4 ?_
  refine lv_iload_n hx hb dX5_neighbour_7 rfl (lv_at hl 1 rfl) ?_
  obtain ⟨r1, hr1, hd⟩ := Option.bind_eq_some_iff.mp hd
  refine sn_Vi (b := b + 1 + 1) (rest := []) (As := [.int x1]) (st := st) C (c_X3_isNode hi hT.2.2.1.2.2.1 hr1) (cwV 1 hts gX5_neighbour_X3_isNode rfl rfl rfl (by decide +kernel) ⟨Nat.le_of_ble_eq_true rfl, Nat.le_of_ble_eq_true rfl⟩) hP hS (sn_l0 hT.2.2.1.2.2.1.1 (by decide)) hT.2.2.1.2.2.1.2.1 rfl rfl hl.1 rfl (Nat.le_of_ble_eq_true rfl) dX5_neighbour_8 (fun H locs hP hS => ?_)
  refine lv_if_eq (tgt := 33) hx hb dX5_neighbour_11 (by decide) (fun hc => ?_) (fun hc => ?_)
  · replace hd := (if_pos hc).symm.trans hd
    refine lv_bipush (v := (-101 : Int32)) hx hb dX5_neighbour_33 (by decide) ?_
    have ho := Option.some.inj hd
    subst ho
    exact sn_ri C hP hS dX5_neighbour_35
  · replace hd := (if_neg hc).symm.trans hd
    refine lv_aload_n hx hb dX5_neighbour_14 rfl (lv_at hl 0 rfl) ?_
    refine sn_get (ci := 4) (Cn := RX5) (T := TX5) (n := 3) (v := .ref (g.2.2.2 (b + 1))) C hinX5 hP b (sn_l0 hT.1 (by decide)) hT.2.1 rfl 0 (by decide) (by decide +kernel) rfl rfl dX5_neighbour_15 ?_
    refine sn_get (ci := 0) (Cn := RX0) (T := TX0) (n := 9) (v := .ref (g.2.2.2 (b + 1 + 1))) C hinX0 hP (b + 1) (sn_l0 hT.2.2.1.1 (by decide)) hT.2.2.1.2.1 rfl 0 (by decide) (by decide +kernel) rfl rfl dX5_neighbour_18 ?_
    refine sn_get (ci := 2) (Cn := RX3) (T := TX3) (n := 3) (v := .ref (g.2.2.2 (b + 1 + 1 + 1))) C hinX3 hP (b + 1 + 1) (sn_l0 hT.2.2.1.2.2.1.1 (by decide)) hT.2.2.1.2.2.1.2.1 rfl 1 (by decide) (by decide +kernel) rfl rfl dX5_neighbour_21 ?_
    refine lv_iload_n hx hb dX5_neighbour_24 rfl (lv_at hl 1 rfl) ?_
    refine sn_ald C hP (b + 1 + 1 + 1) (sn_l hT.2.2.1.2.2.1.1 (by decide)) hT.2.2.1.2.2.1.2.2.1 hd dX5_neighbour_25 (fun k2 hk2 hd => ?_)
    refine lv_iload_n hx hb dX5_neighbour_26 rfl (lv_at hl 2 rfl) ?_
    obtain ⟨r3, hr3, hd⟩ := Option.bind_eq_some_iff.mp hd
    refine sn_Si (rest := []) (As := [.int (st.1 (b + 1 + 1 + 1) k2), .int x2]) (st := st) C (c_X5_pick hi  hr3) (va_cwS 2 hts gX5_neighbour_X5_pick rfl rfl rfl (by decide +kernel) ⟨Nat.le_of_ble_eq_true rfl, Nat.le_of_ble_eq_true rfl⟩) hP hS rfl hl.1 rfl (Nat.le_of_ble_eq_true rfl) dX5_neighbour_27 (fun H locs hP hS => ?_)
    refine lv_goto (tgt := 35) hx hb dX5_neighbour_30 (by decide) ?_
    have ho := Option.some.inj hd
    subst ho
    exact sn_ri C hP hS dX5_neighbour_35

set_option maxHeartbeats 4000000 in
set_option maxRecDepth 100000 in
theorem c_X5_child {l : Launch} {g : sn_G} {tb : Nat → sn_K} {N : Nat} (hi : sn_I g N) {b : Nat} {x1 : Int32} {x2 : Int32} (hT : sn_SN tb N b) {st : sn_S} {o : Int32} (hd : D_X5_child b x1 x2 st = some o) : sn_Mi l yX5_child wsX5_child { frames := 2, cells := 0, slots := 0, locals := 44 } g tb N [.ref (g.2.2.2 b), .int x1, .int x2] st o st := by
  refine sn_Mi.of (cc := cX5_child) (nL := 3) (ret := (some .int)) hi (by decide) rfl (Nat.le_of_ble_eq_true rfl) ?_
  intro p e s m args below meth c ls C hP hS hl
  have hl : lv_has ls 3 [(0, .ref (g.2.2.2 b)), (1, .int x1), (2, .int x2)] := hl
  obtain ⟨⟨hx, hb, hml, hown, hts⟩, hr, hlk, hC, hi⟩ := id C
  unfold D_X5_child at hd
  have hinX0 : ∀ w ∈ wsX00, w ∈ wsX5_child := by decide +kernel
  have hinX1 : ∀ w ∈ wsX10, w ∈ wsX5_child := by decide +kernel
  have hinX5 : ∀ w ∈ wsX50, w ∈ wsX5_child := by decide +kernel
  refine lv_aload_n hx hb dX5_child_0 rfl (lv_at hl 0 rfl) ?_
  refine sn_get (ci := 4) (Cn := RX5) (T := TX5) (n := 3) (v := .ref (g.2.2.2 (b + 1))) C hinX5 hP b (sn_l0 hT.1 (by decide)) hT.2.1 rfl 0 (by decide) (by decide +kernel) rfl rfl dX5_child_1 ?_
  refine sn_get (ci := 0) (Cn := RX0) (T := TX0) (n := 9) (v := .ref (g.2.2.2 (b + 1 + 1))) C hinX0 hP (b + 1) (sn_l0 hT.2.2.1.1 (by decide)) hT.2.2.1.2.1 rfl 0 (by decide) (by decide +kernel) rfl rfl dX5_child_4 ?_
  refine lv_iload_n hx hb dX5_child_7 rfl (lv_at hl 1 rfl) ?_
  obtain ⟨r1, hr1, hd⟩ := Option.bind_eq_some_iff.mp hd
  refine sn_Vi (b := b + 1 + 1) (rest := []) (As := [.int x1]) (st := st) C (c_X3_isNode hi hT.2.2.1.2.2.1 hr1) (cwV 1 hts gX5_child_X3_isNode rfl rfl rfl (by decide +kernel) ⟨Nat.le_of_ble_eq_true rfl, Nat.le_of_ble_eq_true rfl⟩) hP hS (sn_l0 hT.2.2.1.2.2.1.1 (by decide)) hT.2.2.1.2.2.1.2.1 rfl rfl hl.1 rfl (Nat.le_of_ble_eq_true rfl) dX5_child_8 (fun H locs hP hS => ?_)
  refine lv_if_eq (tgt := 33) hx hb dX5_child_11 (by decide) (fun hc => ?_) (fun hc => ?_)
  · replace hd := (if_pos hc).symm.trans hd
    refine lv_bipush (v := (-101 : Int32)) hx hb dX5_child_33 (by decide) ?_
    have ho := Option.some.inj hd
    subst ho
    exact sn_ri C hP hS dX5_child_35
  · replace hd := (if_neg hc).symm.trans hd
    refine lv_aload_n hx hb dX5_child_14 rfl (lv_at hl 0 rfl) ?_
    refine sn_get (ci := 4) (Cn := RX5) (T := TX5) (n := 3) (v := .ref (g.2.2.2 (b + 1))) C hinX5 hP b (sn_l0 hT.1 (by decide)) hT.2.1 rfl 0 (by decide) (by decide +kernel) rfl rfl dX5_child_15 ?_
    refine sn_get (ci := 0) (Cn := RX0) (T := TX0) (n := 9) (v := .ref (g.2.2.2 (b + 1 + 4))) C hinX0 hP (b + 1) (sn_l0 hT.2.2.1.1 (by decide)) hT.2.2.1.2.1 rfl 1 (by decide) (by decide +kernel) rfl rfl dX5_child_18 ?_
    refine sn_get (ci := 1) (Cn := RX1) (T := TX1) (n := 4) (v := .ref (g.2.2.2 (b + 1 + 4 + 27))) C hinX1 hP (b + 1 + 4) (sn_l0 hT.2.2.1.2.2.2.1.1 (by decide)) hT.2.2.1.2.2.2.1.2.1 rfl 2 (by decide) (by decide +kernel) rfl rfl dX5_child_21 ?_
    refine lv_iload_n hx hb dX5_child_24 rfl (lv_at hl 1 rfl) ?_
    refine sn_ald C hP (b + 1 + 4 + 27) (sn_l hT.2.2.1.2.2.2.1.1 (by decide)) hT.2.2.1.2.2.2.1.2.2.2.2.2.2.1 hd dX5_child_25 (fun k2 hk2 hd => ?_)
    refine lv_iload_n hx hb dX5_child_26 rfl (lv_at hl 2 rfl) ?_
    obtain ⟨r3, hr3, hd⟩ := Option.bind_eq_some_iff.mp hd
    refine sn_Si (rest := []) (As := [.int (st.1 (b + 1 + 4 + 27) k2), .int x2]) (st := st) C (c_X5_pick hi  hr3) (va_cwS 2 hts gX5_child_X5_pick rfl rfl rfl (by decide +kernel) ⟨Nat.le_of_ble_eq_true rfl, Nat.le_of_ble_eq_true rfl⟩) hP hS rfl hl.1 rfl (Nat.le_of_ble_eq_true rfl) dX5_child_27 (fun H locs hP hS => ?_)
    refine lv_goto (tgt := 35) hx hb dX5_child_30 (by decide) ?_
    have ho := Option.some.inj hd
    subst ho
    exact sn_ri C hP hS dX5_child_35

set_option maxHeartbeats 4000000 in
set_option maxRecDepth 100000 in
theorem c_X5_enabled {l : Launch} {g : sn_G} {tb : Nat → sn_K} {N : Nat} (hi : sn_I g N) {b : Nat} {x1 : Int32} (hT : sn_SN tb N b) {st : sn_S} {o : Int32} (hd : D_X5_enabled b x1 st = some o) : sn_Mi l yX5_enabled wsX5_enabled { frames := 4, cells := 0, slots := 0, locals := 93 } g tb N [.ref (g.2.2.2 b), .int x1] st o st := by
  refine sn_Mi.of (cc := cX5_enabled) (nL := 2) (ret := (some .int)) hi (by decide) rfl (Nat.le_of_ble_eq_true rfl) ?_
  intro p e s m args below meth c ls C hP hS hl
  have hl : lv_has ls 2 [(0, .ref (g.2.2.2 b)), (1, .int x1)] := hl
  obtain ⟨⟨hx, hb, hml, hown, hts⟩, hr, hlk, hC, hi⟩ := id C
  unfold D_X5_enabled at hd
  have hinX0 : ∀ w ∈ wsX00, w ∈ wsX5_enabled := by decide +kernel
  have hinX5 : ∀ w ∈ wsX50, w ∈ wsX5_enabled := by decide +kernel
  refine lv_aload_n hx hb dX5_enabled_0 rfl (lv_at hl 0 rfl) ?_
  refine sn_get (ci := 4) (Cn := RX5) (T := TX5) (n := 3) (v := .ref (g.2.2.2 (b + 1))) C hinX5 hP b (sn_l0 hT.1 (by decide)) hT.2.1 rfl 0 (by decide) (by decide +kernel) rfl rfl dX5_enabled_1 ?_
  refine sn_get (ci := 0) (Cn := RX0) (T := TX0) (n := 9) (v := .ref (g.2.2.2 (b + 1 + 1))) C hinX0 hP (b + 1) (sn_l0 hT.2.2.1.1 (by decide)) hT.2.2.1.2.1 rfl 0 (by decide) (by decide +kernel) rfl rfl dX5_enabled_4 ?_
  refine lv_iload_n hx hb dX5_enabled_7 rfl (lv_at hl 1 rfl) ?_
  obtain ⟨r1, hr1, hd⟩ := Option.bind_eq_some_iff.mp hd
  refine sn_Vi (b := b + 1 + 1) (rest := []) (As := [.int x1]) (st := st) C (c_X3_isNode hi hT.2.2.1.2.2.1 hr1) (cwV 1 hts gX5_enabled_X3_isNode rfl rfl rfl (by decide +kernel) ⟨Nat.le_of_ble_eq_true rfl, Nat.le_of_ble_eq_true rfl⟩) hP hS (sn_l0 hT.2.2.1.2.2.1.1 (by decide)) hT.2.2.1.2.2.1.2.1 rfl rfl hl.1 rfl (Nat.le_of_ble_eq_true rfl) dX5_enabled_8 (fun H locs hP hS => ?_)
  refine lv_if_ne (tgt := 17) hx hb dX5_enabled_11 (by decide) (fun hc => ?_) (fun hc => ?_)
  · replace hd := (if_neg hc).symm.trans hd
    refine lv_aload_n hx hb dX5_enabled_17 rfl (lv_at hl 0 rfl) ?_
    refine sn_get (ci := 4) (Cn := RX5) (T := TX5) (n := 3) (v := .ref (g.2.2.2 (b + 1))) C hinX5 hP b (sn_l0 hT.1 (by decide)) hT.2.1 rfl 0 (by decide) (by decide +kernel) rfl rfl dX5_enabled_18 ?_
    refine sn_get (ci := 0) (Cn := RX0) (T := TX0) (n := 9) (v := .int (st.1 (b + 1) 3)) C hinX0 hP (b + 1) (sn_l0 hT.2.2.1.1 (by decide)) hT.2.2.1.2.1 rfl 3 (by decide) (by decide +kernel) rfl rfl dX5_enabled_21 ?_
    refine lv_if_eq (tgt := 38) hx hb dX5_enabled_24 (by decide) (fun hc => ?_) (fun hc => ?_)
    · replace hd := (if_pos hc).symm.trans hd
      refine lv_bipush (v := (-103 : Int32)) hx hb dX5_enabled_38 (by decide) ?_
      have ho := Option.some.inj hd
      subst ho
      exact sn_ri C hP hS dX5_enabled_40
    · replace hd := (if_neg hc).symm.trans hd
      refine lv_aload_n hx hb dX5_enabled_27 rfl (lv_at hl 0 rfl) ?_
      refine sn_get (ci := 4) (Cn := RX5) (T := TX5) (n := 3) (v := .ref (g.2.2.2 (b + 1))) C hinX5 hP b (sn_l0 hT.1 (by decide)) hT.2.1 rfl 0 (by decide) (by decide +kernel) rfl rfl dX5_enabled_28 ?_
      refine lv_iload_n hx hb dX5_enabled_31 rfl (lv_at hl 1 rfl) ?_
      obtain ⟨r2, hr2, hd⟩ := Option.bind_eq_some_iff.mp hd
      refine sn_Si (rest := []) (As := [.ref (g.2.2.2 (b + 1)), .int x1]) (st := st) C (c_X2_firstRule hi hT.2.2.1 hr2) (va_cwS 2 hts gX5_enabled_X2_firstRule rfl rfl rfl (by decide +kernel) ⟨Nat.le_of_ble_eq_true rfl, Nat.le_of_ble_eq_true rfl⟩) hP hS rfl hl.1 rfl (Nat.le_of_ble_eq_true rfl) dX5_enabled_32 (fun H locs hP hS => ?_)
      refine lv_goto (tgt := 40) hx hb dX5_enabled_35 (by decide) ?_
      have ho := Option.some.inj hd
      subst ho
      exact sn_ri C hP hS dX5_enabled_40
  · replace hd := (if_pos hc).symm.trans hd
    refine lv_bipush (v := (-101 : Int32)) hx hb dX5_enabled_14 (by decide) ?_
    have ho := Option.some.inj hd
    subst ho
    exact sn_ri C hP hS dX5_enabled_16

set_option maxHeartbeats 4000000 in
set_option maxRecDepth 100000 in
theorem c_X5_rights {l : Launch} {g : sn_G} {tb : Nat → sn_K} {N : Nat} (hi : sn_I g N) {b : Nat} (hT : sn_SN tb N b) {st : sn_S} {o : Int32} (hd : D_X5_rights b st = some o) : sn_Mi l yX5_rights wsX5_rights { frames := 4, cells := 0, slots := 0, locals := 92 } g tb N [.ref (g.2.2.2 b)] st o st := by
  refine sn_Mi.of (cc := cX5_rights) (nL := 1) (ret := (some .int)) hi (by decide) rfl (Nat.le_of_ble_eq_true rfl) ?_
  intro p e s m args below meth c ls C hP hS hl
  have hl : lv_has ls 1 [(0, .ref (g.2.2.2 b))] := hl
  obtain ⟨⟨hx, hb, hml, hown, hts⟩, hr, hlk, hC, hi⟩ := id C
  unfold D_X5_rights at hd
  have hinX5 : ∀ w ∈ wsX50, w ∈ wsX5_rights := by decide +kernel
  refine lv_aload_n hx hb dX5_rights_0 rfl (lv_at hl 0 rfl) ?_
  refine sn_get (ci := 4) (Cn := RX5) (T := TX5) (n := 3) (v := .ref (g.2.2.2 (b + 1))) C hinX5 hP b (sn_l0 hT.1 (by decide)) hT.2.1 rfl 0 (by decide) (by decide +kernel) rfl rfl dX5_rights_1 ?_
  obtain ⟨r1, hr1, hd⟩ := Option.bind_eq_some_iff.mp hd
  refine sn_Si (rest := []) (As := [.ref (g.2.2.2 (b + 1))]) (st := st) C (c_X2_rightsInAll hi hT.2.2.1 hr1) (va_cwS 1 hts gX5_rights_X2_rightsInAll rfl rfl rfl (by decide +kernel) ⟨Nat.le_of_ble_eq_true rfl, Nat.le_of_ble_eq_true rfl⟩) hP hS rfl hl.1 rfl (Nat.le_of_ble_eq_true rfl) dX5_rights_4 (fun H locs hP hS => ?_)
  have ho := Option.some.inj hd
  subst ho
  exact sn_ri C hP hS dX5_rights_7

set_option maxHeartbeats 4000000 in
set_option maxRecDepth 100000 in
theorem t_X5_holder_L10 {p : Program} {l : Launch} {e : Env} {s : State} {m : MethodId} {args : Array Value} {below : List Frame} {meth : Method} {c : Code} {g : sn_G} {tb : Nat → sn_K} {N : Nat} {b : Nat} {x1 : Int32} {st : sn_S} {o : Int32} (C : sn_Cx p s m args meth c g N cX5_holder 4 wsX5_holder yX5_holder.cls (some .int)) (hT : sn_SN tb N b)  : ∀ (n : Nat) (x2 : Int32) (x3 : Int32) (H : Heap) (locs : List Loc) (ls : Array Slot), D_X5_holder_L10 b x1 st n x2 x3 = some o → va_P g.1 vwCl (sn_W g tb N st) H → va_S (sn_A g N) s.heap H locs → lv_has ls 4 [(0, .ref (g.2.2.2 b)), (1, .int x1), (2, .int x2), (3, .int x3)] → W p l e { frames := 3, cells := 0, slots := 0, locals := 70 } s m args below meth c H locs 0 0 (MQ below (sn_Qi g tb N o st) args s 0 0 (sn_A g N)) (F0 m 10 ls []) := by
  obtain ⟨⟨hx, hb, hml, hown, hts⟩, hr, hlk, hC, hi⟩ := id C
  have hinX0 : ∀ w ∈ wsX00, w ∈ wsX5_holder := by decide +kernel
  have hinX5 : ∀ w ∈ wsX50, w ∈ wsX5_holder := by decide +kernel
  have hinX3 : ∀ w ∈ wsX30, w ∈ wsX5_holder := by decide +kernel
  intro n
  induction n with
  | zero => intro _ _ _ _ _ hd; exact nomatch (show (none : Option (Int32)) = some o from hd)
  | succ n ih =>
    intro x2 x3 H locs ls hd hP hS hl
    replace hd := (D_X5_holder_L10.eq_2 _ _ _ _ _ _).symm.trans hd
    refine lv_iload_n hx hb dX5_holder_10 rfl (lv_at hl 3 rfl) ?_
    refine lv_aload_n hx hb dX5_holder_11 rfl (lv_at hl 0 rfl) ?_
    refine sn_get (ci := 4) (Cn := RX5) (T := TX5) (n := 3) (v := .ref (g.2.2.2 (b + 1))) C hinX5 hP b (sn_l0 hT.1 (by decide)) hT.2.1 rfl 0 (by decide) (by decide +kernel) rfl rfl dX5_holder_12 ?_
    refine sn_get (ci := 0) (Cn := RX0) (T := TX0) (n := 9) (v := .ref (g.2.2.2 (b + 1 + 1))) C hinX0 hP (b + 1) (sn_l0 hT.2.2.1.1 (by decide)) hT.2.2.1.2.1 rfl 0 (by decide) (by decide +kernel) rfl rfl dX5_holder_15 ?_
    refine sn_get (ci := 2) (Cn := RX3) (T := TX3) (n := 3) (v := .int (st.1 (b + 1 + 1) 0)) C hinX3 hP (b + 1 + 1) (sn_l0 hT.2.2.1.2.2.1.1 (by decide)) hT.2.2.1.2.2.1.2.1 rfl 0 (by decide) (by decide +kernel) rfl rfl dX5_holder_18 ?_
    refine lv_icmp_ge (tgt := 50) hx hb dX5_holder_21 (by decide) (fun hc => ?_) (fun hc => ?_)
    · replace hd := (if_pos hc).symm.trans hd
      refine lv_iconst (v := (-1 : Int32)) hx hb dX5_holder_50 (by decide) ?_
      have ho := Option.some.inj hd
      subst ho
      exact sn_ri C hP hS dX5_holder_51
    · replace hd := (if_neg hc).symm.trans hd
      refine lv_iload_n hx hb dX5_holder_24 rfl (lv_at hl 2 rfl) ?_
      refine lv_aload_n hx hb dX5_holder_25 rfl (lv_at hl 0 rfl) ?_
      refine sn_get (ci := 4) (Cn := RX5) (T := TX5) (n := 3) (v := .ref (g.2.2.2 (b + 1))) C hinX5 hP b (sn_l0 hT.1 (by decide)) hT.2.1 rfl 0 (by decide) (by decide +kernel) rfl rfl dX5_holder_26 ?_
      refine lv_iload_n hx hb dX5_holder_29 rfl (lv_at hl 3 rfl) ?_
      obtain ⟨r1, hr1, hd⟩ := Option.bind_eq_some_iff.mp hd
      refine sn_Si (rest := [.int x2]) (As := [.ref (g.2.2.2 (b + 1)), .int x3]) (st := st) C (c_X2_rightsOf hi hT.2.2.1 hr1) (va_cwS 2 hts gX5_holder_X2_rightsOf rfl rfl rfl (by decide +kernel) ⟨Nat.le_of_ble_eq_true rfl, Nat.le_of_ble_eq_true rfl⟩) hP hS rfl hl.1 rfl (Nat.le_of_ble_eq_true rfl) dX5_holder_30 (fun H locs hP hS => ?_)
      obtain ⟨r2, hr2, hd⟩ := Option.bind_eq_some_iff.mp hd
      refine sn_Si (rest := [.int x2]) (As := [.int r1]) (st := st) C (c_J6_bitCount_0f7a4 hi  hr2) (va_cwS 1 hts gX5_holder_J6_bitCount_0f7a4 rfl rfl rfl (by decide +kernel) ⟨Nat.le_of_ble_eq_true rfl, Nat.le_of_ble_eq_true rfl⟩) hP hS rfl hl.1 rfl (Nat.le_of_ble_eq_true rfl) dX5_holder_33 (fun H locs hP hS => ?_)
      refine lv_isub hx hb dX5_holder_36 ?_
      refine lv_istore_n (lv' := [(2, .int (x2 - r2)), (0, .ref (g.2.2.2 b)), (1, .int x1), (3, .int x3)]) hx hb dX5_holder_37 rfl hl (by decide) rfl (fun ls hl => ?_)
      refine lv_iload_n hx hb dX5_holder_38 rfl (lv_at hl 0 rfl) ?_
      refine lv_if_ge (tgt := 44) hx hb dX5_holder_39 (by decide) (fun hc => ?_) (fun hc => ?_)
      · replace hd := (if_pos hc).symm.trans hd
        refine lv_iinc (v := (x3 + (1 : Int32))) (lv' := [(3, .int (x3 + (1 : Int32))), (2, .int (x2 - r2)), (0, .ref (g.2.2.2 b)), (1, .int x1)]) hx hb dX5_holder_44 hl (k := 3) rfl rfl (by decide) rfl (fun ls hl => ?_)
        refine lv_goto (tgt := 10) hx hb dX5_holder_47 (by decide) ?_
        exact ih (x2 - r2) (x3 + (1 : Int32)) _ _ _ hd hP hS (lv_sub hl [2, 3, 1, 0] rfl)
      · replace hd := (if_neg hc).symm.trans hd
        refine lv_iload_n hx hb dX5_holder_42 rfl (lv_at hl 3 rfl) ?_
        have ho := Option.some.inj hd
        subst ho
        exact sn_ri C hP hS dX5_holder_43

set_option maxHeartbeats 4000000 in
set_option maxRecDepth 100000 in
theorem c_X5_holder {l : Launch} {g : sn_G} {tb : Nat → sn_K} {N : Nat} (hi : sn_I g N) {b : Nat} {x1 : Int32} (hT : sn_SN tb N b) {st : sn_S} {o : Int32} (hd : D_X5_holder b x1 st = some o) : sn_Mi l yX5_holder wsX5_holder { frames := 3, cells := 0, slots := 0, locals := 70 } g tb N [.ref (g.2.2.2 b), .int x1] st o st := by
  refine sn_Mi.of (cc := cX5_holder) (nL := 4) (ret := (some .int)) hi (by decide) rfl (Nat.le_of_ble_eq_true rfl) ?_
  intro p e s m args below meth c ls C hP hS hl
  have hl : lv_has ls 4 [(0, .ref (g.2.2.2 b)), (1, .int x1)] := hl
  obtain ⟨⟨hx, hb, hml, hown, hts⟩, hr, hlk, hC, hi⟩ := id C
  unfold D_X5_holder at hd
  have hinX0 : ∀ w ∈ wsX00, w ∈ wsX5_holder := by decide +kernel
  have hinX5 : ∀ w ∈ wsX50, w ∈ wsX5_holder := by decide +kernel
  have hinX3 : ∀ w ∈ wsX30, w ∈ wsX5_holder := by decide +kernel
  refine lv_iload_n hx hb dX5_holder_0 rfl (lv_at hl 1 rfl) ?_
  refine lv_if_ge (tgt := 6) hx hb dX5_holder_1 (by decide) (fun hc => ?_) (fun hc => ?_)
  · replace hd := (if_pos hc).symm.trans hd
    refine lv_iload_n hx hb dX5_holder_6 rfl (lv_at hl 1 rfl) ?_
    refine lv_istore_n (lv' := [(2, .int x1), (0, .ref (g.2.2.2 b)), (1, .int x1)]) hx hb dX5_holder_7 rfl hl (by decide) rfl (fun ls hl => ?_)
    refine lv_iconst (v := (0 : Int32)) hx hb dX5_holder_8 (by decide) ?_
    refine lv_istore_n (lv' := [(3, .int (0 : Int32)), (2, .int x1), (0, .ref (g.2.2.2 b)), (1, .int x1)]) hx hb dX5_holder_9 rfl hl (by decide) rfl (fun ls hl => ?_)
    exact t_X5_holder_L10 (st := st) C hT 4096 x1 (0 : Int32) _ _ _ hd hP hS (lv_sub hl [2, 3, 1, 0] rfl)
  · replace hd := (if_neg hc).symm.trans hd
    refine lv_iconst (v := (-1 : Int32)) hx hb dX5_holder_4 (by decide) ?_
    have ho := Option.some.inj hd
    subst ho
    exact sn_ri C hP hS dX5_holder_5

set_option maxHeartbeats 4000000 in
set_option maxRecDepth 100000 in
theorem c_X5_next {l : Launch} {g : sn_G} {tb : Nat → sn_K} {N : Nat} (hi : sn_I g N) {b : Nat} {x1 : Int32} {x2 : Int32} (hT : sn_SN tb N b) {st : sn_S} {o : Int32} (hd : D_X5_next b x1 x2 st = some o) : sn_Mi l yX5_next wsX5_next { frames := 2, cells := 0, slots := 0, locals := 44 } g tb N [.ref (g.2.2.2 b), .int x1, .int x2] st o st := by
  refine sn_Mi.of (cc := cX5_next) (nL := 4) (ret := (some .int)) hi (by decide) rfl (Nat.le_of_ble_eq_true rfl) ?_
  intro p e s m args below meth c ls C hP hS hl
  have hl : lv_has ls 4 [(0, .ref (g.2.2.2 b)), (1, .int x1), (2, .int x2)] := hl
  obtain ⟨⟨hx, hb, hml, hown, hts⟩, hr, hlk, hC, hi⟩ := id C
  unfold D_X5_next at hd
  have hinX0 : ∀ w ∈ wsX00, w ∈ wsX5_next := by decide +kernel
  have hinX1 : ∀ w ∈ wsX10, w ∈ wsX5_next := by decide +kernel
  have hinX5 : ∀ w ∈ wsX50, w ∈ wsX5_next := by decide +kernel
  refine lv_aload_n hx hb dX5_next_0 rfl (lv_at hl 0 rfl) ?_
  refine sn_get (ci := 4) (Cn := RX5) (T := TX5) (n := 3) (v := .ref (g.2.2.2 (b + 1))) C hinX5 hP b (sn_l0 hT.1 (by decide)) hT.2.1 rfl 0 (by decide) (by decide +kernel) rfl rfl dX5_next_1 ?_
  refine sn_get (ci := 0) (Cn := RX0) (T := TX0) (n := 9) (v := .ref (g.2.2.2 (b + 1 + 1))) C hinX0 hP (b + 1) (sn_l0 hT.2.2.1.1 (by decide)) hT.2.2.1.2.1 rfl 0 (by decide) (by decide +kernel) rfl rfl dX5_next_4 ?_
  refine lv_iload_n hx hb dX5_next_7 rfl (lv_at hl 1 rfl) ?_
  obtain ⟨r1, hr1, hd⟩ := Option.bind_eq_some_iff.mp hd
  refine sn_Vi (b := b + 1 + 1) (rest := []) (As := [.int x1]) (st := st) C (c_X3_isNode hi hT.2.2.1.2.2.1 hr1) (cwV 1 hts gX5_next_X3_isNode rfl rfl rfl (by decide +kernel) ⟨Nat.le_of_ble_eq_true rfl, Nat.le_of_ble_eq_true rfl⟩) hP hS (sn_l0 hT.2.2.1.2.2.1.1 (by decide)) hT.2.2.1.2.2.1.2.1 rfl rfl hl.1 rfl (Nat.le_of_ble_eq_true rfl) dX5_next_8 (fun H locs hP hS => ?_)
  refine lv_if_eq (tgt := 28) hx hb dX5_next_11 (by decide) (fun hc => ?_) (fun hc => ?_)
  · replace hd := (if_pos hc).symm.trans hd
    refine lv_bipush (v := (-101 : Int32)) hx hb dX5_next_28 (by decide) ?_
    have ho := Option.some.inj hd
    subst ho
    exact sn_ri C hP hS dX5_next_30
  · replace hd := (if_neg hc).symm.trans hd
    refine lv_aload_n hx hb dX5_next_14 rfl (lv_at hl 0 rfl) ?_
    refine sn_get (ci := 4) (Cn := RX5) (T := TX5) (n := 3) (v := .ref (g.2.2.2 (b + 1))) C hinX5 hP b (sn_l0 hT.1 (by decide)) hT.2.1 rfl 0 (by decide) (by decide +kernel) rfl rfl dX5_next_15 ?_
    refine sn_get (ci := 0) (Cn := RX0) (T := TX0) (n := 9) (v := .ref (g.2.2.2 (b + 1 + 1))) C hinX0 hP (b + 1) (sn_l0 hT.2.2.1.1 (by decide)) hT.2.2.1.2.1 rfl 0 (by decide) (by decide +kernel) rfl rfl dX5_next_18 ?_
    refine lv_iload_n hx hb dX5_next_21 rfl (lv_at hl 2 rfl) ?_
    obtain ⟨r2, hr2, hd⟩ := Option.bind_eq_some_iff.mp hd
    refine sn_Vi (b := b + 1 + 1) (rest := []) (As := [.int x2]) (st := st) C (c_X3_isNode hi hT.2.2.1.2.2.1 hr2) (cwV 1 hts gX5_next_X3_isNode rfl rfl rfl (by decide +kernel) ⟨Nat.le_of_ble_eq_true rfl, Nat.le_of_ble_eq_true rfl⟩) hP hS (sn_l0 hT.2.2.1.2.2.1.1 (by decide)) hT.2.2.1.2.2.1.2.1 rfl rfl hl.1 rfl (Nat.le_of_ble_eq_true rfl) dX5_next_22 (fun H locs hP hS => ?_)
    refine lv_if_ne (tgt := 31) hx hb dX5_next_25 (by decide) (fun hc => ?_) (fun hc => ?_)
    · replace hd := (if_neg hc).symm.trans hd
      refine lv_aload_n hx hb dX5_next_31 rfl (lv_at hl 0 rfl) ?_
      refine sn_get (ci := 4) (Cn := RX5) (T := TX5) (n := 3) (v := .ref (g.2.2.2 (b + 1))) C hinX5 hP b (sn_l0 hT.1 (by decide)) hT.2.1 rfl 0 (by decide) (by decide +kernel) rfl rfl dX5_next_32 ?_
      refine sn_get (ci := 0) (Cn := RX0) (T := TX0) (n := 9) (v := .ref (g.2.2.2 (b + 1 + 4))) C hinX0 hP (b + 1) (sn_l0 hT.2.2.1.1 (by decide)) hT.2.2.1.2.1 rfl 1 (by decide) (by decide +kernel) rfl rfl dX5_next_35 ?_
      refine sn_get (ci := 1) (Cn := RX1) (T := TX1) (n := 4) (v := .ref (g.2.2.2 (b + 1 + 4 + 28))) C hinX1 hP (b + 1 + 4) (sn_l0 hT.2.2.1.2.2.2.1.1 (by decide)) hT.2.2.1.2.2.2.1.2.1 rfl 3 (by decide) (by decide +kernel) rfl rfl dX5_next_38 ?_
      refine lv_iload_n hx hb dX5_next_41 rfl (lv_at hl 1 rfl) ?_
      refine sn_ald C hP (b + 1 + 4 + 28) (sn_l hT.2.2.1.2.2.2.1.1 (by decide)) hT.2.2.1.2.2.2.1.2.2.2.2.2.2.2 hd dX5_next_42 (fun k3 hk3 hd => ?_)
      refine lv_iload_n hx hb dX5_next_43 rfl (lv_at hl 2 rfl) ?_
      obtain ⟨r4, hr4, hd⟩ := Option.bind_eq_some_iff.mp hd
      refine sn_Si (rest := []) (As := [.int (st.1 (b + 1 + 4 + 28) k3), .int x2]) (st := st) C (c_X5_has hi  hr4) (va_cwS 2 hts gX5_next_X5_has rfl rfl rfl (by decide +kernel) ⟨Nat.le_of_ble_eq_true rfl, Nat.le_of_ble_eq_true rfl⟩) hP hS rfl hl.1 rfl (Nat.le_of_ble_eq_true rfl) dX5_next_44 (fun H locs hP hS => ?_)
      refine lv_if_eq (tgt := 69) hx hb dX5_next_47 (by decide) (fun hc => ?_) (fun hc => ?_)
      · replace hd := (if_pos hc).symm.trans hd
        refine lv_bipush (v := (-102 : Int32)) hx hb dX5_next_69 (by decide) ?_
        have ho := Option.some.inj hd
        subst ho
        exact sn_ri C hP hS dX5_next_71
      · replace hd := (if_neg hc).symm.trans hd
        refine lv_aload_n hx hb dX5_next_50 rfl (lv_at hl 0 rfl) ?_
        refine sn_get (ci := 4) (Cn := RX5) (T := TX5) (n := 3) (v := .ref (g.2.2.2 (b + 1))) C hinX5 hP b (sn_l0 hT.1 (by decide)) hT.2.1 rfl 0 (by decide) (by decide +kernel) rfl rfl dX5_next_51 ?_
        refine sn_get (ci := 0) (Cn := RX0) (T := TX0) (n := 9) (v := .ref (g.2.2.2 (b + 1 + 4))) C hinX0 hP (b + 1) (sn_l0 hT.2.2.1.1 (by decide)) hT.2.2.1.2.1 rfl 1 (by decide) (by decide +kernel) rfl rfl dX5_next_54 ?_
        refine sn_get (ci := 1) (Cn := RX1) (T := TX1) (n := 4) (v := .ref (g.2.2.2 (b + 1 + 4 + 28))) C hinX1 hP (b + 1 + 4) (sn_l0 hT.2.2.1.2.2.2.1.1 (by decide)) hT.2.2.1.2.2.2.1.2.1 rfl 3 (by decide) (by decide +kernel) rfl rfl dX5_next_57 ?_
        refine lv_iload_n hx hb dX5_next_60 rfl (lv_at hl 2 rfl) ?_
        refine sn_ald C hP (b + 1 + 4 + 28) (sn_l hT.2.2.1.2.2.2.1.1 (by decide)) hT.2.2.1.2.2.2.1.2.2.2.2.2.2.2 hd dX5_next_61 (fun k5 hk5 hd => ?_)
        refine lv_iload_n hx hb dX5_next_62 rfl (lv_at hl 1 rfl) ?_
        obtain ⟨r6, hr6, hd⟩ := Option.bind_eq_some_iff.mp hd
        refine sn_Si (rest := []) (As := [.int (st.1 (b + 1 + 4 + 28) k5), .int x1]) (st := st) C (c_X5_has hi  hr6) (va_cwS 2 hts gX5_next_X5_has rfl rfl rfl (by decide +kernel) ⟨Nat.le_of_ble_eq_true rfl, Nat.le_of_ble_eq_true rfl⟩) hP hS rfl hl.1 rfl (Nat.le_of_ble_eq_true rfl) dX5_next_63 (fun H locs hP hS => ?_)
        refine lv_if_ne (tgt := 72) hx hb dX5_next_66 (by decide) (fun hc => ?_) (fun hc => ?_)
        · replace hd := (if_neg hc).symm.trans hd
          refine lv_aload_n hx hb dX5_next_72 rfl (lv_at hl 0 rfl) ?_
          refine sn_get (ci := 4) (Cn := RX5) (T := TX5) (n := 3) (v := .ref (g.2.2.2 (b + 1))) C hinX5 hP b (sn_l0 hT.1 (by decide)) hT.2.1 rfl 0 (by decide) (by decide +kernel) rfl rfl dX5_next_73 ?_
          refine sn_get (ci := 0) (Cn := RX0) (T := TX0) (n := 9) (v := .int (st.1 (b + 1) 3)) C hinX0 hP (b + 1) (sn_l0 hT.2.2.1.1 (by decide)) hT.2.2.1.2.1 rfl 3 (by decide) (by decide +kernel) rfl rfl dX5_next_76 ?_
          refine lv_if_ne (tgt := 85) hx hb dX5_next_79 (by decide) (fun hc => ?_) (fun hc => ?_)
          · replace hd := (if_neg hc).symm.trans hd
            refine lv_aload_n hx hb dX5_next_85 rfl (lv_at hl 0 rfl) ?_
            refine sn_get (ci := 4) (Cn := RX5) (T := TX5) (n := 3) (v := .ref (g.2.2.2 (b + 1))) C hinX5 hP b (sn_l0 hT.1 (by decide)) hT.2.1 rfl 0 (by decide) (by decide +kernel) rfl rfl dX5_next_86 ?_
            refine sn_get (ci := 0) (Cn := RX0) (T := TX0) (n := 9) (v := .ref (g.2.2.2 (b + 1 + 4))) C hinX0 hP (b + 1) (sn_l0 hT.2.2.1.1 (by decide)) hT.2.2.1.2.1 rfl 1 (by decide) (by decide +kernel) rfl rfl dX5_next_89 ?_
            refine sn_get (ci := 1) (Cn := RX1) (T := TX1) (n := 4) (v := .ref (g.2.2.2 (b + 1 + 4 + 28))) C hinX1 hP (b + 1 + 4) (sn_l0 hT.2.2.1.2.2.2.1.1 (by decide)) hT.2.2.1.2.2.2.1.2.1 rfl 3 (by decide) (by decide +kernel) rfl rfl dX5_next_92 ?_
            refine lv_iload_n hx hb dX5_next_95 rfl (lv_at hl 2 rfl) ?_
            refine sn_ald C hP (b + 1 + 4 + 28) (sn_l hT.2.2.1.2.2.2.1.1 (by decide)) hT.2.2.1.2.2.2.1.2.2.2.2.2.2.2 hd dX5_next_96 (fun k7 hk7 hd => ?_)
            refine lv_iload_n hx hb dX5_next_97 rfl (lv_at hl 1 rfl) ?_
            refine lv_iconst (v := (1 : Int32)) hx hb dX5_next_98 (by decide) ?_
            refine lv_iadd hx hb dX5_next_99 ?_
            obtain ⟨r8, hr8, hd⟩ := Option.bind_eq_some_iff.mp hd
            refine sn_Si (rest := [.int (st.1 (b + 1 + 4 + 28) k7)]) (As := [.int (x1 + (1 : Int32))]) (st := st) C (c_X5_below hi  hr8) (va_cwS 1 hts gX5_next_X5_below rfl rfl rfl (by decide +kernel) ⟨Nat.le_of_ble_eq_true rfl, Nat.le_of_ble_eq_true rfl⟩) hP hS rfl hl.1 rfl (Nat.le_of_ble_eq_true rfl) dX5_next_100 (fun H locs hP hS => ?_)
            refine lv_iconst (v := (-1 : Int32)) hx hb dX5_next_103 (by decide) ?_
            refine lv_ixor hx hb dX5_next_104 ?_
            refine lv_iand hx hb dX5_next_105 ?_
            refine lv_istore_n (lv' := [(3, .int ((st.1 (b + 1 + 4 + 28) k7) &&& (r8 ^^^ (-1 : Int32)))), (0, .ref (g.2.2.2 b)), (1, .int x1), (2, .int x2)]) hx hb dX5_next_106 rfl hl (by decide) rfl (fun ls hl => ?_)
            refine lv_iload_n hx hb dX5_next_107 rfl (lv_at hl 0 rfl) ?_
            refine lv_if_ne (tgt := 126) hx hb dX5_next_108 (by decide) (fun hc => ?_) (fun hc => ?_)
            · replace hd := (if_neg hc).symm.trans hd
              refine lv_iload_n hx hb dX5_next_126 rfl (lv_at hl 0 rfl) ?_
              refine lv_iconst (v := (0 : Int32)) hx hb dX5_next_127 (by decide) ?_
              obtain ⟨r9, hr9, hd⟩ := Option.bind_eq_some_iff.mp hd
              refine sn_Si (rest := []) (As := [.int ((st.1 (b + 1 + 4 + 28) k7) &&& (r8 ^^^ (-1 : Int32))), .int (0 : Int32)]) (st := st) C (c_X5_pick hi  hr9) (va_cwS 2 hts gX5_next_X5_pick rfl rfl rfl (by decide +kernel) ⟨Nat.le_of_ble_eq_true rfl, Nat.le_of_ble_eq_true rfl⟩) hP hS rfl hl.1 rfl (Nat.le_of_ble_eq_true rfl) dX5_next_128 (fun H locs hP hS => ?_)
              have ho := Option.some.inj hd
              subst ho
              exact sn_ri C hP hS dX5_next_131
            · replace hd := (if_pos hc).symm.trans hd
              refine lv_aload_n hx hb dX5_next_111 rfl (lv_at hl 1 rfl) ?_
              refine sn_get (ci := 4) (Cn := RX5) (T := TX5) (n := 3) (v := .ref (g.2.2.2 (b + 1))) C hinX5 hP b (sn_l0 hT.1 (by decide)) hT.2.1 rfl 0 (by decide) (by decide +kernel) rfl rfl dX5_next_112 ?_
              refine sn_get (ci := 0) (Cn := RX0) (T := TX0) (n := 9) (v := .ref (g.2.2.2 (b + 1 + 4))) C hinX0 hP (b + 1) (sn_l0 hT.2.2.1.1 (by decide)) hT.2.2.1.2.1 rfl 1 (by decide) (by decide +kernel) rfl rfl dX5_next_115 ?_
              refine sn_get (ci := 1) (Cn := RX1) (T := TX1) (n := 4) (v := .ref (g.2.2.2 (b + 1 + 4 + 28))) C hinX1 hP (b + 1 + 4) (sn_l0 hT.2.2.1.2.2.2.1.1 (by decide)) hT.2.2.1.2.2.2.1.2.1 rfl 3 (by decide) (by decide +kernel) rfl rfl dX5_next_118 ?_
              refine lv_iload_n hx hb dX5_next_121 rfl (lv_at hl 3 rfl) ?_
              refine sn_ald C hP (b + 1 + 4 + 28) (sn_l hT.2.2.1.2.2.2.1.1 (by decide)) hT.2.2.1.2.2.2.1.2.2.2.2.2.2.2 hd dX5_next_122 (fun k10 hk10 hd => ?_)
              refine lv_goto (tgt := 127) hx hb dX5_next_123 (by decide) ?_
              refine lv_iconst (v := (0 : Int32)) hx hb dX5_next_127 (by decide) ?_
              obtain ⟨r11, hr11, hd⟩ := Option.bind_eq_some_iff.mp hd
              refine sn_Si (rest := []) (As := [.int (st.1 (b + 1 + 4 + 28) k10), .int (0 : Int32)]) (st := st) C (c_X5_pick hi  hr11) (va_cwS 2 hts gX5_next_X5_pick rfl rfl rfl (by decide +kernel) ⟨Nat.le_of_ble_eq_true rfl, Nat.le_of_ble_eq_true rfl⟩) hP hS rfl hl.1 rfl (Nat.le_of_ble_eq_true rfl) dX5_next_128 (fun H locs hP hS => ?_)
              have ho := Option.some.inj hd
              subst ho
              exact sn_ri C hP hS dX5_next_131
          · replace hd := (if_pos hc).symm.trans hd
            refine lv_bipush (v := (-103 : Int32)) hx hb dX5_next_82 (by decide) ?_
            have ho := Option.some.inj hd
            subst ho
            exact sn_ri C hP hS dX5_next_84
        · replace hd := (if_pos hc).symm.trans hd
          refine lv_bipush (v := (-102 : Int32)) hx hb dX5_next_69 (by decide) ?_
          have ho := Option.some.inj hd
          subst ho
          exact sn_ri C hP hS dX5_next_71
    · replace hd := (if_pos hc).symm.trans hd
      refine lv_bipush (v := (-101 : Int32)) hx hb dX5_next_28 (by decide) ?_
      have ho := Option.some.inj hd
      subst ho
      exact sn_ri C hP hS dX5_next_30

set_option maxHeartbeats 4000000 in
set_option maxRecDepth 100000 in
theorem c_X5_step {l : Launch} {g : sn_G} {tb : Nat → sn_K} {N : Nat} (hi : sn_I g N) {b : Nat} {x1 : Int32} (hT : sn_SN tb N b) {st : sn_S} {o : Int32 × sn_S} (hd : D_X5_step b x1 st = some o) : sn_Mi l yX5_step wsX5_step { frames := 6, cells := 0, slots := 0, locals := 138 } g tb N [.ref (g.2.2.2 b), .int x1] st o.1 o.2 := by
  refine sn_Mi.of (cc := cX5_step) (nL := 2) (ret := (some .int)) hi (by decide) rfl (Nat.le_of_ble_eq_true rfl) ?_
  intro p e s m args below meth c ls C hP hS hl
  have hl : lv_has ls 2 [(0, .ref (g.2.2.2 b)), (1, .int x1)] := hl
  obtain ⟨⟨hx, hb, hml, hown, hts⟩, hr, hlk, hC, hi⟩ := id C
  unfold D_X5_step at hd
  have hinX0 : ∀ w ∈ wsX00, w ∈ wsX5_step := by decide +kernel
  have hinX5 : ∀ w ∈ wsX50, w ∈ wsX5_step := by decide +kernel
  refine lv_aload_n hx hb dX5_step_0 rfl (lv_at hl 0 rfl) ?_
  refine sn_get (ci := 4) (Cn := RX5) (T := TX5) (n := 3) (v := .ref (g.2.2.2 (b + 1))) C hinX5 hP b (sn_l0 hT.1 (by decide)) hT.2.1 rfl 0 (by decide) (by decide +kernel) rfl rfl dX5_step_1 ?_
  refine sn_get (ci := 0) (Cn := RX0) (T := TX0) (n := 9) (v := .int (st.1 (b + 1) 3)) C hinX0 hP (b + 1) (sn_l0 hT.2.2.1.1 (by decide)) hT.2.2.1.2.1 rfl 3 (by decide) (by decide +kernel) rfl rfl dX5_step_4 ?_
  refine lv_if_eq (tgt := 21) hx hb dX5_step_7 (by decide) (fun hc => ?_) (fun hc => ?_)
  · replace hd := (if_pos hc).symm.trans hd
    refine lv_bipush (v := (-103 : Int32)) hx hb dX5_step_21 (by decide) ?_
    have ho := Option.some.inj hd
    subst ho
    exact sn_ri C hP hS dX5_step_23
  · replace hd := (if_neg hc).symm.trans hd
    refine lv_aload_n hx hb dX5_step_10 rfl (lv_at hl 0 rfl) ?_
    refine sn_get (ci := 4) (Cn := RX5) (T := TX5) (n := 3) (v := .ref (g.2.2.2 (b + 1))) C hinX5 hP b (sn_l0 hT.1 (by decide)) hT.2.1 rfl 0 (by decide) (by decide +kernel) rfl rfl dX5_step_11 ?_
    refine lv_iload_n hx hb dX5_step_14 rfl (lv_at hl 1 rfl) ?_
    obtain ⟨r1, hr1, hd⟩ := Option.bind_eq_some_iff.mp hd
    refine sn_Vi (b := b + 1) (rest := []) (As := [.int x1]) (st := st) C (c_X0_act hi hT.2.2.1 hr1) (cwV 1 hts gX5_step_X0_act rfl rfl rfl (by decide +kernel) ⟨Nat.le_of_ble_eq_true rfl, Nat.le_of_ble_eq_true rfl⟩) hP hS (sn_l0 hT.2.2.1.1 (by decide)) hT.2.2.1.2.1 rfl rfl hl.1 rfl (Nat.le_of_ble_eq_true rfl) dX5_step_15 (fun H locs hP hS => ?_)
    refine lv_goto (tgt := 23) hx hb dX5_step_18 (by decide) ?_
    have ho := Option.some.inj hd
    subst ho
    exact sn_ri C hP hS dX5_step_23

set_option maxHeartbeats 4000000 in
set_option maxRecDepth 100000 in
theorem t_X5_run_L39 {p : Program} {l : Launch} {e : Env} {s : State} {m : MethodId} {args : Array Value} {below : List Frame} {meth : Method} {c : Code} {g : sn_G} {tb : Nat → sn_K} {N : Nat} {b : Nat} {x1 : Int32} {x2 : Int32} {o : Int32 × sn_S} (C : sn_Cx p s m args meth c g N cX5_run 5 wsX5_run yX5_run.cls (some .int)) (hT : sn_SN tb N b)  : ∀ (n : Nat) (x3 : Int32) (x4 : Int32) (st : sn_S) (H : Heap) (locs : List Loc) (ls : Array Slot), D_X5_run_L39 b x1 x2 n x3 x4 st = some o → va_P g.1 vwCl (sn_W g tb N st) H → va_S (sn_A g N) s.heap H locs → lv_has ls 5 [(0, .ref (g.2.2.2 b)), (1, .int x1), (2, .int x2), (3, .int x3), (4, .int x4)] → W p l e { frames := 6, cells := 0, slots := 0, locals := 138 } s m args below meth c H locs 0 0 (MQ below (sn_Qi g tb N o.1 o.2) args s 0 0 (sn_A g N)) (F0 m 39 ls []) := by
  obtain ⟨⟨hx, hb, hml, hown, hts⟩, hr, hlk, hC, hi⟩ := id C
  have hinX0 : ∀ w ∈ wsX00, w ∈ wsX5_run := by decide +kernel
  have hinX5 : ∀ w ∈ wsX50, w ∈ wsX5_run := by decide +kernel
  intro n
  induction n with
  | zero => intro _ _ _ _ _ _ hd; exact nomatch (show (none : Option (Int32 × sn_S)) = some o from hd)
  | succ n ih =>
    intro x3 x4 st H locs ls hd hP hS hl
    replace hd := (D_X5_run_L39.eq_2 _ _ _ _ _ _ _).symm.trans hd
    refine lv_iload hx hb dX5_run_39 (lv_at hl 4 rfl) ?_
    refine lv_iload_n hx hb dX5_run_41 rfl (lv_at hl 2 rfl) ?_
    refine lv_icmp_ge (tgt := 69) hx hb dX5_run_42 (by decide) (fun hc => ?_) (fun hc => ?_)
    · replace hd := (if_pos hc).symm.trans hd
      refine lv_iload_n hx hb dX5_run_69 rfl (lv_at hl 3 rfl) ?_
      have ho := Option.some.inj hd
      subst ho
      exact sn_ri C hP hS dX5_run_70
    · replace hd := (if_neg hc).symm.trans hd
      refine lv_iload_n hx hb dX5_run_45 rfl (lv_at hl 3 rfl) ?_
      refine lv_aload_n hx hb dX5_run_46 rfl (lv_at hl 0 rfl) ?_
      refine sn_get (ci := 4) (Cn := RX5) (T := TX5) (n := 3) (v := .ref (g.2.2.2 (b + 1))) C hinX5 hP b (sn_l0 hT.1 (by decide)) hT.2.1 rfl 0 (by decide) (by decide +kernel) rfl rfl dX5_run_47 ?_
      refine lv_aload_n hx hb dX5_run_50 rfl (lv_at hl 0 rfl) ?_
      refine sn_get (ci := 4) (Cn := RX5) (T := TX5) (n := 3) (v := .ref (g.2.2.2 (b + 1))) C hinX5 hP b (sn_l0 hT.1 (by decide)) hT.2.1 rfl 0 (by decide) (by decide +kernel) rfl rfl dX5_run_51 ?_
      refine lv_iload_n hx hb dX5_run_54 rfl (lv_at hl 1 rfl) ?_
      obtain ⟨r2, hr2, hd⟩ := Option.bind_eq_some_iff.mp hd
      refine sn_Vi (b := b + 1) (rest := [.ref (g.2.2.2 (b + 1)), .int x3]) (As := [.int x1]) (st := st) C (c_X0_choose hi hT.2.2.1 hr2) (cwV 1 hts gX5_run_X0_choose rfl rfl rfl (by decide +kernel) ⟨Nat.le_of_ble_eq_true rfl, Nat.le_of_ble_eq_true rfl⟩) hP hS (sn_l0 hT.2.2.1.1 (by decide)) hT.2.2.1.2.1 rfl rfl hl.1 rfl (Nat.le_of_ble_eq_true rfl) dX5_run_55 (fun H locs hP hS => ?_)
      obtain ⟨r3, hr3, hd⟩ := Option.bind_eq_some_iff.mp hd
      refine sn_Vi (b := b + 1) (rest := [.int x3]) (As := [.int r2.1]) (st := r2.2) C (c_X0_act hi hT.2.2.1 hr3) (cwV 1 hts gX5_run_X0_act rfl rfl rfl (by decide +kernel) ⟨Nat.le_of_ble_eq_true rfl, Nat.le_of_ble_eq_true rfl⟩) hP hS (sn_l0 hT.2.2.1.1 (by decide)) hT.2.2.1.2.1 rfl rfl hl.1 rfl (Nat.le_of_ble_eq_true rfl) dX5_run_58 (fun H locs hP hS => ?_)
      refine lv_iadd hx hb dX5_run_61 ?_
      refine lv_istore_n (lv' := [(3, .int (x3 + r3.1)), (0, .ref (g.2.2.2 b)), (1, .int x1), (2, .int x2), (4, .int x4)]) hx hb dX5_run_62 rfl hl (by decide) rfl (fun ls hl => ?_)
      refine lv_iinc (v := (x4 + (1 : Int32))) (lv' := [(4, .int (x4 + (1 : Int32))), (3, .int (x3 + r3.1)), (0, .ref (g.2.2.2 b)), (1, .int x1), (2, .int x2)]) hx hb dX5_run_63 hl (k := 4) rfl rfl (by decide) rfl (fun ls hl => ?_)
      refine lv_goto (tgt := 39) hx hb dX5_run_66 (by decide) ?_
      exact ih (x3 + r3.1) (x4 + (1 : Int32)) r3.2 _ _ _ hd hP hS (lv_sub hl [2, 3, 4, 1, 0] rfl)

set_option maxHeartbeats 4000000 in
set_option maxRecDepth 100000 in
theorem c_X5_run {l : Launch} {g : sn_G} {tb : Nat → sn_K} {N : Nat} (hi : sn_I g N) {b : Nat} {x1 : Int32} {x2 : Int32} (hT : sn_SN tb N b) {st : sn_S} {o : Int32 × sn_S} (hd : D_X5_run b x1 x2 st = some o) : sn_Mi l yX5_run wsX5_run { frames := 6, cells := 0, slots := 0, locals := 138 } g tb N [.ref (g.2.2.2 b), .int x1, .int x2] st o.1 o.2 := by
  refine sn_Mi.of (cc := cX5_run) (nL := 5) (ret := (some .int)) hi (by decide) rfl (Nat.le_of_ble_eq_true rfl) ?_
  intro p e s m args below meth c ls C hP hS hl
  have hl : lv_has ls 5 [(0, .ref (g.2.2.2 b)), (1, .int x1), (2, .int x2)] := hl
  obtain ⟨⟨hx, hb, hml, hown, hts⟩, hr, hlk, hC, hi⟩ := id C
  unfold D_X5_run at hd
  have hinX0 : ∀ w ∈ wsX00, w ∈ wsX5_run := by decide +kernel
  have hinX5 : ∀ w ∈ wsX50, w ∈ wsX5_run := by decide +kernel
  refine lv_iload_n hx hb dX5_run_0 rfl (lv_at hl 1 rfl) ?_
  obtain ⟨r1, hr1, hd⟩ := Option.bind_eq_some_iff.mp hd
  refine sn_Si (rest := []) (As := [.int x1]) (st := st) C (c_X5_isWay hi  hr1) (va_cwS 1 hts gX5_run_X5_isWay rfl rfl rfl (by decide +kernel) ⟨Nat.le_of_ble_eq_true rfl, Nat.le_of_ble_eq_true rfl⟩) hP hS rfl hl.1 rfl (Nat.le_of_ble_eq_true rfl) dX5_run_1 (fun H locs hP hS => ?_)
  refine lv_if_eq (tgt := 18) hx hb dX5_run_4 (by decide) (fun hc => ?_) (fun hc => ?_)
  · replace hd := (if_pos hc).symm.trans hd
    refine lv_bipush (v := (-102 : Int32)) hx hb dX5_run_18 (by decide) ?_
    have ho := Option.some.inj hd
    subst ho
    exact sn_ri C hP hS dX5_run_20
  · replace hd := (if_neg hc).symm.trans hd
    refine lv_iload_n hx hb dX5_run_7 rfl (lv_at hl 2 rfl) ?_
    refine lv_if_lt (tgt := 18) hx hb dX5_run_8 (by decide) (fun hc => ?_) (fun hc => ?_)
    · replace hd := (if_pos hc).symm.trans hd
      refine lv_bipush (v := (-102 : Int32)) hx hb dX5_run_18 (by decide) ?_
      have ho := Option.some.inj hd
      subst ho
      exact sn_ri C hP hS dX5_run_20
    · replace hd := (if_neg hc).symm.trans hd
      refine lv_iload_n hx hb dX5_run_11 rfl (lv_at hl 2 rfl) ?_
      refine lv_sipush (v := (300 : Int32)) hx hb dX5_run_12 (by decide) ?_
      refine lv_icmp_le (tgt := 21) hx hb dX5_run_15 (by decide) (fun hc => ?_) (fun hc => ?_)
      · replace hd := (if_pos hc).symm.trans hd
        refine lv_aload_n hx hb dX5_run_21 rfl (lv_at hl 0 rfl) ?_
        refine sn_get (ci := 4) (Cn := RX5) (T := TX5) (n := 3) (v := .ref (g.2.2.2 (b + 1))) C hinX5 hP b (sn_l0 hT.1 (by decide)) hT.2.1 rfl 0 (by decide) (by decide +kernel) rfl rfl dX5_run_22 ?_
        refine sn_get (ci := 0) (Cn := RX0) (T := TX0) (n := 9) (v := .int (st.1 (b + 1) 3)) C hinX0 hP (b + 1) (sn_l0 hT.2.2.1.1 (by decide)) hT.2.2.1.2.1 rfl 3 (by decide) (by decide +kernel) rfl rfl dX5_run_25 ?_
        refine lv_if_ne (tgt := 34) hx hb dX5_run_28 (by decide) (fun hc => ?_) (fun hc => ?_)
        · replace hd := (if_neg hc).symm.trans hd
          refine lv_iconst (v := (0 : Int32)) hx hb dX5_run_34 (by decide) ?_
          refine lv_istore_n (lv' := [(3, .int (0 : Int32)), (0, .ref (g.2.2.2 b)), (1, .int x1), (2, .int x2)]) hx hb dX5_run_35 rfl hl (by decide) rfl (fun ls hl => ?_)
          refine lv_iconst (v := (0 : Int32)) hx hb dX5_run_36 (by decide) ?_
          refine lv_istore (lv' := [(4, .int (0 : Int32)), (3, .int (0 : Int32)), (0, .ref (g.2.2.2 b)), (1, .int x1), (2, .int x2)]) hx hb dX5_run_37 hl (by decide) rfl (fun ls hl => ?_)
          exact t_X5_run_L39 C hT 4096 (0 : Int32) (0 : Int32) st _ _ _ hd hP hS (lv_sub hl [2, 3, 4, 1, 0] rfl)
        · replace hd := (if_pos hc).symm.trans hd
          refine lv_bipush (v := (-103 : Int32)) hx hb dX5_run_31 (by decide) ?_
          have ho := Option.some.inj hd
          subst ho
          exact sn_ri C hP hS dX5_run_33
      · replace hd := (if_neg hc).symm.trans hd
        refine lv_bipush (v := (-102 : Int32)) hx hb dX5_run_18 (by decide) ?_
        have ho := Option.some.inj hd
        subst ho
        exact sn_ri C hP hS dX5_run_20

set_option maxHeartbeats 4000000 in
set_option maxRecDepth 100000 in
theorem c_X5_dice {l : Launch} {g : sn_G} {tb : Nat → sn_K} {N : Nat} (hi : sn_I g N) {b : Nat} {x1 : Int32} (hT : sn_SN tb N b) {st : sn_S} {o : Int32 × sn_S} (hd : D_X5_dice b x1 st = some o) : sn_Mi l yX5_dice wsX5_dice { frames := 0, cells := 0, slots := 0, locals := 0 } g tb N [.ref (g.2.2.2 b), .int x1] st o.1 o.2 := by
  refine sn_Mi.of (cc := cX5_dice) (nL := 3) (ret := (some .int)) hi (by decide) rfl (Nat.le_of_ble_eq_true rfl) ?_
  intro p e s m args below meth c ls C hP hS hl
  have hl : lv_has ls 3 [(0, .ref (g.2.2.2 b)), (1, .int x1)] := hl
  obtain ⟨⟨hx, hb, hml, hown, hts⟩, hr, hlk, hC, hi⟩ := id C
  unfold D_X5_dice at hd
  have hinX0 : ∀ w ∈ wsX00, w ∈ wsX5_dice := by decide +kernel
  have hinX5 : ∀ w ∈ wsX50, w ∈ wsX5_dice := by decide +kernel
  refine lv_aload_n hx hb dX5_dice_0 rfl (lv_at hl 0 rfl) ?_
  refine sn_get (ci := 4) (Cn := RX5) (T := TX5) (n := 3) (v := .ref (g.2.2.2 (b + 1))) C hinX5 hP b (sn_l0 hT.1 (by decide)) hT.2.1 rfl 0 (by decide) (by decide +kernel) rfl rfl dX5_dice_1 ?_
  refine sn_get (ci := 0) (Cn := RX0) (T := TX0) (n := 9) (v := .int (st.1 (b + 1) 4)) C hinX0 hP (b + 1) (sn_l0 hT.2.2.1.1 (by decide)) hT.2.2.1.2.1 rfl 4 (by decide) (by decide +kernel) rfl rfl dX5_dice_4 ?_
  refine lv_istore_n (lv' := [(2, .int (st.1 (b + 1) 4)), (0, .ref (g.2.2.2 b)), (1, .int x1)]) hx hb dX5_dice_7 rfl hl (by decide) rfl (fun ls hl => ?_)
  refine lv_aload_n hx hb dX5_dice_8 rfl (lv_at hl 1 rfl) ?_
  refine sn_get (ci := 4) (Cn := RX5) (T := TX5) (n := 3) (v := .ref (g.2.2.2 (b + 1))) C hinX5 hP b (sn_l0 hT.1 (by decide)) hT.2.1 rfl 0 (by decide) (by decide +kernel) rfl rfl dX5_dice_9 ?_
  refine lv_iload_n hx hb dX5_dice_12 rfl (lv_at hl 2 rfl) ?_
  refine sn_pf (ci := 0) (Cn := RX0) (T := TX0) (n := 9) (ty0 := tyX0) C hinX0 tyX0_ok nmX0 hP hS (b + 1) (sn_l0 hT.2.2.1.1 (by decide)) hT.2.2.1.2.1 rfl 4 (by decide) (by decide +kernel) rfl rfl rfl rfl rfl dX5_dice_13 (fun H locs hP hS => ?_)
  refine lv_iload_n hx hb dX5_dice_16 rfl (lv_at hl 0 rfl) ?_
  have ho := Option.some.inj hd
  subst ho
  exact sn_ri C hP hS dX5_dice_17

set_option maxHeartbeats 4000000 in
set_option maxRecDepth 100000 in
theorem t_X5_settle_L36 {p : Program} {l : Launch} {e : Env} {s : State} {m : MethodId} {args : Array Value} {below : List Frame} {meth : Method} {c : Code} {g : sn_G} {tb : Nat → sn_K} {N : Nat} {b : Nat} {x1 : Int32} {x2 : Int32} {o : Int32 × sn_S} (C : sn_Cx p s m args meth c g N cX5_settle 4 wsX5_settle yX5_settle.cls (some .int)) (hT : sn_SN tb N b)  : ∀ (n : Nat) (x3 : Int32) (st : sn_S) (H : Heap) (locs : List Loc) (ls : Array Slot), D_X5_settle_L36 b x1 x2 n x3 st = some o → va_P g.1 vwCl (sn_W g tb N st) H → va_S (sn_A g N) s.heap H locs → lv_has ls 4 [(0, .ref (g.2.2.2 b)), (1, .int x1), (2, .int x2), (3, .int x3)] → W p l e { frames := 6, cells := 0, slots := 0, locals := 138 } s m args below meth c H locs 0 0 (MQ below (sn_Qi g tb N o.1 o.2) args s 0 0 (sn_A g N)) (F0 m 36 ls []) := by
  obtain ⟨⟨hx, hb, hml, hown, hts⟩, hr, hlk, hC, hi⟩ := id C
  have hinX0 : ∀ w ∈ wsX00, w ∈ wsX5_settle := by decide +kernel
  have hinX5 : ∀ w ∈ wsX50, w ∈ wsX5_settle := by decide +kernel
  intro n
  induction n with
  | zero => intro _ _ _ _ _ hd; exact nomatch (show (none : Option (Int32 × sn_S)) = some o from hd)
  | succ n ih =>
    intro x3 st H locs ls hd hP hS hl
    replace hd := (D_X5_settle_L36.eq_2 _ _ _ _ _ _).symm.trans hd
    refine lv_iload_n hx hb dX5_settle_36 rfl (lv_at hl 3 rfl) ?_
    refine lv_iload_n hx hb dX5_settle_37 rfl (lv_at hl 2 rfl) ?_
    refine lv_icmp_ge (tgt := 75) hx hb dX5_settle_38 (by decide) (fun hc => ?_) (fun hc => ?_)
    · replace hd := (if_pos hc).symm.trans hd
      refine lv_aload_n hx hb dX5_settle_75 rfl (lv_at hl 0 rfl) ?_
      refine sn_get (ci := 4) (Cn := RX5) (T := TX5) (n := 3) (v := .ref (g.2.2.2 (b + 1))) C hinX5 hP b (sn_l0 hT.1 (by decide)) hT.2.1 rfl 0 (by decide) (by decide +kernel) rfl rfl dX5_settle_76 ?_
      obtain ⟨r2, hr2, hd⟩ := Option.bind_eq_some_iff.mp hd
      refine sn_Vi (b := b + 1) (rest := []) (As := []) (st := st) C (c_X0_isAtRest hi hT.2.2.1 hr2) (cwV 0 hts gX5_settle_X0_isAtRest rfl rfl rfl (by decide +kernel) ⟨Nat.le_of_ble_eq_true rfl, Nat.le_of_ble_eq_true rfl⟩) hP hS (sn_l0 hT.2.2.1.1 (by decide)) hT.2.2.1.2.1 rfl rfl hl.1 rfl (Nat.le_of_ble_eq_true rfl) dX5_settle_79 (fun H locs hP hS => ?_)
      refine lv_if_eq (tgt := 89) hx hb dX5_settle_82 (by decide) (fun hc => ?_) (fun hc => ?_)
      · replace hd := (if_pos hc).symm.trans hd
        refine lv_iconst (v := (-1 : Int32)) hx hb dX5_settle_89 (by decide) ?_
        refine lv_iload_n hx hb dX5_settle_90 rfl (lv_at hl 2 rfl) ?_
        refine lv_isub hx hb dX5_settle_91 ?_
        have ho := Option.some.inj hd
        subst ho
        exact sn_ri C hP hS dX5_settle_92
      · replace hd := (if_neg hc).symm.trans hd
        refine lv_iload_n hx hb dX5_settle_85 rfl (lv_at hl 2 rfl) ?_
        refine lv_goto (tgt := 92) hx hb dX5_settle_86 (by decide) ?_
        have ho := Option.some.inj hd
        subst ho
        exact sn_ri C hP hS dX5_settle_92
    · replace hd := (if_neg hc).symm.trans hd
      refine lv_aload_n hx hb dX5_settle_41 rfl (lv_at hl 0 rfl) ?_
      refine sn_get (ci := 4) (Cn := RX5) (T := TX5) (n := 3) (v := .ref (g.2.2.2 (b + 1))) C hinX5 hP b (sn_l0 hT.1 (by decide)) hT.2.1 rfl 0 (by decide) (by decide +kernel) rfl rfl dX5_settle_42 ?_
      obtain ⟨r3, hr3, hd⟩ := Option.bind_eq_some_iff.mp hd
      refine sn_Vi (b := b + 1) (rest := []) (As := []) (st := st) C (c_X0_isAtRest hi hT.2.2.1 hr3) (cwV 0 hts gX5_settle_X0_isAtRest rfl rfl rfl (by decide +kernel) ⟨Nat.le_of_ble_eq_true rfl, Nat.le_of_ble_eq_true rfl⟩) hP hS (sn_l0 hT.2.2.1.1 (by decide)) hT.2.2.1.2.1 rfl rfl hl.1 rfl (Nat.le_of_ble_eq_true rfl) dX5_settle_45 (fun H locs hP hS => ?_)
      refine lv_if_eq (tgt := 53) hx hb dX5_settle_48 (by decide) (fun hc => ?_) (fun hc => ?_)
      · replace hd := (if_pos hc).symm.trans hd
        refine lv_aload_n hx hb dX5_settle_53 rfl (lv_at hl 0 rfl) ?_
        refine sn_get (ci := 4) (Cn := RX5) (T := TX5) (n := 3) (v := .ref (g.2.2.2 (b + 1))) C hinX5 hP b (sn_l0 hT.1 (by decide)) hT.2.1 rfl 0 (by decide) (by decide +kernel) rfl rfl dX5_settle_54 ?_
        refine lv_aload_n hx hb dX5_settle_57 rfl (lv_at hl 0 rfl) ?_
        refine sn_get (ci := 4) (Cn := RX5) (T := TX5) (n := 3) (v := .ref (g.2.2.2 (b + 1))) C hinX5 hP b (sn_l0 hT.1 (by decide)) hT.2.1 rfl 0 (by decide) (by decide +kernel) rfl rfl dX5_settle_58 ?_
        refine lv_iload_n hx hb dX5_settle_61 rfl (lv_at hl 1 rfl) ?_
        obtain ⟨r4, hr4, hd⟩ := Option.bind_eq_some_iff.mp hd
        refine sn_Vi (b := b + 1) (rest := [.ref (g.2.2.2 (b + 1))]) (As := [.int x1]) (st := st) C (c_X0_choose hi hT.2.2.1 hr4) (cwV 1 hts gX5_settle_X0_choose rfl rfl rfl (by decide +kernel) ⟨Nat.le_of_ble_eq_true rfl, Nat.le_of_ble_eq_true rfl⟩) hP hS (sn_l0 hT.2.2.1.1 (by decide)) hT.2.2.1.2.1 rfl rfl hl.1 rfl (Nat.le_of_ble_eq_true rfl) dX5_settle_62 (fun H locs hP hS => ?_)
        obtain ⟨r5, hr5, hd⟩ := Option.bind_eq_some_iff.mp hd
        refine sn_Vi (b := b + 1) (rest := []) (As := [.int r4.1]) (st := r4.2) C (c_X0_act hi hT.2.2.1 hr5) (cwV 1 hts gX5_settle_X0_act rfl rfl rfl (by decide +kernel) ⟨Nat.le_of_ble_eq_true rfl, Nat.le_of_ble_eq_true rfl⟩) hP hS (sn_l0 hT.2.2.1.1 (by decide)) hT.2.2.1.2.1 rfl rfl hl.1 rfl (Nat.le_of_ble_eq_true rfl) dX5_settle_65 (fun H locs hP hS => ?_)
        refine lv_pop hx hb dX5_settle_68 rfl ?_
        refine lv_iinc (v := (x3 + (1 : Int32))) (lv' := [(3, .int (x3 + (1 : Int32))), (0, .ref (g.2.2.2 b)), (1, .int x1), (2, .int x2)]) hx hb dX5_settle_69 hl (k := 3) rfl rfl (by decide) rfl (fun ls hl => ?_)
        refine lv_goto (tgt := 36) hx hb dX5_settle_72 (by decide) ?_
        exact ih (x3 + (1 : Int32)) r5.2 _ _ _ hd hP hS (lv_sub hl [1, 2, 3, 0] rfl)
      · replace hd := (if_neg hc).symm.trans hd
        refine lv_iload_n hx hb dX5_settle_51 rfl (lv_at hl 3 rfl) ?_
        have ho := Option.some.inj hd
        subst ho
        exact sn_ri C hP hS dX5_settle_52

set_option maxHeartbeats 4000000 in
set_option maxRecDepth 100000 in
theorem c_X5_settle {l : Launch} {g : sn_G} {tb : Nat → sn_K} {N : Nat} (hi : sn_I g N) {b : Nat} {x1 : Int32} {x2 : Int32} (hT : sn_SN tb N b) {st : sn_S} {o : Int32 × sn_S} (hd : D_X5_settle b x1 x2 st = some o) : sn_Mi l yX5_settle wsX5_settle { frames := 6, cells := 0, slots := 0, locals := 138 } g tb N [.ref (g.2.2.2 b), .int x1, .int x2] st o.1 o.2 := by
  refine sn_Mi.of (cc := cX5_settle) (nL := 4) (ret := (some .int)) hi (by decide) rfl (Nat.le_of_ble_eq_true rfl) ?_
  intro p e s m args below meth c ls C hP hS hl
  have hl : lv_has ls 4 [(0, .ref (g.2.2.2 b)), (1, .int x1), (2, .int x2)] := hl
  obtain ⟨⟨hx, hb, hml, hown, hts⟩, hr, hlk, hC, hi⟩ := id C
  unfold D_X5_settle at hd
  have hinX0 : ∀ w ∈ wsX00, w ∈ wsX5_settle := by decide +kernel
  have hinX5 : ∀ w ∈ wsX50, w ∈ wsX5_settle := by decide +kernel
  refine lv_iload_n hx hb dX5_settle_0 rfl (lv_at hl 1 rfl) ?_
  obtain ⟨r1, hr1, hd⟩ := Option.bind_eq_some_iff.mp hd
  refine sn_Si (rest := []) (As := [.int x1]) (st := st) C (c_X5_isWay hi  hr1) (va_cwS 1 hts gX5_settle_X5_isWay rfl rfl rfl (by decide +kernel) ⟨Nat.le_of_ble_eq_true rfl, Nat.le_of_ble_eq_true rfl⟩) hP hS rfl hl.1 rfl (Nat.le_of_ble_eq_true rfl) dX5_settle_1 (fun H locs hP hS => ?_)
  refine lv_if_eq (tgt := 18) hx hb dX5_settle_4 (by decide) (fun hc => ?_) (fun hc => ?_)
  · replace hd := (if_pos hc).symm.trans hd
    refine lv_bipush (v := (-102 : Int32)) hx hb dX5_settle_18 (by decide) ?_
    have ho := Option.some.inj hd
    subst ho
    exact sn_ri C hP hS dX5_settle_20
  · replace hd := (if_neg hc).symm.trans hd
    refine lv_iload_n hx hb dX5_settle_7 rfl (lv_at hl 2 rfl) ?_
    refine lv_if_lt (tgt := 18) hx hb dX5_settle_8 (by decide) (fun hc => ?_) (fun hc => ?_)
    · replace hd := (if_pos hc).symm.trans hd
      refine lv_bipush (v := (-102 : Int32)) hx hb dX5_settle_18 (by decide) ?_
      have ho := Option.some.inj hd
      subst ho
      exact sn_ri C hP hS dX5_settle_20
    · replace hd := (if_neg hc).symm.trans hd
      refine lv_iload_n hx hb dX5_settle_11 rfl (lv_at hl 2 rfl) ?_
      refine lv_sipush (v := (2000 : Int32)) hx hb dX5_settle_12 (by decide) ?_
      refine lv_icmp_le (tgt := 21) hx hb dX5_settle_15 (by decide) (fun hc => ?_) (fun hc => ?_)
      · replace hd := (if_pos hc).symm.trans hd
        refine lv_aload_n hx hb dX5_settle_21 rfl (lv_at hl 0 rfl) ?_
        refine sn_get (ci := 4) (Cn := RX5) (T := TX5) (n := 3) (v := .ref (g.2.2.2 (b + 1))) C hinX5 hP b (sn_l0 hT.1 (by decide)) hT.2.1 rfl 0 (by decide) (by decide +kernel) rfl rfl dX5_settle_22 ?_
        refine sn_get (ci := 0) (Cn := RX0) (T := TX0) (n := 9) (v := .int (st.1 (b + 1) 3)) C hinX0 hP (b + 1) (sn_l0 hT.2.2.1.1 (by decide)) hT.2.2.1.2.1 rfl 3 (by decide) (by decide +kernel) rfl rfl dX5_settle_25 ?_
        refine lv_if_ne (tgt := 34) hx hb dX5_settle_28 (by decide) (fun hc => ?_) (fun hc => ?_)
        · replace hd := (if_neg hc).symm.trans hd
          refine lv_iconst (v := (0 : Int32)) hx hb dX5_settle_34 (by decide) ?_
          refine lv_istore_n (lv' := [(3, .int (0 : Int32)), (0, .ref (g.2.2.2 b)), (1, .int x1), (2, .int x2)]) hx hb dX5_settle_35 rfl hl (by decide) rfl (fun ls hl => ?_)
          exact t_X5_settle_L36 C hT 4096 (0 : Int32) st _ _ _ hd hP hS (lv_sub hl [1, 2, 3, 0] rfl)
        · replace hd := (if_pos hc).symm.trans hd
          refine lv_bipush (v := (-103 : Int32)) hx hb dX5_settle_31 (by decide) ?_
          have ho := Option.some.inj hd
          subst ho
          exact sn_ri C hP hS dX5_settle_33
      · replace hd := (if_neg hc).symm.trans hd
        refine lv_bipush (v := (-102 : Int32)) hx hb dX5_settle_18 (by decide) ?_
        have ho := Option.some.inj hd
        subst ho
        exact sn_ri C hP hS dX5_settle_20

set_option maxHeartbeats 4000000 in
set_option maxRecDepth 100000 in
theorem c_X5_rest {l : Launch} {g : sn_G} {tb : Nat → sn_K} {N : Nat} (hi : sn_I g N) {b : Nat} (hT : sn_SN tb N b) {st : sn_S} {o : Int32} (hd : D_X5_rest b st = some o) : sn_Mi l yX5_rest wsX5_rest { frames := 5, cells := 0, slots := 0, locals := 113 } g tb N [.ref (g.2.2.2 b)] st o st := by
  refine sn_Mi.of (cc := cX5_rest) (nL := 1) (ret := (some .int)) hi (by decide) rfl (Nat.le_of_ble_eq_true rfl) ?_
  intro p e s m args below meth c ls C hP hS hl
  have hl : lv_has ls 1 [(0, .ref (g.2.2.2 b))] := hl
  obtain ⟨⟨hx, hb, hml, hown, hts⟩, hr, hlk, hC, hi⟩ := id C
  unfold D_X5_rest at hd
  have hinX5 : ∀ w ∈ wsX50, w ∈ wsX5_rest := by decide +kernel
  refine lv_aload_n hx hb dX5_rest_0 rfl (lv_at hl 0 rfl) ?_
  refine sn_get (ci := 4) (Cn := RX5) (T := TX5) (n := 3) (v := .ref (g.2.2.2 (b + 1))) C hinX5 hP b (sn_l0 hT.1 (by decide)) hT.2.1 rfl 0 (by decide) (by decide +kernel) rfl rfl dX5_rest_1 ?_
  obtain ⟨r1, hr1, hd⟩ := Option.bind_eq_some_iff.mp hd
  refine sn_Vi (b := b + 1) (rest := []) (As := []) (st := st) C (c_X0_isAtRest hi hT.2.2.1 hr1) (cwV 0 hts gX5_rest_X0_isAtRest rfl rfl rfl (by decide +kernel) ⟨Nat.le_of_ble_eq_true rfl, Nat.le_of_ble_eq_true rfl⟩) hP hS (sn_l0 hT.2.2.1.1 (by decide)) hT.2.2.1.2.1 rfl rfl hl.1 rfl (Nat.le_of_ble_eq_true rfl) dX5_rest_4 (fun H locs hP hS => ?_)
  refine lv_if_eq (tgt := 14) hx hb dX5_rest_7 (by decide) (fun hc => ?_) (fun hc => ?_)
  · replace hd := (if_pos hc).symm.trans hd
    refine lv_iconst (v := (0 : Int32)) hx hb dX5_rest_14 (by decide) ?_
    have ho := Option.some.inj hd
    subst ho
    exact sn_ri C hP hS dX5_rest_15
  · replace hd := (if_neg hc).symm.trans hd
    refine lv_iconst (v := (1 : Int32)) hx hb dX5_rest_10 (by decide) ?_
    refine lv_goto (tgt := 15) hx hb dX5_rest_11 (by decide) ?_
    have ho := Option.some.inj hd
    subst ho
    exact sn_ri C hP hS dX5_rest_15

set_option maxHeartbeats 4000000 in
set_option maxRecDepth 100000 in
theorem c_X5_distance {l : Launch} {g : sn_G} {tb : Nat → sn_K} {N : Nat} (hi : sn_I g N) {b : Nat} {x1 : Int32} (hT : sn_SN tb N b) {st : sn_S} {o : Int32} (hd : D_X5_distance b x1 st = some o) : sn_Mi l yX5_distance wsX5_distance { frames := 1, cells := 0, slots := 0, locals := 21 } g tb N [.ref (g.2.2.2 b), .int x1] st o st := by
  refine sn_Mi.of (cc := cX5_distance) (nL := 2) (ret := (some .int)) hi (by decide) rfl (Nat.le_of_ble_eq_true rfl) ?_
  intro p e s m args below meth c ls C hP hS hl
  have hl : lv_has ls 2 [(0, .ref (g.2.2.2 b)), (1, .int x1)] := hl
  obtain ⟨⟨hx, hb, hml, hown, hts⟩, hr, hlk, hC, hi⟩ := id C
  unfold D_X5_distance at hd
  have hinX0 : ∀ w ∈ wsX00, w ∈ wsX5_distance := by decide +kernel
  have hinX5 : ∀ w ∈ wsX50, w ∈ wsX5_distance := by decide +kernel
  have hinX3 : ∀ w ∈ wsX30, w ∈ wsX5_distance := by decide +kernel
  refine lv_aload_n hx hb dX5_distance_0 rfl (lv_at hl 0 rfl) ?_
  refine sn_get (ci := 4) (Cn := RX5) (T := TX5) (n := 3) (v := .ref (g.2.2.2 (b + 1))) C hinX5 hP b (sn_l0 hT.1 (by decide)) hT.2.1 rfl 0 (by decide) (by decide +kernel) rfl rfl dX5_distance_1 ?_
  refine sn_get (ci := 0) (Cn := RX0) (T := TX0) (n := 9) (v := .ref (g.2.2.2 (b + 1 + 1))) C hinX0 hP (b + 1) (sn_l0 hT.2.2.1.1 (by decide)) hT.2.2.1.2.1 rfl 0 (by decide) (by decide +kernel) rfl rfl dX5_distance_4 ?_
  refine lv_iload_n hx hb dX5_distance_7 rfl (lv_at hl 1 rfl) ?_
  obtain ⟨r1, hr1, hd⟩ := Option.bind_eq_some_iff.mp hd
  refine sn_Vi (b := b + 1 + 1) (rest := []) (As := [.int x1]) (st := st) C (c_X3_isNode hi hT.2.2.1.2.2.1 hr1) (cwV 1 hts gX5_distance_X3_isNode rfl rfl rfl (by decide +kernel) ⟨Nat.le_of_ble_eq_true rfl, Nat.le_of_ble_eq_true rfl⟩) hP hS (sn_l0 hT.2.2.1.2.2.1.1 (by decide)) hT.2.2.1.2.2.1.2.1 rfl rfl hl.1 rfl (Nat.le_of_ble_eq_true rfl) dX5_distance_8 (fun H locs hP hS => ?_)
  refine lv_if_eq (tgt := 29) hx hb dX5_distance_11 (by decide) (fun hc => ?_) (fun hc => ?_)
  · replace hd := (if_pos hc).symm.trans hd
    refine lv_bipush (v := (-101 : Int32)) hx hb dX5_distance_29 (by decide) ?_
    have ho := Option.some.inj hd
    subst ho
    exact sn_ri C hP hS dX5_distance_31
  · replace hd := (if_neg hc).symm.trans hd
    refine lv_aload_n hx hb dX5_distance_14 rfl (lv_at hl 0 rfl) ?_
    refine sn_get (ci := 4) (Cn := RX5) (T := TX5) (n := 3) (v := .ref (g.2.2.2 (b + 1))) C hinX5 hP b (sn_l0 hT.1 (by decide)) hT.2.1 rfl 0 (by decide) (by decide +kernel) rfl rfl dX5_distance_15 ?_
    refine sn_get (ci := 0) (Cn := RX0) (T := TX0) (n := 9) (v := .ref (g.2.2.2 (b + 1 + 1))) C hinX0 hP (b + 1) (sn_l0 hT.2.2.1.1 (by decide)) hT.2.2.1.2.1 rfl 0 (by decide) (by decide +kernel) rfl rfl dX5_distance_18 ?_
    refine sn_get (ci := 2) (Cn := RX3) (T := TX3) (n := 3) (v := .ref (g.2.2.2 (b + 1 + 1 + 2))) C hinX3 hP (b + 1 + 1) (sn_l0 hT.2.2.1.2.2.1.1 (by decide)) hT.2.2.1.2.2.1.2.1 rfl 2 (by decide) (by decide +kernel) rfl rfl dX5_distance_21 ?_
    refine lv_iload_n hx hb dX5_distance_24 rfl (lv_at hl 1 rfl) ?_
    refine sn_ald C hP (b + 1 + 1 + 2) (sn_l hT.2.2.1.2.2.1.1 (by decide)) hT.2.2.1.2.2.1.2.2.2 hd dX5_distance_25 (fun k2 hk2 hd => ?_)
    refine lv_goto (tgt := 31) hx hb dX5_distance_26 (by decide) ?_
    have ho := Option.some.inj hd
    subst ho
    exact sn_ri C hP hS dX5_distance_31

set_option maxHeartbeats 4000000 in
set_option maxRecDepth 100000 in
theorem c_X5_wave {l : Launch} {g : sn_G} {tb : Nat → sn_K} {N : Nat} (hi : sn_I g N) {b : Nat} (hT : sn_SN tb N b) {st : sn_S} {o : Int32 × sn_S} (hd : D_X5_wave b st = some o) : sn_Mi l yX5_wave wsX5_wave { frames := 0, cells := 0, slots := 0, locals := 0 } g tb N [.ref (g.2.2.2 b)] st o.1 o.2 := by
  refine sn_Mi.of (cc := cX5_wave) (nL := 1) (ret := (some .int)) hi (by decide) rfl (Nat.le_of_ble_eq_true rfl) ?_
  intro p e s m args below meth c ls C hP hS hl
  have hl : lv_has ls 1 [(0, .ref (g.2.2.2 b))] := hl
  obtain ⟨⟨hx, hb, hml, hown, hts⟩, hr, hlk, hC, hi⟩ := id C
  unfold D_X5_wave at hd
  have hinX0 : ∀ w ∈ wsX00, w ∈ wsX5_wave := by decide +kernel
  have hinX5 : ∀ w ∈ wsX50, w ∈ wsX5_wave := by decide +kernel
  have hinX4 : ∀ w ∈ wsX40, w ∈ wsX5_wave := by decide +kernel
  refine lv_aload_n hx hb dX5_wave_0 rfl (lv_at hl 0 rfl) ?_
  refine sn_get (ci := 4) (Cn := RX5) (T := TX5) (n := 3) (v := .ref (g.2.2.2 (b + 1))) C hinX5 hP b (sn_l0 hT.1 (by decide)) hT.2.1 rfl 0 (by decide) (by decide +kernel) rfl rfl dX5_wave_1 ?_
  refine lv_aload_n hx hb dX5_wave_4 rfl (lv_at hl 0 rfl) ?_
  refine sn_get (ci := 4) (Cn := RX5) (T := TX5) (n := 3) (v := .ref (g.2.2.2 (b + 1))) C hinX5 hP b (sn_l0 hT.1 (by decide)) hT.2.1 rfl 0 (by decide) (by decide +kernel) rfl rfl dX5_wave_5 ?_
  refine sn_get (ci := 0) (Cn := RX0) (T := TX0) (n := 9) (v := .ref (g.2.2.2 (b + 1 + 33))) C hinX0 hP (b + 1) (sn_l0 hT.2.2.1.1 (by decide)) hT.2.2.1.2.1 rfl 2 (by decide) (by decide +kernel) rfl rfl dX5_wave_8 ?_
  refine sn_get (ci := 3) (Cn := RX4) (T := TX4) (n := 6) (v := .int (st.1 (b + 1 + 33) 3)) C hinX4 hP (b + 1 + 33) (sn_l0 hT.2.2.1.2.2.2.2.1 (by decide)) hT.2.2.1.2.2.2.2.2.1 rfl 3 (by decide) (by decide +kernel) rfl rfl dX5_wave_11 ?_
  refine sn_pf (ci := 0) (Cn := RX0) (T := TX0) (n := 9) (ty0 := tyX0) C hinX0 tyX0_ok nmX0 hP hS (b + 1) (sn_l0 hT.2.2.1.1 (by decide)) hT.2.2.1.2.1 rfl 5 (by decide) (by decide +kernel) rfl rfl rfl rfl rfl dX5_wave_14 (fun H locs hP hS => ?_)
  refine lv_aload_n hx hb dX5_wave_17 rfl (lv_at hl 0 rfl) ?_
  refine sn_get (ci := 4) (Cn := RX5) (T := TX5) (n := 3) (v := .ref (g.2.2.2 (b + 1))) C hinX5 hP b (sn_l0 hT.1 (by decide)) hT.2.1 rfl 0 (by decide) (by decide +kernel) rfl rfl dX5_wave_18 ?_
  refine sn_get (ci := 0) (Cn := RX0) (T := TX0) (n := 9) (v := .ref (g.2.2.2 (b + 1 + 33))) C hinX0 hP (b + 1) (sn_l0 hT.2.2.1.1 (by decide)) hT.2.2.1.2.1 rfl 2 (by decide) (by decide +kernel) rfl rfl dX5_wave_21 ?_
  refine sn_get (ci := 3) (Cn := RX4) (T := TX4) (n := 6) (v := .int ((sn_wr st (b + 1) 5 (st.1 (b + 1 + 33) 3)).1 (b + 1 + 33) 2)) C hinX4 hP (b + 1 + 33) (sn_l0 hT.2.2.1.2.2.2.2.1 (by decide)) hT.2.2.1.2.2.2.2.2.1 rfl 2 (by decide) (by decide +kernel) rfl rfl dX5_wave_24 ?_
  have ho := Option.some.inj hd
  subst ho
  exact sn_ri C hP hS dX5_wave_27

set_option maxHeartbeats 4000000 in
set_option maxRecDepth 100000 in
theorem c_X5_entries {l : Launch} {g : sn_G} {tb : Nat → sn_K} {N : Nat} (hi : sn_I g N) {b : Nat} {x1 : Int32} (hT : sn_SN tb N b) {st : sn_S} {o : Int32} (hd : D_X5_entries b x1 st = some o) : sn_Mi l yX5_entries wsX5_entries { frames := 1, cells := 0, slots := 0, locals := 21 } g tb N [.ref (g.2.2.2 b), .int x1] st o st := by
  refine sn_Mi.of (cc := cX5_entries) (nL := 2) (ret := (some .int)) hi (by decide) rfl (Nat.le_of_ble_eq_true rfl) ?_
  intro p e s m args below meth c ls C hP hS hl
  have hl : lv_has ls 2 [(0, .ref (g.2.2.2 b)), (1, .int x1)] := hl
  obtain ⟨⟨hx, hb, hml, hown, hts⟩, hr, hlk, hC, hi⟩ := id C
  unfold D_X5_entries at hd
  have hinX0 : ∀ w ∈ wsX00, w ∈ wsX5_entries := by decide +kernel
  have hinX5 : ∀ w ∈ wsX50, w ∈ wsX5_entries := by decide +kernel
  have hinX4 : ∀ w ∈ wsX40, w ∈ wsX5_entries := by decide +kernel
  refine lv_aload_n hx hb dX5_entries_0 rfl (lv_at hl 0 rfl) ?_
  refine sn_get (ci := 4) (Cn := RX5) (T := TX5) (n := 3) (v := .ref (g.2.2.2 (b + 1))) C hinX5 hP b (sn_l0 hT.1 (by decide)) hT.2.1 rfl 0 (by decide) (by decide +kernel) rfl rfl dX5_entries_1 ?_
  refine sn_get (ci := 0) (Cn := RX0) (T := TX0) (n := 9) (v := .ref (g.2.2.2 (b + 1 + 1))) C hinX0 hP (b + 1) (sn_l0 hT.2.2.1.1 (by decide)) hT.2.2.1.2.1 rfl 0 (by decide) (by decide +kernel) rfl rfl dX5_entries_4 ?_
  refine lv_iload_n hx hb dX5_entries_7 rfl (lv_at hl 1 rfl) ?_
  obtain ⟨r1, hr1, hd⟩ := Option.bind_eq_some_iff.mp hd
  refine sn_Vi (b := b + 1 + 1) (rest := []) (As := [.int x1]) (st := st) C (c_X3_isNode hi hT.2.2.1.2.2.1 hr1) (cwV 1 hts gX5_entries_X3_isNode rfl rfl rfl (by decide +kernel) ⟨Nat.le_of_ble_eq_true rfl, Nat.le_of_ble_eq_true rfl⟩) hP hS (sn_l0 hT.2.2.1.2.2.1.1 (by decide)) hT.2.2.1.2.2.1.2.1 rfl rfl hl.1 rfl (Nat.le_of_ble_eq_true rfl) dX5_entries_8 (fun H locs hP hS => ?_)
  refine lv_if_eq (tgt := 29) hx hb dX5_entries_11 (by decide) (fun hc => ?_) (fun hc => ?_)
  · replace hd := (if_pos hc).symm.trans hd
    refine lv_bipush (v := (-101 : Int32)) hx hb dX5_entries_29 (by decide) ?_
    have ho := Option.some.inj hd
    subst ho
    exact sn_ri C hP hS dX5_entries_31
  · replace hd := (if_neg hc).symm.trans hd
    refine lv_aload_n hx hb dX5_entries_14 rfl (lv_at hl 0 rfl) ?_
    refine sn_get (ci := 4) (Cn := RX5) (T := TX5) (n := 3) (v := .ref (g.2.2.2 (b + 1))) C hinX5 hP b (sn_l0 hT.1 (by decide)) hT.2.1 rfl 0 (by decide) (by decide +kernel) rfl rfl dX5_entries_15 ?_
    refine sn_get (ci := 0) (Cn := RX0) (T := TX0) (n := 9) (v := .ref (g.2.2.2 (b + 1 + 33))) C hinX0 hP (b + 1) (sn_l0 hT.2.2.1.1 (by decide)) hT.2.2.1.2.1 rfl 2 (by decide) (by decide +kernel) rfl rfl dX5_entries_18 ?_
    refine sn_get (ci := 3) (Cn := RX4) (T := TX4) (n := 6) (v := .ref (g.2.2.2 (b + 1 + 33 + 2))) C hinX4 hP (b + 1 + 33) (sn_l0 hT.2.2.1.2.2.2.2.1 (by decide)) hT.2.2.1.2.2.2.2.2.1 rfl 5 (by decide) (by decide +kernel) rfl rfl dX5_entries_21 ?_
    refine lv_iload_n hx hb dX5_entries_24 rfl (lv_at hl 1 rfl) ?_
    refine sn_ald C hP (b + 1 + 33 + 2) (sn_l hT.2.2.1.2.2.2.2.1 (by decide)) hT.2.2.1.2.2.2.2.2.2.2 hd dX5_entries_25 (fun k2 hk2 hd => ?_)
    refine lv_goto (tgt := 31) hx hb dX5_entries_26 (by decide) ?_
    have ho := Option.some.inj hd
    subst ho
    exact sn_ri C hP hS dX5_entries_31

set_option maxHeartbeats 4000000 in
set_option maxRecDepth 100000 in
theorem c_X5_count {l : Launch} {g : sn_G} {tb : Nat → sn_K} {N : Nat} (hi : sn_I g N) {b : Nat} {x1 : Int32} (hT : sn_SN tb N b) {st : sn_S} {o : Int32} (hd : D_X5_count b x1 st = some o) : sn_Mi l yX5_count wsX5_count { frames := 2, cells := 0, slots := 0, locals := 42 } g tb N [.ref (g.2.2.2 b), .int x1] st o st := by
  refine sn_Mi.of (cc := cX5_count) (nL := 2) (ret := (some .int)) hi (by decide) rfl (Nat.le_of_ble_eq_true rfl) ?_
  intro p e s m args below meth c ls C hP hS hl
  have hl : lv_has ls 2 [(0, .ref (g.2.2.2 b)), (1, .int x1)] := hl
  obtain ⟨⟨hx, hb, hml, hown, hts⟩, hr, hlk, hC, hi⟩ := id C
  unfold D_X5_count at hd
  have hinX0 : ∀ w ∈ wsX00, w ∈ wsX5_count := by decide +kernel
  have hinX5 : ∀ w ∈ wsX50, w ∈ wsX5_count := by decide +kernel
  have hinX3 : ∀ w ∈ wsX30, w ∈ wsX5_count := by decide +kernel
  have hinX4 : ∀ w ∈ wsX40, w ∈ wsX5_count := by decide +kernel
  refine lv_iload_n hx hb dX5_count_0 rfl (lv_at hl 1 rfl) ?_
  by_cases hs1_0 : x1 = (0 : Int32)
  · replace hd := (if_pos hs1_0).symm.trans hd
    refine lv_tableIn (off := 51) (tgt := 52) hx hb dX5_count_1 (by rw [hs1_0]; decide) (by rw [hs1_0]; decide) (by rw [hs1_0]; rfl) (by decide) ?_
    refine lv_aload_n hx hb dX5_count_52 rfl (lv_at hl 0 rfl) ?_
    refine sn_get (ci := 4) (Cn := RX5) (T := TX5) (n := 3) (v := .ref (g.2.2.2 (b + 1))) C hinX5 hP b (sn_l0 hT.1 (by decide)) hT.2.1 rfl 0 (by decide) (by decide +kernel) rfl rfl dX5_count_53 ?_
    refine sn_get (ci := 0) (Cn := RX0) (T := TX0) (n := 9) (v := .ref (g.2.2.2 (b + 1 + 1))) C hinX0 hP (b + 1) (sn_l0 hT.2.2.1.1 (by decide)) hT.2.2.1.2.1 rfl 0 (by decide) (by decide +kernel) rfl rfl dX5_count_56 ?_
    refine sn_get (ci := 2) (Cn := RX3) (T := TX3) (n := 3) (v := .int (st.1 (b + 1 + 1) 0)) C hinX3 hP (b + 1 + 1) (sn_l0 hT.2.2.1.2.2.1.1 (by decide)) hT.2.2.1.2.2.1.2.1 rfl 0 (by decide) (by decide +kernel) rfl rfl dX5_count_59 ?_
    have ho := Option.some.inj hd
    subst ho
    exact sn_ri C hP hS dX5_count_62
  replace hd := (if_neg hs1_0).symm.trans hd
  by_cases hs1_1 : x1 = (1 : Int32)
  · replace hd := (if_pos hs1_1).symm.trans hd
    refine lv_tableIn (off := 62) (tgt := 63) hx hb dX5_count_1 (by rw [hs1_1]; decide) (by rw [hs1_1]; decide) (by rw [hs1_1]; rfl) (by decide) ?_
    refine lv_aload_n hx hb dX5_count_63 rfl (lv_at hl 0 rfl) ?_
    refine sn_get (ci := 4) (Cn := RX5) (T := TX5) (n := 3) (v := .ref (g.2.2.2 (b + 1))) C hinX5 hP b (sn_l0 hT.1 (by decide)) hT.2.1 rfl 0 (by decide) (by decide +kernel) rfl rfl dX5_count_64 ?_
    refine sn_get (ci := 0) (Cn := RX0) (T := TX0) (n := 9) (v := .ref (g.2.2.2 (b + 1 + 1))) C hinX0 hP (b + 1) (sn_l0 hT.2.2.1.1 (by decide)) hT.2.2.1.2.1 rfl 0 (by decide) (by decide +kernel) rfl rfl dX5_count_67 ?_
    obtain ⟨r1, hr1, hd⟩ := Option.bind_eq_some_iff.mp hd
    refine sn_Vi (b := b + 1 + 1) (rest := []) (As := []) (st := st) C (c_X3_linkCount hi hT.2.2.1.2.2.1 hr1) (cwV 0 hts gX5_count_X3_linkCount rfl rfl rfl (by decide +kernel) ⟨Nat.le_of_ble_eq_true rfl, Nat.le_of_ble_eq_true rfl⟩) hP hS (sn_l0 hT.2.2.1.2.2.1.1 (by decide)) hT.2.2.1.2.2.1.2.1 rfl rfl hl.1 rfl (Nat.le_of_ble_eq_true rfl) dX5_count_70 (fun H locs hP hS => ?_)
    have ho := Option.some.inj hd
    subst ho
    exact sn_ri C hP hS dX5_count_73
  replace hd := (if_neg hs1_1).symm.trans hd
  by_cases hs1_2 : x1 = (2 : Int32)
  · replace hd := (if_pos hs1_2).symm.trans hd
    refine lv_tableIn (off := 73) (tgt := 74) hx hb dX5_count_1 (by rw [hs1_2]; decide) (by rw [hs1_2]; decide) (by rw [hs1_2]; rfl) (by decide) ?_
    refine lv_aload_n hx hb dX5_count_74 rfl (lv_at hl 0 rfl) ?_
    refine sn_get (ci := 4) (Cn := RX5) (T := TX5) (n := 3) (v := .ref (g.2.2.2 (b + 1))) C hinX5 hP b (sn_l0 hT.1 (by decide)) hT.2.1 rfl 0 (by decide) (by decide +kernel) rfl rfl dX5_count_75 ?_
    refine sn_get (ci := 0) (Cn := RX0) (T := TX0) (n := 9) (v := .ref (g.2.2.2 (b + 1 + 33))) C hinX0 hP (b + 1) (sn_l0 hT.2.2.1.1 (by decide)) hT.2.2.1.2.1 rfl 2 (by decide) (by decide +kernel) rfl rfl dX5_count_78 ?_
    refine sn_get (ci := 3) (Cn := RX4) (T := TX4) (n := 6) (v := .int (st.1 (b + 1 + 33) 0)) C hinX4 hP (b + 1 + 33) (sn_l0 hT.2.2.1.2.2.2.2.1 (by decide)) hT.2.2.1.2.2.2.2.2.1 rfl 0 (by decide) (by decide +kernel) rfl rfl dX5_count_81 ?_
    have ho := Option.some.inj hd
    subst ho
    exact sn_ri C hP hS dX5_count_84
  replace hd := (if_neg hs1_2).symm.trans hd
  by_cases hs1_3 : x1 = (3 : Int32)
  · replace hd := (if_pos hs1_3).symm.trans hd
    refine lv_tableIn (off := 84) (tgt := 85) hx hb dX5_count_1 (by rw [hs1_3]; decide) (by rw [hs1_3]; decide) (by rw [hs1_3]; rfl) (by decide) ?_
    refine lv_aload_n hx hb dX5_count_85 rfl (lv_at hl 0 rfl) ?_
    refine sn_get (ci := 4) (Cn := RX5) (T := TX5) (n := 3) (v := .ref (g.2.2.2 (b + 1))) C hinX5 hP b (sn_l0 hT.1 (by decide)) hT.2.1 rfl 0 (by decide) (by decide +kernel) rfl rfl dX5_count_86 ?_
    refine sn_get (ci := 0) (Cn := RX0) (T := TX0) (n := 9) (v := .ref (g.2.2.2 (b + 1 + 33))) C hinX0 hP (b + 1) (sn_l0 hT.2.2.1.1 (by decide)) hT.2.2.1.2.1 rfl 2 (by decide) (by decide +kernel) rfl rfl dX5_count_89 ?_
    refine sn_get (ci := 3) (Cn := RX4) (T := TX4) (n := 6) (v := .int (st.1 (b + 1 + 33) 1)) C hinX4 hP (b + 1 + 33) (sn_l0 hT.2.2.1.2.2.2.2.1 (by decide)) hT.2.2.1.2.2.2.2.2.1 rfl 1 (by decide) (by decide +kernel) rfl rfl dX5_count_92 ?_
    have ho := Option.some.inj hd
    subst ho
    exact sn_ri C hP hS dX5_count_95
  replace hd := (if_neg hs1_3).symm.trans hd
  by_cases hs1_4 : x1 = (4 : Int32)
  · replace hd := (if_pos hs1_4).symm.trans hd
    refine lv_tableIn (off := 95) (tgt := 96) hx hb dX5_count_1 (by rw [hs1_4]; decide) (by rw [hs1_4]; decide) (by rw [hs1_4]; rfl) (by decide) ?_
    refine lv_aload_n hx hb dX5_count_96 rfl (lv_at hl 0 rfl) ?_
    refine sn_get (ci := 4) (Cn := RX5) (T := TX5) (n := 3) (v := .ref (g.2.2.2 (b + 1))) C hinX5 hP b (sn_l0 hT.1 (by decide)) hT.2.1 rfl 0 (by decide) (by decide +kernel) rfl rfl dX5_count_97 ?_
    refine sn_get (ci := 0) (Cn := RX0) (T := TX0) (n := 9) (v := .int (st.1 (b + 1) 3)) C hinX0 hP (b + 1) (sn_l0 hT.2.2.1.1 (by decide)) hT.2.2.1.2.1 rfl 3 (by decide) (by decide +kernel) rfl rfl dX5_count_100 ?_
    refine lv_if_eq (tgt := 110) hx hb dX5_count_103 (by decide) (fun hc => ?_) (fun hc => ?_)
    · replace hd := (if_pos hc).symm.trans hd
      refine lv_iconst (v := (0 : Int32)) hx hb dX5_count_110 (by decide) ?_
      have ho := Option.some.inj hd
      subst ho
      exact sn_ri C hP hS dX5_count_111
    · replace hd := (if_neg hc).symm.trans hd
      refine lv_iconst (v := (1 : Int32)) hx hb dX5_count_106 (by decide) ?_
      refine lv_goto (tgt := 111) hx hb dX5_count_107 (by decide) ?_
      have ho := Option.some.inj hd
      subst ho
      exact sn_ri C hP hS dX5_count_111
  replace hd := (if_neg hs1_4).symm.trans hd
  by_cases hs1_5 : x1 = (5 : Int32)
  · replace hd := (if_pos hs1_5).symm.trans hd
    refine lv_tableIn (off := 111) (tgt := 112) hx hb dX5_count_1 (by rw [hs1_5]; decide) (by rw [hs1_5]; decide) (by rw [hs1_5]; rfl) (by decide) ?_
    refine lv_aload_n hx hb dX5_count_112 rfl (lv_at hl 0 rfl) ?_
    refine sn_get (ci := 4) (Cn := RX5) (T := TX5) (n := 3) (v := .ref (g.2.2.2 (b + 1))) C hinX5 hP b (sn_l0 hT.1 (by decide)) hT.2.1 rfl 0 (by decide) (by decide +kernel) rfl rfl dX5_count_113 ?_
    refine sn_get (ci := 0) (Cn := RX0) (T := TX0) (n := 9) (v := .ref (g.2.2.2 (b + 1 + 33))) C hinX0 hP (b + 1) (sn_l0 hT.2.2.1.1 (by decide)) hT.2.2.1.2.1 rfl 2 (by decide) (by decide +kernel) rfl rfl dX5_count_116 ?_
    refine sn_get (ci := 3) (Cn := RX4) (T := TX4) (n := 6) (v := .ref (g.2.2.2 (b + 1 + 33 + 1))) C hinX4 hP (b + 1 + 33) (sn_l0 hT.2.2.1.2.2.2.2.1 (by decide)) hT.2.2.1.2.2.2.2.2.1 rfl 4 (by decide) (by decide +kernel) rfl rfl dX5_count_119 ?_
    refine lv_iconst (v := (0 : Int32)) hx hb dX5_count_122 (by decide) ?_
    refine sn_aldc (k := 0) C hP (b + 1 + 33 + 1) (sn_l hT.2.2.1.2.2.2.2.1 (by decide)) hT.2.2.1.2.2.2.2.2.2.1 (by decide +kernel) dX5_count_123 ?_
    have ho := Option.some.inj hd
    subst ho
    exact sn_ri C hP hS dX5_count_124
  replace hd := (if_neg hs1_5).symm.trans hd
  by_cases hs1_6 : x1 = (6 : Int32)
  · replace hd := (if_pos hs1_6).symm.trans hd
    refine lv_tableIn (off := 124) (tgt := 125) hx hb dX5_count_1 (by rw [hs1_6]; decide) (by rw [hs1_6]; decide) (by rw [hs1_6]; rfl) (by decide) ?_
    refine lv_aload_n hx hb dX5_count_125 rfl (lv_at hl 0 rfl) ?_
    refine sn_get (ci := 4) (Cn := RX5) (T := TX5) (n := 3) (v := .ref (g.2.2.2 (b + 1))) C hinX5 hP b (sn_l0 hT.1 (by decide)) hT.2.1 rfl 0 (by decide) (by decide +kernel) rfl rfl dX5_count_126 ?_
    refine sn_get (ci := 0) (Cn := RX0) (T := TX0) (n := 9) (v := .ref (g.2.2.2 (b + 1 + 33))) C hinX0 hP (b + 1) (sn_l0 hT.2.2.1.1 (by decide)) hT.2.2.1.2.1 rfl 2 (by decide) (by decide +kernel) rfl rfl dX5_count_129 ?_
    refine sn_get (ci := 3) (Cn := RX4) (T := TX4) (n := 6) (v := .ref (g.2.2.2 (b + 1 + 33 + 1))) C hinX4 hP (b + 1 + 33) (sn_l0 hT.2.2.1.2.2.2.2.1 (by decide)) hT.2.2.1.2.2.2.2.2.1 rfl 4 (by decide) (by decide +kernel) rfl rfl dX5_count_132 ?_
    refine lv_iconst (v := (1 : Int32)) hx hb dX5_count_135 (by decide) ?_
    refine sn_aldc (k := 1) C hP (b + 1 + 33 + 1) (sn_l hT.2.2.1.2.2.2.2.1 (by decide)) hT.2.2.1.2.2.2.2.2.2.1 (by decide +kernel) dX5_count_136 ?_
    have ho := Option.some.inj hd
    subst ho
    exact sn_ri C hP hS dX5_count_137
  replace hd := (if_neg hs1_6).symm.trans hd
  by_cases hs1_7 : x1 = (7 : Int32)
  · replace hd := (if_pos hs1_7).symm.trans hd
    refine lv_tableIn (off := 137) (tgt := 138) hx hb dX5_count_1 (by rw [hs1_7]; decide) (by rw [hs1_7]; decide) (by rw [hs1_7]; rfl) (by decide) ?_
    refine lv_aload_n hx hb dX5_count_138 rfl (lv_at hl 0 rfl) ?_
    refine sn_get (ci := 4) (Cn := RX5) (T := TX5) (n := 3) (v := .ref (g.2.2.2 (b + 1))) C hinX5 hP b (sn_l0 hT.1 (by decide)) hT.2.1 rfl 0 (by decide) (by decide +kernel) rfl rfl dX5_count_139 ?_
    refine sn_get (ci := 0) (Cn := RX0) (T := TX0) (n := 9) (v := .ref (g.2.2.2 (b + 1 + 33))) C hinX0 hP (b + 1) (sn_l0 hT.2.2.1.1 (by decide)) hT.2.2.1.2.1 rfl 2 (by decide) (by decide +kernel) rfl rfl dX5_count_142 ?_
    refine sn_get (ci := 3) (Cn := RX4) (T := TX4) (n := 6) (v := .ref (g.2.2.2 (b + 1 + 33 + 1))) C hinX4 hP (b + 1 + 33) (sn_l0 hT.2.2.1.2.2.2.2.1 (by decide)) hT.2.2.1.2.2.2.2.2.1 rfl 4 (by decide) (by decide +kernel) rfl rfl dX5_count_145 ?_
    refine lv_iconst (v := (2 : Int32)) hx hb dX5_count_148 (by decide) ?_
    refine sn_aldc (k := 2) C hP (b + 1 + 33 + 1) (sn_l hT.2.2.1.2.2.2.2.1 (by decide)) hT.2.2.1.2.2.2.2.2.2.1 (by decide +kernel) dX5_count_149 ?_
    have ho := Option.some.inj hd
    subst ho
    exact sn_ri C hP hS dX5_count_150
  replace hd := (if_neg hs1_7).symm.trans hd
  by_cases hs1_8 : x1 = (8 : Int32)
  · replace hd := (if_pos hs1_8).symm.trans hd
    refine lv_tableIn (off := 150) (tgt := 151) hx hb dX5_count_1 (by rw [hs1_8]; decide) (by rw [hs1_8]; decide) (by rw [hs1_8]; rfl) (by decide) ?_
    refine lv_aload_n hx hb dX5_count_151 rfl (lv_at hl 0 rfl) ?_
    refine sn_get (ci := 4) (Cn := RX5) (T := TX5) (n := 3) (v := .ref (g.2.2.2 (b + 1))) C hinX5 hP b (sn_l0 hT.1 (by decide)) hT.2.1 rfl 0 (by decide) (by decide +kernel) rfl rfl dX5_count_152 ?_
    refine sn_get (ci := 0) (Cn := RX0) (T := TX0) (n := 9) (v := .ref (g.2.2.2 (b + 1 + 33))) C hinX0 hP (b + 1) (sn_l0 hT.2.2.1.1 (by decide)) hT.2.2.1.2.1 rfl 2 (by decide) (by decide +kernel) rfl rfl dX5_count_155 ?_
    refine sn_get (ci := 3) (Cn := RX4) (T := TX4) (n := 6) (v := .ref (g.2.2.2 (b + 1 + 33 + 1))) C hinX4 hP (b + 1 + 33) (sn_l0 hT.2.2.1.2.2.2.2.1 (by decide)) hT.2.2.1.2.2.2.2.2.1 rfl 4 (by decide) (by decide +kernel) rfl rfl dX5_count_158 ?_
    refine lv_iconst (v := (3 : Int32)) hx hb dX5_count_161 (by decide) ?_
    refine sn_aldc (k := 3) C hP (b + 1 + 33 + 1) (sn_l hT.2.2.1.2.2.2.2.1 (by decide)) hT.2.2.1.2.2.2.2.2.2.1 (by decide +kernel) dX5_count_162 ?_
    have ho := Option.some.inj hd
    subst ho
    exact sn_ri C hP hS dX5_count_163
  replace hd := (if_neg hs1_8).symm.trans hd
  refine lv_tableOut (tgt := 164) hx hb dX5_count_1 (by have q0 := lv_neT (a := 0) hs1_0 (by decide); have q1 := lv_neT (a := 1) hs1_1 (by decide); have q2 := lv_neT (a := 2) hs1_2 (by decide); have q3 := lv_neT (a := 3) hs1_3 (by decide); have q4 := lv_neT (a := 4) hs1_4 (by decide); have q5 := lv_neT (a := 5) hs1_5 (by decide); have q6 := lv_neT (a := 6) hs1_6 (by decide); have q7 := lv_neT (a := 7) hs1_7 (by decide); have q8 := lv_neT (a := 8) hs1_8 (by decide); omega) (by decide) ?_
  refine lv_bipush (v := (-102 : Int32)) hx hb dX5_count_164 (by decide) ?_
  have ho := Option.some.inj hd
  subst ho
  exact sn_ri C hP hS dX5_count_166

set_option maxHeartbeats 4000000 in
set_option maxRecDepth 100000 in
theorem c_X5_keep {l : Launch} {g : sn_G} {tb : Nat → sn_K} {N : Nat} (hi : sn_I g N) {b : Nat} (hT : sn_SN tb N b) {st : sn_S} {o : Int32 × sn_S} (hd : D_X5_keep b st = some o) : sn_Mi l yX5_keep wsX5_keep { frames := 3, cells := 0, slots := 0, locals := 103 } g tb N [.ref (g.2.2.2 b)] st o.1 o.2 := by
  refine sn_Mi.of (cc := cX5_keep) (nL := 1) (ret := (some .int)) hi (by decide) rfl (Nat.le_of_ble_eq_true rfl) ?_
  intro p e s m args below meth c ls C hP hS hl
  have hl : lv_has ls 1 [(0, .ref (g.2.2.2 b))] := hl
  obtain ⟨⟨hx, hb, hml, hown, hts⟩, hr, hlk, hC, hi⟩ := id C
  unfold D_X5_keep at hd
  have hinX5 : ∀ w ∈ wsX50, w ∈ wsX5_keep := by decide +kernel
  refine lv_aload_n hx hb dX5_keep_0 rfl (lv_at hl 0 rfl) ?_
  refine sn_get (ci := 4) (Cn := RX5) (T := TX5) (n := 3) (v := .ref (g.2.2.2 (b + 37))) C hinX5 hP b (sn_l0 hT.1 (by decide)) hT.2.1 rfl 1 (by decide) (by decide +kernel) rfl rfl dX5_keep_1 ?_
  refine lv_aload_n hx hb dX5_keep_4 rfl (lv_at hl 0 rfl) ?_
  refine sn_get (ci := 4) (Cn := RX5) (T := TX5) (n := 3) (v := .ref (g.2.2.2 (b + 1))) C hinX5 hP b (sn_l0 hT.1 (by decide)) hT.2.1 rfl 0 (by decide) (by decide +kernel) rfl rfl dX5_keep_5 ?_
  obtain ⟨r1, hr1, hd⟩ := Option.bind_eq_some_iff.mp hd
  refine sn_Vv (b := b + 37) (rest := []) (As := [.ref (g.2.2.2 (b + 1))]) (st := st) C (c_X0_copyFrom hi hT.2.2.2 hT.2.2.1 hr1) (cwV 1 hts gX5_keep_X0_copyFrom rfl rfl rfl (by decide +kernel) ⟨Nat.le_of_ble_eq_true rfl, Nat.le_of_ble_eq_true rfl⟩) hP hS (sn_l0 hT.2.2.2.1 (by decide)) hT.2.2.2.2.1 rfl rfl hl.1 rfl (Nat.le_of_ble_eq_true rfl) dX5_keep_8 (fun H locs hP hS => ?_)
  refine lv_aload_n hx hb dX5_keep_11 rfl (lv_at hl 0 rfl) ?_
  refine lv_iconst (v := (1 : Int32)) hx hb dX5_keep_12 (by decide) ?_
  refine sn_pf (ci := 4) (Cn := RX5) (T := TX5) (n := 3) (ty0 := tyX5) C hinX5 tyX5_ok nmX5 hP hS b (sn_l0 hT.1 (by decide)) hT.2.1 rfl 2 (by decide) (by decide +kernel) rfl rfl rfl rfl rfl dX5_keep_13 (fun H locs hP hS => ?_)
  refine lv_iconst (v := (1 : Int32)) hx hb dX5_keep_16 (by decide) ?_
  have ho := Option.some.inj hd
  subst ho
  exact sn_ri C hP hS dX5_keep_17

set_option maxHeartbeats 4000000 in
set_option maxRecDepth 100000 in
theorem c_X5_back {l : Launch} {g : sn_G} {tb : Nat → sn_K} {N : Nat} (hi : sn_I g N) {b : Nat} (hT : sn_SN tb N b) {st : sn_S} {o : Int32 × sn_S} (hd : D_X5_back b st = some o) : sn_Mi l yX5_back wsX5_back { frames := 3, cells := 0, slots := 0, locals := 103 } g tb N [.ref (g.2.2.2 b)] st o.1 o.2 := by
  refine sn_Mi.of (cc := cX5_back) (nL := 1) (ret := (some .int)) hi (by decide) rfl (Nat.le_of_ble_eq_true rfl) ?_
  intro p e s m args below meth c ls C hP hS hl
  have hl : lv_has ls 1 [(0, .ref (g.2.2.2 b))] := hl
  obtain ⟨⟨hx, hb, hml, hown, hts⟩, hr, hlk, hC, hi⟩ := id C
  unfold D_X5_back at hd
  have hinX5 : ∀ w ∈ wsX50, w ∈ wsX5_back := by decide +kernel
  refine lv_aload_n hx hb dX5_back_0 rfl (lv_at hl 0 rfl) ?_
  refine sn_get (ci := 4) (Cn := RX5) (T := TX5) (n := 3) (v := .int (st.1 b 2)) C hinX5 hP b (sn_l0 hT.1 (by decide)) hT.2.1 rfl 2 (by decide) (by decide +kernel) rfl rfl dX5_back_1 ?_
  refine lv_if_ne (tgt := 10) hx hb dX5_back_4 (by decide) (fun hc => ?_) (fun hc => ?_)
  · replace hd := (if_neg hc).symm.trans hd
    refine lv_aload_n hx hb dX5_back_10 rfl (lv_at hl 0 rfl) ?_
    refine sn_get (ci := 4) (Cn := RX5) (T := TX5) (n := 3) (v := .ref (g.2.2.2 (b + 1))) C hinX5 hP b (sn_l0 hT.1 (by decide)) hT.2.1 rfl 0 (by decide) (by decide +kernel) rfl rfl dX5_back_11 ?_
    refine lv_aload_n hx hb dX5_back_14 rfl (lv_at hl 0 rfl) ?_
    refine sn_get (ci := 4) (Cn := RX5) (T := TX5) (n := 3) (v := .ref (g.2.2.2 (b + 37))) C hinX5 hP b (sn_l0 hT.1 (by decide)) hT.2.1 rfl 1 (by decide) (by decide +kernel) rfl rfl dX5_back_15 ?_
    obtain ⟨r1, hr1, hd⟩ := Option.bind_eq_some_iff.mp hd
    refine sn_Vv (b := b + 1) (rest := []) (As := [.ref (g.2.2.2 (b + 37))]) (st := st) C (c_X0_copyFrom hi hT.2.2.1 hT.2.2.2 hr1) (cwV 1 hts gX5_back_X0_copyFrom rfl rfl rfl (by decide +kernel) ⟨Nat.le_of_ble_eq_true rfl, Nat.le_of_ble_eq_true rfl⟩) hP hS (sn_l0 hT.2.2.1.1 (by decide)) hT.2.2.1.2.1 rfl rfl hl.1 rfl (Nat.le_of_ble_eq_true rfl) dX5_back_18 (fun H locs hP hS => ?_)
    refine lv_iconst (v := (1 : Int32)) hx hb dX5_back_21 (by decide) ?_
    have ho := Option.some.inj hd
    subst ho
    exact sn_ri C hP hS dX5_back_22
  · replace hd := (if_pos hc).symm.trans hd
    refine lv_bipush (v := (-103 : Int32)) hx hb dX5_back_7 (by decide) ?_
    have ho := Option.some.inj hd
    subst ho
    exact sn_ri C hP hS dX5_back_9

set_option maxHeartbeats 4000000 in
set_option maxRecDepth 100000 in
theorem t_X5_mixNode_L47 {p : Program} {l : Launch} {e : Env} {s : State} {m : MethodId} {args : Array Value} {below : List Frame} {meth : Method} {c : Code} {g : sn_G} {tb : Nat → sn_K} {N : Nat} {b : Nat} {kr4 : Nat} {j1 : Int64} {x3 : Int32} {st : sn_S} {o : Int64} (C : sn_Cx p s m args meth c g N cX5_mixNode 8 wsX5_mixNode yX5_mixNode.cls (some .long)) (hT : sn_SN tb N b) (hkr4 : kr4 < 12) : ∀ (n : Nat) (j5 : Int64) (x7 : Int32) (H : Heap) (locs : List Loc) (ls : Array Slot), D_X5_mixNode_L47 b kr4 j1 x3 st n j5 x7 = some o → va_P g.1 vwCl (sn_W g tb N st) H → va_S (sn_A g N) s.heap H locs → lv_has ls 8 [(0, .ref (g.2.2.2 b)), (1, .long j1), (3, .int x3), (4, .ref (g.2.2.2 (b + 1 + 4 + 1 + 1 + kr4))), (5, .long j5), (7, .int x7)] → W p l e { frames := 1, cells := 0, slots := 0, locals := 22 } s m args below meth c H locs 0 0 (MQ below (sn_Ql g tb N o st) args s 0 0 (sn_A g N)) (F0 m 47 ls []) := by
  obtain ⟨⟨hx, hb, hml, hown, hts⟩, hr, hlk, hC, hi⟩ := id C
  have hinX0 : ∀ w ∈ wsX00, w ∈ wsX5_mixNode := by decide +kernel
  have hinX1 : ∀ w ∈ wsX10, w ∈ wsX5_mixNode := by decide +kernel
  have hinX5 : ∀ w ∈ wsX50, w ∈ wsX5_mixNode := by decide +kernel
  have hinX3 : ∀ w ∈ wsX30, w ∈ wsX5_mixNode := by decide +kernel
  have hinX4 : ∀ w ∈ wsX40, w ∈ wsX5_mixNode := by decide +kernel
  intro n
  induction n with
  | zero => intro _ _ _ _ _ hd; exact nomatch (show (none : Option (Int64)) = some o from hd)
  | succ n ih =>
    intro j5 x7 H locs ls hd hP hS hl
    replace hd := (D_X5_mixNode_L47.eq_2 _ _ _ _ _ _ _ _).symm.trans hd
    refine lv_iload hx hb dX5_mixNode_47 (lv_at hl 5 rfl) ?_
    refine lv_aload_n hx hb dX5_mixNode_49 rfl (lv_at hl 0 rfl) ?_
    refine sn_get (ci := 4) (Cn := RX5) (T := TX5) (n := 3) (v := .ref (g.2.2.2 (b + 1))) C hinX5 hP b (sn_l0 hT.1 (by decide)) hT.2.1 rfl 0 (by decide) (by decide +kernel) rfl rfl dX5_mixNode_50 ?_
    refine sn_get (ci := 0) (Cn := RX0) (T := TX0) (n := 9) (v := .ref (g.2.2.2 (b + 1 + 1))) C hinX0 hP (b + 1) (sn_l0 hT.2.2.1.1 (by decide)) hT.2.2.1.2.1 rfl 0 (by decide) (by decide +kernel) rfl rfl dX5_mixNode_53 ?_
    refine sn_get (ci := 2) (Cn := RX3) (T := TX3) (n := 3) (v := .int (st.1 (b + 1 + 1) 0)) C hinX3 hP (b + 1 + 1) (sn_l0 hT.2.2.1.2.2.1.1 (by decide)) hT.2.2.1.2.2.1.2.1 rfl 0 (by decide) (by decide +kernel) rfl rfl dX5_mixNode_56 ?_
    refine lv_icmp_ge (tgt := 107) hx hb dX5_mixNode_59 (by decide) (fun hc => ?_) (fun hc => ?_)
    · replace hd := (if_pos hc).symm.trans hd
      refine lv_lload hx hb dX5_mixNode_107 (lv_at hl 4 rfl) ?_
      refine lv_aload_n hx hb dX5_mixNode_109 rfl (lv_at hl 0 rfl) ?_
      refine sn_get (ci := 4) (Cn := RX5) (T := TX5) (n := 3) (v := .ref (g.2.2.2 (b + 1))) C hinX5 hP b (sn_l0 hT.1 (by decide)) hT.2.1 rfl 0 (by decide) (by decide +kernel) rfl rfl dX5_mixNode_110 ?_
      refine sn_get (ci := 0) (Cn := RX0) (T := TX0) (n := 9) (v := .ref (g.2.2.2 (b + 1 + 33))) C hinX0 hP (b + 1) (sn_l0 hT.2.2.1.1 (by decide)) hT.2.2.1.2.1 rfl 2 (by decide) (by decide +kernel) rfl rfl dX5_mixNode_113 ?_
      refine sn_get (ci := 3) (Cn := RX4) (T := TX4) (n := 6) (v := .ref (g.2.2.2 (b + 1 + 33 + 2))) C hinX4 hP (b + 1 + 33) (sn_l0 hT.2.2.1.2.2.2.2.1 (by decide)) hT.2.2.1.2.2.2.2.2.1 rfl 5 (by decide) (by decide +kernel) rfl rfl dX5_mixNode_116 ?_
      refine lv_iload_n hx hb dX5_mixNode_119 rfl (lv_at hl 2 rfl) ?_
      refine sn_ald C hP (b + 1 + 33 + 2) (sn_l hT.2.2.1.2.2.2.2.1 (by decide)) hT.2.2.1.2.2.2.2.2.2.2 hd dX5_mixNode_120 (fun k2 hk2 hd => ?_)
      obtain ⟨r3, hr3, hd⟩ := Option.bind_eq_some_iff.mp hd
      refine sn_Sl (rest := []) (As := [.long j5, .int (st.1 (b + 1 + 33 + 2) k2)]) (st := st) C (c_X5_mix hi  hr3) (va_cwS 2 hts gX5_mixNode_X5_mix rfl rfl rfl (by decide +kernel) ⟨Nat.le_of_ble_eq_true rfl, Nat.le_of_ble_eq_true rfl⟩) hP hS rfl hl.1 rfl (Nat.le_of_ble_eq_true rfl) dX5_mixNode_121 (fun H locs hP hS => ?_)
      have ho := Option.some.inj hd
      subst ho
      exact sn_rl C hP hS dX5_mixNode_124
    · replace hd := (if_neg hc).symm.trans hd
      refine lv_aload_n hx hb dX5_mixNode_62 rfl (lv_at hl 0 rfl) ?_
      refine sn_get (ci := 4) (Cn := RX5) (T := TX5) (n := 3) (v := .ref (g.2.2.2 (b + 1))) C hinX5 hP b (sn_l0 hT.1 (by decide)) hT.2.1 rfl 0 (by decide) (by decide +kernel) rfl rfl dX5_mixNode_63 ?_
      refine sn_get (ci := 0) (Cn := RX0) (T := TX0) (n := 9) (v := .ref (g.2.2.2 (b + 1 + 1))) C hinX0 hP (b + 1) (sn_l0 hT.2.2.1.1 (by decide)) hT.2.2.1.2.1 rfl 0 (by decide) (by decide +kernel) rfl rfl dX5_mixNode_66 ?_
      refine sn_get (ci := 2) (Cn := RX3) (T := TX3) (n := 3) (v := .ref (g.2.2.2 (b + 1 + 1 + 1))) C hinX3 hP (b + 1 + 1) (sn_l0 hT.2.2.1.2.2.1.1 (by decide)) hT.2.2.1.2.2.1.2.1 rfl 1 (by decide) (by decide +kernel) rfl rfl dX5_mixNode_69 ?_
      refine lv_iload_n hx hb dX5_mixNode_72 rfl (lv_at hl 2 rfl) ?_
      refine sn_ald C hP (b + 1 + 1 + 1) (sn_l hT.2.2.1.2.2.1.1 (by decide)) hT.2.2.1.2.2.1.2.2.1 hd dX5_mixNode_73 (fun k4 hk4 hd => ?_)
      refine lv_iload hx hb dX5_mixNode_74 (lv_at hl 5 rfl) ?_
      obtain ⟨r5, hr5, hd⟩ := Option.bind_eq_some_iff.mp hd
      refine sn_Si (rest := []) (As := [.int (st.1 (b + 1 + 1 + 1) k4), .int x7]) (st := st) C (c_X5_has hi  hr5) (va_cwS 2 hts gX5_mixNode_X5_has rfl rfl rfl (by decide +kernel) ⟨Nat.le_of_ble_eq_true rfl, Nat.le_of_ble_eq_true rfl⟩) hP hS rfl hl.1 rfl (Nat.le_of_ble_eq_true rfl) dX5_mixNode_76 (fun H locs hP hS => ?_)
      refine lv_if_eq (tgt := 101) hx hb dX5_mixNode_79 (by decide) (fun hc => ?_) (fun hc => ?_)
      · replace hd := (if_pos hc).symm.trans hd
        refine lv_iinc (v := (x7 + (1 : Int32))) (lv' := [(7, .int (x7 + (1 : Int32))), (0, .ref (g.2.2.2 b)), (1, .long j1), (3, .int x3), (4, .ref (g.2.2.2 (b + 1 + 4 + 1 + 1 + kr4))), (5, .long j5)]) hx hb dX5_mixNode_101 hl (k := 5) rfl rfl (by decide) rfl (fun ls hl => ?_)
        refine lv_goto (tgt := 47) hx hb dX5_mixNode_104 (by decide) ?_
        exact ih j5 (x7 + (1 : Int32)) _ _ _ hd hP hS (lv_sub hl [1, 2, 3, 4, 5, 0] rfl)
      · replace hd := (if_neg hc).symm.trans hd
        refine lv_lload hx hb dX5_mixNode_82 (lv_at hl 4 rfl) ?_
        refine lv_iload hx hb dX5_mixNode_84 (lv_at hl 5 rfl) ?_
        obtain ⟨r6, hr6, hd⟩ := Option.bind_eq_some_iff.mp hd
        refine sn_Sl (rest := []) (As := [.long j5, .int x7]) (st := st) C (c_X5_mix hi  hr6) (va_cwS 2 hts gX5_mixNode_X5_mix rfl rfl rfl (by decide +kernel) ⟨Nat.le_of_ble_eq_true rfl, Nat.le_of_ble_eq_true rfl⟩) hP hS rfl hl.1 rfl (Nat.le_of_ble_eq_true rfl) dX5_mixNode_86 (fun H locs hP hS => ?_)
        refine lv_aload hx hb dX5_mixNode_89 (lv_at hl 3 rfl) ?_
        refine lv_iconst (v := (5 : Int32)) hx hb dX5_mixNode_91 (by decide) ?_
        refine lv_iload hx hb dX5_mixNode_92 (lv_at hl 5 rfl) ?_
        refine lv_iadd hx hb dX5_mixNode_94 ?_
        refine sn_ald C hP (b + 1 + 4 + 1 + 1 + kr4) (hT.2.2.1.2.2.2.1.2.2.2.1 kr4 hkr4).2 (hT.2.2.1.2.2.2.1.2.2.2.1 kr4 hkr4).1 hd dX5_mixNode_95 (fun k7 hk7 hd => ?_)
        obtain ⟨r8, hr8, hd⟩ := Option.bind_eq_some_iff.mp hd
        refine sn_Sl (rest := []) (As := [.long r6, .int (st.1 (b + 1 + 4 + 1 + 1 + kr4) k7)]) (st := st) C (c_X5_mix hi  hr8) (va_cwS 2 hts gX5_mixNode_X5_mix rfl rfl rfl (by decide +kernel) ⟨Nat.le_of_ble_eq_true rfl, Nat.le_of_ble_eq_true rfl⟩) hP hS rfl hl.1 rfl (Nat.le_of_ble_eq_true rfl) dX5_mixNode_96 (fun H locs hP hS => ?_)
        refine lv_lstore (lv' := [(5, .long r8), (0, .ref (g.2.2.2 b)), (1, .long j1), (3, .int x3), (4, .ref (g.2.2.2 (b + 1 + 4 + 1 + 1 + kr4))), (7, .int x7)]) hx hb dX5_mixNode_99 hl (by decide) rfl (fun ls hl => ?_)
        refine lv_iinc (v := (x7 + (1 : Int32))) (lv' := [(7, .int (x7 + (1 : Int32))), (5, .long r8), (0, .ref (g.2.2.2 b)), (1, .long j1), (3, .int x3), (4, .ref (g.2.2.2 (b + 1 + 4 + 1 + 1 + kr4)))]) hx hb dX5_mixNode_101 hl (k := 5) rfl rfl (by decide) rfl (fun ls hl => ?_)
        refine lv_goto (tgt := 47) hx hb dX5_mixNode_104 (by decide) ?_
        exact ih r8 (x7 + (1 : Int32)) _ _ _ hd hP hS (lv_sub hl [2, 3, 4, 5, 1, 0] rfl)

set_option maxHeartbeats 4000000 in
set_option maxRecDepth 100000 in
theorem t_X5_mixNode_L20 {p : Program} {l : Launch} {e : Env} {s : State} {m : MethodId} {args : Array Value} {below : List Frame} {meth : Method} {c : Code} {g : sn_G} {tb : Nat → sn_K} {N : Nat} {b : Nat} {kr4 : Nat} {j1 : Int64} {x3 : Int32} {st : sn_S} {o : Int64} (C : sn_Cx p s m args meth c g N cX5_mixNode 8 wsX5_mixNode yX5_mixNode.cls (some .long)) (hT : sn_SN tb N b) (hkr4 : kr4 < 12) : ∀ (n : Nat) (j5 : Int64) (x7 : Int32) (H : Heap) (locs : List Loc) (ls : Array Slot), D_X5_mixNode_L20 b kr4 j1 x3 st n j5 x7 = some o → va_P g.1 vwCl (sn_W g tb N st) H → va_S (sn_A g N) s.heap H locs → lv_has ls 8 [(0, .ref (g.2.2.2 b)), (1, .long j1), (3, .int x3), (4, .ref (g.2.2.2 (b + 1 + 4 + 1 + 1 + kr4))), (5, .long j5), (7, .int x7)] → W p l e { frames := 1, cells := 0, slots := 0, locals := 22 } s m args below meth c H locs 0 0 (MQ below (sn_Ql g tb N o st) args s 0 0 (sn_A g N)) (F0 m 20 ls []) := by
  obtain ⟨⟨hx, hb, hml, hown, hts⟩, hr, hlk, hC, hi⟩ := id C
  have hinX0 : ∀ w ∈ wsX00, w ∈ wsX5_mixNode := by decide +kernel
  have hinX1 : ∀ w ∈ wsX10, w ∈ wsX5_mixNode := by decide +kernel
  have hinX5 : ∀ w ∈ wsX50, w ∈ wsX5_mixNode := by decide +kernel
  have hinX3 : ∀ w ∈ wsX30, w ∈ wsX5_mixNode := by decide +kernel
  have hinX4 : ∀ w ∈ wsX40, w ∈ wsX5_mixNode := by decide +kernel
  intro n
  induction n with
  | zero => intro _ _ _ _ _ hd; exact nomatch (show (none : Option (Int64)) = some o from hd)
  | succ n ih =>
    intro j5 x7 H locs ls hd hP hS hl
    replace hd := (D_X5_mixNode_L20.eq_2 _ _ _ _ _ _ _ _).symm.trans hd
    refine lv_iload hx hb dX5_mixNode_20 (lv_at hl 5 rfl) ?_
    refine lv_iconst (v := (5 : Int32)) hx hb dX5_mixNode_22 (by decide) ?_
    refine lv_icmp_ge (tgt := 44) hx hb dX5_mixNode_23 (by decide) (fun hc => ?_) (fun hc => ?_)
    · replace hd := (if_pos hc).symm.trans hd
      refine lv_iconst (v := (0 : Int32)) hx hb dX5_mixNode_44 (by decide) ?_
      refine lv_istore (lv' := [(7, .int (0 : Int32)), (0, .ref (g.2.2.2 b)), (1, .long j1), (3, .int x3), (4, .ref (g.2.2.2 (b + 1 + 4 + 1 + 1 + kr4))), (5, .long j5)]) hx hb dX5_mixNode_45 hl (by decide) rfl (fun ls hl => ?_)
      exact t_X5_mixNode_L47 (st := st) C hT hkr4 4096 j5 (0 : Int32) _ _ _ hd hP hS (lv_sub hl [1, 2, 3, 4, 5, 0] rfl)
    · replace hd := (if_neg hc).symm.trans hd
      refine lv_lload hx hb dX5_mixNode_26 (lv_at hl 4 rfl) ?_
      refine lv_aload hx hb dX5_mixNode_28 (lv_at hl 3 rfl) ?_
      refine lv_iload hx hb dX5_mixNode_30 (lv_at hl 5 rfl) ?_
      refine sn_ald C hP (b + 1 + 4 + 1 + 1 + kr4) (hT.2.2.1.2.2.2.1.2.2.2.1 kr4 hkr4).2 (hT.2.2.1.2.2.2.1.2.2.2.1 kr4 hkr4).1 hd dX5_mixNode_32 (fun k9 hk9 hd => ?_)
      obtain ⟨r10, hr10, hd⟩ := Option.bind_eq_some_iff.mp hd
      refine sn_Sl (rest := []) (As := [.long j5, .int (st.1 (b + 1 + 4 + 1 + 1 + kr4) k9)]) (st := st) C (c_X5_mix hi  hr10) (va_cwS 2 hts gX5_mixNode_X5_mix rfl rfl rfl (by decide +kernel) ⟨Nat.le_of_ble_eq_true rfl, Nat.le_of_ble_eq_true rfl⟩) hP hS rfl hl.1 rfl (Nat.le_of_ble_eq_true rfl) dX5_mixNode_33 (fun H locs hP hS => ?_)
      refine lv_lstore (lv' := [(5, .long r10), (0, .ref (g.2.2.2 b)), (1, .long j1), (3, .int x3), (4, .ref (g.2.2.2 (b + 1 + 4 + 1 + 1 + kr4))), (7, .int x7)]) hx hb dX5_mixNode_36 hl (by decide) rfl (fun ls hl => ?_)
      refine lv_iinc (v := (x7 + (1 : Int32))) (lv' := [(7, .int (x7 + (1 : Int32))), (5, .long r10), (0, .ref (g.2.2.2 b)), (1, .long j1), (3, .int x3), (4, .ref (g.2.2.2 (b + 1 + 4 + 1 + 1 + kr4)))]) hx hb dX5_mixNode_38 hl (k := 5) rfl rfl (by decide) rfl (fun ls hl => ?_)
      refine lv_goto (tgt := 20) hx hb dX5_mixNode_41 (by decide) ?_
      exact ih r10 (x7 + (1 : Int32)) _ _ _ hd hP hS (lv_sub hl [2, 3, 4, 5, 1, 0] rfl)

set_option maxHeartbeats 4000000 in
set_option maxRecDepth 100000 in
theorem c_X5_mixNode {l : Launch} {g : sn_G} {tb : Nat → sn_K} {N : Nat} (hi : sn_I g N) {b : Nat} {j1 : Int64} {x3 : Int32} (hT : sn_SN tb N b) {st : sn_S} {o : Int64} (hd : D_X5_mixNode b j1 x3 st = some o) : sn_Ml l yX5_mixNode wsX5_mixNode { frames := 1, cells := 0, slots := 0, locals := 22 } g tb N [.ref (g.2.2.2 b), .long j1, .int x3] st o st := by
  refine sn_Ml.of (cc := cX5_mixNode) (nL := 8) (ret := (some .long)) hi (by decide) rfl (Nat.le_of_ble_eq_true rfl) ?_
  intro p e s m args below meth c ls C hP hS hl
  have hl : lv_has ls 8 [(0, .ref (g.2.2.2 b)), (1, .long j1), (3, .int x3)] := hl
  obtain ⟨⟨hx, hb, hml, hown, hts⟩, hr, hlk, hC, hi⟩ := id C
  unfold D_X5_mixNode at hd
  have hinX0 : ∀ w ∈ wsX00, w ∈ wsX5_mixNode := by decide +kernel
  have hinX1 : ∀ w ∈ wsX10, w ∈ wsX5_mixNode := by decide +kernel
  have hinX5 : ∀ w ∈ wsX50, w ∈ wsX5_mixNode := by decide +kernel
  have hinX3 : ∀ w ∈ wsX30, w ∈ wsX5_mixNode := by decide +kernel
  have hinX4 : ∀ w ∈ wsX40, w ∈ wsX5_mixNode := by decide +kernel
  refine lv_aload_n hx hb dX5_mixNode_0 rfl (lv_at hl 0 rfl) ?_
  refine sn_get (ci := 4) (Cn := RX5) (T := TX5) (n := 3) (v := .ref (g.2.2.2 (b + 1))) C hinX5 hP b (sn_l0 hT.1 (by decide)) hT.2.1 rfl 0 (by decide) (by decide +kernel) rfl rfl dX5_mixNode_1 ?_
  refine sn_get (ci := 0) (Cn := RX0) (T := TX0) (n := 9) (v := .ref (g.2.2.2 (b + 1 + 4))) C hinX0 hP (b + 1) (sn_l0 hT.2.2.1.1 (by decide)) hT.2.2.1.2.1 rfl 1 (by decide) (by decide +kernel) rfl rfl dX5_mixNode_4 ?_
  refine sn_get (ci := 1) (Cn := RX1) (T := TX1) (n := 4) (v := .ref (g.2.2.2 (b + 1 + 4 + 1))) C hinX1 hP (b + 1 + 4) (sn_l0 hT.2.2.1.2.2.2.1.1 (by decide)) hT.2.2.1.2.2.2.1.2.1 rfl 0 (by decide) (by decide +kernel) rfl rfl dX5_mixNode_7 ?_
  refine lv_iload_n hx hb dX5_mixNode_10 rfl (lv_at hl 2 rfl) ?_
  refine sn_aald C hP (b + 1 + 4 + 1) (sn_l hT.2.2.1.2.2.2.1.1 (by decide)) hT.2.2.1.2.2.2.1.2.2.1 hd dX5_mixNode_11 (fun k1 hk1 hd => ?_)
  refine lv_astore (lv' := [(4, .ref (g.2.2.2 (b + 1 + 4 + 1 + 1 + k1))), (0, .ref (g.2.2.2 b)), (1, .long j1), (3, .int x3)]) hx hb dX5_mixNode_12 hl (by decide) rfl (fun ls hl => ?_)
  refine lv_lload_n hx hb dX5_mixNode_14 rfl (lv_at hl 2 rfl) ?_
  refine lv_lstore (lv' := [(5, .long j1), (4, .ref (g.2.2.2 (b + 1 + 4 + 1 + 1 + k1))), (0, .ref (g.2.2.2 b)), (1, .long j1), (3, .int x3)]) hx hb dX5_mixNode_15 hl (by decide) rfl (fun ls hl => ?_)
  refine lv_iconst (v := (0 : Int32)) hx hb dX5_mixNode_17 (by decide) ?_
  refine lv_istore (lv' := [(7, .int (0 : Int32)), (5, .long j1), (4, .ref (g.2.2.2 (b + 1 + 4 + 1 + 1 + k1))), (0, .ref (g.2.2.2 b)), (1, .long j1), (3, .int x3)]) hx hb dX5_mixNode_18 hl (by decide) rfl (fun ls hl => ?_)
  exact t_X5_mixNode_L20 (st := st) C hT hk1 4096 j1 (0 : Int32) _ _ _ hd hP hS (lv_sub hl [3, 4, 5, 2, 1, 0] rfl)

set_option maxHeartbeats 4000000 in
set_option maxRecDepth 100000 in
theorem t_X5_digest_L37 {p : Program} {l : Launch} {e : Env} {s : State} {m : MethodId} {args : Array Value} {below : List Frame} {meth : Method} {c : Code} {g : sn_G} {tb : Nat → sn_K} {N : Nat} {b : Nat} {st : sn_S} {o : Int64} (C : sn_Cx p s m args meth c g N cX5_digest 4 wsX5_digest yX5_digest.cls (some .long)) (hT : sn_SN tb N b)  : ∀ (n : Nat) (j1 : Int64) (x3 : Int32) (H : Heap) (locs : List Loc) (ls : Array Slot), D_X5_digest_L37 b st n j1 x3 = some o → va_P g.1 vwCl (sn_W g tb N st) H → va_S (sn_A g N) s.heap H locs → lv_has ls 4 [(0, .ref (g.2.2.2 b)), (1, .long j1), (3, .int x3)] → W p l e { frames := 2, cells := 0, slots := 0, locals := 49 } s m args below meth c H locs 0 0 (MQ below (sn_Ql g tb N o st) args s 0 0 (sn_A g N)) (F0 m 37 ls []) := by
  obtain ⟨⟨hx, hb, hml, hown, hts⟩, hr, hlk, hC, hi⟩ := id C
  have hinX0 : ∀ w ∈ wsX00, w ∈ wsX5_digest := by decide +kernel
  have hinX5 : ∀ w ∈ wsX50, w ∈ wsX5_digest := by decide +kernel
  have hinX3 : ∀ w ∈ wsX30, w ∈ wsX5_digest := by decide +kernel
  intro n
  induction n with
  | zero => intro _ _ _ _ _ hd; exact nomatch (show (none : Option (Int64)) = some o from hd)
  | succ n ih =>
    intro j1 x3 H locs ls hd hP hS hl
    replace hd := (D_X5_digest_L37.eq_2 _ _ _ _ _).symm.trans hd
    refine lv_iload_n hx hb dX5_digest_37 rfl (lv_at hl 2 rfl) ?_
    refine lv_aload_n hx hb dX5_digest_38 rfl (lv_at hl 0 rfl) ?_
    refine sn_get (ci := 4) (Cn := RX5) (T := TX5) (n := 3) (v := .ref (g.2.2.2 (b + 1))) C hinX5 hP b (sn_l0 hT.1 (by decide)) hT.2.1 rfl 0 (by decide) (by decide +kernel) rfl rfl dX5_digest_39 ?_
    refine sn_get (ci := 0) (Cn := RX0) (T := TX0) (n := 9) (v := .ref (g.2.2.2 (b + 1 + 1))) C hinX0 hP (b + 1) (sn_l0 hT.2.2.1.1 (by decide)) hT.2.2.1.2.1 rfl 0 (by decide) (by decide +kernel) rfl rfl dX5_digest_42 ?_
    refine sn_get (ci := 2) (Cn := RX3) (T := TX3) (n := 3) (v := .int (st.1 (b + 1 + 1) 0)) C hinX3 hP (b + 1 + 1) (sn_l0 hT.2.2.1.2.2.1.1 (by decide)) hT.2.2.1.2.2.1.2.1 rfl 0 (by decide) (by decide +kernel) rfl rfl dX5_digest_45 ?_
    refine lv_icmp_ge (tgt := 64) hx hb dX5_digest_48 (by decide) (fun hc => ?_) (fun hc => ?_)
    · replace hd := (if_pos hc).symm.trans hd
      refine lv_lload_n hx hb dX5_digest_64 rfl (lv_at hl 1 rfl) ?_
      refine lv_aload_n hx hb dX5_digest_65 rfl (lv_at hl 0 rfl) ?_
      refine sn_get (ci := 4) (Cn := RX5) (T := TX5) (n := 3) (v := .ref (g.2.2.2 (b + 1))) C hinX5 hP b (sn_l0 hT.1 (by decide)) hT.2.1 rfl 0 (by decide) (by decide +kernel) rfl rfl dX5_digest_66 ?_
      refine sn_get (ci := 0) (Cn := RX0) (T := TX0) (n := 9) (v := .int (st.1 (b + 1) 4)) C hinX0 hP (b + 1) (sn_l0 hT.2.2.1.1 (by decide)) hT.2.2.1.2.1 rfl 4 (by decide) (by decide +kernel) rfl rfl dX5_digest_69 ?_
      obtain ⟨r3, hr3, hd⟩ := Option.bind_eq_some_iff.mp hd
      refine sn_Sl (rest := []) (As := [.long j1, .int (st.1 (b + 1) 4)]) (st := st) C (c_X5_mix hi  hr3) (va_cwS 2 hts gX5_digest_X5_mix rfl rfl rfl (by decide +kernel) ⟨Nat.le_of_ble_eq_true rfl, Nat.le_of_ble_eq_true rfl⟩) hP hS rfl hl.1 rfl (Nat.le_of_ble_eq_true rfl) dX5_digest_72 (fun H locs hP hS => ?_)
      have ho := Option.some.inj hd
      subst ho
      exact sn_rl C hP hS dX5_digest_75
    · replace hd := (if_neg hc).symm.trans hd
      refine lv_aload_n hx hb dX5_digest_51 rfl (lv_at hl 0 rfl) ?_
      refine lv_lload_n hx hb dX5_digest_52 rfl (lv_at hl 1 rfl) ?_
      refine lv_iload_n hx hb dX5_digest_53 rfl (lv_at hl 2 rfl) ?_
      obtain ⟨r4, hr4, hd⟩ := Option.bind_eq_some_iff.mp hd
      refine sn_Vl (b := b) (rest := []) (As := [.long j1, .int x3]) (st := st) C (c_X5_mixNode hi hT hr4) (cwV 2 hts gX5_digest_X5_mixNode rfl rfl rfl (by decide +kernel) ⟨Nat.le_of_ble_eq_true rfl, Nat.le_of_ble_eq_true rfl⟩) hP hS (sn_l0 hT.1 (by decide)) hT.2.1 rfl rfl hl.1 rfl (Nat.le_of_ble_eq_true rfl) dX5_digest_54 (fun H locs hP hS => ?_)
      refine lv_lstore_n (lv' := [(1, .long r4), (0, .ref (g.2.2.2 b)), (3, .int x3)]) hx hb dX5_digest_57 rfl hl (by decide) rfl (fun ls hl => ?_)
      refine lv_iinc (v := (x3 + (1 : Int32))) (lv' := [(3, .int (x3 + (1 : Int32))), (1, .long r4), (0, .ref (g.2.2.2 b))]) hx hb dX5_digest_58 hl (k := 2) rfl rfl (by decide) rfl (fun ls hl => ?_)
      refine lv_goto (tgt := 37) hx hb dX5_digest_61 (by decide) ?_
      exact ih r4 (x3 + (1 : Int32)) _ _ _ hd hP hS (lv_sub hl [2, 1, 0] rfl)

set_option maxHeartbeats 4000000 in
set_option maxRecDepth 100000 in
theorem c_X5_digest {l : Launch} {g : sn_G} {tb : Nat → sn_K} {N : Nat} (hi : sn_I g N) {b : Nat} (hT : sn_SN tb N b) {st : sn_S} {o : Int64} (hd : D_X5_digest b st = some o) : sn_Ml l yX5_digest wsX5_digest { frames := 2, cells := 0, slots := 0, locals := 49 } g tb N [.ref (g.2.2.2 b)] st o st := by
  refine sn_Ml.of (cc := cX5_digest) (nL := 4) (ret := (some .long)) hi (by decide) rfl (Nat.le_of_ble_eq_true rfl) ?_
  intro p e s m args below meth c ls C hP hS hl
  have hl : lv_has ls 4 [(0, .ref (g.2.2.2 b))] := hl
  obtain ⟨⟨hx, hb, hml, hown, hts⟩, hr, hlk, hC, hi⟩ := id C
  unfold D_X5_digest at hd
  have hinX0 : ∀ w ∈ wsX00, w ∈ wsX5_digest := by decide +kernel
  have hinX5 : ∀ w ∈ wsX50, w ∈ wsX5_digest := by decide +kernel
  have hinX3 : ∀ w ∈ wsX30, w ∈ wsX5_digest := by decide +kernel
  refine lv_ldc2 (v := 59) hx hb hown (hts (.constantLong RX5 165 (59)) (by decide +kernel)) dX5_digest_0 ?_
  refine lv_aload_n hx hb dX5_digest_3 rfl (lv_at hl 0 rfl) ?_
  refine sn_get (ci := 4) (Cn := RX5) (T := TX5) (n := 3) (v := .ref (g.2.2.2 (b + 1))) C hinX5 hP b (sn_l0 hT.1 (by decide)) hT.2.1 rfl 0 (by decide) (by decide +kernel) rfl rfl dX5_digest_4 ?_
  refine sn_get (ci := 0) (Cn := RX0) (T := TX0) (n := 9) (v := .ref (g.2.2.2 (b + 1 + 1))) C hinX0 hP (b + 1) (sn_l0 hT.2.2.1.1 (by decide)) hT.2.2.1.2.1 rfl 0 (by decide) (by decide +kernel) rfl rfl dX5_digest_7 ?_
  refine sn_get (ci := 2) (Cn := RX3) (T := TX3) (n := 3) (v := .int (st.1 (b + 1 + 1) 0)) C hinX3 hP (b + 1 + 1) (sn_l0 hT.2.2.1.2.2.1.1 (by decide)) hT.2.2.1.2.2.1.2.1 rfl 0 (by decide) (by decide +kernel) rfl rfl dX5_digest_10 ?_
  obtain ⟨r1, hr1, hd⟩ := Option.bind_eq_some_iff.mp hd
  refine sn_Sl (rest := []) (As := [.long (59 : Int64), .int (st.1 (b + 1 + 1) 0)]) (st := st) C (c_X5_mix hi  hr1) (va_cwS 2 hts gX5_digest_X5_mix rfl rfl rfl (by decide +kernel) ⟨Nat.le_of_ble_eq_true rfl, Nat.le_of_ble_eq_true rfl⟩) hP hS rfl hl.1 rfl (Nat.le_of_ble_eq_true rfl) dX5_digest_13 (fun H locs hP hS => ?_)
  refine lv_aload_n hx hb dX5_digest_16 rfl (lv_at hl 0 rfl) ?_
  refine sn_get (ci := 4) (Cn := RX5) (T := TX5) (n := 3) (v := .ref (g.2.2.2 (b + 1))) C hinX5 hP b (sn_l0 hT.1 (by decide)) hT.2.1 rfl 0 (by decide) (by decide +kernel) rfl rfl dX5_digest_17 ?_
  refine sn_get (ci := 0) (Cn := RX0) (T := TX0) (n := 9) (v := .int (st.1 (b + 1) 3)) C hinX0 hP (b + 1) (sn_l0 hT.2.2.1.1 (by decide)) hT.2.2.1.2.1 rfl 3 (by decide) (by decide +kernel) rfl rfl dX5_digest_20 ?_
  refine lv_if_eq (tgt := 30) hx hb dX5_digest_23 (by decide) (fun hc => ?_) (fun hc => ?_)
  · replace hd := (if_pos hc).symm.trans hd
    refine lv_iconst (v := (0 : Int32)) hx hb dX5_digest_30 (by decide) ?_
    obtain ⟨r2, hr2, hd⟩ := Option.bind_eq_some_iff.mp hd
    refine sn_Sl (rest := []) (As := [.long r1, .int (0 : Int32)]) (st := st) C (c_X5_mix hi  hr2) (va_cwS 2 hts gX5_digest_X5_mix rfl rfl rfl (by decide +kernel) ⟨Nat.le_of_ble_eq_true rfl, Nat.le_of_ble_eq_true rfl⟩) hP hS rfl hl.1 rfl (Nat.le_of_ble_eq_true rfl) dX5_digest_31 (fun H locs hP hS => ?_)
    refine lv_lstore_n (lv' := [(1, .long r2), (0, .ref (g.2.2.2 b))]) hx hb dX5_digest_34 rfl hl (by decide) rfl (fun ls hl => ?_)
    refine lv_iconst (v := (0 : Int32)) hx hb dX5_digest_35 (by decide) ?_
    refine lv_istore_n (lv' := [(3, .int (0 : Int32)), (1, .long r2), (0, .ref (g.2.2.2 b))]) hx hb dX5_digest_36 rfl hl (by decide) rfl (fun ls hl => ?_)
    exact t_X5_digest_L37 (st := st) C hT 4096 r2 (0 : Int32) _ _ _ hd hP hS (lv_sub hl [2, 1, 0] rfl)
  · replace hd := (if_neg hc).symm.trans hd
    refine lv_iconst (v := (1 : Int32)) hx hb dX5_digest_26 (by decide) ?_
    refine lv_goto (tgt := 31) hx hb dX5_digest_27 (by decide) ?_
    obtain ⟨r5, hr5, hd⟩ := Option.bind_eq_some_iff.mp hd
    refine sn_Sl (rest := []) (As := [.long r1, .int (1 : Int32)]) (st := st) C (c_X5_mix hi  hr5) (va_cwS 2 hts gX5_digest_X5_mix rfl rfl rfl (by decide +kernel) ⟨Nat.le_of_ble_eq_true rfl, Nat.le_of_ble_eq_true rfl⟩) hP hS rfl hl.1 rfl (Nat.le_of_ble_eq_true rfl) dX5_digest_31 (fun H locs hP hS => ?_)
    refine lv_lstore_n (lv' := [(1, .long r5), (0, .ref (g.2.2.2 b))]) hx hb dX5_digest_34 rfl hl (by decide) rfl (fun ls hl => ?_)
    refine lv_iconst (v := (0 : Int32)) hx hb dX5_digest_35 (by decide) ?_
    refine lv_istore_n (lv' := [(3, .int (0 : Int32)), (1, .long r5), (0, .ref (g.2.2.2 b))]) hx hb dX5_digest_36 rfl hl (by decide) rfl (fun ls hl => ?_)
    exact t_X5_digest_L37 (st := st) C hT 4096 r5 (0 : Int32) _ _ _ hd hP hS (lv_sub hl [2, 1, 0] rfl)
