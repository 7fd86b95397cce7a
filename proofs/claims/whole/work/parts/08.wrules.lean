set_option maxHeartbeats 4000000 in
set_option maxRecDepth 100000 in
theorem t_X2_parentToBe_L19 {p : Program} {l : Launch} {e : Env} {s : State} {m : MethodId} {args : Array Value} {below : List Frame} {meth : Method} {c : Code} {g : sn_G} {tb : Nat → sn_K} {N : Nat} {o0 : Nat} {x1 : Int32} {st : sn_S} {o : Int32} (C : sn_Cx p s m args meth c g N cX2_parentToBe 5 wsX2_parentToBe yX2_parentToBe.cls (some .int)) (hO0 : sn_Ne tb N o0)  : ∀ (n : Nat) (x3 : Int32) (x4 : Int32) (H : Heap) (locs : List Loc) (ls : Array Slot), D_X2_parentToBe_L19 o0 x1 st n x3 x4 = some o → va_P g.1 vwCl (sn_W g tb N st) H → va_S (sn_A g N) s.heap H locs → lv_has ls 5 [(0, .ref (g.2.2.2 o0)), (1, .int x1), (2, .ref (g.2.2.2 (o0 + 4 + 14))), (3, .int x3), (4, .int x4)] → W p l e { frames := 1, cells := 0, slots := 0, locals := 21 } s m args below meth c H locs 0 0 (MQ below (sn_Qi g tb N o st) args s 0 0 (sn_A g N)) (F0 m 19 ls []) := by
  obtain ⟨⟨hx, hb, hml, hown, hts⟩, hr, hlk, hC, hi⟩ := id C
  have hinX0 : ∀ w ∈ wsX00, w ∈ wsX2_parentToBe := by decide +kernel
  have hinX1 : ∀ w ∈ wsX10, w ∈ wsX2_parentToBe := by decide +kernel
  have hinX3 : ∀ w ∈ wsX30, w ∈ wsX2_parentToBe := by decide +kernel
  intro n
  induction n with
  | zero => intro _ _ _ _ _ hd; exact nomatch (show (none : Option (Int32)) = some o from hd)
  | succ n ih =>
    intro x3 x4 H locs ls hd hP hS hl
    replace hd := (D_X2_parentToBe_L19.eq_2 _ _ _ _ _ _).symm.trans hd
    refine lv_iload hx hb dX2_parentToBe_19 (lv_at hl 4 rfl) ?_
    refine lv_aload_n hx hb dX2_parentToBe_21 rfl (lv_at hl 0 rfl) ?_
    refine sn_get (ci := 0) (Cn := RX0) (T := TX0) (n := 9) (v := .ref (g.2.2.2 (o0 + 1))) C hinX0 hP o0 (sn_l0 hO0.1 (by decide)) hO0.2.1 rfl 0 (by decide) (by decide +kernel) rfl rfl dX2_parentToBe_22 ?_
    refine sn_get (ci := 2) (Cn := RX3) (T := TX3) (n := 3) (v := .int (st.1 (o0 + 1) 0)) C hinX3 hP (o0 + 1) (sn_l0 hO0.2.2.1.1 (by decide)) hO0.2.2.1.2.1 rfl 0 (by decide) (by decide +kernel) rfl rfl dX2_parentToBe_25 ?_
    refine lv_icmp_ge (tgt := 76) hx hb dX2_parentToBe_28 (by decide) (fun hc => ?_) (fun hc => ?_)
    · replace hd := (if_pos hc).symm.trans hd
      refine lv_iload_n hx hb dX2_parentToBe_76 rfl (lv_at hl 3 rfl) ?_
      cases hd
      exact sn_ri C hP hS dX2_parentToBe_77
    · replace hd := (if_neg hc).symm.trans hd
      refine lv_aload_n hx hb dX2_parentToBe_31 rfl (lv_at hl 0 rfl) ?_
      refine sn_get (ci := 0) (Cn := RX0) (T := TX0) (n := 9) (v := .ref (g.2.2.2 (o0 + 1))) C hinX0 hP o0 (sn_l0 hO0.1 (by decide)) hO0.2.1 rfl 0 (by decide) (by decide +kernel) rfl rfl dX2_parentToBe_32 ?_
      refine sn_get (ci := 2) (Cn := RX3) (T := TX3) (n := 3) (v := .ref (g.2.2.2 (o0 + 1 + 1))) C hinX3 hP (o0 + 1) (sn_l0 hO0.2.2.1.1 (by decide)) hO0.2.2.1.2.1 rfl 1 (by decide) (by decide +kernel) rfl rfl dX2_parentToBe_35 ?_
      refine lv_iload_n hx hb dX2_parentToBe_38 rfl (lv_at hl 1 rfl) ?_
      refine sn_ald C hP (o0 + 1 + 1) (sn_l hO0.2.2.1.1 (by decide)) hO0.2.2.1.2.2.1 hd dX2_parentToBe_39 (fun k1 hk1 hd => ?_)
      refine lv_iload hx hb dX2_parentToBe_40 (lv_at hl 4 rfl) ?_
      obtain ⟨r2, hr2, hd⟩ := Option.bind_eq_some_iff.mp hd
      refine sn_Ni (host := RX5) (rest := []) (As := [.int (st.1 (o0 + 1 + 1) k1), .int x4]) (st := st) C (c_X5_has hi  hr2) ⟨va_cnB 2 hts gX2_parentToBe_X5_has_n116 rfl rfl rfl (hC.2 _ (by decide +kernel)) (hts (.initialized RX5) (by decide +kernel)) (by decide +kernel) ⟨Nat.le_of_ble_eq_true rfl, Nat.le_of_ble_eq_true rfl⟩, hts (.static yX5_has) (by decide +kernel), trivial⟩ hP hS rfl hl.1 rfl (Nat.le_of_ble_eq_true rfl) dX2_parentToBe_42 (fun H locs hP hS => ?_)
      refine lv_if_eq (tgt := 70) hx hb dX2_parentToBe_45 (by decide) (fun hc => ?_) (fun hc => ?_)
      · replace hd := (if_pos hc).symm.trans hd
        refine lv_iinc (v := (x4 + (1 : Int32))) (lv' := [(4, .int (x4 + (1 : Int32))), (0, .ref (g.2.2.2 o0)), (1, .int x1), (2, .ref (g.2.2.2 (o0 + 4 + 14))), (3, .int x3)]) hx hb dX2_parentToBe_70 hl (k := 4) rfl rfl (by decide) rfl (fun ls hl => ?_)
        refine lv_goto (tgt := 19) hx hb dX2_parentToBe_73 (by decide) ?_
        exact ih x3 (x4 + (1 : Int32)) _ _ _ hd hP hS (lv_sub hl [1, 2, 3, 4, 0] rfl)
      · replace hd := (if_neg hc).symm.trans hd
        refine lv_iload_n hx hb dX2_parentToBe_48 rfl (lv_at hl 3 rfl) ?_
        refine lv_iconst (v := (-1 : Int32)) hx hb dX2_parentToBe_49 (by decide) ?_
        refine lv_icmp_eq (tgt := 67) hx hb dX2_parentToBe_50 (by decide) (fun hc => ?_) (fun hc => ?_)
        · replace hd := (if_pos hc).symm.trans hd
          refine lv_iload hx hb dX2_parentToBe_67 (lv_at hl 4 rfl) ?_
          refine lv_istore_n (lv' := [(3, .int x4), (0, .ref (g.2.2.2 o0)), (1, .int x1), (2, .ref (g.2.2.2 (o0 + 4 + 14))), (4, .int x4)]) hx hb dX2_parentToBe_69 rfl hl (by decide) rfl (fun ls hl => ?_)
          refine lv_iinc (v := (x4 + (1 : Int32))) (lv' := [(4, .int (x4 + (1 : Int32))), (3, .int x4), (0, .ref (g.2.2.2 o0)), (1, .int x1), (2, .ref (g.2.2.2 (o0 + 4 + 14)))]) hx hb dX2_parentToBe_70 hl (k := 4) rfl rfl (by decide) rfl (fun ls hl => ?_)
          refine lv_goto (tgt := 19) hx hb dX2_parentToBe_73 (by decide) ?_
          exact ih x4 (x4 + (1 : Int32)) _ _ _ hd hP hS (lv_sub hl [2, 3, 4, 1, 0] rfl)
        · replace hd := (if_neg hc).symm.trans hd
          refine lv_aload_n hx hb dX2_parentToBe_53 rfl (lv_at hl 2 rfl) ?_
          refine lv_iload hx hb dX2_parentToBe_54 (lv_at hl 4 rfl) ?_
          refine sn_aald C hP (o0 + 4 + 14) (sn_l hO0.2.2.2.1.1 (by decide)) hO0.2.2.2.1.2.2.2.2.1 hd dX2_parentToBe_56 (fun k3 hk3 hd => ?_)
          refine lv_iconst (v := (0 : Int32)) hx hb dX2_parentToBe_57 (by decide) ?_
          refine sn_aldc (k := 0) C hP (o0 + 4 + 14 + 1 + k3) (hO0.2.2.2.1.2.2.2.2.2.1 k3 hk3).2 (hO0.2.2.2.1.2.2.2.2.2.1 k3 hk3).1 (by decide +kernel) dX2_parentToBe_58 ?_
          refine lv_aload_n hx hb dX2_parentToBe_59 rfl (lv_at hl 2 rfl) ?_
          refine lv_iload_n hx hb dX2_parentToBe_60 rfl (lv_at hl 3 rfl) ?_
          refine sn_aald C hP (o0 + 4 + 14) (sn_l hO0.2.2.2.1.1 (by decide)) hO0.2.2.2.1.2.2.2.2.1 hd dX2_parentToBe_61 (fun k4 hk4 hd => ?_)
          refine lv_iconst (v := (0 : Int32)) hx hb dX2_parentToBe_62 (by decide) ?_
          refine sn_aldc (k := 0) C hP (o0 + 4 + 14 + 1 + k4) (hO0.2.2.2.1.2.2.2.2.2.1 k4 hk4).2 (hO0.2.2.2.1.2.2.2.2.2.1 k4 hk4).1 (by decide +kernel) dX2_parentToBe_63 ?_
          refine lv_icmp_ge (tgt := 70) hx hb dX2_parentToBe_64 (by decide) (fun hc => ?_) (fun hc => ?_)
          · replace hd := (if_pos hc).symm.trans hd
            refine lv_iinc (v := (x4 + (1 : Int32))) (lv' := [(4, .int (x4 + (1 : Int32))), (0, .ref (g.2.2.2 o0)), (1, .int x1), (2, .ref (g.2.2.2 (o0 + 4 + 14))), (3, .int x3)]) hx hb dX2_parentToBe_70 hl (k := 4) rfl rfl (by decide) rfl (fun ls hl => ?_)
            refine lv_goto (tgt := 19) hx hb dX2_parentToBe_73 (by decide) ?_
            exact ih x3 (x4 + (1 : Int32)) _ _ _ hd hP hS (lv_sub hl [1, 2, 3, 4, 0] rfl)
          · replace hd := (if_neg hc).symm.trans hd
            refine lv_iload hx hb dX2_parentToBe_67 (lv_at hl 4 rfl) ?_
            refine lv_istore_n (lv' := [(3, .int x4), (0, .ref (g.2.2.2 o0)), (1, .int x1), (2, .ref (g.2.2.2 (o0 + 4 + 14))), (4, .int x4)]) hx hb dX2_parentToBe_69 rfl hl (by decide) rfl (fun ls hl => ?_)
            refine lv_iinc (v := (x4 + (1 : Int32))) (lv' := [(4, .int (x4 + (1 : Int32))), (3, .int x4), (0, .ref (g.2.2.2 o0)), (1, .int x1), (2, .ref (g.2.2.2 (o0 + 4 + 14)))]) hx hb dX2_parentToBe_70 hl (k := 4) rfl rfl (by decide) rfl (fun ls hl => ?_)
            refine lv_goto (tgt := 19) hx hb dX2_parentToBe_73 (by decide) ?_
            exact ih x4 (x4 + (1 : Int32)) _ _ _ hd hP hS (lv_sub hl [2, 3, 4, 1, 0] rfl)

set_option maxHeartbeats 4000000 in
set_option maxRecDepth 100000 in
theorem c_X2_parentToBe {l : Launch} {g : sn_G} {tb : Nat → sn_K} {N : Nat} (hi : sn_I g N) {o0 : Nat} {x1 : Int32} (hO0 : sn_Ne tb N o0) {st : sn_S} {o : Int32} (hd : D_X2_parentToBe o0 x1 st = some o) : sn_Mi l yX2_parentToBe wsX2_parentToBe { frames := 1, cells := 0, slots := 0, locals := 21 } g tb N [.ref (g.2.2.2 o0), .int x1] st o st := by
  refine sn_Mi.of (cc := cX2_parentToBe) (nL := 5) (ret := (some .int)) hi (by decide) rfl (Nat.le_of_ble_eq_true rfl) ?_
  intro p e s m args below meth c ls C hP hS hl
  have hl : lv_has ls 5 [(0, .ref (g.2.2.2 o0)), (1, .int x1)] := hl
  obtain ⟨⟨hx, hb, hml, hown, hts⟩, hr, hlk, hC, hi⟩ := id C
  unfold D_X2_parentToBe at hd
  have hinX0 : ∀ w ∈ wsX00, w ∈ wsX2_parentToBe := by decide +kernel
  have hinX1 : ∀ w ∈ wsX10, w ∈ wsX2_parentToBe := by decide +kernel
  have hinX3 : ∀ w ∈ wsX30, w ∈ wsX2_parentToBe := by decide +kernel
  refine lv_iload_n hx hb dX2_parentToBe_0 rfl (lv_at hl 1 rfl) ?_
  refine lv_if_ne (tgt := 6) hx hb dX2_parentToBe_1 (by decide) (fun hc => ?_) (fun hc => ?_)
  · replace hd := (if_neg hc).symm.trans hd
    refine lv_aload_n hx hb dX2_parentToBe_6 rfl (lv_at hl 0 rfl) ?_
    refine sn_get (ci := 0) (Cn := RX0) (T := TX0) (n := 9) (v := .ref (g.2.2.2 (o0 + 4))) C hinX0 hP o0 (sn_l0 hO0.1 (by decide)) hO0.2.1 rfl 1 (by decide) (by decide +kernel) rfl rfl dX2_parentToBe_7 ?_
    refine sn_get (ci := 1) (Cn := RX1) (T := TX1) (n := 4) (v := .ref (g.2.2.2 (o0 + 4 + 14))) C hinX1 hP (o0 + 4) (sn_l0 hO0.2.2.2.1.1 (by decide)) hO0.2.2.2.1.2.1 rfl 1 (by decide) (by decide +kernel) rfl rfl dX2_parentToBe_10 ?_
    refine lv_astore_n (lv' := [(2, .ref (g.2.2.2 (o0 + 4 + 14))), (0, .ref (g.2.2.2 o0)), (1, .int x1)]) hx hb dX2_parentToBe_13 rfl hl (by decide) rfl (fun ls hl => ?_)
    refine lv_iconst (v := (-1 : Int32)) hx hb dX2_parentToBe_14 (by decide) ?_
    refine lv_istore_n (lv' := [(3, .int (-1 : Int32)), (2, .ref (g.2.2.2 (o0 + 4 + 14))), (0, .ref (g.2.2.2 o0)), (1, .int x1)]) hx hb dX2_parentToBe_15 rfl hl (by decide) rfl (fun ls hl => ?_)
    refine lv_iconst (v := (0 : Int32)) hx hb dX2_parentToBe_16 (by decide) ?_
    refine lv_istore (lv' := [(4, .int (0 : Int32)), (3, .int (-1 : Int32)), (2, .ref (g.2.2.2 (o0 + 4 + 14))), (0, .ref (g.2.2.2 o0)), (1, .int x1)]) hx hb dX2_parentToBe_17 hl (by decide) rfl (fun ls hl => ?_)
    exact t_X2_parentToBe_L19 (st := st) C hO0 4096 (-1 : Int32) (0 : Int32) _ _ _ hd hP hS (lv_sub hl [3, 4, 2, 1, 0] rfl)
  · replace hd := (if_pos hc).symm.trans hd
    refine lv_iconst (v := (-1 : Int32)) hx hb dX2_parentToBe_4 (by decide) ?_
    cases hd
    exact sn_ri C hP hS dX2_parentToBe_5

set_option maxHeartbeats 4000000 in
set_option maxRecDepth 100000 in
theorem c_X2_distToBe {l : Launch} {g : sn_G} {tb : Nat → sn_K} {N : Nat} (hi : sn_I g N) {o0 : Nat} {x1 : Int32} {x2 : Int32} (hO0 : sn_Ne tb N o0) {st : sn_S} {o : Int32} (hd : D_X2_distToBe o0 x1 x2 st = some o) : sn_Mi l yX2_distToBe wsX2_distToBe { frames := 1, cells := 0, slots := 0, locals := 32 } g tb N [.ref (g.2.2.2 o0), .int x1, .int x2] st o st := by
  refine sn_Mi.of (cc := cX2_distToBe) (nL := 4) (ret := (some .int)) hi (by decide) rfl (Nat.le_of_ble_eq_true rfl) ?_
  intro p e s m args below meth c ls C hP hS hl
  have hl : lv_has ls 4 [(0, .ref (g.2.2.2 o0)), (1, .int x1), (2, .int x2)] := hl
  obtain ⟨⟨hx, hb, hml, hown, hts⟩, hr, hlk, hC, hi⟩ := id C
  unfold D_X2_distToBe at hd
  have hinX0 : ∀ w ∈ wsX00, w ∈ wsX2_distToBe := by decide +kernel
  have hinX1 : ∀ w ∈ wsX10, w ∈ wsX2_distToBe := by decide +kernel
  have hinX3 : ∀ w ∈ wsX30, w ∈ wsX2_distToBe := by decide +kernel
  refine lv_iload_n hx hb dX2_distToBe_0 rfl (lv_at hl 1 rfl) ?_
  refine lv_if_ne (tgt := 6) hx hb dX2_distToBe_1 (by decide) (fun hc => ?_) (fun hc => ?_)
  · replace hd := (if_neg hc).symm.trans hd
    refine lv_aload_n hx hb dX2_distToBe_6 rfl (lv_at hl 0 rfl) ?_
    refine sn_get (ci := 0) (Cn := RX0) (T := TX0) (n := 9) (v := .ref (g.2.2.2 (o0 + 1))) C hinX0 hP o0 (sn_l0 hO0.1 (by decide)) hO0.2.1 rfl 0 (by decide) (by decide +kernel) rfl rfl dX2_distToBe_7 ?_
    refine sn_get (ci := 2) (Cn := RX3) (T := TX3) (n := 3) (v := .int (st.1 (o0 + 1) 0)) C hinX3 hP (o0 + 1) (sn_l0 hO0.2.2.1.1 (by decide)) hO0.2.2.1.2.1 rfl 0 (by decide) (by decide +kernel) rfl rfl dX2_distToBe_10 ?_
    refine lv_istore_n (lv' := [(3, .int (st.1 (o0 + 1) 0)), (0, .ref (g.2.2.2 o0)), (1, .int x1), (2, .int x2)]) hx hb dX2_distToBe_13 rfl hl (by decide) rfl (fun ls hl => ?_)
    refine lv_iload_n hx hb dX2_distToBe_14 rfl (lv_at hl 3 rfl) ?_
    refine lv_iconst (v := (-1 : Int32)) hx hb dX2_distToBe_15 (by decide) ?_
    refine lv_icmp_ne (tgt := 23) hx hb dX2_distToBe_16 (by decide) (fun hc => ?_) (fun hc => ?_)
    · replace hd := (if_neg hc).symm.trans hd
      refine lv_aload_n hx hb dX2_distToBe_23 rfl (lv_at hl 1 rfl) ?_
      refine sn_get (ci := 0) (Cn := RX0) (T := TX0) (n := 9) (v := .ref (g.2.2.2 (o0 + 4))) C hinX0 hP o0 (sn_l0 hO0.1 (by decide)) hO0.2.1 rfl 1 (by decide) (by decide +kernel) rfl rfl dX2_distToBe_24 ?_
      refine sn_get (ci := 1) (Cn := RX1) (T := TX1) (n := 4) (v := .ref (g.2.2.2 (o0 + 4 + 14))) C hinX1 hP (o0 + 4) (sn_l0 hO0.2.2.2.1.1 (by decide)) hO0.2.2.2.1.2.1 rfl 1 (by decide) (by decide +kernel) rfl rfl dX2_distToBe_27 ?_
      refine lv_iload_n hx hb dX2_distToBe_30 rfl (lv_at hl 3 rfl) ?_
      refine sn_aald C hP (o0 + 4 + 14) (sn_l hO0.2.2.2.1.1 (by decide)) hO0.2.2.2.1.2.2.2.2.1 hd dX2_distToBe_31 (fun k1 hk1 hd => ?_)
      refine lv_iconst (v := (0 : Int32)) hx hb dX2_distToBe_32 (by decide) ?_
      refine sn_aldc (k := 0) C hP (o0 + 4 + 14 + 1 + k1) (hO0.2.2.2.1.2.2.2.2.2.1 k1 hk1).2 (hO0.2.2.2.1.2.2.2.2.2.1 k1 hk1).1 (by decide +kernel) dX2_distToBe_33 ?_
      refine lv_iconst (v := (1 : Int32)) hx hb dX2_distToBe_34 (by decide) ?_
      refine lv_iadd hx hb dX2_distToBe_35 ?_
      refine lv_iload_n hx hb dX2_distToBe_36 rfl (lv_at hl 0 rfl) ?_
      refine va_mmin hx hb (hml.trans hl.1.symm) hown (hts (.methodLink RX2 120 Lib.Math.min.name) (by decide +kernel)) (hts (.static Lib.Math.min.name) (by decide +kernel)) (hts (.initialized "java/lang/Math") (by decide +kernel)) (hts (.code Lib.Math.min.name Lib.Math.min.code 2 (some .int)) (by decide +kernel)) (Nat.le_of_ble_eq_true rfl) (Nat.le_of_ble_eq_true rfl) (Nat.zero_le _) (Nat.zero_le _) dX2_distToBe_37 ?_
      cases hd
      exact sn_ri C hP hS dX2_distToBe_40
    · replace hd := (if_pos hc).symm.trans hd
      refine lv_iload_n hx hb dX2_distToBe_19 rfl (lv_at hl 0 rfl) ?_
      refine lv_goto (tgt := 40) hx hb dX2_distToBe_20 (by decide) ?_
      cases hd
      exact sn_ri C hP hS dX2_distToBe_40
  · replace hd := (if_pos hc).symm.trans hd
    refine lv_iconst (v := (0 : Int32)) hx hb dX2_distToBe_4 (by decide) ?_
    cases hd
    exact sn_ri C hP hS dX2_distToBe_5

set_option maxHeartbeats 4000000 in
set_option maxRecDepth 100000 in
theorem c_X2_phaseAbove {l : Launch} {g : sn_G} {tb : Nat → sn_K} {N : Nat} (hi : sn_I g N) {o0 : Nat} {x1 : Int32} (hO0 : sn_Ne tb N o0) {st : sn_S} {o : Int32} (hd : D_X2_phaseAbove o0 x1 st = some o) : sn_Mi l yX2_phaseAbove wsX2_phaseAbove { frames := 0, cells := 0, slots := 0, locals := 0 } g tb N [.ref (g.2.2.2 o0), .int x1] st o st := by
  refine sn_Mi.of (cc := cX2_phaseAbove) (nL := 3) (ret := (some .int)) hi (by decide) rfl (Nat.le_of_ble_eq_true rfl) ?_
  intro p e s m args below meth c ls C hP hS hl
  have hl : lv_has ls 3 [(0, .ref (g.2.2.2 o0)), (1, .int x1)] := hl
  obtain ⟨⟨hx, hb, hml, hown, hts⟩, hr, hlk, hC, hi⟩ := id C
  unfold D_X2_phaseAbove at hd
  have hinX0 : ∀ w ∈ wsX00, w ∈ wsX2_phaseAbove := by decide +kernel
  have hinX1 : ∀ w ∈ wsX10, w ∈ wsX2_phaseAbove := by decide +kernel
  refine lv_aload_n hx hb dX2_phaseAbove_0 rfl (lv_at hl 0 rfl) ?_
  refine sn_get (ci := 0) (Cn := RX0) (T := TX0) (n := 9) (v := .ref (g.2.2.2 (o0 + 4))) C hinX0 hP o0 (sn_l0 hO0.1 (by decide)) hO0.2.1 rfl 1 (by decide) (by decide +kernel) rfl rfl dX2_phaseAbove_1 ?_
  refine sn_get (ci := 1) (Cn := RX1) (T := TX1) (n := 4) (v := .ref (g.2.2.2 (o0 + 4 + 14))) C hinX1 hP (o0 + 4) (sn_l0 hO0.2.2.2.1.1 (by decide)) hO0.2.2.2.1.2.1 rfl 1 (by decide) (by decide +kernel) rfl rfl dX2_phaseAbove_4 ?_
  refine lv_iload_n hx hb dX2_phaseAbove_7 rfl (lv_at hl 1 rfl) ?_
  refine sn_aald C hP (o0 + 4 + 14) (sn_l hO0.2.2.2.1.1 (by decide)) hO0.2.2.2.1.2.2.2.2.1 hd dX2_phaseAbove_8 (fun k1 hk1 hd => ?_)
  refine lv_iconst (v := (1 : Int32)) hx hb dX2_phaseAbove_9 (by decide) ?_
  refine sn_aldc (k := 1) C hP (o0 + 4 + 14 + 1 + k1) (hO0.2.2.2.1.2.2.2.2.2.1 k1 hk1).2 (hO0.2.2.2.1.2.2.2.2.2.1 k1 hk1).1 (by decide +kernel) dX2_phaseAbove_10 ?_
  refine lv_istore_n (lv' := [(2, .int (st.1 (o0 + 4 + 14 + 1 + k1) 1)), (0, .ref (g.2.2.2 o0)), (1, .int x1)]) hx hb dX2_phaseAbove_11 rfl hl (by decide) rfl (fun ls hl => ?_)
  refine lv_iload_n hx hb dX2_phaseAbove_12 rfl (lv_at hl 0 rfl) ?_
  refine lv_iconst (v := (-1 : Int32)) hx hb dX2_phaseAbove_13 (by decide) ?_
  refine lv_icmp_ne (tgt := 21) hx hb dX2_phaseAbove_14 (by decide) (fun hc => ?_) (fun hc => ?_)
  · replace hd := (if_neg hc).symm.trans hd
    refine lv_aload_n hx hb dX2_phaseAbove_21 rfl (lv_at hl 1 rfl) ?_
    refine sn_get (ci := 0) (Cn := RX0) (T := TX0) (n := 9) (v := .ref (g.2.2.2 (o0 + 4))) C hinX0 hP o0 (sn_l0 hO0.1 (by decide)) hO0.2.1 rfl 1 (by decide) (by decide +kernel) rfl rfl dX2_phaseAbove_22 ?_
    refine sn_get (ci := 1) (Cn := RX1) (T := TX1) (n := 4) (v := .ref (g.2.2.2 (o0 + 4 + 14))) C hinX1 hP (o0 + 4) (sn_l0 hO0.2.2.2.1.1 (by decide)) hO0.2.2.2.1.2.1 rfl 1 (by decide) (by decide +kernel) rfl rfl dX2_phaseAbove_25 ?_
    refine lv_iload_n hx hb dX2_phaseAbove_28 rfl (lv_at hl 0 rfl) ?_
    refine sn_aald C hP (o0 + 4 + 14) (sn_l hO0.2.2.2.1.1 (by decide)) hO0.2.2.2.1.2.2.2.2.1 hd dX2_phaseAbove_29 (fun k2 hk2 hd => ?_)
    refine lv_iconst (v := (2 : Int32)) hx hb dX2_phaseAbove_30 (by decide) ?_
    refine sn_aldc (k := 2) C hP (o0 + 4 + 14 + 1 + k2) (hO0.2.2.2.1.2.2.2.2.2.1 k2 hk2).2 (hO0.2.2.2.1.2.2.2.2.2.1 k2 hk2).1 (by decide +kernel) dX2_phaseAbove_31 ?_
    cases hd
    exact sn_ri C hP hS dX2_phaseAbove_32
  · replace hd := (if_pos hc).symm.trans hd
    refine lv_iconst (v := (0 : Int32)) hx hb dX2_phaseAbove_17 (by decide) ?_
    refine lv_goto (tgt := 32) hx hb dX2_phaseAbove_18 (by decide) ?_
    cases hd
    exact sn_ri C hP hS dX2_phaseAbove_32

set_option maxHeartbeats 4000000 in
set_option maxRecDepth 100000 in
theorem t_X2_areChildren_L2 {p : Program} {l : Launch} {e : Env} {s : State} {m : MethodId} {args : Array Value} {below : List Frame} {meth : Method} {c : Code} {g : sn_G} {tb : Nat → sn_K} {N : Nat} {o0 : Nat} {x1 : Int32} {x2 : Int32} {st : sn_S} {o : Int32} (C : sn_Cx p s m args meth c g N cX2_areChildren 4 wsX2_areChildren yX2_areChildren.cls (some .boolean)) (hO0 : sn_Ne tb N o0)  : ∀ (n : Nat) (x3 : Int32) (H : Heap) (locs : List Loc) (ls : Array Slot), D_X2_areChildren_L2 o0 x1 x2 st n x3 = some o → va_P g.1 vwCl (sn_W g tb N st) H → va_S (sn_A g N) s.heap H locs → lv_has ls 4 [(0, .ref (g.2.2.2 o0)), (1, .int x1), (2, .int x2), (3, .int x3)] → W p l e { frames := 1, cells := 0, slots := 0, locals := 21 } s m args below meth c H locs 0 0 (MQ below (sn_Qi g tb N o st) args s 0 0 (sn_A g N)) (F0 m 2 ls []) := by
  obtain ⟨⟨hx, hb, hml, hown, hts⟩, hr, hlk, hC, hi⟩ := id C
  have hinX0 : ∀ w ∈ wsX00, w ∈ wsX2_areChildren := by decide +kernel
  have hinX1 : ∀ w ∈ wsX10, w ∈ wsX2_areChildren := by decide +kernel
  have hinX3 : ∀ w ∈ wsX30, w ∈ wsX2_areChildren := by decide +kernel
  intro n
  induction n with
  | zero => intro _ _ _ _ hd; exact nomatch (show (none : Option (Int32)) = some o from hd)
  | succ n ih =>
    intro x3 H locs ls hd hP hS hl
    replace hd := (D_X2_areChildren_L2.eq_2 _ _ _ _ _ _).symm.trans hd
    refine lv_iload_n hx hb dX2_areChildren_2 rfl (lv_at hl 3 rfl) ?_
    refine lv_aload_n hx hb dX2_areChildren_3 rfl (lv_at hl 0 rfl) ?_
    refine sn_get (ci := 0) (Cn := RX0) (T := TX0) (n := 9) (v := .ref (g.2.2.2 (o0 + 1))) C hinX0 hP o0 (sn_l0 hO0.1 (by decide)) hO0.2.1 rfl 0 (by decide) (by decide +kernel) rfl rfl dX2_areChildren_4 ?_
    refine sn_get (ci := 2) (Cn := RX3) (T := TX3) (n := 3) (v := .int (st.1 (o0 + 1) 0)) C hinX3 hP (o0 + 1) (sn_l0 hO0.2.2.1.1 (by decide)) hO0.2.2.1.2.1 rfl 0 (by decide) (by decide +kernel) rfl rfl dX2_areChildren_7 ?_
    refine lv_icmp_ge (tgt := 52) hx hb dX2_areChildren_10 (by decide) (fun hc => ?_) (fun hc => ?_)
    · replace hd := (if_pos hc).symm.trans hd
      refine lv_iconst (v := (1 : Int32)) hx hb dX2_areChildren_52 (by decide) ?_
      cases hd
      exact sn_rz (Or.inr rfl) C hP hS dX2_areChildren_53
    · replace hd := (if_neg hc).symm.trans hd
      refine lv_aload_n hx hb dX2_areChildren_13 rfl (lv_at hl 0 rfl) ?_
      refine sn_get (ci := 0) (Cn := RX0) (T := TX0) (n := 9) (v := .ref (g.2.2.2 (o0 + 4))) C hinX0 hP o0 (sn_l0 hO0.1 (by decide)) hO0.2.1 rfl 1 (by decide) (by decide +kernel) rfl rfl dX2_areChildren_14 ?_
      refine sn_get (ci := 1) (Cn := RX1) (T := TX1) (n := 4) (v := .ref (g.2.2.2 (o0 + 4 + 27))) C hinX1 hP (o0 + 4) (sn_l0 hO0.2.2.2.1.1 (by decide)) hO0.2.2.2.1.2.1 rfl 2 (by decide) (by decide +kernel) rfl rfl dX2_areChildren_17 ?_
      refine lv_iload_n hx hb dX2_areChildren_20 rfl (lv_at hl 1 rfl) ?_
      refine sn_ald C hP (o0 + 4 + 27) (sn_l hO0.2.2.2.1.1 (by decide)) hO0.2.2.2.1.2.2.2.2.2.2.1 hd dX2_areChildren_21 (fun k1 hk1 hd => ?_)
      refine lv_iload_n hx hb dX2_areChildren_22 rfl (lv_at hl 3 rfl) ?_
      obtain ⟨r2, hr2, hd⟩ := Option.bind_eq_some_iff.mp hd
      refine sn_Ni (host := RX5) (rest := []) (As := [.int (st.1 (o0 + 4 + 27) k1), .int x3]) (st := st) C (c_X5_has hi  hr2) ⟨va_cnB 2 hts gX2_areChildren_X5_has_n116 rfl rfl rfl (hC.2 _ (by decide +kernel)) (hts (.initialized RX5) (by decide +kernel)) (by decide +kernel) ⟨Nat.le_of_ble_eq_true rfl, Nat.le_of_ble_eq_true rfl⟩, hts (.static yX5_has) (by decide +kernel), trivial⟩ hP hS rfl hl.1 rfl (Nat.le_of_ble_eq_true rfl) dX2_areChildren_23 (fun H locs hP hS => ?_)
      refine lv_if_eq (tgt := 46) hx hb dX2_areChildren_26 (by decide) (fun hc => ?_) (fun hc => ?_)
      · replace hd := (if_pos hc).symm.trans hd
        refine lv_iinc (v := (x3 + (1 : Int32))) (lv' := [(3, .int (x3 + (1 : Int32))), (0, .ref (g.2.2.2 o0)), (1, .int x1), (2, .int x2)]) hx hb dX2_areChildren_46 hl (k := 3) rfl rfl (by decide) rfl (fun ls hl => ?_)
        refine lv_goto (tgt := 2) hx hb dX2_areChildren_49 (by decide) ?_
        exact ih (x3 + (1 : Int32)) _ _ _ hd hP hS (lv_sub hl [1, 2, 3, 0] rfl)
      · replace hd := (if_neg hc).symm.trans hd
        refine lv_aload_n hx hb dX2_areChildren_29 rfl (lv_at hl 0 rfl) ?_
        refine sn_get (ci := 0) (Cn := RX0) (T := TX0) (n := 9) (v := .ref (g.2.2.2 (o0 + 4))) C hinX0 hP o0 (sn_l0 hO0.1 (by decide)) hO0.2.1 rfl 1 (by decide) (by decide +kernel) rfl rfl dX2_areChildren_30 ?_
        refine sn_get (ci := 1) (Cn := RX1) (T := TX1) (n := 4) (v := .ref (g.2.2.2 (o0 + 4 + 14))) C hinX1 hP (o0 + 4) (sn_l0 hO0.2.2.2.1.1 (by decide)) hO0.2.2.2.1.2.1 rfl 1 (by decide) (by decide +kernel) rfl rfl dX2_areChildren_33 ?_
        refine lv_iload_n hx hb dX2_areChildren_36 rfl (lv_at hl 3 rfl) ?_
        refine sn_aald C hP (o0 + 4 + 14) (sn_l hO0.2.2.2.1.1 (by decide)) hO0.2.2.2.1.2.2.2.2.1 hd dX2_areChildren_37 (fun k3 hk3 hd => ?_)
        refine lv_iconst (v := (2 : Int32)) hx hb dX2_areChildren_38 (by decide) ?_
        refine sn_aldc (k := 2) C hP (o0 + 4 + 14 + 1 + k3) (hO0.2.2.2.1.2.2.2.2.2.1 k3 hk3).2 (hO0.2.2.2.1.2.2.2.2.2.1 k3 hk3).1 (by decide +kernel) dX2_areChildren_39 ?_
        refine lv_iload_n hx hb dX2_areChildren_40 rfl (lv_at hl 2 rfl) ?_
        refine lv_icmp_eq (tgt := 46) hx hb dX2_areChildren_41 (by decide) (fun hc => ?_) (fun hc => ?_)
        · replace hd := (if_pos hc).symm.trans hd
          refine lv_iinc (v := (x3 + (1 : Int32))) (lv' := [(3, .int (x3 + (1 : Int32))), (0, .ref (g.2.2.2 o0)), (1, .int x1), (2, .int x2)]) hx hb dX2_areChildren_46 hl (k := 3) rfl rfl (by decide) rfl (fun ls hl => ?_)
          refine lv_goto (tgt := 2) hx hb dX2_areChildren_49 (by decide) ?_
          exact ih (x3 + (1 : Int32)) _ _ _ hd hP hS (lv_sub hl [1, 2, 3, 0] rfl)
        · replace hd := (if_neg hc).symm.trans hd
          refine lv_iconst (v := (0 : Int32)) hx hb dX2_areChildren_44 (by decide) ?_
          cases hd
          exact sn_rz (Or.inl rfl) C hP hS dX2_areChildren_45

set_option maxHeartbeats 4000000 in
set_option maxRecDepth 100000 in
theorem c_X2_areChildren {l : Launch} {g : sn_G} {tb : Nat → sn_K} {N : Nat} (hi : sn_I g N) {o0 : Nat} {x1 : Int32} {x2 : Int32} (hO0 : sn_Ne tb N o0) {st : sn_S} {o : Int32} (hd : D_X2_areChildren o0 x1 x2 st = some o) : sn_Mi l yX2_areChildren wsX2_areChildren { frames := 1, cells := 0, slots := 0, locals := 21 } g tb N [.ref (g.2.2.2 o0), .int x1, .int x2] st o st := by
  refine sn_Mi.of (cc := cX2_areChildren) (nL := 4) (ret := (some .boolean)) hi (by decide) rfl (Nat.le_of_ble_eq_true rfl) ?_
  intro p e s m args below meth c ls C hP hS hl
  have hl : lv_has ls 4 [(0, .ref (g.2.2.2 o0)), (1, .int x1), (2, .int x2)] := hl
  obtain ⟨⟨hx, hb, hml, hown, hts⟩, hr, hlk, hC, hi⟩ := id C
  unfold D_X2_areChildren at hd
  have hinX0 : ∀ w ∈ wsX00, w ∈ wsX2_areChildren := by decide +kernel
  have hinX1 : ∀ w ∈ wsX10, w ∈ wsX2_areChildren := by decide +kernel
  have hinX3 : ∀ w ∈ wsX30, w ∈ wsX2_areChildren := by decide +kernel
  refine lv_iconst (v := (0 : Int32)) hx hb dX2_areChildren_0 (by decide) ?_
  refine lv_istore_n (lv' := [(3, .int (0 : Int32)), (0, .ref (g.2.2.2 o0)), (1, .int x1), (2, .int x2)]) hx hb dX2_areChildren_1 rfl hl (by decide) rfl (fun ls hl => ?_)
  exact t_X2_areChildren_L2 (st := st) C hO0 4096 (0 : Int32) _ _ _ hd hP hS (lv_sub hl [1, 2, 3, 0] rfl)

set_option maxHeartbeats 4000000 in
set_option maxRecDepth 100000 in
theorem c_X2_phaseToBe {l : Launch} {g : sn_G} {tb : Nat → sn_K} {N : Nat} (hi : sn_I g N) {o0 : Nat} {x1 : Int32} (hO0 : sn_Ne tb N o0) {st : sn_S} {o : Int32} (hd : D_X2_phaseToBe o0 x1 st = some o) : sn_Mi l yX2_phaseToBe wsX2_phaseToBe { frames := 2, cells := 0, slots := 0, locals := 44 } g tb N [.ref (g.2.2.2 o0), .int x1] st o st := by
  refine sn_Mi.of (cc := cX2_phaseToBe) (nL := 4) (ret := (some .int)) hi (by decide) rfl (Nat.le_of_ble_eq_true rfl) ?_
  intro p e s m args below meth c ls C hP hS hl
  have hl : lv_has ls 4 [(0, .ref (g.2.2.2 o0)), (1, .int x1)] := hl
  obtain ⟨⟨hx, hb, hml, hown, hts⟩, hr, hlk, hC, hi⟩ := id C
  unfold D_X2_phaseToBe at hd
  have hinX0 : ∀ w ∈ wsX00, w ∈ wsX2_phaseToBe := by decide +kernel
  have hinX1 : ∀ w ∈ wsX10, w ∈ wsX2_phaseToBe := by decide +kernel
  refine lv_iload_n hx hb dX2_phaseToBe_0 rfl (lv_at hl 1 rfl) ?_
  refine lv_if_ne (tgt := 8) hx hb dX2_phaseToBe_1 (by decide) (fun hc => ?_) (fun hc => ?_)
  · replace hd := (if_neg hc).symm.trans hd
    refine lv_iconst (v := (0 : Int32)) hx hb dX2_phaseToBe_8 (by decide) ?_
    refine lv_istore_n (lv' := [(2, .int (0 : Int32)), (0, .ref (g.2.2.2 o0)), (1, .int x1)]) hx hb dX2_phaseToBe_9 rfl hl (by decide) rfl (fun ls hl => ?_)
    refine lv_aload_n hx hb dX2_phaseToBe_10 rfl (lv_at hl 1 rfl) ?_
    refine lv_iload_n hx hb dX2_phaseToBe_11 rfl (lv_at hl 2 rfl) ?_
    obtain ⟨r1, hr1, hd⟩ := Option.bind_eq_some_iff.mp hd
    refine sn_Si (rest := []) (As := [.ref (g.2.2.2 o0), .int x1]) (st := st) C (c_X2_phaseAbove hi hO0 hr1) (va_cwS 2 hts gX2_phaseToBe_X2_phaseAbove rfl rfl rfl (by decide +kernel) ⟨Nat.le_of_ble_eq_true rfl, Nat.le_of_ble_eq_true rfl⟩) hP hS rfl hl.1 rfl (Nat.le_of_ble_eq_true rfl) dX2_phaseToBe_12 (fun H locs hP hS => ?_)
    refine lv_istore_n (lv' := [(3, .int r1), (2, .int (0 : Int32)), (0, .ref (g.2.2.2 o0)), (1, .int x1)]) hx hb dX2_phaseToBe_15 rfl hl (by decide) rfl (fun ls hl => ?_)
    refine lv_aload_n hx hb dX2_phaseToBe_16 rfl (lv_at hl 2 rfl) ?_
    refine sn_get (ci := 0) (Cn := RX0) (T := TX0) (n := 9) (v := .ref (g.2.2.2 (o0 + 4))) C hinX0 hP o0 (sn_l0 hO0.1 (by decide)) hO0.2.1 rfl 1 (by decide) (by decide +kernel) rfl rfl dX2_phaseToBe_17 ?_
    refine sn_get (ci := 1) (Cn := RX1) (T := TX1) (n := 4) (v := .ref (g.2.2.2 (o0 + 4 + 14))) C hinX1 hP (o0 + 4) (sn_l0 hO0.2.2.2.1.1 (by decide)) hO0.2.2.2.1.2.1 rfl 1 (by decide) (by decide +kernel) rfl rfl dX2_phaseToBe_20 ?_
    refine lv_iload_n hx hb dX2_phaseToBe_23 rfl (lv_at hl 3 rfl) ?_
    refine sn_aald C hP (o0 + 4 + 14) (sn_l hO0.2.2.2.1.1 (by decide)) hO0.2.2.2.1.2.2.2.2.1 hd dX2_phaseToBe_24 (fun k2 hk2 hd => ?_)
    refine lv_iconst (v := (2 : Int32)) hx hb dX2_phaseToBe_25 (by decide) ?_
    refine sn_aldc (k := 2) C hP (o0 + 4 + 14 + 1 + k2) (hO0.2.2.2.1.2.2.2.2.2.1 k2 hk2).2 (hO0.2.2.2.1.2.2.2.2.2.1 k2 hk2).1 (by decide +kernel) dX2_phaseToBe_26 ?_
    by_cases hs27_0 : (st.1 (o0 + 4 + 14 + 1 + k2) 2) = (0 : Int32)
    · replace hd := (if_pos hs27_0).symm.trans hd
      refine lv_lookup (off := 25) (tgt := 52) hx hb dX2_phaseToBe_27 (by decide) (by rw [hs27_0]; decide) (by decide) ?_
      refine lv_iload_n hx hb dX2_phaseToBe_52 rfl (lv_at hl 1 rfl) ?_
      refine lv_if_ne (tgt := 61) hx hb dX2_phaseToBe_53 (by decide) (fun hc => ?_) (fun hc => ?_)
      · replace hd := (if_neg hc).symm.trans hd
        refine lv_aload_n hx hb dX2_phaseToBe_61 rfl (lv_at hl 2 rfl) ?_
        refine lv_iload_n hx hb dX2_phaseToBe_62 rfl (lv_at hl 3 rfl) ?_
        refine lv_iconst (v := (0 : Int32)) hx hb dX2_phaseToBe_63 (by decide) ?_
        obtain ⟨r3, hr3, hd⟩ := Option.bind_eq_some_iff.mp hd
        refine sn_Si (rest := []) (As := [.ref (g.2.2.2 o0), .int x1, .int (0 : Int32)]) (st := st) C (c_X2_areChildren hi hO0 hr3) (va_cwS 3 hts gX2_phaseToBe_X2_areChildren rfl rfl rfl (by decide +kernel) ⟨Nat.le_of_ble_eq_true rfl, Nat.le_of_ble_eq_true rfl⟩) hP hS rfl hl.1 rfl (Nat.le_of_ble_eq_true rfl) dX2_phaseToBe_64 (fun H locs hP hS => ?_)
        refine lv_if_eq (tgt := 74) hx hb dX2_phaseToBe_67 (by decide) (fun hc => ?_) (fun hc => ?_)
        · replace hd := (if_pos hc).symm.trans hd
          refine lv_iconst (v := (0 : Int32)) hx hb dX2_phaseToBe_74 (by decide) ?_
          cases hd
          exact sn_ri C hP hS dX2_phaseToBe_75
        · replace hd := (if_neg hc).symm.trans hd
          refine lv_iconst (v := (1 : Int32)) hx hb dX2_phaseToBe_70 (by decide) ?_
          refine lv_goto (tgt := 75) hx hb dX2_phaseToBe_71 (by decide) ?_
          cases hd
          exact sn_ri C hP hS dX2_phaseToBe_75
      · replace hd := (if_pos hc).symm.trans hd
        refine lv_iload_n hx hb dX2_phaseToBe_56 rfl (lv_at hl 0 rfl) ?_
        refine lv_iconst (v := (1 : Int32)) hx hb dX2_phaseToBe_57 (by decide) ?_
        refine lv_icmp_ne (tgt := 74) hx hb dX2_phaseToBe_58 (by decide) (fun hc => ?_) (fun hc => ?_)
        · replace hd := (if_neg hc).symm.trans hd
          refine lv_iconst (v := (0 : Int32)) hx hb dX2_phaseToBe_74 (by decide) ?_
          cases hd
          exact sn_ri C hP hS dX2_phaseToBe_75
        · replace hd := (if_pos hc).symm.trans hd
          refine lv_aload_n hx hb dX2_phaseToBe_61 rfl (lv_at hl 2 rfl) ?_
          refine lv_iload_n hx hb dX2_phaseToBe_62 rfl (lv_at hl 3 rfl) ?_
          refine lv_iconst (v := (0 : Int32)) hx hb dX2_phaseToBe_63 (by decide) ?_
          obtain ⟨r4, hr4, hd⟩ := Option.bind_eq_some_iff.mp hd
          refine sn_Si (rest := []) (As := [.ref (g.2.2.2 o0), .int x1, .int (0 : Int32)]) (st := st) C (c_X2_areChildren hi hO0 hr4) (va_cwS 3 hts gX2_phaseToBe_X2_areChildren rfl rfl rfl (by decide +kernel) ⟨Nat.le_of_ble_eq_true rfl, Nat.le_of_ble_eq_true rfl⟩) hP hS rfl hl.1 rfl (Nat.le_of_ble_eq_true rfl) dX2_phaseToBe_64 (fun H locs hP hS => ?_)
          refine lv_if_eq (tgt := 74) hx hb dX2_phaseToBe_67 (by decide) (fun hc => ?_) (fun hc => ?_)
          · replace hd := (if_pos hc).symm.trans hd
            refine lv_iconst (v := (0 : Int32)) hx hb dX2_phaseToBe_74 (by decide) ?_
            cases hd
            exact sn_ri C hP hS dX2_phaseToBe_75
          · replace hd := (if_neg hc).symm.trans hd
            refine lv_iconst (v := (1 : Int32)) hx hb dX2_phaseToBe_70 (by decide) ?_
            refine lv_goto (tgt := 75) hx hb dX2_phaseToBe_71 (by decide) ?_
            cases hd
            exact sn_ri C hP hS dX2_phaseToBe_75
    replace hd := (if_neg hs27_0).symm.trans hd
    by_cases hs27_1 : (st.1 (o0 + 4 + 14 + 1 + k2) 2) = (1 : Int32)
    · replace hd := (if_pos hs27_1).symm.trans hd
      refine lv_lookup (off := 49) (tgt := 76) hx hb dX2_phaseToBe_27 (by decide) (by rw [hs27_1]; decide) (by decide) ?_
      refine lv_iload_n hx hb dX2_phaseToBe_76 rfl (lv_at hl 1 rfl) ?_
      refine lv_if_ne (tgt := 87) hx hb dX2_phaseToBe_77 (by decide) (fun hc => ?_) (fun hc => ?_)
      · replace hd := (if_neg hc).symm.trans hd
        refine lv_aload_n hx hb dX2_phaseToBe_87 rfl (lv_at hl 2 rfl) ?_
        refine lv_iload_n hx hb dX2_phaseToBe_88 rfl (lv_at hl 3 rfl) ?_
        refine lv_iconst (v := (2 : Int32)) hx hb dX2_phaseToBe_89 (by decide) ?_
        obtain ⟨r5, hr5, hd⟩ := Option.bind_eq_some_iff.mp hd
        refine sn_Si (rest := []) (As := [.ref (g.2.2.2 o0), .int x1, .int (2 : Int32)]) (st := st) C (c_X2_areChildren hi hO0 hr5) (va_cwS 3 hts gX2_phaseToBe_X2_areChildren rfl rfl rfl (by decide +kernel) ⟨Nat.le_of_ble_eq_true rfl, Nat.le_of_ble_eq_true rfl⟩) hP hS rfl hl.1 rfl (Nat.le_of_ble_eq_true rfl) dX2_phaseToBe_90 (fun H locs hP hS => ?_)
        refine lv_if_ne (tgt := 98) hx hb dX2_phaseToBe_93 (by decide) (fun hc => ?_) (fun hc => ?_)
        · replace hd := (if_neg hc).symm.trans hd
          refine lv_iload_n hx hb dX2_phaseToBe_98 rfl (lv_at hl 1 rfl) ?_
          refine lv_if_eq (tgt := 106) hx hb dX2_phaseToBe_99 (by decide) (fun hc => ?_) (fun hc => ?_)
          · replace hd := (if_pos hc).symm.trans hd
            refine lv_iconst (v := (2 : Int32)) hx hb dX2_phaseToBe_106 (by decide) ?_
            cases hd
            exact sn_ri C hP hS dX2_phaseToBe_107
          · replace hd := (if_neg hc).symm.trans hd
            refine lv_iconst (v := (0 : Int32)) hx hb dX2_phaseToBe_102 (by decide) ?_
            refine lv_goto (tgt := 107) hx hb dX2_phaseToBe_103 (by decide) ?_
            cases hd
            exact sn_ri C hP hS dX2_phaseToBe_107
        · replace hd := (if_pos hc).symm.trans hd
          refine lv_iconst (v := (1 : Int32)) hx hb dX2_phaseToBe_96 (by decide) ?_
          cases hd
          exact sn_ri C hP hS dX2_phaseToBe_97
      · replace hd := (if_pos hc).symm.trans hd
        refine lv_iload_n hx hb dX2_phaseToBe_80 rfl (lv_at hl 0 rfl) ?_
        refine lv_iconst (v := (1 : Int32)) hx hb dX2_phaseToBe_81 (by decide) ?_
        refine lv_icmp_eq (tgt := 87) hx hb dX2_phaseToBe_82 (by decide) (fun hc => ?_) (fun hc => ?_)
        · replace hd := (if_pos hc).symm.trans hd
          refine lv_aload_n hx hb dX2_phaseToBe_87 rfl (lv_at hl 2 rfl) ?_
          refine lv_iload_n hx hb dX2_phaseToBe_88 rfl (lv_at hl 3 rfl) ?_
          refine lv_iconst (v := (2 : Int32)) hx hb dX2_phaseToBe_89 (by decide) ?_
          obtain ⟨r6, hr6, hd⟩ := Option.bind_eq_some_iff.mp hd
          refine sn_Si (rest := []) (As := [.ref (g.2.2.2 o0), .int x1, .int (2 : Int32)]) (st := st) C (c_X2_areChildren hi hO0 hr6) (va_cwS 3 hts gX2_phaseToBe_X2_areChildren rfl rfl rfl (by decide +kernel) ⟨Nat.le_of_ble_eq_true rfl, Nat.le_of_ble_eq_true rfl⟩) hP hS rfl hl.1 rfl (Nat.le_of_ble_eq_true rfl) dX2_phaseToBe_90 (fun H locs hP hS => ?_)
          refine lv_if_ne (tgt := 98) hx hb dX2_phaseToBe_93 (by decide) (fun hc => ?_) (fun hc => ?_)
          · replace hd := (if_neg hc).symm.trans hd
            refine lv_iload_n hx hb dX2_phaseToBe_98 rfl (lv_at hl 1 rfl) ?_
            refine lv_if_eq (tgt := 106) hx hb dX2_phaseToBe_99 (by decide) (fun hc => ?_) (fun hc => ?_)
            · replace hd := (if_pos hc).symm.trans hd
              refine lv_iconst (v := (2 : Int32)) hx hb dX2_phaseToBe_106 (by decide) ?_
              cases hd
              exact sn_ri C hP hS dX2_phaseToBe_107
            · replace hd := (if_neg hc).symm.trans hd
              refine lv_iconst (v := (0 : Int32)) hx hb dX2_phaseToBe_102 (by decide) ?_
              refine lv_goto (tgt := 107) hx hb dX2_phaseToBe_103 (by decide) ?_
              cases hd
              exact sn_ri C hP hS dX2_phaseToBe_107
          · replace hd := (if_pos hc).symm.trans hd
            refine lv_iconst (v := (1 : Int32)) hx hb dX2_phaseToBe_96 (by decide) ?_
            cases hd
            exact sn_ri C hP hS dX2_phaseToBe_97
        · replace hd := (if_neg hc).symm.trans hd
          refine lv_iconst (v := (0 : Int32)) hx hb dX2_phaseToBe_85 (by decide) ?_
          cases hd
          exact sn_ri C hP hS dX2_phaseToBe_86
    replace hd := (if_neg hs27_1).symm.trans hd
    refine lv_lookup (off := 81) (tgt := 108) hx hb dX2_phaseToBe_27 (by decide) (by rw [lv_osw hs27_0 (by decide)]; rw [lv_osw hs27_1 (by decide)]; rfl) (by decide) ?_
    refine lv_iload_n hx hb dX2_phaseToBe_108 rfl (lv_at hl 1 rfl) ?_
    refine lv_if_ne (tgt := 116) hx hb dX2_phaseToBe_109 (by decide) (fun hc => ?_) (fun hc => ?_)
    · replace hd := (if_neg hc).symm.trans hd
      refine lv_iconst (v := (0 : Int32)) hx hb dX2_phaseToBe_116 (by decide) ?_
      refine lv_goto (tgt := 121) hx hb dX2_phaseToBe_117 (by decide) ?_
      cases hd
      exact sn_ri C hP hS dX2_phaseToBe_121
    · replace hd := (if_pos hc).symm.trans hd
      refine lv_iload_n hx hb dX2_phaseToBe_112 rfl (lv_at hl 0 rfl) ?_
      refine lv_if_ne (tgt := 120) hx hb dX2_phaseToBe_113 (by decide) (fun hc => ?_) (fun hc => ?_)
      · replace hd := (if_neg hc).symm.trans hd
        refine lv_iconst (v := (2 : Int32)) hx hb dX2_phaseToBe_120 (by decide) ?_
        cases hd
        exact sn_ri C hP hS dX2_phaseToBe_121
      · replace hd := (if_pos hc).symm.trans hd
        refine lv_iconst (v := (0 : Int32)) hx hb dX2_phaseToBe_116 (by decide) ?_
        refine lv_goto (tgt := 121) hx hb dX2_phaseToBe_117 (by decide) ?_
        cases hd
        exact sn_ri C hP hS dX2_phaseToBe_121
  · replace hd := (if_pos hc).symm.trans hd
    refine lv_iconst (v := (1 : Int32)) hx hb dX2_phaseToBe_4 (by decide) ?_
    refine lv_goto (tgt := 9) hx hb dX2_phaseToBe_5 (by decide) ?_
    refine lv_istore_n (lv' := [(2, .int (1 : Int32)), (0, .ref (g.2.2.2 o0)), (1, .int x1)]) hx hb dX2_phaseToBe_9 rfl hl (by decide) rfl (fun ls hl => ?_)
    refine lv_aload_n hx hb dX2_phaseToBe_10 rfl (lv_at hl 1 rfl) ?_
    refine lv_iload_n hx hb dX2_phaseToBe_11 rfl (lv_at hl 2 rfl) ?_
    obtain ⟨r7, hr7, hd⟩ := Option.bind_eq_some_iff.mp hd
    refine sn_Si (rest := []) (As := [.ref (g.2.2.2 o0), .int x1]) (st := st) C (c_X2_phaseAbove hi hO0 hr7) (va_cwS 2 hts gX2_phaseToBe_X2_phaseAbove rfl rfl rfl (by decide +kernel) ⟨Nat.le_of_ble_eq_true rfl, Nat.le_of_ble_eq_true rfl⟩) hP hS rfl hl.1 rfl (Nat.le_of_ble_eq_true rfl) dX2_phaseToBe_12 (fun H locs hP hS => ?_)
    refine lv_istore_n (lv' := [(3, .int r7), (2, .int (1 : Int32)), (0, .ref (g.2.2.2 o0)), (1, .int x1)]) hx hb dX2_phaseToBe_15 rfl hl (by decide) rfl (fun ls hl => ?_)
    refine lv_aload_n hx hb dX2_phaseToBe_16 rfl (lv_at hl 2 rfl) ?_
    refine sn_get (ci := 0) (Cn := RX0) (T := TX0) (n := 9) (v := .ref (g.2.2.2 (o0 + 4))) C hinX0 hP o0 (sn_l0 hO0.1 (by decide)) hO0.2.1 rfl 1 (by decide) (by decide +kernel) rfl rfl dX2_phaseToBe_17 ?_
    refine sn_get (ci := 1) (Cn := RX1) (T := TX1) (n := 4) (v := .ref (g.2.2.2 (o0 + 4 + 14))) C hinX1 hP (o0 + 4) (sn_l0 hO0.2.2.2.1.1 (by decide)) hO0.2.2.2.1.2.1 rfl 1 (by decide) (by decide +kernel) rfl rfl dX2_phaseToBe_20 ?_
    refine lv_iload_n hx hb dX2_phaseToBe_23 rfl (lv_at hl 3 rfl) ?_
    refine sn_aald C hP (o0 + 4 + 14) (sn_l hO0.2.2.2.1.1 (by decide)) hO0.2.2.2.1.2.2.2.2.1 hd dX2_phaseToBe_24 (fun k8 hk8 hd => ?_)
    refine lv_iconst (v := (2 : Int32)) hx hb dX2_phaseToBe_25 (by decide) ?_
    refine sn_aldc (k := 2) C hP (o0 + 4 + 14 + 1 + k8) (hO0.2.2.2.1.2.2.2.2.2.1 k8 hk8).2 (hO0.2.2.2.1.2.2.2.2.2.1 k8 hk8).1 (by decide +kernel) dX2_phaseToBe_26 ?_
    by_cases hs27_0 : (st.1 (o0 + 4 + 14 + 1 + k8) 2) = (0 : Int32)
    · replace hd := (if_pos hs27_0).symm.trans hd
      refine lv_lookup (off := 25) (tgt := 52) hx hb dX2_phaseToBe_27 (by decide) (by rw [hs27_0]; decide) (by decide) ?_
      refine lv_iload_n hx hb dX2_phaseToBe_52 rfl (lv_at hl 1 rfl) ?_
      refine lv_if_ne (tgt := 61) hx hb dX2_phaseToBe_53 (by decide) (fun hc => ?_) (fun hc => ?_)
      · replace hd := (if_neg hc).symm.trans hd
        refine lv_aload_n hx hb dX2_phaseToBe_61 rfl (lv_at hl 2 rfl) ?_
        refine lv_iload_n hx hb dX2_phaseToBe_62 rfl (lv_at hl 3 rfl) ?_
        refine lv_iconst (v := (0 : Int32)) hx hb dX2_phaseToBe_63 (by decide) ?_
        obtain ⟨r9, hr9, hd⟩ := Option.bind_eq_some_iff.mp hd
        refine sn_Si (rest := []) (As := [.ref (g.2.2.2 o0), .int x1, .int (0 : Int32)]) (st := st) C (c_X2_areChildren hi hO0 hr9) (va_cwS 3 hts gX2_phaseToBe_X2_areChildren rfl rfl rfl (by decide +kernel) ⟨Nat.le_of_ble_eq_true rfl, Nat.le_of_ble_eq_true rfl⟩) hP hS rfl hl.1 rfl (Nat.le_of_ble_eq_true rfl) dX2_phaseToBe_64 (fun H locs hP hS => ?_)
        refine lv_if_eq (tgt := 74) hx hb dX2_phaseToBe_67 (by decide) (fun hc => ?_) (fun hc => ?_)
        · replace hd := (if_pos hc).symm.trans hd
          refine lv_iconst (v := (0 : Int32)) hx hb dX2_phaseToBe_74 (by decide) ?_
          cases hd
          exact sn_ri C hP hS dX2_phaseToBe_75
        · replace hd := (if_neg hc).symm.trans hd
          refine lv_iconst (v := (1 : Int32)) hx hb dX2_phaseToBe_70 (by decide) ?_
          refine lv_goto (tgt := 75) hx hb dX2_phaseToBe_71 (by decide) ?_
          cases hd
          exact sn_ri C hP hS dX2_phaseToBe_75
      · replace hd := (if_pos hc).symm.trans hd
        refine lv_iload_n hx hb dX2_phaseToBe_56 rfl (lv_at hl 0 rfl) ?_
        refine lv_iconst (v := (1 : Int32)) hx hb dX2_phaseToBe_57 (by decide) ?_
        refine lv_icmp_ne (tgt := 74) hx hb dX2_phaseToBe_58 (by decide) (fun hc => ?_) (fun hc => ?_)
        · replace hd := (if_neg hc).symm.trans hd
          refine lv_iconst (v := (0 : Int32)) hx hb dX2_phaseToBe_74 (by decide) ?_
          cases hd
          exact sn_ri C hP hS dX2_phaseToBe_75
        · replace hd := (if_pos hc).symm.trans hd
          refine lv_aload_n hx hb dX2_phaseToBe_61 rfl (lv_at hl 2 rfl) ?_
          refine lv_iload_n hx hb dX2_phaseToBe_62 rfl (lv_at hl 3 rfl) ?_
          refine lv_iconst (v := (0 : Int32)) hx hb dX2_phaseToBe_63 (by decide) ?_
          obtain ⟨r10, hr10, hd⟩ := Option.bind_eq_some_iff.mp hd
          refine sn_Si (rest := []) (As := [.ref (g.2.2.2 o0), .int x1, .int (0 : Int32)]) (st := st) C (c_X2_areChildren hi hO0 hr10) (va_cwS 3 hts gX2_phaseToBe_X2_areChildren rfl rfl rfl (by decide +kernel) ⟨Nat.le_of_ble_eq_true rfl, Nat.le_of_ble_eq_true rfl⟩) hP hS rfl hl.1 rfl (Nat.le_of_ble_eq_true rfl) dX2_phaseToBe_64 (fun H locs hP hS => ?_)
          refine lv_if_eq (tgt := 74) hx hb dX2_phaseToBe_67 (by decide) (fun hc => ?_) (fun hc => ?_)
          · replace hd := (if_pos hc).symm.trans hd
            refine lv_iconst (v := (0 : Int32)) hx hb dX2_phaseToBe_74 (by decide) ?_
            cases hd
            exact sn_ri C hP hS dX2_phaseToBe_75
          · replace hd := (if_neg hc).symm.trans hd
            refine lv_iconst (v := (1 : Int32)) hx hb dX2_phaseToBe_70 (by decide) ?_
            refine lv_goto (tgt := 75) hx hb dX2_phaseToBe_71 (by decide) ?_
            cases hd
            exact sn_ri C hP hS dX2_phaseToBe_75
    replace hd := (if_neg hs27_0).symm.trans hd
    by_cases hs27_1 : (st.1 (o0 + 4 + 14 + 1 + k8) 2) = (1 : Int32)
    · replace hd := (if_pos hs27_1).symm.trans hd
      refine lv_lookup (off := 49) (tgt := 76) hx hb dX2_phaseToBe_27 (by decide) (by rw [hs27_1]; decide) (by decide) ?_
      refine lv_iload_n hx hb dX2_phaseToBe_76 rfl (lv_at hl 1 rfl) ?_
      refine lv_if_ne (tgt := 87) hx hb dX2_phaseToBe_77 (by decide) (fun hc => ?_) (fun hc => ?_)
      · replace hd := (if_neg hc).symm.trans hd
        refine lv_aload_n hx hb dX2_phaseToBe_87 rfl (lv_at hl 2 rfl) ?_
        refine lv_iload_n hx hb dX2_phaseToBe_88 rfl (lv_at hl 3 rfl) ?_
        refine lv_iconst (v := (2 : Int32)) hx hb dX2_phaseToBe_89 (by decide) ?_
        obtain ⟨r11, hr11, hd⟩ := Option.bind_eq_some_iff.mp hd
        refine sn_Si (rest := []) (As := [.ref (g.2.2.2 o0), .int x1, .int (2 : Int32)]) (st := st) C (c_X2_areChildren hi hO0 hr11) (va_cwS 3 hts gX2_phaseToBe_X2_areChildren rfl rfl rfl (by decide +kernel) ⟨Nat.le_of_ble_eq_true rfl, Nat.le_of_ble_eq_true rfl⟩) hP hS rfl hl.1 rfl (Nat.le_of_ble_eq_true rfl) dX2_phaseToBe_90 (fun H locs hP hS => ?_)
        refine lv_if_ne (tgt := 98) hx hb dX2_phaseToBe_93 (by decide) (fun hc => ?_) (fun hc => ?_)
        · replace hd := (if_neg hc).symm.trans hd
          refine lv_iload_n hx hb dX2_phaseToBe_98 rfl (lv_at hl 1 rfl) ?_
          refine lv_if_eq (tgt := 106) hx hb dX2_phaseToBe_99 (by decide) (fun hc => ?_) (fun hc => ?_)
          · replace hd := (if_pos hc).symm.trans hd
            refine lv_iconst (v := (2 : Int32)) hx hb dX2_phaseToBe_106 (by decide) ?_
            cases hd
            exact sn_ri C hP hS dX2_phaseToBe_107
          · replace hd := (if_neg hc).symm.trans hd
            refine lv_iconst (v := (0 : Int32)) hx hb dX2_phaseToBe_102 (by decide) ?_
            refine lv_goto (tgt := 107) hx hb dX2_phaseToBe_103 (by decide) ?_
            cases hd
            exact sn_ri C hP hS dX2_phaseToBe_107
        · replace hd := (if_pos hc).symm.trans hd
          refine lv_iconst (v := (1 : Int32)) hx hb dX2_phaseToBe_96 (by decide) ?_
          cases hd
          exact sn_ri C hP hS dX2_phaseToBe_97
      · replace hd := (if_pos hc).symm.trans hd
        refine lv_iload_n hx hb dX2_phaseToBe_80 rfl (lv_at hl 0 rfl) ?_
        refine lv_iconst (v := (1 : Int32)) hx hb dX2_phaseToBe_81 (by decide) ?_
        refine lv_icmp_eq (tgt := 87) hx hb dX2_phaseToBe_82 (by decide) (fun hc => ?_) (fun hc => ?_)
        · replace hd := (if_pos hc).symm.trans hd
          refine lv_aload_n hx hb dX2_phaseToBe_87 rfl (lv_at hl 2 rfl) ?_
          refine lv_iload_n hx hb dX2_phaseToBe_88 rfl (lv_at hl 3 rfl) ?_
          refine lv_iconst (v := (2 : Int32)) hx hb dX2_phaseToBe_89 (by decide) ?_
          obtain ⟨r12, hr12, hd⟩ := Option.bind_eq_some_iff.mp hd
          refine sn_Si (rest := []) (As := [.ref (g.2.2.2 o0), .int x1, .int (2 : Int32)]) (st := st) C (c_X2_areChildren hi hO0 hr12) (va_cwS 3 hts gX2_phaseToBe_X2_areChildren rfl rfl rfl (by decide +kernel) ⟨Nat.le_of_ble_eq_true rfl, Nat.le_of_ble_eq_true rfl⟩) hP hS rfl hl.1 rfl (Nat.le_of_ble_eq_true rfl) dX2_phaseToBe_90 (fun H locs hP hS => ?_)
          refine lv_if_ne (tgt := 98) hx hb dX2_phaseToBe_93 (by decide) (fun hc => ?_) (fun hc => ?_)
          · replace hd := (if_neg hc).symm.trans hd
            refine lv_iload_n hx hb dX2_phaseToBe_98 rfl (lv_at hl 1 rfl) ?_
            refine lv_if_eq (tgt := 106) hx hb dX2_phaseToBe_99 (by decide) (fun hc => ?_) (fun hc => ?_)
            · replace hd := (if_pos hc).symm.trans hd
              refine lv_iconst (v := (2 : Int32)) hx hb dX2_phaseToBe_106 (by decide) ?_
              cases hd
              exact sn_ri C hP hS dX2_phaseToBe_107
            · replace hd := (if_neg hc).symm.trans hd
              refine lv_iconst (v := (0 : Int32)) hx hb dX2_phaseToBe_102 (by decide) ?_
              refine lv_goto (tgt := 107) hx hb dX2_phaseToBe_103 (by decide) ?_
              cases hd
              exact sn_ri C hP hS dX2_phaseToBe_107
          · replace hd := (if_pos hc).symm.trans hd
            refine lv_iconst (v := (1 : Int32)) hx hb dX2_phaseToBe_96 (by decide) ?_
            cases hd
            exact sn_ri C hP hS dX2_phaseToBe_97
        · replace hd := (if_neg hc).symm.trans hd
          refine lv_iconst (v := (0 : Int32)) hx hb dX2_phaseToBe_85 (by decide) ?_
          cases hd
          exact sn_ri C hP hS dX2_phaseToBe_86
    replace hd := (if_neg hs27_1).symm.trans hd
    refine lv_lookup (off := 81) (tgt := 108) hx hb dX2_phaseToBe_27 (by decide) (by rw [lv_osw hs27_0 (by decide)]; rw [lv_osw hs27_1 (by decide)]; rfl) (by decide) ?_
    refine lv_iload_n hx hb dX2_phaseToBe_108 rfl (lv_at hl 1 rfl) ?_
    refine lv_if_ne (tgt := 116) hx hb dX2_phaseToBe_109 (by decide) (fun hc => ?_) (fun hc => ?_)
    · replace hd := (if_neg hc).symm.trans hd
      refine lv_iconst (v := (0 : Int32)) hx hb dX2_phaseToBe_116 (by decide) ?_
      refine lv_goto (tgt := 121) hx hb dX2_phaseToBe_117 (by decide) ?_
      cases hd
      exact sn_ri C hP hS dX2_phaseToBe_121
    · replace hd := (if_pos hc).symm.trans hd
      refine lv_iload_n hx hb dX2_phaseToBe_112 rfl (lv_at hl 0 rfl) ?_
      refine lv_if_ne (tgt := 120) hx hb dX2_phaseToBe_113 (by decide) (fun hc => ?_) (fun hc => ?_)
      · replace hd := (if_neg hc).symm.trans hd
        refine lv_iconst (v := (2 : Int32)) hx hb dX2_phaseToBe_120 (by decide) ?_
        cases hd
        exact sn_ri C hP hS dX2_phaseToBe_121
      · replace hd := (if_pos hc).symm.trans hd
        refine lv_iconst (v := (0 : Int32)) hx hb dX2_phaseToBe_116 (by decide) ?_
        refine lv_goto (tgt := 121) hx hb dX2_phaseToBe_117 (by decide) ?_
        cases hd
        exact sn_ri C hP hS dX2_phaseToBe_121

set_option maxHeartbeats 4000000 in
set_option maxRecDepth 100000 in
theorem c_X2_xBefore {l : Launch} {g : sn_G} {tb : Nat → sn_K} {N : Nat} (hi : sn_I g N) {o0 : Nat} {x1 : Int32} {x2 : Int32} (hO0 : sn_Ne tb N o0) {st : sn_S} {o : Int32} (hd : D_X2_xBefore o0 x1 x2 st = some o) : sn_Mi l yX2_xBefore wsX2_xBefore { frames := 1, cells := 0, slots := 0, locals := 21 } g tb N [.ref (g.2.2.2 o0), .int x1, .int x2] st o st := by
  refine sn_Mi.of (cc := cX2_xBefore) (nL := 6) (ret := (some .int)) hi (by decide) rfl (Nat.le_of_ble_eq_true rfl) ?_
  intro p e s m args below meth c ls C hP hS hl
  have hl : lv_has ls 6 [(0, .ref (g.2.2.2 o0)), (1, .int x1), (2, .int x2)] := hl
  obtain ⟨⟨hx, hb, hml, hown, hts⟩, hr, hlk, hC, hi⟩ := id C
  unfold D_X2_xBefore at hd
  have hinX0 : ∀ w ∈ wsX00, w ∈ wsX2_xBefore := by decide +kernel
  have hinX1 : ∀ w ∈ wsX10, w ∈ wsX2_xBefore := by decide +kernel
  refine lv_aload_n hx hb dX2_xBefore_0 rfl (lv_at hl 0 rfl) ?_
  refine sn_get (ci := 0) (Cn := RX0) (T := TX0) (n := 9) (v := .ref (g.2.2.2 (o0 + 4))) C hinX0 hP o0 (sn_l0 hO0.1 (by decide)) hO0.2.1 rfl 1 (by decide) (by decide +kernel) rfl rfl dX2_xBefore_1 ?_
  refine sn_get (ci := 1) (Cn := RX1) (T := TX1) (n := 4) (v := .ref (g.2.2.2 (o0 + 4 + 28))) C hinX1 hP (o0 + 4) (sn_l0 hO0.2.2.2.1.1 (by decide)) hO0.2.2.2.1.2.1 rfl 3 (by decide) (by decide +kernel) rfl rfl dX2_xBefore_4 ?_
  refine lv_iload_n hx hb dX2_xBefore_7 rfl (lv_at hl 1 rfl) ?_
  refine sn_ald C hP (o0 + 4 + 28) (sn_l hO0.2.2.2.1.1 (by decide)) hO0.2.2.2.1.2.2.2.2.2.2.2 hd dX2_xBefore_8 (fun k1 hk1 hd => ?_)
  refine lv_istore_n (lv' := [(3, .int (st.1 (o0 + 4 + 28) k1)), (0, .ref (g.2.2.2 o0)), (1, .int x1), (2, .int x2)]) hx hb dX2_xBefore_9 rfl hl (by decide) rfl (fun ls hl => ?_)
  refine lv_iload_n hx hb dX2_xBefore_10 rfl (lv_at hl 0 rfl) ?_
  refine lv_iload_n hx hb dX2_xBefore_11 rfl (lv_at hl 3 rfl) ?_
  obtain ⟨r2, hr2, hd⟩ := Option.bind_eq_some_iff.mp hd
  refine sn_Ni (host := RX5) (rest := [.int (st.1 (o0 + 4 + 28) k1)]) (As := [.int x2]) (st := st) C (c_X5_below hi  hr2) ⟨va_cnB 1 hts gX2_xBefore_X5_below_n143 rfl rfl rfl (hC.2 _ (by decide +kernel)) (hts (.initialized RX5) (by decide +kernel)) (by decide +kernel) ⟨Nat.le_of_ble_eq_true rfl, Nat.le_of_ble_eq_true rfl⟩, hts (.static yX5_below) (by decide +kernel), trivial⟩ hP hS rfl hl.1 rfl (Nat.le_of_ble_eq_true rfl) dX2_xBefore_12 (fun H locs hP hS => ?_)
  refine lv_iand hx hb dX2_xBefore_15 ?_
  refine lv_istore (lv' := [(4, .int ((st.1 (o0 + 4 + 28) k1) &&& r2)), (3, .int (st.1 (o0 + 4 + 28) k1)), (0, .ref (g.2.2.2 o0)), (1, .int x1), (2, .int x2)]) hx hb dX2_xBefore_16 hl (by decide) rfl (fun ls hl => ?_)
  refine lv_iload hx hb dX2_xBefore_18 (lv_at hl 0 rfl) ?_
  refine lv_if_ne (tgt := 27) hx hb dX2_xBefore_20 (by decide) (fun hc => ?_) (fun hc => ?_)
  · replace hd := (if_neg hc).symm.trans hd
    refine lv_iload hx hb dX2_xBefore_27 (lv_at hl 0 rfl) ?_
    obtain ⟨r3, hr3, hd⟩ := Option.bind_eq_some_iff.mp hd
    refine sn_Ni (host := RX5) (rest := []) (As := [.int ((st.1 (o0 + 4 + 28) k1) &&& r2)]) (st := st) C (c_X5_greatest hi  hr3) ⟨va_cnB 1 hts gX2_xBefore_X5_greatest_n146 rfl rfl rfl (hC.2 _ (by decide +kernel)) (hts (.initialized RX5) (by decide +kernel)) (by decide +kernel) ⟨Nat.le_of_ble_eq_true rfl, Nat.le_of_ble_eq_true rfl⟩, hts (.static yX5_greatest) (by decide +kernel), trivial⟩ hP hS rfl hl.1 rfl (Nat.le_of_ble_eq_true rfl) dX2_xBefore_29 (fun H locs hP hS => ?_)
    refine lv_istore (lv' := [(5, .int r3), (4, .int ((st.1 (o0 + 4 + 28) k1) &&& r2)), (3, .int (st.1 (o0 + 4 + 28) k1)), (0, .ref (g.2.2.2 o0)), (1, .int x1), (2, .int x2)]) hx hb dX2_xBefore_32 hl (by decide) rfl (fun ls hl => ?_)
    refine lv_iload hx hb dX2_xBefore_34 (lv_at hl 0 rfl) ?_
    refine lv_iconst (v := (-1 : Int32)) hx hb dX2_xBefore_36 (by decide) ?_
    refine lv_icmp_ne (tgt := 44) hx hb dX2_xBefore_37 (by decide) (fun hc => ?_) (fun hc => ?_)
    · replace hd := (if_neg hc).symm.trans hd
      refine lv_aload_n hx hb dX2_xBefore_44 rfl (lv_at hl 3 rfl) ?_
      refine sn_get (ci := 0) (Cn := RX0) (T := TX0) (n := 9) (v := .ref (g.2.2.2 (o0 + 4))) C hinX0 hP o0 (sn_l0 hO0.1 (by decide)) hO0.2.1 rfl 1 (by decide) (by decide +kernel) rfl rfl dX2_xBefore_45 ?_
      refine sn_get (ci := 1) (Cn := RX1) (T := TX1) (n := 4) (v := .ref (g.2.2.2 (o0 + 4 + 14))) C hinX1 hP (o0 + 4) (sn_l0 hO0.2.2.2.1.1 (by decide)) hO0.2.2.2.1.2.1 rfl 1 (by decide) (by decide +kernel) rfl rfl dX2_xBefore_48 ?_
      refine lv_iload hx hb dX2_xBefore_51 (lv_at hl 0 rfl) ?_
      refine sn_aald C hP (o0 + 4 + 14) (sn_l hO0.2.2.2.1.1 (by decide)) hO0.2.2.2.1.2.2.2.2.1 hd dX2_xBefore_53 (fun k4 hk4 hd => ?_)
      refine lv_iconst (v := (5 : Int32)) hx hb dX2_xBefore_54 (by decide) ?_
      refine lv_iload_n hx hb dX2_xBefore_55 rfl (lv_at hl 4 rfl) ?_
      refine lv_iadd hx hb dX2_xBefore_56 ?_
      refine sn_ald C hP (o0 + 4 + 14 + 1 + k4) (hO0.2.2.2.1.2.2.2.2.2.1 k4 hk4).2 (hO0.2.2.2.1.2.2.2.2.2.1 k4 hk4).1 hd dX2_xBefore_57 (fun k5 hk5 hd => ?_)
      cases hd
      exact sn_ri C hP hS dX2_xBefore_58
    · replace hd := (if_pos hc).symm.trans hd
      refine lv_iconst (v := (0 : Int32)) hx hb dX2_xBefore_40 (by decide) ?_
      refine lv_goto (tgt := 58) hx hb dX2_xBefore_41 (by decide) ?_
      cases hd
      exact sn_ri C hP hS dX2_xBefore_58
  · replace hd := (if_pos hc).symm.trans hd
    refine lv_iload_n hx hb dX2_xBefore_23 rfl (lv_at hl 1 rfl) ?_
    refine lv_goto (tgt := 29) hx hb dX2_xBefore_24 (by decide) ?_
    obtain ⟨r6, hr6, hd⟩ := Option.bind_eq_some_iff.mp hd
    refine sn_Ni (host := RX5) (rest := []) (As := [.int (st.1 (o0 + 4 + 28) k1)]) (st := st) C (c_X5_greatest hi  hr6) ⟨va_cnB 1 hts gX2_xBefore_X5_greatest_n146 rfl rfl rfl (hC.2 _ (by decide +kernel)) (hts (.initialized RX5) (by decide +kernel)) (by decide +kernel) ⟨Nat.le_of_ble_eq_true rfl, Nat.le_of_ble_eq_true rfl⟩, hts (.static yX5_greatest) (by decide +kernel), trivial⟩ hP hS rfl hl.1 rfl (Nat.le_of_ble_eq_true rfl) dX2_xBefore_29 (fun H locs hP hS => ?_)
    refine lv_istore (lv' := [(5, .int r6), (4, .int ((st.1 (o0 + 4 + 28) k1) &&& r2)), (3, .int (st.1 (o0 + 4 + 28) k1)), (0, .ref (g.2.2.2 o0)), (1, .int x1), (2, .int x2)]) hx hb dX2_xBefore_32 hl (by decide) rfl (fun ls hl => ?_)
    refine lv_iload hx hb dX2_xBefore_34 (lv_at hl 0 rfl) ?_
    refine lv_iconst (v := (-1 : Int32)) hx hb dX2_xBefore_36 (by decide) ?_
    refine lv_icmp_ne (tgt := 44) hx hb dX2_xBefore_37 (by decide) (fun hc => ?_) (fun hc => ?_)
    · replace hd := (if_neg hc).symm.trans hd
      refine lv_aload_n hx hb dX2_xBefore_44 rfl (lv_at hl 3 rfl) ?_
      refine sn_get (ci := 0) (Cn := RX0) (T := TX0) (n := 9) (v := .ref (g.2.2.2 (o0 + 4))) C hinX0 hP o0 (sn_l0 hO0.1 (by decide)) hO0.2.1 rfl 1 (by decide) (by decide +kernel) rfl rfl dX2_xBefore_45 ?_
      refine sn_get (ci := 1) (Cn := RX1) (T := TX1) (n := 4) (v := .ref (g.2.2.2 (o0 + 4 + 14))) C hinX1 hP (o0 + 4) (sn_l0 hO0.2.2.2.1.1 (by decide)) hO0.2.2.2.1.2.1 rfl 1 (by decide) (by decide +kernel) rfl rfl dX2_xBefore_48 ?_
      refine lv_iload hx hb dX2_xBefore_51 (lv_at hl 0 rfl) ?_
      refine sn_aald C hP (o0 + 4 + 14) (sn_l hO0.2.2.2.1.1 (by decide)) hO0.2.2.2.1.2.2.2.2.1 hd dX2_xBefore_53 (fun k7 hk7 hd => ?_)
      refine lv_iconst (v := (5 : Int32)) hx hb dX2_xBefore_54 (by decide) ?_
      refine lv_iload_n hx hb dX2_xBefore_55 rfl (lv_at hl 4 rfl) ?_
      refine lv_iadd hx hb dX2_xBefore_56 ?_
      refine sn_ald C hP (o0 + 4 + 14 + 1 + k7) (hO0.2.2.2.1.2.2.2.2.2.1 k7 hk7).2 (hO0.2.2.2.1.2.2.2.2.2.1 k7 hk7).1 hd dX2_xBefore_57 (fun k8 hk8 hd => ?_)
      cases hd
      exact sn_ri C hP hS dX2_xBefore_58
    · replace hd := (if_pos hc).symm.trans hd
      refine lv_iconst (v := (0 : Int32)) hx hb dX2_xBefore_40 (by decide) ?_
      refine lv_goto (tgt := 58) hx hb dX2_xBefore_41 (by decide) ?_
      cases hd
      exact sn_ri C hP hS dX2_xBefore_58

set_option maxHeartbeats 4000000 in
set_option maxRecDepth 100000 in
theorem c_X2_isBottom {l : Launch} {g : sn_G} {tb : Nat → sn_K} {N : Nat} (hi : sn_I g N) {o0 : Nat} {x1 : Int32} {x2 : Int32} (hO0 : sn_Ne tb N o0) {st : sn_S} {o : Int32} (hd : D_X2_isBottom o0 x1 x2 st = some o) : sn_Mi l yX2_isBottom wsX2_isBottom { frames := 1, cells := 0, slots := 0, locals := 20 } g tb N [.ref (g.2.2.2 o0), .int x1, .int x2] st o st := by
  refine sn_Mi.of (cc := cX2_isBottom) (nL := 3) (ret := (some .boolean)) hi (by decide) rfl (Nat.le_of_ble_eq_true rfl) ?_
  intro p e s m args below meth c ls C hP hS hl
  have hl : lv_has ls 3 [(0, .ref (g.2.2.2 o0)), (1, .int x1), (2, .int x2)] := hl
  obtain ⟨⟨hx, hb, hml, hown, hts⟩, hr, hlk, hC, hi⟩ := id C
  unfold D_X2_isBottom at hd
  have hinX0 : ∀ w ∈ wsX00, w ∈ wsX2_isBottom := by decide +kernel
  have hinX1 : ∀ w ∈ wsX10, w ∈ wsX2_isBottom := by decide +kernel
  refine lv_iload_n hx hb dX2_isBottom_0 rfl (lv_at hl 1 rfl) ?_
  refine lv_if_ne (tgt := 25) hx hb dX2_isBottom_1 (by decide) (fun hc => ?_) (fun hc => ?_)
  · replace hd := (if_neg hc).symm.trans hd
    refine lv_iconst (v := (0 : Int32)) hx hb dX2_isBottom_25 (by decide) ?_
    cases hd
    exact sn_rz (Or.inl rfl) C hP hS dX2_isBottom_26
  · replace hd := (if_pos hc).symm.trans hd
    refine lv_aload_n hx hb dX2_isBottom_4 rfl (lv_at hl 0 rfl) ?_
    refine sn_get (ci := 0) (Cn := RX0) (T := TX0) (n := 9) (v := .ref (g.2.2.2 (o0 + 4))) C hinX0 hP o0 (sn_l0 hO0.1 (by decide)) hO0.2.1 rfl 1 (by decide) (by decide +kernel) rfl rfl dX2_isBottom_5 ?_
    refine sn_get (ci := 1) (Cn := RX1) (T := TX1) (n := 4) (v := .ref (g.2.2.2 (o0 + 4 + 28))) C hinX1 hP (o0 + 4) (sn_l0 hO0.2.2.2.1.1 (by decide)) hO0.2.2.2.1.2.1 rfl 3 (by decide) (by decide +kernel) rfl rfl dX2_isBottom_8 ?_
    refine lv_iload_n hx hb dX2_isBottom_11 rfl (lv_at hl 1 rfl) ?_
    refine sn_ald C hP (o0 + 4 + 28) (sn_l hO0.2.2.2.1.1 (by decide)) hO0.2.2.2.1.2.2.2.2.2.2.2 hd dX2_isBottom_12 (fun k1 hk1 hd => ?_)
    refine lv_iload_n hx hb dX2_isBottom_13 rfl (lv_at hl 2 rfl) ?_
    obtain ⟨r2, hr2, hd⟩ := Option.bind_eq_some_iff.mp hd
    refine sn_Ni (host := RX5) (rest := [.int (st.1 (o0 + 4 + 28) k1)]) (As := [.int x2]) (st := st) C (c_X5_below hi  hr2) ⟨va_cnB 1 hts gX2_isBottom_X5_below_n143 rfl rfl rfl (hC.2 _ (by decide +kernel)) (hts (.initialized RX5) (by decide +kernel)) (by decide +kernel) ⟨Nat.le_of_ble_eq_true rfl, Nat.le_of_ble_eq_true rfl⟩, hts (.static yX5_below) (by decide +kernel), trivial⟩ hP hS rfl hl.1 rfl (Nat.le_of_ble_eq_true rfl) dX2_isBottom_14 (fun H locs hP hS => ?_)
    refine lv_iand hx hb dX2_isBottom_17 ?_
    refine lv_if_ne (tgt := 25) hx hb dX2_isBottom_18 (by decide) (fun hc => ?_) (fun hc => ?_)
    · replace hd := (if_neg hc).symm.trans hd
      refine lv_iconst (v := (0 : Int32)) hx hb dX2_isBottom_25 (by decide) ?_
      cases hd
      exact sn_rz (Or.inl rfl) C hP hS dX2_isBottom_26
    · replace hd := (if_pos hc).symm.trans hd
      refine lv_iconst (v := (1 : Int32)) hx hb dX2_isBottom_21 (by decide) ?_
      refine lv_goto (tgt := 26) hx hb dX2_isBottom_22 (by decide) ?_
      cases hd
      exact sn_rz (Or.inr rfl) C hP hS dX2_isBottom_26

set_option maxHeartbeats 4000000 in
set_option maxRecDepth 100000 in
theorem t_X2_rightsOf_L4 {p : Program} {l : Launch} {e : Env} {s : State} {m : MethodId} {args : Array Value} {below : List Frame} {meth : Method} {c : Code} {g : sn_G} {tb : Nat → sn_K} {N : Nat} {o0 : Nat} {x1 : Int32} {st : sn_S} {o : Int32} (C : sn_Cx p s m args meth c g N cX2_rightsOf 5 wsX2_rightsOf yX2_rightsOf.cls (some .int)) (hO0 : sn_Ne tb N o0)  : ∀ (n : Nat) (x2 : Int32) (x3 : Int32) (H : Heap) (locs : List Loc) (ls : Array Slot), D_X2_rightsOf_L4 o0 x1 st n x2 x3 = some o → va_P g.1 vwCl (sn_W g tb N st) H → va_S (sn_A g N) s.heap H locs → lv_has ls 5 [(0, .ref (g.2.2.2 o0)), (1, .int x1), (2, .int x2), (3, .int x3)] → W p l e { frames := 2, cells := 0, slots := 0, locals := 46 } s m args below meth c H locs 0 0 (MQ below (sn_Qi g tb N o st) args s 0 0 (sn_A g N)) (F0 m 4 ls []) := by
  obtain ⟨⟨hx, hb, hml, hown, hts⟩, hr, hlk, hC, hi⟩ := id C
  have hinX0 : ∀ w ∈ wsX00, w ∈ wsX2_rightsOf := by decide +kernel
  have hinX1 : ∀ w ∈ wsX10, w ∈ wsX2_rightsOf := by decide +kernel
  have hinX3 : ∀ w ∈ wsX30, w ∈ wsX2_rightsOf := by decide +kernel
  intro n
  induction n with
  | zero => intro _ _ _ _ _ hd; exact nomatch (show (none : Option (Int32)) = some o from hd)
  | succ n ih =>
    intro x2 x3 H locs ls hd hP hS hl
    replace hd := (D_X2_rightsOf_L4.eq_2 _ _ _ _ _ _).symm.trans hd
    refine lv_iload_n hx hb dX2_rightsOf_4 rfl (lv_at hl 3 rfl) ?_
    refine lv_aload_n hx hb dX2_rightsOf_5 rfl (lv_at hl 0 rfl) ?_
    refine sn_get (ci := 0) (Cn := RX0) (T := TX0) (n := 9) (v := .ref (g.2.2.2 (o0 + 1))) C hinX0 hP o0 (sn_l0 hO0.1 (by decide)) hO0.2.1 rfl 0 (by decide) (by decide +kernel) rfl rfl dX2_rightsOf_6 ?_
    refine sn_get (ci := 2) (Cn := RX3) (T := TX3) (n := 3) (v := .int (st.1 (o0 + 1) 0)) C hinX3 hP (o0 + 1) (sn_l0 hO0.2.2.1.1 (by decide)) hO0.2.2.1.2.1 rfl 0 (by decide) (by decide +kernel) rfl rfl dX2_rightsOf_9 ?_
    refine lv_icmp_ge (tgt := 83) hx hb dX2_rightsOf_12 (by decide) (fun hc => ?_) (fun hc => ?_)
    · replace hd := (if_pos hc).symm.trans hd
      refine lv_iload_n hx hb dX2_rightsOf_83 rfl (lv_at hl 2 rfl) ?_
      cases hd
      exact sn_ri C hP hS dX2_rightsOf_84
    · replace hd := (if_neg hc).symm.trans hd
      refine lv_aload_n hx hb dX2_rightsOf_15 rfl (lv_at hl 0 rfl) ?_
      refine sn_get (ci := 0) (Cn := RX0) (T := TX0) (n := 9) (v := .ref (g.2.2.2 (o0 + 4))) C hinX0 hP o0 (sn_l0 hO0.1 (by decide)) hO0.2.1 rfl 1 (by decide) (by decide +kernel) rfl rfl dX2_rightsOf_16 ?_
      refine sn_get (ci := 1) (Cn := RX1) (T := TX1) (n := 4) (v := .ref (g.2.2.2 (o0 + 4 + 28))) C hinX1 hP (o0 + 4) (sn_l0 hO0.2.2.2.1.1 (by decide)) hO0.2.2.2.1.2.1 rfl 3 (by decide) (by decide +kernel) rfl rfl dX2_rightsOf_19 ?_
      refine lv_iload_n hx hb dX2_rightsOf_22 rfl (lv_at hl 1 rfl) ?_
      refine sn_ald C hP (o0 + 4 + 28) (sn_l hO0.2.2.2.1.1 (by decide)) hO0.2.2.2.1.2.2.2.2.2.2.2 hd dX2_rightsOf_23 (fun k1 hk1 hd => ?_)
      refine lv_iload_n hx hb dX2_rightsOf_24 rfl (lv_at hl 3 rfl) ?_
      obtain ⟨r2, hr2, hd⟩ := Option.bind_eq_some_iff.mp hd
      refine sn_Ni (host := RX5) (rest := []) (As := [.int (st.1 (o0 + 4 + 28) k1), .int x3]) (st := st) C (c_X5_has hi  hr2) ⟨va_cnB 2 hts gX2_rightsOf_X5_has_n116 rfl rfl rfl (hC.2 _ (by decide +kernel)) (hts (.initialized RX5) (by decide +kernel)) (by decide +kernel) ⟨Nat.le_of_ble_eq_true rfl, Nat.le_of_ble_eq_true rfl⟩, hts (.static yX5_has) (by decide +kernel), trivial⟩ hP hS rfl hl.1 rfl (Nat.le_of_ble_eq_true rfl) dX2_rightsOf_25 (fun H locs hP hS => ?_)
      refine lv_if_eq (tgt := 77) hx hb dX2_rightsOf_28 (by decide) (fun hc => ?_) (fun hc => ?_)
      · replace hd := (if_pos hc).symm.trans hd
        refine lv_iinc (v := (x3 + (1 : Int32))) (lv' := [(3, .int (x3 + (1 : Int32))), (0, .ref (g.2.2.2 o0)), (1, .int x1), (2, .int x2)]) hx hb dX2_rightsOf_77 hl (k := 3) rfl rfl (by decide) rfl (fun ls hl => ?_)
        refine lv_goto (tgt := 4) hx hb dX2_rightsOf_80 (by decide) ?_
        exact ih x2 (x3 + (1 : Int32)) _ _ _ hd hP hS (lv_sub hl [1, 2, 3, 0] rfl)
      · replace hd := (if_neg hc).symm.trans hd
        refine lv_aload_n hx hb dX2_rightsOf_31 rfl (lv_at hl 0 rfl) ?_
        refine sn_get (ci := 0) (Cn := RX0) (T := TX0) (n := 9) (v := .ref (g.2.2.2 (o0 + 4))) C hinX0 hP o0 (sn_l0 hO0.1 (by decide)) hO0.2.1 rfl 1 (by decide) (by decide +kernel) rfl rfl dX2_rightsOf_32 ?_
        refine sn_get (ci := 1) (Cn := RX1) (T := TX1) (n := 4) (v := .ref (g.2.2.2 (o0 + 4 + 14))) C hinX1 hP (o0 + 4) (sn_l0 hO0.2.2.2.1.1 (by decide)) hO0.2.2.2.1.2.1 rfl 1 (by decide) (by decide +kernel) rfl rfl dX2_rightsOf_35 ?_
        refine lv_iload_n hx hb dX2_rightsOf_38 rfl (lv_at hl 1 rfl) ?_
        refine sn_aald C hP (o0 + 4 + 14) (sn_l hO0.2.2.2.1.1 (by decide)) hO0.2.2.2.1.2.2.2.2.1 hd dX2_rightsOf_39 (fun k3 hk3 hd => ?_)
        refine lv_iconst (v := (5 : Int32)) hx hb dX2_rightsOf_40 (by decide) ?_
        refine lv_iload_n hx hb dX2_rightsOf_41 rfl (lv_at hl 3 rfl) ?_
        refine lv_iadd hx hb dX2_rightsOf_42 ?_
        refine sn_ald C hP (o0 + 4 + 14 + 1 + k3) (hO0.2.2.2.1.2.2.2.2.2.1 k3 hk3).2 (hO0.2.2.2.1.2.2.2.2.2.1 k3 hk3).1 hd dX2_rightsOf_43 (fun k4 hk4 hd => ?_)
        refine lv_aload_n hx hb dX2_rightsOf_44 rfl (lv_at hl 0 rfl) ?_
        refine lv_iload_n hx hb dX2_rightsOf_45 rfl (lv_at hl 1 rfl) ?_
        refine lv_iload_n hx hb dX2_rightsOf_46 rfl (lv_at hl 3 rfl) ?_
        obtain ⟨r5, hr5, hd⟩ := Option.bind_eq_some_iff.mp hd
        refine sn_Si (rest := [.int (st.1 (o0 + 4 + 14 + 1 + k3) k4)]) (As := [.ref (g.2.2.2 o0), .int x1, .int x3]) (st := st) C (c_X2_xBefore hi hO0 hr5) (va_cwS 3 hts gX2_rightsOf_X2_xBefore rfl rfl rfl (by decide +kernel) ⟨Nat.le_of_ble_eq_true rfl, Nat.le_of_ble_eq_true rfl⟩) hP hS rfl hl.1 rfl (Nat.le_of_ble_eq_true rfl) dX2_rightsOf_47 (fun H locs hP hS => ?_)
        refine lv_icmp_ne (tgt := 57) hx hb dX2_rightsOf_50 (by decide) (fun hc => ?_) (fun hc => ?_)
        · replace hd := (if_neg hc).symm.trans hd
          refine lv_iconst (v := (0 : Int32)) hx hb dX2_rightsOf_57 (by decide) ?_
          refine lv_istore (lv' := [(4, .int (0 : Int32)), (0, .ref (g.2.2.2 o0)), (1, .int x1), (2, .int x2), (3, .int x3)]) hx hb dX2_rightsOf_58 hl (by decide) rfl (fun ls hl => ?_)
          refine lv_iload hx hb dX2_rightsOf_60 (lv_at hl 0 rfl) ?_
          refine lv_aload_n hx hb dX2_rightsOf_62 rfl (lv_at hl 1 rfl) ?_
          refine lv_iload_n hx hb dX2_rightsOf_63 rfl (lv_at hl 2 rfl) ?_
          refine lv_iload_n hx hb dX2_rightsOf_64 rfl (lv_at hl 4 rfl) ?_
          obtain ⟨r6, hr6, hd⟩ := Option.bind_eq_some_iff.mp hd
          refine sn_Si (rest := [.int (0 : Int32)]) (As := [.ref (g.2.2.2 o0), .int x1, .int x3]) (st := st) C (c_X2_isBottom hi hO0 hr6) (va_cwS 3 hts gX2_rightsOf_X2_isBottom rfl rfl rfl (by decide +kernel) ⟨Nat.le_of_ble_eq_true rfl, Nat.le_of_ble_eq_true rfl⟩) hP hS rfl hl.1 rfl (Nat.le_of_ble_eq_true rfl) dX2_rightsOf_65 (fun H locs hP hS => ?_)
          refine lv_icmp_ne (tgt := 77) hx hb dX2_rightsOf_68 (by decide) (fun hc => ?_) (fun hc => ?_)
          · replace hd := (if_neg hc).symm.trans hd
            refine lv_iinc (v := (x3 + (1 : Int32))) (lv' := [(3, .int (x3 + (1 : Int32))), (4, .int (0 : Int32)), (0, .ref (g.2.2.2 o0)), (1, .int x1), (2, .int x2)]) hx hb dX2_rightsOf_77 hl (k := 4) rfl rfl (by decide) rfl (fun ls hl => ?_)
            refine lv_goto (tgt := 4) hx hb dX2_rightsOf_80 (by decide) ?_
            exact ih x2 (x3 + (1 : Int32)) _ _ _ hd hP hS (lv_sub hl [2, 3, 4, 0] rfl)
          · replace hd := (if_pos hc).symm.trans hd
            refine lv_iload_n hx hb dX2_rightsOf_71 rfl (lv_at hl 3 rfl) ?_
            refine lv_iconst (v := (1 : Int32)) hx hb dX2_rightsOf_72 (by decide) ?_
            refine lv_iload_n hx hb dX2_rightsOf_73 rfl (lv_at hl 4 rfl) ?_
            refine lv_ishl hx hb dX2_rightsOf_74 ?_
            refine lv_ior hx hb dX2_rightsOf_75 ?_
            refine lv_istore_n (lv' := [(2, .int (x2 ||| ((1 : Int32) <<< (x3 &&& 31)))), (4, .int (0 : Int32)), (0, .ref (g.2.2.2 o0)), (1, .int x1), (3, .int x3)]) hx hb dX2_rightsOf_76 rfl hl (by decide) rfl (fun ls hl => ?_)
            refine lv_iinc (v := (x3 + (1 : Int32))) (lv' := [(3, .int (x3 + (1 : Int32))), (2, .int (x2 ||| ((1 : Int32) <<< (x3 &&& 31)))), (4, .int (0 : Int32)), (0, .ref (g.2.2.2 o0)), (1, .int x1)]) hx hb dX2_rightsOf_77 hl (k := 4) rfl rfl (by decide) rfl (fun ls hl => ?_)
            refine lv_goto (tgt := 4) hx hb dX2_rightsOf_80 (by decide) ?_
            exact ih (x2 ||| ((1 : Int32) <<< (x3 &&& 31))) (x3 + (1 : Int32)) _ _ _ hd hP hS (lv_sub hl [3, 4, 1, 0] rfl)
        · replace hd := (if_pos hc).symm.trans hd
          refine lv_iconst (v := (1 : Int32)) hx hb dX2_rightsOf_53 (by decide) ?_
          refine lv_goto (tgt := 58) hx hb dX2_rightsOf_54 (by decide) ?_
          refine lv_istore (lv' := [(4, .int (1 : Int32)), (0, .ref (g.2.2.2 o0)), (1, .int x1), (2, .int x2), (3, .int x3)]) hx hb dX2_rightsOf_58 hl (by decide) rfl (fun ls hl => ?_)
          refine lv_iload hx hb dX2_rightsOf_60 (lv_at hl 0 rfl) ?_
          refine lv_aload_n hx hb dX2_rightsOf_62 rfl (lv_at hl 1 rfl) ?_
          refine lv_iload_n hx hb dX2_rightsOf_63 rfl (lv_at hl 2 rfl) ?_
          refine lv_iload_n hx hb dX2_rightsOf_64 rfl (lv_at hl 4 rfl) ?_
          obtain ⟨r7, hr7, hd⟩ := Option.bind_eq_some_iff.mp hd
          refine sn_Si (rest := [.int (1 : Int32)]) (As := [.ref (g.2.2.2 o0), .int x1, .int x3]) (st := st) C (c_X2_isBottom hi hO0 hr7) (va_cwS 3 hts gX2_rightsOf_X2_isBottom rfl rfl rfl (by decide +kernel) ⟨Nat.le_of_ble_eq_true rfl, Nat.le_of_ble_eq_true rfl⟩) hP hS rfl hl.1 rfl (Nat.le_of_ble_eq_true rfl) dX2_rightsOf_65 (fun H locs hP hS => ?_)
          refine lv_icmp_ne (tgt := 77) hx hb dX2_rightsOf_68 (by decide) (fun hc => ?_) (fun hc => ?_)
          · replace hd := (if_neg hc).symm.trans hd
            refine lv_iinc (v := (x3 + (1 : Int32))) (lv' := [(3, .int (x3 + (1 : Int32))), (4, .int (1 : Int32)), (0, .ref (g.2.2.2 o0)), (1, .int x1), (2, .int x2)]) hx hb dX2_rightsOf_77 hl (k := 4) rfl rfl (by decide) rfl (fun ls hl => ?_)
            refine lv_goto (tgt := 4) hx hb dX2_rightsOf_80 (by decide) ?_
            exact ih x2 (x3 + (1 : Int32)) _ _ _ hd hP hS (lv_sub hl [2, 3, 4, 0] rfl)
          · replace hd := (if_pos hc).symm.trans hd
            refine lv_iload_n hx hb dX2_rightsOf_71 rfl (lv_at hl 3 rfl) ?_
            refine lv_iconst (v := (1 : Int32)) hx hb dX2_rightsOf_72 (by decide) ?_
            refine lv_iload_n hx hb dX2_rightsOf_73 rfl (lv_at hl 4 rfl) ?_
            refine lv_ishl hx hb dX2_rightsOf_74 ?_
            refine lv_ior hx hb dX2_rightsOf_75 ?_
            refine lv_istore_n (lv' := [(2, .int (x2 ||| ((1 : Int32) <<< (x3 &&& 31)))), (4, .int (1 : Int32)), (0, .ref (g.2.2.2 o0)), (1, .int x1), (3, .int x3)]) hx hb dX2_rightsOf_76 rfl hl (by decide) rfl (fun ls hl => ?_)
            refine lv_iinc (v := (x3 + (1 : Int32))) (lv' := [(3, .int (x3 + (1 : Int32))), (2, .int (x2 ||| ((1 : Int32) <<< (x3 &&& 31)))), (4, .int (1 : Int32)), (0, .ref (g.2.2.2 o0)), (1, .int x1)]) hx hb dX2_rightsOf_77 hl (k := 4) rfl rfl (by decide) rfl (fun ls hl => ?_)
            refine lv_goto (tgt := 4) hx hb dX2_rightsOf_80 (by decide) ?_
            exact ih (x2 ||| ((1 : Int32) <<< (x3 &&& 31))) (x3 + (1 : Int32)) _ _ _ hd hP hS (lv_sub hl [3, 4, 1, 0] rfl)

set_option maxHeartbeats 4000000 in
set_option maxRecDepth 100000 in
theorem c_X2_rightsOf {l : Launch} {g : sn_G} {tb : Nat → sn_K} {N : Nat} (hi : sn_I g N) {o0 : Nat} {x1 : Int32} (hO0 : sn_Ne tb N o0) {st : sn_S} {o : Int32} (hd : D_X2_rightsOf o0 x1 st = some o) : sn_Mi l yX2_rightsOf wsX2_rightsOf { frames := 2, cells := 0, slots := 0, locals := 46 } g tb N [.ref (g.2.2.2 o0), .int x1] st o st := by
  refine sn_Mi.of (cc := cX2_rightsOf) (nL := 5) (ret := (some .int)) hi (by decide) rfl (Nat.le_of_ble_eq_true rfl) ?_
  intro p e s m args below meth c ls C hP hS hl
  have hl : lv_has ls 5 [(0, .ref (g.2.2.2 o0)), (1, .int x1)] := hl
  obtain ⟨⟨hx, hb, hml, hown, hts⟩, hr, hlk, hC, hi⟩ := id C
  unfold D_X2_rightsOf at hd
  have hinX0 : ∀ w ∈ wsX00, w ∈ wsX2_rightsOf := by decide +kernel
  have hinX1 : ∀ w ∈ wsX10, w ∈ wsX2_rightsOf := by decide +kernel
  have hinX3 : ∀ w ∈ wsX30, w ∈ wsX2_rightsOf := by decide +kernel
  refine lv_iconst (v := (0 : Int32)) hx hb dX2_rightsOf_0 (by decide) ?_
  refine lv_istore_n (lv' := [(2, .int (0 : Int32)), (0, .ref (g.2.2.2 o0)), (1, .int x1)]) hx hb dX2_rightsOf_1 rfl hl (by decide) rfl (fun ls hl => ?_)
  refine lv_iconst (v := (0 : Int32)) hx hb dX2_rightsOf_2 (by decide) ?_
  refine lv_istore_n (lv' := [(3, .int (0 : Int32)), (2, .int (0 : Int32)), (0, .ref (g.2.2.2 o0)), (1, .int x1)]) hx hb dX2_rightsOf_3 rfl hl (by decide) rfl (fun ls hl => ?_)
  exact t_X2_rightsOf_L4 (st := st) C hO0 4096 (0 : Int32) (0 : Int32) _ _ _ hd hP hS (lv_sub hl [2, 3, 1, 0] rfl)

set_option maxHeartbeats 4000000 in
set_option maxRecDepth 100000 in
theorem c_X2_firstRule {l : Launch} {g : sn_G} {tb : Nat → sn_K} {N : Nat} (hi : sn_I g N) {o0 : Nat} {x1 : Int32} (hO0 : sn_Ne tb N o0) {st : sn_S} {o : Int32} (hd : D_X2_firstRule o0 x1 st = some o) : sn_Mi l yX2_firstRule wsX2_firstRule { frames := 3, cells := 0, slots := 0, locals := 70 } g tb N [.ref (g.2.2.2 o0), .int x1] st o st := by
  refine sn_Mi.of (cc := cX2_firstRule) (nL := 4) (ret := (some .int)) hi (by decide) rfl (Nat.le_of_ble_eq_true rfl) ?_
  intro p e s m args below meth c ls C hP hS hl
  have hl : lv_has ls 4 [(0, .ref (g.2.2.2 o0)), (1, .int x1)] := hl
  obtain ⟨⟨hx, hb, hml, hown, hts⟩, hr, hlk, hC, hi⟩ := id C
  unfold D_X2_firstRule at hd
  have hinX0 : ∀ w ∈ wsX00, w ∈ wsX2_firstRule := by decide +kernel
  have hinX1 : ∀ w ∈ wsX10, w ∈ wsX2_firstRule := by decide +kernel
  refine lv_aload_n hx hb dX2_firstRule_0 rfl (lv_at hl 0 rfl) ?_
  refine sn_get (ci := 0) (Cn := RX0) (T := TX0) (n := 9) (v := .ref (g.2.2.2 (o0 + 4))) C hinX0 hP o0 (sn_l0 hO0.1 (by decide)) hO0.2.1 rfl 1 (by decide) (by decide +kernel) rfl rfl dX2_firstRule_1 ?_
  refine lv_iload_n hx hb dX2_firstRule_4 rfl (lv_at hl 1 rfl) ?_
  obtain ⟨r1, hr1, hd⟩ := Option.bind_eq_some_iff.mp hd
  refine sn_Vi (b := o0 + 4) (rest := []) (As := [.int x1]) (st := st) C (c_X1_isSane hi hO0.2.2.2.1 hr1) (cwV 1 hts gX2_firstRule_X1_isSane rfl rfl rfl (by decide +kernel) ⟨Nat.le_of_ble_eq_true rfl, Nat.le_of_ble_eq_true rfl⟩) hP hS (sn_l0 hO0.2.2.2.1.1 (by decide)) hO0.2.2.2.1.2.1 rfl rfl hl.1 rfl (Nat.le_of_ble_eq_true rfl) dX2_firstRule_5 (fun H locs hP hS => ?_)
  refine lv_if_ne (tgt := 13) hx hb dX2_firstRule_8 (by decide) (fun hc => ?_) (fun hc => ?_)
  · replace hd := (if_neg hc).symm.trans hd
    refine lv_aload_n hx hb dX2_firstRule_13 rfl (lv_at hl 0 rfl) ?_
    refine sn_get (ci := 0) (Cn := RX0) (T := TX0) (n := 9) (v := .ref (g.2.2.2 (o0 + 4))) C hinX0 hP o0 (sn_l0 hO0.1 (by decide)) hO0.2.1 rfl 1 (by decide) (by decide +kernel) rfl rfl dX2_firstRule_14 ?_
    refine sn_get (ci := 1) (Cn := RX1) (T := TX1) (n := 4) (v := .ref (g.2.2.2 (o0 + 4 + 14))) C hinX1 hP (o0 + 4) (sn_l0 hO0.2.2.2.1.1 (by decide)) hO0.2.2.2.1.2.1 rfl 1 (by decide) (by decide +kernel) rfl rfl dX2_firstRule_17 ?_
    refine lv_iload_n hx hb dX2_firstRule_20 rfl (lv_at hl 1 rfl) ?_
    refine sn_aald C hP (o0 + 4 + 14) (sn_l hO0.2.2.2.1.1 (by decide)) hO0.2.2.2.1.2.2.2.2.1 hd dX2_firstRule_21 (fun k2 hk2 hd => ?_)
    refine lv_astore_n (lv' := [(2, .ref (g.2.2.2 (o0 + 4 + 14 + 1 + k2))), (0, .ref (g.2.2.2 o0)), (1, .int x1)]) hx hb dX2_firstRule_22 rfl hl (by decide) rfl (fun ls hl => ?_)
    refine lv_aload_n hx hb dX2_firstRule_23 rfl (lv_at hl 1 rfl) ?_
    refine lv_iload_n hx hb dX2_firstRule_24 rfl (lv_at hl 2 rfl) ?_
    obtain ⟨r3, hr3, hd⟩ := Option.bind_eq_some_iff.mp hd
    refine sn_Si (rest := []) (As := [.ref (g.2.2.2 o0), .int x1]) (st := st) C (c_X2_parentToBe hi hO0 hr3) (va_cwS 2 hts gX2_firstRule_X2_parentToBe rfl rfl rfl (by decide +kernel) ⟨Nat.le_of_ble_eq_true rfl, Nat.le_of_ble_eq_true rfl⟩) hP hS rfl hl.1 rfl (Nat.le_of_ble_eq_true rfl) dX2_firstRule_25 (fun H locs hP hS => ?_)
    refine lv_istore_n (lv' := [(3, .int r3), (2, .ref (g.2.2.2 (o0 + 4 + 14 + 1 + k2))), (0, .ref (g.2.2.2 o0)), (1, .int x1)]) hx hb dX2_firstRule_28 rfl hl (by decide) rfl (fun ls hl => ?_)
    refine lv_aload_n hx hb dX2_firstRule_29 rfl (lv_at hl 1 rfl) ?_
    refine lv_iconst (v := (1 : Int32)) hx hb dX2_firstRule_30 (by decide) ?_
    refine sn_aldc (k := 1) C hP (o0 + 4 + 14 + 1 + k2) (hO0.2.2.2.1.2.2.2.2.2.1 k2 hk2).2 (hO0.2.2.2.1.2.2.2.2.2.1 k2 hk2).1 (by decide +kernel) dX2_firstRule_31 ?_
    refine lv_iload_n hx hb dX2_firstRule_32 rfl (lv_at hl 0 rfl) ?_
    refine lv_icmp_ne (tgt := 48) hx hb dX2_firstRule_33 (by decide) (fun hc => ?_) (fun hc => ?_)
    · replace hd := (if_neg hc).symm.trans hd
      refine lv_iconst (v := (1 : Int32)) hx hb dX2_firstRule_48 (by decide) ?_
      cases hd
      exact sn_ri C hP hS dX2_firstRule_49
    · replace hd := (if_pos hc).symm.trans hd
      refine lv_aload_n hx hb dX2_firstRule_36 rfl (lv_at hl 1 rfl) ?_
      refine lv_iconst (v := (0 : Int32)) hx hb dX2_firstRule_37 (by decide) ?_
      refine sn_aldc (k := 0) C hP (o0 + 4 + 14 + 1 + k2) (hO0.2.2.2.1.2.2.2.2.2.1 k2 hk2).2 (hO0.2.2.2.1.2.2.2.2.2.1 k2 hk2).1 (by decide +kernel) dX2_firstRule_38 ?_
      refine lv_aload_n hx hb dX2_firstRule_39 rfl (lv_at hl 2 rfl) ?_
      refine lv_iload_n hx hb dX2_firstRule_40 rfl (lv_at hl 3 rfl) ?_
      refine lv_iload_n hx hb dX2_firstRule_41 rfl (lv_at hl 0 rfl) ?_
      obtain ⟨r4, hr4, hd⟩ := Option.bind_eq_some_iff.mp hd
      refine sn_Si (rest := [.int (st.1 (o0 + 4 + 14 + 1 + k2) 0)]) (As := [.ref (g.2.2.2 o0), .int x1, .int r3]) (st := st) C (c_X2_distToBe hi hO0 hr4) (va_cwS 3 hts gX2_firstRule_X2_distToBe rfl rfl rfl (by decide +kernel) ⟨Nat.le_of_ble_eq_true rfl, Nat.le_of_ble_eq_true rfl⟩) hP hS rfl hl.1 rfl (Nat.le_of_ble_eq_true rfl) dX2_firstRule_42 (fun H locs hP hS => ?_)
      refine lv_icmp_eq (tgt := 50) hx hb dX2_firstRule_45 (by decide) (fun hc => ?_) (fun hc => ?_)
      · replace hd := (if_pos hc).symm.trans hd
        refine lv_aload_n hx hb dX2_firstRule_50 rfl (lv_at hl 1 rfl) ?_
        refine lv_iconst (v := (2 : Int32)) hx hb dX2_firstRule_51 (by decide) ?_
        refine sn_aldc (k := 2) C hP (o0 + 4 + 14 + 1 + k2) (hO0.2.2.2.1.2.2.2.2.2.1 k2 hk2).2 (hO0.2.2.2.1.2.2.2.2.2.1 k2 hk2).1 (by decide +kernel) dX2_firstRule_52 ?_
        refine lv_aload_n hx hb dX2_firstRule_53 rfl (lv_at hl 2 rfl) ?_
        refine lv_iload_n hx hb dX2_firstRule_54 rfl (lv_at hl 3 rfl) ?_
        obtain ⟨r5, hr5, hd⟩ := Option.bind_eq_some_iff.mp hd
        refine sn_Si (rest := [.int (st.1 (o0 + 4 + 14 + 1 + k2) 2)]) (As := [.ref (g.2.2.2 o0), .int x1]) (st := st) C (c_X2_phaseToBe hi hO0 hr5) (va_cwS 2 hts gX2_firstRule_X2_phaseToBe rfl rfl rfl (by decide +kernel) ⟨Nat.le_of_ble_eq_true rfl, Nat.le_of_ble_eq_true rfl⟩) hP hS rfl hl.1 rfl (Nat.le_of_ble_eq_true rfl) dX2_firstRule_55 (fun H locs hP hS => ?_)
        refine lv_icmp_eq (tgt := 63) hx hb dX2_firstRule_58 (by decide) (fun hc => ?_) (fun hc => ?_)
        · replace hd := (if_pos hc).symm.trans hd
          refine lv_aload_n hx hb dX2_firstRule_63 rfl (lv_at hl 2 rfl) ?_
          refine lv_iload_n hx hb dX2_firstRule_64 rfl (lv_at hl 3 rfl) ?_
          obtain ⟨r6, hr6, hd⟩ := Option.bind_eq_some_iff.mp hd
          refine sn_Si (rest := []) (As := [.ref (g.2.2.2 o0), .int x1]) (st := st) C (c_X2_rightsOf hi hO0 hr6) (va_cwS 2 hts gX2_firstRule_X2_rightsOf rfl rfl rfl (by decide +kernel) ⟨Nat.le_of_ble_eq_true rfl, Nat.le_of_ble_eq_true rfl⟩) hP hS rfl hl.1 rfl (Nat.le_of_ble_eq_true rfl) dX2_firstRule_65 (fun H locs hP hS => ?_)
          refine lv_if_ne (tgt := 75) hx hb dX2_firstRule_68 (by decide) (fun hc => ?_) (fun hc => ?_)
          · replace hd := (if_neg hc).symm.trans hd
            refine lv_iconst (v := (3 : Int32)) hx hb dX2_firstRule_75 (by decide) ?_
            cases hd
            exact sn_ri C hP hS dX2_firstRule_76
          · replace hd := (if_pos hc).symm.trans hd
            refine lv_iconst (v := (-1 : Int32)) hx hb dX2_firstRule_71 (by decide) ?_
            refine lv_goto (tgt := 76) hx hb dX2_firstRule_72 (by decide) ?_
            cases hd
            exact sn_ri C hP hS dX2_firstRule_76
        · replace hd := (if_neg hc).symm.trans hd
          refine lv_iconst (v := (2 : Int32)) hx hb dX2_firstRule_61 (by decide) ?_
          cases hd
          exact sn_ri C hP hS dX2_firstRule_62
      · replace hd := (if_neg hc).symm.trans hd
        refine lv_iconst (v := (1 : Int32)) hx hb dX2_firstRule_48 (by decide) ?_
        cases hd
        exact sn_ri C hP hS dX2_firstRule_49
  · replace hd := (if_pos hc).symm.trans hd
    refine lv_iconst (v := (0 : Int32)) hx hb dX2_firstRule_11 (by decide) ?_
    cases hd
    exact sn_ri C hP hS dX2_firstRule_12

set_option maxHeartbeats 4000000 in
set_option maxRecDepth 100000 in
theorem t_X2_rightsInAll_L4 {p : Program} {l : Launch} {e : Env} {s : State} {m : MethodId} {args : Array Value} {below : List Frame} {meth : Method} {c : Code} {g : sn_G} {tb : Nat → sn_K} {N : Nat} {o0 : Nat} {st : sn_S} {o : Int32} (C : sn_Cx p s m args meth c g N cX2_rightsInAll 3 wsX2_rightsInAll yX2_rightsInAll.cls (some .int)) (hO0 : sn_Ne tb N o0)  : ∀ (n : Nat) (x1 : Int32) (x2 : Int32) (H : Heap) (locs : List Loc) (ls : Array Slot), D_X2_rightsInAll_L4 o0 st n x1 x2 = some o → va_P g.1 vwCl (sn_W g tb N st) H → va_S (sn_A g N) s.heap H locs → lv_has ls 3 [(0, .ref (g.2.2.2 o0)), (1, .int x1), (2, .int x2)] → W p l e { frames := 3, cells := 0, slots := 0, locals := 70 } s m args below meth c H locs 0 0 (MQ below (sn_Qi g tb N o st) args s 0 0 (sn_A g N)) (F0 m 4 ls []) := by
  obtain ⟨⟨hx, hb, hml, hown, hts⟩, hr, hlk, hC, hi⟩ := id C
  have hinX0 : ∀ w ∈ wsX00, w ∈ wsX2_rightsInAll := by decide +kernel
  have hinX3 : ∀ w ∈ wsX30, w ∈ wsX2_rightsInAll := by decide +kernel
  intro n
  induction n with
  | zero => intro _ _ _ _ _ hd; exact nomatch (show (none : Option (Int32)) = some o from hd)
  | succ n ih =>
    intro x1 x2 H locs ls hd hP hS hl
    replace hd := (D_X2_rightsInAll_L4.eq_2 _ _ _ _ _).symm.trans hd
    refine lv_iload_n hx hb dX2_rightsInAll_4 rfl (lv_at hl 2 rfl) ?_
    refine lv_aload_n hx hb dX2_rightsInAll_5 rfl (lv_at hl 0 rfl) ?_
    refine sn_get (ci := 0) (Cn := RX0) (T := TX0) (n := 9) (v := .ref (g.2.2.2 (o0 + 1))) C hinX0 hP o0 (sn_l0 hO0.1 (by decide)) hO0.2.1 rfl 0 (by decide) (by decide +kernel) rfl rfl dX2_rightsInAll_6 ?_
    refine sn_get (ci := 2) (Cn := RX3) (T := TX3) (n := 3) (v := .int (st.1 (o0 + 1) 0)) C hinX3 hP (o0 + 1) (sn_l0 hO0.2.2.1.1 (by decide)) hO0.2.2.1.2.1 rfl 0 (by decide) (by decide +kernel) rfl rfl dX2_rightsInAll_9 ?_
    refine lv_icmp_ge (tgt := 32) hx hb dX2_rightsInAll_12 (by decide) (fun hc => ?_) (fun hc => ?_)
    · replace hd := (if_pos hc).symm.trans hd
      refine lv_iload_n hx hb dX2_rightsInAll_32 rfl (lv_at hl 1 rfl) ?_
      cases hd
      exact sn_ri C hP hS dX2_rightsInAll_33
    · replace hd := (if_neg hc).symm.trans hd
      refine lv_iload_n hx hb dX2_rightsInAll_15 rfl (lv_at hl 1 rfl) ?_
      refine lv_aload_n hx hb dX2_rightsInAll_16 rfl (lv_at hl 0 rfl) ?_
      refine lv_iload_n hx hb dX2_rightsInAll_17 rfl (lv_at hl 2 rfl) ?_
      obtain ⟨r1, hr1, hd⟩ := Option.bind_eq_some_iff.mp hd
      refine sn_Si (rest := [.int x1]) (As := [.ref (g.2.2.2 o0), .int x2]) (st := st) C (c_X2_rightsOf hi hO0 hr1) (va_cwS 2 hts gX2_rightsInAll_X2_rightsOf rfl rfl rfl (by decide +kernel) ⟨Nat.le_of_ble_eq_true rfl, Nat.le_of_ble_eq_true rfl⟩) hP hS rfl hl.1 rfl (Nat.le_of_ble_eq_true rfl) dX2_rightsInAll_18 (fun H locs hP hS => ?_)
      obtain ⟨r2, hr2, hd⟩ := Option.bind_eq_some_iff.mp hd
      refine sn_Si (rest := [.int x1]) (As := [.int r1]) (st := st) C (c_J6_bitCount_0f7a4 hi  hr2) (va_cwS 1 hts gX2_rightsInAll_J6_bitCount_0f7a4 rfl rfl rfl (by decide +kernel) ⟨Nat.le_of_ble_eq_true rfl, Nat.le_of_ble_eq_true rfl⟩) hP hS rfl hl.1 rfl (Nat.le_of_ble_eq_true rfl) dX2_rightsInAll_21 (fun H locs hP hS => ?_)
      refine lv_iadd hx hb dX2_rightsInAll_24 ?_
      refine lv_istore_n (lv' := [(1, .int (x1 + r2)), (0, .ref (g.2.2.2 o0)), (2, .int x2)]) hx hb dX2_rightsInAll_25 rfl hl (by decide) rfl (fun ls hl => ?_)
      refine lv_iinc (v := (x2 + (1 : Int32))) (lv' := [(2, .int (x2 + (1 : Int32))), (1, .int (x1 + r2)), (0, .ref (g.2.2.2 o0))]) hx hb dX2_rightsInAll_26 hl (k := 2) rfl rfl (by decide) rfl (fun ls hl => ?_)
      refine lv_goto (tgt := 4) hx hb dX2_rightsInAll_29 (by decide) ?_
      exact ih (x1 + r2) (x2 + (1 : Int32)) _ _ _ hd hP hS (lv_sub hl [2, 1, 0] rfl)

set_option maxHeartbeats 4000000 in
set_option maxRecDepth 100000 in
theorem c_X2_rightsInAll {l : Launch} {g : sn_G} {tb : Nat → sn_K} {N : Nat} (hi : sn_I g N) {o0 : Nat} (hO0 : sn_Ne tb N o0) {st : sn_S} {o : Int32} (hd : D_X2_rightsInAll o0 st = some o) : sn_Mi l yX2_rightsInAll wsX2_rightsInAll { frames := 3, cells := 0, slots := 0, locals := 70 } g tb N [.ref (g.2.2.2 o0)] st o st := by
  refine sn_Mi.of (cc := cX2_rightsInAll) (nL := 3) (ret := (some .int)) hi (by decide) rfl (Nat.le_of_ble_eq_true rfl) ?_
  intro p e s m args below meth c ls C hP hS hl
  have hl : lv_has ls 3 [(0, .ref (g.2.2.2 o0))] := hl
  obtain ⟨⟨hx, hb, hml, hown, hts⟩, hr, hlk, hC, hi⟩ := id C
  unfold D_X2_rightsInAll at hd
  have hinX0 : ∀ w ∈ wsX00, w ∈ wsX2_rightsInAll := by decide +kernel
  have hinX3 : ∀ w ∈ wsX30, w ∈ wsX2_rightsInAll := by decide +kernel
  refine lv_iconst (v := (0 : Int32)) hx hb dX2_rightsInAll_0 (by decide) ?_
  refine lv_istore_n (lv' := [(1, .int (0 : Int32)), (0, .ref (g.2.2.2 o0))]) hx hb dX2_rightsInAll_1 rfl hl (by decide) rfl (fun ls hl => ?_)
  refine lv_iconst (v := (0 : Int32)) hx hb dX2_rightsInAll_2 (by decide) ?_
  refine lv_istore_n (lv' := [(2, .int (0 : Int32)), (1, .int (0 : Int32)), (0, .ref (g.2.2.2 o0))]) hx hb dX2_rightsInAll_3 rfl hl (by decide) rfl (fun ls hl => ?_)
  exact t_X2_rightsInAll_L4 (st := st) C hO0 4096 (0 : Int32) (0 : Int32) _ _ _ hd hP hS (lv_sub hl [2, 1, 0] rfl)

set_option maxHeartbeats 4000000 in
set_option maxRecDepth 100000 in
theorem c_X2_doSane {l : Launch} {g : sn_G} {tb : Nat → sn_K} {N : Nat} (hi : sn_I g N) {o0 : Nat} {x1 : Int32} (hO0 : sn_Ne tb N o0) {st : sn_S} {o : sn_S} (hd : D_X2_doSane o0 x1 st = some o) : sn_Mv l yX2_doSane wsX2_doSane { frames := 1, cells := 0, slots := 0, locals := 60 } g tb N [.ref (g.2.2.2 o0), .int x1] st o := by
  refine sn_Mv.of (cc := cX2_doSane) (nL := 2) (ret := none) hi (by decide) rfl (Nat.le_of_ble_eq_true rfl) ?_
  intro p e s m args below meth c ls C hP hS hl
  have hl : lv_has ls 2 [(0, .ref (g.2.2.2 o0)), (1, .int x1)] := hl
  obtain ⟨⟨hx, hb, hml, hown, hts⟩, hr, hlk, hC, hi⟩ := id C
  unfold D_X2_doSane at hd
  have hinX0 : ∀ w ∈ wsX00, w ∈ wsX2_doSane := by decide +kernel
  have hinX1 : ∀ w ∈ wsX10, w ∈ wsX2_doSane := by decide +kernel
  have hinX4 : ∀ w ∈ wsX40, w ∈ wsX2_doSane := by decide +kernel
  refine lv_aload_n hx hb dX2_doSane_0 rfl (lv_at hl 0 rfl) ?_
  refine sn_get (ci := 0) (Cn := RX0) (T := TX0) (n := 9) (v := .ref (g.2.2.2 (o0 + 33))) C hinX0 hP o0 (sn_l0 hO0.1 (by decide)) hO0.2.1 rfl 2 (by decide) (by decide +kernel) rfl rfl dX2_doSane_1 ?_
  refine sn_get (ci := 3) (Cn := RX4) (T := TX4) (n := 6) (v := .ref (g.2.2.2 (o0 + 33 + 1))) C hinX4 hP (o0 + 33) (sn_l0 hO0.2.2.2.2.1 (by decide)) hO0.2.2.2.2.2.1 rfl 4 (by decide) (by decide +kernel) rfl rfl dX2_doSane_4 ?_
  refine lv_iconst (v := (0 : Int32)) hx hb dX2_doSane_7 (by decide) ?_
  refine lv_dup2_11 hx hb dX2_doSane_8 rfl rfl ?_
  refine sn_aldc (k := 0) C hP (o0 + 33 + 1) (sn_l hO0.2.2.2.2.1 (by decide)) hO0.2.2.2.2.2.2.1 (by decide +kernel) dX2_doSane_9 ?_
  refine lv_iconst (v := (1 : Int32)) hx hb dX2_doSane_10 (by decide) ?_
  refine lv_iadd hx hb dX2_doSane_11 ?_
  refine sn_astc (k := 0) C hP hS (o0 + 33 + 1) (sn_l hO0.2.2.2.2.1 (by decide)) hO0.2.2.2.2.2.2.1 (by decide +kernel) dX2_doSane_12 (fun H locs hP hS => ?_)
  refine lv_aload_n hx hb dX2_doSane_13 rfl (lv_at hl 0 rfl) ?_
  refine sn_get (ci := 0) (Cn := RX0) (T := TX0) (n := 9) (v := .ref (g.2.2.2 (o0 + 4))) C hinX0 hP o0 (sn_l0 hO0.1 (by decide)) hO0.2.1 rfl 1 (by decide) (by decide +kernel) rfl rfl dX2_doSane_14 ?_
  refine sn_get (ci := 1) (Cn := RX1) (T := TX1) (n := 4) (v := .ref (g.2.2.2 (o0 + 4 + 14))) C hinX1 hP (o0 + 4) (sn_l0 hO0.2.2.2.1.1 (by decide)) hO0.2.2.2.1.2.1 rfl 1 (by decide) (by decide +kernel) rfl rfl dX2_doSane_17 ?_
  refine lv_iload_n hx hb dX2_doSane_20 rfl (lv_at hl 1 rfl) ?_
  refine sn_aald C hP (o0 + 4 + 14) (sn_l hO0.2.2.2.1.1 (by decide)) hO0.2.2.2.1.2.2.2.2.1 hd dX2_doSane_21 (fun k1 hk1 hd => ?_)
  refine lv_iconst (v := (0 : Int32)) hx hb dX2_doSane_22 (by decide) ?_
  refine lv_aload_n hx hb dX2_doSane_23 rfl (lv_at hl 0 rfl) ?_
  refine sn_get (ci := 0) (Cn := RX0) (T := TX0) (n := 9) (v := .ref (g.2.2.2 (o0 + 4))) C hinX0 hP o0 (sn_l0 hO0.1 (by decide)) hO0.2.1 rfl 1 (by decide) (by decide +kernel) rfl rfl dX2_doSane_24 ?_
  refine sn_get (ci := 1) (Cn := RX1) (T := TX1) (n := 4) (v := .ref (g.2.2.2 (o0 + 4 + 1))) C hinX1 hP (o0 + 4) (sn_l0 hO0.2.2.2.1.1 (by decide)) hO0.2.2.2.1.2.1 rfl 0 (by decide) (by decide +kernel) rfl rfl dX2_doSane_27 ?_
  refine lv_iload_n hx hb dX2_doSane_30 rfl (lv_at hl 1 rfl) ?_
  refine sn_aald C hP (o0 + 4 + 1) (sn_l hO0.2.2.2.1.1 (by decide)) hO0.2.2.2.1.2.2.1 hd dX2_doSane_31 (fun k2 hk2 hd => ?_)
  refine lv_iconst (v := (0 : Int32)) hx hb dX2_doSane_32 (by decide) ?_
  refine lv_bipush (v := (17 : Int32)) hx hb dX2_doSane_33 (by decide) ?_
  refine sn_acp (n := 17) C (by decide +kernel) (by decide +kernel) (by decide +kernel) (by decide +kernel) hP hS (o0 + 4 + 14 + 1 + k1) (hO0.2.2.2.1.2.2.2.2.2.1 k1 hk1).2 (hO0.2.2.2.1.2.2.2.2.2.1 k1 hk1).1 (o0 + 4 + 1 + 1 + k2) (hO0.2.2.2.1.2.2.2.1 k2 hk2).2 (hO0.2.2.2.1.2.2.2.1 k2 hk2).1 (by decide) (by decide) (by decide) (by decide) hl.1 (Nat.le_of_ble_eq_true rfl) (Nat.le_of_ble_eq_true rfl) dX2_doSane_35 (fun H locs hP hS => ?_)
  cases hd
  exact sn_rv C hP hS dX2_doSane_38

set_option maxHeartbeats 4000000 in
set_option maxRecDepth 100000 in
theorem c_X2_doTree {l : Launch} {g : sn_G} {tb : Nat → sn_K} {N : Nat} (hi : sn_I g N) {o0 : Nat} {x1 : Int32} (hO0 : sn_Ne tb N o0) {st : sn_S} {o : sn_S} (hd : D_X2_doTree o0 x1 st = some o) : sn_Mv l yX2_doTree wsX2_doTree { frames := 2, cells := 0, slots := 0, locals := 55 } g tb N [.ref (g.2.2.2 o0), .int x1] st o := by
  refine sn_Mv.of (cc := cX2_doTree) (nL := 3) (ret := none) hi (by decide) rfl (Nat.le_of_ble_eq_true rfl) ?_
  intro p e s m args below meth c ls C hP hS hl
  have hl : lv_has ls 3 [(0, .ref (g.2.2.2 o0)), (1, .int x1)] := hl
  obtain ⟨⟨hx, hb, hml, hown, hts⟩, hr, hlk, hC, hi⟩ := id C
  unfold D_X2_doTree at hd
  have hinX0 : ∀ w ∈ wsX00, w ∈ wsX2_doTree := by decide +kernel
  have hinX1 : ∀ w ∈ wsX10, w ∈ wsX2_doTree := by decide +kernel
  have hinX4 : ∀ w ∈ wsX40, w ∈ wsX2_doTree := by decide +kernel
  refine lv_aload_n hx hb dX2_doTree_0 rfl (lv_at hl 0 rfl) ?_
  refine sn_get (ci := 0) (Cn := RX0) (T := TX0) (n := 9) (v := .ref (g.2.2.2 (o0 + 33))) C hinX0 hP o0 (sn_l0 hO0.1 (by decide)) hO0.2.1 rfl 2 (by decide) (by decide +kernel) rfl rfl dX2_doTree_1 ?_
  refine sn_get (ci := 3) (Cn := RX4) (T := TX4) (n := 6) (v := .ref (g.2.2.2 (o0 + 33 + 1))) C hinX4 hP (o0 + 33) (sn_l0 hO0.2.2.2.2.1 (by decide)) hO0.2.2.2.2.2.1 rfl 4 (by decide) (by decide +kernel) rfl rfl dX2_doTree_4 ?_
  refine lv_iconst (v := (1 : Int32)) hx hb dX2_doTree_7 (by decide) ?_
  refine lv_dup2_11 hx hb dX2_doTree_8 rfl rfl ?_
  refine sn_aldc (k := 1) C hP (o0 + 33 + 1) (sn_l hO0.2.2.2.2.1 (by decide)) hO0.2.2.2.2.2.2.1 (by decide +kernel) dX2_doTree_9 ?_
  refine lv_iconst (v := (1 : Int32)) hx hb dX2_doTree_10 (by decide) ?_
  refine lv_iadd hx hb dX2_doTree_11 ?_
  refine sn_astc (k := 1) C hP hS (o0 + 33 + 1) (sn_l hO0.2.2.2.2.1 (by decide)) hO0.2.2.2.2.2.2.1 (by decide +kernel) dX2_doTree_12 (fun H locs hP hS => ?_)
  refine lv_aload_n hx hb dX2_doTree_13 rfl (lv_at hl 0 rfl) ?_
  refine lv_iload_n hx hb dX2_doTree_14 rfl (lv_at hl 1 rfl) ?_
  obtain ⟨r1, hr1, hd⟩ := Option.bind_eq_some_iff.mp hd
  refine sn_Si (rest := []) (As := [.ref (g.2.2.2 o0), .int x1]) (st := (sn_wr st (o0 + 33 + 1) 1 ((st.1 (o0 + 33 + 1) 1) + (1 : Int32)))) C (c_X2_parentToBe hi hO0 hr1) (va_cwS 2 hts gX2_doTree_X2_parentToBe rfl rfl rfl (by decide +kernel) ⟨Nat.le_of_ble_eq_true rfl, Nat.le_of_ble_eq_true rfl⟩) hP hS rfl hl.1 rfl (Nat.le_of_ble_eq_true rfl) dX2_doTree_15 (fun H locs hP hS => ?_)
  refine lv_istore_n (lv' := [(2, .int r1), (0, .ref (g.2.2.2 o0)), (1, .int x1)]) hx hb dX2_doTree_18 rfl hl (by decide) rfl (fun ls hl => ?_)
  refine lv_aload_n hx hb dX2_doTree_19 rfl (lv_at hl 1 rfl) ?_
  refine sn_get (ci := 0) (Cn := RX0) (T := TX0) (n := 9) (v := .ref (g.2.2.2 (o0 + 4))) C hinX0 hP o0 (sn_l0 hO0.1 (by decide)) hO0.2.1 rfl 1 (by decide) (by decide +kernel) rfl rfl dX2_doTree_20 ?_
  refine sn_get (ci := 1) (Cn := RX1) (T := TX1) (n := 4) (v := .ref (g.2.2.2 (o0 + 4 + 1))) C hinX1 hP (o0 + 4) (sn_l0 hO0.2.2.2.1.1 (by decide)) hO0.2.2.2.1.2.1 rfl 0 (by decide) (by decide +kernel) rfl rfl dX2_doTree_23 ?_
  refine lv_iload_n hx hb dX2_doTree_26 rfl (lv_at hl 2 rfl) ?_
  refine sn_aald C hP (o0 + 4 + 1) (sn_l hO0.2.2.2.1.1 (by decide)) hO0.2.2.2.1.2.2.1 hd dX2_doTree_27 (fun k2 hk2 hd => ?_)
  refine lv_iconst (v := (1 : Int32)) hx hb dX2_doTree_28 (by decide) ?_
  refine lv_iload_n hx hb dX2_doTree_29 rfl (lv_at hl 0 rfl) ?_
  refine sn_astc (k := 1) C hP hS (o0 + 4 + 1 + 1 + k2) (hO0.2.2.2.1.2.2.2.1 k2 hk2).2 (hO0.2.2.2.1.2.2.2.1 k2 hk2).1 (by decide +kernel) dX2_doTree_30 (fun H locs hP hS => ?_)
  refine lv_aload_n hx hb dX2_doTree_31 rfl (lv_at hl 1 rfl) ?_
  refine sn_get (ci := 0) (Cn := RX0) (T := TX0) (n := 9) (v := .ref (g.2.2.2 (o0 + 4))) C hinX0 hP o0 (sn_l0 hO0.1 (by decide)) hO0.2.1 rfl 1 (by decide) (by decide +kernel) rfl rfl dX2_doTree_32 ?_
  refine sn_get (ci := 1) (Cn := RX1) (T := TX1) (n := 4) (v := .ref (g.2.2.2 (o0 + 4 + 1))) C hinX1 hP (o0 + 4) (sn_l0 hO0.2.2.2.1.1 (by decide)) hO0.2.2.2.1.2.1 rfl 0 (by decide) (by decide +kernel) rfl rfl dX2_doTree_35 ?_
  refine lv_iload_n hx hb dX2_doTree_38 rfl (lv_at hl 2 rfl) ?_
  refine sn_aald C hP (o0 + 4 + 1) (sn_l hO0.2.2.2.1.1 (by decide)) hO0.2.2.2.1.2.2.1 hd dX2_doTree_39 (fun k3 hk3 hd => ?_)
  refine lv_iconst (v := (0 : Int32)) hx hb dX2_doTree_40 (by decide) ?_
  refine lv_aload_n hx hb dX2_doTree_41 rfl (lv_at hl 1 rfl) ?_
  refine lv_iload_n hx hb dX2_doTree_42 rfl (lv_at hl 2 rfl) ?_
  refine lv_iload_n hx hb dX2_doTree_43 rfl (lv_at hl 0 rfl) ?_
  obtain ⟨r4, hr4, hd⟩ := Option.bind_eq_some_iff.mp hd
  refine sn_Si (rest := [.int (0 : Int32), .ref (g.2.2.2 (o0 + 4 + 1 + 1 + k3))]) (As := [.ref (g.2.2.2 o0), .int x1, .int r1]) (st := (sn_wr (sn_wr st (o0 + 33 + 1) 1 ((st.1 (o0 + 33 + 1) 1) + (1 : Int32))) (o0 + 4 + 1 + 1 + k2) 1 r1)) C (c_X2_distToBe hi hO0 hr4) (va_cwS 3 hts gX2_doTree_X2_distToBe rfl rfl rfl (by decide +kernel) ⟨Nat.le_of_ble_eq_true rfl, Nat.le_of_ble_eq_true rfl⟩) hP hS rfl hl.1 rfl (Nat.le_of_ble_eq_true rfl) dX2_doTree_44 (fun H locs hP hS => ?_)
  refine sn_astc (k := 0) C hP hS (o0 + 4 + 1 + 1 + k3) (hO0.2.2.2.1.2.2.2.1 k3 hk3).2 (hO0.2.2.2.1.2.2.2.1 k3 hk3).1 (by decide +kernel) dX2_doTree_47 (fun H locs hP hS => ?_)
  cases hd
  exact sn_rv C hP hS dX2_doTree_48

set_option maxHeartbeats 4000000 in
set_option maxRecDepth 100000 in
theorem t_X2_sumToBe_L14 {p : Program} {l : Launch} {e : Env} {s : State} {m : MethodId} {args : Array Value} {below : List Frame} {meth : Method} {c : Code} {g : sn_G} {tb : Nat → sn_K} {N : Nat} {o0 : Nat} {x1 : Int32} {st : sn_S} {o : Int32} (C : sn_Cx p s m args meth c g N cX2_sumToBe 4 wsX2_sumToBe yX2_sumToBe.cls (some .int)) (hO0 : sn_Ne tb N o0)  : ∀ (n : Nat) (x2 : Int32) (x3 : Int32) (H : Heap) (locs : List Loc) (ls : Array Slot), D_X2_sumToBe_L14 o0 x1 st n x2 x3 = some o → va_P g.1 vwCl (sn_W g tb N st) H → va_S (sn_A g N) s.heap H locs → lv_has ls 4 [(0, .ref (g.2.2.2 o0)), (1, .int x1), (2, .int x2), (3, .int x3)] → W p l e { frames := 1, cells := 0, slots := 0, locals := 21 } s m args below meth c H locs 0 0 (MQ below (sn_Qi g tb N o st) args s 0 0 (sn_A g N)) (F0 m 14 ls []) := by
  obtain ⟨⟨hx, hb, hml, hown, hts⟩, hr, hlk, hC, hi⟩ := id C
  have hinX0 : ∀ w ∈ wsX00, w ∈ wsX2_sumToBe := by decide +kernel
  have hinX1 : ∀ w ∈ wsX10, w ∈ wsX2_sumToBe := by decide +kernel
  have hinX3 : ∀ w ∈ wsX30, w ∈ wsX2_sumToBe := by decide +kernel
  intro n
  induction n with
  | zero => intro _ _ _ _ _ hd; exact nomatch (show (none : Option (Int32)) = some o from hd)
  | succ n ih =>
    intro x2 x3 H locs ls hd hP hS hl
    replace hd := (D_X2_sumToBe_L14.eq_2 _ _ _ _ _ _).symm.trans hd
    refine lv_iload_n hx hb dX2_sumToBe_14 rfl (lv_at hl 3 rfl) ?_
    refine lv_aload_n hx hb dX2_sumToBe_15 rfl (lv_at hl 0 rfl) ?_
    refine sn_get (ci := 0) (Cn := RX0) (T := TX0) (n := 9) (v := .ref (g.2.2.2 (o0 + 1))) C hinX0 hP o0 (sn_l0 hO0.1 (by decide)) hO0.2.1 rfl 0 (by decide) (by decide +kernel) rfl rfl dX2_sumToBe_16 ?_
    refine sn_get (ci := 2) (Cn := RX3) (T := TX3) (n := 3) (v := .int (st.1 (o0 + 1) 0)) C hinX3 hP (o0 + 1) (sn_l0 hO0.2.2.1.1 (by decide)) hO0.2.2.1.2.1 rfl 0 (by decide) (by decide +kernel) rfl rfl dX2_sumToBe_19 ?_
    refine lv_icmp_ge (tgt := 61) hx hb dX2_sumToBe_22 (by decide) (fun hc => ?_) (fun hc => ?_)
    · replace hd := (if_pos hc).symm.trans hd
      refine lv_iload_n hx hb dX2_sumToBe_61 rfl (lv_at hl 2 rfl) ?_
      cases hd
      exact sn_ri C hP hS dX2_sumToBe_62
    · replace hd := (if_neg hc).symm.trans hd
      refine lv_aload_n hx hb dX2_sumToBe_25 rfl (lv_at hl 0 rfl) ?_
      refine sn_get (ci := 0) (Cn := RX0) (T := TX0) (n := 9) (v := .ref (g.2.2.2 (o0 + 4))) C hinX0 hP o0 (sn_l0 hO0.1 (by decide)) hO0.2.1 rfl 1 (by decide) (by decide +kernel) rfl rfl dX2_sumToBe_26 ?_
      refine sn_get (ci := 1) (Cn := RX1) (T := TX1) (n := 4) (v := .ref (g.2.2.2 (o0 + 4 + 27))) C hinX1 hP (o0 + 4) (sn_l0 hO0.2.2.2.1.1 (by decide)) hO0.2.2.2.1.2.1 rfl 2 (by decide) (by decide +kernel) rfl rfl dX2_sumToBe_29 ?_
      refine lv_iload_n hx hb dX2_sumToBe_32 rfl (lv_at hl 1 rfl) ?_
      refine sn_ald C hP (o0 + 4 + 27) (sn_l hO0.2.2.2.1.1 (by decide)) hO0.2.2.2.1.2.2.2.2.2.2.1 hd dX2_sumToBe_33 (fun k2 hk2 hd => ?_)
      refine lv_iload_n hx hb dX2_sumToBe_34 rfl (lv_at hl 3 rfl) ?_
      obtain ⟨r3, hr3, hd⟩ := Option.bind_eq_some_iff.mp hd
      refine sn_Ni (host := RX5) (rest := []) (As := [.int (st.1 (o0 + 4 + 27) k2), .int x3]) (st := st) C (c_X5_has hi  hr3) ⟨va_cnB 2 hts gX2_sumToBe_X5_has_n116 rfl rfl rfl (hC.2 _ (by decide +kernel)) (hts (.initialized RX5) (by decide +kernel)) (by decide +kernel) ⟨Nat.le_of_ble_eq_true rfl, Nat.le_of_ble_eq_true rfl⟩, hts (.static yX5_has) (by decide +kernel), trivial⟩ hP hS rfl hl.1 rfl (Nat.le_of_ble_eq_true rfl) dX2_sumToBe_35 (fun H locs hP hS => ?_)
      refine lv_if_eq (tgt := 55) hx hb dX2_sumToBe_38 (by decide) (fun hc => ?_) (fun hc => ?_)
      · replace hd := (if_pos hc).symm.trans hd
        refine lv_iinc (v := (x3 + (1 : Int32))) (lv' := [(3, .int (x3 + (1 : Int32))), (0, .ref (g.2.2.2 o0)), (1, .int x1), (2, .int x2)]) hx hb dX2_sumToBe_55 hl (k := 3) rfl rfl (by decide) rfl (fun ls hl => ?_)
        refine lv_goto (tgt := 14) hx hb dX2_sumToBe_58 (by decide) ?_
        exact ih x2 (x3 + (1 : Int32)) _ _ _ hd hP hS (lv_sub hl [1, 2, 3, 0] rfl)
      · replace hd := (if_neg hc).symm.trans hd
        refine lv_iload_n hx hb dX2_sumToBe_41 rfl (lv_at hl 2 rfl) ?_
        refine lv_aload_n hx hb dX2_sumToBe_42 rfl (lv_at hl 0 rfl) ?_
        refine sn_get (ci := 0) (Cn := RX0) (T := TX0) (n := 9) (v := .ref (g.2.2.2 (o0 + 4))) C hinX0 hP o0 (sn_l0 hO0.1 (by decide)) hO0.2.1 rfl 1 (by decide) (by decide +kernel) rfl rfl dX2_sumToBe_43 ?_
        refine sn_get (ci := 1) (Cn := RX1) (T := TX1) (n := 4) (v := .ref (g.2.2.2 (o0 + 4 + 14))) C hinX1 hP (o0 + 4) (sn_l0 hO0.2.2.2.1.1 (by decide)) hO0.2.2.2.1.2.1 rfl 1 (by decide) (by decide +kernel) rfl rfl dX2_sumToBe_46 ?_
        refine lv_iload_n hx hb dX2_sumToBe_49 rfl (lv_at hl 3 rfl) ?_
        refine sn_aald C hP (o0 + 4 + 14) (sn_l hO0.2.2.2.1.1 (by decide)) hO0.2.2.2.1.2.2.2.2.1 hd dX2_sumToBe_50 (fun k4 hk4 hd => ?_)
        refine lv_iconst (v := (3 : Int32)) hx hb dX2_sumToBe_51 (by decide) ?_
        refine sn_aldc (k := 3) C hP (o0 + 4 + 14 + 1 + k4) (hO0.2.2.2.1.2.2.2.2.2.1 k4 hk4).2 (hO0.2.2.2.1.2.2.2.2.2.1 k4 hk4).1 (by decide +kernel) dX2_sumToBe_52 ?_
        refine lv_iadd hx hb dX2_sumToBe_53 ?_
        refine lv_istore_n (lv' := [(2, .int (x2 + (st.1 (o0 + 4 + 14 + 1 + k4) 3))), (0, .ref (g.2.2.2 o0)), (1, .int x1), (3, .int x3)]) hx hb dX2_sumToBe_54 rfl hl (by decide) rfl (fun ls hl => ?_)
        refine lv_iinc (v := (x3 + (1 : Int32))) (lv' := [(3, .int (x3 + (1 : Int32))), (2, .int (x2 + (st.1 (o0 + 4 + 14 + 1 + k4) 3))), (0, .ref (g.2.2.2 o0)), (1, .int x1)]) hx hb dX2_sumToBe_55 hl (k := 3) rfl rfl (by decide) rfl (fun ls hl => ?_)
        refine lv_goto (tgt := 14) hx hb dX2_sumToBe_58 (by decide) ?_
        exact ih (x2 + (st.1 (o0 + 4 + 14 + 1 + k4) 3)) (x3 + (1 : Int32)) _ _ _ hd hP hS (lv_sub hl [2, 3, 1, 0] rfl)

set_option maxHeartbeats 4000000 in
set_option maxRecDepth 100000 in
theorem c_X2_sumToBe {l : Launch} {g : sn_G} {tb : Nat → sn_K} {N : Nat} (hi : sn_I g N) {o0 : Nat} {x1 : Int32} (hO0 : sn_Ne tb N o0) {st : sn_S} {o : Int32} (hd : D_X2_sumToBe o0 x1 st = some o) : sn_Mi l yX2_sumToBe wsX2_sumToBe { frames := 1, cells := 0, slots := 0, locals := 21 } g tb N [.ref (g.2.2.2 o0), .int x1] st o st := by
  refine sn_Mi.of (cc := cX2_sumToBe) (nL := 4) (ret := (some .int)) hi (by decide) rfl (Nat.le_of_ble_eq_true rfl) ?_
  intro p e s m args below meth c ls C hP hS hl
  have hl : lv_has ls 4 [(0, .ref (g.2.2.2 o0)), (1, .int x1)] := hl
  obtain ⟨⟨hx, hb, hml, hown, hts⟩, hr, hlk, hC, hi⟩ := id C
  unfold D_X2_sumToBe at hd
  have hinX0 : ∀ w ∈ wsX00, w ∈ wsX2_sumToBe := by decide +kernel
  have hinX1 : ∀ w ∈ wsX10, w ∈ wsX2_sumToBe := by decide +kernel
  have hinX3 : ∀ w ∈ wsX30, w ∈ wsX2_sumToBe := by decide +kernel
  refine lv_aload_n hx hb dX2_sumToBe_0 rfl (lv_at hl 0 rfl) ?_
  refine sn_get (ci := 0) (Cn := RX0) (T := TX0) (n := 9) (v := .ref (g.2.2.2 (o0 + 4))) C hinX0 hP o0 (sn_l0 hO0.1 (by decide)) hO0.2.1 rfl 1 (by decide) (by decide +kernel) rfl rfl dX2_sumToBe_1 ?_
  refine sn_get (ci := 1) (Cn := RX1) (T := TX1) (n := 4) (v := .ref (g.2.2.2 (o0 + 4 + 14))) C hinX1 hP (o0 + 4) (sn_l0 hO0.2.2.2.1.1 (by decide)) hO0.2.2.2.1.2.1 rfl 1 (by decide) (by decide +kernel) rfl rfl dX2_sumToBe_4 ?_
  refine lv_iload_n hx hb dX2_sumToBe_7 rfl (lv_at hl 1 rfl) ?_
  refine sn_aald C hP (o0 + 4 + 14) (sn_l hO0.2.2.2.1.1 (by decide)) hO0.2.2.2.1.2.2.2.2.1 hd dX2_sumToBe_8 (fun k1 hk1 hd => ?_)
  refine lv_iconst (v := (4 : Int32)) hx hb dX2_sumToBe_9 (by decide) ?_
  refine sn_aldc (k := 4) C hP (o0 + 4 + 14 + 1 + k1) (hO0.2.2.2.1.2.2.2.2.2.1 k1 hk1).2 (hO0.2.2.2.1.2.2.2.2.2.1 k1 hk1).1 (by decide +kernel) dX2_sumToBe_10 ?_
  refine lv_istore_n (lv' := [(2, .int (st.1 (o0 + 4 + 14 + 1 + k1) 4)), (0, .ref (g.2.2.2 o0)), (1, .int x1)]) hx hb dX2_sumToBe_11 rfl hl (by decide) rfl (fun ls hl => ?_)
  refine lv_iconst (v := (0 : Int32)) hx hb dX2_sumToBe_12 (by decide) ?_
  refine lv_istore_n (lv' := [(3, .int (0 : Int32)), (2, .int (st.1 (o0 + 4 + 14 + 1 + k1) 4)), (0, .ref (g.2.2.2 o0)), (1, .int x1)]) hx hb dX2_sumToBe_13 rfl hl (by decide) rfl (fun ls hl => ?_)
  exact t_X2_sumToBe_L14 (st := st) C hO0 4096 (st.1 (o0 + 4 + 14 + 1 + k1) 4) (0 : Int32) _ _ _ hd hP hS (lv_sub hl [2, 3, 1, 0] rfl)

set_option maxHeartbeats 4000000 in
set_option maxRecDepth 100000 in
theorem c_X2_doWave {l : Launch} {g : sn_G} {tb : Nat → sn_K} {N : Nat} (hi : sn_I g N) {o0 : Nat} {x1 : Int32} (hO0 : sn_Ne tb N o0) {st : sn_S} {o : sn_S} (hd : D_X2_doWave o0 x1 st = some o) : sn_Mv l yX2_doWave wsX2_doWave { frames := 3, cells := 0, slots := 0, locals := 67 } g tb N [.ref (g.2.2.2 o0), .int x1] st o := by
  refine sn_Mv.of (cc := cX2_doWave) (nL := 5) (ret := none) hi (by decide) rfl (Nat.le_of_ble_eq_true rfl) ?_
  intro p e s m args below meth c ls C hP hS hl
  have hl : lv_has ls 5 [(0, .ref (g.2.2.2 o0)), (1, .int x1)] := hl
  obtain ⟨⟨hx, hb, hml, hown, hts⟩, hr, hlk, hC, hi⟩ := id C
  unfold D_X2_doWave at hd
  have hinX0 : ∀ w ∈ wsX00, w ∈ wsX2_doWave := by decide +kernel
  have hinX1 : ∀ w ∈ wsX10, w ∈ wsX2_doWave := by decide +kernel
  have hinX4 : ∀ w ∈ wsX40, w ∈ wsX2_doWave := by decide +kernel
  refine lv_aload_n hx hb dX2_doWave_0 rfl (lv_at hl 0 rfl) ?_
  refine sn_get (ci := 0) (Cn := RX0) (T := TX0) (n := 9) (v := .ref (g.2.2.2 (o0 + 4))) C hinX0 hP o0 (sn_l0 hO0.1 (by decide)) hO0.2.1 rfl 1 (by decide) (by decide +kernel) rfl rfl dX2_doWave_1 ?_
  refine sn_get (ci := 1) (Cn := RX1) (T := TX1) (n := 4) (v := .ref (g.2.2.2 (o0 + 4 + 14))) C hinX1 hP (o0 + 4) (sn_l0 hO0.2.2.2.1.1 (by decide)) hO0.2.2.2.1.2.1 rfl 1 (by decide) (by decide +kernel) rfl rfl dX2_doWave_4 ?_
  refine lv_iload_n hx hb dX2_doWave_7 rfl (lv_at hl 1 rfl) ?_
  refine sn_aald C hP (o0 + 4 + 14) (sn_l hO0.2.2.2.1.1 (by decide)) hO0.2.2.2.1.2.2.2.2.1 hd dX2_doWave_8 (fun k1 hk1 hd => ?_)
  refine lv_iconst (v := (2 : Int32)) hx hb dX2_doWave_9 (by decide) ?_
  refine sn_aldc (k := 2) C hP (o0 + 4 + 14 + 1 + k1) (hO0.2.2.2.1.2.2.2.2.2.1 k1 hk1).2 (hO0.2.2.2.1.2.2.2.2.2.1 k1 hk1).1 (by decide +kernel) dX2_doWave_10 ?_
  refine lv_istore_n (lv' := [(2, .int (st.1 (o0 + 4 + 14 + 1 + k1) 2)), (0, .ref (g.2.2.2 o0)), (1, .int x1)]) hx hb dX2_doWave_11 rfl hl (by decide) rfl (fun ls hl => ?_)
  refine lv_aload_n hx hb dX2_doWave_12 rfl (lv_at hl 1 rfl) ?_
  refine lv_iload_n hx hb dX2_doWave_13 rfl (lv_at hl 2 rfl) ?_
  obtain ⟨r2, hr2, hd⟩ := Option.bind_eq_some_iff.mp hd
  refine sn_Si (rest := []) (As := [.ref (g.2.2.2 o0), .int x1]) (st := st) C (c_X2_phaseToBe hi hO0 hr2) (va_cwS 2 hts gX2_doWave_X2_phaseToBe rfl rfl rfl (by decide +kernel) ⟨Nat.le_of_ble_eq_true rfl, Nat.le_of_ble_eq_true rfl⟩) hP hS rfl hl.1 rfl (Nat.le_of_ble_eq_true rfl) dX2_doWave_14 (fun H locs hP hS => ?_)
  refine lv_istore_n (lv' := [(3, .int r2), (2, .int (st.1 (o0 + 4 + 14 + 1 + k1) 2)), (0, .ref (g.2.2.2 o0)), (1, .int x1)]) hx hb dX2_doWave_17 rfl hl (by decide) rfl (fun ls hl => ?_)
  refine lv_iload_n hx hb dX2_doWave_18 rfl (lv_at hl 0 rfl) ?_
  refine lv_iload_n hx hb dX2_doWave_19 rfl (lv_at hl 1 rfl) ?_
  refine lv_icmp_ne (tgt := 24) hx hb dX2_doWave_20 (by decide) (fun hc => ?_) (fun hc => ?_)
  · replace hd := (if_neg hc).symm.trans hd
    refine lv_aload_n hx hb dX2_doWave_24 rfl (lv_at hl 2 rfl) ?_
    refine sn_get (ci := 0) (Cn := RX0) (T := TX0) (n := 9) (v := .ref (g.2.2.2 (o0 + 33))) C hinX0 hP o0 (sn_l0 hO0.1 (by decide)) hO0.2.1 rfl 2 (by decide) (by decide +kernel) rfl rfl dX2_doWave_25 ?_
    refine sn_get (ci := 3) (Cn := RX4) (T := TX4) (n := 6) (v := .ref (g.2.2.2 (o0 + 33 + 1))) C hinX4 hP (o0 + 33) (sn_l0 hO0.2.2.2.2.1 (by decide)) hO0.2.2.2.2.2.1 rfl 4 (by decide) (by decide +kernel) rfl rfl dX2_doWave_28 ?_
    refine lv_iconst (v := (2 : Int32)) hx hb dX2_doWave_31 (by decide) ?_
    refine lv_dup2_11 hx hb dX2_doWave_32 rfl rfl ?_
    refine sn_aldc (k := 2) C hP (o0 + 33 + 1) (sn_l hO0.2.2.2.2.1 (by decide)) hO0.2.2.2.2.2.2.1 (by decide +kernel) dX2_doWave_33 ?_
    refine lv_iconst (v := (1 : Int32)) hx hb dX2_doWave_34 (by decide) ?_
    refine lv_iadd hx hb dX2_doWave_35 ?_
    refine sn_astc (k := 2) C hP hS (o0 + 33 + 1) (sn_l hO0.2.2.2.2.1 (by decide)) hO0.2.2.2.2.2.2.1 (by decide +kernel) dX2_doWave_36 (fun H locs hP hS => ?_)
    refine lv_aload_n hx hb dX2_doWave_37 rfl (lv_at hl 2 rfl) ?_
    refine sn_get (ci := 0) (Cn := RX0) (T := TX0) (n := 9) (v := .ref (g.2.2.2 (o0 + 4))) C hinX0 hP o0 (sn_l0 hO0.1 (by decide)) hO0.2.1 rfl 1 (by decide) (by decide +kernel) rfl rfl dX2_doWave_38 ?_
    refine sn_get (ci := 1) (Cn := RX1) (T := TX1) (n := 4) (v := .ref (g.2.2.2 (o0 + 4 + 1))) C hinX1 hP (o0 + 4) (sn_l0 hO0.2.2.2.1.1 (by decide)) hO0.2.2.2.1.2.1 rfl 0 (by decide) (by decide +kernel) rfl rfl dX2_doWave_41 ?_
    refine lv_iload_n hx hb dX2_doWave_44 rfl (lv_at hl 3 rfl) ?_
    refine sn_aald C hP (o0 + 4 + 1) (sn_l hO0.2.2.2.1.1 (by decide)) hO0.2.2.2.1.2.2.1 hd dX2_doWave_45 (fun k3 hk3 hd => ?_)
    refine lv_iconst (v := (2 : Int32)) hx hb dX2_doWave_46 (by decide) ?_
    refine lv_iload_n hx hb dX2_doWave_47 rfl (lv_at hl 0 rfl) ?_
    refine sn_astc (k := 2) C hP hS (o0 + 4 + 1 + 1 + k3) (hO0.2.2.2.1.2.2.2.1 k3 hk3).2 (hO0.2.2.2.1.2.2.2.1 k3 hk3).1 (by decide +kernel) dX2_doWave_48 (fun H locs hP hS => ?_)
    refine lv_iload_n hx hb dX2_doWave_49 rfl (lv_at hl 3 rfl) ?_
    refine lv_if_ne (tgt := 62) hx hb dX2_doWave_50 (by decide) (fun hc => ?_) (fun hc => ?_)
    · replace hd := (if_neg hc).symm.trans hd
      refine lv_iconst (v := (0 : Int32)) hx hb dX2_doWave_62 (by decide) ?_
      refine lv_istore (lv' := [(4, .int (0 : Int32)), (3, .int r2), (2, .int (st.1 (o0 + 4 + 14 + 1 + k1) 2)), (0, .ref (g.2.2.2 o0)), (1, .int x1)]) hx hb dX2_doWave_63 hl (by decide) rfl (fun ls hl => ?_)
      refine lv_iload hx hb dX2_doWave_65 (lv_at hl 0 rfl) ?_
      refine lv_if_ne (tgt := 75) hx hb dX2_doWave_67 (by decide) (fun hc => ?_) (fun hc => ?_)
      · replace hd := (if_neg hc).symm.trans hd
        refine lv_aload_n hx hb dX2_doWave_75 rfl (lv_at hl 3 rfl) ?_
        refine sn_get (ci := 0) (Cn := RX0) (T := TX0) (n := 9) (v := .ref (g.2.2.2 (o0 + 4))) C hinX0 hP o0 (sn_l0 hO0.1 (by decide)) hO0.2.1 rfl 1 (by decide) (by decide +kernel) rfl rfl dX2_doWave_76 ?_
        refine sn_get (ci := 1) (Cn := RX1) (T := TX1) (n := 4) (v := .ref (g.2.2.2 (o0 + 4 + 1))) C hinX1 hP (o0 + 4) (sn_l0 hO0.2.2.2.1.1 (by decide)) hO0.2.2.2.1.2.1 rfl 0 (by decide) (by decide +kernel) rfl rfl dX2_doWave_79 ?_
        refine lv_iload_n hx hb dX2_doWave_82 rfl (lv_at hl 4 rfl) ?_
        refine sn_aald C hP (o0 + 4 + 1) (sn_l hO0.2.2.2.1.1 (by decide)) hO0.2.2.2.1.2.2.1 hd dX2_doWave_83 (fun k4 hk4 hd => ?_)
        refine lv_iconst (v := (3 : Int32)) hx hb dX2_doWave_84 (by decide) ?_
        refine lv_aload_n hx hb dX2_doWave_85 rfl (lv_at hl 3 rfl) ?_
        refine lv_iload_n hx hb dX2_doWave_86 rfl (lv_at hl 4 rfl) ?_
        obtain ⟨r5, hr5, hd⟩ := Option.bind_eq_some_iff.mp hd
        refine sn_Si (rest := [.int (3 : Int32), .ref (g.2.2.2 (o0 + 4 + 1 + 1 + k4))]) (As := [.ref (g.2.2.2 o0), .int x1]) (st := (sn_wr (sn_wr st (o0 + 33 + 1) 2 ((st.1 (o0 + 33 + 1) 2) + (1 : Int32))) (o0 + 4 + 1 + 1 + k3) 2 r2)) C (c_X2_sumToBe hi hO0 hr5) (va_cwS 2 hts gX2_doWave_X2_sumToBe rfl rfl rfl (by decide +kernel) ⟨Nat.le_of_ble_eq_true rfl, Nat.le_of_ble_eq_true rfl⟩) hP hS rfl hl.1 rfl (Nat.le_of_ble_eq_true rfl) dX2_doWave_87 (fun H locs hP hS => ?_)
        refine sn_astc (k := 3) C hP hS (o0 + 4 + 1 + 1 + k4) (hO0.2.2.2.1.2.2.2.1 k4 hk4).2 (hO0.2.2.2.1.2.2.2.1 k4 hk4).1 (by decide +kernel) dX2_doWave_90 (fun H locs hP hS => ?_)
        refine lv_iload hx hb dX2_doWave_91 (lv_at hl 0 rfl) ?_
        refine lv_if_eq (tgt := 127) hx hb dX2_doWave_93 (by decide) (fun hc => ?_) (fun hc => ?_)
        · replace hd := (if_pos hc).symm.trans hd
          cases hd
          exact sn_rv C hP hS dX2_doWave_127
        · replace hd := (if_neg hc).symm.trans hd
          refine lv_aload_n hx hb dX2_doWave_96 rfl (lv_at hl 3 rfl) ?_
          refine sn_get (ci := 0) (Cn := RX0) (T := TX0) (n := 9) (v := .ref (g.2.2.2 (o0 + 33))) C hinX0 hP o0 (sn_l0 hO0.1 (by decide)) hO0.2.1 rfl 2 (by decide) (by decide +kernel) rfl rfl dX2_doWave_97 ?_
          refine lv_dup hx hb dX2_doWave_100 rfl ?_
          refine sn_get (ci := 3) (Cn := RX4) (T := TX4) (n := 6) (v := .int ((sn_wr (sn_wr (sn_wr st (o0 + 33 + 1) 2 ((st.1 (o0 + 33 + 1) 2) + (1 : Int32))) (o0 + 4 + 1 + 1 + k3) 2 r2) (o0 + 4 + 1 + 1 + k4) 3 r5).1 (o0 + 33) 2)) C hinX4 hP (o0 + 33) (sn_l0 hO0.2.2.2.2.1 (by decide)) hO0.2.2.2.2.2.1 rfl 2 (by decide) (by decide +kernel) rfl rfl dX2_doWave_101 ?_
          refine lv_iconst (v := (1 : Int32)) hx hb dX2_doWave_104 (by decide) ?_
          refine lv_iadd hx hb dX2_doWave_105 ?_
          refine sn_pf (ci := 3) (Cn := RX4) (T := TX4) (n := 6) (ty0 := tyX4) C hinX4 tyX4_ok nmX4 hP hS (o0 + 33) (sn_l0 hO0.2.2.2.2.1 (by decide)) hO0.2.2.2.2.2.1 rfl 2 (by decide) (by decide +kernel) rfl rfl rfl rfl rfl dX2_doWave_106 (fun H locs hP hS => ?_)
          refine lv_aload_n hx hb dX2_doWave_109 rfl (lv_at hl 3 rfl) ?_
          refine sn_get (ci := 0) (Cn := RX0) (T := TX0) (n := 9) (v := .ref (g.2.2.2 (o0 + 33))) C hinX0 hP o0 (sn_l0 hO0.1 (by decide)) hO0.2.1 rfl 2 (by decide) (by decide +kernel) rfl rfl dX2_doWave_110 ?_
          refine lv_aload_n hx hb dX2_doWave_113 rfl (lv_at hl 3 rfl) ?_
          refine sn_get (ci := 0) (Cn := RX0) (T := TX0) (n := 9) (v := .ref (g.2.2.2 (o0 + 4))) C hinX0 hP o0 (sn_l0 hO0.1 (by decide)) hO0.2.1 rfl 1 (by decide) (by decide +kernel) rfl rfl dX2_doWave_114 ?_
          refine sn_get (ci := 1) (Cn := RX1) (T := TX1) (n := 4) (v := .ref (g.2.2.2 (o0 + 4 + 1))) C hinX1 hP (o0 + 4) (sn_l0 hO0.2.2.2.1.1 (by decide)) hO0.2.2.2.1.2.1 rfl 0 (by decide) (by decide +kernel) rfl rfl dX2_doWave_117 ?_
          refine lv_iload_n hx hb dX2_doWave_120 rfl (lv_at hl 4 rfl) ?_
          refine sn_aald C hP (o0 + 4 + 1) (sn_l hO0.2.2.2.1.1 (by decide)) hO0.2.2.2.1.2.2.1 hd dX2_doWave_121 (fun k6 hk6 hd => ?_)
          refine lv_iconst (v := (3 : Int32)) hx hb dX2_doWave_122 (by decide) ?_
          refine sn_aldc (k := 3) C hP (o0 + 4 + 1 + 1 + k6) (hO0.2.2.2.1.2.2.2.1 k6 hk6).2 (hO0.2.2.2.1.2.2.2.1 k6 hk6).1 (by decide +kernel) dX2_doWave_123 ?_
          refine sn_pf (ci := 3) (Cn := RX4) (T := TX4) (n := 6) (ty0 := tyX4) C hinX4 tyX4_ok nmX4 hP hS (o0 + 33) (sn_l0 hO0.2.2.2.2.1 (by decide)) hO0.2.2.2.2.2.1 rfl 3 (by decide) (by decide +kernel) rfl rfl rfl rfl rfl dX2_doWave_124 (fun H locs hP hS => ?_)
          cases hd
          exact sn_rv C hP hS dX2_doWave_127
      · replace hd := (if_pos hc).symm.trans hd
        refine lv_iload_n hx hb dX2_doWave_70 rfl (lv_at hl 1 rfl) ?_
        refine lv_iconst (v := (2 : Int32)) hx hb dX2_doWave_71 (by decide) ?_
        refine lv_icmp_ne (tgt := 91) hx hb dX2_doWave_72 (by decide) (fun hc => ?_) (fun hc => ?_)
        · replace hd := (if_neg hc).symm.trans hd
          refine lv_iload hx hb dX2_doWave_91 (lv_at hl 0 rfl) ?_
          refine lv_if_eq (tgt := 127) hx hb dX2_doWave_93 (by decide) (fun hc => ?_) (fun hc => ?_)
          · replace hd := (if_pos hc).symm.trans hd
            cases hd
            exact sn_rv C hP hS dX2_doWave_127
          · replace hd := (if_neg hc).symm.trans hd
            refine lv_aload_n hx hb dX2_doWave_96 rfl (lv_at hl 3 rfl) ?_
            refine sn_get (ci := 0) (Cn := RX0) (T := TX0) (n := 9) (v := .ref (g.2.2.2 (o0 + 33))) C hinX0 hP o0 (sn_l0 hO0.1 (by decide)) hO0.2.1 rfl 2 (by decide) (by decide +kernel) rfl rfl dX2_doWave_97 ?_
            refine lv_dup hx hb dX2_doWave_100 rfl ?_
            refine sn_get (ci := 3) (Cn := RX4) (T := TX4) (n := 6) (v := .int ((sn_wr (sn_wr st (o0 + 33 + 1) 2 ((st.1 (o0 + 33 + 1) 2) + (1 : Int32))) (o0 + 4 + 1 + 1 + k3) 2 r2).1 (o0 + 33) 2)) C hinX4 hP (o0 + 33) (sn_l0 hO0.2.2.2.2.1 (by decide)) hO0.2.2.2.2.2.1 rfl 2 (by decide) (by decide +kernel) rfl rfl dX2_doWave_101 ?_
            refine lv_iconst (v := (1 : Int32)) hx hb dX2_doWave_104 (by decide) ?_
            refine lv_iadd hx hb dX2_doWave_105 ?_
            refine sn_pf (ci := 3) (Cn := RX4) (T := TX4) (n := 6) (ty0 := tyX4) C hinX4 tyX4_ok nmX4 hP hS (o0 + 33) (sn_l0 hO0.2.2.2.2.1 (by decide)) hO0.2.2.2.2.2.1 rfl 2 (by decide) (by decide +kernel) rfl rfl rfl rfl rfl dX2_doWave_106 (fun H locs hP hS => ?_)
            refine lv_aload_n hx hb dX2_doWave_109 rfl (lv_at hl 3 rfl) ?_
            refine sn_get (ci := 0) (Cn := RX0) (T := TX0) (n := 9) (v := .ref (g.2.2.2 (o0 + 33))) C hinX0 hP o0 (sn_l0 hO0.1 (by decide)) hO0.2.1 rfl 2 (by decide) (by decide +kernel) rfl rfl dX2_doWave_110 ?_
            refine lv_aload_n hx hb dX2_doWave_113 rfl (lv_at hl 3 rfl) ?_
            refine sn_get (ci := 0) (Cn := RX0) (T := TX0) (n := 9) (v := .ref (g.2.2.2 (o0 + 4))) C hinX0 hP o0 (sn_l0 hO0.1 (by decide)) hO0.2.1 rfl 1 (by decide) (by decide +kernel) rfl rfl dX2_doWave_114 ?_
            refine sn_get (ci := 1) (Cn := RX1) (T := TX1) (n := 4) (v := .ref (g.2.2.2 (o0 + 4 + 1))) C hinX1 hP (o0 + 4) (sn_l0 hO0.2.2.2.1.1 (by decide)) hO0.2.2.2.1.2.1 rfl 0 (by decide) (by decide +kernel) rfl rfl dX2_doWave_117 ?_
            refine lv_iload_n hx hb dX2_doWave_120 rfl (lv_at hl 4 rfl) ?_
            refine sn_aald C hP (o0 + 4 + 1) (sn_l hO0.2.2.2.1.1 (by decide)) hO0.2.2.2.1.2.2.1 hd dX2_doWave_121 (fun k7 hk7 hd => ?_)
            refine lv_iconst (v := (3 : Int32)) hx hb dX2_doWave_122 (by decide) ?_
            refine sn_aldc (k := 3) C hP (o0 + 4 + 1 + 1 + k7) (hO0.2.2.2.1.2.2.2.1 k7 hk7).2 (hO0.2.2.2.1.2.2.2.1 k7 hk7).1 (by decide +kernel) dX2_doWave_123 ?_
            refine sn_pf (ci := 3) (Cn := RX4) (T := TX4) (n := 6) (ty0 := tyX4) C hinX4 tyX4_ok nmX4 hP hS (o0 + 33) (sn_l0 hO0.2.2.2.2.1 (by decide)) hO0.2.2.2.2.2.1 rfl 3 (by decide) (by decide +kernel) rfl rfl rfl rfl rfl dX2_doWave_124 (fun H locs hP hS => ?_)
            cases hd
            exact sn_rv C hP hS dX2_doWave_127
        · replace hd := (if_pos hc).symm.trans hd
          refine lv_aload_n hx hb dX2_doWave_75 rfl (lv_at hl 3 rfl) ?_
          refine sn_get (ci := 0) (Cn := RX0) (T := TX0) (n := 9) (v := .ref (g.2.2.2 (o0 + 4))) C hinX0 hP o0 (sn_l0 hO0.1 (by decide)) hO0.2.1 rfl 1 (by decide) (by decide +kernel) rfl rfl dX2_doWave_76 ?_
          refine sn_get (ci := 1) (Cn := RX1) (T := TX1) (n := 4) (v := .ref (g.2.2.2 (o0 + 4 + 1))) C hinX1 hP (o0 + 4) (sn_l0 hO0.2.2.2.1.1 (by decide)) hO0.2.2.2.1.2.1 rfl 0 (by decide) (by decide +kernel) rfl rfl dX2_doWave_79 ?_
          refine lv_iload_n hx hb dX2_doWave_82 rfl (lv_at hl 4 rfl) ?_
          refine sn_aald C hP (o0 + 4 + 1) (sn_l hO0.2.2.2.1.1 (by decide)) hO0.2.2.2.1.2.2.1 hd dX2_doWave_83 (fun k8 hk8 hd => ?_)
          refine lv_iconst (v := (3 : Int32)) hx hb dX2_doWave_84 (by decide) ?_
          refine lv_aload_n hx hb dX2_doWave_85 rfl (lv_at hl 3 rfl) ?_
          refine lv_iload_n hx hb dX2_doWave_86 rfl (lv_at hl 4 rfl) ?_
          obtain ⟨r9, hr9, hd⟩ := Option.bind_eq_some_iff.mp hd
          refine sn_Si (rest := [.int (3 : Int32), .ref (g.2.2.2 (o0 + 4 + 1 + 1 + k8))]) (As := [.ref (g.2.2.2 o0), .int x1]) (st := (sn_wr (sn_wr st (o0 + 33 + 1) 2 ((st.1 (o0 + 33 + 1) 2) + (1 : Int32))) (o0 + 4 + 1 + 1 + k3) 2 r2)) C (c_X2_sumToBe hi hO0 hr9) (va_cwS 2 hts gX2_doWave_X2_sumToBe rfl rfl rfl (by decide +kernel) ⟨Nat.le_of_ble_eq_true rfl, Nat.le_of_ble_eq_true rfl⟩) hP hS rfl hl.1 rfl (Nat.le_of_ble_eq_true rfl) dX2_doWave_87 (fun H locs hP hS => ?_)
          refine sn_astc (k := 3) C hP hS (o0 + 4 + 1 + 1 + k8) (hO0.2.2.2.1.2.2.2.1 k8 hk8).2 (hO0.2.2.2.1.2.2.2.1 k8 hk8).1 (by decide +kernel) dX2_doWave_90 (fun H locs hP hS => ?_)
          refine lv_iload hx hb dX2_doWave_91 (lv_at hl 0 rfl) ?_
          refine lv_if_eq (tgt := 127) hx hb dX2_doWave_93 (by decide) (fun hc => ?_) (fun hc => ?_)
          · replace hd := (if_pos hc).symm.trans hd
            cases hd
            exact sn_rv C hP hS dX2_doWave_127
          · replace hd := (if_neg hc).symm.trans hd
            refine lv_aload_n hx hb dX2_doWave_96 rfl (lv_at hl 3 rfl) ?_
            refine sn_get (ci := 0) (Cn := RX0) (T := TX0) (n := 9) (v := .ref (g.2.2.2 (o0 + 33))) C hinX0 hP o0 (sn_l0 hO0.1 (by decide)) hO0.2.1 rfl 2 (by decide) (by decide +kernel) rfl rfl dX2_doWave_97 ?_
            refine lv_dup hx hb dX2_doWave_100 rfl ?_
            refine sn_get (ci := 3) (Cn := RX4) (T := TX4) (n := 6) (v := .int ((sn_wr (sn_wr (sn_wr st (o0 + 33 + 1) 2 ((st.1 (o0 + 33 + 1) 2) + (1 : Int32))) (o0 + 4 + 1 + 1 + k3) 2 r2) (o0 + 4 + 1 + 1 + k8) 3 r9).1 (o0 + 33) 2)) C hinX4 hP (o0 + 33) (sn_l0 hO0.2.2.2.2.1 (by decide)) hO0.2.2.2.2.2.1 rfl 2 (by decide) (by decide +kernel) rfl rfl dX2_doWave_101 ?_
            refine lv_iconst (v := (1 : Int32)) hx hb dX2_doWave_104 (by decide) ?_
            refine lv_iadd hx hb dX2_doWave_105 ?_
            refine sn_pf (ci := 3) (Cn := RX4) (T := TX4) (n := 6) (ty0 := tyX4) C hinX4 tyX4_ok nmX4 hP hS (o0 + 33) (sn_l0 hO0.2.2.2.2.1 (by decide)) hO0.2.2.2.2.2.1 rfl 2 (by decide) (by decide +kernel) rfl rfl rfl rfl rfl dX2_doWave_106 (fun H locs hP hS => ?_)
            refine lv_aload_n hx hb dX2_doWave_109 rfl (lv_at hl 3 rfl) ?_
            refine sn_get (ci := 0) (Cn := RX0) (T := TX0) (n := 9) (v := .ref (g.2.2.2 (o0 + 33))) C hinX0 hP o0 (sn_l0 hO0.1 (by decide)) hO0.2.1 rfl 2 (by decide) (by decide +kernel) rfl rfl dX2_doWave_110 ?_
            refine lv_aload_n hx hb dX2_doWave_113 rfl (lv_at hl 3 rfl) ?_
            refine sn_get (ci := 0) (Cn := RX0) (T := TX0) (n := 9) (v := .ref (g.2.2.2 (o0 + 4))) C hinX0 hP o0 (sn_l0 hO0.1 (by decide)) hO0.2.1 rfl 1 (by decide) (by decide +kernel) rfl rfl dX2_doWave_114 ?_
            refine sn_get (ci := 1) (Cn := RX1) (T := TX1) (n := 4) (v := .ref (g.2.2.2 (o0 + 4 + 1))) C hinX1 hP (o0 + 4) (sn_l0 hO0.2.2.2.1.1 (by decide)) hO0.2.2.2.1.2.1 rfl 0 (by decide) (by decide +kernel) rfl rfl dX2_doWave_117 ?_
            refine lv_iload_n hx hb dX2_doWave_120 rfl (lv_at hl 4 rfl) ?_
            refine sn_aald C hP (o0 + 4 + 1) (sn_l hO0.2.2.2.1.1 (by decide)) hO0.2.2.2.1.2.2.1 hd dX2_doWave_121 (fun k10 hk10 hd => ?_)
            refine lv_iconst (v := (3 : Int32)) hx hb dX2_doWave_122 (by decide) ?_
            refine sn_aldc (k := 3) C hP (o0 + 4 + 1 + 1 + k10) (hO0.2.2.2.1.2.2.2.1 k10 hk10).2 (hO0.2.2.2.1.2.2.2.1 k10 hk10).1 (by decide +kernel) dX2_doWave_123 ?_
            refine sn_pf (ci := 3) (Cn := RX4) (T := TX4) (n := 6) (ty0 := tyX4) C hinX4 tyX4_ok nmX4 hP hS (o0 + 33) (sn_l0 hO0.2.2.2.2.1 (by decide)) hO0.2.2.2.2.2.1 rfl 3 (by decide) (by decide +kernel) rfl rfl rfl rfl rfl dX2_doWave_124 (fun H locs hP hS => ?_)
            cases hd
            exact sn_rv C hP hS dX2_doWave_127
    · replace hd := (if_pos hc).symm.trans hd
      refine lv_iload_n hx hb dX2_doWave_53 rfl (lv_at hl 1 rfl) ?_
      refine lv_iconst (v := (1 : Int32)) hx hb dX2_doWave_54 (by decide) ?_
      refine lv_icmp_ne (tgt := 62) hx hb dX2_doWave_55 (by decide) (fun hc => ?_) (fun hc => ?_)
      · replace hd := (if_neg hc).symm.trans hd
        refine lv_iconst (v := (0 : Int32)) hx hb dX2_doWave_62 (by decide) ?_
        refine lv_istore (lv' := [(4, .int (0 : Int32)), (3, .int r2), (2, .int (st.1 (o0 + 4 + 14 + 1 + k1) 2)), (0, .ref (g.2.2.2 o0)), (1, .int x1)]) hx hb dX2_doWave_63 hl (by decide) rfl (fun ls hl => ?_)
        refine lv_iload hx hb dX2_doWave_65 (lv_at hl 0 rfl) ?_
        refine lv_if_ne (tgt := 75) hx hb dX2_doWave_67 (by decide) (fun hc => ?_) (fun hc => ?_)
        · replace hd := (if_neg hc).symm.trans hd
          refine lv_aload_n hx hb dX2_doWave_75 rfl (lv_at hl 3 rfl) ?_
          refine sn_get (ci := 0) (Cn := RX0) (T := TX0) (n := 9) (v := .ref (g.2.2.2 (o0 + 4))) C hinX0 hP o0 (sn_l0 hO0.1 (by decide)) hO0.2.1 rfl 1 (by decide) (by decide +kernel) rfl rfl dX2_doWave_76 ?_
          refine sn_get (ci := 1) (Cn := RX1) (T := TX1) (n := 4) (v := .ref (g.2.2.2 (o0 + 4 + 1))) C hinX1 hP (o0 + 4) (sn_l0 hO0.2.2.2.1.1 (by decide)) hO0.2.2.2.1.2.1 rfl 0 (by decide) (by decide +kernel) rfl rfl dX2_doWave_79 ?_
          refine lv_iload_n hx hb dX2_doWave_82 rfl (lv_at hl 4 rfl) ?_
          refine sn_aald C hP (o0 + 4 + 1) (sn_l hO0.2.2.2.1.1 (by decide)) hO0.2.2.2.1.2.2.1 hd dX2_doWave_83 (fun k11 hk11 hd => ?_)
          refine lv_iconst (v := (3 : Int32)) hx hb dX2_doWave_84 (by decide) ?_
          refine lv_aload_n hx hb dX2_doWave_85 rfl (lv_at hl 3 rfl) ?_
          refine lv_iload_n hx hb dX2_doWave_86 rfl (lv_at hl 4 rfl) ?_
          obtain ⟨r12, hr12, hd⟩ := Option.bind_eq_some_iff.mp hd
          refine sn_Si (rest := [.int (3 : Int32), .ref (g.2.2.2 (o0 + 4 + 1 + 1 + k11))]) (As := [.ref (g.2.2.2 o0), .int x1]) (st := (sn_wr (sn_wr st (o0 + 33 + 1) 2 ((st.1 (o0 + 33 + 1) 2) + (1 : Int32))) (o0 + 4 + 1 + 1 + k3) 2 r2)) C (c_X2_sumToBe hi hO0 hr12) (va_cwS 2 hts gX2_doWave_X2_sumToBe rfl rfl rfl (by decide +kernel) ⟨Nat.le_of_ble_eq_true rfl, Nat.le_of_ble_eq_true rfl⟩) hP hS rfl hl.1 rfl (Nat.le_of_ble_eq_true rfl) dX2_doWave_87 (fun H locs hP hS => ?_)
          refine sn_astc (k := 3) C hP hS (o0 + 4 + 1 + 1 + k11) (hO0.2.2.2.1.2.2.2.1 k11 hk11).2 (hO0.2.2.2.1.2.2.2.1 k11 hk11).1 (by decide +kernel) dX2_doWave_90 (fun H locs hP hS => ?_)
          refine lv_iload hx hb dX2_doWave_91 (lv_at hl 0 rfl) ?_
          refine lv_if_eq (tgt := 127) hx hb dX2_doWave_93 (by decide) (fun hc => ?_) (fun hc => ?_)
          · replace hd := (if_pos hc).symm.trans hd
            cases hd
            exact sn_rv C hP hS dX2_doWave_127
          · replace hd := (if_neg hc).symm.trans hd
            refine lv_aload_n hx hb dX2_doWave_96 rfl (lv_at hl 3 rfl) ?_
            refine sn_get (ci := 0) (Cn := RX0) (T := TX0) (n := 9) (v := .ref (g.2.2.2 (o0 + 33))) C hinX0 hP o0 (sn_l0 hO0.1 (by decide)) hO0.2.1 rfl 2 (by decide) (by decide +kernel) rfl rfl dX2_doWave_97 ?_
            refine lv_dup hx hb dX2_doWave_100 rfl ?_
            refine sn_get (ci := 3) (Cn := RX4) (T := TX4) (n := 6) (v := .int ((sn_wr (sn_wr (sn_wr st (o0 + 33 + 1) 2 ((st.1 (o0 + 33 + 1) 2) + (1 : Int32))) (o0 + 4 + 1 + 1 + k3) 2 r2) (o0 + 4 + 1 + 1 + k11) 3 r12).1 (o0 + 33) 2)) C hinX4 hP (o0 + 33) (sn_l0 hO0.2.2.2.2.1 (by decide)) hO0.2.2.2.2.2.1 rfl 2 (by decide) (by decide +kernel) rfl rfl dX2_doWave_101 ?_
            refine lv_iconst (v := (1 : Int32)) hx hb dX2_doWave_104 (by decide) ?_
            refine lv_iadd hx hb dX2_doWave_105 ?_
            refine sn_pf (ci := 3) (Cn := RX4) (T := TX4) (n := 6) (ty0 := tyX4) C hinX4 tyX4_ok nmX4 hP hS (o0 + 33) (sn_l0 hO0.2.2.2.2.1 (by decide)) hO0.2.2.2.2.2.1 rfl 2 (by decide) (by decide +kernel) rfl rfl rfl rfl rfl dX2_doWave_106 (fun H locs hP hS => ?_)
            refine lv_aload_n hx hb dX2_doWave_109 rfl (lv_at hl 3 rfl) ?_
            refine sn_get (ci := 0) (Cn := RX0) (T := TX0) (n := 9) (v := .ref (g.2.2.2 (o0 + 33))) C hinX0 hP o0 (sn_l0 hO0.1 (by decide)) hO0.2.1 rfl 2 (by decide) (by decide +kernel) rfl rfl dX2_doWave_110 ?_
            refine lv_aload_n hx hb dX2_doWave_113 rfl (lv_at hl 3 rfl) ?_
            refine sn_get (ci := 0) (Cn := RX0) (T := TX0) (n := 9) (v := .ref (g.2.2.2 (o0 + 4))) C hinX0 hP o0 (sn_l0 hO0.1 (by decide)) hO0.2.1 rfl 1 (by decide) (by decide +kernel) rfl rfl dX2_doWave_114 ?_
            refine sn_get (ci := 1) (Cn := RX1) (T := TX1) (n := 4) (v := .ref (g.2.2.2 (o0 + 4 + 1))) C hinX1 hP (o0 + 4) (sn_l0 hO0.2.2.2.1.1 (by decide)) hO0.2.2.2.1.2.1 rfl 0 (by decide) (by decide +kernel) rfl rfl dX2_doWave_117 ?_
            refine lv_iload_n hx hb dX2_doWave_120 rfl (lv_at hl 4 rfl) ?_
            refine sn_aald C hP (o0 + 4 + 1) (sn_l hO0.2.2.2.1.1 (by decide)) hO0.2.2.2.1.2.2.1 hd dX2_doWave_121 (fun k13 hk13 hd => ?_)
            refine lv_iconst (v := (3 : Int32)) hx hb dX2_doWave_122 (by decide) ?_
            refine sn_aldc (k := 3) C hP (o0 + 4 + 1 + 1 + k13) (hO0.2.2.2.1.2.2.2.1 k13 hk13).2 (hO0.2.2.2.1.2.2.2.1 k13 hk13).1 (by decide +kernel) dX2_doWave_123 ?_
            refine sn_pf (ci := 3) (Cn := RX4) (T := TX4) (n := 6) (ty0 := tyX4) C hinX4 tyX4_ok nmX4 hP hS (o0 + 33) (sn_l0 hO0.2.2.2.2.1 (by decide)) hO0.2.2.2.2.2.1 rfl 3 (by decide) (by decide +kernel) rfl rfl rfl rfl rfl dX2_doWave_124 (fun H locs hP hS => ?_)
            cases hd
            exact sn_rv C hP hS dX2_doWave_127
        · replace hd := (if_pos hc).symm.trans hd
          refine lv_iload_n hx hb dX2_doWave_70 rfl (lv_at hl 1 rfl) ?_
          refine lv_iconst (v := (2 : Int32)) hx hb dX2_doWave_71 (by decide) ?_
          refine lv_icmp_ne (tgt := 91) hx hb dX2_doWave_72 (by decide) (fun hc => ?_) (fun hc => ?_)
          · replace hd := (if_neg hc).symm.trans hd
            refine lv_iload hx hb dX2_doWave_91 (lv_at hl 0 rfl) ?_
            refine lv_if_eq (tgt := 127) hx hb dX2_doWave_93 (by decide) (fun hc => ?_) (fun hc => ?_)
            · replace hd := (if_pos hc).symm.trans hd
              cases hd
              exact sn_rv C hP hS dX2_doWave_127
            · replace hd := (if_neg hc).symm.trans hd
              refine lv_aload_n hx hb dX2_doWave_96 rfl (lv_at hl 3 rfl) ?_
              refine sn_get (ci := 0) (Cn := RX0) (T := TX0) (n := 9) (v := .ref (g.2.2.2 (o0 + 33))) C hinX0 hP o0 (sn_l0 hO0.1 (by decide)) hO0.2.1 rfl 2 (by decide) (by decide +kernel) rfl rfl dX2_doWave_97 ?_
              refine lv_dup hx hb dX2_doWave_100 rfl ?_
              refine sn_get (ci := 3) (Cn := RX4) (T := TX4) (n := 6) (v := .int ((sn_wr (sn_wr st (o0 + 33 + 1) 2 ((st.1 (o0 + 33 + 1) 2) + (1 : Int32))) (o0 + 4 + 1 + 1 + k3) 2 r2).1 (o0 + 33) 2)) C hinX4 hP (o0 + 33) (sn_l0 hO0.2.2.2.2.1 (by decide)) hO0.2.2.2.2.2.1 rfl 2 (by decide) (by decide +kernel) rfl rfl dX2_doWave_101 ?_
              refine lv_iconst (v := (1 : Int32)) hx hb dX2_doWave_104 (by decide) ?_
              refine lv_iadd hx hb dX2_doWave_105 ?_
              refine sn_pf (ci := 3) (Cn := RX4) (T := TX4) (n := 6) (ty0 := tyX4) C hinX4 tyX4_ok nmX4 hP hS (o0 + 33) (sn_l0 hO0.2.2.2.2.1 (by decide)) hO0.2.2.2.2.2.1 rfl 2 (by decide) (by decide +kernel) rfl rfl rfl rfl rfl dX2_doWave_106 (fun H locs hP hS => ?_)
              refine lv_aload_n hx hb dX2_doWave_109 rfl (lv_at hl 3 rfl) ?_
              refine sn_get (ci := 0) (Cn := RX0) (T := TX0) (n := 9) (v := .ref (g.2.2.2 (o0 + 33))) C hinX0 hP o0 (sn_l0 hO0.1 (by decide)) hO0.2.1 rfl 2 (by decide) (by decide +kernel) rfl rfl dX2_doWave_110 ?_
              refine lv_aload_n hx hb dX2_doWave_113 rfl (lv_at hl 3 rfl) ?_
              refine sn_get (ci := 0) (Cn := RX0) (T := TX0) (n := 9) (v := .ref (g.2.2.2 (o0 + 4))) C hinX0 hP o0 (sn_l0 hO0.1 (by decide)) hO0.2.1 rfl 1 (by decide) (by decide +kernel) rfl rfl dX2_doWave_114 ?_
              refine sn_get (ci := 1) (Cn := RX1) (T := TX1) (n := 4) (v := .ref (g.2.2.2 (o0 + 4 + 1))) C hinX1 hP (o0 + 4) (sn_l0 hO0.2.2.2.1.1 (by decide)) hO0.2.2.2.1.2.1 rfl 0 (by decide) (by decide +kernel) rfl rfl dX2_doWave_117 ?_
              refine lv_iload_n hx hb dX2_doWave_120 rfl (lv_at hl 4 rfl) ?_
              refine sn_aald C hP (o0 + 4 + 1) (sn_l hO0.2.2.2.1.1 (by decide)) hO0.2.2.2.1.2.2.1 hd dX2_doWave_121 (fun k14 hk14 hd => ?_)
              refine lv_iconst (v := (3 : Int32)) hx hb dX2_doWave_122 (by decide) ?_
              refine sn_aldc (k := 3) C hP (o0 + 4 + 1 + 1 + k14) (hO0.2.2.2.1.2.2.2.1 k14 hk14).2 (hO0.2.2.2.1.2.2.2.1 k14 hk14).1 (by decide +kernel) dX2_doWave_123 ?_
              refine sn_pf (ci := 3) (Cn := RX4) (T := TX4) (n := 6) (ty0 := tyX4) C hinX4 tyX4_ok nmX4 hP hS (o0 + 33) (sn_l0 hO0.2.2.2.2.1 (by decide)) hO0.2.2.2.2.2.1 rfl 3 (by decide) (by decide +kernel) rfl rfl rfl rfl rfl dX2_doWave_124 (fun H locs hP hS => ?_)
              cases hd
              exact sn_rv C hP hS dX2_doWave_127
          · replace hd := (if_pos hc).symm.trans hd
            refine lv_aload_n hx hb dX2_doWave_75 rfl (lv_at hl 3 rfl) ?_
            refine sn_get (ci := 0) (Cn := RX0) (T := TX0) (n := 9) (v := .ref (g.2.2.2 (o0 + 4))) C hinX0 hP o0 (sn_l0 hO0.1 (by decide)) hO0.2.1 rfl 1 (by decide) (by decide +kernel) rfl rfl dX2_doWave_76 ?_
            refine sn_get (ci := 1) (Cn := RX1) (T := TX1) (n := 4) (v := .ref (g.2.2.2 (o0 + 4 + 1))) C hinX1 hP (o0 + 4) (sn_l0 hO0.2.2.2.1.1 (by decide)) hO0.2.2.2.1.2.1 rfl 0 (by decide) (by decide +kernel) rfl rfl dX2_doWave_79 ?_
            refine lv_iload_n hx hb dX2_doWave_82 rfl (lv_at hl 4 rfl) ?_
            refine sn_aald C hP (o0 + 4 + 1) (sn_l hO0.2.2.2.1.1 (by decide)) hO0.2.2.2.1.2.2.1 hd dX2_doWave_83 (fun k15 hk15 hd => ?_)
            refine lv_iconst (v := (3 : Int32)) hx hb dX2_doWave_84 (by decide) ?_
            refine lv_aload_n hx hb dX2_doWave_85 rfl (lv_at hl 3 rfl) ?_
            refine lv_iload_n hx hb dX2_doWave_86 rfl (lv_at hl 4 rfl) ?_
            obtain ⟨r16, hr16, hd⟩ := Option.bind_eq_some_iff.mp hd
            refine sn_Si (rest := [.int (3 : Int32), .ref (g.2.2.2 (o0 + 4 + 1 + 1 + k15))]) (As := [.ref (g.2.2.2 o0), .int x1]) (st := (sn_wr (sn_wr st (o0 + 33 + 1) 2 ((st.1 (o0 + 33 + 1) 2) + (1 : Int32))) (o0 + 4 + 1 + 1 + k3) 2 r2)) C (c_X2_sumToBe hi hO0 hr16) (va_cwS 2 hts gX2_doWave_X2_sumToBe rfl rfl rfl (by decide +kernel) ⟨Nat.le_of_ble_eq_true rfl, Nat.le_of_ble_eq_true rfl⟩) hP hS rfl hl.1 rfl (Nat.le_of_ble_eq_true rfl) dX2_doWave_87 (fun H locs hP hS => ?_)
            refine sn_astc (k := 3) C hP hS (o0 + 4 + 1 + 1 + k15) (hO0.2.2.2.1.2.2.2.1 k15 hk15).2 (hO0.2.2.2.1.2.2.2.1 k15 hk15).1 (by decide +kernel) dX2_doWave_90 (fun H locs hP hS => ?_)
            refine lv_iload hx hb dX2_doWave_91 (lv_at hl 0 rfl) ?_
            refine lv_if_eq (tgt := 127) hx hb dX2_doWave_93 (by decide) (fun hc => ?_) (fun hc => ?_)
            · replace hd := (if_pos hc).symm.trans hd
              cases hd
              exact sn_rv C hP hS dX2_doWave_127
            · replace hd := (if_neg hc).symm.trans hd
              refine lv_aload_n hx hb dX2_doWave_96 rfl (lv_at hl 3 rfl) ?_
              refine sn_get (ci := 0) (Cn := RX0) (T := TX0) (n := 9) (v := .ref (g.2.2.2 (o0 + 33))) C hinX0 hP o0 (sn_l0 hO0.1 (by decide)) hO0.2.1 rfl 2 (by decide) (by decide +kernel) rfl rfl dX2_doWave_97 ?_
              refine lv_dup hx hb dX2_doWave_100 rfl ?_
              refine sn_get (ci := 3) (Cn := RX4) (T := TX4) (n := 6) (v := .int ((sn_wr (sn_wr (sn_wr st (o0 + 33 + 1) 2 ((st.1 (o0 + 33 + 1) 2) + (1 : Int32))) (o0 + 4 + 1 + 1 + k3) 2 r2) (o0 + 4 + 1 + 1 + k15) 3 r16).1 (o0 + 33) 2)) C hinX4 hP (o0 + 33) (sn_l0 hO0.2.2.2.2.1 (by decide)) hO0.2.2.2.2.2.1 rfl 2 (by decide) (by decide +kernel) rfl rfl dX2_doWave_101 ?_
              refine lv_iconst (v := (1 : Int32)) hx hb dX2_doWave_104 (by decide) ?_
              refine lv_iadd hx hb dX2_doWave_105 ?_
              refine sn_pf (ci := 3) (Cn := RX4) (T := TX4) (n := 6) (ty0 := tyX4) C hinX4 tyX4_ok nmX4 hP hS (o0 + 33) (sn_l0 hO0.2.2.2.2.1 (by decide)) hO0.2.2.2.2.2.1 rfl 2 (by decide) (by decide +kernel) rfl rfl rfl rfl rfl dX2_doWave_106 (fun H locs hP hS => ?_)
              refine lv_aload_n hx hb dX2_doWave_109 rfl (lv_at hl 3 rfl) ?_
              refine sn_get (ci := 0) (Cn := RX0) (T := TX0) (n := 9) (v := .ref (g.2.2.2 (o0 + 33))) C hinX0 hP o0 (sn_l0 hO0.1 (by decide)) hO0.2.1 rfl 2 (by decide) (by decide +kernel) rfl rfl dX2_doWave_110 ?_
              refine lv_aload_n hx hb dX2_doWave_113 rfl (lv_at hl 3 rfl) ?_
              refine sn_get (ci := 0) (Cn := RX0) (T := TX0) (n := 9) (v := .ref (g.2.2.2 (o0 + 4))) C hinX0 hP o0 (sn_l0 hO0.1 (by decide)) hO0.2.1 rfl 1 (by decide) (by decide +kernel) rfl rfl dX2_doWave_114 ?_
              refine sn_get (ci := 1) (Cn := RX1) (T := TX1) (n := 4) (v := .ref (g.2.2.2 (o0 + 4 + 1))) C hinX1 hP (o0 + 4) (sn_l0 hO0.2.2.2.1.1 (by decide)) hO0.2.2.2.1.2.1 rfl 0 (by decide) (by decide +kernel) rfl rfl dX2_doWave_117 ?_
              refine lv_iload_n hx hb dX2_doWave_120 rfl (lv_at hl 4 rfl) ?_
              refine sn_aald C hP (o0 + 4 + 1) (sn_l hO0.2.2.2.1.1 (by decide)) hO0.2.2.2.1.2.2.1 hd dX2_doWave_121 (fun k17 hk17 hd => ?_)
              refine lv_iconst (v := (3 : Int32)) hx hb dX2_doWave_122 (by decide) ?_
              refine sn_aldc (k := 3) C hP (o0 + 4 + 1 + 1 + k17) (hO0.2.2.2.1.2.2.2.1 k17 hk17).2 (hO0.2.2.2.1.2.2.2.1 k17 hk17).1 (by decide +kernel) dX2_doWave_123 ?_
              refine sn_pf (ci := 3) (Cn := RX4) (T := TX4) (n := 6) (ty0 := tyX4) C hinX4 tyX4_ok nmX4 hP hS (o0 + 33) (sn_l0 hO0.2.2.2.2.1 (by decide)) hO0.2.2.2.2.2.1 rfl 3 (by decide) (by decide +kernel) rfl rfl rfl rfl rfl dX2_doWave_124 (fun H locs hP hS => ?_)
              cases hd
              exact sn_rv C hP hS dX2_doWave_127
      · replace hd := (if_pos hc).symm.trans hd
        refine lv_iconst (v := (1 : Int32)) hx hb dX2_doWave_58 (by decide) ?_
        refine lv_goto (tgt := 63) hx hb dX2_doWave_59 (by decide) ?_
        refine lv_istore (lv' := [(4, .int (1 : Int32)), (3, .int r2), (2, .int (st.1 (o0 + 4 + 14 + 1 + k1) 2)), (0, .ref (g.2.2.2 o0)), (1, .int x1)]) hx hb dX2_doWave_63 hl (by decide) rfl (fun ls hl => ?_)
        refine lv_iload hx hb dX2_doWave_65 (lv_at hl 0 rfl) ?_
        refine lv_if_ne (tgt := 75) hx hb dX2_doWave_67 (by decide) (fun hc => ?_) (fun hc => ?_)
        · replace hd := (if_neg hc).symm.trans hd
          refine lv_aload_n hx hb dX2_doWave_75 rfl (lv_at hl 3 rfl) ?_
          refine sn_get (ci := 0) (Cn := RX0) (T := TX0) (n := 9) (v := .ref (g.2.2.2 (o0 + 4))) C hinX0 hP o0 (sn_l0 hO0.1 (by decide)) hO0.2.1 rfl 1 (by decide) (by decide +kernel) rfl rfl dX2_doWave_76 ?_
          refine sn_get (ci := 1) (Cn := RX1) (T := TX1) (n := 4) (v := .ref (g.2.2.2 (o0 + 4 + 1))) C hinX1 hP (o0 + 4) (sn_l0 hO0.2.2.2.1.1 (by decide)) hO0.2.2.2.1.2.1 rfl 0 (by decide) (by decide +kernel) rfl rfl dX2_doWave_79 ?_
          refine lv_iload_n hx hb dX2_doWave_82 rfl (lv_at hl 4 rfl) ?_
          refine sn_aald C hP (o0 + 4 + 1) (sn_l hO0.2.2.2.1.1 (by decide)) hO0.2.2.2.1.2.2.1 hd dX2_doWave_83 (fun k18 hk18 hd => ?_)
          refine lv_iconst (v := (3 : Int32)) hx hb dX2_doWave_84 (by decide) ?_
          refine lv_aload_n hx hb dX2_doWave_85 rfl (lv_at hl 3 rfl) ?_
          refine lv_iload_n hx hb dX2_doWave_86 rfl (lv_at hl 4 rfl) ?_
          obtain ⟨r19, hr19, hd⟩ := Option.bind_eq_some_iff.mp hd
          refine sn_Si (rest := [.int (3 : Int32), .ref (g.2.2.2 (o0 + 4 + 1 + 1 + k18))]) (As := [.ref (g.2.2.2 o0), .int x1]) (st := (sn_wr (sn_wr st (o0 + 33 + 1) 2 ((st.1 (o0 + 33 + 1) 2) + (1 : Int32))) (o0 + 4 + 1 + 1 + k3) 2 r2)) C (c_X2_sumToBe hi hO0 hr19) (va_cwS 2 hts gX2_doWave_X2_sumToBe rfl rfl rfl (by decide +kernel) ⟨Nat.le_of_ble_eq_true rfl, Nat.le_of_ble_eq_true rfl⟩) hP hS rfl hl.1 rfl (Nat.le_of_ble_eq_true rfl) dX2_doWave_87 (fun H locs hP hS => ?_)
          refine sn_astc (k := 3) C hP hS (o0 + 4 + 1 + 1 + k18) (hO0.2.2.2.1.2.2.2.1 k18 hk18).2 (hO0.2.2.2.1.2.2.2.1 k18 hk18).1 (by decide +kernel) dX2_doWave_90 (fun H locs hP hS => ?_)
          refine lv_iload hx hb dX2_doWave_91 (lv_at hl 0 rfl) ?_
          refine lv_if_eq (tgt := 127) hx hb dX2_doWave_93 (by decide) (fun hc => ?_) (fun hc => ?_)
          · replace hd := (if_pos hc).symm.trans hd
            cases hd
            exact sn_rv C hP hS dX2_doWave_127
          · replace hd := (if_neg hc).symm.trans hd
            refine lv_aload_n hx hb dX2_doWave_96 rfl (lv_at hl 3 rfl) ?_
            refine sn_get (ci := 0) (Cn := RX0) (T := TX0) (n := 9) (v := .ref (g.2.2.2 (o0 + 33))) C hinX0 hP o0 (sn_l0 hO0.1 (by decide)) hO0.2.1 rfl 2 (by decide) (by decide +kernel) rfl rfl dX2_doWave_97 ?_
            refine lv_dup hx hb dX2_doWave_100 rfl ?_
            refine sn_get (ci := 3) (Cn := RX4) (T := TX4) (n := 6) (v := .int ((sn_wr (sn_wr (sn_wr st (o0 + 33 + 1) 2 ((st.1 (o0 + 33 + 1) 2) + (1 : Int32))) (o0 + 4 + 1 + 1 + k3) 2 r2) (o0 + 4 + 1 + 1 + k18) 3 r19).1 (o0 + 33) 2)) C hinX4 hP (o0 + 33) (sn_l0 hO0.2.2.2.2.1 (by decide)) hO0.2.2.2.2.2.1 rfl 2 (by decide) (by decide +kernel) rfl rfl dX2_doWave_101 ?_
            refine lv_iconst (v := (1 : Int32)) hx hb dX2_doWave_104 (by decide) ?_
            refine lv_iadd hx hb dX2_doWave_105 ?_
            refine sn_pf (ci := 3) (Cn := RX4) (T := TX4) (n := 6) (ty0 := tyX4) C hinX4 tyX4_ok nmX4 hP hS (o0 + 33) (sn_l0 hO0.2.2.2.2.1 (by decide)) hO0.2.2.2.2.2.1 rfl 2 (by decide) (by decide +kernel) rfl rfl rfl rfl rfl dX2_doWave_106 (fun H locs hP hS => ?_)
            refine lv_aload_n hx hb dX2_doWave_109 rfl (lv_at hl 3 rfl) ?_
            refine sn_get (ci := 0) (Cn := RX0) (T := TX0) (n := 9) (v := .ref (g.2.2.2 (o0 + 33))) C hinX0 hP o0 (sn_l0 hO0.1 (by decide)) hO0.2.1 rfl 2 (by decide) (by decide +kernel) rfl rfl dX2_doWave_110 ?_
            refine lv_aload_n hx hb dX2_doWave_113 rfl (lv_at hl 3 rfl) ?_
            refine sn_get (ci := 0) (Cn := RX0) (T := TX0) (n := 9) (v := .ref (g.2.2.2 (o0 + 4))) C hinX0 hP o0 (sn_l0 hO0.1 (by decide)) hO0.2.1 rfl 1 (by decide) (by decide +kernel) rfl rfl dX2_doWave_114 ?_
            refine sn_get (ci := 1) (Cn := RX1) (T := TX1) (n := 4) (v := .ref (g.2.2.2 (o0 + 4 + 1))) C hinX1 hP (o0 + 4) (sn_l0 hO0.2.2.2.1.1 (by decide)) hO0.2.2.2.1.2.1 rfl 0 (by decide) (by decide +kernel) rfl rfl dX2_doWave_117 ?_
            refine lv_iload_n hx hb dX2_doWave_120 rfl (lv_at hl 4 rfl) ?_
            refine sn_aald C hP (o0 + 4 + 1) (sn_l hO0.2.2.2.1.1 (by decide)) hO0.2.2.2.1.2.2.1 hd dX2_doWave_121 (fun k20 hk20 hd => ?_)
            refine lv_iconst (v := (3 : Int32)) hx hb dX2_doWave_122 (by decide) ?_
            refine sn_aldc (k := 3) C hP (o0 + 4 + 1 + 1 + k20) (hO0.2.2.2.1.2.2.2.1 k20 hk20).2 (hO0.2.2.2.1.2.2.2.1 k20 hk20).1 (by decide +kernel) dX2_doWave_123 ?_
            refine sn_pf (ci := 3) (Cn := RX4) (T := TX4) (n := 6) (ty0 := tyX4) C hinX4 tyX4_ok nmX4 hP hS (o0 + 33) (sn_l0 hO0.2.2.2.2.1 (by decide)) hO0.2.2.2.2.2.1 rfl 3 (by decide) (by decide +kernel) rfl rfl rfl rfl rfl dX2_doWave_124 (fun H locs hP hS => ?_)
            cases hd
            exact sn_rv C hP hS dX2_doWave_127
        · replace hd := (if_pos hc).symm.trans hd
          refine lv_iload_n hx hb dX2_doWave_70 rfl (lv_at hl 1 rfl) ?_
          refine lv_iconst (v := (2 : Int32)) hx hb dX2_doWave_71 (by decide) ?_
          refine lv_icmp_ne (tgt := 91) hx hb dX2_doWave_72 (by decide) (fun hc => ?_) (fun hc => ?_)
          · replace hd := (if_neg hc).symm.trans hd
            refine lv_iload hx hb dX2_doWave_91 (lv_at hl 0 rfl) ?_
            refine lv_if_eq (tgt := 127) hx hb dX2_doWave_93 (by decide) (fun hc => ?_) (fun hc => ?_)
            · replace hd := (if_pos hc).symm.trans hd
              cases hd
              exact sn_rv C hP hS dX2_doWave_127
            · replace hd := (if_neg hc).symm.trans hd
              refine lv_aload_n hx hb dX2_doWave_96 rfl (lv_at hl 3 rfl) ?_
              refine sn_get (ci := 0) (Cn := RX0) (T := TX0) (n := 9) (v := .ref (g.2.2.2 (o0 + 33))) C hinX0 hP o0 (sn_l0 hO0.1 (by decide)) hO0.2.1 rfl 2 (by decide) (by decide +kernel) rfl rfl dX2_doWave_97 ?_
              refine lv_dup hx hb dX2_doWave_100 rfl ?_
              refine sn_get (ci := 3) (Cn := RX4) (T := TX4) (n := 6) (v := .int ((sn_wr (sn_wr st (o0 + 33 + 1) 2 ((st.1 (o0 + 33 + 1) 2) + (1 : Int32))) (o0 + 4 + 1 + 1 + k3) 2 r2).1 (o0 + 33) 2)) C hinX4 hP (o0 + 33) (sn_l0 hO0.2.2.2.2.1 (by decide)) hO0.2.2.2.2.2.1 rfl 2 (by decide) (by decide +kernel) rfl rfl dX2_doWave_101 ?_
              refine lv_iconst (v := (1 : Int32)) hx hb dX2_doWave_104 (by decide) ?_
              refine lv_iadd hx hb dX2_doWave_105 ?_
              refine sn_pf (ci := 3) (Cn := RX4) (T := TX4) (n := 6) (ty0 := tyX4) C hinX4 tyX4_ok nmX4 hP hS (o0 + 33) (sn_l0 hO0.2.2.2.2.1 (by decide)) hO0.2.2.2.2.2.1 rfl 2 (by decide) (by decide +kernel) rfl rfl rfl rfl rfl dX2_doWave_106 (fun H locs hP hS => ?_)
              refine lv_aload_n hx hb dX2_doWave_109 rfl (lv_at hl 3 rfl) ?_
              refine sn_get (ci := 0) (Cn := RX0) (T := TX0) (n := 9) (v := .ref (g.2.2.2 (o0 + 33))) C hinX0 hP o0 (sn_l0 hO0.1 (by decide)) hO0.2.1 rfl 2 (by decide) (by decide +kernel) rfl rfl dX2_doWave_110 ?_
              refine lv_aload_n hx hb dX2_doWave_113 rfl (lv_at hl 3 rfl) ?_
              refine sn_get (ci := 0) (Cn := RX0) (T := TX0) (n := 9) (v := .ref (g.2.2.2 (o0 + 4))) C hinX0 hP o0 (sn_l0 hO0.1 (by decide)) hO0.2.1 rfl 1 (by decide) (by decide +kernel) rfl rfl dX2_doWave_114 ?_
              refine sn_get (ci := 1) (Cn := RX1) (T := TX1) (n := 4) (v := .ref (g.2.2.2 (o0 + 4 + 1))) C hinX1 hP (o0 + 4) (sn_l0 hO0.2.2.2.1.1 (by decide)) hO0.2.2.2.1.2.1 rfl 0 (by decide) (by decide +kernel) rfl rfl dX2_doWave_117 ?_
              refine lv_iload_n hx hb dX2_doWave_120 rfl (lv_at hl 4 rfl) ?_
              refine sn_aald C hP (o0 + 4 + 1) (sn_l hO0.2.2.2.1.1 (by decide)) hO0.2.2.2.1.2.2.1 hd dX2_doWave_121 (fun k21 hk21 hd => ?_)
              refine lv_iconst (v := (3 : Int32)) hx hb dX2_doWave_122 (by decide) ?_
              refine sn_aldc (k := 3) C hP (o0 + 4 + 1 + 1 + k21) (hO0.2.2.2.1.2.2.2.1 k21 hk21).2 (hO0.2.2.2.1.2.2.2.1 k21 hk21).1 (by decide +kernel) dX2_doWave_123 ?_
              refine sn_pf (ci := 3) (Cn := RX4) (T := TX4) (n := 6) (ty0 := tyX4) C hinX4 tyX4_ok nmX4 hP hS (o0 + 33) (sn_l0 hO0.2.2.2.2.1 (by decide)) hO0.2.2.2.2.2.1 rfl 3 (by decide) (by decide +kernel) rfl rfl rfl rfl rfl dX2_doWave_124 (fun H locs hP hS => ?_)
              cases hd
              exact sn_rv C hP hS dX2_doWave_127
          · replace hd := (if_pos hc).symm.trans hd
            refine lv_aload_n hx hb dX2_doWave_75 rfl (lv_at hl 3 rfl) ?_
            refine sn_get (ci := 0) (Cn := RX0) (T := TX0) (n := 9) (v := .ref (g.2.2.2 (o0 + 4))) C hinX0 hP o0 (sn_l0 hO0.1 (by decide)) hO0.2.1 rfl 1 (by decide) (by decide +kernel) rfl rfl dX2_doWave_76 ?_
            refine sn_get (ci := 1) (Cn := RX1) (T := TX1) (n := 4) (v := .ref (g.2.2.2 (o0 + 4 + 1))) C hinX1 hP (o0 + 4) (sn_l0 hO0.2.2.2.1.1 (by decide)) hO0.2.2.2.1.2.1 rfl 0 (by decide) (by decide +kernel) rfl rfl dX2_doWave_79 ?_
            refine lv_iload_n hx hb dX2_doWave_82 rfl (lv_at hl 4 rfl) ?_
            refine sn_aald C hP (o0 + 4 + 1) (sn_l hO0.2.2.2.1.1 (by decide)) hO0.2.2.2.1.2.2.1 hd dX2_doWave_83 (fun k22 hk22 hd => ?_)
            refine lv_iconst (v := (3 : Int32)) hx hb dX2_doWave_84 (by decide) ?_
            refine lv_aload_n hx hb dX2_doWave_85 rfl (lv_at hl 3 rfl) ?_
            refine lv_iload_n hx hb dX2_doWave_86 rfl (lv_at hl 4 rfl) ?_
            obtain ⟨r23, hr23, hd⟩ := Option.bind_eq_some_iff.mp hd
            refine sn_Si (rest := [.int (3 : Int32), .ref (g.2.2.2 (o0 + 4 + 1 + 1 + k22))]) (As := [.ref (g.2.2.2 o0), .int x1]) (st := (sn_wr (sn_wr st (o0 + 33 + 1) 2 ((st.1 (o0 + 33 + 1) 2) + (1 : Int32))) (o0 + 4 + 1 + 1 + k3) 2 r2)) C (c_X2_sumToBe hi hO0 hr23) (va_cwS 2 hts gX2_doWave_X2_sumToBe rfl rfl rfl (by decide +kernel) ⟨Nat.le_of_ble_eq_true rfl, Nat.le_of_ble_eq_true rfl⟩) hP hS rfl hl.1 rfl (Nat.le_of_ble_eq_true rfl) dX2_doWave_87 (fun H locs hP hS => ?_)
            refine sn_astc (k := 3) C hP hS (o0 + 4 + 1 + 1 + k22) (hO0.2.2.2.1.2.2.2.1 k22 hk22).2 (hO0.2.2.2.1.2.2.2.1 k22 hk22).1 (by decide +kernel) dX2_doWave_90 (fun H locs hP hS => ?_)
            refine lv_iload hx hb dX2_doWave_91 (lv_at hl 0 rfl) ?_
            refine lv_if_eq (tgt := 127) hx hb dX2_doWave_93 (by decide) (fun hc => ?_) (fun hc => ?_)
            · replace hd := (if_pos hc).symm.trans hd
              cases hd
              exact sn_rv C hP hS dX2_doWave_127
            · replace hd := (if_neg hc).symm.trans hd
              refine lv_aload_n hx hb dX2_doWave_96 rfl (lv_at hl 3 rfl) ?_
              refine sn_get (ci := 0) (Cn := RX0) (T := TX0) (n := 9) (v := .ref (g.2.2.2 (o0 + 33))) C hinX0 hP o0 (sn_l0 hO0.1 (by decide)) hO0.2.1 rfl 2 (by decide) (by decide +kernel) rfl rfl dX2_doWave_97 ?_
              refine lv_dup hx hb dX2_doWave_100 rfl ?_
              refine sn_get (ci := 3) (Cn := RX4) (T := TX4) (n := 6) (v := .int ((sn_wr (sn_wr (sn_wr st (o0 + 33 + 1) 2 ((st.1 (o0 + 33 + 1) 2) + (1 : Int32))) (o0 + 4 + 1 + 1 + k3) 2 r2) (o0 + 4 + 1 + 1 + k22) 3 r23).1 (o0 + 33) 2)) C hinX4 hP (o0 + 33) (sn_l0 hO0.2.2.2.2.1 (by decide)) hO0.2.2.2.2.2.1 rfl 2 (by decide) (by decide +kernel) rfl rfl dX2_doWave_101 ?_
              refine lv_iconst (v := (1 : Int32)) hx hb dX2_doWave_104 (by decide) ?_
              refine lv_iadd hx hb dX2_doWave_105 ?_
              refine sn_pf (ci := 3) (Cn := RX4) (T := TX4) (n := 6) (ty0 := tyX4) C hinX4 tyX4_ok nmX4 hP hS (o0 + 33) (sn_l0 hO0.2.2.2.2.1 (by decide)) hO0.2.2.2.2.2.1 rfl 2 (by decide) (by decide +kernel) rfl rfl rfl rfl rfl dX2_doWave_106 (fun H locs hP hS => ?_)
              refine lv_aload_n hx hb dX2_doWave_109 rfl (lv_at hl 3 rfl) ?_
              refine sn_get (ci := 0) (Cn := RX0) (T := TX0) (n := 9) (v := .ref (g.2.2.2 (o0 + 33))) C hinX0 hP o0 (sn_l0 hO0.1 (by decide)) hO0.2.1 rfl 2 (by decide) (by decide +kernel) rfl rfl dX2_doWave_110 ?_
              refine lv_aload_n hx hb dX2_doWave_113 rfl (lv_at hl 3 rfl) ?_
              refine sn_get (ci := 0) (Cn := RX0) (T := TX0) (n := 9) (v := .ref (g.2.2.2 (o0 + 4))) C hinX0 hP o0 (sn_l0 hO0.1 (by decide)) hO0.2.1 rfl 1 (by decide) (by decide +kernel) rfl rfl dX2_doWave_114 ?_
              refine sn_get (ci := 1) (Cn := RX1) (T := TX1) (n := 4) (v := .ref (g.2.2.2 (o0 + 4 + 1))) C hinX1 hP (o0 + 4) (sn_l0 hO0.2.2.2.1.1 (by decide)) hO0.2.2.2.1.2.1 rfl 0 (by decide) (by decide +kernel) rfl rfl dX2_doWave_117 ?_
              refine lv_iload_n hx hb dX2_doWave_120 rfl (lv_at hl 4 rfl) ?_
              refine sn_aald C hP (o0 + 4 + 1) (sn_l hO0.2.2.2.1.1 (by decide)) hO0.2.2.2.1.2.2.1 hd dX2_doWave_121 (fun k24 hk24 hd => ?_)
              refine lv_iconst (v := (3 : Int32)) hx hb dX2_doWave_122 (by decide) ?_
              refine sn_aldc (k := 3) C hP (o0 + 4 + 1 + 1 + k24) (hO0.2.2.2.1.2.2.2.1 k24 hk24).2 (hO0.2.2.2.1.2.2.2.1 k24 hk24).1 (by decide +kernel) dX2_doWave_123 ?_
              refine sn_pf (ci := 3) (Cn := RX4) (T := TX4) (n := 6) (ty0 := tyX4) C hinX4 tyX4_ok nmX4 hP hS (o0 + 33) (sn_l0 hO0.2.2.2.2.1 (by decide)) hO0.2.2.2.2.2.1 rfl 3 (by decide) (by decide +kernel) rfl rfl rfl rfl rfl dX2_doWave_124 (fun H locs hP hS => ?_)
              cases hd
              exact sn_rv C hP hS dX2_doWave_127
  · replace hd := (if_pos hc).symm.trans hd
    cases hd
    exact sn_rv C hP hS dX2_doWave_23

set_option maxHeartbeats 4000000 in
set_option maxRecDepth 100000 in
theorem c_X2_doRing {l : Launch} {g : sn_G} {tb : Nat → sn_K} {N : Nat} (hi : sn_I g N) {o0 : Nat} {x1 : Int32} (hO0 : sn_Ne tb N o0) {st : sn_S} {o : sn_S} (hd : D_X2_doRing o0 x1 st = some o) : sn_Mv l yX2_doRing wsX2_doRing { frames := 3, cells := 0, slots := 0, locals := 70 } g tb N [.ref (g.2.2.2 o0), .int x1] st o := by
  refine sn_Mv.of (cc := cX2_doRing) (nL := 4) (ret := none) hi (by decide) rfl (Nat.le_of_ble_eq_true rfl) ?_
  intro p e s m args below meth c ls C hP hS hl
  have hl : lv_has ls 4 [(0, .ref (g.2.2.2 o0)), (1, .int x1)] := hl
  obtain ⟨⟨hx, hb, hml, hown, hts⟩, hr, hlk, hC, hi⟩ := id C
  unfold D_X2_doRing at hd
  have hinX0 : ∀ w ∈ wsX00, w ∈ wsX2_doRing := by decide +kernel
  have hinX1 : ∀ w ∈ wsX10, w ∈ wsX2_doRing := by decide +kernel
  have hinX4 : ∀ w ∈ wsX40, w ∈ wsX2_doRing := by decide +kernel
  refine lv_aload_n hx hb dX2_doRing_0 rfl (lv_at hl 0 rfl) ?_
  refine lv_iload_n hx hb dX2_doRing_1 rfl (lv_at hl 1 rfl) ?_
  obtain ⟨r1, hr1, hd⟩ := Option.bind_eq_some_iff.mp hd
  refine sn_Si (rest := []) (As := [.ref (g.2.2.2 o0), .int x1]) (st := st) C (c_X2_rightsOf hi hO0 hr1) (va_cwS 2 hts gX2_doRing_X2_rightsOf rfl rfl rfl (by decide +kernel) ⟨Nat.le_of_ble_eq_true rfl, Nat.le_of_ble_eq_true rfl⟩) hP hS rfl hl.1 rfl (Nat.le_of_ble_eq_true rfl) dX2_doRing_2 (fun H locs hP hS => ?_)
  refine lv_iconst (v := (0 : Int32)) hx hb dX2_doRing_5 (by decide) ?_
  obtain ⟨r2, hr2, hd⟩ := Option.bind_eq_some_iff.mp hd
  refine sn_Ni (host := RX5) (rest := []) (As := [.int r1, .int (0 : Int32)]) (st := st) C (c_X5_pick hi  hr2) ⟨va_cnB 2 hts gX2_doRing_X5_pick_n86 rfl rfl rfl (hC.2 _ (by decide +kernel)) (hts (.initialized RX5) (by decide +kernel)) (by decide +kernel) ⟨Nat.le_of_ble_eq_true rfl, Nat.le_of_ble_eq_true rfl⟩, hts (.static yX5_pick) (by decide +kernel), trivial⟩ hP hS rfl hl.1 rfl (Nat.le_of_ble_eq_true rfl) dX2_doRing_6 (fun H locs hP hS => ?_)
  refine lv_istore_n (lv' := [(2, .int r2), (0, .ref (g.2.2.2 o0)), (1, .int x1)]) hx hb dX2_doRing_9 rfl hl (by decide) rfl (fun ls hl => ?_)
  refine lv_iload_n hx hb dX2_doRing_10 rfl (lv_at hl 0 rfl) ?_
  refine lv_iconst (v := (-1 : Int32)) hx hb dX2_doRing_11 (by decide) ?_
  refine lv_icmp_ne (tgt := 16) hx hb dX2_doRing_12 (by decide) (fun hc => ?_) (fun hc => ?_)
  · replace hd := (if_neg hc).symm.trans hd
    refine lv_aload_n hx hb dX2_doRing_16 rfl (lv_at hl 1 rfl) ?_
    refine sn_get (ci := 0) (Cn := RX0) (T := TX0) (n := 9) (v := .ref (g.2.2.2 (o0 + 33))) C hinX0 hP o0 (sn_l0 hO0.1 (by decide)) hO0.2.1 rfl 2 (by decide) (by decide +kernel) rfl rfl dX2_doRing_17 ?_
    refine sn_get (ci := 3) (Cn := RX4) (T := TX4) (n := 6) (v := .ref (g.2.2.2 (o0 + 33 + 1))) C hinX4 hP (o0 + 33) (sn_l0 hO0.2.2.2.2.1 (by decide)) hO0.2.2.2.2.2.1 rfl 4 (by decide) (by decide +kernel) rfl rfl dX2_doRing_20 ?_
    refine lv_iconst (v := (3 : Int32)) hx hb dX2_doRing_23 (by decide) ?_
    refine lv_dup2_11 hx hb dX2_doRing_24 rfl rfl ?_
    refine sn_aldc (k := 3) C hP (o0 + 33 + 1) (sn_l hO0.2.2.2.2.1 (by decide)) hO0.2.2.2.2.2.2.1 (by decide +kernel) dX2_doRing_25 ?_
    refine lv_iconst (v := (1 : Int32)) hx hb dX2_doRing_26 (by decide) ?_
    refine lv_iadd hx hb dX2_doRing_27 ?_
    refine sn_astc (k := 3) C hP hS (o0 + 33 + 1) (sn_l hO0.2.2.2.2.1 (by decide)) hO0.2.2.2.2.2.2.1 (by decide +kernel) dX2_doRing_28 (fun H locs hP hS => ?_)
    refine lv_aload_n hx hb dX2_doRing_29 rfl (lv_at hl 1 rfl) ?_
    refine sn_get (ci := 0) (Cn := RX0) (T := TX0) (n := 9) (v := .ref (g.2.2.2 (o0 + 33))) C hinX0 hP o0 (sn_l0 hO0.1 (by decide)) hO0.2.1 rfl 2 (by decide) (by decide +kernel) rfl rfl dX2_doRing_30 ?_
    refine sn_get (ci := 3) (Cn := RX4) (T := TX4) (n := 6) (v := .ref (g.2.2.2 (o0 + 33 + 2))) C hinX4 hP (o0 + 33) (sn_l0 hO0.2.2.2.2.1 (by decide)) hO0.2.2.2.2.2.1 rfl 5 (by decide) (by decide +kernel) rfl rfl dX2_doRing_33 ?_
    refine lv_iload_n hx hb dX2_doRing_36 rfl (lv_at hl 2 rfl) ?_
    refine lv_dup2_11 hx hb dX2_doRing_37 rfl rfl ?_
    refine sn_ald C hP (o0 + 33 + 2) (sn_l hO0.2.2.2.2.1 (by decide)) hO0.2.2.2.2.2.2.2 hd dX2_doRing_38 (fun k3 hk3 hd => ?_)
    refine lv_iconst (v := (1 : Int32)) hx hb dX2_doRing_39 (by decide) ?_
    refine lv_iadd hx hb dX2_doRing_40 ?_
    refine sn_ast C hP hS (o0 + 33 + 2) (sn_l hO0.2.2.2.2.1 (by decide)) hO0.2.2.2.2.2.2.2 hd dX2_doRing_41 (fun k4 H locs hk4 hd hP hS => ?_)
    refine lv_aload_n hx hb dX2_doRing_42 rfl (lv_at hl 1 rfl) ?_
    refine lv_iload_n hx hb dX2_doRing_43 rfl (lv_at hl 2 rfl) ?_
    refine lv_iload_n hx hb dX2_doRing_44 rfl (lv_at hl 0 rfl) ?_
    obtain ⟨r5, hr5, hd⟩ := Option.bind_eq_some_iff.mp hd
    refine sn_Si (rest := []) (As := [.ref (g.2.2.2 o0), .int x1, .int r2]) (st := (sn_wr (sn_wr st (o0 + 33 + 1) 3 ((st.1 (o0 + 33 + 1) 3) + (1 : Int32))) (o0 + 33 + 2) k4 (((sn_wr st (o0 + 33 + 1) 3 ((st.1 (o0 + 33 + 1) 3) + (1 : Int32))).1 (o0 + 33 + 2) k3) + (1 : Int32)))) C (c_X2_xBefore hi hO0 hr5) (va_cwS 3 hts gX2_doRing_X2_xBefore rfl rfl rfl (by decide +kernel) ⟨Nat.le_of_ble_eq_true rfl, Nat.le_of_ble_eq_true rfl⟩) hP hS rfl hl.1 rfl (Nat.le_of_ble_eq_true rfl) dX2_doRing_45 (fun H locs hP hS => ?_)
    refine lv_istore_n (lv' := [(3, .int r5), (2, .int r2), (0, .ref (g.2.2.2 o0)), (1, .int x1)]) hx hb dX2_doRing_48 rfl hl (by decide) rfl (fun ls hl => ?_)
    refine lv_aload_n hx hb dX2_doRing_49 rfl (lv_at hl 2 rfl) ?_
    refine lv_iload_n hx hb dX2_doRing_50 rfl (lv_at hl 3 rfl) ?_
    refine lv_iload_n hx hb dX2_doRing_51 rfl (lv_at hl 1 rfl) ?_
    obtain ⟨r6, hr6, hd⟩ := Option.bind_eq_some_iff.mp hd
    refine sn_Si (rest := []) (As := [.ref (g.2.2.2 o0), .int x1, .int r2]) (st := (sn_wr (sn_wr st (o0 + 33 + 1) 3 ((st.1 (o0 + 33 + 1) 3) + (1 : Int32))) (o0 + 33 + 2) k4 (((sn_wr st (o0 + 33 + 1) 3 ((st.1 (o0 + 33 + 1) 3) + (1 : Int32))).1 (o0 + 33 + 2) k3) + (1 : Int32)))) C (c_X2_isBottom hi hO0 hr6) (va_cwS 3 hts gX2_doRing_X2_isBottom rfl rfl rfl (by decide +kernel) ⟨Nat.le_of_ble_eq_true rfl, Nat.le_of_ble_eq_true rfl⟩) hP hS rfl hl.1 rfl (Nat.le_of_ble_eq_true rfl) dX2_doRing_52 (fun H locs hP hS => ?_)
    refine lv_if_eq (tgt := 77) hx hb dX2_doRing_55 (by decide) (fun hc => ?_) (fun hc => ?_)
    · replace hd := (if_pos hc).symm.trans hd
      refine lv_aload_n hx hb dX2_doRing_77 rfl (lv_at hl 2 rfl) ?_
      refine sn_get (ci := 0) (Cn := RX0) (T := TX0) (n := 9) (v := .ref (g.2.2.2 (o0 + 4))) C hinX0 hP o0 (sn_l0 hO0.1 (by decide)) hO0.2.1 rfl 1 (by decide) (by decide +kernel) rfl rfl dX2_doRing_78 ?_
      refine sn_get (ci := 1) (Cn := RX1) (T := TX1) (n := 4) (v := .ref (g.2.2.2 (o0 + 4 + 1))) C hinX1 hP (o0 + 4) (sn_l0 hO0.2.2.2.1.1 (by decide)) hO0.2.2.2.1.2.1 rfl 0 (by decide) (by decide +kernel) rfl rfl dX2_doRing_81 ?_
      refine lv_iload_n hx hb dX2_doRing_84 rfl (lv_at hl 3 rfl) ?_
      refine sn_aald C hP (o0 + 4 + 1) (sn_l hO0.2.2.2.1.1 (by decide)) hO0.2.2.2.1.2.2.1 hd dX2_doRing_85 (fun k7 hk7 hd => ?_)
      refine lv_iconst (v := (5 : Int32)) hx hb dX2_doRing_86 (by decide) ?_
      refine lv_iload_n hx hb dX2_doRing_87 rfl (lv_at hl 1 rfl) ?_
      refine lv_iadd hx hb dX2_doRing_88 ?_
      refine lv_iload_n hx hb dX2_doRing_89 rfl (lv_at hl 0 rfl) ?_
      refine sn_ast C hP hS (o0 + 4 + 1 + 1 + k7) (hO0.2.2.2.1.2.2.2.1 k7 hk7).2 (hO0.2.2.2.1.2.2.2.1 k7 hk7).1 hd dX2_doRing_90 (fun k8 H locs hk8 hd hP hS => ?_)
      cases hd
      exact sn_rv C hP hS dX2_doRing_91
    · replace hd := (if_neg hc).symm.trans hd
      refine lv_iload_n hx hb dX2_doRing_58 rfl (lv_at hl 0 rfl) ?_
      refine lv_aload_n hx hb dX2_doRing_59 rfl (lv_at hl 2 rfl) ?_
      refine sn_get (ci := 0) (Cn := RX0) (T := TX0) (n := 9) (v := .ref (g.2.2.2 (o0 + 1))) C hinX0 hP o0 (sn_l0 hO0.1 (by decide)) hO0.2.1 rfl 0 (by decide) (by decide +kernel) rfl rfl dX2_doRing_60 ?_
      obtain ⟨r9, hr9, hd⟩ := Option.bind_eq_some_iff.mp hd
      refine sn_Vi (b := o0 + 1) (rest := [.int r5]) (As := []) (st := (sn_wr (sn_wr st (o0 + 33 + 1) 3 ((st.1 (o0 + 33 + 1) 3) + (1 : Int32))) (o0 + 33 + 2) k4 (((sn_wr st (o0 + 33 + 1) 3 ((st.1 (o0 + 33 + 1) 3) + (1 : Int32))).1 (o0 + 33 + 2) k3) + (1 : Int32)))) C (c_X3_greatestX hi hO0.2.2.1 hr9) (cwV 0 hts gX2_doRing_X3_greatestX rfl rfl rfl (by decide +kernel) ⟨Nat.le_of_ble_eq_true rfl, Nat.le_of_ble_eq_true rfl⟩) hP hS (sn_l0 hO0.2.2.1.1 (by decide)) hO0.2.2.1.2.1 rfl rfl hl.1 rfl (Nat.le_of_ble_eq_true rfl) dX2_doRing_63 (fun H locs hP hS => ?_)
      refine lv_icmp_ge (tgt := 75) hx hb dX2_doRing_66 (by decide) (fun hc => ?_) (fun hc => ?_)
      · replace hd := (if_pos hc).symm.trans hd
        refine lv_iconst (v := (0 : Int32)) hx hb dX2_doRing_75 (by decide) ?_
        refine lv_istore_n (lv' := [(3, .int (0 : Int32)), (2, .int r2), (0, .ref (g.2.2.2 o0)), (1, .int x1)]) hx hb dX2_doRing_76 rfl hl (by decide) rfl (fun ls hl => ?_)
        refine lv_aload_n hx hb dX2_doRing_77 rfl (lv_at hl 2 rfl) ?_
        refine sn_get (ci := 0) (Cn := RX0) (T := TX0) (n := 9) (v := .ref (g.2.2.2 (o0 + 4))) C hinX0 hP o0 (sn_l0 hO0.1 (by decide)) hO0.2.1 rfl 1 (by decide) (by decide +kernel) rfl rfl dX2_doRing_78 ?_
        refine sn_get (ci := 1) (Cn := RX1) (T := TX1) (n := 4) (v := .ref (g.2.2.2 (o0 + 4 + 1))) C hinX1 hP (o0 + 4) (sn_l0 hO0.2.2.2.1.1 (by decide)) hO0.2.2.2.1.2.1 rfl 0 (by decide) (by decide +kernel) rfl rfl dX2_doRing_81 ?_
        refine lv_iload_n hx hb dX2_doRing_84 rfl (lv_at hl 3 rfl) ?_
        refine sn_aald C hP (o0 + 4 + 1) (sn_l hO0.2.2.2.1.1 (by decide)) hO0.2.2.2.1.2.2.1 hd dX2_doRing_85 (fun k10 hk10 hd => ?_)
        refine lv_iconst (v := (5 : Int32)) hx hb dX2_doRing_86 (by decide) ?_
        refine lv_iload_n hx hb dX2_doRing_87 rfl (lv_at hl 1 rfl) ?_
        refine lv_iadd hx hb dX2_doRing_88 ?_
        refine lv_iload_n hx hb dX2_doRing_89 rfl (lv_at hl 0 rfl) ?_
        refine sn_ast C hP hS (o0 + 4 + 1 + 1 + k10) (hO0.2.2.2.1.2.2.2.1 k10 hk10).2 (hO0.2.2.2.1.2.2.2.1 k10 hk10).1 hd dX2_doRing_90 (fun k11 H locs hk11 hd hP hS => ?_)
        cases hd
        exact sn_rv C hP hS dX2_doRing_91
      · replace hd := (if_neg hc).symm.trans hd
        refine lv_iload_n hx hb dX2_doRing_69 rfl (lv_at hl 0 rfl) ?_
        refine lv_iconst (v := (1 : Int32)) hx hb dX2_doRing_70 (by decide) ?_
        refine lv_iadd hx hb dX2_doRing_71 ?_
        refine lv_goto (tgt := 76) hx hb dX2_doRing_72 (by decide) ?_
        refine lv_istore_n (lv' := [(3, .int (r5 + (1 : Int32))), (2, .int r2), (0, .ref (g.2.2.2 o0)), (1, .int x1)]) hx hb dX2_doRing_76 rfl hl (by decide) rfl (fun ls hl => ?_)
        refine lv_aload_n hx hb dX2_doRing_77 rfl (lv_at hl 2 rfl) ?_
        refine sn_get (ci := 0) (Cn := RX0) (T := TX0) (n := 9) (v := .ref (g.2.2.2 (o0 + 4))) C hinX0 hP o0 (sn_l0 hO0.1 (by decide)) hO0.2.1 rfl 1 (by decide) (by decide +kernel) rfl rfl dX2_doRing_78 ?_
        refine sn_get (ci := 1) (Cn := RX1) (T := TX1) (n := 4) (v := .ref (g.2.2.2 (o0 + 4 + 1))) C hinX1 hP (o0 + 4) (sn_l0 hO0.2.2.2.1.1 (by decide)) hO0.2.2.2.1.2.1 rfl 0 (by decide) (by decide +kernel) rfl rfl dX2_doRing_81 ?_
        refine lv_iload_n hx hb dX2_doRing_84 rfl (lv_at hl 3 rfl) ?_
        refine sn_aald C hP (o0 + 4 + 1) (sn_l hO0.2.2.2.1.1 (by decide)) hO0.2.2.2.1.2.2.1 hd dX2_doRing_85 (fun k12 hk12 hd => ?_)
        refine lv_iconst (v := (5 : Int32)) hx hb dX2_doRing_86 (by decide) ?_
        refine lv_iload_n hx hb dX2_doRing_87 rfl (lv_at hl 1 rfl) ?_
        refine lv_iadd hx hb dX2_doRing_88 ?_
        refine lv_iload_n hx hb dX2_doRing_89 rfl (lv_at hl 0 rfl) ?_
        refine sn_ast C hP hS (o0 + 4 + 1 + 1 + k12) (hO0.2.2.2.1.2.2.2.1 k12 hk12).2 (hO0.2.2.2.1.2.2.2.1 k12 hk12).1 hd dX2_doRing_90 (fun k13 H locs hk13 hd hP hS => ?_)
        cases hd
        exact sn_rv C hP hS dX2_doRing_91
  · replace hd := (if_pos hc).symm.trans hd
    cases hd
    exact sn_rv C hP hS dX2_doRing_15

set_option maxHeartbeats 4000000 in
set_option maxRecDepth 100000 in
theorem c_X2_doRules {l : Launch} {g : sn_G} {tb : Nat → sn_K} {N : Nat} (hi : sn_I g N) {o0 : Nat} {x1 : Int32} (hO0 : sn_Ne tb N o0) {st : sn_S} {o : sn_S} (hd : D_X2_doRules o0 x1 st = some o) : sn_Mv l yX2_doRules wsX2_doRules { frames := 4, cells := 0, slots := 0, locals := 93 } g tb N [.ref (g.2.2.2 o0), .int x1] st o := by
  refine sn_Mv.of (cc := cX2_doRules) (nL := 3) (ret := none) hi (by decide) rfl (Nat.le_of_ble_eq_true rfl) ?_
  intro p e s m args below meth c ls C hP hS hl
  have hl : lv_has ls 3 [(0, .ref (g.2.2.2 o0)), (1, .int x1)] := hl
  obtain ⟨⟨hx, hb, hml, hown, hts⟩, hr, hlk, hC, hi⟩ := id C
  unfold D_X2_doRules at hd
  refine lv_aload_n hx hb dX2_doRules_0 rfl (lv_at hl 0 rfl) ?_
  refine lv_iload_n hx hb dX2_doRules_1 rfl (lv_at hl 1 rfl) ?_
  obtain ⟨r1, hr1, hd⟩ := Option.bind_eq_some_iff.mp hd
  refine sn_Si (rest := []) (As := [.ref (g.2.2.2 o0), .int x1]) (st := st) C (c_X2_firstRule hi hO0 hr1) (va_cwS 2 hts gX2_doRules_X2_firstRule rfl rfl rfl (by decide +kernel) ⟨Nat.le_of_ble_eq_true rfl, Nat.le_of_ble_eq_true rfl⟩) hP hS rfl hl.1 rfl (Nat.le_of_ble_eq_true rfl) dX2_doRules_2 (fun H locs hP hS => ?_)
  refine lv_istore_n (lv' := [(2, .int r1), (0, .ref (g.2.2.2 o0)), (1, .int x1)]) hx hb dX2_doRules_5 rfl hl (by decide) rfl (fun ls hl => ?_)
  refine lv_iload_n hx hb dX2_doRules_6 rfl (lv_at hl 0 rfl) ?_
  refine lv_if_ne (tgt := 18) hx hb dX2_doRules_7 (by decide) (fun hc => ?_) (fun hc => ?_)
  · replace hd := (if_neg hc).symm.trans hd
    refine lv_iload_n hx hb dX2_doRules_18 rfl (lv_at hl 0 rfl) ?_
    refine lv_iconst (v := (1 : Int32)) hx hb dX2_doRules_19 (by decide) ?_
    refine lv_icmp_ne (tgt := 31) hx hb dX2_doRules_20 (by decide) (fun hc => ?_) (fun hc => ?_)
    · replace hd := (if_neg hc).symm.trans hd
      refine lv_aload_n hx hb dX2_doRules_31 rfl (lv_at hl 1 rfl) ?_
      refine lv_iload_n hx hb dX2_doRules_32 rfl (lv_at hl 2 rfl) ?_
      obtain ⟨r2, hr2, hd⟩ := Option.bind_eq_some_iff.mp hd
      refine sn_Sv (rest := []) (As := [.ref (g.2.2.2 o0), .int x1]) (st := st) C (c_X2_doWave hi hO0 hr2) (va_cwS 2 hts gX2_doRules_X2_doWave rfl rfl rfl (by decide +kernel) ⟨Nat.le_of_ble_eq_true rfl, Nat.le_of_ble_eq_true rfl⟩) hP hS rfl hl.1 rfl (Nat.le_of_ble_eq_true rfl) dX2_doRules_33 (fun H locs hP hS => ?_)
      refine lv_aload_n hx hb dX2_doRules_36 rfl (lv_at hl 1 rfl) ?_
      refine lv_iload_n hx hb dX2_doRules_37 rfl (lv_at hl 2 rfl) ?_
      obtain ⟨r3, hr3, hd⟩ := Option.bind_eq_some_iff.mp hd
      refine sn_Sv (rest := []) (As := [.ref (g.2.2.2 o0), .int x1]) (st := r2) C (c_X2_doRing hi hO0 hr3) (va_cwS 2 hts gX2_doRules_X2_doRing rfl rfl rfl (by decide +kernel) ⟨Nat.le_of_ble_eq_true rfl, Nat.le_of_ble_eq_true rfl⟩) hP hS rfl hl.1 rfl (Nat.le_of_ble_eq_true rfl) dX2_doRules_38 (fun H locs hP hS => ?_)
      cases hd
      exact sn_rv C hP hS dX2_doRules_41
    · replace hd := (if_pos hc).symm.trans hd
      refine lv_aload_n hx hb dX2_doRules_23 rfl (lv_at hl 1 rfl) ?_
      refine lv_iload_n hx hb dX2_doRules_24 rfl (lv_at hl 2 rfl) ?_
      obtain ⟨r4, hr4, hd⟩ := Option.bind_eq_some_iff.mp hd
      refine sn_Sv (rest := []) (As := [.ref (g.2.2.2 o0), .int x1]) (st := st) C (c_X2_doTree hi hO0 hr4) (va_cwS 2 hts gX2_doRules_X2_doTree rfl rfl rfl (by decide +kernel) ⟨Nat.le_of_ble_eq_true rfl, Nat.le_of_ble_eq_true rfl⟩) hP hS rfl hl.1 rfl (Nat.le_of_ble_eq_true rfl) dX2_doRules_25 (fun H locs hP hS => ?_)
      refine lv_goto (tgt := 41) hx hb dX2_doRules_28 (by decide) ?_
      cases hd
      exact sn_rv C hP hS dX2_doRules_41
  · replace hd := (if_pos hc).symm.trans hd
    refine lv_aload_n hx hb dX2_doRules_10 rfl (lv_at hl 1 rfl) ?_
    refine lv_iload_n hx hb dX2_doRules_11 rfl (lv_at hl 2 rfl) ?_
    obtain ⟨r5, hr5, hd⟩ := Option.bind_eq_some_iff.mp hd
    refine sn_Sv (rest := []) (As := [.ref (g.2.2.2 o0), .int x1]) (st := st) C (c_X2_doSane hi hO0 hr5) (va_cwS 2 hts gX2_doRules_X2_doSane rfl rfl rfl (by decide +kernel) ⟨Nat.le_of_ble_eq_true rfl, Nat.le_of_ble_eq_true rfl⟩) hP hS rfl hl.1 rfl (Nat.le_of_ble_eq_true rfl) dX2_doRules_12 (fun H locs hP hS => ?_)
    refine lv_goto (tgt := 41) hx hb dX2_doRules_15 (by decide) ?_
    cases hd
    exact sn_rv C hP hS dX2_doRules_41
