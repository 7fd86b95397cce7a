set_option maxHeartbeats 4000000 in
set_option maxRecDepth 100000 in
theorem t_J7_fill_53178_L5 {p : Program} {l : Launch} {e : Env} {s : State} {m : MethodId} {args : Array Value} {below : List Frame} {meth : Method} {c : Code} {g : sn_G} {tb : Nat → sn_K} {N : Nat} {q0 : Nat} {n0 : Nat} {x1 : Int32} {x3 : Int32} {o : sn_S} (C : sn_Cx p s m args meth c g N cJ7_fill_53178 4 wsJ7_fill_53178 yJ7_fill_53178.cls none) (hl0 : q0 < N) (hq0 : tb q0 = (0, n0, []))  : ∀ (n : Nat) (x2 : Int32) (st : sn_S) (H : Heap) (locs : List Loc) (ls : Array Slot), D_J7_fill_53178_L5 q0 n0 x1 x3 n x2 st = some o → va_P g.1 vwCl (sn_W g tb N st) H → va_S (sn_A g N) s.heap H locs → lv_has ls 4 [(0, .ref (g.2.2.2 q0)), (1, .int x1), (2, .int x2), (3, .int x3)] → W p l e { frames := 0, cells := 0, slots := 0, locals := 0 } s m args below meth c H locs 0 0 (MQ below (sn_Qv g tb N o) args s 0 0 (sn_A g N)) (F0 m 5 ls []) := by
  obtain ⟨⟨hx, hb, hml, hown, hts⟩, hr, hlk, hC, hi⟩ := id C
  intro n
  induction n with
  | zero => intro _ _ _ _ _ hd; exact nomatch (show (none : Option (sn_S)) = some o from hd)
  | succ n ih =>
    intro x2 st H locs ls hd hP hS hl
    replace hd := (D_J7_fill_53178_L5.eq_2 _ _ _ _ _ _ _).symm.trans hd
    refine lv_iload_n hx hb dJ7_fill_53178_5 rfl (lv_at hl 2 rfl) ?_
    refine lv_iload_n hx hb dJ7_fill_53178_6 rfl (lv_at hl 3 rfl) ?_
    refine lv_icmp_ge (tgt := 20) hx hb dJ7_fill_53178_7 (by decide) (fun hc => ?_) (fun hc => ?_)
    · replace hd := (if_pos hc).symm.trans hd
      cases hd
      exact sn_rv C hP hS dJ7_fill_53178_20
    · replace hd := (if_neg hc).symm.trans hd
      refine lv_aload_n hx hb dJ7_fill_53178_10 rfl (lv_at hl 0 rfl) ?_
      refine lv_iload_n hx hb dJ7_fill_53178_11 rfl (lv_at hl 2 rfl) ?_
      refine lv_iload_n hx hb dJ7_fill_53178_12 rfl (lv_at hl 1 rfl) ?_
      refine sn_ast C hP hS q0 hl0 hq0 hd dJ7_fill_53178_13 (fun k1 H locs hk1 hd hP hS => ?_)
      refine lv_iinc (v := (x2 + (1 : Int32))) (lv' := [(2, .int (x2 + (1 : Int32))), (0, .ref (g.2.2.2 q0)), (1, .int x1), (3, .int x3)]) hx hb dJ7_fill_53178_14 hl (k := 2) rfl rfl (by decide) rfl (fun ls hl => ?_)
      refine lv_goto (tgt := 5) hx hb dJ7_fill_53178_17 (by decide) ?_
      exact ih (x2 + (1 : Int32)) (sn_wr st q0 k1 x1) _ _ _ hd hP hS (lv_sub hl [1, 2, 0, 3] rfl)

set_option maxHeartbeats 4000000 in
set_option maxRecDepth 100000 in
theorem c_J7_fill_53178 {l : Launch} {g : sn_G} {tb : Nat → sn_K} {N : Nat} (hi : sn_I g N) {q0 : Nat} {n0 : Nat} {x1 : Int32} (hl0 : q0 < N) (hq0 : tb q0 = (0, n0, [])) {st : sn_S} {o : sn_S} (hd : D_J7_fill_53178 q0 n0 x1 st = some o) : sn_Mv l yJ7_fill_53178 wsJ7_fill_53178 { frames := 0, cells := 0, slots := 0, locals := 0 } g tb N [.ref (g.2.2.2 q0), .int x1] st o := by
  refine sn_Mv.ofJ (cc := cJ7_fill_53178) (nL := 4) (ret := none) hi (by decide) rfl (Nat.le_of_ble_eq_true rfl) ?_
  intro p e s m args below meth c ls C hP hS hl
  have hl : lv_has ls 4 [(0, .ref (g.2.2.2 q0)), (1, .int x1)] := hl
  obtain ⟨⟨hx, hb, hml, hown, hts⟩, hr, hlk, hC, hi⟩ := id C
  unfold D_J7_fill_53178 at hd
  refine lv_iconst (v := (0 : Int32)) hx hb dJ7_fill_53178_0 (by decide) ?_
  refine lv_istore_n (lv' := [(2, .int (0 : Int32)), (0, .ref (g.2.2.2 q0)), (1, .int x1)]) hx hb dJ7_fill_53178_1 rfl hl (by decide) rfl (fun ls hl => ?_)
  refine lv_aload_n hx hb dJ7_fill_53178_2 rfl (lv_at hl 1 rfl) ?_
  refine sn_alen C hP q0 hl0 hq0 dJ7_fill_53178_3 ?_
  refine lv_istore_n (lv' := [(3, .int (nI n0)), (2, .int (0 : Int32)), (0, .ref (g.2.2.2 q0)), (1, .int x1)]) hx hb dJ7_fill_53178_4 rfl hl (by decide) rfl (fun ls hl => ?_)
  exact t_J7_fill_53178_L5 C hl0 hq0 4096 (0 : Int32) st _ _ _ hd hP hS (lv_sub hl [2, 3, 1, 0] rfl)

set_option maxHeartbeats 4000000 in
set_option maxRecDepth 100000 in
theorem c_J6_bitCount_0f7a4 {l : Launch} {g : sn_G} {tb : Nat → sn_K} {N : Nat} (hi : sn_I g N) {x0 : Int32}  {st : sn_S} {o : Int32} (hd : D_J6_bitCount_0f7a4 x0 = some o) : sn_Mi l yJ6_bitCount_0f7a4 wsJ6_bitCount_0f7a4 { frames := 0, cells := 0, slots := 0, locals := 0 } g tb N [.int x0] st o st := by
  refine sn_Mi.ofJ (cc := cJ6_bitCount_0f7a4) (nL := 1) (ret := (some .int)) hi (by decide) rfl (Nat.le_of_ble_eq_true rfl) ?_
  intro p e s m args below meth c ls C hP hS hl
  have hl : lv_has ls 1 [(0, .int x0)] := hl
  obtain ⟨⟨hx, hb, hml, hown, hts⟩, hr, hlk, hC, hi⟩ := id C
  unfold D_J6_bitCount_0f7a4 at hd
  refine lv_iload_n hx hb dJ6_bitCount_0f7a4_0 rfl (lv_at hl 0 rfl) ?_
  refine lv_iload_n hx hb dJ6_bitCount_0f7a4_1 rfl (lv_at hl 0 rfl) ?_
  refine lv_iconst (v := (1 : Int32)) hx hb dJ6_bitCount_0f7a4_2 (by decide) ?_
  refine lv_iushr (v := (x0.toUInt32 >>> ((1 : Int32).toUInt32 &&& Int32.toUInt32 31)).toInt32) hx hb dJ6_bitCount_0f7a4_3 rfl ?_
  refine lv_ldcw (v := (1431655765 : Int32)) hx hb hown (hts (.constant RJ6 265 (1431655765)) (by decide +kernel)) dJ6_bitCount_0f7a4_4 ?_
  refine lv_iand hx hb dJ6_bitCount_0f7a4_7 ?_
  refine lv_isub hx hb dJ6_bitCount_0f7a4_8 ?_
  refine lv_istore_n (lv' := [(0, .int (x0 - ((x0.toUInt32 >>> ((1 : Int32).toUInt32 &&& Int32.toUInt32 31)).toInt32 &&& (1431655765 : Int32))))]) hx hb dJ6_bitCount_0f7a4_9 rfl hl (by decide) rfl (fun ls hl => ?_)
  refine lv_iload_n hx hb dJ6_bitCount_0f7a4_10 rfl (lv_at hl 0 rfl) ?_
  refine lv_ldcw (v := (858993459 : Int32)) hx hb hown (hts (.constant RJ6 266 (858993459)) (by decide +kernel)) dJ6_bitCount_0f7a4_11 ?_
  refine lv_iand hx hb dJ6_bitCount_0f7a4_14 ?_
  refine lv_iload_n hx hb dJ6_bitCount_0f7a4_15 rfl (lv_at hl 0 rfl) ?_
  refine lv_iconst (v := (2 : Int32)) hx hb dJ6_bitCount_0f7a4_16 (by decide) ?_
  refine lv_iushr (v := ((x0 - ((x0.toUInt32 >>> ((1 : Int32).toUInt32 &&& Int32.toUInt32 31)).toInt32 &&& (1431655765 : Int32))).toUInt32 >>> ((2 : Int32).toUInt32 &&& Int32.toUInt32 31)).toInt32) hx hb dJ6_bitCount_0f7a4_17 rfl ?_
  refine lv_ldcw (v := (858993459 : Int32)) hx hb hown (hts (.constant RJ6 266 (858993459)) (by decide +kernel)) dJ6_bitCount_0f7a4_18 ?_
  refine lv_iand hx hb dJ6_bitCount_0f7a4_21 ?_
  refine lv_iadd hx hb dJ6_bitCount_0f7a4_22 ?_
  refine lv_istore_n (lv' := [(0, .int (((x0 - ((x0.toUInt32 >>> ((1 : Int32).toUInt32 &&& Int32.toUInt32 31)).toInt32 &&& (1431655765 : Int32))) &&& (858993459 : Int32)) + (((x0 - ((x0.toUInt32 >>> ((1 : Int32).toUInt32 &&& Int32.toUInt32 31)).toInt32 &&& (1431655765 : Int32))).toUInt32 >>> ((2 : Int32).toUInt32 &&& Int32.toUInt32 31)).toInt32 &&& (858993459 : Int32))))]) hx hb dJ6_bitCount_0f7a4_23 rfl hl (by decide) rfl (fun ls hl => ?_)
  refine lv_iload_n hx hb dJ6_bitCount_0f7a4_24 rfl (lv_at hl 0 rfl) ?_
  refine lv_iload_n hx hb dJ6_bitCount_0f7a4_25 rfl (lv_at hl 0 rfl) ?_
  refine lv_iconst (v := (4 : Int32)) hx hb dJ6_bitCount_0f7a4_26 (by decide) ?_
  refine lv_iushr (v := ((((x0 - ((x0.toUInt32 >>> ((1 : Int32).toUInt32 &&& Int32.toUInt32 31)).toInt32 &&& (1431655765 : Int32))) &&& (858993459 : Int32)) + (((x0 - ((x0.toUInt32 >>> ((1 : Int32).toUInt32 &&& Int32.toUInt32 31)).toInt32 &&& (1431655765 : Int32))).toUInt32 >>> ((2 : Int32).toUInt32 &&& Int32.toUInt32 31)).toInt32 &&& (858993459 : Int32))).toUInt32 >>> ((4 : Int32).toUInt32 &&& Int32.toUInt32 31)).toInt32) hx hb dJ6_bitCount_0f7a4_27 rfl ?_
  refine lv_iadd hx hb dJ6_bitCount_0f7a4_28 ?_
  refine lv_ldcw (v := (252645135 : Int32)) hx hb hown (hts (.constant RJ6 267 (252645135)) (by decide +kernel)) dJ6_bitCount_0f7a4_29 ?_
  refine lv_iand hx hb dJ6_bitCount_0f7a4_32 ?_
  refine lv_istore_n (lv' := [(0, .int (((((x0 - ((x0.toUInt32 >>> ((1 : Int32).toUInt32 &&& Int32.toUInt32 31)).toInt32 &&& (1431655765 : Int32))) &&& (858993459 : Int32)) + (((x0 - ((x0.toUInt32 >>> ((1 : Int32).toUInt32 &&& Int32.toUInt32 31)).toInt32 &&& (1431655765 : Int32))).toUInt32 >>> ((2 : Int32).toUInt32 &&& Int32.toUInt32 31)).toInt32 &&& (858993459 : Int32))) + ((((x0 - ((x0.toUInt32 >>> ((1 : Int32).toUInt32 &&& Int32.toUInt32 31)).toInt32 &&& (1431655765 : Int32))) &&& (858993459 : Int32)) + (((x0 - ((x0.toUInt32 >>> ((1 : Int32).toUInt32 &&& Int32.toUInt32 31)).toInt32 &&& (1431655765 : Int32))).toUInt32 >>> ((2 : Int32).toUInt32 &&& Int32.toUInt32 31)).toInt32 &&& (858993459 : Int32))).toUInt32 >>> ((4 : Int32).toUInt32 &&& Int32.toUInt32 31)).toInt32) &&& (252645135 : Int32)))]) hx hb dJ6_bitCount_0f7a4_33 rfl hl (by decide) rfl (fun ls hl => ?_)
  refine lv_iload_n hx hb dJ6_bitCount_0f7a4_34 rfl (lv_at hl 0 rfl) ?_
  refine lv_iload_n hx hb dJ6_bitCount_0f7a4_35 rfl (lv_at hl 0 rfl) ?_
  refine lv_bipush (v := (8 : Int32)) hx hb dJ6_bitCount_0f7a4_36 (by decide) ?_
  refine lv_iushr (v := ((((((x0 - ((x0.toUInt32 >>> ((1 : Int32).toUInt32 &&& Int32.toUInt32 31)).toInt32 &&& (1431655765 : Int32))) &&& (858993459 : Int32)) + (((x0 - ((x0.toUInt32 >>> ((1 : Int32).toUInt32 &&& Int32.toUInt32 31)).toInt32 &&& (1431655765 : Int32))).toUInt32 >>> ((2 : Int32).toUInt32 &&& Int32.toUInt32 31)).toInt32 &&& (858993459 : Int32))) + ((((x0 - ((x0.toUInt32 >>> ((1 : Int32).toUInt32 &&& Int32.toUInt32 31)).toInt32 &&& (1431655765 : Int32))) &&& (858993459 : Int32)) + (((x0 - ((x0.toUInt32 >>> ((1 : Int32).toUInt32 &&& Int32.toUInt32 31)).toInt32 &&& (1431655765 : Int32))).toUInt32 >>> ((2 : Int32).toUInt32 &&& Int32.toUInt32 31)).toInt32 &&& (858993459 : Int32))).toUInt32 >>> ((4 : Int32).toUInt32 &&& Int32.toUInt32 31)).toInt32) &&& (252645135 : Int32)).toUInt32 >>> ((8 : Int32).toUInt32 &&& Int32.toUInt32 31)).toInt32) hx hb dJ6_bitCount_0f7a4_38 rfl ?_
  refine lv_iadd hx hb dJ6_bitCount_0f7a4_39 ?_
  refine lv_istore_n (lv' := [(0, .int ((((((x0 - ((x0.toUInt32 >>> ((1 : Int32).toUInt32 &&& Int32.toUInt32 31)).toInt32 &&& (1431655765 : Int32))) &&& (858993459 : Int32)) + (((x0 - ((x0.toUInt32 >>> ((1 : Int32).toUInt32 &&& Int32.toUInt32 31)).toInt32 &&& (1431655765 : Int32))).toUInt32 >>> ((2 : Int32).toUInt32 &&& Int32.toUInt32 31)).toInt32 &&& (858993459 : Int32))) + ((((x0 - ((x0.toUInt32 >>> ((1 : Int32).toUInt32 &&& Int32.toUInt32 31)).toInt32 &&& (1431655765 : Int32))) &&& (858993459 : Int32)) + (((x0 - ((x0.toUInt32 >>> ((1 : Int32).toUInt32 &&& Int32.toUInt32 31)).toInt32 &&& (1431655765 : Int32))).toUInt32 >>> ((2 : Int32).toUInt32 &&& Int32.toUInt32 31)).toInt32 &&& (858993459 : Int32))).toUInt32 >>> ((4 : Int32).toUInt32 &&& Int32.toUInt32 31)).toInt32) &&& (252645135 : Int32)) + ((((((x0 - ((x0.toUInt32 >>> ((1 : Int32).toUInt32 &&& Int32.toUInt32 31)).toInt32 &&& (1431655765 : Int32))) &&& (858993459 : Int32)) + (((x0 - ((x0.toUInt32 >>> ((1 : Int32).toUInt32 &&& Int32.toUInt32 31)).toInt32 &&& (1431655765 : Int32))).toUInt32 >>> ((2 : Int32).toUInt32 &&& Int32.toUInt32 31)).toInt32 &&& (858993459 : Int32))) + ((((x0 - ((x0.toUInt32 >>> ((1 : Int32).toUInt32 &&& Int32.toUInt32 31)).toInt32 &&& (1431655765 : Int32))) &&& (858993459 : Int32)) + (((x0 - ((x0.toUInt32 >>> ((1 : Int32).toUInt32 &&& Int32.toUInt32 31)).toInt32 &&& (1431655765 : Int32))).toUInt32 >>> ((2 : Int32).toUInt32 &&& Int32.toUInt32 31)).toInt32 &&& (858993459 : Int32))).toUInt32 >>> ((4 : Int32).toUInt32 &&& Int32.toUInt32 31)).toInt32) &&& (252645135 : Int32)).toUInt32 >>> ((8 : Int32).toUInt32 &&& Int32.toUInt32 31)).toInt32))]) hx hb dJ6_bitCount_0f7a4_40 rfl hl (by decide) rfl (fun ls hl => ?_)
  refine lv_iload_n hx hb dJ6_bitCount_0f7a4_41 rfl (lv_at hl 0 rfl) ?_
  refine lv_iload_n hx hb dJ6_bitCount_0f7a4_42 rfl (lv_at hl 0 rfl) ?_
  refine lv_bipush (v := (16 : Int32)) hx hb dJ6_bitCount_0f7a4_43 (by decide) ?_
  refine lv_iushr (v := (((((((x0 - ((x0.toUInt32 >>> ((1 : Int32).toUInt32 &&& Int32.toUInt32 31)).toInt32 &&& (1431655765 : Int32))) &&& (858993459 : Int32)) + (((x0 - ((x0.toUInt32 >>> ((1 : Int32).toUInt32 &&& Int32.toUInt32 31)).toInt32 &&& (1431655765 : Int32))).toUInt32 >>> ((2 : Int32).toUInt32 &&& Int32.toUInt32 31)).toInt32 &&& (858993459 : Int32))) + ((((x0 - ((x0.toUInt32 >>> ((1 : Int32).toUInt32 &&& Int32.toUInt32 31)).toInt32 &&& (1431655765 : Int32))) &&& (858993459 : Int32)) + (((x0 - ((x0.toUInt32 >>> ((1 : Int32).toUInt32 &&& Int32.toUInt32 31)).toInt32 &&& (1431655765 : Int32))).toUInt32 >>> ((2 : Int32).toUInt32 &&& Int32.toUInt32 31)).toInt32 &&& (858993459 : Int32))).toUInt32 >>> ((4 : Int32).toUInt32 &&& Int32.toUInt32 31)).toInt32) &&& (252645135 : Int32)) + ((((((x0 - ((x0.toUInt32 >>> ((1 : Int32).toUInt32 &&& Int32.toUInt32 31)).toInt32 &&& (1431655765 : Int32))) &&& (858993459 : Int32)) + (((x0 - ((x0.toUInt32 >>> ((1 : Int32).toUInt32 &&& Int32.toUInt32 31)).toInt32 &&& (1431655765 : Int32))).toUInt32 >>> ((2 : Int32).toUInt32 &&& Int32.toUInt32 31)).toInt32 &&& (858993459 : Int32))) + ((((x0 - ((x0.toUInt32 >>> ((1 : Int32).toUInt32 &&& Int32.toUInt32 31)).toInt32 &&& (1431655765 : Int32))) &&& (858993459 : Int32)) + (((x0 - ((x0.toUInt32 >>> ((1 : Int32).toUInt32 &&& Int32.toUInt32 31)).toInt32 &&& (1431655765 : Int32))).toUInt32 >>> ((2 : Int32).toUInt32 &&& Int32.toUInt32 31)).toInt32 &&& (858993459 : Int32))).toUInt32 >>> ((4 : Int32).toUInt32 &&& Int32.toUInt32 31)).toInt32) &&& (252645135 : Int32)).toUInt32 >>> ((8 : Int32).toUInt32 &&& Int32.toUInt32 31)).toInt32).toUInt32 >>> ((16 : Int32).toUInt32 &&& Int32.toUInt32 31)).toInt32) hx hb dJ6_bitCount_0f7a4_45 rfl ?_
  refine lv_iadd hx hb dJ6_bitCount_0f7a4_46 ?_
  refine lv_istore_n (lv' := [(0, .int (((((((x0 - ((x0.toUInt32 >>> ((1 : Int32).toUInt32 &&& Int32.toUInt32 31)).toInt32 &&& (1431655765 : Int32))) &&& (858993459 : Int32)) + (((x0 - ((x0.toUInt32 >>> ((1 : Int32).toUInt32 &&& Int32.toUInt32 31)).toInt32 &&& (1431655765 : Int32))).toUInt32 >>> ((2 : Int32).toUInt32 &&& Int32.toUInt32 31)).toInt32 &&& (858993459 : Int32))) + ((((x0 - ((x0.toUInt32 >>> ((1 : Int32).toUInt32 &&& Int32.toUInt32 31)).toInt32 &&& (1431655765 : Int32))) &&& (858993459 : Int32)) + (((x0 - ((x0.toUInt32 >>> ((1 : Int32).toUInt32 &&& Int32.toUInt32 31)).toInt32 &&& (1431655765 : Int32))).toUInt32 >>> ((2 : Int32).toUInt32 &&& Int32.toUInt32 31)).toInt32 &&& (858993459 : Int32))).toUInt32 >>> ((4 : Int32).toUInt32 &&& Int32.toUInt32 31)).toInt32) &&& (252645135 : Int32)) + ((((((x0 - ((x0.toUInt32 >>> ((1 : Int32).toUInt32 &&& Int32.toUInt32 31)).toInt32 &&& (1431655765 : Int32))) &&& (858993459 : Int32)) + (((x0 - ((x0.toUInt32 >>> ((1 : Int32).toUInt32 &&& Int32.toUInt32 31)).toInt32 &&& (1431655765 : Int32))).toUInt32 >>> ((2 : Int32).toUInt32 &&& Int32.toUInt32 31)).toInt32 &&& (858993459 : Int32))) + ((((x0 - ((x0.toUInt32 >>> ((1 : Int32).toUInt32 &&& Int32.toUInt32 31)).toInt32 &&& (1431655765 : Int32))) &&& (858993459 : Int32)) + (((x0 - ((x0.toUInt32 >>> ((1 : Int32).toUInt32 &&& Int32.toUInt32 31)).toInt32 &&& (1431655765 : Int32))).toUInt32 >>> ((2 : Int32).toUInt32 &&& Int32.toUInt32 31)).toInt32 &&& (858993459 : Int32))).toUInt32 >>> ((4 : Int32).toUInt32 &&& Int32.toUInt32 31)).toInt32) &&& (252645135 : Int32)).toUInt32 >>> ((8 : Int32).toUInt32 &&& Int32.toUInt32 31)).toInt32) + (((((((x0 - ((x0.toUInt32 >>> ((1 : Int32).toUInt32 &&& Int32.toUInt32 31)).toInt32 &&& (1431655765 : Int32))) &&& (858993459 : Int32)) + (((x0 - ((x0.toUInt32 >>> ((1 : Int32).toUInt32 &&& Int32.toUInt32 31)).toInt32 &&& (1431655765 : Int32))).toUInt32 >>> ((2 : Int32).toUInt32 &&& Int32.toUInt32 31)).toInt32 &&& (858993459 : Int32))) + ((((x0 - ((x0.toUInt32 >>> ((1 : Int32).toUInt32 &&& Int32.toUInt32 31)).toInt32 &&& (1431655765 : Int32))) &&& (858993459 : Int32)) + (((x0 - ((x0.toUInt32 >>> ((1 : Int32).toUInt32 &&& Int32.toUInt32 31)).toInt32 &&& (1431655765 : Int32))).toUInt32 >>> ((2 : Int32).toUInt32 &&& Int32.toUInt32 31)).toInt32 &&& (858993459 : Int32))).toUInt32 >>> ((4 : Int32).toUInt32 &&& Int32.toUInt32 31)).toInt32) &&& (252645135 : Int32)) + ((((((x0 - ((x0.toUInt32 >>> ((1 : Int32).toUInt32 &&& Int32.toUInt32 31)).toInt32 &&& (1431655765 : Int32))) &&& (858993459 : Int32)) + (((x0 - ((x0.toUInt32 >>> ((1 : Int32).toUInt32 &&& Int32.toUInt32 31)).toInt32 &&& (1431655765 : Int32))).toUInt32 >>> ((2 : Int32).toUInt32 &&& Int32.toUInt32 31)).toInt32 &&& (858993459 : Int32))) + ((((x0 - ((x0.toUInt32 >>> ((1 : Int32).toUInt32 &&& Int32.toUInt32 31)).toInt32 &&& (1431655765 : Int32))) &&& (858993459 : Int32)) + (((x0 - ((x0.toUInt32 >>> ((1 : Int32).toUInt32 &&& Int32.toUInt32 31)).toInt32 &&& (1431655765 : Int32))).toUInt32 >>> ((2 : Int32).toUInt32 &&& Int32.toUInt32 31)).toInt32 &&& (858993459 : Int32))).toUInt32 >>> ((4 : Int32).toUInt32 &&& Int32.toUInt32 31)).toInt32) &&& (252645135 : Int32)).toUInt32 >>> ((8 : Int32).toUInt32 &&& Int32.toUInt32 31)).toInt32).toUInt32 >>> ((16 : Int32).toUInt32 &&& Int32.toUInt32 31)).toInt32))]) hx hb dJ6_bitCount_0f7a4_47 rfl hl (by decide) rfl (fun ls hl => ?_)
  refine lv_iload_n hx hb dJ6_bitCount_0f7a4_48 rfl (lv_at hl 0 rfl) ?_
  refine lv_bipush (v := (63 : Int32)) hx hb dJ6_bitCount_0f7a4_49 (by decide) ?_
  refine lv_iand hx hb dJ6_bitCount_0f7a4_51 ?_
  cases hd
  exact sn_ri C hP hS dJ6_bitCount_0f7a4_52

set_option maxHeartbeats 4000000 in
set_option maxRecDepth 100000 in
theorem c_X5_has {l : Launch} {g : sn_G} {tb : Nat → sn_K} {N : Nat} (hi : sn_I g N) {x0 : Int32} {x1 : Int32}  {st : sn_S} {o : Int32} (hd : D_X5_has x0 x1 = some o) : sn_Mi l yX5_has wsX5_has { frames := 0, cells := 0, slots := 0, locals := 0 } g tb N [.int x0, .int x1] st o st := by
  refine sn_Mi.of (cc := cX5_has) (nL := 2) (ret := (some .boolean)) hi (by decide) rfl (Nat.le_of_ble_eq_true rfl) ?_
  intro p e s m args below meth c ls C hP hS hl
  have hl : lv_has ls 2 [(0, .int x0), (1, .int x1)] := hl
  obtain ⟨⟨hx, hb, hml, hown, hts⟩, hr, hlk, hC, hi⟩ := id C
  unfold D_X5_has at hd
  refine lv_iload_n hx hb dX5_has_0 rfl (lv_at hl 0 rfl) ?_
  refine lv_iload_n hx hb dX5_has_1 rfl (lv_at hl 1 rfl) ?_
  refine lv_ishr hx hb dX5_has_2 ?_
  refine lv_iconst (v := (1 : Int32)) hx hb dX5_has_3 (by decide) ?_
  refine lv_iand hx hb dX5_has_4 ?_
  refine lv_iconst (v := (1 : Int32)) hx hb dX5_has_5 (by decide) ?_
  refine lv_icmp_ne (tgt := 13) hx hb dX5_has_6 (by decide) (fun hc => ?_) (fun hc => ?_)
  · replace hd := (if_neg hc).symm.trans hd
    refine lv_iconst (v := (0 : Int32)) hx hb dX5_has_13 (by decide) ?_
    cases hd
    exact sn_rz (Or.inl rfl) C hP hS dX5_has_14
  · replace hd := (if_pos hc).symm.trans hd
    refine lv_iconst (v := (1 : Int32)) hx hb dX5_has_9 (by decide) ?_
    refine lv_goto (tgt := 14) hx hb dX5_has_10 (by decide) ?_
    cases hd
    exact sn_rz (Or.inr rfl) C hP hS dX5_has_14

set_option maxHeartbeats 4000000 in
set_option maxRecDepth 100000 in
theorem c_X5_below {l : Launch} {g : sn_G} {tb : Nat → sn_K} {N : Nat} (hi : sn_I g N) {x0 : Int32}  {st : sn_S} {o : Int32} (hd : D_X5_below x0 = some o) : sn_Mi l yX5_below wsX5_below { frames := 0, cells := 0, slots := 0, locals := 0 } g tb N [.int x0] st o st := by
  refine sn_Mi.of (cc := cX5_below) (nL := 1) (ret := (some .int)) hi (by decide) rfl (Nat.le_of_ble_eq_true rfl) ?_
  intro p e s m args below meth c ls C hP hS hl
  have hl : lv_has ls 1 [(0, .int x0)] := hl
  obtain ⟨⟨hx, hb, hml, hown, hts⟩, hr, hlk, hC, hi⟩ := id C
  unfold D_X5_below at hd
  refine lv_iconst (v := (1 : Int32)) hx hb dX5_below_0 (by decide) ?_
  refine lv_iload_n hx hb dX5_below_1 rfl (lv_at hl 0 rfl) ?_
  refine lv_ishl hx hb dX5_below_2 ?_
  refine lv_iconst (v := (1 : Int32)) hx hb dX5_below_3 (by decide) ?_
  refine lv_isub hx hb dX5_below_4 ?_
  cases hd
  exact sn_ri C hP hS dX5_below_5

set_option maxHeartbeats 4000000 in
set_option maxRecDepth 100000 in
theorem t_X5_greatest_L3 {p : Program} {l : Launch} {e : Env} {s : State} {m : MethodId} {args : Array Value} {below : List Frame} {meth : Method} {c : Code} {g : sn_G} {tb : Nat → sn_K} {N : Nat} {x0 : Int32} {st : sn_S} {o : Int32} (C : sn_Cx p s m args meth c g N cX5_greatest 2 wsX5_greatest yX5_greatest.cls (some .int))   : ∀ (n : Nat) (x1 : Int32) (H : Heap) (locs : List Loc) (ls : Array Slot), D_X5_greatest_L3 x0 n x1 = some o → va_P g.1 vwCl (sn_W g tb N st) H → va_S (sn_A g N) s.heap H locs → lv_has ls 2 [(0, .int x0), (1, .int x1)] → W p l e { frames := 0, cells := 0, slots := 0, locals := 0 } s m args below meth c H locs 0 0 (MQ below (sn_Qi g tb N o st) args s 0 0 (sn_A g N)) (F0 m 3 ls []) := by
  obtain ⟨⟨hx, hb, hml, hown, hts⟩, hr, hlk, hC, hi⟩ := id C
  intro n
  induction n with
  | zero => intro _ _ _ _ hd; exact nomatch (show (none : Option (Int32)) = some o from hd)
  | succ n ih =>
    intro x1 H locs ls hd hP hS hl
    replace hd := (D_X5_greatest_L3.eq_2 _ _ _).symm.trans hd
    refine lv_iload_n hx hb dX5_greatest_3 rfl (lv_at hl 1 rfl) ?_
    refine lv_if_lt (tgt := 22) hx hb dX5_greatest_4 (by decide) (fun hc => ?_) (fun hc => ?_)
    · replace hd := (if_pos hc).symm.trans hd
      refine lv_iconst (v := (-1 : Int32)) hx hb dX5_greatest_22 (by decide) ?_
      cases hd
      exact sn_ri C hP hS dX5_greatest_23
    · replace hd := (if_neg hc).symm.trans hd
      refine lv_iload_n hx hb dX5_greatest_7 rfl (lv_at hl 0 rfl) ?_
      refine lv_iconst (v := (1 : Int32)) hx hb dX5_greatest_8 (by decide) ?_
      refine lv_iload_n hx hb dX5_greatest_9 rfl (lv_at hl 1 rfl) ?_
      refine lv_ishl hx hb dX5_greatest_10 ?_
      refine lv_icmp_lt (tgt := 16) hx hb dX5_greatest_11 (by decide) (fun hc => ?_) (fun hc => ?_)
      · replace hd := (if_pos hc).symm.trans hd
        refine lv_iinc (v := (x1 + (-1 : Int32))) (lv' := [(1, .int (x1 + (-1 : Int32))), (0, .int x0)]) hx hb dX5_greatest_16 hl (k := 1) rfl rfl (by decide) rfl (fun ls hl => ?_)
        refine lv_goto (tgt := 3) hx hb dX5_greatest_19 (by decide) ?_
        exact ih (x1 + (-1 : Int32)) _ _ _ hd hP hS (lv_sub hl [1, 0] rfl)
      · replace hd := (if_neg hc).symm.trans hd
        refine lv_iload_n hx hb dX5_greatest_14 rfl (lv_at hl 1 rfl) ?_
        cases hd
        exact sn_ri C hP hS dX5_greatest_15

set_option maxHeartbeats 4000000 in
set_option maxRecDepth 100000 in
theorem c_X5_greatest {l : Launch} {g : sn_G} {tb : Nat → sn_K} {N : Nat} (hi : sn_I g N) {x0 : Int32}  {st : sn_S} {o : Int32} (hd : D_X5_greatest x0 = some o) : sn_Mi l yX5_greatest wsX5_greatest { frames := 0, cells := 0, slots := 0, locals := 0 } g tb N [.int x0] st o st := by
  refine sn_Mi.of (cc := cX5_greatest) (nL := 2) (ret := (some .int)) hi (by decide) rfl (Nat.le_of_ble_eq_true rfl) ?_
  intro p e s m args below meth c ls C hP hS hl
  have hl : lv_has ls 2 [(0, .int x0)] := hl
  obtain ⟨⟨hx, hb, hml, hown, hts⟩, hr, hlk, hC, hi⟩ := id C
  unfold D_X5_greatest at hd
  refine lv_bipush (v := (11 : Int32)) hx hb dX5_greatest_0 (by decide) ?_
  refine lv_istore_n (lv' := [(1, .int (11 : Int32)), (0, .int x0)]) hx hb dX5_greatest_2 rfl hl (by decide) rfl (fun ls hl => ?_)
  exact t_X5_greatest_L3 (st := st) C  4096 (11 : Int32) _ _ _ hd hP hS (lv_sub hl [1, 0] rfl)

set_option maxHeartbeats 4000000 in
set_option maxRecDepth 100000 in
theorem t_X5_pick_L4 {p : Program} {l : Launch} {e : Env} {s : State} {m : MethodId} {args : Array Value} {below : List Frame} {meth : Method} {c : Code} {g : sn_G} {tb : Nat → sn_K} {N : Nat} {x0 : Int32} {x1 : Int32} {st : sn_S} {o : Int32} (C : sn_Cx p s m args meth c g N cX5_pick 4 wsX5_pick yX5_pick.cls (some .int))   : ∀ (n : Nat) (x2 : Int32) (x3 : Int32) (H : Heap) (locs : List Loc) (ls : Array Slot), D_X5_pick_L4 x0 x1 n x2 x3 = some o → va_P g.1 vwCl (sn_W g tb N st) H → va_S (sn_A g N) s.heap H locs → lv_has ls 4 [(0, .int x0), (1, .int x1), (2, .int x2), (3, .int x3)] → W p l e { frames := 1, cells := 0, slots := 0, locals := 21 } s m args below meth c H locs 0 0 (MQ below (sn_Qi g tb N o st) args s 0 0 (sn_A g N)) (F0 m 4 ls []) := by
  obtain ⟨⟨hx, hb, hml, hown, hts⟩, hr, hlk, hC, hi⟩ := id C
  intro n
  induction n with
  | zero => intro _ _ _ _ _ hd; exact nomatch (show (none : Option (Int32)) = some o from hd)
  | succ n ih =>
    intro x2 x3 H locs ls hd hP hS hl
    replace hd := (D_X5_pick_L4.eq_2 _ _ _ _ _).symm.trans hd
    refine lv_iload_n hx hb dX5_pick_4 rfl (lv_at hl 3 rfl) ?_
    refine lv_bipush (v := (12 : Int32)) hx hb dX5_pick_5 (by decide) ?_
    refine lv_icmp_ge (tgt := 33) hx hb dX5_pick_7 (by decide) (fun hc => ?_) (fun hc => ?_)
    · replace hd := (if_pos hc).symm.trans hd
      refine lv_iconst (v := (-1 : Int32)) hx hb dX5_pick_33 (by decide) ?_
      cases hd
      exact sn_ri C hP hS dX5_pick_34
    · replace hd := (if_neg hc).symm.trans hd
      refine lv_iload_n hx hb dX5_pick_10 rfl (lv_at hl 0 rfl) ?_
      refine lv_iload_n hx hb dX5_pick_11 rfl (lv_at hl 3 rfl) ?_
      obtain ⟨r1, hr1, hd⟩ := Option.bind_eq_some_iff.mp hd
      refine sn_Si (rest := []) (As := [.int x0, .int x3]) (st := st) C (c_X5_has hi  hr1) (va_cwS 2 hts gX5_pick_X5_has rfl rfl rfl (by decide +kernel) ⟨Nat.le_of_ble_eq_true rfl, Nat.le_of_ble_eq_true rfl⟩) hP hS rfl hl.1 rfl (Nat.le_of_ble_eq_true rfl) dX5_pick_12 (fun H locs hP hS => ?_)
      refine lv_if_eq (tgt := 27) hx hb dX5_pick_15 (by decide) (fun hc => ?_) (fun hc => ?_)
      · replace hd := (if_pos hc).symm.trans hd
        refine lv_iinc (v := (x3 + (1 : Int32))) (lv' := [(3, .int (x3 + (1 : Int32))), (0, .int x0), (1, .int x1), (2, .int x2)]) hx hb dX5_pick_27 hl (k := 3) rfl rfl (by decide) rfl (fun ls hl => ?_)
        refine lv_goto (tgt := 4) hx hb dX5_pick_30 (by decide) ?_
        exact ih x2 (x3 + (1 : Int32)) _ _ _ hd hP hS (lv_sub hl [1, 2, 3, 0] rfl)
      · replace hd := (if_neg hc).symm.trans hd
        refine lv_iload_n hx hb dX5_pick_18 rfl (lv_at hl 2 rfl) ?_
        refine lv_if_ne (tgt := 24) hx hb dX5_pick_19 (by decide) (fun hc => ?_) (fun hc => ?_)
        · replace hd := (if_neg hc).symm.trans hd
          refine lv_iinc (v := (x2 + (-1 : Int32))) (lv' := [(2, .int (x2 + (-1 : Int32))), (0, .int x0), (1, .int x1), (3, .int x3)]) hx hb dX5_pick_24 hl (k := 2) rfl rfl (by decide) rfl (fun ls hl => ?_)
          refine lv_iinc (v := (x3 + (1 : Int32))) (lv' := [(3, .int (x3 + (1 : Int32))), (2, .int (x2 + (-1 : Int32))), (0, .int x0), (1, .int x1)]) hx hb dX5_pick_27 hl (k := 3) rfl rfl (by decide) rfl (fun ls hl => ?_)
          refine lv_goto (tgt := 4) hx hb dX5_pick_30 (by decide) ?_
          exact ih (x2 + (-1 : Int32)) (x3 + (1 : Int32)) _ _ _ hd hP hS (lv_sub hl [2, 3, 1, 0] rfl)
        · replace hd := (if_pos hc).symm.trans hd
          refine lv_iload_n hx hb dX5_pick_22 rfl (lv_at hl 3 rfl) ?_
          cases hd
          exact sn_ri C hP hS dX5_pick_23

set_option maxHeartbeats 4000000 in
set_option maxRecDepth 100000 in
theorem c_X5_pick {l : Launch} {g : sn_G} {tb : Nat → sn_K} {N : Nat} (hi : sn_I g N) {x0 : Int32} {x1 : Int32}  {st : sn_S} {o : Int32} (hd : D_X5_pick x0 x1 = some o) : sn_Mi l yX5_pick wsX5_pick { frames := 1, cells := 0, slots := 0, locals := 21 } g tb N [.int x0, .int x1] st o st := by
  refine sn_Mi.of (cc := cX5_pick) (nL := 4) (ret := (some .int)) hi (by decide) rfl (Nat.le_of_ble_eq_true rfl) ?_
  intro p e s m args below meth c ls C hP hS hl
  have hl : lv_has ls 4 [(0, .int x0), (1, .int x1)] := hl
  obtain ⟨⟨hx, hb, hml, hown, hts⟩, hr, hlk, hC, hi⟩ := id C
  unfold D_X5_pick at hd
  refine lv_iload_n hx hb dX5_pick_0 rfl (lv_at hl 1 rfl) ?_
  refine lv_istore_n (lv' := [(2, .int x1), (0, .int x0), (1, .int x1)]) hx hb dX5_pick_1 rfl hl (by decide) rfl (fun ls hl => ?_)
  refine lv_iconst (v := (0 : Int32)) hx hb dX5_pick_2 (by decide) ?_
  refine lv_istore_n (lv' := [(3, .int (0 : Int32)), (2, .int x1), (0, .int x0), (1, .int x1)]) hx hb dX5_pick_3 rfl hl (by decide) rfl (fun ls hl => ?_)
  exact t_X5_pick_L4 (st := st) C  4096 x1 (0 : Int32) _ _ _ hd hP hS (lv_sub hl [2, 3, 1, 0] rfl)

set_option maxHeartbeats 4000000 in
set_option maxRecDepth 100000 in
theorem c_X5_isWay {l : Launch} {g : sn_G} {tb : Nat → sn_K} {N : Nat} (hi : sn_I g N) {x0 : Int32}  {st : sn_S} {o : Int32} (hd : D_X5_isWay x0 = some o) : sn_Mi l yX5_isWay wsX5_isWay { frames := 0, cells := 0, slots := 0, locals := 0 } g tb N [.int x0] st o st := by
  refine sn_Mi.of (cc := cX5_isWay) (nL := 1) (ret := (some .boolean)) hi (by decide) rfl (Nat.le_of_ble_eq_true rfl) ?_
  intro p e s m args below meth c ls C hP hS hl
  have hl : lv_has ls 1 [(0, .int x0)] := hl
  obtain ⟨⟨hx, hb, hml, hown, hts⟩, hr, hlk, hC, hi⟩ := id C
  unfold D_X5_isWay at hd
  refine lv_iload_n hx hb dX5_isWay_0 rfl (lv_at hl 0 rfl) ?_
  refine lv_if_lt (tgt := 13) hx hb dX5_isWay_1 (by decide) (fun hc => ?_) (fun hc => ?_)
  · replace hd := (if_pos hc).symm.trans hd
    refine lv_iconst (v := (0 : Int32)) hx hb dX5_isWay_13 (by decide) ?_
    cases hd
    exact sn_rz (Or.inl rfl) C hP hS dX5_isWay_14
  · replace hd := (if_neg hc).symm.trans hd
    refine lv_iload_n hx hb dX5_isWay_4 rfl (lv_at hl 0 rfl) ?_
    refine lv_iconst (v := (4 : Int32)) hx hb dX5_isWay_5 (by decide) ?_
    refine lv_icmp_gt (tgt := 13) hx hb dX5_isWay_6 (by decide) (fun hc => ?_) (fun hc => ?_)
    · replace hd := (if_pos hc).symm.trans hd
      refine lv_iconst (v := (0 : Int32)) hx hb dX5_isWay_13 (by decide) ?_
      cases hd
      exact sn_rz (Or.inl rfl) C hP hS dX5_isWay_14
    · replace hd := (if_neg hc).symm.trans hd
      refine lv_iconst (v := (1 : Int32)) hx hb dX5_isWay_9 (by decide) ?_
      refine lv_goto (tgt := 14) hx hb dX5_isWay_10 (by decide) ?_
      cases hd
      exact sn_rz (Or.inr rfl) C hP hS dX5_isWay_14

set_option maxHeartbeats 4000000 in
set_option maxRecDepth 100000 in
theorem c_X5_mix {l : Launch} {g : sn_G} {tb : Nat → sn_K} {N : Nat} (hi : sn_I g N) {j0 : Int64} {x2 : Int32}  {st : sn_S} {o : Int64} (hd : D_X5_mix j0 x2 = some o) : sn_Ml l yX5_mix wsX5_mix { frames := 0, cells := 0, slots := 0, locals := 0 } g tb N [.long j0, .int x2] st o st := by
  refine sn_Ml.of (cc := cX5_mix) (nL := 3) (ret := (some .long)) hi (by decide) rfl (Nat.le_of_ble_eq_true rfl) ?_
  intro p e s m args below meth c ls C hP hS hl
  have hl : lv_has ls 3 [(0, .long j0), (2, .int x2)] := hl
  obtain ⟨⟨hx, hb, hml, hown, hts⟩, hr, hlk, hC, hi⟩ := id C
  unfold D_X5_mix at hd
  refine lv_ldc2 (v := 31) hx hb hown (hts (.constantLong RX5 174 (31)) (by decide +kernel)) dX5_mix_0 ?_
  refine lv_lload_n hx hb dX5_mix_3 rfl (lv_at hl 0 rfl) ?_
  refine lv_lmul hx hb dX5_mix_4 ?_
  refine lv_iload_n hx hb dX5_mix_5 rfl (lv_at hl 1 rfl) ?_
  refine lv_i2l (v := x2.toInt64) hx hb dX5_mix_6 rfl ?_
  refine lv_ladd hx hb dX5_mix_7 ?_
  cases hd
  exact sn_rl C hP hS dX5_mix_8
