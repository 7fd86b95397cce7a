/-! MAKING: the constructors -/
theorem tv_tv (tb : Nat → sn_K) (b : Nat) (k k' : sn_K) : tv (tv tb b k) b k' = tv tb b k' := by
  funext c
  unfold tv
  by_cases e : c = b
  · rw [if_pos e, if_pos e]
  · rw [if_neg e, if_neg e, if_neg e]
set_option maxHeartbeats 4000000 in
set_option maxRecDepth 100000 in
/-- Shape() -/
theorem c_X3_init {l : Launch} {g : sn_G} {tb : Nat → sn_K} {b : Nat} (hi : sn_I g (b + 1)) (hcl : cn_cl tb (b + 1)) (kb : tb b = (4, 0, [(0, 0), (2, 0), (2, 0)])) (k1 : tb (b + 1) = (0, 12, [])) (k2 : tb (b + 2) = (0, 12, [])) {st : sn_S} (z1 : st.1 (b + 1) = fun _ => 0) (z2 : st.1 (b + 2) = fun _ => 0) {o : sn_S} (hd : D_X3_measure b (sn_wr st b 0 2) = some o) : cn_M l yX3_init wsX3_init { frames := 2, cells := 2, slots := 24, locals := 48 } g tb (b + 1) [.ref (g.2.2.2 b)] st (tv tb b (sn_kSh b)) (b + 3) o 2 24 := by
  refine cn_M.of (cc := cX3_init) (nL := 1) hi hcl (by decide) rfl rfl (Nat.le_of_ble_eq_true rfl) ?_
  intro p e s m args below meth c ls C X hl
  have hl : lv_has ls 1 [(0, .ref (g.2.2.2 b))] := hl
  obtain ⟨⟨hx, hb, hml, hown, hts⟩, -, -, -, -⟩ := id C
  have hinX3 : ∀ w ∈ wsX30, w ∈ wsX3_init := by decide +kernel
  refine lv_aload_n hx hb dX3_init_0 rfl (lv_at hl 0 rfl) ?_
  refine cn_obj C (by decide +kernel) (by decide +kernel) (by decide +kernel) hl.1 (Nat.le_of_ble_eq_true rfl) (Nat.le_of_ble_eq_true rfl) dX3_init_1 ?_
  refine lv_aload_n hx hb dX3_init_4 rfl (lv_at hl 0 rfl) ?_
  refine lv_iconst (v := (2 : Int32)) hx hb dX3_init_5 (by decide) ?_
  refine cn_pi (ci := 2) (Cn := RX3) (T := TX3) (n := 3) (ty0 := tyX3) C X hinX3 tyX3_ok nmX3 b (by omega) kb rfl 0 (by decide) (by decide +kernel) rfl rfl rfl rfl rfl dX3_init_6 (fun H locs X => ?_)
  refine lv_aload_n hx hb dX3_init_9 rfl (lv_at hl 0 rfl) ?_
  refine lv_bipush (v := (12 : Int32)) hx hb dX3_init_10 (by decide) ?_
  refine cn_newa (n := 12) C X (by decide +kernel) (by decide) (by decide) (by decide) k1 (by rw [wr_o _ _ _ (by omega)]; exact z1) (Nat.le_of_ble_eq_true rfl) (Nat.le_of_ble_eq_true rfl) dX3_init_12 (fun ad H e1 X => ?_)
  refine cn_pr (ci := 2) (Cn := RX3) (T := TX3) (n := 3) (ty0 := tyX3) C X hinX3 tyX3_ok nmX3 b (b + 1) (by omega) (by omega) kb rfl 1 (by decide) (Nat.le_of_ble_eq_true rfl) (by decide +kernel) rfl rfl rfl (fun _ => rfl) (fun _ => rfl) rfl dX3_init_14 (fun H locs X => ?_)
  refine lv_aload_n hx hb dX3_init_17 rfl (lv_at hl 0 rfl) ?_
  refine lv_bipush (v := (12 : Int32)) hx hb dX3_init_18 (by decide) ?_
  refine cn_newa (n := 12) C X (by decide +kernel) (by decide) (by decide) (by decide) (by rw [tv_o _ _ (by omega)]; exact k2) (by rw [wr_o _ _ _ (by omega)]; exact z2) (Nat.le_of_ble_eq_true rfl) (Nat.le_of_ble_eq_true rfl) dX3_init_20 (fun ad2 H e2 X => ?_)
  refine cn_pr (ci := 2) (Cn := RX3) (T := TX3) (n := 3) (ty0 := tyX3) C X hinX3 tyX3_ok nmX3 b (b + 2) (by omega) (by omega) (tv_s _ _ _) rfl 2 (by decide) (Nat.le_of_ble_eq_true rfl) (by decide +kernel) rfl rfl rfl (fun _ => rfl) (fun _ => rfl) rfl dX3_init_22 (fun H locs X => ?_)
  rw [tv_tv] at X
  have X : cn_X g (b + 1) s.heap (tv tb b (sn_kSh b)) (b + 3) (sn_wr st b 0 2) ad2 H locs := X
  have hT : sn_Sh (tv tb b (sn_kSh b)) (b + 3) b := ⟨Nat.le_refl _, tv_s _ _ _, by rw [tv_o _ _ (by omega)]; exact k1, by rw [tv_o _ _ (by omega)]; exact k2⟩
  have hM := c_X3_measure (l := l) (g := gw g ad2) X.2.2.2.1 hT hd
  rw [show (gw g ad2).2.2.2 b = g.2.2.2 b from X.2.1 b (by omega)] at hM
  refine lv_aload_n hx hb dX3_init_25 rfl (lv_at hl 0 rfl) ?_
  refine cn_Vv (ci := 2) (b := b) (rest := []) (As := []) C X hM (cwV 0 hts gX3_init_X3_measure rfl rfl rfl (by decide +kernel) ⟨Nat.le_of_ble_eq_true rfl, Nat.le_of_ble_eq_true rfl⟩) (by omega) (tv_s _ _ _) rfl rfl hl.1 rfl (Nat.le_of_ble_eq_true rfl) (Nat.le_of_ble_eq_true rfl) (Nat.le_of_ble_eq_true rfl) dX3_init_26 (fun H locs X => ?_)
  exact cn_rv C X dX3_init_29
set_option maxHeartbeats 4000000 in
set_option maxRecDepth 100000 in
/-- Rows() -/
theorem c_X1_init {l : Launch} {g : sn_G} {tb : Nat → sn_K} {b : Nat} (hi : sn_I g (b + 1)) (hcl : cn_cl tb (b + 1)) (kb : tb b = (3, 0, [(2, 0), (2, 0), (2, 0), (2, 0)])) (k1 : tb (b + 1) = (1, 12, [])) (k2 : ∀ j, j < 12 → tb (b + 1 + 1 + j) = (0, 17, [])) (k3 : tb (b + 14) = (1, 12, [])) (k4 : ∀ j, j < 12 → tb (b + 14 + 1 + j) = (0, 17, [])) (k5 : tb (b + 27) = (0, 12, [])) (k6 : tb (b + 28) = (0, 12, [])) {st : sn_S} (z : ∀ c, b + 1 ≤ c → c ≤ b + 28 → st.1 c = fun _ => 0) {o : sn_S} (hd : D_X1_clear b st = some o) : cn_M l yX1_init wsX1_init { frames := 2, cells := 28, slots := 456, locals := 48 } g tb (b + 1) [.ref (g.2.2.2 b)] st (tv tb b (sn_kRo b)) (b + 29) o 28 456 := by
  refine cn_M.of (cc := cX1_init) (nL := 1) hi hcl (by decide) rfl rfl (Nat.le_of_ble_eq_true rfl) ?_
  intro p e s m args below meth c ls C X hl
  have hl : lv_has ls 1 [(0, .ref (g.2.2.2 b))] := hl
  obtain ⟨⟨hx, hb, hml, hown, hts⟩, -, -, -, -⟩ := id C
  have hinX1 : ∀ w ∈ wsX10, w ∈ wsX1_init := by decide +kernel
  refine lv_aload_n hx hb dX1_init_0 rfl (lv_at hl 0 rfl) ?_
  refine cn_obj C (by decide +kernel) (by decide +kernel) (by decide +kernel) hl.1 (Nat.le_of_ble_eq_true rfl) (Nat.le_of_ble_eq_true rfl) dX1_init_1 ?_
  refine lv_aload_n hx hb dX1_init_4 rfl (lv_at hl 0 rfl) ?_
  refine lv_bipush (v := (12 : Int32)) hx hb dX1_init_5 (by decide) ?_
  refine lv_bipush (v := (17 : Int32)) hx hb dX1_init_7 (by decide) ?_
  refine cn_mna C X (by decide +kernel) k1 k2 (fun j hj => z _ (by omega) (by omega)) (Nat.le_of_ble_eq_true rfl) (Nat.le_of_ble_eq_true rfl) dX1_init_9 (fun ad H e1 X => ?_)
  refine cn_pr (ci := 1) (Cn := RX1) (T := TX1) (n := 4) (ty0 := tyX1) C X hinX1 tyX1_ok nmX1 b (b + 1) (by omega) (by omega) kb rfl 0 (by decide) (Nat.le_of_ble_eq_true rfl) (by decide +kernel) rfl rfl rfl (fun _ => rfl) (fun _ => rfl) rfl dX1_init_13 (fun H locs X => ?_)
  refine lv_aload_n hx hb dX1_init_16 rfl (lv_at hl 0 rfl) ?_
  refine lv_bipush (v := (12 : Int32)) hx hb dX1_init_17 (by decide) ?_
  refine lv_bipush (v := (17 : Int32)) hx hb dX1_init_19 (by decide) ?_
  refine cn_mna C X (by decide +kernel) (by rw [tv_o _ _ (by omega)]; exact k3) (fun j hj => by rw [tv_o _ _ (by omega)]; exact k4 j hj) (fun j hj => z _ (by omega) (by omega)) (Nat.le_of_ble_eq_true rfl) (Nat.le_of_ble_eq_true rfl) dX1_init_21 (fun ad2 H e2 X => ?_)
  refine cn_pr (ci := 1) (Cn := RX1) (T := TX1) (n := 4) (ty0 := tyX1) C X hinX1 tyX1_ok nmX1 b (b + 14) (by omega) (by omega) (tv_s _ _ _) rfl 1 (by decide) (Nat.le_of_ble_eq_true rfl) (by decide +kernel) rfl rfl rfl (fun _ => rfl) (fun _ => rfl) rfl dX1_init_25 (fun H locs X => ?_)
  rw [tv_tv] at X
  refine lv_aload_n hx hb dX1_init_28 rfl (lv_at hl 0 rfl) ?_
  refine lv_bipush (v := (12 : Int32)) hx hb dX1_init_29 (by decide) ?_
  refine cn_newa (n := 12) C X (by decide +kernel) (by decide) (by decide) (by decide) (by rw [tv_o _ _ (by omega)]; exact k5) (z _ (by omega) (by omega)) (Nat.le_of_ble_eq_true rfl) (Nat.le_of_ble_eq_true rfl) dX1_init_31 (fun ad3 H e3 X => ?_)
  refine cn_pr (ci := 1) (Cn := RX1) (T := TX1) (n := 4) (ty0 := tyX1) C X hinX1 tyX1_ok nmX1 b (b + 27) (by omega) (by omega) (tv_s _ _ _) rfl 2 (by decide) (Nat.le_of_ble_eq_true rfl) (by decide +kernel) rfl rfl rfl (fun _ => rfl) (fun _ => rfl) rfl dX1_init_33 (fun H locs X => ?_)
  rw [tv_tv] at X
  refine lv_aload_n hx hb dX1_init_36 rfl (lv_at hl 0 rfl) ?_
  refine lv_bipush (v := (12 : Int32)) hx hb dX1_init_37 (by decide) ?_
  refine cn_newa (n := 12) C X (by decide +kernel) (by decide) (by decide) (by decide) (by rw [tv_o _ _ (by omega)]; exact k6) (z _ (by omega) (by omega)) (Nat.le_of_ble_eq_true rfl) (Nat.le_of_ble_eq_true rfl) dX1_init_39 (fun ad4 H e4 X => ?_)
  refine cn_pr (ci := 1) (Cn := RX1) (T := TX1) (n := 4) (ty0 := tyX1) C X hinX1 tyX1_ok nmX1 b (b + 28) (by omega) (by omega) (tv_s _ _ _) rfl 3 (by decide) (Nat.le_of_ble_eq_true rfl) (by decide +kernel) rfl rfl rfl (fun _ => rfl) (fun _ => rfl) rfl dX1_init_41 (fun H locs X => ?_)
  rw [tv_tv] at X
  have X : cn_X g (b + 1) s.heap (tv tb b (sn_kRo b)) (b + 29) st ad4 H locs := X
  have hT : sn_Ro (tv tb b (sn_kRo b)) (b + 29) b := ⟨Nat.le_refl _, tv_s _ _ _, by rw [tv_o _ _ (by omega)]; exact k1, fun k hk => ⟨by rw [tv_o _ _ (by omega)]; exact k2 k hk, by omega⟩, by rw [tv_o _ _ (by omega)]; exact k3, fun k hk => ⟨by rw [tv_o _ _ (by omega)]; exact k4 k hk, by omega⟩, by rw [tv_o _ _ (by omega)]; exact k5, by rw [tv_o _ _ (by omega)]; exact k6⟩
  have hM := c_X1_clear (l := l) (g := gw g ad4) X.2.2.2.1 hT hd
  rw [show (gw g ad4).2.2.2 b = g.2.2.2 b from X.2.1 b (by omega)] at hM
  refine lv_aload_n hx hb dX1_init_44 rfl (lv_at hl 0 rfl) ?_
  refine cn_Vv (ci := 1) (b := b) (rest := []) (As := []) C X hM (cwV 0 hts gX1_init_X1_clear rfl rfl rfl (by decide +kernel) ⟨Nat.le_of_ble_eq_true rfl, Nat.le_of_ble_eq_true rfl⟩) (by omega) (tv_s _ _ _) rfl rfl hl.1 rfl (Nat.le_of_ble_eq_true rfl) (Nat.le_of_ble_eq_true rfl) (Nat.le_of_ble_eq_true rfl) dX1_init_45 (fun H locs X => ?_)
  exact cn_rv C X dX1_init_48
set_option maxHeartbeats 4000000 in
set_option maxRecDepth 100000 in
/-- Tally() -/
theorem c_X4_init {l : Launch} {g : sn_G} {tb : Nat → sn_K} {b : Nat} (hi : sn_I g (b + 1)) (hcl : cn_cl tb (b + 1)) (kb : tb b = (5, 0, [(0, 0), (0, 0), (0, 0), (0, 0), (2, 0), (2, 0)])) (k1 : tb (b + 1) = (0, 4, [])) (k2 : tb (b + 2) = (0, 12, [])) {st : sn_S} (z1 : st.1 (b + 1) = fun _ => 0) (z2 : st.1 (b + 2) = fun _ => 0) : cn_M l yX4_init wsX4_init { frames := 1, cells := 2, slots := 16, locals := 12 } g tb (b + 1) [.ref (g.2.2.2 b)] st (tv tb b (sn_kTa b)) (b + 3) (sn_wr (sn_wr (sn_wr (sn_wr st b 0 0) b 1 0) b 2 0) b 3 0) 2 16 := by
  refine cn_M.of (cc := cX4_init) (nL := 1) hi hcl (by decide) rfl rfl (Nat.le_of_ble_eq_true rfl) ?_
  intro p e s m args below meth c ls C X hl
  have hl : lv_has ls 1 [(0, .ref (g.2.2.2 b))] := hl
  obtain ⟨⟨hx, hb, hml, hown, hts⟩, -, -, -, -⟩ := id C
  have hinX4 : ∀ w ∈ wsX40, w ∈ wsX4_init := by decide +kernel
  refine lv_aload_n hx hb dX4_init_0 rfl (lv_at hl 0 rfl) ?_
  refine cn_obj C (by decide +kernel) (by decide +kernel) (by decide +kernel) hl.1 (Nat.le_of_ble_eq_true rfl) (Nat.le_of_ble_eq_true rfl) dX4_init_1 ?_
  refine lv_aload_n hx hb dX4_init_4 rfl (lv_at hl 0 rfl) ?_
  refine lv_iconst (v := (0 : Int32)) hx hb dX4_init_5 (by decide) ?_
  refine cn_pi (ci := 3) (Cn := RX4) (T := TX4) (n := 6) (ty0 := tyX4) C X hinX4 tyX4_ok nmX4 b (by omega) kb rfl 0 (by decide) (by decide +kernel) rfl rfl rfl rfl rfl dX4_init_6 (fun H locs X => ?_)
  refine lv_aload_n hx hb dX4_init_9 rfl (lv_at hl 0 rfl) ?_
  refine lv_iconst (v := (0 : Int32)) hx hb dX4_init_10 (by decide) ?_
  refine cn_pi (ci := 3) (Cn := RX4) (T := TX4) (n := 6) (ty0 := tyX4) C X hinX4 tyX4_ok nmX4 b (by omega) kb rfl 1 (by decide) (by decide +kernel) rfl rfl rfl rfl rfl dX4_init_11 (fun H locs X => ?_)
  refine lv_aload_n hx hb dX4_init_14 rfl (lv_at hl 0 rfl) ?_
  refine lv_iconst (v := (0 : Int32)) hx hb dX4_init_15 (by decide) ?_
  refine cn_pi (ci := 3) (Cn := RX4) (T := TX4) (n := 6) (ty0 := tyX4) C X hinX4 tyX4_ok nmX4 b (by omega) kb rfl 2 (by decide) (by decide +kernel) rfl rfl rfl rfl rfl dX4_init_16 (fun H locs X => ?_)
  refine lv_aload_n hx hb dX4_init_19 rfl (lv_at hl 0 rfl) ?_
  refine lv_iconst (v := (0 : Int32)) hx hb dX4_init_20 (by decide) ?_
  refine cn_pi (ci := 3) (Cn := RX4) (T := TX4) (n := 6) (ty0 := tyX4) C X hinX4 tyX4_ok nmX4 b (by omega) kb rfl 3 (by decide) (by decide +kernel) rfl rfl rfl rfl rfl dX4_init_21 (fun H locs X => ?_)
  have w1 : ∀ c, c ≠ b → (sn_wr (sn_wr (sn_wr (sn_wr st b 0 0) b 1 0) b 2 0) b 3 0).1 c = st.1 c := fun c hc => by rw [wr_o _ _ _ hc, wr_o _ _ _ hc, wr_o _ _ _ hc, wr_o _ _ _ hc]
  refine lv_aload_n hx hb dX4_init_24 rfl (lv_at hl 0 rfl) ?_
  refine lv_iconst (v := (4 : Int32)) hx hb dX4_init_25 (by decide) ?_
  refine cn_newa (n := 4) C X (by decide +kernel) (by decide) (by decide) (by decide) k1 (by rw [w1 _ (by omega)]; exact z1) (Nat.le_of_ble_eq_true rfl) (Nat.le_of_ble_eq_true rfl) dX4_init_26 (fun ad H e1 X => ?_)
  refine cn_pr (ci := 3) (Cn := RX4) (T := TX4) (n := 6) (ty0 := tyX4) C X hinX4 tyX4_ok nmX4 b (b + 1) (by omega) (by omega) kb rfl 4 (by decide) (Nat.le_of_ble_eq_true rfl) (by decide +kernel) rfl rfl rfl (fun _ => rfl) (fun _ => rfl) rfl dX4_init_28 (fun H locs X => ?_)
  refine lv_aload_n hx hb dX4_init_31 rfl (lv_at hl 0 rfl) ?_
  refine lv_bipush (v := (12 : Int32)) hx hb dX4_init_32 (by decide) ?_
  refine cn_newa (n := 12) C X (by decide +kernel) (by decide) (by decide) (by decide) (by rw [tv_o _ _ (by omega)]; exact k2) (by rw [w1 _ (by omega)]; exact z2) (Nat.le_of_ble_eq_true rfl) (Nat.le_of_ble_eq_true rfl) dX4_init_34 (fun ad2 H e2 X => ?_)
  refine cn_pr (ci := 3) (Cn := RX4) (T := TX4) (n := 6) (ty0 := tyX4) C X hinX4 tyX4_ok nmX4 b (b + 2) (by omega) (by omega) (tv_s _ _ _) rfl 5 (by decide) (Nat.le_of_ble_eq_true rfl) (by decide +kernel) rfl rfl rfl (fun _ => rfl) (fun _ => rfl) rfl dX4_init_36 (fun H locs X => ?_)
  rw [tv_tv] at X
  have X : cn_X g (b + 1) s.heap (tv tb b (sn_kTa b)) (b + 3) (sn_wr (sn_wr (sn_wr (sn_wr st b 0 0) b 1 0) b 2 0) b 3 0) ad2 H locs := X
  exact cn_rv C X dX4_init_39
