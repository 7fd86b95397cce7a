/-! MAKING: Net, StableNet, StableNetModel -/
/-- the kinds of the cells of a NET before it is made -/
def nk (tb : Nat → sn_K) (b : Nat) : Prop := tb (b + 1) = (4, 0, [(0, 0), (2, 0), (2, 0)]) ∧ tb (b + 1 + 1) = (0, 12, []) ∧ tb (b + 1 + 2) = (0, 12, []) ∧ tb (b + 4) = (3, 0, [(2, 0), (2, 0), (2, 0), (2, 0)]) ∧ tb (b + 4 + 1) = (1, 12, []) ∧ (∀ j, j < 12 → tb (b + 4 + 1 + 1 + j) = (0, 17, [])) ∧ tb (b + 4 + 14) = (1, 12, []) ∧ (∀ j, j < 12 → tb (b + 4 + 14 + 1 + j) = (0, 17, [])) ∧ tb (b + 4 + 27) = (0, 12, []) ∧ tb (b + 4 + 28) = (0, 12, []) ∧ tb (b + 33) = (5, 0, [(0, 0), (0, 0), (0, 0), (0, 0), (2, 0), (2, 0)]) ∧ tb (b + 33 + 1) = (0, 4, []) ∧ tb (b + 33 + 2) = (0, 12, [])
/-- and behind -/
def nt (tb : Nat → sn_K) (b : Nat) : Nat → sn_K := tv (tv (tv (tv tb (b + 1) (sn_kSh (b + 1))) (b + 4) (sn_kRo (b + 4))) (b + 33) (sn_kTa (b + 33))) b (sn_kNe b)
theorem nt_Ne {tb : Nat → sn_K} {b N : Nat} (h : nk tb b) (hN : b + 36 ≤ N) : sn_Ne (nt tb b) N b := by
  obtain ⟨h1, h2, h3, h4, h5, h6, h7, h8, h9, h10, h11, h12, h13⟩ := h
  have o : ∀ c, c ≠ b → c ≠ b + 1 → c ≠ b + 4 → c ≠ b + 33 → nt tb b c = tb c := fun c a1 a2 a3 a4 => by unfold nt; rw [tv_o _ _ a1, tv_o _ _ a4, tv_o _ _ a3, tv_o _ _ a2]
  have o1 : nt tb b (b + 1) = sn_kSh (b + 1) := by unfold nt; rw [tv_o _ _ (by omega), tv_o _ _ (by omega), tv_o _ _ (by omega), tv_s]
  have o4 : nt tb b (b + 4) = sn_kRo (b + 4) := by unfold nt; rw [tv_o _ _ (by omega), tv_o _ _ (by omega), tv_s]
  have o33 : nt tb b (b + 33) = sn_kTa (b + 33) := by unfold nt; rw [tv_o _ _ (by omega), tv_s]
  refine ⟨hN, tv_s _ _ _, ⟨by omega, o1, ?_, ?_⟩, ⟨by omega, o4, ?_, fun k hk => ⟨?_, by omega⟩, ?_, fun k hk => ⟨?_, by omega⟩, ?_, ?_⟩, ⟨by omega, o33, ?_, ?_⟩⟩
  · rw [o _ (by omega) (by omega) (by omega) (by omega)]; exact h2
  · rw [o _ (by omega) (by omega) (by omega) (by omega)]; exact h3
  · rw [o _ (by omega) (by omega) (by omega) (by omega)]; exact h5
  · rw [o _ (by omega) (by omega) (by omega) (by omega)]; exact h6 k hk
  · rw [o _ (by omega) (by omega) (by omega) (by omega)]; exact h7
  · rw [o _ (by omega) (by omega) (by omega) (by omega)]; exact h8 k hk
  · rw [o _ (by omega) (by omega) (by omega) (by omega)]; exact h9
  · rw [o _ (by omega) (by omega) (by omega) (by omega)]; exact h10
  · rw [o _ (by omega) (by omega) (by omega) (by omega)]; exact h12
  · rw [o _ (by omega) (by omega) (by omega) (by omega)]; exact h13
theorem nt_eq (tb : Nat → sn_K) (b : Nat) (A1 A2 : sn_K) : tv (tv (tv (tv (tv (tv tb (b + 1) (sn_kSh (b + 1))) b A1) (b + 4) (sn_kRo (b + 4))) b A2) (b + 33) (sn_kTa (b + 33))) b (sn_kNe b) = nt tb b := by
  funext c
  unfold nt tv
  by_cases e1 : c = b
  · rw [if_pos e1, if_pos e1]
  · by_cases e2 : c = b + 33
    · simp only [if_neg e1, if_pos e2]
    · by_cases e3 : c = b + 4
      · simp only [if_neg e1, if_neg e2, if_pos e3]
      · simp only [if_neg e1, if_neg e2, if_neg e3]
def n_ta (b : Nat) (st : sn_S) : sn_S := sn_wr (sn_wr (sn_wr (sn_wr st b 0 0) b 1 0) b 2 0) b 3 0
def n_st (b : Nat) (st : sn_S) : sn_S := sn_wr (sn_wr (sn_wr (sn_wr (sn_wr (sn_wr (n_ta (b + 33) st) b 3 0) b 4 0) b 5 0) b 6 0) b 7 0) b 8 0
set_option maxHeartbeats 4000000 in
set_option maxRecDepth 100000 in
/-- Net() -/
theorem c_X0_init {l : Launch} {g : sn_G} {tb : Nat → sn_K} {b : Nat} (hi : sn_I g (b + 1)) (hcl : cn_cl tb (b + 1)) (kb : tb b = (2, 0, [(2, 0), (2, 0), (2, 0), (0, 0), (0, 0), (0, 0), (0, 0), (0, 0), (0, 0)])) (hk : nk tb b) {st o1 o2 : sn_S} (zs : ∀ c, b + 1 ≤ c → c ≤ b + 35 → st.1 c = fun _ => 0) (hd1 : D_X3_measure (b + 1) (sn_wr st (b + 1) 0 2) = some o1) (z1 : ∀ c, b + 4 ≤ c → c ≤ b + 35 → o1.1 c = fun _ => 0) (hd2 : D_X1_clear (b + 4) o1 = some o2) (z2 : ∀ c, b + 33 ≤ c → c ≤ b + 35 → o2.1 c = fun _ => 0) : cn_M l yX0_init wsX0_init { frames := 3, cells := 35, slots := 509, locals := 68 } g tb (b + 1) [.ref (g.2.2.2 b)] st (nt tb b) (b + 36) (n_st b o2) 35 509 := by
  obtain ⟨h1, h2, h3, h4, h5, h6, h7, h8, h9, h10, h11, h12, h13⟩ := hk
  refine cn_M.of (cc := cX0_init) (nL := 1) hi hcl (by decide) rfl rfl (Nat.le_of_ble_eq_true rfl) ?_
  intro p e s m args below meth c ls C X hl
  have hl : lv_has ls 1 [(0, .ref (g.2.2.2 b))] := hl
  obtain ⟨⟨hx, hb, hml, hown, hts⟩, -, -, -, hC⟩ := id C
  have hinX0 : ∀ w ∈ wsX00, w ∈ wsX0_init := by decide +kernel
  have hinX1 : ∀ w ∈ wsX10, w ∈ wsX0_init := by decide +kernel
  have hinX3 : ∀ w ∈ wsX30, w ∈ wsX0_init := by decide +kernel
  have hinX4 : ∀ w ∈ wsX40, w ∈ wsX0_init := by decide +kernel
  refine lv_aload_n hx hb dX0_init_0 rfl (lv_at hl 0 rfl) ?_
  refine cn_obj C (by decide +kernel) (by decide +kernel) (by decide +kernel) hl.1 (Nat.le_of_ble_eq_true rfl) (Nat.le_of_ble_eq_true rfl) dX0_init_1 ?_
  -- the Shape
  refine lv_aload_n hx hb dX0_init_4 rfl (lv_at hl 0 rfl) ?_
  refine cn_new (ci := 2) (Cn := RX3) (T := TX3) (n := 3) (ty0 := tyX3) (fs := [.int 0, .null, .null]) C X hinX3 tyX3_ok (by decide +kernel) (by decide +kernel) (by decide +kernel) rfl h1 (by decide) (by rw [zs _ (by omega) (by omega)]; rfl) (fun j hj => by rcases (show j = 0 ∨ j = 1 ∨ j = 2 by omega) with rfl | rfl | rfl <;> rfl) (Nat.le_of_ble_eq_true rfl) (Nat.le_of_ble_eq_true rfl) dX0_init_5 (fun ad1 H e1 X => ?_)
  refine lv_dup hx hb dX0_init_8 rfl ?_
  refine cn_kI C X (va_runI (As := []) (rest := [.ref (ad1 (b + 1)), .ref (g.2.2.2 b)]) C.1 (c_X3_init (l := l) (g := gw g ad1) (b := b + 1) X.2.2.2.1 X.2.2.2.2.1 h1 h2 h3 (zs _ (by omega) (by omega)) (zs _ (by omega) (by omega)) hd1 H.size) (cwI 0 hts gX0_init_X3_init rfl rfl rfl (hts _ (by decide +kernel)) (hts _ (by decide +kernel)) (hts _ (by decide +kernel)) rfl (by decide +kernel) ⟨Nat.le_of_ble_eq_true rfl, Nat.le_of_ble_eq_true rfl⟩) ⟨cn_blind, fun U hU hW => cn_pre C X hU hW⟩ rfl rfl hl.1 rfl (lv_room (Nat.le_of_ble_eq_true rfl)) dX0_init_9 ⟨Nat.le_of_ble_eq_true rfl, Nat.le_of_ble_eq_true rfl⟩) (fun ad2 H locs e2 X => ?_)
  refine cn_pr (ci := 0) (Cn := RX0) (T := TX0) (n := 9) (ty0 := tyX0) C X hinX0 tyX0_ok nmX0 b (b + 1) (by omega) (by omega) ((tv_o _ _ (by omega)).trans kb) rfl 0 (by decide) (Nat.le_of_ble_eq_true rfl) (by decide +kernel) rfl rfl rfl (fun _ => rfl) (fun _ => rfl) (e2 _ (by omega)) dX0_init_12 (fun H locs X => ?_)
  -- the Rows
  refine lv_aload_n hx hb dX0_init_15 rfl (lv_at hl 0 rfl) ?_
  have t2 : ∀ c, c ≠ b → c ≠ b + 1 → tv (tv tb (b + 1) (sn_kSh (b + 1))) b (0 + 2, 0, [(2, 0), (2, 0), (2, 0), (0, 0), (0, 0), (0, 0), (0, 0), (0, 0), (0, 0)].set 0 (1, b + 1)) c = tb c := fun c a1 a2 => by rw [tv_o _ _ a1, tv_o _ _ a2]
  generalize htb2 : tv (tv tb (b + 1) (sn_kSh (b + 1))) b (0 + 2, 0, [(2, 0), (2, 0), (2, 0), (0, 0), (0, 0), (0, 0), (0, 0), (0, 0), (0, 0)].set 0 (1, b + 1)) = tb2 at t2 X
  have kb2 : tb2 b = (2, 0, [(1, b + 1), (2, 0), (2, 0), (0, 0), (0, 0), (0, 0), (0, 0), (0, 0), (0, 0)]) := by rw [← htb2, tv_s]; rfl
  refine cn_new (ci := 1) (Cn := RX1) (T := TX1) (n := 4) (ty0 := tyX1) (fs := [.null, .null, .null, .null]) C X hinX1 tyX1_ok (by decide +kernel) (by decide +kernel) (by decide +kernel) rfl ((t2 _ (by omega) (by omega)).trans h4) (by decide) (by rw [z1 _ (by omega) (by omega)]; rfl) (fun j hj => by rcases (show j = 0 ∨ j = 1 ∨ j = 2 ∨ j = 3 by omega) with rfl | rfl | rfl | rfl <;> rfl) (Nat.le_of_ble_eq_true rfl) (Nat.le_of_ble_eq_true rfl) dX0_init_16 (fun ad3 H e3 X => ?_)
  refine lv_dup hx hb dX0_init_19 rfl ?_
  refine cn_kI C X (va_runI (As := []) (rest := [.ref (ad3 (b + 4)), .ref (g.2.2.2 b)]) C.1 (c_X1_init (l := l) (g := gw g ad3) (b := b + 4) X.2.2.2.1 X.2.2.2.2.1 ((t2 _ (by omega) (by omega)).trans h4) ((t2 _ (by omega) (by omega)).trans h5) (fun j hj => (t2 _ (by omega) (by omega)).trans (h6 j hj)) ((t2 _ (by omega) (by omega)).trans h7) (fun j hj => (t2 _ (by omega) (by omega)).trans (h8 j hj)) ((t2 _ (by omega) (by omega)).trans h9) ((t2 _ (by omega) (by omega)).trans h10) (fun c a1 a2 => z1 c (by omega) (by omega)) hd2 H.size) (cwI 0 hts gX0_init_X1_init rfl rfl rfl (hts _ (by decide +kernel)) (hts _ (by decide +kernel)) (hts _ (by decide +kernel)) rfl (by decide +kernel) ⟨Nat.le_of_ble_eq_true rfl, Nat.le_of_ble_eq_true rfl⟩) ⟨cn_blind, fun U hU hW => cn_pre C X hU hW⟩ rfl rfl hl.1 rfl (lv_room (Nat.le_of_ble_eq_true rfl)) dX0_init_20 ⟨Nat.le_of_ble_eq_true rfl, Nat.le_of_ble_eq_true rfl⟩) (fun ad4 H locs e4 X => ?_)
  refine cn_pr (ci := 0) (Cn := RX0) (T := TX0) (n := 9) (ty0 := tyX0) C X hinX0 tyX0_ok nmX0 b (b + 4) (by omega) (by omega) ((tv_o _ _ (by omega)).trans kb2) rfl 1 (by decide) (Nat.le_of_ble_eq_true rfl) (by decide +kernel) rfl rfl rfl (fun _ => rfl) (fun _ => rfl) (e4 _ (by omega)) dX0_init_23 (fun H locs X => ?_)
  -- the Tally
  refine lv_aload_n hx hb dX0_init_26 rfl (lv_at hl 0 rfl) ?_
  have t4 : ∀ c, c ≠ b → c ≠ b + 1 → c ≠ b + 4 → tv (tv tb2 (b + 4) (sn_kRo (b + 4))) b (0 + 2, 0, [(1, b + 1), (2, 0), (2, 0), (0, 0), (0, 0), (0, 0), (0, 0), (0, 0), (0, 0)].set 1 (1, b + 4)) c = tb c := fun c a1 a2 a3 => by rw [tv_o _ _ a1, tv_o _ _ a3, t2 c a1 a2]
  generalize htb4 : tv (tv tb2 (b + 4) (sn_kRo (b + 4))) b (0 + 2, 0, [(1, b + 1), (2, 0), (2, 0), (0, 0), (0, 0), (0, 0), (0, 0), (0, 0), (0, 0)].set 1 (1, b + 4)) = tb4 at t4 X
  have kb4 : tb4 b = (2, 0, [(1, b + 1), (1, b + 4), (2, 0), (0, 0), (0, 0), (0, 0), (0, 0), (0, 0), (0, 0)]) := by rw [← htb4, tv_s]; rfl
  refine cn_new (ci := 3) (Cn := RX4) (T := TX4) (n := 6) (ty0 := tyX4) (fs := [.int 0, .int 0, .int 0, .int 0, .null, .null]) C X hinX4 tyX4_ok (by decide +kernel) (by decide +kernel) (by decide +kernel) rfl ((t4 _ (by omega) (by omega) (by omega)).trans h11) (by decide) (by rw [z2 _ (by omega) (by omega)]; rfl) (fun j hj => by rcases (show j = 0 ∨ j = 1 ∨ j = 2 ∨ j = 3 ∨ j = 4 ∨ j = 5 by omega) with rfl | rfl | rfl | rfl | rfl | rfl <;> rfl) (Nat.le_of_ble_eq_true rfl) (Nat.le_of_ble_eq_true rfl) dX0_init_27 (fun ad5 H e5 X => ?_)
  refine lv_dup hx hb dX0_init_30 rfl ?_
  refine cn_kI C X (va_runIN (As := []) (rest := [.ref (ad5 (b + 33)), .ref (g.2.2.2 b)]) C.1 (c_X4_init (l := l) (g := gw g ad5) (b := b + 33) (st := o2) X.2.2.2.1 X.2.2.2.2.1 ((t4 _ (by omega) (by omega) (by omega)).trans h11) ((t4 _ (by omega) (by omega) (by omega)).trans h12) ((t4 _ (by omega) (by omega) (by omega)).trans h13) (z2 _ (by omega) (by omega)) (z2 _ (by omega) (by omega)) H.size) ⟨va_cnB 0 hts gX0_init_X4_init_n27 rfl rfl rfl (hC.1.2 (.methodLinkNest RX0 27 yX4_init RX5) (List.mem_of_getElem? (i := 2) rfl)) (hts _ (by decide +kernel)) (by decide +kernel) ⟨Nat.le_of_ble_eq_true rfl, Nat.le_of_ble_eq_true rfl⟩, rfl, hts _ (by decide +kernel)⟩ ⟨cn_blind, fun U hU hW => cn_pre C X hU hW⟩ rfl rfl hl.1 rfl (lv_room (Nat.le_of_ble_eq_true rfl)) dX0_init_31 ⟨Nat.le_of_ble_eq_true rfl, Nat.le_of_ble_eq_true rfl⟩) (fun ad6 H locs e6 X => ?_)
  refine cn_pr (ci := 0) (Cn := RX0) (T := TX0) (n := 9) (ty0 := tyX0) C X hinX0 tyX0_ok nmX0 b (b + 33) (by omega) (by omega) ((tv_o _ _ (by omega)).trans kb4) rfl 2 (by decide) (Nat.le_of_ble_eq_true rfl) (by decide +kernel) rfl rfl rfl (fun _ => rfl) (fun _ => rfl) (e6 _ (by omega)) dX0_init_34 (fun H locs X => ?_)
  have X : cn_X g (b + 1) s.heap (tv (tv tb4 (b + 33) (sn_kTa (b + 33))) b (sn_kNe b)) (b + 36) (n_ta (b + 33) o2) ad6 H locs := X
  rw [← htb4, ← htb2, nt_eq] at X
  have kbn : nt tb b b = sn_kNe b := tv_s _ _ _
  refine lv_aload_n hx hb dX0_init_37 rfl (lv_at hl 0 rfl) ?_
  refine lv_iconst (v := (0 : Int32)) hx hb dX0_init_38 (by decide) ?_
  refine cn_pi (ci := 0) (Cn := RX0) (T := TX0) (n := 9) (ty0 := tyX0) C X hinX0 tyX0_ok nmX0 b (by omega) kbn rfl 3 (by decide) (by decide +kernel) rfl rfl rfl rfl rfl dX0_init_39 (fun H locs X => ?_)
  refine lv_aload_n hx hb dX0_init_42 rfl (lv_at hl 0 rfl) ?_
  refine lv_iconst (v := (0 : Int32)) hx hb dX0_init_43 (by decide) ?_
  refine cn_pi (ci := 0) (Cn := RX0) (T := TX0) (n := 9) (ty0 := tyX0) C X hinX0 tyX0_ok nmX0 b (by omega) kbn rfl 4 (by decide) (by decide +kernel) rfl rfl rfl rfl rfl dX0_init_44 (fun H locs X => ?_)
  refine lv_aload_n hx hb dX0_init_47 rfl (lv_at hl 0 rfl) ?_
  refine lv_iconst (v := (0 : Int32)) hx hb dX0_init_48 (by decide) ?_
  refine cn_pi (ci := 0) (Cn := RX0) (T := TX0) (n := 9) (ty0 := tyX0) C X hinX0 tyX0_ok nmX0 b (by omega) kbn rfl 5 (by decide) (by decide +kernel) rfl rfl rfl rfl rfl dX0_init_49 (fun H locs X => ?_)
  refine lv_aload_n hx hb dX0_init_52 rfl (lv_at hl 0 rfl) ?_
  refine lv_iconst (v := (0 : Int32)) hx hb dX0_init_53 (by decide) ?_
  refine cn_pi (ci := 0) (Cn := RX0) (T := TX0) (n := 9) (ty0 := tyX0) C X hinX0 tyX0_ok nmX0 b (by omega) kbn rfl 6 (by decide) (by decide +kernel) rfl rfl rfl rfl rfl dX0_init_54 (fun H locs X => ?_)
  refine lv_aload_n hx hb dX0_init_57 rfl (lv_at hl 0 rfl) ?_
  refine lv_iconst (v := (0 : Int32)) hx hb dX0_init_58 (by decide) ?_
  refine cn_pi (ci := 0) (Cn := RX0) (T := TX0) (n := 9) (ty0 := tyX0) C X hinX0 tyX0_ok nmX0 b (by omega) kbn rfl 7 (by decide) (by decide +kernel) rfl rfl rfl rfl rfl dX0_init_59 (fun H locs X => ?_)
  refine lv_aload_n hx hb dX0_init_62 rfl (lv_at hl 0 rfl) ?_
  refine lv_iconst (v := (0 : Int32)) hx hb dX0_init_63 (by decide) ?_
  refine cn_pi (ci := 0) (Cn := RX0) (T := TX0) (n := 9) (ty0 := tyX0) C X hinX0 tyX0_ok nmX0 b (by omega) kbn rfl 8 (by decide) (by decide +kernel) rfl rfl rfl rfl rfl dX0_init_64 (fun H locs X => ?_)
  exact cn_rv C X dX0_init_67
