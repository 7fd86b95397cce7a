/-! MAKING: StableNet, StableNetModel -/
theorem sn_Ne.congr {tb tb' : Nat → sn_K} {N B : Nat} (h : sn_Ne tb N B) (he : ∀ c, B ≤ c → c < B + 36 → tb' c = tb c) : sn_Ne tb' N B := by
  obtain ⟨h1, h2, ⟨a1, a2, a3, a4⟩, ⟨b1, b2, b3, b4, b5, b6, b7, b8⟩, ⟨c1, c2, c3, c4⟩⟩ := h
  exact ⟨h1, (he _ (by omega) (by omega)).trans h2, ⟨a1, (he _ (by omega) (by omega)).trans a2, (he _ (by omega) (by omega)).trans a3, (he _ (by omega) (by omega)).trans a4⟩, ⟨b1, (he _ (by omega) (by omega)).trans b2, (he _ (by omega) (by omega)).trans b3, fun k hk => ⟨(he _ (by omega) (by omega)).trans (b4 k hk).1, (b4 k hk).2⟩, (he _ (by omega) (by omega)).trans b5, fun k hk => ⟨(he _ (by omega) (by omega)).trans (b6 k hk).1, (b6 k hk).2⟩, (he _ (by omega) (by omega)).trans b7, (he _ (by omega) (by omega)).trans b8⟩, ⟨c1, (he _ (by omega) (by omega)).trans c2, (he _ (by omega) (by omega)).trans c3, (he _ (by omega) (by omega)).trans c4⟩⟩
theorem nk.congr {tb tb' : Nat → sn_K} {b : Nat} (h : nk tb b) (he : ∀ c, b < c → c < b + 36 → tb' c = tb c) : nk tb' b := by
  obtain ⟨h1, h2, h3, h4, h5, h6, h7, h8, h9, h10, h11, h12, h13⟩ := h
  exact ⟨(he _ (by omega) (by omega)).trans h1, (he _ (by omega) (by omega)).trans h2, (he _ (by omega) (by omega)).trans h3, (he _ (by omega) (by omega)).trans h4, (he _ (by omega) (by omega)).trans h5, fun j hj => (he _ (by omega) (by omega)).trans (h6 j hj), (he _ (by omega) (by omega)).trans h7, fun j hj => (he _ (by omega) (by omega)).trans (h8 j hj), (he _ (by omega) (by omega)).trans h9, (he _ (by omega) (by omega)).trans h10, (he _ (by omega) (by omega)).trans h11, (he _ (by omega) (by omega)).trans h12, (he _ (by omega) (by omega)).trans h13⟩
theorem nt_o {tb : Nat → sn_K} {b c : Nat} (h : c < b ∨ b + 36 ≤ c) : nt tb b c = tb c := by
  unfold nt
  rw [tv_o _ _ (by omega), tv_o _ _ (by omega), tv_o _ _ (by omega), tv_o _ _ (by omega)]
def kNr : sn_K := (2, 0, [(2, 0), (2, 0), (2, 0), (0, 0), (0, 0), (0, 0), (0, 0), (0, 0), (0, 0)])
def sT (tb : Nat → sn_K) (b : Nat) : Nat → sn_K := tv (nt (tv (nt tb (b + 1)) b (6, 0, [(1, b + 1), (2, 0), (0, 0)])) (b + 37)) b (sn_kSN b)
theorem sT_SN {tb : Nat → sn_K} {b N : Nat} (h1 : nk tb (b + 1)) (h2 : nk tb (b + 37)) (hN : b + 73 ≤ N) : sn_SN (sT tb b) N b := by
  refine ⟨hN, tv_s _ _ _, (nt_Ne h1 (N := N) (by omega)).congr (fun c a1 a2 => ?_), (nt_Ne (tb := tv (nt tb (b + 1)) b (6, 0, [(1, b + 1), (2, 0), (0, 0)])) (b := b + 37) (N := N) (h2.congr (fun c a1 a2 => ?_)) (by omega)).congr (fun c a1 a2 => ?_)⟩
  · unfold sT; rw [tv_o _ _ (by omega), nt_o (by omega), tv_o _ _ (by omega)]
  · rw [tv_o _ _ (by omega), nt_o (by omega)]
  · unfold sT; rw [tv_o _ _ (by omega)]
/-- the first NET of a state, made -/
def n_ok (b : Nat) (st o1 o2 : sn_S) : Prop := (∀ c, b ≤ c → c ≤ b + 35 → st.1 c = fun _ => 0) ∧ D_X3_measure (b + 1) (sn_wr st (b + 1) 0 2) = some o1 ∧ (∀ c, b + 4 ≤ c → c ≤ b + 35 → o1.1 c = fun _ => 0) ∧ D_X1_clear (b + 4) o1 = some o2 ∧ ∀ c, b + 33 ≤ c → c ≤ b + 35 → o2.1 c = fun _ => 0
set_option maxHeartbeats 4000000 in
set_option maxRecDepth 100000 in
/-- StableNet() -/
theorem c_X5_init {l : Launch} {g : sn_G} {tb : Nat → sn_K} {b : Nat} (hi : sn_I g (b + 1)) (hcl : cn_cl tb (b + 1)) (kb : tb b = (6, 0, [(2, 0), (2, 0), (0, 0)])) (k1 : tb (b + 1) = kNr) (hk1 : nk tb (b + 1)) (k2 : tb (b + 37) = kNr) (hk2 : nk tb (b + 37)) {st o1 o2 o3 o4 : sn_S} (h1 : n_ok (b + 1) st o1 o2) (h2 : n_ok (b + 37) (n_st (b + 1) o2) o3 o4) : cn_M l yX5_init wsX5_init { frames := 4, cells := 72, slots := 1036, locals := 88 } g tb (b + 1) [.ref (g.2.2.2 b)] st (sT tb b) (b + 73) (sn_wr (n_st (b + 37) o4) b 2 0) 72 1036 := by
  obtain ⟨p0, p1, p2, p3, p4⟩ := h1
  obtain ⟨q0, q1, q2, q3, q4⟩ := h2
  refine cn_M.of (cc := cX5_init) (nL := 1) hi hcl (by decide) rfl rfl (Nat.le_of_ble_eq_true rfl) ?_
  intro p e s m args below meth c ls C X hl
  have hl : lv_has ls 1 [(0, .ref (g.2.2.2 b))] := hl
  obtain ⟨⟨hx, hb, hml, hown, hts⟩, -, -, -, hC⟩ := id C
  have hinX5 : ∀ w ∈ wsX50, w ∈ wsX5_init := by decide +kernel
  have hinX0 : ∀ w ∈ wsX00, w ∈ wsX5_init := by decide +kernel
  refine lv_aload_n hx hb dX5_init_0 rfl (lv_at hl 0 rfl) ?_
  refine cn_obj C (by decide +kernel) (by decide +kernel) (by decide +kernel) hl.1 (Nat.le_of_ble_eq_true rfl) (Nat.le_of_ble_eq_true rfl) dX5_init_1 ?_
  -- net
  refine lv_aload_n hx hb dX5_init_4 rfl (lv_at hl 0 rfl) ?_
  refine cn_new (ci := 0) (Cn := RX0) (T := TX0) (n := 9) (ty0 := tyX0) (fs := [.null, .null, .null, .int 0, .int 0, .int 0, .int 0, .int 0, .int 0]) C X hinX0 tyX0_ok (by decide +kernel) (by decide +kernel) (by decide +kernel) rfl k1 (by decide) (by rw [p0 _ (by omega) (by omega)]; rfl) (fun j hj => by rcases (show j = 0 ∨ j = 1 ∨ j = 2 ∨ j = 3 ∨ j = 4 ∨ j = 5 ∨ j = 6 ∨ j = 7 ∨ j = 8 by omega) with rfl | rfl | rfl | rfl | rfl | rfl | rfl | rfl | rfl <;> rfl) (Nat.le_of_ble_eq_true rfl) (Nat.le_of_ble_eq_true rfl) dX5_init_5 (fun ad1 H e1 X => ?_)
  refine lv_dup hx hb dX5_init_8 rfl ?_
  refine cn_kI C X (va_runIN (As := []) (rest := [.ref (ad1 (b + 1)), .ref (g.2.2.2 b)]) C.1 (c_X0_init (l := l) (g := gw g ad1) (b := b + 1) X.2.2.2.1 X.2.2.2.2.1 k1 hk1 (fun c a1 a2 => p0 c (by omega) (by omega)) p1 p2 p3 p4 H.size) ⟨va_cnB 0 hts gX5_init_X0_init_n11 rfl rfl rfl (hC.1.2 (.methodLinkNest RX5 11 yX0_init RX5) (List.mem_of_getElem? (i := 0) rfl)) (hts _ (by decide +kernel)) (by decide +kernel) ⟨Nat.le_of_ble_eq_true rfl, Nat.le_of_ble_eq_true rfl⟩, rfl, hts _ (by decide +kernel)⟩ ⟨cn_blind, fun U hU hW => cn_pre C X hU hW⟩ rfl rfl hl.1 rfl (lv_room (Nat.le_of_ble_eq_true rfl)) dX5_init_9 ⟨Nat.le_of_ble_eq_true rfl, Nat.le_of_ble_eq_true rfl⟩) (fun ad2 H locs e2 X => ?_)
  refine cn_pr (ci := 4) (Cn := RX5) (T := TX5) (n := 3) (ty0 := tyX5) C X hinX5 tyX5_ok nmX5 b (b + 1) (by omega) (by omega) ((nt_o (by omega)).trans kb) rfl 0 (by decide) (Nat.le_of_ble_eq_true rfl) (by decide +kernel) rfl rfl rfl (fun _ => rfl) (fun _ => rfl) (e2 _ (by omega)) dX5_init_12 (fun H locs X => ?_)
  have X : cn_X g (b + 1) s.heap (tv (nt tb (b + 1)) b (6, 0, [(1, b + 1), (2, 0), (0, 0)])) (b + 37) (n_st (b + 1) o2) ad2 H locs := X
  -- kept
  refine lv_aload_n hx hb dX5_init_15 rfl (lv_at hl 0 rfl) ?_
  have t2 : ∀ c, b + 37 ≤ c → tv (nt tb (b + 1)) b (6, 0, [(1, b + 1), (2, 0), (0, 0)]) c = tb c := fun c a1 => by rw [tv_o _ _ (by omega), nt_o (by omega)]
  generalize htb2 : tv (nt tb (b + 1)) b (6, 0, [(1, b + 1), (2, 0), (0, 0)]) = tb2 at t2 X
  have kb2 : tb2 b = (6, 0, [(1, b + 1), (2, 0), (0, 0)]) := by rw [← htb2, tv_s]
  refine cn_new (ci := 0) (Cn := RX0) (T := TX0) (n := 9) (ty0 := tyX0) (fs := [.null, .null, .null, .int 0, .int 0, .int 0, .int 0, .int 0, .int 0]) C X hinX0 tyX0_ok (by decide +kernel) (by decide +kernel) (by decide +kernel) rfl ((t2 _ (by omega)).trans k2) (by decide) (by rw [q0 _ (by omega) (by omega)]; rfl) (fun j hj => by rcases (show j = 0 ∨ j = 1 ∨ j = 2 ∨ j = 3 ∨ j = 4 ∨ j = 5 ∨ j = 6 ∨ j = 7 ∨ j = 8 by omega) with rfl | rfl | rfl | rfl | rfl | rfl | rfl | rfl | rfl <;> rfl) (Nat.le_of_ble_eq_true rfl) (Nat.le_of_ble_eq_true rfl) dX5_init_16 (fun ad3 H e3 X => ?_)
  refine lv_dup hx hb dX5_init_19 rfl ?_
  refine cn_kI C X (va_runIN (As := []) (rest := [.ref (ad3 (b + 37)), .ref (g.2.2.2 b)]) C.1 (c_X0_init (l := l) (g := gw g ad3) (b := b + 37) X.2.2.2.1 X.2.2.2.2.1 ((t2 _ (by omega)).trans k2) (hk2.congr (fun c a1 a2 => t2 c (by omega))) (fun c a1 a2 => q0 c (by omega) (by omega)) q1 q2 q3 q4 H.size) ⟨va_cnB 0 hts gX5_init_X0_init_n11 rfl rfl rfl (hC.1.2 (.methodLinkNest RX5 11 yX0_init RX5) (List.mem_of_getElem? (i := 0) rfl)) (hts _ (by decide +kernel)) (by decide +kernel) ⟨Nat.le_of_ble_eq_true rfl, Nat.le_of_ble_eq_true rfl⟩, rfl, hts _ (by decide +kernel)⟩ ⟨cn_blind, fun U hU hW => cn_pre C X hU hW⟩ rfl rfl hl.1 rfl (lv_room (Nat.le_of_ble_eq_true rfl)) dX5_init_20 ⟨Nat.le_of_ble_eq_true rfl, Nat.le_of_ble_eq_true rfl⟩) (fun ad4 H locs e4 X => ?_)
  refine cn_pr (ci := 4) (Cn := RX5) (T := TX5) (n := 3) (ty0 := tyX5) C X hinX5 tyX5_ok nmX5 b (b + 37) (by omega) (by omega) ((nt_o (by omega)).trans kb2) rfl 1 (by decide) (Nat.le_of_ble_eq_true rfl) (by decide +kernel) rfl rfl rfl (fun _ => rfl) (fun _ => rfl) (e4 _ (by omega)) dX5_init_23 (fun H locs X => ?_)
  rw [← htb2] at X
  have X : cn_X g (b + 1) s.heap (sT tb b) (b + 73) (n_st (b + 37) o4) ad4 H locs := X
  have kbn : sT tb b b = sn_kSN b := tv_s _ _ _
  refine lv_aload_n hx hb dX5_init_26 rfl (lv_at hl 0 rfl) ?_
  refine lv_iconst (v := (0 : Int32)) hx hb dX5_init_27 (by decide) ?_
  refine cn_pi (ci := 4) (Cn := RX5) (T := TX5) (n := 3) (ty0 := tyX5) C X hinX5 tyX5_ok nmX5 b (by omega) kbn rfl 2 (by decide) (by decide +kernel) rfl rfl rfl rfl rfl dX5_init_28 (fun H locs X => ?_)
  exact cn_rv C X dX5_init_31
section CN3
variable {p : Program} {l : Launch} {e : Env} {R : Room} {s : State} {m : MethodId} {args : Array Value} {below : List Frame} {meth : Method} {c : Code} {H : Heap} {locs : List Loc} {cells slots : Nat} {Q : State → Prop}
variable {cc : ByteArray} {pc nL : Nat} {ls : Array Slot} {rest stk : List Value} {g : sn_G} {tb tb' : Nat → sn_K} {N M : Nat} {st st' : sn_S} {Ts : List Cond} {own : String} {H0 : Heap} {ad : Nat → Nat}
theorem sn_f_get {f : Nat → Int32} {h : Int64} {q : Nat} : ∀ (fl : List (Nat × Nat)) (j k : Nat), fl[k]? = some (1, q) → (sn_f ad f h j fl)[k]? = some (.ref (ad q))
  | [], _, _, e => by simp at e
  | x :: l, j, 0, e => by
    have e : x = (1, q) := by simpa using e
    subst e
    rfl
  | x :: l, j, k + 1, e => by
    show (sn_f ad f h (j + 1) l)[k]? = _
    exact sn_f_get l (j + 1) k (by simpa using e)
/-- a reference is read out of a field -/
theorem cn_gr (C : cn_Cx p s m args meth c g cc nL Ts own) (X : cn_X g N H0 tb M st ad H locs) {ref Cn : String} {T : u_T} {n ci index : Nat} (hin : ∀ w ∈ u_ws Cn T n, w ∈ Ts) (b q : Nat) (hb : b < N) {x : Nat} {fl : List (Nat × Nat)} (hk : tb b = (ci + 2, x, fl)) (hc : vwCl[ci]? = some (Cn, T, n)) (k : Nat) (hkn : k < n) (hlink : Cond.fieldLink own index ref (T k).2.1 (T k).2.2.1 ∈ Ts) (href : ref = (T k).1) (hf : fl[k]? = some (1, q)) (hdg : decode cc pc = .ok (.getfield index, 3))
    (kk : W p l e R s m args below meth c H locs cells slots Q (F0 m (pc + 3) ls (.ref (ad q) :: rest))) : W p l e R s m args below meth c H locs cells slots Q (F0 m pc ls (.ref (g.2.2.2 b) :: rest)) := by
  obtain ⟨⟨hx, hbb, hml, hown, hts⟩, -, -, -, hC⟩ := C
  obtain ⟨x1, x2, x3, x4, x5, x6, x7⟩ := id X
  have he : (sn_W (gw g ad) tb M st)[b]? = some (g.2.2.2 b, .inr (ci, sn_f ad (st.1 b) (st.2 b) 0 fl)) := by
    rw [sn_at (by omega), hk, ← x2 b hb]; rfl
  subst href
  exact va_get hx hbb hts hin hown hC.1.1 x6 b he hc k hkn (hts _ hlink) (fun _ h9 => h9) (sn_f_get fl 0 k hf) hdg kk
/-- an int of an array is written -/
theorem cn_as (C : cn_Cx p s m args meth c g cc nL Ts own) (X : cn_X g N H0 tb M st ad H locs) (q : Nat) (hq : q < M) {n k : Nat} {fl : List (Nat × Nat)} (hk : tb q = (0, n, fl)) {i v : Int32} (hi : sn_ix i n = some k) (hdg : decode cc pc = .ok (.iastore, 1))
    (kk : ∀ (H1 : Heap) (locs1 : List Loc), cn_X g N H0 tb M (sn_wr st q k v) ad H1 locs1 → W p l e R s m args below meth c H1 locs1 cells slots Q (F0 m (pc + 1) ls rest)) : W p l e R s m args below meth c H locs cells slots Q (F0 m pc ls (.int v :: .int i :: .ref (ad q) :: rest)) := by
  obtain ⟨⟨hx, hbb, hml, hown, hts⟩, -, -, -, hC⟩ := C
  obtain ⟨x1, x2, x3, x4, x5, x6, x7⟩ := id X
  obtain ⟨h3, h4, h5⟩ := sn_ix_some hi
  have he : (sn_W (gw g ad) tb M st)[q]? = some (ad q, .inl (g.2.1, n, .inl (st.1 q))) := by rw [sn_at hq, hk]; rfl
  refine va_iast hx hbb hC.1.1 x6 X.D x7 q 0 he rfl h3 hdg (fun H1 locs1 a1 _ a3 => kk H1 locs1 (X.to x5 ?_ a3))
  have e1 : (sn_W (gw g ad) tb M st).set q ((gw g ad).2.2.2 q, .inl (g.2.1, n, .inl (upd (st.1 q) k v))) = sn_W (gw g ad) tb M (sn_wr st q k v) := by
    refine sn_put hq ?_ (fun a ha => ⟨if_neg ha, rfl⟩)
    rw [hk]
    show sn_cell (gw g ad) q (0, n, fl) (if q = q then upd (st.1 q) k v else st.1 q) (st.2 q) = _
    rw [if_pos rfl]
    rfl
  rw [← e1]
  rw [h4] at a1
  exact a1
end CN3
/-- the PARENTS of the first i NODES are set -/
def m_lp (b : Nat) : Nat → sn_S → sn_S
  | 0, st => st
  | i + 1, st => sn_wr (m_lp b i st) (b + 1) (24 + i) (-1)
set_option maxHeartbeats 4000000 in
set_option maxRecDepth 100000 in
/-- StableNetModel() -/
theorem c_X6_init {l : Launch} {g : sn_G} {tb : Nat → sn_K} {b : Nat} (hi : sn_I g (b + 1)) (hcl : cn_cl tb (b + 1)) (kb : tb b = (7, 0, [(2, 0), (2, 0), (0, 0), (2, 0), (2, 0), (3, 0)])) (k1 : tb (b + 1) = (0, 374, [])) (k2 : tb (b + 2) = (0, 374, [])) (k3 : tb (b + 3) = (0, 374, [])) (k4 : tb (b + 4) = (0, 12, [])) {st : sn_S} (z : ∀ c, b + 1 ≤ c → c ≤ b + 4 → st.1 c = fun _ => 0) : cn_M l yX6_init wsX6_init { frames := 1, cells := 4, slots := 1134, locals := 12 } g tb (b + 1) [.ref (g.2.2.2 b)] st (tv tb b (sn_kMo b)) (b + 5) (m_lp b 12 (sn_wr st (b + 1) 360 2)) 4 1134 := by
  refine cn_M.of (cc := cX6_init) (nL := 2) hi hcl (by decide) rfl rfl (Nat.le_of_ble_eq_true rfl) ?_
  intro p e s m args below meth c ls C X hl
  have hl : lv_has ls 2 [(0, .ref (g.2.2.2 b))] := hl
  obtain ⟨⟨hx, hb, hml, hown, hts⟩, -, -, -, -⟩ := id C
  have hinX6 : ∀ w ∈ wsX60, w ∈ wsX6_init := by decide +kernel
  refine lv_aload_n hx hb dX6_init_0 rfl (lv_at hl 0 rfl) ?_
  refine cn_obj C (by decide +kernel) (by decide +kernel) (by decide +kernel) hl.1 (Nat.le_of_ble_eq_true rfl) (Nat.le_of_ble_eq_true rfl) dX6_init_1 ?_
  refine lv_aload_n hx hb dX6_init_4 rfl (lv_at hl 0 rfl) ?_
  refine lv_sipush (v := (374 : Int32)) hx hb dX6_init_5 (by decide) ?_
  refine cn_newa (n := 374) C X (by decide +kernel) (by decide) (by decide) (by decide) k1 (z _ (by omega) (by omega)) (Nat.le_of_ble_eq_true rfl) (Nat.le_of_ble_eq_true rfl) dX6_init_8 (fun ad1 H e1 X => ?_)
  refine cn_pr (ci := 5) (Cn := RX6) (T := TX6) (n := 6) (ty0 := tyX6) C X hinX6 tyX6_ok nmX6 b (b + 1) (by omega) (by omega) kb rfl 0 (by decide) (Nat.le_of_ble_eq_true rfl) (by decide +kernel) rfl rfl rfl (fun _ => rfl) (fun _ => rfl) rfl dX6_init_10 (fun H locs X => ?_)
  refine lv_aload_n hx hb dX6_init_13 rfl (lv_at hl 0 rfl) ?_
  refine lv_sipush (v := (374 : Int32)) hx hb dX6_init_14 (by decide) ?_
  refine cn_newa (n := 374) C X (by decide +kernel) (by decide) (by decide) (by decide) (by rw [tv_o _ _ (by omega)]; exact k2) (z _ (by omega) (by omega)) (Nat.le_of_ble_eq_true rfl) (Nat.le_of_ble_eq_true rfl) dX6_init_17 (fun ad2 H e2 X => ?_)
  refine cn_pr (ci := 5) (Cn := RX6) (T := TX6) (n := 6) (ty0 := tyX6) C X hinX6 tyX6_ok nmX6 b (b + 2) (by omega) (by omega) (tv_s _ _ _) rfl 1 (by decide) (Nat.le_of_ble_eq_true rfl) (by decide +kernel) rfl rfl rfl (fun _ => rfl) (fun _ => rfl) rfl dX6_init_19 (fun H locs X => ?_)
  rw [tv_tv] at X
  refine lv_aload_n hx hb dX6_init_22 rfl (lv_at hl 0 rfl) ?_
  refine lv_sipush (v := (374 : Int32)) hx hb dX6_init_23 (by decide) ?_
  refine cn_newa (n := 374) C X (by decide +kernel) (by decide) (by decide) (by decide) (by rw [tv_o _ _ (by omega)]; exact k3) (z _ (by omega) (by omega)) (Nat.le_of_ble_eq_true rfl) (Nat.le_of_ble_eq_true rfl) dX6_init_26 (fun ad3 H e3 X => ?_)
  refine cn_pr (ci := 5) (Cn := RX6) (T := TX6) (n := 6) (ty0 := tyX6) C X hinX6 tyX6_ok nmX6 b (b + 3) (by omega) (by omega) (tv_s _ _ _) rfl 3 (by decide) (Nat.le_of_ble_eq_true rfl) (by decide +kernel) rfl rfl rfl (fun _ => rfl) (fun _ => rfl) rfl dX6_init_28 (fun H locs X => ?_)
  rw [tv_tv] at X
  refine lv_aload_n hx hb dX6_init_31 rfl (lv_at hl 0 rfl) ?_
  refine lv_bipush (v := (12 : Int32)) hx hb dX6_init_32 (by decide) ?_
  refine cn_newa (n := 12) C X (by decide +kernel) (by decide) (by decide) (by decide) (by rw [tv_o _ _ (by omega)]; exact k4) (z _ (by omega) (by omega)) (Nat.le_of_ble_eq_true rfl) (Nat.le_of_ble_eq_true rfl) dX6_init_34 (fun ad4 H e4 X => ?_)
  refine cn_pr (ci := 5) (Cn := RX6) (T := TX6) (n := 6) (ty0 := tyX6) C X hinX6 tyX6_ok nmX6 b (b + 4) (by omega) (by omega) (tv_s _ _ _) rfl 4 (by decide) (Nat.le_of_ble_eq_true rfl) (by decide +kernel) rfl rfl rfl (fun _ => rfl) (fun _ => rfl) rfl dX6_init_36 (fun H locs X => ?_)
  rw [tv_tv] at X
  have X : cn_X g (b + 1) s.heap (tv tb b (sn_kMo b)) (b + 5) st ad4 H locs := X
  have kbm : tv tb b (sn_kMo b) b = sn_kMo b := tv_s _ _ _
  have k1m : tv tb b (sn_kMo b) (b + 1) = (0, 374, []) := by rw [tv_o _ _ (by omega)]; exact k1
  refine lv_aload_n hx hb dX6_init_39 rfl (lv_at hl 0 rfl) ?_
  refine cn_gr (ci := 5) (Cn := RX6) (T := TX6) (n := 6) C X hinX6 b (b + 1) (by omega) kbm rfl 0 (by decide) (by decide +kernel) rfl rfl dX6_init_40 ?_
  refine lv_sipush (v := (360 : Int32)) hx hb dX6_init_43 (by decide) ?_
  refine lv_iconst (v := (2 : Int32)) hx hb dX6_init_46 (by decide) ?_
  refine cn_as (k := 360) C X (b + 1) (by omega) k1m (by decide +kernel) dX6_init_47 (fun H locs X => ?_)
  refine lv_iconst (v := (0 : Int32)) hx hb dX6_init_48 (by decide) ?_
  refine lv_istore_n (lv' := [(1, .int (nI 0)), (0, .ref (g.2.2.2 b))]) hx hb dX6_init_49 rfl hl (by decide) rfl (fun ls hl => ?_)
  generalize sn_wr st (b + 1) 360 2 = st0 at X ⊢
  have loop : ∀ (k i : Nat) (H : Heap) (locs : List Loc) (ls : Array Slot), i + k = 12 → cn_X g (b + 1) s.heap (tv tb b (sn_kMo b)) (b + 5) (m_lp b i st0) ad4 H locs → lv_has ls 2 [(1, .int (nI i)), (0, .ref (g.2.2.2 b))] → W p l e { frames := 1, cells := 4, slots := 1134, locals := 12 } s m args below meth c H locs (0 + 1 + 1 + 1 + 1) (0 + 374 + 374 + 374 + 12) (MQ below (cn_Q g (b + 1) s.heap.size (tv tb b (sn_kMo b)) (b + 5) (m_lp b 12 st0)) args s 4 1134 (cn_A g (b + 1) s.heap.size)) (F0 m 50 ls []) := fun k => by
    induction k with
    | zero =>
      intro i H locs ls hik X hl
      rw [show i = 12 by omega] at X hl
      refine lv_iload_n hx hb dX6_init_50 rfl (lv_at hl 0 rfl) ?_
      refine lv_bipush (v := (12 : Int32)) hx hb dX6_init_51 (by decide) ?_
      refine lv_icmp_ge (tgt := 72) hx hb dX6_init_53 (by decide) (fun hc => ?_) (fun hc => absurd (by decide) hc)
      exact cn_rv C X dX6_init_72
    | succ k ih =>
      intro i H locs ls hik X hl
      have hi12 : i < 12 := by omega
      refine lv_iload_n hx hb dX6_init_50 rfl (lv_at hl 0 rfl) ?_
      refine lv_bipush (v := (12 : Int32)) hx hb dX6_init_51 (by decide) ?_
      refine lv_icmp_ge (tgt := 72) hx hb dX6_init_53 (by decide) (fun hc => absurd hc (nI_ge (b := 12) hi12 (by omega))) (fun hc => ?_)
      refine lv_aload_n hx hb dX6_init_56 rfl (lv_at hl 1 rfl) ?_
      refine cn_gr (ci := 5) (Cn := RX6) (T := TX6) (n := 6) C X hinX6 b (b + 1) (by omega) kbm rfl 0 (by decide) (by decide +kernel) rfl rfl dX6_init_57 ?_
      refine lv_bipush (v := (24 : Int32)) hx hb dX6_init_60 (by decide) ?_
      refine lv_iload_n hx hb dX6_init_62 rfl (lv_at hl 0 rfl) ?_
      refine lv_iadd hx hb dX6_init_63 ?_
      refine lv_iconst (v := (-1 : Int32)) hx hb dX6_init_64 (by decide) ?_
      refine cn_as (k := 24 + i) C X (b + 1) (by omega) k1m (ix_24 hi12) dX6_init_65 (fun H locs X => ?_)
      refine lv_iinc (v := nI (i + 1)) (lv' := [(1, .int (nI (i + 1))), (0, .ref (g.2.2.2 b))]) hx hb dX6_init_66 hl (k := 0) rfl (by rw [← nI_1]; rfl) (by decide) rfl (fun ls hl => ?_)
      refine lv_goto (tgt := 50) hx hb dX6_init_69 (by decide) ?_
      exact ih (i + 1) H locs ls (by omega) X hl
  exact loop 12 0 H locs ls (by omega) X hl
