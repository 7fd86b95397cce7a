/-! THE LAW: its start -/
def nk_0 (d : Nat) : sn_K := if d = 0 then kNr else if d = 1 then (4, 0, [(0, 0), (2, 0), (2, 0)]) else if d = 4 then (3, 0, [(2, 0), (2, 0), (2, 0), (2, 0)]) else if d = 33 then (5, 0, [(0, 0), (0, 0), (0, 0), (0, 0), (2, 0), (2, 0)]) else if d = 5 then (1, 12, []) else if d = 18 then (1, 12, []) else if 6 ≤ d ∧ d ≤ 30 then (0, 17, []) else if d = 34 then (0, 4, []) else (0, 12, [])
def tb_0 : Nat → sn_K := fun c => if c = 0 then (6, 0, [(2, 0), (2, 0), (0, 0)]) else if c = 73 then (7, 0, [(2, 0), (2, 0), (0, 0), (2, 0), (2, 0), (3, 0)]) else if c = 74 then (0, 374, []) else if c = 75 then (0, 374, []) else if c = 76 then (0, 374, []) else if c = 77 then (0, 12, []) else nk_0 (if c < 37 then c - 1 else c - 37)
theorem tb_0_1 : nk tb_0 (0 + 1) := ⟨rfl, rfl, rfl, rfl, rfl, fun j hj => by rcases (show j = 0 ∨ j = 1 ∨ j = 2 ∨ j = 3 ∨ j = 4 ∨ j = 5 ∨ j = 6 ∨ j = 7 ∨ j = 8 ∨ j = 9 ∨ j = 10 ∨ j = 11 by omega) with rfl | rfl | rfl | rfl | rfl | rfl | rfl | rfl | rfl | rfl | rfl | rfl <;> rfl, rfl, fun j hj => by rcases (show j = 0 ∨ j = 1 ∨ j = 2 ∨ j = 3 ∨ j = 4 ∨ j = 5 ∨ j = 6 ∨ j = 7 ∨ j = 8 ∨ j = 9 ∨ j = 10 ∨ j = 11 by omega) with rfl | rfl | rfl | rfl | rfl | rfl | rfl | rfl | rfl | rfl | rfl | rfl <;> rfl, rfl, rfl, rfl, rfl, rfl⟩
theorem tb_0_37 : nk tb_0 (0 + 37) := ⟨rfl, rfl, rfl, rfl, rfl, fun j hj => by rcases (show j = 0 ∨ j = 1 ∨ j = 2 ∨ j = 3 ∨ j = 4 ∨ j = 5 ∨ j = 6 ∨ j = 7 ∨ j = 8 ∨ j = 9 ∨ j = 10 ∨ j = 11 by omega) with rfl | rfl | rfl | rfl | rfl | rfl | rfl | rfl | rfl | rfl | rfl | rfl <;> rfl, rfl, fun j hj => by rcases (show j = 0 ∨ j = 1 ∨ j = 2 ∨ j = 3 ∨ j = 4 ∨ j = 5 ∨ j = 6 ∨ j = 7 ∨ j = 8 ∨ j = 9 ∨ j = 10 ∨ j = 11 by omega) with rfl | rfl | rfl | rfl | rfl | rfl | rfl | rfl | rfl | rfl | rfl | rfl <;> rfl, rfl, rfl, rfl, rfl, rfl⟩
theorem nw_in : ∀ w ∈ sn_nw, w ∈ lw_tbl := by decide +kernel
theorem nw_ok : ∀ w ∈ sn_nw, w.onTables = true := by decide +kernel
theorem ao_spec {args : Array Value} {s : State} (h : (Cond.arrayOver (.array .int)).before args s = true) : ∃ cI cA kA, s.vm.findClass (FieldType.array .int).toString = some cI ∧ s.vm.classes[cA]? = some kA ∧ kA.kind = .array cI (.array .int) ∧ s.vm.findClass ("[" ++ (FieldType.array .int).toString) = some cA := by
  simp only [Cond.before, Cond.holds, Cond.value, beq_iff_eq] at h
  cases hc : s.vm.findClass (FieldType.array .int).toString with
  | none => simp [hc] at h
  | some cI =>
    simp only [hc, Option.bind_some, Option.bind_eq_some_iff, Option.map_eq_some_iff] at h
    obtain ⟨cA, hi, kA, hk, hb⟩ := h
    obtain ⟨hlt, hp, -⟩ := Array.findIdx?_eq_some_iff_getElem.mp hi
    rw [(Array.getElem?_eq_some_iff.mp hk).2] at hp
    cases hkind : kA.kind with
    | array c2 ty =>
      rw [hkind] at hb hp
      simp at hb hp
      exact ⟨cI, cA, kA, rfl, hk, by rw [hkind, hp, hb.1], hb.2⟩
    | _ => rw [hkind] at hb; simp at hb
section LS
variable {p : Program} {l : Launch} {e : Env} {R : Room} {s : State} {m : MethodId} {args : Array Value} {below : List Frame} {meth : Method} {c : Code} {H : Heap} {locs : List Loc} {cells slots : Nat} {Q : State → Prop}
variable {cc : ByteArray} {pc nL : Nat} {ls : Array Slot} {rest stk : List Value} {g : sn_G} {tb tb' : Nat → sn_K} {N M : Nat} {st st' : sn_S} {Ts : List Cond} {own : String} {H0 : Heap} {ad : Nat → Nat}
/-- new, in the law -/
theorem ls_new (S : CallFix p m c cc nL s args Ts own) (hC : cn_C g s) (X : cn_X g N H0 tb M st ad H locs) {Cn : String} {T : u_T} {n ci index : Nat} (hin : ∀ w ∈ u_ws Cn T n, w ∈ Ts) {ty0 : Nat → FieldType} (hty : ∀ k, k < n → parseFieldDescriptor (T k).2.2.1 = some (ty0 k)) (h1 : Cond.classLink own index Cn ∈ Ts) (h2 : Cond.instantiable Cn n ∈ Ts) (h3 : Cond.initialized Cn ∈ Ts) (hc : vwCl[ci]? = some (Cn, T, n)) {fl : List (Nat × Nat)} (hk : tb M = (ci + 2, 0, fl)) (hfl : ∀ q ∈ fl, ¬ q.1 = 1) {fs : List Value} (hf : sn_f ad (st.1 M) (st.2 M) 0 fl = fs) (hfs : ∀ j, j < n → defaultValue (ty0 j) = vp_V fs j) (hcells : cells + 1 ≤ R.cells) (hslots : slots + n ≤ R.slots) (hdg : decode cc pc = .ok (.new index, 3))
    (kk : ∀ (ad' : Nat → Nat) (H1 : Heap), (∀ c, c < M → ad' c = ad c) → cn_X g N H0 tb (M + 1) st ad' H1 locs → W p l e R s m args below meth c H1 locs (cells + 1) (slots + n) Q (F0 m (pc + 3) ls (.ref (ad' M) :: rest))) : W p l e R s m args below meth c H locs cells slots Q (F0 m pc ls rest) := by
  obtain ⟨hx, hb, hml, hown, hts⟩ := S
  obtain ⟨x1, x2, x3, x4, x5, x6, x7⟩ := id X
  refine va_new (ci := ci) (fs := fs) (C := Cn) (T := T) (N := n) hx hb hts hin ty0 hty hown (hts _ h1) (hts _ h2) (hts _ h3) hC.1.1 x6 X.D x7 (fun q h => Or.inr h) hc hfs hcells hslots hdg (fun q H1 hP1 hD1 hS1 => ?_)
  obtain ⟨ad', e1, e2, X'⟩ := X.push hP1 hD1 hS1 (by rw [hk]; exact ⟨fun q hq e => absurd e (hfl q hq), fun z => by omega⟩) (by rw [hk, ← hf]; rfl)
  have := kk ad' H1 e2 X'
  rw [e1] at this
  exact this
/-- behind a constructor that the law called -/
theorem ls_kI (X : cn_X g N H0 tb M st ad H locs) {M' mc ms : Nat} {a : Array Value} (hr : va_Run p l e R s m args below meth c H locs cells slots mc ms (F0 m pc ls stk) rest (cn_Q (gw g ad) M H.size tb' M' st' a) (cn_A (gw g ad) M H.size))
    (kk : ∀ (ad' : Nat → Nat) (H1 : Heap) (locs1 : List Loc), (∀ c, c < M → ad' c = ad c) → cn_X g N H0 tb' M' st' ad' H1 locs1 → W p l e R s m args below meth c H1 locs1 (cells + mc) (slots + ms) Q (F0 m (pc + 3) ls rest)) : W p l e R s m args below meth c H locs cells slots Q (F0 m pc ls stk) := by
  obtain ⟨x1, x2, x3, x4, x5, x6, x7⟩ := id X
  have hsub : ∀ q, cn_A (gw g ad) M H.size q → cn_A g N H0.size q := fun q h => by
    rcases h with ⟨c, hc, hq⟩ | h
    · rw [hq]; exact X.inA hc
    · exact Or.inr (Nat.le_trans x7.1 h)
  unfold cn_Q at hr
  refine va_callv hr x7 (fun q _ h => hsub q h) (fun q h => hsub q h) (fun ad' t H1 locs1 ht _ hp hB _ _ hS1 => ?_)
  obtain ⟨y2, y3, y4, y5, y1⟩ := hp
  rw [ht] at hB
  refine kk ad' H1 locs1 y2 ⟨by omega, fun c hc => (y2 c (by omega)).trans (x2 c hc), fun c h1 h2 => ?_, y4, y5, hB, hS1⟩
  by_cases hc : c < M
  · rw [y2 c hc]; exact x3 c h1 hc
  · exact Nat.le_trans x7.1 (y3 c (by omega) h2)
end LS
set_option maxHeartbeats 4000000 in
set_option maxRecDepth 100000 in
/-- THE LAW, from its entry -/
theorem whole_start {p : Program} {e : Env} {s : State} {m : MethodId} {below : List Frame} {meth : Method} {c : Code} (l : Launch) {b L : Nat} {xs : Nat → Int32} (hL : L ≤ 2048) (C0 : lw_At p s m meth c b L xs) : W p l e room_1 s m #[Value.ref b] below meth c s.heap [] 0 0 (lw_Z below #[Value.ref b] s) (entryFrame m ([Value.ref b] : List Value).toArray 4) := by
  obtain ⟨hx, hb, hr, hml, hown, hts0, hX, hbl, hlocks, hgv⟩ := id C0
  have hts : ∀ w ∈ wsL_law, w.before #[Value.ref b] s = true := fun w h => hts0 w (lin_all w h)
  have S : CallFix p m c code 4 s #[Value.ref b] wsL_law RL := ⟨hx, hb, hml, hown, hts⟩
  -- the classes
  obtain ⟨d0, i0, n0⟩ := u_known (C := RX0) (T := TX0) (N := 9) (n := 9) hts0 lin_X0 (hts0 (.instantiable RX0 9) (by decide +kernel))
  obtain ⟨d1, i1, n1⟩ := u_known (C := RX1) (T := TX1) (N := 4) (n := 4) hts0 lin_X1 (hts0 (.instantiable RX1 4) (by decide +kernel))
  obtain ⟨d2, i2, n2⟩ := u_known (C := RX3) (T := TX3) (N := 3) (n := 3) hts0 lin_X3 (hts0 (.instantiable RX3 3) (by decide +kernel))
  obtain ⟨d3, i3, n3⟩ := u_known (C := RX4) (T := TX4) (N := 6) (n := 6) hts0 lin_X4 (hts0 (.instantiable RX4 6) (by decide +kernel))
  obtain ⟨d4, i4, n4⟩ := u_known (C := RX5) (T := TX5) (N := 3) (n := 3) hts0 lin_X5 (hts0 (.instantiable RX5 3) (by decide +kernel))
  obtain ⟨d5, i5, n5⟩ := u_known (C := RX6) (T := TX6) (N := 6) (n := 6) hts0 lin_X6 (hts0 (.instantiable RX6 6) (by decide +kernel))
  obtain ⟨dC, dI, hKc⟩ : ∃ (dC : Nat → ClassId) (dI : Nat → Nat → Nat), ∀ (k : Nat) (q : vw_C), vwCl[k]? = some q → u_Kn s q.1 q.2.1 q.2.2 (dC k) (dI k) := by
    refine ⟨fun k => match k with | 0 => d0 | 1 => d1 | 2 => d2 | 3 => d3 | 4 => d4 | _ => d5, fun k => match k with | 0 => i0 | 1 => i1 | 2 => i2 | 3 => i3 | 4 => i4 | _ => i5, ?_⟩
    intro k q hq
    match k, hq with
    | 0, hq => cases hq; exact n0
    | 1, hq => cases hq; exact n1
    | 2, hq => cases hq; exact n2
    | 3, hq => cases hq; exact n3
    | 4, hq => cases hq; exact n4
    | 5, hq => cases hq; exact n5
    | k + 6, hq => simp at hq
  obtain ⟨cI, kI, c1, fI, qI, qI2⟩ := Cond.arrayClass_spec (hts0 (.arrayClass .int) (by decide +kernel))
  obtain ⟨cI', cA, kA, fI', qA, qA2, fA⟩ := ao_spec (hts0 (.arrayOver (.array .int)) (by decide +kernel))
  have hcI : cI' = cI := Option.some.inj (fI'.symm.trans fI)
  subst hcI
  obtain ⟨o1, o2, o3, o4, a1, a2, a3, a4, a5⟩ := made
  generalize hg : (((dC, dI), cI', cA, fun _ => 0) : sn_G) = g
  have hC : cn_C g s := by
    subst hg
    refine ⟨⟨⟨hKc, fun k q h => ?_⟩, fun w hw => va_Nw.of (nw_ok w hw) (hts0 w (nw_in w hw))⟩, kA, kI, c1, qA, qA2, qI, qI2⟩
    match k, h with
    | 0, h => cases h; exact ⟨fun n z => ⟨fun k h => (by cases h), kI, qI, c1, qI2⟩, fI⟩
    | 1, h => cases h; exact ⟨fun n z => ⟨fun k h => (by cases h), kA, qA, cI', qA2⟩, fA⟩
    | k + 2, h => simp at h
  have X : cn_X g 0 s.heap tb_0 0 st_0 (fun _ => 0) s.heap [] := ⟨Nat.le_refl _, fun c h => by omega, fun c _ h => by omega, fun i j h => by omega, fun c h => by omega, fun k q h => by simp [sn_W] at h, va_S.rf⟩
  have hl := lv_entry ([.ref b]) (n := 4) (Nat.le_of_ble_eq_true rfl)
  rw [lg_entry_eq]
  generalize (lg_sl ([.ref b]) ++ List.replicate (4 - (lg_sl ([.ref b])).length) Slot.unset).toArray = ls at hl ⊢
  have hl : lv_has ls 4 [(0, .ref b)] := hl
  have inX5 : ∀ w ∈ wsX50, w ∈ wsL_law := by decide +kernel
  have inX6 : ∀ w ∈ wsX60, w ∈ wsL_law := by decide +kernel
  -- new StableNet()
  refine ls_new (ci := 4) (Cn := RX5) (T := TX5) (n := 3) (ty0 := tyX5) (fs := [.null, .null, .int 0]) S hC X inX5 tyX5_ok (by decide +kernel) (by decide +kernel) (by decide +kernel) rfl rfl (by decide) rfl (fun j hj => by rcases (show j = 0 ∨ j = 1 ∨ j = 2 by omega) with rfl | rfl | rfl <;> rfl) (Nat.le_of_ble_eq_true rfl) (Nat.le_of_ble_eq_true rfl) dL_law_0 (fun ad1 H e1 X => ?_)
  refine lv_dup hx hb dL_law_3 rfl ?_
  have hM5 := c_X5_init (l := l) (g := gw g ad1) (tb := tb_0) (b := 0) X.2.2.2.1 X.2.2.2.2.1 rfl rfl tb_0_1 rfl tb_0_37 a1 a2 H.size
  refine ls_kI X (va_runI (As := []) (rest := [.ref (ad1 0)]) S hM5 (cwI 0 hts gL_law_X5_init rfl rfl rfl (hts _ (by decide +kernel)) (hts _ (by decide +kernel)) (hts _ (by decide +kernel)) rfl (by decide +kernel) ⟨Nat.le_of_ble_eq_true rfl, Nat.le_of_ble_eq_true rfl⟩) ⟨cn_blind, fun U hU hW => ⟨rfl, by rw [hU], hC.moved hW, by rw [hU]; exact X.2.2.2.2.2.1⟩⟩ rfl rfl hl.1 rfl (lv_room (Nat.le_of_ble_eq_true rfl)) dL_law_4 ⟨Nat.le_of_ble_eq_true rfl, Nat.le_of_ble_eq_true rfl⟩) (fun ad2 H locs e2 X => ?_)
  refine lv_astore_n (lv' := [(1, .ref (ad1 0)), (0, .ref b)]) hx hb dL_law_7 rfl hl (by decide) rfl (fun ls hl => ?_)
  have X : cn_X g 0 s.heap (sT tb_0 0) 73 (sn_wr (n_st (0 + 37) o4) 0 2 0) ad2 H locs := X
  generalize sn_wr (n_st (0 + 37) o4) 0 2 0 = st5 at X a3 a4 a5
  have t5 : ∀ c, 73 ≤ c → sT tb_0 0 c = tb_0 c := fun c h => by unfold sT; rw [tv_o _ _ (by omega), nt_o (by omega), tv_o _ _ (by omega), nt_o (by omega)]
  -- new StableNetModel()
  refine ls_new (ci := 5) (Cn := RX6) (T := TX6) (n := 6) (ty0 := tyX6) (fs := [.null, .null, .int 0, .null, .null, .long 0]) S hC X inX6 tyX6_ok (by decide +kernel) (by decide +kernel) (by decide +kernel) rfl (t5 73 (by omega)) (by decide) (by rw [a3 73 (by omega), a4]; rfl) (fun j hj => by rcases (show j = 0 ∨ j = 1 ∨ j = 2 ∨ j = 3 ∨ j = 4 ∨ j = 5 by omega) with rfl | rfl | rfl | rfl | rfl | rfl <;> rfl) (Nat.le_of_ble_eq_true rfl) (Nat.le_of_ble_eq_true rfl) dL_law_8 (fun ad3 H e3 X => ?_)
  refine lv_dup hx hb dL_law_11 rfl ?_
  have hM6 := c_X6_init (l := l) (g := gw g ad3) (tb := sT tb_0 0) (b := 73) (st := st5) X.2.2.2.1 X.2.2.2.2.1 (t5 73 (by omega)) (t5 74 (by omega)) (t5 75 (by omega)) (t5 76 (by omega)) (t5 77 (by omega)) (fun c h1 h2 => a3 c (by omega)) H.size
  refine ls_kI X (va_runI (As := []) (rest := [.ref (ad3 73)]) S hM6 (cwI 0 hts gL_law_X6_init rfl rfl rfl (hts _ (by decide +kernel)) (hts _ (by decide +kernel)) (hts _ (by decide +kernel)) rfl (by decide +kernel) ⟨Nat.le_of_ble_eq_true rfl, Nat.le_of_ble_eq_true rfl⟩) ⟨cn_blind, fun U hU hW => ⟨rfl, by rw [hU], hC.moved hW, by rw [hU]; exact X.2.2.2.2.2.1⟩⟩ rfl rfl hl.1 rfl (lv_room (Nat.le_of_ble_eq_true rfl)) dL_law_12 ⟨Nat.le_of_ble_eq_true rfl, Nat.le_of_ble_eq_true rfl⟩) (fun ad4 H locs e4 X => ?_)
  refine lv_astore_n (lv' := [(2, .ref (ad3 73)), (1, .ref (ad1 0)), (0, .ref b)]) hx hb dL_law_15 rfl hl (by decide) rfl (fun ls hl => ?_)
  refine lv_iconst (v := (0 : Int32)) hx hb dL_law_16 (by decide) ?_
  refine lv_istore_n (lv' := [(3, .int (nI 0)), (2, .ref (ad3 73)), (1, .ref (ad1 0)), (0, .ref b)]) hx hb dL_law_17 rfl hl (by decide) rfl (fun ls hl => ?_)
  have X : cn_X g 0 s.heap (tv (sT tb_0 0) 73 (sn_kMo 73)) 78 (m_lp 73 12 (sn_wr st5 (73 + 1) 360 2)) ad4 H locs := X
  refine W.widen (k := 600000) (n := 7302250) (Nat.le_of_ble_eq_true rfl) (Nat.le_of_ble_eq_true rfl) ?_
  have q73 : ad3 73 = ad4 73 := (e4 73 (by omega)).symm
  have q0 : ad1 0 = ad4 0 := by rw [e4 0 (by omega), e3 0 (by omega), e2 0 (by omega)]
  rw [q73, q0] at hl
  have hSN : sn_SN (tv (sT tb_0 0) 73 (sn_kMo 73)) 78 0 := by
    obtain ⟨h1, h2, h3, h4⟩ := sT_SN (N := 78) tb_0_1 tb_0_37 (by omega)
    exact ⟨h1, (tv_o _ _ (by omega)).trans h2, h3.congr (fun c _ h => tv_o _ _ (by omega)), h4.congr (fun c _ h => tv_o _ _ (by omega))⟩
  have hMo : sn_Mo (tv (sT tb_0 0) 73 (sn_kMo 73)) 78 73 := ⟨by omega, tv_s _ _ _, (tv_o _ _ (by omega)).trans (t5 74 (by omega)), (tv_o _ _ (by omega)).trans (t5 75 (by omega)), (tv_o _ _ (by omega)).trans (t5 76 (by omega)), (tv_o _ _ (by omega)).trans (t5 77 (by omega))⟩
  have hCl : lc_C p l s m meth c (gw g ad4) (tv (sT tb_0 0) 73 (sn_kMo 73)) b L xs := ⟨S, hC.1, X.2.2.2.1, fun c hc => X.2.2.1 c (by omega) hc, hSN, hMo, hX, hbl⟩
  have hXl : lc_X s (gw g ad4) (tv (sT tb_0 0) 73 (sn_kMo 73)) (m_lp 73 12 (sn_wr st5 (73 + 1) 360 2)) H locs := by
    refine ⟨X.2.2.2.2.2.1, X.2.2.2.2.2.2.1, fun q h1 h2 => X.2.2.2.2.2.2.2.1 q h1 (fun z => ?_), fun x hx => ?_⟩
    · rcases z with ⟨c, hc, -⟩ | z
      · omega
      · exact h2 z
    · rcases X.2.2.2.2.2.2.2.2 x hx with ⟨c, hc, -⟩ | z
      · omega
      · exact z
  exact law_loop hCl hL hr hlocks (L + 4) 0 _ H locs ls (by omega) (by omega) a5 hXl (lv_sub hl [3, 2, 1, 0] rfl)
