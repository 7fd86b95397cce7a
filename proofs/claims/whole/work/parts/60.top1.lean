/-! BOTH, call by call -/
def Ri (st : sn_S) : Prop := (∃ n, cw (0 + 1) n st (st.1 (73 + 1)) ∧ ci n (st.1 (73 + 1))) ∧ st.1 0 2 = st.1 73 2 ∧ (st.1 0 2 = 0 ∨ st.1 0 2 = 1) ∧ (st.1 0 2 = 1 → ∃ n, cw (0 + 37) n st (st.1 (73 + 2)) ∧ ci n (st.1 (73 + 2)))
section CU1
variable {st st1 st2 : sn_S}
theorem Ri.get (h : Ri st) : ∃ n s, st.1 (73 + 1) = s ∧ cw (0 + 1) n st s ∧ ci n s := by
  obtain ⟨⟨n, h1, h2⟩, -⟩ := h
  exact ⟨n, _, rfl, h1, h2⟩
theorem Ri.op (h : Ri st) (c1 : cf (0 + 1) st st1) (c2 : ∀ a, a ≠ 74 → a ≠ 76 → a ≠ 77 → st2.1 a = st1.1 a) {n : Nat} {s : Nat → Int32} (h2 : st2.1 (73 + 1) = s) (hw : cw (0 + 1) n st1 s) (hi : ci n s) : Ri st2 := by
  obtain ⟨-, h3, h4, h5⟩ := h
  have e0 : st2.1 0 = st.1 0 := (c2 0 (by omega) (by omega) (by omega)).trans (c1.1 0 (by omega))
  have e73 : st2.1 73 = st.1 73 := (c2 73 (by omega) (by omega) (by omega)).trans (c1.1 73 (by omega))
  have e75 : st2.1 (73 + 2) = st.1 (73 + 2) := (c2 75 (by omega) (by omega) (by omega)).trans (c1.1 75 (by omega))
  refine ⟨⟨n, ?_, ?_⟩, by rw [e0, e73]; exact h3, by rw [e0]; exact h4, fun z => ?_⟩
  · rw [h2]; exact hw.keep hi.1.2.2 (fun a h1 h2 => c2 a (by omega) (by omega) (by omega))
  · rw [h2]; exact hi
  · rw [e0] at z
    obtain ⟨m, k1, k2⟩ := h5 z
    rw [e75]
    exact ⟨m, k1.keep k2.1.2.2 (fun a g1 g2 => (c2 a (by omega) (by omega) (by omega)).trans (c1.1 a (by omega))), k2⟩
theorem b2_c2 (h : st_b2 73 st1 st2) : ∀ a, a ≠ 74 → a ≠ 76 → a ≠ 77 → st2.1 a = st1.1 a := fun a x y z => h.1 a x y z
theorem bu_c2 {c : Nat} (hc : c = 74 ∨ c = 76 ∨ c = 77) (h : st_but c st1 st2) : ∀ a, a ≠ 74 → a ≠ 76 → a ≠ 77 → st2.1 a = st1.1 a := fun a x y z => h.1 a (by omega)
theorem in_lh {x : Int32} {lo hi : Nat} (h1 : lo < 2 ^ 31) (h2 : hi < 2 ^ 31) (h : sp_in x (nI lo) (nI hi) = true) : ∃ k, lo ≤ k ∧ k ≤ hi ∧ x = nI k := by
  unfold sp_in at h
  have h := of_decide_eq_true h
  obtain ⟨j, h3, rfl⟩ := nI_of (x := x) (Int32.not_lt.mpr (Int32.le_trans (show (0 : Int32) ≤ nI lo from nI_pos' h1) h.1))
  exact ⟨j, (nI_leI h1 h3).mp h.1, (nI_leI h3 h2).mp h.2, rfl⟩
theorem q_open (h : Ri st) (x : Int32) : ∃ (r : Int32) (st1 st2 : sn_S), D_X5_open 0 x st = some (r, st1) ∧ D_X6_open 73 x st1 = some (r, st2) ∧ Ri st2 := by
  obtain ⟨n, s, hs, hc, hi⟩ := h.get
  have no : sp_in x 2 12 = false → ∃ st2 : sn_S, D_X6_open 73 x st = some (-102, st2) ∧ Ri st2 := fun hf => by
    obtain ⟨st2, g1, g2, g3⟩ := m_open (b := 73) hs x
    rw [hf, if_neg (by decide)] at g1 g3
    exact ⟨st2, g1, h.op cf.rf (bu_c2 (Or.inl rfl) g2) g3 hc hi⟩
  unfold D_X5_open
  by_cases c1 : x < 2
  · obtain ⟨st2, g1, g2⟩ := no (in_f c1)
    exact ⟨-102, st, st2, by rw [if_pos c1], g1, g2⟩
  · rw [if_neg c1]
    by_cases c2 : x ≤ 12
    · have hin : sp_in x 2 12 = true := in_t c1 (Int32.not_lt.mpr c2)
      obtain ⟨m, hm1, hm2, rfl⟩ := in_lh (lo := 2) (hi := 12) (by omega) (by omega) hin
      obtain ⟨st1, g1, g2, g3⟩ := k_clear (b := 0 + 1) (n := m) (st := st) (s0 := s) ⟨hm1, hm2⟩ hc.2.2.2.2.2.1 hc.2.2.2.2.2.2.1
      have hs1 : st1.1 (73 + 1) = s := (g3.1 _ (by omega)).trans hs
      obtain ⟨st2, k1, k2, k3⟩ := m_open (b := 73) hs1 (nI m)
      rw [hin, if_pos rfl] at k1 k3
      refine ⟨s 360, st1, st2, ?_, k1, h.op g3 (bu_c2 (Or.inl rfl) k2) k3 g2 (op_ci0 ⟨hm1, hm2⟩).ci⟩
      rw [if_pos c2, g1, Option.bind_some, hc.1.1, hi.1.1]
    · obtain ⟨st2, g1, g2⟩ := no (in_g (Int32.not_le.mp c2))
      exact ⟨-102, st, st2, by rw [if_neg c2], g1, g2⟩
theorem q_link (h : Ri st) (x y z : Int32) : ∃ (r : Int32) (st1 st2 : sn_S), D_X5_link 0 x y z st = some (r, st1) ∧ D_X6_link 73 x y z st1 = some (r, st2) ∧ Ri st2 := by
  obtain ⟨n, s, hs, hc, hi⟩ := h.get
  have hn12 := hi.1.2.2
  have hn2 := hi.1.2.1
  have hmod := fun (st1 : sn_S) (hs1 : st1.1 (73 + 1) = s) => (m_isNode (b := 73) (st := st1) hs1 hi.1)
  unfold D_X5_link
  rw [k_isNode hc.1.1 hn12, k_isNode hc.1.1 hn12, pb_if]
  cases hx : sp_nd n x with
  | false =>
    refine ⟨-101, st, st, rfl, ?_, h⟩
    unfold D_X6_link
    rw [hmod st hs, hx]; rfl
  | true =>
    rw [if_pos rfl, pb_if]
    cases hy : sp_nd n y with
    | false =>
      refine ⟨-101, st, st, rfl, ?_, h⟩
      unfold D_X6_link
      rw [hmod st hs, hmod st hs, hx, hy]; rfl
    | true =>
      rw [if_pos rfl]
      by_cases exy : x = y
      · refine ⟨-102, st, st, by rw [if_pos exy], ?_, h⟩
        unfold D_X6_link
        rw [hmod st hs, hmod st hs, hx, hy, pb_if, if_pos rfl, pb_if, if_pos rfl, if_pos exy]
      · rw [if_neg exy]
        have h3 : st.1 (0 + 1) 3 = s 361 := hc.2.2.2.2.1
        rcases hi.2.1 with hb | hb
        · rw [if_pos (by rw [h3]; exact hb)]
          obtain ⟨i, hin, rfl⟩ := sp_nd_of hn12 hx
          obtain ⟨j, hjn, rfl⟩ := sp_nd_of hn12 hy
          have hne : i ≠ j := fun q => exy (by rw [q])
          have hL := hi.2.2.1 i j (by omega) (by omega)
          obtain ⟨st1, g1, g2, g3, g4, g5⟩ := k_join (b := 0 + 1 + 1) (st := st) (s := s) hc.1.1 hc.1.2.1 (by omega) hn12 hin hjn hne z
          have hcf : cf (0 + 1) st st1 := ⟨fun a ha => g2 a (by omega) (by omega), g3⟩
          have hs1 : st1.1 (73 + 1) = s := (hcf.1 _ (by omega)).trans hs
          have hcw : cw (0 + 1) n st1 (sp_li s i j (bi (!decide (z = 0)))) := hc.li hi hb (fun k hk => li_o hk (by omega) (by omega)) (fun a h1 h2 => g2 a h1 h2) g4 g5
          rw [sn_ix_nI (by omega : i < 12) (by decide), Option.bind_some, hc.1.2.1 i (by omega), k_hasM (by omega), pb_if, g1, Option.bind_some, Option.bind_some]
          refine ⟨s (216 + 12 * i + j), st1, sn_wr (sn_wr st1 (73 + 1) (216 + 12 * i + j) (bi (!decide (z = 0)))) (73 + 1) (216 + 12 * j + i) (bi (!decide (z = 0))), ?_, ?_, h.op hcf (bu_c2 (Or.inl rfl) ((st_but.rf.wr _ _).wr _ _)) (by rw [wr_s, wr_s, hs1]; rfl) hcw (hi.li hb _ hin hjn hne)⟩
          · rw [hL]
            cases sp_lk n s i j <;> rfl
          · unfold D_X6_link
            rw [hmod st1 hs1, hmod st1 hs1, hx, hy, pb_if, if_pos rfl, pb_if, if_pos rfl, if_neg exy, hs1, if_neg (by rw [hb]; decide), ix_l (by omega) (by omega), ix_l (by omega) (by omega)]
            simp only [Option.bind_some]
            by_cases cz : z = 0
            · rw [if_pos cz, if_pos cz, decide_eq_true cz]; rfl
            · rw [if_neg cz, if_neg cz, decide_eq_false cz]; rfl
        · refine ⟨-103, st, st, by rw [if_neg (by rw [h3, hb]; decide)], ?_, h⟩
          unfold D_X6_link
          rw [hmod st hs, hmod st hs, hx, hy, pb_if, if_pos rfl, pb_if, if_pos rfl, if_neg exy, hs, if_pos hb]
theorem q_build (h : Ri st) : ∃ (r : Int32) (st1 st2 : sn_S), D_X5_build 0 st = some (r, st1) ∧ D_X6_build 73 st1 = some (r, st2) ∧ Ri st2 := by
  obtain ⟨n, s, hs, hc, hi⟩ := h.get
  have hn12 := hi.1.2.2
  have hn2 := hi.1.2.1
  have h3 : st.1 (0 + 1) 3 = s 361 := hc.2.2.2.2.1
  unfold D_X5_build
  rcases hi.2.1 with hb | hb
  · rw [if_pos (by rw [h3]; exact hb), k_isWhole (b := 0 + 1 + 1) (s := s) hc.1.1 hc.2.2.2.1 hn12, pb_if]
    cases hal : sp_al (fun i => !decide (sp_fa n s n i = -1)) 0 n with
    | false =>
      obtain ⟨sm, m1, m2⟩ := m_measure (b := 73) (st := st) hs hi.1
      have hsm : sm.1 (73 + 1) = s := (m1.2.1 _ (by omega)).trans hs
      refine ⟨-103, st, sm, rfl, ?_, h.op cf.rf (bu_c2 (Or.inr (Or.inr rfl)) m1.2) hsm hc hi⟩
      unfold D_X6_build
      have := m_build_L23 (b := 73) hsm hi.1 m1.1 4096 0 true (by omega) (by omega)
      rw [nI_0, Nat.sub_zero, Bool.true_and, hal, if_neg (by decide)] at this
      rw [m2, Option.bind_some, hsm, if_pos hb]
      exact this
    | true =>
      rw [if_pos rfl]
      have hi1 := hi.bu hb hal
      have hcp : cwp (0 + 1) n (sn_wr st (0 + 1) 3 1) (upd s 361 1) := by
        obtain ⟨hV, hO, hT, hF, -, h4, h5, h6, -⟩ := id hc
        have hO1 : cr_O (0 + 1) (sn_wr st (0 + 1) 3 1) s := fun i hi => by rw [wr_o _ _ _ (by omega)]; exact hO i hi
        refine ⟨(hV.keep (st' := sn_wr st (0 + 1) 3 1) hn12 (fun a ha => wr_o _ _ _ (by omega))).co hn12 (fun k hk => pk_un (by omega)), hO1.co (fun k hk => pk_un (by omega)), ?_, fun i hi => ?_, ?_, ?_, ?_, ?_⟩
        · obtain ⟨t0, t1, t2, t3, t4, t5⟩ := hT
          unfold cr_T
          rw [wr_o _ _ _ (show (0 + 1 + 33 : Nat) ≠ 0 + 1 by omega), wr_o _ _ _ (show (0 + 1 + 33 + 1 : Nat) ≠ 0 + 1 by omega), wr_o _ _ _ (show (0 + 1 + 33 + 2 : Nat) ≠ 0 + 1 by omega), pk_un (by omega), pk_un (by omega), pk_un (by omega), pk_un (by omega)]
          exact ⟨t0, t1, t2, t3, fun r hr => by rw [pk_un (by omega)]; exact t4 r hr, fun i hi => by rw [pk_un (by omega)]; exact t5 i hi⟩
        · rw [wr_o _ _ _ (by omega), hF i hi, co_fa hn12 (fun k _ hk => pk_un (by omega))]
        · rw [wr_at, pk_us]
        · rw [wr_ne _ _ _ (by omega), pk_un (by omega)]; exact h4
        · rw [wr_ne _ _ _ (by omega), pk_un (by omega)]; exact h5
        · rw [wr_ne _ _ _ (by omega), pk_un (by omega)]; exact h6
      obtain ⟨E, hE1, hE2⟩ := hc.E hi
      obtain ⟨st1, g1, g2, g3⟩ := k_beginAnew hcp hi1 E (by rw [wr_ne _ _ _ (by omega)]; exact hE1) hE2 (fun z => by rw [pk_us] at z; cases z) (fun z => by rw [pk_us] at z; cases z)
      have hi2 := hi1.pe
      have hcf : cf (0 + 1) st st1 := (cf.rf.wr (by omega) _ _).trans g3
      have hs1 : st1.1 (73 + 1) = s := (hcf.1 _ (by omega)).trans hs
      obtain ⟨sm, m1, m2⟩ := m_measure (b := 73) (st := st1) hs1 hi.1
      have hsm : sm.1 (73 + 1) = s := (m1.2.1 _ (by omega)).trans hs1
      obtain ⟨st2, k1, k2, k3⟩ := m_build_L79 (b := 73) (st := sm) (s := upd s 361 1) hi1 (fun k h1 h2 => by rw [pk_un (by omega)]; exact (hi.2.2.2.2.2.2.1 hb).2.1 k h1 h2) 1 4096 0 (sn_wr sm (73 + 1) 361 1) (by omega) (by omega) (st_but.rf.wr _ _) (by rw [wr_s, hsm])
      have hr : sp_sm (fun t => upd s 361 1 (216 + t)) 0 0 144 = sp_sm (fun t => s (216 + t)) 0 0 144 := sm_congr 144 0 0 (fun t _ ht => pk_un (by omega))
      have hr2 : sp_sm (fun t => upd (upd s 361 1) 373 (sp_pe n (upd s 361 1)) (216 + t)) 0 0 144 = sp_sm (fun t => s (216 + t)) 0 0 144 := sm_congr 144 0 0 (fun t _ ht => by rw [pk_un (by omega), pk_un (by omega)])
      rw [g1, Option.bind_some, k_linkCount (b := 0 + 1 + 1) g2.1.1 g2.1.2.1 hn12 hi2.2.2.1, hr2, Option.bind_some]
      refine ⟨_, st1, st2, rfl, ?_, h.op hcf (fun a x y z => (k2.1 a x).trans (m1.2.1 a z)) k3 g2 hi2⟩
      unfold D_X6_build
      have := m_build_L23 (b := 73) hsm hi.1 m1.1 4096 0 true (by omega) (by omega)
      rw [nI_0, Nat.sub_zero, Bool.true_and, hal, if_pos rfl] at this
      rw [nI_0, hr] at k1
      rw [m2, Option.bind_some, hsm, if_pos hb]
      exact this.trans k1
  · rw [if_neg (by rw [h3, hb]; decide)]
    obtain ⟨sm, m1, m2⟩ := m_measure (b := 73) (st := st) hs hi.1
    have hsm : sm.1 (73 + 1) = s := (m1.2.1 _ (by omega)).trans hs
    refine ⟨-103, st, sm, rfl, ?_, h.op cf.rf (bu_c2 (Or.inr (Or.inr rfl)) m1.2) hsm hc hi⟩
    unfold D_X6_build
    have := m_build_L23 (b := 73) hsm hi.1 m1.1 4096 0 false (by omega) (by omega)
    rw [nI_0, Nat.sub_zero, Bool.false_and, if_neg (by decide)] at this
    rw [m2, Option.bind_some, hsm, if_neg (by rw [hb]; decide)]
    exact this
theorem q_value (h : Ri st) (x v : Int32) : ∃ (r : Int32) (st1 st2 : sn_S), D_X5_value 0 x v st = some (r, st1) ∧ D_X6_value 73 x v st1 = some (r, st2) ∧ Ri st2 := by
  obtain ⟨n, s, hs, hc, hi⟩ := h.get
  have hn12 := hi.1.2.2
  unfold D_X5_value
  rw [k_isNode hc.1.1 hn12, pb_if]
  cases hx : sp_nd n x with
  | false =>
    refine ⟨-101, st, st, rfl, ?_, h⟩
    unfold D_X6_value
    rw [m_isNode (b := 73) hs hi.1, hx]; rfl
  | true =>
    obtain ⟨i, hin, rfl⟩ := sp_nd_of hn12 hx
    obtain ⟨st1, st2, g1, g2, g3, g4, g5⟩ := k_change hc hi hin (k := 4) (by omega) (Or.inl rfl) (fun z => by omega) v
    have g1' : D_X0_overwrite (0 + 1) (nI i) (4 : Int32) v st = some st1 := g1
    have hs2 : st2.1 (73 + 1) = s := (g5.1 _ (by omega)).trans hs
    rw [pl_4] at g3 g4
    have hsl : sp_sl s (upd s i v) := fun k h1 h2 => pk_un (by omega)
    rw [if_pos rfl, sn_ix_nI (by omega : i < 12) (by decide), Option.bind_some, g1', Option.bind_some, g2, Option.bind_some]
    refine ⟨s i, st2, sn_wr (sn_wr st2 (73 + 1) i v) (73 + 1) 373 (sp_pe n (upd s i v)), ?_, ?_, h.op g5 (bu_c2 (Or.inl rfl) ((st_but.rf.wr _ _).wr _ _)) (by rw [wr_s, wr_s, hs2]) g3 g4⟩
    · rw [(hc.2.1 i (by omega)).2.2.2.2.1]
    · unfold D_X6_value
      rw [m_isNode (b := 73) hs2 hi.1, hx, pb_if, if_pos rfl, ix_0 (by omega), Option.bind_some, Option.bind_some, m_beginRound (b := 73) (s := upd s i v) (by rw [wr_s, hs2]) (hsl.n hi.1) (fun z => hsl.nb hn12 (hi.2.2.2.2.2.2.2.1 (by rw [pk_un (by omega)] at z; exact z))), Option.bind_some, hs2]
theorem ix_pl {i k : Nat} (hi : i < 12) (hk : k < 17) : sn_ix (nI (sp_pl i k)) 374 = some (sp_pl i k) := by
  have := pl_or (i := i) hk
  exact sn_ix_nI (by omega) (by decide)
theorem q_fault (h : Ri st) (x w v : Int32) : ∃ (r : Int32) (st1 st2 : sn_S), D_X5_fault 0 x w v st = some (r, st1) ∧ D_X6_fault 73 x w v st1 = some (r, st2) ∧ Ri st2 := by
  obtain ⟨n, s, hs, hc, hi⟩ := h.get
  have hn12 := hi.1.2.2
  have h3 : st.1 (0 + 1) 3 = s 361 := hc.2.2.2.2.1
  unfold D_X5_fault
  rw [k_isNode hc.1.1 hn12, pb_if]
  cases hx : sp_nd n x with
  | false =>
    refine ⟨-101, st, st, rfl, ?_, h⟩
    unfold D_X6_fault
    rw [m_isNode (b := 73) hs hi.1, hx]; rfl
  | true =>
    obtain ⟨i, hin, rfl⟩ := sp_nd_of hn12 hx
    rw [if_pos rfl, k_slotOf (b := 0 + 1 + 1) hc.1.2.1 hn12 hin, Option.bind_some]
    -- a change of slot k, in the reference
    have chg : ∀ (k : Nat) (st1 : sn_S), k < 17 → st1.1 (73 + 1) = s → ((sn_ix (nI (sp_pl i k)) 374).bind fun k4 => (D_X6_beginRound 73 (sn_wr st1 (73 + 1) k4 v)).bind fun r5 => some ((1 : Int32), r5)) = some (1, sn_wr (sn_wr st1 (73 + 1) (sp_pl i k) v) (73 + 1) 373 (sp_pe n (upd s (sp_pl i k) v))) := fun k st1 hk hs1 => by
      have hpl := pl_or (i := i) hk
      have hsl : sp_sl s (upd s (sp_pl i k) v) := fun q h1 h2 => pk_un (by omega)
      rw [ix_pl (by omega) hk, Option.bind_some, m_beginRound (b := 73) (s := upd s (sp_pl i k) v) (by rw [wr_s, hs1]) (hsl.n hi.1) (fun z => hsl.nb hn12 (hi.2.2.2.2.2.2.2.1 (by rw [pk_un (by omega)] at z; exact z))), Option.bind_some]
    have fin : ∀ k, k < 17 → s 361 = 1 → (5 ≤ k → sp_lk n s i (k - 5) = true) → (∀ st1 : sn_S, st1.1 (73 + 1) = s → D_X6_fault 73 (nI i) w v st1 = some (1, sn_wr (sn_wr st1 (73 + 1) (sp_pl i k) v) (73 + 1) 373 (sp_pe n (upd s (sp_pl i k) v)))) → ∃ (r : Int32) (st1 st2 : sn_S), ((D_X0_overwrite (0 + 1) (nI i) (nI k) v st).bind fun r3 => (D_X0_beginAnew (0 + 1) r3).bind fun r4 => some ((1 : Int32), r4)) = some (r, st1) ∧ D_X6_fault 73 (nI i) w v st1 = some (r, st2) ∧ Ri st2 := fun k hk hb hl hm => by
      obtain ⟨st1, st2, g1, g2, g3, g4, g5⟩ := k_change hc hi hin hk (Or.inr hb) hl v
      have hs2 : st2.1 (73 + 1) = s := (g5.1 _ (by omega)).trans hs
      rw [g1, Option.bind_some, g2, Option.bind_some]
      exact ⟨1, st2, _, rfl, hm st2 hs2, h.op g5 (bu_c2 (Or.inl rfl) ((st_but.rf.wr _ _).wr _ _)) (by rw [wr_s, wr_s, hs2]) g3 g4⟩
    rcases so_or (n := n) (s := s) (i := i) hn12 w with ⟨ho, hw⟩ | ⟨k, hk, ho, hw⟩ | ⟨j, hj, ho, hl, hkt, h5, h17⟩
    · rw [ho, if_pos rfl]
      refine ⟨-102, st, st, rfl, ?_, h⟩
      unfold D_X6_fault
      rw [m_isNode (b := 73) hs hi.1, hx, pb_if, if_pos rfl, m_in, pb_if]
      rcases hw with hw | ⟨h5, hk⟩
      · rw [in_f hw, if_neg (by decide), if_pos (Int32.le_trans (Int32.le_of_lt hw) (by decide))]
      · have h4 : ¬ w ≤ 4 := fun z => absurd (Int32.le_trans h5 z) (by decide)
        rw [in_g (Int32.not_le.mp (fun z => h4 (Int32.le_trans z (by decide)))), if_neg (by decide), if_neg h4, m_neighbourOf (b := 73) hs hi.1 hin, hk, Option.bind_some, if_pos rfl]
        split <;> rfl
    · rw [ho, if_neg (nI_m1 (by omega))]
      by_cases k4 : k = 4
      · subst k4
        refine ⟨-102, st, st, by rw [if_pos (by decide)], ?_, h⟩
        unfold D_X6_fault
        rw [m_isNode (b := 73) hs hi.1, hx, pb_if, if_pos rfl, m_in, pb_if, hw, show sp_in (nI 4) 0 3 = false by decide, if_neg (by decide), if_pos (by decide)]
      · have hk3 : sp_in w 0 3 = true := by rw [hw]; exact in_t (nI_pos (by omega)) (Int32.not_lt.mpr (show nI k ≤ nI 3 from nI_le (by omega) (by omega)))
        rw [if_neg (show ¬ nI k = (4 : Int32) from fun z => k4 ((nI_eq (b := 4) (by omega) (by omega)).mp z)), h3]
        have hmf : ∀ st1 : sn_S, st1.1 (73 + 1) = s → D_X6_fault 73 (nI i) w v st1 = if s 361 = 0 then some (-103, st1) else some (1, sn_wr (sn_wr st1 (73 + 1) (sp_pl i k) v) (73 + 1) 373 (sp_pe n (upd s (sp_pl i k) v))) := fun st1 hs1 => by
          unfold D_X6_fault
          rw [m_isNode (b := 73) hs1 hi.1, hx, pb_if, if_pos rfl, m_in, pb_if, hk3, if_pos rfl, hs1, hw, m_placeOf5 (b := 73) hs1 hk, Option.bind_some, chg k st1 (by omega) hs1]
        rcases hi.2.1 with hb | hb
        · exact ⟨-103, st, st, by rw [if_pos hb], by rw [hmf st hs, if_pos hb], h⟩
        · rw [if_neg (by rw [hb]; decide)]
          exact fin k (by omega) hb (fun z => by omega) (fun st1 hs1 => by rw [hmf st1 hs1, if_neg (by rw [hb]; decide)])
    · rw [ho, if_neg (nI_m1 (by omega)), if_neg (show ¬ nI (5 + j) = (4 : Int32) from fun z => by
        have := (nI_eq (b := 4) (by omega) (by omega)).mp z
        omega), h3]
      have h4 : ¬ w ≤ 4 := fun z => absurd (Int32.le_trans h5 z) (by decide)
      have hmf : ∀ st1 : sn_S, st1.1 (73 + 1) = s → D_X6_fault 73 (nI i) w v st1 = if s 361 = 0 then some (-103, st1) else some (1, sn_wr (sn_wr st1 (73 + 1) (sp_pl i (5 + j)) v) (73 + 1) 373 (sp_pe n (upd s (sp_pl i (5 + j)) v))) := fun st1 hs1 => by
        unfold D_X6_fault
        rw [m_isNode (b := 73) hs1 hi.1, hx, pb_if, if_pos rfl, m_in, pb_if, in_g (Int32.not_le.mp (fun z => h4 (Int32.le_trans z (by decide)))), if_neg (by decide), if_neg h4, if_neg h17, m_neighbourOf (b := 73) hs1 hi.1 hin, hkt, Option.bind_some, if_neg (nI_m1 (by omega)), hs1, m_placeOfX (b := 73) hs1 hi.1 hin h5 hkt, Option.bind_some, chg (5 + j) st1 (by omega) hs1]
      rcases hi.2.1 with hb | hb
      · exact ⟨-103, st, st, by rw [if_pos hb], by rw [hmf st hs, if_pos hb], h⟩
      · rw [if_neg (by rw [hb]; decide)]
        exact fin (5 + j) (by omega) hb (fun _ => by rw [show 5 + j - 5 = j by omega]; exact hl) (fun st1 hs1 => by rw [hmf st1 hs1, if_neg (by rw [hb]; decide)])
theorem q_told (h : Ri st) (x w : Int32) : ∃ (r : Int32) (st1 st2 : sn_S), D_X5_told 0 x w st = some (r, st1) ∧ D_X6_told 73 x w st1 = some (r, st2) ∧ Ri st2 := by
  obtain ⟨n, s, hs, hc, hi⟩ := h.get
  have hn12 := hi.1.2.2
  have h3 : st.1 (0 + 1) 3 = s 361 := hc.2.2.2.2.1
  unfold D_X5_told
  rw [k_isNode hc.1.1 hn12, pb_if]
  cases hx : sp_nd n x with
  | false =>
    refine ⟨-101, st, st, rfl, ?_, h⟩
    unfold D_X6_told
    rw [m_isNode (b := 73) hs hi.1, hx]; rfl
  | true =>
    obtain ⟨i, hin, rfl⟩ := sp_nd_of hn12 hx
    rw [if_pos rfl, k_slotOf (b := 0 + 1 + 1) hc.1.2.1 hn12 hin, Option.bind_some]
    have hci : ∀ v : Int32, ci n (upd s 371 v) := fun v => by
      obtain ⟨hn, h01, hL, hsym, hself, hX, h0, hnb, u, hu, hu2⟩ := hi
      have hsl : sp_sl s (upd s 371 v) := fun k h1 h2 => pk_un (by omega)
      refine ⟨hsl.n hn, by rw [pk_un (by omega)]; exact h01, fun p q a1 a2 => ?_, fun p q => ?_, fun p => ?_, fun p q a1 a2 a3 => ?_, fun z => ?_, fun z => ?_, ⟨u, hu, ?_⟩⟩
      · rw [pk_un (by omega), hsl.lk hn12]; exact hL p q a1 a2
      · rw [hsl.lk hn12, hsl.lk hn12]; exact hsym p q
      · rw [hsl.lk hn12]; exact hself p
      · rw [hsl.lk hn12] at a3; rw [pk_un (by omega)]; exact hX p q a1 a2 a3
      · rw [pk_un (by omega)] at z
        obtain ⟨z1, z2, z3⟩ := h0 z
        exact ⟨fun p hp => by rw [pk_un (by omega)]; exact z1 p hp, fun k h1 h2 => by rw [pk_un (by omega)]; exact z2 k h1 h2, by rw [pk_un (by omega)]; exact z3⟩
      · rw [pk_un (by omega)] at z; exact hsl.nb hn12 (hnb z)
      · rw [pk_un (by omega)]; exact hu2
    have fin : ∀ k, k < 17 → (∀ st1 : sn_S, st1.1 (73 + 1) = s → D_X6_told 73 (nI i) w st1 = some (1, sn_wr st1 (73 + 1) 371 (s (sp_pl i k)))) → ∃ (r : Int32) (st1 st2 : sn_S), ((sn_ix (nI i) 12).bind fun k3 => (sn_ix (nI k) 17).bind fun k4 => some ((1 : Int32), (sn_wr st (0 + 1) 5 (st.1 (0 + 1 + 4 + 1 + 1 + k3) k4)))) = some (r, st1) ∧ D_X6_told 73 (nI i) w st1 = some (r, st2) ∧ Ri st2 := fun k hk hm => by
      rw [sn_ix_nI (by omega : i < 12) (by decide), Option.bind_some, sn_ix_nI hk (by decide), Option.bind_some, hc.2.1.pl (by omega) hk]
      have hcf : cf (0 + 1) st (sn_wr st (0 + 1) 5 (s (sp_pl i k))) := cf.rf.wr (by omega) _ _
      have hs1 : (sn_wr st (0 + 1) 5 (s (sp_pl i k))).1 (73 + 1) = s := (hcf.1 _ (by omega)).trans hs
      exact ⟨1, _, _, rfl, hm _ hs1, h.op hcf (bu_c2 (Or.inl rfl) (st_but.rf.wr _ _)) (by rw [wr_s, hs1]) (hc.set hi (by omega) _) (hci _)⟩
    rcases so_or (n := n) (s := s) (i := i) hn12 w with ⟨ho, hw⟩ | ⟨k, hk, ho, hw⟩ | ⟨j, hj, ho, hl, hkt, h5, h17⟩
    · rw [ho, if_pos rfl]
      refine ⟨-102, st, st, rfl, ?_, h⟩
      unfold D_X6_told
      rw [m_isNode (b := 73) hs hi.1, hx, pb_if, if_pos rfl, m_in, pb_if]
      rcases hw with hw | ⟨h5, hk⟩
      · rw [in_f hw, if_neg (by decide), if_pos (Int32.le_trans (Int32.le_of_lt hw) (by decide))]
      · have h4 : ¬ w ≤ 4 := fun z => absurd (Int32.le_trans h5 z) (by decide)
        rw [in_g (Int32.not_le.mp h4), if_neg (by decide), if_neg h4, m_neighbourOf (b := 73) hs hi.1 hin, hk, Option.bind_some, if_pos rfl]
        split <;> rfl
    · have hle : w ≤ 4 := by rw [hw]; exact (show nI k ≤ nI 4 from nI_le (by omega) (by omega))
      have hk4 : sp_in w 0 4 = true := by rw [hw]; exact in_t (nI_pos (by omega)) (Int32.not_lt.mpr (show nI k ≤ nI 4 from nI_le (by omega) (by omega)))
      rw [ho, if_neg (nI_m1 (by omega)), if_pos (show nI k < (5 : Int32) from nI_lt (b := 5) (by omega) (by omega))]
      refine fin k (by omega) (fun st1 hs1 => ?_)
      unfold D_X6_told
      rw [m_isNode (b := 73) hs1 hi.1, hx, pb_if, if_pos rfl, m_in, pb_if, hk4, if_pos rfl, if_pos hle, hw, m_placeOf5 (b := 73) hs1 hk, Option.bind_some, ix_pl (by omega) (by omega), Option.bind_some, hs1]
    · rw [ho, if_neg (nI_m1 (by omega)), if_neg (show ¬ nI (5 + j) < (5 : Int32) from nI_nlt (b := 5) (by omega) (by omega)), h3]
      have h4 : ¬ w ≤ 4 := fun z => absurd (Int32.le_trans h5 z) (by decide)
      have hmf : ∀ st1 : sn_S, st1.1 (73 + 1) = s → D_X6_told 73 (nI i) w st1 = if s 361 = 0 then some (-103, st1) else some (1, sn_wr st1 (73 + 1) 371 (s (sp_pl i (5 + j)))) := fun st1 hs1 => by
        unfold D_X6_told
        rw [m_isNode (b := 73) hs1 hi.1, hx, pb_if, if_pos rfl, m_in, pb_if, in_g (Int32.not_le.mp h4), if_neg (by decide), if_neg h4, if_neg h17, m_neighbourOf (b := 73) hs1 hi.1 hin, hkt, Option.bind_some, if_neg (nI_m1 (by omega)), if_neg h4, hs1, m_placeOfX (b := 73) hs1 hi.1 hin h5 hkt, Option.bind_some, ix_pl (by omega) (by omega), Option.bind_some]
      rcases hi.2.1 with hb | hb
      · exact ⟨-103, st, st, by rw [if_pos hb], by rw [hmf st hs, if_pos hb], h⟩
      · rw [if_neg (by rw [hb]; decide)]
        exact fin (5 + j) (by omega) (fun st1 hs1 => by rw [hmf st1 hs1, if_neg (by rw [hb]; decide)])
end CU1
