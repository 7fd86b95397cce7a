/-! BOTH, call by call: what is asked, STEPS, keep, back, digest -/
section CU2
variable {st st1 st2 : sn_S} {n : Nat} {s : Nat → Int32}
theorem mk_bel : ∀ j, j < 13 → (2 : Nat) ^ j - 1 = sp_mk (fun t => decide (t < j)) 12 := by decide +kernel
theorem ti_0 (hi : ci n s) (hb : s 361 = 0) {i : Nat} (hin : i < n) {j : Nat} (hj : j < 12) : sp_ti n s i j = false := by
  obtain ⟨z1, z2, z3⟩ := hi.2.2.2.2.2.2.1 hb
  have hn12 := hi.1.2.2
  unfold sp_ti sp_ch
  rw [pr_m1 (z1 i (by omega)), pr_m1 (z1 j hj), decide_eq_false (fun z => nI_m1 (by omega) z.symm), decide_eq_false (fun z => nI_m1 (by omega) z.symm), Bool.and_false, Bool.or_false]
theorem rc_0 (hi : ci n s) (hb : s 361 = 0) {i : Nat} (hin : i < n) : sp_rc n s i = 0 := by
  have hn12 := hi.1.2.2
  unfold sp_rc
  exact (sp_ct_0 n 0).mpr (fun t _ h => by rw [ti_0 hi hb hin (by omega), Bool.false_and])
theorem sn_0 {f : Nat → Nat} : ∀ (k j : Nat), (∀ t, j ≤ t → t < j + k → f t = 0) → sp_sn f j k = 0
  | 0, _, _ => rfl
  | k + 1, j, h => by rw [sp_sn, h j (Nat.le_refl _) (by omega), sn_0 k (j + 1) (fun t h1 h2 => h t (by omega) (by omega))]
theorem hf_0 {f : Nat → Nat} : ∀ (k q j : Nat), (∀ t, j ≤ t → t < j + k → f t = 0) → sp_hf f q j k = -1
  | 0, _, _, _ => rfl
  | k + 1, q, j, h => by rw [sp_hf, h j (Nat.le_refl _) (by omega), if_neg (by omega), Nat.sub_zero, hf_0 k q (j + 1) (fun t h1 h2 => h t (by omega) (by omega))]
theorem q_seen (h : Ri st) : ∃ r : Int32, D_X5_seen 0 st = some r ∧ D_X6_seen 73 st = some r := by
  obtain ⟨n, s, hs, hc, hi⟩ := h.get
  refine ⟨s 371, ?_, ?_⟩
  · unfold D_X5_seen; rw [hc.2.2.2.2.2.2.1]
  · unfold D_X6_seen; rw [hs]
theorem q_neighbour (h : Ri st) (x k : Int32) : ∃ r : Int32, D_X5_neighbour 0 x k st = some r ∧ D_X6_neighbour 73 x k st = some r := by
  obtain ⟨n, s, hs, hc, hi⟩ := h.get
  have hn12 := hi.1.2.2
  refine ⟨_, ?_, m_neighbour (b := 73) hs hi.1 x k⟩
  unfold D_X5_neighbour
  rw [k_isNode hc.1.1 hn12, pb_if]
  cases hx : sp_nd n x with
  | false => rfl
  | true =>
    obtain ⟨i, hin, rfl⟩ := sp_nd_of hn12 hx
    rw [if_pos rfl, if_pos rfl, sn_ix_nI (by omega : i < 12) (by decide), Option.bind_some, hc.1.2.1 i (by omega), k_pickM hn12 (fun t h _ => lk_out h), Option.bind_some, nI_clamp (by omega)]
theorem q_child (h : Ri st) (x k : Int32) : ∃ r : Int32, D_X5_child 0 x k st = some r ∧ D_X6_child 73 x k st = some r := by
  obtain ⟨n, s, hs, hc, hi⟩ := h.get
  have hn12 := hi.1.2.2
  refine ⟨_, ?_, m_child (b := 73) hs hi.1 x k⟩
  unfold D_X5_child
  rw [k_isNode hc.1.1 hn12, pb_if]
  cases hx : sp_nd n x with
  | false => rfl
  | true =>
    obtain ⟨i, hin, rfl⟩ := sp_nd_of hn12 hx
    rw [if_pos rfl, if_pos rfl, sn_ix_nI (by omega : i < 12) (by decide), Option.bind_some, hc.1.2.2.2.1 i hin, k_pickM hn12 (fun t h _ => by unfold sp_ch; rw [lk_out h, Bool.false_and]), Option.bind_some, nI_clamp (by omega)]
theorem q_enabled (h : Ri st) (x : Int32) : ∃ r : Int32, D_X5_enabled 0 x st = some r ∧ D_X6_enabled 73 x st = some r := by
  obtain ⟨n, s, hs, hc, hi⟩ := h.get
  have hn12 := hi.1.2.2
  have h3 : st.1 (0 + 1) 3 = s 361 := hc.2.2.2.2.1
  unfold D_X5_enabled D_X6_enabled
  rw [k_isNode hc.1.1 hn12, pb_if, m_isNode (b := 73) hs hi.1, pb_if, hs, h3]
  cases hx : sp_nd n x with
  | false => exact ⟨-101, rfl, rfl⟩
  | true =>
    obtain ⟨i, hin, rfl⟩ := sp_nd_of hn12 hx
    rw [if_pos rfl, if_pos rfl]
    rcases hi.2.1 with hb | hb
    · exact ⟨-103, by rw [if_pos hb], by rw [if_neg (by rw [hb]; decide)]⟩
    · have hnb := hi.2.2.2.2.2.2.2.1 hb
      refine ⟨sp_ru n s i, ?_, ?_⟩
      · rw [if_neg (by rw [hb]; decide), k_firstRule hc.1 hn12 hin (hnb i hin) (hc.2.1.at (by omega)) (fun j hj hl => hi.2.2.2.2.2.1 i j (by omega) hj hl), Option.bind_some]
      · rw [if_pos hb, m_ruleOf (b := 73) hs hi.1 hnb hin, Option.bind_some]
theorem q_rights (h : Ri st) : ∃ r : Int32, D_X5_rights 0 st = some r ∧ D_X6_rights 73 st = some r := by
  obtain ⟨n, s, hs, hc, hi⟩ := h.get
  have hn12 := hi.1.2.2
  refine ⟨_, ?_, m_rights (b := 73) hs hi.1⟩
  unfold D_X5_rights sp_rt
  rw [k_rightsInAll hc.1 hn12, Option.bind_some]
  rcases hi.2.1 with hb | hb
  · rw [if_neg (by rw [hb]; decide), sn_0 n 0 (fun t _ h => rc_0 hi hb (by omega))]
  · rw [if_pos hb]
theorem k_holder_L {b : Nat} (hV : cr_V (b + 1) n st s) (hn : n ≤ 12) (x : Int32) : ∀ (f i q : Nat), i ≤ n → n - i < f → q < 2 ^ 31 → D_X5_holder_L10 b x st f (nI q) (nI i) = some (sp_hf (sp_rc n s) q i (n - i))
  | 0, i, q, h1, h2, _ => by omega
  | f + 1, i, q, h1, h2, hq => by
    rw [D_X5_holder_L10.eq_2, hV.1]
    by_cases e : i = n
    · subst e
      rw [if_pos (nI_le (Nat.le_refl _) (by omega)), Nat.sub_self, sp_hf]
    · have hlt : i < n := by omega
      have hle : sp_rc n s i ≤ n := sp_ct_le n 0
      rw [if_neg (nI_ge hlt (by omega)), k_rightCount2 hV hn hlt, nI_1, show n - i = (n - (i + 1)) + 1 by omega, sp_hf]
      by_cases c : q < sp_rc n s i
      · rw [if_pos c, if_neg]
        intro z
        have z := Int32.le_iff_toInt_le.mp z
        rw [pk_sub_toInt (by omega) (by omega), show (0 : Int32).toInt = 0 by decide] at z
        omega
      · rw [if_neg c, pk_sub (by omega), if_pos (show (0 : Int32) ≤ _ from nI_pos' (by omega))]
        exact k_holder_L hV hn x f (i + 1) _ (by omega) (by omega) (by omega)
theorem q_holder (h : Ri st) (k : Int32) : ∃ r : Int32, D_X5_holder 0 k st = some r ∧ D_X6_holder 73 k st = some r := by
  obtain ⟨n, s, hs, hc, hi⟩ := h.get
  have hn12 := hi.1.2.2
  refine ⟨_, ?_, m_holder (b := 73) hs hi.1 k⟩
  unfold D_X5_holder sp_ho
  by_cases c : 0 ≤ k
  · obtain ⟨q, hq, rfl⟩ := nI_of (x := k) (Int32.not_lt.mpr c)
    have := k_holder_L (b := 0) hc.1 hn12 (nI q) 4096 0 q (by omega) (by omega) hq
    rw [nI_0, Nat.sub_zero] at this
    rw [if_pos c, this, if_neg (nI_pos hq), nI_clamp hq]
    rcases hi.2.1 with hb | hb
    · rw [if_neg (by rw [hb]; decide), hf_0 n q 0 (fun t _ h => rc_0 hi hb (by omega))]
    · rw [if_pos hb]
  · rw [if_neg c, if_pos (Int32.not_le.mp c)]
    split <;> rfl
theorem fi_skip {Q : Nat → Bool} {c n : Nat} (hc : c ≤ n) : ∀ (k j : Nat), j + k = n → j ≤ c → sp_fi (fun t => Q t && !decide (t < c)) j k = sp_fi Q c (n - c)
  | 0, j, h1, h2 => by rw [show c = j by omega, show n - j = 0 by omega, sp_fi, sp_fi]
  | k + 1, j, h1, h2 => by
    by_cases e : j = c
    · subst e
      rw [show n - j = k + 1 by omega]
      exact sp_fi_congr (k + 1) j (fun t h3 h4 => by rw [decide_eq_false (by omega), Bool.not_false, Bool.and_true])
    · rw [sp_fi, decide_eq_true (show j < c by omega), Bool.not_true, Bool.and_false, if_neg (by decide)]
      exact fi_skip hc k (j + 1) (by omega) (by omega)
theorem q_next (h : Ri st) (x y : Int32) : ∃ r : Int32, D_X5_next 0 x y st = some r ∧ D_X6_next 73 x y st = some r := by
  obtain ⟨n, s, hs, hc, hi⟩ := h.get
  have hn12 := hi.1.2.2
  have h3 : st.1 (0 + 1) 3 = s 361 := hc.2.2.2.2.1
  refine ⟨_, ?_, m_next (b := 73) hs hi.1 x y⟩
  unfold D_X5_next
  rw [k_isNode hc.1.1 hn12, pb_if, k_isNode hc.1.1 hn12, pb_if]
  cases hx : sp_nd n x with
  | false => rfl
  | true =>
    rw [if_pos rfl, Bool.true_and]
    cases hy : sp_nd n y with
    | false => rfl
    | true =>
      obtain ⟨i, hin, rfl⟩ := sp_nd_of hn12 hx
      obtain ⟨j, hjn, rfl⟩ := sp_nd_of hn12 hy
      have ht : ∀ t, n ≤ t → t < 12 → sp_ti n s j t = false := fun t h1 h2 => ti_out hn12 h1 (by omega)
      rw [if_pos rfl, if_pos rfl, nI_clamp (by omega), nI_clamp (by omega), sn_ix_nI (by omega : i < 12) (by decide), sn_ix_nI (by omega : j < 12) (by decide)]
      simp only [Option.bind_some]
      rw [hc.1.2.2.2.2 i hin, hc.1.2.2.2.2 j hjn, k_hasM (by omega), pb_if, k_hasM (by omega), pb_if, h3, nI_1, k_below (by omega), Option.bind_some, mk_bel (i + 1) (by omega), mk_clr]
      cases hij : sp_ti n s i j with
      | false => rfl
      | true =>
        rw [if_pos rfl, Bool.true_and]
        cases hji : sp_ti n s j i with
        | false => rfl
        | true =>
          rw [if_pos rfl, if_pos rfl]
          rcases hi.2.1 with hb | hb
          · rw [if_pos hb, if_pos hb]
          · rw [if_neg (show ¬ s 361 = 0 by rw [hb]; decide), if_neg (show ¬ s 361 = 0 by rw [hb]; decide)]
            unfold sp_nx
            have hskip := fi_skip (Q := sp_ti n s j) (c := i + 1) (n := n) (by omega) n 0 (by omega) (by omega)
            have hbeh : D_X5_pick (nI (sp_mk (fun t => sp_ti n s j t && !decide (t < i + 1)) 12)) 0 = some (if sp_fi (sp_ti n s j) (i + 1) (n - (i + 1)) = n then -1 else nI (sp_fi (sp_ti n s j) (i + 1) (n - (i + 1)))) := by
              rw [k_pickM hn12 (fun t h1 h2 => by rw [ht t h1 h2, Bool.false_and]), kt_fi, hskip, Nat.zero_add]
            have hfst : D_X5_pick (nI (sp_mk (sp_ti n s j) 12)) 0 = some (nI (sp_ft n s j)) := by
              rw [k_pickM hn12 ht, kt_fi, Nat.zero_add]
              unfold sp_ft
              rw [if_neg]
              intro z
              have := (sp_fi_le (P := sp_ti n s j) n 0).2.2.2 i (by omega) (by omega)
              rw [this] at hji
              cases hji
            obtain ⟨f1, f2, f3, f4⟩ := sp_fi_le (P := sp_ti n s j) (n - (i + 1)) (i + 1)
            rw [hbeh, hfst, Option.bind_some, Option.bind_some]
            by_cases c : sp_fi (sp_ti n s j) (i + 1) (n - (i + 1)) = n
            · rw [if_pos (mk_0.mpr (fun t h12 => ?_)), if_pos c]
              by_cases l : t < i + 1
              · rw [decide_eq_true l, Bool.not_true, Bool.and_false]
              · by_cases l2 : t < n
                · rw [f4 t (by omega) (by omega), Bool.false_and]
                · rw [ht t (by omega) h12, Bool.false_and]
            · rw [if_neg, if_neg c, if_neg c]
              intro z
              have := mk_0.mp z (sp_fi (sp_ti n s j) (i + 1) (n - (i + 1))) (by omega)
              rw [f3 (by omega), decide_eq_false (by omega)] at this
              cases this
theorem q_step (h : Ri st) (x : Int32) : ∃ (r : Int32) (st1 st2 : sn_S), D_X5_step 0 x st = some (r, st1) ∧ D_X6_step 73 x st1 = some (r, st2) ∧ Ri st2 := by
  obtain ⟨n, s, hs, hc, hi⟩ := h.get
  have h3 : st.1 (0 + 1) 3 = s 361 := hc.2.2.2.2.1
  unfold D_X5_step D_X6_step
  rcases hi.2.1 with hb | hb
  · exact ⟨-103, st, st, by rw [if_pos (by rw [h3]; exact hb)], by rw [hs, if_neg (by rw [hb]; decide)], h⟩
  · obtain ⟨st1, g1, g2, g3⟩ := k_act hc hi hb x
    have hs1 : st1.1 (73 + 1) = s := (g3.1 _ (by omega)).trans hs
    obtain ⟨st2, k1, k2, k3⟩ := m_doStep (b := 73) hs1 hi.1 hb (hi.2.2.2.2.2.2.2.1 hb) x
    rw [if_neg (by rw [h3, hb]; decide), g1, Option.bind_some]
    refine ⟨_, st1, st2, rfl, ?_, h.op g3 (b2_c2 k2) k3 g2 (hi.sp hb x)⟩
    rw [hs1, if_pos hb, k1, Option.bind_some]
theorem k_isWay (w : Int32) : D_X5_isWay w = some (bi (sp_in w 0 4)) := by
  unfold D_X5_isWay
  by_cases c : w < 0
  · rw [if_pos c, in_f c]; rfl
  · rw [if_neg c]
    by_cases c2 : 4 < w
    · rw [if_pos c2, in_g c2]; rfl
    · rw [if_neg c2, in_t c c2]; rfl
theorem q_run (h : Ri st) (w x : Int32) : ∃ (r : Int32) (st1 st2 : sn_S), D_X5_run 0 w x st = some (r, st1) ∧ D_X6_run 73 w x st1 = some (r, st2) ∧ Ri st2 := by
  obtain ⟨n, s, hs, hc, hi⟩ := h.get
  have h3 : st.1 (0 + 1) 3 = s 361 := hc.2.2.2.2.1
  have hm : ∀ st1 : sn_S, D_X6_run 73 w x st1 = if sp_in w 0 4 = true then (if sp_in x 0 300 = true then (if st1.1 (73 + 1) 361 = 0 then some (-103, st1) else (D_X6_run_L42 73 w x 4096 0 0 st1)) else some (-102, st1)) else some (-102, st1) := fun st1 => by
    unfold D_X6_run
    rw [m_in, pb_if, m_in, pb_if]
  unfold D_X5_run
  rw [k_isWay, pb_if]
  cases hw : sp_in w 0 4 with
  | false => exact ⟨-102, st, st, rfl, by rw [hm, hw]; rfl, h⟩
  | true =>
    rw [if_pos rfl]
    rw [hw] at hm
    simp only [if_true] at hm
    by_cases c1 : x < 0
    · exact ⟨-102, st, st, by rw [if_pos c1], by rw [hm, in_f c1, if_neg (by decide)], h⟩
    · rw [if_neg c1]
      by_cases c2 : x ≤ 300
      · have hin : sp_in x 0 300 = true := in_t c1 (Int32.not_lt.mpr c2)
        obtain ⟨q, -, hq2, rfl⟩ := in_lh (lo := 0) (hi := 300) (by omega) (by omega) hin
        rw [if_pos c2, h3]
        rw [hin] at hm
        simp only [if_true] at hm
        rcases hi.2.1 with hb | hb
        · exact ⟨-103, st, st, by rw [if_pos hb], by rw [hm, hs, if_pos hb], h⟩
        · obtain ⟨st1, g1, g2, g3, g4⟩ := k_run_L (b := 0) w (q := q) (by omega) 4096 0 0 st s (by omega) (by omega) hc hi hb
          have hs1 : st1.1 (73 + 1) = s := (g4.1 _ (by omega)).trans hs
          obtain ⟨st2, k1, k2, k3⟩ := m_run_L (b := 73) (n := n) w (q := q) (by omega) 4096 0 0 st1 s (by omega) (by omega) hs1 hi.1 hb (hi.2.2.2.2.2.2.2.1 hb)
          rw [nI_0] at g1 k1
          rw [if_neg (by rw [hb]; decide)]
          refine ⟨_, st1, st2, g1, ?_, h.op g4 (b2_c2 k2) k3 g2 g3⟩
          rw [hm, hs1, if_neg (by rw [hb]; decide)]
          exact k1
      · exact ⟨-102, st, st, by rw [if_neg c2], by rw [hm, in_g (Int32.not_le.mp c2), if_neg (by decide)], h⟩
theorem q_settle (h : Ri st) (w x : Int32) : ∃ (r : Int32) (st1 st2 : sn_S), D_X5_settle 0 w x st = some (r, st1) ∧ D_X6_settle 73 w x st1 = some (r, st2) ∧ Ri st2 := by
  obtain ⟨n, s, hs, hc, hi⟩ := h.get
  have h3 : st.1 (0 + 1) 3 = s 361 := hc.2.2.2.2.1
  have hm : ∀ st1 : sn_S, D_X6_settle 73 w x st1 = if sp_in w 0 4 = true then (if sp_in x 0 2000 = true then (if st1.1 (73 + 1) 361 = 0 then some (-103, st1) else ((D_X6_isRest 73 st1).bind fun r3 => D_X6_settle_L45 73 w x 4096 0 r3.1 r3.2)) else some (-102, st1)) else some (-102, st1) := fun st1 => by
    unfold D_X6_settle
    rw [m_in, pb_if, m_in, pb_if]
  unfold D_X5_settle
  rw [k_isWay, pb_if]
  cases hw : sp_in w 0 4 with
  | false => exact ⟨-102, st, st, rfl, by rw [hm, hw]; rfl, h⟩
  | true =>
    rw [if_pos rfl]
    rw [hw] at hm
    simp only [if_true] at hm
    by_cases c1 : x < 0
    · exact ⟨-102, st, st, by rw [if_pos c1], by rw [hm, in_f c1, if_neg (by decide)], h⟩
    · rw [if_neg c1]
      by_cases c2 : x ≤ 2000
      · have hin : sp_in x 0 2000 = true := in_t c1 (Int32.not_lt.mpr c2)
        obtain ⟨q, -, hq2, rfl⟩ := in_lh (lo := 0) (hi := 2000) (by omega) (by omega) hin
        rw [if_pos c2, h3]
        rw [hin] at hm
        simp only [if_true] at hm
        rcases hi.2.1 with hb | hb
        · exact ⟨-103, st, st, by rw [if_pos hb], by rw [hm, hs, if_pos hb], h⟩
        · obtain ⟨st1, g1, g2, g3, g4⟩ := k_settle_L (b := 0) w (q := q) (by omega) 4096 0 st s (by omega) (by omega) hc hi hb
          have hs1 : st1.1 (73 + 1) = s := (g4.1 _ (by omega)).trans hs
          obtain ⟨sr, r1, r2⟩ := m_isRest (b := 73) hs1 hi.1 hi.2.1
          have hsr : sr.1 (73 + 1) = s := (r1.1 _ (by omega)).trans hs1
          obtain ⟨st2, k1, k2, k3⟩ := m_settle_L (b := 73) (n := n) w (q := q) (by omega) 4096 0 sr s (by omega) (by omega) hsr hi.1 hb (hi.2.2.2.2.2.2.2.1 hb)
          rw [nI_0] at g1 k1
          rw [if_neg (by rw [hb]; decide)]
          refine ⟨_, st1, st2, g1, ?_, h.op g4 (b2_c2 ((st_b2.of4 r1).trans k2)) k3 g2 g3⟩
          rw [hm, hs1, if_neg (by rw [hb]; decide), r2, Option.bind_some]
          exact k1
      · exact ⟨-102, st, st, by rw [if_neg c2], by rw [hm, in_g (Int32.not_le.mp c2), if_neg (by decide)], h⟩
/-- DICE or SEEN is set -/
theorem ci.ds (hi : ci n s) {c : Nat} (hc : c = 370 ∨ c = 371) (v : Int32) : ci n (upd s c v) := by
  obtain ⟨hn, h01, hL, hsym, hself, hX, h0, hnb, u, hu, hu2⟩ := hi
  have hn12 := hn.2.2
  have hsl : sp_sl s (upd s c v) := fun k h1 h2 => pk_un (by omega)
  refine ⟨hsl.n hn, by rw [pk_un (by omega)]; exact h01, fun p q a1 a2 => ?_, fun p q => ?_, fun p => ?_, fun p q a1 a2 a3 => ?_, fun z => ?_, fun z => ?_, ⟨u, hu, ?_⟩⟩
  · rw [pk_un (by omega), hsl.lk hn12]; exact hL p q a1 a2
  · rw [hsl.lk hn12, hsl.lk hn12]; exact hsym p q
  · rw [hsl.lk hn12]; exact hself p
  · rw [hsl.lk hn12] at a3; rw [pk_un (by omega)]; exact hX p q a1 a2 a3
  · rw [pk_un (by omega)] at z
    obtain ⟨z1, z2, z3⟩ := h0 z
    exact ⟨fun p hp => by rw [pk_un (by omega)]; exact z1 p hp, fun k h1 h2 => by rw [pk_un (by omega)]; exact z2 k h1 h2, by rw [pk_un (by omega)]; exact z3⟩
  · rw [pk_un (by omega)] at z; exact hsl.nb hn12 (hnb z)
  · rw [pk_un (by omega)]; exact hu2
theorem q_dice (h : Ri st) (x : Int32) : ∃ (r : Int32) (st1 st2 : sn_S), D_X5_dice 0 x st = some (r, st1) ∧ D_X6_dice 73 x st1 = some (r, st2) ∧ Ri st2 := by
  obtain ⟨n, s, hs, hc, hi⟩ := h.get
  unfold D_X5_dice D_X6_dice
  have hcf : cf (0 + 1) st (sn_wr st (0 + 1) 4 x) := cf.rf.wr (by omega) _ _
  have hs1 : (sn_wr st (0 + 1) 4 x).1 (73 + 1) = s := (hcf.1 _ (by omega)).trans hs
  refine ⟨s 370, _, _, by rw [hc.2.2.2.2.2.1], by rw [hs1], h.op hcf (bu_c2 (Or.inl rfl) (st_but.rf.wr _ _)) (by rw [wr_s, hs1]) (hc.set hi (by omega) x) (hi.ds (Or.inl rfl) x)⟩
theorem q_wave (h : Ri st) : ∃ (r : Int32) (st1 st2 : sn_S), D_X5_wave 0 st = some (r, st1) ∧ D_X6_wave 73 st1 = some (r, st2) ∧ Ri st2 := by
  obtain ⟨n, s, hs, hc, hi⟩ := h.get
  have ht := hc.2.2.1
  unfold D_X5_wave D_X6_wave
  rw [wr_o _ _ _ (show (0 + 1 + 33 : Nat) ≠ 0 + 1 by omega), ht.2.2.1, ht.2.2.2.1]
  have hcf : cf (0 + 1) st (sn_wr st (0 + 1) 5 (s 369)) := cf.rf.wr (by omega) _ _
  have hs1 : (sn_wr st (0 + 1) 5 (s 369)).1 (73 + 1) = s := (hcf.1 _ (by omega)).trans hs
  refine ⟨s 368, _, _, rfl, by rw [hs1, wr_ne _ _ _ (by omega), hs1], h.op hcf (bu_c2 (Or.inl rfl) (st_but.rf.wr _ _)) (by rw [wr_s, hs1]) (hc.set hi (by omega) _) (hi.ds (Or.inr rfl) _)⟩
theorem q_rest (h : Ri st) : ∃ (r : Int32) (st2 : sn_S), D_X5_rest 0 st = some r ∧ D_X6_rest 73 st = some (r, st2) ∧ Ri st2 := by
  obtain ⟨n, s, hs, hc, hi⟩ := h.get
  obtain ⟨sr, r1, r2⟩ := m_isRest (b := 73) hs hi.1 hi.2.1
  have hsr : sr.1 (73 + 1) = s := (r1.1 _ (by omega)).trans hs
  refine ⟨bi (sp_rs n s), sr, ?_, ?_, h.op cf.rf (bu_c2 (Or.inr (Or.inr rfl)) r1) hsr hc hi⟩
  · unfold D_X5_rest
    rw [k_isAtRest hc hi, pb_if]
    cases sp_rs n s <;> rfl
  · unfold D_X6_rest
    rw [r2, Option.bind_some]
    cases sp_rs n s <;> rfl
theorem q_distance (h : Ri st) (x : Int32) : ∃ (r : Int32) (st2 : sn_S), D_X5_distance 0 x st = some r ∧ D_X6_distance 73 x st = some (r, st2) ∧ Ri st2 := by
  obtain ⟨n, s, hs, hc, hi⟩ := h.get
  have hn12 := hi.1.2.2
  obtain ⟨sr, r1, r2⟩ := m_distance (b := 73) hs hi.1 x
  have hsr : sr.1 (73 + 1) = s := (r1.1 _ (by omega)).trans hs
  refine ⟨_, sr, ?_, r2, h.op cf.rf (bu_c2 (Or.inr (Or.inr rfl)) r1) hsr hc hi⟩
  unfold D_X5_distance
  rw [k_isNode hc.1.1 hn12, pb_if]
  cases hx : sp_nd n x with
  | false => rfl
  | true =>
    obtain ⟨i, hin, rfl⟩ := sp_nd_of hn12 hx
    rw [if_pos rfl, if_pos rfl, sn_ix_nI (by omega : i < 12) (by decide), Option.bind_some, hc.2.2.2.1 i (by omega), nI_clamp (by omega)]
theorem q_entries (h : Ri st) (x : Int32) : ∃ r : Int32, D_X5_entries 0 x st = some r ∧ D_X6_entries 73 x st = some r := by
  obtain ⟨n, s, hs, hc, hi⟩ := h.get
  have hn12 := hi.1.2.2
  unfold D_X5_entries D_X6_entries
  rw [k_isNode hc.1.1 hn12, pb_if, m_isNode (b := 73) hs hi.1, pb_if]
  cases hx : sp_nd n x with
  | false => exact ⟨-101, rfl, rfl⟩
  | true =>
    obtain ⟨i, hin, rfl⟩ := sp_nd_of hn12 hx
    refine ⟨s (60 + i), ?_, ?_⟩
    · rw [if_pos rfl, sn_ix_nI (by omega : i < 12) (by decide), Option.bind_some, hc.2.2.1.2.2.2.2.2 i (by omega)]
    · rw [if_pos rfl, ix_60 (by omega), Option.bind_some, hs]
theorem q_count (h : Ri st) (x : Int32) : ∃ r : Int32, D_X5_count 0 x st = some r ∧ D_X6_count 73 x st = some r := by
  obtain ⟨n, s, hs, hc, hi⟩ := h.get
  have hn12 := hi.1.2.2
  obtain ⟨t0, t1, t2, t3, t4, t5⟩ := hc.2.2.1
  have h3 : st.1 (0 + 1) 3 = s 361 := hc.2.2.2.2.1
  unfold D_X5_count D_X6_count
  by_cases x0 : x = 0
  · exact ⟨s 360, by rw [if_pos x0, hc.1.1, hi.1.1], by rw [if_pos x0, hs]⟩
  rw [if_neg x0, if_neg x0]
  by_cases x1 : x = 1
  · exact ⟨_, by rw [if_pos x1, k_linkCount (b := 0 + 1 + 1) hc.1.1 hc.1.2.1 hn12 hi.2.2.1, Option.bind_some], by rw [if_pos x1, m_links (b := 73) hs, Option.bind_some]⟩
  rw [if_neg x1, if_neg x1]
  by_cases x2 : x = 2
  · exact ⟨s 362, by rw [if_pos x2, t0], by rw [if_pos x2, hs]⟩
  rw [if_neg x2, if_neg x2]
  by_cases x3 : x = 3
  · exact ⟨s 363, by rw [if_pos x3, t1], by rw [if_pos x3, hs]⟩
  rw [if_neg x3, if_neg x3]
  by_cases x4 : x = 4
  · refine ⟨s 361, ?_, by rw [if_pos x4, hs]⟩
    rw [if_pos x4, h3]
    rcases hi.2.1 with hb | hb
    · rw [hb, if_pos rfl]
    · rw [hb, if_neg (by decide)]
  rw [if_neg x4, if_neg x4, m_in, pb_if]
  have ix : ∀ r : Nat, r < 4 → sn_ix (((364 : Int32) + nI (5 + r)) - (5 : Int32)) 374 = some (364 + r) := fun r hr => by
    rw [show (364 : Int32) = nI 364 from rfl, nI_add, show (5 : Int32) = nI 5 from rfl, pk_sub (by omega), show 364 + (5 + r) - 5 = 364 + r by omega, sn_ix_nI (by omega) (by decide)]
  by_cases x5 : x = 5
  · refine ⟨s 364, by rw [if_pos x5, t4 0 (by omega)], ?_⟩
    rw [show sp_in x 5 8 = true by rw [x5]; decide, if_pos rfl, x5, show (5 : Int32) = nI (5 + 0) from rfl]
    rw [show sn_ix (((364 : Int32) + nI (5 + 0)) - nI (5 + 0)) 374 = some 364 from ix 0 (by omega), Option.bind_some, hs]
  rw [if_neg x5]
  by_cases x6 : x = 6
  · refine ⟨s 365, by rw [if_pos x6, t4 1 (by omega)], ?_⟩
    rw [show sp_in x 5 8 = true by rw [x6]; decide, if_pos rfl, x6, show sn_ix (((364 : Int32) + 6) - 5) 374 = some 365 from ix 1 (by omega), Option.bind_some, hs]
  rw [if_neg x6]
  by_cases x7 : x = 7
  · refine ⟨s 366, by rw [if_pos x7, t4 2 (by omega)], ?_⟩
    rw [show sp_in x 5 8 = true by rw [x7]; decide, if_pos rfl, x7, show sn_ix (((364 : Int32) + 7) - 5) 374 = some 366 from ix 2 (by omega), Option.bind_some, hs]
  rw [if_neg x7]
  by_cases x8 : x = 8
  · refine ⟨s 367, by rw [if_pos x8, t4 3 (by omega)], ?_⟩
    rw [show sp_in x 5 8 = true by rw [x8]; decide, if_pos rfl, x8, show sn_ix (((364 : Int32) + 8) - 5) 374 = some 367 from ix 3 (by omega), Option.bind_some, hs]
  rw [if_neg x8]
  refine ⟨-102, rfl, ?_⟩
  cases hin : sp_in x 5 8 with
  | false => rfl
  | true =>
    obtain ⟨k, h5, h8, rfl⟩ := in_lh (lo := 5) (hi := 8) (by omega) (by omega) hin
    exfalso
    rcases (show k = 5 ∨ k = 6 ∨ k = 7 ∨ k = 8 by omega) with e | e | e | e
    · exact x5 (by rw [e]; rfl)
    · exact x6 (by rw [e]; rfl)
    · exact x7 (by rw [e]; rfl)
    · exact x8 (by rw [e]; rfl)
theorem q_keep (h : Ri st) : ∃ (r : Int32) (st1 st2 : sn_S), D_X5_keep 0 st = some (r, st1) ∧ D_X6_keep 73 st1 = some (r, st2) ∧ Ri st2 := by
  obtain ⟨n, s, hs, hc, hi⟩ := h.get
  have hn12 := hi.1.2.2
  have h3 : st.1 (0 + 1) 3 = s 361 := hc.2.2.2.2.1
  obtain ⟨sa, a1, a2, a3⟩ := k_copyFrom (b := 0 + 37) (o := 0 + 1) (st := st) (by omega) (by rw [h3]; exact hi.2.1)
  have hs1 : (sn_wr sa 0 2 1).1 (73 + 1) = s := by rw [wr_o _ _ _ (by omega), a2.1 _ (by omega)]; exact hs
  obtain ⟨sb, b1, b2, b3⟩ := m_keep_L (b := 73) (st := sn_wr sa 0 2 1) 4096 0 (sn_wr sa 0 2 1) (by omega) (by omega) st_but.rf (fun k h => by omega)
  refine ⟨1, sn_wr sa 0 2 1, sn_wr sb 73 2 1, ?_, b1, ?_⟩
  · unfold D_X5_keep
    rw [a1, Option.bind_some]
  · have e : ∀ a, a ≠ 0 → a ≠ 73 → a ≠ 75 → (a < 37 ∨ 72 < a) → (sn_wr sb 73 2 1).1 a = st.1 a := fun a h0 h1 h2 h3 => by rw [wr_o _ _ _ h1, b2.1 a h2, wr_o _ _ _ h0, a2.1 a (by omega)]
    have e74 : (sn_wr sb 73 2 1).1 (73 + 1) = s := by rw [e _ (by omega) (by omega) (by omega) (by omega)]; exact hs
    have e0 : (sn_wr sb 73 2 1).1 0 2 = 1 := by rw [wr_o _ _ _ (by omega), b2.1 _ (by omega), wr_at]
    refine ⟨⟨n, ?_, ?_⟩, by rw [e0, wr_at], Or.inr e0, fun _ => ⟨n, ?_, ?_⟩⟩
    · rw [e74]; exact hc.keep hn12 (fun a g1 g2 => e a (by omega) (by omega) (by omega) (by omega))
    · rw [e74]; exact hi
    · have hk : cw (0 + 37) n sa s := hc.move hn12 a3
      have hk2 : cw (0 + 37) n (sn_wr sb 73 2 1) s := hk.keep hn12 (fun a g1 g2 => by rw [wr_o _ _ _ (by omega), b2.1 a (by omega), wr_o _ _ _ (by omega)])
      refine hk2.co hi (fun k hk => ?_)
      rw [wr_o _ _ _ (by omega), b3 k hk, hs1]
    · refine hi.co (fun k hk => ?_)
      rw [wr_o _ _ _ (by omega), b3 k hk, hs1]
theorem q_back (h : Ri st) : ∃ (r : Int32) (st1 st2 : sn_S), D_X5_back 0 st = some (r, st1) ∧ D_X6_back 73 st1 = some (r, st2) ∧ Ri st2 := by
  obtain ⟨-, hk1, hk2, hk3⟩ := id h
  unfold D_X5_back D_X6_back
  rcases hk2 with z | z
  · exact ⟨-103, st, st, by rw [if_pos z], by rw [if_pos (by rw [← hk1]; exact z)], h⟩
  · obtain ⟨n, hc, hi⟩ := hk3 z
    have hn12 := hi.1.2.2
    generalize hs : st.1 (73 + 2) = s at hc hi
    have h3 : st.1 (0 + 37) 3 = s 361 := hc.2.2.2.2.1
    obtain ⟨sa, a1, a2, a3⟩ := k_copyFrom (b := 0 + 1) (o := 0 + 37) (st := st) (by omega) (by rw [h3]; exact hi.2.1)
    obtain ⟨sb, b1, b2, b3⟩ := m_back_L (b := 73) (st := sa) 4096 0 sa (by omega) (by omega) st_but.rf (fun k h => by omega)
    have hs1 : sa.1 (73 + 2) = s := (a2.1 _ (by omega)).trans hs
    have hm : cw (0 + 1) n sa s := hc.move hn12 a3
    refine ⟨1, sa, sb, by rw [if_neg (by rw [z]; decide), a1, Option.bind_some], ?_, ?_⟩
    · rw [a2.1 _ (by omega), ← hk1, if_neg (by rw [z]; decide)]
      exact b1
    · exact h.op a2 (bu_c2 (Or.inl rfl) b2) rfl (hm.co hi (fun k hk => by rw [b3 k hk, hs1])) (hi.co (fun k hk => by rw [b3 k hk, hs1]))
theorem q_digest (h : Ri st) : ∃ (r : Int64) (st2 : sn_S), D_X5_digest 0 st = some r ∧ D_X6_digest 73 st = some (r, st2) ∧ Ri st2 := by
  obtain ⟨n, s, hs, hc, hi⟩ := h.get
  obtain ⟨st2, g1, g2⟩ := m_digest (b := 73) hs hi
  exact ⟨_, st2, k_digest (b := 0) hc hi, g1, h.op cf.rf (fun a _ _ _ => by rw [g2]) (by rw [g2]; exact hs) hc hi⟩
end CU2
