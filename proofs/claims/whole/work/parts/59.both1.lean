/-! BOTH: keep, back, digest; the reference: build, places -/
section CT1
variable {b n o : Nat} {st st' : sn_S} {s s' : Nat → Int32}
theorem cw.co (h : cw b n st s) (hi : ci n s) (hs : ∀ k, k < 374 → s' k = s k) : cw b n st s' := by
  obtain ⟨hV, hO, hT, hF, h3, h4, h5, h6, h7, h8⟩ := h
  have hn12 := hi.1.2.2
  refine ⟨hV.co hn12 (fun k hk => hs k (by omega)), hO.co (fun k hk => hs k (by omega)), ?_, fun i hi => ?_, ?_, ?_, ?_, ?_, ?_, ?_⟩
  · obtain ⟨t0, t1, t2, t3, t4, t5⟩ := hT
    unfold cr_T
    rw [hs 362 (by omega), hs 363 (by omega), hs 368 (by omega), hs 369 (by omega)]
    exact ⟨t0, t1, t2, t3, fun r hr => by rw [hs _ (by omega)]; exact t4 r hr, fun i hi => by rw [hs _ (by omega)]; exact t5 i hi⟩
  · rw [hF i hi, co_fa hn12 (fun k _ hk => hs k (by omega))]
  · rw [hs _ (by omega)]; exact h3
  · rw [hs _ (by omega)]; exact h4
  · rw [hs _ (by omega)]; exact h5
  · rw [hs _ (by omega)]; exact h6
  · rw [h7, co_pe hn12 hi.2.2.2.2.2.2.2.1 (fun k hk => hs k (by omega))]
  · rw [hs _ (by omega)]; exact h8
theorem ci.co (hi : ci n s) (hs : ∀ k, k < 374 → s' k = s k) : ci n s' := by
  obtain ⟨hn, h01, hL, hsym, hself, hX, h0, hnb, u, hu, hu2⟩ := hi
  have hn12 := hn.2.2
  have hsl : sp_sl s s' := fun k h1 h2 => hs k (by omega)
  refine ⟨hsl.n hn, by rw [hs _ (by omega)]; exact h01, fun i j h1 h2 => ?_, fun i j => ?_, fun i => ?_, fun i j h1 h2 h3 => ?_, fun z => ?_, fun z => ?_, ⟨u, hu, ?_⟩⟩
  · rw [hs _ (by omega), hsl.lk hn12]; exact hL i j h1 h2
  · rw [hsl.lk hn12, hsl.lk hn12]; exact hsym i j
  · rw [hsl.lk hn12]; exact hself i
  · rw [hsl.lk hn12] at h3; rw [hs _ (by omega)]; exact hX i j h1 h2 h3
  · rw [hs _ (by omega)] at z
    obtain ⟨z1, z2, z3⟩ := h0 z
    exact ⟨fun i hi => by rw [hs _ (by omega)]; exact z1 i hi, fun k h1 h2 => by rw [hs _ (by omega)]; exact z2 k h1 h2, by rw [hs _ (by omega)]; exact z3⟩
  · rw [hs _ (by omega)] at z; exact hsl.nb hn12 (hnb z)
  · rw [hs _ (by omega)]; exact hu2
/-- the NET at b is a copy of that at o -/
def cw_cp (b o : Nat) (st' st : sn_S) : Prop :=
  (∀ k, 3 ≤ k → k ≤ 8 → st'.1 b k = st.1 o k) ∧ st'.1 (b + 1) 0 = st.1 (o + 1) 0 ∧ (∀ k, k < 12 → st'.1 (b + 1 + 1) k = st.1 (o + 1 + 1) k) ∧ (∀ k, k < 12 → st'.1 (b + 1 + 2) k = st.1 (o + 1 + 2) k) ∧ (∀ i, i < 12 → ∀ k, k < 17 → st'.1 (b + 4 + 1 + 1 + i) k = st.1 (o + 4 + 1 + 1 + i) k ∧ st'.1 (b + 4 + 14 + 1 + i) k = st.1 (o + 4 + 14 + 1 + i) k) ∧ (∀ k, k < 12 → st'.1 (b + 4 + 27) k = st.1 (o + 4 + 27) k ∧ st'.1 (b + 4 + 28) k = st.1 (o + 4 + 28) k) ∧ (∀ k, k < 4 → st'.1 (b + 33) k = st.1 (o + 33) k ∧ st'.1 (b + 33 + 1) k = st.1 (o + 33 + 1) k) ∧ (∀ k, k < 12 → st'.1 (b + 33 + 2) k = st.1 (o + 33 + 2) k)
theorem cw.move (h : cw o n st s) (hn : n ≤ 12) (e : cw_cp b o st' st) : cw b n st' s := by
  obtain ⟨⟨v1, v2, v3, v4, v5⟩, hO, ⟨t0, t1, t2, t3, t4, t5⟩, hF, h3, h4, h5, h6, h7, h8⟩ := h
  obtain ⟨e0, e1, e2, e3, e4, e5, e6, e7⟩ := e
  refine ⟨⟨e1.trans v1, fun i hi => (e2 i hi).trans (v2 i hi), fun i hi => ?_, fun i hi => ((e5 i (by omega)).1).trans (v4 i hi), fun i hi => ((e5 i (by omega)).2).trans (v5 i hi)⟩, fun i hi => ?_, ⟨((e6 0 (by omega)).1).trans t0, ((e6 1 (by omega)).1).trans t1, ((e6 2 (by omega)).1).trans t2, ((e6 3 (by omega)).1).trans t3, fun r hr => ((e6 r hr).2).trans (t4 r hr), fun i hi => (e7 i hi).trans (t5 i hi)⟩, fun i hi => (e3 i hi).trans (hF i hi), (e0 3 (by omega) (by omega)).trans h3, (e0 4 (by omega) (by omega)).trans h4, (e0 5 (by omega) (by omega)).trans h5, (e0 6 (by omega) (by omega)).trans h6, (e0 7 (by omega) (by omega)).trans h7, (e0 8 (by omega) (by omega)).trans h8⟩
  · obtain ⟨r0, r1, r2, r3, r4, r5⟩ := v3 i hi
    exact ⟨((e4 i hi 0 (by omega)).2).trans r0, ((e4 i hi 1 (by omega)).2).trans r1, ((e4 i hi 2 (by omega)).2).trans r2, ((e4 i hi 3 (by omega)).2).trans r3, ((e4 i hi 4 (by omega)).2).trans r4, fun j hj => ((e4 i hi (5 + j) (by omega)).2).trans (r5 j hj)⟩
  · obtain ⟨o0, o1, o2, o3, o4, o5⟩ := hO i hi
    exact ⟨((e4 i hi 0 (by omega)).1).trans o0, ((e4 i hi 1 (by omega)).1).trans o1, ((e4 i hi 2 (by omega)).1).trans o2, ((e4 i hi 3 (by omega)).1).trans o3, ((e4 i hi 4 (by omega)).1).trans o4, fun j hj => ((e4 i hi (5 + j) (by omega)).1).trans (o5 j hj)⟩
theorem k_rowsCopy_L (hd : b + 29 ≤ o ∨ o + 29 ≤ b) : ∀ (f t : Nat) (st1 : sn_S), t ≤ 12 → 12 - t < f → (∀ a, (a < b + 2 ∨ b + 28 < a) → st1.1 a = st.1 a) → st1.2 = st.2 → (∀ i, i < t → ∀ k, k < 17 → st1.1 (b + 1 + 1 + i) k = st.1 (o + 1 + 1 + i) k ∧ st1.1 (b + 14 + 1 + i) k = st.1 (o + 14 + 1 + i) k) → ∃ st2 : sn_S, D_X1_copyFrom_L2 b o f (nI t) st1 = some st2 ∧ (∀ a, (a < b + 2 ∨ b + 28 < a) → st2.1 a = st.1 a) ∧ st2.2 = st.2 ∧ (∀ i, i < 12 → ∀ k, k < 17 → st2.1 (b + 1 + 1 + i) k = st.1 (o + 1 + 1 + i) k ∧ st2.1 (b + 14 + 1 + i) k = st.1 (o + 14 + 1 + i) k) ∧ ∀ k, k < 12 → st2.1 (b + 27) k = st.1 (o + 27) k ∧ st2.1 (b + 28) k = st.1 (o + 28) k
  | 0, t, st1, h1, h2, _, _, _ => by omega
  | f + 1, t, st1, h1, h2, hB, hB2, hk => by
    rw [D_X1_copyFrom_L2.eq_2]
    by_cases e : t = 12
    · subst e
      rw [if_pos (by decide)]
      refine ⟨_, rfl, fun a ha => by rw [cp_o _ _ (by omega), cp_o _ _ (by omega)]; exact hB a ha, hB2, fun i hi k hk2 => ?_, fun k hk2 => ?_⟩
      · rw [cp_o _ _ (by omega), cp_o _ _ (by omega), cp_o _ _ (by omega), cp_o _ _ (by omega)]; exact hk i hi k hk2
      · rw [cp_o _ _ (show (b + 27 : Nat) ≠ b + 28 by omega), cp_at _ hk2, cp_at _ hk2, cp_o _ _ (by omega), hB _ (by omega), hB _ (by omega)]
        exact ⟨rfl, rfl⟩
    · have hlt : t < 12 := by omega
      rw [if_neg (by rw [show (12 : Int32) = nI 12 from rfl]; exact nI_ge hlt (by omega)), sn_ix_nI hlt (by decide)]
      simp only [Option.bind_some]
      rw [nI_1]
      refine k_rowsCopy_L hd f (t + 1) _ (by omega) (by omega) (fun a ha => ?_) hB2 (fun i hi k hk2 => ?_)
      · rw [cp_o _ _ (by omega), cp_o _ _ (by omega)]; exact hB a ha
      · by_cases ei : i = t
        · subst ei
          rw [cp_o _ _ (show (b + 1 + 1 + i : Nat) ≠ b + 14 + 1 + i by omega), cp_at _ hk2, cp_at _ hk2, cp_o _ _ (by omega), hB _ (by omega), hB _ (by omega)]
          exact ⟨rfl, rfl⟩
        · rw [cp_o _ _ (by omega), cp_o _ _ (by omega), cp_o _ _ (by omega), cp_o _ _ (by omega)]; exact hk i (by omega) k hk2
theorem k_tallyCopy (hd : b + 3 ≤ o ∨ o + 3 ≤ b) (st : sn_S) : ∃ st2 : sn_S, D_X4_copyFrom b o st = some st2 ∧ (∀ a, (a < b ∨ b + 2 < a) → st2.1 a = st.1 a) ∧ st2.2 = st.2 ∧ (∀ k, k < 4 → st2.1 b k = st.1 o k ∧ st2.1 (b + 1) k = st.1 (o + 1) k) ∧ ∀ k, k < 12 → st2.1 (b + 2) k = st.1 (o + 2) k := by
  unfold D_X4_copyFrom
  have ho : ∀ (st : sn_S) (k : Nat) (v : Int32), (sn_wr st b k v).1 o = st.1 o := fun st k v => wr_o _ _ _ (by omega)
  simp only [ho]
  refine ⟨_, rfl, fun a ha => by rw [cp_o _ _ (by omega), cp_o _ _ (by omega), wr_o _ _ _ (by omega), wr_o _ _ _ (by omega), wr_o _ _ _ (by omega), wr_o _ _ _ (by omega)], rfl, fun k hk => ⟨?_, ?_⟩, fun k hk => ?_⟩
  · rw [cp_o _ _ (by omega), cp_o _ _ (by omega)]
    rcases (show k = 0 ∨ k = 1 ∨ k = 2 ∨ k = 3 by omega) with q | q | q | q
    · subst q; rw [wr_ne _ _ _ (by omega), wr_ne _ _ _ (by omega), wr_ne _ _ _ (by omega), wr_at]
    · subst q; rw [wr_ne _ _ _ (by omega), wr_ne _ _ _ (by omega), wr_at]
    · subst q; rw [wr_ne _ _ _ (by omega), wr_at]
    · subst q; rw [wr_at]
  · rw [cp_o _ _ (by omega), cp_at _ hk, wr_o _ _ _ (by omega), wr_o _ _ _ (by omega), wr_o _ _ _ (by omega), wr_o _ _ _ (by omega)]
  · rw [cp_at _ hk, cp_o _ _ (by omega), wr_o _ _ _ (by omega), wr_o _ _ _ (by omega), wr_o _ _ _ (by omega), wr_o _ _ _ (by omega)]
theorem k_copyFrom (hd : b + 36 ≤ o ∨ o + 36 ≤ b) (h01 : st.1 o 3 = 0 ∨ st.1 o 3 = 1) : ∃ st2 : sn_S, D_X0_copyFrom b o st = some st2 ∧ cf b st st2 ∧ cw_cp b o st2 st := by
  unfold D_X0_copyFrom D_X3_copyFrom D_X1_copyFrom
  generalize hst1 : sn_cp (sn_cp (sn_wr st (b + 1) 0 (st.1 (o + 1) 0)) (o + 1 + 1) (b + 1 + 1) 12) (o + 1 + 2) (b + 1 + 2) 12 = st1
  have f1 : ∀ a, a ≠ b + 1 → a ≠ b + 1 + 1 → a ≠ b + 1 + 2 → st1.1 a = st.1 a := fun a h1 h2 h3 => by rw [← hst1, cp_o _ _ h3, cp_o _ _ h2, wr_o _ _ _ h1]
  have f2 : st1.1 (b + 1) 0 = st.1 (o + 1) 0 := by rw [← hst1, cp_o _ _ (by omega), cp_o _ _ (by omega), wr_at]
  have f3 : ∀ k, k < 12 → st1.1 (b + 1 + 1) k = st.1 (o + 1 + 1) k := fun k hk => by rw [← hst1, cp_o _ _ (by omega), cp_at _ hk, wr_o _ _ _ (by omega)]
  have f4 : ∀ k, k < 12 → st1.1 (b + 1 + 2) k = st.1 (o + 1 + 2) k := fun k hk => by rw [← hst1, cp_at _ hk, cp_o _ _ (by omega), wr_o _ _ _ (by omega)]
  have f5 : st1.2 = st.2 := by rw [← hst1]; rfl
  obtain ⟨st2, g1, g2, g3, g4, g5⟩ := k_rowsCopy_L (b := b + 4) (o := o + 4) (st := st1) (by omega) 4096 0 st1 (by omega) (by omega) (fun _ _ => rfl) rfl (fun i h => by omega)
  have g1' : D_X1_copyFrom_L2 (b + 4) (o + 4) 4096 0 st1 = some st2 := g1
  obtain ⟨st3, k1, k2, k3, k4, k5⟩ := k_tallyCopy (b := b + 33) (o := o + 33) (by omega) st2
  have e3 : ∀ k, st3.1 o k = st.1 o k := fun k => by rw [k2 _ (by omega), g2 _ (by omega), f1 _ (by omega) (by omega) (by omega)]
  have ho : ∀ (st : sn_S) (k : Nat) (v : Int32), (sn_wr st b k v).1 o = st.1 o := fun st k v => wr_o _ _ _ (by omega)
  rw [Option.bind_some, g1', Option.bind_some, k1, Option.bind_some]
  simp only [ho, e3]
  rw [if_pos h01]
  have hw : ∀ (st5 : sn_S) (v3 v4 v5 v6 v7 v8 : Int32) (a : Nat), a ≠ b → (sn_wr (sn_wr (sn_wr (sn_wr (sn_wr (sn_wr st5 b 3 v3) b 4 v4) b 5 v5) b 6 v6) b 7 v7) b 8 v8).1 a = st5.1 a := fun st5 v3 v4 v5 v6 v7 v8 a ha => by rw [wr_o _ _ _ ha, wr_o _ _ _ ha, wr_o _ _ _ ha, wr_o _ _ _ ha, wr_o _ _ _ ha, wr_o _ _ _ ha]
  refine ⟨_, rfl, ⟨fun a ha => ?_, ?_⟩, fun k h1 h2 => ?_, ?_, fun k hk => ?_, fun k hk => ?_, fun i hi k hk => ?_, fun k hk => ?_, fun k hk => ?_, fun k hk => ?_⟩
  · rw [hw _ _ _ _ _ _ _ _ (by omega), k2 _ (by omega), g2 _ (by omega), f1 _ (by omega) (by omega) (by omega)]
  · show st3.2 = st.2
    rw [k3, g3, f5]
  · rcases (show k = 3 ∨ k = 4 ∨ k = 5 ∨ k = 6 ∨ k = 7 ∨ k = 8 by omega) with q | q | q | q | q | q
    · subst q; rw [wr_ne _ _ _ (by omega), wr_ne _ _ _ (by omega), wr_ne _ _ _ (by omega), wr_ne _ _ _ (by omega), wr_ne _ _ _ (by omega), wr_at]
    · subst q; rw [wr_ne _ _ _ (by omega), wr_ne _ _ _ (by omega), wr_ne _ _ _ (by omega), wr_ne _ _ _ (by omega), wr_at]
    · subst q; rw [wr_ne _ _ _ (by omega), wr_ne _ _ _ (by omega), wr_ne _ _ _ (by omega), wr_at]
    · subst q; rw [wr_ne _ _ _ (by omega), wr_ne _ _ _ (by omega), wr_at]
    · subst q; rw [wr_ne _ _ _ (by omega), wr_at]
    · subst q; rw [wr_at]
  · rw [hw _ _ _ _ _ _ _ _ (by omega), k2 _ (by omega), g2 _ (by omega)]; exact f2
  · rw [hw _ _ _ _ _ _ _ _ (by omega), k2 _ (by omega), g2 _ (by omega)]; exact f3 k hk
  · rw [hw _ _ _ _ _ _ _ _ (by omega), k2 _ (by omega), g2 _ (by omega)]; exact f4 k hk
  · rw [hw _ _ _ _ _ _ _ _ (by omega), hw _ _ _ _ _ _ _ _ (by omega), k2 _ (by omega), k2 _ (by omega), (g4 i hi k hk).1, (g4 i hi k hk).2, f1 _ (by omega) (by omega) (by omega), f1 _ (by omega) (by omega) (by omega)]
    exact ⟨rfl, rfl⟩
  · rw [hw _ _ _ _ _ _ _ _ (by omega), hw _ _ _ _ _ _ _ _ (by omega), k2 _ (by omega), k2 _ (by omega), (g5 k hk).1, (g5 k hk).2, f1 _ (by omega) (by omega) (by omega), f1 _ (by omega) (by omega) (by omega)]
    exact ⟨rfl, rfl⟩
  · rw [hw _ _ _ _ _ _ _ _ (by omega), hw _ _ _ _ _ _ _ _ (by omega), (k4 k hk).1, (k4 k hk).2, g2 _ (by omega), g2 _ (by omega), f1 _ (by omega) (by omega) (by omega), f1 _ (by omega) (by omega) (by omega)]
    exact ⟨rfl, rfl⟩
  · rw [hw _ _ _ _ _ _ _ _ (by omega), k5 k hk, g2 _ (by omega), f1 _ (by omega) (by omega) (by omega)]
theorem m_keep_L : ∀ (f j : Nat) (st1 : sn_S), j ≤ 374 → 374 - j < f → st_but (b + 2) st st1 → (∀ k, k < j → st1.1 (b + 2) k = st.1 (b + 1) k) → ∃ st2 : sn_S, D_X6_keep_L2 b f (nI j) st1 = some (1, sn_wr st2 b 2 1) ∧ st_but (b + 2) st st2 ∧ ∀ k, k < 374 → st2.1 (b + 2) k = st.1 (b + 1) k
  | 0, j, st1, h1, h2, _, _ => by omega
  | f + 1, j, st1, h1, h2, hB, hk => by
    rw [D_X6_keep_L2.eq_2]
    by_cases e : j = 374
    · subst e
      rw [if_pos (by decide)]
      exact ⟨st1, rfl, hB, hk⟩
    · have hlt : j < 374 := by omega
      rw [if_neg (by rw [show (374 : Int32) = nI 374 from rfl]; exact nI_ge hlt (by omega)), sn_ix_nI hlt (by decide), Option.bind_some, Option.bind_some, nI_1]
      refine m_keep_L f (j + 1) _ (by omega) (by omega) (hB.wr _ _) (fun k h => ?_)
      by_cases ek : k = j
      · rw [ek, wr_at, hB.1 (b + 1) (by omega)]
      · rw [wr_ne _ _ _ ek]; exact hk k (by omega)
theorem m_back_L : ∀ (f j : Nat) (st1 : sn_S), j ≤ 374 → 374 - j < f → st_but (b + 1) st st1 → (∀ k, k < j → st1.1 (b + 1) k = st.1 (b + 2) k) → ∃ st2 : sn_S, D_X6_back_L12 b f (nI j) st1 = some (1, st2) ∧ st_but (b + 1) st st2 ∧ ∀ k, k < 374 → st2.1 (b + 1) k = st.1 (b + 2) k
  | 0, j, st1, h1, h2, _, _ => by omega
  | f + 1, j, st1, h1, h2, hB, hk => by
    rw [D_X6_back_L12.eq_2]
    by_cases e : j = 374
    · subst e
      rw [if_pos (by decide)]
      exact ⟨st1, rfl, hB, hk⟩
    · have hlt : j < 374 := by omega
      rw [if_neg (by rw [show (374 : Int32) = nI 374 from rfl]; exact nI_ge hlt (by omega)), sn_ix_nI hlt (by decide), Option.bind_some, Option.bind_some, nI_1]
      refine m_back_L f (j + 1) _ (by omega) (by omega) (hB.wr _ _) (fun k h => ?_)
      by_cases ek : k = j
      · rw [ek, wr_at, hB.1 (b + 2) (by omega)]
      · rw [wr_ne _ _ _ ek]; exact hk k (by omega)
/-! digest -/
def mx (h : Int64) (v : Int32) : Int64 := 31 * h + v.toInt64
def sp_g0 (s : Nat → Int32) (i : Nat) : Int64 → Nat → Nat → Int64
  | h, _, 0 => h
  | h, k, m + 1 => sp_g0 s i (mx h (s (sp_pl i k))) (k + 1) m
def sp_g1 (n : Nat) (s : Nat → Int32) (i : Nat) : Int64 → Nat → Nat → Int64
  | h, _, 0 => h
  | h, j, m + 1 => sp_g1 n s i (if sp_lk n s i j then mx (mx h (nI j)) (s (72 + 12 * i + j)) else h) (j + 1) m
def sp_g2 (n : Nat) (s : Nat → Int32) (i : Nat) (h : Int64) : Int64 := mx (sp_g1 n s i (sp_g0 s i h 0 5) 0 n) (s (60 + i))
def sp_g3 (n : Nat) (s : Nat → Int32) : Int64 → Nat → Nat → Int64
  | h, _, 0 => h
  | h, i, m + 1 => sp_g3 n s (sp_g2 n s i h) (i + 1) m
def sp_dg (n : Nat) (s : Nat → Int32) : Int64 := mx (sp_g3 n s (mx (mx 59 (s 360)) (s 361)) 0 n) (s 370)
theorem k_mix (h : Int64) (v : Int32) : D_X5_mix h v = some (mx h v) := rfl
theorem k_mixNode_L47 (hc : cw (b + 1) n st s) (hi : ci n s) {i : Nat} (hin : i < n) (j1 : Int64) : ∀ (f j : Nat) (h : Int64), j ≤ n → n - j < f → D_X5_mixNode_L47 b i j1 (nI i) st f h (nI j) = some (mx (sp_g1 n s i h j (n - j)) (s (60 + i)))
  | 0, j, h, h1, h2 => by omega
  | f + 1, j, h, h1, h2 => by
    obtain ⟨hV, hO, hT, -⟩ := id hc
    have hn12 := hi.1.2.2
    rw [D_X5_mixNode_L47.eq_2, hV.1]
    by_cases e : j = n
    · subst e
      rw [if_pos (nI_le (Nat.le_refl _) (by omega)), Nat.sub_self, sp_g1, sn_ix_nI (by omega : i < 12) (by decide), Option.bind_some, k_mix, Option.bind_some, hT.2.2.2.2.2 i (by omega)]
    · have hlt : j < n := by omega
      have ih := fun h => k_mixNode_L47 hc hi hin j1 f (j + 1) h (by omega) (by omega)
      rw [if_neg (nI_ge hlt (by omega)), sn_ix_nI (by omega : i < 12) (by decide), Option.bind_some, hV.2.1 i (by omega), k_hasM (by omega), pb_if, nI_1, show n - j = (n - (j + 1)) + 1 by omega, sp_g1]
      cases hl : sp_lk n s i j with
      | false => rw [if_neg (by decide), if_neg (by decide)]; exact ih h
      | true =>
        rw [if_pos rfl, if_pos rfl, k_mix, Option.bind_some, show (5 : Int32) + nI j = nI (5 + j) by rw [show (5 : Int32) = nI 5 from rfl, nI_add], sn_ix_nI (by omega : 5 + j < 17) (by decide), Option.bind_some, k_mix, Option.bind_some, (hO i (by omega)).2.2.2.2.2 j (by omega)]
        exact ih _
theorem k_mixNode_L20 (hc : cw (b + 1) n st s) (hi : ci n s) {i : Nat} (hin : i < n) (j1 : Int64) : ∀ (f k : Nat) (h : Int64), k ≤ 5 → 5 - k < f → D_X5_mixNode_L20 b i j1 (nI i) st f h (nI k) = some (mx (sp_g1 n s i (sp_g0 s i h k (5 - k)) 0 n) (s (60 + i)))
  | 0, k, h, h1, h2 => by omega
  | f + 1, k, h, h1, h2 => by
    obtain ⟨hV, hO, hT, -⟩ := id hc
    have hn12 := hi.1.2.2
    rw [D_X5_mixNode_L20.eq_2]
    by_cases e : k = 5
    · subst e
      rw [if_pos (by decide), Nat.sub_self, sp_g0]
      exact k_mixNode_L47 hc hi hin j1 4096 0 h (by omega) (by omega)
    · have hlt : k < 5 := by omega
      rw [if_neg (by rw [show (5 : Int32) = nI 5 from rfl]; exact nI_ge hlt (by omega)), sn_ix_nI (by omega : k < 17) (by decide), Option.bind_some, k_mix, Option.bind_some, nI_1, show 5 - k = (5 - (k + 1)) + 1 by omega, sp_g0, hO.pl (by omega) (by omega)]
      exact k_mixNode_L20 hc hi hin j1 f (k + 1) _ (by omega) (by omega)
theorem k_digest_L (hc : cw (b + 1) n st s) (hi : ci n s) : ∀ (f i : Nat) (h : Int64), i ≤ n → n - i < f → D_X5_digest_L37 b st f h (nI i) = some (mx (sp_g3 n s h i (n - i)) (s 370))
  | 0, i, h, h1, h2 => by omega
  | f + 1, i, h, h1, h2 => by
    obtain ⟨hV, hO, hT, hF, h3, h4, -⟩ := id hc
    have hn12 := hi.1.2.2
    rw [D_X5_digest_L37.eq_2, hV.1]
    by_cases e : i = n
    · subst e
      rw [if_pos (nI_le (Nat.le_refl _) (by omega)), Nat.sub_self, sp_g3, k_mix, Option.bind_some, h4]
    · have hlt : i < n := by omega
      rw [if_neg (nI_ge hlt (by omega)), show n - i = (n - (i + 1)) + 1 by omega, sp_g3, nI_1]
      unfold D_X5_mixNode
      rw [sn_ix_nI (by omega : i < 12) (by decide), Option.bind_some]
      have := k_mixNode_L20 hc hi hlt h 4096 0 h (by omega) (by omega)
      rw [nI_0, Nat.sub_zero] at this
      rw [this, Option.bind_some]
      exact k_digest_L hc hi f (i + 1) _ (by omega) (by omega)
theorem k_digest (hc : cw (b + 1) n st s) (hi : ci n s) : D_X5_digest b st = some (sp_dg n s) := by
  obtain ⟨hV, hO, hT, hF, h3, h4, -⟩ := id hc
  have hn12 := hi.1.2.2
  unfold D_X5_digest sp_dg
  rw [k_mix, Option.bind_some, hV.1, ← hi.1.1, h3]
  have := fun h => k_digest_L hc hi 4096 0 h (by omega) (by omega)
  simp only [nI_0, Nat.sub_zero] at this
  rcases hi.2.1 with z | z
  · rw [if_pos z, k_mix, Option.bind_some, this, z]
  · rw [if_neg (by rw [z]; decide), k_mix, Option.bind_some, this, z]
theorem m_mix (st : sn_S) (h : Int64) (v : Int32) (hh : st.2 b = h) : ∃ st2 : sn_S, D_X6_mix b v.toInt64 st = some st2 ∧ st2.1 = st.1 ∧ st2.2 b = mx h v := by
  refine ⟨_, rfl, rfl, ?_⟩
  show (if b = b then _ else _) = _
  rw [if_pos rfl, hh]
  rfl
theorem m_digest_L118 (hs : st.1 (b + 1) = s) (hi : ci n s) {i : Nat} (hin : i < n) (K : Int32 → sn_S → Option (Int64 × sn_S)) : ∀ (f j : Nat) (st1 : sn_S) (h : Int64), j ≤ n → n - j < f → st1.1 = st.1 → st1.2 b = h → ∃ st2 : sn_S, D_X6_digest_L118 b (nI i) K f (nI j) st1 = K (nI (i + 1)) st2 ∧ st2.1 = st.1 ∧ st2.2 b = mx (sp_g1 n s i h j (n - j)) (s (60 + i))
  | 0, j, st1, h, h1, h2, _, _ => by omega
  | f + 1, j, st1, h, h1, h2, hB, hh => by
    have hn := hi.1
    have hn12 := hn.2.2
    have hs1 : st1.1 (b + 1) = s := by rw [hB]; exact hs
    rw [D_X6_digest_L118.eq_2, hs1, hn.1]
    by_cases e : j = n
    · subst e
      obtain ⟨st2, g1, g2, g3⟩ := m_mix (b := b) st1 h (s (60 + i)) hh
      rw [if_pos (nI_le (Nat.le_refl _) (by omega)), Nat.sub_self, sp_g1, ix_60 (by omega), Option.bind_some, g1, Option.bind_some, nI_1]
      exact ⟨st2, rfl, g2.trans hB, g3⟩
    · have hlt : j < n := by omega
      have ih := fun st1 h => m_digest_L118 hs hi hin K f (j + 1) st1 h (by omega) (by omega)
      rw [if_neg (nI_ge hlt (by omega)), m_isLink hs1 hn hin (by omega), pb_if, nI_1, show n - j = (n - (j + 1)) + 1 by omega, sp_g1]
      cases hl : sp_lk n s i j with
      | false => rw [if_neg (by decide), if_neg (by decide)]; exact ih st1 h hB hh
      | true =>
        obtain ⟨st2, g1, g2, g3⟩ := m_mix (b := b) st1 h (nI j) hh
        have hs2 : st2.1 (b + 1) = s := by rw [g2]; exact hs1
        rw [if_pos rfl, if_pos rfl, g1, Option.bind_some, hs2, ix_x (by omega) (by omega), Option.bind_some]
        rcases hi.2.1 with z | z
        · have z2 := (hi.2.2.2.2.2.2.1 z).2.1 (72 + 12 * i + j) (by omega) (by omega)
          obtain ⟨st3, k1, k2, k3⟩ := m_mix (b := b) st2 _ 0 g3
          have k1' : D_X6_mix b (0 : Int64) st2 = some st3 := k1
          rw [if_neg (by rw [z]; decide), k1', Option.bind_some, z2]
          exact ih st3 _ (k2.trans (g2.trans hB)) k3
        · obtain ⟨st3, k1, k2, k3⟩ := m_mix (b := b) st2 _ (s (72 + 12 * i + j)) g3
          rw [if_pos z, k1, Option.bind_some]
          exact ih st3 _ (k2.trans (g2.trans hB)) k3
theorem m_digest_L35 (hs : st.1 (b + 1) = s) (hi : ci n s) : ∀ (f i : Nat) (st1 : sn_S) (h : Int64), i ≤ n → n - i < f → st1.1 = st.1 → st1.2 b = h → ∃ st2 : sn_S, D_X6_digest_L35 b f (nI i) st1 = some (mx (sp_g3 n s h i (n - i)) (s 370), st2) ∧ st2.1 = st.1
  | 0, i, st1, h, h1, h2, _, _ => by omega
  | f + 1, i, st1, h, h1, h2, hB, hh => by
    have hn := hi.1
    have hn12 := hn.2.2
    have hs1 : st1.1 (b + 1) = s := by rw [hB]; exact hs
    rw [D_X6_digest_L35.eq_2, hs1, hn.1]
    by_cases e : i = n
    · subst e
      obtain ⟨st2, g1, g2, g3⟩ := m_mix (b := b) st1 h (s 370) hh
      rw [if_pos (nI_le (Nat.le_refl _) (by omega)), Nat.sub_self, sp_g3, g1, Option.bind_some, g3]
      exact ⟨st2, rfl, g2.trans hB⟩
    · have hlt : i < n := by omega
      obtain ⟨sa, a1, a2, a3⟩ := m_mix (b := b) st1 h (s (12 + i)) hh
      obtain ⟨sb, b1, b2, b3⟩ := m_mix (b := b) sa _ (s (24 + i)) a3
      obtain ⟨sc, c1, c2, c3⟩ := m_mix (b := b) sb _ (s (36 + i)) b3
      obtain ⟨sd, d1, d2, d3⟩ := m_mix (b := b) sc _ (s (48 + i)) c3
      obtain ⟨se, e1, e2, e3⟩ := m_mix (b := b) sd _ (s i) d3
      have ha : sa.1 (b + 1) = s := by rw [a2]; exact hs1
      have hb : sb.1 (b + 1) = s := by rw [b2]; exact ha
      have hc : sc.1 (b + 1) = s := by rw [c2]; exact hb
      have hd : sd.1 (b + 1) = s := by rw [d2]; exact hc
      rw [if_neg (nI_ge hlt (by omega)), ix_12 (by omega), Option.bind_some, a1, Option.bind_some, ix_24 (by omega), Option.bind_some, ha, b1, Option.bind_some, ix_36 (by omega), Option.bind_some, hb, c1, Option.bind_some, ix_48 (by omega), Option.bind_some, hc, d1, Option.bind_some, ix_0 (by omega), Option.bind_some, hd, e1, Option.bind_some, show n - i = (n - (i + 1)) + 1 by omega, sp_g3]
      obtain ⟨sf, k1, k2, k3⟩ := m_digest_L118 hs hi hlt (fun y1 yt => D_X6_digest_L35 b f y1 yt) 4096 0 se _ (by omega) (by omega) (e2.trans (d2.trans (c2.trans (b2.trans (a2.trans hB))))) e3
      rw [nI_0] at k1
      rw [k1]
      exact m_digest_L35 hs hi f (i + 1) sf _ (by omega) (by omega) k2 k3
theorem m_digest (hs : st.1 (b + 1) = s) (hi : ci n s) : ∃ st2 : sn_S, D_X6_digest b st = some (sp_dg n s, st2) ∧ st2.1 = st.1 := by
  have hn := hi.1
  have hn12 := hn.2.2
  unfold D_X6_digest sp_dg
  have h0 : (sn_wl st b (59 : Int64)).2 b = 59 := if_pos rfl
  have hs0 : (sn_wl st b (59 : Int64)).1 (b + 1) = s := hs
  obtain ⟨sa, a1, a2, a3⟩ := m_mix (b := b) (sn_wl st b (59 : Int64)) _ (s 360) h0
  have ha : sa.1 (b + 1) = s := by rw [a2]; exact hs0
  obtain ⟨sb, b1, b2, b3⟩ := m_mix (b := b) sa _ (s 361) a3
  rw [hs0, a1, Option.bind_some, ha, b1, Option.bind_some]
  obtain ⟨sc, c1, c2⟩ := m_digest_L35 hs hi 4096 0 sb _ (by omega) (by omega) (b2.trans a2) b3
  rw [nI_0, Nat.sub_zero] at c1
  exact ⟨sc, c1, c2⟩
/-! the reference: build, places -/
theorem sm_congr {f g : Nat → Int32} : ∀ (k j : Nat) (a : Int32), (∀ t, j ≤ t → t < j + k → f t = g t) → sp_sm f a j k = sp_sm g a j k
  | 0, _, _, _ => rfl
  | k + 1, j, a, h => by rw [sp_sm, sp_sm, h j (Nat.le_refl _) (by omega), sm_congr k (j + 1) _ (fun t h1 h2 => h t (by omega) (by omega))]
theorem m_build_L79 (hi : ci n s) (hx : ∀ k, 72 ≤ k → k < 216 → s k = 0) (x : Int32) : ∀ (f j : Nat) (st1 : sn_S), j ≤ 144 → 144 - j < f → st_but (b + 1) st st1 → st1.1 (b + 1) = s → ∃ st2 : sn_S, D_X6_build_L79 b x f (nI j) st1 = some (sp_sm (fun t => s (216 + t)) 0 0 144 / 2, st2) ∧ st_but (b + 1) st st2 ∧ st2.1 (b + 1) = upd s 373 (sp_pe n s)
  | 0, j, st1, h1, h2, _, _ => by omega
  | f + 1, j, st1, h1, h2, hB, hs => by
    have hn12 := hi.1.2.2
    rw [D_X6_build_L79.eq_2]
    by_cases e : j = 144
    · subst e
      have hs2 : (sn_wr st1 (b + 1) 373 (sp_pe n s)).1 (b + 1) = upd s 373 (sp_pe n s) := by rw [wr_s, hs]
      rw [if_pos (by decide), m_beginRound hs hi.1 hi.2.2.2.2.2.2.2.1, Option.bind_some, m_links hs2, Option.bind_some, sm_congr (f := fun t => upd s 373 (sp_pe n s) (216 + t)) (g := fun t => s (216 + t)) 144 0 0 (fun t _ h => pk_un (by omega))]
      exact ⟨_, rfl, hB.wr _ _, hs2⟩
    · have hlt : j < 144 := by omega
      rw [if_neg (by rw [show (144 : Int32) = nI 144 from rfl]; exact nI_ge hlt (by omega)), show (72 : Int32) + nI j = nI (72 + j) by rw [show (72 : Int32) = nI 72 from rfl, nI_add], sn_ix_nI (by omega : 72 + j < 374) (by decide), Option.bind_some, nI_1]
      refine m_build_L79 hi hx x f (j + 1) _ (by omega) (by omega) (hB.wr _ _) ?_
      rw [wr_s, hs]
      funext k
      unfold upd
      by_cases ek : k = 72 + j
      · rw [if_pos ek, ek, hx _ (by omega) (by omega)]
      · rw [if_neg ek]
theorem m_build_L23 (hs : st.1 (b + 1) = s) (hn : sm_n n s) (hF : ∀ k, k < 12 → st.1 (b + 4) k = sp_fa n s n k) : ∀ (f i : Nat) (a : Bool), i ≤ n → n - i < f → D_X6_build_L23 b st f (bi a) (nI i) = if (a && sp_al (fun i => !decide (sp_fa n s n i = -1)) i (n - i)) = true then D_X6_build_L79 b 1 4096 0 (sn_wr st (b + 1) 361 1) else some (-103, st)
  | 0, i, a, h1, h2 => by omega
  | f + 1, i, a, h1, h2 => by
    have hn12 := hn.2.2
    rw [D_X6_build_L23.eq_2, hs, hn.1]
    by_cases e : i = n
    · subst e
      rw [if_pos (nI_le (Nat.le_refl _) (by omega)), Nat.sub_self, sp_al, Bool.and_true]
      cases a <;> rfl
    · have hlt : i < n := by omega
      have ih := fun a => m_build_L23 hs hn hF f (i + 1) a (by omega) (by omega)
      rw [if_neg (nI_ge hlt (by omega)), sn_ix_nI (by omega : i < 12) (by decide), Option.bind_some, hF i (by omega), nI_1, show n - i = (n - (i + 1)) + 1 by omega, sp_al]
      cases a with
      | false =>
        rw [if_pos (show bi false = 0 from rfl), Bool.false_and]
        have := ih false
        rw [Bool.false_and] at this
        exact this
      | true =>
        rw [if_neg (show ¬ bi true = 0 by decide), Bool.true_and]
        by_cases c : sp_fa n s n i = -1
        · rw [if_pos c, decide_eq_true c, Bool.not_true, Bool.false_and]
          have := ih false
          rw [Bool.false_and] at this
          exact this
        · rw [if_neg c, decide_eq_false c, Bool.not_false, Bool.true_and]
          have := ih true
          rw [Bool.true_and] at this
          exact this
theorem m_placeOf5 (hs : st.1 (b + 1) = s) {i k : Nat} (hk : k < 5) : D_X6_placeOf b (nI i) (nI k) st = some (nI (sp_pl i k)) := by
  unfold D_X6_placeOf
  have hne : ∀ c, c < 5 → k ≠ c → ¬ nI k = nI c := fun c hc h z => h ((nI_eq (by omega) (by omega)).mp z)
  rcases (show k = 0 ∨ k = 1 ∨ k = 2 ∨ k = 3 ∨ k = 4 by omega) with e | e | e | e | e
  · subst e
    rw [if_pos nI_0, pl_0, show (12 : Int32) = nI 12 from rfl, nI_add]
  · subst e
    rw [if_neg (by decide), if_pos (by decide), pl_1, show (24 : Int32) = nI 24 from rfl, nI_add]
  · subst e
    rw [if_neg (by decide), if_neg (by decide), if_pos (by decide), pl_2, show (36 : Int32) = nI 36 from rfl, nI_add]
  · subst e
    rw [if_neg (by decide), if_neg (by decide), if_neg (by decide), if_pos (by decide), pl_3, show (48 : Int32) = nI 48 from rfl, nI_add]
  · subst e
    rw [if_neg (by decide), if_neg (by decide), if_neg (by decide), if_neg (by decide), if_pos (by decide), pl_4, show (0 : Int32) = nI 0 from rfl, nI_add, Nat.zero_add]
theorem m_placeOfX (hs : st.1 (b + 1) = s) (hn : sm_n n s) {i j : Nat} (hi : i < n) {x : Int32} (h5 : 5 ≤ x) (hk : sp_kt (sp_lk n s i) (x - 5) 0 0 n = nI j) : D_X6_placeOf b (nI i) x st = some (nI (sp_pl i (5 + j))) := by
  unfold D_X6_placeOf
  have hne : ∀ c : Int32, c < 5 → ¬ x = c := fun c hc z => by
    rw [z] at h5
    exact absurd hc (Int32.not_lt.mpr h5)
  rw [if_neg (hne 0 (by decide)), if_neg (hne 1 (by decide)), if_neg (hne 2 (by decide)), if_neg (hne 3 (by decide)), if_neg (hne 4 (by decide)), m_neighbourOf hs hn hi, Option.bind_some, hk, pl_5, show (72 : Int32) = nI 72 from rfl, show (12 : Int32) = nI 12 from rfl, pk_mul, nI_add, nI_add]
end CT1
