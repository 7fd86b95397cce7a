/-! THE CLASS: open -/
section CS6
variable {b n : Nat} {st : sn_S} {s : Nat → Int32}
def rw_0 (k : Nat) : Int32 := if k = 1 then -1 else 0
theorem k_rowsClear_L : ∀ (f t : Nat) (st1 : sn_S), t ≤ 12 → 12 - t < f → (∀ a, (a < b + 2 ∨ a = b + 14 ∨ b + 28 < a) → st1.1 a = st.1 a) → st1.2 = st.2 → (∀ i, i < t → ∀ k, k < 17 → st1.1 (b + 1 + 1 + i) k = rw_0 k ∧ st1.1 (b + 14 + 1 + i) k = rw_0 k) → ∃ st2 : sn_S, D_X1_clear_L2 b f (nI t) st1 = some st2 ∧ (∀ a, (a < b + 2 ∨ a = b + 14 ∨ b + 28 < a) → st2.1 a = st.1 a) ∧ st2.2 = st.2 ∧ (∀ i, i < 12 → ∀ k, k < 17 → st2.1 (b + 1 + 1 + i) k = rw_0 k ∧ st2.1 (b + 14 + 1 + i) k = rw_0 k) ∧ ∀ i, i < 12 → st2.1 (b + 27) i = 0 ∧ st2.1 (b + 28) i = 0
  | 0, t, st1, h1, h2, _, _, _ => by omega
  | f + 1, t, st1, h1, h2, hB, hB2, hk => by
    rw [D_X1_clear_L2.eq_2]
    by_cases e : t = 12
    · subst e
      rw [if_pos (by decide)]
      obtain ⟨st2, g1, g2, g3⟩ := k_fill (q0 := b + 27) (n0 := 12) (by omega) 0 st1
      obtain ⟨st3, k1, k2, k3⟩ := k_fill (q0 := b + 28) (n0 := 12) (by omega) 0 st2
      rw [g1, Option.bind_some, k1, Option.bind_some]
      refine ⟨st3, rfl, fun a ha => by rw [k2.1 a (by omega), g2.1 a (by omega), hB a ha], by rw [k2.2, g2.2, hB2], fun i hi k hk2 => ?_, fun i hi => ?_⟩
      · rw [k2.1 _ (by omega), k2.1 _ (by omega), g2.1 _ (by omega), g2.1 _ (by omega)]; exact hk i hi k hk2
      · rw [k2.1 (b + 27) (by omega)]; exact ⟨g3 i hi, k3 i hi⟩
    · have hlt : t < 12 := by omega
      rw [if_neg (by rw [show (12 : Int32) = nI 12 from rfl]; exact nI_ge hlt (by omega)), sn_ix_nI hlt (by decide)]
      simp only [Option.bind_some]
      obtain ⟨st2, g1, g2, g3⟩ := k_fill (q0 := b + 1 + 1 + t) (n0 := 17) (by omega) 0 st1
      obtain ⟨st3, k1, k2, k3⟩ := k_fill (q0 := b + 14 + 1 + t) (n0 := 17) (by omega) 0 st2
      rw [g1, Option.bind_some, k1, Option.bind_some, nI_1]
      refine k_rowsClear_L f (t + 1) _ (by omega) (by omega) (fun a ha => ?_) ?_ (fun i hi k hk2 => ?_)
      · rw [wr_o _ _ _ (by omega), wr_o _ _ _ (by omega), k2.1 a (by omega), g2.1 a (by omega), hB a ha]
      · rw [wr_2, wr_2, k2.2, g2.2, hB2]
      · by_cases ei : i = t
        · subst ei
          refine ⟨?_, ?_⟩
          · rw [wr_o _ _ _ (by omega)]
            unfold rw_0
            by_cases c : k = 1
            · rw [c, wr_at, if_pos rfl]
            · rw [wr_ne _ _ _ c, k2.1 _ (by omega), g3 k hk2, if_neg c]
          · unfold rw_0
            by_cases c : k = 1
            · rw [c, wr_at, if_pos rfl]
            · rw [wr_ne _ _ _ c, wr_o _ _ _ (by omega), k3 k hk2, if_neg c]
        · rw [wr_o _ _ _ (by omega), wr_o _ _ _ (by omega), wr_o _ _ _ (by omega), wr_o _ _ _ (by omega), k2.1 _ (by omega), k2.1 _ (by omega), g2.1 _ (by omega), g2.1 _ (by omega)]
          exact hk i (by omega) k hk2
theorem k_rowsClear (st : sn_S) : ∃ st2 : sn_S, D_X1_clear b st = some st2 ∧ (∀ a, (a < b + 2 ∨ a = b + 14 ∨ b + 28 < a) → st2.1 a = st.1 a) ∧ st2.2 = st.2 ∧ (∀ i, i < 12 → ∀ k, k < 17 → st2.1 (b + 1 + 1 + i) k = rw_0 k ∧ st2.1 (b + 14 + 1 + i) k = rw_0 k) ∧ ∀ i, i < 12 → st2.1 (b + 27) i = 0 ∧ st2.1 (b + 28) i = 0 := by
  unfold D_X1_clear
  exact k_rowsClear_L 4096 0 st (by omega) (by omega) (fun _ _ => rfl) rfl (fun i h => by omega)
theorem k_tallyClear (st : sn_S) : ∃ st2 : sn_S, D_X4_clear b st = some st2 ∧ (∀ a, (a < b ∨ b + 2 < a) → st2.1 a = st.1 a) ∧ st2.2 = st.2 ∧ (∀ k, k < 4 → st2.1 b k = 0) ∧ (∀ k, k < 4 → st2.1 (b + 1) k = 0) ∧ ∀ k, k < 12 → st2.1 (b + 2) k = 0 := by
  unfold D_X4_clear
  obtain ⟨st2, g1, g2, g3⟩ := k_fill (q0 := b + 1) (n0 := 4) (by omega) 0 (sn_wr (sn_wr (sn_wr (sn_wr st b 0 (0 : Int32)) b 1 (0 : Int32)) b 2 (0 : Int32)) b 3 (0 : Int32))
  obtain ⟨st3, k1, k2, k3⟩ := k_fill (q0 := b + 2) (n0 := 12) (by omega) 0 st2
  rw [g1, Option.bind_some, k1, Option.bind_some]
  refine ⟨st3, rfl, fun a ha => by rw [k2.1 a (by omega), g2.1 a (by omega), wr_o _ _ _ (by omega), wr_o _ _ _ (by omega), wr_o _ _ _ (by omega), wr_o _ _ _ (by omega)], by rw [k2.2, g2.2]; rfl, fun k hk => ?_, fun k hk => by rw [k2.1 _ (by omega)]; exact g3 k hk, k3⟩
  rw [k2.1 _ (by omega), g2.1 _ (by omega)]
  rcases (show k = 0 ∨ k = 1 ∨ k = 2 ∨ k = 3 by omega) with q | q | q | q
  · subst q; rw [wr_ne _ _ _ (by omega), wr_ne _ _ _ (by omega), wr_ne _ _ _ (by omega), wr_at]
  · subst q; rw [wr_ne _ _ _ (by omega), wr_ne _ _ _ (by omega), wr_at]
  · subst q; rw [wr_ne _ _ _ (by omega), wr_at]
  · subst q; rw [wr_at]
/-- an array with no LINK, not built -/
def ci_0 (n : Nat) (s : Nat → Int32) : Prop := s 360 = nI n ∧ (2 ≤ n ∧ n ≤ 12) ∧ ∀ k, k < 374 → k ≠ 360 → k ≠ 370 → k ≠ 371 → s k = sp_ov k
theorem ov_0 {k : Nat} (h : k < 24 ∨ 36 ≤ k) : sp_ov k = 0 := by unfold sp_ov; rw [if_neg (by omega)]
theorem ci_0.z (h : ci_0 n s) {k : Nat} (h1 : k < 374) (h2 : k ≠ 360 ∧ k ≠ 370 ∧ k ≠ 371) (h3 : k < 24 ∨ 36 ≤ k) : s k = 0 := (h.2.2 k h1 h2.1 h2.2.1 h2.2.2).trans (ov_0 h3)
theorem ci_0.p (h : ci_0 n s) {i : Nat} (hi : i < 12) : s (24 + i) = -1 := (h.2.2 _ (by omega) (by omega) (by omega) (by omega)).trans (by unfold sp_ov; rw [if_pos (by omega)])
theorem ci_0.lk (h : ci_0 n s) (i j : Nat) : sp_lk n s i j = false := by
  have hn := h.2.1
  unfold sp_lk
  by_cases c1 : i < n
  · by_cases c2 : j < n
    · rw [h.z (by omega) (by omega) (by omega)]
      simp
    · rw [decide_eq_false c2, Bool.false_and, Bool.and_false]
  · rw [decide_eq_false c1, Bool.false_and]
theorem pr_m1 {i : Nat} (h : s (24 + i) = -1) : sp_pr n s i = -1 := by
  unfold sp_pr
  split
  · exact h
  · rfl
theorem ci_0.ci (h : ci_0 n s) : ci n s := by
  have hn := h.2.1
  have h361 : s 361 = 0 := h.z (by omega) (by omega) (by omega)
  refine ⟨⟨h.1, hn⟩, Or.inl h361, fun i j h1 h2 => ?_, fun i j => ?_, fun i => h.lk i i, fun i j h1 h2 _ => h.z (by omega) (by omega) (by omega), fun _ => ⟨fun i hi => h.p hi, fun k h1 h2 => h.z (by omega) (by omega) (by omega), h.z (by omega) (by omega) (by omega)⟩, fun z => ?_, ⟨0, by omega, h.z (by omega) (by omega) (by omega)⟩⟩
  · rw [h.lk, h.z (by omega) (by omega) (by omega)]; rfl
  · rw [h.lk, h.lk]
  · rw [h361] at z; cases z
theorem op_ci0 (hn : 2 ≤ n ∧ n ≤ 12) : ci_0 n (upd (sp_op s (nI n) 374) 360 (nI n)) := by
  refine ⟨pk_us, hn, fun k h1 h2 h3 h4 => ?_⟩
  rw [pk_un h2]
  unfold sp_op
  rw [if_pos ⟨h1, h3, h4⟩]
/-- a NET as it is at first holds such an array -/
theorem cw_0 (h : ci_0 n s) (h0 : st.1 (b + 1) 0 = nI n) (hl : ∀ i, i < 12 → st.1 (b + 1 + 1) i = 0) (hf : ∀ i, i < 12 → st.1 (b + 1 + 2) i = sp_fa n s n i) (hr : ∀ i, i < 12 → ∀ k, k < 17 → st.1 (b + 4 + 1 + 1 + i) k = rw_0 k ∧ st.1 (b + 4 + 14 + 1 + i) k = rw_0 k) (hc : ∀ i, i < 12 → st.1 (b + 4 + 27) i = 0 ∧ st.1 (b + 4 + 28) i = 0) (ht : ∀ k, k < 4 → st.1 (b + 33) k = 0) (hd : ∀ k, k < 4 → st.1 (b + 33 + 1) k = 0) (he : ∀ k, k < 12 → st.1 (b + 33 + 2) k = 0) (hb3 : st.1 b 3 = 0) (hb4 : st.1 b 4 = s 370) (hb5 : st.1 b 5 = s 371) (hb6 : st.1 b 6 = 0) (hb7 : st.1 b 7 = 0) (hb8 : st.1 b 8 = 0) : cw b n st s := by
  have hn := h.2.1
  have r0 : ∀ k, k ≠ 1 → rw_0 k = 0 := fun k hk => by unfold rw_0; rw [if_neg hk]
  have r1 : rw_0 1 = -1 := rfl
  have h361 : s 361 = 0 := h.z (by omega) (by omega) (by omega)
  refine ⟨⟨h0, fun i hi => ?_, fun i hi => ?_, fun i hi => ?_, fun i hi => ?_⟩, fun i hi => ?_, ?_, hf, ?_, hb4, hb5, ?_, ?_, ?_⟩
  · rw [hl i hi]; exact mk_emp (fun t _ => h.lk i t)
  · refine ⟨?_, ?_, ?_, ?_, ?_, fun j hj => ?_⟩
    · rw [(hr i hi 0 (by omega)).2, r0 0 (by omega)]
      unfold sp_di
      rw [h.z (by omega) (by omega) (by omega), show sp_in 0 0 (nI n) = true from decide_eq_true ⟨Int32.le_refl _, nI_pos' (by omega)⟩, if_pos rfl]
    · rw [(hr i hi 1 (by omega)).2, r1, pr_m1 (h.p hi)]
    · rw [(hr i hi 2 (by omega)).2, r0 2 (by omega)]
      unfold sp_ph
      rw [h.z (by omega) (by omega) (by omega)]
      rfl
    · rw [(hr i hi 3 (by omega)).2, r0 3 (by omega), h.z (by omega) (by omega) (by omega)]
    · rw [(hr i hi 4 (by omega)).2, r0 4 (by omega), h.z (by omega) (by omega) (by omega)]
    · rw [(hr i hi (5 + j) (by omega)).2, r0 (5 + j) (by omega)]
      unfold sp_xv
      rw [h.z (by omega) (by omega) (by omega)]
      split <;> rfl
  · rw [(hc i (by omega)).1]
    exact mk_emp (fun t _ => by unfold sp_ch; rw [h.lk, Bool.false_and])
  · rw [(hc i (by omega)).2]
    exact mk_emp (fun t ht2 => by
      unfold sp_ti sp_ch
      rw [h.lk, Bool.false_and, Bool.false_or, pr_m1 (h.p (by omega))]
      exact decide_eq_false (fun z => nI_m1 (by omega) z.symm))
  · refine ⟨?_, ?_, ?_, ?_, ?_, fun j hj => ?_⟩
    · rw [(hr i hi 0 (by omega)).1, r0 0 (by omega), h.z (by omega) (by omega) (by omega)]
    · rw [(hr i hi 1 (by omega)).1, r1, h.p hi]
    · rw [(hr i hi 2 (by omega)).1, r0 2 (by omega), h.z (by omega) (by omega) (by omega)]
    · rw [(hr i hi 3 (by omega)).1, r0 3 (by omega), h.z (by omega) (by omega) (by omega)]
    · rw [(hr i hi 4 (by omega)).1, r0 4 (by omega), h.z (by omega) (by omega) (by omega)]
    · rw [(hr i hi (5 + j) (by omega)).1, r0 (5 + j) (by omega), h.z (by omega) (by omega) (by omega)]
  · refine ⟨?_, ?_, ?_, ?_, fun r hr2 => ?_, fun i hi => ?_⟩
    · rw [ht 0 (by omega), h.z (by omega) (by omega) (by omega)]
    · rw [ht 1 (by omega), h.z (by omega) (by omega) (by omega)]
    · rw [ht 2 (by omega), h.z (by omega) (by omega) (by omega)]
    · rw [ht 3 (by omega), h.z (by omega) (by omega) (by omega)]
    · rw [hd r hr2, h.z (by omega) (by omega) (by omega)]
    · rw [he i hi, h.z (by omega) (by omega) (by omega)]
  · rw [hb3, h361]
  · rw [hb6, h.z (by omega) (by omega) (by omega)]
  · rw [hb7]; unfold sp_pe; rw [if_neg (by rw [h361]; decide)]
  · rw [hb8, h.z (by omega) (by omega) (by omega)]
theorem k_clear (hn : 2 ≤ n ∧ n ≤ 12) {s0 : Nat → Int32} (h4 : st.1 b 4 = s0 370) (h5 : st.1 b 5 = s0 371) : ∃ st2 : sn_S, D_X0_clear b (nI n) st = some st2 ∧ cw b n st2 (upd (sp_op s0 (nI n) 374) 360 (nI n)) ∧ cf b st st2 := by
  have h0 := op_ci0 (s := s0) hn
  have e370 : upd (sp_op s0 (nI n) 374) 360 (nI n) 370 = s0 370 := by rw [pk_un (by omega)]; unfold sp_op; rw [if_neg (by omega)]
  have e371 : upd (sp_op s0 (nI n) 374) 360 (nI n) 371 = s0 371 := by rw [pk_un (by omega)]; unfold sp_op; rw [if_neg (by omega)]
  generalize upd (sp_op s0 (nI n) 374) 360 (nI n) = s at h0 e370 e371 ⊢
  unfold D_X0_clear D_X3_clear
  obtain ⟨st1, g1, g2, g3⟩ := k_fill (q0 := b + 1 + 1) (n0 := 12) (by omega) 0 (sn_wr st (b + 1) 0 (nI n))
  have c0 : st1.1 (b + 1) 0 = nI n := by rw [g2.1 _ (by omega), wr_at]
  obtain ⟨st2, k1, k2, k3⟩ := k_measure (b := b + 1) (st := st1) (s := s) c0 (fun i hi => by rw [g3 i hi]; exact mk_emp (fun t _ => h0.lk i t)) (by omega) hn.2
  obtain ⟨st3, m1, m2, m3, m4, m5⟩ := k_rowsClear (b := b + 4) st2
  obtain ⟨st4, p1, p2, p3, p4, p5, p6⟩ := k_tallyClear (b := b + 33) st3
  rw [g1, Option.bind_some, k1, Option.bind_some, Option.bind_some, m1, Option.bind_some, p1, Option.bind_some]
  have hw : ∀ (st5 : sn_S) (a : Nat), a ≠ b → (sn_wr (sn_wr (sn_wr (sn_wr st5 b 3 (0 : Int32)) b 6 (0 : Int32)) b 7 (0 : Int32)) b 8 (0 : Int32)).1 a = st5.1 a := fun st5 a ha => by rw [wr_o _ _ _ ha, wr_o _ _ _ ha, wr_o _ _ _ ha, wr_o _ _ _ ha]
  have hb : ∀ k, st4.1 b k = st.1 b k := fun k => by rw [p2 _ (by omega), m2 _ (by omega), k2.1 _ (by omega), g2.1 _ (by omega), wr_o _ _ _ (by omega)]
  refine ⟨_, rfl, cw_0 h0 ?_ (fun i hi => ?_) (fun i hi => ?_) (fun i hi k hk => ?_) (fun i hi => ?_) (fun k hk => ?_) (fun k hk => ?_) (fun k hk => ?_) ?_ ?_ ?_ ?_ ?_ ?_, fun a ha => ?_, ?_⟩
  · rw [hw _ _ (by omega), p2 _ (by omega), m2 _ (by omega), k2.1 _ (by omega)]; exact c0
  · rw [hw _ _ (by omega), p2 _ (by omega), m2 _ (by omega), k2.1 _ (by omega)]; exact g3 i hi
  · rw [hw _ _ (by omega), p2 _ (by omega), m2 _ (by omega)]; exact k3 i hi
  · rw [hw _ _ (by omega), hw _ _ (by omega), p2 _ (by omega), p2 _ (by omega)]; exact m4 i hi k hk
  · rw [hw _ _ (by omega), hw _ _ (by omega), p2 _ (by omega), p2 _ (by omega)]; exact m5 i hi
  · rw [hw _ _ (by omega)]; exact p4 k hk
  · rw [hw _ _ (by omega)]; exact p5 k hk
  · rw [hw _ _ (by omega)]; exact p6 k hk
  · rw [wr_ne _ _ _ (by omega), wr_ne _ _ _ (by omega), wr_ne _ _ _ (by omega), wr_at]
  · rw [wr_ne _ _ _ (by omega), wr_ne _ _ _ (by omega), wr_ne _ _ _ (by omega), wr_ne _ _ _ (by omega), hb, e370]; exact h4
  · rw [wr_ne _ _ _ (by omega), wr_ne _ _ _ (by omega), wr_ne _ _ _ (by omega), wr_ne _ _ _ (by omega), hb, e371]; exact h5
  · rw [wr_ne _ _ _ (by omega), wr_ne _ _ _ (by omega), wr_at]
  · rw [wr_ne _ _ _ (by omega), wr_at]
  · rw [wr_at]
  · rw [hw _ _ (by omega), p2 _ (by omega), m2 _ (by omega), k2.1 _ (by omega), g2.1 _ (by omega), wr_o _ _ _ (by omega)]
  · show st4.2 = st.2
    rw [p3, m3, k2.2, g2.2]; rfl
end CS6
