/-! THE CLASS: readAgain over the NODES -/
section CRF
variable {b n : Nat} {st : sn_S} {s : Nat → Int32}
theorem k_read_L2 (h0 : st.1 (b + 1) 0 = nI n) (hl : ∀ i, i < 12 → st.1 (b + 1 + 1) i = nI (sp_mk (sp_lk n s i) 12)) (hn : n ≤ 12) {m : Nat} (hm : m < 4096) : ∀ (f t : Nat) (st1 : sn_S), t ≤ n → n - t < f → (∀ a, (∀ j, j < 12 → a ≠ b + 4 + 14 + 1 + j) → st1.1 a = st.1 a) → st1.2 = st.2 → (∀ j, j < 12 → ∀ k, k < 17 → st1.1 (b + 4 + 14 + 1 + j) k = if j < t ∧ m.testBit j = true then sp_cs n s j k (st.1 (b + 4 + 1 + 1 + j) k) else st.1 (b + 4 + 14 + 1 + j) k) → ∃ st2 : sn_S, D_X1_readAgain_L2 (b + 4) (b + 1) (nI m) f (nI t) st1 = D_X1_tieAgain (b + 4) (nI n) st2 ∧ (∀ a, (∀ j, j < 12 → a ≠ b + 4 + 14 + 1 + j) → st2.1 a = st.1 a) ∧ st2.2 = st.2 ∧ (∀ j, j < 12 → ∀ k, k < 17 → st2.1 (b + 4 + 14 + 1 + j) k = if j < n ∧ m.testBit j = true then sp_cs n s j k (st.1 (b + 4 + 1 + 1 + j) k) else st.1 (b + 4 + 14 + 1 + j) k)
  | 0, t, st1, h1, h2, _, _, _ => by omega
  | f + 1, t, st1, h1, h2, hB, hB2, hk => by
    have h01 : st1.1 (b + 1) 0 = nI n := by rw [hB _ (fun j hj => by omega)]; exact h0
    rw [D_X1_readAgain_L2.eq_2, h01]
    by_cases e : t = n
    · subst e
      rw [if_pos (nI_le (Nat.le_refl _) (by omega)), pb_id]
      exact ⟨st1, rfl, hB, hB2, hk⟩
    · have hlt : t < n := by omega
      have ih := fun st1 => k_read_L2 h0 hl hn hm f (t + 1) st1 (by omega) (by omega)
      rw [if_neg (nI_ge hlt (by omega)), k_has (by omega) (by omega), pb_if, nI_1]
      cases hb : m.testBit t with
      | false =>
        refine ih st1 hB hB2 (fun j hj k hk2 => ?_)
        rw [hk j hj k hk2]
        by_cases ej : j = t
        · subst ej; rw [if_neg (by omega), if_neg (fun z => by rw [hb] at z; cases z.2)]
        · by_cases c : j < t ∧ m.testBit j = true
          · rw [if_pos c, if_pos ⟨by omega, c.2⟩]
          · rw [if_neg c, if_neg (fun z => c ⟨by omega, z.2⟩)]
      | true =>
        rw [if_pos rfl]
        obtain ⟨st2, g1, g2, g3⟩ := k_read_L21 (st := st1) (s := s) h01 (fun j hj => by rw [hB _ (fun q hq => by omega)]; exact hl j hj) hn hlt (nI m) (fun y3 yt => D_X1_readAgain_L2 (b + 4) (b + 1) (nI m) f y3 yt) 4096 0 st1 (by omega) (by omega) st_but.rf (fun q h => by omega)
        have g3' : D_X1_readAgain_L21 (b + 4) (b + 1) (nI m) (nI t) (fun y3 yt => D_X1_readAgain_L2 (b + 4) (b + 1) (nI m) f y3 yt) 4096 0 st1 = _ := g3
        rw [g3']
        refine ih st2 (fun a ha => (g1.1 a (ha t (by omega))).trans (hB a ha)) (g1.2.trans hB2) (fun j hj k hk2 => ?_)
        by_cases ej : j = t
        · subst ej
          rw [g2 k hk2, if_pos ⟨by omega, hb⟩, hB (b + 4 + 1 + 1 + j) (fun q hq => by omega)]
        · rw [g1.1 _ (by omega), hk j hj k hk2]
          by_cases c : j < t ∧ m.testBit j = true
          · rw [if_pos c, if_pos ⟨by omega, c.2⟩]
          · rw [if_neg c, if_neg (fun z => c ⟨by omega, z.2⟩)]
end CRF
