/-! THE CLASS: readAgain, one NODE -/
section CRE
variable {b n : Nat} {st : sn_S} {s : Nat → Int32}
theorem k_read_L21 (h0 : st.1 (b + 1) 0 = nI n) (hl : ∀ i, i < 12 → st.1 (b + 1 + 1) i = nI (sp_mk (sp_lk n s i) 12)) (hn : n ≤ 12) {i : Nat} (hi : i < n) (x2 : Int32) (K : Int32 → sn_S → Option sn_S) : ∀ (f k : Nat) (st1 : sn_S), k ≤ 17 → 17 - k < f → st_but (b + 4 + 14 + 1 + i) st st1 → (∀ t, t < k → st1.1 (b + 4 + 14 + 1 + i) t = sp_cs n s i t (st.1 (b + 4 + 1 + 1 + i) t)) → ∃ st2 : sn_S, st_but (b + 4 + 14 + 1 + i) st st2 ∧ (∀ t, t < 17 → st2.1 (b + 4 + 14 + 1 + i) t = sp_cs n s i t (st.1 (b + 4 + 1 + 1 + i) t)) ∧ D_X1_readAgain_L21 (b + 4) (b + 1) x2 (nI i) K f (nI k) st1 = K (nI (i + 1)) st2
  | 0, k, st1, h1, h2, _, _ => by omega
  | f + 1, k, st1, h1, h2, hB, hk => by
    rw [D_X1_readAgain_L21.eq_2]
    by_cases e : k = 17
    · subst e
      rw [if_pos (by decide), nI_1]
      exact ⟨st1, hB, hk, rfl⟩
    · have hlt : k < 17 := by omega
      rw [if_neg (by rw [show (17 : Int32) = nI 17 from rfl]; exact nI_ge hlt (by omega)), sn_ix_nI (by omega : i < 12) (by decide), sn_ix_nI hlt (by decide)]
      simp only [Option.bind_some]
      rw [k_countsAs (s := s) (by rw [hB.1 _ (by omega)]; exact h0) (fun j hj => by rw [hB.1 _ (by omega)]; exact hl j hj) hn hi hlt, Option.bind_some, nI_1, hB.1 (b + 4 + 1 + 1 + i) (by omega)]
      refine k_read_L21 h0 hl hn hi x2 K f (k + 1) _ (by omega) (by omega) (hB.wr _ _) (fun t ht => ?_)
      by_cases et : t = k
      · subst et; rw [wr_at]
      · rw [wr_ne _ _ _ et]; exact hk t (by omega)
end CRE
