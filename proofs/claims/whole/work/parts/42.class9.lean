/-! THE CLASS: doRules -/
section CR9
variable {b n : Nat} {st : sn_S} {s nx : Nat → Int32}
theorem k_doRing0 (hV : cr_V b n st s) (hn : n ≤ 12) {i : Nat} (hi : i < n) (hf : sp_fr n s i = -1) : D_X2_doRing b (nI i) st = some st := by
  unfold D_X2_doRing
  rw [k_rightsOf hV hn hi, Option.bind_some, k_first hV hn hi, Option.bind_some, if_pos hf]
theorem cr_F.trans {i : Nat} {st1 st2 : sn_S} (h1 : cr_F b i st st1) (h2 : cr_F b i st1 st2) : cr_F b i st st2 := ⟨fun a x y z w => (h2.1 a x y z w).trans (h1.1 a x y z w), h2.2.trans h1.2⟩
theorem k_doRules (hV : cr_V b n st s) (hn0 : 0 < n) (hn : n ≤ 12) (hO : cr_O b st nx) (hT : cr_T b st nx) {i : Nat} (hi : i < n) (hnb : i ≠ 0 → ∃ j, j < n ∧ sp_lk n s i j = true) (hs : sp_fs s nx i) (hx : ∀ j, j < 12 → sp_lk n s i j = false → s (72 + 12 * i + j) = 0) (hr : ¬ sp_ru n s i = -1) : ∃ st' : sn_S, D_X2_doRules b (nI i) st = some st' ∧ cr_F b i st st' ∧ cr_V b n st' s ∧ cr_O b st' (sp_na n s nx i) ∧ cr_T b st' (sp_na n s nx i) := by
  have hOi : cr_Oi b st s i := by
    obtain ⟨o0, o1, o2, o3, o4, o5⟩ := hO i (by omega)
    exact ⟨o0.trans (hs _ (by omega)), o1.trans (hs _ (by omega)), o2.trans (hs _ (by omega)), o3.trans (hs _ (by omega)), o4.trans (hs _ (by omega)), fun j hj => (o5 j hj).trans (hs _ (by omega))⟩
  unfold D_X2_doRules sp_na
  rw [k_firstRule hV hn hi hnb hOi hx, Option.bind_some]
  have hsane : sp_sa n s i = true → sp_in (s (36 + i)) 0 2 = true := fun h => by
    unfold sp_sa at h
    simp only [Bool.and_eq_true] at h
    exact h.2.2.1
  have hru : sp_ru n s i = 3 → sp_sa n s i = true ∧ sp_wp n s i (s (36 + i)) = s (36 + i) := fun h => by
    unfold sp_ru at h
    by_cases h1 : sp_sa n s i = true
    · rw [if_pos h1] at h
      by_cases h2 : s (12 + i) = sp_td n s i
      · rw [if_pos h2] at h
        by_cases h3 : s (24 + i) = sp_tp n s i
        · rw [if_pos h3] at h
          by_cases h4 : sp_wp n s i (s (36 + i)) = s (36 + i)
          · exact ⟨h1, h4⟩
          · rw [if_neg h4] at h; cases h
        · rw [if_neg h3] at h; cases h
      · rw [if_neg h2] at h; cases h
    · rw [if_neg h1] at h; cases h
  have hru2 : sp_ru n s i = 2 → ¬ sp_wp n s i (s (36 + i)) = s (36 + i) := fun h h4 => by
    unfold sp_ru at h
    rw [if_pos h4] at h
    split at h
    · split at h
      · split at h
        · split at h <;> cases h
        · cases h
      · cases h
    · cases h
  rcases sp_ru_or (n := n) (s := s) (i := i) with h | h | h | ⟨h, h2⟩ | ⟨h, h2⟩
  · exact absurd h hr
  · rw [h, if_pos rfl, if_pos rfl, pb_id]
    exact k_doSane hV hn hO hT hi hs (fun j h1 h2 => hx j h2 h1)
  · rw [h, if_neg (by decide), if_pos rfl, if_neg (by decide), if_pos rfl, pb_id]
    exact k_doTree hV hn hO hT hi hnb
  · rw [h, if_neg (by decide), if_neg (by decide), if_neg (by decide), if_neg (by decide), if_pos rfl]
    obtain ⟨st1, g1, g2, g3, g4, g5⟩ := k_doWave hV hn hO hT hi (hsane h2) (hru2 h)
    rw [g1, Option.bind_some, pb_id]
    by_cases c : sp_fr n s i = -1
    · rw [if_pos c, k_doRing0 g3 hn hi c]
      exact ⟨st1, rfl, g2, g3, g4, g5⟩
    · rw [if_neg c]
      obtain ⟨st2, k1, k2, k3, k4, k5⟩ := k_doRing g3 hn0 hn g4 g5 hi c
      exact ⟨st2, k1, g2.trans k2, k3, k4, k5⟩
  · obtain ⟨q1, q2⟩ := hru h
    rw [h, if_neg (by decide), if_neg (by decide), if_neg (by decide), if_neg (by decide), if_neg (by decide), k_doWave0 hV hn hi (hsane q1) q2, Option.bind_some, pb_id]
    exact k_doRing hV hn0 hn hO hT hi h2
end CR9
