/-! THE CLASS: fill, around -/
theorem an_r {P : Nat → Bool} (t : Nat) : sp_an P 0 (t + 1) = (sp_an P 0 t || P t) := by
  rw [Bool.eq_iff_iff, Bool.or_eq_true, sp_an_iff, sp_an_iff]
  constructor
  · rintro ⟨u, h1, h2, h3⟩
    by_cases e : u = t
    · subst e; exact Or.inr h3
    · exact Or.inl ⟨u, h1, by omega, h3⟩
  · rintro (⟨u, h1, h2, h3⟩ | h)
    · exact ⟨u, h1, by omega, h3⟩
    · exact ⟨t, by omega, by omega, h⟩
theorem mk_or {P Q : Nat → Bool} : nI (sp_mk P 12) ||| nI (sp_mk Q 12) = nI (sp_mk (fun t => P t || Q t) 12) := by
  rw [nx_or]
  congr 1
  apply Nat.eq_of_testBit_eq
  intro t
  rw [Nat.testBit_or, sp_mk_bit, sp_mk_bit, sp_mk_bit]
  cases decide (t < 12) <;> cases P t <;> cases Q t <;> rfl
theorem k_fill_L {q0 n0 : Nat} (hn : n0 < 4096) (v : Int32) {st : sn_S} : ∀ (f j : Nat) (st1 : sn_S), j ≤ n0 → n0 - j < f → st_but q0 st st1 → (∀ k, k < j → st1.1 q0 k = v) → ∃ st2 : sn_S, D_J7_fill_53178_L5 q0 n0 v (nI n0) f (nI j) st1 = some st2 ∧ st_but q0 st st2 ∧ ∀ k, k < n0 → st2.1 q0 k = v
  | 0, j, st1, h1, h2, _, _ => by omega
  | f + 1, j, st1, h1, h2, hB, hk => by
    rw [D_J7_fill_53178_L5.eq_2]
    by_cases e : j = n0
    · subst e
      rw [if_pos (nI_le (Nat.le_refl _) (by omega))]
      exact ⟨st1, rfl, hB, hk⟩
    · have hlt : j < n0 := by omega
      rw [if_neg (nI_ge hlt (by omega)), sn_ix_nI hlt (by omega), Option.bind_some, nI_1]
      refine k_fill_L hn v f (j + 1) _ (by omega) (by omega) (hB.wr _ _) (fun k h => ?_)
      by_cases ek : k = j
      · rw [ek, wr_at]
      · rw [wr_ne _ _ _ ek]; exact hk k (by omega)
theorem k_fill {q0 n0 : Nat} (hn : n0 < 4096) (v : Int32) (st : sn_S) : ∃ st2 : sn_S, D_J7_fill_53178 q0 n0 v st = some st2 ∧ st_but q0 st st2 ∧ ∀ k, k < n0 → st2.1 q0 k = v := by
  unfold D_J7_fill_53178
  exact k_fill_L hn v 4096 0 st (by omega) (by omega) st_but.rf (fun k h => by omega)
section CRA
variable {b n : Nat} {st : sn_S} {s : Nat → Int32}
theorem k_around_L (h0 : st.1 b 0 = nI n) (hl : ∀ i, i < 12 → st.1 (b + 1) i = nI (sp_mk (sp_lk n s i) 12)) (hn : n ≤ 12) {m : Nat} (hm : m < 4096) : ∀ (f t : Nat), t ≤ n → n - t < f → D_X3_around_L4 b (nI m) st f (nI (sp_mk (fun j => m.testBit j || sp_an (fun a => m.testBit a && sp_lk n s a j) 0 t) 12)) (nI t) = some (nI (sp_mk (fun j => m.testBit j || sp_an (fun a => m.testBit a && sp_lk n s a j) 0 n) 12))
  | 0, t, h1, h2 => by omega
  | f + 1, t, h1, h2 => by
    rw [D_X3_around_L4.eq_2, h0]
    by_cases e : t = n
    · subst e
      rw [if_pos (nI_le (Nat.le_refl _) (by omega))]
    · have hlt : t < n := by omega
      have ih := k_around_L h0 hl hn hm f (t + 1) (by omega) (by omega)
      simp only [an_r] at ih
      rw [if_neg (nI_ge hlt (by omega)), k_has (by omega) (by omega), pb_if, nI_1, sn_ix_nI (by omega : t < 12) (by decide), Option.bind_some, hl t (by omega), mk_or]
      cases hb : m.testBit t with
      | false =>
        simp only [hb, Bool.false_and, Bool.or_false] at ih
        exact ih
      | true =>
        simp only [hb, Bool.true_and] at ih
        rw [if_pos rfl]
        simp only [Bool.or_assoc]
        exact ih
theorem k_around (h0 : st.1 b 0 = nI n) (hl : ∀ i, i < 12 → st.1 (b + 1) i = nI (sp_mk (sp_lk n s i) 12)) (hn : n ≤ 12) {m : Nat} (hm : m < 4096) : D_X3_around b (nI m) st = some (nI (sp_mk (fun j => m.testBit j || sp_an (fun a => m.testBit a && sp_lk n s a j) 0 n) 12)) := by
  unfold D_X3_around
  have := k_around_L h0 hl hn hm 4096 0 (by omega) (by omega)
  simp only [sp_an, Bool.or_false] at this
  rw [← sp_mk_of hm] at this
  exact this
end CRA
