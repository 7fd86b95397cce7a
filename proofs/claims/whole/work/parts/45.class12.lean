/-! THE CLASS: tieAgain whole -/
section CRC
variable {b n : Nat} {st : sn_S} {s : Nat → Int32}
theorem ct_C_n (hn : n ≤ 12) (hsym : ∀ i j, sp_lk n s i j = sp_lk n s j i) {i j : Nat} (hi : i < n) (hj : j < 12) : ct_C n s n i j = sp_ch n s i j := by
  unfold ct_C sp_ch
  by_cases c : sp_pr n s j = nI i
  · rw [decide_eq_true c, Bool.and_true, Bool.and_true]
    rcases sp_pr_ok (s := s) hn j with z | ⟨p, hp, he, hl⟩
    · rw [z] at c; exact absurd c.symm (nI_m1 (by omega))
    · rw [he] at c
      have e := (nI_eq (by omega) (by omega)).mp c
      subst e
      have hjn : j < n := by
        have := hl
        unfold sp_lk at this
        simp at this
        exact this.1
      rw [decide_eq_true hjn, hsym, hl]
  · rw [decide_eq_false c, Bool.and_false, Bool.and_false]
theorem ct_T_n (hn : n ≤ 12) (hsym : ∀ i j, sp_lk n s i j = sp_lk n s j i) {i j : Nat} (hi : i < n) (hj : j < 12) : ct_T n s n i j = sp_ti n s i j := by
  unfold ct_T sp_ti
  rw [ct_C_n hn hsym hi hj, decide_eq_true hi, Bool.true_and]
theorem k_tieAgain (hn : n ≤ 12) (hself : ∀ i, sp_lk n s i i = false) (hsym : ∀ i j, sp_lk n s i j = sp_lk n s j i) (hp : ∀ i, i < 12 → st.1 (b + 14 + 1 + i) 1 = sp_pr n s i) : ∃ st2 : sn_S, D_X1_tieAgain b (nI n) st = some st2 ∧ (∀ a, a ≠ b + 27 → a ≠ b + 28 → st2.1 a = st.1 a) ∧ st2.2 = st.2 ∧ (∀ i, i < n → st2.1 (b + 27) i = nI (sp_mk (sp_ch n s i) 12)) ∧ (∀ i, i < n → st2.1 (b + 28) i = nI (sp_mk (sp_ti n s i) 12)) := by
  unfold D_X1_tieAgain
  obtain ⟨st1, g1, g2, g3⟩ := k_fill (q0 := b + 27) (n0 := 12) (by omega) 0 st
  obtain ⟨st2, k1, k2, k3⟩ := k_fill (q0 := b + 28) (n0 := 12) (by omega) 0 st1
  have z0 : ∀ P : Nat → Bool, (∀ j, P j = false) → nI (sp_mk P 12) = 0 := fun P h => mk_0.mpr (fun t _ => h t)
  have hC0 : ∀ i j, ct_C n s 0 i j = false := fun i j => by unfold ct_C; rw [decide_eq_false (by omega), Bool.false_and]
  have hT0 : ∀ i j, ct_T n s 0 i j = false := fun i j => by unfold ct_T; rw [hC0, decide_eq_false (by omega), Bool.false_and, Bool.or_false]
  obtain ⟨st3, m1, m2, m3, m4, m5⟩ := k_tie_L (b := b) (st := st) (s := s) hn hself 4096 0 st2 (by omega) (by omega) (fun a h1 h2 => (k2.1 a h2).trans (g2.1 a h1)) (k2.2.trans g2.2) hp (fun i hi => by rw [k2.1 _ (by omega), g3 i hi, z0 _ (hC0 i)]) (fun i hi => by rw [k3 i hi, z0 _ (hT0 i)])
  rw [g1, Option.bind_some, k1, Option.bind_some]
  refine ⟨st3, m1, m2, m3, fun i hi => ?_, fun i hi => ?_⟩
  · rw [m4 i (by omega), sp_mk_congr 12 (fun j hj => ct_C_n hn hsym hi hj)]
  · rw [m5 i (by omega), sp_mk_congr 12 (fun j hj => ct_T_n hn hsym hi hj)]
end CRC
