/-! THE CLASS: tieAgain -/
theorem mk_one : ∀ t, t < 12 → (2 : Nat) ^ t = sp_mk (fun j => decide (j = t)) 12 := by decide +kernel
def ct_C (n : Nat) (s : Nat → Int32) (t i j : Nat) : Bool := decide (j < t) && decide (sp_pr n s j = nI i)
def ct_T (n : Nat) (s : Nat → Int32) (t i j : Nat) : Bool := ct_C n s t i j || (decide (i < t) && decide (sp_pr n s i = nI j))
section CRB
variable {b n : Nat} {st : sn_S} {s : Nat → Int32}
theorem k_tie_L (hn : n ≤ 12) (hself : ∀ i, sp_lk n s i i = false) : ∀ (f t : Nat) (st1 : sn_S), t ≤ n → n - t < f → (∀ a, a ≠ b + 27 → a ≠ b + 28 → st1.1 a = st.1 a) → st1.2 = st.2 → (∀ i, i < 12 → st.1 (b + 14 + 1 + i) 1 = sp_pr n s i) → (∀ i, i < 12 → st1.1 (b + 27) i = nI (sp_mk (ct_C n s t i) 12)) → (∀ i, i < 12 → st1.1 (b + 28) i = nI (sp_mk (ct_T n s t i) 12)) → ∃ st2 : sn_S, D_X1_tieAgain_L18 b (nI n) f (nI t) st1 = some st2 ∧ (∀ a, a ≠ b + 27 → a ≠ b + 28 → st2.1 a = st.1 a) ∧ st2.2 = st.2 ∧ (∀ i, i < 12 → st2.1 (b + 27) i = nI (sp_mk (ct_C n s n i) 12)) ∧ (∀ i, i < 12 → st2.1 (b + 28) i = nI (sp_mk (ct_T n s n i) 12))
  | 0, t, st1, h1, h2, _, _, _, _, _ => by omega
  | f + 1, t, st1, h1, h2, hB, hB2, hp, hC, hT => by
    rw [D_X1_tieAgain_L18.eq_2]
    by_cases e : t = n
    · subst e
      rw [if_pos (nI_le (Nat.le_refl _) (by omega))]
      exact ⟨st1, rfl, hB, hB2, hC, hT⟩
    · have hlt : t < n := by omega
      have ih := fun st1 => k_tie_L hn hself f (t + 1) st1 (by omega) (by omega)
      have hrow : st1.1 (b + 14 + 1 + t) 1 = sp_pr n s t := by rw [hB _ (by omega) (by omega)]; exact hp t (by omega)
      rw [if_neg (nI_ge hlt (by omega)), sn_ix_nI (by omega : t < 12) (by decide), Option.bind_some, hrow, nI_1]
      rcases sp_pr_ok (s := s) hn t with z | ⟨p, hpn, hpe, hpl⟩
      · rw [z, if_pos (by decide)]
        have cc : ∀ i, i < 12 → ∀ j, ct_C n s (t + 1) i j = ct_C n s t i j := fun i hi j => by
          unfold ct_C
          by_cases ej : j = t
          · subst ej
            have hz : ¬ (-1 : Int32) = nI i := fun q => nI_m1 (by omega) q.symm
            rw [z, decide_eq_false hz, Bool.and_false, Bool.and_false]
          · rw [show decide (j < t + 1) = decide (j < t) from decide_eq_decide.mpr (by omega)]
        refine ih st1 hB hB2 hp (fun i hi => ?_) (fun i hi => ?_)
        · rw [hC i hi, sp_mk_congr 12 (fun j _ => (cc i hi j).symm)]
        · rw [hT i hi, sp_mk_congr 12 (fun j hj => ?_)]
          unfold ct_T
          rw [cc i hi j]
          by_cases ei : i = t
          · subst ei
            have hz : ¬ (-1 : Int32) = nI j := fun q => nI_m1 (by omega) q.symm
            rw [z, decide_eq_false hz, Bool.and_false, Bool.and_false]
          · rw [show decide (i < t + 1) = decide (i < t) from decide_eq_decide.mpr (by omega)]
      · have hpt : p ≠ t := fun q => by rw [q, hself] at hpl; cases hpl
        rw [hpe, if_neg (nI_pos (by omega)), if_neg (nI_ge hpn (by omega)), sn_ix_nI (by omega : p < 12) (by decide), Option.bind_some, Option.bind_some, Option.bind_some, Option.bind_some, Option.bind_some, Option.bind_some, sh_1 t (by omega), sh_1 p (by omega), mk_one t (by omega), mk_one p (by omega)]
        have cp : ∀ i, i < 12 → ∀ j, ct_C n s (t + 1) i j = (ct_C n s t i j || (decide (i = p) && decide (j = t))) := fun i hi j => by
          unfold ct_C
          by_cases ej : j = t
          · subst ej
            rw [hpe, decide_eq_true (show j < j + 1 by omega), decide_eq_false (show ¬ j < j by omega), Bool.true_and, Bool.false_and, Bool.false_or, decide_eq_true rfl, Bool.and_true]
            exact decide_eq_decide.mpr ⟨fun q => ((nI_eq (by omega) (by omega)).mp q).symm, fun q => by rw [q]⟩
          · rw [show decide (j < t + 1) = decide (j < t) from decide_eq_decide.mpr (by omega), decide_eq_false ej, Bool.and_false, Bool.or_false]
        have tp : ∀ i, i < 12 → ∀ j, j < 12 → ct_T n s (t + 1) i j = (ct_T n s t i j || ((decide (i = p) && decide (j = t)) || (decide (i = t) && decide (j = p)))) := fun i hi j hj => by
          unfold ct_T
          rw [cp i hi j]
          by_cases ei : i = t
          · subst ei
            rw [hpe, decide_eq_true (show i < i + 1 by omega), decide_eq_false (show ¬ i < i by omega), Bool.true_and, Bool.false_and, Bool.or_false, decide_eq_true rfl, Bool.true_and, Bool.or_assoc]
            congr 2
            exact decide_eq_decide.mpr ⟨fun q => ((nI_eq (by omega) (by omega)).mp q).symm, fun q => by rw [q]⟩
          · rw [show decide (i < t + 1) = decide (i < t) from decide_eq_decide.mpr (by omega), decide_eq_false ei, Bool.false_and, Bool.or_false]
            cases ct_C n s t i j <;> cases (decide (i = p) && decide (j = t)) <;> simp
        refine ih _ (fun a h1 h2 => ?_) hB2 hp (fun i hi => ?_) (fun i hi => ?_)
        · rw [wr_o _ _ _ h2, wr_o _ _ _ h2, wr_o _ _ _ h1]; exact hB a h1 h2
        · rw [wr_o _ _ _ (show (b + 27 : Nat) ≠ b + 28 by omega), wr_o _ _ _ (show (b + 27 : Nat) ≠ b + 28 by omega), sp_mk_congr 12 (fun j _ => cp i hi j)]
          by_cases ei : i = p
          · subst ei
            rw [wr_at, hC i hi, mk_or]
            exact congrArg nI (sp_mk_congr 12 (fun j _ => by simp))
          · rw [wr_ne _ _ _ ei, hC i hi]
            exact congrArg nI (sp_mk_congr 12 (fun j _ => by simp [ei]))
        · rw [sp_mk_congr 12 (fun j hj => tp i hi j hj)]
          by_cases ei : i = t
          · subst ei
            rw [wr_at, wr_ne _ _ _ (Ne.symm hpt), wr_o _ _ _ (show (b + 28 : Nat) ≠ b + 27 by omega), hT i hi, mk_or]
            exact congrArg nI (sp_mk_congr 12 (fun j _ => by simp [Ne.symm hpt]))
          · rw [wr_ne _ _ _ ei]
            by_cases ep : i = p
            · subst ep
              rw [wr_at, wr_o _ _ _ (show (b + 28 : Nat) ≠ b + 27 by omega), hT i hi, mk_or]
              exact congrArg nI (sp_mk_congr 12 (fun j _ => by simp [ei]))
            · rw [wr_ne _ _ _ ep, wr_o _ _ _ (show (b + 28 : Nat) ≠ b + 27 by omega), hT i hi]
              exact congrArg nI (sp_mk_congr 12 (fun j _ => by simp [ep, ei]))
end CRB
