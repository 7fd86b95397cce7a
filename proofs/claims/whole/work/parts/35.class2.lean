/-! THE CLASS: rights, the first RULE -/
theorem ti_out {n : Nat} {s : Nat → Int32} (hn : n ≤ 12) {i t : Nat} (h : n ≤ t) (ht : t < 2 ^ 31) : sp_ti n s i t = false := by
  unfold sp_ti sp_ch sp_lk
  rw [decide_eq_false (show ¬ t < n by omega), Bool.false_and, Bool.and_false, Bool.false_and, Bool.false_or]
  refine decide_eq_false (fun z => ?_)
  rcases sp_pr_ok (s := s) hn i with q | ⟨p, hp, he, -⟩
  · rw [q] at z; exact nI_m1 ht z.symm
  · rw [he] at z
    have := (nI_eq (by omega) ht).mp z
    omega
theorem sp_la_ext {P : Nat → Bool} {n : Nat} (hp : ∀ t, n ≤ t → t < 12 → P t = false) : ∀ (k : Nat) (d : Int32) (j m : Nat), j + k = n → j + m = 12 → k ≤ m → sp_la P d j m = sp_la P d j k
  | 0, d, j, m, h1, h2, _ => by
    rw [sp_la_none m d j (fun t a1 a2 => hp t (by omega) (by omega)), sp_la]
  | k + 1, d, j, m, h1, h2, h3 => by
    obtain ⟨q, rfl⟩ : ∃ q, m = q + 1 := ⟨m - 1, by omega⟩
    rw [sp_la, sp_la]
    exact sp_la_ext hp k _ (j + 1) q (by omega) (by omega) (by omega)
theorem mk_and {P : Nat → Bool} {j : Nat} (hj : j ≤ 12) : nI (sp_mk P 12) &&& nI (2 ^ j - 1) = nI (sp_mk (fun t => P t && decide (t < j)) 12) := by
  rw [nx_an]
  congr 1
  apply Nat.eq_of_testBit_eq
  intro t
  rw [Nat.testBit_and, sp_mk_bit, sp_mk_bit, Nat.testBit_two_pow_sub_one]
  cases decide (t < 12) <;> cases P t <;> cases decide (t < j) <;> rfl
theorem mk_0 {P : Nat → Bool} : (nI (sp_mk P 12) = 0) ↔ ∀ t, t < 12 → P t = false := by
  have hlt := mk12 (P := P)
  constructor
  · intro h t ht
    have h0 : sp_mk P 12 = 0 := (nI_eq (b := 0) (by omega) (by omega)).mp h
    have := mkb (P := P) ht
    rw [h0, Nat.zero_testBit] at this
    exact this.symm
  · intro h
    have : sp_mk P 12 = 0 := by
      apply Nat.eq_of_testBit_eq
      intro t
      rw [sp_mk_bit, Nat.zero_testBit]
      by_cases c : t < 12
      · rw [h t c, Bool.and_false]
      · rw [decide_eq_false c, Bool.false_and]
    rw [this]; rfl
section CR2
variable {b n : Nat} {st : sn_S} {s : Nat → Int32}
theorem k_isBottom (hV : cr_V b n st s) (hn : n ≤ 12) {i j : Nat} (hi : i < n) (hj : j < n) (ht : sp_ti n s i j = true) : D_X2_isBottom b (nI i) (nI j) st = some (bi (sp_bo n s i j)) := by
  obtain ⟨-, -, -, -, v5⟩ := id hV
  unfold D_X2_isBottom sp_bo
  by_cases h0 : i = 0
  · subst h0
    rw [if_pos nI_0, sn_ix_nI (by omega : 0 < 12) (by decide), Option.bind_some, k_below (by omega), Option.bind_some, v5 0 hi, mk_and (by omega), decide_eq_true rfl, Bool.true_and]
    obtain ⟨f1, f2, f3, f4⟩ := sp_fi_le (P := sp_ti n s 0) n 0
    by_cases c : j = sp_ft n s 0
    · rw [if_pos (mk_0.mpr (fun t h12 => by
        by_cases l : t < j
        · rw [f4 t (by omega) (by unfold sp_ft at c; omega), Bool.false_and]
        · rw [decide_eq_false l, Bool.and_false])), decide_eq_true c]; rfl
    · rw [if_neg, decide_eq_false c]
      · rfl
      · intro z
        have z := mk_0.mp z
        have hlt : sp_fi (sp_ti n s 0) 0 n < j := by
          rcases Nat.lt_or_ge (sp_fi (sp_ti n s 0) 0 n) j with q | q
          · exact q
          · rcases Nat.lt_or_ge j (sp_fi (sp_ti n s 0) 0 n) with w | w
            · rw [f4 j (by omega) w] at ht; cases ht
            · exact absurd (show j = sp_ft n s 0 by unfold sp_ft; omega) c
        have := z (sp_fi (sp_ti n s 0) 0 n) (by omega)
        rw [f3 (by omega), decide_eq_true hlt] at this
        cases this
  · rw [if_neg (nI_ne0 (by omega) (by omega)), decide_eq_false h0, Bool.false_and]; rfl
theorem k_xBefore (hV : cr_V b n st s) (hn : n ≤ 12) {i j : Nat} (hi : i < n) (hj : j < n) (ht : sp_ti n s i j = true) : D_X2_xBefore b (nI i) (nI j) st = some (sp_xv n s (sp_ta n s i j).toNatClampNeg i) := by
  obtain ⟨-, -, v3, -, v5⟩ := id hV
  obtain ⟨p, hp, hta, -⟩ := sp_ta_ok hj ht
  unfold D_X2_xBefore
  have e5 : (5 : Int32) + nI i = nI (5 + i) := by rw [show (5 : Int32) = nI 5 from rfl, nI_add]
  have hg : ∀ P : Nat → Bool, (∀ t, n ≤ t → t < 12 → P t = false) → D_X5_greatest (nI (sp_mk P 12)) = some (sp_la P (-1) 0 n) := fun P hp => by
    rw [k_greatest mk12, sp_la_congr (P := fun j => (sp_mk P 12).testBit j) (Q := P) 12 (-1) 0 (fun t _ h2 => mkb (by omega)), sp_la_ext hp n (-1) 0 12 (by omega) (by omega) hn]
  rw [sn_ix_nI (by omega : i < 12) (by decide), Option.bind_some, k_below (by omega), Option.bind_some, v5 i hi, mk_and (by omega)]
  rw [hg (sp_ti n s i) (fun t h1 h2 => ti_out hn h1 (by omega)), hg (fun t => sp_ti n s i t && decide (t < j)) (fun t h1 h2 => by rw [ti_out hn h1 (by omega), Bool.false_and]), e5, Option.bind_some, Option.bind_some]
  have hz : (nI (sp_mk (fun t => sp_ti n s i t && decide (t < j)) 12) = 0) ↔ sp_la (fun t => sp_ti n s i t && decide (t < j)) (-1) 0 n = -1 := by
    rw [mk_0]
    constructor
    · intro h; exact sp_la_none n (-1) 0 (fun t h1 h2 => h t (by omega))
    · intro h t h12
      cases q : (sp_ti n s i t && decide (t < j)) with
      | false => rfl
      | true =>
        have htn : t < n := by
          rcases Nat.lt_or_ge t n with w | w
          · exact w
          · rw [ti_out hn w (by omega), Bool.false_and] at q; cases q
        obtain ⟨u, -, h2, -, h4⟩ := sp_la_some (P := fun t => sp_ti n s i t && decide (t < j)) n (-1) 0 t (by omega) (by omega) q
        rw [h] at h4
        exact absurd h4.symm (nI_m1 (by omega))
  have fin : ∀ r : Int32, r = nI p → (if r = -1 then some (0 : Int32) else (sn_ix r 12).bind fun k => (sn_ix (nI (5 + i)) 17).bind fun k2 => some (st.1 (b + 4 + 14 + 1 + k) k2)) = some (sp_xv n s p i) := fun r hr => by
    rw [hr, if_neg (nI_m1 (by omega)), sn_ix_nI (by omega : p < 12) (by decide), Option.bind_some, sn_ix_nI (by omega : 5 + i < 17) (by decide), Option.bind_some, (v3 p (by omega)).2.2.2.2.2 i (by omega)]
  rw [hta, nI_clamp (by omega)]
  unfold sp_ta at hta
  by_cases c : sp_la (fun t => sp_ti n s i t && decide (t < j)) (-1) 0 n = -1
  · rw [if_pos (hz.mpr c)]
    rw [if_pos c] at hta
    exact fin _ hta
  · rw [if_neg (fun z => c (hz.mp z))]
    rw [if_neg c] at hta
    exact fin _ hta
theorem k_rightsOf_L (hV : cr_V b n st s) (hn : n ≤ 12) {i : Nat} (hi : i < n) : ∀ (f j : Nat), j ≤ n → n - j < f → D_X2_rightsOf_L4 b (nI i) st f (nI (sp_mk (fun j => sp_ti n s i j && sp_ri n s i j) j)) (nI j) = some (nI (sp_mk (fun j => sp_ti n s i j && sp_ri n s i j) n))
  | 0, j, h1, h2 => by omega
  | f + 1, j, h1, h2 => by
    obtain ⟨v1, -, v3, -, v5⟩ := id hV
    rw [D_X2_rightsOf_L4.eq_2, v1]
    by_cases e : j = n
    · subst e
      rw [if_pos (nI_le (Nat.le_refl _) (by omega))]
    · have hlt : j < n := by omega
      have ih := k_rightsOf_L hV hn hi f (j + 1) (by omega) (by omega)
      have e5 : (5 : Int32) + nI j = nI (5 + j) := by rw [show (5 : Int32) = nI 5 from rfl, nI_add]
      rw [sp_mk] at ih
      rw [if_neg (nI_ge hlt (by omega)), sn_ix_nI (by omega : i < 12) (by decide), Option.bind_some, v5 i hi, k_hasM (by omega), pb_if, nI_1, sh_1 j (by omega), nx_or, or_add (sp_mk_lt j), e5]
      cases ht : sp_ti n s i j with
      | false =>
        rw [ht, Bool.false_and, if_neg (by decide), Nat.add_zero] at ih
        exact ih
      | true =>
        rw [if_pos rfl, Option.bind_some, sn_ix_nI (by omega : 5 + j < 17) (by decide), Option.bind_some, k_xBefore hV hn hi hlt ht, Option.bind_some, k_isBottom hV hn hi hlt ht, Option.bind_some, Option.bind_some, (v3 i (by omega)).2.2.2.2.2 j (by omega)]
        rw [ht, Bool.true_and] at ih
        unfold sp_ri at ih
        by_cases c : sp_xv n s i j = sp_xv n s (sp_ta n s i j).toNatClampNeg i
        · rw [decide_eq_true c] at ih
          rw [if_pos c]
          cases hb : sp_bo n s i j with
          | false => rw [hb, show (true == false) = false from rfl, if_neg (by decide), Nat.add_zero] at ih; rw [if_neg (by decide)]; exact ih
          | true => rw [hb, show (true == true) = true from rfl, if_pos rfl] at ih; rw [if_pos (by decide)]; exact ih
        · rw [decide_eq_false c] at ih
          rw [if_neg c]
          cases hb : sp_bo n s i j with
          | false => rw [hb, show (false == false) = true from rfl, if_pos rfl] at ih; rw [if_pos (by decide)]; exact ih
          | true => rw [hb, show (false == true) = false from rfl, if_neg (by decide), Nat.add_zero] at ih; rw [if_neg (by decide)]; exact ih
theorem k_rightsOf (hV : cr_V b n st s) (hn : n ≤ 12) {i : Nat} (hi : i < n) : D_X2_rightsOf b (nI i) st = some (nI (sp_mk (fun j => sp_ti n s i j && sp_ri n s i j) n)) := by
  unfold D_X2_rightsOf
  exact k_rightsOf_L hV hn hi 4096 0 (by omega) (by omega)
end CR2
