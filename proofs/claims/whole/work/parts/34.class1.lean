/-! THE CLASS: its NET at b holds what the array s says -/
/-- what the RULES read -/
def cr_V (b n : Nat) (st : sn_S) (s : Nat → Int32) : Prop :=
  st.1 (b + 1) 0 = nI n ∧ (∀ i, i < 12 → st.1 (b + 1 + 1) i = nI (sp_mk (sp_lk n s i) 12)) ∧
  (∀ i, i < 12 → st.1 (b + 4 + 14 + 1 + i) 0 = sp_di n s i ∧ st.1 (b + 4 + 14 + 1 + i) 1 = sp_pr n s i ∧ st.1 (b + 4 + 14 + 1 + i) 2 = sp_ph s i ∧ st.1 (b + 4 + 14 + 1 + i) 3 = s (48 + i) ∧ st.1 (b + 4 + 14 + 1 + i) 4 = s i ∧ ∀ j, j < 12 → st.1 (b + 4 + 14 + 1 + i) (5 + j) = sp_xv n s i j) ∧
  (∀ i, i < n → st.1 (b + 4 + 27) i = nI (sp_mk (sp_ch n s i) 12)) ∧ (∀ i, i < n → st.1 (b + 4 + 28) i = nI (sp_mk (sp_ti n s i) 12))
/-- the VARIABLES themselves -/
def cr_O (b : Nat) (st : sn_S) (nx : Nat → Int32) : Prop :=
  ∀ i, i < 12 → st.1 (b + 4 + 1 + 1 + i) 0 = nx (12 + i) ∧ st.1 (b + 4 + 1 + 1 + i) 1 = nx (24 + i) ∧ st.1 (b + 4 + 1 + 1 + i) 2 = nx (36 + i) ∧ st.1 (b + 4 + 1 + 1 + i) 3 = nx (48 + i) ∧ st.1 (b + 4 + 1 + 1 + i) 4 = nx i ∧ ∀ j, j < 12 → st.1 (b + 4 + 1 + 1 + i) (5 + j) = nx (72 + 12 * i + j)
/-- the counts -/
def cr_T (b : Nat) (st : sn_S) (nx : Nat → Int32) : Prop :=
  st.1 (b + 33) 0 = nx 362 ∧ st.1 (b + 33) 1 = nx 363 ∧ st.1 (b + 33) 2 = nx 368 ∧ st.1 (b + 33) 3 = nx 369 ∧ (∀ r, r < 4 → st.1 (b + 33 + 1) r = nx (364 + r)) ∧ ∀ i, i < 12 → st.1 (b + 33 + 2) i = nx (60 + i)
theorem mk12 {P : Nat → Bool} : sp_mk P 12 < 4096 := sp_mk_lt 12
theorem mkb {P : Nat → Bool} {j : Nat} (hj : j < 12) : (sp_mk P 12).testBit j = P j := by rw [sp_mk_bit, decide_eq_true hj]; rfl
section CR
variable {b n : Nat} {st : sn_S} {s : Nat → Int32}
theorem k_isNode (hV : st.1 b 0 = nI n) (hn : n ≤ 12) (x : Int32) : D_X3_isNode b x st = some (bi (sp_nd n x)) := by
  unfold D_X3_isNode sp_nd
  rw [hV]
  by_cases h1 : x < 0
  · rw [if_pos h1, decide_eq_false (fun z => absurd h1 (Int32.not_lt.mpr z.1))]; rfl
  · rw [if_neg h1]
    by_cases h2 : nI n ≤ x
    · rw [if_pos h2, decide_eq_false (fun z => absurd z.2 (Int32.not_lt.mpr h2))]; rfl
    · rw [if_neg h2, decide_eq_true ⟨Int32.not_lt.mp h1, Int32.not_le.mp h2⟩]; rfl
theorem k_hasM {P : Nat → Bool} {j : Nat} (hj : j < 12) : D_X5_has (nI (sp_mk P 12)) (nI j) = some (bi (P j)) := by
  rw [k_has (by have := mk12 (P := P); omega) (by omega), mkb hj]
theorem k_parentToBe_L (hV : cr_V b n st s) (hn : n ≤ 12) {i : Nat} (hi : i < n) : ∀ (f j : Nat) (a : Int32), j ≤ n → n - j < f → (a = -1 ∨ ∃ p, p < n ∧ a = nI p) → D_X2_parentToBe_L19 b (nI i) st f a (nI j) = some (sp_be n s i a j (n - j))
  | 0, j, a, h1, h2, _ => by omega
  | f + 1, j, a, h1, h2, ha => by
    obtain ⟨v1, v2, v3, -, -⟩ := id hV
    rw [D_X2_parentToBe_L19.eq_2, v1]
    by_cases e : j = n
    · subst e
      rw [if_pos (nI_le (Nat.le_refl _) (by omega)), Nat.sub_self, sp_be]
    · have hlt : j < n := by omega
      have ih := fun a ha => k_parentToBe_L hV hn hi f (j + 1) a (by omega) (by omega) ha
      rw [if_neg (nI_ge hlt (by omega)), sn_ix_nI (by omega : i < 12) (by decide), Option.bind_some, v2 i (by omega), k_hasM (by omega), pb_if, show n - j = (n - (j + 1)) + 1 by omega, sp_be, nI_1]
      cases hl : sp_lk n s i j with
      | false => rw [if_neg (by decide), Bool.false_and, if_neg (by decide)]; exact ih a ha
      | true =>
        rw [if_pos rfl, Bool.true_and]
        rcases ha with ha | ⟨p, hp, ha⟩
        · rw [if_pos ha, decide_eq_true ha, Bool.true_or, if_pos rfl]; exact ih (nI j) (Or.inr ⟨j, hlt, rfl⟩)
        · have hm : ¬ a = -1 := by rw [ha]; exact nI_m1 (by omega)
          rw [if_neg hm, decide_eq_false hm, Bool.false_or, ha, sn_ix_nI (by omega : j < 12) (by decide), Option.bind_some, sn_ix_nI (by omega : p < 12) (by decide), Option.bind_some, (v3 j (by omega)).1, (v3 p (by omega)).1, nI_clamp (by omega)]
          by_cases c : sp_di n s p ≤ sp_di n s j
          · rw [if_pos c, decide_eq_false (Int32.not_lt.mpr c), if_neg (by decide)]; exact ih (nI p) (Or.inr ⟨p, hp, rfl⟩)
          · rw [if_neg c, decide_eq_true (Int32.not_le.mp c), if_pos rfl]; exact ih (nI j) (Or.inr ⟨j, hlt, rfl⟩)
theorem k_parentToBe (hV : cr_V b n st s) (hn : n ≤ 12) {i : Nat} (hi : i < n) : D_X2_parentToBe b (nI i) st = some (sp_tp n s i) := by
  unfold D_X2_parentToBe sp_tp
  by_cases h0 : i = 0
  · subst h0; rw [if_pos nI_0, if_pos rfl]
  · rw [if_neg (nI_ne0 (by omega) (by omega)), if_neg h0]
    exact k_parentToBe_L hV hn hi 4096 0 (-1) (by omega) (by omega) (Or.inl rfl)
theorem k_distToBe (hV : cr_V b n st s) (hn : n ≤ 12) {i : Nat} (hi : i < n) (hnb : i ≠ 0 → ∃ j, j < n ∧ sp_lk n s i j = true) : D_X2_distToBe b (nI i) (sp_tp n s i) st = some (sp_td n s i) := by
  obtain ⟨v1, v2, v3, -, -⟩ := id hV
  unfold D_X2_distToBe sp_td
  by_cases h0 : i = 0
  · subst h0; rw [if_pos nI_0, if_pos rfl]
  · rw [if_neg (nI_ne0 (by omega) (by omega)), if_neg h0]
    obtain ⟨j, hj, hk⟩ := hnb h0
    obtain ⟨p, hp, hb, -⟩ := sp_be_ok (i := i) (s := s) hn n (-1) 0 (by omega) (Or.inl rfl) (Or.inr ⟨j, by omega, by omega, hk⟩)
    have e : sp_tp n s i = nI p := by unfold sp_tp; rw [if_neg h0, hb]
    rw [e, if_neg (nI_m1 (by omega)), sn_ix_nI (by omega : p < 12) (by decide), Option.bind_some, v1, (v3 p (by omega)).1, nI_clamp (by omega)]
    by_cases c : sp_di n s p + 1 ≤ nI n
    · rw [if_neg (Int32.not_lt.mpr c), if_pos c]
    · rw [if_pos (Int32.not_le.mp c), if_neg c]
theorem k_phaseAbove (hV : cr_V b n st s) (hn : n ≤ 12) {i : Nat} (hi : i < n) : D_X2_phaseAbove b (nI i) st = some (sp_ab n s i) := by
  obtain ⟨v1, v2, v3, -, -⟩ := id hV
  unfold D_X2_phaseAbove sp_ab
  rw [sn_ix_nI (by omega : i < 12) (by decide), Option.bind_some, (v3 i (by omega)).2.1]
  rcases sp_pr_ok (s := s) hn i with z | ⟨p, hp, he, -⟩
  · rw [if_pos z, if_pos z]
  · rw [he, if_neg (nI_m1 (by omega)), if_neg (nI_m1 (by omega)), sn_ix_nI (by omega : p < 12) (by decide), Option.bind_some, (v3 p (by omega)).2.2.1, nI_clamp (by omega)]
theorem k_areChildren_L (hV : cr_V b n st s) (hn : n ≤ 12) {i : Nat} (hi : i < n) (p : Int32) : ∀ (f j : Nat), j ≤ n → n - j < f → D_X2_areChildren_L2 b (nI i) p st f (nI j) = some (bi (sp_al (fun j => !sp_ch n s i j || decide (sp_ph s j = p)) j (n - j)))
  | 0, j, h1, h2 => by omega
  | f + 1, j, h1, h2 => by
    obtain ⟨v1, v2, v3, v4, -⟩ := id hV
    rw [D_X2_areChildren_L2.eq_2, v1]
    by_cases e : j = n
    · subst e
      rw [if_pos (nI_le (Nat.le_refl _) (by omega)), Nat.sub_self, sp_al]; rfl
    · have hlt : j < n := by omega
      have ih := k_areChildren_L hV hn hi p f (j + 1) (by omega) (by omega)
      rw [if_neg (nI_ge hlt (by omega)), sn_ix_nI (by omega : i < 12) (by decide), Option.bind_some, v4 i hi, k_hasM (by omega), pb_if, show n - j = (n - (j + 1)) + 1 by omega, sp_al, nI_1]
      cases hl : sp_ch n s i j with
      | false => rw [if_neg (by decide), Bool.not_false, Bool.true_or, Bool.true_and]; exact ih
      | true =>
        rw [if_pos rfl, sn_ix_nI (by omega : j < 12) (by decide), Option.bind_some, (v3 j (by omega)).2.2.1, Bool.not_true, Bool.false_or]
        by_cases c : sp_ph s j = p
        · rw [if_pos c, decide_eq_true c, Bool.true_and]; exact ih
        · rw [if_neg c, decide_eq_false c, Bool.false_and]; rfl
theorem k_areChildren (hV : cr_V b n st s) (hn : n ≤ 12) {i : Nat} (hi : i < n) (p : Int32) : D_X2_areChildren b (nI i) p st = some (bi (sp_ac n s i p)) := by
  unfold D_X2_areChildren sp_ac
  exact k_areChildren_L hV hn hi p 4096 0 (by omega) (by omega)
theorem k_phaseToBe (hV : cr_V b n st s) (hn : n ≤ 12) {i : Nat} (hi : i < n) : D_X2_phaseToBe b (nI i) st = some (sp_wp n s i (sp_ph s i)) := by
  obtain ⟨v1, v2, v3, -, -⟩ := id hV
  have ho : sp_ph s i = 0 ∨ sp_ph s i = 1 ∨ sp_ph s i = 2 := by
    unfold sp_ph
    cases h : sp_in (s (36 + i)) 0 2 with
    | false => exact Or.inl rfl
    | true => exact in02 h
  unfold D_X2_phaseToBe sp_wp
  rw [k_phaseAbove hV hn hi, Option.bind_some, Option.bind_some, sn_ix_nI (by omega : i < 12) (by decide), Option.bind_some, Option.bind_some, (v3 i (by omega)).2.2.1, k_areChildren hV hn hi, k_areChildren hV hn hi]
  simp only [pb_if]
  generalize sp_ph s i = o at ho ⊢
  generalize sp_ab n s i = q
  by_cases h0 : i = 0
  · subst h0
    rw [if_pos nI_0]
    rcases ho with rfl | rfl | rfl <;> cases sp_ac n s 0 0 <;> cases sp_ac n s 0 2 <;> simp
  · rw [if_neg (nI_ne0 (by omega) (by omega))]
    by_cases q1 : q = 1
    · subst q1
      rcases ho with rfl | rfl | rfl <;> cases sp_ac n s i 0 <;> cases sp_ac n s i 2 <;> simp [h0]
    · by_cases q0 : q = 0
      · subst q0
        rcases ho with rfl | rfl | rfl <;> cases sp_ac n s i 0 <;> cases sp_ac n s i 2 <;> simp [h0]
      · rcases ho with rfl | rfl | rfl <;> cases sp_ac n s i 0 <;> cases sp_ac n s i 2 <;> simp [h0, q1, q0]
end CR
