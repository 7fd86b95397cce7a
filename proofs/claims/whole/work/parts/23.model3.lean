/-! THE REFERENCE: ties, rights, rules, what is ENABLED -/
theorem nx_or (a b : Nat) : nI a ||| nI b = nI (a ||| b) := by
  apply Int32.toBitVec_inj.1
  show BitVec.ofNat 32 a ||| BitVec.ofNat 32 b = BitVec.ofNat 32 (a ||| b)
  apply BitVec.eq_of_getLsbD_eq
  intro i hi
  simp [hi]
theorem nx_an (a b : Nat) : nI a &&& nI b = nI (a &&& b) := by
  apply Int32.toBitVec_inj.1
  show BitVec.ofNat 32 a &&& BitVec.ofNat 32 b = BitVec.ofNat 32 (a &&& b)
  apply BitVec.eq_of_getLsbD_eq
  intro i hi
  simp [hi]
theorem sh_1 : ∀ j, j < 12 → (1 : Int32) <<< (nI j &&& 31) = nI (2 ^ j) := by decide +kernel
theorem or_add {m j : Nat} (h : m < 2 ^ j) : m ||| 2 ^ j = m + 2 ^ j := by
  have := Nat.two_pow_add_eq_or_of_lt h 1
  rw [Nat.mul_one] at this
  rw [Nat.or_comm, ← this, Nat.add_comm]
theorem sp_mk_ext {P : Nat → Bool} {n : Nat} : ∀ k, n ≤ k → (∀ t, n ≤ t → P t = false) → sp_mk P k = sp_mk P n
  | 0, h, _ => by rw [show n = 0 by omega]
  | k + 1, h, hp => by
    by_cases e : n = k + 1
    · rw [e]
    · rw [sp_mk, hp k (by omega), if_neg (by decide), Nat.add_zero]
      exact sp_mk_ext k (by omega) hp
theorem sp_em_n {n : Nat} {s : Nat → Int32} (hn : n ≤ 12) : sp_em n s = sp_mk (sp_eb n s) n := by
  unfold sp_em
  rw [sp_mk_ext (n := n) 12 hn (fun t h => by rw [decide_eq_false (by omega)]; rfl)]
  exact sp_mk_congr n (fun t h => by rw [decide_eq_true h]; rfl)
def sp_pe (n : Nat) (s : Nat → Int32) : Int32 := if s 361 = 1 then nI (sp_em n s) else 0
theorem sp_ta_ok {n : Nat} {s : Nat → Int32} {i j : Nat} (hj : j < n) (h : sp_ti n s i j = true) : ∃ p, p < n ∧ sp_ta n s i j = nI p ∧ sp_ti n s i p = true := by
  unfold sp_ta
  by_cases e : sp_la (fun t => sp_ti n s i t && decide (t < j)) (-1) 0 n = -1
  · rw [if_pos e]
    obtain ⟨u, -, h2, h3, h4⟩ := sp_la_some (P := sp_ti n s i) n (-1) 0 j (by omega) (by omega) h
    exact ⟨u, by omega, h4, h3⟩
  · rw [if_neg e]
    rcases sp_la_or (P := fun t => sp_ti n s i t && decide (t < j)) n (-1) 0 with q | ⟨u, -, h2, h3, h4⟩
    · exact absurd q e
    · exact ⟨u, by omega, h4, (Bool.and_eq_true_iff.mp h3).1⟩
section SM3
variable {b n : Nat} {st : sn_S} {s : Nat → Int32}
theorem m_tieAhead_L (hs : st.1 (b + 1) = s) (hn : sm_n n s) {i jj : Nat} (hi : i < n) (hjj : jj < 2 ^ 31) : ∀ (f t : Nat) (l a : Int32), t ≤ n → n - t < f → D_X6_tieAhead_L8 b (nI i) (nI jj) st f l a (nI t) = some (if sp_la (fun t => sp_ti n s i t && decide (t < jj)) a t (n - t) = -1 then sp_la (sp_ti n s i) l t (n - t) else sp_la (fun t => sp_ti n s i t && decide (t < jj)) a t (n - t))
  | 0, t, l, a, h1, h2 => by omega
  | f + 1, t, l, a, h1, h2 => by
    have hn12 := hn.2.2
    rw [D_X6_tieAhead_L8.eq_2, hs, hn.1]
    by_cases e : t = n
    · subst e
      rw [if_pos (nI_le (Nat.le_refl _) (by omega)), Nat.sub_self, sp_la, sp_la]
      split <;> rfl
    · have hlt : t < n := by omega
      have ih := fun l a => m_tieAhead_L hs hn hi hjj f (t + 1) l a (by omega) (by omega)
      rw [if_neg (nI_ge hlt (by omega)), show n - t = (n - (t + 1)) + 1 by omega, sp_la, sp_la, nI_1, m_isTie hs hn hi hlt, pb_if]
      cases hl : sp_ti n s i t with
      | false => exact ih l a
      | true =>
        rw [if_pos rfl]
        by_cases c : jj ≤ t
        · rw [if_pos (nI_le c (by omega)), show (true && decide (t < jj)) = false by rw [decide_eq_false (by omega)]; rfl]; exact ih (nI t) a
        · rw [if_neg (nI_ge (by omega) hjj), show (true && decide (t < jj)) = true by rw [decide_eq_true (by omega)]; rfl]; exact ih (nI t) (nI t)
theorem m_tieAhead (hs : st.1 (b + 1) = s) (hn : sm_n n s) {i j : Nat} (hi : i < n) (hj : j < 2 ^ 31) : D_X6_tieAhead b (nI i) (nI j) st = some (sp_ta n s i j) := by
  unfold D_X6_tieAhead sp_ta
  exact m_tieAhead_L hs hn hi hj 4096 0 (-1) (-1) (by omega) (by have := hn.2.2; omega)
theorem m_firstTie_L (hs : st.1 (b + 1) = s) (hn : sm_n n s) {i : Nat} (hi : i < n) : ∀ (f j : Nat), j ≤ n → n - j < f → D_X6_firstTie_L2 b (nI i) st f (nI j) = some (nI (sp_fi (sp_ti n s i) j (n - j)))
  | 0, j, h1, h2 => by omega
  | f + 1, j, h1, h2 => by
    have hn12 := hn.2.2
    rw [D_X6_firstTie_L2.eq_2, hs, hn.1]
    by_cases e : j = n
    · subst e
      rw [if_pos (nI_le (Nat.le_refl _) (by omega)), Nat.sub_self, sp_fi]
    · have hlt : j < n := by omega
      rw [if_neg (nI_ge hlt (by omega)), show n - j = (n - (j + 1)) + 1 by omega, sp_fi, nI_1, m_isTie hs hn hi hlt, pb_if]
      cases hl : sp_ti n s i j with
      | false => exact m_firstTie_L hs hn hi f (j + 1) (by omega) (by omega)
      | true => rfl
theorem m_firstTie (hs : st.1 (b + 1) = s) (hn : sm_n n s) {i : Nat} (hi : i < n) : D_X6_firstTie b (nI i) st = some (nI (sp_ft n s i)) := by
  unfold D_X6_firstTie sp_ft
  exact m_firstTie_L hs hn hi 4096 0 (by omega) (by have := hn.2.2; omega)
theorem m_hasRight (hs : st.1 (b + 1) = s) (hn : sm_n n s) {i j : Nat} (hi : i < n) (hj : j < n) (ht : sp_ti n s i j = true) : D_X6_hasRight b (nI i) (nI j) st = some (bi (sp_ri n s i j)) := by
  have hn12 := hn.2.2
  have hn2 := hn.2.1
  obtain ⟨p, hp, he, -⟩ := sp_ta_ok hj ht
  have hft : sp_ft n s 0 ≤ n := by
    have := (sp_fi_le (P := sp_ti n s 0) n 0).2.1
    unfold sp_ft
    omega
  unfold D_X6_hasRight sp_ri sp_bo
  rw [m_xOf hs hn (by omega) (by omega), Option.bind_some, m_tieAhead hs hn hi (by omega), Option.bind_some, he, m_xOf hs hn (by omega) (by omega), Option.bind_some, nI_clamp (by omega)]
  rw [show D_X6_firstTie b (0 : Int32) st = some (nI (sp_ft n s 0)) from m_firstTie hs hn (i := 0) (by omega)]
  generalize hF : sp_ft n s 0 = F at hft ⊢
  by_cases c0 : i = 0
  · have c0' : nI i = 0 := by rw [c0]; exact nI_0
    rw [if_pos c0', if_pos c0', decide_eq_true c0, Option.bind_some, Option.bind_some]
    by_cases c1 : j = F
    · have c1' : nI j = nI F := by rw [c1]
      rw [if_pos c1', if_pos c1', decide_eq_true c1]
      by_cases c : sp_xv n s i j = sp_xv n s p i
      · rw [if_pos c, decide_eq_true c]; rfl
      · rw [if_neg c, decide_eq_false c]; rfl
    · have c1' : ¬ nI j = nI F := fun q => c1 ((nI_eq (by omega) (by omega)).mp q)
      rw [if_neg c1', if_neg c1', decide_eq_false c1]
      by_cases c : sp_xv n s i j = sp_xv n s p i
      · rw [if_pos c, decide_eq_true c]; rfl
      · rw [if_neg c, decide_eq_false c]; rfl
  · have c0' : ¬ nI i = 0 := nI_ne0 (by omega) (by omega)
    rw [if_neg c0', if_neg c0', decide_eq_false c0]
    by_cases c : sp_xv n s i j = sp_xv n s p i
    · rw [if_pos c, decide_eq_true c]; rfl
    · rw [if_neg c, decide_eq_false c]; rfl
theorem m_firstRight_L (hs : st.1 (b + 1) = s) (hn : sm_n n s) {i : Nat} (hi : i < n) : ∀ (f j : Nat), j ≤ n → n - j < f → D_X6_firstRight_L2 b (nI i) st f (nI j) = some (if sp_fi (fun j => sp_ti n s i j && sp_ri n s i j) j (n - j) = n then -1 else nI (sp_fi (fun j => sp_ti n s i j && sp_ri n s i j) j (n - j)))
  | 0, j, h1, h2 => by omega
  | f + 1, j, h1, h2 => by
    have hn12 := hn.2.2
    rw [D_X6_firstRight_L2.eq_2, hs, hn.1]
    by_cases e : j = n
    · subst e
      rw [if_pos (nI_le (Nat.le_refl _) (by omega)), Nat.sub_self, sp_fi, if_pos rfl]
    · have hlt : j < n := by omega
      have ih := m_firstRight_L hs hn hi f (j + 1) (by omega) (by omega)
      rw [if_neg (nI_ge hlt (by omega)), show n - j = (n - (j + 1)) + 1 by omega, sp_fi, nI_1, m_isTie hs hn hi hlt, pb_if]
      cases hl : sp_ti n s i j with
      | false => exact ih
      | true =>
        rw [if_pos rfl, m_hasRight hs hn hi hlt hl, pb_if, Bool.true_and]
        cases hr : sp_ri n s i j with
        | false => exact ih
        | true => rw [if_pos rfl, if_pos rfl, if_neg e]
theorem m_firstRight (hs : st.1 (b + 1) = s) (hn : sm_n n s) {i : Nat} (hi : i < n) : D_X6_firstRight b (nI i) st = some (sp_fr n s i) := by
  unfold D_X6_firstRight sp_fr
  exact m_firstRight_L hs hn hi 4096 0 (by omega) (by have := hn.2.2; omega)
def sp_nb (n : Nat) (s : Nat → Int32) : Prop := ∀ i, i < n → i ≠ 0 → ∃ j, j < n ∧ sp_lk n s i j = true
theorem m_ruleOf (hs : st.1 (b + 1) = s) (hn : sm_n n s) (hnb : sp_nb n s) {i : Nat} (hi : i < n) : D_X6_ruleOf b (nI i) st = some (sp_ru n s i) := by
  have hn12 := hn.2.2
  unfold D_X6_ruleOf sp_ru
  rw [m_isSane hs hn hi, pb_if]
  cases hsa : sp_sa n s i with
  | false => rfl
  | true =>
    have ho : sp_in (s (36 + i)) 0 2 = true := by
      unfold sp_sa at hsa
      simp only [Bool.and_eq_true] at hsa
      exact hsa.2.2.1
    rw [if_pos rfl, if_pos rfl, ix_12 (by omega), Option.bind_some, m_treeDist hs hn hi (hnb i hi), Option.bind_some, hs]
    by_cases c1 : s (12 + i) = sp_td n s i
    · rw [if_pos c1, if_pos c1, ix_24 (by omega), Option.bind_some, m_treeParent hs hn hi, Option.bind_some]
      by_cases c2 : s (24 + i) = sp_tp n s i
      · rw [if_pos c2, if_pos c2, m_wavePhase hs hn hi ho, Option.bind_some, ix_36 (by omega), Option.bind_some]
        by_cases c3 : sp_wp n s i (s (36 + i)) = s (36 + i)
        · rw [if_pos c3, if_pos c3, m_firstRight hs hn hi, Option.bind_some]
          split <;> rfl
        · rw [if_neg c3, if_neg c3]
      · rw [if_neg c2, if_neg c2]
    · rw [if_neg c1, if_neg c1]
theorem m_enabledAll_L (hs : st.1 (b + 1) = s) (hn : sm_n n s) (hnb : sp_nb n s) (hb : s 361 = 1) : ∀ (f j : Nat), j ≤ n → n - j < f → D_X6_enabledAll_L4 b st f (nI (sp_mk (sp_eb n s) j)) (nI j) = some (nI (sp_mk (sp_eb n s) n))
  | 0, j, h1, h2 => by omega
  | f + 1, j, h1, h2 => by
    have hn12 := hn.2.2
    rw [D_X6_enabledAll_L4.eq_2, hs, hn.1]
    by_cases e : j = n
    · subst e
      rw [if_pos (nI_le (Nat.le_refl _) (by omega))]
    · have hlt : j < n := by omega
      have ih := m_enabledAll_L hs hn hnb hb f (j + 1) (by omega) (by omega)
      rw [if_neg (nI_ge hlt (by omega)), if_pos hb, m_ruleOf hs hn hnb hlt, Option.bind_some, nI_1, sh_1 j (by omega), nx_or, show (0 : Int32) = nI 0 from rfl, nx_or, Nat.or_zero, or_add (sp_mk_lt j)]
      rw [sp_mk] at ih
      by_cases c : sp_ru n s j = -1
      · rw [show sp_eb n s j = false by unfold sp_eb; rw [decide_eq_true c]; rfl] at ih
        rw [if_pos c]; exact ih
      · rw [show sp_eb n s j = true by unfold sp_eb; rw [decide_eq_false c]; rfl] at ih
        rw [if_neg c]; exact ih
theorem m_enabledAll (hs : st.1 (b + 1) = s) (hn : sm_n n s) (hnb : s 361 = 1 → sp_nb n s) : D_X6_enabledAll b st = some (sp_pe n s) := by
  unfold D_X6_enabledAll sp_pe
  have hn12 := hn.2.2
  by_cases hb : s 361 = 1
  · rw [if_pos hb, sp_em_n hn12]
    exact m_enabledAll_L hs hn (hnb hb) hb 4096 0 (by omega) (by omega)
  · rw [if_neg hb, D_X6_enabledAll_L4.eq_2, hs, hn.1, if_neg hb]
    split <;> rfl
theorem m_beginRound (hs : st.1 (b + 1) = s) (hn : sm_n n s) (hnb : s 361 = 1 → sp_nb n s) : D_X6_beginRound b st = some (sn_wr st (b + 1) 373 (sp_pe n s)) := by
  unfold D_X6_beginRound
  rw [m_enabledAll hs hn hnb, Option.bind_some]
end SM3
