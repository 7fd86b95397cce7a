/-! THE REFERENCE: loops over the NODES -/
theorem nI_m1 {j : Nat} (h : j < 2 ^ 31) : ¬ nI j = -1 := fun e => by
  have := congrArg Int32.toInt e
  rw [nI_toInt h, show ((-1 : Int32)).toInt = -1 by decide] at this
  omega
theorem in02 {x : Int32} (h : sp_in x 0 2 = true) : x = 0 ∨ x = 1 ∨ x = 2 := by
  unfold sp_in at h
  have h := of_decide_eq_true h
  rw [Int32.le_iff_toInt_le, Int32.le_iff_toInt_le] at h
  have e0 : (0 : Int32).toInt = 0 := by decide
  have e1 : (1 : Int32).toInt = 1 := by decide
  have e2 : (2 : Int32).toInt = 2 := by decide
  rw [e0, e2] at h
  rcases (show x.toInt = 0 ∨ x.toInt = 1 ∨ x.toInt = 2 by omega) with q | q | q
  · exact Or.inl (Int32.toInt_inj.mp (q.trans e0.symm))
  · exact Or.inr (Or.inl (Int32.toInt_inj.mp (q.trans e1.symm)))
  · exact Or.inr (Or.inr (Int32.toInt_inj.mp (q.trans e2.symm)))
theorem sp_la_none {P : Nat → Bool} : ∀ (k : Nat) (d : Int32) (j : Nat), (∀ t, j ≤ t → t < j + k → P t = false) → sp_la P d j k = d
  | 0, _, _, _ => rfl
  | k + 1, d, j, h => by
    rw [sp_la, h j (Nat.le_refl _) (by omega), if_neg (by decide)]
    exact sp_la_none k d (j + 1) (fun t h1 h2 => h t (by omega) (by omega))
theorem sp_la_or {P : Nat → Bool} : ∀ (k : Nat) (d : Int32) (j : Nat), sp_la P d j k = d ∨ ∃ t, j ≤ t ∧ t < j + k ∧ P t = true ∧ sp_la P d j k = nI t
  | 0, _, _ => Or.inl rfl
  | k + 1, d, j => by
    rw [sp_la]
    rcases sp_la_or (P := P) k (if P j then nI j else d) (j + 1) with h | ⟨t, h1, h2, h3, h4⟩
    · rw [h]
      by_cases e : P j = true
      · rw [if_pos e]; exact Or.inr ⟨j, Nat.le_refl _, by omega, e, rfl⟩
      · rw [if_neg e]; exact Or.inl rfl
    · exact Or.inr ⟨t, by omega, by omega, h3, h4⟩
theorem sp_la_some {P : Nat → Bool} : ∀ (k : Nat) (d : Int32) (j t : Nat), j ≤ t → t < j + k → P t = true → ∃ u, j ≤ u ∧ u < j + k ∧ P u = true ∧ sp_la P d j k = nI u
  | 0, _, _, _, h1, h2, _ => by omega
  | k + 1, d, j, t, h1, h2, h3 => by
    by_cases e : t = j
    · subst e
      rw [sp_la, if_pos h3]
      rcases sp_la_or (P := P) k (nI t) (t + 1) with h | ⟨u, a, b, c, d⟩
      · exact ⟨t, Nat.le_refl _, by omega, h3, h⟩
      · exact ⟨u, by omega, by omega, c, d⟩
    · rw [sp_la]
      obtain ⟨u, a, b, c, d⟩ := sp_la_some k (if P j then nI j else d) (j + 1) t (by omega) (by omega) h3
      exact ⟨u, by omega, by omega, c, d⟩
theorem sp_fi_le {P : Nat → Bool} : ∀ (k j : Nat), j ≤ sp_fi P j k ∧ sp_fi P j k ≤ j + k ∧ (sp_fi P j k < j + k → P (sp_fi P j k) = true) ∧ ∀ t, j ≤ t → t < sp_fi P j k → P t = false
  | 0, j => by rw [sp_fi]; exact ⟨Nat.le_refl _, Nat.le_refl _, fun h => by omega, fun t h1 h2 => by omega⟩
  | k + 1, j => by
    rw [sp_fi]
    by_cases e : P j = true
    · rw [if_pos e]; exact ⟨Nat.le_refl _, by omega, fun _ => e, fun t h1 h2 => by omega⟩
    · rw [if_neg e]
      obtain ⟨a, b, c, d⟩ := sp_fi_le (P := P) k (j + 1)
      refine ⟨by omega, by omega, fun h => c (by omega), fun t h1 h2 => ?_⟩
      by_cases q : t = j
      · subst q; simpa using e
      · exact d t (by omega) h2
theorem sp_pr_ok {n : Nat} {s : Nat → Int32} (hn : n ≤ 12) (i : Nat) : sp_pr n s i = -1 ∨ ∃ p, p < n ∧ sp_pr n s i = nI p ∧ sp_lk n s i p = true := by
  unfold sp_pr
  by_cases h : sp_okp n s i = true
  · rw [if_pos h]
    unfold sp_okp at h
    rcases Bool.or_eq_true_iff.mp h with e | e
    · exact Or.inl (of_decide_eq_true e)
    · right
      unfold sp_lI at e
      obtain ⟨e1, e2⟩ := Bool.and_eq_true_iff.mp e
      obtain ⟨j, hj, hx⟩ := sp_nd_of hn e1
      rw [hx, nI_clamp (by omega)] at e2
      exact ⟨j, hj, hx, e2⟩
  · rw [if_neg h]; exact Or.inl rfl
theorem sp_be_ok {n : Nat} {s : Nat → Int32} {i : Nat} (hn : n ≤ 12) : ∀ (k : Nat) (b : Int32) (j : Nat), j + k ≤ n → (b = -1 ∨ ∃ p, p < n ∧ b = nI p ∧ sp_lk n s i p = true) → (b ≠ -1 ∨ ∃ t, j ≤ t ∧ t < j + k ∧ sp_lk n s i t = true) → ∃ p, p < n ∧ sp_be n s i b j k = nI p ∧ sp_lk n s i p = true
  | 0, b, j, hl, h1, h2 => by
    rw [sp_be]
    rcases h1 with h1 | h1
    · rcases h2 with h2 | ⟨t, a, b, -⟩
      · exact absurd h1 h2
      · omega
    · exact h1
  | k + 1, b, j, hl, h1, h2 => by
    rw [sp_be]
    by_cases c : (sp_lk n s i j && (decide (b = -1) || decide (sp_di n s j < sp_di n s b.toNatClampNeg))) = true
    · rw [if_pos c]
      have hk := (Bool.and_eq_true_iff.mp c).1
      exact sp_be_ok hn k (nI j) (j + 1) (by omega) (Or.inr ⟨j, by omega, rfl, hk⟩) (Or.inl (nI_m1 (by omega)))
    · rw [if_neg c]
      refine sp_be_ok hn k b (j + 1) (by omega) h1 ?_
      rcases h2 with h2 | ⟨t, a1, a2, a3⟩
      · exact Or.inl h2
      · by_cases e : t = j
        · subst e
          rw [a3, Bool.true_and] at c
          by_cases hb : b = -1
          · rw [decide_eq_true hb] at c; exact absurd rfl c
          · exact Or.inl hb
        · exact Or.inr ⟨t, by omega, by omega, a3⟩
section SM2
variable {b n : Nat} {st : sn_S} {s : Nat → Int32}
theorem m_isSane_L (hs : st.1 (b + 1) = s) (hn : sm_n n s) {i : Nat} (hi : i < n) : ∀ (f j : Nat) (a : Bool), j ≤ n → n - j < f → D_X6_isSane_L57 b (nI i) st f (bi a) (nI j) = some (bi (a && sp_al (fun j => !sp_lk n s i j || sp_xo n s i j) j (n - j)))
  | 0, j, a, h1, h2 => by omega
  | f + 1, j, a, h1, h2 => by
    have hn12 := hn.2.2
    rw [D_X6_isSane_L57.eq_2, hs, hn.1]
    by_cases e : j = n
    · subst e
      rw [if_pos (nI_le (Nat.le_refl _) (by omega)), Nat.sub_self, sp_al, if_pos (bi01 a), Bool.and_true]
    · have hlt : j < n := by omega
      have ih := fun a => m_isSane_L hs hn hi f (j + 1) a (by omega) (by omega)
      rw [if_neg (nI_ge hlt (by omega)), show n - j = (n - (j + 1)) + 1 by omega, sp_al, nI_1]
      cases a with
      | false =>
        rw [if_pos (show bi false = 0 from rfl)]
        exact ih false
      | true =>
        rw [if_neg (show ¬ bi true = 0 by decide), m_isLink hs hn hi (by omega), pb_if]
        cases hl : sp_lk n s i j with
        | false => exact (ih true).trans (by rfl)
        | true =>
          rw [if_pos rfl, ix_x (by omega) (by omega), Option.bind_some, m_k hs hn, Option.bind_some, m_in, pb_if, show (1 : Int32) = nI 1 from rfl, pk_sub (by omega), Nat.add_sub_cancel]
          show (if sp_xo n s i j = true then _ else _) = _
          cases hx : sp_xo n s i j with
          | false => rw [if_neg (by decide)]; exact (ih false).trans (by simp)
          | true => rw [if_pos rfl]; exact (ih true).trans (by simp)
theorem m_isSane (hs : st.1 (b + 1) = s) (hn : sm_n n s) {i : Nat} (hi : i < n) : D_X6_isSane b (nI i) st = some (bi (sp_sa n s i)) := by
  have hn12 := hn.2.2
  have h0 := m_isSane_L hs hn hi 4096 0 false (by omega) (by omega)
  have h1 := m_isSane_L hs hn hi 4096 0 true (by omega) (by omega)
  rw [nI_0] at h0 h1
  unfold D_X6_isSane sp_sa
  rw [ix_12 (by omega), Option.bind_some, hs, m_in, pb_if, hn.1]
  rw [show (0 : Int32) = bi false from rfl] at h0 ⊢
  rw [h0]
  rw [m_isSaneParent hs hn hi, show bi false = (0 : Int32) from rfl, pb_if, ix_36 (by omega), Option.bind_some, m_in, pb_if]
  have h1' : D_X6_isSane_L57 b (nI i) st 4096 (1 : Int32) (0 : Int32) = _ := h1
  rw [h1']
  cases sp_in (s (12 + i)) 0 (nI n) <;> cases sp_okp n s i <;> cases sp_in (s (36 + i)) 0 2 <;> rfl
theorem m_treeParent_L (hs : st.1 (b + 1) = s) (hn : sm_n n s) {i : Nat} (hi : i < n) (h0 : i ≠ 0) : ∀ (f j : Nat) (a : Int32), j ≤ n → n - j < f → (a = -1 ∨ ∃ p, p < n ∧ a = nI p) → D_X6_treeParent_L4 b (nI i) st f a (nI j) = some (sp_be n s i a j (n - j))
  | 0, j, a, h1, h2, _ => by omega
  | f + 1, j, a, h1, h2, ha => by
    have hn12 := hn.2.2
    rw [D_X6_treeParent_L4.eq_2, hs, hn.1]
    by_cases e : j = n
    · subst e
      rw [if_pos (nI_le (Nat.le_refl _) (by omega)), Nat.sub_self, sp_be]
    · have hlt : j < n := by omega
      have ih := fun a ha => m_treeParent_L hs hn hi h0 f (j + 1) a (by omega) (by omega) ha
      rw [if_neg (nI_ge hlt (by omega)), if_neg (nI_ne0 (by omega) (by omega)), show n - j = (n - (j + 1)) + 1 by omega, sp_be, nI_1, m_isLink hs hn hi (by omega), pb_if]
      cases hl : sp_lk n s i j with
      | false => rw [if_neg (by decide), Bool.false_and, if_neg (by decide)]; exact ih a ha
      | true =>
        rw [if_pos rfl, Bool.true_and]
        rcases ha with ha | ⟨p, hp, ha⟩
        · rw [if_pos ha, decide_eq_true ha, Bool.true_or, if_pos rfl]; exact ih (nI j) (Or.inr ⟨j, hlt, rfl⟩)
        · have hm : ¬ a = -1 := by rw [ha]; exact nI_m1 (by omega)
          rw [if_neg hm, decide_eq_false hm, Bool.false_or, m_distOf hs hn hlt, Option.bind_some, ha, m_distOf hs hn hp, Option.bind_some, nI_clamp (by omega)]
          by_cases c : sp_di n s p ≤ sp_di n s j
          · rw [if_pos c, decide_eq_false (Int32.not_lt.mpr c), if_neg (by decide)]; exact ih (nI p) (Or.inr ⟨p, hp, rfl⟩)
          · rw [if_neg c, decide_eq_true (Int32.not_le.mp c), if_pos rfl]; exact ih (nI j) (Or.inr ⟨j, hlt, rfl⟩)
theorem m_treeParent (hs : st.1 (b + 1) = s) (hn : sm_n n s) {i : Nat} (hi : i < n) : D_X6_treeParent b (nI i) st = some (sp_tp n s i) := by
  unfold D_X6_treeParent sp_tp
  have hn12 := hn.2.2
  by_cases h0 : i = 0
  · subst h0
    rw [if_pos rfl, D_X6_treeParent_L4.eq_2, hs, hn.1, if_neg (by rw [show (0 : Int32) = nI 0 from rfl]; exact nI_ge (by have := hn.2.1; omega) (by omega)), if_pos nI_0]
  · rw [if_neg h0]
    exact m_treeParent_L hs hn hi h0 4096 0 (-1) (by omega) (by omega) (Or.inl rfl)
theorem m_treeDist (hs : st.1 (b + 1) = s) (hn : sm_n n s) {i : Nat} (hi : i < n) (hnb : i ≠ 0 → ∃ j, j < n ∧ sp_lk n s i j = true) : D_X6_treeDist b (nI i) st = some (sp_td n s i) := by
  unfold D_X6_treeDist sp_td
  have hn12 := hn.2.2
  by_cases h0 : i = 0
  · subst h0
    rw [if_pos nI_0, if_pos rfl]
  · rw [if_neg (nI_ne0 (by omega) (by omega)), if_neg h0, m_treeParent hs hn hi, Option.bind_some]
    obtain ⟨j, hj, hl⟩ := hnb h0
    obtain ⟨p, hp, hb, -⟩ := sp_be_ok (i := i) (s := s) hn12 n (-1) 0 (by omega) (Or.inl rfl) (Or.inr ⟨j, by omega, by omega, hl⟩)
    have e : sp_tp n s i = nI p := by unfold sp_tp; rw [if_neg h0, hb]
    rw [e, m_distOf hs hn hp, Option.bind_some, hs, hn.1, nI_clamp (by omega)]
    split <;> rfl
theorem m_allChildren_L (hs : st.1 (b + 1) = s) (hn : sm_n n s) {i : Nat} (hi : i < n) (p : Int32) : ∀ (f j : Nat) (a : Bool), j ≤ n → n - j < f → D_X6_allChildren_L5 b (nI i) p st f (bi a) (nI j) = some (bi (a && sp_al (fun j => !sp_ch n s i j || decide (sp_ph s j = p)) j (n - j)))
  | 0, j, a, h1, h2 => by omega
  | f + 1, j, a, h1, h2 => by
    have hn12 := hn.2.2
    rw [D_X6_allChildren_L5.eq_2, hs, hn.1]
    by_cases e : j = n
    · subst e
      rw [if_pos (nI_le (Nat.le_refl _) (by omega)), Nat.sub_self, sp_al, if_pos (bi01 a), Bool.and_true]
    · have hlt : j < n := by omega
      have ih := fun a => m_allChildren_L hs hn hi p f (j + 1) a (by omega) (by omega)
      rw [if_neg (nI_ge hlt (by omega)), show n - j = (n - (j + 1)) + 1 by omega, sp_al, nI_1]
      cases a with
      | false =>
        rw [if_pos (show bi false = 0 from rfl)]
        exact ih false
      | true =>
        rw [if_neg (show ¬ bi true = 0 by decide), m_isChild hs hn hi hlt, pb_if]
        cases hl : sp_ch n s i j with
        | false => exact (ih true).trans (by rfl)
        | true =>
          rw [if_pos rfl, m_phaseOf hs (by omega), Option.bind_some]
          by_cases c : sp_ph s j = p
          · rw [if_pos c, decide_eq_true c]; exact (ih true).trans (by simp)
          · rw [if_neg c, decide_eq_false c]; exact (ih false).trans (by simp)
theorem m_allChildren (hs : st.1 (b + 1) = s) (hn : sm_n n s) {i : Nat} (hi : i < n) (p : Int32) : D_X6_allChildren b (nI i) p st = some (bi (sp_ac n s i p)) := by
  unfold D_X6_allChildren sp_ac
  exact m_allChildren_L hs hn hi p 4096 0 true (by omega) (by have := hn.2.2; omega)
theorem m_wavePhase (hs : st.1 (b + 1) = s) (hn : sm_n n s) {i : Nat} (hi : i < n) (ho : sp_in (s (36 + i)) 0 2 = true) : D_X6_wavePhase b (nI i) st = some (sp_wp n s i (s (36 + i))) := by
  have hn12 := hn.2.2
  unfold D_X6_wavePhase sp_wp
  rw [ix_36 (by omega), Option.bind_some, hs]
  generalize hoe : s (36 + i) = o at ho ⊢
  have ho := in02 ho
  by_cases h0 : i = 0
  · subst h0
    rw [if_pos nI_0, m_allChildren hs hn hi, m_allChildren hs hn hi]
    simp only [pb_if]
    rcases ho with rfl | rfl | rfl <;> cases sp_ac n s 0 0 <;> cases sp_ac n s 0 2 <;> rfl
  · rw [if_neg (nI_ne0 (by omega) (by omega)), m_parentOf hs hn hi, Option.bind_some]
    rw [m_allChildren hs hn hi, m_allChildren hs hn hi]
    simp only [pb_if, Option.bind_some]
    unfold sp_ab
    rcases sp_pr_ok (s := s) hn12 i with hp | ⟨p, hp, he, -⟩
    · rw [if_pos hp, if_pos hp]
      rcases ho with rfl | rfl | rfl <;> cases sp_ac n s i 0 <;> cases sp_ac n s i 2 <;> simp [h0]
    · rw [he, if_neg (nI_m1 (by omega)), if_neg (nI_m1 (by omega)), m_phaseOf hs (by omega), Option.bind_some, nI_clamp (by omega)]
      generalize sp_ph s p = q
      by_cases q1 : q = 1
      · subst q1
        rcases ho with rfl | rfl | rfl <;> cases sp_ac n s i 0 <;> cases sp_ac n s i 2 <;> simp [h0, bi]
      · by_cases q0 : q = 0
        · subst q0
          rcases ho with rfl | rfl | rfl <;> cases sp_ac n s i 0 <;> cases sp_ac n s i 2 <;> simp [h0, bi]
        · rcases ho with rfl | rfl | rfl <;> cases sp_ac n s i 0 <;> cases sp_ac n s i 2 <;> simp [h0, q1, q0, bi]
end SM2
