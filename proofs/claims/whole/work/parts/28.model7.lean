/-! THE REFERENCE: what is asked -/
def sp_sm (f : Nat → Int32) : Int32 → Nat → Nat → Int32
  | a, _, 0 => a
  | a, j, k + 1 => sp_sm f (a + f j) (j + 1) k
def sp_sn (f : Nat → Nat) : Nat → Nat → Nat
  | _, 0 => 0
  | j, k + 1 => f j + sp_sn f (j + 1) k
def sp_rc (n : Nat) (s : Nat → Int32) (i : Nat) : Nat := sp_ct (fun j => sp_ti n s i j && sp_ri n s i j) 0 n
/-- the first i at which the sum of f passes K -/
def sp_hf (f : Nat → Nat) : Nat → Nat → Nat → Int32
  | _, _, 0 => -1
  | K, j, k + 1 => if K < f j then nI j else sp_hf f (K - f j) (j + 1) k
def sp_ho (n : Nat) (s : Nat → Int32) (k : Int32) : Int32 := if k < 0 then -1 else sp_hf (sp_rc n s) k.toNatClampNeg 0 n
def sp_nx (n : Nat) (s : Nat → Int32) (i j : Nat) : Nat := if sp_fi (sp_ti n s j) (i + 1) (n - (i + 1)) = n then sp_ft n s j else sp_fi (sp_ti n s j) (i + 1) (n - (i + 1))
section SM8
variable {b n : Nat} {st : sn_S} {s : Nat → Int32}
theorem m_neighbourOf_L (hs : st.1 (b + 1) = s) (hn : sm_n n s) {i : Nat} (hi : i < n) (k : Int32) : ∀ (f j : Nat) (c : Int32), j ≤ n → n - j < f → D_X6_neighbourOf_L5 b (nI i) k st f c (nI j) = some (sp_kt (sp_lk n s i) k c j (n - j))
  | 0, j, c, h1, h2 => by omega
  | f + 1, j, c, h1, h2 => by
    have hn12 := hn.2.2
    rw [D_X6_neighbourOf_L5.eq_2, hs, hn.1]
    by_cases e : j = n
    · subst e
      rw [if_pos (nI_le (Nat.le_refl _) (by omega)), Nat.sub_self, sp_kt]
    · have hlt : j < n := by omega
      have ih := fun c => m_neighbourOf_L hs hn hi k f (j + 1) c (by omega) (by omega)
      rw [if_neg (nI_ge hlt (by omega)), show n - j = (n - (j + 1)) + 1 by omega, sp_kt, nI_1, m_isLink hs hn hi (by omega), pb_if]
      cases hl : sp_lk n s i j with
      | false => exact ih c
      | true =>
        rw [if_pos rfl, if_pos rfl]
        by_cases q : c = k
        · rw [if_pos q, if_pos q]
        · rw [if_neg q, if_neg q]; exact ih (c + 1)
theorem m_neighbourOf (hs : st.1 (b + 1) = s) (hn : sm_n n s) {i : Nat} (hi : i < n) (k : Int32) : D_X6_neighbourOf b (nI i) k st = some (sp_kt (sp_lk n s i) k 0 0 n) := by
  unfold D_X6_neighbourOf
  exact m_neighbourOf_L hs hn hi k 4096 0 0 (by omega) (by have := hn.2.2; omega)
theorem m_child_L (hs : st.1 (b + 1) = s) (hn : sm_n n s) {i : Nat} (hi : i < n) (k : Int32) : ∀ (f j : Nat) (c : Int32), j ≤ n → n - j < f → D_X6_child_L16 b (nI i) k st f c (nI j) = some (sp_kt (sp_ch n s i) k c j (n - j))
  | 0, j, c, h1, h2 => by omega
  | f + 1, j, c, h1, h2 => by
    have hn12 := hn.2.2
    rw [D_X6_child_L16.eq_2, hs, hn.1]
    by_cases e : j = n
    · subst e
      rw [if_pos (nI_le (Nat.le_refl _) (by omega)), Nat.sub_self, sp_kt]
    · have hlt : j < n := by omega
      have ih := fun c => m_child_L hs hn hi k f (j + 1) c (by omega) (by omega)
      rw [if_neg (nI_ge hlt (by omega)), show n - j = (n - (j + 1)) + 1 by omega, sp_kt, nI_1, m_isChild hs hn hi hlt, pb_if]
      cases hl : sp_ch n s i j with
      | false => exact ih c
      | true =>
        rw [if_pos rfl, if_pos rfl]
        by_cases q : c = k
        · rw [if_pos q, if_pos q]
        · rw [if_neg q, if_neg q]; exact ih (c + 1)
theorem m_child (hs : st.1 (b + 1) = s) (hn : sm_n n s) (x k : Int32) : D_X6_child b x k st = some (if sp_nd n x then sp_kt (sp_ch n s x.toNatClampNeg) k 0 0 n else -101) := by
  unfold D_X6_child
  rw [m_isNode hs hn, pb_if]
  cases h : sp_nd n x with
  | false => rfl
  | true =>
    obtain ⟨i, hi, rfl⟩ := sp_nd_of hn.2.2 h
    rw [if_pos rfl, if_pos rfl, nI_clamp (by have := hn.2.2; omega)]
    exact m_child_L hs hn hi k 4096 0 0 (by omega) (by have := hn.2.2; omega)
theorem m_neighbour (hs : st.1 (b + 1) = s) (hn : sm_n n s) (x k : Int32) : D_X6_neighbour b x k st = some (if sp_nd n x then sp_kt (sp_lk n s x.toNatClampNeg) k 0 0 n else -101) := by
  unfold D_X6_neighbour
  rw [m_isNode hs hn, pb_if]
  cases h : sp_nd n x with
  | false => rfl
  | true =>
    obtain ⟨i, hi, rfl⟩ := sp_nd_of hn.2.2 h
    rw [if_pos rfl, if_pos rfl, nI_clamp (by have := hn.2.2; omega), m_neighbourOf hs hn hi]
    rfl
theorem m_links_L (hs : st.1 (b + 1) = s) : ∀ (f j : Nat) (a : Int32), j ≤ 144 → 144 - j < f → D_X6_links_L4 b st f a (nI j) = some (sp_sm (fun t => s (216 + t)) a j (144 - j) / 2)
  | 0, j, a, h1, h2 => by omega
  | f + 1, j, a, h1, h2 => by
    rw [D_X6_links_L4.eq_2]
    by_cases e : j = 144
    · subst e
      rw [if_pos (by decide), Nat.sub_self, sp_sm]
    · have hlt : j < 144 := by omega
      rw [if_neg (by rw [show (144 : Int32) = nI 144 from rfl]; exact nI_ge hlt (by omega)), show 144 - j = (144 - (j + 1)) + 1 by omega, sp_sm, nI_1, show (216 : Int32) = nI 216 from rfl, nI_add, sn_ix_nI (by omega) (by decide), Option.bind_some, hs]
      exact m_links_L hs f (j + 1) _ (by omega) (by omega)
theorem m_links (hs : st.1 (b + 1) = s) : D_X6_links b st = some (sp_sm (fun t => s (216 + t)) 0 0 144 / 2) := by
  unfold D_X6_links
  exact m_links_L hs 4096 0 0 (by omega) (by omega)
theorem m_rights_L30 (hs : st.1 (b + 1) = s) (hn : sm_n n s) {i : Nat} (hi : i < n) (K : Int32 → Int32 → Option Int32) : ∀ (f j c : Nat), j ≤ n → n - j < f → D_X6_rights_L30 b (nI i) st K f (nI c) (nI j) = K (nI (c + sp_ct (fun j => sp_ti n s i j && sp_ri n s i j) j (n - j))) (nI (i + 1))
  | 0, j, c, h1, h2 => by omega
  | f + 1, j, c, h1, h2 => by
    have hn12 := hn.2.2
    rw [D_X6_rights_L30.eq_2, hs, hn.1]
    by_cases e : j = n
    · subst e
      rw [if_pos (nI_le (Nat.le_refl _) (by omega)), Nat.sub_self, sp_ct, nI_1]
      rfl
    · have hlt : j < n := by omega
      have ih := fun c => m_rights_L30 hs hn hi K f (j + 1) c (by omega) (by omega)
      rw [if_neg (nI_ge hlt (by omega)), show n - j = (n - (j + 1)) + 1 by omega, sp_ct, nI_1, nI_1, Int32.add_zero, m_isTie hs hn hi hlt, pb_if]
      cases hl : sp_ti n s i j with
      | false =>
        rw [if_neg (by decide), Bool.false_and, if_neg (by decide), Nat.zero_add]
        exact ih c
      | true =>
        rw [if_pos rfl, m_hasRight hs hn hi hlt hl, pb_if, Bool.true_and]
        cases hr : sp_ri n s i j with
        | false =>
          rw [if_neg (by decide), if_neg (by decide), Nat.zero_add]
          exact ih c
        | true =>
          rw [if_pos rfl, if_pos rfl, ← Nat.add_assoc]
          exact ih (c + 1)
theorem m_rights_L4 (hs : st.1 (b + 1) = s) (hn : sm_n n s) (hb : s 361 = 1) : ∀ (f i c : Nat), i ≤ n → n - i < f → D_X6_rights_L4 b st f (nI c) (nI i) = some (nI (c + sp_sn (sp_rc n s) i (n - i)))
  | 0, i, c, h1, h2 => by omega
  | f + 1, i, c, h1, h2 => by
    have hn12 := hn.2.2
    rw [D_X6_rights_L4.eq_2, hs, hn.1]
    by_cases e : i = n
    · subst e
      rw [if_pos (nI_le (Nat.le_refl _) (by omega)), Nat.sub_self, sp_sn, Nat.add_zero]
    · have hlt : i < n := by omega
      rw [if_neg (nI_ge hlt (by omega)), if_pos hb, show n - i = (n - (i + 1)) + 1 by omega, sp_sn]
      have h := m_rights_L30 hs hn hlt (fun y1 y2 => D_X6_rights_L4 b st f y1 y2) 4096 0 c (by omega) (by omega)
      rw [nI_0, Nat.sub_zero] at h
      rw [h]
      show D_X6_rights_L4 b st f (nI (c + sp_rc n s i)) (nI (i + 1)) = _
      rw [m_rights_L4 hs hn hb f (i + 1) _ (by omega) (by omega), Nat.add_assoc]
/-- how many HAVE THE RIGHT -/
def sp_rt (n : Nat) (s : Nat → Int32) : Nat := if s 361 = 1 then sp_sn (sp_rc n s) 0 n else 0
theorem m_rights (hs : st.1 (b + 1) = s) (hn : sm_n n s) : D_X6_rights b st = some (nI (sp_rt n s)) := by
  unfold D_X6_rights sp_rt
  have hn12 := hn.2.2
  by_cases hb : s 361 = 1
  · rw [if_pos hb]
    have := m_rights_L4 hs hn hb 4096 0 0 (by omega) (by omega)
    rw [Nat.zero_add, nI_0] at this
    exact this
  · rw [if_neg hb, D_X6_rights_L4.eq_2, hs, hn.1, if_neg hb, nI_0]
    split <;> rfl
theorem m_holder_L31 (hs : st.1 (b + 1) = s) (hn : sm_n n s) {i : Nat} (hi : i < n) (k : Int32) (K : Int32 → Int32 → Option Int32) : ∀ (f j c : Nat), j ≤ n → n - j < f → c ≤ 12 * i + j → (k < 0 ∨ ∃ q, q < 2 ^ 31 ∧ k = nI q ∧ c ≤ q) → D_X6_holder_L31 b k (nI i) st K f (nI c) (nI j) = (if ¬ k < 0 ∧ k.toNatClampNeg < c + sp_ct (fun j => sp_ti n s i j && sp_ri n s i j) j (n - j) then some (nI i) else K (nI (c + sp_ct (fun j => sp_ti n s i j && sp_ri n s i j) j (n - j))) (nI (i + 1)))
  | 0, j, c, h1, h2, _, _ => by omega
  | f + 1, j, c, h1, h2, hc, hk => by
    have hn12 := hn.2.2
    rw [D_X6_holder_L31.eq_2, hs, hn.1]
    by_cases e : j = n
    · subst e
      rw [if_pos (nI_le (Nat.le_refl _) (by omega)), Nat.sub_self, sp_ct, nI_1, if_neg]
      · rfl
      · rintro ⟨g1, g2⟩
        rcases hk with hk | ⟨q, hq, hq2, hq3⟩
        · exact g1 hk
        · rw [hq2, nI_clamp hq] at g2; omega
    · have hlt : j < n := by omega
      have ih := fun c => m_holder_L31 hs hn hi k K f (j + 1) c (by omega) (by omega)
      rw [if_neg (nI_ge hlt (by omega)), show n - j = (n - (j + 1)) + 1 by omega, sp_ct, nI_1, nI_1, m_isTie hs hn hi hlt, pb_if]
      cases hl : sp_ti n s i j with
      | false =>
        rw [if_neg (by decide), Bool.false_and]
        simp only [Bool.false_eq_true, if_false, Nat.zero_add]
        exact ih c (by omega) hk
      | true =>
        rw [if_pos rfl, m_hasRight hs hn hi hlt hl, pb_if, Bool.true_and]
        cases hr : sp_ri n s i j with
        | false =>
          simp only [Bool.false_eq_true, if_false, Nat.zero_add]
          exact ih c (by omega) hk
        | true =>
          simp only [if_true]
          by_cases q : nI c = k
          · rw [if_pos q, if_pos]
            refine ⟨fun z => ?_, ?_⟩
            · rw [← q] at z; exact nI_pos (by omega) z
            · rw [← q, nI_clamp (by omega)]; omega
          · rw [if_neg q, ← Nat.add_assoc]
            refine ih (c + 1) (by omega) ?_
            rcases hk with hk | ⟨z, hz, hz2, hz3⟩
            · exact Or.inl hk
            · refine Or.inr ⟨z, hz, hz2, ?_⟩
              rcases Nat.lt_or_ge c z with w | w
              · exact w
              · exact absurd (by rw [hz2, show c = z by omega]) q
theorem m_holder_L4 (hs : st.1 (b + 1) = s) (hn : sm_n n s) (hb : s 361 = 1) (k : Int32) : ∀ (f i c : Nat), i ≤ n → n - i < f → c ≤ 12 * i → (k < 0 ∨ ∃ q, q < 2 ^ 31 ∧ k = nI q ∧ c ≤ q) → D_X6_holder_L4 b k st f (nI c) (nI i) = some (if k < 0 then -1 else sp_hf (sp_rc n s) (k.toNatClampNeg - c) i (n - i))
  | 0, i, c, h1, h2, _, _ => by omega
  | f + 1, i, c, h1, h2, hc, hk => by
    have hn12 := hn.2.2
    rw [D_X6_holder_L4.eq_2, hs, hn.1]
    by_cases e : i = n
    · subst e
      rw [if_pos (nI_le (Nat.le_refl _) (by omega)), Nat.sub_self, sp_hf]
      split <;> rfl
    · have hlt : i < n := by omega
      rw [if_neg (nI_ge hlt (by omega)), if_pos hb, show n - i = (n - (i + 1)) + 1 by omega, sp_hf]
      have h := m_holder_L31 hs hn hlt k (fun y2 y3 => D_X6_holder_L4 b k st f y2 y3) 4096 0 c (by omega) (by omega) (by omega) hk
      rw [nI_0, Nat.sub_zero] at h
      have hle : sp_rc n s i ≤ n := sp_ct_le n 0
      change _ = (if ¬ k < 0 ∧ k.toNatClampNeg < c + sp_rc n s i then some (nI i) else D_X6_holder_L4 b k st f (nI (c + sp_rc n s i)) (nI (i + 1))) at h
      rw [h]
      rcases hk with hk | ⟨q, hq, hq2, hq3⟩
      · rw [if_neg (fun z => z.1 hk), m_holder_L4 hs hn hb k f (i + 1) _ (by omega) (by omega) (by omega) (Or.inl hk), if_pos hk, if_pos hk]
      · have hk0 : ¬ k < 0 := by rw [hq2]; exact nI_pos hq
        have hkq : k.toNatClampNeg = q := by rw [hq2, nI_clamp hq]
        by_cases w : q < c + sp_rc n s i
        · rw [if_pos ⟨hk0, by omega⟩, if_neg hk0, if_pos (by omega)]
        · rw [if_neg (fun z => w (by omega)), m_holder_L4 hs hn hb k f (i + 1) _ (by omega) (by omega) (by omega) (Or.inr ⟨q, hq, hq2, by omega⟩), if_neg hk0, if_neg hk0, if_neg (by omega), show k.toNatClampNeg - (c + sp_rc n s i) = k.toNatClampNeg - c - sp_rc n s i by omega]
theorem m_holder (hs : st.1 (b + 1) = s) (hn : sm_n n s) (k : Int32) : D_X6_holder b k st = some (if s 361 = 1 then sp_ho n s k else -1) := by
  unfold D_X6_holder sp_ho
  have hn12 := hn.2.2
  by_cases hb : s 361 = 1
  · rw [if_pos hb]
    have h0 : k < 0 ∨ ∃ q, q < 2 ^ 31 ∧ k = nI q ∧ 0 ≤ q := by
      by_cases c : k < 0
      · exact Or.inl c
      · obtain ⟨j, h1, h2⟩ := nI_of c
        exact Or.inr ⟨j, h1, h2, by omega⟩
    exact m_holder_L4 hs hn hb k 4096 0 0 (by omega) (by omega) (by omega) h0
  · rw [if_neg hb, D_X6_holder_L4.eq_2, hs, hn.1, if_neg hb]
    split <;> rfl
theorem m_next_L (hs : st.1 (b + 1) = s) (hn : sm_n n s) {i j : Nat} (hi : i < n) (hj : j < n) : ∀ (f t : Nat), i ≤ t → t < n → t - i < f → D_X6_next_L68 b (nI i) (nI j) st f (if sp_fi (sp_ti n s j) (t + 1) (n - (t + 1)) = n then -1 else nI (sp_fi (sp_ti n s j) (t + 1) (n - (t + 1)))) (nI t) = some (nI (sp_nx n s i j))
  | 0, t, h1, h2, h3 => by omega
  | f + 1, t, h1, h2, h3 => by
    have hn12 := hn.2.2
    rw [D_X6_next_L68.eq_2]
    by_cases e : t = i
    · subst e
      rw [if_pos (nI_le (Nat.le_refl _) (by omega))]
      unfold sp_nx
      by_cases c : sp_fi (sp_ti n s j) (t + 1) (n - (t + 1)) = n
      · rw [if_pos c, if_pos c, if_pos rfl, m_firstTie hs hn hj]; rfl
      · have := (sp_fi_le (P := sp_ti n s j) (n - (t + 1)) (t + 1)).2.1
        rw [if_neg c, if_neg c, if_neg (nI_m1 (by omega))]
    · have hlt : i < t := by omega
      obtain ⟨u, rfl⟩ : ∃ u, t = u + 1 := ⟨t - 1, by omega⟩
      have ih := m_next_L hs hn hi hj f u (by omega) (by omega) (by omega)
      rw [show n - (u + 1) = (n - (u + 1 + 1)) + 1 by omega, sp_fi] at ih
      rw [if_neg (nI_ge hlt (by omega)), m_isTie hs hn hj h2, pb_if, pk_m1]
      cases hl : sp_ti n s j (u + 1) with
      | false => simp only [hl, Bool.false_eq_true, if_false] at ih; exact ih
      | true => simp only [hl, if_true] at ih; rw [if_neg (by omega)] at ih; rw [if_pos rfl]; exact ih
theorem m_next (hs : st.1 (b + 1) = s) (hn : sm_n n s) (x y : Int32) : D_X6_next b x y st = some (if sp_nd n x && sp_nd n y then (if sp_ti n s x.toNatClampNeg y.toNatClampNeg && sp_ti n s y.toNatClampNeg x.toNatClampNeg then (if s 361 = 0 then -103 else nI (sp_nx n s x.toNatClampNeg y.toNatClampNeg)) else -102) else -101) := by
  have hn12 := hn.2.2
  unfold D_X6_next
  rw [m_isNode hs hn, m_isNode hs hn, pb_if]
  cases h : sp_nd n x with
  | false => rfl
  | true =>
    rw [if_pos rfl, pb_if]
    cases h2 : sp_nd n y with
    | false => rfl
    | true =>
      obtain ⟨i, hi, rfl⟩ := sp_nd_of hn12 h
      obtain ⟨j, hj, rfl⟩ := sp_nd_of hn12 h2
      rw [if_pos rfl, nI_clamp (by omega), nI_clamp (by omega), m_isTie hs hn hi hj, pb_if, m_isTie hs hn hj hi, pb_if, hs, hn.1]
      cases sp_ti n s i j with
      | false => rfl
      | true =>
        cases sp_ti n s j i with
        | false => rfl
        | true =>
          rw [if_pos rfl, if_pos rfl]
          simp only [Bool.and_self, if_true]
          by_cases c : s 361 = 0
          · rw [if_pos c, if_pos c]
          · rw [if_neg c, if_neg c, show (1 : Int32) = nI 1 from rfl, pk_sub (by omega)]
            have := m_next_L hs hn hi hj 4096 (n - 1) (by omega) (by omega) (by omega)
            rw [show n - 1 + 1 = n by omega, Nat.sub_self, sp_fi, if_pos rfl] at this
            exact this
end SM8
