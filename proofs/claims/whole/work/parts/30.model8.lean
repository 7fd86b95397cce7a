/-! THE REFERENCE: AT REST, and what changes it from outside -/
def dn (u : Nat) : Int32 := if u = 0 then -1 else nI (u - 1)
theorem dn_s (u : Nat) : dn (u + 1) = nI u := by unfold dn; rw [if_neg (by omega)]; rfl
theorem dn_p (u : Nat) : nI u + (-1) = dn u := by
  unfold dn
  by_cases c : u = 0
  · rw [if_pos c, c]; rfl
  · rw [if_neg c]
    obtain ⟨v, rfl⟩ : ∃ v, u = v + 1 := ⟨u - 1, by omega⟩
    rw [pk_m1]; rfl
section SM9
variable {b n : Nat} {st : sn_S} {s : Nat → Int32}
theorem m_isRest_L47 (hs : st.1 (b + 1) = s) (hF : ∀ k, k < 12 → st.1 (b + 4) k = sp_fa n s n k) (hn : sm_n n s) {i : Nat} (hi : i < n) (a : Bool) (K : Int32 → Int32 → Option (Int32 × sn_S)) : ∀ (f u : Nat), u ≤ n → u < f → D_X6_isRest_L47 b (bi a) (nI i) st K f (if sp_fi (fun j => sp_lk n s i j && decide (sp_fa n s n j < sp_fa n s n i)) u (n - u) = n then -1 else nI (sp_fi (fun j => sp_lk n s i j && decide (sp_fa n s n j < sp_fa n s n i)) u (n - u))) (dn u) = K (bi (a && sp_r1 n s i)) (nI (i + 1))
  | 0, u, h1, h2 => by omega
  | f + 1, u, h1, h2 => by
    have hn12 := hn.2.2
    rw [D_X6_isRest_L47.eq_2]
    by_cases e : u = 0
    · subst e
      rw [show dn 0 = -1 from rfl, if_pos (by decide), nI_1, Nat.sub_zero]
      change (if bi a = 0 then _ else _) = _
      have hnr : (if sp_fi (fun j => sp_lk n s i j && decide (sp_fa n s n j < sp_fa n s n i)) 0 n = n then (-1 : Int32) else nI (sp_fi (fun j => sp_lk n s i j && decide (sp_fa n s n j < sp_fa n s n i)) 0 n)) = sp_nr n s i := rfl
      rw [hnr]
      cases a with
      | false => rw [if_pos (show bi false = 0 from rfl), Bool.false_and]; rfl
      | true =>
        rw [if_neg (show ¬ bi true = 0 by decide), m_isSane hs hn hi, pb_if, ix_12 (by omega), Option.bind_some, sn_ix_nI (by omega : i < 12) (by decide), Option.bind_some, ix_24 (by omega), Option.bind_some, hs, hF i (by omega), Bool.true_and]
        unfold sp_r1
        cases sp_sa n s i with
        | false => rw [if_neg (by decide), Bool.false_and]; rfl
        | true =>
          rw [if_pos rfl, Bool.true_and]
          by_cases c1 : s (12 + i) = sp_fa n s n i
          · rw [if_pos c1, decide_eq_true c1, Bool.true_and]
            by_cases c2 : s (24 + i) = sp_nr n s i
            · rw [if_pos c2, decide_eq_true c2]; rfl
            · rw [if_neg c2, decide_eq_false c2]; rfl
          · rw [if_neg c1, decide_eq_false c1, Bool.false_and]; rfl
    · obtain ⟨v, rfl⟩ : ∃ v, u = v + 1 := ⟨u - 1, by omega⟩
      have ih := m_isRest_L47 hs hF hn hi a K f v (by omega) (by omega)
      rw [show n - v = (n - (v + 1)) + 1 by omega, sp_fi] at ih
      rw [dn_s, if_neg (nI_pos (by omega)), m_isLink hs hn hi (by omega), pb_if, sn_ix_nI (by omega : v < 12) (by decide), Option.bind_some, sn_ix_nI (by omega : i < 12) (by decide), Option.bind_some, hF i (by omega), hF v (by omega), dn_p]
      cases hl : sp_lk n s i v with
      | false => simp only [hl, Bool.false_and, Bool.false_eq_true, if_false] at ih ⊢; exact ih
      | true =>
        by_cases c : sp_fa n s n i ≤ sp_fa n s n v
        · simp only [hl, Bool.true_and, decide_eq_true_eq, if_neg (Int32.not_lt.mpr c)] at ih
          simp only [if_true, if_pos c]
          exact ih
        · simp only [hl, Bool.true_and, decide_eq_true_eq, if_pos (Int32.not_le.mp c)] at ih
          rw [if_neg (by omega)] at ih
          simp only [if_true, if_neg c]
          exact ih
theorem m_isRest_L21 (hs : st.1 (b + 1) = s) (hF : ∀ k, k < 12 → st.1 (b + 4) k = sp_fa n s n k) (hn : sm_n n s) : ∀ (f i : Nat) (a : Bool), i ≤ n → n - i < f → D_X6_isRest_L21 b st f (bi a) (nI i) = some (bi ((a && sp_al (sp_r1 n s) i (n - i)) && decide (sp_rt n s = 1)), st)
  | 0, i, a, h1, h2 => by omega
  | f + 1, i, a, h1, h2 => by
    have hn12 := hn.2.2
    rw [D_X6_isRest_L21.eq_2, hs, hn.1]
    by_cases e : i = n
    · subst e
      rw [if_pos (nI_le (Nat.le_refl _) (by omega)), Nat.sub_self, sp_al, Bool.and_true, m_rights hs hn, Option.bind_some]
      have hrt : sp_rt i s < 2 ^ 31 := by
        have : ∀ (k j : Nat), sp_sn (sp_rc i s) j k ≤ 12 * k := fun k => by
          induction k with
          | zero => intro j; exact Nat.le_refl _
          | succ k ih =>
            intro j
            have h1 := ih (j + 1)
            have h2 : sp_rc i s j ≤ i := sp_ct_le i 0
            rw [sp_sn]
            omega
        unfold sp_rt
        split
        · have := this i 0; omega
        · omega
      cases a with
      | false => rw [if_pos (show bi false = 0 from rfl), Bool.false_and]; rfl
      | true =>
        rw [if_neg (show ¬ bi true = 0 by decide), Bool.true_and]
        by_cases c : sp_rt i s = 1
        · rw [if_pos (by rw [c]; rfl), decide_eq_true c]; rfl
        · have c' : ¬ nI (sp_rt i s) = 1 := fun q => c ((nI_eq (b := 1) hrt (by omega)).mp q)
          rw [if_neg c', decide_eq_false c]; rfl
    · have hlt : i < n := by omega
      have ih := fun a => m_isRest_L21 hs hF hn f (i + 1) a (by omega) (by omega)
      have h := m_isRest_L47 hs hF hn hlt a (fun y1 y2 => D_X6_isRest_L21 b st f y1 y2) 4096 n (Nat.le_refl _) (by omega)
      rw [Nat.sub_self, sp_fi, if_pos rfl] at h
      rw [if_neg (nI_ge hlt (by omega)), show nI n - 1 = dn n by rw [← dn_p]; exact Int32.sub_eq_add_neg _ _, h, show n - i = (n - (i + 1)) + 1 by omega, sp_al]
      rw [ih]
      simp only [Bool.and_assoc]
theorem m_isRest (hs : st.1 (b + 1) = s) (hn : sm_n n s) (h01 : s 361 = 0 ∨ s 361 = 1) : ∃ st2 : sn_S, st_but (b + 4) st st2 ∧ D_X6_isRest b st = some (bi (sp_rs n s), st2) := by
  unfold D_X6_isRest sp_rs
  rw [hs]
  rcases h01 with h | h
  · rw [if_pos h, h, show decide ((0 : Int32) = 1) = false from rfl, Bool.false_and]
    exact ⟨st, st_but.rf, rfl⟩
  · rw [if_neg (by rw [h]; decide), h, show decide ((1 : Int32) = 1) = true from rfl, Bool.true_and]
    obtain ⟨st2, h2, h3⟩ := m_measure hs hn
    rw [h3, Option.bind_some]
    have hs2 : st2.1 (b + 1) = s := (h2.2.1 (b + 1) (by omega)).trans hs
    have := m_isRest_L21 hs2 h2.1 hn 4096 0 true (by omega) (by have := hn.2.2; omega)
    rw [Nat.sub_zero, Bool.true_and, nI_0] at this
    exact ⟨st2, h2.2, this⟩
theorem m_distance (hs : st.1 (b + 1) = s) (hn : sm_n n s) (x : Int32) : ∃ st2 : sn_S, st_but (b + 4) st st2 ∧ D_X6_distance b x st = some (if sp_nd n x then sp_fa n s n x.toNatClampNeg else -101, st2) := by
  unfold D_X6_distance
  rw [m_isNode hs hn, pb_if]
  cases h : sp_nd n x with
  | false => exact ⟨st, st_but.rf, rfl⟩
  | true =>
    obtain ⟨i, hi, rfl⟩ := sp_nd_of hn.2.2 h
    obtain ⟨st2, h2, h3⟩ := m_measure hs hn
    have hn12 := hn.2.2
    rw [if_pos rfl, h3, Option.bind_some, sn_ix_nI (by omega : i < 12) (by decide), Option.bind_some, h2.1 i (by omega), nI_clamp (by omega)]
    exact ⟨st2, h2.2, rfl⟩
/-- open: all but DICE, SEEN -/
def sp_ov (k : Nat) : Int32 := if 24 ≤ k ∧ k < 36 then -1 else 0
def sp_op (s : Nat → Int32) (x : Int32) (j : Nat) : Nat → Int32 := fun k => if k < j ∧ k ≠ 370 ∧ k ≠ 371 then sp_ov k else s k
theorem m_open_L (hs : st.1 (b + 1) = s) (x w : Int32) : ∀ (f j : Nat) (st1 : sn_S), j ≤ 374 → 374 - j < f → st_but (b + 1) st st1 → st1.1 (b + 1) = sp_op s x j → ∃ st2 : sn_S, D_X6_open_L24 b x w f (nI j) st1 = some (w, st2) ∧ st_but (b + 1) st st2 ∧ st2.1 (b + 1) = upd (sp_op s x 374) 360 x
  | 0, j, st1, h1, h2, _, _ => by omega
  | f + 1, j, st1, h1, h2, hB, hx => by
    rw [D_X6_open_L24.eq_2]
    by_cases e : j = 374
    · subst e
      rw [if_pos (by decide)]
      exact ⟨_, rfl, hB.wr _ _, by rw [wr_s, hx]⟩
    · have hlt : j < 374 := by omega
      have ih := fun st1 => m_open_L hs x w f (j + 1) st1 (by omega) (by omega)
      have lits : (374 : Int32) = nI 374 ∧ (370 : Int32) = nI 370 ∧ (371 : Int32) = nI 371 ∧ (24 : Int32) = nI 24 ∧ (36 : Int32) = nI 36 := ⟨rfl, rfl, rfl, rfl, rfl⟩
      rw [lits.1, lits.2.1, lits.2.2.1, lits.2.2.2.1, lits.2.2.2.2, if_neg (nI_ge hlt (by omega)), nI_1, sn_ix_nI hlt (by decide)]
      simp only [Option.bind_some]
      have keep : (j = 370 ∨ j = 371) → sp_op s x j = sp_op s x (j + 1) := fun hj => by
        funext k
        unfold sp_op
        by_cases c : k < j ∧ k ≠ 370 ∧ k ≠ 371
        · rw [if_pos c, if_pos ⟨by omega, c.2⟩]
        · rw [if_neg c, if_neg (by omega)]
      have put : ∀ v : Int32, j ≠ 370 → j ≠ 371 → v = sp_ov j → upd (sp_op s x j) j v = sp_op s x (j + 1) := fun v a1 a2 hv => by
        funext k
        unfold sp_op upd
        by_cases ek : k = j
        · subst ek; rw [if_pos rfl, if_pos ⟨by omega, a1, a2⟩, hv]
        · rw [if_neg ek]
          show (if k < j ∧ k ≠ 370 ∧ k ≠ 371 then sp_ov k else s k) = _
          by_cases c : k < j ∧ k ≠ 370 ∧ k ≠ 371
          · rw [if_pos c, if_pos ⟨by omega, c.2⟩]
          · rw [if_neg c, if_neg (by omega)]
      by_cases c1 : j = 370
      · rw [if_pos (by rw [c1])]
        exact ih st1 hB (hx.trans (keep (Or.inl c1)))
      · rw [if_neg (fun q => c1 ((nI_eq (by omega) (by omega)).mp q))]
        by_cases c2 : j = 371
        · rw [if_pos (by rw [c2])]
          exact ih st1 hB (hx.trans (keep (Or.inr c2)))
        · rw [if_neg (fun q => c2 ((nI_eq (by omega) (by omega)).mp q))]
          by_cases c3 : j < 24
          · rw [if_pos (nI_lt c3 (by omega))]
            exact ih _ (hB.wr _ _) (by rw [wr_s, hx]; exact put 0 c1 c2 (by unfold sp_ov; rw [if_neg (by omega)]))
          · rw [if_neg (nI_nlt (by omega) (by omega))]
            by_cases c4 : 36 ≤ j
            · rw [if_pos (nI_le c4 (by omega))]
              exact ih _ (hB.wr _ _) (by rw [wr_s, hx]; exact put 0 c1 c2 (by unfold sp_ov; rw [if_neg (by omega)]))
            · rw [if_neg (nI_ge (by omega) (by omega))]
              exact ih _ (hB.wr _ _) (by rw [wr_s, hx]; exact put (-1) c1 c2 (by unfold sp_ov; rw [if_pos (by omega)]))
theorem m_open (hs : st.1 (b + 1) = s) (x : Int32) : ∃ st2 : sn_S, D_X6_open b x st = some (if sp_in x 2 12 then s 360 else -102, st2) ∧ st_but (b + 1) st st2 ∧ st2.1 (b + 1) = if sp_in x 2 12 then upd (sp_op s x 374) 360 x else s := by
  unfold D_X6_open
  rw [m_in, pb_if]
  cases h : sp_in x 2 12 with
  | false => exact ⟨st, rfl, st_but.rf, hs⟩
  | true =>
    rw [if_pos rfl, hs]
    exact m_open_L hs x (s 360) 4096 0 st (by omega) (by omega) st_but.rf (by rw [hs]; funext k; unfold sp_op; rw [if_neg (by omega)])
end SM9
