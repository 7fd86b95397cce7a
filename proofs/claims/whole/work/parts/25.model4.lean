/-! THE REFERENCE: what changes its arrays -/
theorem wr_s (st : sn_S) (c k : Nat) (v : Int32) : (sn_wr st c k v).1 c = upd (st.1 c) k v := if_pos rfl
theorem wr_o (st : sn_S) {c a : Nat} (k : Nat) (v : Int32) (h : a ≠ c) : (sn_wr st c k v).1 a = st.1 a := if_neg h
theorem wr_2 (st : sn_S) (c k : Nat) (v : Int32) : (sn_wr st c k v).2 = st.2 := rfl
theorem wr_at (st : sn_S) (c k : Nat) (v : Int32) : (sn_wr st c k v).1 c k = v := by rw [wr_s, pk_us]
theorem wr_ne (st : sn_S) (c : Nat) {k j : Nat} (v : Int32) (h : j ≠ k) : (sn_wr st c k v).1 c j = st.1 c j := by rw [wr_s, pk_un h]
/-- all but the cell c is as it was -/
def st_but (c : Nat) (st st' : sn_S) : Prop := (∀ a, a ≠ c → st'.1 a = st.1 a) ∧ st'.2 = st.2
theorem st_but.rf {c : Nat} {st : sn_S} : st_but c st st := ⟨fun _ _ => rfl, rfl⟩
theorem st_but.wr {c : Nat} {st st' : sn_S} (h : st_but c st st') (k : Nat) (v : Int32) : st_but c st (sn_wr st' c k v) := ⟨fun a ha => (wr_o st' k v ha).trans (h.1 a ha), h.2⟩
section SM4
variable {b n : Nat} {st : sn_S} {s : Nat → Int32}
/-- in round d, at (a, j): is k new? -/
def fa_nw (n : Nat) (s : Nat → Int32) (d a j k : Nat) : Bool := sp_an (fun a => decide (sp_fa n s d a = nI d) && sp_lk n s a k) 0 a || (decide (sp_fa n s d a = nI d) && sp_lk n s a k && decide (k < j))
def fa_g (n : Nat) (s : Nat → Int32) (d a j k : Nat) : Int32 := if sp_fa n s d k = -1 ∧ fa_nw n s d a j k = true then nI (d + 1) else sp_fa n s d k
def sm_F (b : Nat) (st0 st : sn_S) (G : Nat → Int32) : Prop := (∀ k, k < 12 → st.1 (b + 4) k = G k) ∧ st_but (b + 4) st0 st
theorem m_measure_L59 (hs : st.1 (b + 1) = s) (hn : sm_n n s) {d a : Nat} (hd : d < n) (ha : a < n) (K : Int32 → sn_S → Option sn_S) : ∀ (f j : Nat) (st1 : sn_S), j ≤ n → n - j < f → sm_F b st st1 (fa_g n s d a j) → ∃ st2, sm_F b st st2 (fa_g n s d a n) ∧ D_X6_measure_L59 b (nI d) (nI a) K f (nI j) st1 = K (nI (a + 1)) st2
  | 0, j, st1, h1, h2, _ => by omega
  | f + 1, j, st1, h1, h2, hF => by
    have hn12 := hn.2.2
    have hs1 : st1.1 (b + 1) = s := (hF.2.1 (b + 1) (by omega)).trans hs
    rw [D_X6_measure_L59.eq_2, hs1, hn.1]
    by_cases e : j = n
    · subst e
      rw [if_pos (nI_le (Nat.le_refl _) (by omega)), nI_1]
      exact ⟨st1, hF, rfl⟩
    · have hlt : j < n := by omega
      have ih := fun st1 h => m_measure_L59 hs hn hd ha K f (j + 1) st1 (by omega) (by omega) h
      rw [if_neg (nI_ge hlt (by omega)), sn_ix_nI (by omega : a < 12) (by decide), Option.bind_some, hF.1 a (by omega), nI_1, m_isLink hs1 hn ha (by omega), pb_if, sn_ix_nI (by omega : j < 12) (by decide), Option.bind_some, Option.bind_some, hF.1 j (by omega), nI_1]
      -- the state goes on as it is
      have stay : ¬ (sp_fa n s d a = nI d ∧ sp_lk n s a j = true ∧ fa_g n s d a j j = -1) → sm_F b st st1 (fa_g n s d a (j + 1)) := fun hc => by
        refine ⟨fun k hk => (hF.1 k hk).trans ?_, hF.2⟩
        unfold fa_g
        by_cases ek : k = j
        · subst ek
          by_cases c1 : sp_fa n s d k = -1
          · have c2 : fa_nw n s d a k k = fa_nw n s d a (k + 1) k := by
              unfold fa_nw
              rw [decide_eq_false (show ¬ k < k by omega), decide_eq_true (show k < k + 1 by omega), Bool.and_false, Bool.or_false, Bool.and_true]
              cases q : sp_an (fun a => decide (sp_fa n s d a = nI d) && sp_lk n s a k) 0 a with
              | true => rfl
              | false =>
                cases q2 : (decide (sp_fa n s d a = nI d) && sp_lk n s a k) with
                | false => rfl
                | true =>
                  obtain ⟨z1, z2⟩ := Bool.and_eq_true_iff.mp q2
                  refine absurd ⟨of_decide_eq_true z1, z2, ?_⟩ hc
                  unfold fa_g fa_nw
                  rw [q, decide_eq_false (show ¬ k < k by omega), Bool.and_false, Bool.or_false, if_neg (fun z => by cases z.2)]
                  exact c1
            rw [c2]
          · rw [if_neg (fun z => c1 z.1), if_neg (fun z => c1 z.1)]
        · have c2 : fa_nw n s d a j k = fa_nw n s d a (j + 1) k := by
            unfold fa_nw
            rw [show decide (k < j) = decide (k < j + 1) from decide_eq_decide.mpr (by omega)]
          rw [c2]
      have hga : (fa_g n s d a j a = nI d) = (sp_fa n s d a = nI d) := by
        unfold fa_g
        by_cases c : sp_fa n s d a = -1 ∧ fa_nw n s d a j a = true
        · rw [if_pos c, c.1]
          refine propext ⟨fun z => ?_, fun z => ?_⟩
          · have := (nI_eq (by omega) (by omega)).mp z; omega
          · exact absurd z.symm (nI_m1 (by omega))
        · rw [if_neg c]
      by_cases c1 : sp_fa n s d a = nI d
      · rw [if_pos (hga ▸ c1)]
        cases hl : sp_lk n s a j with
        | false => rw [if_neg (by decide)]; exact ih st1 (stay (fun z => by rw [hl] at z; cases z.2.1))
        | true =>
          rw [if_pos rfl]
          by_cases c3 : fa_g n s d a j j = -1
          · rw [if_pos c3]
            refine ih _ ⟨fun k hk => ?_, hF.2.wr _ _⟩
            by_cases ek : k = j
            · subst ek
              rw [wr_at]
              have z1 : sp_fa n s d k = -1 := by
                unfold fa_g at c3
                by_cases q : sp_fa n s d k = -1 ∧ fa_nw n s d a k k = true
                · exact q.1
                · rwa [if_neg q] at c3
              have z2 : fa_nw n s d a (k + 1) k = true := by
                unfold fa_nw
                rw [decide_eq_true c1, hl, decide_eq_true (show k < k + 1 by omega)]
                simp
              unfold fa_g
              rw [if_pos ⟨z1, z2⟩]
            · rw [wr_ne _ _ _ ek, hF.1 k hk]
              unfold fa_g fa_nw
              rw [show decide (k < j) = decide (k < j + 1) from decide_eq_decide.mpr (by omega)]
          · rw [if_neg c3]; exact ih st1 (stay (fun z => c3 z.2.2))
      · rw [if_neg (hga ▸ c1)]; exact ih st1 (stay (fun z => c1 z.1))
theorem fa_g_row {d a k : Nat} : fa_g n s d a n k = fa_g n s d (a + 1) 0 k := by
  unfold fa_g
  have c : fa_nw n s d a n k = fa_nw n s d (a + 1) 0 k := by
    unfold fa_nw
    rw [decide_eq_false (show ¬ k < 0 by omega), Bool.and_false, Bool.or_false, Bool.eq_iff_iff, Bool.or_eq_true, sp_an_iff, sp_an_iff]
    constructor
    · rintro (⟨t, h1, h2, h3⟩ | h)
      · exact ⟨t, h1, by omega, h3⟩
      · exact ⟨a, by omega, by omega, (Bool.and_eq_true_iff.mp h).1⟩
    · rintro ⟨t, h1, h2, h3⟩
      by_cases e : t = a
      · subst e
        right
        rw [h3, Bool.true_and]
        have := (Bool.and_eq_true_iff.mp h3).2
        unfold sp_lk at this
        simp at this
        exact decide_eq_true this.2.1
      · exact Or.inl ⟨t, h1, by omega, h3⟩
  rw [c]
theorem m_measure_L45 (hs : st.1 (b + 1) = s) (hn : sm_n n s) {d : Nat} (hd : d < n) (K : Int32 → sn_S → Option sn_S) : ∀ (f a : Nat) (st1 : sn_S), a ≤ n → n - a < f → sm_F b st st1 (fa_g n s d a 0) → ∃ st2, sm_F b st st2 (fa_g n s d n 0) ∧ D_X6_measure_L45 b (nI d) K f (nI a) st1 = K (nI (d + 1)) st2
  | 0, a, st1, h1, h2, _ => by omega
  | f + 1, a, st1, h1, h2, hF => by
    have hn12 := hn.2.2
    have hs1 : st1.1 (b + 1) = s := (hF.2.1 (b + 1) (by omega)).trans hs
    rw [D_X6_measure_L45.eq_2, hs1, hn.1]
    by_cases e : a = n
    · subst e
      rw [if_pos (nI_le (Nat.le_refl _) (by omega)), nI_1]
      exact ⟨st1, hF, rfl⟩
    · have hlt : a < n := by omega
      rw [if_neg (nI_ge hlt (by omega))]
      obtain ⟨st2, h3, h4⟩ := m_measure_L59 hs hn hd hlt (fun y2 yt => D_X6_measure_L45 b (nI d) K f y2 yt) 4096 0 st1 (by omega) (by omega) hF
      obtain ⟨st3, h5, h6⟩ := m_measure_L45 hs hn hd K f (a + 1) st2 (by omega) (by omega) ⟨fun k hk => (h3.1 k hk).trans fa_g_row, h3.2⟩
      exact ⟨st3, h5, h4.trans h6⟩
theorem fa_g_0 {d k : Nat} : fa_g n s d 0 0 k = sp_fa n s d k := by
  unfold fa_g fa_nw
  rw [sp_an, decide_eq_false (show ¬ k < 0 by omega), Bool.and_false, Bool.or_false, if_neg (fun z => by cases z.2)]
theorem fa_g_n {d k : Nat} : fa_g n s d n 0 k = sp_fa n s (d + 1) k := by
  rw [sp_fa]
  unfold fa_g fa_nw
  rw [decide_eq_false (show ¬ k < 0 by omega), Bool.and_false, Bool.or_false]
theorem m_measure_L31 (hs : st.1 (b + 1) = s) (hn : sm_n n s) : ∀ (f d : Nat) (st1 : sn_S), d ≤ n → n - d < f → sm_F b st st1 (sp_fa n s d) → ∃ st2, sm_F b st st2 (sp_fa n s n) ∧ D_X6_measure_L31 b f (nI d) st1 = some st2
  | 0, d, st1, h1, h2, _ => by omega
  | f + 1, d, st1, h1, h2, hF => by
    have hn12 := hn.2.2
    have hs1 : st1.1 (b + 1) = s := (hF.2.1 (b + 1) (by omega)).trans hs
    rw [D_X6_measure_L31.eq_2, hs1, hn.1]
    by_cases e : d = n
    · subst e
      rw [if_pos (nI_le (Nat.le_refl _) (by omega))]
      exact ⟨st1, hF, rfl⟩
    · have hlt : d < n := by omega
      rw [if_neg (nI_ge hlt (by omega))]
      obtain ⟨st2, h3, h4⟩ := m_measure_L45 hs hn hlt (fun y1 yt => D_X6_measure_L31 b f y1 yt) 4096 0 st1 (by omega) (by omega) ⟨fun k hk => (hF.1 k hk).trans fa_g_0.symm, hF.2⟩
      obtain ⟨st3, h5, h6⟩ := m_measure_L31 hs hn f (d + 1) st2 (by omega) (by omega) ⟨fun k hk => (h3.1 k hk).trans fa_g_n, h3.2⟩
      exact ⟨st3, h5, h4.trans h6⟩
theorem m_measure_L2 (hs : st.1 (b + 1) = s) (hn : sm_n n s) : ∀ (f j : Nat) (st1 : sn_S), j ≤ 12 → 12 - j < f → (∀ k, k < j → st1.1 (b + 4) k = sp_fa n s 0 k) → st_but (b + 4) st st1 → ∃ st2, sm_F b st st2 (sp_fa n s n) ∧ D_X6_measure_L2 b f (nI j) st1 = some st2
  | 0, j, st1, h1, h2, _, _ => by omega
  | f + 1, j, st1, h1, h2, h3, h4 => by
    have hn12 := hn.2.2
    rw [D_X6_measure_L2.eq_2]
    by_cases e : j = 12
    · subst e
      rw [if_pos (by decide)]
      exact m_measure_L31 hs hn 4096 0 st1 (by omega) (by omega) ⟨h3, h4⟩
    · have hlt : j < 12 := by omega
      have ih := fun st1 => m_measure_L2 hs hn f (j + 1) st1 (by omega) (by omega)
      rw [if_neg (by rw [show (12 : Int32) = nI 12 from rfl]; exact nI_ge hlt (by omega)), sn_ix_nI hlt (by decide), Option.bind_some, Option.bind_some, nI_1]
      by_cases c : j = 0
      · subst c
        rw [if_pos nI_0]
        refine ih _ (fun k hk => ?_) (h4.wr _ _)
        rw [show k = 0 by omega, wr_at, sp_fa, if_pos rfl]
      · rw [if_neg (nI_ne0 (by omega) (by omega))]
        refine ih _ (fun k hk => ?_) (h4.wr _ _)
        by_cases ek : k = j
        · rw [ek, wr_at, sp_fa, if_neg c]
        · rw [wr_ne _ _ _ ek]; exact h3 k (by omega)
theorem m_measure (hs : st.1 (b + 1) = s) (hn : sm_n n s) : ∃ st2, sm_F b st st2 (sp_fa n s n) ∧ D_X6_measure b st = some st2 := by
  unfold D_X6_measure
  exact m_measure_L2 hs hn 4096 0 st (by omega) (by omega) (fun k h => by omega) st_but.rf
end SM4
