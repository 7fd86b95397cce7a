/-! THE REFERENCE: a NODE ACTS, by s, in nx -/
def sp_xl (n : Nat) (s : Nat → Int32) (i : Nat) : (Nat → Int32) → Nat → Nat → (Nat → Int32)
  | nx, _, 0 => nx
  | nx, j, k + 1 => sp_xl n s i (if sp_lk n s i j then upd nx (72 + 12 * i + j) (sp_xv n s i j) else nx) (j + 1) k
def sp_cn (nx : Nat → Int32) (r : Nat) : Nat → Int32 := upd nx (364 + r) (nx (364 + r) + 1)
def sp_a0 (n : Nat) (s nx : Nat → Int32) (i : Nat) : Nat → Int32 := sp_cn (sp_xl n s i (upd (upd (upd nx (12 + i) (sp_di n s i)) (24 + i) (sp_pr n s i)) (36 + i) (sp_ph s i)) 0 n) 0
def sp_a1 (n : Nat) (s nx : Nat → Int32) (i : Nat) : Nat → Int32 := sp_cn (upd (upd nx (12 + i) (sp_td n s i)) (24 + i) (sp_tp n s i)) 1
def sp_sc (n : Nat) (s : Nat → Int32) (i : Nat) : Int32 → Nat → Nat → Int32
  | a, _, 0 => a
  | a, j, k + 1 => sp_sc n s i (if sp_ch n s i j then a + s (48 + j) else a) (j + 1) k
def sp_su (n : Nat) (s : Nat → Int32) (i : Nat) : Int32 := sp_sc n s i (s i) 0 n
def sp_a2 (n : Nat) (s nx : Nat → Int32) (i : Nat) : Nat → Int32 :=
  sp_cn (if s (36 + i) = 1 ∧ (i = 0 ∨ sp_wp n s i (s (36 + i)) = 2) then
    (if i = 0 then upd (upd (upd (upd nx (36 + i) (sp_wp n s i (s (36 + i)))) (48 + i) (sp_su n s i)) 368 (nx 368 + 1)) 369 (sp_su n s i) else upd (upd nx (36 + i) (sp_wp n s i (s (36 + i)))) (48 + i) (sp_su n s i))
    else upd nx (36 + i) (sp_wp n s i (s (36 + i)))) 2
/-- the X that the first POSITION that HAS THE RIGHT gets -/
def sp_nv (n : Nat) (s : Nat → Int32) (i j : Nat) : Int32 :=
  if sp_bo n s i j then (sp_xv n s (sp_ta n s i j).toNatClampNeg i + 1) - (sp_xv n s (sp_ta n s i j).toNatClampNeg i + 1) / nI (2 * n + 1) * nI (2 * n + 1) else sp_xv n s (sp_ta n s i j).toNatClampNeg i
def sp_a3 (n : Nat) (s nx : Nat → Int32) (i : Nat) : Nat → Int32 :=
  sp_cn (upd (upd nx (72 + 12 * i + (sp_fr n s i).toNatClampNeg) (sp_nv n s i (sp_fr n s i).toNatClampNeg)) (60 + i) (nx (60 + i) + 1)) 3
def sp_na (n : Nat) (s nx : Nat → Int32) (i : Nat) : Nat → Int32 :=
  if sp_ru n s i = 0 then sp_a0 n s nx i else if sp_ru n s i = 1 then sp_a1 n s nx i else if sp_ru n s i = 2 then (if sp_fr n s i = -1 then sp_a2 n s nx i else sp_a3 n s (sp_a2 n s nx i) i) else sp_a3 n s nx i
theorem ix_364 {r : Nat} (hr : r < 4) : sn_ix ((364 : Int32) + nI r) 374 = some (364 + r) := by
  rw [show (364 : Int32) = nI 364 from rfl, nI_add, sn_ix_nI (by omega) (by omega)]
theorem ix_0 {i : Nat} (hi : i < 12) : sn_ix ((0 : Int32) + nI i) 374 = some i := by
  rw [show (0 : Int32) = nI 0 from rfl, nI_add, Nat.zero_add, sn_ix_nI (by omega) (by omega)]
section SM5
variable {b n : Nat} {st : sn_S} {s nx : Nat → Int32}
theorem m_act_L48 (hs : st.1 (b + 1) = s) (hn : sm_n n s) {i : Nat} (hi : i < n) : ∀ (f j : Nat) (st1 : sn_S) (nx : Nat → Int32), j ≤ n → n - j < f → st_but (b + 3) st st1 → st1.1 (b + 3) = nx → ∃ st2, D_X6_act_L48 b (nI i) 0 f (nI j) st1 = some st2 ∧ st_but (b + 3) st st2 ∧ st2.1 (b + 3) = sp_cn (sp_xl n s i nx j (n - j)) 0
  | 0, j, st1, nx, h1, h2, _, _ => by omega
  | f + 1, j, st1, nx, h1, h2, hB, hx => by
    have hn12 := hn.2.2
    have hs1 : st1.1 (b + 1) = s := (hB.1 (b + 1) (by omega)).trans hs
    rw [D_X6_act_L48.eq_2, hs1, hn.1]
    by_cases e : j = n
    · subst e
      rw [if_pos (nI_le (Nat.le_refl _) (by omega)), Nat.sub_self, sp_xl, show sn_ix ((364 : Int32) + 0) 374 = some 364 from ix_364 (r := 0) (by omega), Option.bind_some, Option.bind_some]
      exact ⟨_, rfl, hB.wr _ _, by rw [wr_s, hx]; rfl⟩
    · have hlt : j < n := by omega
      have ih := fun st1 nx => m_act_L48 hs hn hi f (j + 1) st1 nx (by omega) (by omega)
      rw [if_neg (nI_ge hlt (by omega)), show n - j = (n - (j + 1)) + 1 by omega, sp_xl, nI_1, m_isLink hs1 hn hi (by omega), pb_if]
      cases hl : sp_lk n s i j with
      | false => exact ih st1 nx hB hx
      | true =>
        rw [if_pos rfl, if_pos rfl, m_xOf hs1 hn (by omega) (by omega), Option.bind_some, ix_x (by omega) (by omega), Option.bind_some]
        exact ih _ _ (hB.wr _ _) (by rw [wr_s, hx])
theorem m_act0 (hs : st.1 (b + 1) = s) (hx : st.1 (b + 3) = nx) (hn : sm_n n s) {i : Nat} (hi : i < n) : ∃ st2, D_X6_act b (nI i) 0 st = some st2 ∧ st_but (b + 3) st st2 ∧ st2.1 (b + 3) = sp_a0 n s nx i := by
  have hn12 := hn.2.2
  have h1 : (b + 1 : Nat) ≠ b + 3 := by omega
  unfold D_X6_act
  rw [if_pos rfl, m_distOf hs hn hi, Option.bind_some, ix_12 (by omega), Option.bind_some, m_parentOf (s := s) (by rw [wr_o _ _ _ h1]; exact hs) hn hi, Option.bind_some, ix_24 (by omega), Option.bind_some, m_phaseOf (s := s) (by rw [wr_o _ _ _ h1, wr_o _ _ _ h1]; exact hs) (by omega), Option.bind_some, ix_36 (by omega), Option.bind_some]
  exact m_act_L48 hs hn hi 4096 0 _ _ (by omega) (by omega) (((st_but.rf.wr _ _).wr _ _).wr _ _) (by rw [wr_s, wr_s, wr_s, hx])
theorem m_act1 (hs : st.1 (b + 1) = s) (hx : st.1 (b + 3) = nx) (hn : sm_n n s) (hnb : sp_nb n s) {i : Nat} (hi : i < n) : ∃ st2, D_X6_act b (nI i) 1 st = some st2 ∧ st_but (b + 3) st st2 ∧ st2.1 (b + 3) = sp_a1 n s nx i := by
  have hn12 := hn.2.2
  have h1 : (b + 1 : Nat) ≠ b + 3 := by omega
  unfold D_X6_act
  rw [if_neg (by decide), if_pos rfl, m_treeDist hs hn hi (hnb i hi), Option.bind_some, ix_12 (by omega), Option.bind_some, m_treeParent (s := s) (by rw [wr_o _ _ _ h1]; exact hs) hn hi, Option.bind_some, ix_24 (by omega), Option.bind_some, show sn_ix ((364 : Int32) + 1) 374 = some 365 from ix_364 (r := 1) (by omega), Option.bind_some, Option.bind_some]
  refine ⟨_, rfl, ((st_but.rf.wr _ _).wr _ _).wr _ _, ?_⟩
  rw [wr_s, wr_s, wr_s, hx]
  rfl
theorem m_act_L195 (hs : st.1 (b + 1) = s) (hx : st.1 (b + 3) = nx) (hn : sm_n n s) {i : Nat} (hi : i < n) (x3 x4 : Int32) : ∀ (f j : Nat) (a : Int32), j ≤ n → n - j < f → ∃ st2, D_X6_act_L195 b (nI i) 2 x3 x4 st f a (nI j) = some st2 ∧ st_but (b + 3) st st2 ∧ st2.1 (b + 3) = sp_cn (if i = 0 then upd (upd (upd nx (48 + i) (sp_sc n s i a j (n - j))) 368 (nx 368 + 1)) 369 (sp_sc n s i a j (n - j)) else upd nx (48 + i) (sp_sc n s i a j (n - j))) 2
  | 0, j, a, h1, h2 => by omega
  | f + 1, j, a, h1, h2 => by
    have hn12 := hn.2.2
    rw [D_X6_act_L195.eq_2, hs, hn.1]
    by_cases e : j = n
    · subst e
      rw [if_pos (nI_le (Nat.le_refl _) (by omega)), Nat.sub_self, sp_sc, ix_48 (by omega), Option.bind_some, show sn_ix ((364 : Int32) + 2) 374 = some 366 from ix_364 (r := 2) (by omega)]
      simp only [Option.bind_some]
      by_cases h0 : i = 0
      · rw [if_pos (by rw [h0]; exact nI_0), if_pos h0]
        refine ⟨_, rfl, (((st_but.rf.wr _ _).wr _ _).wr _ _).wr _ _, ?_⟩
        rw [wr_s, wr_s, wr_s, wr_s, hx, pk_un (show 368 ≠ 48 + i by omega)]
        rfl
      · rw [if_neg (nI_ne0 (by omega) (by omega)), if_neg h0]
        refine ⟨_, rfl, (st_but.rf.wr _ _).wr _ _, ?_⟩
        rw [wr_s, wr_s, hx]
        rfl
    · have hlt : j < n := by omega
      have ih := fun a => m_act_L195 hs hx hn hi x3 x4 f (j + 1) a (by omega) (by omega)
      rw [if_neg (nI_ge hlt (by omega)), show n - j = (n - (j + 1)) + 1 by omega, sp_sc, nI_1, m_isChild hs hn hi hlt, pb_if, Int32.add_zero]
      cases hl : sp_ch n s i j with
      | false => exact ih a
      | true =>
        rw [if_pos rfl, if_pos rfl, ix_48 (by omega), Option.bind_some]
        exact ih _
theorem m_act2 (hs : st.1 (b + 1) = s) (hx : st.1 (b + 3) = nx) (hn : sm_n n s) {i : Nat} (hi : i < n) (ho : sp_in (s (36 + i)) 0 2 = true) : ∃ st2, D_X6_act b (nI i) 2 st = some st2 ∧ st_but (b + 3) st st2 ∧ st2.1 (b + 3) = sp_a2 n s nx i := by
  have hn12 := hn.2.2
  have h1 : (b + 1 : Nat) ≠ b + 3 := by omega
  unfold D_X6_act sp_a2
  rw [if_neg (by decide), if_neg (by decide), if_pos rfl, ix_36 (by omega), Option.bind_some, m_wavePhase hs hn hi ho, Option.bind_some, Option.bind_some, hs, ix_0 (by omega), show sn_ix ((364 : Int32) + 2) 374 = some 366 from ix_364 (r := 2) (by omega)]
  simp only [Option.bind_some]
  generalize hw : sp_wp n s i (s (36 + i)) = w
  have hsw : (sn_wr st (b + 3) (36 + i) w).1 (b + 1) = s := by rw [wr_o _ _ _ h1]; exact hs
  have hxw : (sn_wr st (b + 3) (36 + i) w).1 (b + 3) = upd nx (36 + i) w := by rw [wr_s, hx]
  obtain ⟨st2, g1, g2, g3⟩ := m_act_L195 hsw hxw hn hi (s (36 + i)) w 4096 0 (s i) (by omega) (by omega)
  have g2' : st_but (b + 3) st st2 := ⟨fun a ha => (g2.1 a ha).trans (wr_o _ _ _ ha), g2.2⟩
  rw [nI_0] at g1
  rw [pk_un (show 368 ≠ 36 + i by omega)] at g3
  by_cases c1 : s (36 + i) = 1
  · rw [if_pos c1, hsw]
    by_cases c2 : i = 0
    · rw [if_pos (by rw [c2]; exact nI_0), if_pos ⟨c1, Or.inl c2⟩]
      exact ⟨st2, g1, g2', g3⟩
    · rw [if_neg (nI_ne0 (by omega) (by omega))]
      by_cases c3 : w = 2
      · rw [if_pos c3, if_pos ⟨c1, Or.inr c3⟩]
        exact ⟨st2, g1, g2', g3⟩
      · rw [if_neg c3, if_neg (fun z => z.2.elim c2 c3)]
        refine ⟨_, rfl, (st_but.rf.wr _ _).wr _ _, ?_⟩
        rw [wr_s, wr_s, hx]
        rfl
  · rw [if_neg c1, if_neg (fun z => c1 z.1)]
    refine ⟨_, rfl, (st_but.rf.wr _ _).wr _ _, ?_⟩
    rw [wr_s, wr_s, hx]
    rfl
theorem sp_fr_ok {i : Nat} (h : ¬ sp_fr n s i = -1) : ∃ j, j < n ∧ sp_fr n s i = nI j ∧ sp_ti n s i j = true ∧ sp_ri n s i j = true := by
  unfold sp_fr at h ⊢
  obtain ⟨-, h2, h3, -⟩ := sp_fi_le (P := fun j => sp_ti n s i j && sp_ri n s i j) n 0
  by_cases c : sp_fi (fun j => sp_ti n s i j && sp_ri n s i j) 0 n = n
  · rw [if_pos c] at h; exact absurd rfl h
  · rw [if_neg c]
    have := Bool.and_eq_true_iff.mp (h3 (by omega))
    exact ⟨_, by omega, rfl, this.1, this.2⟩
theorem m_act3 (hs : st.1 (b + 1) = s) (hx : st.1 (b + 3) = nx) (hn : sm_n n s) {i : Nat} (hi : i < n) (hf : ¬ sp_fr n s i = -1) : ∃ st2, D_X6_act b (nI i) 3 st = some st2 ∧ st_but (b + 3) st st2 ∧ st2.1 (b + 3) = sp_a3 n s nx i := by
  have hn12 := hn.2.2
  have hn2 := hn.2.1
  have h1 : (b + 1 : Nat) ≠ b + 3 := by omega
  obtain ⟨j, hj, he, ht, -⟩ := sp_fr_ok hf
  obtain ⟨p, hp, hta, -⟩ := sp_ta_ok hj ht
  have hft : sp_ft n s 0 ≤ n := by
    have := (sp_fi_le (P := sp_ti n s 0) n 0).2.1
    unfold sp_ft
    omega
  unfold D_X6_act sp_a3
  rw [if_neg (by decide), if_neg (by decide), if_neg (by decide), m_firstRight hs hn hi, Option.bind_some, he, m_tieAhead hs hn hi (by omega), Option.bind_some, hta, m_xOf hs hn (by omega) (by omega), Option.bind_some, ix_x (by omega) (by omega), ix_60 (by omega), show sn_ix ((364 : Int32) + 3) 374 = some 367 from ix_364 (r := 3) (by omega), m_k hs hn, nI_clamp (show j < 2 ^ 31 by omega)]
  rw [show D_X6_firstTie b (0 : Int32) st = some (nI (sp_ft n s 0)) from m_firstTie hs hn (i := 0) (by omega)]
  simp only [Option.bind_some]
  rw [if_neg (show ¬ nI (2 * n + 1) = 0 from nI_ne0 (by omega) (by omega))]
  have fin : ∀ v, ∃ st2, some (sn_wr (sn_wr (sn_wr st (b + 3) (72 + 12 * i + j) v) (b + 3) (60 + i) (((sn_wr st (b + 3) (72 + 12 * i + j) v).1 (b + 3) (60 + i)) + (1 : Int32))) (b + 3) 367 (((sn_wr (sn_wr st (b + 3) (72 + 12 * i + j) v) (b + 3) (60 + i) (((sn_wr st (b + 3) (72 + 12 * i + j) v).1 (b + 3) (60 + i)) + (1 : Int32))).1 (b + 3) 367) + (1 : Int32))) = some st2 ∧ st_but (b + 3) st st2 ∧ st2.1 (b + 3) = sp_cn (upd (upd nx (72 + 12 * i + j) v) (60 + i) (nx (60 + i) + 1)) 3 := fun v => by
    refine ⟨_, rfl, ((st_but.rf.wr _ _).wr _ _).wr _ _, ?_⟩
    rw [wr_s, wr_s, wr_s, hx, pk_un (show 60 + i ≠ 72 + 12 * i + j by omega)]
    rfl
  unfold sp_nv sp_bo
  rw [hta, nI_clamp (show p < 2 ^ 31 by omega)]
  by_cases c0 : i = 0
  · rw [if_pos (by rw [c0]; exact nI_0), decide_eq_true c0, Bool.true_and]
    by_cases c1 : j = sp_ft n s 0
    · rw [if_pos (by rw [c1]), decide_eq_true c1, if_pos rfl]
      exact fin _
    · rw [if_neg (fun q => c1 ((nI_eq (by omega) (by omega)).mp q)), decide_eq_false c1, if_neg (by decide)]
      exact fin _
  · rw [if_neg (nI_ne0 (by omega) (by omega)), decide_eq_false c0, Bool.false_and, if_neg (by decide)]
    exact fin _
theorem sp_ru_or {i : Nat} : sp_ru n s i = -1 ∨ sp_ru n s i = 0 ∨ sp_ru n s i = 1 ∨ (sp_ru n s i = 2 ∧ sp_sa n s i = true) ∨ (sp_ru n s i = 3 ∧ ¬ sp_fr n s i = -1) := by
  unfold sp_ru
  by_cases h1 : sp_sa n s i = true
  · rw [if_pos h1]
    by_cases h2 : s (12 + i) = sp_td n s i
    · rw [if_pos h2]
      by_cases h3 : s (24 + i) = sp_tp n s i
      · rw [if_pos h3]
        by_cases h4 : sp_wp n s i (s (36 + i)) = s (36 + i)
        · rw [if_pos h4]
          by_cases h5 : sp_fr n s i = -1
          · rw [if_pos h5]; exact Or.inl rfl
          · rw [if_neg h5]; exact Or.inr (Or.inr (Or.inr (Or.inr ⟨rfl, h5⟩)))
        · rw [if_neg h4]; exact Or.inr (Or.inr (Or.inr (Or.inl ⟨rfl, h1⟩)))
      · rw [if_neg h3]; exact Or.inr (Or.inr (Or.inl rfl))
    · rw [if_neg h2]; exact Or.inr (Or.inr (Or.inl rfl))
  · rw [if_neg h1]; exact Or.inr (Or.inl rfl)
theorem m_acts (hs : st.1 (b + 1) = s) (hx : st.1 (b + 3) = nx) (hn : sm_n n s) (hnb : sp_nb n s) {i : Nat} (hi : i < n) (hr : ¬ sp_ru n s i = -1) : ∃ st2, D_X6_acts b (nI i) (sp_ru n s i) st = some st2 ∧ st_but (b + 3) st st2 ∧ st2.1 (b + 3) = sp_na n s nx i := by
  unfold D_X6_acts sp_na
  rcases sp_ru_or (n := n) (s := s) (i := i) with h | h | h | ⟨h, h2⟩ | ⟨h, h2⟩
  · exact absurd h hr
  · rw [h, if_pos rfl]
    obtain ⟨st2, g1, g2, g3⟩ := m_act0 hs hx hn hi
    rw [g1, Option.bind_some, if_neg (by decide)]
    exact ⟨st2, rfl, g2, g3⟩
  · rw [h, if_neg (by decide), if_pos rfl]
    obtain ⟨st2, g1, g2, g3⟩ := m_act1 hs hx hn hnb hi
    rw [g1, Option.bind_some, if_neg (by decide)]
    exact ⟨st2, rfl, g2, g3⟩
  · have ho : sp_in (s (36 + i)) 0 2 = true := by
      unfold sp_sa at h2
      simp only [Bool.and_eq_true] at h2
      exact h2.2.2.1
    rw [h, if_neg (by decide), if_neg (by decide), if_pos rfl]
    obtain ⟨st2, g1, g2, g3⟩ := m_act2 hs hx hn hi ho
    have hs2 : st2.1 (b + 1) = s := (g2.1 (b + 1) (by omega)).trans hs
    rw [g1, Option.bind_some, if_pos rfl, m_firstRight hs2 hn hi, Option.bind_some]
    by_cases c : sp_fr n s i = -1
    · rw [if_pos c, if_pos c]
      exact ⟨st2, rfl, g2, g3⟩
    · rw [if_neg c, if_neg c]
      obtain ⟨st3, k1, k2, k3⟩ := m_act3 hs2 g3 hn hi c
      rw [k1, Option.bind_some]
      exact ⟨st3, rfl, ⟨fun a ha => (k2.1 a ha).trans (g2.1 a ha), k2.2.trans g2.2⟩, k3⟩
  · rw [h, if_neg (by decide), if_neg (by decide), if_neg (by decide)]
    obtain ⟨st2, g1, g2, g3⟩ := m_act3 hs hx hn hi h2
    rw [g1, Option.bind_some, if_neg (by decide)]
    exact ⟨st2, rfl, g2, g3⟩
end SM5
