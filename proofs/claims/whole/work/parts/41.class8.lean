/-! THE CLASS: doWave, doRules -/
theorem upd_c {f : Nat → Int32} {a c : Nat} {x y : Int32} (h : a ≠ c) : upd (upd f a x) c y = upd (upd f c y) a x := by
  funext k
  unfold upd
  by_cases e1 : k = c
  · rw [if_pos e1, if_neg (fun z => h (z.symm.trans e1)), if_pos e1]
  · rw [if_neg e1]
    by_cases e2 : k = a
    · rw [if_pos e2, if_pos e2]
    · rw [if_neg e2, if_neg e2, if_neg e1]
theorem cn_c {f : Nat → Int32} {c r : Nat} {y : Int32} (h : c ≠ 364 + r) : sp_cn (upd f c y) r = upd (sp_cn f r) c y := by
  unfold sp_cn
  rw [pk_un (Ne.symm h)]
  exact upd_c h
section CR8
variable {b n : Nat} {st : sn_S} {s nx : Nat → Int32}
theorem k_doWave0 (hV : cr_V b n st s) (hn : n ≤ 12) {i : Nat} (hi : i < n) (ho : sp_in (s (36 + i)) 0 2 = true) (hw : sp_wp n s i (s (36 + i)) = s (36 + i)) : D_X2_doWave b (nI i) st = some st := by
  obtain ⟨-, -, v3, -, -⟩ := id hV
  unfold D_X2_doWave
  rw [sn_ix_nI (by omega : i < 12) (by decide), Option.bind_some, k_phaseToBe hV hn hi, Option.bind_some, (v3 i (by omega)).2.2.1, ← eq_ph.mpr ho, if_pos hw]
theorem k_doWave (hV : cr_V b n st s) (hn : n ≤ 12) (hO : cr_O b st nx) (hT : cr_T b st nx) {i : Nat} (hi : i < n) (ho : sp_in (s (36 + i)) 0 2 = true) (hw : ¬ sp_wp n s i (s (36 + i)) = s (36 + i)) : ∃ st' : sn_S, D_X2_doWave b (nI i) st = some st' ∧ cr_F b i st st' ∧ cr_V b n st' s ∧ cr_O b st' (sp_a2 n s nx i) ∧ cr_T b st' (sp_a2 n s nx i) := by
  obtain ⟨-, -, v3, -, -⟩ := id hV
  have h10 : ((1 : Int32) = 0) = False := by simp
  have h00 : ((0 : Int32) = 0) = True := by simp
  have hi12 : i < 12 := by omega
  unfold D_X2_doWave
  rw [sn_ix_nI hi12 (by decide), Option.bind_some, k_phaseToBe hV hn hi, Option.bind_some, (v3 i hi12).2.2.1, ← eq_ph.mpr ho, if_neg hw]
  simp only [Option.bind_some, h10, h00, if_true, if_false]
  have hV1 := cr_F.V hV hn hi12 (w_s1_F (st := st) (i := i) (b := b) (sp_wp n s i (s (36 + i))))
  have hO1 := w_s1_O hO hi12 (sp_wp n s i (s (36 + i)))
  have hT1 := w_s1_T hT hi12 (sp_wp n s i (s (36 + i)))
  have hsum := k_sumToBe hV1 hn hi
  have hF1 := w_s1_F (st := st) (i := i) (b := b) (sp_wp n s i (s (36 + i)))
  have hfold : sn_wr (sn_wr st (b + 33 + 1) 2 (st.1 (b + 33 + 1) 2 + 1)) (b + 4 + 1 + 1 + i) 2 (sp_wp n s i (s (36 + i))) = w_s1 b i st (sp_wp n s i (s (36 + i))) := rfl
  have hoo := in02 ho
  have hwp0 : i = 0 → ¬ sp_wp n s i (s (36 + i)) = 2 := fun h0 => by
    subst h0
    unfold sp_wp
    rcases hoo with q | q | q <;> rw [q] <;> cases sp_ac n s 0 0 <;> cases sp_ac n s 0 2 <;> simp
  have hwp1 : ¬ i = 0 → sp_wp n s i (s (36 + i)) = 2 → s (36 + i) = 1 := fun h0 h2 => by
    rcases hoo with q | q | q
    · exfalso
      rw [q] at h2
      unfold sp_wp at h2
      rw [if_pos rfl] at h2
      split at h2 <;> simp at h2
    · exact q
    · exact absurd (h2.trans q.symm) hw
  rw [hfold, hsum]
  simp only [Option.bind_some]
  generalize hwe : sp_wp n s i (s (36 + i)) = w at *
  generalize hs1 : w_s1 b i st w = st1 at *
  have hF2 : cr_F b i st (sn_wr st1 (b + 4 + 1 + 1 + i) 3 (sp_su n s i)) := ⟨fun a h1 h2 h3 h4 => (wr_o _ _ _ h1).trans (hF1.1 a h1 h2 h3 h4), hF1.2⟩
  have hO2 := w_s2_O hO1 hi12 (sp_su n s i)
  have hT2 := w_s2_T hT1 hi12 (sp_su n s i)
  rw [← cn_c (by omega)] at hO2 hT2
  unfold sp_a2
  rw [hwe]
  by_cases c0 : i = 0
  · rw [if_pos (by rw [c0]; exact nI_0)]
    by_cases c1 : s (36 + i) = 1
    · rw [if_pos c1, if_pos ⟨c1, Or.inl c0⟩, if_pos c0]
      have hF3 : ∀ x y, cr_F b i st (sn_wr (sn_wr (sn_wr st1 (b + 4 + 1 + 1 + i) 3 (sp_su n s i)) (b + 33) 2 x) (b + 33) 3 y) := fun x y => ⟨fun a h1 h2 h3 h4 => (wr_o _ _ _ h2).trans ((wr_o _ _ _ h2).trans (hF2.1 a h1 h2 h3 h4)), hF2.2⟩
      have e1 : (sn_wr st1 (b + 4 + 1 + 1 + i) 3 (sp_su n s i)).1 (b + 33) 2 = nx 368 := by
        rw [hT2.2.2.1]; unfold sp_cn; rw [pk_un (by omega), pk_un (by omega), pk_un (by omega)]
      have e2 : ∀ x, (sn_wr (sn_wr st1 (b + 4 + 1 + 1 + i) 3 (sp_su n s i)) (b + 33) 2 x).1 (b + 4 + 1 + 1 + i) 3 = sp_su n s i := fun x => by rw [wr_o _ _ _ (by omega), wr_at]
      rw [e1, e2]
      refine ⟨_, rfl, hF3 _ _, cr_F.V hV hn hi12 (hF3 _ _), ?_, ?_⟩
      · rw [cn_c (by omega), cn_c (by omega)]; exact w_s3_O hO2 _ _
      · rw [cn_c (by omega), cn_c (by omega)]; exact w_s3_T hT2 _ _
    · rw [if_neg c1, if_neg (hwp0 c0), if_neg (fun z => c1 z.1)]
      exact ⟨_, rfl, hF1, hV1, hO1, hT1⟩
  · rw [if_neg (nI_ne0 (by omega) (by omega))]
    by_cases c2 : w = 2
    · rw [if_pos c2, if_pos ⟨hwp1 c0 c2, Or.inr c2⟩, if_neg c0]
      exact ⟨_, rfl, hF2, cr_F.V hV hn hi12 hF2, hO2, hT2⟩
    · rw [if_neg c2, if_neg (fun z => z.2.elim c0 c2)]
      exact ⟨_, rfl, hF1, hV1, hO1, hT1⟩
end CR8
