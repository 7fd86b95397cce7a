/-! THE CLASS: link, LINKS counted -/
section CS7
variable {b n : Nat} {st : sn_S} {s : Nat → Int32}
/-- the array behind link -/
def sp_li (s : Nat → Int32) (i j : Nat) (v : Int32) : Nat → Int32 := upd (upd s (216 + 12 * i + j) v) (216 + 12 * j + i) v
theorem li_o {i j : Nat} {v : Int32} {k : Nat} (h : k < 216 ∨ 360 ≤ k) (hi : i < 12) (hj : j < 12) : sp_li s i j v k = s k := by
  unfold sp_li
  rw [pk_un (by omega), pk_un (by omega)]
theorem li_v {i j : Nat} (v : Int32) (hi : i < 12) (hj : j < 12) {p q : Nat} (hp : p < 12) (hq : q < 12) : sp_li s i j v (216 + 12 * p + q) = if (p = i ∧ q = j) ∨ (p = j ∧ q = i) then v else s (216 + 12 * p + q) := by
  unfold sp_li
  by_cases c1 : p = j ∧ q = i
  · rw [if_pos (Or.inr c1), c1.1, c1.2, pk_us]
  · rw [pk_un (by omega)]
    by_cases c2 : p = i ∧ q = j
    · rw [if_pos (Or.inl c2), c2.1, c2.2, pk_us]
    · rw [pk_un (by omega), if_neg (by omega)]
theorem li_lk (hn : n ≤ 12) {i j : Nat} (t : Bool) (hi : i < n) (hj : j < n) (p q : Nat) : sp_lk n (sp_li s i j (bi t)) p q = if (p = i ∧ q = j) ∨ (p = j ∧ q = i) then t else sp_lk n s p q := by
  unfold sp_lk
  by_cases h1 : p < n
  · by_cases h2 : q < n
    · rw [li_v (bi t) (by omega) (by omega) (by omega) (by omega), decide_eq_true h1, decide_eq_true h2, Bool.true_and, Bool.true_and]
      by_cases c : (p = i ∧ q = j) ∨ (p = j ∧ q = i)
      · rw [if_pos c, if_pos c]
        cases t <;> rfl
      · rw [if_neg c, if_neg c, Bool.true_and, Bool.true_and]
    · rw [decide_eq_false h2, Bool.false_and, Bool.false_and, if_neg (by omega)]
  · rw [decide_eq_false h1, Bool.false_and, Bool.false_and, if_neg (by omega)]
theorem ci.li (hi : ci n s) (hb : s 361 = 0) {i j : Nat} (t : Bool) (hin : i < n) (hj : j < n) (hne : i ≠ j) : ci n (sp_li s i j (bi t)) := by
  obtain ⟨hn, h01, hL, hsym, hself, hX, h0, hnb, u, hu, hu2⟩ := hi
  have hn12 := hn.2.2
  have hb2 : sp_li s i j (bi t) 361 = 0 := (li_o (by omega) (by omega) (by omega)).trans hb
  obtain ⟨z1, z2, z3⟩ := h0 hb
  refine ⟨⟨(li_o (by omega) (by omega) (by omega)).trans hn.1, hn.2⟩, Or.inl hb2, fun p q h1 h2 => ?_, fun p q => ?_, fun p => ?_, fun p q h1 h2 _ => ?_, fun _ => ⟨fun p hp => ?_, fun k h1 h2 => ?_, ?_⟩, fun z => ?_, ⟨u, hu, ?_⟩⟩
  · rw [li_v _ (by omega) (by omega) h1 h2, li_lk hn12 t hin hj]
    split
    · rfl
    · exact hL p q h1 h2
  · rw [li_lk hn12 t hin hj, li_lk hn12 t hin hj, hsym p q]
    by_cases c : (p = i ∧ q = j) ∨ (p = j ∧ q = i)
    · rw [if_pos c, if_pos (by omega)]
    · rw [if_neg c, if_neg (by omega)]
  · rw [li_lk hn12 t hin hj, if_neg (by omega)]; exact hself p
  · rw [li_o (by omega) (by omega) (by omega)]; exact z2 _ (by omega) (by omega)
  · rw [li_o (by omega) (by omega) (by omega)]; exact z1 p hp
  · rw [li_o (by omega) (by omega) (by omega)]; exact z2 k h1 h2
  · rw [li_o (by omega) (by omega) (by omega)]; exact z3
  · rw [hb2] at z; cases z
  · rw [li_o (by omega) (by omega) (by omega)]; exact hu2
/-- the relation behind a change of LINKS, while it is building -/
theorem cw.li (hc : cw b n st s) (hi : ci n s) (hb : s 361 = 0) {s' : Nat → Int32} (hs : ∀ k, k < 216 ∨ 360 ≤ k → s' k = s k) {st' : sn_S} (he : ∀ a, a ≠ b + 1 + 1 → a ≠ b + 1 + 2 → st'.1 a = st.1 a) (hl : ∀ i, i < 12 → st'.1 (b + 1 + 1) i = nI (sp_mk (sp_lk n s' i) 12)) (hf : ∀ i, i < 12 → st'.1 (b + 1 + 2) i = sp_fa n s' n i) : cw b n st' s' := by
  obtain ⟨⟨v1, v2, v3, v4, v5⟩, hO, hT, hF, h3, h4, h5, h6, h7, h8⟩ := hc
  obtain ⟨hn, h01, hL, hsym, hself, hX, h0, hnb, u, hu, hu2⟩ := hi
  have hn12 := hn.2.2
  obtain ⟨z1, z2, z3⟩ := h0 hb
  have hp1 : ∀ i, i < 12 → sp_pr n s i = -1 := fun i hi => pr_m1 (z1 i hi)
  have hp2 : ∀ i, i < 12 → sp_pr n s' i = -1 := fun i hi => pr_m1 ((hs _ (by omega)).trans (z1 i hi))
  have hch : ∀ (s : Nat → Int32), (∀ i, i < 12 → sp_pr n s i = -1) → ∀ i j, j < 12 → i < 12 → sp_ch n s i j = false := fun s h i j hj hi => by
    unfold sp_ch
    rw [h j hj, decide_eq_false (fun z => nI_m1 (by omega) z.symm), Bool.and_false]
  refine ⟨⟨?_, hl, fun i hi => ?_, fun i hi => ?_, fun i hi => ?_⟩, fun i hi => ?_, ?_, hf, ?_, ?_, ?_, ?_, ?_, ?_⟩
  · rw [he _ (by omega) (by omega)]; exact v1
  · rw [he _ (by omega) (by omega)]
    obtain ⟨r0, r1, r2, r3, r4, r5⟩ := v3 i hi
    have hdi : sp_di n s' i = sp_di n s i := by unfold sp_di; rw [hs _ (by omega)]
    have hph : sp_ph s' i = sp_ph s i := by unfold sp_ph; rw [hs _ (by omega)]
    refine ⟨r0.trans hdi.symm, by rw [r1, hp1 i hi, hp2 i hi], r2.trans hph.symm, by rw [r3, hs _ (by omega)], by rw [r4, hs _ (by omega)], fun j hj => ?_⟩
    rw [r5 j hj]
    unfold sp_xv sp_xo
    rw [hs _ (by omega)]
  · rw [he _ (by omega) (by omega), v4 i hi]
    exact congrArg nI (sp_mk_congr 12 (fun j hj => by rw [hch s hp1 i j hj (by omega), hch s' hp2 i j hj (by omega)]))
  · rw [he _ (by omega) (by omega), v5 i hi]
    exact congrArg nI (sp_mk_congr 12 (fun j hj => by unfold sp_ti; rw [hch s hp1 i j hj (by omega), hch s' hp2 i j hj (by omega), hp1 i (by omega), hp2 i (by omega)]))
  · rw [he _ (by omega) (by omega)]
    obtain ⟨o0, o1, o2, o3, o4, o5⟩ := hO i hi
    exact ⟨o0.trans (hs _ (by omega)).symm, o1.trans (hs _ (by omega)).symm, o2.trans (hs _ (by omega)).symm, o3.trans (hs _ (by omega)).symm, o4.trans (hs _ (by omega)).symm, fun j hj => (o5 j hj).trans (hs _ (by omega)).symm⟩
  · unfold cr_T at hT ⊢
    rw [he (b + 33) (by omega) (by omega), he (b + 33 + 1) (by omega) (by omega), he (b + 33 + 2) (by omega) (by omega), hs 362 (by omega), hs 363 (by omega), hs 368 (by omega), hs 369 (by omega)]
    exact ⟨hT.1, hT.2.1, hT.2.2.1, hT.2.2.2.1, fun r hr => by rw [hs _ (by omega)]; exact hT.2.2.2.2.1 r hr, fun i hi => by rw [hs _ (by omega)]; exact hT.2.2.2.2.2 i hi⟩
  · rw [he _ (by omega) (by omega), hs _ (by omega)]; exact h3
  · rw [he _ (by omega) (by omega), hs _ (by omega)]; exact h4
  · rw [he _ (by omega) (by omega), hs _ (by omega)]; exact h5
  · rw [he _ (by omega) (by omega), hs _ (by omega)]; exact h6
  · rw [he _ (by omega) (by omega), h7]
    unfold sp_pe
    rw [hs 361 (by omega), hb, if_neg (by decide), if_neg (by decide)]
  · rw [he _ (by omega) (by omega), hs _ (by omega)]; exact h8
theorem k_join (h0 : st.1 b 0 = nI n) (hl : ∀ i, i < 12 → st.1 (b + 1) i = nI (sp_mk (sp_lk n s i) 12)) (hn0 : 0 < n) (hn : n ≤ 12) {i j : Nat} (hi : i < n) (hj : j < n) (hne : i ≠ j) (x : Int32) : ∃ st2 : sn_S, D_X3_join b (nI i) (nI j) x st = some st2 ∧ (∀ a, a ≠ b + 1 → a ≠ b + 2 → st2.1 a = st.1 a) ∧ st2.2 = st.2 ∧ (∀ p, p < 12 → st2.1 (b + 1) p = nI (sp_mk (sp_lk n (sp_li s i j (bi (!decide (x = 0)))) p) 12)) ∧ ∀ p, p < 12 → st2.1 (b + 2) p = sp_fa n (sp_li s i j (bi (!decide (x = 0)))) n p := by
  have lits : sn_ix (nI i) 12 = some i ∧ sn_ix (nI j) 12 = some j := ⟨sn_ix_nI (by omega) (by decide), sn_ix_nI (by omega) (by decide)⟩
  -- the writes, then measure
  have key : ∀ (st1 : sn_S) (t : Bool), st_but (b + 1) st st1 → (∀ p, p < 12 → st1.1 (b + 1) p = nI (sp_mk (sp_lk n (sp_li s i j (bi t)) p) 12)) → ∃ st2 : sn_S, ((D_X3_measure b st1).bind fun r => some r) = some st2 ∧ (∀ a, a ≠ b + 1 → a ≠ b + 2 → st2.1 a = st.1 a) ∧ st2.2 = st.2 ∧ (∀ p, p < 12 → st2.1 (b + 1) p = nI (sp_mk (sp_lk n (sp_li s i j (bi t)) p) 12)) ∧ ∀ p, p < 12 → st2.1 (b + 2) p = sp_fa n (sp_li s i j (bi t)) n p := fun st1 t h1 h2 => by
    obtain ⟨st2, g1, g2, g3⟩ := k_measure (st := st1) (s := sp_li s i j (bi t)) (by rw [h1.1 _ (by omega)]; exact h0) h2 hn0 hn
    rw [g1, Option.bind_some]
    exact ⟨st2, rfl, fun a ha hb => by rw [g2.1 a hb, h1.1 a ha], by rw [g2.2, h1.2], fun p hp => by rw [g2.1 _ (by omega)]; exact h2 p hp, g3⟩
  unfold D_X3_join
  rw [lits.1, lits.2, sh_1 j (by omega), sh_1 i (by omega), mk_one j (by omega), mk_one i (by omega)]
  simp only [Option.bind_some]
  rw [wr_ne _ _ _ (Ne.symm hne), wr_ne _ _ _ (Ne.symm hne), hl i (by omega), hl j (by omega), mk_clr, mk_clr, mk_or, mk_or]
  by_cases c : x = 0
  · rw [if_pos c, decide_eq_true c, Bool.not_true]
    refine key _ false ((st_but.rf.wr _ _).wr _ _) (fun p hp => ?_)
    by_cases pj : p = j
    · subst pj
      rw [wr_at]
      refine congrArg nI (sp_mk_congr 12 (fun q hq => ?_))
      rw [li_lk hn false hi hj]
      by_cases qi : q = i
      · rw [if_pos (by omega), decide_eq_true qi, Bool.not_true, Bool.and_false]
      · rw [if_neg (by omega), decide_eq_false qi, Bool.not_false, Bool.and_true]
    · rw [wr_ne _ _ _ pj]
      by_cases pi : p = i
      · subst pi
        rw [wr_at]
        refine congrArg nI (sp_mk_congr 12 (fun q hq => ?_))
        rw [li_lk hn false hi hj]
        by_cases qj : q = j
        · rw [if_pos (by omega), decide_eq_true qj, Bool.not_true, Bool.and_false]
        · rw [if_neg (by omega), decide_eq_false qj, Bool.not_false, Bool.and_true]
      · rw [wr_ne _ _ _ pi, hl p hp]
        refine congrArg nI (sp_mk_congr 12 (fun q hq => ?_))
        rw [li_lk hn false hi hj, if_neg (by omega)]
  · rw [if_neg c, decide_eq_false c, Bool.not_false]
    refine key _ true ((st_but.rf.wr _ _).wr _ _) (fun p hp => ?_)
    by_cases pj : p = j
    · subst pj
      rw [wr_at]
      refine congrArg nI (sp_mk_congr 12 (fun q hq => ?_))
      rw [li_lk hn true hi hj]
      by_cases qi : q = i
      · rw [if_pos (by omega), decide_eq_true qi, Bool.or_true]
      · rw [if_neg (by omega), decide_eq_false qi, Bool.or_false]
    · rw [wr_ne _ _ _ pj]
      by_cases pi : p = i
      · subst pi
        rw [wr_at]
        refine congrArg nI (sp_mk_congr 12 (fun q hq => ?_))
        rw [li_lk hn true hi hj]
        by_cases qj : q = j
        · rw [if_pos (by omega), decide_eq_true qj, Bool.or_true]
        · rw [if_neg (by omega), decide_eq_false qj, Bool.or_false]
      · rw [wr_ne _ _ _ pi, hl p hp]
        refine congrArg nI (sp_mk_congr 12 (fun q hq => ?_))
        rw [li_lk hn true hi hj, if_neg (by omega)]
/-! LINKS counted -/
theorem sm_row (f : Nat → Int32) (P : Nat → Bool) : ∀ (k j a : Nat), (∀ t, j ≤ t → t < j + k → f t = bi (P t)) → sp_sm f (nI a) j k = nI (a + sp_ct P j k)
  | 0, j, a, _ => by rw [sp_sm, sp_ct, Nat.add_zero]
  | k + 1, j, a, h => by
    rw [sp_sm, sp_ct, h j (Nat.le_refl _) (by omega)]
    cases hp : P j with
    | false =>
      rw [show nI a + bi false = nI a from Int32.add_zero _, sm_row f P k (j + 1) a (fun t h1 h2 => h t (by omega) (by omega)), if_neg (by decide), Nat.zero_add]
    | true =>
      rw [show nI a + bi true = nI (a + 1) from nI_1 a, sm_row f P k (j + 1) (a + 1) (fun t h1 h2 => h t (by omega) (by omega)), if_pos rfl, Nat.add_assoc]
theorem sm_add (f : Nat → Int32) : ∀ (k m j : Nat) (a : Int32), sp_sm f a j (k + m) = sp_sm f (sp_sm f a j k) (j + k) m
  | 0, m, j, a => by rw [sp_sm, Nat.zero_add, Nat.add_zero]
  | k + 1, m, j, a => by
    rw [show k + 1 + m = (k + m) + 1 by omega, sp_sm, sp_sm, sm_add f k m (j + 1), show j + 1 + k = j + (k + 1) by omega]
theorem ct_shift {P : Nat → Bool} : ∀ (k j c : Nat), sp_ct P (c + j) k = sp_ct (fun t => P (c + t)) j k
  | 0, _, _ => by rw [sp_ct, sp_ct]
  | k + 1, j, c => by rw [sp_ct, sp_ct, show c + j + 1 = c + (j + 1) by omega, ct_shift k (j + 1) c]
def sp_lc (n : Nat) (s : Nat → Int32) (i : Nat) : Nat := sp_ct (sp_lk n s i) 0 12
theorem sm_rows (hL : ∀ i j, i < 12 → j < 12 → s (216 + 12 * i + j) = bi (sp_lk n s i j)) : ∀ (m i a : Nat), i + m ≤ 12 → sp_sm (fun t => s (216 + t)) (nI a) (12 * i) (12 * m) = nI (a + sp_sn (sp_lc n s) i m)
  | 0, i, a, _ => by rw [Nat.mul_zero, sp_sm, sp_sn, Nat.add_zero]
  | m + 1, i, a, h => by
    rw [show 12 * (m + 1) = 12 + 12 * m by omega, sm_add, sm_row (fun t => s (216 + t)) (fun t => sp_lk n s i (t - 12 * i)) 12 (12 * i) a (fun t h1 h2 => by
      have := hL i (t - 12 * i) (by omega) (by omega)
      rw [show 216 + 12 * i + (t - 12 * i) = 216 + t by omega] at this
      exact this), show 12 * i + 12 = 12 * (i + 1) by omega, sm_rows hL m (i + 1) _ (by omega), sp_sn, Nat.add_assoc]
    congr 3
    unfold sp_lc
    have := ct_shift (P := fun t => sp_lk n s i (t - 12 * i)) 12 0 (12 * i)
    rw [Nat.add_zero] at this
    rw [this]
    exact sp_ct_congr 12 0 (fun t _ _ => by rw [show 12 * i + t - 12 * i = t by omega])
theorem sn_ext {f : Nat → Nat} {n : Nat} (hf : ∀ t, n ≤ t → f t = 0) : ∀ (k j m : Nat), j + k = n → k ≤ m → sp_sn f j m = sp_sn f j k
  | 0, j, m, h1, h2 => by
    have : ∀ m j, n ≤ j → sp_sn f j m = 0 := fun m => by
      induction m with
      | zero => intro j _; rfl
      | succ m ih => intro j hj; rw [sp_sn, hf j hj, ih (j + 1) (by omega)]
    rw [this m j (by omega), sp_sn]
  | k + 1, j, m, h1, h2 => by
    obtain ⟨q, rfl⟩ : ∃ q, m = q + 1 := ⟨m - 1, by omega⟩
    rw [sp_sn, sp_sn, sn_ext hf k (j + 1) q (by omega) (by omega)]
theorem k_linkCount_L (h0 : st.1 b 0 = nI n) (hl : ∀ i, i < 12 → st.1 (b + 1) i = nI (sp_mk (sp_lk n s i) 12)) (hn : n ≤ 12) : ∀ (f i a : Nat), i ≤ n → n - i < f → D_X3_linkCount_L4 b st f (nI a) (nI i) = some (nI (a + sp_sn (sp_lc n s) i (n - i)) / 2)
  | 0, i, a, h1, h2 => by omega
  | f + 1, i, a, h1, h2 => by
    rw [D_X3_linkCount_L4.eq_2, h0]
    by_cases e : i = n
    · subst e
      rw [if_pos (nI_le (Nat.le_refl _) (by omega)), Nat.sub_self, sp_sn, Nat.add_zero]
    · have hlt : i < n := by omega
      have hc : sp_ct (fun j => (sp_mk (sp_lk n s i) 12).testBit j) 0 12 = sp_lc n s i := sp_ct_congr 12 0 (fun t _ h => mkb (by omega))
      rw [if_neg (nI_ge hlt (by omega)), sn_ix_nI (by omega : i < 12) (by decide), Option.bind_some, hl i (by omega), k_bitCount mk12, Option.bind_some, hc, nI_add, nI_1, k_linkCount_L h0 hl hn f (i + 1) _ (by omega) (by omega), show n - i = (n - (i + 1)) + 1 by omega, sp_sn, Nat.add_assoc]
theorem k_linkCount (h0 : st.1 b 0 = nI n) (hl : ∀ i, i < 12 → st.1 (b + 1) i = nI (sp_mk (sp_lk n s i) 12)) (hn : n ≤ 12) (hL : ∀ i j, i < 12 → j < 12 → s (216 + 12 * i + j) = bi (sp_lk n s i j)) : D_X3_linkCount b st = some (sp_sm (fun t => s (216 + t)) 0 0 144 / 2) := by
  unfold D_X3_linkCount
  have h1 := k_linkCount_L h0 hl hn 4096 0 0 (by omega) (by omega)
  rw [Nat.zero_add, nI_0, Nat.sub_zero] at h1
  have h2 := sm_rows hL 12 0 0 (by omega)
  rw [Nat.mul_zero, Nat.zero_add, nI_0] at h2
  rw [h1, show (144 : Nat) = 12 * 12 from rfl, h2, sn_ext (f := sp_lc n s) (n := n) (fun t ht => (sp_ct_0 12 0).mpr (fun u _ _ => by unfold sp_lk; rw [decide_eq_false (by omega), Bool.false_and])) n 0 12 (by omega) hn]
end CS7
