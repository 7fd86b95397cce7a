/-! THE CLASS: lookAgain; the whole relation -/
theorem mk_clr {P Q : Nat → Bool} : nI (sp_mk P 12) &&& (nI (sp_mk Q 12) ^^^ (-1 : Int32)) = nI (sp_mk (fun j => P j && !Q j) 12) := by
  have h1 : ((-1 : Int32)).toBitVec = BitVec.allOnes 32 := by decide
  apply Int32.toBitVec_inj.1
  rw [Int32.toBitVec_and, Int32.toBitVec_xor, h1]
  show BitVec.ofNat 32 (sp_mk P 12) &&& (BitVec.ofNat 32 (sp_mk Q 12) ^^^ BitVec.allOnes 32) = BitVec.ofNat 32 _
  apply BitVec.eq_of_getLsbD_eq
  intro i hi
  simp only [BitVec.getLsbD_and, BitVec.getLsbD_xor, BitVec.getLsbD_ofNat, BitVec.getLsbD_allOnes, hi, decide_true, Bool.true_and, sp_mk_bit]
  cases decide (i < 12) <;> cases P i <;> cases Q i <;> rfl
theorem mk_andM {P Q : Nat → Bool} : nI (sp_mk P 12) &&& nI (sp_mk Q 12) = nI (sp_mk (fun t => P t && Q t) 12) := by
  rw [nx_an]
  congr 1
  apply Nat.eq_of_testBit_eq
  intro t
  rw [Nat.testBit_and, sp_mk_bit, sp_mk_bit, sp_mk_bit]
  cases decide (t < 12) <;> cases P t <;> cases Q t <;> rfl
/-- only field k of cell c has changed -/
def st_f (c k : Nat) (st st' : sn_S) : Prop := (∀ a, a ≠ c → st'.1 a = st.1 a) ∧ (∀ j, j ≠ k → st'.1 c j = st.1 c j) ∧ st'.2 = st.2
theorem st_f.rf {c k : Nat} {st : sn_S} : st_f c k st st := ⟨fun _ _ => rfl, fun _ _ => rfl, rfl⟩
theorem st_f.wr {c k : Nat} {st st' : sn_S} (h : st_f c k st st') (v : Int32) : st_f c k st (sn_wr st' c k v) := ⟨fun a ha => (wr_o st' k v ha).trans (h.1 a ha), fun j hj => (wr_ne st' c v hj).trans (h.2.1 j hj), h.2.2⟩
section CS1
variable {b n : Nat} {st : sn_S} {s s' : Nat → Int32}
theorem cr_Oi.keep {i : Nat} (h : cr_Oi b st s i) {st' : sn_S} (he : st'.1 (b + 4 + 1 + 1 + i) = st.1 (b + 4 + 1 + 1 + i)) : cr_Oi b st' s i := by
  unfold cr_Oi at h ⊢
  rw [he]
  exact h
theorem k_look_L (hn : n ≤ 12) (hnb : sp_nb n s) (hx : ∀ i j, i < 12 → j < 12 → sp_lk n s i j = false → s (72 + 12 * i + j) = 0) (hV : cr_V b n st s) (hO : cr_O b st s) {m : Nat} (hm : m < 4096) (E : Nat → Bool) : ∀ (f t : Nat) (st1 : sn_S), t ≤ n → n - t < f → st_f b 7 st st1 → st1.1 b 7 = nI (sp_mk (fun j => if j < t ∧ m.testBit j = true then sp_eb n s j else E j) 12) → ∃ st2 : sn_S, D_X0_lookAgain_L2 b (nI m) f (nI t) st1 = some st2 ∧ st_f b 7 st st2 ∧ st2.1 b 7 = nI (sp_mk (fun j => if j < n ∧ m.testBit j = true then sp_eb n s j else E j) 12)
  | 0, t, st1, h1, h2, _, _ => by omega
  | f + 1, t, st1, h1, h2, hB, h7 => by
    have h0 : st1.1 (b + 1) 0 = nI n := by rw [hB.1 _ (by omega)]; exact hV.1
    rw [D_X0_lookAgain_L2.eq_2, h0]
    by_cases e : t = n
    · subst e
      rw [if_pos (nI_le (Nat.le_refl _) (by omega))]
      exact ⟨st1, rfl, hB, h7⟩
    · have hlt : t < n := by omega
      have ih := fun st1 => k_look_L hn hnb hx hV hO hm E f (t + 1) st1 (by omega) (by omega)
      rw [if_neg (nI_ge hlt (by omega)), k_has (by omega) (by omega), pb_if, nI_1]
      cases hb : m.testBit t with
      | false =>
        refine ih st1 hB ?_
        rw [h7]
        refine congrArg nI (sp_mk_congr 12 (fun j _ => ?_))
        by_cases ej : j = t
        · subst ej; rw [if_neg (by omega), if_neg (fun z => by rw [hb] at z; cases z.2)]
        · by_cases c : j < t ∧ m.testBit j = true
          · rw [if_pos c, if_pos ⟨by omega, c.2⟩]
          · rw [if_neg c, if_neg (fun z => c ⟨by omega, z.2⟩)]
      | true =>
        rw [if_pos rfl, sh_1 t (by omega), mk_one t (by omega), h7, mk_clr]
        have hB2 := hB.wr (nI (sp_mk (fun j => (if j < t ∧ m.testBit j = true then sp_eb n s j else E j) && !decide (j = t)) 12))
        generalize hst2 : sn_wr st1 b 7 (nI (sp_mk (fun j => (if j < t ∧ m.testBit j = true then sp_eb n s j else E j) && !decide (j = t)) 12)) = st2 at hB2
        have h72 : st2.1 b 7 = nI (sp_mk (fun j => (if j < t ∧ m.testBit j = true then sp_eb n s j else E j) && !decide (j = t)) 12) := by rw [← hst2, wr_at]
        rw [k_firstRule (s := s) (hV.keep hn (fun a ha => hB2.1 a (by omega))) hn hlt (hnb t hlt) ((hO.at (by omega)).keep (hB2.1 _ (by omega))) (fun j hj hl => hx t j (by omega) hj hl), Option.bind_some]
        by_cases c : sp_ru n s t = -1
        · rw [if_pos c]
          refine ih st2 hB2 ?_
          rw [h72]
          refine congrArg nI (sp_mk_congr 12 (fun j _ => ?_))
          by_cases ej : j = t
          · subst ej
            rw [if_pos (c := j < j + 1 ∧ _) ⟨by omega, hb⟩]
            unfold sp_eb
            rw [decide_eq_true c, decide_eq_true (rfl : j = j), Bool.not_true, Bool.and_false]
          · rw [decide_eq_false ej, Bool.not_false, Bool.and_true]
            by_cases d : j < t ∧ m.testBit j = true
            · rw [if_pos d, if_pos ⟨by omega, d.2⟩]
            · rw [if_neg d, if_neg (fun z => d ⟨by omega, z.2⟩)]
        · rw [if_neg c, h72, mk_or]
          refine ih _ (hB2.wr _) ?_
          rw [wr_at]
          refine congrArg nI (sp_mk_congr 12 (fun j _ => ?_))
          by_cases ej : j = t
          · subst ej
            rw [if_pos (c := j < j + 1 ∧ _) ⟨by omega, hb⟩]
            unfold sp_eb
            rw [decide_eq_false c, decide_eq_true (rfl : j = j), Bool.or_true, Bool.not_false]
          · rw [decide_eq_false ej, Bool.not_false, Bool.and_true, Bool.or_false]
            by_cases d : j < t ∧ m.testBit j = true
            · rw [if_pos d, if_pos ⟨by omega, d.2⟩]
            · rw [if_neg d, if_neg (fun z => d ⟨by omega, z.2⟩)]
theorem k_lookAgain (hn : n ≤ 12) (hnb : sp_nb n s) (hx : ∀ i j, i < 12 → j < 12 → sp_lk n s i j = false → s (72 + 12 * i + j) = 0) (hV : cr_V b n st s) (hO : cr_O b st s) {m : Nat} (hm : m < 4096) (E : Nat → Bool) (h7 : st.1 b 7 = nI (sp_mk E 12)) : ∃ st2 : sn_S, D_X0_lookAgain b (nI m) st = some st2 ∧ st_f b 7 st st2 ∧ st2.1 b 7 = nI (sp_mk (fun j => if j < n ∧ m.testBit j = true then sp_eb n s j else E j) 12) := by
  unfold D_X0_lookAgain
  refine k_look_L hn hnb hx hV hO hm E 4096 0 st (by omega) (by omega) st_f.rf ?_
  rw [h7]
  exact congrArg nI (sp_mk_congr 12 (fun j _ => by rw [if_neg (by omega)]))
/-! what the relation looks at -/
theorem co_lk (hn : n ≤ 12) (h : ∀ k, k < 361 → s' k = s k) (i j : Nat) : sp_lk n s' i j = sp_lk n s i j := sp_sl.lk (fun k _ h2 => h k h2) hn i j
theorem co_lo (h : ∀ k, k < 361 → s' k = s k) {i : Nat} (hi : i < 12) : sp_lo s s' i := ⟨h _ (by omega), h _ (by omega), h _ (by omega), fun j hj => h _ (by omega)⟩
theorem co_ln (h : ∀ k, k < 361 → s' k = s k) (hn : n ≤ 12) {i : Nat} (hi : i < 12) : sp_ln n s s' i := ⟨co_lo h hi, fun j hj _ => co_lo h (by omega)⟩
theorem cr_V.co (hV : cr_V b n st s) (hn : n ≤ 12) (h : ∀ k, k < 361 → s' k = s k) : cr_V b n st s' := by
  have hsl : sp_sl s s' := fun k _ h2 => h k h2
  obtain ⟨v1, v2, v3, v4, v5⟩ := hV
  refine ⟨v1, fun i hi => ?_, fun i hi => ?_, fun i hi => ?_, fun i hi => ?_⟩
  · rw [v2 i hi, sp_mk_congr 12 (fun j _ => (co_lk hn h i j).symm)]
  · obtain ⟨r0, r1, r2, r3, r4, r5⟩ := v3 i hi
    have hl := co_lo h hi
    refine ⟨by rw [r0, lo_di hl], by rw [r1, lo_pr hn hsl hl], by rw [r2, lo_ph hl], by rw [r3, h _ (by omega)], by rw [r4, h _ (by omega)], fun j hj => by rw [r5 j hj, lo_xv hj hl]⟩
  · rw [v4 i hi]
    refine congrArg nI (sp_mk_congr 12 (fun j hj => ?_))
    unfold sp_ch
    rw [co_lk hn h, lo_pr hn hsl (co_lo h hj)]
  · rw [v5 i hi]
    refine congrArg nI (sp_mk_congr 12 (fun j hj => ?_))
    unfold sp_ti sp_ch
    rw [co_lk hn h, lo_pr hn hsl (co_lo h hj), lo_pr hn hsl (co_lo h (by omega))]
theorem cr_O.co (hO : cr_O b st s) (h : ∀ k, k < 361 → s' k = s k) : cr_O b st s' := fun i hi => by
  obtain ⟨o0, o1, o2, o3, o4, o5⟩ := hO i hi
  exact ⟨o0.trans (h _ (by omega)).symm, o1.trans (h _ (by omega)).symm, o2.trans (h _ (by omega)).symm, o3.trans (h _ (by omega)).symm, o4.trans (h _ (by omega)).symm, fun j hj => (o5 j hj).trans (h _ (by omega)).symm⟩
theorem co_em (hn : n ≤ 12) (hnb : sp_nb n s) (h : ∀ k, k < 361 → s' k = s k) : sp_em n s' = sp_em n s := by
  unfold sp_em
  refine sp_mk_congr 12 (fun j hj => ?_)
  by_cases c : j < n
  · unfold sp_eb
    rw [lo_ru hn (fun k _ h2 => h k h2) c (hnb j c) (co_ln h hn hj)]
  · rw [decide_eq_false c, Bool.false_and, Bool.false_and]
theorem co_pe (hn : n ≤ 12) (hnb : s 361 = 1 → sp_nb n s) (h : ∀ k, k < 362 → s' k = s k) : sp_pe n s' = sp_pe n s := by
  unfold sp_pe
  rw [h 361 (by omega)]
  by_cases c : s 361 = 1
  · rw [if_pos c, if_pos c, co_em hn (hnb c) (fun k hk => h k (by omega))]
  · rw [if_neg c, if_neg c]
theorem co_fa (hn : n ≤ 12) (h : ∀ k, 216 ≤ k → k < 361 → s' k = s k) (d i : Nat) : sp_fa n s' d i = sp_fa n s d i := lo_fa hn h d i
/-- THE RELATION: the NET at b holds the array s -/
def cw (b n : Nat) (st : sn_S) (s : Nat → Int32) : Prop :=
  cr_V b n st s ∧ cr_O b st s ∧ cr_T b st s ∧ (∀ i, i < 12 → st.1 (b + 1 + 2) i = sp_fa n s n i) ∧ st.1 b 3 = s 361 ∧ st.1 b 4 = s 370 ∧ st.1 b 5 = s 371 ∧ st.1 b 6 = s 372 ∧ st.1 b 7 = sp_pe n s ∧ st.1 b 8 = s 373
/-- what holds of the array itself -/
def ci (n : Nat) (s : Nat → Int32) : Prop :=
  sm_n n s ∧ (s 361 = 0 ∨ s 361 = 1) ∧ (∀ i j, i < 12 → j < 12 → s (216 + 12 * i + j) = bi (sp_lk n s i j)) ∧ (∀ i j, sp_lk n s i j = sp_lk n s j i) ∧ (∀ i, sp_lk n s i i = false) ∧ (∀ i j, i < 12 → j < 12 → sp_lk n s i j = false → s (72 + 12 * i + j) = 0) ∧ (s 361 = 0 → (∀ i, i < 12 → s (24 + i) = -1) ∧ (∀ k, 72 ≤ k → k < 216 → s k = 0) ∧ s 373 = 0) ∧ (s 361 = 1 → sp_nb n s) ∧ ∃ t, t < n ∧ s 372 = nI t
/-- nothing outside the NET at b has changed -/
def cf (b : Nat) (st st' : sn_S) : Prop := (∀ a, a < b ∨ b + 35 < a → st'.1 a = st.1 a) ∧ st'.2 = st.2
theorem cf.rf : cf b st st := ⟨fun _ _ => rfl, rfl⟩
theorem cf.trans {st' st'' : sn_S} (h : cf b st st') (h2 : cf b st' st'') : cf b st st'' := ⟨fun a ha => (h2.1 a ha).trans (h.1 a ha), h2.2.trans h.2⟩
theorem cf.wr {st' : sn_S} (h : cf b st st') {c : Nat} (hc : b ≤ c ∧ c ≤ b + 35) (k : Nat) (v : Int32) : cf b st (sn_wr st' c k v) := ⟨fun a ha => (wr_o st' k v (by omega)).trans (h.1 a ha), h.2⟩
theorem cw.keep (h : cw b n st s) (hn : n ≤ 12) {st' : sn_S} (he : ∀ a, b ≤ a → a ≤ b + 35 → st'.1 a = st.1 a) : cw b n st' s := by
  obtain ⟨hV, hO, hT, hF, h3, h4, h5, h6, h7, h8⟩ := h
  refine ⟨hV.keep hn (fun a ha => he a (by omega) (by omega)), fun i hi => ?_, ?_, fun i hi => ?_, ?_, ?_, ?_, ?_, ?_, ?_⟩
  · rw [he (b + 4 + 1 + 1 + i) (by omega) (by omega)]; exact hO i hi
  · unfold cr_T at hT ⊢
    rw [he (b + 33) (by omega) (by omega), he (b + 33 + 1) (by omega) (by omega), he (b + 33 + 2) (by omega) (by omega)]
    exact hT
  · rw [he (b + 1 + 2) (by omega) (by omega)]; exact hF i hi
  · rw [he b (by omega) (by omega)]; exact h3
  · rw [he b (by omega) (by omega)]; exact h4
  · rw [he b (by omega) (by omega)]; exact h5
  · rw [he b (by omega) (by omega)]; exact h6
  · rw [he b (by omega) (by omega)]; exact h7
  · rw [he b (by omega) (by omega)]; exact h8
end CS1
