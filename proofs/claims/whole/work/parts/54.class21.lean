/-! THE CLASS: rights in all, AT REST, settle -/
theorem sn_le {n : Nat} {s : Nat → Int32} (hn : n ≤ 12) : ∀ (k j : Nat), sp_sn (sp_rc n s) j k ≤ 12 * k
  | 0, _ => Nat.le_refl _
  | k + 1, j => by
    have h1 := sn_le (s := s) hn k (j + 1)
    have h2 : sp_rc n s j ≤ n := sp_ct_le n 0
    rw [sp_sn]
    omega
section CS4
variable {b n : Nat} {st : sn_S} {s : Nat → Int32}
theorem k_rightCount (hV : cr_V b n st s) (hn : n ≤ 12) {i : Nat} (hi : i < n) : ((D_X2_rightsOf b (nI i) st).bind fun r => D_J6_bitCount_0f7a4 r) = some (nI (sp_rc n s i)) := by
  rw [k_rightsOf hV hn hi, Option.bind_some, ← mk_n hn, k_bitCount mk12]
  unfold sp_rc
  rw [← ct_n hn, sp_ct_congr 12 0 (fun t _ h => mkb (by omega))]
theorem k_rightCount2 (hV : cr_V b n st s) (hn : n ≤ 12) {i : Nat} (hi : i < n) {α : Type} (F : Int32 → Option α) : ((D_X2_rightsOf b (nI i) st).bind fun r => (D_J6_bitCount_0f7a4 r).bind F) = F (nI (sp_rc n s i)) := by
  have h := k_rightCount hV hn hi
  rw [k_rightsOf hV hn hi, Option.bind_some] at h ⊢
  rw [h, Option.bind_some]
theorem k_rightsInAll_L (hV : cr_V b n st s) (hn : n ≤ 12) : ∀ (f i c : Nat), i ≤ n → n - i < f → D_X2_rightsInAll_L4 b st f (nI c) (nI i) = some (nI (c + sp_sn (sp_rc n s) i (n - i)))
  | 0, i, c, h1, h2 => by omega
  | f + 1, i, c, h1, h2 => by
    rw [D_X2_rightsInAll_L4.eq_2, hV.1]
    by_cases e : i = n
    · subst e
      rw [if_pos (nI_le (Nat.le_refl _) (by omega)), Nat.sub_self, sp_sn, Nat.add_zero]
    · have hlt : i < n := by omega
      rw [if_neg (nI_ge hlt (by omega)), k_rightCount2 hV hn hlt, nI_1, nI_add, show n - i = (n - (i + 1)) + 1 by omega, sp_sn, k_rightsInAll_L hV hn f (i + 1) _ (by omega) (by omega), Nat.add_assoc]
theorem k_rightsInAll (hV : cr_V b n st s) (hn : n ≤ 12) : D_X2_rightsInAll b st = some (nI (sp_sn (sp_rc n s) 0 n)) := by
  unfold D_X2_rightsInAll
  have := k_rightsInAll_L hV hn 4096 0 0 (by omega) (by omega)
  rw [Nat.zero_add, nI_0, Nat.sub_zero] at this
  exact this
theorem fa_0 (hn : 0 < n) : ∀ d, sp_fa n s d 0 = 0
  | 0 => by rw [sp_fa, if_pos rfl]
  | d + 1 => by rw [sp_fa_keep (by rw [fa_0 hn d]; decide)]; exact fa_0 hn d
/-- nearer, by both -/
theorem nr_eq (hi : ci n s) {i : Nat} (hin : i < n) {j : Nat} (hj : j < n) (hl : sp_lk n s i j = true) : (sp_fa n s n j = sp_fa n s n i - 1) ↔ sp_fa n s n j < sp_fa n s n i := by
  obtain ⟨hn, -, -, hsym, -⟩ := id hi
  have hn12 := hn.2.2
  have hn0 : 0 < n := by have := hn.2.1; omega
  rcases sp_fa_or (n := n) (s := s) n i with z | ⟨e, he, h1⟩
  · -- not reached: then neither is j
    have hjz : sp_fa n s n j = -1 := by
      rcases sp_fa_or (n := n) (s := s) n j with q | ⟨f, hf, h2⟩
      · exact q
      · obtain ⟨g, hg0, hg⟩ := sp_fa_adj hn0 hn12 hj (by rw [hsym]; exact hl : sp_lk n s j i = true) h2 hf
        rw [hg] at z
        exact absurd z (nI_m1 (by omega))
    rw [z, hjz]
    decide
  · obtain ⟨f, hf, h2⟩ := sp_fa_adj hn0 hn12 hin hl h1 he
    obtain ⟨g, hg, h3⟩ := sp_fa_adj hn0 hn12 hj (by rw [hsym]; exact hl : sp_lk n s j i = true) h2 (by
      rcases sp_fa_or (n := n) (s := s) n j with q | ⟨u, hu, hu2⟩
      · rw [h2] at q; exact absurd q (nI_m1 (by omega))
      · rw [h2] at hu2
        have := (nI_eq (by omega) (by omega)).mp hu2
        omega)
    rw [h1] at h3
    have hge : e = g := (nI_eq (by omega) (by omega)).mp h3
    rw [h1, h2, nI_ltI (by omega) (by omega)]
    constructor
    · intro q
      rcases Nat.eq_zero_or_pos e with e0 | e0
      · exfalso
        rw [e0] at q
        exact nI_m1 (by omega) (q.trans (by decide))
      · rw [show (1 : Int32) = nI 1 from rfl, pk_sub (by omega)] at q
        have := (nI_eq (by omega) (by omega)).mp q
        omega
    · intro q
      rw [show (1 : Int32) = nI 1 from rfl, pk_sub (by omega)]
      rw [show f = e - 1 by omega]
theorem k_nearer_L (hc : cw b n st s) (hi : ci n s) {i : Nat} (hin : i < n) : ∀ (f j : Nat), j ≤ n → n - j < f → D_X3_nearer_L8 (b + 1) (nI i) st f (nI j) = some (if sp_fi (fun j => sp_lk n s i j && decide (sp_fa n s n j < sp_fa n s n i)) j (n - j) = n then -1 else nI (sp_fi (fun j => sp_lk n s i j && decide (sp_fa n s n j < sp_fa n s n i)) j (n - j)))
  | 0, j, h1, h2 => by omega
  | f + 1, j, h1, h2 => by
    obtain ⟨hV, -, -, hF, -⟩ := id hc
    have hn12 := hi.1.2.2
    rw [D_X3_nearer_L8.eq_2, hV.1]
    by_cases e : j = n
    · subst e
      rw [if_pos (nI_le (Nat.le_refl _) (by omega)), Nat.sub_self, sp_fi, if_pos rfl]
    · have hlt : j < n := by omega
      have ih := k_nearer_L hc hi hin f (j + 1) (by omega) (by omega)
      rw [if_neg (nI_ge hlt (by omega)), sn_ix_nI (by omega : i < 12) (by decide), Option.bind_some, hV.2.1 i (by omega), k_hasM (by omega), pb_if, show n - j = (n - (j + 1)) + 1 by omega, sp_fi, nI_1]
      cases hl : sp_lk n s i j with
      | false => rw [if_neg (by decide), Bool.false_and, if_neg (show ¬ false = true by decide)]; exact ih
      | true =>
        rw [if_pos rfl, sn_ix_nI (by omega : j < 12) (by decide), Option.bind_some, Option.bind_some, hF j (by omega), hF i (by omega), Bool.true_and]
        by_cases c : sp_fa n s n j < sp_fa n s n i
        · rw [if_pos ((nr_eq hi hin hlt hl).mpr c), decide_eq_true c, if_pos rfl, if_neg e]
        · rw [if_neg (fun z => c ((nr_eq hi hin hlt hl).mp z)), decide_eq_false c, if_neg (show ¬ false = true by decide)]; exact ih
theorem k_nearer (hc : cw b n st s) (hi : ci n s) {i : Nat} (hin : i < n) : D_X3_nearer (b + 1) (nI i) st = some (sp_nr n s i) := by
  have hn12 := hi.1.2.2
  unfold D_X3_nearer sp_nr
  by_cases h0 : i = 0
  · subst h0
    rw [if_pos nI_0, if_pos]
    obtain ⟨f1, f2, f3, -⟩ := sp_fi_le (P := fun j => sp_lk n s 0 j && decide (sp_fa n s n j < sp_fa n s n 0)) n 0
    rcases Nat.lt_or_ge (sp_fi (fun j => sp_lk n s 0 j && decide (sp_fa n s n j < sp_fa n s n 0)) 0 n) n with q | q
    · exfalso
      obtain ⟨q1, q2⟩ := Bool.and_eq_true_iff.mp (f3 (by omega))
      have q2 := of_decide_eq_true q2
      have q3 := (nr_eq hi hin q q1).mpr q2
      obtain ⟨f, hf, h2⟩ := sp_fa_adj (by omega) hn12 hin q1 (show sp_fa n s n 0 = nI 0 from fa_0 (by omega) n) (by omega)
      rw [h2, fa_0 (by omega)] at q3
      exact nI_m1 (by omega) (q3.trans (by decide))
    · omega
  · rw [if_neg (nI_ne0 (by omega) (by omega))]
    exact k_nearer_L hc hi hin 4096 0 (by omega) (by omega)
theorem k_isAtRest_L (hc : cw b n st s) (hi : ci n s) (hb : s 361 = 1) : ∀ (f i : Nat), i ≤ n → n - i < f → D_X0_isAtRest_L11 b st f (nI i) = some (bi (sp_al (sp_r1 n s) i (n - i) && decide (sp_rt n s = 1)))
  | 0, i, h1, h2 => by omega
  | f + 1, i, h1, h2 => by
    obtain ⟨hV, hO, -, hF, -⟩ := id hc
    have hn12 := hi.1.2.2
    rw [D_X0_isAtRest_L11.eq_2, hV.1]
    by_cases e : i = n
    · subst e
      have hrt : sp_rt i s = sp_sn (sp_rc i s) 0 i := if_pos hb
      have hle := sn_le (s := s) hn12 i 0
      rw [if_pos (nI_le (Nat.le_refl _) (by omega)), Nat.sub_self, sp_al, Bool.true_and, k_rightsInAll hV hn12, Option.bind_some, hrt]
      by_cases c : sp_sn (sp_rc i s) 0 i = 1
      · rw [if_pos (by rw [c]; rfl), decide_eq_true c]; rfl
      · have c' : ¬ nI (sp_sn (sp_rc i s) 0 i) = 1 := fun q => c ((nI_eq (b := 1) (by omega) (by omega)).mp q)
        rw [if_neg c', decide_eq_false c]; rfl
    · have hlt : i < n := by omega
      have ih := k_isAtRest_L hc hi hb f (i + 1) (by omega) (by omega)
      obtain ⟨o0, o1, -⟩ := hO i (by omega)
      rw [if_neg (nI_ge hlt (by omega)), sn_ix_nI (by omega : i < 12) (by decide), Option.bind_some, Option.bind_some, Option.bind_some, k_nearer hc hi hlt, Option.bind_some, k_isSane hV hn12 hlt (hO.at (by omega)) (fun j hj hl => hi.2.2.2.2.2.1 i j (by omega) hj hl), pb_if, o0, o1, hF i (by omega), nI_1, show n - i = (n - (i + 1)) + 1 by omega, sp_al, ih]
      unfold sp_r1
      by_cases c1 : s (12 + i) = sp_fa n s n i
      · rw [if_pos c1, decide_eq_true c1, Bool.true_and]
        by_cases c2 : s (24 + i) = sp_nr n s i
        · rw [if_pos c2, decide_eq_true c2, Bool.and_true]
          cases sp_sa n s i with
          | false => rw [if_neg (by decide), Bool.false_and, Bool.false_and]; rfl
          | true => rw [if_pos rfl, Bool.true_and]
        · rw [if_neg c2, decide_eq_false c2, Bool.and_false, Bool.false_and, Bool.false_and]; rfl
      · rw [if_neg c1, decide_eq_false c1, Bool.false_and, Bool.and_false, Bool.false_and, Bool.false_and]; rfl
theorem k_isAtRest (hc : cw b n st s) (hi : ci n s) : D_X0_isAtRest b st = some (bi (sp_rs n s)) := by
  have h3 : st.1 b 3 = s 361 := hc.2.2.2.2.1
  have hn12 := hi.1.2.2
  unfold D_X0_isAtRest sp_rs
  rw [h3]
  rcases hi.2.1 with h | h
  · rw [if_pos h, h, show decide ((0 : Int32) = 1) = false from rfl, Bool.false_and]; rfl
  · rw [if_neg (by rw [h]; decide), h, show decide ((1 : Int32) = 1) = true from rfl, Bool.true_and]
    exact k_isAtRest_L hc hi h 4096 0 (by omega) (by omega)
theorem k_settle_L (w : Int32) {q : Nat} (hq : q < 2 ^ 30) : ∀ (f k : Nat) (st : sn_S) (s : Nat → Int32), k ≤ q → q - k < f → cw (b + 1) n st s → ci n s → s 361 = 1 → ∃ st2 : sn_S, D_X5_settle_L36 b w (nI q) f (nI k) st = some ((sp_se n w (nI q) (q - k) k s).1, st2) ∧ cw (b + 1) n st2 (sp_se n w (nI q) (q - k) k s).2 ∧ ci n (sp_se n w (nI q) (q - k) k s).2 ∧ cf (b + 1) st st2
  | 0, k, st, s, h1, h2, _, _, _ => by omega
  | f + 1, k, st, s, h1, h2, hc, hi, hb1 => by
    rw [D_X5_settle_L36.eq_2, k_isAtRest hc hi, pb_if, pb_if]
    by_cases e : k = q
    · subst e
      rw [if_pos (nI_le (Nat.le_refl _) (by omega)), Nat.sub_self, sp_se]
      cases sp_rs n s with
      | false => exact ⟨st, rfl, hc, hi, cf.rf⟩
      | true => exact ⟨st, rfl, hc, hi, cf.rf⟩
    · have hlt : k < q := by omega
      rw [if_neg (nI_ge hlt (by omega)), show q - k = (q - (k + 1)) + 1 by omega, sp_se]
      cases hr : sp_rs n s with
      | true => exact ⟨st, rfl, hc, hi, cf.rf⟩
      | false =>
        obtain ⟨x, st1, st2, g1, g2, g3, g4⟩ := k_stepBy hc hi hb1 w
        rw [if_neg (by decide), g1, Option.bind_some, g2, Option.bind_some, nI_1, if_neg (show ¬ false = true by decide)]
        have hn12 := hi.1.2.2
        obtain ⟨st3, k1, k2, k3, k4⟩ := k_settle_L w hq f (k + 1) st2 (sp_bs n s w) (by omega) (by omega) g3 (hi.bs hb1 w) ((sp_bs_bu (by have := hi.1.2.1; omega) hn12).trans hb1)
        exact ⟨st3, k1, k2, k3, g4.trans k4⟩
end CS4
