/-! THE CLASS: what comes from outside -/
section CS8
variable {b n : Nat} {st : sn_S} {s : Nat → Int32}
/-- the relation but for what is ENABLED and what the ROUND awaits -/
def cwp (b n : Nat) (st : sn_S) (s : Nat → Int32) : Prop :=
  cr_V b n st s ∧ cr_O b st s ∧ cr_T b st s ∧ (∀ i, i < 12 → st.1 (b + 1 + 2) i = sp_fa n s n i) ∧ st.1 b 3 = s 361 ∧ st.1 b 4 = s 370 ∧ st.1 b 5 = s 371 ∧ st.1 b 6 = s 372
theorem cw.p (h : cw b n st s) : cwp b n st s := ⟨h.1, h.2.1, h.2.2.1, h.2.2.2.1, h.2.2.2.2.1, h.2.2.2.2.2.1, h.2.2.2.2.2.2.1, h.2.2.2.2.2.2.2.1⟩
theorem ci.pe (hi : ci n s) : ci n (upd s 373 (sp_pe n s)) := by
  obtain ⟨hn, h01, hL, hsym, hself, hX, h0, hnb, u, hu, hu2⟩ := hi
  have hn12 := hn.2.2
  have hsl : sp_sl s (upd s 373 (sp_pe n s)) := fun k h1 h2 => pk_un (by omega)
  refine ⟨hsl.n hn, by rw [pk_un (by omega)]; exact h01, fun i j h1 h2 => ?_, fun i j => ?_, fun i => ?_, fun i j h1 h2 h3 => ?_, fun z => ?_, fun z => ?_, ⟨u, hu, ?_⟩⟩
  · rw [pk_un (by omega), hsl.lk hn12]; exact hL i j h1 h2
  · rw [hsl.lk hn12, hsl.lk hn12]; exact hsym i j
  · rw [hsl.lk hn12]; exact hself i
  · rw [hsl.lk hn12] at h3; rw [pk_un (by omega)]; exact hX i j h1 h2 h3
  · rw [pk_un (by omega)] at z
    obtain ⟨z1, z2, z3⟩ := h0 z
    refine ⟨fun i hi => by rw [pk_un (by omega)]; exact z1 i hi, fun k h1 h2 => by rw [pk_un (by omega)]; exact z2 k h1 h2, ?_⟩
    rw [pk_us]
    unfold sp_pe
    rw [z, if_neg (by decide)]
  · rw [pk_un (by omega)] at z; exact hsl.nb hn12 (hnb z)
  · rw [pk_un (by omega)]; exact hu2
theorem cw_of_p (hp : cwp b n st s) (hi : ci n s) {st' : sn_S} (he : ∀ a, a ≠ b → st'.1 a = st.1 a) (hb : ∀ k, k ≠ 7 → k ≠ 8 → st'.1 b k = st.1 b k) (h7 : st'.1 b 7 = sp_pe n s) (h8 : st'.1 b 8 = sp_pe n s) : cw b n st' (upd s 373 (sp_pe n s)) := by
  obtain ⟨hV, hO, hT, hF, h3, h4, h5, h6⟩ := hp
  have hn12 := hi.1.2.2
  have hu : ∀ j, j < 373 → upd s 373 (sp_pe n s) j = s j := fun j hj => pk_un (by omega)
  have hO1 : cr_O b st' s := fun i hi => by rw [he _ (by omega)]; exact hO i hi
  refine ⟨(hV.keep hn12 (fun a ha => he a (by omega))).co hn12 (fun j hj => hu j (by omega)), hO1.co (fun j hj => hu j (by omega)), ?_, fun i hi => ?_, ?_, ?_, ?_, ?_, ?_, ?_⟩
  · obtain ⟨t0, t1, t2, t3, t4, t5⟩ := hT
    unfold cr_T
    rw [he _ (show (b + 33 : Nat) ≠ b by omega), he _ (show (b + 33 + 1 : Nat) ≠ b by omega), he _ (show (b + 33 + 2 : Nat) ≠ b by omega), hu 362 (by omega), hu 363 (by omega), hu 368 (by omega), hu 369 (by omega)]
    exact ⟨t0, t1, t2, t3, fun r hr => by rw [hu _ (by omega)]; exact t4 r hr, fun i hi => by rw [hu _ (by omega)]; exact t5 i hi⟩
  · rw [he _ (by omega), hF i hi, co_fa hn12 (fun j _ hj => hu j (by omega))]
  · rw [hb 3 (by omega) (by omega), hu _ (by omega)]; exact h3
  · rw [hb 4 (by omega) (by omega), hu _ (by omega)]; exact h4
  · rw [hb 5 (by omega) (by omega), hu _ (by omega)]; exact h5
  · rw [hb 6 (by omega) (by omega), hu _ (by omega)]; exact h6
  · rw [h7, co_pe hn12 hi.2.2.2.2.2.2.2.1 (fun j hj => hu j (by omega))]
  · rw [h8, pk_us]
theorem k_beginAnew (hp : cwp b n st s) (hi : ci n s) (E : Nat → Bool) (h7 : st.1 b 7 = nI (sp_mk E 12)) (hE : ∀ j, n ≤ j → E j = false) (h70 : s 361 = 0 → st.1 b 7 = 0) (h80 : s 361 = 0 → st.1 b 8 = 0) : ∃ st2 : sn_S, D_X0_beginAnew b st = some st2 ∧ cw b n st2 (upd s 373 (sp_pe n s)) ∧ cf b st st2 := by
  obtain ⟨hV, hO, hT, hF, h3, h4, h5, h6⟩ := id hp
  have hn12 := hi.1.2.2
  unfold D_X0_beginAnew
  rw [h3, hV.1]
  rcases hi.2.1 with h | h
  · rw [if_pos h]
    have e : sp_pe n s = 0 := by unfold sp_pe; rw [h, if_neg (by decide)]
    exact ⟨st, rfl, cw_of_p hp hi (fun _ _ => rfl) (fun _ _ _ => rfl) (by rw [e]; exact h70 h) (by rw [e]; exact h80 h), cf.rf⟩
  · rw [if_neg (by rw [h]; decide), k_below hn12, Option.bind_some]
    have hlt : 2 ^ n - 1 < 4096 := by
      have : 2 ^ n ≤ 2 ^ 12 := Nat.pow_le_pow_right (by decide) hn12
      have : 0 < 2 ^ n := Nat.pow_pos (by decide)
      omega
    obtain ⟨st2, g1, g2, g3⟩ := k_lookAgain hn12 (hi.2.2.2.2.2.2.2.1 h) hi.2.2.2.2.2.1 hV hO hlt E h7
    have e : sp_pe n s = nI (sp_em n s) := if_pos h
    have g3' : st2.1 b 7 = sp_pe n s := by
      rw [g3, e]
      unfold sp_em
      refine congrArg nI (sp_mk_congr 12 (fun j hj => ?_))
      rw [Nat.testBit_two_pow_sub_one]
      by_cases c : j < n
      · rw [if_pos ⟨c, decide_eq_true c⟩, decide_eq_true c, Bool.true_and]
      · rw [if_neg (fun z => c z.1), decide_eq_false c, Bool.false_and]; exact hE j (by omega)
    rw [g1, Option.bind_some, g3']
    refine ⟨_, rfl, cw_of_p hp hi (fun a ha => by rw [wr_o _ _ _ ha, g2.1 a ha]) (fun k h1 h2 => by rw [wr_ne _ _ _ h2, g2.2.1 k h1]) (by rw [wr_ne _ _ _ (by omega), g3']) (by rw [wr_at]), ?_⟩
    exact (cf.wr ⟨fun a ha => g2.1 a (by omega), g2.2.2⟩ (by omega) _ _)
/-- the ready ones of a NET -/
theorem cw.E (h : cw b n st s) (hi : ci n s) : ∃ E : Nat → Bool, st.1 b 7 = nI (sp_mk E 12) ∧ (∀ j, n ≤ j → E j = false) := by
  have h7 : st.1 b 7 = sp_pe n s := h.2.2.2.2.2.2.2.2.1
  rcases hi.2.1 with z | z
  · exact ⟨fun _ => false, by rw [h7]; unfold sp_pe; rw [z, if_neg (by decide)]; exact mk_emp (fun _ _ => rfl), fun _ _ => rfl⟩
  · exact ⟨fun i => decide (i < n) && sp_eb n s i, by rw [h7]; unfold sp_pe sp_em; rw [z, if_pos rfl], fun j hj => by show (decide (j < n) && _) = false; rw [decide_eq_false (by omega), Bool.false_and]⟩
/-- where slot k of NODE i stands in the array -/
def sp_pl (i k : Nat) : Nat := if k = 0 then 12 + i else if k = 1 then 24 + i else if k = 2 then 36 + i else if k = 3 then 48 + i else if k = 4 then i else 72 + 12 * i + (k - 5)
theorem pl_0 (i : Nat) : sp_pl i 0 = 12 + i := rfl
theorem pl_1 (i : Nat) : sp_pl i 1 = 24 + i := rfl
theorem pl_2 (i : Nat) : sp_pl i 2 = 36 + i := rfl
theorem pl_3 (i : Nat) : sp_pl i 3 = 48 + i := rfl
theorem pl_4 (i : Nat) : sp_pl i 4 = i := rfl
theorem pl_5 (i j : Nat) : sp_pl i (5 + j) = 72 + 12 * i + j := by
  unfold sp_pl
  rw [if_neg (by omega), if_neg (by omega), if_neg (by omega), if_neg (by omega), if_neg (by omega), show 5 + j - 5 = j by omega]
theorem pl_or {i k : Nat} (hk : k < 17) : (k = 0 ∧ sp_pl i k = 12 + i) ∨ (k = 1 ∧ sp_pl i k = 24 + i) ∨ (k = 2 ∧ sp_pl i k = 36 + i) ∨ (k = 3 ∧ sp_pl i k = 48 + i) ∨ (k = 4 ∧ sp_pl i k = i) ∨ (5 ≤ k ∧ sp_pl i k = 72 + 12 * i + (k - 5)) := by
  rcases (show k = 0 ∨ k = 1 ∨ k = 2 ∨ k = 3 ∨ k = 4 ∨ 5 ≤ k by omega) with e | e | e | e | e | e
  · subst e; exact Or.inl ⟨rfl, rfl⟩
  · subst e; exact Or.inr (Or.inl ⟨rfl, rfl⟩)
  · subst e; exact Or.inr (Or.inr (Or.inl ⟨rfl, rfl⟩))
  · subst e; exact Or.inr (Or.inr (Or.inr (Or.inl ⟨rfl, rfl⟩)))
  · subst e; exact Or.inr (Or.inr (Or.inr (Or.inr (Or.inl ⟨rfl, rfl⟩))))
  · obtain ⟨j, rfl⟩ : ∃ j, k = 5 + j := ⟨k - 5, by omega⟩
    exact Or.inr (Or.inr (Or.inr (Or.inr (Or.inr ⟨e, by rw [pl_5]; omega⟩))))
/-- an own row's slot is the array's place -/
theorem cr_O.pl (hO : cr_O b st s) {i k : Nat} (hi : i < 12) (hk : k < 17) : st.1 (b + 4 + 1 + 1 + i) k = s (sp_pl i k) := by
  obtain ⟨o0, o1, o2, o3, o4, o5⟩ := hO i hi
  rcases pl_or (i := i) hk with ⟨e, h⟩ | ⟨e, h⟩ | ⟨e, h⟩ | ⟨e, h⟩ | ⟨e, h⟩ | ⟨e, h⟩
  · rw [h, e]; exact o0
  · rw [h, e]; exact o1
  · rw [h, e]; exact o2
  · rw [h, e]; exact o3
  · rw [h, e]; exact o4
  · rw [h]
    have := o5 (k - 5) (by omega)
    rwa [show 5 + (k - 5) = k by omega] at this
theorem ci.pl (hi : ci n s) {i k : Nat} (hin : i < n) (hk : k < 17) (h1 : k = 4 ∨ s 361 = 1) (h2 : 5 ≤ k → sp_lk n s i (k - 5) = true) (v : Int32) : ci n (upd s (sp_pl i k) v) := by
  obtain ⟨hn, h01, hL, hsym, hself, hX, h0, hnb, u, hu, hu2⟩ := hi
  have hn12 := hn.2.2
  have hpl := pl_or (i := i) hk
  have hsl : sp_sl s (upd s (sp_pl i k) v) := fun q a1 a2 => pk_un (by omega)
  refine ⟨hsl.n hn, by rw [pk_un (by omega)]; exact h01, fun p q a1 a2 => ?_, fun p q => ?_, fun p => ?_, fun p q a1 a2 a3 => ?_, fun z => ?_, fun z => ?_, ⟨u, hu, ?_⟩⟩
  · rw [pk_un (by omega), hsl.lk hn12]; exact hL p q a1 a2
  · rw [hsl.lk hn12, hsl.lk hn12]; exact hsym p q
  · rw [hsl.lk hn12]; exact hself p
  · rw [hsl.lk hn12] at a3
    rw [pk_un]
    · exact hX p q a1 a2 a3
    · intro z
      rcases hpl with ⟨e, h⟩ | ⟨e, h⟩ | ⟨e, h⟩ | ⟨e, h⟩ | ⟨e, h⟩ | ⟨e, h⟩
      · omega
      · omega
      · omega
      · omega
      · omega
      · have e1 : p = i := by omega
        have e2 : q = k - 5 := by omega
        rw [e1, e2, h2 e] at a3
        cases a3
  · rw [pk_un (by omega)] at z
    rcases h1 with h1 | h1
    · obtain ⟨z1, z2, z3⟩ := h0 z
      have hp4 : sp_pl i k = i := by rw [h1, pl_4]
      exact ⟨fun p hp => by rw [pk_un (by omega)]; exact z1 p hp, fun q a1 a2 => by rw [pk_un (by omega)]; exact z2 q a1 a2, by rw [pk_un (by omega)]; exact z3⟩
    · rw [z] at h1; cases h1
  · rw [pk_un (by omega)] at z; exact hsl.nb hn12 (hnb z)
  · rw [pk_un (by omega)]; exact hu2
theorem k_overwrite (hc : cw b n st s) (hi : ci n s) {i k : Nat} (hin : i < n) (hk : k < 17) (v : Int32) : ∃ st1 : sn_S, D_X0_overwrite b (nI i) (nI k) v st = some st1 ∧ cwp b n st1 (upd s (sp_pl i k) v) ∧ st1.1 b = st.1 b ∧ cf b st st1 := by
  obtain ⟨hV, hO, hT, hF, h3, h4, h5, h6, h7, h8⟩ := id hc
  obtain ⟨hn, h01, hL, hsym, hself, hX, h0, hnb, u, hu, hu2⟩ := hi
  have hn12 := hn.2.2
  have hpl := pl_or (i := i) hk
  unfold D_X0_overwrite
  rw [sn_ix_nI (by omega : i < 12) (by decide), Option.bind_some, sn_ix_nI hk (by decide), Option.bind_some, sh_1 i (by omega)]
  have hsl : sp_sl s (upd s (sp_pl i k) v) := fun q a1 a2 => pk_un (by omega)
  have hV1 : cr_V b n (sn_wr st (b + 4 + 1 + 1 + i) k v) s := hV.keep hn12 (fun a ha => wr_o _ _ _ (by omega))
  have hO1 : cr_O b (sn_wr st (b + 4 + 1 + 1 + i) k v) (upd s (sp_pl i k) v) := fun p hp => by
    have gen : ∀ q, q < 17 → (sn_wr st (b + 4 + 1 + 1 + i) k v).1 (b + 4 + 1 + 1 + p) q = upd s (sp_pl i k) v (sp_pl p q) := fun q hq => by
      by_cases ep : p = i
      · subst ep
        by_cases eq : q = k
        · subst eq; rw [wr_at, pk_us]
        · rw [wr_ne _ _ _ eq, hO.pl hp hq, pk_un]
          have h2 := pl_or (i := p) hq
          omega
      · rw [wr_o _ _ _ (by omega), hO.pl hp hq, pk_un]
        have h2 := pl_or (i := p) hq
        omega
    refine ⟨?_, ?_, ?_, ?_, ?_, fun j hj => ?_⟩
    · rw [gen 0 (by omega), pl_0]
    · rw [gen 1 (by omega), pl_1]
    · rw [gen 2 (by omega), pl_2]
    · rw [gen 3 (by omega), pl_3]
    · rw [gen 4 (by omega), pl_4]
    · rw [gen (5 + j) (by omega), pl_5]
  have hp2 : ∀ i, i < 12 → (2 : Nat) ^ i < 4096 := by decide
  obtain ⟨st2, g1, g2, g3, g4⟩ := k_readAgain hV1 hn12 hO1 hsl hself hsym (m := 2 ^ i) (hp2 i (by omega)) (fun j hj hc => by
    have hne : j ≠ i := fun z => hc ⟨by omega, by rw [z]; exact Nat.testBit_two_pow_self⟩
    exact ⟨⟨pk_un (by omega), pk_un (by omega), pk_un (by omega), fun t ht => pk_un (by omega)⟩, pk_un (by omega), pk_un (by omega)⟩)
  rw [g1, Option.bind_some]
  refine ⟨st2, rfl, ⟨g2, fun p hp => ?_, ?_, fun p hp => ?_, ?_, ?_, ?_, ?_⟩, ?_, fun a ha => ?_, ?_⟩
  · rw [g3 _ (by omega)]; exact hO1 p hp
  · unfold cr_T at hT ⊢
    rw [g3 (b + 33) (by omega), g3 (b + 33 + 1) (by omega), g3 (b + 33 + 2) (by omega), wr_o _ _ _ (by omega), wr_o _ _ _ (by omega), wr_o _ _ _ (by omega), pk_un (by omega), pk_un (by omega), pk_un (by omega), pk_un (by omega)]
    exact ⟨hT.1, hT.2.1, hT.2.2.1, hT.2.2.2.1, fun r hr => by rw [pk_un (by omega)]; exact hT.2.2.2.2.1 r hr, fun p hp => by rw [pk_un (by omega)]; exact hT.2.2.2.2.2 p hp⟩
  · rw [g3 _ (by omega), wr_o _ _ _ (by omega), hF p hp, co_fa hn12 hsl]
  · rw [g3 _ (by omega), wr_o _ _ _ (by omega), pk_un (by omega)]; exact h3
  · rw [g3 _ (by omega), wr_o _ _ _ (by omega), pk_un (by omega)]; exact h4
  · rw [g3 _ (by omega), wr_o _ _ _ (by omega), pk_un (by omega)]; exact h5
  · rw [g3 _ (by omega), wr_o _ _ _ (by omega), pk_un (by omega)]; exact h6
  · rw [g3 _ (by omega), wr_o _ _ _ (by omega)]
  · rw [g3 a (by omega), wr_o _ _ _ (by omega)]
  · rw [g4]; rfl
/-- overwrite, then beginAnew -/
theorem k_change (hc : cw b n st s) (hi : ci n s) {i k : Nat} (hin : i < n) (hk : k < 17) (h1 : k = 4 ∨ s 361 = 1) (h2 : 5 ≤ k → sp_lk n s i (k - 5) = true) (v : Int32) : ∃ st1 st2 : sn_S, D_X0_overwrite b (nI i) (nI k) v st = some st1 ∧ D_X0_beginAnew b st1 = some st2 ∧ cw b n st2 (upd (upd s (sp_pl i k) v) 373 (sp_pe n (upd s (sp_pl i k) v))) ∧ ci n (upd (upd s (sp_pl i k) v) 373 (sp_pe n (upd s (sp_pl i k) v))) ∧ cf b st st2 := by
  obtain ⟨st1, g1, g2, g3, g4⟩ := k_overwrite hc hi hin hk v
  have hi1 := hi.pl hin hk h1 h2 v
  have hpl := pl_or (i := i) hk
  have hn12 := hi.1.2.2
  have e361 : upd s (sp_pl i k) v 361 = s 361 := pk_un (by omega)
  obtain ⟨E, hE1, hE2⟩ := hc.E hi
  obtain ⟨st2, k1, k2, k3⟩ := k_beginAnew g2 hi1 E (by rw [g3]; exact hE1) hE2 (fun z => by
    rw [g3, hc.2.2.2.2.2.2.2.2.1]
    rw [e361] at z
    unfold sp_pe
    rw [z, if_neg (by decide)]) (fun z => by
    rw [g3, hc.2.2.2.2.2.2.2.2.2]
    rw [e361] at z
    exact (hi.2.2.2.2.2.2.1 z).2.2)
  exact ⟨st1, st2, g1, k1, k2, hi1.pe, g4.trans k3⟩
/-! slots -/
theorem kt_ext {P : Nat → Bool} {n : Nat} {c : Int32} (hp : ∀ t, n ≤ t → t < 12 → P t = false) : ∀ (k : Nat) (c0 : Int32) (j m : Nat), j + k = n → j + m = 12 → k ≤ m → sp_kt P c c0 j m = sp_kt P c c0 j k
  | 0, c0, j, m, h1, h2, _ => by
    have : ∀ m j, n ≤ j → j + m = 12 → sp_kt P c c0 j m = -1 := fun m => by
      induction m with
      | zero => intro j _ _; rfl
      | succ m ih => intro j hj hm; rw [sp_kt, hp j hj (by omega), if_neg (by decide)]; exact ih (j + 1) (by omega) (by omega)
    rw [this m j (by omega) h2, sp_kt]
  | k + 1, c0, j, m, h1, h2, h3 => by
    obtain ⟨q, rfl⟩ : ∃ q, m = q + 1 := ⟨m - 1, by omega⟩
    rw [sp_kt, sp_kt, kt_ext hp k (c0 + 1) (j + 1) q (by omega) (by omega) (by omega), kt_ext hp k c0 (j + 1) q (by omega) (by omega) (by omega)]
theorem kt_or {P : Nat → Bool} {c : Int32} : ∀ (k : Nat) (c0 : Int32) (j : Nat), sp_kt P c c0 j k = -1 ∨ ∃ t, j ≤ t ∧ t < j + k ∧ P t = true ∧ sp_kt P c c0 j k = nI t
  | 0, _, _ => Or.inl rfl
  | k + 1, c0, j => by
    rw [sp_kt]
    by_cases hp : P j = true
    · rw [if_pos hp]
      by_cases hc : c0 = c
      · rw [if_pos hc]; exact Or.inr ⟨j, Nat.le_refl _, by omega, hp, rfl⟩
      · rw [if_neg hc]
        rcases kt_or (P := P) (c := c) k (c0 + 1) (j + 1) with h | ⟨t, h1, h2, h3, h4⟩
        · exact Or.inl h
        · exact Or.inr ⟨t, by omega, by omega, h3, h4⟩
    · rw [if_neg hp]
      rcases kt_or (P := P) (c := c) k c0 (j + 1) with h | ⟨t, h1, h2, h3, h4⟩
      · exact Or.inl h
      · exact Or.inr ⟨t, by omega, by omega, h3, h4⟩
theorem kt_big {P : Nat → Bool} {c : Int32} (hc : nI 12 ≤ c) : ∀ (k a j : Nat), a + k ≤ 12 → sp_kt P c (nI a) j k = -1
  | 0, _, _, _ => rfl
  | k + 1, a, j, h => by
    rw [sp_kt, nI_1, kt_big hc k (a + 1) (j + 1) (by omega), kt_big hc k a (j + 1) (by omega)]
    have hne : ¬ nI a = c := fun z => by
      rw [← z] at hc
      have := (nI_leI (by omega) (by omega)).mp hc
      omega
    rw [if_neg hne]
    split <;> rfl
def sp_so (n : Nat) (s : Nat → Int32) (i : Nat) (x : Int32) : Int32 := if 5 ≤ x then (if sp_kt (sp_lk n s i) (x - 5) 0 0 n = -1 then -1 else 5 + sp_kt (sp_lk n s i) (x - 5) 0 0 n) else if 0 ≤ x then x else -1
theorem k_pickM {P : Nat → Bool} (hn : n ≤ 12) (hp : ∀ t, n ≤ t → t < 12 → P t = false) (k : Int32) : D_X5_pick (nI (sp_mk P 12)) k = some (sp_kt P k 0 0 n) := by
  rw [k_pick mk12, sp_kt_congr (P := fun j => (sp_mk P 12).testBit j) (Q := P) 12 0 0 (fun t _ h => mkb (by omega)), kt_ext hp n 0 0 12 (by omega) (by omega) hn]
theorem lk_out {i t : Nat} (h : n ≤ t) : sp_lk n s i t = false := by unfold sp_lk; rw [decide_eq_false (show ¬ t < n by omega), Bool.false_and, Bool.and_false]
theorem k_slotOf (hl : ∀ i, i < 12 → st.1 (b + 1) i = nI (sp_mk (sp_lk n s i) 12)) (hn : n ≤ 12) {i : Nat} (hi : i < n) (x : Int32) : D_X3_slotOf b (nI i) x st = some (sp_so n s i x) := by
  unfold D_X3_slotOf sp_so
  by_cases c : 5 ≤ x
  · rw [if_pos c, if_pos c, sn_ix_nI (by omega : i < 12) (by decide), Option.bind_some, hl i (by omega), k_pickM hn (fun t h _ => lk_out h), Option.bind_some]
    split <;> rfl
  · rw [if_neg c, if_neg c]
    split <;> rfl
/-- no slot, one of the first five, or an X -/
theorem so_or (hn : n ≤ 12) {i : Nat} (x : Int32) : (sp_so n s i x = -1 ∧ (x < 0 ∨ (5 ≤ x ∧ sp_kt (sp_lk n s i) (x - 5) 0 0 n = -1))) ∨ (∃ k, k < 5 ∧ sp_so n s i x = nI k ∧ x = nI k) ∨ (∃ j, j < n ∧ sp_so n s i x = nI (5 + j) ∧ sp_lk n s i j = true ∧ sp_kt (sp_lk n s i) (x - 5) 0 0 n = nI j ∧ 5 ≤ x ∧ ¬ 17 ≤ x) := by
  unfold sp_so
  by_cases c : 5 ≤ x
  · rw [if_pos c]
    rcases kt_or (P := sp_lk n s i) (c := x - 5) n 0 0 with h | ⟨t, -, h2, h3, h4⟩
    · rw [if_pos h]; exact Or.inl ⟨rfl, Or.inr ⟨c, h⟩⟩
    · rw [h4, if_neg (nI_m1 (by omega))]
      refine Or.inr (Or.inr ⟨t, by omega, by rw [show (5 : Int32) = nI 5 from rfl, nI_add], h3, rfl, c, fun z => ?_⟩)
      have hbig : nI 12 ≤ x - 5 := by
        obtain ⟨q, hq, rfl⟩ := nI_of (x := x) (Int32.not_lt.mpr (Int32.le_trans (by decide) c))
        rw [show (17 : Int32) = nI 17 from rfl] at z
        have := (nI_leI (by omega) hq).mp z
        rw [show (5 : Int32) = nI 5 from rfl, pk_sub (by omega)]
        exact nI_le (by omega) (by omega)
      have := kt_big (P := sp_lk n s i) hbig n 0 0 (by omega)
      rw [nI_0, h4] at this
      exact nI_m1 (by omega) this
  · rw [if_neg c]
    by_cases c2 : 0 ≤ x
    · rw [if_pos c2]
      obtain ⟨q, hq, rfl⟩ := nI_of (x := x) (Int32.not_lt.mpr c2)
      refine Or.inr (Or.inl ⟨q, ?_, rfl, rfl⟩)
      rcases Nat.lt_or_ge q 5 with z | z
      · exact z
      · exact absurd (show (5 : Int32) ≤ nI q from nI_le z hq) c
    · rw [if_neg c2]; exact Or.inl ⟨rfl, Or.inl (Int32.not_le.mp c2)⟩
theorem k_isWhole_L (h0 : st.1 b 0 = nI n) (hf : ∀ i, i < 12 → st.1 (b + 2) i = sp_fa n s n i) (hn : n ≤ 12) : ∀ (f i : Nat), i ≤ n → n - i < f → D_X3_isWhole_L2 b st f (nI i) = some (bi (sp_al (fun i => !decide (sp_fa n s n i = -1)) i (n - i)))
  | 0, i, h1, h2 => by omega
  | f + 1, i, h1, h2 => by
    rw [D_X3_isWhole_L2.eq_2, h0]
    by_cases e : i = n
    · subst e
      rw [if_pos (nI_le (Nat.le_refl _) (by omega)), Nat.sub_self, sp_al]; rfl
    · have hlt : i < n := by omega
      have ih := k_isWhole_L h0 hf hn f (i + 1) (by omega) (by omega)
      rw [if_neg (nI_ge hlt (by omega)), sn_ix_nI (by omega : i < 12) (by decide), Option.bind_some, hf i (by omega), nI_1, show n - i = (n - (i + 1)) + 1 by omega, sp_al]
      by_cases c : sp_fa n s n i = -1
      · rw [if_pos c, decide_eq_true c, Bool.not_true, Bool.false_and]; rfl
      · rw [if_neg c, decide_eq_false c, Bool.not_false, Bool.true_and]; exact ih
theorem k_isWhole (h0 : st.1 b 0 = nI n) (hf : ∀ i, i < 12 → st.1 (b + 2) i = sp_fa n s n i) (hn : n ≤ 12) : D_X3_isWhole b st = some (bi (sp_al (fun i => !decide (sp_fa n s n i = -1)) 0 n)) := by
  unfold D_X3_isWhole
  exact k_isWhole_L h0 hf hn 4096 0 (by omega) (by omega)
theorem fa_nb : ∀ (d i : Nat), sp_fa n s d i ≠ -1 → i = 0 ∨ ∃ a, a < n ∧ sp_lk n s a i = true
  | 0, i, h => by
    rw [sp_fa] at h
    by_cases c : i = 0
    · exact Or.inl c
    · rw [if_neg c] at h; exact absurd rfl h
  | d + 1, i, h => by
    rw [sp_fa] at h
    by_cases c : sp_fa n s d i = -1 ∧ sp_an (fun a => decide (sp_fa n s d a = nI d) && sp_lk n s a i) 0 n = true
    · obtain ⟨t, -, h2, h3⟩ := (sp_an_iff n 0).mp c.2
      exact Or.inr ⟨t, by omega, (Bool.and_eq_true_iff.mp h3).2⟩
    · rw [if_neg c] at h; exact fa_nb d i h
theorem ci.bu (hi : ci n s) (hb : s 361 = 0) (hall : sp_al (fun i => !decide (sp_fa n s n i = -1)) 0 n = true) : ci n (upd s 361 1) := by
  obtain ⟨hn, h01, hL, hsym, hself, hX, h0, hnb, u, hu, hu2⟩ := hi
  have hn12 := hn.2.2
  have hsl : sp_sl s (upd s 361 1) := fun k h1 h2 => pk_un (by omega)
  refine ⟨hsl.n hn, Or.inr pk_us, fun i j h1 h2 => ?_, fun i j => ?_, fun i => ?_, fun i j h1 h2 h3 => ?_, fun z => ?_, fun z => ?_, ⟨u, hu, ?_⟩⟩
  · rw [pk_un (by omega), hsl.lk hn12]; exact hL i j h1 h2
  · rw [hsl.lk hn12, hsl.lk hn12]; exact hsym i j
  · rw [hsl.lk hn12]; exact hself i
  · rw [hsl.lk hn12] at h3; rw [pk_un (by omega)]; exact hX i j h1 h2 h3
  · rw [pk_us] at z; cases z
  · refine hsl.nb hn12 (fun i hi h0 => ?_)
    have := (sp_al_iff n 0).mp hall i (by omega) (by omega)
    rcases fa_nb (n := n) (s := s) n i (by simpa using this) with q | ⟨a, ha, hl⟩
    · exact absurd q h0
    · exact ⟨a, ha, by rw [hsym]; exact hl⟩
  · rw [pk_un (by omega)]; exact hu2
end CS8
