/-! THE CLASS: TRUE DISTANCES -/
section CS5
variable {b n : Nat} {st : sn_S} {s : Nat → Int32}
theorem mk_emp {P : Nat → Bool} (h : ∀ t, t < 12 → P t = false) : (0 : Int32) = nI (sp_mk P 12) := (mk_0.mpr h).symm
theorem k_meas_L28 (h0 : st.1 b 0 = nI n) (hl : ∀ i, i < 12 → st.1 (b + 1) i = nI (sp_mk (sp_lk n s i) 12)) (hn : n ≤ 12) (R E : Nat → Bool) (d : Nat) (F : Nat → Int32) (K : Int32 → Int32 → Int32 → sn_S → Option sn_S) : ∀ (f t : Nat) (st1 : sn_S), t ≤ n → n - t < f → st_but (b + 2) st st1 → (∀ k, k < 12 → st1.1 (b + 2) k = if k < t ∧ E k = true then nI d else F k) → ∃ st2 : sn_S, D_X3_measure_L28 b (nI (sp_mk R 12)) (nI (sp_mk E 12)) (nI d) K f (nI (sp_mk (fun j => sp_an (fun a => E a && sp_lk n s a j) 0 t) 12)) (nI t) st1 = K (nI (sp_mk (fun j => R j || (sp_an (fun a => E a && sp_lk n s a j) 0 n && !R j)) 12)) (nI (sp_mk (fun j => sp_an (fun a => E a && sp_lk n s a j) 0 n && !R j) 12)) (nI (d + 1)) st2 ∧ st_but (b + 2) st st2 ∧ ∀ k, k < 12 → st2.1 (b + 2) k = if k < n ∧ E k = true then nI d else F k
  | 0, t, st1, h1, h2, _, _ => by omega
  | f + 1, t, st1, h1, h2, hB, hk => by
    have h01 : st1.1 b 0 = nI n := by rw [hB.1 _ (by omega)]; exact h0
    rw [D_X3_measure_L28.eq_2, h01]
    by_cases e : t = n
    · subst e
      rw [if_pos (nI_le (Nat.le_refl _) (by omega)), mk_clr, mk_or, nI_1]
      exact ⟨st1, rfl, hB, hk⟩
    · have hlt : t < n := by omega
      have ih := fun st1 => k_meas_L28 h0 hl hn R E d F K f (t + 1) st1 (by omega) (by omega)
      simp only [an_r] at ih
      rw [if_neg (nI_ge hlt (by omega)), k_hasM (by omega), pb_if, nI_1]
      cases hE : E t with
      | false =>
        simp only [hE, Bool.false_and, Bool.or_false] at ih
        rw [if_neg (by decide)]
        refine ih st1 hB (fun k hk2 => ?_)
        rw [hk k hk2]
        by_cases ek : k = t
        · subst ek; rw [if_neg (by omega), if_neg (fun z => by rw [hE] at z; cases z.2)]
        · by_cases c : k < t ∧ E k = true
          · rw [if_pos c, if_pos ⟨by omega, c.2⟩]
          · rw [if_neg c, if_neg (fun z => c ⟨by omega, z.2⟩)]
      | true =>
        simp only [hE, Bool.true_and] at ih
        rw [if_pos rfl, sn_ix_nI (by omega : t < 12) (by decide), Option.bind_some, Option.bind_some, wr_o _ _ _ (show (b + 1 : Nat) ≠ b + 2 by omega), hB.1 (b + 1) (by omega), hl t (by omega), mk_or]
        refine ih _ (hB.wr _ _) (fun k hk2 => ?_)
        by_cases ek : k = t
        · subst ek; rw [wr_at, if_pos ⟨by omega, hE⟩]
        · rw [wr_ne _ _ _ ek, hk k hk2]
          by_cases c : k < t ∧ E k = true
          · rw [if_pos c, if_pos ⟨by omega, c.2⟩]
          · rw [if_neg c, if_neg (fun z => c ⟨by omega, z.2⟩)]
def fa_G (n : Nat) (s : Nat → Int32) (d k : Nat) : Int32 := if d = 0 then -1 else sp_fa n s (d - 1) k
theorem fa_new (hn0 : 0 < n) (hn : n ≤ 12) {d : Nat} (hd : d ≤ n) (j : Nat) : (sp_an (fun a => decide (sp_fa n s d a = nI d) && sp_lk n s a j) 0 n && !(!decide (sp_fa n s d j = -1))) = decide (sp_fa n s (d + 1) j = nI (d + 1)) := by
  rw [Bool.not_not, sp_fa]
  by_cases c1 : sp_fa n s d j = -1
  · rw [decide_eq_true c1, Bool.and_true]
    cases hq : sp_an (fun a => decide (sp_fa n s d a = nI d) && sp_lk n s a j) 0 n with
    | true => rw [if_pos ⟨c1, rfl⟩, decide_eq_true rfl]
    | false => rw [if_neg (fun z => by cases z.2), c1, decide_eq_false (fun z => nI_m1 (by omega) z.symm)]
  · rw [decide_eq_false c1, Bool.and_false, if_neg (fun z => c1 z.1)]
    symm
    refine decide_eq_false (fun z => ?_)
    rcases sp_fa_or (n := n) (s := s) d j with q | ⟨e, h1, h2⟩
    · exact c1 q
    · rw [h2] at z
      have := (nI_eq (by omega) (by omega)).mp z
      omega
theorem fa_rea (hn0 : 0 < n) (hn : n ≤ 12) {d : Nat} (hd : d ≤ n) (j : Nat) : (!decide (sp_fa n s d j = -1) || (sp_an (fun a => decide (sp_fa n s d a = nI d) && sp_lk n s a j) 0 n && !(!decide (sp_fa n s d j = -1)))) = !decide (sp_fa n s (d + 1) j = -1) := by
  rw [fa_new hn0 hn hd]
  by_cases c1 : sp_fa n s d j = -1
  · rw [decide_eq_true c1, Bool.not_true, Bool.false_or, sp_fa]
    by_cases c2 : sp_fa n s d j = -1 ∧ sp_an (fun a => decide (sp_fa n s d a = nI d) && sp_lk n s a j) 0 n = true
    · rw [if_pos c2, decide_eq_true rfl, decide_eq_false (nI_m1 (by omega))]; rfl
    · rw [if_neg c2, c1, decide_eq_false (fun z => nI_m1 (by omega) z.symm), decide_eq_true rfl]; rfl
  · rw [decide_eq_false c1, Bool.not_false, Bool.true_or, sp_fa_keep c1, decide_eq_false c1]; rfl
theorem k_meas_L14 (h0 : st.1 b 0 = nI n) (hl : ∀ i, i < 12 → st.1 (b + 1) i = nI (sp_mk (sp_lk n s i) 12)) (hn0 : 0 < n) (hn : n ≤ 12) : ∀ (f d : Nat) (st1 : sn_S), d ≤ n → n - d < f → st_but (b + 2) st st1 → (∀ k, k < 12 → st1.1 (b + 2) k = fa_G n s d k) → ∃ st2 : sn_S, D_X3_measure_L14 b f (nI (sp_mk (fun i => !decide (sp_fa n s d i = -1)) 12)) (nI (sp_mk (fun i => decide (sp_fa n s d i = nI d)) 12)) (nI d) st1 = some st2 ∧ st_but (b + 2) st st2 ∧ ∀ k, k < 12 → st2.1 (b + 2) k = fa_G n s n k
  | 0, d, st1, h1, h2, _, _ => by omega
  | f + 1, d, st1, h1, h2, hB, hk => by
    have h01 : st1.1 b 0 = nI n := by rw [hB.1 _ (by omega)]; exact h0
    rw [D_X3_measure_L14.eq_2, h01]
    by_cases e : d = n
    · subst e
      rw [if_pos (nI_le (Nat.le_refl _) (by omega))]
      exact ⟨st1, rfl, hB, hk⟩
    · have hlt : d < n := by omega
      rw [if_neg (nI_ge hlt (by omega))]
      obtain ⟨st2, g1, g2, g3⟩ := k_meas_L28 (st := st) h0 hl hn (fun i => !decide (sp_fa n s d i = -1)) (fun i => decide (sp_fa n s d i = nI d)) d (fa_G n s d) (fun y1 y2 y3 yt => D_X3_measure_L14 b f y1 y2 y3 yt) 4096 0 st1 (by omega) (by omega) hB (fun k hk2 => by rw [hk k hk2, if_neg (by omega)])
      have e0 : nI (sp_mk (fun j => sp_an (fun a => (fun i => decide (sp_fa n s d i = nI d)) a && sp_lk n s a j) 0 0) 12) = 0 := mk_0.mpr (fun t _ => by rw [sp_an])
      rw [e0, nI_0] at g1
      rw [g1]
      obtain ⟨st3, k1, k2, k3⟩ := k_meas_L14 h0 hl hn0 hn f (d + 1) st2 (by omega) (by omega) g2 (fun k hk2 => by
        rw [g3 k hk2]
        unfold fa_G
        rw [if_neg (show ¬ d + 1 = 0 by omega), Nat.add_sub_cancel]
        by_cases c : sp_fa n s d k = nI d
        · rw [if_pos ⟨by
            rcases Nat.lt_or_ge k n with q | q
            · exact q
            · rw [sp_fa_out hn0 d k q] at c; exact absurd c.symm (nI_m1 (by omega)), decide_eq_true c⟩, c]
        · rw [if_neg (fun z => c (of_decide_eq_true z.2))]
          cases d with
          | zero =>
            rw [if_pos rfl]
            rw [sp_fa] at c ⊢
            by_cases k0 : k = 0
            · rw [if_pos k0] at c; exact absurd rfl c
            · rw [if_neg k0]
          | succ d =>
            rw [if_neg (by omega), Nat.add_sub_cancel]
            rw [sp_fa] at c ⊢
            by_cases q : sp_fa n s d k = -1 ∧ sp_an (fun a => decide (sp_fa n s d a = nI d) && sp_lk n s a k) 0 n = true
            · rw [if_pos q] at c; exact absurd rfl c
            · rw [if_neg q])
      rw [sp_mk_congr 12 (fun j _ => fa_rea hn0 hn (by omega) j), sp_mk_congr 12 (fun j _ => fa_new hn0 hn (by omega) j)]
      exact ⟨st3, k1, k2, k3⟩
theorem k_measure (h0 : st.1 b 0 = nI n) (hl : ∀ i, i < 12 → st.1 (b + 1) i = nI (sp_mk (sp_lk n s i) 12)) (hn0 : 0 < n) (hn : n ≤ 12) : ∃ st2 : sn_S, D_X3_measure b st = some st2 ∧ st_but (b + 2) st st2 ∧ ∀ k, k < 12 → st2.1 (b + 2) k = sp_fa n s n k := by
  unfold D_X3_measure
  obtain ⟨st1, g1, g2, g3⟩ := k_fill (q0 := b + 2) (n0 := 12) (by omega) (-1) st
  rw [g1, Option.bind_some]
  obtain ⟨st2, k1, k2, k3⟩ := k_meas_L14 (st := st) (s := s) h0 hl hn0 hn 4096 0 st1 (by omega) (by omega) g2 (fun k hk => by rw [g3 k hk]; rfl)
  have e1 : nI (sp_mk (fun i => !decide (sp_fa n s 0 i = -1)) 12) = 1 := by
    have := mk_one 0 (by omega)
    rw [sp_mk_congr (Q := fun j => decide (j = 0)) 12 (fun j _ => by
      rw [sp_fa]
      by_cases c : j = 0
      · rw [if_pos c, decide_eq_true c]; rfl
      · rw [if_neg c, decide_eq_false c]; rfl), ← this]
    rfl
  have e2 : nI (sp_mk (fun i => decide (sp_fa n s 0 i = nI 0)) 12) = 1 := by
    have := mk_one 0 (by omega)
    rw [sp_mk_congr (Q := fun j => decide (j = 0)) 12 (fun j _ => by
      rw [sp_fa]
      by_cases c : j = 0
      · rw [if_pos c, decide_eq_true c]; rfl
      · rw [if_neg c, decide_eq_false c]; rfl), ← this]
    rfl
  rw [e1, e2, nI_0] at k1
  refine ⟨st2, k1, k2, fun k hk => ?_⟩
  rw [k3 k hk, sp_fa_sat hn0 hn]
  unfold fa_G
  rw [if_neg (by omega)]
end CS5
