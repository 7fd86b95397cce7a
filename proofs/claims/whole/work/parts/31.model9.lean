/-! THE REFERENCE: STEPS by a way -/
/-- the NODES of a STEP by a way, and the array ahead of it -/
def sp_gr (m : Int32) : Int32 → Nat → Nat → Int32
  | a, _, 0 => a
  | a, j, k + 1 => sp_gr m (if bt m j then nI (2 ^ j) else a) (j + 1) k
def sp_bx (n : Nat) (s : Nat → Int32) (w : Int32) : Int32 :=
  if w = 0 then 4095 else if w = 1 then sp_pe n s &&& (-sp_pe n s) else if w = 2 then sp_gr (sp_pe n s) 0 0 12 else if w = 3 then (1 : Int32) <<< (s 372 &&& 31) else ((1103515245 * s 370 + 12345) >>> ((8 : Int32) &&& 31)) &&& 4095
def sp_b1 (n : Nat) (s : Nat → Int32) (w : Int32) : Nat → Int32 :=
  if w = 0 then s else if w = 1 then s else if w = 2 then s else if w = 3 then upd s 372 (if s 372 + 1 = nI n then 0 else s 372 + 1) else upd s 370 (1103515245 * s 370 + 12345)
def sp_bs (n : Nat) (s : Nat → Int32) (w : Int32) : Nat → Int32 := sp_sp n (sp_b1 n s w) (sp_bx n s w)
def sp_bc (n : Nat) (s : Nat → Int32) (w : Int32) : Nat := sp_ct (sp_ax n (sp_b1 n s w) (sp_bx n s w)) 0 n
def sp_rn (n : Nat) (w : Int32) : Nat → Int32 → (Nat → Int32) → Int32 × (Nat → Int32)
  | 0, a, s => (a, s)
  | k + 1, a, s => sp_rn n w k (a + nI (sp_bc n s w)) (sp_bs n s w)
def sp_se (n : Nat) (w q : Int32) : Nat → Nat → (Nat → Int32) → Int32 × (Nat → Int32)
  | 0, d, s => (if sp_rs n s then nI d else -1 - q, s)
  | k + 1, d, s => if sp_rs n s then (nI d, s) else sp_se n w q k (d + 1) (sp_bs n s w)
theorem sp_b1_eq {n : Nat} {s : Nat → Int32} {w : Int32} {k : Nat} (h : k ≠ 370) (h2 : k ≠ 372) : sp_b1 n s w k = s k := by
  unfold sp_b1
  split
  · rfl
  · split
    · rfl
    · split
      · rfl
      · split
        · exact pk_un h2
        · exact pk_un h
theorem sp_b1_sl {n : Nat} {s : Nat → Int32} {w : Int32} : sp_sl s (sp_b1 n s w) := fun k h1 h2 => sp_b1_eq (by omega) (by omega)
theorem sp_ed_eq {n : Nat} {s1 : Nat → Int32} {w : Int32} {k : Nat} (h : k < 362 ∨ 363 < k ∧ k ≠ 373) : sp_ed n s1 w k = s1 k := by
  unfold sp_ed
  split
  · rw [pk_un (by omega), pk_un (by omega), pk_un (by omega), pk_un (by omega)]
  · rw [pk_un (by omega), pk_un (by omega)]
theorem sp_sp_eq {n : Nat} {s : Nat → Int32} {x : Int32} {k : Nat} (hn : 0 < n) (hn12 : n ≤ 12) (h : k < 12 ∨ (216 ≤ k ∧ k < 362) ∨ (370 ≤ k ∧ k ≠ 373)) : sp_sp n s x k = s k := by
  unfold sp_sp
  split
  · rfl
  · rw [sp_ed_eq (by omega)]
    unfold sp_cut
    split
    · exact sp_nf_out hn hn12 (by omega) n s 0 (by omega)
    · rfl
theorem sp_sp_sl {n : Nat} {s : Nat → Int32} {x : Int32} (hn : 0 < n) (hn12 : n ≤ 12) : sp_sl s (sp_sp n s x) := fun k h1 h2 => sp_sp_eq hn hn12 (by omega)
theorem sp_bs_sl {n : Nat} {s : Nat → Int32} {w : Int32} (hn : 0 < n) (hn12 : n ≤ 12) : sp_sl s (sp_bs n s w) := sp_b1_sl.trans (sp_sp_sl hn hn12)
theorem sp_bs_bu {n : Nat} {s : Nat → Int32} {w : Int32} (hn : 0 < n) (hn12 : n ≤ 12) : sp_bs n s w 361 = s 361 := (sp_sp_eq hn hn12 (by omega)).trans (sp_b1_eq (by omega) (by omega))
section SMA
variable {b n : Nat} {st : sn_S} {s : Nat → Int32}
theorem m_greatest_L (m : Int32) : ∀ (f j : Nat) (a : Int32), j ≤ 12 → 12 - j < f → D_X6_greatest_L9 b m st f a (nI j) = some (sp_gr m a j (12 - j))
  | 0, j, a, h1, h2 => by omega
  | f + 1, j, a, h1, h2 => by
    rw [D_X6_greatest_L9.eq_2]
    by_cases e : j = 12
    · subst e
      rw [if_pos (by decide), Nat.sub_self, sp_gr]
    · have hlt : j < 12 := by omega
      have ih := fun a => m_greatest_L m f (j + 1) a (by omega) (by omega)
      rw [if_neg (by rw [show (12 : Int32) = nI 12 from rfl]; exact nI_ge hlt (by omega)), show 12 - j = (12 - (j + 1)) + 1 by omega, sp_gr, nI_1, sh_1 j hlt]
      unfold bt
      by_cases c : (m >>> (nI j &&& 31)) &&& (1 : Int32) = 1
      · rw [if_pos c, decide_eq_true c, if_pos rfl]; exact ih _
      · rw [if_neg c, decide_eq_false c, if_neg (by decide)]; exact ih _
theorem m_stepBy (hs : st.1 (b + 1) = s) (hn : sm_n n s) (hb1 : s 361 = 1) (hnb : sp_nb n s) (w : Int32) : ∃ st2 : sn_S, D_X6_stepBy b w st = some (nI (sp_bc n s w), st2) ∧ st_b2 b st st2 ∧ st2.1 (b + 1) = sp_bs n s w := by
  have hn12 := hn.2.2
  have key : ∀ (st1 : sn_S) (x : Int32), sp_b1 n s w = st1.1 (b + 1) → sp_bx n s w = x → st_but (b + 1) st st1 → ∃ st2 : sn_S, ((D_X6_doStep b x st1).bind fun r => some (r.1, r.2)) = some (nI (sp_bc n s w), st2) ∧ st_b2 b st st2 ∧ st2.1 (b + 1) = sp_bs n s w := fun st1 x h1 h2 h3 => by
    obtain ⟨st2, g1, g2, g3⟩ := m_doStep (b := b) (st := st1) h1.symm (sp_b1_sl.n hn) ((sp_b1_eq (by omega) (by omega)).trans hb1) (sp_b1_sl.nb hn12 hnb) x
    rw [g1, Option.bind_some]
    exact ⟨st2, by rw [← h2]; rfl, (st_b2.of1 h3).trans g2, by rw [g3, ← h2]; rfl⟩
  unfold D_X6_stepBy
  by_cases w0 : w = 0
  · rw [if_pos w0]
    exact key st 4095 (by unfold sp_b1; rw [if_pos w0, hs]) (by unfold sp_bx; rw [if_pos w0]) st_but.rf
  · rw [if_neg w0]
    by_cases w1 : w = 1
    · rw [if_pos w1]
      unfold D_X6_least
      rw [m_enabledAll hs hn (fun _ => hnb), Option.bind_some, Option.bind_some]
      exact key st _ (by unfold sp_b1; rw [if_neg w0, if_pos w1, hs]) (by unfold sp_bx; rw [if_neg w0, if_pos w1]) st_but.rf
    · rw [if_neg w1]
      by_cases w2 : w = 2
      · rw [if_pos w2]
        unfold D_X6_greatest
        rw [m_enabledAll hs hn (fun _ => hnb), Option.bind_some, show D_X6_greatest_L9 b (sp_pe n s) st 4096 0 0 = some (sp_gr (sp_pe n s) 0 0 12) from m_greatest_L (sp_pe n s) 4096 0 0 (by omega) (by omega), Option.bind_some]
        exact key st _ (by unfold sp_b1; rw [if_neg w0, if_neg w1, if_pos w2, hs]) (by unfold sp_bx; rw [if_neg w0, if_neg w1, if_pos w2]) st_but.rf
      · rw [if_neg w2]
        by_cases w3 : w = 3
        · rw [if_pos w3, hs, hn.1]
          by_cases c : s 372 + 1 = nI n
          · rw [if_pos c]
            exact key (sn_wr st (b + 1) 372 0) _ (by unfold sp_b1; rw [if_neg w0, if_neg w1, if_neg w2, if_pos w3, if_pos c, wr_s, hs]) (by unfold sp_bx; rw [if_neg w0, if_neg w1, if_neg w2, if_pos w3]) (st_but.rf.wr _ _)
          · rw [if_neg c]
            exact key (sn_wr st (b + 1) 372 (s 372 + 1)) _ (by unfold sp_b1; rw [if_neg w0, if_neg w1, if_neg w2, if_pos w3, if_neg c, wr_s, hs]) (by unfold sp_bx; rw [if_neg w0, if_neg w1, if_neg w2, if_pos w3]) (st_but.rf.wr _ _)
        · rw [if_neg w3, hs, wr_at]
          exact key (sn_wr st (b + 1) 370 (1103515245 * s 370 + 12345)) _ (by unfold sp_b1; rw [if_neg w0, if_neg w1, if_neg w2, if_neg w3, wr_s, hs]) (by unfold sp_bx; rw [if_neg w0, if_neg w1, if_neg w2, if_neg w3]) (st_but.rf.wr _ _)
theorem m_run_L (w : Int32) {q : Nat} (hq : q < 2 ^ 30) : ∀ (f k : Nat) (a : Int32) (st : sn_S) (s : Nat → Int32), k ≤ q → q - k < f → st.1 (b + 1) = s → sm_n n s → s 361 = 1 → sp_nb n s → ∃ st2 : sn_S, D_X6_run_L42 b w (nI q) f a (nI k) st = some ((sp_rn n w (q - k) a s).1, st2) ∧ st_b2 b st st2 ∧ st2.1 (b + 1) = (sp_rn n w (q - k) a s).2
  | 0, k, a, st, s, h1, h2, _, _, _, _ => by omega
  | f + 1, k, a, st, s, h1, h2, hs, hn, hb1, hnb => by
    have hn12 := hn.2.2
    rw [D_X6_run_L42.eq_2]
    by_cases e : k = q
    · subst e
      rw [if_pos (nI_le (Nat.le_refl _) (by omega)), Nat.sub_self, sp_rn]
      exact ⟨st, rfl, st_b2.rf, hs⟩
    · have hlt : k < q := by omega
      obtain ⟨st2, g1, g2, g3⟩ := m_stepBy hs hn hb1 hnb w
      rw [if_neg (nI_ge hlt (by omega)), g1, Option.bind_some, nI_1, show q - k = (q - (k + 1)) + 1 by omega, sp_rn]
      have sl := sp_bs_sl (s := s) (w := w) (show 0 < n by have := hn.2.1; omega) hn12
      obtain ⟨st3, k1, k2, k3⟩ := m_run_L w hq f (k + 1) (a + nI (sp_bc n s w)) st2 (sp_bs n s w) (by omega) (by omega) g3 (sl.n hn) ((sp_bs_bu (by have := hn.2.1; omega) hn12).trans hb1) (sl.nb hn12 hnb)
      exact ⟨st3, k1, g2.trans k2, k3⟩
theorem sp_bs_0 (hn : 0 < n) (hn12 : n ≤ 12) {w : Int32} (h : sp_bc n s w = 0) : sp_rs n (sp_bs n s w) = sp_rs n s := by
  refine sp_rs_congr hn12 (fun k hk => ?_)
  unfold sp_bc at h
  unfold sp_bs sp_sp
  rw [if_pos h]
  exact sp_b1_eq (by omega) (by omega)
theorem m_settle_L (w : Int32) {q : Nat} (hq : q < 2 ^ 30) : ∀ (f k : Nat) (st : sn_S) (s : Nat → Int32), k ≤ q → q - k < f → st.1 (b + 1) = s → sm_n n s → s 361 = 1 → sp_nb n s → ∃ st2 : sn_S, D_X6_settle_L45 b w (nI q) f (nI k) (bi (sp_rs n s)) st = some ((sp_se n w (nI q) (q - k) k s).1, st2) ∧ st_b2 b st st2 ∧ st2.1 (b + 1) = (sp_se n w (nI q) (q - k) k s).2
  | 0, k, st, s, h1, h2, _, _, _, _ => by omega
  | f + 1, k, st, s, h1, h2, hs, hn, hb1, hnb => by
    have hn12 := hn.2.2
    have hn0 : 0 < n := by have := hn.2.1; omega
    rw [D_X6_settle_L45.eq_2]
    cases hr : sp_rs n s with
    | true =>
      rw [if_neg (show ¬ bi true = 0 by decide), if_neg (show ¬ bi true = 0 by decide)]
      refine ⟨st, ?_, st_b2.rf, ?_⟩
      · cases q - k with
        | zero => rw [sp_se, hr]; rfl
        | succ m => rw [sp_se, hr]; rfl
      · cases q - k with
        | zero => rw [sp_se]; exact hs
        | succ m => rw [sp_se, hr]; exact hs
    | false =>
      rw [if_pos (show bi false = 0 from rfl)]
      by_cases e : k = q
      · subst e
        rw [if_pos (nI_le (Nat.le_refl _) (by omega)), if_pos (show bi false = 0 from rfl), Nat.sub_self, sp_se, hr]
        exact ⟨st, rfl, st_b2.rf, hs⟩
      · have hlt : k < q := by omega
        obtain ⟨st2, g1, g2, g3⟩ := m_stepBy hs hn hb1 hnb w
        rw [if_neg (nI_ge hlt (by omega)), g1, Option.bind_some, nI_1, show q - k = (q - (k + 1)) + 1 by omega, sp_se, hr, if_neg (show ¬ false = true by decide)]
        have sl := sp_bs_sl (s := s) (w := w) hn0 hn12
        have hb2 : sp_bs n s w 361 = 1 := (sp_bs_bu hn0 hn12).trans hb1
        have ih := fun st1 h => m_settle_L w hq f (k + 1) st1 (sp_bs n s w) (by omega) (by omega) h (sl.n hn) hb2 (sl.nb hn12 hnb)
        have hle : sp_bc n s w ≤ n := sp_ct_le n 0
        show ∃ st3 : sn_S, (if nI (sp_bc n s w) ≤ 0 then _ else _) = _ ∧ _
        by_cases c : sp_bc n s w = 0
        · rw [if_pos (by rw [c]; decide)]
          obtain ⟨st3, k1, k2, k3⟩ := ih st2 g3
          rw [sp_bs_0 hn0 hn12 c, hr] at k1
          exact ⟨st3, k1, g2.trans k2, k3⟩
        · rw [if_neg (nI_nle (by omega) (by omega))]
          obtain ⟨st3, k1, k2⟩ := m_isRest g3 (sl.n hn) (Or.inr hb2)
          rw [k2, Option.bind_some]
          obtain ⟨st4, m1, m2, m3⟩ := ih st3 ((k1.1 (b + 1) (by omega)).trans g3)
          refine ⟨st4, ?_, (g2.trans (st_b2.of4 k1)).trans m2, m3⟩
          rw [← m1]
          cases sp_rs n (sp_bs n s w) <;> rfl
end SMA
