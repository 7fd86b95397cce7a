/-! THE START: what is made is alike -/
def st_0 : sn_S := (fun _ _ => 0, fun _ => 0)
def s_0 : Nat → Int32 := fun k => if k = 360 then nI 2 else sp_ov k
theorem s_0_ci : ci_0 2 s_0 := ⟨if_pos rfl, by omega, fun k _ h _ _ => if_neg h⟩
theorem n_mk {B : Nat} {st : sn_S} (hz : ∀ c, B ≤ c → c ≤ B + 35 → st.1 c = fun _ => 0) : ∃ o1 o2 : sn_S, n_ok B st o1 o2 ∧ (∀ c, c < B ∨ B + 35 < c → (n_st B o2).1 c = st.1 c) ∧ (n_st B o2).2 = st.2 ∧ cw B 2 (n_st B o2) s_0 := by
  obtain ⟨o1, g1, g2, g3⟩ := k_measure (b := B + 1) (n := 2) (st := sn_wr st (B + 1) 0 2) (s := s_0) (by rw [wr_at]; rfl) (fun i hi => by rw [wr_o _ _ _ (by omega), hz _ (by omega) (by omega)]; exact mk_emp (fun t _ => s_0_ci.lk i t)) (by omega) (by omega)
  obtain ⟨o2, k1, k2, k3, k4, k5⟩ := k_rowsClear (b := B + 4) o1
  have e1 : ∀ c, c ≠ B + 1 → c ≠ B + 1 + 2 → o1.1 c = st.1 c := fun c a1 a2 => by rw [g2.1 c a2, wr_o _ _ _ a1]
  have eT : ∀ c, c ≠ B → c ≠ B + 33 → (n_st B o2).1 c = o2.1 c := fun c a1 a2 => by
    unfold n_st n_ta
    rw [wr_o _ _ _ a1, wr_o _ _ _ a1, wr_o _ _ _ a1, wr_o _ _ _ a1, wr_o _ _ _ a1, wr_o _ _ _ a1, wr_o _ _ _ a2, wr_o _ _ _ a2, wr_o _ _ _ a2, wr_o _ _ _ a2]
  have eB : ∀ k, (n_st B o2).1 B k = 0 := fun k => by
    have h0 : ∀ k, o2.1 B k = 0 := fun k => by rw [k2 _ (by omega), e1 _ (by omega) (by omega), hz _ (by omega) (by omega)]
    unfold n_st n_ta
    simp only [wr_s, upd]
    rw [wr_o _ _ _ (by omega), wr_o _ _ _ (by omega), wr_o _ _ _ (by omega), wr_o _ _ _ (by omega)]
    by_cases a8 : k = 8
    · rw [if_pos a8]
    · rw [if_neg a8]
      by_cases a7 : k = 7
      · rw [if_pos a7]
      · rw [if_neg a7]
        by_cases a6 : k = 6
        · rw [if_pos a6]
        · rw [if_neg a6]
          by_cases a5 : k = 5
          · rw [if_pos a5]
          · rw [if_neg a5]
            by_cases a4 : k = 4
            · rw [if_pos a4]
            · rw [if_neg a4]
              by_cases a3 : k = 3
              · rw [if_pos a3]
              · rw [if_neg a3]; exact h0 k
  have e33 : ∀ k, k < 4 → (n_st B o2).1 (B + 33) k = 0 := fun k hk => by
    unfold n_st n_ta
    rw [wr_o _ _ _ (by omega), wr_o _ _ _ (by omega), wr_o _ _ _ (by omega), wr_o _ _ _ (by omega), wr_o _ _ _ (by omega), wr_o _ _ _ (by omega)]
    rcases (show k = 0 ∨ k = 1 ∨ k = 2 ∨ k = 3 by omega) with q | q | q | q
    · subst q; rw [wr_ne _ _ _ (by omega), wr_ne _ _ _ (by omega), wr_ne _ _ _ (by omega), wr_at]
    · subst q; rw [wr_ne _ _ _ (by omega), wr_ne _ _ _ (by omega), wr_at]
    · subst q; rw [wr_ne _ _ _ (by omega), wr_at]
    · subst q; rw [wr_at]
  refine ⟨o1, o2, ⟨hz, g1, fun c a1 a2 => by rw [e1 c (by omega) (by omega)]; exact hz c (by omega) a2, k1, fun c a1 a2 => by rw [k2 c (by omega), e1 c (by omega) (by omega)]; exact hz c (by omega) a2⟩, fun c hc => by rw [eT c (by omega) (by omega), k2 c (by omega), e1 c (by omega) (by omega)], ?_, ?_⟩
  · show o2.2 = st.2
    rw [k3, g2.2]; rfl
  refine cw_0 s_0_ci ?_ (fun i hi => ?_) (fun i hi => ?_) (fun i hi k hk => ?_) (fun i hi => ?_) e33 (fun k hk => ?_) (fun k hk => ?_) (eB _) ((eB _).trans ?_) ((eB _).trans ?_) (eB _) (eB _) (eB _)
  · rw [eT _ (by omega) (by omega), k2 _ (by omega), g2.1 _ (by omega), wr_at]; rfl
  · rw [eT _ (by omega) (by omega), k2 _ (by omega), e1 _ (by omega) (by omega), hz _ (by omega) (by omega)]
  · rw [eT _ (by omega) (by omega), k2 _ (by omega)]; exact g3 i hi
  · rw [eT _ (by omega) (by omega), eT _ (by omega) (by omega)]; exact k4 i hi k hk
  · rw [eT _ (by omega) (by omega), eT _ (by omega) (by omega)]; exact k5 i hi
  · rw [eT _ (by omega) (by omega), k2 _ (by omega), e1 _ (by omega) (by omega), hz _ (by omega) (by omega)]
  · rw [eT _ (by omega) (by omega), k2 _ (by omega), e1 _ (by omega) (by omega), hz _ (by omega) (by omega)]
  · decide
  · decide
theorem m_lp_o {b : Nat} {st : sn_S} {c : Nat} (hc : c ≠ b + 1) : ∀ i, (m_lp b i st).1 c = st.1 c
  | 0 => rfl
  | i + 1 => by rw [m_lp, wr_o _ _ _ hc]; exact m_lp_o hc i
theorem m_lp_k {b : Nat} {st : sn_S} {k : Nat} : ∀ i, (m_lp b i st).1 (b + 1) k = if 24 ≤ k ∧ k < 24 + i then -1 else st.1 (b + 1) k
  | 0 => by rw [m_lp, if_neg (by omega)]
  | i + 1 => by
    rw [m_lp]
    by_cases e : k = 24 + i
    · rw [e, wr_at, if_pos (by omega)]
    · rw [wr_ne _ _ _ e, m_lp_k i]
      by_cases q : 24 ≤ k ∧ k < 24 + i
      · rw [if_pos q, if_pos (by omega)]
      · rw [if_neg q, if_neg (by omega)]
/-- all is made -/
theorem made : ∃ o1 o2 o3 o4 : sn_S, n_ok (0 + 1) st_0 o1 o2 ∧ n_ok (0 + 37) (n_st (0 + 1) o2) o3 o4 ∧ (∀ c, 73 ≤ c → (sn_wr (n_st (0 + 37) o4) 0 2 0).1 c = fun _ => 0) ∧ (sn_wr (n_st (0 + 37) o4) 0 2 0).2 = (fun _ => 0) ∧ Ri (m_lp 73 12 (sn_wr (sn_wr (n_st (0 + 37) o4) 0 2 0) (73 + 1) 360 2)) := by
  obtain ⟨o1, o2, a1, a2, a22, a3⟩ := n_mk (B := 0 + 1) (st := st_0) (fun c _ _ => rfl)
  obtain ⟨o3, o4, b1, b2, b22, b3⟩ := n_mk (B := 0 + 37) (st := n_st (0 + 1) o2) (fun c h1 h2 => by rw [a2 c (by omega)]; rfl)
  have hc : ∀ c, 73 ≤ c → (sn_wr (n_st (0 + 37) o4) 0 2 0).1 c = fun _ => 0 := fun c h => by rw [wr_o _ _ _ (by omega), b2 c (by omega), a2 c (by omega)]; rfl
  have h2 : (sn_wr (n_st (0 + 37) o4) 0 2 0).2 = (fun _ => 0) := by
    show (n_st (0 + 37) o4).2 = _
    rw [b22, a22]; rfl
  refine ⟨o1, o2, o3, o4, a1, b1, hc, h2, ?_⟩
  generalize hst : sn_wr (n_st (0 + 37) o4) 0 2 0 = st at hc h2 ⊢
  have e74 : (m_lp 73 12 (sn_wr st (73 + 1) 360 2)).1 (73 + 1) = s_0 := by
    funext k
    rw [m_lp_k, wr_s]
    unfold s_0 sp_ov upd
    by_cases q : 24 ≤ k ∧ k < 24 + 12
    · rw [if_pos q, if_neg (by omega), if_pos (by omega)]
    · rw [if_neg q]
      by_cases z : k = 360
      · rw [if_pos z, if_pos z]; rfl
      · rw [if_neg z, if_neg z, if_neg (by omega), hc _ (by omega)]
  have eo : ∀ c, c ≠ 74 → (m_lp 73 12 (sn_wr st (73 + 1) 360 2)).1 c = st.1 c := fun c h => by rw [m_lp_o h, wr_o _ _ _ h]
  have e0 : (m_lp 73 12 (sn_wr st (73 + 1) 360 2)).1 0 2 = 0 := by rw [eo 0 (by omega), ← hst, wr_at]
  refine ⟨⟨2, ?_, ?_⟩, ?_, Or.inl e0, fun z => ?_⟩
  · rw [e74]
    refine a3.keep (by omega) (fun a h1 h2 => ?_)
    rw [eo a (by omega), ← hst, wr_o _ _ _ (by omega), b2 a (by omega)]
  · rw [e74]; exact s_0_ci.ci
  · rw [e0, eo 73 (by omega), hc 73 (by omega)]
  · rw [e0] at z; cases z
