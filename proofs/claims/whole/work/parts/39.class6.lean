/-! THE CLASS: RING is done -/
section CR6
variable {b n : Nat} {st : sn_S} {s nx : Nat → Int32}
theorem k_first (hV : cr_V b n st s) (hn : n ≤ 12) {i : Nat} (hi : i < n) : D_X5_pick (nI (sp_mk (fun j => sp_ti n s i j && sp_ri n s i j) n)) 0 = some (sp_fr n s i) := by
  have e12 : sp_mk (fun j => sp_ti n s i j && sp_ri n s i j) n = sp_mk (fun j => decide (j < n) && (sp_ti n s i j && sp_ri n s i j)) 12 := by
    rw [sp_mk_ext (n := n) (P := fun j => decide (j < n) && (sp_ti n s i j && sp_ri n s i j)) 12 hn (fun t h => by rw [decide_eq_false (by omega)]; rfl)]
    exact sp_mk_congr n (fun t h => by rw [decide_eq_true h]; rfl)
  rw [e12, k_pick mk12, sp_kt_congr (P := fun j => (sp_mk (fun j => decide (j < n) && (sp_ti n s i j && sp_ri n s i j)) 12).testBit j) (Q := fun j => decide (j < n) && (sp_ti n s i j && sp_ri n s i j)) 12 0 0 (fun t _ h => mkb (by omega)), kt_fi, Nat.zero_add]
  rw [sp_fi_ext (n := n) (P := fun j => decide (j < n) && (sp_ti n s i j && sp_ri n s i j)) (fun t h _ => by rw [decide_eq_false (by omega)]; rfl) n 0 12 (by omega) (by omega) hn]
  unfold sp_fr
  rw [sp_fi_congr (P := fun j => decide (j < n) && (sp_ti n s i j && sp_ri n s i j)) (Q := fun j => sp_ti n s i j && sp_ri n s i j) n 0 (fun t _ h => by rw [decide_eq_true (by omega)]; rfl)]
theorem k_doRing (hV : cr_V b n st s) (hn0 : 0 < n) (hn : n ≤ 12) (hO : cr_O b st nx) (hT : cr_T b st nx) {i : Nat} (hi : i < n) (hf : ¬ sp_fr n s i = -1) : ∃ st' : sn_S, D_X2_doRing b (nI i) st = some st' ∧ cr_F b i st st' ∧ cr_V b n st' s ∧ cr_O b st' (sp_a3 n s nx i) ∧ cr_T b st' (sp_a3 n s nx i) := by
  obtain ⟨j, hj, he, ht, -⟩ := sp_fr_ok hf
  obtain ⟨k, hk, hxk⟩ := xv_le (s := s) hn (sp_ta n s i j).toNatClampNeg i
  have hne : (b + 33 + 2 : Nat) ≠ b + 33 + 1 := by omega
  unfold D_X2_doRing
  rw [k_rightsOf hV hn hi, Option.bind_some, k_first hV hn hi, Option.bind_some, if_neg hf, he, sn_ix_nI (by omega : i < 12) (by decide)]
  simp only [Option.bind_some]
  have hF1 : cr_F b i st (sn_wr (sn_wr st (b + 33 + 1) 3 (st.1 (b + 33 + 1) 3 + 1)) (b + 33 + 2) i ((sn_wr st (b + 33 + 1) 3 (st.1 (b + 33 + 1) 3 + 1)).1 (b + 33 + 2) i + 1)) := ⟨fun a _ _ h3 h4 => (wr_o _ _ _ h4).trans (wr_o _ _ _ h3), rfl⟩
  generalize hst1 : sn_wr (sn_wr st (b + 33 + 1) 3 (st.1 (b + 33 + 1) 3 + 1)) (b + 33 + 2) i ((sn_wr st (b + 33 + 1) 3 (st.1 (b + 33 + 1) 3 + 1)).1 (b + 33 + 2) i + 1) = st1 at hF1 ⊢
  have hV1 := cr_F.V hV hn (by omega) hF1
  have e5 : (5 : Int32) + nI j = nI (5 + j) := by rw [show (5 : Int32) = nI 5 from rfl, nI_add]
  rw [k_xBefore hV1 hn hi hj ht, k_isBottom hV1 hn hi hj ht, e5, sn_ix_nI (by omega : 5 + j < 17) (by decide)]
  unfold D_X3_greatestX
  rw [hV1.1, show (2 : Int32) = nI 2 from rfl, pk_mul]
  simp only [Option.bind_some]
  have fin : ∃ st' : sn_S, some (sn_wr st1 (b + 4 + 1 + 1 + i) (5 + j) (sp_nv n s i j)) = some st' ∧ cr_F b i st st' ∧ cr_V b n st' s ∧ cr_O b st' (sp_a3 n s nx i) ∧ cr_T b st' (sp_a3 n s nx i) := by
    have hF2 : cr_F b i st (sn_wr st1 (b + 4 + 1 + 1 + i) (5 + j) (sp_nv n s i j)) := ⟨fun a h1 h2 h3 h4 => (wr_o _ _ _ h1).trans (hF1.1 a h1 h2 h3 h4), hF1.2⟩
    have hrow : st1.1 (b + 4 + 1 + 1 + i) = st.1 (b + 4 + 1 + 1 + i) := by rw [← hst1, wr_o _ _ _ (by omega), wr_o _ _ _ (by omega)]
    refine ⟨_, rfl, hF2, cr_F.V hV hn (by omega) hF2, cr_F.O hO (by omega) hF2 (fun q hq => a3_out hn0 hn hq) ?_, ?_⟩
    · obtain ⟨o0, o1, o2, o3, o4, o5⟩ := hO i (by omega)
      unfold cr_Oi sp_a3 sp_cn
      rw [he, nI_clamp (by omega)]
      refine ⟨?_, ?_, ?_, ?_, ?_, fun t ht => ?_⟩
      · rw [wr_ne _ _ _ (by omega), hrow, pk_un (by omega), pk_un (by omega), pk_un (by omega)]; exact o0
      · rw [wr_ne _ _ _ (by omega), hrow, pk_un (by omega), pk_un (by omega), pk_un (by omega)]; exact o1
      · rw [wr_ne _ _ _ (by omega), hrow, pk_un (by omega), pk_un (by omega), pk_un (by omega)]; exact o2
      · rw [wr_ne _ _ _ (by omega), hrow, pk_un (by omega), pk_un (by omega), pk_un (by omega)]; exact o3
      · rw [wr_ne _ _ _ (by omega), hrow, pk_un (by omega), pk_un (by omega), pk_un (by omega)]; exact o4
      · by_cases e : t = j
        · subst e
          rw [wr_at, pk_un (by omega), pk_un (by omega), pk_us]
        · rw [wr_ne _ _ _ (by omega), hrow, pk_un (by omega), pk_un (by omega), pk_un (by omega)]; exact o5 t ht
    · obtain ⟨t0, t1, t2, t3, t4, t5⟩ := hT
      have z0 : (sn_wr st1 (b + 4 + 1 + 1 + i) (5 + j) (sp_nv n s i j)).1 (b + 33) = st.1 (b + 33) := by
        rw [wr_o _ _ _ (by omega), ← hst1, wr_o _ _ _ (by omega), wr_o _ _ _ (by omega)]
      have z1 : (sn_wr st1 (b + 4 + 1 + 1 + i) (5 + j) (sp_nv n s i j)).1 (b + 33 + 1) = upd (st.1 (b + 33 + 1)) 3 (st.1 (b + 33 + 1) 3 + 1) := by
        rw [wr_o _ _ _ (by omega), ← hst1, wr_o _ _ _ (by omega), wr_s]
      have z2 : (sn_wr st1 (b + 4 + 1 + 1 + i) (5 + j) (sp_nv n s i j)).1 (b + 33 + 2) = upd (st.1 (b + 33 + 2)) i (st.1 (b + 33 + 2) i + 1) := by
        rw [wr_o _ _ _ (by omega), ← hst1, wr_s, wr_o _ _ _ hne]
      unfold cr_T sp_a3 sp_cn
      rw [he, nI_clamp (by omega), z0, z1, z2]
      refine ⟨?_, ?_, ?_, ?_, fun r hr => ?_, fun t ht => ?_⟩
      · rw [pk_un (by omega), pk_un (by omega), pk_un (by omega)]; exact t0
      · rw [pk_un (by omega), pk_un (by omega), pk_un (by omega)]; exact t1
      · rw [pk_un (by omega), pk_un (by omega), pk_un (by omega)]; exact t2
      · rw [pk_un (by omega), pk_un (by omega), pk_un (by omega)]; exact t3
      · by_cases e : r = 3
        · subst e
          rw [pk_us, pk_us, pk_un (by omega), pk_un (by omega), t4 3 hr]
        · rw [pk_un e, pk_un (by omega), pk_un (by omega), pk_un (by omega)]; exact t4 r hr
      · by_cases e : t = i
        · subst e
          rw [pk_us, pk_un (by omega), pk_us, t5 t (by omega)]
        · rw [pk_un e, pk_un (by omega), pk_un (by omega), pk_un (by omega)]; exact t5 t ht
  unfold sp_nv at fin
  rw [hxk] at fin ⊢
  cases hbo : sp_bo n s i j with
  | false =>
    rw [hbo, if_neg (by decide)] at fin
    rw [if_pos (show bi false = 0 from rfl)]
    exact fin
  | true =>
    rw [hbo, if_pos rfl, nI_1, pk_rem (by omega) (by omega) (by omega)] at fin
    rw [if_neg (show ¬ bi true = 0 by decide)]
    by_cases c : 2 * n ≤ k
    · rw [if_pos (nI_le c (by omega))]
      rw [show k = 2 * n by omega, Nat.mod_self] at fin
      exact fin
    · rw [if_neg (nI_ge (by omega) (by omega)), nI_1]
      rw [Nat.mod_eq_of_lt (by omega)] at fin
      exact fin
end CR6
