/-! THE CLASS: SANE, the first RULE -/
def cr_Oi (b : Nat) (st : sn_S) (nx : Nat → Int32) (i : Nat) : Prop := st.1 (b + 4 + 1 + 1 + i) 0 = nx (12 + i) ∧ st.1 (b + 4 + 1 + 1 + i) 1 = nx (24 + i) ∧ st.1 (b + 4 + 1 + 1 + i) 2 = nx (36 + i) ∧ st.1 (b + 4 + 1 + 1 + i) 3 = nx (48 + i) ∧ st.1 (b + 4 + 1 + 1 + i) 4 = nx i ∧ ∀ j, j < 12 → st.1 (b + 4 + 1 + 1 + i) (5 + j) = nx (72 + 12 * i + j)
theorem cr_O.at {b : Nat} {st : sn_S} {nx : Nat → Int32} (h : cr_O b st nx) {i : Nat} (hi : i < 12) : cr_Oi b st nx i := h i hi
theorem in_nn {n : Nat} (hn : n ≤ 12) : sp_in (nI n) 0 (nI n) = true := decide_eq_true ⟨nI_pos' (by omega), nI_le (Nat.le_refl _) (by omega)⟩
section CR3
variable {b n : Nat} {st : sn_S} {s : Nat → Int32}
theorem eq_di (hn : n ≤ 12) {i : Nat} : (s (12 + i) = sp_di n s i) ↔ sp_in (s (12 + i)) 0 (nI n) = true := by
  unfold sp_di
  cases h : sp_in (s (12 + i)) 0 (nI n) with
  | true => rw [if_pos rfl]; exact ⟨fun _ => rfl, fun _ => rfl⟩
  | false =>
    rw [if_neg (by decide)]
    refine ⟨fun z => ?_, fun z => by cases z⟩
    rw [z, in_nn hn] at h
    cases h
theorem eq_pr {i : Nat} : (s (24 + i) = sp_pr n s i) ↔ sp_okp n s i = true := by
  unfold sp_pr
  cases h : sp_okp n s i with
  | true => rw [if_pos rfl]; exact ⟨fun _ => rfl, fun _ => rfl⟩
  | false =>
    rw [if_neg (by decide)]
    refine ⟨fun z => ?_, fun z => by cases z⟩
    unfold sp_okp at h
    rw [decide_eq_true z, Bool.true_or] at h
    cases h
theorem eq_ph {i : Nat} : (s (36 + i) = sp_ph s i) ↔ sp_in (s (36 + i)) 0 2 = true := by
  unfold sp_ph
  cases h : sp_in (s (36 + i)) 0 2 with
  | true => rw [if_pos rfl]; exact ⟨fun _ => rfl, fun _ => rfl⟩
  | false =>
    rw [if_neg (by decide)]
    refine ⟨fun z => ?_, fun z => by cases z⟩
    rw [z] at h
    cases h
theorem eq_xv (hn : n ≤ 12) {i j : Nat} : (s (72 + 12 * i + j) = sp_xv n s i j) ↔ sp_xo n s i j = true := by
  unfold sp_xv
  cases h : sp_xo n s i j with
  | true => rw [if_pos rfl]; exact ⟨fun _ => rfl, fun _ => rfl⟩
  | false =>
    rw [if_neg (by decide)]
    refine ⟨fun z => ?_, fun z => by cases z⟩
    unfold sp_xo sp_in at h
    rw [z, decide_eq_true ⟨Int32.le_refl _, nI_pos' (by omega)⟩] at h
    cases h
theorem k_isSane_L {i : Nat} (hi : i < 12) : ∀ (f j : Nat), j ≤ 17 → 17 - j < f → D_X1_isSane_L2 b (nI i) st f (nI j) = some (bi (sp_al (fun k => decide (st.1 (b + 1 + 1 + i) k = st.1 (b + 14 + 1 + i) k)) j (17 - j)))
  | 0, j, h1, h2 => by omega
  | f + 1, j, h1, h2 => by
    rw [D_X1_isSane_L2.eq_2]
    by_cases e : j = 17
    · subst e
      rw [if_pos (by decide), Nat.sub_self, sp_al]; rfl
    · have hlt : j < 17 := by omega
      have ih := k_isSane_L hi f (j + 1) (by omega) (by omega)
      rw [if_neg (by rw [show (17 : Int32) = nI 17 from rfl]; exact nI_ge hlt (by omega)), sn_ix_nI hi (by decide), sn_ix_nI hlt (by decide), nI_1, show 17 - j = (17 - (j + 1)) + 1 by omega, sp_al]
      simp only [Option.bind_some]
      by_cases c : st.1 (b + 1 + 1 + i) j = st.1 (b + 14 + 1 + i) j
      · rw [if_pos c, decide_eq_true c, Bool.true_and]; exact ih
      · rw [if_neg c, decide_eq_false c, Bool.false_and]; rfl
theorem k_isSane (hV : cr_V b n st s) (hn : n ≤ 12) {i : Nat} (hi : i < n) (hO : cr_Oi b st s i) (hx : ∀ j, j < 12 → sp_lk n s i j = false → s (72 + 12 * i + j) = 0) : D_X1_isSane (b + 4) (nI i) st = some (bi (sp_sa n s i)) := by
  obtain ⟨-, -, v3, -, -⟩ := id hV
  obtain ⟨r0, r1, r2, r3, r4, r5⟩ := v3 i (by omega)
  obtain ⟨o0, o1, o2, o3, o4, o5⟩ := hO
  unfold D_X1_isSane
  have := k_isSane_L (b := b + 4) (st := st) (i := i) (by omega) 4096 0 (by omega) (by omega)
  rw [nI_0] at this
  rw [this]
  congr 2
  rw [Bool.eq_iff_iff, sp_al_iff]
  unfold sp_sa
  simp only [Bool.and_eq_true, sp_al_iff, decide_eq_true_eq, Nat.sub_zero, Nat.zero_add]
  rw [← eq_di hn, ← eq_pr, ← eq_ph]
  have hxo : ∀ j, j < 12 → (s (72 + 12 * i + j) = sp_xv n s i j ↔ (!sp_lk n s i j || sp_xo n s i j) = true) := fun j hj => by
    cases hl : sp_lk n s i j with
    | true => rw [eq_xv hn]; simp
    | false =>
      have h0 := hx j hj hl
      refine ⟨fun _ => rfl, fun _ => ?_⟩
      unfold sp_xv
      rw [h0]
      split <;> rfl
  constructor
  · intro h
    refine ⟨?_, ?_, ?_, fun t _ ht => ?_⟩
    · rw [← o0, ← r0]; exact h 0 (by omega) (by omega)
    · rw [← o1, ← r1]; exact h 1 (by omega) (by omega)
    · rw [← o2, ← r2]; exact h 2 (by omega) (by omega)
    · refine (hxo t (by omega)).mp ?_
      rw [← o5 t (by omega), ← r5 t (by omega)]
      exact h (5 + t) (by omega) (by omega)
  · rintro ⟨h0, h1, h2, h3⟩ t _ ht
    rcases (show t = 0 ∨ t = 1 ∨ t = 2 ∨ t = 3 ∨ t = 4 ∨ 5 ≤ t by omega) with e | e | e | e | e | e
    · subst e; rw [o0, r0]; exact h0
    · subst e; rw [o1, r1]; exact h1
    · subst e; rw [o2, r2]; exact h2
    · subst e; rw [o3, r3]
    · subst e; rw [o4, r4]
    · obtain ⟨j, rfl⟩ : ∃ j, t = 5 + j := ⟨t - 5, by omega⟩
      rw [o5 j (by omega), r5 j (by omega)]
      refine (hxo j (by omega)).mpr ?_
      by_cases l : j < n
      · exact h3 j (by omega) l
      · have : sp_lk n s i j = false := by unfold sp_lk; rw [decide_eq_false l, Bool.false_and, Bool.and_false]
        rw [this]; rfl
theorem k_firstRule (hV : cr_V b n st s) (hn : n ≤ 12) {i : Nat} (hi : i < n) (hnb : i ≠ 0 → ∃ j, j < n ∧ sp_lk n s i j = true) (hO : cr_Oi b st s i) (hx : ∀ j, j < 12 → sp_lk n s i j = false → s (72 + 12 * i + j) = 0) : D_X2_firstRule b (nI i) st = some (sp_ru n s i) := by
  obtain ⟨-, -, v3, -, -⟩ := id hV
  obtain ⟨r0, r1, r2, -, -, -⟩ := v3 i (by omega)
  unfold D_X2_firstRule sp_ru
  rw [k_isSane hV hn hi hO hx, pb_if]
  cases hsa : sp_sa n s i with
  | false => rfl
  | true =>
    have hsa' := hsa
    unfold sp_sa at hsa'
    simp only [Bool.and_eq_true] at hsa'
    have e0 := (eq_di hn).mpr hsa'.1
    have e1 := eq_pr.mpr hsa'.2.1
    have e2 := eq_ph.mpr hsa'.2.2.1
    rw [if_pos rfl, if_pos rfl, sn_ix_nI (by omega : i < 12) (by decide), Option.bind_some, k_parentToBe hV hn hi, Option.bind_some, r0, r1, r2, ← e0, ← e1, k_distToBe hV hn hi hnb, Option.bind_some, k_phaseToBe hV hn hi, Option.bind_some, k_rightsOf hV hn hi, Option.bind_some, ← e2]
    by_cases c1 : s (12 + i) = sp_td n s i
    · by_cases c2 : s (24 + i) = sp_tp n s i
      · rw [if_pos c2, if_pos c1, if_pos c1, if_pos c2]
        by_cases c3 : sp_wp n s i (s (36 + i)) = s (36 + i)
        · rw [if_pos c3, if_pos c3.symm]
          have hz : (nI (sp_mk (fun j => sp_ti n s i j && sp_ri n s i j) n) = 0) ↔ sp_fr n s i = -1 := by
            have e12 : sp_mk (fun j => sp_ti n s i j && sp_ri n s i j) n = sp_mk (fun j => decide (j < n) && (sp_ti n s i j && sp_ri n s i j)) 12 := by
              rw [sp_mk_ext (n := n) (P := fun j => decide (j < n) && (sp_ti n s i j && sp_ri n s i j)) 12 hn (fun t h => by rw [decide_eq_false (by omega)]; rfl)]
              exact sp_mk_congr n (fun t h => by rw [decide_eq_true h]; rfl)
            rw [e12, mk_0]
            unfold sp_fr
            obtain ⟨f1, f2, f3, f4⟩ := sp_fi_le (P := fun j => sp_ti n s i j && sp_ri n s i j) n 0
            by_cases c : sp_fi (fun j => sp_ti n s i j && sp_ri n s i j) 0 n = n
            · rw [if_pos c]
              refine ⟨fun _ => rfl, fun _ t ht => ?_⟩
              by_cases l : t < n
              · rw [f4 t (by omega) (by omega), Bool.and_false]
              · rw [decide_eq_false l, Bool.false_and]
            · rw [if_neg c]
              refine ⟨fun z => ?_, fun z => absurd z (nI_m1 (by omega))⟩
              have := z (sp_fi (fun j => sp_ti n s i j && sp_ri n s i j) 0 n) (by omega)
              rw [decide_eq_true (by omega), f3 (by omega)] at this
              cases this
          by_cases c4 : sp_fr n s i = -1
          · rw [if_pos (hz.mpr c4), if_pos c4]
          · rw [if_neg (fun z => c4 (hz.mp z)), if_neg c4]
        · rw [if_neg c3, if_neg (fun z => c3 z.symm)]
      · rw [if_neg c2, if_pos c1, if_neg c2]
    · rw [if_neg c1, if_neg c1]
      split <;> rfl
end CR3
