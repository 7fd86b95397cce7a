/-! THE CLASS: readAgain whole: the relation for the new array -/
section CRG
variable {b n : Nat} {st : sn_S} {s s' : Nat → Int32}
/-- own rows hold s', what is read is of s; LINKS are the same; NODES whose bit isn't set are the same in both -/
theorem k_readAgain (hV : cr_V b n st s) (hn : n ≤ 12) (hO : cr_O b st s') (hsl : sp_sl s s') (hself : ∀ i, sp_lk n s i i = false) (hsym : ∀ i j, sp_lk n s i j = sp_lk n s j i) {m : Nat} (hm : m < 4096) (hno : ∀ j, j < 12 → ¬ (j < n ∧ m.testBit j = true) → sp_lo s s' j ∧ s' (48 + j) = s (48 + j) ∧ s' j = s j) : ∃ st2 : sn_S, D_X1_readAgain (b + 4) (b + 1) (nI m) st = some st2 ∧ cr_V b n st2 s' ∧ (∀ a, (a < b + 19 ∨ b + 32 < a) → st2.1 a = st.1 a) ∧ st2.2 = st.2 := by
  obtain ⟨v1, v2, v3, -, -⟩ := id hV
  unfold D_X1_readAgain
  obtain ⟨st1, g1, g2, g3, g4⟩ := k_read_L2 (st := st) (s := s) v1 v2 hn hm 4096 0 st (by omega) (by omega) (fun a _ => rfl) rfl (fun j _ k _ => by rw [if_neg (by omega)])
  have g1' : D_X1_readAgain_L2 (b + 4) (b + 1) (nI m) 4096 0 st = _ := g1
  rw [g1']
  -- what is read now is of s'
  have hrow : ∀ i, i < 12 → st1.1 (b + 4 + 14 + 1 + i) 0 = sp_di n s' i ∧ st1.1 (b + 4 + 14 + 1 + i) 1 = sp_pr n s' i ∧ st1.1 (b + 4 + 14 + 1 + i) 2 = sp_ph s' i ∧ st1.1 (b + 4 + 14 + 1 + i) 3 = s' (48 + i) ∧ st1.1 (b + 4 + 14 + 1 + i) 4 = s' i ∧ ∀ j, j < 12 → st1.1 (b + 4 + 14 + 1 + i) (5 + j) = sp_xv n s' i j := fun i hi => by
    obtain ⟨o0, o1, o2, o3, o4, o5⟩ := hO i hi
    obtain ⟨r0, r1, r2, r3, r4, r5⟩ := v3 i hi
    by_cases c : i < n ∧ m.testBit i = true
    · have hg := fun k (hk : k < 17) => (g4 i hi k hk).trans (if_pos c)
      refine ⟨?_, ?_, ?_, ?_, ?_, fun j hj => ?_⟩
      · rw [hg 0 (by omega), o0]; unfold sp_cs sp_di; rw [if_pos rfl]
      · rw [hg 1 (by omega), o1]
        unfold sp_cs sp_pr sp_okp
        rw [if_neg (by omega), if_pos rfl]
        have e : sp_lI n s' i (s' (24 + i)) = sp_lI n s i (s' (24 + i)) := by unfold sp_lI; rw [hsl.lk hn]
        rw [e]
        by_cases q : s' (24 + i) = -1
        · rw [q, decide_eq_true rfl, Bool.true_or, if_pos rfl]; split <;> rfl
        · rw [decide_eq_false q, Bool.false_or]
      · rw [hg 2 (by omega), o2]; unfold sp_cs sp_ph; rw [if_neg (by omega), if_neg (by omega), if_pos rfl]
      · rw [hg 3 (by omega), o3]; unfold sp_cs; rw [if_neg (by omega), if_neg (by omega), if_neg (by omega), if_pos rfl]
      · rw [hg 4 (by omega), o4]; unfold sp_cs; rw [if_neg (by omega), if_neg (by omega), if_neg (by omega), if_neg (by omega), if_pos rfl]
      · rw [hg (5 + j) (by omega), o5 j hj]; unfold sp_cs sp_xv sp_xo; rw [if_neg (by omega), if_neg (by omega), if_neg (by omega), if_neg (by omega), if_neg (by omega)]
    · have hg := fun k (hk : k < 17) => (g4 i hi k hk).trans (if_neg c)
      obtain ⟨l1, l2, l3⟩ := hno i hi c
      refine ⟨?_, ?_, ?_, ?_, ?_, fun j hj => ?_⟩
      · rw [hg 0 (by omega), r0, lo_di l1]
      · rw [hg 1 (by omega), r1, lo_pr hn hsl l1]
      · rw [hg 2 (by omega), r2, lo_ph l1]
      · rw [hg 3 (by omega), r3, l2]
      · rw [hg 4 (by omega), r4, l3]
      · rw [hg (5 + j) (by omega), r5 j hj, lo_xv hj l1]
  obtain ⟨st2, k1, k2, k3, k4, k5⟩ := k_tieAgain (b := b + 4) (st := st1) (s := s') hn (fun i => by rw [hsl.lk hn]; exact hself i) (fun i j => by rw [hsl.lk hn, hsl.lk hn]; exact hsym i j) (fun i hi => (hrow i hi).2.1)
  refine ⟨st2, k1, ⟨?_, fun i hi => ?_, fun i hi => ?_, k4, k5⟩, fun a ha => ?_, k3.trans g3⟩
  · rw [k2 _ (by omega) (by omega), g2 _ (fun j hj => by omega)]; exact v1
  · rw [k2 _ (by omega) (by omega), g2 _ (fun j hj => by omega), v2 i hi, sp_mk_congr 12 (fun j _ => (hsl.lk hn i j).symm)]
  · rw [k2 _ (by omega) (by omega)]; exact hrow i hi
  · rw [k2 _ (by omega) (by omega), g2 _ (fun j hj => by omega)]
end CRG
