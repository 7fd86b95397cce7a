/-! THE CLASS: a NODE ACTS -/
theorem cr_V.keep {b n : Nat} {st st' : sn_S} {s : Nat → Int32} (hV : cr_V b n st s) (hn : n ≤ 12) (h : ∀ a, a = b + 1 ∨ a = b + 1 + 1 ∨ (b + 19 ≤ a ∧ a ≤ b + 32) → st'.1 a = st.1 a) : cr_V b n st' s := by
  obtain ⟨v1, v2, v3, v4, v5⟩ := hV
  refine ⟨by rw [h _ (by omega)]; exact v1, fun i hi => by rw [h _ (by omega)]; exact v2 i hi, fun i hi => ?_, fun i hi => by rw [h _ (by omega)]; exact v4 i hi, fun i hi => by rw [h _ (by omega)]; exact v5 i hi⟩
  rw [h (b + 4 + 14 + 1 + i) (by omega)]
  exact v3 i hi
/-- a place of NODE i, or a count -/
def sp_of (i k : Nat) : Prop := k = 12 + i ∨ k = 24 + i ∨ k = 36 + i ∨ k = 48 + i ∨ k = 60 + i ∨ (72 + 12 * i ≤ k ∧ k < 72 + 12 * i + 12) ∨ (364 ≤ k ∧ k < 370)
section CR4
variable {b n : Nat} {st : sn_S} {s nx : Nat → Int32}
theorem a0_out (hn : n ≤ 12) {i k : Nat} (h : ¬ sp_of i k) : sp_a0 n s nx i k = nx k := by
  unfold sp_of at h
  unfold sp_a0 sp_cn
  rw [pk_un (by omega), sp_xl_out (fun j hj => by omega) n _ 0 (by omega), pk_un (by omega), pk_un (by omega), pk_un (by omega)]
theorem a1_out {i k : Nat} (h : ¬ sp_of i k) : sp_a1 n s nx i k = nx k := by
  unfold sp_of at h
  unfold sp_a1 sp_cn
  rw [pk_un (by omega), pk_un (by omega), pk_un (by omega)]
theorem a2_out {i k : Nat} (h : ¬ sp_of i k) : sp_a2 n s nx i k = nx k := by
  unfold sp_of at h
  unfold sp_a2 sp_cn
  rw [pk_un (by omega)]
  split
  · split
    · rw [pk_un (by omega), pk_un (by omega), pk_un (by omega), pk_un (by omega)]
    · rw [pk_un (by omega), pk_un (by omega)]
  · rw [pk_un (by omega)]
theorem a3_out (hn0 : 0 < n) (hn : n ≤ 12) {i k : Nat} (h : ¬ sp_of i k) : sp_a3 n s nx i k = nx k := by
  have := sp_fr_lt (s := s) (i := i) hn0 hn
  unfold sp_of at h
  unfold sp_a3 sp_cn
  rw [pk_un (by omega), pk_un (by omega), pk_un (by omega)]
theorem na_out (hn0 : 0 < n) (hn : n ≤ 12) {i k : Nat} (h : ¬ sp_of i k) : sp_na n s nx i k = nx k := by
  unfold sp_na
  split
  · exact a0_out hn h
  · split
    · exact a1_out h
    · split
      · split
        · exact a2_out h
        · rw [a3_out hn0 hn h, a2_out h]
      · exact a3_out hn0 hn h
/-- only NODE i's own row and the counts have changed -/
def cr_F (b i : Nat) (st st' : sn_S) : Prop := (∀ a, a ≠ b + 4 + 1 + 1 + i → a ≠ b + 33 → a ≠ b + 33 + 1 → a ≠ b + 33 + 2 → st'.1 a = st.1 a) ∧ st'.2 = st.2
theorem cr_F.O (hO : cr_O b st nx) {i : Nat} (hi : i < 12) {st' : sn_S} {ny : Nat → Int32} (hF : cr_F b i st st') (hy : ∀ k, ¬ sp_of i k → ny k = nx k) (hi2 : cr_Oi b st' ny i) : cr_O b st' ny := fun a ha => by
  by_cases e : a = i
  · subst e; exact hi2
  · obtain ⟨o0, o1, o2, o3, o4, o5⟩ := hO a ha
    have hr := hF.1 (b + 4 + 1 + 1 + a) (by omega) (by omega) (by omega) (by omega)
    rw [hr, hy _ (by unfold sp_of; omega), hy _ (by unfold sp_of; omega), hy _ (by unfold sp_of; omega), hy _ (by unfold sp_of; omega), hy _ (by unfold sp_of; omega)]
    exact ⟨o0, o1, o2, o3, o4, fun j hj => by rw [hy _ (by unfold sp_of; omega)]; exact o5 j hj⟩
theorem cr_F.V (hV : cr_V b n st s) (hn : n ≤ 12) {i : Nat} (hi : i < 12) {st' : sn_S} (hF : cr_F b i st st') : cr_V b n st' s := hV.keep hn (fun a ha => hF.1 a (by omega) (by omega) (by omega) (by omega))
theorem sp_xl_in {i : Nat} : ∀ (m : Nat) (f : Nat → Int32) (j t : Nat), (∀ t, sp_lk n s i t = false → f (72 + 12 * i + t) = sp_xv n s i t) → (t < j → f (72 + 12 * i + t) = sp_xv n s i t) → (t < j + m ∨ sp_lk n s i t = false) → sp_xl n s i f j m (72 + 12 * i + t) = sp_xv n s i t
  | 0, f, j, t, h1, h2, h3 => by
    rw [sp_xl]
    rcases h3 with h3 | h3
    · exact h2 (by omega)
    · exact h1 t h3
  | m + 1, f, j, t, h1, h2, h3 => by
    rw [sp_xl]
    refine sp_xl_in m _ (j + 1) t (fun u hu => ?_) (fun ht => ?_) (h3.imp (fun z => by omega) id)
    · by_cases c : sp_lk n s i j = true
      · rw [if_pos c, pk_un (fun z => by
          have : u = j := by omega
          rw [this] at hu; rw [hu] at c; cases c)]
        exact h1 u hu
      · rw [if_neg c]; exact h1 u hu
    · by_cases e : t = j
      · subst e
        by_cases c : sp_lk n s i t = true
        · rw [if_pos c, pk_us]
        · rw [if_neg c]; exact h1 t (by simpa using c)
      · by_cases c : sp_lk n s i j = true
        · rw [if_pos c, pk_un (by omega)]; exact h2 (by omega)
        · rw [if_neg c]; exact h2 (by omega)
theorem k_doTree (hV : cr_V b n st s) (hn : n ≤ 12) (hO : cr_O b st nx) (hT : cr_T b st nx) {i : Nat} (hi : i < n) (hnb : i ≠ 0 → ∃ j, j < n ∧ sp_lk n s i j = true) : ∃ st' : sn_S, D_X2_doTree b (nI i) st = some st' ∧ cr_F b i st st' ∧ cr_V b n st' s ∧ cr_O b st' (sp_a1 n s nx i) ∧ cr_T b st' (sp_a1 n s nx i) := by
  have hF1 : cr_F b i st (sn_wr st (b + 33 + 1) 1 (st.1 (b + 33 + 1) 1 + 1)) := ⟨fun a _ _ h3 _ => wr_o _ _ _ h3, rfl⟩
  have hF2 : ∀ r, cr_F b i st (sn_wr (sn_wr st (b + 33 + 1) 1 (st.1 (b + 33 + 1) 1 + 1)) (b + 4 + 1 + 1 + i) 1 r) := fun r => ⟨fun a h1 h2 h3 h4 => (wr_o _ _ _ h1).trans (hF1.1 a h1 h2 h3 h4), rfl⟩
  have hF3 : ∀ r q, cr_F b i st (sn_wr (sn_wr (sn_wr st (b + 33 + 1) 1 (st.1 (b + 33 + 1) 1 + 1)) (b + 4 + 1 + 1 + i) 1 r) (b + 4 + 1 + 1 + i) 0 q) := fun r q => ⟨fun a h1 h2 h3 h4 => (wr_o _ _ _ h1).trans ((hF2 r).1 a h1 h2 h3 h4), rfl⟩
  unfold D_X2_doTree
  rw [k_parentToBe (cr_F.V hV hn (by omega) hF1) hn hi, Option.bind_some, sn_ix_nI (by omega : i < 12) (by decide), Option.bind_some, Option.bind_some, k_distToBe (cr_F.V hV hn (by omega) (hF2 _)) hn hi hnb, Option.bind_some]
  refine ⟨_, rfl, hF3 _ _, cr_F.V hV hn (by omega) (hF3 _ _), cr_F.O hO (by omega) (hF3 _ _) (fun k hk => a1_out hk) ?_, ?_⟩
  · obtain ⟨o0, o1, o2, o3, o4, o5⟩ := hO i (by omega)
    have hne : (b + 4 + 1 + 1 + i : Nat) ≠ b + 33 + 1 := by omega
    unfold cr_Oi sp_a1 sp_cn
    refine ⟨?_, ?_, ?_, ?_, ?_, fun j hj => ?_⟩
    · rw [wr_at, pk_un (by omega), pk_un (by omega), pk_us]
    · rw [wr_ne _ _ _ (by omega), wr_at, pk_un (by omega), pk_us]
    · rw [wr_ne _ _ _ (by omega), wr_ne _ _ _ (by omega), wr_o _ _ _ hne, pk_un (by omega), pk_un (by omega), pk_un (by omega)]; exact o2
    · rw [wr_ne _ _ _ (by omega), wr_ne _ _ _ (by omega), wr_o _ _ _ hne, pk_un (by omega), pk_un (by omega), pk_un (by omega)]; exact o3
    · rw [wr_ne _ _ _ (by omega), wr_ne _ _ _ (by omega), wr_o _ _ _ hne, pk_un (by omega), pk_un (by omega), pk_un (by omega)]; exact o4
    · rw [wr_ne _ _ _ (by omega), wr_ne _ _ _ (by omega), wr_o _ _ _ hne, pk_un (by omega), pk_un (by omega), pk_un (by omega)]; exact o5 j hj
  · obtain ⟨t0, t1, t2, t3, t4, t5⟩ := hT
    have hz : ∀ (c : Nat) (x y : Int32), c = b + 33 ∨ c = b + 33 + 2 → (sn_wr (sn_wr (sn_wr st (b + 33 + 1) 1 (st.1 (b + 33 + 1) 1 + 1)) (b + 4 + 1 + 1 + i) 1 x) (b + 4 + 1 + 1 + i) 0 y).1 c = st.1 c := fun c x y hc => by
      rw [wr_o _ _ _ (by omega), wr_o _ _ _ (by omega), wr_o _ _ _ (by omega)]
    have hz2 : ∀ (x y : Int32), (sn_wr (sn_wr (sn_wr st (b + 33 + 1) 1 (st.1 (b + 33 + 1) 1 + 1)) (b + 4 + 1 + 1 + i) 1 x) (b + 4 + 1 + 1 + i) 0 y).1 (b + 33 + 1) = upd (st.1 (b + 33 + 1)) 1 (st.1 (b + 33 + 1) 1 + 1) := fun x y => by
      rw [wr_o _ _ _ (by omega), wr_o _ _ _ (by omega), wr_s]
    unfold cr_T sp_a1 sp_cn
    rw [hz _ _ _ (Or.inl rfl), hz _ _ _ (Or.inr rfl), hz2]
    refine ⟨?_, ?_, ?_, ?_, fun r hr => ?_, fun j hj => ?_⟩
    · rw [pk_un (by omega), pk_un (by omega), pk_un (by omega)]; exact t0
    · rw [pk_un (by omega), pk_un (by omega), pk_un (by omega)]; exact t1
    · rw [pk_un (by omega), pk_un (by omega), pk_un (by omega)]; exact t2
    · rw [pk_un (by omega), pk_un (by omega), pk_un (by omega)]; exact t3
    · by_cases e : r = 1
      · subst e
        rw [pk_us, pk_us, pk_un (by omega), pk_un (by omega), t4 1 hr]
      · rw [pk_un e, pk_un (by omega), pk_un (by omega), pk_un (by omega)]; exact t4 r hr
    · rw [pk_un (by omega), pk_un (by omega), pk_un (by omega)]; exact t5 j hj
end CR4
