/-! THE REFERENCE, method by method, in the words of the mathematics -/
def sm_n (n : Nat) (s : Nat → Int32) : Prop := s 360 = nI n ∧ 2 ≤ n ∧ n ≤ 12
theorem ix_l {i j : Nat} (hi : i < 12) (hj : j < 12) : sn_ix (((216 : Int32) + ((12 : Int32) * nI i)) + nI j) 374 = some (216 + 12 * i + j) := by
  rw [show (216 : Int32) = nI 216 from rfl, show (12 : Int32) = nI 12 from rfl, pk_mul, nI_add, nI_add, sn_ix_nI (by omega) (by omega)]
theorem ix_x {i j : Nat} (hi : i < 12) (hj : j < 12) : sn_ix (((72 : Int32) + ((12 : Int32) * nI i)) + nI j) 374 = some (72 + 12 * i + j) := by
  rw [show (72 : Int32) = nI 72 from rfl, show (12 : Int32) = nI 12 from rfl, pk_mul, nI_add, nI_add, sn_ix_nI (by omega) (by omega)]
theorem ix_12 {i : Nat} (hi : i < 12) : sn_ix ((12 : Int32) + nI i) 374 = some (12 + i) := by
  rw [show (12 : Int32) = nI 12 from rfl, nI_add, sn_ix_nI (by omega) (by omega)]
theorem ix_24 {i : Nat} (hi : i < 12) : sn_ix ((24 : Int32) + nI i) 374 = some (24 + i) := by
  rw [show (24 : Int32) = nI 24 from rfl, nI_add, sn_ix_nI (by omega) (by omega)]
theorem ix_36 {i : Nat} (hi : i < 12) : sn_ix ((36 : Int32) + nI i) 374 = some (36 + i) := by
  rw [show (36 : Int32) = nI 36 from rfl, nI_add, sn_ix_nI (by omega) (by omega)]
theorem ix_48 {i : Nat} (hi : i < 12) : sn_ix ((48 : Int32) + nI i) 374 = some (48 + i) := by
  rw [show (48 : Int32) = nI 48 from rfl, nI_add, sn_ix_nI (by omega) (by omega)]
theorem ix_60 {i : Nat} (hi : i < 12) : sn_ix ((60 : Int32) + nI i) 374 = some (60 + i) := by
  rw [show (60 : Int32) = nI 60 from rfl, nI_add, sn_ix_nI (by omega) (by omega)]
theorem m_in (x lo hi : Int32) : D_X6_in x lo hi = some (bi (sp_in x lo hi)) := by
  unfold D_X6_in sp_in
  by_cases h1 : x < lo
  · rw [if_pos h1, show decide (lo ≤ x ∧ x ≤ hi) = false from decide_eq_false (fun h => absurd h1 (Int32.not_lt.mpr h.1))]; rfl
  · rw [if_neg h1]
    by_cases h2 : hi < x
    · rw [if_pos h2, show decide (lo ≤ x ∧ x ≤ hi) = false from decide_eq_false (fun h => absurd h2 (Int32.not_lt.mpr h.2))]; rfl
    · rw [if_neg h2, show decide (lo ≤ x ∧ x ≤ hi) = true from decide_eq_true ⟨Int32.not_lt.mp h1, Int32.not_lt.mp h2⟩]; rfl
theorem sp_nd_nI {n i : Nat} (hn : n ≤ 12) (hi : i < 2 ^ 31) : sp_nd n (nI i) = decide (i < n) := by
  unfold sp_nd
  rw [decide_eq_decide]
  constructor
  · intro h; exact (nI_ltI hi (by omega)).mp h.2
  · intro h; exact ⟨nI_pos' hi, (nI_ltI hi (by omega)).mpr h⟩
theorem sp_nd_of {n : Nat} {x : Int32} (hn : n ≤ 12) (h : sp_nd n x = true) : ∃ i, i < n ∧ x = nI i := by
  unfold sp_nd at h
  have h := of_decide_eq_true h
  obtain ⟨j, h1, h2⟩ := nI_of (Int32.not_lt.mpr h.1)
  refine ⟨j, ?_, h2⟩
  rw [h2] at h
  exact (nI_ltI h1 (by omega)).mp h.2
section SM
variable {b n : Nat} {st : sn_S} {s : Nat → Int32}
theorem m_isNode (hs : st.1 (b + 1) = s) (hn : sm_n n s) (x : Int32) : D_X6_isNode b x st = some (bi (sp_nd n x)) := by
  unfold D_X6_isNode
  rw [m_in, pb_ret, hs, hn.1]
  congr 2
  unfold sp_in sp_nd
  rw [decide_eq_decide]
  have e : (nI n - 1).toInt = (n : Int) - 1 := by
    have := pk_sub (a := n) (b := 1) (by have := hn.2.1; omega)
    rw [show (1 : Int32) = nI 1 from rfl, this, nI_toInt (by have := hn.2.2; omega)]
    have := hn.2.1
    omega
  rw [Int32.le_iff_toInt_le, Int32.le_iff_toInt_le, Int32.lt_iff_toInt_lt, e, nI_toInt (by have := hn.2.2; omega)]
  omega
theorem m_isLinkI (hs : st.1 (b + 1) = s) (hn : sm_n n s) {i : Nat} (hi : i < n) (x : Int32) : D_X6_isLink b (nI i) x st = some (bi (sp_lI n s i x)) := by
  have hn12 := hn.2.2
  unfold D_X6_isLink sp_lI
  rw [m_isNode hs hn, m_isNode hs hn, sp_nd_nI hn12 (by omega), show decide (i < n) = true from decide_eq_true hi, pb_if, if_pos rfl, pb_if]
  cases h : sp_nd n x with
  | false => rfl
  | true =>
    obtain ⟨j, hj, rfl⟩ := sp_nd_of hn12 h
    rw [if_pos rfl, ix_l (by omega) (by omega), nI_clamp (by omega)]
    unfold sp_lk
    rw [show decide (i < n) = true from decide_eq_true hi, show decide (j < n) = true from decide_eq_true hj, hs]
    show (if s (216 + 12 * i + j) = 1 then some (1 : Int32) else some 0) = _
    by_cases e : s (216 + 12 * i + j) = 1
    · rw [if_pos e, decide_eq_true e]; rfl
    · rw [if_neg e, decide_eq_false e]; rfl
theorem sp_lI_nI (hn : n ≤ 12) {i j : Nat} (hj : j < 2 ^ 31) : sp_lI n s i (nI j) = sp_lk n s i j := by
  unfold sp_lI
  rw [sp_nd_nI hn hj, nI_clamp hj]
  unfold sp_lk
  cases decide (j < n) <;> simp
theorem m_isLink (hs : st.1 (b + 1) = s) (hn : sm_n n s) {i j : Nat} (hi : i < n) (hj : j < 2 ^ 31) : D_X6_isLink b (nI i) (nI j) st = some (bi (sp_lk n s i j)) := by
  rw [m_isLinkI hs hn hi, sp_lI_nI hn.2.2 hj]
theorem m_isSaneParent (hs : st.1 (b + 1) = s) (hn : sm_n n s) {i : Nat} (hi : i < n) : D_X6_isSaneParent b (nI i) st = some (bi (sp_okp n s i)) := by
  have hn12 := hn.2.2
  unfold D_X6_isSaneParent sp_okp
  rw [ix_24 (by omega), Option.bind_some, hs, m_isLinkI hs hn hi, pb_if]
  by_cases e : s (24 + i) = -1
  · rw [if_pos e, decide_eq_true e]; rfl
  · rw [if_neg e, decide_eq_false e]
    cases sp_lI n s i (s (24 + i)) <;> rfl
theorem m_parentOf (hs : st.1 (b + 1) = s) (hn : sm_n n s) {i : Nat} (hi : i < n) : D_X6_parentOf b (nI i) st = some (sp_pr n s i) := by
  have hn12 := hn.2.2
  unfold D_X6_parentOf sp_pr
  rw [m_isSaneParent hs hn hi, pb_if, ix_24 (by omega), Option.bind_some, hs]
  cases sp_okp n s i <;> rfl
theorem m_distOf (hs : st.1 (b + 1) = s) (hn : sm_n n s) {i : Nat} (hi : i < n) : D_X6_distOf b (nI i) st = some (sp_di n s i) := by
  have hn12 := hn.2.2
  unfold D_X6_distOf sp_di
  rw [ix_12 (by omega), Option.bind_some, Option.bind_some, hs, m_in, pb_if, hn.1]
  cases sp_in (s (12 + i)) 0 (nI n) <;> rfl
theorem m_phaseOf (hs : st.1 (b + 1) = s) {i : Nat} (hi : i < 12) : D_X6_phaseOf b (nI i) st = some (sp_ph s i) := by
  unfold D_X6_phaseOf sp_ph
  rw [ix_36 hi, Option.bind_some, Option.bind_some, hs, m_in, pb_if]
  cases sp_in (s (36 + i)) 0 2 <;> rfl
theorem m_k (hs : st.1 (b + 1) = s) (hn : sm_n n s) : D_X6_k b st = some (nI (2 * n + 1)) := by
  unfold D_X6_k
  rw [hs, hn.1, show (2 : Int32) = nI 2 from rfl, pk_mul, nI_1]
theorem m_xOf (hs : st.1 (b + 1) = s) (hn : sm_n n s) {i j : Nat} (hi : i < 12) (hj : j < 12) : D_X6_xOf b (nI i) (nI j) st = some (sp_xv n s i j) := by
  unfold D_X6_xOf sp_xv sp_xo
  rw [ix_x hi hj, Option.bind_some, m_k hs hn, Option.bind_some, hs, m_in, pb_if, show (1 : Int32) = nI 1 from rfl, pk_sub (by omega), Nat.add_sub_cancel]
  cases sp_in (s (72 + 12 * i + j)) 0 (nI (2 * n)) <;> rfl
theorem m_isChild (hs : st.1 (b + 1) = s) (hn : sm_n n s) {i j : Nat} (hi : i < n) (hj : j < n) : D_X6_isChild b (nI i) (nI j) st = some (bi (sp_ch n s i j)) := by
  have hn12 := hn.2.2
  unfold D_X6_isChild sp_ch
  rw [m_isLink hs hn hi (by omega), m_parentOf hs hn hj, pb_if]
  cases sp_lk n s i j with
  | false => rfl
  | true =>
    rw [if_pos rfl, Option.bind_some]
    by_cases e : sp_pr n s j = nI i
    · rw [if_pos e, decide_eq_true e]; rfl
    · rw [if_neg e, decide_eq_false e]; rfl
theorem m_isTie (hs : st.1 (b + 1) = s) (hn : sm_n n s) {i j : Nat} (hi : i < n) (hj : j < n) : D_X6_isTie b (nI i) (nI j) st = some (bi (sp_ti n s i j)) := by
  have hn12 := hn.2.2
  unfold D_X6_isTie sp_ti
  rw [m_isChild hs hn hi hj, m_parentOf hs hn hi, pb_if]
  cases sp_ch n s i j with
  | true => rfl
  | false =>
    have hne : ¬ nI j = -1 := fun h => by
      have := congrArg Int32.toInt h
      rw [nI_toInt (by omega)] at this
      have e : ((-1 : Int32)).toInt = -1 := by decide
      rw [e] at this
      omega
    rw [if_neg (by decide), if_neg hne, Option.bind_some]
    by_cases e : sp_pr n s i = nI j
    · rw [if_pos e, decide_eq_true e]; rfl
    · rw [if_neg e, decide_eq_false e]; rfl
end SM
