/-! THE CLASS: SANE and RING are done -/
theorem cp_at (st : sn_S) {c d n k : Nat} (h : k < n) : (sn_cp st c d n).1 d k = st.1 c k := by
  show (if d = d then va_cpy (st.1 c) (st.1 d) 0 0 n else st.1 d) k = _
  rw [if_pos rfl, pk_cpy_in (by omega) (by omega), Nat.zero_add, Nat.sub_zero]
theorem cp_o (st : sn_S) {c d a : Nat} (n : Nat) (h : a ≠ d) : (sn_cp st c d n).1 a = st.1 a := if_neg h
theorem kt_fi {P : Nat → Bool} : ∀ (k j : Nat), sp_kt P 0 0 j k = if sp_fi P j k = j + k then -1 else nI (sp_fi P j k)
  | 0, j => by rw [sp_kt, sp_fi, if_pos (by omega)]
  | k + 1, j => by
    rw [sp_kt, sp_fi]
    by_cases c : P j = true
    · rw [if_pos c, if_pos c, if_pos rfl, if_neg (by omega)]
    · rw [if_neg c, if_neg c, kt_fi k (j + 1), show j + 1 + k = j + (k + 1) by omega]
theorem sp_fi_ext {P : Nat → Bool} {n : Nat} (hp : ∀ t, n ≤ t → t < 12 → P t = false) : ∀ (k j m : Nat), j + k = n → j + m = 12 → k ≤ m → (if sp_fi P j m = 12 then (-1 : Int32) else nI (sp_fi P j m)) = if sp_fi P j k = n then -1 else nI (sp_fi P j k)
  | 0, j, m, h1, h2, _ => by
    have h9 : sp_fi P j m = 12 := by
      obtain ⟨f1, f2, f3, -⟩ := sp_fi_le (P := P) m j
      rcases Nat.lt_or_ge (sp_fi P j m) 12 with q | q
      · have := f3 (by omega)
        rw [hp _ (by omega) q] at this
        cases this
      · omega
    rw [if_pos h9, sp_fi, if_pos (by omega)]
  | k + 1, j, m, h1, h2, h3 => by
    obtain ⟨q, rfl⟩ : ∃ q, m = q + 1 := ⟨m - 1, by omega⟩
    rw [sp_fi, sp_fi]
    by_cases c : P j = true
    · rw [if_pos c, if_pos c, if_neg (by omega), if_neg (by omega)]
    · rw [if_neg c, if_neg c]
      exact sp_fi_ext hp k (j + 1) q (by omega) (by omega) (by omega)
theorem in_0n {n : Nat} {x : Int32} (hn : n ≤ 24) (h : sp_in x 0 (nI n) = true) : ∃ k, k ≤ n ∧ x = nI k := by
  unfold sp_in at h
  have h := of_decide_eq_true h
  obtain ⟨j, h1, h2⟩ := nI_of (Int32.not_lt.mpr h.1)
  refine ⟨j, ?_, h2⟩
  rw [h2] at h
  exact (nI_leI h1 (by omega)).mp h.2
section CR5
variable {b n : Nat} {st : sn_S} {s nx : Nat → Int32}
theorem xv_le (hn : n ≤ 12) (i j : Nat) : ∃ k, k ≤ 2 * n ∧ sp_xv n s i j = nI k := by
  unfold sp_xv
  cases h : sp_xo n s i j with
  | true => rw [if_pos rfl]; unfold sp_xo at h; exact in_0n (by omega) h
  | false => exact ⟨0, by omega, rfl⟩
/-- NODE i is still as it was -/
def sp_fs (s nx : Nat → Int32) (i : Nat) : Prop := ∀ k, k = i ∨ k = 12 + i ∨ k = 24 + i ∨ k = 36 + i ∨ k = 48 + i ∨ (72 + 12 * i ≤ k ∧ k < 72 + 12 * i + 12) → nx k = s k
theorem k_doSane (hV : cr_V b n st s) (hn : n ≤ 12) (hO : cr_O b st nx) (hT : cr_T b st nx) {i : Nat} (hi : i < n) (hs : sp_fs s nx i) (hx : ∀ j, sp_lk n s i j = false → j < 12 → s (72 + 12 * i + j) = 0) : ∃ st' : sn_S, D_X2_doSane b (nI i) st = some st' ∧ cr_F b i st st' ∧ cr_V b n st' s ∧ cr_O b st' (sp_a0 n s nx i) ∧ cr_T b st' (sp_a0 n s nx i) := by
  have hF1 : cr_F b i st (sn_wr st (b + 33 + 1) 0 (st.1 (b + 33 + 1) 0 + 1)) := ⟨fun a _ _ h3 _ => wr_o _ _ _ h3, rfl⟩
  generalize hst1 : sn_wr st (b + 33 + 1) 0 (st.1 (b + 33 + 1) 0 + 1) = st1 at hF1
  have hF2 : cr_F b i st (sn_cp st1 (b + 4 + 14 + 1 + i) (b + 4 + 1 + 1 + i) 17) := ⟨fun a h1 h2 h3 h4 => (cp_o _ _ h1).trans (hF1.1 a h1 h2 h3 h4), hF1.2⟩
  unfold D_X2_doSane
  rw [sn_ix_nI (by omega : i < 12) (by decide), Option.bind_some, Option.bind_some, hst1]
  obtain ⟨-, -, v3, -, -⟩ := cr_F.V hV hn (by omega) hF1
  obtain ⟨r0, r1, r2, r3, r4, r5⟩ := v3 i (by omega)
  refine ⟨_, rfl, hF2, cr_F.V hV hn (by omega) hF2, cr_F.O hO (by omega) hF2 (fun k hk => a0_out hn hk) ?_, ?_⟩
  · unfold cr_Oi sp_a0 sp_cn
    refine ⟨?_, ?_, ?_, ?_, ?_, fun j hj => ?_⟩
    · rw [cp_at _ (by omega), r0, pk_un (by omega), sp_xl_out (fun j hj => by omega) n _ 0 (by omega), pk_un (by omega), pk_un (by omega), pk_us]
    · rw [cp_at _ (by omega), r1, pk_un (by omega), sp_xl_out (fun j hj => by omega) n _ 0 (by omega), pk_un (by omega), pk_us]
    · rw [cp_at _ (by omega), r2, pk_un (by omega), sp_xl_out (fun j hj => by omega) n _ 0 (by omega), pk_us]
    · rw [cp_at _ (by omega), r3, pk_un (by omega), sp_xl_out (fun j hj => by omega) n _ 0 (by omega), pk_un (by omega), pk_un (by omega), pk_un (by omega)]
      exact (hs _ (by omega)).symm
    · rw [cp_at _ (by omega), r4, pk_un (by omega), sp_xl_out (fun j hj => by omega) n _ 0 (by omega), pk_un (by omega), pk_un (by omega), pk_un (by omega)]
      exact (hs _ (by omega)).symm
    · rw [cp_at _ (by omega), r5 j hj, pk_un (by omega)]
      have hz : ∀ t, t < 12 → sp_lk n s i t = false → upd (upd (upd nx (12 + i) (sp_di n s i)) (24 + i) (sp_pr n s i)) (36 + i) (sp_ph s i) (72 + 12 * i + t) = sp_xv n s i t := fun t ht hl => by
        rw [pk_un (by omega), pk_un (by omega), pk_un (by omega), hs _ (by omega)]
        have h0 := hx t hl ht
        unfold sp_xv
        rw [h0]
        split <;> rfl
      symm
      by_cases l : j < n
      · have key : ∀ (m : Nat) (f : Nat → Int32) (c : Nat), c + m = n → (∀ t, t < 12 → sp_lk n s i t = false → f (72 + 12 * i + t) = sp_xv n s i t) → (j < c → f (72 + 12 * i + j) = sp_xv n s i j) → sp_xl n s i f c m (72 + 12 * i + j) = sp_xv n s i j := fun m => by
          induction m with
          | zero => intro f c hc _ h2; rw [sp_xl]; exact h2 (by omega)
          | succ m ih =>
            intro f c hc h1 h2
            rw [sp_xl]
            refine ih _ (c + 1) (by omega) (fun t ht hl => ?_) (fun hj2 => ?_)
            · by_cases q : sp_lk n s i c = true
              · rw [if_pos q, pk_un (fun z => by
                  have : t = c := by omega
                  rw [this, q] at hl; cases hl)]
                exact h1 t ht hl
              · rw [if_neg q]; exact h1 t ht hl
            · by_cases e : j = c
              · subst e
                by_cases q : sp_lk n s i j = true
                · rw [if_pos q, pk_us]
                · rw [if_neg q]; exact h1 j hj (by simpa using q)
              · by_cases q : sp_lk n s i c = true
                · rw [if_pos q, pk_un (by omega)]; exact h2 (by omega)
                · rw [if_neg q]; exact h2 (by omega)
        exact key n _ 0 (by omega) hz (fun h => by omega)
      · have hlk : sp_lk n s i j = false := by unfold sp_lk; rw [decide_eq_false l, Bool.false_and, Bool.and_false]
        rw [sp_xl_out (fun t ht => by omega) n _ 0 (by omega)]
        exact hz j hj hlk
  · obtain ⟨t0, t1, t2, t3, t4, t5⟩ := hT
    have hz : ∀ c, c = b + 33 ∨ c = b + 33 + 2 → (sn_cp st1 (b + 4 + 14 + 1 + i) (b + 4 + 1 + 1 + i) 17).1 c = st.1 c := fun c hc => by
      rw [cp_o _ _ (by omega), ← hst1, wr_o _ _ _ (by omega)]
    have hz2 : (sn_cp st1 (b + 4 + 14 + 1 + i) (b + 4 + 1 + 1 + i) 17).1 (b + 33 + 1) = upd (st.1 (b + 33 + 1)) 0 (st.1 (b + 33 + 1) 0 + 1) := by
      rw [cp_o _ _ (by omega), ← hst1, wr_s]
    have hk : ∀ k, 60 ≤ k → k < 72 ∨ 360 ≤ k → sp_xl n s i (upd (upd (upd nx (12 + i) (sp_di n s i)) (24 + i) (sp_pr n s i)) (36 + i) (sp_ph s i)) 0 n k = nx k := fun k h1 h2 => by
      rw [sp_xl_out (fun j hj => by omega) n _ 0 (by omega), pk_un (by omega), pk_un (by omega), pk_un (by omega)]
    unfold cr_T sp_a0 sp_cn
    rw [hz _ (Or.inl rfl), hz _ (Or.inr rfl), hz2]
    refine ⟨?_, ?_, ?_, ?_, fun r hr => ?_, fun j hj => ?_⟩
    · rw [pk_un (by omega), hk _ (by omega) (by omega)]; exact t0
    · rw [pk_un (by omega), hk _ (by omega) (by omega)]; exact t1
    · rw [pk_un (by omega), hk _ (by omega) (by omega)]; exact t2
    · rw [pk_un (by omega), hk _ (by omega) (by omega)]; exact t3
    · by_cases e : r = 0
      · subst e
        rw [pk_us, pk_us, hk _ (by omega) (by omega), t4 0 hr]
      · rw [pk_un e, pk_un (by omega), hk _ (by omega) (by omega)]; exact t4 r hr
    · rw [pk_un (by omega), hk _ (by omega) (by omega)]; exact t5 j hj
end CR5
