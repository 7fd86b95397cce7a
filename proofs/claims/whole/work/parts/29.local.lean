/-! A NODE SEES ITS NEIGHBOURS ALONE -/
def sp_lo (s s' : Nat → Int32) (i : Nat) : Prop := s' (12 + i) = s (12 + i) ∧ s' (24 + i) = s (24 + i) ∧ s' (36 + i) = s (36 + i) ∧ ∀ j, j < 12 → s' (72 + 12 * i + j) = s (72 + 12 * i + j)
section SL
variable {n : Nat} {s s' : Nat → Int32}
theorem lo_okp (hn : n ≤ 12) (hl : sp_sl s s') {i : Nat} (h : sp_lo s s' i) : sp_okp n s' i = sp_okp n s i := by
  unfold sp_okp sp_lI
  rw [h.2.1, hl.lk hn]
theorem lo_pr (hn : n ≤ 12) (hl : sp_sl s s') {i : Nat} (h : sp_lo s s' i) : sp_pr n s' i = sp_pr n s i := by
  unfold sp_pr
  rw [lo_okp hn hl h, h.2.1]
theorem lo_di {i : Nat} (h : sp_lo s s' i) : sp_di n s' i = sp_di n s i := by
  unfold sp_di
  rw [h.1]
theorem lo_ph {i : Nat} (h : sp_lo s s' i) : sp_ph s' i = sp_ph s i := by
  unfold sp_ph
  rw [h.2.2.1]
theorem lo_xo {i j : Nat} (hj : j < 12) (h : sp_lo s s' i) : sp_xo n s' i j = sp_xo n s i j := by
  unfold sp_xo
  rw [h.2.2.2 j hj]
theorem lo_xv {i j : Nat} (hj : j < 12) (h : sp_lo s s' i) : sp_xv n s' i j = sp_xv n s i j := by
  unfold sp_xv
  rw [lo_xo hj h, h.2.2.2 j hj]
theorem lo_sa (hn : n ≤ 12) (hl : sp_sl s s') {i : Nat} (h : sp_lo s s' i) : sp_sa n s' i = sp_sa n s i := by
  unfold sp_sa
  rw [h.1, h.2.2.1, lo_okp hn hl h, sp_al_congr (P := fun j => !sp_lk n s' i j || sp_xo n s' i j) (Q := fun j => !sp_lk n s i j || sp_xo n s i j) n 0 (fun t h1 h2 => by rw [hl.lk hn, lo_xo (by omega) h])]
def sp_ln (n : Nat) (s s' : Nat → Int32) (i : Nat) : Prop := sp_lo s s' i ∧ ∀ j, j < n → sp_lk n s i j = true → sp_lo s s' j
theorem lo_ch (hn : n ≤ 12) (hl : sp_sl s s') {i : Nat} (h : sp_ln n s s' i) {j : Nat} (hj : j < n) : sp_ch n s' i j = sp_ch n s i j := by
  unfold sp_ch
  rw [hl.lk hn]
  cases e : sp_lk n s i j with
  | false => rw [Bool.false_and, Bool.false_and]
  | true => rw [lo_pr hn hl (h.2 j hj e)]
theorem lo_ti (hn : n ≤ 12) (hl : sp_sl s s') {i : Nat} (h : sp_ln n s s' i) {j : Nat} (hj : j < n) : sp_ti n s' i j = sp_ti n s i j := by
  unfold sp_ti
  rw [lo_ch hn hl h hj, lo_pr hn hl h.1]
theorem ti_lk (hn : n ≤ 12) {i j : Nat} (hj : j < n) (h : sp_ti n s i j = true) : sp_lk n s i j = true := by
  unfold sp_ti at h
  rcases Bool.or_eq_true_iff.mp h with q | q
  · unfold sp_ch at q; exact (Bool.and_eq_true_iff.mp q).1
  · have q := of_decide_eq_true q
    rcases sp_pr_ok (s := s) hn i with z | ⟨p, hp, he, hk⟩
    · rw [z] at q; exact absurd q.symm (nI_m1 (by omega))
    · rw [he] at q
      rw [← (nI_eq (by omega) (by omega)).mp q]
      exact hk
theorem lo_ta (hn : n ≤ 12) (hl : sp_sl s s') {i : Nat} (h : sp_ln n s s' i) (j : Nat) : sp_ta n s' i j = sp_ta n s i j := by
  unfold sp_ta
  rw [sp_la_congr (P := sp_ti n s' i) (Q := sp_ti n s i) n (-1) 0 (fun t h1 h2 => lo_ti hn hl h (by omega)), sp_la_congr (P := fun t => sp_ti n s' i t && decide (t < j)) (Q := fun t => sp_ti n s i t && decide (t < j)) n (-1) 0 (fun t h1 h2 => by rw [lo_ti hn hl h (by omega)])]
theorem lo_ft (hn : n ≤ 12) (hl : sp_sl s s') {i : Nat} (h : sp_ln n s s' i) : sp_ft n s' i = sp_ft n s i := by
  unfold sp_ft
  exact sp_fi_congr n 0 (fun t h1 h2 => lo_ti hn hl h (by omega))
theorem lo_bo (hn : n ≤ 12) (hl : sp_sl s s') {i : Nat} (h : sp_ln n s s' i) (j : Nat) : sp_bo n s' i j = sp_bo n s i j := by
  unfold sp_bo
  by_cases c : i = 0
  · subst c; rw [lo_ft hn hl h]
  · rw [decide_eq_false c, Bool.false_and, Bool.false_and]
theorem lo_xb (hn : n ≤ 12) (hl : sp_sl s s') {i : Nat} (hi : i < n) (h : sp_ln n s s' i) {j : Nat} (hj : j < n) (ht : sp_ti n s i j = true) : sp_xv n s' (sp_ta n s' i j).toNatClampNeg i = sp_xv n s (sp_ta n s i j).toNatClampNeg i := by
  rw [lo_ta hn hl h]
  obtain ⟨p, hp, he, hk⟩ := sp_ta_ok hj ht
  rw [he, nI_clamp (by omega)]
  exact lo_xv (by omega) (h.2 p hp (ti_lk hn hp hk))
theorem lo_ri (hn : n ≤ 12) (hl : sp_sl s s') {i : Nat} (hi : i < n) (h : sp_ln n s s' i) {j : Nat} (hj : j < n) : (sp_ti n s' i j && sp_ri n s' i j) = (sp_ti n s i j && sp_ri n s i j) := by
  rw [lo_ti hn hl h hj]
  cases ht : sp_ti n s i j with
  | false => rw [Bool.false_and, Bool.false_and]
  | true =>
    unfold sp_ri
    rw [lo_xb hn hl hi h hj ht, lo_xv (by omega) h.1, lo_bo hn hl h]
theorem lo_fr (hn : n ≤ 12) (hl : sp_sl s s') {i : Nat} (hi : i < n) (h : sp_ln n s s' i) : sp_fr n s' i = sp_fr n s i := by
  unfold sp_fr
  rw [sp_fi_congr (P := fun j => sp_ti n s' i j && sp_ri n s' i j) (Q := fun j => sp_ti n s i j && sp_ri n s i j) n 0 (fun t h1 h2 => lo_ri hn hl hi h (by omega))]
theorem lo_rc (hn : n ≤ 12) (hl : sp_sl s s') {i : Nat} (hi : i < n) (h : sp_ln n s s' i) : sp_rc n s' i = sp_rc n s i := by
  unfold sp_rc
  exact sp_ct_congr n 0 (fun t h1 h2 => lo_ri hn hl hi h (by omega))
theorem lo_be (hn : n ≤ 12) (hl : sp_sl s s') {i : Nat} (h : sp_ln n s s' i) : ∀ (k : Nat) (b : Int32) (j : Nat), j + k ≤ n → (b = -1 ∨ ∃ p, p < n ∧ b = nI p ∧ sp_lk n s i p = true) → sp_be n s' i b j k = sp_be n s i b j k
  | 0, _, _, _, _ => by rw [sp_be, sp_be]
  | k + 1, b, j, hj, hb => by
    have e : (sp_lk n s' i j && (decide (b = -1) || decide (sp_di n s' j < sp_di n s' b.toNatClampNeg))) = (sp_lk n s i j && (decide (b = -1) || decide (sp_di n s j < sp_di n s b.toNatClampNeg))) := by
      rw [hl.lk hn]
      cases hk : sp_lk n s i j with
      | false => rw [Bool.false_and, Bool.false_and]
      | true =>
        rcases hb with hb | ⟨p, hp, hb, hk2⟩
        · rw [decide_eq_true hb, Bool.true_or, Bool.true_or]
        · rw [lo_di (h.2 j (by omega) hk), hb, nI_clamp (by omega), lo_di (h.2 p hp hk2)]
    rw [sp_be, sp_be, e]
    refine lo_be hn hl h k _ (j + 1) (by omega) ?_
    by_cases c : (sp_lk n s i j && (decide (b = -1) || decide (sp_di n s j < sp_di n s b.toNatClampNeg))) = true
    · rw [if_pos c]; exact Or.inr ⟨j, by omega, rfl, (Bool.and_eq_true_iff.mp c).1⟩
    · rw [if_neg c]; exact hb
theorem lo_tp (hn : n ≤ 12) (hl : sp_sl s s') {i : Nat} (h : sp_ln n s s' i) : sp_tp n s' i = sp_tp n s i := by
  unfold sp_tp
  rw [lo_be hn hl h n (-1) 0 (by omega) (Or.inl rfl)]
theorem lo_td (hn : n ≤ 12) (hl : sp_sl s s') {i : Nat} (hnb : i ≠ 0 → ∃ j, j < n ∧ sp_lk n s i j = true) (h : sp_ln n s s' i) : sp_td n s' i = sp_td n s i := by
  unfold sp_td
  by_cases h0 : i = 0
  · rw [if_pos h0, if_pos h0]
  · rw [if_neg h0, if_neg h0, lo_tp hn hl h]
    obtain ⟨j, hj, hk⟩ := hnb h0
    obtain ⟨p, hp, hb, hk2⟩ := sp_be_ok (i := i) (s := s) hn n (-1) 0 (by omega) (Or.inl rfl) (Or.inr ⟨j, by omega, by omega, hk⟩)
    have e : sp_tp n s i = nI p := by unfold sp_tp; rw [if_neg h0, hb]
    rw [e, nI_clamp (by omega), lo_di (h.2 p hp hk2)]
theorem lo_ac (hn : n ≤ 12) (hl : sp_sl s s') {i : Nat} (h : sp_ln n s s' i) (p : Int32) : sp_ac n s' i p = sp_ac n s i p := by
  unfold sp_ac
  refine sp_al_congr n 0 (fun t h1 h2 => ?_)
  rw [lo_ch hn hl h (by omega)]
  cases e : sp_ch n s i t with
  | false => rw [Bool.not_false, Bool.true_or, Bool.true_or]
  | true =>
    unfold sp_ch at e
    rw [lo_ph (h.2 t (by omega) (Bool.and_eq_true_iff.mp e).1)]
theorem lo_ab (hn : n ≤ 12) (hl : sp_sl s s') {i : Nat} (h : sp_ln n s s' i) : sp_ab n s' i = sp_ab n s i := by
  unfold sp_ab
  rw [lo_pr hn hl h.1]
  rcases sp_pr_ok (s := s) hn i with z | ⟨p, hp, he, hk⟩
  · rw [if_pos z, if_pos z]
  · rw [he, nI_clamp (by omega), lo_ph (h.2 p hp hk)]
theorem lo_wp (hn : n ≤ 12) (hl : sp_sl s s') {i : Nat} (h : sp_ln n s s' i) (o : Int32) : sp_wp n s' i o = sp_wp n s i o := by
  unfold sp_wp
  rw [lo_ab hn hl h, lo_ac hn hl h, lo_ac hn hl h]
theorem lo_ru (hn : n ≤ 12) (hl : sp_sl s s') {i : Nat} (hi : i < n) (hnb : i ≠ 0 → ∃ j, j < n ∧ sp_lk n s i j = true) (h : sp_ln n s s' i) : sp_ru n s' i = sp_ru n s i := by
  unfold sp_ru
  rw [lo_sa hn hl h.1, h.1.1, lo_td hn hl hnb h, h.1.2.1, lo_tp hn hl h, h.1.2.2.1, lo_wp hn hl h, lo_fr hn hl hi h]
theorem lo_fa (hn : n ≤ 12) (hl : sp_sl s s') : ∀ (d i : Nat), sp_fa n s' d i = sp_fa n s d i
  | 0, _ => by rw [sp_fa, sp_fa]
  | d + 1, i => by
    rw [sp_fa, sp_fa, lo_fa hn hl d i]
    have e : (fun a => decide (sp_fa n s' d a = nI d) && sp_lk n s' a i) = (fun a => decide (sp_fa n s d a = nI d) && sp_lk n s a i) := by
      funext a
      rw [lo_fa hn hl d a, hl.lk hn]
    rw [e]
end SL
/-- AT REST -/
def sp_nr (n : Nat) (s : Nat → Int32) (i : Nat) : Int32 := if sp_fi (fun j => sp_lk n s i j && decide (sp_fa n s n j < sp_fa n s n i)) 0 n = n then -1 else nI (sp_fi (fun j => sp_lk n s i j && decide (sp_fa n s n j < sp_fa n s n i)) 0 n)
def sp_r1 (n : Nat) (s : Nat → Int32) (i : Nat) : Bool := sp_sa n s i && (decide (s (12 + i) = sp_fa n s n i) && decide (s (24 + i) = sp_nr n s i))
def sp_rs (n : Nat) (s : Nat → Int32) : Bool := decide (s 361 = 1) && (sp_al (sp_r1 n s) 0 n && decide (sp_rt n s = 1))
theorem sp_rs_congr {n : Nat} {s s' : Nat → Int32} (hn : n ≤ 12) (h : ∀ k, k < 362 → s' k = s k) : sp_rs n s' = sp_rs n s := by
  have hl : sp_sl s s' := fun k _ h2 => h k (by omega)
  have ho : ∀ i, i < 12 → sp_lo s s' i := fun i hi => ⟨h _ (by omega), h _ (by omega), h _ (by omega), fun j hj => h _ (by omega)⟩
  have hln : ∀ i, i < n → sp_ln n s s' i := fun i hi => ⟨ho i (by omega), fun j hj _ => ho j (by omega)⟩
  have hnr : ∀ i, sp_nr n s' i = sp_nr n s i := fun i => by
    unfold sp_nr
    rw [sp_fi_congr (P := fun j => sp_lk n s' i j && decide (sp_fa n s' n j < sp_fa n s' n i)) (Q := fun j => sp_lk n s i j && decide (sp_fa n s n j < sp_fa n s n i)) n 0 (fun t _ _ => by rw [hl.lk hn, lo_fa hn hl, lo_fa hn hl])]
  have hsn : ∀ (k j : Nat), j + k ≤ n → sp_sn (sp_rc n s') j k = sp_sn (sp_rc n s) j k := fun k => by
    induction k with
    | zero => intro j _; rw [sp_sn, sp_sn]
    | succ k ih => intro j hj; rw [sp_sn, sp_sn, lo_rc hn hl (by omega) (hln j (by omega)), ih (j + 1) (by omega)]
  unfold sp_rs sp_rt
  rw [h 361 (by omega), hsn n 0 (by omega), sp_al_congr (P := sp_r1 n s') (Q := sp_r1 n s) n 0 (fun t h1 h2 => by
    unfold sp_r1
    rw [lo_sa hn hl (ho t (by omega)), h (12 + t) (by omega), h (24 + t) (by omega), lo_fa hn hl, hnr])]
