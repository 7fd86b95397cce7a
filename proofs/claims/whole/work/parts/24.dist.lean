/-! TRUE DISTANCES, as both find them -/
def sp_an (P : Nat → Bool) : Nat → Nat → Bool
  | _, 0 => false
  | j, k + 1 => P j || sp_an P (j + 1) k
theorem sp_an_iff {P : Nat → Bool} : ∀ (k j : Nat), sp_an P j k = true ↔ ∃ t, j ≤ t ∧ t < j + k ∧ P t = true
  | 0, j => by
    rw [sp_an]
    constructor
    · intro h; cases h
    · rintro ⟨t, h1, h2, -⟩; omega
  | k + 1, j => by
    rw [sp_an, Bool.or_eq_true, sp_an_iff k (j + 1)]
    constructor
    · rintro (h | ⟨t, h1, h2, h3⟩)
      · exact ⟨j, Nat.le_refl _, by omega, h⟩
      · exact ⟨t, by omega, by omega, h3⟩
    · rintro ⟨t, h1, h2, h3⟩
      by_cases e : t = j
      · subst e; exact Or.inl h3
      · exact Or.inr ⟨t, by omega, by omega, h3⟩
/-- DIST as found within d rounds -/
def sp_fa (n : Nat) (s : Nat → Int32) : Nat → Nat → Int32
  | 0, i => if i = 0 then 0 else -1
  | d + 1, i => if sp_fa n s d i = -1 ∧ sp_an (fun a => decide (sp_fa n s d a = nI d) && sp_lk n s a i) 0 n = true then nI (d + 1) else sp_fa n s d i
theorem sp_fa_or {n : Nat} {s : Nat → Int32} : ∀ (d i : Nat), sp_fa n s d i = -1 ∨ ∃ e, e ≤ d ∧ sp_fa n s d i = nI e
  | 0, i => by
    rw [sp_fa]
    by_cases h : i = 0
    · rw [if_pos h]; exact Or.inr ⟨0, Nat.le_refl _, rfl⟩
    · rw [if_neg h]; exact Or.inl rfl
  | d + 1, i => by
    rw [sp_fa]
    by_cases h : sp_fa n s d i = -1 ∧ sp_an (fun a => decide (sp_fa n s d a = nI d) && sp_lk n s a i) 0 n = true
    · rw [if_pos h]; exact Or.inr ⟨d + 1, Nat.le_refl _, rfl⟩
    · rw [if_neg h]
      rcases sp_fa_or (n := n) (s := s) d i with q | ⟨e, h1, h2⟩
      · exact Or.inl q
      · exact Or.inr ⟨e, by omega, h2⟩
theorem sp_fa_keep {n : Nat} {s : Nat → Int32} {d i : Nat} (h : sp_fa n s d i ≠ -1) : sp_fa n s (d + 1) i = sp_fa n s d i := by
  rw [sp_fa, if_neg (fun q => h q.1)]
theorem sp_fa_out {n : Nat} {s : Nat → Int32} (hn : 0 < n) : ∀ (d i : Nat), n ≤ i → sp_fa n s d i = -1
  | 0, i, h => by rw [sp_fa, if_neg (by omega)]
  | d + 1, i, h => by
    rw [sp_fa, if_neg, sp_fa_out hn d i h]
    rintro ⟨-, q⟩
    obtain ⟨t, -, -, h3⟩ := (sp_an_iff n 0).mp q
    have := (Bool.and_eq_true_iff.mp h3).2
    unfold sp_lk at this
    simp at this
    omega
theorem sp_ct_le {P : Nat → Bool} : ∀ (k j : Nat), sp_ct P j k ≤ k
  | 0, _ => Nat.le_refl _
  | k + 1, j => by
    have := sp_ct_le (P := P) k (j + 1)
    rw [sp_ct]
    split <;> omega
theorem sp_ct_lt {P : Nat → Bool} : ∀ (k j t : Nat), j ≤ t → t < j + k → P t = false → sp_ct P j k < k
  | 0, _, _, h1, h2, _ => by omega
  | k + 1, j, t, h1, h2, h3 => by
    rw [sp_ct]
    by_cases e : t = j
    · subst e
      rw [h3, if_neg (by decide)]
      have := sp_ct_le (P := P) k (t + 1)
      omega
    · have := sp_ct_lt (P := P) k (j + 1) t (by omega) (by omega) h3
      split <;> omega
theorem sp_ct_mono {P Q : Nat → Bool} (h : ∀ t, P t = true → Q t = true) : ∀ (k j : Nat), sp_ct P j k ≤ sp_ct Q j k
  | 0, _ => Nat.le_refl _
  | k + 1, j => by
    have ih := sp_ct_mono h k (j + 1)
    rw [sp_ct, sp_ct]
    by_cases e : P j = true
    · rw [if_pos e, if_pos (h j e)]; omega
    · rw [if_neg e]; omega
theorem sp_ct_more {P Q : Nat → Bool} (h : ∀ t, P t = true → Q t = true) : ∀ (k j t : Nat), j ≤ t → t < j + k → P t = false → Q t = true → sp_ct P j k + 1 ≤ sp_ct Q j k
  | 0, _, _, h1, h2, _, _ => by omega
  | k + 1, j, t, h1, h2, h3, h4 => by
    rw [sp_ct, sp_ct]
    by_cases e : t = j
    · subst e
      rw [h3, h4, if_neg (by decide), if_pos rfl]
      have := sp_ct_mono h k (t + 1)
      omega
    · have ih := sp_ct_more h k (j + 1) t (by omega) (by omega) h3 h4
      by_cases e : P j = true
      · rw [if_pos e, if_pos (h j e)]; omega
      · rw [if_neg e]; omega
theorem sp_fa_cnt {n : Nat} {s : Nat → Int32} (hn : 0 < n) (hn12 : n ≤ 12) : ∀ d, d ≤ n → (∃ a, a < n ∧ sp_fa n s d a = nI d) → d + 1 ≤ sp_ct (fun i => !decide (sp_fa n s d i = -1)) 0 n
  | 0, _, _ => by
    have := sp_ct_more (P := fun _ => false) (Q := fun i => !decide (sp_fa n s 0 i = -1)) (fun t h => by cases h) n 0 0 (by omega) (by omega) rfl (by rw [sp_fa]; decide)
    omega
  | d + 1, hd, ⟨a, ha, h⟩ => by
    rw [sp_fa] at h
    have hc : sp_fa n s d a = -1 ∧ sp_an (fun c => decide (sp_fa n s d c = nI d) && sp_lk n s c a) 0 n = true := by
      by_cases c : sp_fa n s d a = -1 ∧ sp_an (fun c => decide (sp_fa n s d c = nI d) && sp_lk n s c a) 0 n = true
      · exact c
      · rw [if_neg c] at h
        rcases sp_fa_or (n := n) (s := s) d a with q | ⟨e, h1, h2⟩
        · rw [q] at h; exact absurd h.symm (nI_m1 (by omega))
        · rw [h2] at h
          have := (nI_eq (by omega) (by omega)).mp h
          omega
    obtain ⟨t, -, ht, h3⟩ := (sp_an_iff n 0).mp hc.2
    have ih := sp_fa_cnt hn hn12 d (by omega) ⟨t, by omega, of_decide_eq_true (Bool.and_eq_true_iff.mp h3).1⟩
    have := sp_ct_more (P := fun i => !decide (sp_fa n s d i = -1)) (Q := fun i => !decide (sp_fa n s (d + 1) i = -1)) (fun i hi => by
      have : sp_fa n s d i ≠ -1 := by simpa using hi
      simp [sp_fa_keep this, this]) n 0 a (by omega) (by omega) (by simp [hc.1]) (by
      rw [sp_fa, if_pos hc, decide_eq_false (nI_m1 (by omega))]; rfl)
    omega
/-- the last round finds nothing new -/
theorem sp_fa_sat {n : Nat} {s : Nat → Int32} (hn : 0 < n) (hn12 : n ≤ 12) (i : Nat) : sp_fa n s n i = sp_fa n s (n - 1) i := by
  obtain ⟨m, rfl⟩ : ∃ m, n = m + 1 := ⟨n - 1, by omega⟩
  show sp_fa (m + 1) s (m + 1) i = sp_fa (m + 1) s m i
  rw [sp_fa]
  by_cases c : sp_fa (m + 1) s m i = -1 ∧ sp_an (fun a => decide (sp_fa (m + 1) s m a = nI m) && sp_lk (m + 1) s a i) 0 (m + 1) = true
  · obtain ⟨t, -, ht, h3⟩ := (sp_an_iff (m + 1) 0).mp c.2
    obtain ⟨q1, q2⟩ := Bool.and_eq_true_iff.mp h3
    have hi : i < m + 1 := by
      unfold sp_lk at q2
      simp at q2
      omega
    have h := sp_fa_cnt (s := s) hn hn12 m (by omega) ⟨t, by omega, of_decide_eq_true q1⟩
    have h2 := sp_ct_lt (P := fun i => !decide (sp_fa (m + 1) s m i = -1)) (m + 1) 0 i (by omega) (by omega) (by simp [c.1])
    omega
  · rw [if_neg c]
/-- a NEIGHBOUR of one that is reached is reached, at most one farther -/
theorem sp_fa_adj {n : Nat} {s : Nat → Int32} (hn : 0 < n) (hn12 : n ≤ 12) {i j e : Nat} (hi : i < n) (hl : sp_lk n s i j = true) (h : sp_fa n s n i = nI e) (he : e ≤ n) : ∃ f, f ≤ e + 1 ∧ sp_fa n s n j = nI f := by
  -- it was found in round e
  have hfound : ∀ d, sp_fa n s d i = nI e → e ≤ d → d ≤ n → sp_fa n s e i = nI e := fun d => by
    induction d with
    | zero => intro h1 h2 _; rw [show e = 0 by omega] at h1 ⊢; exact h1
    | succ d ih =>
      intro h1 h2 h3
      by_cases c : e = d + 1
      · rw [c] at h1 ⊢; exact h1
      · refine ih ?_ (by omega) (by omega)
        rw [sp_fa] at h1
        by_cases q : sp_fa n s d i = -1 ∧ sp_an (fun a => decide (sp_fa n s d a = nI d) && sp_lk n s a i) 0 n = true
        · rw [if_pos q] at h1
          have := (nI_eq (by omega) (by omega)).mp h1
          omega
        · rw [if_neg q] at h1; exact h1
  have h0 := hfound n h he (Nat.le_refl _)
  have hj1 : ∃ f, f ≤ e + 1 ∧ sp_fa n s (e + 1) j = nI f := by
    rw [sp_fa]
    by_cases q : sp_fa n s e j = -1
    · rw [if_pos ⟨q, (sp_an_iff n 0).mpr ⟨i, by omega, by omega, by rw [decide_eq_true h0, hl]; rfl⟩⟩]
      exact ⟨e + 1, Nat.le_refl _, rfl⟩
    · rw [if_neg (fun z => q z.1)]
      rcases sp_fa_or (n := n) (s := s) e j with z | ⟨f, h1, h2⟩
      · exact absurd z q
      · exact ⟨f, by omega, h2⟩
  obtain ⟨f, hf, hj⟩ := hj1
  refine ⟨f, hf, ?_⟩
  have up : ∀ k, sp_fa n s (e + 1 + k) j = nI f := fun k => by
    induction k with
    | zero => exact hj
    | succ k ih => exact (sp_fa_keep (d := e + 1 + k) (by rw [ih]; exact nI_m1 (by omega))).trans ih
  by_cases c : e + 1 ≤ n
  · have := up (n - (e + 1))
    rwa [show e + 1 + (n - (e + 1)) = n by omega] at this
  · have e1 : e = n := by omega
    have h9 := sp_fa_sat (s := s) hn hn12 i
    rw [h] at h9
    rcases sp_fa_or (n := n) (s := s) (n - 1) i with z | ⟨g, h1, h2⟩
    · rw [z] at h9; exact absurd h9 (nI_m1 (by omega))
    · rw [h2] at h9
      have := (nI_eq (by omega) (by omega)).mp h9
      omega
