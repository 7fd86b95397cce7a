/-! THE MATHEMATICS: what the reference's array says, as functions of it -/
def bi (b : Bool) : Int32 := if b then 1 else 0
theorem bi0 (b : Bool) : (bi b = 0) = (b = false) := by cases b <;> simp [bi]
theorem bi1 (b : Bool) : (bi b = 1) = (b = true) := by cases b <;> simp [bi]
theorem bi01 (b : Bool) : bi b = 0 ∨ bi b = 1 := by cases b <;> simp [bi]
theorem bi_t : bi true = 1 := rfl
theorem bi_f : bi false = 0 := rfl
/-- an answer that is asked for at once -/
theorem pb_if {α : Type} (p : Bool) (A B : Option α) : ((some (bi p)).bind fun r => if r = (0 : Int32) then A else B) = if p then B else A := by cases p <;> rfl
theorem pb_ret (p : Bool) : ((some (bi p)).bind fun r => if r = (0 : Int32) ∨ r = (1 : Int32) then some r else none) = some (bi p) := by cases p <;> rfl
theorem pb_id {α : Type} (o : Option α) : (o.bind fun r => some r) = o := by cases o <;> rfl
/-- ranges, by recursion on their length -/
def sp_al (P : Nat → Bool) : Nat → Nat → Bool
  | _, 0 => true
  | j, k + 1 => P j && sp_al P (j + 1) k
def sp_fi (P : Nat → Bool) : Nat → Nat → Nat
  | j, 0 => j
  | j, k + 1 => if P j then j else sp_fi P (j + 1) k
def sp_la (P : Nat → Bool) : Int32 → Nat → Nat → Int32
  | d, _, 0 => d
  | d, j, k + 1 => sp_la P (if P j then nI j else d) (j + 1) k
def sp_ct (P : Nat → Bool) : Nat → Nat → Nat
  | _, 0 => 0
  | j, k + 1 => (if P j then 1 else 0) + sp_ct P (j + 1) k
/-- the place of the one of which c are ahead, counting c up from c0 -/
def sp_kt (P : Nat → Bool) (c : Int32) : Int32 → Nat → Nat → Int32
  | _, _, 0 => -1
  | c0, j, k + 1 => if P j then (if c0 = c then nI j else sp_kt P c (c0 + 1) (j + 1) k) else sp_kt P c c0 (j + 1) k
/-- a mask of k bits -/
def sp_mk (P : Nat → Bool) : Nat → Nat
  | 0 => 0
  | k + 1 => sp_mk P k + (if P k then 2 ^ k else 0)
theorem sp_al_iff {P : Nat → Bool} : ∀ (k j : Nat), sp_al P j k = true ↔ ∀ t, j ≤ t → t < j + k → P t = true
  | 0, j => by simp [sp_al]; intro t h1 h2; omega
  | k + 1, j => by
    rw [sp_al, Bool.and_eq_true, sp_al_iff k (j + 1)]
    constructor
    · rintro ⟨h0, h⟩ t h1 h2
      by_cases e : t = j
      · subst e; exact h0
      · exact h t (by omega) (by omega)
    · intro h
      exact ⟨h j (Nat.le_refl _) (by omega), fun t h1 h2 => h t (by omega) (by omega)⟩
theorem sp_al_congr {P Q : Nat → Bool} : ∀ (k j : Nat), (∀ t, j ≤ t → t < j + k → P t = Q t) → sp_al P j k = sp_al Q j k
  | 0, _, _ => rfl
  | k + 1, j, h => by rw [sp_al, sp_al, h j (Nat.le_refl _) (by omega), sp_al_congr k (j + 1) (fun t h1 h2 => h t (by omega) (by omega))]
theorem sp_fi_congr {P Q : Nat → Bool} : ∀ (k j : Nat), (∀ t, j ≤ t → t < j + k → P t = Q t) → sp_fi P j k = sp_fi Q j k
  | 0, _, _ => rfl
  | k + 1, j, h => by rw [sp_fi, sp_fi, h j (Nat.le_refl _) (by omega), sp_fi_congr k (j + 1) (fun t h1 h2 => h t (by omega) (by omega))]
theorem sp_la_congr {P Q : Nat → Bool} : ∀ (k : Nat) (d : Int32) (j : Nat), (∀ t, j ≤ t → t < j + k → P t = Q t) → sp_la P d j k = sp_la Q d j k
  | 0, _, _, _ => rfl
  | k + 1, d, j, h => by rw [sp_la, sp_la, h j (Nat.le_refl _) (by omega), sp_la_congr k _ (j + 1) (fun t h1 h2 => h t (by omega) (by omega))]
theorem sp_ct_congr {P Q : Nat → Bool} : ∀ (k j : Nat), (∀ t, j ≤ t → t < j + k → P t = Q t) → sp_ct P j k = sp_ct Q j k
  | 0, _, _ => rfl
  | k + 1, j, h => by rw [sp_ct, sp_ct, h j (Nat.le_refl _) (by omega), sp_ct_congr k (j + 1) (fun t h1 h2 => h t (by omega) (by omega))]
theorem sp_kt_congr {P Q : Nat → Bool} {c : Int32} : ∀ (k : Nat) (c0 : Int32) (j : Nat), (∀ t, j ≤ t → t < j + k → P t = Q t) → sp_kt P c c0 j k = sp_kt Q c c0 j k
  | 0, _, _, _ => rfl
  | k + 1, c0, j, h => by
    have e := fun c1 => sp_kt_congr (P := P) (Q := Q) (c := c) k c1 (j + 1) (fun t h1 h2 => h t (by omega) (by omega))
    rw [sp_kt, sp_kt, h j (Nat.le_refl _) (by omega), e, e]
theorem sp_mk_congr {P Q : Nat → Bool} : ∀ (k : Nat), (∀ t, t < k → P t = Q t) → sp_mk P k = sp_mk Q k
  | 0, _ => rfl
  | k + 1, h => by rw [sp_mk, sp_mk, h k (by omega), sp_mk_congr k (fun t h1 => h t (by omega))]
theorem sp_mk_lt {P : Nat → Bool} : ∀ (k : Nat), sp_mk P k < 2 ^ k
  | 0 => by simp [sp_mk]
  | k + 1 => by
    have := sp_mk_lt (P := P) k
    rw [sp_mk, Nat.pow_succ]
    split <;> omega
theorem sp_mk_bit {P : Nat → Bool} : ∀ (k j : Nat), (sp_mk P k).testBit j = (decide (j < k) && P j)
  | 0, j => by simp [sp_mk]
  | k + 1, j => by
    have h := sp_mk_lt (P := P) k
    have ih := sp_mk_bit (P := P) k j
    rw [sp_mk]
    by_cases hp : P k = true
    · rw [if_pos hp, Nat.add_comm]
      by_cases e : j = k
      · subst e
        rw [Nat.testBit_two_pow_add_eq, Nat.testBit_lt_two_pow h]
        simp [hp]
      · by_cases l : j < k
        · rw [Nat.testBit_two_pow_add_gt l, ih]
          simp [l, show j < k + 1 by omega]
        · have hlt : 2 ^ k + sp_mk P k < 2 ^ j := Nat.lt_of_lt_of_le (by rw [show 2 ^ (k + 1) = 2 ^ k + 2 ^ k by rw [Nat.pow_succ]; omega]; omega) (Nat.pow_le_pow_right (by decide) (show k + 1 ≤ j by omega))
          rw [Nat.testBit_lt_two_pow hlt]
          simp [show ¬ j < k + 1 by omega]
    · rw [if_neg hp, Nat.add_zero, ih]
      by_cases e : j = k
      · subst e; simp at hp; simp [hp]
      · by_cases l : j < k
        · simp [l, show j < k + 1 by omega]
        · simp [l, show ¬ j < k + 1 by omega]
theorem sp_mk_of {m : Nat} (h : m < 4096) : m = sp_mk (fun j => m.testBit j) 12 := by
  apply Nat.eq_of_testBit_eq
  intro j
  rw [sp_mk_bit]
  by_cases l : j < 12
  · simp [l]
  · rw [Nat.testBit_lt_two_pow (Nat.lt_of_lt_of_le h (show 2 ^ 12 ≤ 2 ^ j from Nat.pow_le_pow_right (by decide) (by omega)))]
    simp [l]
/-- the words of the reference: n NODES, its array -/
def sp_in (x lo hi : Int32) : Bool := decide (lo ≤ x ∧ x ≤ hi)
def sp_nd (n : Nat) (x : Int32) : Bool := decide (0 ≤ x ∧ x < nI n)
def sp_lk (n : Nat) (s : Nat → Int32) (i j : Nat) : Bool := decide (i < n) && (decide (j < n) && decide (s (216 + 12 * i + j) = 1))
def sp_lI (n : Nat) (s : Nat → Int32) (i : Nat) (x : Int32) : Bool := sp_nd n x && sp_lk n s i x.toNatClampNeg
def sp_okp (n : Nat) (s : Nat → Int32) (i : Nat) : Bool := decide (s (24 + i) = -1) || sp_lI n s i (s (24 + i))
def sp_pr (n : Nat) (s : Nat → Int32) (i : Nat) : Int32 := if sp_okp n s i then s (24 + i) else -1
def sp_di (n : Nat) (s : Nat → Int32) (i : Nat) : Int32 := if sp_in (s (12 + i)) 0 (nI n) then s (12 + i) else nI n
def sp_ph (s : Nat → Int32) (i : Nat) : Int32 := if sp_in (s (36 + i)) 0 2 then s (36 + i) else 0
def sp_xo (n : Nat) (s : Nat → Int32) (i j : Nat) : Bool := sp_in (s (72 + 12 * i + j)) 0 (nI (2 * n))
def sp_xv (n : Nat) (s : Nat → Int32) (i j : Nat) : Int32 := if sp_xo n s i j then s (72 + 12 * i + j) else 0
def sp_ch (n : Nat) (s : Nat → Int32) (i j : Nat) : Bool := sp_lk n s i j && decide (sp_pr n s j = nI i)
def sp_ti (n : Nat) (s : Nat → Int32) (i j : Nat) : Bool := sp_ch n s i j || decide (sp_pr n s i = nI j)
def sp_ta (n : Nat) (s : Nat → Int32) (i j : Nat) : Int32 := if sp_la (fun t => sp_ti n s i t && decide (t < j)) (-1) 0 n = -1 then sp_la (sp_ti n s i) (-1) 0 n else sp_la (fun t => sp_ti n s i t && decide (t < j)) (-1) 0 n
def sp_ft (n : Nat) (s : Nat → Int32) (i : Nat) : Nat := sp_fi (sp_ti n s i) 0 n
def sp_bo (n : Nat) (s : Nat → Int32) (i j : Nat) : Bool := decide (i = 0) && decide (j = sp_ft n s 0)
def sp_ri (n : Nat) (s : Nat → Int32) (i j : Nat) : Bool := (decide (sp_xv n s i j = sp_xv n s (sp_ta n s i j).toNatClampNeg i)) == sp_bo n s i j
def sp_sa (n : Nat) (s : Nat → Int32) (i : Nat) : Bool := sp_in (s (12 + i)) 0 (nI n) && (sp_okp n s i && (sp_in (s (36 + i)) 0 2 && sp_al (fun j => !sp_lk n s i j || sp_xo n s i j) 0 n))
def sp_be (n : Nat) (s : Nat → Int32) (i : Nat) : Int32 → Nat → Nat → Int32
  | b, _, 0 => b
  | b, j, k + 1 => sp_be n s i (if sp_lk n s i j && (decide (b = -1) || decide (sp_di n s j < sp_di n s b.toNatClampNeg)) then nI j else b) (j + 1) k
def sp_tp (n : Nat) (s : Nat → Int32) (i : Nat) : Int32 := if i = 0 then -1 else sp_be n s i (-1) 0 n
def sp_td (n : Nat) (s : Nat → Int32) (i : Nat) : Int32 := if i = 0 then 0 else if sp_di n s (sp_tp n s i).toNatClampNeg + 1 ≤ nI n then sp_di n s (sp_tp n s i).toNatClampNeg + 1 else nI n
def sp_ac (n : Nat) (s : Nat → Int32) (i : Nat) (p : Int32) : Bool := sp_al (fun j => !sp_ch n s i j || decide (sp_ph s j = p)) 0 n
def sp_ab (n : Nat) (s : Nat → Int32) (i : Nat) : Int32 := if sp_pr n s i = -1 then 0 else sp_ph s (sp_pr n s i).toNatClampNeg
/-- WAVE, of a NODE whose PHASE o is SANE -/
def sp_wp (n : Nat) (s : Nat → Int32) (i : Nat) (o : Int32) : Int32 :=
  if o = 0 then (if (decide (i = 0) || decide (sp_ab n s i = 1)) && sp_ac n s i 0 then 1 else 0)
  else if o = 1 then (if i = 0 then (if sp_ac n s i 2 then 0 else 1) else if sp_ab n s i = 1 then (if sp_ac n s i 2 then 2 else 1) else 0)
  else (if i = 0 then 0 else if sp_ab n s i = 0 then 0 else 2)
def sp_fr (n : Nat) (s : Nat → Int32) (i : Nat) : Int32 := if sp_fi (fun j => sp_ti n s i j && sp_ri n s i j) 0 n = n then -1 else nI (sp_fi (fun j => sp_ti n s i j && sp_ri n s i j) 0 n)
def sp_ru (n : Nat) (s : Nat → Int32) (i : Nat) : Int32 :=
  if sp_sa n s i then (if s (12 + i) = sp_td n s i then (if s (24 + i) = sp_tp n s i then (if sp_wp n s i (s (36 + i)) = s (36 + i) then (if sp_fr n s i = -1 then -1 else 3) else 2) else 1) else 1) else 0
def sp_eb (n : Nat) (s : Nat → Int32) (i : Nat) : Bool := !decide (sp_ru n s i = -1)
/-- all that is ENABLED, as a mask -/
def sp_em (n : Nat) (s : Nat → Int32) : Nat := sp_mk (fun i => decide (i < n) && sp_eb n s i) 12
