/-! THE CLASS: its choices of NODES as bits -/
theorem t_bit {m j : Nat} (hm : m < 2 ^ 31) (hj : j < 31) : (((nI m) >>> (nI j &&& 31)) &&& (1 : Int32)) = nI (if m.testBit j then 1 else 0) := by
  have hs : ((nI j &&& 31).toBitVec.smod 32).toNat = j := by
    have : ∀ j, j < 32 → ((nI j &&& 31).toBitVec.smod 32).toNat = j := by decide +kernel
    exact this j (by omega)
  rw [pk_shrN hm (nI j &&& 31) j hs, show (1 : Int32) = nI 1 from rfl, nx_an]
  congr 1
  rw [Nat.and_one_is_mod, ← Nat.shiftRight_eq_div_pow]
  rw [Nat.testBit_eq_decide_div_mod_eq]
  rw [Nat.shiftRight_eq_div_pow]
  by_cases c : m / 2 ^ j % 2 = 1
  · simp [c]
  · have : m / 2 ^ j % 2 = 0 := by omega
    simp [this]
theorem bt_nI {m j : Nat} (hm : m < 2 ^ 31) (hj : j < 31) : bt (nI m) j = m.testBit j := by
  unfold bt
  rw [t_bit hm hj]
  cases m.testBit j <;> decide
theorem k_has {m j : Nat} (hm : m < 2 ^ 31) (hj : j < 31) : D_X5_has (nI m) (nI j) = some (bi (m.testBit j)) := by
  unfold D_X5_has
  rw [t_bit hm hj]
  cases m.testBit j <;> rfl
theorem k_below {j : Nat} (hj : j ≤ 12) : D_X5_below (nI j) = some (nI (2 ^ j - 1)) := by
  have : ∀ j, j < 13 → D_X5_below (nI j) = some (nI (2 ^ j - 1)) := by decide +kernel
  exact this j (by omega)
theorem k_greatest_L {m : Nat} (hm : m < 4096) : ∀ (f u : Nat), u ≤ 12 → u < f → m < 2 ^ u → D_X5_greatest_L3 (nI m) f (dn u) = some (sp_la (fun j => m.testBit j) (-1) 0 12)
  | 0, u, h1, h2, _ => by omega
  | f + 1, u, h1, h2, h3 => by
    rw [D_X5_greatest_L3.eq_2]
    by_cases e : u = 0
    · subst e
      rw [show dn 0 = -1 from rfl, if_pos (by decide)]
      have hm0 : m = 0 := by omega
      subst hm0
      rw [sp_la_none 12 (-1) 0 (fun t _ _ => by simp)]
    · obtain ⟨v, rfl⟩ : ∃ v, u = v + 1 := ⟨u - 1, by omega⟩
      have hp : ∀ v, v < 12 → (2 : Nat) ^ v < 4097 := by decide
      have hv := hp v (by omega)
      rw [dn_s, if_neg (nI_pos (by omega)), sh_1 v (by omega), dn_p]
      by_cases c : m < 2 ^ v
      · rw [if_pos (nI_lt c (by omega))]
        exact k_greatest_L hm f v (by omega) (by omega) c
      · rw [if_neg (nI_nlt (by omega) (by omega))]
        have ht : m.testBit v = true := by
          rw [Nat.testBit_eq_decide_div_mod_eq]
          have : m / 2 ^ v = 1 := by
            have h4 : 2 ^ (v + 1) = 2 * 2 ^ v := by rw [Nat.pow_succ]; omega
            apply Nat.div_eq_of_lt_le <;> omega
          rw [this]; rfl
        have split : ∀ (k d j), j + k = 12 → (∀ t, j ≤ t → t < j + k → v < t → m.testBit t = false) → j ≤ v → sp_la (fun j => m.testBit j) d j k = nI v := fun k => by
          induction k with
          | zero => intro d j h _ hj; omega
          | succ k ih =>
            intro d j h hf hj
            rw [sp_la]
            by_cases ej : j = v
            · subst ej
              rw [if_pos ht]
              exact sp_la_none k _ _ (fun t a1 a2 => hf t (by omega) (by omega) (by omega))
            · exact ih _ (j + 1) (by omega) (fun t a1 a2 a3 => hf t (by omega) (by omega) a3) (by omega)
        rw [split 12 (-1) 0 (by omega) (fun t a1 a2 a3 => Nat.testBit_lt_two_pow (Nat.lt_of_lt_of_le h3 (Nat.pow_le_pow_right (by decide) (by omega)))) (by omega)]
theorem k_greatest {m : Nat} (hm : m < 4096) : D_X5_greatest (nI m) = some (sp_la (fun j => m.testBit j) (-1) 0 12) := by
  unfold D_X5_greatest
  exact k_greatest_L hm 4096 12 (by omega) (by omega) hm
theorem k_pick_L {m : Nat} (hm : m < 4096) (k : Int32) : ∀ (f j : Nat) (c : Int32), j ≤ 12 → 12 - j < f → D_X5_pick_L4 (nI m) k f (k - c) (nI j) = some (sp_kt (fun j => m.testBit j) k c j (12 - j))
  | 0, j, c, h1, h2 => by omega
  | f + 1, j, c, h1, h2 => by
    rw [D_X5_pick_L4.eq_2]
    by_cases e : j = 12
    · subst e
      rw [if_pos (by decide), Nat.sub_self, sp_kt]
    · have hlt : j < 12 := by omega
      have ih := fun c => k_pick_L hm k f (j + 1) c (by omega) (by omega)
      rw [if_neg (by rw [show (12 : Int32) = nI 12 from rfl]; exact nI_ge hlt (by omega)), show 12 - j = (12 - (j + 1)) + 1 by omega, sp_kt, nI_1, k_has (by omega) (by omega), pb_if]
      cases hb : m.testBit j with
      | false => exact ih c
      | true =>
        rw [if_pos rfl, if_pos rfl]
        by_cases q : c = k
        · rw [if_pos (by rw [q]; exact Int32.sub_self k), if_pos q]
        · have q' : ¬ k - c = 0 := fun z => q (by rw [← Int32.sub_add_cancel k c, z, Int32.zero_add])
          rw [if_neg q', if_neg q, show k - c + (-1) = k - (c + 1) by rw [← Int32.sub_eq_add_neg, Int32.sub_sub]]
          exact ih (c + 1)
theorem k_pick {m : Nat} (hm : m < 4096) (k : Int32) : D_X5_pick (nI m) k = some (sp_kt (fun j => m.testBit j) k 0 0 12) := by
  unfold D_X5_pick
  have := k_pick_L hm k 4096 0 0 (by omega) (by omega)
  rw [Int32.sub_zero] at this
  exact this
