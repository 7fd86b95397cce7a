/-! THE CLASS: countsAs, readAgain -/
section CRD
variable {b n : Nat} {st : sn_S} {s : Nat → Int32}
/-- what a slot of NODE i counts as -/
def sp_cs (n : Nat) (s : Nat → Int32) (i k : Nat) (v : Int32) : Int32 :=
  if k = 0 then (if sp_in v 0 (nI n) then v else nI n) else if k = 1 then (if sp_lI n s i v then v else -1) else if k = 2 then (if sp_in v 0 2 then v else 0) else if k = 3 then v else if k = 4 then v else (if sp_in v 0 (nI (2 * n)) then v else 0)
theorem in_f {v lo hi : Int32} (h : v < lo) : sp_in v lo hi = false := decide_eq_false (fun z => absurd h (Int32.not_lt.mpr z.1))
theorem in_g {v lo hi : Int32} (h : hi < v) : sp_in v lo hi = false := decide_eq_false (fun z => absurd h (Int32.not_lt.mpr z.2))
theorem in_t {v lo hi : Int32} (h : ¬ v < lo) (h2 : ¬ hi < v) : sp_in v lo hi = true := decide_eq_true ⟨Int32.not_lt.mp h, Int32.not_lt.mp h2⟩
theorem k_countsAs (h0 : st.1 b 0 = nI n) (hl : ∀ i, i < 12 → st.1 (b + 1) i = nI (sp_mk (sp_lk n s i) 12)) (hn : n ≤ 12) {i k : Nat} (hi : i < n) (hk : k < 17) (v : Int32) : D_X3_countsAs b (nI i) (nI k) v st = some (sp_cs n s i k v) := by
  have hne : ∀ (c : Nat), c < 17 → k ≠ c → ¬ nI k = nI c := fun c hc h z => h ((nI_eq (by omega) (by omega)).mp z)
  have three : ∀ (hi2 : Int32) (d : Int32), (if v < 0 then some d else if hi2 < v then some d else some v) = some (if sp_in v 0 hi2 then v else d) := fun hi2 d => by
    by_cases c1 : v < 0
    · rw [if_pos c1, in_f c1]; rfl
    · rw [if_neg c1]
      by_cases c2 : hi2 < v
      · rw [if_pos c2, in_g c2]; rfl
      · rw [if_neg c2, in_t c1 c2]; rfl
  unfold D_X3_countsAs sp_cs
  by_cases k0 : k = 0
  · rw [if_pos (by rw [k0]; exact nI_0), if_pos k0, h0]
    exact three _ _
  · rw [if_neg (show ¬ nI k = (0 : Int32) from hne 0 (by omega) k0), if_neg k0]
    by_cases k1 : k = 1
    · rw [if_pos (by rw [k1]; rfl), if_pos k1, k_isNode h0 hn, pb_if, sn_ix_nI (by omega : i < 12) (by decide), Option.bind_some, hl i (by omega)]
      unfold sp_lI
      cases hv : sp_nd n v with
      | false => rfl
      | true =>
        obtain ⟨j, hj, rfl⟩ := sp_nd_of hn hv
        rw [if_pos rfl, k_hasM (by omega), pb_if, nI_clamp (by omega), Bool.true_and]
        cases sp_lk n s i j <;> rfl
    · rw [if_neg (show ¬ nI k = (1 : Int32) from hne 1 (by omega) k1), if_neg k1]
      by_cases k2 : k = 2
      · rw [if_pos (by rw [k2]; rfl), if_pos k2]
        exact three _ _
      · rw [if_neg (show ¬ nI k = (2 : Int32) from hne 2 (by omega) k2), if_neg k2]
        by_cases k3 : k = 3
        · rw [if_pos (by rw [k3]; rfl), if_pos k3]
        · rw [if_neg (show ¬ nI k = (3 : Int32) from hne 3 (by omega) k3), if_neg k3]
          by_cases k4 : k = 4
          · rw [if_pos (by rw [k4]; rfl), if_pos k4]
          · rw [if_neg (show ¬ nI k = (4 : Int32) from hne 4 (by omega) k4), if_neg k4]
            unfold D_X3_greatestX
            rw [h0, show (2 : Int32) = nI 2 from rfl, pk_mul, Option.bind_some]
            exact three _ _
end CRD
