/-! THE CLASS: the loop of act -/
section CRH
variable {b n : Nat} {s : Nat → Int32}
theorem k_act_L (hn0 : 0 < n) (hn : n ≤ 12) (hnb : sp_nb n s) (hx : ∀ i j, i < 12 → j < 12 → sp_lk n s i j = false → s (72 + 12 * i + j) = 0) (x : Int32) {m : Nat} (hm : m < 4096) (P : Nat → Bool) (hP : ∀ j, j < n → m.testBit j = P j) (hr : ∀ j, j < n → P j = true → ¬ sp_ru n s j = -1) : ∀ (f t : Nat) (st1 : sn_S) (nx : Nat → Int32), t ≤ n → n - t < f → cr_V b n st1 s → cr_O b st1 nx → cr_T b st1 nx → (∀ j, t ≤ j → j < 12 → sp_fs s nx j) → ∃ st2 : sn_S, D_X0_act_L15 b x (nI m) f (nI t) st1 = D_X0_act_L15 b x (nI m) 1 (nI n) st2 ∧ cr_V b n st2 s ∧ cr_O b st2 (sp_nf n s P nx t (n - t)) ∧ cr_T b st2 (sp_nf n s P nx t (n - t)) ∧ (∀ a, (a < b + 6 ∨ (b + 17 < a ∧ a < b + 33) ∨ b + 35 < a) → st2.1 a = st1.1 a) ∧ st2.2 = st1.2
  | 0, t, st1, nx, h1, h2, _, _, _, _ => by omega
  | f + 1, t, st1, nx, h1, h2, hV, hO, hT, hs => by
    by_cases e : t = n
    · subst e
      refine ⟨st1, ?_, hV, by rw [Nat.sub_self, sp_nf]; exact hO, by rw [Nat.sub_self, sp_nf]; exact hT, fun a _ => rfl, rfl⟩
      rw [D_X0_act_L15.eq_2, D_X0_act_L15.eq_2, hV.1, if_pos (nI_le (Nat.le_refl _) (by omega)), if_pos (nI_le (Nat.le_refl _) (by omega))]
    · have hlt : t < n := by omega
      rw [D_X0_act_L15.eq_2, hV.1, if_neg (nI_ge hlt (by omega)), k_has (by omega) (by omega), pb_if, nI_1, hP t hlt, show n - t = (n - (t + 1)) + 1 by omega, sp_nf]
      cases hb : P t with
      | false =>
        rw [if_neg (by decide)]
        exact k_act_L hn0 hn hnb hx x hm P hP hr f (t + 1) st1 nx (by omega) (by omega) hV hO hT (fun j h3 h4 => hs j (by omega) h4)
      | true =>
        obtain ⟨st2, g1, g2, g3, g4, g5⟩ := k_doRules hV hn0 hn hO hT hlt (hnb t hlt) (hs t (by omega) (by omega)) (fun j hj hl => hx t j (by omega) hj hl) (hr t hlt hb)
        rw [if_pos rfl, if_pos rfl, g1, Option.bind_some]
        obtain ⟨st3, k1, k2, k3, k4, k5, k6⟩ := k_act_L hn0 hn hnb hx x hm P hP hr f (t + 1) st2 _ (by omega) (by omega) g3 g4 g5 (fun j h3 h4 k hk => by
          rw [na_out hn0 hn (by unfold sp_of; omega)]
          exact hs j (by omega) h4 k hk)
        exact ⟨st3, k1, k2, k3, k4, fun a ha => (k5 a ha).trans (g2.1 a (by omega) (by omega) (by omega) (by omega)), k6.trans g2.2⟩
end CRH
