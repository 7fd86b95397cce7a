/-! THE CLASS: STEPS by a way -/
section CS3
variable {b n : Nat} {st : sn_S} {s s' : Nat → Int32}
theorem nf_P {P Q : Nat → Bool} : ∀ (m j : Nat) (nx : Nat → Int32), (∀ t, j ≤ t → t < j + m → P t = Q t) → sp_nf n s P nx j m = sp_nf n s Q nx j m
  | 0, _, _, _ => rfl
  | m + 1, j, nx, h => by rw [sp_nf, sp_nf, h j (Nat.le_refl _) (by omega), nf_P m (j + 1) _ (fun t h1 h2 => h t (by omega) (by omega))]
theorem sp_sp_ax {x y : Int32} (h : ∀ i, i < n → sp_ax n s x i = sp_ax n s y i) : sp_sp n s x = sp_sp n s y := by
  unfold sp_sp
  rw [sp_ct_congr (P := sp_ax n s x) (Q := sp_ax n s y) n 0 (fun t _ h2 => h t (by omega)), nf_P (P := sp_ax n s x) (Q := sp_ax n s y) n 0 s (fun t _ h2 => h t (by omega)), sp_mk_congr (P := sp_ax n s x) (Q := sp_ax n s y) n (fun t h2 => h t h2)]
theorem ci.next (hi : ci n s) (hb : s 361 = 1) (h : ∀ k, 216 ≤ k → k < 362 → s' k = s k) (hX : ∀ i j, i < 12 → j < 12 → sp_lk n s i j = false → s' (72 + 12 * i + j) = 0) (ht : ∃ t, t < n ∧ s' 372 = nI t) : ci n s' := by
  obtain ⟨hn, h01, hL, hsym, hself, -, -, hnb, -⟩ := hi
  have hn12 := hn.2.2
  have hsl : sp_sl s s' := fun k h1 h2 => h k h1 (by omega)
  have hb2 : s' 361 = 1 := (h 361 (by omega) (by omega)).trans hb
  refine ⟨hsl.n hn, Or.inr hb2, fun i j h1 h2 => ?_, fun i j => ?_, fun i => ?_, fun i j h1 h2 h3 => ?_, fun z => ?_, fun _ => hsl.nb hn12 (hnb hb), ht⟩
  · rw [h _ (by omega) (by omega), hL i j h1 h2, hsl.lk hn12]
  · rw [hsl.lk hn12, hsl.lk hn12]; exact hsym i j
  · rw [hsl.lk hn12]; exact hself i
  · rw [hsl.lk hn12] at h3; exact hX i j h1 h2 h3
  · rw [hb2] at z; cases z
theorem ci.sp (hi : ci n s) (hb : s 361 = 1) (x : Int32) : ci n (sp_sp n s x) := by
  obtain ⟨hn, -, -, -, -, hX, -, hnb, t, ht, ht2⟩ := id hi
  have hn12 := hn.2.2
  have hn0 : 0 < n := by have := hn.2.1; omega
  refine hi.next hb (fun k h1 h2 => sp_sp_eq hn0 hn12 (by omega)) (fun i j h1 h2 h3 => ?_) ⟨t, ht, (sp_sp_eq hn0 hn12 (by omega)).trans ht2⟩
  unfold sp_sp
  split
  · exact hX i j h1 h2 h3
  · rw [sp_ed_eq (by omega)]
    unfold sp_cut
    rw [if_pos (by omega), nf_x hn0 hn12 (fun t _ h z => by unfold sp_ax sp_eb at h; rw [decide_eq_true z] at h; simp at h) h1 h2 h3 n s 0 (by omega)]
    exact hX i j h1 h2 h3
theorem ci.b1 (hi : ci n s) (hb : s 361 = 1) (w : Int32) : ci n (sp_b1 n s w) := by
  obtain ⟨hn, -, -, -, -, hX, -, hnb, t, ht, ht2⟩ := id hi
  have hn12 := hn.2.2
  have hn2 := hn.2.1
  refine hi.next hb (fun k h1 h2 => sp_b1_eq (by omega) (by omega)) (fun i j h1 h2 h3 => ?_) ?_
  · rw [sp_b1_eq (by omega) (by omega)]; exact hX i j h1 h2 h3
  · unfold sp_b1
    split
    · exact ⟨t, ht, ht2⟩
    · split
      · exact ⟨t, ht, ht2⟩
      · split
        · exact ⟨t, ht, ht2⟩
        · split
          · rw [pk_us, ht2, nI_1]
            by_cases c : t + 1 = n
            · rw [if_pos (by rw [c])]; exact ⟨0, by omega, rfl⟩
            · rw [if_neg (fun z => c ((nI_eq (by omega) (by omega)).mp z))]; exact ⟨t + 1, by omega, rfl⟩
          · rw [pk_un (by omega)]; exact ⟨t, ht, ht2⟩
theorem ci.bs (hi : ci n s) (hb : s 361 = 1) (w : Int32) : ci n (sp_bs n s w) := (hi.b1 hb w).sp ((sp_b1_eq (by omega) (by omega)).trans hb) _
theorem cw.set (h : cw b n st s) (hi : ci n s) {k c : Nat} (hk : (k = 4 ∧ c = 370) ∨ (k = 5 ∧ c = 371) ∨ (k = 6 ∧ c = 372)) (v : Int32) : cw b n (sn_wr st b k v) (upd s c v) := by
  have hn12 := hi.1.2.2
  obtain ⟨hV, hO, hT, hF, h3, h4, h5, h6, h7, h8⟩ := h
  have hu : ∀ j, j < 370 → upd s c v j = s j := fun j hj => pk_un (by omega)
  have hO1 : cr_O b (sn_wr st b k v) s := fun i hi => by rw [wr_o _ _ _ (by omega)]; exact hO i hi
  refine ⟨(hV.keep (st' := sn_wr st b k v) hn12 (fun a ha => wr_o _ _ _ (by omega))).co hn12 (fun j hj => hu j (by omega)), hO1.co (fun j hj => hu j (by omega)), ?_, fun i hi => ?_, ?_, ?_, ?_, ?_, ?_, ?_⟩
  · obtain ⟨t0, t1, t2, t3, t4, t5⟩ := hT
    unfold cr_T
    rw [wr_o _ _ _ (show (b + 33 : Nat) ≠ b by omega), wr_o _ _ _ (show (b + 33 + 1 : Nat) ≠ b by omega), wr_o _ _ _ (show (b + 33 + 2 : Nat) ≠ b by omega), hu 362 (by omega), hu 363 (by omega), hu 368 (by omega), hu 369 (by omega)]
    exact ⟨t0, t1, t2, t3, fun r hr => by rw [hu _ (by omega)]; exact t4 r hr, fun i hi => by rw [hu _ (by omega)]; exact t5 i hi⟩
  · rw [wr_o _ _ _ (by omega), hF i hi, co_fa hn12 (fun j _ hj => hu j (by omega))]
  · rw [wr_ne _ _ _ (by omega), hu 361 (by omega)]; exact h3
  · rcases hk with ⟨rfl, rfl⟩ | ⟨rfl, rfl⟩ | ⟨rfl, rfl⟩
    · rw [wr_at, pk_us]
    · rw [wr_ne _ _ _ (by omega), pk_un (by omega)]; exact h4
    · rw [wr_ne _ _ _ (by omega), pk_un (by omega)]; exact h4
  · rcases hk with ⟨rfl, rfl⟩ | ⟨rfl, rfl⟩ | ⟨rfl, rfl⟩
    · rw [wr_ne _ _ _ (by omega), pk_un (by omega)]; exact h5
    · rw [wr_at, pk_us]
    · rw [wr_ne _ _ _ (by omega), pk_un (by omega)]; exact h5
  · rcases hk with ⟨rfl, rfl⟩ | ⟨rfl, rfl⟩ | ⟨rfl, rfl⟩
    · rw [wr_ne _ _ _ (by omega), pk_un (by omega)]; exact h6
    · rw [wr_ne _ _ _ (by omega), pk_un (by omega)]; exact h6
    · rw [wr_at, pk_us]
  · rw [wr_ne _ _ _ (by omega), h7, co_pe hn12 hi.2.2.2.2.2.2.2.1 (fun j hj => hu j (by omega))]
  · rw [wr_ne _ _ _ (by omega), pk_un (by omega)]; exact h8
/-- a NODE's bit, or none -/
def sp_gg (d : Int32) : Int32 := if d = -1 then 0 else (1 : Int32) <<< (d &&& 31)
theorem gr_la (m : Int32) : ∀ (k j : Nat) (d : Int32), j + k ≤ 12 → sp_gr m (sp_gg d) j k = sp_gg (sp_la (bt m) d j k)
  | 0, _, _, _ => by rw [sp_gr, sp_la]
  | k + 1, j, d, h => by
    rw [sp_gr, sp_la]
    by_cases c : bt m j = true
    · rw [if_pos c, if_pos c, ← gr_la m k (j + 1) (nI j) (by omega)]
      congr 1
      unfold sp_gg
      rw [if_neg (nI_m1 (by omega)), sh_1 j (by omega)]
    · rw [if_neg c, if_neg c]; exact gr_la m k (j + 1) d (by omega)
theorem bt_4095 : ∀ i, i < 12 → bt 4095 i = true := by decide +kernel
theorem bt_an4 (x : Int32) {i : Nat} (hi : i < 12) : bt (x &&& 4095) i = bt x i := by
  have e4 : (4095 : Int32) = nI (sp_mk (fun _ => true) 12) := by decide +kernel
  rw [e4, and_mk, bt_nI (by have := mk12 (P := fun j => bt x j && true); omega) (by omega), mkb hi, Bool.and_true]
theorem k_choose (hc : cw b n st s) (hi : ci n s) (hb1 : s 361 = 1) (w : Int32) : ∃ (x : Int32) (st' : sn_S), D_X0_choose b w st = some (x, st') ∧ cw b n st' (sp_b1 n s w) ∧ cf b st st' ∧ ∀ i, i < n → sp_ax n (sp_b1 n s w) x i = sp_ax n (sp_b1 n s w) (sp_bx n s w) i := by
  obtain ⟨hV, hO, hT, hF, h3, h4, h5, h6, h7, h8⟩ := id hc
  obtain ⟨hn, -, -, -, -, hX, -, hnb, t, ht, ht2⟩ := id hi
  have hn12 := hn.2.2
  have hpe : sp_pe n s = nI (sp_em n s) := if_pos hb1
  have hem : sp_em n s < 4096 := mk12
  have hbit : ∀ i, i < n → (sp_em n s).testBit i = sp_eb n s i := fun i h => by
    unfold sp_em
    rw [mkb (by omega), decide_eq_true h, Bool.true_and]
  unfold D_X0_choose sp_b1 sp_bx
  by_cases w0 : w = 0
  · rw [if_pos w0, if_pos w0, if_pos w0]
    refine ⟨_, _, rfl, hc, cf.rf, fun i h => ?_⟩
    unfold sp_ax
    rw [h7, hpe, bt_nI (by omega) (by omega), hbit i h, bt_4095 i (by omega)]
    cases sp_eb n s i <;> rfl
  · rw [if_neg w0, if_neg w0, if_neg w0]
    by_cases w1 : w = 1
    · rw [if_pos w1, if_pos w1, if_pos w1]
      refine ⟨_, _, rfl, hc, cf.rf, fun i h => ?_⟩
      rw [h7]
    · rw [if_neg w1, if_neg w1, if_neg w1]
      by_cases w2 : w = 2
      · rw [if_pos w2, if_pos w2, if_pos w2]
        have key : sp_gr (sp_pe n s) 0 0 12 = sp_gg (sp_la (fun j => (sp_em n s).testBit j) (-1) 0 12) := by
          have := gr_la (sp_pe n s) 12 0 (-1) (by omega)
          rw [show sp_gg (-1) = 0 from rfl] at this
          rw [this, sp_la_congr (P := bt (sp_pe n s)) (Q := fun j => (sp_em n s).testBit j) 12 (-1) 0 (fun t _ h2 => by rw [hpe, bt_nI (by omega) (by omega)])]
        rw [key, h7, hpe]
        by_cases z : nI (sp_em n s) = 0
        · rw [if_pos z]
          refine ⟨_, _, rfl, hc, cf.rf, fun i h => ?_⟩
          have z0 : sp_em n s = 0 := (nI_eq (b := 0) (by omega) (by omega)).mp z
          rw [z0, sp_la_none 12 (-1) 0 (fun t _ _ => Nat.zero_testBit t)]
          rfl
        · rw [if_neg z, k_greatest hem, Option.bind_some]
          refine ⟨_, _, rfl, hc, cf.rf, fun i h => ?_⟩
          have hne : ¬ sp_la (fun j => (sp_em n s).testBit j) (-1) 0 12 = -1 := fun q => by
            have hex : ∃ u, u < 12 ∧ (sp_em n s).testBit u = true := by
              refine Classical.byContradiction (fun hno => z ?_)
              rw [sp_mk_of hem, mk_0]
              intro u hu
              cases hq : (sp_em n s).testBit u with
              | false => rfl
              | true => exact absurd ⟨u, hu, hq⟩ hno
            obtain ⟨u, hu1, hu2⟩ := hex
            obtain ⟨v, -, hv2, -, hv4⟩ := sp_la_some (P := fun j => (sp_em n s).testBit j) 12 (-1) 0 u (by omega) (by omega) hu2
            rw [q] at hv4
            exact nI_m1 (by omega) hv4.symm
          unfold sp_gg
          rw [if_neg hne]
      · rw [if_neg w2, if_neg w2, if_neg w2]
        by_cases w3 : w = 3
        · rw [if_pos w3, if_pos w3, if_pos w3]
          unfold D_X0_takeTurn
          rw [hV.1, h6, ht2, nI_1]
          by_cases c : t + 1 = n
          · rw [if_pos (nI_le (by omega) (by omega)), Option.bind_some, if_pos (by rw [c])]
            exact ⟨_, _, rfl, hc.set hi (by omega) 0, cf.rf.wr (by omega) _ _, fun i h => rfl⟩
          · rw [if_neg (nI_ge (by omega) (by omega)), Option.bind_some, if_neg (fun z => c ((nI_eq (by omega) (by omega)).mp z))]
            exact ⟨_, _, rfl, hc.set hi (by omega) _, cf.rf.wr (by omega) _ _, fun i h => rfl⟩
        · rw [if_neg w3, if_neg w3, if_neg w3]
          unfold D_X0_rollDice
          rw [Option.bind_some, wr_at, h4]
          refine ⟨_, _, rfl, hc.set hi (by omega) _, cf.rf.wr (by omega) _ _, fun i h => ?_⟩
          unfold sp_ax
          rw [bt_an4 _ (by omega)]
theorem k_stepBy (hc : cw b n st s) (hi : ci n s) (hb1 : s 361 = 1) (w : Int32) : ∃ (x : Int32) (st1 st2 : sn_S), D_X0_choose b w st = some (x, st1) ∧ D_X0_act b x st1 = some (nI (sp_bc n s w), st2) ∧ cw b n st2 (sp_bs n s w) ∧ cf b st st2 := by
  obtain ⟨x, st1, g1, g2, g3, g4⟩ := k_choose hc hi hb1 w
  have hb2 : sp_b1 n s w 361 = 1 := (sp_b1_eq (by omega) (by omega)).trans hb1
  obtain ⟨st2, k1, k2, k3⟩ := k_act g2 (hi.b1 hb1 w) hb2 x
  refine ⟨x, st1, st2, g1, ?_, ?_, g3.trans k3⟩
  · rw [k1]
    unfold sp_bc
    rw [sp_ct_congr (P := sp_ax n (sp_b1 n s w) x) (Q := sp_ax n (sp_b1 n s w) (sp_bx n s w)) n 0 (fun t _ h2 => g4 t (by omega))]
  · unfold sp_bs
    rw [← sp_sp_ax g4]
    exact k2
theorem k_run_L (w : Int32) {q : Nat} (hq : q < 2 ^ 30) : ∀ (f k : Nat) (a : Int32) (st : sn_S) (s : Nat → Int32), k ≤ q → q - k < f → cw (b + 1) n st s → ci n s → s 361 = 1 → ∃ st2 : sn_S, D_X5_run_L39 b w (nI q) f a (nI k) st = some ((sp_rn n w (q - k) a s).1, st2) ∧ cw (b + 1) n st2 (sp_rn n w (q - k) a s).2 ∧ ci n (sp_rn n w (q - k) a s).2 ∧ cf (b + 1) st st2
  | 0, k, a, st, s, h1, h2, _, _, _ => by omega
  | f + 1, k, a, st, s, h1, h2, hc, hi, hb1 => by
    rw [D_X5_run_L39.eq_2]
    by_cases e : k = q
    · subst e
      rw [if_pos (nI_le (Nat.le_refl _) (by omega)), Nat.sub_self, sp_rn]
      exact ⟨st, rfl, hc, hi, cf.rf⟩
    · have hlt : k < q := by omega
      obtain ⟨x, st1, st2, g1, g2, g3, g4⟩ := k_stepBy hc hi hb1 w
      rw [if_neg (nI_ge hlt (by omega)), g1, Option.bind_some, g2, Option.bind_some, nI_1, show q - k = (q - (k + 1)) + 1 by omega, sp_rn]
      have hn12 := hi.1.2.2
      obtain ⟨st3, k1, k2, k3, k4⟩ := k_run_L w hq f (k + 1) (a + nI (sp_bc n s w)) st2 (sp_bs n s w) (by omega) (by omega) g3 (hi.bs hb1 w) ((sp_bs_bu (by have := hi.1.2.1; omega) hn12).trans hb1)
      exact ⟨st3, k1, k2, k3, g4.trans k4⟩
end CS3
