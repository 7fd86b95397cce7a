/-! THE CLASS: WAVE is done -/
section CR7
variable {b n : Nat} {st : sn_S} {s nx : Nat → Int32}
theorem k_sumToBe_L (hV : cr_V b n st s) (hn : n ≤ 12) {i : Nat} (hi : i < n) : ∀ (f j : Nat) (a : Int32), j ≤ n → n - j < f → D_X2_sumToBe_L14 b (nI i) st f a (nI j) = some (sp_sc n s i a j (n - j))
  | 0, j, a, h1, h2 => by omega
  | f + 1, j, a, h1, h2 => by
    obtain ⟨v1, -, v3, v4, -⟩ := id hV
    rw [D_X2_sumToBe_L14.eq_2, v1]
    by_cases e : j = n
    · subst e
      rw [if_pos (nI_le (Nat.le_refl _) (by omega)), Nat.sub_self, sp_sc]
    · have hlt : j < n := by omega
      have ih := fun a => k_sumToBe_L hV hn hi f (j + 1) a (by omega) (by omega)
      rw [if_neg (nI_ge hlt (by omega)), sn_ix_nI (by omega : i < 12) (by decide), Option.bind_some, v4 i hi, k_hasM (by omega), pb_if, show n - j = (n - (j + 1)) + 1 by omega, sp_sc, nI_1]
      cases hl : sp_ch n s i j with
      | false => rw [if_neg (by decide), if_neg (by decide)]; exact ih a
      | true =>
        rw [if_pos rfl, if_pos rfl, sn_ix_nI (by omega : j < 12) (by decide), Option.bind_some, (v3 j (by omega)).2.2.2.1]
        exact ih _
theorem k_sumToBe (hV : cr_V b n st s) (hn : n ≤ 12) {i : Nat} (hi : i < n) : D_X2_sumToBe b (nI i) st = some (sp_su n s i) := by
  obtain ⟨-, -, v3, -, -⟩ := id hV
  unfold D_X2_sumToBe sp_su
  rw [sn_ix_nI (by omega : i < 12) (by decide), Option.bind_some, (v3 i (by omega)).2.2.2.2.1]
  exact k_sumToBe_L hV hn hi 4096 0 _ (by omega) (by omega)
/-- the state behind the first two writes -/
def w_s1 (b i : Nat) (st : sn_S) (w : Int32) : sn_S := sn_wr (sn_wr st (b + 33 + 1) 2 (st.1 (b + 33 + 1) 2 + 1)) (b + 4 + 1 + 1 + i) 2 w
theorem w_s1_F {i : Nat} (w : Int32) : cr_F b i st (w_s1 b i st w) := ⟨fun a h1 _ h3 _ => (wr_o _ _ _ h1).trans (wr_o _ _ _ h3), rfl⟩
theorem w_s1_O (hO : cr_O b st nx) {i : Nat} (hi : i < 12) (w : Int32) : cr_O b (w_s1 b i st w) (sp_cn (upd nx (36 + i) w) 2) := by
  have hrow : (w_s1 b i st w).1 (b + 4 + 1 + 1 + i) = upd (st.1 (b + 4 + 1 + 1 + i)) 2 w := by unfold w_s1; rw [wr_s, wr_o _ _ _ (by omega)]
  refine cr_F.O hO hi (w_s1_F w) (fun k hk => ?_) ?_
  · unfold sp_of at hk; unfold sp_cn; rw [pk_un (by omega), pk_un (by omega)]
  · obtain ⟨o0, o1, o2, o3, o4, o5⟩ := hO i hi
    unfold cr_Oi sp_cn
    rw [hrow]
    refine ⟨?_, ?_, ?_, ?_, ?_, fun j hj => ?_⟩
    · rw [pk_un (by omega), pk_un (by omega), pk_un (by omega)]; exact o0
    · rw [pk_un (by omega), pk_un (by omega), pk_un (by omega)]; exact o1
    · rw [pk_us, pk_un (by omega), pk_us]
    · rw [pk_un (by omega), pk_un (by omega), pk_un (by omega)]; exact o3
    · rw [pk_un (by omega), pk_un (by omega), pk_un (by omega)]; exact o4
    · rw [pk_un (by omega), pk_un (by omega), pk_un (by omega)]; exact o5 j hj
theorem w_s1_T (hT : cr_T b st nx) {i : Nat} (hi : i < 12) (w : Int32) : cr_T b (w_s1 b i st w) (sp_cn (upd nx (36 + i) w) 2) := by
  obtain ⟨t0, t1, t2, t3, t4, t5⟩ := hT
  have z0 : (w_s1 b i st w).1 (b + 33) = st.1 (b + 33) := by unfold w_s1; rw [wr_o _ _ _ (by omega), wr_o _ _ _ (by omega)]
  have z1 : (w_s1 b i st w).1 (b + 33 + 1) = upd (st.1 (b + 33 + 1)) 2 (st.1 (b + 33 + 1) 2 + 1) := by unfold w_s1; rw [wr_o _ _ _ (by omega), wr_s]
  have z2 : (w_s1 b i st w).1 (b + 33 + 2) = st.1 (b + 33 + 2) := by unfold w_s1; rw [wr_o _ _ _ (by omega), wr_o _ _ _ (by omega)]
  unfold cr_T sp_cn
  rw [z0, z1, z2]
  refine ⟨?_, ?_, ?_, ?_, fun r hr => ?_, fun t ht => ?_⟩
  · rw [pk_un (by omega), pk_un (by omega)]; exact t0
  · rw [pk_un (by omega), pk_un (by omega)]; exact t1
  · rw [pk_un (by omega), pk_un (by omega)]; exact t2
  · rw [pk_un (by omega), pk_un (by omega)]; exact t3
  · by_cases e : r = 2
    · subst e; rw [pk_us, pk_us, pk_un (by omega), t4 2 hr]
    · rw [pk_un e, pk_un (by omega), pk_un (by omega)]; exact t4 r hr
  · rw [pk_un (by omega), pk_un (by omega)]; exact t5 t ht
/-- then SUM -/
theorem w_s2_O {st1 : sn_S} {ny : Nat → Int32} (hO : cr_O b st1 ny) {i : Nat} (hi : i < 12) (v : Int32) : cr_O b (sn_wr st1 (b + 4 + 1 + 1 + i) 3 v) (upd ny (48 + i) v) := by
  have hF : cr_F b i st1 (sn_wr st1 (b + 4 + 1 + 1 + i) 3 v) := ⟨fun a h1 _ _ _ => wr_o _ _ _ h1, rfl⟩
  refine cr_F.O hO hi hF (fun k hk => ?_) ?_
  · unfold sp_of at hk; rw [pk_un (by omega)]
  · obtain ⟨o0, o1, o2, o3, o4, o5⟩ := hO i hi
    unfold cr_Oi
    rw [wr_s]
    refine ⟨?_, ?_, ?_, ?_, ?_, fun j hj => ?_⟩
    · rw [pk_un (by omega), pk_un (by omega)]; exact o0
    · rw [pk_un (by omega), pk_un (by omega)]; exact o1
    · rw [pk_un (by omega), pk_un (by omega)]; exact o2
    · rw [pk_us, pk_us]
    · rw [pk_un (by omega), pk_un (by omega)]; exact o4
    · rw [pk_un (by omega), pk_un (by omega)]; exact o5 j hj
theorem w_s2_T {st1 : sn_S} {ny : Nat → Int32} (hT : cr_T b st1 ny) {i : Nat} (hi : i < 12) (v : Int32) : cr_T b (sn_wr st1 (b + 4 + 1 + 1 + i) 3 v) (upd ny (48 + i) v) := by
  obtain ⟨t0, t1, t2, t3, t4, t5⟩ := hT
  unfold cr_T
  rw [wr_o _ _ _ (show (b + 33 : Nat) ≠ b + 4 + 1 + 1 + i by omega), wr_o _ _ _ (show (b + 33 + 1 : Nat) ≠ b + 4 + 1 + 1 + i by omega), wr_o _ _ _ (show (b + 33 + 2 : Nat) ≠ b + 4 + 1 + 1 + i by omega)]
  refine ⟨?_, ?_, ?_, ?_, fun r hr => ?_, fun t ht => ?_⟩
  · rw [pk_un (by omega)]; exact t0
  · rw [pk_un (by omega)]; exact t1
  · rw [pk_un (by omega)]; exact t2
  · rw [pk_un (by omega)]; exact t3
  · rw [pk_un (by omega)]; exact t4 r hr
  · rw [pk_un (by omega)]; exact t5 t ht
/-- then the WAVE is counted -/
theorem w_s3_O {st1 : sn_S} {ny : Nat → Int32} (hO : cr_O b st1 ny) (x y : Int32) : cr_O b (sn_wr (sn_wr st1 (b + 33) 2 x) (b + 33) 3 y) (upd (upd ny 368 x) 369 y) := fun i hi => by
  obtain ⟨o0, o1, o2, o3, o4, o5⟩ := hO i hi
  rw [wr_o _ _ _ (show (b + 4 + 1 + 1 + i : Nat) ≠ b + 33 by omega), wr_o _ _ _ (show (b + 4 + 1 + 1 + i : Nat) ≠ b + 33 by omega)]
  refine ⟨?_, ?_, ?_, ?_, ?_, fun j hj => ?_⟩
  · rw [pk_un (by omega), pk_un (by omega)]; exact o0
  · rw [pk_un (by omega), pk_un (by omega)]; exact o1
  · rw [pk_un (by omega), pk_un (by omega)]; exact o2
  · rw [pk_un (by omega), pk_un (by omega)]; exact o3
  · rw [pk_un (by omega), pk_un (by omega)]; exact o4
  · rw [pk_un (by omega), pk_un (by omega)]; exact o5 j hj
theorem w_s3_T {st1 : sn_S} {ny : Nat → Int32} (hT : cr_T b st1 ny) (x y : Int32) : cr_T b (sn_wr (sn_wr st1 (b + 33) 2 x) (b + 33) 3 y) (upd (upd ny 368 x) 369 y) := by
  obtain ⟨t0, t1, t2, t3, t4, t5⟩ := hT
  unfold cr_T
  rw [wr_s, wr_s, wr_o _ _ _ (show (b + 33 + 1 : Nat) ≠ b + 33 by omega), wr_o _ _ _ (show (b + 33 + 1 : Nat) ≠ b + 33 by omega), wr_o _ _ _ (show (b + 33 + 2 : Nat) ≠ b + 33 by omega), wr_o _ _ _ (show (b + 33 + 2 : Nat) ≠ b + 33 by omega)]
  refine ⟨?_, ?_, ?_, ?_, fun r hr => ?_, fun t ht => ?_⟩
  · rw [pk_un (by omega), pk_un (by omega), pk_un (by omega), pk_un (by omega)]; exact t0
  · rw [pk_un (by omega), pk_un (by omega), pk_un (by omega), pk_un (by omega)]; exact t1
  · rw [pk_un (by omega), pk_us, pk_un (by omega), pk_us]
  · rw [pk_us, pk_us]
  · rw [pk_un (by omega), pk_un (by omega)]; exact t4 r hr
  · rw [pk_un (by omega), pk_un (by omega)]; exact t5 t ht
end CR7
