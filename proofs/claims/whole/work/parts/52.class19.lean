/-! THE CLASS: act whole -/
theorem bt_bit (x : Int32) {j : Nat} (hj : j < 12) : bt x j = x.toBitVec.getLsbD j := by
  have hs : ∀ j, j < 12 → ((nI j &&& 31).toBitVec.smod 32).toNat = j := by decide +kernel
  have h1 : (x >>> (nI j &&& 31)).toBitVec = x.toBitVec.sshiftRight j := by
    rw [Int32.toBitVec_shiftRight, BitVec.sshiftRight', hs j hj]
  have h2 : ((x >>> (nI j &&& 31)) &&& (1 : Int32)).toBitVec = BitVec.setWidth 32 (BitVec.ofBool (x.toBitVec.getLsbD j)) := by
    rw [Int32.toBitVec_and, h1]
    show _ &&& 1#32 = _
    rw [BitVec.and_one_eq_setWidth_ofBool_getLsbD, BitVec.getLsbD_sshiftRight]
    simp [show j < 32 by omega]
  unfold bt
  cases hb : x.toBitVec.getLsbD j with
  | false =>
    rw [hb] at h2
    refine decide_eq_false (fun z => ?_)
    rw [z] at h2
    exact absurd h2 (by decide)
  | true =>
    rw [hb] at h2
    exact decide_eq_true (Int32.toBitVec_inj.1 (h2.trans (by decide)))
theorem and_mk (x : Int32) {E : Nat → Bool} : x &&& nI (sp_mk E 12) = nI (sp_mk (fun j => bt x j && E j) 12) := by
  apply Int32.toBitVec_inj.1
  rw [Int32.toBitVec_and]
  show x.toBitVec &&& BitVec.ofNat 32 (sp_mk E 12) = BitVec.ofNat 32 _
  apply BitVec.eq_of_getLsbD_eq
  intro i hi
  simp only [BitVec.getLsbD_and, BitVec.getLsbD_ofNat, hi, decide_true, Bool.true_and, sp_mk_bit]
  by_cases c : i < 12
  · rw [bt_bit x c]
    simp [c]
  · simp [c]
theorem sp_ct_0 {P : Nat → Bool} : ∀ (k j : Nat), sp_ct P j k = 0 ↔ ∀ t, j ≤ t → t < j + k → P t = false
  | 0, j => by
    rw [sp_ct]
    exact ⟨fun _ t h1 h2 => by omega, fun _ => rfl⟩
  | k + 1, j => by
    have ih := sp_ct_0 (P := P) k (j + 1)
    rw [sp_ct]
    constructor
    · intro h t h1 h2
      by_cases e : t = j
      · subst e
        cases hp : P t with
        | false => rfl
        | true => rw [hp, if_pos rfl] at h; omega
      · exact ih.mp (by omega) t (by omega) (by omega)
    · intro h
      rw [h j (Nat.le_refl _) (by omega), if_neg (by decide), ih.mpr (fun t h1 h2 => h t (by omega) (by omega))]
theorem sp_ct_ext {P : Nat → Bool} {n : Nat} (hp : ∀ t, n ≤ t → P t = false) : ∀ (k j m : Nat), j + k = n → k ≤ m → sp_ct P j m = sp_ct P j k
  | 0, j, m, h1, h2 => by
    rw [(sp_ct_0 m j).mpr (fun t a1 a2 => hp t (by omega)), sp_ct]
  | k + 1, j, m, h1, h2 => by
    obtain ⟨q, rfl⟩ : ∃ q, m = q + 1 := ⟨m - 1, by omega⟩
    rw [sp_ct, sp_ct, sp_ct_ext hp k (j + 1) q (by omega) (by omega)]
theorem mk_n {P : Nat → Bool} {n : Nat} (hn : n ≤ 12) : sp_mk (fun j => decide (j < n) && P j) 12 = sp_mk P n := by
  rw [sp_mk_ext (n := n) (P := fun j => decide (j < n) && P j) 12 hn (fun t h => by rw [decide_eq_false (by omega)]; rfl)]
  exact sp_mk_congr n (fun t h => by rw [decide_eq_true h]; rfl)
theorem ct_n {P : Nat → Bool} {n : Nat} (hn : n ≤ 12) : sp_ct (fun j => decide (j < n) && P j) 0 12 = sp_ct P 0 n := by
  rw [sp_ct_ext (n := n) (P := fun j => decide (j < n) && P j) (fun t h => by rw [decide_eq_false (by omega)]; rfl) n 0 12 (by omega) hn]
  exact sp_ct_congr n 0 (fun t _ h => by rw [decide_eq_true (by omega)]; rfl)
section CS2
variable {b n : Nat} {st : sn_S} {s : Nat → Int32}
theorem nf_out {P : Nat → Bool} (hn0 : 0 < n) (hn : n ≤ 12) {k : Nat} : ∀ (m : Nat) (nx : Nat → Int32) (j : Nat), (∀ i, j ≤ i → i < j + m → P i = true → ¬ sp_of i k) → sp_nf n s P nx j m k = nx k
  | 0, _, _, _ => rfl
  | m + 1, nx, j, h => by
    rw [sp_nf, nf_out hn0 hn m _ (j + 1) (fun i h1 h2 => h i (by omega) (by omega))]
    by_cases c : P j = true
    · rw [if_pos c]; exact na_out hn0 hn (h j (Nat.le_refl _) (by omega) c)
    · rw [if_neg c]
theorem xl_x {i t : Nat} (hl : sp_lk n s i t = false) : ∀ (m : Nat) (f : Nat → Int32) (c : Nat), sp_xl n s i f c m (72 + 12 * i + t) = f (72 + 12 * i + t)
  | 0, _, _ => rfl
  | m + 1, f, c => by
    rw [sp_xl, xl_x hl m _ (c + 1)]
    by_cases q : sp_lk n s i c = true
    · rw [if_pos q, pk_un (fun z => by
        have : t = c := by omega
        rw [this, q] at hl; cases hl)]
    · rw [if_neg q]
theorem a3_x {nx : Nat → Int32} (hn : n ≤ 12) {i j : Nat} (hi : i < 12) (hj : j < 12) (hl : sp_lk n s i j = false) (hf : ¬ sp_fr n s i = -1) : sp_a3 n s nx i (72 + 12 * i + j) = nx (72 + 12 * i + j) := by
  obtain ⟨q, hq, he, ht, -⟩ := sp_fr_ok hf
  have hlk : sp_lk n s i q = true := ti_lk hn hq ht
  have hne : q ≠ j := fun z => by rw [z, hl] at hlk; cases hlk
  unfold sp_a3 sp_cn
  rw [he, nI_clamp (by omega), pk_un (by omega), pk_un (by omega), pk_un (by omega)]
theorem a2_x {nx : Nat → Int32} {i k : Nat} (hi : i < 12) (hk : 72 ≤ k ∧ k < 216) : sp_a2 n s nx i k = nx k := by
  unfold sp_a2 sp_cn
  rw [pk_un (by omega)]
  split
  · split
    · rw [pk_un (by omega), pk_un (by omega), pk_un (by omega), pk_un (by omega)]
    · rw [pk_un (by omega), pk_un (by omega)]
  · rw [pk_un (by omega)]
theorem na_x {nx : Nat → Int32} (hn0 : 0 < n) (hn : n ≤ 12) {i j c : Nat} (hi : i < 12) (hj : j < 12) (hc : c < n) (hl : sp_lk n s i j = false) (hr : ¬ sp_ru n s c = -1) : sp_na n s nx c (72 + 12 * i + j) = nx (72 + 12 * i + j) := by
  by_cases e : c = i
  · subst e
    rcases sp_ru_or (n := n) (s := s) (i := c) with h | h | h | ⟨h, h2⟩ | ⟨h, h2⟩
    · exact absurd h hr
    · unfold sp_na
      rw [h, if_pos rfl]
      unfold sp_a0 sp_cn
      rw [pk_un (by omega), xl_x hl, pk_un (by omega), pk_un (by omega), pk_un (by omega)]
    · unfold sp_na
      rw [h, if_neg (by decide), if_pos rfl]
      unfold sp_a1 sp_cn
      rw [pk_un (by omega), pk_un (by omega), pk_un (by omega)]
    · unfold sp_na
      rw [h, if_neg (by decide), if_neg (by decide), if_pos rfl]
      by_cases d : sp_fr n s c = -1
      · rw [if_pos d, a2_x hi (by omega)]
      · rw [if_neg d, a3_x hn hi hj hl d, a2_x hi (by omega)]
    · unfold sp_na
      rw [h, if_neg (by decide), if_neg (by decide), if_neg (by decide), a3_x hn hi hj hl h2]
  · exact na_out hn0 hn (by unfold sp_of; omega)
theorem nf_x (hn0 : 0 < n) (hn : n ≤ 12) {P : Nat → Bool} (hP : ∀ t, t < n → P t = true → ¬ sp_ru n s t = -1) {i j : Nat} (hi : i < 12) (hj : j < 12) (hl : sp_lk n s i j = false) : ∀ (m : Nat) (nx : Nat → Int32) (c : Nat), c + m ≤ n → sp_nf n s P nx c m (72 + 12 * i + j) = nx (72 + 12 * i + j)
  | 0, _, _, _ => rfl
  | m + 1, nx, c, h => by
    rw [sp_nf, nf_x hn0 hn hP hi hj hl m _ (c + 1) (by omega)]
    by_cases q : P c = true
    · rw [if_pos q]; exact na_x hn0 hn hi hj (by omega) hl (hP c (by omega) q)
    · rw [if_neg q]
theorem k_endRound {p r w : Int32} (h8 : st.1 b 8 = p) (h7 : st.1 b 7 = r) : D_X0_endRound b w st = some (if (p &&& (w ^^^ (-1 : Int32))) &&& r = 0 then sn_wr (sn_wr (sn_wr st b 8 0) (b + 33) 1 (st.1 (b + 33) 1 + 1)) b 8 r else sn_wr st b 8 ((p &&& (w ^^^ (-1 : Int32))) &&& r)) := by
  unfold D_X0_endRound
  have e : p &&& (r &&& (w ^^^ (-1 : Int32))) = (p &&& (w ^^^ (-1 : Int32))) &&& r := by rw [Int32.and_comm r, Int32.and_assoc]
  rw [h8, h7, e, wr_at]
  by_cases c : (p &&& (w ^^^ (-1 : Int32))) &&& r = 0
  · rw [if_pos c, if_pos c, c, wr_o _ _ _ (show (b + 33 : Nat) ≠ b by omega), wr_o _ _ _ (show (b : Nat) ≠ b + 33 by omega), wr_ne _ _ _ (show (7 : Nat) ≠ 8 by omega), h7]
  · rw [if_neg c, if_neg c]
theorem k_act (hc : cw b n st s) (hi : ci n s) (hb1 : s 361 = 1) (x : Int32) : ∃ st' : sn_S, D_X0_act b x st = some (nI (sp_ct (sp_ax n s x) 0 n), st') ∧ cw b n st' (sp_sp n s x) ∧ cf b st st' := by
  obtain ⟨hV, hO, hT, hF, h3, h4, h5, h6, h7, h8⟩ := id hc
  obtain ⟨hn, h01, hL, hsym, hself, hX, -, hnb, hturn⟩ := id hi
  have hn12 := hn.2.2
  have hn0 : 0 < n := by have := hn.2.1; omega
  have hnb := hnb hb1
  have h7' : st.1 b 7 = nI (sp_mk (fun i => decide (i < n) && sp_eb n s i) 12) := by rw [h7]; unfold sp_pe sp_em; rw [if_pos hb1]
  unfold D_X0_act sp_sp
  rw [h7', and_mk]
  have hA : sp_mk (fun j => bt x j && (decide (j < n) && sp_eb n s j)) 12 = sp_mk (fun j => decide (j < n) && sp_ax n s x j) 12 := sp_mk_congr 12 (fun j _ => by unfold sp_ax; cases bt x j <;> cases decide (j < n) <;> rfl)
  rw [hA]
  have hz : (nI (sp_mk (fun j => decide (j < n) && sp_ax n s x j) 12) = 0) ↔ sp_ct (sp_ax n s x) 0 n = 0 := by
    rw [mk_0, sp_ct_0]
    constructor
    · intro h t _ ht
      have := h t (by omega)
      rw [decide_eq_true (by omega), Bool.true_and] at this
      exact this
    · intro h t ht
      by_cases c : t < n
      · rw [h t (by omega) (by omega), Bool.and_false]
      · rw [decide_eq_false c, Bool.false_and]
  by_cases c : sp_ct (sp_ax n s x) 0 n = 0
  · rw [if_pos (hz.mpr c), if_pos c, c]
    exact ⟨st, rfl, hc, cf.rf⟩
  · rw [if_neg (fun z => c (hz.mp z)), if_neg c]
    have hm := mk12 (P := fun j => decide (j < n) && sp_ax n s x j)
    have hbit : ∀ j, j < 12 → (sp_mk (fun j => decide (j < n) && sp_ax n s x j) 12).testBit j = (decide (j < n) && sp_ax n s x j) := fun j hj => mkb hj
    have hmn : sp_mk (sp_ax n s x) n = sp_mk (fun j => decide (j < n) && sp_ax n s x j) 12 := (mk_n hn12).symm
    have hcn : sp_ct (fun j => (sp_mk (fun j => decide (j < n) && sp_ax n s x j) 12).testBit j) 0 12 = sp_ct (sp_ax n s x) 0 n := by
      rw [← ct_n (P := sp_ax n s x) hn12]
      exact sp_ct_congr 12 0 (fun t _ h => hbit t (by omega))
    rw [hmn]
    generalize hme : sp_mk (fun j => decide (j < n) && sp_ax n s x j) 12 = m at hm hbit hcn ⊢
    obtain ⟨st1, g1, g2, g3, g4, g5, g6⟩ := k_act_L (b := b) hn0 hn12 hnb hX x hm (sp_ax n s x) (fun j hj => by rw [hbit j (by omega), decide_eq_true hj, Bool.true_and]) (fun j hj h z => by unfold sp_ax sp_eb at h; rw [decide_eq_true z] at h; simp at h) 4096 0 st s (by omega) (by omega) hV hO hT (fun j _ _ k _ => rfl)
    rw [Nat.sub_zero] at g3 g4
    have g1' : D_X0_act_L15 b x (nI m) 4096 0 st = _ := g1
    rw [g1', D_X0_act_L15.eq_2, g2.1, if_pos (nI_le (Nat.le_refl _) (by omega))]
    have hcut : sp_cut s (sp_nf n s (sp_ax n s x) s 0 n) = sp_nf n s (sp_ax n s x) s 0 n := by
      funext k
      unfold sp_cut
      by_cases l : k < 374
      · rw [if_pos l]
      · rw [if_neg l, sp_nf_out hn0 hn12 (by omega) n s 0 (by omega)]
    rw [hcut]
    have hout : ∀ k, (k < 12 ∨ (216 ≤ k ∧ k < 364) ∨ 370 ≤ k) → sp_nf n s (sp_ax n s x) s 0 n k = s k := fun k hk => sp_nf_out hn0 hn12 hk n s 0 (by omega)
    have hno : ∀ j, j < 12 → ¬ (j < n ∧ m.testBit j = true) → sp_lo s (sp_nf n s (sp_ax n s x) s 0 n) j ∧ sp_nf n s (sp_ax n s x) s 0 n (48 + j) = s (48 + j) ∧ sp_nf n s (sp_ax n s x) s 0 n j = s j := fun j hj hc => by
      have key : ∀ k, k = 12 + j ∨ k = 24 + j ∨ k = 36 + j ∨ k = 48 + j ∨ k = j ∨ (72 + 12 * j ≤ k ∧ k < 72 + 12 * j + 12) → sp_nf n s (sp_ax n s x) s 0 n k = s k := fun k hk => nf_out hn0 hn12 n s 0 (fun i h1 h2 h3 => by
        have hne : i ≠ j := fun z => hc ⟨by omega, by rw [hbit j hj, ← z, h3, decide_eq_true (by omega)]; rfl⟩
        unfold sp_of
        omega)
      exact ⟨⟨key _ (by omega), key _ (by omega), key _ (by omega), fun t ht => key _ (by omega)⟩, key _ (by omega), key _ (by omega)⟩
    have hX1 : ∀ i j, i < 12 → j < 12 → sp_lk n s i j = false → sp_nf n s (sp_ax n s x) s 0 n (72 + 12 * i + j) = 0 := fun i j hi hj hl => (nf_x hn0 hn12 (fun t _ h z => by unfold sp_ax sp_eb at h; rw [decide_eq_true z] at h; simp at h) hi hj hl n s 0 (by omega)).trans (hX i j hi hj hl)
    generalize hs1 : sp_nf n s (sp_ax n s x) s 0 n = s1 at g3 g4 hout hno hX1 ⊢
    have hsl : sp_sl s s1 := fun k h1 h2 => hout k (by omega)
    have hnb1 := hsl.nb hn12 hnb
    have hb2 : s1 361 = 1 := (hout 361 (by omega)).trans hb1
    obtain ⟨st2, k1, k2, k3, k4⟩ := k_readAgain g2 hn12 g3 hsl hself hsym hm hno
    rw [k1, Option.bind_some, k_around (b := b + 1) (s := s1) k2.1 k2.2.1 hn12 hm, Option.bind_some]
    have hO2 : cr_O b st2 s1 := fun i hi => by rw [k3 _ (by omega)]; exact g3 i hi
    have h72 : st2.1 b 7 = nI (sp_mk (fun i => decide (i < n) && sp_eb n s i) 12) := by rw [k3 _ (by omega), g5 _ (by omega)]; exact h7'
    obtain ⟨st3, m1, m2, m3⟩ := k_lookAgain hn12 hnb1 (fun i j h1 h2 h3 => hX1 i j h1 h2 (by rw [← hsl.lk hn12]; exact h3)) k2 hO2 (mk12 (P := fun j => m.testBit j || sp_an (fun a => m.testBit a && sp_lk n s1 a j) 0 n)) _ h72
    have h73 : st3.1 b 7 = nI (sp_em n s1) := by
      rw [m3]
      unfold sp_em
      refine congrArg nI (sp_mk_congr 12 (fun j hj => ?_))
      rw [mkb hj]
      by_cases cj : j < n
      · by_cases ca : (m.testBit j || sp_an (fun a => m.testBit a && sp_lk n s1 a j) 0 n) = true
        · rw [if_pos ⟨cj, ca⟩, decide_eq_true cj, Bool.true_and]
        · rw [if_neg (fun z => ca z.2), decide_eq_true cj, Bool.true_and, Bool.true_and]
          unfold sp_eb
          rw [lo_ru hn12 hsl cj (hnb j cj)]
          have ca1 : m.testBit j = false := by
            cases q : m.testBit j with
            | false => rfl
            | true => rw [q] at ca; exact absurd rfl ca
          refine ⟨(hno j hj (fun z => by rw [ca1] at z; cases z.2)).1, fun a ha hl => (hno a (by omega) (fun z => ?_)).1⟩
          refine ca (Bool.or_eq_true_iff.mpr (Or.inr ((sp_an_iff n 0).mpr ⟨a, by omega, by omega, ?_⟩)))
          rw [z.2, hsl.lk hn12, hsym, hl]
          rfl
      · rw [if_neg (fun z => cj z.1), decide_eq_false cj, Bool.false_and, Bool.false_and]
    rw [m1, Option.bind_some]
    have hpe : sp_pe n s1 = nI (sp_em n s1) := if_pos hb2
    have hb8 : (sn_wr st3 (b + 33) 0 (st3.1 (b + 33) 0 + 1)).1 b 8 = s1 373 := by
      rw [wr_o _ _ _ (by omega), m2.2.1 8 (by omega), k3 _ (by omega), g5 _ (by omega), h8, hout 373 (by omega)]
    have hb7 : (sn_wr st3 (b + 33) 0 (st3.1 (b + 33) 0 + 1)).1 b 7 = sp_pe n (upd s1 362 (s1 362 + 1)) := by
      rw [wr_o _ _ _ (by omega), h73, co_pe hn12 (fun _ => hnb1) (fun k hk => pk_un (by omega)), hpe]
    rw [k_endRound hb8 hb7, Option.bind_some, k_bitCount hm, hcn, Option.bind_some]
    -- the tallies of the state behind lookAgain
    have hcell : ∀ a, a ≠ b → (a < b + 19 ∨ b + 32 < a) → st3.1 a = st1.1 a := fun a h1 h2 => (m2.1 a h1).trans (k3 a h2)
    have hb3 : ∀ k, k ≠ 7 → st3.1 b k = st.1 b k := fun k hk => by rw [m2.2.1 k hk, k3 _ (by omega), g5 _ (by omega)]
    have hV3 : cr_V b n st3 s1 := k2.keep hn12 (fun a ha => m2.1 a (by omega))
    have hO3 : cr_O b st3 s1 := fun i hi => by rw [m2.1 _ (by omega)]; exact hO2 i hi
    have hT3 : cr_T b st3 s1 := by
      unfold cr_T at g4 ⊢
      rw [hcell (b + 33) (by omega) (by omega), hcell (b + 33 + 1) (by omega) (by omega), hcell (b + 33 + 2) (by omega) (by omega)]
      exact g4
    have hF3 : ∀ i, i < 12 → st3.1 (b + 1 + 2) i = sp_fa n s1 n i := fun i hi => by
      rw [hcell (b + 1 + 2) (by omega) (by omega), g5 _ (by omega), hF i hi, co_fa hn12 hsl]
    have hcf3 : cf b st st3 := ⟨fun a ha => by rw [hcell a (by omega) (by omega), g5 a (by omega)], by rw [m2.2.2, k4, g6]⟩
    have hcf4 := hcf3.wr (c := b + 33) (by omega) 0 (st3.1 (b + 33) 0 + 1)
    refine ⟨_, rfl, ?_, ?_⟩
    · unfold sp_ed
      show cw b n (if sp_pd n s1 (nI m) = 0 then _ else _) _
      -- what any array that differs from s1 beyond 361 alone keeps
      have gen : ∀ (st5 : sn_S) (s2 : Nat → Int32), (∀ k, k < 362 → s2 k = s1 k) → (∀ k, 364 ≤ k → k ≠ 373 → s2 k = s1 k) → (∀ a, a ≠ b → a ≠ b + 33 → st5.1 a = st3.1 a) → (∀ k, k ≠ 7 → k ≠ 8 → st5.1 b k = st3.1 b k) → (∀ k, 2 ≤ k → st5.1 (b + 33) k = st3.1 (b + 33) k) → st5.1 (b + 33) 0 = s2 362 → st5.1 (b + 33) 1 = s2 363 → st5.1 b 7 = sp_pe n s1 → st5.1 b 8 = s2 373 → cw b n st5 s2 := fun st5 s2 e1 e2 e3 e4 e5 e6 e7 e8 e9 => by
        have hsl2 : ∀ k, k < 361 → s2 k = s1 k := fun k hk => e1 k (by omega)
        have hVk := hV3.keep (st' := st5) hn12 (fun a ha => e3 a (by omega) (by omega))
        have hOk : cr_O b st5 s1 := fun i hi => by rw [e3 _ (by omega) (by omega)]; exact hO3 i hi
        refine ⟨hVk.co hn12 hsl2, hOk.co hsl2, ?_, fun i hi => ?_, ?_, ?_, ?_, ?_, ?_, e9⟩
        · obtain ⟨t0, t1, t2, t3, t4, t5⟩ := hT3
          refine ⟨e6, e7, by rw [e5 2 (by omega), e2 _ (by omega) (by omega)]; exact t2, by rw [e5 3 (by omega), e2 _ (by omega) (by omega)]; exact t3, fun r hr => by rw [e3 _ (by omega) (by omega), e2 _ (by omega) (by omega)]; exact t4 r hr, fun i hi => by rw [e3 _ (by omega) (by omega), e1 _ (by omega)]; exact t5 i hi⟩
        · rw [e3 _ (by omega) (by omega), hF3 i hi, co_fa hn12 (fun k _ h2 => e1 k (by omega))]
        · rw [e4 3 (by omega) (by omega), hb3 3 (by omega), h3, e1 361 (by omega), hout 361 (by omega)]
        · rw [e4 4 (by omega) (by omega), hb3 4 (by omega), h4, e2 370 (by omega) (by omega), hout 370 (by omega)]
        · rw [e4 5 (by omega) (by omega), hb3 5 (by omega), h5, e2 371 (by omega) (by omega), hout 371 (by omega)]
        · rw [e4 6 (by omega) (by omega), hb3 6 (by omega), h6, e2 372 (by omega) (by omega), hout 372 (by omega)]
        · rw [e8, co_pe hn12 (fun _ => hnb1) e1]
      by_cases cp : sp_pd n s1 (nI m) = 0
      · rw [if_pos cp, if_pos cp]
        have hnp : sp_pe n (upd (upd (upd s1 362 (s1 362 + 1)) 373 0) 363 (s1 363 + 1)) = sp_pe n s1 := co_pe hn12 (fun _ => hnb1) (fun k hk => by rw [pk_un (by omega), pk_un (by omega), pk_un (by omega)])
        have hnp2 : sp_pe n (upd s1 362 (s1 362 + 1)) = sp_pe n s1 := co_pe hn12 (fun _ => hnb1) (fun k hk => pk_un (by omega))
        rw [hnp, hnp2]
        refine gen _ _ (fun k hk => by rw [pk_un (by omega), pk_un (by omega), pk_un (by omega), pk_un (by omega)]) (fun k hk hk2 => by rw [pk_un (by omega), pk_un (by omega), pk_un (by omega), pk_un (by omega)]) (fun a ha hb => by rw [wr_o _ _ _ ha, wr_o _ _ _ hb, wr_o _ _ _ ha, wr_o _ _ _ hb]) (fun k hk hk2 => by rw [wr_ne _ _ _ hk2, wr_o _ _ _ (by omega), wr_ne _ _ _ hk2, wr_o _ _ _ (by omega)]) (fun k hk => by rw [wr_o _ _ _ (by omega), wr_ne _ _ _ (by omega), wr_o _ _ _ (by omega), wr_ne _ _ _ (by omega)]) ?_ ?_ ?_ ?_
        · rw [wr_o _ _ _ (by omega), wr_ne _ _ _ (by omega), wr_o _ _ _ (by omega), wr_at, hT3.1, pk_un (by omega), pk_un (by omega), pk_un (by omega), pk_us]
        · rw [wr_o _ _ _ (by omega), wr_at, wr_ne _ _ _ (by omega), hT3.2.1, pk_un (by omega), pk_us]
        · rw [wr_ne _ _ _ (by omega), wr_o _ _ _ (by omega), wr_ne _ _ _ (by omega), wr_o _ _ _ (by omega), h73, hpe]
        · rw [wr_at, pk_us]
      · rw [if_neg cp, if_neg cp]
        refine gen _ _ (fun k hk => by rw [pk_un (by omega), pk_un (by omega)]) (fun k hk hk2 => by rw [pk_un (by omega), pk_un (by omega)]) (fun a ha hb => by rw [wr_o _ _ _ ha, wr_o _ _ _ hb]) (fun k hk hk2 => by rw [wr_ne _ _ _ hk2, wr_o _ _ _ (by omega)]) (fun k hk => by rw [wr_o _ _ _ (by omega), wr_ne _ _ _ (by omega)]) ?_ ?_ ?_ ?_
        · rw [wr_o _ _ _ (by omega), wr_at, hT3.1, pk_un (by omega), pk_us]
        · rw [wr_o _ _ _ (by omega), wr_ne _ _ _ (by omega), hT3.2.1, pk_un (by omega), pk_un (by omega)]
        · rw [wr_ne _ _ _ (by omega), wr_o _ _ _ (by omega), h73, hpe]
        · rw [wr_at, pk_us]; rfl
    · split
      · exact ((hcf4.wr (by omega) _ _).wr (by omega) _ _).wr (by omega) _ _
      · exact hcf4.wr (by omega) _ _
end CS2
