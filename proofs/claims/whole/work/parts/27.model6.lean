/-! THE REFERENCE: a STEP -/
def bt (x : Int32) (i : Nat) : Bool := decide (((x >>> (nI i &&& 31)) &&& (1 : Int32)) = 1)
def sp_nf (n : Nat) (s : Nat → Int32) (P : Nat → Bool) : (Nat → Int32) → Nat → Nat → (Nat → Int32)
  | nx, _, 0 => nx
  | nx, j, k + 1 => sp_nf n s P (if P j then sp_na n s nx j else nx) (j + 1) k
theorem sp_xl_out {n : Nat} {s : Nat → Int32} {i k : Nat} (hk : ∀ j, j < n → k ≠ 72 + 12 * i + j) : ∀ (m : Nat) (nx : Nat → Int32) (j : Nat), j + m ≤ n → sp_xl n s i nx j m k = nx k
  | 0, _, _, _ => rfl
  | m + 1, nx, j, h => by
    rw [sp_xl, sp_xl_out hk m _ (j + 1) (by omega)]
    split
    · exact pk_un (hk j (by omega))
    · rfl
theorem sp_fr_lt {n : Nat} {s : Nat → Int32} {i : Nat} (hn : 0 < n) (hn12 : n ≤ 12) : (sp_fr n s i).toNatClampNeg < n := by
  by_cases c : sp_fr n s i = -1
  · rw [c]; exact hn
  · obtain ⟨j, hj, he, -⟩ := sp_fr_ok c
    rw [he, nI_clamp (by omega)]
    exact hj
theorem sp_na_out {n : Nat} {s nx : Nat → Int32} {i k : Nat} (hn : 0 < n) (hn12 : n ≤ 12) (hi : i < 12) (hk : k < 12 ∨ (216 ≤ k ∧ k < 364) ∨ 370 ≤ k) : sp_na n s nx i k = nx k := by
  have h3 : ∀ nx, sp_a3 n s nx i k = nx k := fun nx => by
    have := sp_fr_lt (s := s) (i := i) hn hn12
    unfold sp_a3 sp_cn
    rw [pk_un (by omega), pk_un (by omega), pk_un (by omega)]
  have h2 : ∀ nx, sp_a2 n s nx i k = nx k := fun nx => by
    unfold sp_a2 sp_cn
    rw [pk_un (by omega)]
    split
    · split
      · rw [pk_un (by omega), pk_un (by omega), pk_un (by omega), pk_un (by omega)]
      · rw [pk_un (by omega), pk_un (by omega)]
    · rw [pk_un (by omega)]
  unfold sp_na
  split
  · unfold sp_a0 sp_cn
    rw [pk_un (by omega), sp_xl_out (fun j hj => by omega) n _ 0 (by omega), pk_un (by omega), pk_un (by omega), pk_un (by omega)]
  · split
    · unfold sp_a1 sp_cn
      rw [pk_un (by omega), pk_un (by omega), pk_un (by omega)]
    · split
      · split
        · exact h2 nx
        · rw [h3, h2]
      · exact h3 nx
theorem sp_nf_out {n : Nat} {s : Nat → Int32} {P : Nat → Bool} {k : Nat} (hn : 0 < n) (hn12 : n ≤ 12) (hk : k < 12 ∨ (216 ≤ k ∧ k < 364) ∨ 370 ≤ k) : ∀ (m : Nat) (nx : Nat → Int32) (j : Nat), j + m ≤ 12 → sp_nf n s P nx j m k = nx k
  | 0, _, _, _ => rfl
  | m + 1, nx, j, h => by
    rw [sp_nf, sp_nf_out hn hn12 hk m _ (j + 1) (by omega)]
    split
    · exact sp_na_out hn hn12 (by omega) hk
    · rfl
/-- LINKS and n are the same -/
def sp_sl (s s' : Nat → Int32) : Prop := ∀ k, 216 ≤ k → k < 361 → s' k = s k
theorem sp_sl.lk {n : Nat} {s s' : Nat → Int32} (h : sp_sl s s') (hn12 : n ≤ 12) (i j : Nat) : sp_lk n s' i j = sp_lk n s i j := by
  unfold sp_lk
  by_cases h1 : i < n
  · by_cases h2 : j < n
    · rw [h (216 + 12 * i + j) (by omega) (by omega)]
    · rw [decide_eq_false h2, Bool.false_and, Bool.false_and]
  · rw [decide_eq_false h1, Bool.false_and, Bool.false_and]
theorem sp_sl.n {n : Nat} {s s' : Nat → Int32} (h : sp_sl s s') (hn : sm_n n s) : sm_n n s' := ⟨(h 360 (by omega) (by omega)).trans hn.1, hn.2⟩
theorem sp_sl.nb {n : Nat} {s s' : Nat → Int32} (h : sp_sl s s') (hn12 : n ≤ 12) (hb : sp_nb n s) : sp_nb n s' := fun i hi h0 => by
  obtain ⟨j, h1, h2⟩ := hb i hi h0
  exact ⟨j, h1, (h.lk hn12 i j).trans h2⟩
theorem sp_sl.trans {s s' s'' : Nat → Int32} (h : sp_sl s s') (h2 : sp_sl s' s'') : sp_sl s s'' := fun k a b => (h2 k a b).trans (h k a b)
theorem sp_sl.upd {s s' : Nat → Int32} (h : sp_sl s s') {k : Nat} (hk : k < 216 ∨ 361 ≤ k) (v : Int32) : sp_sl s (upd s' k v) := fun j a b => by rw [pk_un (by omega)]; exact h j a b
theorem sp_sl.rf {s : Nat → Int32} : sp_sl s s := fun _ _ _ => rfl
/-- behind the acts: counts, the ROUND -/
def sp_pd (n : Nat) (s1 : Nat → Int32) (w : Int32) : Int32 := (s1 373 &&& (w ^^^ (-1 : Int32))) &&& sp_pe n (upd s1 362 (s1 362 + 1))
def sp_ed (n : Nat) (s1 : Nat → Int32) (w : Int32) : Nat → Int32 :=
  if sp_pd n s1 w = 0 then
    upd (upd (upd (upd s1 362 (s1 362 + 1)) 373 0) 363 (s1 363 + 1)) 373 (sp_pe n (upd (upd (upd s1 362 (s1 362 + 1)) 373 0) 363 (s1 363 + 1)))
  else upd (upd s1 362 (s1 362 + 1)) 373 (sp_pd n s1 w)
def sp_cut (s nx : Nat → Int32) : Nat → Int32 := fun k => if k < 374 then nx k else s k
/-- the NODES that ACT in a STEP of x -/
def sp_ax (n : Nat) (s : Nat → Int32) (x : Int32) (i : Nat) : Bool := bt x i && sp_eb n s i
def sp_sp (n : Nat) (s : Nat → Int32) (x : Int32) : Nat → Int32 :=
  if sp_ct (sp_ax n s x) 0 n = 0 then s else sp_ed n (sp_cut s (sp_nf n s (sp_ax n s x) s 0 n)) (nI (sp_mk (sp_ax n s x) n))
/-- all but the reference's array, its scratch rows -/
def st_b2 (b : Nat) (st st' : sn_S) : Prop := (∀ a, a ≠ b + 1 → a ≠ b + 3 → a ≠ b + 4 → st'.1 a = st.1 a) ∧ st'.2 = st.2
theorem st_b2.rf {b : Nat} {st : sn_S} : st_b2 b st st := ⟨fun _ _ _ _ => rfl, rfl⟩
theorem st_b2.trans {b : Nat} {st st' st'' : sn_S} (h : st_b2 b st st') (h2 : st_b2 b st' st'') : st_b2 b st st'' := ⟨fun a x y z => (h2.1 a x y z).trans (h.1 a x y z), h2.2.trans h.2⟩
theorem st_b2.of3 {b : Nat} {st st' : sn_S} (h : st_but (b + 3) st st') : st_b2 b st st' := ⟨fun a _ y _ => h.1 a y, h.2⟩
theorem st_b2.of4 {b : Nat} {st st' : sn_S} (h : st_but (b + 4) st st') : st_b2 b st st' := ⟨fun a _ _ z => h.1 a z, h.2⟩
theorem st_b2.of1 {b : Nat} {st st' : sn_S} (h : st_but (b + 1) st st') : st_b2 b st st' := ⟨fun a x _ _ => h.1 a x, h.2⟩
section SM6
variable {b n : Nat} {st : sn_S} {s nx : Nat → Int32}
theorem m_doStep_L108 (hn : sm_n n s) (hb1 : s 361 = 1) (hnb : sp_nb n s) (x c w : Int32) (hcut : sp_sl s nx ∧ nx 361 = s 361) : ∀ (f j : Nat) (st1 : sn_S), j ≤ 374 → 374 - j < f → st1.1 (b + 3) = nx → (st1.1 (b + 1) = fun k => if k < j then nx k else s k) → ∃ st2, D_X6_doStep_L108 b x c w f (nI j) st1 = some (c, st2) ∧ st_but (b + 1) st1 st2 ∧ st2.1 (b + 1) = sp_ed n (sp_cut s nx) w
  | 0, j, st1, h1, h2, _, _ => by omega
  | f + 1, j, st1, h1, h2, hx, hs => by
    have hn12 := hn.2.2
    rw [D_X6_doStep_L108.eq_2]
    by_cases e : j = 374
    · subst e
      have hs : st1.1 (b + 1) = sp_cut s nx := hs
      have hsl : sp_sl s (sp_cut s nx) := fun k a b => by unfold sp_cut; rw [if_pos (by omega)]; exact hcut.1 k a b
      have h361 : sp_cut s nx 361 = 1 := by unfold sp_cut; rw [if_pos (by omega), hcut.2]; exact hb1
      generalize hs1e : sp_cut s nx = s1 at hs hsl h361 ⊢
      have sl2 := hsl.upd (k := 362) (by omega) (s1 362 + 1)
      rw [if_pos (by decide), hs]
      rw [m_enabledAll (s := upd s1 362 (s1 362 + 1)) (by rw [wr_s, hs]) (sl2.n hn) (fun _ => sl2.nb hn12 hnb), Option.bind_some, wr_s, hs, pk_un (show 373 ≠ 362 by omega)]
      unfold sp_ed
      have hpd : (s1 373 &&& (w ^^^ (-1 : Int32))) &&& sp_pe n (upd s1 362 (s1 362 + 1)) = sp_pd n s1 w := rfl
      rw [hpd]
      by_cases c0 : sp_pd n s1 w = 0
      · rw [if_pos c0, if_pos c0, c0, wr_s, wr_s, hs, pk_un (show 363 ≠ 373 by omega), pk_un (show 363 ≠ 362 by omega)]
        have sl4 := (sl2.upd (k := 373) (by omega) 0).upd (k := 363) (by omega) (s1 363 + 1)
        have hs4 : (sn_wr (sn_wr (sn_wr st1 (b + 1) 362 (s1 362 + 1)) (b + 1) 373 0) (b + 1) 363 (s1 363 + 1)).1 (b + 1) = upd (upd (upd s1 362 (s1 362 + 1)) 373 0) 363 (s1 363 + 1) := by rw [wr_s, wr_s, wr_s, hs]
        rw [m_beginRound hs4 (sl4.n hn) (fun _ => sl4.nb hn12 hnb), Option.bind_some]
        exact ⟨_, rfl, (((st_but.rf.wr _ _).wr _ _).wr _ _).wr _ _, by rw [wr_s, hs4]⟩
      · rw [if_neg c0, if_neg c0]
        exact ⟨_, rfl, (st_but.rf.wr _ _).wr _ _, by rw [wr_s, wr_s, hs]⟩
    · have hlt : j < 374 := by omega
      rw [if_neg (by rw [show (374 : Int32) = nI 374 from rfl]; exact nI_ge hlt (by omega)), sn_ix_nI hlt (by decide), Option.bind_some, Option.bind_some, nI_1]
      obtain ⟨st2, g1, g2, g3⟩ := m_doStep_L108 hn hb1 hnb x c w hcut f (j + 1) (sn_wr st1 (b + 1) j (st1.1 (b + 3) j)) (by omega) (by omega) (by rw [wr_o _ _ _ (by omega)]; exact hx) (by
        rw [wr_s, hs, hx]
        funext k
        unfold upd
        by_cases ek : k = j
        · rw [if_pos ek, if_pos (by omega), ek]
        · rw [if_neg ek]
          show (if k < j then nx k else s k) = _
          by_cases l : k < j
          · rw [if_pos l, if_pos (by omega)]
          · rw [if_neg l, if_neg (by omega)])
      exact ⟨st2, g1, ⟨fun a ha => (g2.1 a ha).trans (wr_o _ _ _ ha), g2.2⟩, g3⟩
theorem m_doStep_L34 (hs : st.1 (b + 1) = s) (hn : sm_n n s) (hb1 : s 361 = 1) (hnb : sp_nb n s) (x : Int32) : ∀ (f j cc : Nat) (st1 : sn_S) (nx : Nat → Int32), j ≤ n → n - j < f → cc ≤ j → st_but (b + 3) st st1 → st1.1 (b + 3) = nx → ∃ st2 : sn_S, st_but (b + 3) st st2 ∧ st2.1 (b + 3) = sp_nf n s (sp_ax n s x) nx j (n - j) ∧ D_X6_doStep_L34 b x f (nI cc) (nI (sp_mk (sp_ax n s x) j)) (nI j) st1 = (if cc + sp_ct (sp_ax n s x) j (n - j) = 0 then some (0, st2) else D_X6_doStep_L108 b x (nI (cc + sp_ct (sp_ax n s x) j (n - j))) (nI (sp_mk (sp_ax n s x) n)) 4096 0 st2)
  | 0, j, cc, st1, nx, h1, h2, _, _, _ => by omega
  | f + 1, j, cc, st1, nx, h1, h2, h3, hB, hx => by
    have hn12 := hn.2.2
    have hs1 : st1.1 (b + 1) = s := (hB.1 (b + 1) (by omega)).trans hs
    rw [D_X6_doStep_L34.eq_2, hs1, hn.1]
    by_cases e : j = n
    · subst e
      rw [if_pos (nI_le (Nat.le_refl _) (by omega)), Nat.sub_self, sp_nf, sp_ct]
      simp only [Nat.add_zero]
      refine ⟨st1, hB, hx, ?_⟩
      by_cases c : cc = 0
      · rw [if_pos c, if_pos (by rw [c]; exact nI_0)]
      · rw [if_neg c, if_neg (nI_ne0 (by omega) (by omega))]
    · have hlt : j < n := by omega
      have ih := fun cc st1 nx => m_doStep_L34 hs hn hb1 hnb x f (j + 1) cc st1 nx (by omega) (by omega)
      rw [sp_mk] at ih
      rw [if_neg (nI_ge hlt (by omega)), show n - j = (n - (j + 1)) + 1 by omega, sp_nf, sp_ct, nI_1, nI_1, if_pos (rfl : (-1 : Int32) = -1), sh_1 j (by omega), nx_or, or_add (sp_mk_lt j), m_ruleOf hs1 hn hnb hlt, Option.bind_some]
      have skip : sp_ax n s x j = false → ∃ st2 : sn_S, st_but (b + 3) st st2 ∧ st2.1 (b + 3) = sp_nf n s (sp_ax n s x) (if sp_ax n s x j = true then sp_na n s nx j else nx) (j + 1) (n - (j + 1)) ∧ D_X6_doStep_L34 b x f (nI cc) (nI (sp_mk (sp_ax n s x) j)) (nI (j + 1)) st1 = (if cc + ((if sp_ax n s x j = true then 1 else 0) + sp_ct (sp_ax n s x) (j + 1) (n - (j + 1))) = 0 then some (0, st2) else D_X6_doStep_L108 b x (nI (cc + ((if sp_ax n s x j = true then 1 else 0) + sp_ct (sp_ax n s x) (j + 1) (n - (j + 1))))) (nI (sp_mk (sp_ax n s x) n)) 4096 0 st2) := fun hf => by
        have := ih cc st1 nx (by omega) hB hx
        rw [hf, if_neg (by decide), Nat.add_zero] at this
        rw [hf, if_neg (by decide), if_neg (by decide), Nat.zero_add]
        exact this
      by_cases cb : (x >>> (nI j &&& 31)) &&& (1 : Int32) = 1
      · rw [if_pos cb]
        by_cases cr : sp_ru n s j = -1
        · rw [if_pos cr]
          exact skip (by unfold sp_ax sp_eb; rw [decide_eq_true cr]; simp)
        · rw [if_neg cr]
          have ht : sp_ax n s x j = true := by unfold sp_ax sp_eb bt; rw [decide_eq_true cb, decide_eq_false cr]; rfl
          obtain ⟨st2, g1, g2, g3⟩ := m_acts hs1 hx hn hnb hlt cr
          rw [g1, Option.bind_some]
          have := ih (cc + 1) st2 _ (by omega) ⟨fun a ha => (g2.1 a ha).trans (hB.1 a ha), g2.2.trans hB.2⟩ g3
          rw [ht, if_pos rfl] at this
          rw [ht, if_pos rfl, if_pos rfl, show cc + (1 + sp_ct (sp_ax n s x) (j + 1) (n - (j + 1))) = cc + 1 + sp_ct (sp_ax n s x) (j + 1) (n - (j + 1)) by omega]
          exact this
      · rw [if_neg cb]
        exact skip (by unfold sp_ax bt; rw [decide_eq_false cb]; rfl)
theorem m_doStep_L2 (x : Int32) : ∀ (f j : Nat) (st1 : sn_S), j ≤ 374 → 374 - j < f → st_but (b + 3) st st1 → (∀ k, k < j → st1.1 (b + 3) k = st.1 (b + 1) k) → ∃ st2 : sn_S, st_but (b + 3) st st2 ∧ (∀ k, k < 374 → st2.1 (b + 3) k = st.1 (b + 1) k) ∧ D_X6_doStep_L2 b x f (nI j) st1 = D_X6_doStep_L34 b x 4096 0 0 0 st2
  | 0, j, st1, h1, h2, _, _ => by omega
  | f + 1, j, st1, h1, h2, hB, hk => by
    rw [D_X6_doStep_L2.eq_2]
    by_cases e : j = 374
    · subst e
      rw [if_pos (by decide)]
      exact ⟨st1, hB, hk, rfl⟩
    · have hlt : j < 374 := by omega
      rw [if_neg (by rw [show (374 : Int32) = nI 374 from rfl]; exact nI_ge hlt (by omega)), sn_ix_nI hlt (by decide), Option.bind_some, Option.bind_some, nI_1]
      refine m_doStep_L2 x f (j + 1) _ (by omega) (by omega) (hB.wr _ _) (fun k h => ?_)
      by_cases ek : k = j
      · rw [ek, wr_at, hB.1 (b + 1) (by omega)]
      · rw [wr_ne _ _ _ ek]; exact hk k (by omega)
end SM6
section SM7
variable {b n : Nat} {st : sn_S} {s : Nat → Int32}
theorem sp_na_congr {n : Nat} {s nx ny : Nat → Int32} {i : Nat} (hi : i < 12) (hn : 0 < n) (hn12 : n ≤ 12) (h : ∀ k, k < 374 → nx k = ny k) : ∀ k, k < 374 → sp_na n s nx i k = sp_na n s ny i k := by
  have hu : ∀ {f g : Nat → Int32} (a : Nat) (v : Int32), (∀ k, k < 374 → f k = g k) → ∀ k, k < 374 → upd f a v k = upd g a v k := fun a v hh k hk => by
    unfold upd
    by_cases e : k = a
    · rw [if_pos e, if_pos e]
    · rw [if_neg e, if_neg e]; exact hh k hk
  have hc : ∀ {f g : Nat → Int32} (r : Nat), r < 4 → (∀ k, k < 374 → f k = g k) → ∀ k, k < 374 → sp_cn f r k = sp_cn g r k := fun r hr hh k hk => by
    unfold sp_cn
    rw [hh (364 + r) (by omega)]
    exact hu _ _ hh k hk
  have hxl : ∀ (m j : Nat) (f g : Nat → Int32), (∀ k, k < 374 → f k = g k) → ∀ k, k < 374 → sp_xl n s i f j m k = sp_xl n s i g j m k := fun m => by
    induction m with
    | zero => intro j f g hh; exact hh
    | succ m ih =>
      intro j f g hh
      rw [sp_xl, sp_xl]
      refine ih (j + 1) _ _ ?_
      split
      · exact hu _ _ hh
      · exact hh
  have h3 : ∀ {f g : Nat → Int32}, (∀ k, k < 374 → f k = g k) → ∀ k, k < 374 → sp_a3 n s f i k = sp_a3 n s g i k := fun hh => by
    unfold sp_a3
    rw [hh (60 + i) (by omega)]
    exact hc 3 (by omega) (hu _ _ (hu _ _ hh))
  have h2 : ∀ {f g : Nat → Int32}, (∀ k, k < 374 → f k = g k) → ∀ k, k < 374 → sp_a2 n s f i k = sp_a2 n s g i k := fun hh => by
    unfold sp_a2
    rw [hh 368 (by omega)]
    refine hc 2 (by omega) ?_
    split
    · split
      · exact hu _ _ (hu _ _ (hu _ _ (hu _ _ hh)))
      · exact hu _ _ (hu _ _ hh)
    · exact hu _ _ hh
  unfold sp_na
  split
  · unfold sp_a0
    exact hc 0 (by omega) (hxl _ _ _ _ (hu _ _ (hu _ _ (hu _ _ h))))
  · split
    · unfold sp_a1
      exact hc 1 (by omega) (hu _ _ (hu _ _ h))
    · split
      · split
        · exact h2 h
        · exact h3 (h2 h)
      · exact h3 h
theorem sp_nf_congr {n : Nat} {s : Nat → Int32} {P : Nat → Bool} (hn : 0 < n) (hn12 : n ≤ 12) : ∀ (m j : Nat) (nx ny : Nat → Int32), j + m ≤ 12 → (∀ k, k < 374 → nx k = ny k) → ∀ k, k < 374 → sp_nf n s P nx j m k = sp_nf n s P ny j m k
  | 0, _, _, _, _, h => h
  | m + 1, j, nx, ny, hj, h => by
    rw [sp_nf, sp_nf]
    refine sp_nf_congr hn hn12 m (j + 1) _ _ (by omega) ?_
    split
    · exact sp_na_congr (by omega) hn hn12 h
    · exact h
theorem sp_cut_congr {s nx ny : Nat → Int32} (h : ∀ k, k < 374 → nx k = ny k) : sp_cut s nx = sp_cut s ny := by
  funext k
  unfold sp_cut
  by_cases c : k < 374
  · rw [if_pos c, if_pos c, h k c]
  · rw [if_neg c, if_neg c]
theorem m_doStep (hs : st.1 (b + 1) = s) (hn : sm_n n s) (hb1 : s 361 = 1) (hnb : sp_nb n s) (x : Int32) : ∃ st2 : sn_S, D_X6_doStep b x st = some (nI (sp_ct (sp_ax n s x) 0 n), st2) ∧ st_b2 b st st2 ∧ st2.1 (b + 1) = sp_sp n s x := by
  have hn12 := hn.2.2
  have hn2 := hn.2.1
  unfold D_X6_doStep
  obtain ⟨st2, g1, g2, g3⟩ := m_doStep_L2 (b := b) (st := st) x 4096 0 st (by omega) (by omega) st_but.rf (fun k h => by omega)
  have g3' : D_X6_doStep_L2 b x 4096 0 st = _ := g3
  rw [g3']
  have hs2 : st2.1 (b + 1) = s := (g1.1 (b + 1) (by omega)).trans hs
  obtain ⟨st3, k1, k2, k3⟩ := m_doStep_L34 hs2 hn hb1 hnb x 4096 0 0 st2 _ (by omega) (by omega) (by omega) st_but.rf rfl
  have k3' : D_X6_doStep_L34 b x 4096 0 0 0 st2 = _ := k3
  rw [k3', Nat.zero_add, Nat.sub_zero]
  rw [Nat.sub_zero] at k2
  unfold sp_sp
  by_cases c : sp_ct (sp_ax n s x) 0 n = 0
  · rw [if_pos c, if_pos c, c]
    exact ⟨st3, rfl, (st_b2.of3 g1).trans (st_b2.of3 k1), (k1.1 (b + 1) (by omega)).trans hs2⟩
  · rw [if_neg c, if_neg c]
    have hs3 : st3.1 (b + 1) = s := (k1.1 (b + 1) (by omega)).trans hs2
    have hcong := sp_nf_congr (s := s) (P := sp_ax n s x) (show 0 < n by omega) hn12 n 0 (st2.1 (b + 3)) s (by omega) (fun k hk => (g2 k hk).trans (by rw [hs]))
    have hcut : sp_sl s (st3.1 (b + 3)) ∧ st3.1 (b + 3) 361 = s 361 := by
      rw [k2]
      refine ⟨fun k h1 h2 => ?_, ?_⟩
      · rw [sp_nf_out (by omega) hn12 (by omega) n _ 0 (by omega), g2 k (by omega), hs]
      · rw [sp_nf_out (by omega) hn12 (by omega) n _ 0 (by omega), g2 361 (by omega), hs]
    obtain ⟨st4, m1, m2, m3⟩ := m_doStep_L108 (b := b) hn hb1 hnb x (nI (sp_ct (sp_ax n s x) 0 n)) (nI (sp_mk (sp_ax n s x) n)) hcut 4096 0 st3 (by omega) (by omega) rfl (by rw [hs3]; funext k; rw [if_neg (by omega)])
    refine ⟨st4, m1, ((st_b2.of3 g1).trans (st_b2.of3 k1)).trans (st_b2.of1 m2), m3.trans ?_⟩
    rw [k2, sp_cut_congr hcong]
end SM7
