/-! MAKING: a world that grows -/
def gw (g : sn_G) (ad : Nat → Nat) : sn_G := (g.1, g.2.1, g.2.2.1, ad)
/-- what refers, refers to what is there -/
def cn_cl (tb : Nat → sn_K) (M : Nat) : Prop := ∀ c, c < M → (∀ q ∈ (tb c).2.2, q.1 = 1 → q.2 < M) ∧ ((tb c).1 = 1 → c + 1 + (tb c).2.1 ≤ M)
theorem sn_f_ext {ad ad' : Nat → Nat} {f : Nat → Int32} {h : Int64} : ∀ (fl : List (Nat × Nat)) (j : Nat), (∀ q ∈ fl, q.1 = 1 → ad' q.2 = ad q.2) → sn_f ad' f h j fl = sn_f ad f h j fl
  | [], _, _ => rfl
  | q :: l, j, hq => by
    show sn_fv ad' f h j q :: sn_f ad' f h (j + 1) l = sn_fv ad f h j q :: sn_f ad f h (j + 1) l
    rw [sn_f_ext l (j + 1) (fun x hx => hq x (List.mem_cons_of_mem _ hx))]
    congr 1
    unfold sn_fv
    split
    · rfl
    · rename_i e; rw [hq q List.mem_cons_self e]
    · rfl
    · rfl
theorem sn_cell_ext {g : sn_G} {ad ad' : Nat → Nat} {c : Nat} {k : sn_K} {f : Nat → Int32} {h : Int64} (h1 : ∀ q ∈ k.2.2, q.1 = 1 → ad' q.2 = ad q.2) (h2 : k.1 = 1 → ∀ i, i < k.2.1 → ad' (c + 1 + i) = ad (c + 1 + i)) : sn_cell (gw g ad') c k f h = sn_cell (gw g ad) c k f h := by
  unfold sn_cell
  split
  · rfl
  · rename_i e
    show (Sum.inl (g.2.2.1, k.2.1, .inr (.inr (.inr (.inr (fun i => if i < k.2.1 then some (ad' (c + 1 + i)) else none))))) : va_E) = Sum.inl (g.2.2.1, k.2.1, .inr (.inr (.inr (.inr (fun i => if i < k.2.1 then some (ad (c + 1 + i)) else none)))))
    have : (fun i => if i < k.2.1 then some (ad' (c + 1 + i)) else none) = (fun i => if i < k.2.1 then some (ad (c + 1 + i)) else none) := by
      funext i
      by_cases l : i < k.2.1
      · rw [if_pos l, if_pos l, h2 e i l]
      · rw [if_neg l, if_neg l]
    rw [this]
  · show (Sum.inr (_, sn_f ad' f h 0 k.2.2) : va_E) = Sum.inr (_, sn_f ad f h 0 k.2.2)
    rw [sn_f_ext k.2.2 0 h1]
/-- the kind of one cell is another -/
def tv (tb : Nat → sn_K) (b : Nat) (k : sn_K) : Nat → sn_K := fun c => if c = b then k else tb c
theorem tv_s (tb : Nat → sn_K) (b : Nat) (k : sn_K) : tv tb b k b = k := if_pos rfl
theorem tv_o (tb : Nat → sn_K) {b c : Nat} (k : sn_K) (h : c ≠ b) : tv tb b k c = tb c := if_neg h
/-- what the classes and array classes are, and that rows of rows are made of rows -/
def cn_C (g : sn_G) (U : State) : Prop := sn_C g U ∧ ∃ (kA kI : Class) (c1 : ClassId), U.vm.classes[g.2.2.1]? = some kA ∧ kA.kind = .array g.2.1 (.array .int) ∧ U.vm.classes[g.2.1]? = some kI ∧ kI.kind = .array c1 .int
theorem cn_C.moved {g : sn_G} {s U : State} (hW : s.WarmedH U.vm) (h : cn_C g s) : cn_C g U := by
  obtain ⟨h1, kA, kI, c1, a1, a2, a3, a4⟩ := h
  obtain ⟨kA', b1, b2⟩ := hW.alike.2.2 _ _ a1
  obtain ⟨kI', b3, b4⟩ := hW.alike.2.2 _ _ a3
  exact ⟨h1.moved hW, kA', kI', c1, b1, by rw [b2]; exact a2, b3, by rw [b4]; exact a4⟩
theorem cn_C.calling {g : sn_G} {U : State} {a : Array Value} {f : JFrame} {mk : MethodId} (h : cn_C g U) : cn_C g (U.calling f mk a) := ⟨h.1.calling, h.2⟩
def cn_A (g : sn_G) (N sz : Nat) : Nat → Prop := fun q => sn_A g N q ∨ sz ≤ q
/-- the world in a constructor: N cells were there, now M are -/
def cn_X (g : sn_G) (N : Nat) (H0 : Heap) (tb : Nat → sn_K) (M : Nat) (st : sn_S) (ad : Nat → Nat) (H : Heap) (locs : List Loc) : Prop :=
  N ≤ M ∧ (∀ c, c < N → ad c = g.2.2.2 c) ∧ (∀ c, N ≤ c → c < M → H0.size ≤ ad c) ∧ sn_I (gw g ad) M ∧ cn_cl tb M ∧ va_P g.1 vwCl (sn_W (gw g ad) tb M st) H ∧ va_S (cn_A g N H0.size) H0 H locs
section CN1
variable {g : sn_G} {N M : Nat} {H0 H : Heap} {tb : Nat → sn_K} {st : sn_S} {ad : Nat → Nat} {locs : List Loc}
theorem cn_X.inA (X : cn_X g N H0 tb M st ad H locs) {c : Nat} (hc : c < M) : cn_A g N H0.size (ad c) := by
  by_cases h : c < N
  · exact Or.inl ⟨c, h, X.2.1 c h⟩
  · exact Or.inr (X.2.2.1 c (by omega) hc)
theorem cn_X.D (X : cn_X g N H0 tb M st ad H locs) : va_D (cn_A g N H0.size) (sn_W (gw g ad) tb M st) := by
  have h := sn_D (g := gw g ad) (tb := tb) (N := M) (st := st) X.2.2.2.1
  refine ⟨h.1, fun k q hk => ?_⟩
  obtain ⟨h1, h2⟩ := sn_inv hk
  rw [h2]
  exact X.inA h1
/-- another state, another table, the same cells -/
theorem cn_X.to (X : cn_X g N H0 tb M st ad H locs) {tb' : Nat → sn_K} {st' : sn_S} {H1 : Heap} {locs1 : List Loc} (hcl : cn_cl tb' M) (hP : va_P g.1 vwCl (sn_W (gw g ad) tb' M st') H1) (hS : va_S (cn_A g N H0.size) H0 H1 locs1) : cn_X g N H0 tb' M st' ad H1 locs1 := ⟨X.1, X.2.1, X.2.2.1, X.2.2.2.1, hcl, hP, hS⟩
theorem sn_W_ext {ad' : Nat → Nat} (hcl : cn_cl tb M) (he : ∀ c, c < M → ad' c = ad c) : sn_W (gw g ad') tb M st = sn_W (gw g ad) tb M st := by
  unfold sn_W
  apply List.map_congr_left
  intro c hc
  have hc := List.mem_range.mp hc
  obtain ⟨h1, h2⟩ := hcl c hc
  show (ad' c, sn_cell (gw g ad') c (tb c) (st.1 c) (st.2 c)) = (ad c, sn_cell (gw g ad) c (tb c) (st.1 c) (st.2 c))
  rw [he c hc, sn_cell_ext (fun q hq e => he _ (h1 q hq e)) (fun e i hi => he _ (by have := h2 e; omega))]
theorem sn_W_succ : sn_W g tb (M + 1) st = sn_W g tb M st ++ [(g.2.2.2 M, sn_cell g M (tb M) (st.1 M) (st.2 M))] := by
  unfold sn_W
  rw [List.range_succ, List.map_append]
  rfl
theorem cn_cl.mono (h : cn_cl tb M) (hM : (∀ q ∈ (tb M).2.2, q.1 = 1 → q.2 < M + 1) ∧ ((tb M).1 = 1 → M + 1 + (tb M).2.1 ≤ M + 1)) : cn_cl tb (M + 1) := fun c hc => by
  by_cases e : c = M
  · subst e; exact hM
  · obtain ⟨h1, h2⟩ := h c (by omega)
    exact ⟨fun q hq e => by have := h1 q hq e; omega, fun e => by have := h2 e; omega⟩
/-- a cell is made -/
theorem cn_X.push (X : cn_X g N H0 tb M st ad H locs) {q : Nat} {en : va_E} {H1 : Heap} {locs1 : List Loc} (hP : va_P g.1 vwCl (sn_W (gw g ad) tb M st ++ [(q, en)]) H1) (hD : va_D (cn_A g N H0.size) (sn_W (gw g ad) tb M st ++ [(q, en)])) (hS : va_S (cn_A g N H0.size) H0 H1 locs1) (hM : (∀ q ∈ (tb M).2.2, q.1 = 1 → q.2 < M) ∧ ¬ (tb M).1 = 1) (he : sn_cell (gw g ad) M (tb M) (st.1 M) (st.2 M) = en) : ∃ ad', ad' M = q ∧ (∀ c, c < M → ad' c = ad c) ∧ cn_X g N H0 tb (M + 1) st ad' H1 locs1 := by
  obtain ⟨x1, x2, x3, x4, x5, x6, x7⟩ := id X
  have hex : ∀ c, c < M → (fun c => if c = M then q else ad c) c = ad c := fun c hc => if_neg (by omega)
  have hq : (fun c => if c = M then q else ad c) M = q := if_pos rfl
  have hlen : (sn_W (gw g ad) tb M st).length = M := by unfold sn_W; rw [List.length_map, List.length_range]
  have hat : (sn_W (gw g ad) tb M st ++ [(q, en)])[M]? = some (q, en) := by rw [List.getElem?_append_right (by omega), hlen, Nat.sub_self]; rfl
  have hne : ∀ c, c < M → ad c ≠ q := fun c hc z => by
    have h1 : (sn_W (gw g ad) tb M st ++ [(q, en)])[c]? = some (ad c, sn_cell (gw g ad) c (tb c) (st.1 c) (st.2 c)) := by rw [List.getElem?_append_left (by omega), sn_at hc]; rfl
    have := hD.1 c M _ _ h1 hat z
    omega
  have hsz : H0.size ≤ q := by
    rcases hD.2 M _ hat with ⟨c, hc, hz⟩ | h
    · exact absurd ((x2 c hc).trans hz.symm) (hne c (by omega))
    · exact h
  refine ⟨fun c => if c = M then q else ad c, hq, hex, by omega, fun c hc => (hex c (by omega)).trans (x2 c hc), fun c h1 h2 => ?_, fun i j hi hj hij => ?_, x5.mono ⟨fun z hz e => by have := hM.1 z hz e; omega, fun z => absurd z hM.2⟩, ?_, hS⟩
  · by_cases ec : c = M
    · rw [ec]; show H0.size ≤ (if M = M then q else ad M); rw [if_pos rfl]; exact hsz
    · show H0.size ≤ (if c = M then q else ad c); rw [if_neg ec]; exact x3 c h1 (by omega)
  · have hij : (if i = M then q else ad i) = (if j = M then q else ad j) := hij
    by_cases ei : i = M
    · by_cases ej : j = M
      · rw [ei, ej]
      · rw [if_pos ei, if_neg ej] at hij; exact absurd hij.symm (hne j (by omega))
    · by_cases ej : j = M
      · rw [if_neg ei, if_pos ej] at hij; exact absurd hij (hne i (by omega))
      · rw [if_neg ei, if_neg ej] at hij; exact x4 i j (by omega) (by omega) hij
  · rw [sn_W_succ, sn_W_ext x5 hex]
    show va_P g.1 vwCl (sn_W (gw g ad) tb M st ++ [(_, sn_cell (gw g (fun c => if c = M then q else ad c)) M (tb M) (st.1 M) (st.2 M))]) H1
    rw [sn_cell_ext (ad := ad) (fun z hz e => hex _ (hM.1 z hz e)) (fun e => absurd e hM.2), he]
    show va_P g.1 vwCl (sn_W (gw g ad) tb M st ++ [((if M = M then q else ad M), en)]) H1
    rw [if_pos rfl]
    exact hP
/-- rows of rows are made -/
theorem cn_X.push13 (X : cn_X g N H0 tb M st ad H locs) {H1 : Heap} (hout : H1[H.size]? = some (mo g.2.2.1 12 H.size 12)) (hin : ∀ j, j < 12 → H1[H.size + 1 + j]? = some (mi g.2.1 17)) (hold : ∀ q, q < H.size → H1[q]? = H[q]?) (hsz : H1.size = H.size + 1 + 12) (k0 : tb M = (1, 12, [])) (kj : ∀ j, j < 12 → tb (M + 1 + j) = (0, 17, [])) (hz : ∀ j, j < 12 → st.1 (M + 1 + j) = fun _ => 0) : ∃ ad', ad' M = H.size ∧ (∀ c, c < M → ad' c = ad c) ∧ cn_X g N H0 tb (M + 13) st ad' H1 locs := by
  obtain ⟨x1, x2, x3, x4, x5, x6, x7⟩ := id X
  have hlt : ∀ c, c < M → ad c < H.size := fun c hc => (x6 c _ (sn_at hc)).lt
  have hex : ∀ c, c < M → (fun c => if c < M then ad c else H.size + (c - M)) c = ad c := fun c hc => if_pos hc
  have hnx : ∀ c, ¬ c < M → (fun c => if c < M then ad c else H.size + (c - M)) c = H.size + (c - M) := fun c hc => if_neg hc
  generalize had : (fun c => if c < M then ad c else H.size + (c - M)) = ad' at hex hnx
  refine ⟨ad', by rw [hnx M (by omega)]; omega, hex, by omega, fun c hc => (hex c (by omega)).trans (x2 c hc), fun c h1 h2 => ?_, fun i j hi hj hij => ?_, fun c hc => ?_, fun c q hc => ?_, ⟨Nat.le_trans x7.1 (by omega), fun q h1 h2 => (hold q (Nat.lt_of_lt_of_le h1 x7.1)).trans (x7.2.1 q h1 h2), x7.2.2⟩⟩
  · by_cases ec : c < M
    · rw [hex c ec]; exact x3 c h1 ec
    · rw [hnx c ec]; have := x7.1; omega
  · have hij : ad' i = ad' j := hij
    by_cases ei : i < M
    · by_cases ej : j < M
      · rw [hex i ei, hex j ej] at hij; exact x4 i j ei ej hij
      · rw [hex i ei, hnx j ej] at hij; have := hlt i ei; omega
    · by_cases ej : j < M
      · rw [hnx i ei, hex j ej] at hij; have := hlt j ej; omega
      · rw [hnx i ei, hnx j ej] at hij; omega
  · by_cases ec : c < M
    · obtain ⟨h1, h2⟩ := x5 c ec
      exact ⟨fun q hq e => by have := h1 q hq e; omega, fun e => by have := h2 e; omega⟩
    · by_cases e0 : c = M
      · subst e0
        rw [k0]
        exact ⟨fun q hq => absurd hq List.not_mem_nil, fun _ => Nat.le_refl _⟩
      · obtain ⟨j, rfl⟩ : ∃ j, c = M + 1 + j := ⟨c - M - 1, by omega⟩
        rw [kj j (by omega)]
        exact ⟨fun q hq => absurd hq List.not_mem_nil, fun e => absurd e (by decide)⟩
  · obtain ⟨hcM, -⟩ := sn_inv hc
    rw [sn_at hcM] at hc
    cases hc
    by_cases ec : c < M
    · obtain ⟨h1, h2⟩ := x5 c ec
      have h6 := x6 c _ (sn_at ec)
      have e1 : (gw g ad').2.2.2 c = ad c := hex c ec
      rw [e1, sn_cell_ext (ad := ad) (fun z hz e => hex _ (h1 z hz e)) (fun e i hi => hex _ (by have := h2 e; omega))]
      exact h6.kept (hold _ (hlt c ec))
    · by_cases e0 : c = M
      · subst e0
        rw [k0]
        show H1[ad' c]? = some (vp_cell g.2.2.1 (12, .inr (.inr (.inr (.inr (fun i => if i < 12 then some (ad' (c + 1 + i)) else none))))))
        rw [hnx c ec, Nat.sub_self, Nat.add_zero, hout, vp_cell_q]
        unfold mo
        refine congrArg some (congrArg (arrV _ _) (funext fun j => ?_))
        by_cases lj : j < 12
        · rw [if_pos lj, if_pos lj, hnx (c + 1 + j) (by omega), show H.size + (c + 1 + j - c) = H.size + 1 + j by omega]
        · rw [if_neg lj, if_neg lj]
      · obtain ⟨j, rfl⟩ : ∃ j, c = M + 1 + j := ⟨c - M - 1, by omega⟩
        rw [kj j (by omega), hz j (by omega)]
        show H1[ad' (M + 1 + j)]? = some (vp_cell g.2.1 (17, .inl (fun _ => 0)))
        rw [hnx _ ec, show H.size + (M + 1 + j - M) = H.size + 1 + j by omega, hin j (by omega), vp_cell_i]
        rfl
/-- a field now refers -/
theorem sn_f_ref {f : Nat → Int32} {h : Int64} {q : Nat} : ∀ (fl : List (Nat × Nat)) (j k : Nat), (sn_f ad f h j fl).set k (.ref (ad q)) = sn_f ad f h j (fl.set k (1, q))
  | [], _, _ => rfl
  | x :: l, j, 0 => rfl
  | x :: l, j, k + 1 => by
    show sn_fv ad f h j x :: (sn_f ad f h (j + 1) l).set k (.ref (ad q)) = sn_fv ad f h j x :: sn_f ad f h (j + 1) (l.set k (1, q))
    rw [sn_f_ref l (j + 1) k]
theorem sn_putT {b : Nat} {k : sn_K} {en : va_E} (hb : b < M) (he : sn_cell g b k (st.1 b) (st.2 b) = en) : (sn_W g tb M st).set b (g.2.2.2 b, en) = sn_W g (tv tb b k) M st := by
  apply List.ext_getElem?
  intro i
  by_cases hi : i = b
  · subst hi
    rw [List.getElem?_set_self (by unfold sn_W; rw [List.length_map, List.length_range]; exact hb), sn_at hb, tv_s, he]
  · rw [List.getElem?_set_ne (Ne.symm hi)]
    by_cases hN : i < M
    · rw [sn_at hN, sn_at hN, tv_o _ _ hi]
    · rw [sn_out hN, sn_out hN]
end CN1
/-- what a constructor does -/
def cn_Q (g : sn_G) (N sz : Nat) (tb' : Nat → sn_K) (M : Nat) (st' : sn_S) : Array Value → State → Outcome → State → Prop := va_Qv (fun ad : Nat → Nat => (∀ c, c < N → ad c = g.2.2.2 c) ∧ (∀ c, N ≤ c → c < M → sz ≤ ad c) ∧ sn_I (gw g ad) M ∧ cn_cl tb' M ∧ N ≤ M) (fun ad t => va_P g.1 vwCl (sn_W (gw g ad) tb' M st') t.heap) (cn_A g N sz)
def cn_P (g : sn_G) (tb : Nat → sn_K) (N : Nat) (av : List Value) (st : sn_S) (sz : Nat) : Array Value → State → Prop := va_Pc av (fun U => U.heap.size = sz ∧ cn_C g U ∧ va_P g.1 vwCl (sn_W g tb N st) U.heap)
def cn_M (l : Launch) (y : MethodName) (ws : List Cond) (rm : Room) (g : sn_G) (tb : Nat → sn_K) (N : Nat) (av : List Value) (st : sn_S) (tb' : Nat → sn_K) (M : Nat) (st' : sn_S) (mc ms : Nat) : Prop := ∀ sz, Met l y ws rm (cn_P g tb N av st sz) (cn_Q g N sz tb' M st') mc ms (cn_A g N sz)
theorem cn_blind {g : sn_G} {tb : Nat → sn_K} {N : Nat} {av : List Value} {st : sn_S} {sz : Nat} : FrameBlind (cn_P g tb N av st sz) := fun _ _ _ _ q => ⟨q.1, q.2.1, q.2.2.1.calling, q.2.2.2⟩
def cn_Cx (p : Program) (s : State) (m : MethodId) (args : Array Value) (meth : Method) (c : Code) (g : sn_G) (cc : ByteArray) (nL : Nat) (Ts : List Cond) (own : String) : Prop := CallFix p m c cc nL s args Ts own ∧ meth.sig.returnType = none ∧ meth.locks = false ∧ meth.name = "<init>" ∧ cn_C g s
section CN2
variable {p : Program} {l : Launch} {e : Env} {R : Room} {s : State} {m : MethodId} {args : Array Value} {below : List Frame} {meth : Method} {c : Code} {H : Heap} {locs : List Loc} {cells slots : Nat} {Q : State → Prop}
variable {cc : ByteArray} {pc nL : Nat} {ls : Array Slot} {rest stk : List Value} {g : sn_G} {tb tb' : Nat → sn_K} {N M : Nat} {st st' : sn_S} {Ts : List Cond} {own : String} {H0 : Heap} {ad : Nat → Nat}
theorem cn_M.of {y : MethodName} {ws : List Cond} {rm : Room} {av : List Value} {ws' : List Cond} {mc ms : Nat} (hi : sn_I g N) (hcl : cn_cl tb N) (hy : plainName y.cls = true) (hnm : y.name = "<init>") (hw : ws = Cond.code y cc nL none :: ws') (hlen : (lg_sl av).length ≤ nL)
    (body : ∀ (p : Program) (e : Env) (s : State) (m : MethodId) (args : Array Value) (below : List Frame) (meth : Method) (c : Code) (ls : Array Slot), cn_Cx p s m args meth c g cc nL ws y.cls → cn_X g N s.heap tb N st g.2.2.2 s.heap [] → lv_has ls nL (lv_args 0 av) → W p l e rm s m args below meth c s.heap [] 0 0 (MQ below (cn_Q g N s.heap.size tb' M st') args s mc ms (cn_A g N s.heap.size)) (F0 m 0 ls [])) : cn_M l y ws rm g tb N av st tb' M st' mc ms := by
  intro sz
  refine Met.ofW (cc := cc) (maxL := nL) (ret := none) hy hw ?_
  intro p e s m args below meth c s₁ B hml hv
  obtain ⟨rfl, hsz, hC, hP⟩ := hv
  subst hsz
  rw [lg_entry_eq]
  exact body p e s m _ below meth c _ ⟨⟨B.exec, B.bytes, hml, findClass_of_methodNamed B.named, atoms_spec (ws := ws) B.pre⟩, B.returns, B.notSynchronized, (name_of_methodNamed B.named B.method).1.trans hnm, hC⟩ ⟨Nat.le_refl _, fun _ _ => rfl, fun c h1 h2 => by omega, hi, hcl, hP, va_S.rf⟩ (lv_entry av hlen)
/-- its end -/
theorem cn_rv (C : cn_Cx p s m args meth c g cc nL Ts own) (X : cn_X g N s.heap tb M st ad H locs) (hdg : decode cc pc = .ok (.return_, 1)) : W p l e R s m args below meth c H locs cells slots (MQ below (cn_Q g N s.heap.size tb M st) args s cells slots (cn_A g N s.heap.size)) (F0 m pc ls []) := by
  obtain ⟨x1, x2, x3, x4, x5, x6, x7⟩ := X
  exact W.vret C.1.1 C.1.2.1 C.2.1 (fun t ht _ => ⟨⟨ad, rfl, ⟨x2, x3, x4, x5, x1⟩, by subst ht; exact x6⟩, x7.F ht⟩) x7.2.2 hdg C.2.2.1
/-- new int[n] -/
theorem cn_newa (C : cn_Cx p s m args meth c g cc nL Ts own) (X : cn_X g N H0 tb M st ad H locs) (harr : Cond.arrayClass .int ∈ Ts) {n : Nat} {v : Int32} (hv : ¬ v < 0) (hn : v.toNatClampNeg = n) (hn1 : n ≤ 1000) (hk : tb M = (0, n, [])) (hz : st.1 M = fun _ => 0) (hcells : cells + 1 ≤ R.cells) (hslots : slots + n ≤ R.slots) (hdg : decode cc pc = .ok (.newarray .int, 2))
    (kk : ∀ (ad' : Nat → Nat) (H1 : Heap), (∀ c, c < M → ad' c = ad c) → cn_X g N H0 tb (M + 1) st ad' H1 locs → W p l e R s m args below meth c H1 locs (cells + 1) (slots + n) Q (F0 m (pc + 2) ls (.ref (ad' M) :: rest))) : W p l e R s m args below meth c H locs cells slots Q (F0 m pc ls (.int v :: rest)) := by
  obtain ⟨⟨hx, hb, hml, hown, hts⟩, -, -, -, hC⟩ := C
  obtain ⟨x1, x2, x3, x4, x5, x6, x7⟩ := id X
  refine va_newa (atype := .int) (ty := .int) (a0 := (n, .inl (fun _ => 0))) hx hb (hts _ harr) rfl hC.1.1 x6 X.D x7 (fun q h => Or.inr h) (fun cA => by rw [vp_cell_i]; rfl) hv hn (by show n * 4 ≤ 536870912; omega) hcells hslots hdg (fun q cA H1 hK1 hP1 hD1 hS1 => ?_)
  have hcA : cA = g.2.1 := by
    have h1 := (hK1.2 2 (cA, .int) rfl).2
    have h2 := (hC.1.1.2 0 (g.2.1, .int) rfl).2
    exact Option.some.inj (Eq.trans (Eq.symm h1) h2)
  subst hcA
  obtain ⟨ad', e1, e2, X'⟩ := X.push hP1 hD1 hS1 (by rw [hk]; exact ⟨fun q hq => absurd hq List.not_mem_nil, fun (z : (0 : Nat) = 1) => absurd z (by decide)⟩) (by rw [hk, hz]; rfl)
  have := kk ad' H1 e2 X'
  rw [e1] at this
  exact this
/-- new -/
theorem cn_new (C : cn_Cx p s m args meth c g cc nL Ts own) (X : cn_X g N H0 tb M st ad H locs) {Cn : String} {T : u_T} {n ci index : Nat} (hin : ∀ w ∈ u_ws Cn T n, w ∈ Ts) {ty0 : Nat → FieldType} (hty : ∀ k, k < n → parseFieldDescriptor (T k).2.2.1 = some (ty0 k)) (h1 : Cond.classLink own index Cn ∈ Ts) (h2 : Cond.instantiable Cn n ∈ Ts) (h3 : Cond.initialized Cn ∈ Ts) (hc : vwCl[ci]? = some (Cn, T, n)) {fl : List (Nat × Nat)} (hk : tb M = (ci + 2, 0, fl)) (hfl : ∀ q ∈ fl, ¬ q.1 = 1) {fs : List Value} (hf : sn_f ad (st.1 M) (st.2 M) 0 fl = fs) (hfs : ∀ j, j < n → defaultValue (ty0 j) = vp_V fs j) (hcells : cells + 1 ≤ R.cells) (hslots : slots + n ≤ R.slots) (hdg : decode cc pc = .ok (.new index, 3))
    (kk : ∀ (ad' : Nat → Nat) (H1 : Heap), (∀ c, c < M → ad' c = ad c) → cn_X g N H0 tb (M + 1) st ad' H1 locs → W p l e R s m args below meth c H1 locs (cells + 1) (slots + n) Q (F0 m (pc + 3) ls (.ref (ad' M) :: rest))) : W p l e R s m args below meth c H locs cells slots Q (F0 m pc ls rest) := by
  obtain ⟨⟨hx, hb, hml, hown, hts⟩, -, -, -, hC⟩ := C
  obtain ⟨x1, x2, x3, x4, x5, x6, x7⟩ := id X
  refine va_new (ci := ci) (fs := fs) (C := Cn) (T := T) (N := n) hx hb hts hin ty0 hty hown (hts _ h1) (hts _ h2) (hts _ h3) hC.1.1 x6 X.D x7 (fun q h => Or.inr h) hc hfs hcells hslots hdg (fun q H1 hP1 hD1 hS1 => ?_)
  obtain ⟨ad', e1, e2, X'⟩ := X.push hP1 hD1 hS1 (by rw [hk]; exact ⟨fun q hq e => absurd e (hfl q hq), fun z => by omega⟩) (by rw [hk, ← hf]; rfl)
  have := kk ad' H1 e2 X'
  rw [e1] at this
  exact this
/-- new int[12][17] -/
theorem cn_mna (C : cn_Cx p s m args meth c g cc nL Ts own) (X : cn_X g N H0 tb M st ad H locs) {index : Nat} (h1 : Cond.classLink own index "[[I" ∈ Ts) (k0 : tb M = (1, 12, [])) (kj : ∀ j, j < 12 → tb (M + 1 + j) = (0, 17, [])) (hz : ∀ j, j < 12 → st.1 (M + 1 + j) = fun _ => 0) (hcells : cells + 13 ≤ R.cells) (hslots : slots + 216 ≤ R.slots) (hdg : decode cc pc = .ok (.multianewarray index 2, 4))
    (kk : ∀ (ad' : Nat → Nat) (H1 : Heap), (∀ c, c < M → ad' c = ad c) → cn_X g N H0 tb (M + 13) st ad' H1 locs → W p l e R s m args below meth c H1 locs (cells + 13) (slots + 216) Q (F0 m (pc + 4) ls (.ref (ad' M) :: rest))) : W p l e R s m args below meth c H locs cells slots Q (F0 m pc ls (.int 17 :: .int 12 :: rest)) := by
  obtain ⟨⟨hx, hb, hml, hown, hts⟩, -, -, -, hC, kA, kI, c1, a1, a2, a3, a4⟩ := C
  have hfA : s.vm.findClass "[[I" = some g.2.2.1 := (hC.1.2 1 (g.2.2.1, .array .int) rfl).2
  refine mz_row (N := 12) (M := 17) hx hb hown (hts _ h1) hfA a1 a2 a3 a4 (by decide) (by decide) (by decide) (by decide) (by decide) (by decide) (by omega) (by omega) hdg (fun H1 b1 b2 b3 b4 => ?_)
  obtain ⟨ad', e1, e2, X'⟩ := X.push13 b1 b2 b3 b4 k0 kj hz
  have := kk ad' H1 e2 X'
  rw [e1] at this
  exact this
/-- Object.<init> -/
theorem cn_obj (C : cn_Cx p s m args meth c g cc nL Ts own) {idx : Nat} (h1 : Cond.methodLink own idx Lib.objectInit ∈ Ts) (h2 : Cond.instanceMethod Lib.objectInit ∈ Ts) (h3 : Cond.code Lib.objectInit ⟨#[0xb1]⟩ 1 none ∈ Ts) {a : Nat} (hsz : ls.size = nL) (hfr : 1 ≤ R.frames) (hlo : 12 ≤ R.locals) (hdg : decode cc pc = .ok (.invokespecial idx, 3))
    (kk : W p l e R s m args below meth c H locs cells slots Q (F0 m (pc + 3) ls [])) : W p l e R s m args below meth c H locs cells slots Q (F0 m pc ls [.ref a]) := by
  obtain ⟨⟨hx, hb, hml, hown, hts⟩, -, -, -, -⟩ := C
  exact W.objInit (rest := []) hx hb hown (hts _ h1) (hts _ h2) (hts _ h3) rfl (hsz.trans hml.symm) rfl hdg hfr hlo kk
/-- a final field gets a reference -/
theorem cn_pr (C : cn_Cx p s m args meth c g cc nL Ts own) (X : cn_X g N H0 tb M st ad H locs) {ref Cn : String} {T : u_T} {n ci index : Nat} (hin : ∀ w ∈ u_ws Cn T n, w ∈ Ts) {ty0 : Nat → FieldType} (hty : ∀ k, k < n → parseFieldDescriptor (T k).2.2.1 = some (ty0 k)) (hnm : ∀ a, a < n → ∀ b, b < n → a ≠ b → (T a).2.1 ≠ (T b).2.1) (b q : Nat) (hb : b < N) (hq : q < M) {x : Nat} {fl : List (Nat × Nat)} (hk : tb b = (ci + 2, x, fl)) (hc : vwCl[ci]? = some (Cn, T, n)) (k : Nat) (hkn : k < n) (hkl : k < fl.length) (hlink : Cond.fieldLink own index ref (T k).2.1 (T k).2.2.1 ∈ Ts) (href : ref = (T k).1) (hfin : (T k).2.2.2 = true) (hdecl : (T k).1 = own) (hn : ∀ a : Nat, narrow (ty0 k) (.ref a) = .ref a) (hfit : ∀ a : Nat, fits (ty0 k) (.ref a) = true) {v : Nat} (hv : ad q = v) (hdg : decode cc pc = .ok (.putfield index, 3))
    (kk : ∀ (H1 : Heap) (locs1 : List Loc), cn_X g N H0 (tv tb b (ci + 2, x, fl.set k (1, q))) M st ad H1 locs1 → W p l e R s m args below meth c H1 locs1 cells slots Q (F0 m (pc + 3) ls rest)) : W p l e R s m args below meth c H locs cells slots Q (F0 m pc ls (.ref v :: .ref (g.2.2.2 b) :: rest)) := by
  obtain ⟨⟨hx, hbb, hml, hown, hts⟩, -, -, hin2, hC⟩ := C
  obtain ⟨x1, x2, x3, x4, x5, x6, x7⟩ := id X
  subst hv
  have he : (sn_W (gw g ad) tb M st)[b]? = some (g.2.2.2 b, .inr (ci, sn_f ad (st.1 b) (st.2 b) 0 fl)) := by
    rw [sn_at (by omega), hk, ← x2 b hb]; rfl
  subst href
  refine va_putF hx hbb hts hin ty0 hty hnm hown hC.1.1 x6 X.D x7 b he hc k hkn (hts _ hlink) (fun _ h9 => h9) hfin hin2 hdecl (hty k hkn) (hn _) (hfit _) (by rw [sn_f_len]; exact hkl) hdg (fun H1 locs1 h1 _ h3 => kk H1 locs1 ?_)
  refine X.to (fun c hc => ?_) ?_ h3
  · by_cases ec : c = b
    · subst ec
      rw [tv_s]
      refine ⟨fun z hz e => ?_, fun z => by have z : ci + 2 = 1 := z; omega⟩
      rcases List.mem_or_eq_of_mem_set hz with h | h
      · exact (x5 c (by omega)).1 z (by rw [hk]; exact h) e
      · rw [h]; exact hq
    · rw [tv_o _ _ ec]; exact x5 c hc
  · rw [← sn_putT (g := gw g ad) (k := (ci + 2, x, fl.set k (1, q))) (en := .inr (ci, (sn_f ad (st.1 b) (st.2 b) 0 fl).set k (.ref (ad q)))) (by omega) (by rw [sn_f_ref]; rfl)]
    rw [show (gw g ad).2.2.2 b = g.2.2.2 b from x2 b hb]
    exact h1
/-- an int field is written -/
theorem cn_pi (C : cn_Cx p s m args meth c g cc nL Ts own) (X : cn_X g N H0 tb M st ad H locs) {ref Cn : String} {T : u_T} {n ci index : Nat} (hin : ∀ w ∈ u_ws Cn T n, w ∈ Ts) {ty0 : Nat → FieldType} (hty : ∀ k, k < n → parseFieldDescriptor (T k).2.2.1 = some (ty0 k)) (hnm : ∀ a, a < n → ∀ b, b < n → a ≠ b → (T a).2.1 ≠ (T b).2.1) (b : Nat) (hb : b < N) {x d : Nat} {fl : List (Nat × Nat)} (hk : tb b = (ci + 2, x, fl)) (hc : vwCl[ci]? = some (Cn, T, n)) (k : Nat) (hkn : k < n) (hlink : Cond.fieldLink own index ref (T k).2.1 (T k).2.2.1 ∈ Ts) (href : ref = (T k).1) (hfin : (T k).2.2.2 = false) (hf : fl[k]? = some (0, d)) {v : Int32} (hn : narrow (ty0 k) (.int v) = .int v) (hfit : fits (ty0 k) (.int v) = true) (hdg : decode cc pc = .ok (.putfield index, 3))
    (kk : ∀ (H1 : Heap) (locs1 : List Loc), cn_X g N H0 tb M (sn_wr st b k v) ad H1 locs1 → W p l e R s m args below meth c H1 locs1 cells slots Q (F0 m (pc + 3) ls rest)) : W p l e R s m args below meth c H locs cells slots Q (F0 m pc ls (.int v :: .ref (g.2.2.2 b) :: rest)) := by
  obtain ⟨⟨hx, hbb, hml, hown, hts⟩, -, -, -, hC⟩ := C
  obtain ⟨x1, x2, x3, x4, x5, x6, x7⟩ := id X
  have he : (sn_W (gw g ad) tb M st)[b]? = some (g.2.2.2 b, .inr (ci, sn_f ad (st.1 b) (st.2 b) 0 fl)) := by
    rw [sn_at (by omega), hk, ← x2 b hb]; rfl
  subst href
  refine va_put hx hbb hts hin ty0 hty hnm hown hC.1.1 x6 X.D x7 b he hc k hkn (hts _ hlink) (fun _ h9 => h9) hfin (hty k hkn) hn hfit (by rw [sn_f_len]; exact (List.getElem?_eq_some_iff.mp hf).1) hdg (fun H1 locs1 h1 _ h3 => kk H1 locs1 ?_)
  refine X.to x5 ?_ h3
  have e : (sn_W (gw g ad) tb M st).set b ((gw g ad).2.2.2 b, .inr (ci, (sn_f ad (st.1 b) (st.2 b) 0 fl).set k (.int v))) = sn_W (gw g ad) tb M (sn_wr st b k v) := by
    refine sn_put (by omega) ?_ (fun a ha => ⟨if_neg ha, rfl⟩)
    rw [hk, sn_f_set fl 0 k hf]
    show sn_cell (gw g ad) b (ci + 2, x, fl) (if b = b then upd (st.1 b) k v else st.1 b) (st.2 b) = _
    rw [if_pos rfl, Nat.zero_add]
    rfl
  rw [← e, show (gw g ad).2.2.2 b = g.2.2.2 b from x2 b hb]
  exact h1
/-- a method of the world is called -/
theorem cn_Vv (C : cn_Cx p s m args meth c g cc nL Ts own) (X : cn_X g N H0 tb M st ad H locs) {y : MethodName} {ws : List Cond} {rm : Room} {b : Nat} {As : List Value} {Cn : String} {T : u_T} {n' ci index n maxL : Nat} {bytes : ByteArray} {retc : Option FieldType} {x : Nat} {fl : List (Nat × Nat)} (hM : sn_Mv l y ws rm (gw g ad) tb M (.ref (g.2.2.2 b) :: As) st st') (cw : CallW R s args own Cn index y bytes maxL retc ws rm 0 0 n) (hb : b < N) (hk : tb b = (ci + 2, x, fl)) (hc : vwCl[ci]? = some (Cn, T, n')) (hn : As.length = n) (hsz : ls.size = nL) (hst : stk = As.reverse ++ .ref (g.2.2.2 b) :: rest) (hw : (rest.map fun v => v.category).sum ≤ 8) (hcl : cells ≤ R.cells) (hsl : slots ≤ R.slots) (hdg : decode cc pc = .ok (.invokevirtual index, 3))
    (kk : ∀ (H1 : Heap) (locs1 : List Loc), cn_X g N H0 tb M st' ad H1 locs1 → W p l e R s m args below meth c H1 locs1 cells slots Q (F0 m (pc + 3) ls rest)) : W p l e R s m args below meth c H locs cells slots Q (F0 m pc ls stk) := by
  obtain ⟨⟨hx, hbb, hml, hown, hts⟩, -, -, -, hC⟩ := id C
  obtain ⟨x1, x2, x3, x4, x5, x6, x7⟩ := id X
  unfold sn_Mv sn_Qv at hM
  have he : (sn_W (gw g ad) tb M st)[b]? = some (g.2.2.2 b, .inr (ci, sn_f ad (st.1 b) (st.2 b) 0 fl)) := by
    rw [sn_at (by omega), hk, ← x2 b hb]; rfl
  have hsub : ∀ q, sn_A (gw g ad) M q → cn_A g N H0.size q := fun q ⟨c, hc, hq⟩ => by rw [hq]; exact X.inA hc
  refine va_callv (va_runV (As := As) (rest := rest) C.1 hM cw ⟨sn_blind, va_recv hC.1.1 x6 hc he, fun U hU hW => ⟨rfl, hC.1.moved hW, by rw [hU]; exact x6⟩⟩ rfl hn hsz hst (lv_room hw) hdg ⟨hcl, hsl⟩) x7 (fun q _ h => hsub q h) (fun q h => hsub q h) (fun u t H1 locs1 ht _ _ hB _ _ hS1 => ?_)
  rw [ht] at hB
  exact kk H1 locs1 (X.to x5 hB hS1)
/-- behind a constructor that was called -/
theorem cn_kI (C : cn_Cx p s m args meth c g cc nL Ts own) (X : cn_X g N H0 tb M st ad H locs) {M' mc ms : Nat} {a : Array Value} (hr : va_Run p l e R s m args below meth c H locs cells slots mc ms (F0 m pc ls stk) rest (cn_Q (gw g ad) M H.size tb' M' st' a) (cn_A (gw g ad) M H.size))
    (kk : ∀ (ad' : Nat → Nat) (H1 : Heap) (locs1 : List Loc), (∀ c, c < M → ad' c = ad c) → cn_X g N H0 tb' M' st' ad' H1 locs1 → W p l e R s m args below meth c H1 locs1 (cells + mc) (slots + ms) Q (F0 m (pc + 3) ls rest)) : W p l e R s m args below meth c H locs cells slots Q (F0 m pc ls stk) := by
  obtain ⟨x1, x2, x3, x4, x5, x6, x7⟩ := id X
  have hsub : ∀ q, cn_A (gw g ad) M H.size q → cn_A g N H0.size q := fun q h => by
    rcases h with ⟨c, hc, hq⟩ | h
    · rw [hq]; exact X.inA hc
    · exact Or.inr (Nat.le_trans x7.1 h)
  unfold cn_Q at hr
  refine va_callv hr x7 (fun q _ h => hsub q h) (fun q h => hsub q h) (fun ad' t H1 locs1 ht _ hp hB _ _ hS1 => ?_)
  obtain ⟨y2, y3, y4, y5, y1⟩ := hp
  rw [ht] at hB
  refine kk ad' H1 locs1 y2 ⟨by omega, fun c hc => (y2 c (by omega)).trans (x2 c hc), fun c h1 h2 => ?_, y4, y5, hB, hS1⟩
  by_cases hc : c < M
  · rw [y2 c hc]; exact x3 c h1 hc
  · exact Nat.le_trans x7.1 (y3 c (by omega) h2)
theorem cn_pre {U : State} {av : List Value} (C : cn_Cx p s m args meth c g cc nL Ts own) (X : cn_X g N H0 tb M st ad H locs) (hU : U.heap = H) (hW : s.WarmedH U.vm) : cn_P (gw g ad) tb M av st H.size av.toArray U := ⟨rfl, by rw [hU], (C.2.2.2.2).moved hW, by rw [hU]; exact X.2.2.2.2.2.1⟩
end CN2
