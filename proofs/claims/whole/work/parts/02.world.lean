/-! THE WORLD: one list of cells for the whole system; cell c lies at address ad c; its whole content is st.1 c (ints) and st.2 c (a long); tb c says of what kind it is. -/
abbrev sn_K : Type := Nat × Nat × List (Nat × Nat)
abbrev sn_S : Type := (Nat → Nat → Int32) × (Nat → Int64)
abbrev sn_G : Type := va_G × ClassId × ClassId × (Nat → Nat)
def sn_fv (ad : Nat → Nat) (f : Nat → Int32) (h : Int64) (j : Nat) (q : Nat × Nat) : Value := match q.1 with
  | 0 => .int (f j)
  | 1 => .ref (ad q.2)
  | 2 => .null
  | _ => .long h
def sn_f (ad : Nat → Nat) (f : Nat → Int32) (h : Int64) : Nat → List (Nat × Nat) → List Value
  | _, [] => []
  | j, q :: l => sn_fv ad f h j q :: sn_f ad f h (j + 1) l
def sn_cell (g : sn_G) (c : Nat) (k : sn_K) (f : Nat → Int32) (h : Int64) : va_E := match k.1 with
  | 0 => .inl (g.2.1, k.2.1, .inl f)
  | 1 => .inl (g.2.2.1, k.2.1, .inr (.inr (.inr (.inr (fun i => if i < k.2.1 then some (g.2.2.2 (c + 1 + i)) else none)))))
  | o + 2 => .inr (o, sn_f g.2.2.2 f h 0 k.2.2)
def sn_W (g : sn_G) (tb : Nat → sn_K) (N : Nat) (st : sn_S) : va_W := (List.range N).map (fun c => (g.2.2.2 c, sn_cell g c (tb c) (st.1 c) (st.2 c)))
/-- an int is written -/
def sn_wr (st : sn_S) (c k : Nat) (v : Int32) : sn_S := (fun a => if a = c then upd (st.1 c) k v else st.1 a, st.2)
/-- a long is written -/
def sn_wl (st : sn_S) (c : Nat) (v : Int64) : sn_S := (st.1, fun a => if a = c then v else st.2 a)
/-- the first n ints of cell c are laid into cell d -/
def sn_cp (st : sn_S) (c d n : Nat) : sn_S := (fun a => if a = d then va_cpy (st.1 c) (st.1 d) 0 0 n else st.1 a, st.2)
/-- an index into n places -/
def sn_ix (i : Int32) (n : Nat) : Option Nat := if i < 0 ∨ n ≤ i.toNatClampNeg then none else some i.toNatClampNeg
theorem sn_ix_some {i : Int32} {n k : Nat} (h : sn_ix i n = some k) : vp_in i n ∧ i.toNatClampNeg = k ∧ k < n := by
  unfold sn_ix at h
  by_cases c : i < 0 ∨ n ≤ i.toNatClampNeg
  · rw [if_pos c] at h; cases h
  · rw [if_neg c] at h
    have h := Option.some.inj h
    refine ⟨c, h, ?_⟩
    rw [← h]
    exact Nat.not_le.mp fun q => c (Or.inr q)
theorem sn_ix_nI {k n : Nat} (h : k < n) (hn : n < 2 ^ 31) : sn_ix (nI k) n = some k := by
  unfold sn_ix
  rw [if_neg (nI_in h hn), nI_clamp (by omega)]
theorem sn_at {g : sn_G} {tb : Nat → sn_K} {N : Nat} {st : sn_S} {c : Nat} (hc : c < N) : (sn_W g tb N st)[c]? = some (g.2.2.2 c, sn_cell g c (tb c) (st.1 c) (st.2 c)) := by
  unfold sn_W
  rw [List.getElem?_map, List.getElem?_range hc]
  rfl
theorem sn_out {g : sn_G} {tb : Nat → sn_K} {N : Nat} {st : sn_S} {c : Nat} (hc : ¬ c < N) : (sn_W g tb N st)[c]? = none := by
  unfold sn_W
  rw [List.getElem?_map, List.getElem?_eq_none (by rw [List.length_range]; omega)]
  rfl
theorem sn_inv {g : sn_G} {tb : Nat → sn_K} {N : Nat} {st : sn_S} {c : Nat} {q : Nat × va_E} (h : (sn_W g tb N st)[c]? = some q) : c < N ∧ q.1 = g.2.2.2 c := by
  by_cases hc : c < N
  · rw [sn_at hc] at h
    cases h
    exact ⟨hc, rfl⟩
  · rw [sn_out hc] at h
    cases h
def sn_I (g : sn_G) (N : Nat) : Prop := ∀ i j, i < N → j < N → g.2.2.2 i = g.2.2.2 j → i = j
def sn_A (g : sn_G) (N : Nat) : Nat → Prop := fun q => ∃ c, c < N ∧ q = g.2.2.2 c
theorem sn_D {g : sn_G} {tb : Nat → sn_K} {N : Nat} {st : sn_S} (hi : sn_I g N) : va_D (sn_A g N) (sn_W g tb N st) := by
  refine ⟨fun i j p q h1 h2 e => ?_, fun k q h => ?_⟩
  · obtain ⟨a, b⟩ := sn_inv h1
    obtain ⟨a2, b2⟩ := sn_inv h2
    exact hi i j a a2 (by rw [← b, ← b2]; exact e)
  · obtain ⟨a, b⟩ := sn_inv h
    exact ⟨k, a, b⟩
/-- a cell's content is replaced -/
theorem sn_put {g : sn_G} {tb : Nat → sn_K} {N : Nat} {st st' : sn_S} {c : Nat} {e : va_E} (hc : c < N) (he : sn_cell g c (tb c) (st'.1 c) (st'.2 c) = e) (ho : ∀ a, a ≠ c → st'.1 a = st.1 a ∧ st'.2 a = st.2 a) : (sn_W g tb N st).set c (g.2.2.2 c, e) = sn_W g tb N st' := by
  apply List.ext_getElem?
  intro i
  by_cases hi : i = c
  · subst hi
    rw [List.getElem?_set_self (by unfold sn_W; rw [List.length_map, List.length_range]; exact hc), sn_at hc, he]
  · rw [List.getElem?_set_ne (Ne.symm hi)]
    by_cases hN : i < N
    · rw [sn_at hN, sn_at hN, (ho i hi).1, (ho i hi).2]
    · rw [sn_out hN, sn_out hN]
theorem sn_f_low {ad : Nat → Nat} {f : Nat → Int32} {h : Int64} {x : Int32} : ∀ (fl : List (Nat × Nat)) (j i : Nat), i < j → sn_f ad (upd f i x) h j fl = sn_f ad f h j fl
  | [], _, _, _ => rfl
  | q :: l, j, i, hij => by
    show sn_fv ad (upd f i x) h j q :: _ = sn_fv ad f h j q :: _
    rw [sn_f_low l (j + 1) i (by omega)]
    congr 1
    unfold sn_fv
    split <;> first | rfl | (rw [pk_un (by omega)])
theorem sn_f_set {ad : Nat → Nat} {f : Nat → Int32} {h : Int64} {x : Int32} {d : Nat} : ∀ (fl : List (Nat × Nat)) (j k : Nat), fl[k]? = some (0, d) → (sn_f ad f h j fl).set k (.int x) = sn_f ad (upd f (j + k) x) h j fl
  | [], _, _, e => by simp at e
  | q :: l, j, 0, e => by
    have e : q = (0, d) := by simpa using e
    subst e
    show (.int x :: sn_f ad f h (j + 1) l) = sn_fv ad (upd f (j + 0) x) h j (0, d) :: _
    rw [sn_f_low l (j + 1) (j + 0) (by omega)]
    congr 1
    show Value.int x = .int (upd f (j + 0) x j)
    rw [Nat.add_zero, pk_us]
  | q :: l, j, k + 1, e => by
    show sn_fv ad f h j q :: (sn_f ad f h (j + 1) l).set k (.int x) = sn_fv ad (upd f (j + (k + 1)) x) h j q :: _
    rw [sn_f_set l (j + 1) k (by simpa using e)]
    rw [show j + 1 + k = j + (k + 1) by omega]
    congr 1
    unfold sn_fv
    split <;> first | rfl | (rw [pk_un (by omega)])
theorem sn_f_len {ad : Nat → Nat} {f : Nat → Int32} {h : Int64} : ∀ (fl : List (Nat × Nat)) (j : Nat), (sn_f ad f h j fl).length = fl.length
  | [], _ => rfl
  | _ :: l, j => by show (sn_f ad f h (j + 1) l).length + 1 = l.length + 1; rw [sn_f_len l (j + 1)]
/-- the words on nest mates -/
def sn_nw : List Cond := [.methodLinkNest RX5 11 yX0_init RX5, .methodLinkNest RX3 43 yX5_has RX5, .methodLinkNest RX0 27 yX4_init RX5, .methodLinkNest RX0 80 yX5_below RX5, .methodLinkNest RX0 87 yX5_has RX5, .methodLinkNest RX2 116 yX5_has RX5, .methodLinkNest RX2 143 yX5_below RX5, .methodLinkNest RX2 146 yX5_greatest RX5, .methodLinkNest RX1 47 yX5_has RX5, .methodLinkNest RX3 47 yX5_pick RX5, .methodLinkNest RX2 86 yX5_pick RX5, .methodLinkNest RX0 97 yX5_greatest RX5]
def sn_C (g : sn_G) (U : State) : Prop := va_K g.1 vwCl [(g.2.1, .int), (g.2.2.1, .array .int)] U ∧ ∀ w ∈ sn_nw, va_Nw w U
theorem sn_C.moved {g : sn_G} {s U : State} (hW : s.WarmedH U.vm) (h : sn_C g s) : sn_C g U := by
  refine ⟨va_K.moved hW.alike h.1, ?_⟩
  have h2 := h.2
  simp only [sn_nw, List.forall_mem_cons, List.not_mem_nil, false_imp_iff, implies_true, and_true] at h2 ⊢
  obtain ⟨a1, a2, a3, a4, a5, a6, a7, a8, a9, a10, a11, a12⟩ := h2
  exact ⟨va_Nw.warmM hW a1, va_Nw.warmM hW a2, va_Nw.warmM hW a3, va_Nw.warmM hW a4, va_Nw.warmM hW a5, va_Nw.warmM hW a6, va_Nw.warmM hW a7, va_Nw.warmM hW a8, va_Nw.warmM hW a9, va_Nw.warmM hW a10, va_Nw.warmM hW a11, va_Nw.warmM hW a12⟩
theorem sn_C.calling {g : sn_G} {U : State} {a : Array Value} {f : JFrame} {mk : MethodId} (h : sn_C g U) : sn_C g (U.calling f mk a) := by
  refine ⟨va_K.moved (u := U) (U := U.calling f mk a) (Vm.Alike.refl U.vm) h.1, ?_⟩
  have h2 := h.2
  simp only [sn_nw, List.forall_mem_cons, List.not_mem_nil, false_imp_iff, implies_true, and_true] at h2 ⊢
  obtain ⟨a1, a2, a3, a4, a5, a6, a7, a8, a9, a10, a11, a12⟩ := h2
  exact ⟨va_Nw.same rfl rfl a1, va_Nw.same rfl rfl a2, va_Nw.same rfl rfl a3, va_Nw.same rfl rfl a4, va_Nw.same rfl rfl a5, va_Nw.same rfl rfl a6, va_Nw.same rfl rfl a7, va_Nw.same rfl rfl a8, va_Nw.same rfl rfl a9, va_Nw.same rfl rfl a10, va_Nw.same rfl rfl a11, va_Nw.same rfl rfl a12⟩
def sn_Pre (g : sn_G) (tb : Nat → sn_K) (N : Nat) (av : List Value) (st : sn_S) : Array Value → State → Prop := va_Pc av (fun U => sn_C g U ∧ va_P g.1 vwCl (sn_W g tb N st) U.heap)
def sn_Qi (g : sn_G) (tb : Nat → sn_K) (N : Nat) (r : Int32) (st : sn_S) : Array Value → State → Outcome → State → Prop := va_Qi (fun x (_ : Unit) => x = r) (fun _ t => va_P g.1 vwCl (sn_W g tb N st) t.heap) (sn_A g N)
def sn_Ql (g : sn_G) (tb : Nat → sn_K) (N : Nat) (r : Int64) (st : sn_S) : Array Value → State → Outcome → State → Prop := va_Ql (fun x (_ : Unit) => x = r) (fun _ t => va_P g.1 vwCl (sn_W g tb N st) t.heap) (sn_A g N)
def sn_Qv (g : sn_G) (tb : Nat → sn_K) (N : Nat) (st : sn_S) : Array Value → State → Outcome → State → Prop := va_Qv (fun (_ : Unit) => True) (fun _ t => va_P g.1 vwCl (sn_W g tb N st) t.heap) (sn_A g N)
def sn_Mi (l : Launch) (y : MethodName) (ws : List Cond) (rm : Room) (g : sn_G) (tb : Nat → sn_K) (N : Nat) (av : List Value) (st : sn_S) (r : Int32) (st' : sn_S) : Prop := Met l y ws rm (sn_Pre g tb N av st) (sn_Qi g tb N r st') 0 0 (sn_A g N)
def sn_Ml (l : Launch) (y : MethodName) (ws : List Cond) (rm : Room) (g : sn_G) (tb : Nat → sn_K) (N : Nat) (av : List Value) (st : sn_S) (r : Int64) (st' : sn_S) : Prop := Met l y ws rm (sn_Pre g tb N av st) (sn_Ql g tb N r st') 0 0 (sn_A g N)
def sn_Mv (l : Launch) (y : MethodName) (ws : List Cond) (rm : Room) (g : sn_G) (tb : Nat → sn_K) (N : Nat) (av : List Value) (st : sn_S) (st' : sn_S) : Prop := Met l y ws rm (sn_Pre g tb N av st) (sn_Qv g tb N st') 0 0 (sn_A g N)
theorem sn_blind {g : sn_G} {tb : Nat → sn_K} {N : Nat} {av : List Value} {st : sn_S} : FrameBlind (sn_Pre g tb N av st) := fun _ _ _ _ q => ⟨q.1, q.2.1.calling, q.2.2⟩
/-- what stands still in a method's walk -/
def sn_Cx (p : Program) (s : State) (m : MethodId) (args : Array Value) (meth : Method) (c : Code) (g : sn_G) (N : Nat) (cc : ByteArray) (nL : Nat) (Ts : List Cond) (own : String) (ret : Option FieldType) : Prop := CallFix p m c cc nL s args Ts own ∧ meth.sig.returnType = ret ∧ meth.locks = false ∧ sn_C g s ∧ sn_I g N
section SNR
variable {p : Program} {l : Launch} {e : Env} {R : Room} {s : State} {m : MethodId} {args : Array Value} {below : List Frame} {meth : Method} {c : Code} {H : Heap} {locs : List Loc} {cells slots : Nat} {Q : State → Prop}
variable {cc : ByteArray} {pc nL : Nat} {ls : Array Slot} {rest : List Value} {g : sn_G} {tb : Nat → sn_K} {N : Nat} {st : sn_S} {Ts : List Cond} {own : String} {ret : Option FieldType} {H0 : Heap}
/-- a field is read -/
theorem sn_get (C : sn_Cx p s m args meth c g N cc nL Ts own ret) {ref Cn : String} {T : u_T} {n ci index : Nat} (hin : ∀ w ∈ u_ws Cn T n, w ∈ Ts) (hP : va_P g.1 vwCl (sn_W g tb N st) H) (q : Nat) (hq : q < N) {x : Nat} {fl : List (Nat × Nat)} (hk : tb q = (ci + 2, x, fl)) (hc : vwCl[ci]? = some (Cn, T, n)) (k : Nat) (hkn : k < n) (hlink : Cond.fieldLink own index ref (T k).2.1 (T k).2.2.1 ∈ Ts) (href : ref = (T k).1) {v : Value} (hv : (sn_f g.2.2.2 (st.1 q) (st.2 q) 0 fl)[k]? = some v) (hdg : decode cc pc = .ok (.getfield index, 3))
    (kk : W p l e R s m args below meth c H locs cells slots Q (F0 m (pc + 3) ls (v :: rest))) : W p l e R s m args below meth c H locs cells slots Q (F0 m pc ls (.ref (g.2.2.2 q) :: rest)) := by
  obtain ⟨⟨hx, hb, hml, hown, hts⟩, -, -, hC, hi⟩ := C
  have he : (sn_W g tb N st)[q]? = some (g.2.2.2 q, .inr (ci, sn_f g.2.2.2 (st.1 q) (st.2 q) 0 fl)) := by rw [sn_at hq, hk]; rfl
  subst href
  exact va_get hx hb hts hin hown hC.1 hP q he hc k hkn (hts _ hlink) (fun _ h9 => h9) hv hdg kk
/-- an int field is written -/
theorem sn_pf (C : sn_Cx p s m args meth c g N cc nL Ts own ret) {ref Cn : String} {T : u_T} {n ci index : Nat} (hin : ∀ w ∈ u_ws Cn T n, w ∈ Ts) {ty0 : Nat → FieldType} (hty : ∀ k, k < n → parseFieldDescriptor (T k).2.2.1 = some (ty0 k)) (hnm : ∀ a, a < n → ∀ b, b < n → a ≠ b → (T a).2.1 ≠ (T b).2.1) (hP : va_P g.1 vwCl (sn_W g tb N st) H) (hS : va_S (sn_A g N) H0 H locs) (q : Nat) (hq : q < N) {x d : Nat} {fl : List (Nat × Nat)} (hk : tb q = (ci + 2, x, fl)) (hc : vwCl[ci]? = some (Cn, T, n)) (k : Nat) (hkn : k < n) (hlink : Cond.fieldLink own index ref (T k).2.1 (T k).2.2.1 ∈ Ts) (href : ref = (T k).1) (hfin : (T k).2.2.2 = false) (hf : fl[k]? = some (0, d)) {v : Int32} (hn : narrow (ty0 k) (.int v) = .int v) (hfit : fits (ty0 k) (.int v) = true) (hdg : decode cc pc = .ok (.putfield index, 3))
    (kk : ∀ (H1 : Heap) (locs1 : List Loc), va_P g.1 vwCl (sn_W g tb N (sn_wr st q k v)) H1 → va_S (sn_A g N) H0 H1 locs1 → W p l e R s m args below meth c H1 locs1 cells slots Q (F0 m (pc + 3) ls rest)) : W p l e R s m args below meth c H locs cells slots Q (F0 m pc ls (.int v :: .ref (g.2.2.2 q) :: rest)) := by
  obtain ⟨⟨hx, hb, hml, hown, hts⟩, -, -, hC, hi⟩ := C
  have he : (sn_W g tb N st)[q]? = some (g.2.2.2 q, .inr (ci, sn_f g.2.2.2 (st.1 q) (st.2 q) 0 fl)) := by rw [sn_at hq, hk]; rfl
  subst href
  refine va_put hx hb hts hin ty0 hty hnm hown hC.1 hP (sn_D hi) hS q he hc k hkn (hts _ hlink) (fun _ h9 => h9) hfin (hty k hkn) hn hfit (by rw [sn_f_len]; exact (List.getElem?_eq_some_iff.mp hf).1) hdg (fun H1 locs1 h1 _ h3 => kk H1 locs1 ?_ h3)
  have e : (sn_W g tb N st).set q (g.2.2.2 q, .inr (ci, (sn_f g.2.2.2 (st.1 q) (st.2 q) 0 fl).set k (.int v))) = sn_W g tb N (sn_wr st q k v) := by
    refine sn_put hq ?_ (fun a ha => ⟨if_neg ha, rfl⟩)
    rw [hk, sn_f_set fl 0 k hf]
    show sn_cell g q (ci + 2, x, fl) (if q = q then upd (st.1 q) k v else st.1 q) (st.2 q) = _
    rw [if_pos rfl, Nat.zero_add]
    rfl
  rw [← e]
  exact h1
/-- an int of an array is read -/
theorem sn_ald (C : sn_Cx p s m args meth c g N cc nL Ts own ret) (hP : va_P g.1 vwCl (sn_W g tb N st) H) (q : Nat) (hq : q < N) {n : Nat} {fl : List (Nat × Nat)} (hk : tb q = (0, n, fl)) {α : Type} {F : Nat → Option α} {o : α} {i : Int32} (hd : (sn_ix i n).bind F = some o) (hdg : decode cc pc = .ok (.iaload, 1))
    (kk : ∀ k : Nat, k < n → F k = some o → W p l e R s m args below meth c H locs cells slots Q (F0 m (pc + 1) ls (.int (st.1 q k) :: rest))) : W p l e R s m args below meth c H locs cells slots Q (F0 m pc ls (.int i :: .ref (g.2.2.2 q) :: rest)) := by
  obtain ⟨⟨hx, hb, hml, hown, hts⟩, -, -, hC, hi⟩ := C
  obtain ⟨k, h1, h2⟩ := Option.bind_eq_some_iff.mp hd
  obtain ⟨h3, h4, h5⟩ := sn_ix_some h1
  have he : (sn_W g tb N st)[q]? = some (g.2.2.2 q, .inl (g.2.1, n, .inl (st.1 q))) := by rw [sn_at hq, hk]; rfl
  refine va_iald hx hb hC.1 hP q 0 he rfl h3 hdg ?_
  rw [h4]
  exact kk k h5 h2
/-- an int of an array is written -/
theorem sn_ast (C : sn_Cx p s m args meth c g N cc nL Ts own ret) (hP : va_P g.1 vwCl (sn_W g tb N st) H) (hS : va_S (sn_A g N) H0 H locs) (q : Nat) (hq : q < N) {n : Nat} {fl : List (Nat × Nat)} (hk : tb q = (0, n, fl)) {α : Type} {F : Nat → Option α} {o : α} {i v : Int32} (hd : (sn_ix i n).bind F = some o) (hdg : decode cc pc = .ok (.iastore, 1))
    (kk : ∀ (k : Nat) (H1 : Heap) (locs1 : List Loc), k < n → F k = some o → va_P g.1 vwCl (sn_W g tb N (sn_wr st q k v)) H1 → va_S (sn_A g N) H0 H1 locs1 → W p l e R s m args below meth c H1 locs1 cells slots Q (F0 m (pc + 1) ls rest)) : W p l e R s m args below meth c H locs cells slots Q (F0 m pc ls (.int v :: .int i :: .ref (g.2.2.2 q) :: rest)) := by
  obtain ⟨⟨hx, hb, hml, hown, hts⟩, -, -, hC, hi⟩ := C
  obtain ⟨k, h1, h2⟩ := Option.bind_eq_some_iff.mp hd
  obtain ⟨h3, h4, h5⟩ := sn_ix_some h1
  have he : (sn_W g tb N st)[q]? = some (g.2.2.2 q, .inl (g.2.1, n, .inl (st.1 q))) := by rw [sn_at hq, hk]; rfl
  refine va_iast hx hb hC.1 hP (sn_D hi) hS q 0 he rfl h3 hdg (fun H1 locs1 a1 _ a3 => kk k H1 locs1 h5 h2 ?_ a3)
  have e : (sn_W g tb N st).set q (g.2.2.2 q, .inl (g.2.1, n, .inl (upd (st.1 q) i.toNatClampNeg v))) = sn_W g tb N (sn_wr st q k v) := by
    refine sn_put hq ?_ (fun a ha => ⟨if_neg ha, rfl⟩)
    rw [hk, h4]
    show sn_cell g q (0, n, fl) (if q = q then upd (st.1 q) k v else st.1 q) (st.2 q) = _
    rw [if_pos rfl]
    rfl
  rw [← e]
  exact a1
/-- a row of an array of arrays -/
theorem sn_aald (C : sn_Cx p s m args meth c g N cc nL Ts own ret) (hP : va_P g.1 vwCl (sn_W g tb N st) H) (q : Nat) (hq : q < N) {n : Nat} {fl : List (Nat × Nat)} (hk : tb q = (1, n, fl)) {α : Type} {F : Nat → Option α} {o : α} {i : Int32} (hd : (sn_ix i n).bind F = some o) (hdg : decode cc pc = .ok (.aaload, 1))
    (kk : ∀ k : Nat, k < n → F k = some o → W p l e R s m args below meth c H locs cells slots Q (F0 m (pc + 1) ls (.ref (g.2.2.2 (q + 1 + k)) :: rest))) : W p l e R s m args below meth c H locs cells slots Q (F0 m pc ls (.int i :: .ref (g.2.2.2 q) :: rest)) := by
  obtain ⟨⟨hx, hb, hml, hown, hts⟩, -, -, hC, hi⟩ := C
  obtain ⟨k, h1, h2⟩ := Option.bind_eq_some_iff.mp hd
  obtain ⟨h3, h4, h5⟩ := sn_ix_some h1
  have he : (sn_W g tb N st)[q]? = some (g.2.2.2 q, .inl (g.2.2.1, n, .inr (.inr (.inr (.inr (fun i => if i < n then some (g.2.2.2 (q + 1 + i)) else none)))))) := by rw [sn_at hq, hk]; rfl
  have hlt : i.toNatClampNeg < n := by rw [h4]; exact h5
  refine W.aald (v := .ref (g.2.2.2 (q + 1 + k))) (ty := .array .int) hx hb (hP q _ he) ((hC.1.2 1 _ rfl).1 n (fun j => va_rf (if j < n then some (g.2.2.2 (q + 1 + j)) else none))) rfl (fun q => by cases q) (by show ¬ (i < 0 ∨ (arrV _ _ _).slots.size ≤ _); rw [arrV_size]; exact h3) (by show (arrV _ _ _).slots[_]? = _; rw [arrV_read _ _ hlt, h4]; show some (va_rf (if k < n then some (g.2.2.2 (q + 1 + k)) else none)) = _; rw [if_pos h5]; rfl) rfl rfl hdg (kk k h5 h2)
end SNR
