/-! MAKING: new int[N][M], step by step -/
/-- the outer row, i of its places filled -/
def mo (cA : ClassId) (N h i : Nat) : Cell := arrV cA N (fun j => va_rf (if j < i then some (h + 1 + j) else none))
def mi (cI : ClassId) (M : Nat) : Cell := arrV cI M (fun _ => .int 0)
theorem mo_0 (cA : ClassId) (N h : Nat) : ({ cls := cA, slots := Array.replicate N .null, vm := .none } : Cell) = mo cA N h 0 := by
  unfold mo
  rw [arrV_new]
  refine congrArg (arrV cA N) (funext fun j => ?_)
  rw [if_neg (by omega)]
  rfl
theorem mi_0 (cI : ClassId) (M : Nat) : ({ cls := cI, slots := Array.replicate M (.int 0), vm := .none } : Cell) = mi cI M := arrV_new cI M (.int 0)
theorem mo_s (cA : ClassId) (N h i : Nat) : (mo cA N h i).setSlot i (.ref (h + 1 + i)) = mo cA N h (i + 1) := by
  unfold mo
  rw [arrV_store]
  refine congrArg (arrV cA N) (funext fun j => ?_)
  unfold updV
  by_cases e : j = i
  · rw [if_pos e, if_pos (by omega), e]; rfl
  · rw [if_neg e]
    show va_rf (if j < i then some (h + 1 + j) else none) = _
    by_cases q : j < i
    · rw [if_pos q, if_pos (by omega)]
    · rw [if_neg q, if_neg (by omega)]
theorem mo_f (cA : ClassId) (N h i : Nat) : (mo cA N h i).cls = cA ∧ (mo cA N h i).vm = .none ∧ (mo cA N h i).slots.size = N := ⟨rfl, rfl, arrV_size _ _ _⟩
/-- the state behind i rows -/
def mz (T : State) (cA cI : ClassId) (N M : Nat) : Nat → State
  | 0 => T.pushCell (mo cA N T.heap.size 0)
  | i + 1 => ((mz T cA cI N M i).pushCell (mi cI M)).setCell T.heap.size (mo cA N T.heap.size (i + 1))
theorem mz_f (T : State) (cA cI : ClassId) (N M : Nat) : ∀ i, (mz T cA cI N M i).heap.size = T.heap.size + 1 + i ∧ (mz T cA cI N M i).heap[T.heap.size]? = some (mo cA N T.heap.size i) ∧ (mz T cA cI N M i).vm = T.vm ∧ (mz T cA cI N M i).slotsUsed = T.slotsUsed + N + i * M
  | 0 => ⟨by simp [mz], by simp [mz], rfl, by simp [mz, (mo_f cA N T.heap.size 0).2.2]⟩
  | i + 1 => by
    obtain ⟨a, b, d, u⟩ := mz_f T cA cI N M i
    have hb' : ((mz T cA cI N M i).pushCell (mi cI M)).heap[T.heap.size]? = some (mo cA N T.heap.size i) := by rw [State.heap_pushCell_of_lt (h := show T.heap.size < _ by rw [a]; omega)]; exact b
    have hsz : (mi cI M).slots.size = M := arrV_size _ _ _
    refine ⟨by simp [mz, State.setCell, a]; omega, State.heap_setCell_self hb', by simp [mz, d], ?_⟩
    simp [mz, u, hsz, Nat.succ_mul]
    omega
theorem mz_o (T : State) (cA cI : ClassId) (N M : Nat) {a : Addr} (ha : a < T.heap.size) : ∀ i, (mz T cA cI N M i).heap[a]? = T.heap[a]?
  | 0 => State.heap_pushCell_of_lt _ _ ha
  | i + 1 => by
    have f1 := (mz_f T cA cI N M i).1
    show (((mz T cA cI N M i).pushCell (mi cI M)).setCell T.heap.size _).heap[a]? = _
    rw [State.heap_setCell_other (Nat.ne_of_gt ha), State.heap_pushCell_of_lt (h := Nat.lt_of_lt_of_le ha (by rw [f1]; omega))]
    exact mz_o T cA cI N M ha i
theorem mz_i (T : State) (cA cI : ClassId) (N M : Nat) : ∀ i j, j < i → (mz T cA cI N M i).heap[T.heap.size + 1 + j]? = some (mi cI M)
  | 0, _, h => absurd h (Nat.not_lt_zero _)
  | i + 1, j, h => by
    have f1 := (mz_f T cA cI N M i).1
    show (((mz T cA cI N M i).pushCell (mi cI M)).setCell T.heap.size _).heap[T.heap.size + 1 + j]? = _
    rw [State.heap_setCell_other (show T.heap.size ≠ T.heap.size + 1 + j by omega)]
    by_cases e : j = i
    · subst e
      rw [← f1]
      exact State.heap_pushCell_size _ _
    · rw [State.heap_pushCell_of_lt (h := show T.heap.size + 1 + j < _ by rw [f1]; omega)]
      exact mz_i T cA cI N M i j (by omega)
theorem mz_t (T : State) (f : JFrame) (cA cI : ClassId) (N M : Nat) : ∀ i, mz (T.setTop f) cA cI N M i = (mz T cA cI N M i).setTop f
  | 0 => rfl
  | i + 1 => by simp only [mz, mz_t T f cA cI N M i, State.heap_setTop, State.pushCell_setTop, State.setCell_setTop]
section MZS
variable {p : Program} {l : Launch} {e : Env} {R : Room} {s : State} {m : MethodId} {args : Array Value} {below : List Frame} {meth : Method} {c : Code} {T : State} {locs : List Loc} {cells slots : Nat}
theorem mz_X (X : Stand p l e R s m args below meth c T locs cells slots) (cA cI : ClassId) (N M : Nat) : ∀ i, Stand p l e R s m args below meth c (mz T cA cI N M i) (locs ++ (List.range i).map fun j => ⟨T.heap.size, j⟩) (cells + 1 + i) (slots + N + i * M)
  | 0 => by
    have h := X.pushed (mo cA N T.heap.size 0)
    rw [(mo_f cA N T.heap.size 0).2.2] at h
    simpa [mz] using h
  | i + 1 => by
    obtain ⟨f1, f2, -, -⟩ := mz_f T cA cI N M i
    have hcell : ((mz T cA cI N M i).pushCell (mi cI M)).heap[T.heap.size]? = some (mo cA N T.heap.size i) := by rw [State.heap_pushCell_of_lt (h := show T.heap.size < _ by rw [f1]; omega)]; exact f2
    have h := ((mz_X X cA cI N M i).pushed (mi cI M)).stored hcell i (.ref (T.heap.size + 1 + i))
    have hsz : (mi cI M).slots.size = M := arrV_size _ _ _
    rw [hsz, mo_s] at h
    have e2 : (locs ++ (List.range (i + 1)).map fun j => (⟨T.heap.size, j⟩ : Loc)) = (locs ++ (List.range i).map fun j => (⟨T.heap.size, j⟩ : Loc)) ++ [⟨T.heap.size, i⟩] := by simp [List.range_succ, List.append_assoc]
    have e3 : slots + N + (i + 1) * M = slots + N + i * M + M := by rw [Nat.succ_mul]; omega
    rw [e2, e3]
    exact h
end MZS
section MZW
variable {E : CtlPost} {e : Env} {d : Bool} {acts : List Action} {S : State}
theorem mz_w1 {cI cc : ClassId} {kI : Class} {k : Int32} {M : Nat} (hkI : S.vm.classes[cI]? = some kI) (hk2 : kI.kind = .array cc .int) (hk : ¬ k < 0) (hM : k.toNatClampNeg = M) (hl : ¬ M > e.platform.arrayLengthLimit) (hh : ¬ M * componentBytes .int > e.platform.maxHeapBytes) (h1 : S.heap.size < e.platform.maxCells) (h2 : S.slotsUsed + M ≤ e.platform.maxSlots) {Q : Addr → Pre} (hq : ∀ acts', Q S.heap.size d acts' (S.pushCell (mi cI M))) : wp (multianewarray.make cI [k]) Q E e d acts S := by
  subst hM
  rw [multianewarray.make]
  simp only [wp_bind', W.ite, hk, if_false, wp_pure', W.theClass, hkI, hk2, Option.some.injEq, exists_eq_left']
  refine W.newArray_of hkI hk2 hl hh h1 h2 rfl (fun acts' => ?_)
  have := hq acts'
  rw [← mi_0] at this
  exact this
theorem mz_w2 {cA cI cc : ClassId} {kA kI : Class} {n k : Int32} {N M : Nat} (hkA : S.vm.classes[cA]? = some kA) (hkA2 : kA.kind = .array cI (.array .int)) (hkI : S.vm.classes[cI]? = some kI) (hkI2 : kI.kind = .array cc .int) (hn : ¬ n < 0) (hk : ¬ k < 0) (hN : n.toNatClampNeg = N) (hM : k.toNatClampNeg = M)
    (hl1 : ¬ N > e.platform.arrayLengthLimit) (hh1 : ¬ N * componentBytes (.array .int) > e.platform.maxHeapBytes) (hl2 : ¬ M > e.platform.arrayLengthLimit) (hh2 : ¬ M * componentBytes .int > e.platform.maxHeapBytes) (hc : S.heap.size + 1 + N ≤ e.platform.maxCells) (hs : S.slotsUsed + N + N * M ≤ e.platform.maxSlots)
    {Q : Addr → Pre} (hq : ∀ d' acts', Q S.heap.size d' acts' (mz S cA cI N M N)) : wp (multianewarray.make cA [n, k]) Q E e d acts S := by
  have hfind : ([k].find? (· < 0)) = none := by simp [hk]
  rw [multianewarray.make]
  simp only [wp_bind', W.ite, hn, if_false, wp_pure', W.theClass, hkA, hkA2, Option.some.injEq, exists_eq_left', hN]
  refine W.newArray_of hkA hkA2 hl1 hh1 (by omega) (by have := Nat.zero_le (N * M); omega) rfl (fun acts1 => ?_)
  rw [mo_0 cA N S.heap.size]
  simp only [hfind]
  rw [ite_self, wp_bind', Std.Legacy.Range.forIn_eq_forIn_range']
  have hsz : ([:N] : Std.Legacy.Range).size = N := by simp [Std.Legacy.Range.size]
  rw [hsz]
  show wp (forIn (List.range' 0 N 1) PUnit.unit _) _ E e d acts1 (mz S cA cI N M 0)
  refine wp_forIn_inv (fun rest s' => ∃ i, i ≤ N ∧ rest = List.range' i (N - i) ∧ s' = mz S cA cI N M i) _ _ ⟨0, Nat.zero_le _, rfl, rfl⟩ ?_ ?_
  · rintro x rest s' d' acts' Q' ⟨i, hi, hl, rfl⟩ hnext
    have hlt : i < N := by
      rcases Nat.lt_or_ge i N with h | h
      · exact h
      · rw [show N - i = 0 from by omega] at hl; simp at hl
    rw [show N - i = (N - (i + 1)) + 1 from by omega, List.range'_succ] at hl
    obtain ⟨rfl, hrest⟩ := List.cons.inj hl
    obtain ⟨f1, f2, f3, f4⟩ := mz_f S cA cI N M x
    obtain ⟨o1, o2, o3⟩ := mo_f cA N S.heap.size x
    have hmul : x * M + M ≤ N * M := by
      have := Nat.mul_le_mul_right M (show x + 1 ≤ N from hlt)
      rw [Nat.succ_mul] at this
      exact this
    have hlt0 : S.heap.size < (mz S cA cI N M x).heap.size := by rw [f1]; omega
    simp only [wp_bind']
    refine mz_w1 (by rw [f3]; exact hkI) hkI2 hk hM hl2 hh2 (by rw [f1]; omega) (by rw [f4]; omega) (fun acts2 => ?_)
    simp only [wp_bind', W.writeLoc, wp_pure']
    refine ⟨mo cA N S.heap.size x, by rw [State.heap_pushCell_of_lt (h := hlt0)]; exact f2, by rw [o2]; simp, by rw [o3]; exact hlt, ?_, hnext _ _ _ ⟨x + 1, hlt, hrest, ?_⟩⟩
    · rw [o1, o2]
      simp [State.fitsSlot, State.slotType?, f3, hkA, hkA2, fits]
    · rw [f1, mo_s]; rfl
  · rintro s' d' acts' ⟨i, hi, hl, rfl⟩
    have hiN : i = N := by
      rcases Nat.lt_or_ge i N with h | h
      · rw [show N - i = (N - (i + 1)) + 1 from by omega, List.range'_succ] at hl; cases hl
      · omega
    subst hiN
    simp only [wp_pure']
    exact hq _ _
end MZW
section MZR
variable {p : Program} {l : Launch} {e : Env} {R : Room} {s : State} {m : MethodId} {args : Array Value} {below : List Frame} {meth : Method} {c : Code} {H : Heap} {locs : List Loc} {cells slots : Nat} {Q : State → Prop}
variable {cc : ByteArray} {pc : Nat} {ls : Array Slot} {rest : List Value}
/-- the instruction -/
theorem mz_row (hexec : p.tables.exec = Jvm.exec) (hb : c.code = cc) {own : String} {index : Nat} (hown : s.vm.findClass own = some m.cls) (hclink : (Cond.classLink own index "[[I").before args s = true) {cA cI c1 : ClassId} {kA kI : Class} (hfA : s.vm.findClass "[[I" = some cA) (hkA : s.vm.classes[cA]? = some kA) (hkA2 : kA.kind = .array cI (.array .int)) (hkI : s.vm.classes[cI]? = some kI) (hkI2 : kI.kind = .array c1 .int)
    {n k : Int32} {N M : Nat} (hn : ¬ n < 0) (hk : ¬ k < 0) (hN : n.toNatClampNeg = N) (hM : k.toNatClampNeg = M) (hN1 : N ≤ 1000) (hM1 : M ≤ 1000) (hcells : cells + (1 + N) ≤ R.cells) (hslots : slots + (N + N * M) ≤ R.slots) (hdg : decode cc pc = .ok (.multianewarray index 2, 4))
    (kk : ∀ H1 : Heap, H1[H.size]? = some (mo cA N H.size N) → (∀ j, j < N → H1[H.size + 1 + j]? = some (mi cI M)) → (∀ q, q < H.size → H1[q]? = H[q]?) → H1.size = H.size + 1 + N → W p l e R s m args below meth c H1 locs (cells + 1 + N) (slots + N + N * M) Q (F0 m (pc + 4) ls (.ref H.size :: rest))) : W p l e R s m args below meth c H locs cells slots Q (F0 m pc ls (.int k :: .int n :: rest)) := by
  intro T hT X
  subst hT
  have hpl : e.platform.magicAccessors = ({} : Platform).magicAccessors := by rw [X.admits.platform]
  obtain ⟨c0, hfc0, hcl⟩ := Cond.classLink_spec hown hclink e.platform hpl
  cases hfA.symm.trans hfc0
  obtain ⟨hg₁, hwarm₁, hready₁⟩ := State.classEntry (e := e) X.warmed hcl
  generalize T.vm.noted m.cls index (.cls cA) = vm₁ at hg₁ hwarm₁ hready₁
  have hal : s.vm.Alike vm₁ := hwarm₁.alike
  obtain ⟨kA₁, hkA₁, heA⟩ := hal.2.2 _ _ hkA
  obtain ⟨kI₁, hkI₁, heI⟩ := hal.2.2 _ _ hkI
  have hkA3 : kA₁.kind = .array cI (.array .int) := by rw [heA]; exact hkA2
  have hkI3 : kI₁.kind = .array c1 .int := by rw [heI]; exact hkI2
  have X₁ := X.noted hwarm₁
  obtain ⟨hr1, hr2⟩ := X.roomAbove hcells hslots
  have XF := mz_X X₁ cA cI N M N
  obtain ⟨f1, f2, f3, f4⟩ := mz_f (T.setVm vm₁) cA cI N M N
  have XF2 := Stand.forget XF (fun y hy => by
    obtain ⟨j, -, rfl⟩ := List.mem_map.mp hy
    exact X.same.2.1)
  obtain ⟨t, a1, b1⟩ := kk _ f2 (fun j hj => mz_i (T.setVm vm₁) cA cI N M N j hj) (fun q hq => mz_o (T.setVm vm₁) cA cI N M hq N) f1 (mz (T.setVm vm₁) cA cI N M N) rfl XF2
  refine ⟨t, ?_, b1⟩
  have hl1 : ¬ N > e.platform.arrayLengthLimit := by rw [Launch.admits_arrayLengthLimit X.admits]; omega
  have hh1 : ¬ N * componentBytes (.array .int) > e.platform.maxHeapBytes := by
    rw [Launch.admits_maxHeapBytes X.admits]; show ¬ N * 4 > 536870912; omega
  have hl2 : ¬ M > e.platform.arrayLengthLimit := by rw [Launch.admits_arrayLengthLimit X.admits]; omega
  have hh2 : ¬ M * componentBytes .int > e.platform.maxHeapBytes := by
    rw [Launch.admits_maxHeapBytes X.admits]; show ¬ M * 4 > 536870912; omega
  jvm_step X.here [hexec, hb, hdg]
  simp only [multianewarray.sem, wp_bind', W.resolveClassAt_links (show (T.setTop (F0 m pc ls (.int k :: .int n :: rest))).method? = some m from State.method?_setTop _ X.here.top) hg₁]
  rw [W.popN, if_neg (by decide)]
  refine ⟨F0 m pc ls (.int k :: .int n :: rest), State.topJava?_setTop' (s := T.setVm vm₁) _ X.here.top, [.int n, .int k], rest, rfl, rfl, ?_⟩
  simp only [List.mapM_cons, List.mapM_nil, wp_bind', wp_pure']
  refine mz_w2 (kA := kA₁) (kI := kI₁) hkA₁ hkA3 hkI₁ hkI3 hn hk hN hM hl1 hh1 hl2 hh2 (by show T.heap.size + 1 + _ ≤ _; omega) (by show T.slotsUsed + _ + _ ≤ _; omega) (fun d' acts' => ?_)
  have eS : ((T.setTop (F0 m pc ls (.int k :: .int n :: rest))).setVm vm₁).setTop { (F0 m pc ls (.int k :: .int n :: rest)) with stack := rest } = (T.setVm vm₁).setTop { (F0 m pc ls (.int k :: .int n :: rest)) with stack := rest } := by
    show ((T.setVm vm₁).setTop _).setTop _ = _
    rw [State.setTop_setTop]
  rw [eS, mz_t]
  simp only [wp_bind', W.mark, W.pushRef, State.topJava?_setTop' _ XF2.here.top, Option.some.injEq, exists_eq_left', State.setTop_setTop, State.heap_setTop]
  intro acts
  simp [jvm, XF2.here.top]
  exact a1
end MZR
