/-! KINDS OF THE SYSTEM'S CELLS, and the rows of calls and ends over the world -/
abbrev sn_kNe (b : Nat) : sn_K := (2, 0, [(1, b + 1), (1, b + 4), (1, b + 33), (0, 0), (0, 0), (0, 0), (0, 0), (0, 0), (0, 0)])
abbrev sn_kRo (b : Nat) : sn_K := (3, 0, [(1, b + 1), (1, b + 14), (1, b + 27), (1, b + 28)])
abbrev sn_kSh (b : Nat) : sn_K := (4, 0, [(0, 0), (1, b + 1), (1, b + 2)])
abbrev sn_kTa (b : Nat) : sn_K := (5, 0, [(0, 0), (0, 0), (0, 0), (0, 0), (1, b + 1), (1, b + 2)])
abbrev sn_kSN (b : Nat) : sn_K := (6, 0, [(1, b + 1), (1, b + 37), (0, 0)])
abbrev sn_kMo (b : Nat) : sn_K := (7, 0, [(1, b + 1), (1, b + 2), (0, 0), (1, b + 3), (1, b + 4), (3, 0)])
def sn_Sh (tb : Nat → sn_K) (N b : Nat) : Prop := b + 3 ≤ N ∧ tb b = sn_kSh b ∧ tb (b + 1) = (0, 12, []) ∧ tb (b + 2) = (0, 12, [])
def sn_Ro (tb : Nat → sn_K) (N b : Nat) : Prop := b + 29 ≤ N ∧ tb b = sn_kRo b ∧ tb (b + 1) = (1, 12, []) ∧ (∀ k, k < 12 → tb (b + 1 + 1 + k) = (0, 17, []) ∧ b + 1 + 1 + k < N) ∧ tb (b + 14) = (1, 12, []) ∧ (∀ k, k < 12 → tb (b + 14 + 1 + k) = (0, 17, []) ∧ b + 14 + 1 + k < N) ∧ tb (b + 27) = (0, 12, []) ∧ tb (b + 28) = (0, 12, [])
def sn_Ta (tb : Nat → sn_K) (N b : Nat) : Prop := b + 3 ≤ N ∧ tb b = sn_kTa b ∧ tb (b + 1) = (0, 4, []) ∧ tb (b + 2) = (0, 12, [])
def sn_Ne (tb : Nat → sn_K) (N b : Nat) : Prop := b + 36 ≤ N ∧ tb b = sn_kNe b ∧ sn_Sh tb N (b + 1) ∧ sn_Ro tb N (b + 4) ∧ sn_Ta tb N (b + 33)
def sn_SN (tb : Nat → sn_K) (N b : Nat) : Prop := b + 73 ≤ N ∧ tb b = sn_kSN b ∧ sn_Ne tb N (b + 1) ∧ sn_Ne tb N (b + 37)
def sn_Mo (tb : Nat → sn_K) (N b : Nat) : Prop := b + 5 ≤ N ∧ tb b = sn_kMo b ∧ tb (b + 1) = (0, 374, []) ∧ tb (b + 2) = (0, 374, []) ∧ tb (b + 3) = (0, 374, []) ∧ tb (b + 4) = (0, 12, [])
theorem sn_l {b o w N : Nat} (h : b + w ≤ N) (ho : o < w) : b + o < N := by omega
theorem sn_l0 {b w N : Nat} (h : b + w ≤ N) (ho : 0 < w) : b < N := by omega
section SNC
variable {p : Program} {l : Launch} {e : Env} {R : Room} {s : State} {m : MethodId} {args : Array Value} {below : List Frame} {meth : Method} {c : Code} {H : Heap} {locs : List Loc} {Q : State → Prop}
variable {cc : ByteArray} {pc nL : Nat} {ls : Array Slot} {rest stk : List Value} {g : sn_G} {tb : Nat → sn_K} {N : Nat} {st st' : sn_S} {Ts : List Cond} {own : String} {ret : Option FieldType} {H0 : Heap}
variable {y : MethodName} {ws : List Cond} {rm : Room} {b : Nat} {As : List Value} {Cn host : String} {T : u_T} {n' ci index n maxL : Nat} {bytes : ByteArray} {retc : Option FieldType} {x : Nat} {fl : List (Nat × Nat)}
theorem sn_Vi {r : Int32} (C : sn_Cx p s m args meth c g N cc nL Ts own ret) (hM : sn_Mi l y ws rm g tb N (.ref (g.2.2.2 b) :: As) st r st') (cw : CallW R s args own Cn index y bytes maxL retc ws rm 0 0 n) (hP : va_P g.1 vwCl (sn_W g tb N st) H) (hS : va_S (sn_A g N) H0 H locs) (hq : b < N) (hk : tb b = (ci + 2, x, fl)) (hc : vwCl[ci]? = some (Cn, T, n')) (hn : As.length = n) (hsz : ls.size = nL) (hst : stk = As.reverse ++ .ref (g.2.2.2 b) :: rest) (hw : (rest.map fun v => v.category).sum ≤ 8) (hdg : decode cc pc = .ok (.invokevirtual index, 3))
    (kk : ∀ (H1 : Heap) (locs1 : List Loc), va_P g.1 vwCl (sn_W g tb N st') H1 → va_S (sn_A g N) H0 H1 locs1 → W p l e R s m args below meth c H1 locs1 0 0 Q (F0 m (pc + 3) ls (.int r :: rest))) : W p l e R s m args below meth c H locs 0 0 Q (F0 m pc ls stk) := by
  unfold sn_Mi sn_Qi at hM
  have he : (sn_W g tb N st)[b]? = some (g.2.2.2 b, .inr (ci, sn_f g.2.2.2 (st.1 b) (st.2 b) 0 fl)) := by rw [sn_at hq, hk]; rfl
  refine va_calli (va_runV (As := As) (rest := rest) C.1 hM cw ⟨sn_blind, va_recv C.2.2.2.1.1 hP hc he, fun U hU hW => ⟨rfl, C.2.2.2.1.moved hW, by rw [hU]; exact hP⟩⟩ rfl hn hsz hst (lv_room hw) hdg ⟨Nat.zero_le _, Nat.zero_le _⟩) hS (fun q _ h => h) (fun q h => h) (fun r1 u t H1 locs1 ht _ hr1 hB _ _ hS1 => ?_)
  subst hr1
  rw [ht] at hB
  exact kk H1 locs1 hB hS1
theorem sn_Vl {r : Int64} (C : sn_Cx p s m args meth c g N cc nL Ts own ret) (hM : sn_Ml l y ws rm g tb N (.ref (g.2.2.2 b) :: As) st r st') (cw : CallW R s args own Cn index y bytes maxL retc ws rm 0 0 n) (hP : va_P g.1 vwCl (sn_W g tb N st) H) (hS : va_S (sn_A g N) H0 H locs) (hq : b < N) (hk : tb b = (ci + 2, x, fl)) (hc : vwCl[ci]? = some (Cn, T, n')) (hn : As.length = n) (hsz : ls.size = nL) (hst : stk = As.reverse ++ .ref (g.2.2.2 b) :: rest) (hw : (rest.map fun v => v.category).sum ≤ 8) (hdg : decode cc pc = .ok (.invokevirtual index, 3))
    (kk : ∀ (H1 : Heap) (locs1 : List Loc), va_P g.1 vwCl (sn_W g tb N st') H1 → va_S (sn_A g N) H0 H1 locs1 → W p l e R s m args below meth c H1 locs1 0 0 Q (F0 m (pc + 3) ls (.long r :: rest))) : W p l e R s m args below meth c H locs 0 0 Q (F0 m pc ls stk) := by
  unfold sn_Ml sn_Ql at hM
  have he : (sn_W g tb N st)[b]? = some (g.2.2.2 b, .inr (ci, sn_f g.2.2.2 (st.1 b) (st.2 b) 0 fl)) := by rw [sn_at hq, hk]; rfl
  refine va_calll (va_runV (As := As) (rest := rest) C.1 hM cw ⟨sn_blind, va_recv C.2.2.2.1.1 hP hc he, fun U hU hW => ⟨rfl, C.2.2.2.1.moved hW, by rw [hU]; exact hP⟩⟩ rfl hn hsz hst (lv_room hw) hdg ⟨Nat.zero_le _, Nat.zero_le _⟩) hS (fun q _ h => h) (fun q h => h) (fun r1 u t H1 locs1 ht _ hr1 hB _ _ hS1 => ?_)
  subst hr1
  rw [ht] at hB
  exact kk H1 locs1 hB hS1
theorem sn_Vv (C : sn_Cx p s m args meth c g N cc nL Ts own ret) (hM : sn_Mv l y ws rm g tb N (.ref (g.2.2.2 b) :: As) st st') (cw : CallW R s args own Cn index y bytes maxL retc ws rm 0 0 n) (hP : va_P g.1 vwCl (sn_W g tb N st) H) (hS : va_S (sn_A g N) H0 H locs) (hq : b < N) (hk : tb b = (ci + 2, x, fl)) (hc : vwCl[ci]? = some (Cn, T, n')) (hn : As.length = n) (hsz : ls.size = nL) (hst : stk = As.reverse ++ .ref (g.2.2.2 b) :: rest) (hw : (rest.map fun v => v.category).sum ≤ 8) (hdg : decode cc pc = .ok (.invokevirtual index, 3))
    (kk : ∀ (H1 : Heap) (locs1 : List Loc), va_P g.1 vwCl (sn_W g tb N st') H1 → va_S (sn_A g N) H0 H1 locs1 → W p l e R s m args below meth c H1 locs1 0 0 Q (F0 m (pc + 3) ls rest)) : W p l e R s m args below meth c H locs 0 0 Q (F0 m pc ls stk) := by
  unfold sn_Mv sn_Qv at hM
  have he : (sn_W g tb N st)[b]? = some (g.2.2.2 b, .inr (ci, sn_f g.2.2.2 (st.1 b) (st.2 b) 0 fl)) := by rw [sn_at hq, hk]; rfl
  refine va_callv (va_runV (As := As) (rest := rest) C.1 hM cw ⟨sn_blind, va_recv C.2.2.2.1.1 hP hc he, fun U hU hW => ⟨rfl, C.2.2.2.1.moved hW, by rw [hU]; exact hP⟩⟩ rfl hn hsz hst (lv_room hw) hdg ⟨Nat.zero_le _, Nat.zero_le _⟩) hS (fun q _ h => h) (fun q h => h) (fun u t H1 locs1 ht _ _ hB _ _ hS1 => ?_)
  rw [ht] at hB
  exact kk H1 locs1 hB hS1
theorem sn_Si {r : Int32} (C : sn_Cx p s m args meth c g N cc nL Ts own ret) (hM : sn_Mi l y ws rm g tb N As st r st') (cw : CallB R s args own index y bytes maxL retc ws rm 0 0 n ∧ (Cond.static y).before args s = true) (hP : va_P g.1 vwCl (sn_W g tb N st) H) (hS : va_S (sn_A g N) H0 H locs) (hn : As.length = n) (hsz : ls.size = nL) (hst : stk = As.reverse ++ rest) (hw : (rest.map fun v => v.category).sum ≤ 8) (hdg : decode cc pc = .ok (.invokestatic index, 3))
    (kk : ∀ (H1 : Heap) (locs1 : List Loc), va_P g.1 vwCl (sn_W g tb N st') H1 → va_S (sn_A g N) H0 H1 locs1 → W p l e R s m args below meth c H1 locs1 0 0 Q (F0 m (pc + 3) ls (.int r :: rest))) : W p l e R s m args below meth c H locs 0 0 Q (F0 m pc ls stk) := by
  unfold sn_Mi sn_Qi at hM
  refine va_calli (va_runS (As := As) (rest := rest) C.1 hM cw ⟨sn_blind, fun U hU hW => ⟨rfl, C.2.2.2.1.moved hW, by rw [hU]; exact hP⟩⟩ rfl hn hsz hst (lv_room hw) hdg ⟨Nat.zero_le _, Nat.zero_le _⟩) hS (fun q _ h => h) (fun q h => h) (fun r1 u t H1 locs1 ht _ hr1 hB _ _ hS1 => ?_)
  subst hr1
  rw [ht] at hB
  exact kk H1 locs1 hB hS1
theorem sn_Sl {r : Int64} (C : sn_Cx p s m args meth c g N cc nL Ts own ret) (hM : sn_Ml l y ws rm g tb N As st r st') (cw : CallB R s args own index y bytes maxL retc ws rm 0 0 n ∧ (Cond.static y).before args s = true) (hP : va_P g.1 vwCl (sn_W g tb N st) H) (hS : va_S (sn_A g N) H0 H locs) (hn : As.length = n) (hsz : ls.size = nL) (hst : stk = As.reverse ++ rest) (hw : (rest.map fun v => v.category).sum ≤ 8) (hdg : decode cc pc = .ok (.invokestatic index, 3))
    (kk : ∀ (H1 : Heap) (locs1 : List Loc), va_P g.1 vwCl (sn_W g tb N st') H1 → va_S (sn_A g N) H0 H1 locs1 → W p l e R s m args below meth c H1 locs1 0 0 Q (F0 m (pc + 3) ls (.long r :: rest))) : W p l e R s m args below meth c H locs 0 0 Q (F0 m pc ls stk) := by
  unfold sn_Ml sn_Ql at hM
  refine va_calll (va_runS (As := As) (rest := rest) C.1 hM cw ⟨sn_blind, fun U hU hW => ⟨rfl, C.2.2.2.1.moved hW, by rw [hU]; exact hP⟩⟩ rfl hn hsz hst (lv_room hw) hdg ⟨Nat.zero_le _, Nat.zero_le _⟩) hS (fun q _ h => h) (fun q h => h) (fun r1 u t H1 locs1 ht _ hr1 hB _ _ hS1 => ?_)
  subst hr1
  rw [ht] at hB
  exact kk H1 locs1 hB hS1
theorem sn_Sv (C : sn_Cx p s m args meth c g N cc nL Ts own ret) (hM : sn_Mv l y ws rm g tb N As st st') (cw : CallB R s args own index y bytes maxL retc ws rm 0 0 n ∧ (Cond.static y).before args s = true) (hP : va_P g.1 vwCl (sn_W g tb N st) H) (hS : va_S (sn_A g N) H0 H locs) (hn : As.length = n) (hsz : ls.size = nL) (hst : stk = As.reverse ++ rest) (hw : (rest.map fun v => v.category).sum ≤ 8) (hdg : decode cc pc = .ok (.invokestatic index, 3))
    (kk : ∀ (H1 : Heap) (locs1 : List Loc), va_P g.1 vwCl (sn_W g tb N st') H1 → va_S (sn_A g N) H0 H1 locs1 → W p l e R s m args below meth c H1 locs1 0 0 Q (F0 m (pc + 3) ls rest)) : W p l e R s m args below meth c H locs 0 0 Q (F0 m pc ls stk) := by
  unfold sn_Mv sn_Qv at hM
  refine va_callv (va_runS (As := As) (rest := rest) C.1 hM cw ⟨sn_blind, fun U hU hW => ⟨rfl, C.2.2.2.1.moved hW, by rw [hU]; exact hP⟩⟩ rfl hn hsz hst (lv_room hw) hdg ⟨Nat.zero_le _, Nat.zero_le _⟩) hS (fun q _ h => h) (fun q h => h) (fun u t H1 locs1 ht _ _ hB _ _ hS1 => ?_)
  rw [ht] at hB
  exact kk H1 locs1 hB hS1
theorem sn_Ni {r : Int32} (C : sn_Cx p s m args meth c g N cc nL Ts own ret) (hM : sn_Mi l y ws rm g tb N As st r st') (cw : va_CN R s args own index y host bytes maxL retc ws rm 0 0 n ∧ (Cond.static y).before args s = true ∧ True) (hP : va_P g.1 vwCl (sn_W g tb N st) H) (hS : va_S (sn_A g N) H0 H locs) (hn : As.length = n) (hsz : ls.size = nL) (hst : stk = As.reverse ++ rest) (hw : (rest.map fun v => v.category).sum ≤ 8) (hdg : decode cc pc = .ok (.invokestatic index, 3))
    (kk : ∀ (H1 : Heap) (locs1 : List Loc), va_P g.1 vwCl (sn_W g tb N st') H1 → va_S (sn_A g N) H0 H1 locs1 → W p l e R s m args below meth c H1 locs1 0 0 Q (F0 m (pc + 3) ls (.int r :: rest))) : W p l e R s m args below meth c H locs 0 0 Q (F0 m pc ls stk) := by
  unfold sn_Mi sn_Qi at hM
  refine va_calli (va_runSN (As := As) (rest := rest) C.1 hM cw ⟨sn_blind, fun U hU hW => ⟨rfl, C.2.2.2.1.moved hW, by rw [hU]; exact hP⟩⟩ rfl hn hsz hst (lv_room hw) hdg ⟨Nat.zero_le _, Nat.zero_le _⟩) hS (fun q _ h => h) (fun q h => h) (fun r1 u t H1 locs1 ht _ hr1 hB _ _ hS1 => ?_)
  subst hr1
  rw [ht] at hB
  exact kk H1 locs1 hB hS1
/-- ends -/
theorem sn_ri {v : Int32} (C : sn_Cx p s m args meth c g N cc nL Ts own (some .int)) (hP : va_P g.1 vwCl (sn_W g tb N st) H) (hS : va_S (sn_A g N) s.heap H locs) (hdg : decode cc pc = .ok (.ireturn, 1)) : W p l e R s m args below meth c H locs 0 0 (MQ below (sn_Qi g tb N v st) args s 0 0 (sn_A g N)) (F0 m pc ls [.int v]) :=
  W.iret C.1.1 C.1.2.1 C.2.1 (fun t ht _ => ⟨⟨v, (), rfl, rfl, by subst ht; exact hP⟩, hS.F ht⟩) hS.2.2 hdg C.2.2.1
theorem sn_rz {v : Int32} (hv : v = 0 ∨ v = 1) (C : sn_Cx p s m args meth c g N cc nL Ts own (some .boolean)) (hP : va_P g.1 vwCl (sn_W g tb N st) H) (hS : va_S (sn_A g N) s.heap H locs) (hdg : decode cc pc = .ok (.ireturn, 1)) : W p l e R s m args below meth c H locs 0 0 (MQ below (sn_Qi g tb N v st) args s 0 0 (sn_A g N)) (F0 m pc ls [.int v]) :=
  W.zret C.1.1 C.1.2.1 C.2.1 (by rcases hv with h | h <;> (subst h; rfl)) (fun t ht _ => ⟨⟨v, (), rfl, rfl, by subst ht; exact hP⟩, hS.F ht⟩) hS.2.2 hdg C.2.2.1
theorem sn_rl {v : Int64} (C : sn_Cx p s m args meth c g N cc nL Ts own (some .long)) (hP : va_P g.1 vwCl (sn_W g tb N st) H) (hS : va_S (sn_A g N) s.heap H locs) (hdg : decode cc pc = .ok (.lreturn, 1)) : W p l e R s m args below meth c H locs 0 0 (MQ below (sn_Ql g tb N v st) args s 0 0 (sn_A g N)) (F0 m pc ls [.long v]) :=
  W.lret C.1.1 C.1.2.1 C.2.1 (fun t ht _ => ⟨⟨v, (), rfl, rfl, by subst ht; exact hP⟩, hS.F ht⟩) hS.2.2 hdg C.2.2.1
theorem sn_rv (C : sn_Cx p s m args meth c g N cc nL Ts own none) (hP : va_P g.1 vwCl (sn_W g tb N st) H) (hS : va_S (sn_A g N) s.heap H locs) (hdg : decode cc pc = .ok (.return_, 1)) : W p l e R s m args below meth c H locs 0 0 (MQ below (sn_Qv g tb N st) args s 0 0 (sn_A g N)) (F0 m pc ls []) :=
  W.vret C.1.1 C.1.2.1 C.2.1 (fun t ht _ => ⟨⟨(), rfl, trivial, by subst ht; exact hP⟩, hS.F ht⟩) hS.2.2 hdg C.2.2.1
/-- from the entry -/
theorem sn_Mi.of {av : List Value} {r : Int32} {ws' : List Cond} (hi : sn_I g N) (hy : plainName y.cls = true) (hw : ws = Cond.code y cc nL ret :: ws') (hlen : (lg_sl av).length ≤ nL)
    (body : ∀ (p : Program) (e : Env) (s : State) (m : MethodId) (args : Array Value) (below : List Frame) (meth : Method) (c : Code) (ls : Array Slot), sn_Cx p s m args meth c g N cc nL ws y.cls ret → va_P g.1 vwCl (sn_W g tb N st) s.heap → va_S (sn_A g N) s.heap s.heap [] → lv_has ls nL (lv_args 0 av) → W p l e rm s m args below meth c s.heap [] 0 0 (MQ below (sn_Qi g tb N r st') args s 0 0 (sn_A g N)) (F0 m 0 ls [])) : sn_Mi l y ws rm g tb N av st r st' := by
  unfold sn_Mi
  refine Met.ofW (cc := cc) (maxL := nL) (ret := ret) hy hw ?_
  intro p e s m args below meth c s₁ B hml hv
  obtain ⟨rfl, hC, hP⟩ := hv
  rw [lg_entry_eq]
  exact body p e s m _ below meth c _ ⟨⟨B.exec, B.bytes, hml, findClass_of_methodNamed B.named, atoms_spec (ws := ws) B.pre⟩, B.returns, B.notSynchronized, hC, hi⟩ hP va_S.rf (lv_entry av hlen)
theorem sn_Ml.of {av : List Value} {r : Int64} {ws' : List Cond} (hi : sn_I g N) (hy : plainName y.cls = true) (hw : ws = Cond.code y cc nL ret :: ws') (hlen : (lg_sl av).length ≤ nL)
    (body : ∀ (p : Program) (e : Env) (s : State) (m : MethodId) (args : Array Value) (below : List Frame) (meth : Method) (c : Code) (ls : Array Slot), sn_Cx p s m args meth c g N cc nL ws y.cls ret → va_P g.1 vwCl (sn_W g tb N st) s.heap → va_S (sn_A g N) s.heap s.heap [] → lv_has ls nL (lv_args 0 av) → W p l e rm s m args below meth c s.heap [] 0 0 (MQ below (sn_Ql g tb N r st') args s 0 0 (sn_A g N)) (F0 m 0 ls [])) : sn_Ml l y ws rm g tb N av st r st' := by
  unfold sn_Ml
  refine Met.ofW (cc := cc) (maxL := nL) (ret := ret) hy hw ?_
  intro p e s m args below meth c s₁ B hml hv
  obtain ⟨rfl, hC, hP⟩ := hv
  rw [lg_entry_eq]
  exact body p e s m _ below meth c _ ⟨⟨B.exec, B.bytes, hml, findClass_of_methodNamed B.named, atoms_spec (ws := ws) B.pre⟩, B.returns, B.notSynchronized, hC, hi⟩ hP va_S.rf (lv_entry av hlen)
theorem sn_Mv.of {av : List Value} {ws' : List Cond} (hi : sn_I g N) (hy : plainName y.cls = true) (hw : ws = Cond.code y cc nL ret :: ws') (hlen : (lg_sl av).length ≤ nL)
    (body : ∀ (p : Program) (e : Env) (s : State) (m : MethodId) (args : Array Value) (below : List Frame) (meth : Method) (c : Code) (ls : Array Slot), sn_Cx p s m args meth c g N cc nL ws y.cls ret → va_P g.1 vwCl (sn_W g tb N st) s.heap → va_S (sn_A g N) s.heap s.heap [] → lv_has ls nL (lv_args 0 av) → W p l e rm s m args below meth c s.heap [] 0 0 (MQ below (sn_Qv g tb N st') args s 0 0 (sn_A g N)) (F0 m 0 ls [])) : sn_Mv l y ws rm g tb N av st st' := by
  unfold sn_Mv
  refine Met.ofW (cc := cc) (maxL := nL) (ret := ret) hy hw ?_
  intro p e s m args below meth c s₁ B hml hv
  obtain ⟨rfl, hC, hP⟩ := hv
  rw [lg_entry_eq]
  exact body p e s m _ below meth c _ ⟨⟨B.exec, B.bytes, hml, findClass_of_methodNamed B.named, atoms_spec (ws := ws) B.pre⟩, B.returns, B.notSynchronized, hC, hi⟩ hP va_S.rf (lv_entry av hlen)
end SNC
theorem sn_nz {v : Int32} (h : v = 0 ∨ v = 1) : narrow .boolean (.int v) = .int v := by rcases h with h | h <;> (subst h; rfl)
theorem sn_fz {v : Int32} (h : v = 0 ∨ v = 1) : fits .boolean (.int v) = true := by rcases h with h | h <;> (subst h; rfl)
section SNX
variable {p : Program} {l : Launch} {e : Env} {R : Room} {s : State} {m : MethodId} {args : Array Value} {below : List Frame} {meth : Method} {c : Code} {H : Heap} {locs : List Loc} {cells slots : Nat} {Q : State → Prop}
variable {cc : ByteArray} {pc nL : Nat} {ls : Array Slot} {rest : List Value} {g : sn_G} {tb : Nat → sn_K} {N : Nat} {st : sn_S} {Ts : List Cond} {own : String} {ret : Option FieldType} {H0 : Heap}
/-- an int of an array at a known place -/
theorem sn_aldc {k : Nat} (C : sn_Cx p s m args meth c g N cc nL Ts own ret) (hP : va_P g.1 vwCl (sn_W g tb N st) H) (q : Nat) (hq : q < N) {n : Nat} {fl : List (Nat × Nat)} (hk : tb q = (0, n, fl)) {i : Int32} (hd : sn_ix i n = some k) (hdg : decode cc pc = .ok (.iaload, 1))
    (kk : W p l e R s m args below meth c H locs cells slots Q (F0 m (pc + 1) ls (.int (st.1 q k) :: rest))) : W p l e R s m args below meth c H locs cells slots Q (F0 m pc ls (.int i :: .ref (g.2.2.2 q) :: rest)) :=
  sn_ald (F := fun j => if j = k then some () else none) (o := ()) C hP q hq hk (by rw [hd]; show (if k = k then some () else none) = some (); rw [if_pos rfl]) hdg (fun j _ h => by
    by_cases e : j = k
    · rw [e]; exact kk
    · rw [if_neg e] at h; cases h)
theorem sn_astc {k : Nat} (C : sn_Cx p s m args meth c g N cc nL Ts own ret) (hP : va_P g.1 vwCl (sn_W g tb N st) H) (hS : va_S (sn_A g N) H0 H locs) (q : Nat) (hq : q < N) {n : Nat} {fl : List (Nat × Nat)} (hk : tb q = (0, n, fl)) {i v : Int32} (hd : sn_ix i n = some k) (hdg : decode cc pc = .ok (.iastore, 1))
    (kk : ∀ (H1 : Heap) (locs1 : List Loc), va_P g.1 vwCl (sn_W g tb N (sn_wr st q k v)) H1 → va_S (sn_A g N) H0 H1 locs1 → W p l e R s m args below meth c H1 locs1 cells slots Q (F0 m (pc + 1) ls rest)) : W p l e R s m args below meth c H locs cells slots Q (F0 m pc ls (.int v :: .int i :: .ref (g.2.2.2 q) :: rest)) :=
  sn_ast (F := fun j => if j = k then some () else none) (o := ()) C hP hS q hq hk (by rw [hd]; show (if k = k then some () else none) = some (); rw [if_pos rfl]) hdg (fun j H1 locs1 _ h h1 h2 => by
    by_cases e : j = k
    · rw [e] at h1; exact kk H1 locs1 h1 h2
    · rw [if_neg e] at h; cases h)
theorem sn_alen (C : sn_Cx p s m args meth c g N cc nL Ts own ret) (hP : va_P g.1 vwCl (sn_W g tb N st) H) (q : Nat) (hq : q < N) {n : Nat} {fl : List (Nat × Nat)} (hk : tb q = (0, n, fl)) (hdg : decode cc pc = .ok (.arraylength, 1))
    (kk : W p l e R s m args below meth c H locs cells slots Q (F0 m (pc + 1) ls (.int (nI n) :: rest))) : W p l e R s m args below meth c H locs cells slots Q (F0 m pc ls (.ref (g.2.2.2 q) :: rest)) := by
  obtain ⟨⟨hx, hb, hml, hown, hts⟩, -, -, hC, hi⟩ := C
  have he : (sn_W g tb N st)[q]? = some (g.2.2.2 q, .inl (g.2.1, n, .inl (st.1 q))) := by rw [sn_at hq, hk]; rfl
  exact va_alen hx hb hC.1 hP q 0 he rfl rfl hdg kk
/-- a long field is written -/
theorem sn_pl (C : sn_Cx p s m args meth c g N cc nL Ts own ret) {ref Cn : String} {T : u_T} {n ci index : Nat} (hin : ∀ w ∈ u_ws Cn T n, w ∈ Ts) {ty0 : Nat → FieldType} (hty : ∀ k, k < n → parseFieldDescriptor (T k).2.2.1 = some (ty0 k)) (hnm : ∀ a, a < n → ∀ b, b < n → a ≠ b → (T a).2.1 ≠ (T b).2.1) (hP : va_P g.1 vwCl (sn_W g tb N st) H) (hS : va_S (sn_A g N) H0 H locs) (q : Nat) (hq : q < N) {x : Nat} {fl : List (Nat × Nat)} (hk : tb q = (ci + 2, x, fl)) (hc : vwCl[ci]? = some (Cn, T, n)) (k : Nat) (hkn : k < n) (hlink : Cond.fieldLink own index ref (T k).2.1 (T k).2.2.1 ∈ Ts) (href : ref = (T k).1) (hfin : (T k).2.2.2 = false) {v : Int64} (hf : (sn_f g.2.2.2 (st.1 q) (st.2 q) 0 fl).set k (.long v) = sn_f g.2.2.2 (st.1 q) v 0 fl) (hn : narrow (ty0 k) (.long v) = .long v) (hfit : fits (ty0 k) (.long v) = true) (hlen : k < fl.length) (hdg : decode cc pc = .ok (.putfield index, 3))
    (kk : ∀ (H1 : Heap) (locs1 : List Loc), va_P g.1 vwCl (sn_W g tb N (sn_wl st q v)) H1 → va_S (sn_A g N) H0 H1 locs1 → W p l e R s m args below meth c H1 locs1 cells slots Q (F0 m (pc + 3) ls rest)) : W p l e R s m args below meth c H locs cells slots Q (F0 m pc ls (.long v :: .ref (g.2.2.2 q) :: rest)) := by
  obtain ⟨⟨hx, hb, hml, hown, hts⟩, -, -, hC, hi⟩ := C
  have he : (sn_W g tb N st)[q]? = some (g.2.2.2 q, .inr (ci, sn_f g.2.2.2 (st.1 q) (st.2 q) 0 fl)) := by rw [sn_at hq, hk]; rfl
  subst href
  refine va_put hx hb hts hin ty0 hty hnm hown hC.1 hP (sn_D hi) hS q he hc k hkn (hts _ hlink) (fun _ h9 => h9) hfin (hty k hkn) hn hfit (by rw [sn_f_len]; exact hlen) hdg (fun H1 locs1 h1 _ h3 => kk H1 locs1 ?_ h3)
  have e : (sn_W g tb N st).set q (g.2.2.2 q, .inr (ci, (sn_f g.2.2.2 (st.1 q) (st.2 q) 0 fl).set k (.long v))) = sn_W g tb N (sn_wl st q v) := by
    refine sn_put hq ?_ (fun a ha => ⟨rfl, if_neg ha⟩)
    rw [hk, hf]
    show sn_cell g q (ci + 2, x, fl) (st.1 q) (if q = q then v else st.2 q) = _
    rw [if_pos rfl]
    rfl
  rw [← e]
  exact h1
/-- System.arraycopy of the first n ints -/
theorem sn_acp {n : Nat} (C : sn_Cx p s m args meth c g N cc nL Ts own ret) {index : Nat} (h1 : Cond.methodLink own index arraycopyName ∈ Ts) (h2 : Cond.native arraycopyName ∈ Ts) (h3 : Cond.static arraycopyName ∈ Ts) (h4 : Cond.initialized "java/lang/System" ∈ Ts) (hP : va_P g.1 vwCl (sn_W g tb N st) H) (hS : va_S (sn_A g N) H0 H locs) (a : Nat) (ha : a < N) {na : Nat} {fa : List (Nat × Nat)} (hka : tb a = (0, na, fa)) (d : Nat) (hd : d < N) {nd : Nat} {fd : List (Nat × Nat)} (hkd : tb d = (0, nd, fd)) {v : Int32} (h5 : ¬ v < 0) (h6 : v.toNatClampNeg = n) (h7 : n ≤ na) (h8 : n ≤ nd) (hsz : ls.size = nL) (hfr : 1 ≤ R.frames) (hlo : (rest.map fun v => v.category).sum + 18 ≤ R.locals) (hdg : decode cc pc = .ok (.invokestatic index, 3))
    (kk : ∀ (H1 : Heap) (locs1 : List Loc), va_P g.1 vwCl (sn_W g tb N (sn_cp st a d n)) H1 → va_S (sn_A g N) H0 H1 locs1 → W p l e R s m args below meth c H1 locs1 cells slots Q (F0 m (pc + 3) ls rest)) : W p l e R s m args below meth c H locs cells slots Q (F0 m pc ls (.int v :: .int 0 :: .ref (g.2.2.2 d) :: .int 0 :: .ref (g.2.2.2 a) :: rest)) := by
  obtain ⟨⟨hx, hb, hml, hown, hts⟩, -, -, hC, hi⟩ := C
  have hea : (sn_W g tb N st)[a]? = some (g.2.2.2 a, .inl (g.2.1, na, .inl (st.1 a))) := by rw [sn_at ha, hka]; rfl
  have hed : (sn_W g tb N st)[d]? = some (g.2.2.2 d, .inl (g.2.1, nd, .inl (st.1 d))) := by rw [sn_at hd, hkd]; rfl
  have z0 : (0 : Int32).toNatClampNeg = 0 := by decide
  refine va_copyi hx hb (hml.trans hsz.symm) hown (hts _ h1) (hts _ h2) (hts _ h3) (hts _ h4) hC.1 hP (sn_D hi) hS a d 0 0 hea hed rfl rfl rfl (by decide) (by decide) h5 (by rw [z0, h6]; omega) (by rw [z0, h6]; omega) (fun _ _ => rfl) hfr hlo hdg (fun H1 locs1 a1 _ a3 => kk H1 locs1 ?_ a3)
  have e : (sn_W g tb N st).set d (g.2.2.2 d, .inl (g.2.1, nd, .inl (va_cpy (st.1 a) (st.1 d) (0 : Int32).toNatClampNeg (0 : Int32).toNatClampNeg v.toNatClampNeg))) = sn_W g tb N (sn_cp st a d n) := by
    refine sn_put hd ?_ (fun j hj => ⟨if_neg hj, rfl⟩)
    rw [hkd, z0, h6]
    show sn_cell g d (0, nd, fd) (if d = d then va_cpy (st.1 a) (st.1 d) 0 0 n else st.1 d) (st.2 d) = _
    rw [if_pos rfl]
    rfl
  rw [← e]
  exact a1
/-- from the entry, of a JDK method -/
theorem sn_Mi.ofJ {y : MethodName} {ws : List Cond} {rm : Room} {st' : sn_S} {av : List Value} {r : Int32} {ws' : List Cond} (hi : sn_I g N) (hy : plainFor y = true) (hw : ws = Cond.code y cc nL ret :: ws') (hlen : (lg_sl av).length ≤ nL)
    (body : ∀ (p : Program) (e : Env) (s : State) (m : MethodId) (args : Array Value) (below : List Frame) (meth : Method) (c : Code) (ls : Array Slot), sn_Cx p s m args meth c g N cc nL ws y.cls ret → va_P g.1 vwCl (sn_W g tb N st) s.heap → va_S (sn_A g N) s.heap s.heap [] → lv_has ls nL (lv_args 0 av) → W p l e rm s m args below meth c s.heap [] 0 0 (MQ below (sn_Qi g tb N r st') args s 0 0 (sn_A g N)) (F0 m 0 ls [])) : sn_Mi l y ws rm g tb N av st r st' := by
  unfold sn_Mi
  refine va_MetF (cc := cc) (maxL := nL) (ret := ret) hy hw ?_
  intro p e s m args below meth c s₁ B hml hv
  obtain ⟨rfl, hC, hP⟩ := hv
  rw [lg_entry_eq]
  exact body p e s m _ below meth c _ ⟨⟨B.exec, B.bytes, hml, findClass_of_methodNamed B.named, atoms_spec (ws := ws) B.pre⟩, B.returns, B.notSynchronized, hC, hi⟩ hP va_S.rf (lv_entry av hlen)
theorem sn_Mv.ofJ {y : MethodName} {ws : List Cond} {rm : Room} {st' : sn_S} {av : List Value} {ws' : List Cond} (hi : sn_I g N) (hy : plainFor y = true) (hw : ws = Cond.code y cc nL ret :: ws') (hlen : (lg_sl av).length ≤ nL)
    (body : ∀ (p : Program) (e : Env) (s : State) (m : MethodId) (args : Array Value) (below : List Frame) (meth : Method) (c : Code) (ls : Array Slot), sn_Cx p s m args meth c g N cc nL ws y.cls ret → va_P g.1 vwCl (sn_W g tb N st) s.heap → va_S (sn_A g N) s.heap s.heap [] → lv_has ls nL (lv_args 0 av) → W p l e rm s m args below meth c s.heap [] 0 0 (MQ below (sn_Qv g tb N st') args s 0 0 (sn_A g N)) (F0 m 0 ls [])) : sn_Mv l y ws rm g tb N av st st' := by
  unfold sn_Mv
  refine va_MetF (cc := cc) (maxL := nL) (ret := ret) hy hw ?_
  intro p e s m args below meth c s₁ B hml hv
  obtain ⟨rfl, hC, hP⟩ := hv
  rw [lg_entry_eq]
  exact body p e s m _ below meth c _ ⟨⟨B.exec, B.bytes, hml, findClass_of_methodNamed B.named, atoms_spec (ws := ws) B.pre⟩, B.returns, B.notSynchronized, hC, hi⟩ hP va_S.rf (lv_entry av hlen)
end SNX
