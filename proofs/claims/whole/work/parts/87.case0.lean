/-! THE LAW: its cases -/
/-- what stands still in the law's loop -/
def lc_C (p : Program) (l : Launch) (s : State) (m : MethodId) (meth : Method) (c : Code) (g : sn_G) (tb : Nat → sn_K) (b L : Nat) (xs : Nat → Int32) : Prop :=
  CallFix p m c code 4 s #[Value.ref b] wsL_law RL ∧ sn_C g s ∧ sn_I g 78 ∧ (∀ c, c < 78 → s.heap.size ≤ g.2.2.2 c) ∧ sn_SN tb 78 0 ∧ sn_Mo tb 78 73 ∧ va_X b L xs s s.heap ∧ b < s.heap.size
/-- the world at the loop's head -/
def lc_X (s : State) (g : sn_G) (tb : Nat → sn_K) (st : sn_S) (H : Heap) (locs : List Loc) : Prop := va_P g.1 vwCl (sn_W g tb 78 st) H ∧ va_S (fun q => s.heap.size ≤ q) s.heap H locs
abbrev lc_W (p : Program) (l : Launch) (e : Env) (s : State) (m : MethodId) (below : List Frame) (meth : Method) (c : Code) (b : Nat) (H : Heap) (locs : List Loc) (f : JFrame) : Prop := W p l e room_1 s m #[Value.ref b] below meth c H locs 600000 7302250 (lw_Z below #[Value.ref b] s) f
section LC
variable {p : Program} {l : Launch} {e : Env} {s : State} {m : MethodId} {below : List Frame} {meth : Method} {c : Code} {H : Heap} {locs : List Loc} {g : sn_G} {tb : Nat → sn_K} {b L : Nat} {xs : Nat → Int32} {st st' : sn_S} {pc : Nat} {ls : Array Slot} {rest stk : List Value}
theorem lc_sub (C : lc_C p l s m meth c g tb b L xs) : ∀ q, sn_A g 78 q → s.heap.size ≤ q := fun q ⟨c, hc, hq⟩ => by rw [hq]; exact C.2.2.2.1 c hc
theorem lc_Vi {r : Int32} {y : MethodName} {ws : List Cond} {rm : Room} {q : Nat} {As : List Value} {Cn : String} {T : u_T} {n' ci index n maxL : Nat} {bytes : ByteArray} {retc : Option FieldType} {x : Nat} {fl : List (Nat × Nat)} (C : lc_C p l s m meth c g tb b L xs) (hM : sn_Mi l y ws rm g tb 78 (.ref (g.2.2.2 q) :: As) st r st') (cw : CallW room_1 s #[Value.ref b] RL Cn index y bytes maxL retc ws rm 0 0 n) (X : lc_X s g tb st H locs) (hq : q < 78) (hk : tb q = (ci + 2, x, fl)) (hc : vwCl[ci]? = some (Cn, T, n')) (hn : As.length = n) (hsz : ls.size = 4) (hst : stk = As.reverse ++ .ref (g.2.2.2 q) :: rest) (hw : (rest.map fun v => v.category).sum ≤ 8) (hdg : decode code pc = .ok (.invokevirtual index, 3))
    (kk : ∀ (H1 : Heap) (locs1 : List Loc), lc_X s g tb st' H1 locs1 → lc_W p l e s m below meth c b H1 locs1 (F0 m (pc + 3) ls (.int r :: rest))) : lc_W p l e s m below meth c b H locs (F0 m pc ls stk) := by
  unfold sn_Mi sn_Qi at hM
  have he : (sn_W g tb 78 st)[q]? = some (g.2.2.2 q, .inr (ci, sn_f g.2.2.2 (st.1 q) (st.2 q) 0 fl)) := by rw [sn_at hq, hk]; rfl
  refine va_calli (va_runV (As := As) (rest := rest) C.1 hM cw ⟨sn_blind, va_recv C.2.1.1 X.1 hc he, fun U hU hW => ⟨rfl, C.2.1.moved hW, by rw [hU]; exact X.1⟩⟩ rfl hn hsz hst (lv_room hw) hdg ⟨Nat.le_refl _, Nat.le_refl _⟩) X.2 (fun q _ h => lc_sub C q h) (fun q h => lc_sub C q h) (fun r1 u t H1 locs1 ht _ hr1 hB _ _ hS1 => ?_)
  subst hr1
  rw [ht] at hB
  exact kk H1 locs1 ⟨hB, hS1⟩
theorem lc_Vl {r : Int64} {y : MethodName} {ws : List Cond} {rm : Room} {q : Nat} {As : List Value} {Cn : String} {T : u_T} {n' ci index n maxL : Nat} {bytes : ByteArray} {retc : Option FieldType} {x : Nat} {fl : List (Nat × Nat)} (C : lc_C p l s m meth c g tb b L xs) (hM : sn_Ml l y ws rm g tb 78 (.ref (g.2.2.2 q) :: As) st r st') (cw : CallW room_1 s #[Value.ref b] RL Cn index y bytes maxL retc ws rm 0 0 n) (X : lc_X s g tb st H locs) (hq : q < 78) (hk : tb q = (ci + 2, x, fl)) (hc : vwCl[ci]? = some (Cn, T, n')) (hn : As.length = n) (hsz : ls.size = 4) (hst : stk = As.reverse ++ .ref (g.2.2.2 q) :: rest) (hw : (rest.map fun v => v.category).sum ≤ 8) (hdg : decode code pc = .ok (.invokevirtual index, 3))
    (kk : ∀ (H1 : Heap) (locs1 : List Loc), lc_X s g tb st' H1 locs1 → lc_W p l e s m below meth c b H1 locs1 (F0 m (pc + 3) ls (.long r :: rest))) : lc_W p l e s m below meth c b H locs (F0 m pc ls stk) := by
  unfold sn_Ml sn_Ql at hM
  have he : (sn_W g tb 78 st)[q]? = some (g.2.2.2 q, .inr (ci, sn_f g.2.2.2 (st.1 q) (st.2 q) 0 fl)) := by rw [sn_at hq, hk]; rfl
  refine va_calll (va_runV (As := As) (rest := rest) C.1 hM cw ⟨sn_blind, va_recv C.2.1.1 X.1 hc he, fun U hU hW => ⟨rfl, C.2.1.moved hW, by rw [hU]; exact X.1⟩⟩ rfl hn hsz hst (lv_room hw) hdg ⟨Nat.le_refl _, Nat.le_refl _⟩) X.2 (fun q _ h => lc_sub C q h) (fun q h => lc_sub C q h) (fun r1 u t H1 locs1 ht _ hr1 hB _ _ hS1 => ?_)
  subst hr1
  rw [ht] at hB
  exact kk H1 locs1 ⟨hB, hS1⟩
/-- an int of the script is read -/
theorem lc_ld (C : lc_C p l s m meth c g tb b L xs) (X : lc_X s g tb st H locs) {i : Int32} (hin : vp_in i L) (hdg : decode code pc = .ok (.iaload, 1)) (kk : lc_W p l e s m below meth c b H locs (F0 m (pc + 1) ls (.int (xs i.toNatClampNeg) :: rest))) : lc_W p l e s m below meth c b H locs (F0 m pc ls (.int i :: .ref b :: rest)) :=
  va_sld C.1.1 C.1.2.1 C.2.2.2.2.2.2.1 C.2.2.2.2.2.2.2 (Nat.not_le.mpr C.2.2.2.2.2.2.2) X.2 hin hdg kk
end LC
/-- how the loop goes on behind a case -/
def lc_K (p : Program) (l : Launch) (e : Env) (s : State) (m : MethodId) (below : List Frame) (meth : Method) (c : Code) (g : sn_G) (tb : Nat → sn_K) (b : Nat) (x3 : Int32) : Prop := ∀ (st : sn_S) (H : Heap) (locs : List Loc) (ls : Array Slot), Ri st → lc_X s g tb st H locs → lv_has ls 4 [(0, .ref b), (1, .ref (g.2.2.2 0)), (2, .ref (g.2.2.2 73)), (3, .int x3)] → lc_W p l e s m below meth c b H locs (F0 m 770 ls [])
