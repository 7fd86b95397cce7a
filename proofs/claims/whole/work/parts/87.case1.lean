/-! THE LAW: its cases -/
set_option maxHeartbeats 4000000 in
set_option maxRecDepth 100000 in
theorem lc_open {p : Program} {l : Launch} {e : Env} {s : State} {m : MethodId} {below : List Frame} {meth : Method} {c : Code} {g : sn_G} {tb : Nat → sn_K} {b L : Nat} {xs : Nat → Int32} (C : lc_C p l s m meth c g tb b L xs) {x3 : Int32} (h1 : vp_in (x3 + 1) L) (h2 : vp_in (x3 + 2) L) (h3 : vp_in (x3 + 3) L) (K : lc_K p l e s m below meth c g tb b x3) {st : sn_S} {H : Heap} {locs : List Loc} {ls : Array Slot} (hR : Ri st) (X : lc_X s g tb st H locs) (hl : lv_has ls 4 [(0, .ref b), (1, .ref (g.2.2.2 0)), (2, .ref (g.2.2.2 73)), (3, .int x3)]) : lc_W p l e s m below meth c b H locs (F0 m 148 ls []) := by
  obtain ⟨⟨hx, hb, hml, hown, hts⟩, hC, hi, hA, hT5, hT6, hX, hbl⟩ := id C
  obtain ⟨r, st1, st2, d1, d2, hR2⟩ := q_open hR (xs (x3 + 1).toNatClampNeg)
  refine lv_aload_n hx hb dL_law_148 rfl (lv_at hl 1 rfl) ?_
  refine lv_aload_n hx hb dL_law_149 rfl (lv_at hl 0 rfl) ?_
  refine lv_iload_n hx hb dL_law_150 rfl (lv_at hl 3 rfl) ?_
  refine lv_iconst (v := (1 : Int32)) hx hb dL_law_151 (by decide) ?_
  refine lv_iadd hx hb dL_law_152 ?_
  refine lc_ld C X h1 dL_law_153 ?_
  refine lc_Vi (ci := 4) (q := 0) (rest := []) (As := [.int (xs (x3 + 1).toNatClampNeg)]) C (c_X5_open (l := l) hi hT5 d1) (cwV 1 hts gL_law_X5_open rfl rfl rfl (by decide +kernel) ⟨Nat.le_of_ble_eq_true rfl, Nat.le_of_ble_eq_true rfl⟩) X (by decide) hT5.2.1 rfl rfl hl.1 rfl (Nat.le_of_ble_eq_true rfl) dL_law_154 (fun H locs X => ?_)
  refine lv_aload_n hx hb dL_law_157 rfl (lv_at hl 2 rfl) ?_
  refine lv_aload_n hx hb dL_law_158 rfl (lv_at hl 0 rfl) ?_
  refine lv_iload_n hx hb dL_law_159 rfl (lv_at hl 3 rfl) ?_
  refine lv_iconst (v := (1 : Int32)) hx hb dL_law_160 (by decide) ?_
  refine lv_iadd hx hb dL_law_161 ?_
  refine lc_ld C X h1 dL_law_162 ?_
  refine lc_Vi (ci := 5) (q := 73) (rest := [.int r]) (As := [.int (xs (x3 + 1).toNatClampNeg)]) C (c_X6_open (l := l) hi hT6 d2) (cwV 1 hts gL_law_X6_open rfl rfl rfl (by decide +kernel) ⟨Nat.le_of_ble_eq_true rfl, Nat.le_of_ble_eq_true rfl⟩) X (by decide) hT6.2.1 rfl rfl hl.1 rfl (Nat.le_of_ble_eq_true rfl) dL_law_163 (fun H locs X => ?_)
  exact lv_icmp_eq (tgt := 770) hx hb dL_law_166 (by decide) (fun _ => K _ H locs ls hR2 X hl) (fun h => absurd rfl h)
set_option maxHeartbeats 4000000 in
set_option maxRecDepth 100000 in
theorem lc_link {p : Program} {l : Launch} {e : Env} {s : State} {m : MethodId} {below : List Frame} {meth : Method} {c : Code} {g : sn_G} {tb : Nat → sn_K} {b L : Nat} {xs : Nat → Int32} (C : lc_C p l s m meth c g tb b L xs) {x3 : Int32} (h1 : vp_in (x3 + 1) L) (h2 : vp_in (x3 + 2) L) (h3 : vp_in (x3 + 3) L) (K : lc_K p l e s m below meth c g tb b x3) {st : sn_S} {H : Heap} {locs : List Loc} {ls : Array Slot} (hR : Ri st) (X : lc_X s g tb st H locs) (hl : lv_has ls 4 [(0, .ref b), (1, .ref (g.2.2.2 0)), (2, .ref (g.2.2.2 73)), (3, .int x3)]) : lc_W p l e s m below meth c b H locs (F0 m 171 ls []) := by
  obtain ⟨⟨hx, hb, hml, hown, hts⟩, hC, hi, hA, hT5, hT6, hX, hbl⟩ := id C
  by_cases hz : xs (x3 + 3).toNatClampNeg = 0
  · obtain ⟨r, st1, st2, d1, d2, hR2⟩ := q_link hR (xs (x3 + 1).toNatClampNeg) (xs (x3 + 2).toNatClampNeg) (0 : Int32)
    refine lv_aload_n hx hb dL_law_171 rfl (lv_at hl 1 rfl) ?_
    refine lv_aload_n hx hb dL_law_172 rfl (lv_at hl 0 rfl) ?_
    refine lv_iload_n hx hb dL_law_173 rfl (lv_at hl 3 rfl) ?_
    refine lv_iconst (v := (1 : Int32)) hx hb dL_law_174 (by decide) ?_
    refine lv_iadd hx hb dL_law_175 ?_
    refine lc_ld C X h1 dL_law_176 ?_
    refine lv_aload_n hx hb dL_law_177 rfl (lv_at hl 0 rfl) ?_
    refine lv_iload_n hx hb dL_law_178 rfl (lv_at hl 3 rfl) ?_
    refine lv_iconst (v := (2 : Int32)) hx hb dL_law_179 (by decide) ?_
    refine lv_iadd hx hb dL_law_180 ?_
    refine lc_ld C X h2 dL_law_181 ?_
    refine lv_aload_n hx hb dL_law_182 rfl (lv_at hl 0 rfl) ?_
    refine lv_iload_n hx hb dL_law_183 rfl (lv_at hl 3 rfl) ?_
    refine lv_iconst (v := (3 : Int32)) hx hb dL_law_184 (by decide) ?_
    refine lv_iadd hx hb dL_law_185 ?_
    refine lc_ld C X h3 dL_law_186 ?_
    refine lv_if_eq (tgt := 194) hx hb dL_law_187 (by decide) (fun _ => ?_) (fun h => absurd hz h)
    refine lv_iconst (v := (0 : Int32)) hx hb dL_law_194 (by decide) ?_
    refine lc_Vi (ci := 4) (q := 0) (rest := []) (As := [.int (xs (x3 + 1).toNatClampNeg), .int (xs (x3 + 2).toNatClampNeg), .int (0 : Int32)]) C (c_X5_link (l := l) hi hT5 d1) (cwV 3 hts gL_law_X5_link rfl rfl rfl (by decide +kernel) ⟨Nat.le_of_ble_eq_true rfl, Nat.le_of_ble_eq_true rfl⟩) X (by decide) hT5.2.1 rfl rfl hl.1 rfl (Nat.le_of_ble_eq_true rfl) dL_law_195 (fun H locs X => ?_)
    refine lv_aload_n hx hb dL_law_198 rfl (lv_at hl 2 rfl) ?_
    refine lv_aload_n hx hb dL_law_199 rfl (lv_at hl 0 rfl) ?_
    refine lv_iload_n hx hb dL_law_200 rfl (lv_at hl 3 rfl) ?_
    refine lv_iconst (v := (1 : Int32)) hx hb dL_law_201 (by decide) ?_
    refine lv_iadd hx hb dL_law_202 ?_
    refine lc_ld C X h1 dL_law_203 ?_
    refine lv_aload_n hx hb dL_law_204 rfl (lv_at hl 0 rfl) ?_
    refine lv_iload_n hx hb dL_law_205 rfl (lv_at hl 3 rfl) ?_
    refine lv_iconst (v := (2 : Int32)) hx hb dL_law_206 (by decide) ?_
    refine lv_iadd hx hb dL_law_207 ?_
    refine lc_ld C X h2 dL_law_208 ?_
    refine lv_aload_n hx hb dL_law_209 rfl (lv_at hl 0 rfl) ?_
    refine lv_iload_n hx hb dL_law_210 rfl (lv_at hl 3 rfl) ?_
    refine lv_iconst (v := (3 : Int32)) hx hb dL_law_211 (by decide) ?_
    refine lv_iadd hx hb dL_law_212 ?_
    refine lc_ld C X h3 dL_law_213 ?_
    refine lv_if_eq (tgt := 221) hx hb dL_law_214 (by decide) (fun _ => ?_) (fun h => absurd hz h)
    refine lv_iconst (v := (0 : Int32)) hx hb dL_law_221 (by decide) ?_
    refine lc_Vi (ci := 5) (q := 73) (rest := [.int r]) (As := [.int (xs (x3 + 1).toNatClampNeg), .int (xs (x3 + 2).toNatClampNeg), .int (0 : Int32)]) C (c_X6_link (l := l) hi hT6 d2) (cwV 3 hts gL_law_X6_link rfl rfl rfl (by decide +kernel) ⟨Nat.le_of_ble_eq_true rfl, Nat.le_of_ble_eq_true rfl⟩) X (by decide) hT6.2.1 rfl rfl hl.1 rfl (Nat.le_of_ble_eq_true rfl) dL_law_222 (fun H locs X => ?_)
    exact lv_icmp_eq (tgt := 770) hx hb dL_law_225 (by decide) (fun _ => K _ H locs ls hR2 X hl) (fun h => absurd rfl h)
  · obtain ⟨r, st1, st2, d1, d2, hR2⟩ := q_link hR (xs (x3 + 1).toNatClampNeg) (xs (x3 + 2).toNatClampNeg) (1 : Int32)
    refine lv_aload_n hx hb dL_law_171 rfl (lv_at hl 1 rfl) ?_
    refine lv_aload_n hx hb dL_law_172 rfl (lv_at hl 0 rfl) ?_
    refine lv_iload_n hx hb dL_law_173 rfl (lv_at hl 3 rfl) ?_
    refine lv_iconst (v := (1 : Int32)) hx hb dL_law_174 (by decide) ?_
    refine lv_iadd hx hb dL_law_175 ?_
    refine lc_ld C X h1 dL_law_176 ?_
    refine lv_aload_n hx hb dL_law_177 rfl (lv_at hl 0 rfl) ?_
    refine lv_iload_n hx hb dL_law_178 rfl (lv_at hl 3 rfl) ?_
    refine lv_iconst (v := (2 : Int32)) hx hb dL_law_179 (by decide) ?_
    refine lv_iadd hx hb dL_law_180 ?_
    refine lc_ld C X h2 dL_law_181 ?_
    refine lv_aload_n hx hb dL_law_182 rfl (lv_at hl 0 rfl) ?_
    refine lv_iload_n hx hb dL_law_183 rfl (lv_at hl 3 rfl) ?_
    refine lv_iconst (v := (3 : Int32)) hx hb dL_law_184 (by decide) ?_
    refine lv_iadd hx hb dL_law_185 ?_
    refine lc_ld C X h3 dL_law_186 ?_
    refine lv_if_eq (tgt := 194) hx hb dL_law_187 (by decide) (fun h => absurd h hz) (fun _ => ?_)
    refine lv_iconst (v := (1 : Int32)) hx hb dL_law_190 (by decide) ?_
    refine lv_goto (tgt := 195) hx hb dL_law_191 (by decide) ?_
    refine lc_Vi (ci := 4) (q := 0) (rest := []) (As := [.int (xs (x3 + 1).toNatClampNeg), .int (xs (x3 + 2).toNatClampNeg), .int (1 : Int32)]) C (c_X5_link (l := l) hi hT5 d1) (cwV 3 hts gL_law_X5_link rfl rfl rfl (by decide +kernel) ⟨Nat.le_of_ble_eq_true rfl, Nat.le_of_ble_eq_true rfl⟩) X (by decide) hT5.2.1 rfl rfl hl.1 rfl (Nat.le_of_ble_eq_true rfl) dL_law_195 (fun H locs X => ?_)
    refine lv_aload_n hx hb dL_law_198 rfl (lv_at hl 2 rfl) ?_
    refine lv_aload_n hx hb dL_law_199 rfl (lv_at hl 0 rfl) ?_
    refine lv_iload_n hx hb dL_law_200 rfl (lv_at hl 3 rfl) ?_
    refine lv_iconst (v := (1 : Int32)) hx hb dL_law_201 (by decide) ?_
    refine lv_iadd hx hb dL_law_202 ?_
    refine lc_ld C X h1 dL_law_203 ?_
    refine lv_aload_n hx hb dL_law_204 rfl (lv_at hl 0 rfl) ?_
    refine lv_iload_n hx hb dL_law_205 rfl (lv_at hl 3 rfl) ?_
    refine lv_iconst (v := (2 : Int32)) hx hb dL_law_206 (by decide) ?_
    refine lv_iadd hx hb dL_law_207 ?_
    refine lc_ld C X h2 dL_law_208 ?_
    refine lv_aload_n hx hb dL_law_209 rfl (lv_at hl 0 rfl) ?_
    refine lv_iload_n hx hb dL_law_210 rfl (lv_at hl 3 rfl) ?_
    refine lv_iconst (v := (3 : Int32)) hx hb dL_law_211 (by decide) ?_
    refine lv_iadd hx hb dL_law_212 ?_
    refine lc_ld C X h3 dL_law_213 ?_
    refine lv_if_eq (tgt := 221) hx hb dL_law_214 (by decide) (fun h => absurd h hz) (fun _ => ?_)
    refine lv_iconst (v := (1 : Int32)) hx hb dL_law_217 (by decide) ?_
    refine lv_goto (tgt := 222) hx hb dL_law_218 (by decide) ?_
    refine lc_Vi (ci := 5) (q := 73) (rest := [.int r]) (As := [.int (xs (x3 + 1).toNatClampNeg), .int (xs (x3 + 2).toNatClampNeg), .int (1 : Int32)]) C (c_X6_link (l := l) hi hT6 d2) (cwV 3 hts gL_law_X6_link rfl rfl rfl (by decide +kernel) ⟨Nat.le_of_ble_eq_true rfl, Nat.le_of_ble_eq_true rfl⟩) X (by decide) hT6.2.1 rfl rfl hl.1 rfl (Nat.le_of_ble_eq_true rfl) dL_law_222 (fun H locs X => ?_)
    exact lv_icmp_eq (tgt := 770) hx hb dL_law_225 (by decide) (fun _ => K _ H locs ls hR2 X hl) (fun h => absurd rfl h)
set_option maxHeartbeats 4000000 in
set_option maxRecDepth 100000 in
theorem lc_build {p : Program} {l : Launch} {e : Env} {s : State} {m : MethodId} {below : List Frame} {meth : Method} {c : Code} {g : sn_G} {tb : Nat → sn_K} {b L : Nat} {xs : Nat → Int32} (C : lc_C p l s m meth c g tb b L xs) {x3 : Int32} (h1 : vp_in (x3 + 1) L) (h2 : vp_in (x3 + 2) L) (h3 : vp_in (x3 + 3) L) (K : lc_K p l e s m below meth c g tb b x3) {st : sn_S} {H : Heap} {locs : List Loc} {ls : Array Slot} (hR : Ri st) (X : lc_X s g tb st H locs) (hl : lv_has ls 4 [(0, .ref b), (1, .ref (g.2.2.2 0)), (2, .ref (g.2.2.2 73)), (3, .int x3)]) : lc_W p l e s m below meth c b H locs (F0 m 230 ls []) := by
  obtain ⟨⟨hx, hb, hml, hown, hts⟩, hC, hi, hA, hT5, hT6, hX, hbl⟩ := id C
  obtain ⟨r, st1, st2, d1, d2, hR2⟩ := q_build hR
  refine lv_aload_n hx hb dL_law_230 rfl (lv_at hl 1 rfl) ?_
  refine lc_Vi (ci := 4) (q := 0) (rest := []) (As := []) C (c_X5_build (l := l) hi hT5 d1) (cwV 0 hts gL_law_X5_build rfl rfl rfl (by decide +kernel) ⟨Nat.le_of_ble_eq_true rfl, Nat.le_of_ble_eq_true rfl⟩) X (by decide) hT5.2.1 rfl rfl hl.1 rfl (Nat.le_of_ble_eq_true rfl) dL_law_231 (fun H locs X => ?_)
  refine lv_aload_n hx hb dL_law_234 rfl (lv_at hl 2 rfl) ?_
  refine lc_Vi (ci := 5) (q := 73) (rest := [.int r]) (As := []) C (c_X6_build (l := l) hi hT6 d2) (cwV 0 hts gL_law_X6_build rfl rfl rfl (by decide +kernel) ⟨Nat.le_of_ble_eq_true rfl, Nat.le_of_ble_eq_true rfl⟩) X (by decide) hT6.2.1 rfl rfl hl.1 rfl (Nat.le_of_ble_eq_true rfl) dL_law_235 (fun H locs X => ?_)
  exact lv_icmp_eq (tgt := 770) hx hb dL_law_238 (by decide) (fun _ => K _ H locs ls hR2 X hl) (fun h => absurd rfl h)
set_option maxHeartbeats 4000000 in
set_option maxRecDepth 100000 in
theorem lc_value {p : Program} {l : Launch} {e : Env} {s : State} {m : MethodId} {below : List Frame} {meth : Method} {c : Code} {g : sn_G} {tb : Nat → sn_K} {b L : Nat} {xs : Nat → Int32} (C : lc_C p l s m meth c g tb b L xs) {x3 : Int32} (h1 : vp_in (x3 + 1) L) (h2 : vp_in (x3 + 2) L) (h3 : vp_in (x3 + 3) L) (K : lc_K p l e s m below meth c g tb b x3) {st : sn_S} {H : Heap} {locs : List Loc} {ls : Array Slot} (hR : Ri st) (X : lc_X s g tb st H locs) (hl : lv_has ls 4 [(0, .ref b), (1, .ref (g.2.2.2 0)), (2, .ref (g.2.2.2 73)), (3, .int x3)]) : lc_W p l e s m below meth c b H locs (F0 m 243 ls []) := by
  obtain ⟨⟨hx, hb, hml, hown, hts⟩, hC, hi, hA, hT5, hT6, hX, hbl⟩ := id C
  obtain ⟨r, st1, st2, d1, d2, hR2⟩ := q_value hR (xs (x3 + 1).toNatClampNeg) (xs (x3 + 2).toNatClampNeg)
  refine lv_aload_n hx hb dL_law_243 rfl (lv_at hl 1 rfl) ?_
  refine lv_aload_n hx hb dL_law_244 rfl (lv_at hl 0 rfl) ?_
  refine lv_iload_n hx hb dL_law_245 rfl (lv_at hl 3 rfl) ?_
  refine lv_iconst (v := (1 : Int32)) hx hb dL_law_246 (by decide) ?_
  refine lv_iadd hx hb dL_law_247 ?_
  refine lc_ld C X h1 dL_law_248 ?_
  refine lv_aload_n hx hb dL_law_249 rfl (lv_at hl 0 rfl) ?_
  refine lv_iload_n hx hb dL_law_250 rfl (lv_at hl 3 rfl) ?_
  refine lv_iconst (v := (2 : Int32)) hx hb dL_law_251 (by decide) ?_
  refine lv_iadd hx hb dL_law_252 ?_
  refine lc_ld C X h2 dL_law_253 ?_
  refine lc_Vi (ci := 4) (q := 0) (rest := []) (As := [.int (xs (x3 + 1).toNatClampNeg), .int (xs (x3 + 2).toNatClampNeg)]) C (c_X5_value (l := l) hi hT5 d1) (cwV 2 hts gL_law_X5_value rfl rfl rfl (by decide +kernel) ⟨Nat.le_of_ble_eq_true rfl, Nat.le_of_ble_eq_true rfl⟩) X (by decide) hT5.2.1 rfl rfl hl.1 rfl (Nat.le_of_ble_eq_true rfl) dL_law_254 (fun H locs X => ?_)
  refine lv_aload_n hx hb dL_law_257 rfl (lv_at hl 2 rfl) ?_
  refine lv_aload_n hx hb dL_law_258 rfl (lv_at hl 0 rfl) ?_
  refine lv_iload_n hx hb dL_law_259 rfl (lv_at hl 3 rfl) ?_
  refine lv_iconst (v := (1 : Int32)) hx hb dL_law_260 (by decide) ?_
  refine lv_iadd hx hb dL_law_261 ?_
  refine lc_ld C X h1 dL_law_262 ?_
  refine lv_aload_n hx hb dL_law_263 rfl (lv_at hl 0 rfl) ?_
  refine lv_iload_n hx hb dL_law_264 rfl (lv_at hl 3 rfl) ?_
  refine lv_iconst (v := (2 : Int32)) hx hb dL_law_265 (by decide) ?_
  refine lv_iadd hx hb dL_law_266 ?_
  refine lc_ld C X h2 dL_law_267 ?_
  refine lc_Vi (ci := 5) (q := 73) (rest := [.int r]) (As := [.int (xs (x3 + 1).toNatClampNeg), .int (xs (x3 + 2).toNatClampNeg)]) C (c_X6_value (l := l) hi hT6 d2) (cwV 2 hts gL_law_X6_value rfl rfl rfl (by decide +kernel) ⟨Nat.le_of_ble_eq_true rfl, Nat.le_of_ble_eq_true rfl⟩) X (by decide) hT6.2.1 rfl rfl hl.1 rfl (Nat.le_of_ble_eq_true rfl) dL_law_268 (fun H locs X => ?_)
  exact lv_icmp_eq (tgt := 770) hx hb dL_law_271 (by decide) (fun _ => K _ H locs ls hR2 X hl) (fun h => absurd rfl h)
set_option maxHeartbeats 4000000 in
set_option maxRecDepth 100000 in
theorem lc_fault {p : Program} {l : Launch} {e : Env} {s : State} {m : MethodId} {below : List Frame} {meth : Method} {c : Code} {g : sn_G} {tb : Nat → sn_K} {b L : Nat} {xs : Nat → Int32} (C : lc_C p l s m meth c g tb b L xs) {x3 : Int32} (h1 : vp_in (x3 + 1) L) (h2 : vp_in (x3 + 2) L) (h3 : vp_in (x3 + 3) L) (K : lc_K p l e s m below meth c g tb b x3) {st : sn_S} {H : Heap} {locs : List Loc} {ls : Array Slot} (hR : Ri st) (X : lc_X s g tb st H locs) (hl : lv_has ls 4 [(0, .ref b), (1, .ref (g.2.2.2 0)), (2, .ref (g.2.2.2 73)), (3, .int x3)]) : lc_W p l e s m below meth c b H locs (F0 m 276 ls []) := by
  obtain ⟨⟨hx, hb, hml, hown, hts⟩, hC, hi, hA, hT5, hT6, hX, hbl⟩ := id C
  obtain ⟨r, st1, st2, d1, d2, hR2⟩ := q_fault hR (xs (x3 + 1).toNatClampNeg) (xs (x3 + 2).toNatClampNeg) (xs (x3 + 3).toNatClampNeg)
  refine lv_aload_n hx hb dL_law_276 rfl (lv_at hl 1 rfl) ?_
  refine lv_aload_n hx hb dL_law_277 rfl (lv_at hl 0 rfl) ?_
  refine lv_iload_n hx hb dL_law_278 rfl (lv_at hl 3 rfl) ?_
  refine lv_iconst (v := (1 : Int32)) hx hb dL_law_279 (by decide) ?_
  refine lv_iadd hx hb dL_law_280 ?_
  refine lc_ld C X h1 dL_law_281 ?_
  refine lv_aload_n hx hb dL_law_282 rfl (lv_at hl 0 rfl) ?_
  refine lv_iload_n hx hb dL_law_283 rfl (lv_at hl 3 rfl) ?_
  refine lv_iconst (v := (2 : Int32)) hx hb dL_law_284 (by decide) ?_
  refine lv_iadd hx hb dL_law_285 ?_
  refine lc_ld C X h2 dL_law_286 ?_
  refine lv_aload_n hx hb dL_law_287 rfl (lv_at hl 0 rfl) ?_
  refine lv_iload_n hx hb dL_law_288 rfl (lv_at hl 3 rfl) ?_
  refine lv_iconst (v := (3 : Int32)) hx hb dL_law_289 (by decide) ?_
  refine lv_iadd hx hb dL_law_290 ?_
  refine lc_ld C X h3 dL_law_291 ?_
  refine lc_Vi (ci := 4) (q := 0) (rest := []) (As := [.int (xs (x3 + 1).toNatClampNeg), .int (xs (x3 + 2).toNatClampNeg), .int (xs (x3 + 3).toNatClampNeg)]) C (c_X5_fault (l := l) hi hT5 d1) (cwV 3 hts gL_law_X5_fault rfl rfl rfl (by decide +kernel) ⟨Nat.le_of_ble_eq_true rfl, Nat.le_of_ble_eq_true rfl⟩) X (by decide) hT5.2.1 rfl rfl hl.1 rfl (Nat.le_of_ble_eq_true rfl) dL_law_292 (fun H locs X => ?_)
  refine lv_aload_n hx hb dL_law_295 rfl (lv_at hl 2 rfl) ?_
  refine lv_aload_n hx hb dL_law_296 rfl (lv_at hl 0 rfl) ?_
  refine lv_iload_n hx hb dL_law_297 rfl (lv_at hl 3 rfl) ?_
  refine lv_iconst (v := (1 : Int32)) hx hb dL_law_298 (by decide) ?_
  refine lv_iadd hx hb dL_law_299 ?_
  refine lc_ld C X h1 dL_law_300 ?_
  refine lv_aload_n hx hb dL_law_301 rfl (lv_at hl 0 rfl) ?_
  refine lv_iload_n hx hb dL_law_302 rfl (lv_at hl 3 rfl) ?_
  refine lv_iconst (v := (2 : Int32)) hx hb dL_law_303 (by decide) ?_
  refine lv_iadd hx hb dL_law_304 ?_
  refine lc_ld C X h2 dL_law_305 ?_
  refine lv_aload_n hx hb dL_law_306 rfl (lv_at hl 0 rfl) ?_
  refine lv_iload_n hx hb dL_law_307 rfl (lv_at hl 3 rfl) ?_
  refine lv_iconst (v := (3 : Int32)) hx hb dL_law_308 (by decide) ?_
  refine lv_iadd hx hb dL_law_309 ?_
  refine lc_ld C X h3 dL_law_310 ?_
  refine lc_Vi (ci := 5) (q := 73) (rest := [.int r]) (As := [.int (xs (x3 + 1).toNatClampNeg), .int (xs (x3 + 2).toNatClampNeg), .int (xs (x3 + 3).toNatClampNeg)]) C (c_X6_fault (l := l) hi hT6 d2) (cwV 3 hts gL_law_X6_fault rfl rfl rfl (by decide +kernel) ⟨Nat.le_of_ble_eq_true rfl, Nat.le_of_ble_eq_true rfl⟩) X (by decide) hT6.2.1 rfl rfl hl.1 rfl (Nat.le_of_ble_eq_true rfl) dL_law_311 (fun H locs X => ?_)
  exact lv_icmp_eq (tgt := 770) hx hb dL_law_314 (by decide) (fun _ => K _ H locs ls hR2 X hl) (fun h => absurd rfl h)
