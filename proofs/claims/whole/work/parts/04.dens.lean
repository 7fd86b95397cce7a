/-! what each method answers and does, by program out of its bytecode -/
def D_J7_fill_53178_L5 (q0 : Nat) (n0 : Nat) (x1 : Int32) (x3 : Int32) : Nat → Int32 → sn_S → Option (sn_S)
  | 0, _, _ => none
  | n + 1, x2, st =>
  if x3 ≤ x2 then
  (some st)
  else
  ((sn_ix x2 n0).bind fun k1 =>
  D_J7_fill_53178_L5 q0 n0 x1 x3 n (x2 + (1 : Int32)) (sn_wr st q0 k1 x1))
def D_J7_fill_53178 (q0 : Nat) (n0 : Nat) (x1 : Int32) (st : sn_S) : Option (sn_S) :=
  D_J7_fill_53178_L5 q0 n0 x1 (nI n0) 4096 (0 : Int32) st

def D_X5_has (x0 : Int32) (x1 : Int32) : Option (Int32) :=
  if ((x0 >>> (x1 &&& 31)) &&& (1 : Int32)) = (1 : Int32) then
  (some (1 : Int32))
  else
  (some (0 : Int32))

def D_X3_measure_L28 (b : Nat) (x1 : Int32) (x2 : Int32) (x3 : Int32) (K : Int32 → Int32 → Int32 → sn_S → Option (sn_S)) : Nat → Int32 → Int32 → sn_S → Option (sn_S)
  | 0, _, _, _ => none
  | n + 1, x4, x5, st =>
  if (st.1 b 0) ≤ x5 then
  (K (x1 ||| (x4 &&& (x1 ^^^ (-1 : Int32)))) (x4 &&& (x1 ^^^ (-1 : Int32))) (x3 + (1 : Int32)) st)
  else
  ((D_X5_has x2 x5).bind fun r2 =>
  if r2 = (0 : Int32) then
  (D_X3_measure_L28 b x1 x2 x3 K n x4 (x5 + (1 : Int32)) st)
  else
  ((sn_ix x5 12).bind fun k3 =>
  (sn_ix x5 12).bind fun k4 =>
  D_X3_measure_L28 b x1 x2 x3 K n (x4 ||| ((sn_wr st (b + 2) k3 x3).1 (b + 1) k4)) (x5 + (1 : Int32)) (sn_wr st (b + 2) k3 x3)))
def D_X3_measure_L14 (b : Nat) : Nat → Int32 → Int32 → Int32 → sn_S → Option (sn_S)
  | 0, _, _, _, _ => none
  | n + 1, x1, x2, x3, st =>
  if (st.1 b 0) ≤ x3 then
  (some st)
  else
  (D_X3_measure_L28 b x1 x2 x3 (fun y1 y2 y3 yt => D_X3_measure_L14 b n y1 y2 y3 yt) 4096 (0 : Int32) (0 : Int32) st)
def D_X3_measure (b : Nat) (st : sn_S) : Option (sn_S) :=
  (D_J7_fill_53178 (b + 2) 12 (-1 : Int32) st).bind fun r1 =>
  D_X3_measure_L14 b 4096 (1 : Int32) (1 : Int32) (0 : Int32) r1

def D_X3_clear (b : Nat) (x1 : Int32) (st : sn_S) : Option (sn_S) :=
  (D_J7_fill_53178 (b + 1) 12 (0 : Int32) (sn_wr st b 0 x1)).bind fun r1 =>
  (D_X3_measure b r1).bind fun r2 =>
  some r2

def D_X1_clear_L2 (b : Nat) : Nat → Int32 → sn_S → Option (sn_S)
  | 0, _, _ => none
  | n + 1, x1, st =>
  if (12 : Int32) ≤ x1 then
  ((D_J7_fill_53178 (b + 27) 12 (0 : Int32) st).bind fun r1 =>
  (D_J7_fill_53178 (b + 28) 12 (0 : Int32) r1).bind fun r2 =>
  some r2)
  else
  ((sn_ix x1 12).bind fun k3 =>
  (D_J7_fill_53178 (b + 1 + 1 + k3) 17 (0 : Int32) st).bind fun r4 =>
  (sn_ix x1 12).bind fun k5 =>
  (D_J7_fill_53178 (b + 14 + 1 + k5) 17 (0 : Int32) r4).bind fun r6 =>
  (sn_ix x1 12).bind fun k7 =>
  (sn_ix x1 12).bind fun k8 =>
  D_X1_clear_L2 b n (x1 + (1 : Int32)) (sn_wr (sn_wr r6 (b + 1 + 1 + k7) 1 (-1 : Int32)) (b + 14 + 1 + k8) 1 (-1 : Int32)))
def D_X1_clear (b : Nat) (st : sn_S) : Option (sn_S) :=
  D_X1_clear_L2 b 4096 (0 : Int32) st

def D_X4_clear (b : Nat) (st : sn_S) : Option (sn_S) :=
  (D_J7_fill_53178 (b + 1) 4 (0 : Int32) (sn_wr (sn_wr (sn_wr (sn_wr st b 0 (0 : Int32)) b 1 (0 : Int32)) b 2 (0 : Int32)) b 3 (0 : Int32))).bind fun r1 =>
  (D_J7_fill_53178 (b + 2) 12 (0 : Int32) r1).bind fun r2 =>
  some r2

def D_X0_clear (b : Nat) (x1 : Int32) (st : sn_S) : Option (sn_S) :=
  (D_X3_clear (b + 1) x1 st).bind fun r1 =>
  (D_X1_clear (b + 4) r1).bind fun r2 =>
  (D_X4_clear (b + 33) r2).bind fun r3 =>
  some (sn_wr (sn_wr (sn_wr (sn_wr r3 b 3 (0 : Int32)) b 6 (0 : Int32)) b 7 (0 : Int32)) b 8 (0 : Int32))

def D_X5_open (b : Nat) (x1 : Int32) (st : sn_S) : Option (Int32 × sn_S) :=
  if x1 < (2 : Int32) then
  (some ((-102 : Int32), st))
  else
  (if x1 ≤ (12 : Int32) then
  ((D_X0_clear (b + 1) x1 st).bind fun r1 =>
  some ((st.1 (b + 1 + 1) 0), r1))
  else
  (some ((-102 : Int32), st)))

def D_X3_isNode (b : Nat) (x1 : Int32) (st : sn_S) : Option (Int32) :=
  if x1 < (0 : Int32) then
  (some (0 : Int32))
  else
  (if (st.1 b 0) ≤ x1 then
  (some (0 : Int32))
  else
  (some (1 : Int32)))

def D_X3_join (b : Nat) (x1 : Int32) (x2 : Int32) (x3 : Int32) (st : sn_S) : Option (sn_S) :=
  if x3 = (0 : Int32) then
  ((sn_ix x1 12).bind fun k1 =>
  (sn_ix x1 12).bind fun k2 =>
  (sn_ix x2 12).bind fun k3 =>
  (sn_ix x2 12).bind fun k4 =>
  (D_X3_measure b (sn_wr (sn_wr st (b + 1) k2 ((st.1 (b + 1) k1) &&& (((1 : Int32) <<< (x2 &&& 31)) ^^^ (-1 : Int32)))) (b + 1) k4 (((sn_wr st (b + 1) k2 ((st.1 (b + 1) k1) &&& (((1 : Int32) <<< (x2 &&& 31)) ^^^ (-1 : Int32)))).1 (b + 1) k3) &&& (((1 : Int32) <<< (x1 &&& 31)) ^^^ (-1 : Int32))))).bind fun r5 =>
  some r5)
  else
  ((sn_ix x1 12).bind fun k6 =>
  (sn_ix x1 12).bind fun k7 =>
  (sn_ix x2 12).bind fun k8 =>
  (sn_ix x2 12).bind fun k9 =>
  (D_X3_measure b (sn_wr (sn_wr st (b + 1) k7 ((st.1 (b + 1) k6) ||| ((1 : Int32) <<< (x2 &&& 31)))) (b + 1) k9 (((sn_wr st (b + 1) k7 ((st.1 (b + 1) k6) ||| ((1 : Int32) <<< (x2 &&& 31)))).1 (b + 1) k8) ||| ((1 : Int32) <<< (x1 &&& 31))))).bind fun r10 =>
  some r10)

def D_X5_link (b : Nat) (x1 : Int32) (x2 : Int32) (x3 : Int32) (st : sn_S) : Option (Int32 × sn_S) :=
  (D_X3_isNode (b + 1 + 1) x1 st).bind fun r1 =>
  if r1 = (0 : Int32) then
  (some ((-101 : Int32), st))
  else
  ((D_X3_isNode (b + 1 + 1) x2 st).bind fun r2 =>
  if r2 = (0 : Int32) then
  (some ((-101 : Int32), st))
  else
  (if x1 = x2 then
  (some ((-102 : Int32), st))
  else
  (if (st.1 (b + 1) 3) = (0 : Int32) then
  ((sn_ix x1 12).bind fun k3 =>
  (D_X5_has (st.1 (b + 1 + 1 + 1) k3) x2).bind fun r4 =>
  if r4 = (0 : Int32) then
  ((D_X3_join (b + 1 + 1) x1 x2 x3 st).bind fun r5 =>
  some ((0 : Int32), r5))
  else
  ((D_X3_join (b + 1 + 1) x1 x2 x3 st).bind fun r6 =>
  some ((1 : Int32), r6)))
  else
  (some ((-103 : Int32), st)))))

def D_X3_isWhole_L2 (b : Nat) (st : sn_S) : Nat → Int32 → Option (Int32)
  | 0, _ => none
  | n + 1, x1 =>
  if (st.1 b 0) ≤ x1 then
  (some (1 : Int32))
  else
  ((sn_ix x1 12).bind fun k1 =>
  if (st.1 (b + 2) k1) = (-1 : Int32) then
  (some (0 : Int32))
  else
  (D_X3_isWhole_L2 b st n (x1 + (1 : Int32))))
def D_X3_isWhole (b : Nat) (st : sn_S) : Option (Int32) :=
  D_X3_isWhole_L2 b st 4096 (0 : Int32)

def D_X5_below (x0 : Int32) : Option (Int32) :=
  some (((1 : Int32) <<< (x0 &&& 31)) - (1 : Int32))

def D_X1_isSane_L2 (b : Nat) (x1 : Int32) (st : sn_S) : Nat → Int32 → Option (Int32)
  | 0, _ => none
  | n + 1, x2 =>
  if (17 : Int32) ≤ x2 then
  (some (1 : Int32))
  else
  ((sn_ix x1 12).bind fun k1 =>
  (sn_ix x2 17).bind fun k2 =>
  (sn_ix x1 12).bind fun k3 =>
  (sn_ix x2 17).bind fun k4 =>
  if (st.1 (b + 1 + 1 + k1) k2) = (st.1 (b + 14 + 1 + k3) k4) then
  (D_X1_isSane_L2 b x1 st n (x2 + (1 : Int32)))
  else
  (some (0 : Int32)))
def D_X1_isSane (b : Nat) (x1 : Int32) (st : sn_S) : Option (Int32) :=
  D_X1_isSane_L2 b x1 st 4096 (0 : Int32)

def D_X2_parentToBe_L19 (o0 : Nat) (x1 : Int32) (st : sn_S) : Nat → Int32 → Int32 → Option (Int32)
  | 0, _, _ => none
  | n + 1, x3, x4 =>
  if (st.1 (o0 + 1) 0) ≤ x4 then
  (some x3)
  else
  ((sn_ix x1 12).bind fun k1 =>
  (D_X5_has (st.1 (o0 + 1 + 1) k1) x4).bind fun r2 =>
  if r2 = (0 : Int32) then
  (D_X2_parentToBe_L19 o0 x1 st n x3 (x4 + (1 : Int32)))
  else
  (if x3 = (-1 : Int32) then
  (D_X2_parentToBe_L19 o0 x1 st n x4 (x4 + (1 : Int32)))
  else
  ((sn_ix x4 12).bind fun k3 =>
  (sn_ix x3 12).bind fun k4 =>
  if (st.1 (o0 + 4 + 14 + 1 + k4) 0) ≤ (st.1 (o0 + 4 + 14 + 1 + k3) 0) then
  (D_X2_parentToBe_L19 o0 x1 st n x3 (x4 + (1 : Int32)))
  else
  (D_X2_parentToBe_L19 o0 x1 st n x4 (x4 + (1 : Int32))))))
def D_X2_parentToBe (o0 : Nat) (x1 : Int32) (st : sn_S) : Option (Int32) :=
  if x1 = (0 : Int32) then
  (some (-1 : Int32))
  else
  (D_X2_parentToBe_L19 o0 x1 st 4096 (-1 : Int32) (0 : Int32))

def D_X2_distToBe (o0 : Nat) (x1 : Int32) (x2 : Int32) (st : sn_S) : Option (Int32) :=
  if x1 = (0 : Int32) then
  (some (0 : Int32))
  else
  (if x2 = (-1 : Int32) then
  (some (st.1 (o0 + 1) 0))
  else
  ((sn_ix x2 12).bind fun k1 =>
  some (if (st.1 (o0 + 1) 0) < ((st.1 (o0 + 4 + 14 + 1 + k1) 0) + (1 : Int32)) then (st.1 (o0 + 1) 0) else ((st.1 (o0 + 4 + 14 + 1 + k1) 0) + (1 : Int32)))))

def D_X2_phaseAbove (o0 : Nat) (x1 : Int32) (st : sn_S) : Option (Int32) :=
  (sn_ix x1 12).bind fun k1 =>
  if (st.1 (o0 + 4 + 14 + 1 + k1) 1) = (-1 : Int32) then
  (some (0 : Int32))
  else
  ((sn_ix (st.1 (o0 + 4 + 14 + 1 + k1) 1) 12).bind fun k2 =>
  some (st.1 (o0 + 4 + 14 + 1 + k2) 2))

def D_X2_areChildren_L2 (o0 : Nat) (x1 : Int32) (x2 : Int32) (st : sn_S) : Nat → Int32 → Option (Int32)
  | 0, _ => none
  | n + 1, x3 =>
  if (st.1 (o0 + 1) 0) ≤ x3 then
  (some (1 : Int32))
  else
  ((sn_ix x1 12).bind fun k1 =>
  (D_X5_has (st.1 (o0 + 4 + 27) k1) x3).bind fun r2 =>
  if r2 = (0 : Int32) then
  (D_X2_areChildren_L2 o0 x1 x2 st n (x3 + (1 : Int32)))
  else
  ((sn_ix x3 12).bind fun k3 =>
  if (st.1 (o0 + 4 + 14 + 1 + k3) 2) = x2 then
  (D_X2_areChildren_L2 o0 x1 x2 st n (x3 + (1 : Int32)))
  else
  (some (0 : Int32))))
def D_X2_areChildren (o0 : Nat) (x1 : Int32) (x2 : Int32) (st : sn_S) : Option (Int32) :=
  D_X2_areChildren_L2 o0 x1 x2 st 4096 (0 : Int32)

def D_X2_phaseToBe (o0 : Nat) (x1 : Int32) (st : sn_S) : Option (Int32) :=
  if x1 = (0 : Int32) then
  ((D_X2_phaseAbove o0 x1 st).bind fun r7 =>
  (sn_ix x1 12).bind fun k8 =>
  if (st.1 (o0 + 4 + 14 + 1 + k8) 2) = (0 : Int32) then
  (if (1 : Int32) = (0 : Int32) then
  (if r7 = (1 : Int32) then
  ((D_X2_areChildren o0 x1 (0 : Int32) st).bind fun r10 =>
  if r10 = (0 : Int32) then
  (some (0 : Int32))
  else
  (some (1 : Int32)))
  else
  (some (0 : Int32)))
  else
  ((D_X2_areChildren o0 x1 (0 : Int32) st).bind fun r9 =>
  if r9 = (0 : Int32) then
  (some (0 : Int32))
  else
  (some (1 : Int32))))
  else if (st.1 (o0 + 4 + 14 + 1 + k8) 2) = (1 : Int32) then
  (if (1 : Int32) = (0 : Int32) then
  (if r7 = (1 : Int32) then
  ((D_X2_areChildren o0 x1 (2 : Int32) st).bind fun r12 =>
  if r12 = (0 : Int32) then
  (some (1 : Int32))
  else
  (if (1 : Int32) = (0 : Int32) then
  (some (2 : Int32))
  else
  (some (0 : Int32))))
  else
  (some (0 : Int32)))
  else
  ((D_X2_areChildren o0 x1 (2 : Int32) st).bind fun r11 =>
  if r11 = (0 : Int32) then
  (some (1 : Int32))
  else
  (if (1 : Int32) = (0 : Int32) then
  (some (2 : Int32))
  else
  (some (0 : Int32)))))
  else 
  (if (1 : Int32) = (0 : Int32) then
  (if r7 = (0 : Int32) then
  (some (0 : Int32))
  else
  (some (2 : Int32)))
  else
  (some (0 : Int32))))
  else
  ((D_X2_phaseAbove o0 x1 st).bind fun r1 =>
  (sn_ix x1 12).bind fun k2 =>
  if (st.1 (o0 + 4 + 14 + 1 + k2) 2) = (0 : Int32) then
  (if (0 : Int32) = (0 : Int32) then
  (if r1 = (1 : Int32) then
  ((D_X2_areChildren o0 x1 (0 : Int32) st).bind fun r4 =>
  if r4 = (0 : Int32) then
  (some (0 : Int32))
  else
  (some (1 : Int32)))
  else
  (some (0 : Int32)))
  else
  ((D_X2_areChildren o0 x1 (0 : Int32) st).bind fun r3 =>
  if r3 = (0 : Int32) then
  (some (0 : Int32))
  else
  (some (1 : Int32))))
  else if (st.1 (o0 + 4 + 14 + 1 + k2) 2) = (1 : Int32) then
  (if (0 : Int32) = (0 : Int32) then
  (if r1 = (1 : Int32) then
  ((D_X2_areChildren o0 x1 (2 : Int32) st).bind fun r6 =>
  if r6 = (0 : Int32) then
  (some (1 : Int32))
  else
  (if (0 : Int32) = (0 : Int32) then
  (some (2 : Int32))
  else
  (some (0 : Int32))))
  else
  (some (0 : Int32)))
  else
  ((D_X2_areChildren o0 x1 (2 : Int32) st).bind fun r5 =>
  if r5 = (0 : Int32) then
  (some (1 : Int32))
  else
  (if (0 : Int32) = (0 : Int32) then
  (some (2 : Int32))
  else
  (some (0 : Int32)))))
  else 
  (if (0 : Int32) = (0 : Int32) then
  (if r1 = (0 : Int32) then
  (some (0 : Int32))
  else
  (some (2 : Int32)))
  else
  (some (0 : Int32))))

def D_X5_greatest_L3 (x0 : Int32) : Nat → Int32 → Option (Int32)
  | 0, _ => none
  | n + 1, x1 =>
  if x1 < (0 : Int32) then
  (some (-1 : Int32))
  else
  (if x0 < ((1 : Int32) <<< (x1 &&& 31)) then
  (D_X5_greatest_L3 x0 n (x1 + (-1 : Int32)))
  else
  (some x1))
def D_X5_greatest (x0 : Int32) : Option (Int32) :=
  D_X5_greatest_L3 x0 4096 (11 : Int32)

def D_X2_xBefore (o0 : Nat) (x1 : Int32) (x2 : Int32) (st : sn_S) : Option (Int32) :=
  (sn_ix x1 12).bind fun k1 =>
  (D_X5_below x2).bind fun r2 =>
  if ((st.1 (o0 + 4 + 28) k1) &&& r2) = (0 : Int32) then
  ((D_X5_greatest (st.1 (o0 + 4 + 28) k1)).bind fun r6 =>
  if r6 = (-1 : Int32) then
  (some (0 : Int32))
  else
  ((sn_ix r6 12).bind fun k7 =>
  (sn_ix ((5 : Int32) + x1) 17).bind fun k8 =>
  some (st.1 (o0 + 4 + 14 + 1 + k7) k8)))
  else
  ((D_X5_greatest ((st.1 (o0 + 4 + 28) k1) &&& r2)).bind fun r3 =>
  if r3 = (-1 : Int32) then
  (some (0 : Int32))
  else
  ((sn_ix r3 12).bind fun k4 =>
  (sn_ix ((5 : Int32) + x1) 17).bind fun k5 =>
  some (st.1 (o0 + 4 + 14 + 1 + k4) k5)))

def D_X2_isBottom (o0 : Nat) (x1 : Int32) (x2 : Int32) (st : sn_S) : Option (Int32) :=
  if x1 = (0 : Int32) then
  ((sn_ix x1 12).bind fun k1 =>
  (D_X5_below x2).bind fun r2 =>
  if ((st.1 (o0 + 4 + 28) k1) &&& r2) = (0 : Int32) then
  (some (1 : Int32))
  else
  (some (0 : Int32)))
  else
  (some (0 : Int32))

def D_X2_rightsOf_L4 (o0 : Nat) (x1 : Int32) (st : sn_S) : Nat → Int32 → Int32 → Option (Int32)
  | 0, _, _ => none
  | n + 1, x2, x3 =>
  if (st.1 (o0 + 1) 0) ≤ x3 then
  (some x2)
  else
  ((sn_ix x1 12).bind fun k1 =>
  (D_X5_has (st.1 (o0 + 4 + 28) k1) x3).bind fun r2 =>
  if r2 = (0 : Int32) then
  (D_X2_rightsOf_L4 o0 x1 st n x2 (x3 + (1 : Int32)))
  else
  ((sn_ix x1 12).bind fun k3 =>
  (sn_ix ((5 : Int32) + x3) 17).bind fun k4 =>
  (D_X2_xBefore o0 x1 x3 st).bind fun r5 =>
  if (st.1 (o0 + 4 + 14 + 1 + k3) k4) = r5 then
  ((D_X2_isBottom o0 x1 x3 st).bind fun r7 =>
  if (1 : Int32) = r7 then
  (D_X2_rightsOf_L4 o0 x1 st n (x2 ||| ((1 : Int32) <<< (x3 &&& 31))) (x3 + (1 : Int32)))
  else
  (D_X2_rightsOf_L4 o0 x1 st n x2 (x3 + (1 : Int32))))
  else
  ((D_X2_isBottom o0 x1 x3 st).bind fun r6 =>
  if (0 : Int32) = r6 then
  (D_X2_rightsOf_L4 o0 x1 st n (x2 ||| ((1 : Int32) <<< (x3 &&& 31))) (x3 + (1 : Int32)))
  else
  (D_X2_rightsOf_L4 o0 x1 st n x2 (x3 + (1 : Int32))))))
def D_X2_rightsOf (o0 : Nat) (x1 : Int32) (st : sn_S) : Option (Int32) :=
  D_X2_rightsOf_L4 o0 x1 st 4096 (0 : Int32) (0 : Int32)

def D_X2_firstRule (o0 : Nat) (x1 : Int32) (st : sn_S) : Option (Int32) :=
  (D_X1_isSane (o0 + 4) x1 st).bind fun r1 =>
  if r1 = (0 : Int32) then
  (some (0 : Int32))
  else
  ((sn_ix x1 12).bind fun k2 =>
  (D_X2_parentToBe o0 x1 st).bind fun r3 =>
  if (st.1 (o0 + 4 + 14 + 1 + k2) 1) = r3 then
  ((D_X2_distToBe o0 x1 r3 st).bind fun r4 =>
  if (st.1 (o0 + 4 + 14 + 1 + k2) 0) = r4 then
  ((D_X2_phaseToBe o0 x1 st).bind fun r5 =>
  if (st.1 (o0 + 4 + 14 + 1 + k2) 2) = r5 then
  ((D_X2_rightsOf o0 x1 st).bind fun r6 =>
  if r6 = (0 : Int32) then
  (some (-1 : Int32))
  else
  (some (3 : Int32)))
  else
  (some (2 : Int32)))
  else
  (some (1 : Int32)))
  else
  (some (1 : Int32)))

def D_X0_lookAgain_L2 (b : Nat) (x1 : Int32) : Nat → Int32 → sn_S → Option (sn_S)
  | 0, _, _ => none
  | n + 1, x2, st =>
  if (st.1 (b + 1) 0) ≤ x2 then
  (some st)
  else
  ((D_X5_has x1 x2).bind fun r1 =>
  if r1 = (0 : Int32) then
  (D_X0_lookAgain_L2 b x1 n (x2 + (1 : Int32)) st)
  else
  ((D_X2_firstRule b x2 (sn_wr st b 7 ((st.1 b 7) &&& (((1 : Int32) <<< (x2 &&& 31)) ^^^ (-1 : Int32))))).bind fun r2 =>
  if r2 = (-1 : Int32) then
  (D_X0_lookAgain_L2 b x1 n (x2 + (1 : Int32)) (sn_wr st b 7 ((st.1 b 7) &&& (((1 : Int32) <<< (x2 &&& 31)) ^^^ (-1 : Int32)))))
  else
  (D_X0_lookAgain_L2 b x1 n (x2 + (1 : Int32)) (sn_wr (sn_wr st b 7 ((st.1 b 7) &&& (((1 : Int32) <<< (x2 &&& 31)) ^^^ (-1 : Int32)))) b 7 (((sn_wr st b 7 ((st.1 b 7) &&& (((1 : Int32) <<< (x2 &&& 31)) ^^^ (-1 : Int32)))).1 b 7) ||| ((1 : Int32) <<< (x2 &&& 31)))))))
def D_X0_lookAgain (b : Nat) (x1 : Int32) (st : sn_S) : Option (sn_S) :=
  D_X0_lookAgain_L2 b x1 4096 (0 : Int32) st

def D_X0_beginAnew (b : Nat) (st : sn_S) : Option (sn_S) :=
  if (st.1 b 3) = (0 : Int32) then
  (some st)
  else
  ((D_X5_below (st.1 (b + 1) 0)).bind fun r1 =>
  (D_X0_lookAgain b r1 st).bind fun r2 =>
  some (sn_wr r2 b 8 (r2.1 b 7)))

def D_J6_bitCount_0f7a4 (x0 : Int32) : Option (Int32) :=
  some ((((((((x0 - ((x0.toUInt32 >>> ((1 : Int32).toUInt32 &&& Int32.toUInt32 31)).toInt32 &&& (1431655765 : Int32))) &&& (858993459 : Int32)) + (((x0 - ((x0.toUInt32 >>> ((1 : Int32).toUInt32 &&& Int32.toUInt32 31)).toInt32 &&& (1431655765 : Int32))).toUInt32 >>> ((2 : Int32).toUInt32 &&& Int32.toUInt32 31)).toInt32 &&& (858993459 : Int32))) + ((((x0 - ((x0.toUInt32 >>> ((1 : Int32).toUInt32 &&& Int32.toUInt32 31)).toInt32 &&& (1431655765 : Int32))) &&& (858993459 : Int32)) + (((x0 - ((x0.toUInt32 >>> ((1 : Int32).toUInt32 &&& Int32.toUInt32 31)).toInt32 &&& (1431655765 : Int32))).toUInt32 >>> ((2 : Int32).toUInt32 &&& Int32.toUInt32 31)).toInt32 &&& (858993459 : Int32))).toUInt32 >>> ((4 : Int32).toUInt32 &&& Int32.toUInt32 31)).toInt32) &&& (252645135 : Int32)) + ((((((x0 - ((x0.toUInt32 >>> ((1 : Int32).toUInt32 &&& Int32.toUInt32 31)).toInt32 &&& (1431655765 : Int32))) &&& (858993459 : Int32)) + (((x0 - ((x0.toUInt32 >>> ((1 : Int32).toUInt32 &&& Int32.toUInt32 31)).toInt32 &&& (1431655765 : Int32))).toUInt32 >>> ((2 : Int32).toUInt32 &&& Int32.toUInt32 31)).toInt32 &&& (858993459 : Int32))) + ((((x0 - ((x0.toUInt32 >>> ((1 : Int32).toUInt32 &&& Int32.toUInt32 31)).toInt32 &&& (1431655765 : Int32))) &&& (858993459 : Int32)) + (((x0 - ((x0.toUInt32 >>> ((1 : Int32).toUInt32 &&& Int32.toUInt32 31)).toInt32 &&& (1431655765 : Int32))).toUInt32 >>> ((2 : Int32).toUInt32 &&& Int32.toUInt32 31)).toInt32 &&& (858993459 : Int32))).toUInt32 >>> ((4 : Int32).toUInt32 &&& Int32.toUInt32 31)).toInt32) &&& (252645135 : Int32)).toUInt32 >>> ((8 : Int32).toUInt32 &&& Int32.toUInt32 31)).toInt32) + (((((((x0 - ((x0.toUInt32 >>> ((1 : Int32).toUInt32 &&& Int32.toUInt32 31)).toInt32 &&& (1431655765 : Int32))) &&& (858993459 : Int32)) + (((x0 - ((x0.toUInt32 >>> ((1 : Int32).toUInt32 &&& Int32.toUInt32 31)).toInt32 &&& (1431655765 : Int32))).toUInt32 >>> ((2 : Int32).toUInt32 &&& Int32.toUInt32 31)).toInt32 &&& (858993459 : Int32))) + ((((x0 - ((x0.toUInt32 >>> ((1 : Int32).toUInt32 &&& Int32.toUInt32 31)).toInt32 &&& (1431655765 : Int32))) &&& (858993459 : Int32)) + (((x0 - ((x0.toUInt32 >>> ((1 : Int32).toUInt32 &&& Int32.toUInt32 31)).toInt32 &&& (1431655765 : Int32))).toUInt32 >>> ((2 : Int32).toUInt32 &&& Int32.toUInt32 31)).toInt32 &&& (858993459 : Int32))).toUInt32 >>> ((4 : Int32).toUInt32 &&& Int32.toUInt32 31)).toInt32) &&& (252645135 : Int32)) + ((((((x0 - ((x0.toUInt32 >>> ((1 : Int32).toUInt32 &&& Int32.toUInt32 31)).toInt32 &&& (1431655765 : Int32))) &&& (858993459 : Int32)) + (((x0 - ((x0.toUInt32 >>> ((1 : Int32).toUInt32 &&& Int32.toUInt32 31)).toInt32 &&& (1431655765 : Int32))).toUInt32 >>> ((2 : Int32).toUInt32 &&& Int32.toUInt32 31)).toInt32 &&& (858993459 : Int32))) + ((((x0 - ((x0.toUInt32 >>> ((1 : Int32).toUInt32 &&& Int32.toUInt32 31)).toInt32 &&& (1431655765 : Int32))) &&& (858993459 : Int32)) + (((x0 - ((x0.toUInt32 >>> ((1 : Int32).toUInt32 &&& Int32.toUInt32 31)).toInt32 &&& (1431655765 : Int32))).toUInt32 >>> ((2 : Int32).toUInt32 &&& Int32.toUInt32 31)).toInt32 &&& (858993459 : Int32))).toUInt32 >>> ((4 : Int32).toUInt32 &&& Int32.toUInt32 31)).toInt32) &&& (252645135 : Int32)).toUInt32 >>> ((8 : Int32).toUInt32 &&& Int32.toUInt32 31)).toInt32).toUInt32 >>> ((16 : Int32).toUInt32 &&& Int32.toUInt32 31)).toInt32) &&& (63 : Int32))

def D_X3_linkCount_L4 (b : Nat) (st : sn_S) : Nat → Int32 → Int32 → Option (Int32)
  | 0, _, _ => none
  | n + 1, x1, x2 =>
  if (st.1 b 0) ≤ x2 then
  (some (x1 / (2 : Int32)))
  else
  ((sn_ix x2 12).bind fun k1 =>
  (D_J6_bitCount_0f7a4 (st.1 (b + 1) k1)).bind fun r2 =>
  D_X3_linkCount_L4 b st n (x1 + r2) (x2 + (1 : Int32)))
def D_X3_linkCount (b : Nat) (st : sn_S) : Option (Int32) :=
  D_X3_linkCount_L4 b st 4096 (0 : Int32) (0 : Int32)

def D_X5_build (b : Nat) (st : sn_S) : Option (Int32 × sn_S) :=
  if (st.1 (b + 1) 3) = (0 : Int32) then
  ((D_X3_isWhole (b + 1 + 1) st).bind fun r1 =>
  if r1 = (0 : Int32) then
  (some ((-103 : Int32), st))
  else
  ((D_X0_beginAnew (b + 1) (sn_wr st (b + 1) 3 (1 : Int32))).bind fun r2 =>
  (D_X3_linkCount (b + 1 + 1) r2).bind fun r3 =>
  some (r3, r2)))
  else
  (some ((-103 : Int32), st))

def D_X3_greatestX (b : Nat) (st : sn_S) : Option (Int32) :=
  some ((2 : Int32) * (st.1 b 0))

def D_X3_countsAs (b : Nat) (x1 : Int32) (x2 : Int32) (x3 : Int32) (st : sn_S) : Option (Int32) :=
  if x2 = (0 : Int32) then
  (if x3 < (0 : Int32) then
  (some (st.1 b 0))
  else
  (if (st.1 b 0) < x3 then
  (some (st.1 b 0))
  else
  (some x3)))
  else if x2 = (1 : Int32) then
  ((D_X3_isNode b x3 st).bind fun r1 =>
  if r1 = (0 : Int32) then
  (some (-1 : Int32))
  else
  ((sn_ix x1 12).bind fun k2 =>
  (D_X5_has (st.1 (b + 1) k2) x3).bind fun r3 =>
  if r3 = (0 : Int32) then
  (some (-1 : Int32))
  else
  (some x3)))
  else if x2 = (2 : Int32) then
  (if x3 < (0 : Int32) then
  (some (0 : Int32))
  else
  (if (2 : Int32) < x3 then
  (some (0 : Int32))
  else
  (some x3)))
  else if x2 = (3 : Int32) then
  (some x3)
  else if x2 = (4 : Int32) then
  (some x3)
  else 
  (if x3 < (0 : Int32) then
  (some (0 : Int32))
  else
  ((D_X3_greatestX b st).bind fun r4 =>
  if r4 < x3 then
  (some (0 : Int32))
  else
  (some x3)))

def D_X1_tieAgain_L18 (b : Nat) (x1 : Int32) : Nat → Int32 → sn_S → Option (sn_S)
  | 0, _, _ => none
  | n + 1, x2, st =>
  if x1 ≤ x2 then
  (some st)
  else
  ((sn_ix x2 12).bind fun k3 =>
  if (st.1 (b + 14 + 1 + k3) 1) < (0 : Int32) then
  (D_X1_tieAgain_L18 b x1 n (x2 + (1 : Int32)) st)
  else
  (if x1 ≤ (st.1 (b + 14 + 1 + k3) 1) then
  (D_X1_tieAgain_L18 b x1 n (x2 + (1 : Int32)) st)
  else
  ((sn_ix (st.1 (b + 14 + 1 + k3) 1) 12).bind fun k4 =>
  (sn_ix (st.1 (b + 14 + 1 + k3) 1) 12).bind fun k5 =>
  (sn_ix (st.1 (b + 14 + 1 + k3) 1) 12).bind fun k6 =>
  (sn_ix (st.1 (b + 14 + 1 + k3) 1) 12).bind fun k7 =>
  (sn_ix x2 12).bind fun k8 =>
  (sn_ix x2 12).bind fun k9 =>
  D_X1_tieAgain_L18 b x1 n (x2 + (1 : Int32)) (sn_wr (sn_wr (sn_wr st (b + 27) k5 ((st.1 (b + 27) k4) ||| ((1 : Int32) <<< (x2 &&& 31)))) (b + 28) k7 (((sn_wr st (b + 27) k5 ((st.1 (b + 27) k4) ||| ((1 : Int32) <<< (x2 &&& 31)))).1 (b + 28) k6) ||| ((1 : Int32) <<< (x2 &&& 31)))) (b + 28) k9 (((sn_wr (sn_wr st (b + 27) k5 ((st.1 (b + 27) k4) ||| ((1 : Int32) <<< (x2 &&& 31)))) (b + 28) k7 (((sn_wr st (b + 27) k5 ((st.1 (b + 27) k4) ||| ((1 : Int32) <<< (x2 &&& 31)))).1 (b + 28) k6) ||| ((1 : Int32) <<< (x2 &&& 31)))).1 (b + 28) k8) ||| ((1 : Int32) <<< ((st.1 (b + 14 + 1 + k3) 1) &&& 31)))))))
def D_X1_tieAgain (b : Nat) (x1 : Int32) (st : sn_S) : Option (sn_S) :=
  (D_J7_fill_53178 (b + 27) 12 (0 : Int32) st).bind fun r1 =>
  (D_J7_fill_53178 (b + 28) 12 (0 : Int32) r1).bind fun r2 =>
  D_X1_tieAgain_L18 b x1 4096 (0 : Int32) r2

def D_X1_readAgain_L21 (b : Nat) (o1 : Nat) (x2 : Int32) (x3 : Int32) (K : Int32 → sn_S → Option (sn_S)) : Nat → Int32 → sn_S → Option (sn_S)
  | 0, _, _ => none
  | n + 1, x4, st =>
  if (17 : Int32) ≤ x4 then
  (K (x3 + (1 : Int32)) st)
  else
  ((sn_ix x3 12).bind fun k3 =>
  (sn_ix x3 12).bind fun k4 =>
  (sn_ix x4 17).bind fun k5 =>
  (D_X3_countsAs o1 x3 x4 (st.1 (b + 1 + 1 + k4) k5) st).bind fun r6 =>
  (sn_ix x4 17).bind fun k7 =>
  D_X1_readAgain_L21 b o1 x2 x3 K n (x4 + (1 : Int32)) (sn_wr st (b + 14 + 1 + k3) k7 r6))
def D_X1_readAgain_L2 (b : Nat) (o1 : Nat) (x2 : Int32) : Nat → Int32 → sn_S → Option (sn_S)
  | 0, _, _ => none
  | n + 1, x3, st =>
  if (st.1 o1 0) ≤ x3 then
  ((D_X1_tieAgain b (st.1 o1 0) st).bind fun r1 =>
  some r1)
  else
  ((D_X5_has x2 x3).bind fun r2 =>
  if r2 = (0 : Int32) then
  (D_X1_readAgain_L2 b o1 x2 n (x3 + (1 : Int32)) st)
  else
  (D_X1_readAgain_L21 b o1 x2 x3 (fun y3 yt => D_X1_readAgain_L2 b o1 x2 n y3 yt) 4096 (0 : Int32) st))
def D_X1_readAgain (b : Nat) (o1 : Nat) (x2 : Int32) (st : sn_S) : Option (sn_S) :=
  D_X1_readAgain_L2 b o1 x2 4096 (0 : Int32) st

def D_X0_overwrite (b : Nat) (x1 : Int32) (x2 : Int32) (x3 : Int32) (st : sn_S) : Option (sn_S) :=
  (sn_ix x1 12).bind fun k1 =>
  (sn_ix x2 17).bind fun k2 =>
  (D_X1_readAgain (b + 4) (b + 1) ((1 : Int32) <<< (x1 &&& 31)) (sn_wr st (b + 4 + 1 + 1 + k1) k2 x3)).bind fun r3 =>
  some r3

def D_X5_value (b : Nat) (x1 : Int32) (x2 : Int32) (st : sn_S) : Option (Int32 × sn_S) :=
  (D_X3_isNode (b + 1 + 1) x1 st).bind fun r1 =>
  if r1 = (0 : Int32) then
  (some ((-101 : Int32), st))
  else
  ((sn_ix x1 12).bind fun k2 =>
  (D_X0_overwrite (b + 1) x1 (4 : Int32) x2 st).bind fun r3 =>
  (D_X0_beginAnew (b + 1) r3).bind fun r4 =>
  some ((st.1 (b + 1 + 4 + 1 + 1 + k2) 4), r4))

def D_X5_pick_L4 (x0 : Int32) (x1 : Int32) : Nat → Int32 → Int32 → Option (Int32)
  | 0, _, _ => none
  | n + 1, x2, x3 =>
  if (12 : Int32) ≤ x3 then
  (some (-1 : Int32))
  else
  ((D_X5_has x0 x3).bind fun r1 =>
  if r1 = (0 : Int32) then
  (D_X5_pick_L4 x0 x1 n x2 (x3 + (1 : Int32)))
  else
  (if x2 = (0 : Int32) then
  (some x3)
  else
  (D_X5_pick_L4 x0 x1 n (x2 + (-1 : Int32)) (x3 + (1 : Int32)))))
def D_X5_pick (x0 : Int32) (x1 : Int32) : Option (Int32) :=
  D_X5_pick_L4 x0 x1 4096 x1 (0 : Int32)

def D_X3_slotOf (b : Nat) (x1 : Int32) (x2 : Int32) (st : sn_S) : Option (Int32) :=
  if (5 : Int32) ≤ x2 then
  ((sn_ix x1 12).bind fun k1 =>
  (D_X5_pick (st.1 (b + 1) k1) (x2 - (5 : Int32))).bind fun r2 =>
  if r2 = (-1 : Int32) then
  (some (-1 : Int32))
  else
  (some ((5 : Int32) + r2)))
  else
  (if (0 : Int32) ≤ x2 then
  (some x2)
  else
  (some (-1 : Int32)))

def D_X5_fault (b : Nat) (x1 : Int32) (x2 : Int32) (x3 : Int32) (st : sn_S) : Option (Int32 × sn_S) :=
  (D_X3_isNode (b + 1 + 1) x1 st).bind fun r1 =>
  if r1 = (0 : Int32) then
  (some ((-101 : Int32), st))
  else
  ((D_X3_slotOf (b + 1 + 1) x1 x2 st).bind fun r2 =>
  if r2 = (-1 : Int32) then
  (some ((-102 : Int32), st))
  else
  (if r2 = (4 : Int32) then
  (some ((-102 : Int32), st))
  else
  (if (st.1 (b + 1) 3) = (0 : Int32) then
  (some ((-103 : Int32), st))
  else
  ((D_X0_overwrite (b + 1) x1 r2 x3 st).bind fun r3 =>
  (D_X0_beginAnew (b + 1) r3).bind fun r4 =>
  some ((1 : Int32), r4)))))

def D_X5_told (b : Nat) (x1 : Int32) (x2 : Int32) (st : sn_S) : Option (Int32 × sn_S) :=
  (D_X3_isNode (b + 1 + 1) x1 st).bind fun r1 =>
  if r1 = (0 : Int32) then
  (some ((-101 : Int32), st))
  else
  ((D_X3_slotOf (b + 1 + 1) x1 x2 st).bind fun r2 =>
  if r2 = (-1 : Int32) then
  (some ((-102 : Int32), st))
  else
  (if r2 < (5 : Int32) then
  ((sn_ix x1 12).bind fun k3 =>
  (sn_ix r2 17).bind fun k4 =>
  some ((1 : Int32), (sn_wr st (b + 1) 5 (st.1 (b + 1 + 4 + 1 + 1 + k3) k4))))
  else
  (if (st.1 (b + 1) 3) = (0 : Int32) then
  (some ((-103 : Int32), st))
  else
  ((sn_ix x1 12).bind fun k5 =>
  (sn_ix r2 17).bind fun k6 =>
  some ((1 : Int32), (sn_wr st (b + 1) 5 (st.1 (b + 1 + 4 + 1 + 1 + k5) k6)))))))

def D_X5_seen (b : Nat) (st : sn_S) : Option (Int32) :=
  some (st.1 (b + 1) 5)

def D_X5_neighbour (b : Nat) (x1 : Int32) (x2 : Int32) (st : sn_S) : Option (Int32) :=
  (D_X3_isNode (b + 1 + 1) x1 st).bind fun r1 =>
  if r1 = (0 : Int32) then
  (some (-101 : Int32))
  else
  ((sn_ix x1 12).bind fun k2 =>
  (D_X5_pick (st.1 (b + 1 + 1 + 1) k2) x2).bind fun r3 =>
  some r3)

def D_X5_child (b : Nat) (x1 : Int32) (x2 : Int32) (st : sn_S) : Option (Int32) :=
  (D_X3_isNode (b + 1 + 1) x1 st).bind fun r1 =>
  if r1 = (0 : Int32) then
  (some (-101 : Int32))
  else
  ((sn_ix x1 12).bind fun k2 =>
  (D_X5_pick (st.1 (b + 1 + 4 + 27) k2) x2).bind fun r3 =>
  some r3)

def D_X5_enabled (b : Nat) (x1 : Int32) (st : sn_S) : Option (Int32) :=
  (D_X3_isNode (b + 1 + 1) x1 st).bind fun r1 =>
  if r1 = (0 : Int32) then
  (some (-101 : Int32))
  else
  (if (st.1 (b + 1) 3) = (0 : Int32) then
  (some (-103 : Int32))
  else
  ((D_X2_firstRule (b + 1) x1 st).bind fun r2 =>
  some r2))

def D_X2_rightsInAll_L4 (o0 : Nat) (st : sn_S) : Nat → Int32 → Int32 → Option (Int32)
  | 0, _, _ => none
  | n + 1, x1, x2 =>
  if (st.1 (o0 + 1) 0) ≤ x2 then
  (some x1)
  else
  ((D_X2_rightsOf o0 x2 st).bind fun r1 =>
  (D_J6_bitCount_0f7a4 r1).bind fun r2 =>
  D_X2_rightsInAll_L4 o0 st n (x1 + r2) (x2 + (1 : Int32)))
def D_X2_rightsInAll (o0 : Nat) (st : sn_S) : Option (Int32) :=
  D_X2_rightsInAll_L4 o0 st 4096 (0 : Int32) (0 : Int32)

def D_X5_rights (b : Nat) (st : sn_S) : Option (Int32) :=
  (D_X2_rightsInAll (b + 1) st).bind fun r1 =>
  some r1

def D_X5_holder_L10 (b : Nat) (x1 : Int32) (st : sn_S) : Nat → Int32 → Int32 → Option (Int32)
  | 0, _, _ => none
  | n + 1, x2, x3 =>
  if (st.1 (b + 1 + 1) 0) ≤ x3 then
  (some (-1 : Int32))
  else
  ((D_X2_rightsOf (b + 1) x3 st).bind fun r1 =>
  (D_J6_bitCount_0f7a4 r1).bind fun r2 =>
  if (0 : Int32) ≤ (x2 - r2) then
  (D_X5_holder_L10 b x1 st n (x2 - r2) (x3 + (1 : Int32)))
  else
  (some x3))
def D_X5_holder (b : Nat) (x1 : Int32) (st : sn_S) : Option (Int32) :=
  if (0 : Int32) ≤ x1 then
  (D_X5_holder_L10 b x1 st 4096 x1 (0 : Int32))
  else
  (some (-1 : Int32))

def D_X5_next (b : Nat) (x1 : Int32) (x2 : Int32) (st : sn_S) : Option (Int32) :=
  (D_X3_isNode (b + 1 + 1) x1 st).bind fun r1 =>
  if r1 = (0 : Int32) then
  (some (-101 : Int32))
  else
  ((D_X3_isNode (b + 1 + 1) x2 st).bind fun r2 =>
  if r2 = (0 : Int32) then
  (some (-101 : Int32))
  else
  ((sn_ix x1 12).bind fun k3 =>
  (D_X5_has (st.1 (b + 1 + 4 + 28) k3) x2).bind fun r4 =>
  if r4 = (0 : Int32) then
  (some (-102 : Int32))
  else
  ((sn_ix x2 12).bind fun k5 =>
  (D_X5_has (st.1 (b + 1 + 4 + 28) k5) x1).bind fun r6 =>
  if r6 = (0 : Int32) then
  (some (-102 : Int32))
  else
  (if (st.1 (b + 1) 3) = (0 : Int32) then
  (some (-103 : Int32))
  else
  ((sn_ix x2 12).bind fun k7 =>
  (D_X5_below (x1 + (1 : Int32))).bind fun r8 =>
  if ((st.1 (b + 1 + 4 + 28) k7) &&& (r8 ^^^ (-1 : Int32))) = (0 : Int32) then
  ((sn_ix x2 12).bind fun k10 =>
  (D_X5_pick (st.1 (b + 1 + 4 + 28) k10) (0 : Int32)).bind fun r11 =>
  some r11)
  else
  ((D_X5_pick ((st.1 (b + 1 + 4 + 28) k7) &&& (r8 ^^^ (-1 : Int32))) (0 : Int32)).bind fun r9 =>
  some r9))))))

def D_X2_doSane (o0 : Nat) (x1 : Int32) (st : sn_S) : Option (sn_S) :=
  (sn_ix x1 12).bind fun k1 =>
  (sn_ix x1 12).bind fun k2 =>
  some (sn_cp (sn_wr st (o0 + 33 + 1) 0 ((st.1 (o0 + 33 + 1) 0) + (1 : Int32))) (o0 + 4 + 14 + 1 + k1) (o0 + 4 + 1 + 1 + k2) 17)

def D_X2_doTree (o0 : Nat) (x1 : Int32) (st : sn_S) : Option (sn_S) :=
  (D_X2_parentToBe o0 x1 (sn_wr st (o0 + 33 + 1) 1 ((st.1 (o0 + 33 + 1) 1) + (1 : Int32)))).bind fun r1 =>
  (sn_ix x1 12).bind fun k2 =>
  (sn_ix x1 12).bind fun k3 =>
  (D_X2_distToBe o0 x1 r1 (sn_wr (sn_wr st (o0 + 33 + 1) 1 ((st.1 (o0 + 33 + 1) 1) + (1 : Int32))) (o0 + 4 + 1 + 1 + k2) 1 r1)).bind fun r4 =>
  some (sn_wr (sn_wr (sn_wr st (o0 + 33 + 1) 1 ((st.1 (o0 + 33 + 1) 1) + (1 : Int32))) (o0 + 4 + 1 + 1 + k2) 1 r1) (o0 + 4 + 1 + 1 + k3) 0 r4)

def D_X2_sumToBe_L14 (o0 : Nat) (x1 : Int32) (st : sn_S) : Nat → Int32 → Int32 → Option (Int32)
  | 0, _, _ => none
  | n + 1, x2, x3 =>
  if (st.1 (o0 + 1) 0) ≤ x3 then
  (some x2)
  else
  ((sn_ix x1 12).bind fun k2 =>
  (D_X5_has (st.1 (o0 + 4 + 27) k2) x3).bind fun r3 =>
  if r3 = (0 : Int32) then
  (D_X2_sumToBe_L14 o0 x1 st n x2 (x3 + (1 : Int32)))
  else
  ((sn_ix x3 12).bind fun k4 =>
  D_X2_sumToBe_L14 o0 x1 st n (x2 + (st.1 (o0 + 4 + 14 + 1 + k4) 3)) (x3 + (1 : Int32))))
def D_X2_sumToBe (o0 : Nat) (x1 : Int32) (st : sn_S) : Option (Int32) :=
  (sn_ix x1 12).bind fun k1 =>
  D_X2_sumToBe_L14 o0 x1 st 4096 (st.1 (o0 + 4 + 14 + 1 + k1) 4) (0 : Int32)

def D_X2_doWave (o0 : Nat) (x1 : Int32) (st : sn_S) : Option (sn_S) :=
  (sn_ix x1 12).bind fun k1 =>
  (D_X2_phaseToBe o0 x1 st).bind fun r2 =>
  if r2 = (st.1 (o0 + 4 + 14 + 1 + k1) 2) then
  (some st)
  else
  ((sn_ix x1 12).bind fun k3 =>
  if x1 = (0 : Int32) then
  (if (st.1 (o0 + 4 + 14 + 1 + k1) 2) = (1 : Int32) then
  (if (1 : Int32) = (0 : Int32) then
  (if r2 = (2 : Int32) then
  ((sn_ix x1 12).bind fun k22 =>
  (D_X2_sumToBe o0 x1 (sn_wr (sn_wr st (o0 + 33 + 1) 2 ((st.1 (o0 + 33 + 1) 2) + (1 : Int32))) (o0 + 4 + 1 + 1 + k3) 2 r2)).bind fun r23 =>
  if (1 : Int32) = (0 : Int32) then
  (some (sn_wr (sn_wr (sn_wr st (o0 + 33 + 1) 2 ((st.1 (o0 + 33 + 1) 2) + (1 : Int32))) (o0 + 4 + 1 + 1 + k3) 2 r2) (o0 + 4 + 1 + 1 + k22) 3 r23))
  else
  ((sn_ix x1 12).bind fun k24 =>
  some (sn_wr (sn_wr (sn_wr (sn_wr (sn_wr st (o0 + 33 + 1) 2 ((st.1 (o0 + 33 + 1) 2) + (1 : Int32))) (o0 + 4 + 1 + 1 + k3) 2 r2) (o0 + 4 + 1 + 1 + k22) 3 r23) (o0 + 33) 2 (((sn_wr (sn_wr (sn_wr st (o0 + 33 + 1) 2 ((st.1 (o0 + 33 + 1) 2) + (1 : Int32))) (o0 + 4 + 1 + 1 + k3) 2 r2) (o0 + 4 + 1 + 1 + k22) 3 r23).1 (o0 + 33) 2) + (1 : Int32))) (o0 + 33) 3 ((sn_wr (sn_wr (sn_wr (sn_wr st (o0 + 33 + 1) 2 ((st.1 (o0 + 33 + 1) 2) + (1 : Int32))) (o0 + 4 + 1 + 1 + k3) 2 r2) (o0 + 4 + 1 + 1 + k22) 3 r23) (o0 + 33) 2 (((sn_wr (sn_wr (sn_wr st (o0 + 33 + 1) 2 ((st.1 (o0 + 33 + 1) 2) + (1 : Int32))) (o0 + 4 + 1 + 1 + k3) 2 r2) (o0 + 4 + 1 + 1 + k22) 3 r23).1 (o0 + 33) 2) + (1 : Int32))).1 (o0 + 4 + 1 + 1 + k24) 3))))
  else
  (if (1 : Int32) = (0 : Int32) then
  (some (sn_wr (sn_wr st (o0 + 33 + 1) 2 ((st.1 (o0 + 33 + 1) 2) + (1 : Int32))) (o0 + 4 + 1 + 1 + k3) 2 r2))
  else
  ((sn_ix x1 12).bind fun k21 =>
  some (sn_wr (sn_wr (sn_wr (sn_wr st (o0 + 33 + 1) 2 ((st.1 (o0 + 33 + 1) 2) + (1 : Int32))) (o0 + 4 + 1 + 1 + k3) 2 r2) (o0 + 33) 2 (((sn_wr (sn_wr st (o0 + 33 + 1) 2 ((st.1 (o0 + 33 + 1) 2) + (1 : Int32))) (o0 + 4 + 1 + 1 + k3) 2 r2).1 (o0 + 33) 2) + (1 : Int32))) (o0 + 33) 3 ((sn_wr (sn_wr (sn_wr st (o0 + 33 + 1) 2 ((st.1 (o0 + 33 + 1) 2) + (1 : Int32))) (o0 + 4 + 1 + 1 + k3) 2 r2) (o0 + 33) 2 (((sn_wr (sn_wr st (o0 + 33 + 1) 2 ((st.1 (o0 + 33 + 1) 2) + (1 : Int32))) (o0 + 4 + 1 + 1 + k3) 2 r2).1 (o0 + 33) 2) + (1 : Int32))).1 (o0 + 4 + 1 + 1 + k21) 3)))))
  else
  ((sn_ix x1 12).bind fun k18 =>
  (D_X2_sumToBe o0 x1 (sn_wr (sn_wr st (o0 + 33 + 1) 2 ((st.1 (o0 + 33 + 1) 2) + (1 : Int32))) (o0 + 4 + 1 + 1 + k3) 2 r2)).bind fun r19 =>
  if (1 : Int32) = (0 : Int32) then
  (some (sn_wr (sn_wr (sn_wr st (o0 + 33 + 1) 2 ((st.1 (o0 + 33 + 1) 2) + (1 : Int32))) (o0 + 4 + 1 + 1 + k3) 2 r2) (o0 + 4 + 1 + 1 + k18) 3 r19))
  else
  ((sn_ix x1 12).bind fun k20 =>
  some (sn_wr (sn_wr (sn_wr (sn_wr (sn_wr st (o0 + 33 + 1) 2 ((st.1 (o0 + 33 + 1) 2) + (1 : Int32))) (o0 + 4 + 1 + 1 + k3) 2 r2) (o0 + 4 + 1 + 1 + k18) 3 r19) (o0 + 33) 2 (((sn_wr (sn_wr (sn_wr st (o0 + 33 + 1) 2 ((st.1 (o0 + 33 + 1) 2) + (1 : Int32))) (o0 + 4 + 1 + 1 + k3) 2 r2) (o0 + 4 + 1 + 1 + k18) 3 r19).1 (o0 + 33) 2) + (1 : Int32))) (o0 + 33) 3 ((sn_wr (sn_wr (sn_wr (sn_wr st (o0 + 33 + 1) 2 ((st.1 (o0 + 33 + 1) 2) + (1 : Int32))) (o0 + 4 + 1 + 1 + k3) 2 r2) (o0 + 4 + 1 + 1 + k18) 3 r19) (o0 + 33) 2 (((sn_wr (sn_wr (sn_wr st (o0 + 33 + 1) 2 ((st.1 (o0 + 33 + 1) 2) + (1 : Int32))) (o0 + 4 + 1 + 1 + k3) 2 r2) (o0 + 4 + 1 + 1 + k18) 3 r19).1 (o0 + 33) 2) + (1 : Int32))).1 (o0 + 4 + 1 + 1 + k20) 3)))))
  else
  (if (0 : Int32) = (0 : Int32) then
  (if r2 = (2 : Int32) then
  ((sn_ix x1 12).bind fun k15 =>
  (D_X2_sumToBe o0 x1 (sn_wr (sn_wr st (o0 + 33 + 1) 2 ((st.1 (o0 + 33 + 1) 2) + (1 : Int32))) (o0 + 4 + 1 + 1 + k3) 2 r2)).bind fun r16 =>
  if (0 : Int32) = (0 : Int32) then
  (some (sn_wr (sn_wr (sn_wr st (o0 + 33 + 1) 2 ((st.1 (o0 + 33 + 1) 2) + (1 : Int32))) (o0 + 4 + 1 + 1 + k3) 2 r2) (o0 + 4 + 1 + 1 + k15) 3 r16))
  else
  ((sn_ix x1 12).bind fun k17 =>
  some (sn_wr (sn_wr (sn_wr (sn_wr (sn_wr st (o0 + 33 + 1) 2 ((st.1 (o0 + 33 + 1) 2) + (1 : Int32))) (o0 + 4 + 1 + 1 + k3) 2 r2) (o0 + 4 + 1 + 1 + k15) 3 r16) (o0 + 33) 2 (((sn_wr (sn_wr (sn_wr st (o0 + 33 + 1) 2 ((st.1 (o0 + 33 + 1) 2) + (1 : Int32))) (o0 + 4 + 1 + 1 + k3) 2 r2) (o0 + 4 + 1 + 1 + k15) 3 r16).1 (o0 + 33) 2) + (1 : Int32))) (o0 + 33) 3 ((sn_wr (sn_wr (sn_wr (sn_wr st (o0 + 33 + 1) 2 ((st.1 (o0 + 33 + 1) 2) + (1 : Int32))) (o0 + 4 + 1 + 1 + k3) 2 r2) (o0 + 4 + 1 + 1 + k15) 3 r16) (o0 + 33) 2 (((sn_wr (sn_wr (sn_wr st (o0 + 33 + 1) 2 ((st.1 (o0 + 33 + 1) 2) + (1 : Int32))) (o0 + 4 + 1 + 1 + k3) 2 r2) (o0 + 4 + 1 + 1 + k15) 3 r16).1 (o0 + 33) 2) + (1 : Int32))).1 (o0 + 4 + 1 + 1 + k17) 3))))
  else
  (if (0 : Int32) = (0 : Int32) then
  (some (sn_wr (sn_wr st (o0 + 33 + 1) 2 ((st.1 (o0 + 33 + 1) 2) + (1 : Int32))) (o0 + 4 + 1 + 1 + k3) 2 r2))
  else
  ((sn_ix x1 12).bind fun k14 =>
  some (sn_wr (sn_wr (sn_wr (sn_wr st (o0 + 33 + 1) 2 ((st.1 (o0 + 33 + 1) 2) + (1 : Int32))) (o0 + 4 + 1 + 1 + k3) 2 r2) (o0 + 33) 2 (((sn_wr (sn_wr st (o0 + 33 + 1) 2 ((st.1 (o0 + 33 + 1) 2) + (1 : Int32))) (o0 + 4 + 1 + 1 + k3) 2 r2).1 (o0 + 33) 2) + (1 : Int32))) (o0 + 33) 3 ((sn_wr (sn_wr (sn_wr st (o0 + 33 + 1) 2 ((st.1 (o0 + 33 + 1) 2) + (1 : Int32))) (o0 + 4 + 1 + 1 + k3) 2 r2) (o0 + 33) 2 (((sn_wr (sn_wr st (o0 + 33 + 1) 2 ((st.1 (o0 + 33 + 1) 2) + (1 : Int32))) (o0 + 4 + 1 + 1 + k3) 2 r2).1 (o0 + 33) 2) + (1 : Int32))).1 (o0 + 4 + 1 + 1 + k14) 3)))))
  else
  ((sn_ix x1 12).bind fun k11 =>
  (D_X2_sumToBe o0 x1 (sn_wr (sn_wr st (o0 + 33 + 1) 2 ((st.1 (o0 + 33 + 1) 2) + (1 : Int32))) (o0 + 4 + 1 + 1 + k3) 2 r2)).bind fun r12 =>
  if (0 : Int32) = (0 : Int32) then
  (some (sn_wr (sn_wr (sn_wr st (o0 + 33 + 1) 2 ((st.1 (o0 + 33 + 1) 2) + (1 : Int32))) (o0 + 4 + 1 + 1 + k3) 2 r2) (o0 + 4 + 1 + 1 + k11) 3 r12))
  else
  ((sn_ix x1 12).bind fun k13 =>
  some (sn_wr (sn_wr (sn_wr (sn_wr (sn_wr st (o0 + 33 + 1) 2 ((st.1 (o0 + 33 + 1) 2) + (1 : Int32))) (o0 + 4 + 1 + 1 + k3) 2 r2) (o0 + 4 + 1 + 1 + k11) 3 r12) (o0 + 33) 2 (((sn_wr (sn_wr (sn_wr st (o0 + 33 + 1) 2 ((st.1 (o0 + 33 + 1) 2) + (1 : Int32))) (o0 + 4 + 1 + 1 + k3) 2 r2) (o0 + 4 + 1 + 1 + k11) 3 r12).1 (o0 + 33) 2) + (1 : Int32))) (o0 + 33) 3 ((sn_wr (sn_wr (sn_wr (sn_wr st (o0 + 33 + 1) 2 ((st.1 (o0 + 33 + 1) 2) + (1 : Int32))) (o0 + 4 + 1 + 1 + k3) 2 r2) (o0 + 4 + 1 + 1 + k11) 3 r12) (o0 + 33) 2 (((sn_wr (sn_wr (sn_wr st (o0 + 33 + 1) 2 ((st.1 (o0 + 33 + 1) 2) + (1 : Int32))) (o0 + 4 + 1 + 1 + k3) 2 r2) (o0 + 4 + 1 + 1 + k11) 3 r12).1 (o0 + 33) 2) + (1 : Int32))).1 (o0 + 4 + 1 + 1 + k13) 3))))))
  else
  (if (0 : Int32) = (0 : Int32) then
  (if r2 = (2 : Int32) then
  ((sn_ix x1 12).bind fun k8 =>
  (D_X2_sumToBe o0 x1 (sn_wr (sn_wr st (o0 + 33 + 1) 2 ((st.1 (o0 + 33 + 1) 2) + (1 : Int32))) (o0 + 4 + 1 + 1 + k3) 2 r2)).bind fun r9 =>
  if (0 : Int32) = (0 : Int32) then
  (some (sn_wr (sn_wr (sn_wr st (o0 + 33 + 1) 2 ((st.1 (o0 + 33 + 1) 2) + (1 : Int32))) (o0 + 4 + 1 + 1 + k3) 2 r2) (o0 + 4 + 1 + 1 + k8) 3 r9))
  else
  ((sn_ix x1 12).bind fun k10 =>
  some (sn_wr (sn_wr (sn_wr (sn_wr (sn_wr st (o0 + 33 + 1) 2 ((st.1 (o0 + 33 + 1) 2) + (1 : Int32))) (o0 + 4 + 1 + 1 + k3) 2 r2) (o0 + 4 + 1 + 1 + k8) 3 r9) (o0 + 33) 2 (((sn_wr (sn_wr (sn_wr st (o0 + 33 + 1) 2 ((st.1 (o0 + 33 + 1) 2) + (1 : Int32))) (o0 + 4 + 1 + 1 + k3) 2 r2) (o0 + 4 + 1 + 1 + k8) 3 r9).1 (o0 + 33) 2) + (1 : Int32))) (o0 + 33) 3 ((sn_wr (sn_wr (sn_wr (sn_wr st (o0 + 33 + 1) 2 ((st.1 (o0 + 33 + 1) 2) + (1 : Int32))) (o0 + 4 + 1 + 1 + k3) 2 r2) (o0 + 4 + 1 + 1 + k8) 3 r9) (o0 + 33) 2 (((sn_wr (sn_wr (sn_wr st (o0 + 33 + 1) 2 ((st.1 (o0 + 33 + 1) 2) + (1 : Int32))) (o0 + 4 + 1 + 1 + k3) 2 r2) (o0 + 4 + 1 + 1 + k8) 3 r9).1 (o0 + 33) 2) + (1 : Int32))).1 (o0 + 4 + 1 + 1 + k10) 3))))
  else
  (if (0 : Int32) = (0 : Int32) then
  (some (sn_wr (sn_wr st (o0 + 33 + 1) 2 ((st.1 (o0 + 33 + 1) 2) + (1 : Int32))) (o0 + 4 + 1 + 1 + k3) 2 r2))
  else
  ((sn_ix x1 12).bind fun k7 =>
  some (sn_wr (sn_wr (sn_wr (sn_wr st (o0 + 33 + 1) 2 ((st.1 (o0 + 33 + 1) 2) + (1 : Int32))) (o0 + 4 + 1 + 1 + k3) 2 r2) (o0 + 33) 2 (((sn_wr (sn_wr st (o0 + 33 + 1) 2 ((st.1 (o0 + 33 + 1) 2) + (1 : Int32))) (o0 + 4 + 1 + 1 + k3) 2 r2).1 (o0 + 33) 2) + (1 : Int32))) (o0 + 33) 3 ((sn_wr (sn_wr (sn_wr st (o0 + 33 + 1) 2 ((st.1 (o0 + 33 + 1) 2) + (1 : Int32))) (o0 + 4 + 1 + 1 + k3) 2 r2) (o0 + 33) 2 (((sn_wr (sn_wr st (o0 + 33 + 1) 2 ((st.1 (o0 + 33 + 1) 2) + (1 : Int32))) (o0 + 4 + 1 + 1 + k3) 2 r2).1 (o0 + 33) 2) + (1 : Int32))).1 (o0 + 4 + 1 + 1 + k7) 3)))))
  else
  ((sn_ix x1 12).bind fun k4 =>
  (D_X2_sumToBe o0 x1 (sn_wr (sn_wr st (o0 + 33 + 1) 2 ((st.1 (o0 + 33 + 1) 2) + (1 : Int32))) (o0 + 4 + 1 + 1 + k3) 2 r2)).bind fun r5 =>
  if (0 : Int32) = (0 : Int32) then
  (some (sn_wr (sn_wr (sn_wr st (o0 + 33 + 1) 2 ((st.1 (o0 + 33 + 1) 2) + (1 : Int32))) (o0 + 4 + 1 + 1 + k3) 2 r2) (o0 + 4 + 1 + 1 + k4) 3 r5))
  else
  ((sn_ix x1 12).bind fun k6 =>
  some (sn_wr (sn_wr (sn_wr (sn_wr (sn_wr st (o0 + 33 + 1) 2 ((st.1 (o0 + 33 + 1) 2) + (1 : Int32))) (o0 + 4 + 1 + 1 + k3) 2 r2) (o0 + 4 + 1 + 1 + k4) 3 r5) (o0 + 33) 2 (((sn_wr (sn_wr (sn_wr st (o0 + 33 + 1) 2 ((st.1 (o0 + 33 + 1) 2) + (1 : Int32))) (o0 + 4 + 1 + 1 + k3) 2 r2) (o0 + 4 + 1 + 1 + k4) 3 r5).1 (o0 + 33) 2) + (1 : Int32))) (o0 + 33) 3 ((sn_wr (sn_wr (sn_wr (sn_wr st (o0 + 33 + 1) 2 ((st.1 (o0 + 33 + 1) 2) + (1 : Int32))) (o0 + 4 + 1 + 1 + k3) 2 r2) (o0 + 4 + 1 + 1 + k4) 3 r5) (o0 + 33) 2 (((sn_wr (sn_wr (sn_wr st (o0 + 33 + 1) 2 ((st.1 (o0 + 33 + 1) 2) + (1 : Int32))) (o0 + 4 + 1 + 1 + k3) 2 r2) (o0 + 4 + 1 + 1 + k4) 3 r5).1 (o0 + 33) 2) + (1 : Int32))).1 (o0 + 4 + 1 + 1 + k6) 3))))))

def D_X2_doRing (o0 : Nat) (x1 : Int32) (st : sn_S) : Option (sn_S) :=
  (D_X2_rightsOf o0 x1 st).bind fun r1 =>
  (D_X5_pick r1 (0 : Int32)).bind fun r2 =>
  if r2 = (-1 : Int32) then
  (some st)
  else
  ((sn_ix x1 12).bind fun k3 =>
  (sn_ix x1 12).bind fun k4 =>
  (D_X2_xBefore o0 x1 r2 (sn_wr (sn_wr st (o0 + 33 + 1) 3 ((st.1 (o0 + 33 + 1) 3) + (1 : Int32))) (o0 + 33 + 2) k4 (((sn_wr st (o0 + 33 + 1) 3 ((st.1 (o0 + 33 + 1) 3) + (1 : Int32))).1 (o0 + 33 + 2) k3) + (1 : Int32)))).bind fun r5 =>
  (D_X2_isBottom o0 x1 r2 (sn_wr (sn_wr st (o0 + 33 + 1) 3 ((st.1 (o0 + 33 + 1) 3) + (1 : Int32))) (o0 + 33 + 2) k4 (((sn_wr st (o0 + 33 + 1) 3 ((st.1 (o0 + 33 + 1) 3) + (1 : Int32))).1 (o0 + 33 + 2) k3) + (1 : Int32)))).bind fun r6 =>
  if r6 = (0 : Int32) then
  ((sn_ix x1 12).bind fun k7 =>
  (sn_ix ((5 : Int32) + r2) 17).bind fun k8 =>
  some (sn_wr (sn_wr (sn_wr st (o0 + 33 + 1) 3 ((st.1 (o0 + 33 + 1) 3) + (1 : Int32))) (o0 + 33 + 2) k4 (((sn_wr st (o0 + 33 + 1) 3 ((st.1 (o0 + 33 + 1) 3) + (1 : Int32))).1 (o0 + 33 + 2) k3) + (1 : Int32))) (o0 + 4 + 1 + 1 + k7) k8 r5))
  else
  ((D_X3_greatestX (o0 + 1) (sn_wr (sn_wr st (o0 + 33 + 1) 3 ((st.1 (o0 + 33 + 1) 3) + (1 : Int32))) (o0 + 33 + 2) k4 (((sn_wr st (o0 + 33 + 1) 3 ((st.1 (o0 + 33 + 1) 3) + (1 : Int32))).1 (o0 + 33 + 2) k3) + (1 : Int32)))).bind fun r9 =>
  if r9 ≤ r5 then
  ((sn_ix x1 12).bind fun k10 =>
  (sn_ix ((5 : Int32) + r2) 17).bind fun k11 =>
  some (sn_wr (sn_wr (sn_wr st (o0 + 33 + 1) 3 ((st.1 (o0 + 33 + 1) 3) + (1 : Int32))) (o0 + 33 + 2) k4 (((sn_wr st (o0 + 33 + 1) 3 ((st.1 (o0 + 33 + 1) 3) + (1 : Int32))).1 (o0 + 33 + 2) k3) + (1 : Int32))) (o0 + 4 + 1 + 1 + k10) k11 (0 : Int32)))
  else
  ((sn_ix x1 12).bind fun k12 =>
  (sn_ix ((5 : Int32) + r2) 17).bind fun k13 =>
  some (sn_wr (sn_wr (sn_wr st (o0 + 33 + 1) 3 ((st.1 (o0 + 33 + 1) 3) + (1 : Int32))) (o0 + 33 + 2) k4 (((sn_wr st (o0 + 33 + 1) 3 ((st.1 (o0 + 33 + 1) 3) + (1 : Int32))).1 (o0 + 33 + 2) k3) + (1 : Int32))) (o0 + 4 + 1 + 1 + k12) k13 (r5 + (1 : Int32))))))

def D_X2_doRules (o0 : Nat) (x1 : Int32) (st : sn_S) : Option (sn_S) :=
  (D_X2_firstRule o0 x1 st).bind fun r1 =>
  if r1 = (0 : Int32) then
  ((D_X2_doSane o0 x1 st).bind fun r5 =>
  some r5)
  else
  (if r1 = (1 : Int32) then
  ((D_X2_doTree o0 x1 st).bind fun r4 =>
  some r4)
  else
  ((D_X2_doWave o0 x1 st).bind fun r2 =>
  (D_X2_doRing o0 x1 r2).bind fun r3 =>
  some r3))

def D_X3_around_L4 (b : Nat) (x1 : Int32) (st : sn_S) : Nat → Int32 → Int32 → Option (Int32)
  | 0, _, _ => none
  | n + 1, x2, x3 =>
  if (st.1 b 0) ≤ x3 then
  (some x2)
  else
  ((D_X5_has x1 x3).bind fun r1 =>
  if r1 = (0 : Int32) then
  (D_X3_around_L4 b x1 st n x2 (x3 + (1 : Int32)))
  else
  ((sn_ix x3 12).bind fun k2 =>
  D_X3_around_L4 b x1 st n (x2 ||| (st.1 (b + 1) k2)) (x3 + (1 : Int32))))
def D_X3_around (b : Nat) (x1 : Int32) (st : sn_S) : Option (Int32) :=
  D_X3_around_L4 b x1 st 4096 x1 (0 : Int32)

def D_X0_endRound (b : Nat) (x1 : Int32) (st : sn_S) : Option (sn_S) :=
  if ((sn_wr st b 8 ((st.1 b 8) &&& ((st.1 b 7) &&& (x1 ^^^ (-1 : Int32))))).1 b 8) = (0 : Int32) then
  (some (sn_wr (sn_wr (sn_wr st b 8 ((st.1 b 8) &&& ((st.1 b 7) &&& (x1 ^^^ (-1 : Int32))))) (b + 33) 1 (((sn_wr st b 8 ((st.1 b 8) &&& ((st.1 b 7) &&& (x1 ^^^ (-1 : Int32))))).1 (b + 33) 1) + (1 : Int32))) b 8 ((sn_wr (sn_wr st b 8 ((st.1 b 8) &&& ((st.1 b 7) &&& (x1 ^^^ (-1 : Int32))))) (b + 33) 1 (((sn_wr st b 8 ((st.1 b 8) &&& ((st.1 b 7) &&& (x1 ^^^ (-1 : Int32))))).1 (b + 33) 1) + (1 : Int32))).1 b 7)))
  else
  (some (sn_wr st b 8 ((st.1 b 8) &&& ((st.1 b 7) &&& (x1 ^^^ (-1 : Int32))))))

def D_X0_act_L15 (b : Nat) (x1 : Int32) (x2 : Int32) : Nat → Int32 → sn_S → Option (Int32 × sn_S)
  | 0, _, _ => none
  | n + 1, x3, st =>
  if (st.1 (b + 1) 0) ≤ x3 then
  ((D_X1_readAgain (b + 4) (b + 1) x2 st).bind fun r1 =>
  (D_X3_around (b + 1) x2 r1).bind fun r2 =>
  (D_X0_lookAgain b r2 r1).bind fun r3 =>
  (D_X0_endRound b x2 (sn_wr r3 (b + 33) 0 ((r3.1 (b + 33) 0) + (1 : Int32)))).bind fun r4 =>
  (D_J6_bitCount_0f7a4 x2).bind fun r5 =>
  some (r5, r4))
  else
  ((D_X5_has x2 x3).bind fun r6 =>
  if r6 = (0 : Int32) then
  (D_X0_act_L15 b x1 x2 n (x3 + (1 : Int32)) st)
  else
  ((D_X2_doRules b x3 st).bind fun r7 =>
  D_X0_act_L15 b x1 x2 n (x3 + (1 : Int32)) r7))
def D_X0_act (b : Nat) (x1 : Int32) (st : sn_S) : Option (Int32 × sn_S) :=
  if (x1 &&& (st.1 b 7)) = (0 : Int32) then
  (some ((0 : Int32), st))
  else
  (D_X0_act_L15 b x1 (x1 &&& (st.1 b 7)) 4096 (0 : Int32) st)

def D_X5_step (b : Nat) (x1 : Int32) (st : sn_S) : Option (Int32 × sn_S) :=
  if (st.1 (b + 1) 3) = (0 : Int32) then
  (some ((-103 : Int32), st))
  else
  ((D_X0_act (b + 1) x1 st).bind fun r1 =>
  some (r1.1, r1.2))

def D_X5_isWay (x0 : Int32) : Option (Int32) :=
  if x0 < (0 : Int32) then
  (some (0 : Int32))
  else
  (if (4 : Int32) < x0 then
  (some (0 : Int32))
  else
  (some (1 : Int32)))

def D_X0_takeTurn (b : Nat) (st : sn_S) : Option (Int32 × sn_S) :=
  if (st.1 (b + 1) 0) ≤ ((st.1 b 6) + (1 : Int32)) then
  (some (((1 : Int32) <<< ((st.1 b 6) &&& 31)), (sn_wr st b 6 (0 : Int32))))
  else
  (some (((1 : Int32) <<< ((st.1 b 6) &&& 31)), (sn_wr st b 6 ((st.1 b 6) + (1 : Int32)))))

def D_X0_rollDice (b : Nat) (st : sn_S) : Option (Int32 × sn_S) :=
  some ((((sn_wr st b 4 (((1103515245 : Int32) * (st.1 b 4)) + (12345 : Int32))).1 b 4) >>> ((8 : Int32) &&& 31)), (sn_wr st b 4 (((1103515245 : Int32) * (st.1 b 4)) + (12345 : Int32))))

def D_X0_choose (b : Nat) (x1 : Int32) (st : sn_S) : Option (Int32 × sn_S) :=
  if x1 = (0 : Int32) then
  (some ((st.1 b 7), st))
  else if x1 = (1 : Int32) then
  (some (((st.1 b 7) &&& (-(st.1 b 7))), st))
  else if x1 = (2 : Int32) then
  (if (st.1 b 7) = (0 : Int32) then
  (some ((0 : Int32), st))
  else
  ((D_X5_greatest (st.1 b 7)).bind fun r1 =>
  some (((1 : Int32) <<< (r1 &&& 31)), st)))
  else if x1 = (3 : Int32) then
  ((D_X0_takeTurn b st).bind fun r2 =>
  some (r2.1, r2.2))
  else 
  ((D_X0_rollDice b st).bind fun r3 =>
  some (r3.1, r3.2))

def D_X5_run_L39 (b : Nat) (x1 : Int32) (x2 : Int32) : Nat → Int32 → Int32 → sn_S → Option (Int32 × sn_S)
  | 0, _, _, _ => none
  | n + 1, x3, x4, st =>
  if x2 ≤ x4 then
  (some (x3, st))
  else
  ((D_X0_choose (b + 1) x1 st).bind fun r2 =>
  (D_X0_act (b + 1) r2.1 r2.2).bind fun r3 =>
  D_X5_run_L39 b x1 x2 n (x3 + r3.1) (x4 + (1 : Int32)) r3.2)
def D_X5_run (b : Nat) (x1 : Int32) (x2 : Int32) (st : sn_S) : Option (Int32 × sn_S) :=
  (D_X5_isWay x1).bind fun r1 =>
  if r1 = (0 : Int32) then
  (some ((-102 : Int32), st))
  else
  (if x2 < (0 : Int32) then
  (some ((-102 : Int32), st))
  else
  (if x2 ≤ (300 : Int32) then
  (if (st.1 (b + 1) 3) = (0 : Int32) then
  (some ((-103 : Int32), st))
  else
  (D_X5_run_L39 b x1 x2 4096 (0 : Int32) (0 : Int32) st))
  else
  (some ((-102 : Int32), st))))

def D_X5_dice (b : Nat) (x1 : Int32) (st : sn_S) : Option (Int32 × sn_S) :=
  some ((st.1 (b + 1) 4), (sn_wr st (b + 1) 4 x1))

def D_X3_nearer_L8 (b : Nat) (x1 : Int32) (st : sn_S) : Nat → Int32 → Option (Int32)
  | 0, _ => none
  | n + 1, x2 =>
  if (st.1 b 0) ≤ x2 then
  (some (-1 : Int32))
  else
  ((sn_ix x1 12).bind fun k1 =>
  (D_X5_has (st.1 (b + 1) k1) x2).bind fun r2 =>
  if r2 = (0 : Int32) then
  (D_X3_nearer_L8 b x1 st n (x2 + (1 : Int32)))
  else
  ((sn_ix x2 12).bind fun k3 =>
  (sn_ix x1 12).bind fun k4 =>
  if (st.1 (b + 2) k3) = ((st.1 (b + 2) k4) - (1 : Int32)) then
  (some x2)
  else
  (D_X3_nearer_L8 b x1 st n (x2 + (1 : Int32)))))
def D_X3_nearer (b : Nat) (x1 : Int32) (st : sn_S) : Option (Int32) :=
  if x1 = (0 : Int32) then
  (some (-1 : Int32))
  else
  (D_X3_nearer_L8 b x1 st 4096 (0 : Int32))

def D_X0_isAtRest_L11 (b : Nat) (st : sn_S) : Nat → Int32 → Option (Int32)
  | 0, _ => none
  | n + 1, x1 =>
  if (st.1 (b + 1) 0) ≤ x1 then
  ((D_X2_rightsInAll b st).bind fun r1 =>
  if r1 = (1 : Int32) then
  (some (1 : Int32))
  else
  (some (0 : Int32)))
  else
  ((sn_ix x1 12).bind fun k2 =>
  (sn_ix x1 12).bind fun k3 =>
  if (st.1 (b + 4 + 1 + 1 + k2) 0) = (st.1 (b + 1 + 2) k3) then
  ((sn_ix x1 12).bind fun k4 =>
  (D_X3_nearer (b + 1) x1 st).bind fun r5 =>
  if (st.1 (b + 4 + 1 + 1 + k4) 1) = r5 then
  ((D_X1_isSane (b + 4) x1 st).bind fun r6 =>
  if r6 = (0 : Int32) then
  (some (0 : Int32))
  else
  (D_X0_isAtRest_L11 b st n (x1 + (1 : Int32))))
  else
  (some (0 : Int32)))
  else
  (some (0 : Int32)))
def D_X0_isAtRest (b : Nat) (st : sn_S) : Option (Int32) :=
  if (st.1 b 3) = (0 : Int32) then
  (some (0 : Int32))
  else
  (D_X0_isAtRest_L11 b st 4096 (0 : Int32))

def D_X5_settle_L36 (b : Nat) (x1 : Int32) (x2 : Int32) : Nat → Int32 → sn_S → Option (Int32 × sn_S)
  | 0, _, _ => none
  | n + 1, x3, st =>
  if x2 ≤ x3 then
  ((D_X0_isAtRest (b + 1) st).bind fun r2 =>
  if r2 = (0 : Int32) then
  (some (((-1 : Int32) - x2), st))
  else
  (some (x2, st)))
  else
  ((D_X0_isAtRest (b + 1) st).bind fun r3 =>
  if r3 = (0 : Int32) then
  ((D_X0_choose (b + 1) x1 st).bind fun r4 =>
  (D_X0_act (b + 1) r4.1 r4.2).bind fun r5 =>
  D_X5_settle_L36 b x1 x2 n (x3 + (1 : Int32)) r5.2)
  else
  (some (x3, st)))
def D_X5_settle (b : Nat) (x1 : Int32) (x2 : Int32) (st : sn_S) : Option (Int32 × sn_S) :=
  (D_X5_isWay x1).bind fun r1 =>
  if r1 = (0 : Int32) then
  (some ((-102 : Int32), st))
  else
  (if x2 < (0 : Int32) then
  (some ((-102 : Int32), st))
  else
  (if x2 ≤ (2000 : Int32) then
  (if (st.1 (b + 1) 3) = (0 : Int32) then
  (some ((-103 : Int32), st))
  else
  (D_X5_settle_L36 b x1 x2 4096 (0 : Int32) st))
  else
  (some ((-102 : Int32), st))))

def D_X5_rest (b : Nat) (st : sn_S) : Option (Int32) :=
  (D_X0_isAtRest (b + 1) st).bind fun r1 =>
  if r1 = (0 : Int32) then
  (some (0 : Int32))
  else
  (some (1 : Int32))

def D_X5_distance (b : Nat) (x1 : Int32) (st : sn_S) : Option (Int32) :=
  (D_X3_isNode (b + 1 + 1) x1 st).bind fun r1 =>
  if r1 = (0 : Int32) then
  (some (-101 : Int32))
  else
  ((sn_ix x1 12).bind fun k2 =>
  some (st.1 (b + 1 + 1 + 2) k2))

def D_X5_wave (b : Nat) (st : sn_S) : Option (Int32 × sn_S) :=
  some (((sn_wr st (b + 1) 5 (st.1 (b + 1 + 33) 3)).1 (b + 1 + 33) 2), (sn_wr st (b + 1) 5 (st.1 (b + 1 + 33) 3)))

def D_X5_entries (b : Nat) (x1 : Int32) (st : sn_S) : Option (Int32) :=
  (D_X3_isNode (b + 1 + 1) x1 st).bind fun r1 =>
  if r1 = (0 : Int32) then
  (some (-101 : Int32))
  else
  ((sn_ix x1 12).bind fun k2 =>
  some (st.1 (b + 1 + 33 + 2) k2))

def D_X5_count (b : Nat) (x1 : Int32) (st : sn_S) : Option (Int32) :=
  if x1 = (0 : Int32) then
  (some (st.1 (b + 1 + 1) 0))
  else if x1 = (1 : Int32) then
  ((D_X3_linkCount (b + 1 + 1) st).bind fun r1 =>
  some r1)
  else if x1 = (2 : Int32) then
  (some (st.1 (b + 1 + 33) 0))
  else if x1 = (3 : Int32) then
  (some (st.1 (b + 1 + 33) 1))
  else if x1 = (4 : Int32) then
  (if (st.1 (b + 1) 3) = (0 : Int32) then
  (some (0 : Int32))
  else
  (some (1 : Int32)))
  else if x1 = (5 : Int32) then
  (some (st.1 (b + 1 + 33 + 1) 0))
  else if x1 = (6 : Int32) then
  (some (st.1 (b + 1 + 33 + 1) 1))
  else if x1 = (7 : Int32) then
  (some (st.1 (b + 1 + 33 + 1) 2))
  else if x1 = (8 : Int32) then
  (some (st.1 (b + 1 + 33 + 1) 3))
  else 
  (some (-102 : Int32))

def D_X3_copyFrom (b : Nat) (o1 : Nat) (st : sn_S) : Option (sn_S) :=
  some (sn_cp (sn_cp (sn_wr st b 0 (st.1 o1 0)) (o1 + 1) (b + 1) 12) (o1 + 2) (b + 2) 12)

def D_X1_copyFrom_L2 (b : Nat) (o1 : Nat) : Nat → Int32 → sn_S → Option (sn_S)
  | 0, _, _ => none
  | n + 1, x2, st =>
  if (12 : Int32) ≤ x2 then
  (some (sn_cp (sn_cp st (o1 + 27) (b + 27) 12) (o1 + 28) (b + 28) 12))
  else
  ((sn_ix x2 12).bind fun k1 =>
  (sn_ix x2 12).bind fun k2 =>
  (sn_ix x2 12).bind fun k3 =>
  (sn_ix x2 12).bind fun k4 =>
  D_X1_copyFrom_L2 b o1 n (x2 + (1 : Int32)) (sn_cp (sn_cp st (o1 + 1 + 1 + k1) (b + 1 + 1 + k2) 17) (o1 + 14 + 1 + k3) (b + 14 + 1 + k4) 17))
def D_X1_copyFrom (b : Nat) (o1 : Nat) (st : sn_S) : Option (sn_S) :=
  D_X1_copyFrom_L2 b o1 4096 (0 : Int32) st

def D_X4_copyFrom (b : Nat) (o1 : Nat) (st : sn_S) : Option (sn_S) :=
  some (sn_cp (sn_cp (sn_wr (sn_wr (sn_wr (sn_wr st b 0 (st.1 o1 0)) b 1 ((sn_wr st b 0 (st.1 o1 0)).1 o1 1)) b 2 ((sn_wr (sn_wr st b 0 (st.1 o1 0)) b 1 ((sn_wr st b 0 (st.1 o1 0)).1 o1 1)).1 o1 2)) b 3 ((sn_wr (sn_wr (sn_wr st b 0 (st.1 o1 0)) b 1 ((sn_wr st b 0 (st.1 o1 0)).1 o1 1)) b 2 ((sn_wr (sn_wr st b 0 (st.1 o1 0)) b 1 ((sn_wr st b 0 (st.1 o1 0)).1 o1 1)).1 o1 2)).1 o1 3)) (o1 + 1) (b + 1) 4) (o1 + 2) (b + 2) 12)

def D_X0_copyFrom (b : Nat) (o1 : Nat) (st : sn_S) : Option (sn_S) :=
  (D_X3_copyFrom (b + 1) (o1 + 1) st).bind fun r1 =>
  (D_X1_copyFrom (b + 4) (o1 + 4) r1).bind fun r2 =>
  (D_X4_copyFrom (b + 33) (o1 + 33) r2).bind fun r3 =>
  if (r3.1 o1 3) = 0 ∨ (r3.1 o1 3) = 1 then
  some (sn_wr (sn_wr (sn_wr (sn_wr (sn_wr (sn_wr r3 b 3 (r3.1 o1 3)) b 4 ((sn_wr r3 b 3 (r3.1 o1 3)).1 o1 4)) b 5 ((sn_wr (sn_wr r3 b 3 (r3.1 o1 3)) b 4 ((sn_wr r3 b 3 (r3.1 o1 3)).1 o1 4)).1 o1 5)) b 6 ((sn_wr (sn_wr (sn_wr r3 b 3 (r3.1 o1 3)) b 4 ((sn_wr r3 b 3 (r3.1 o1 3)).1 o1 4)) b 5 ((sn_wr (sn_wr r3 b 3 (r3.1 o1 3)) b 4 ((sn_wr r3 b 3 (r3.1 o1 3)).1 o1 4)).1 o1 5)).1 o1 6)) b 7 ((sn_wr (sn_wr (sn_wr (sn_wr r3 b 3 (r3.1 o1 3)) b 4 ((sn_wr r3 b 3 (r3.1 o1 3)).1 o1 4)) b 5 ((sn_wr (sn_wr r3 b 3 (r3.1 o1 3)) b 4 ((sn_wr r3 b 3 (r3.1 o1 3)).1 o1 4)).1 o1 5)) b 6 ((sn_wr (sn_wr (sn_wr r3 b 3 (r3.1 o1 3)) b 4 ((sn_wr r3 b 3 (r3.1 o1 3)).1 o1 4)) b 5 ((sn_wr (sn_wr r3 b 3 (r3.1 o1 3)) b 4 ((sn_wr r3 b 3 (r3.1 o1 3)).1 o1 4)).1 o1 5)).1 o1 6)).1 o1 7)) b 8 ((sn_wr (sn_wr (sn_wr (sn_wr (sn_wr r3 b 3 (r3.1 o1 3)) b 4 ((sn_wr r3 b 3 (r3.1 o1 3)).1 o1 4)) b 5 ((sn_wr (sn_wr r3 b 3 (r3.1 o1 3)) b 4 ((sn_wr r3 b 3 (r3.1 o1 3)).1 o1 4)).1 o1 5)) b 6 ((sn_wr (sn_wr (sn_wr r3 b 3 (r3.1 o1 3)) b 4 ((sn_wr r3 b 3 (r3.1 o1 3)).1 o1 4)) b 5 ((sn_wr (sn_wr r3 b 3 (r3.1 o1 3)) b 4 ((sn_wr r3 b 3 (r3.1 o1 3)).1 o1 4)).1 o1 5)).1 o1 6)) b 7 ((sn_wr (sn_wr (sn_wr (sn_wr r3 b 3 (r3.1 o1 3)) b 4 ((sn_wr r3 b 3 (r3.1 o1 3)).1 o1 4)) b 5 ((sn_wr (sn_wr r3 b 3 (r3.1 o1 3)) b 4 ((sn_wr r3 b 3 (r3.1 o1 3)).1 o1 4)).1 o1 5)) b 6 ((sn_wr (sn_wr (sn_wr r3 b 3 (r3.1 o1 3)) b 4 ((sn_wr r3 b 3 (r3.1 o1 3)).1 o1 4)) b 5 ((sn_wr (sn_wr r3 b 3 (r3.1 o1 3)) b 4 ((sn_wr r3 b 3 (r3.1 o1 3)).1 o1 4)).1 o1 5)).1 o1 6)).1 o1 7)).1 o1 8))
  else none

def D_X5_keep (b : Nat) (st : sn_S) : Option (Int32 × sn_S) :=
  (D_X0_copyFrom (b + 37) (b + 1) st).bind fun r1 =>
  some ((1 : Int32), (sn_wr r1 b 2 (1 : Int32)))

def D_X5_back (b : Nat) (st : sn_S) : Option (Int32 × sn_S) :=
  if (st.1 b 2) = (0 : Int32) then
  (some ((-103 : Int32), st))
  else
  ((D_X0_copyFrom (b + 1) (b + 37) st).bind fun r1 =>
  some ((1 : Int32), r1))

def D_X5_mix (j0 : Int64) (x2 : Int32) : Option (Int64) :=
  some (((31 : Int64) * j0) + x2.toInt64)

def D_X5_mixNode_L47 (b : Nat) (kr4 : Nat) (j1 : Int64) (x3 : Int32) (st : sn_S) : Nat → Int64 → Int32 → Option (Int64)
  | 0, _, _ => none
  | n + 1, j5, x7 =>
  if (st.1 (b + 1 + 1) 0) ≤ x7 then
  ((sn_ix x3 12).bind fun k2 =>
  (D_X5_mix j5 (st.1 (b + 1 + 33 + 2) k2)).bind fun r3 =>
  some r3)
  else
  ((sn_ix x3 12).bind fun k4 =>
  (D_X5_has (st.1 (b + 1 + 1 + 1) k4) x7).bind fun r5 =>
  if r5 = (0 : Int32) then
  (D_X5_mixNode_L47 b kr4 j1 x3 st n j5 (x7 + (1 : Int32)))
  else
  ((D_X5_mix j5 x7).bind fun r6 =>
  (sn_ix ((5 : Int32) + x7) 17).bind fun k7 =>
  (D_X5_mix r6 (st.1 (b + 1 + 4 + 1 + 1 + kr4) k7)).bind fun r8 =>
  D_X5_mixNode_L47 b kr4 j1 x3 st n r8 (x7 + (1 : Int32))))
def D_X5_mixNode_L20 (b : Nat) (kr4 : Nat) (j1 : Int64) (x3 : Int32) (st : sn_S) : Nat → Int64 → Int32 → Option (Int64)
  | 0, _, _ => none
  | n + 1, j5, x7 =>
  if (5 : Int32) ≤ x7 then
  (D_X5_mixNode_L47 b kr4 j1 x3 st 4096 j5 (0 : Int32))
  else
  ((sn_ix x7 17).bind fun k9 =>
  (D_X5_mix j5 (st.1 (b + 1 + 4 + 1 + 1 + kr4) k9)).bind fun r10 =>
  D_X5_mixNode_L20 b kr4 j1 x3 st n r10 (x7 + (1 : Int32)))
def D_X5_mixNode (b : Nat) (j1 : Int64) (x3 : Int32) (st : sn_S) : Option (Int64) :=
  (sn_ix x3 12).bind fun k1 =>
  D_X5_mixNode_L20 b k1 j1 x3 st 4096 j1 (0 : Int32)

def D_X5_digest_L37 (b : Nat) (st : sn_S) : Nat → Int64 → Int32 → Option (Int64)
  | 0, _, _ => none
  | n + 1, j1, x3 =>
  if (st.1 (b + 1 + 1) 0) ≤ x3 then
  ((D_X5_mix j1 (st.1 (b + 1) 4)).bind fun r3 =>
  some r3)
  else
  ((D_X5_mixNode b j1 x3 st).bind fun r4 =>
  D_X5_digest_L37 b st n r4 (x3 + (1 : Int32)))
def D_X5_digest (b : Nat) (st : sn_S) : Option (Int64) :=
  (D_X5_mix (59 : Int64) (st.1 (b + 1 + 1) 0)).bind fun r1 =>
  if (st.1 (b + 1) 3) = (0 : Int32) then
  ((D_X5_mix r1 (0 : Int32)).bind fun r2 =>
  D_X5_digest_L37 b st 4096 r2 (0 : Int32))
  else
  ((D_X5_mix r1 (1 : Int32)).bind fun r5 =>
  D_X5_digest_L37 b st 4096 r5 (0 : Int32))

def D_X6_in (x0 : Int32) (x1 : Int32) (x2 : Int32) : Option (Int32) :=
  if x0 < x1 then
  (some (0 : Int32))
  else
  (if x2 < x0 then
  (some (0 : Int32))
  else
  (some (1 : Int32)))

def D_X6_isNode (b : Nat) (x1 : Int32) (st : sn_S) : Option (Int32) :=
  (D_X6_in x1 (0 : Int32) ((st.1 (b + 1) 360) - (1 : Int32))).bind fun r1 =>
  if r1 = 0 ∨ r1 = 1 then some r1 else none

def D_X6_isLink (b : Nat) (x1 : Int32) (x2 : Int32) (st : sn_S) : Option (Int32) :=
  (D_X6_isNode b x1 st).bind fun r1 =>
  if r1 = (0 : Int32) then
  (some (0 : Int32))
  else
  ((D_X6_isNode b x2 st).bind fun r2 =>
  if r2 = (0 : Int32) then
  (some (0 : Int32))
  else
  ((sn_ix (((216 : Int32) + ((12 : Int32) * x1)) + x2) 374).bind fun k3 =>
  if (st.1 (b + 1) k3) = (1 : Int32) then
  (some (1 : Int32))
  else
  (some (0 : Int32))))

def D_X6_k (b : Nat) (st : sn_S) : Option (Int32) :=
  some (((2 : Int32) * (st.1 (b + 1) 360)) + (1 : Int32))

def D_X6_open_L24 (b : Nat) (x1 : Int32) (x2 : Int32) : Nat → Int32 → sn_S → Option (Int32 × sn_S)
  | 0, _, _ => none
  | n + 1, x3, st =>
  if (374 : Int32) ≤ x3 then
  (some (x2, (sn_wr st (b + 1) 360 x1)))
  else
  (if x3 = (370 : Int32) then
  (D_X6_open_L24 b x1 x2 n (x3 + (1 : Int32)) st)
  else
  (if x3 = (371 : Int32) then
  (D_X6_open_L24 b x1 x2 n (x3 + (1 : Int32)) st)
  else
  (if x3 < (24 : Int32) then
  ((sn_ix x3 374).bind fun k2 =>
  D_X6_open_L24 b x1 x2 n (x3 + (1 : Int32)) (sn_wr st (b + 1) k2 (0 : Int32)))
  else
  (if (36 : Int32) ≤ x3 then
  ((sn_ix x3 374).bind fun k3 =>
  D_X6_open_L24 b x1 x2 n (x3 + (1 : Int32)) (sn_wr st (b + 1) k3 (0 : Int32)))
  else
  ((sn_ix x3 374).bind fun k4 =>
  D_X6_open_L24 b x1 x2 n (x3 + (1 : Int32)) (sn_wr st (b + 1) k4 (-1 : Int32)))))))
def D_X6_open (b : Nat) (x1 : Int32) (st : sn_S) : Option (Int32 × sn_S) :=
  (D_X6_in x1 (2 : Int32) (12 : Int32)).bind fun r1 =>
  if r1 = (0 : Int32) then
  (some ((-102 : Int32), st))
  else
  (D_X6_open_L24 b x1 (st.1 (b + 1) 360) 4096 (0 : Int32) st)

def D_X6_link (b : Nat) (x1 : Int32) (x2 : Int32) (x3 : Int32) (st : sn_S) : Option (Int32 × sn_S) :=
  (D_X6_isNode b x1 st).bind fun r1 =>
  if r1 = (0 : Int32) then
  (some ((-101 : Int32), st))
  else
  ((D_X6_isNode b x2 st).bind fun r2 =>
  if r2 = (0 : Int32) then
  (some ((-101 : Int32), st))
  else
  (if x1 = x2 then
  (some ((-102 : Int32), st))
  else
  (if (st.1 (b + 1) 361) = (1 : Int32) then
  (some ((-103 : Int32), st))
  else
  ((sn_ix (((216 : Int32) + ((12 : Int32) * x1)) + x2) 374).bind fun k3 =>
  if x3 = (0 : Int32) then
  ((sn_ix (((216 : Int32) + ((12 : Int32) * x1)) + x2) 374).bind fun k4 =>
  if x3 = (0 : Int32) then
  ((sn_ix (((216 : Int32) + ((12 : Int32) * x2)) + x1) 374).bind fun k5 =>
  some ((st.1 (b + 1) k3), (sn_wr (sn_wr st (b + 1) k4 (0 : Int32)) (b + 1) k5 (0 : Int32))))
  else
  ((sn_ix (((216 : Int32) + ((12 : Int32) * x2)) + x1) 374).bind fun k6 =>
  some ((st.1 (b + 1) k3), (sn_wr (sn_wr st (b + 1) k4 (0 : Int32)) (b + 1) k6 (1 : Int32)))))
  else
  ((sn_ix (((216 : Int32) + ((12 : Int32) * x1)) + x2) 374).bind fun k7 =>
  if x3 = (0 : Int32) then
  ((sn_ix (((216 : Int32) + ((12 : Int32) * x2)) + x1) 374).bind fun k8 =>
  some ((st.1 (b + 1) k3), (sn_wr (sn_wr st (b + 1) k7 (1 : Int32)) (b + 1) k8 (0 : Int32))))
  else
  ((sn_ix (((216 : Int32) + ((12 : Int32) * x2)) + x1) 374).bind fun k9 =>
  some ((st.1 (b + 1) k3), (sn_wr (sn_wr st (b + 1) k7 (1 : Int32)) (b + 1) k9 (1 : Int32)))))))))

def D_X6_links_L4 (b : Nat) (st : sn_S) : Nat → Int32 → Int32 → Option (Int32)
  | 0, _, _ => none
  | n + 1, x1, x2 =>
  if (144 : Int32) ≤ x2 then
  (some (x1 / (2 : Int32)))
  else
  ((sn_ix ((216 : Int32) + x2) 374).bind fun k1 =>
  D_X6_links_L4 b st n (x1 + (st.1 (b + 1) k1)) (x2 + (1 : Int32)))
def D_X6_links (b : Nat) (st : sn_S) : Option (Int32) :=
  D_X6_links_L4 b st 4096 (0 : Int32) (0 : Int32)

def D_X6_measure_L59 (b : Nat) (x1 : Int32) (x2 : Int32) (K : Int32 → sn_S → Option (sn_S)) : Nat → Int32 → sn_S → Option (sn_S)
  | 0, _, _ => none
  | n + 1, x3, st =>
  if (st.1 (b + 1) 360) ≤ x3 then
  (K (x2 + (1 : Int32)) st)
  else
  ((sn_ix x2 12).bind fun k1 =>
  if (st.1 (b + 4) k1) = x1 then
  ((D_X6_isLink b x2 x3 st).bind fun r2 =>
  if r2 = (0 : Int32) then
  (D_X6_measure_L59 b x1 x2 K n (x3 + (1 : Int32)) st)
  else
  ((sn_ix x3 12).bind fun k3 =>
  if (st.1 (b + 4) k3) = (-1 : Int32) then
  ((sn_ix x3 12).bind fun k4 =>
  D_X6_measure_L59 b x1 x2 K n (x3 + (1 : Int32)) (sn_wr st (b + 4) k4 (x1 + (1 : Int32))))
  else
  (D_X6_measure_L59 b x1 x2 K n (x3 + (1 : Int32)) st)))
  else
  (D_X6_measure_L59 b x1 x2 K n (x3 + (1 : Int32)) st))
def D_X6_measure_L45 (b : Nat) (x1 : Int32) (K : Int32 → sn_S → Option (sn_S)) : Nat → Int32 → sn_S → Option (sn_S)
  | 0, _, _ => none
  | n + 1, x2, st =>
  if (st.1 (b + 1) 360) ≤ x2 then
  (K (x1 + (1 : Int32)) st)
  else
  (D_X6_measure_L59 b x1 x2 (fun y2 yt => D_X6_measure_L45 b x1 K n y2 yt) 4096 (0 : Int32) st)
def D_X6_measure_L31 (b : Nat) : Nat → Int32 → sn_S → Option (sn_S)
  | 0, _, _ => none
  | n + 1, x1, st =>
  if (st.1 (b + 1) 360) ≤ x1 then
  (some st)
  else
  (D_X6_measure_L45 b x1 (fun y1 yt => D_X6_measure_L31 b n y1 yt) 4096 (0 : Int32) st)
def D_X6_measure_L2 (b : Nat) : Nat → Int32 → sn_S → Option (sn_S)
  | 0, _, _ => none
  | n + 1, x1, st =>
  if (12 : Int32) ≤ x1 then
  (D_X6_measure_L31 b 4096 (0 : Int32) st)
  else
  (if x1 = (0 : Int32) then
  ((sn_ix x1 12).bind fun k6 =>
  D_X6_measure_L2 b n (x1 + (1 : Int32)) (sn_wr st (b + 4) k6 (0 : Int32)))
  else
  ((sn_ix x1 12).bind fun k5 =>
  D_X6_measure_L2 b n (x1 + (1 : Int32)) (sn_wr st (b + 4) k5 (-1 : Int32))))
def D_X6_measure (b : Nat) (st : sn_S) : Option (sn_S) :=
  D_X6_measure_L2 b 4096 (0 : Int32) st

def D_X6_isSaneParent (b : Nat) (x1 : Int32) (st : sn_S) : Option (Int32) :=
  (sn_ix ((24 : Int32) + x1) 374).bind fun k1 =>
  if (st.1 (b + 1) k1) = (-1 : Int32) then
  (some (1 : Int32))
  else
  ((D_X6_isLink b x1 (st.1 (b + 1) k1) st).bind fun r2 =>
  if r2 = (0 : Int32) then
  (some (0 : Int32))
  else
  (some (1 : Int32)))

def D_X6_isSane_L57 (b : Nat) (x1 : Int32) (st : sn_S) : Nat → Int32 → Int32 → Option (Int32)
  | 0, _, _ => none
  | n + 1, x2, x3 =>
  if (st.1 (b + 1) 360) ≤ x3 then
  (if x2 = 0 ∨ x2 = 1 then some x2 else none)
  else
  (if x2 = (0 : Int32) then
  (D_X6_isSane_L57 b x1 st n (0 : Int32) (x3 + (1 : Int32)))
  else
  ((D_X6_isLink b x1 x3 st).bind fun r4 =>
  if r4 = (0 : Int32) then
  (D_X6_isSane_L57 b x1 st n (1 : Int32) (x3 + (1 : Int32)))
  else
  ((sn_ix (((72 : Int32) + ((12 : Int32) * x1)) + x3) 374).bind fun k5 =>
  (D_X6_k b st).bind fun r6 =>
  (D_X6_in (st.1 (b + 1) k5) (0 : Int32) (r6 - (1 : Int32))).bind fun r7 =>
  if r7 = (0 : Int32) then
  (D_X6_isSane_L57 b x1 st n (0 : Int32) (x3 + (1 : Int32)))
  else
  (D_X6_isSane_L57 b x1 st n (1 : Int32) (x3 + (1 : Int32))))))
def D_X6_isSane (b : Nat) (x1 : Int32) (st : sn_S) : Option (Int32) :=
  (sn_ix ((12 : Int32) + x1) 374).bind fun k1 =>
  (D_X6_in (st.1 (b + 1) k1) (0 : Int32) (st.1 (b + 1) 360)).bind fun r2 =>
  if r2 = (0 : Int32) then
  (D_X6_isSane_L57 b x1 st 4096 (0 : Int32) (0 : Int32))
  else
  ((D_X6_isSaneParent b x1 st).bind fun r8 =>
  if r8 = (0 : Int32) then
  (D_X6_isSane_L57 b x1 st 4096 (0 : Int32) (0 : Int32))
  else
  ((sn_ix ((36 : Int32) + x1) 374).bind fun k9 =>
  (D_X6_in (st.1 (b + 1) k9) (0 : Int32) (2 : Int32)).bind fun r10 =>
  if r10 = (0 : Int32) then
  (D_X6_isSane_L57 b x1 st 4096 (0 : Int32) (0 : Int32))
  else
  (D_X6_isSane_L57 b x1 st 4096 (1 : Int32) (0 : Int32))))

def D_X6_distOf (b : Nat) (x1 : Int32) (st : sn_S) : Option (Int32) :=
  (sn_ix ((12 : Int32) + x1) 374).bind fun k1 =>
  (D_X6_in (st.1 (b + 1) k1) (0 : Int32) (st.1 (b + 1) 360)).bind fun r2 =>
  if r2 = (0 : Int32) then
  (some (st.1 (b + 1) 360))
  else
  ((sn_ix ((12 : Int32) + x1) 374).bind fun k3 =>
  some (st.1 (b + 1) k3))

def D_X6_treeParent_L4 (b : Nat) (x1 : Int32) (st : sn_S) : Nat → Int32 → Int32 → Option (Int32)
  | 0, _, _ => none
  | n + 1, x2, x3 =>
  if (st.1 (b + 1) 360) ≤ x3 then
  (some x2)
  else
  (if x1 = (0 : Int32) then
  (some x2)
  else
  ((D_X6_isLink b x1 x3 st).bind fun r1 =>
  if r1 = (0 : Int32) then
  (D_X6_treeParent_L4 b x1 st n x2 (x3 + (1 : Int32)))
  else
  (if x2 = (-1 : Int32) then
  (D_X6_treeParent_L4 b x1 st n x3 (x3 + (1 : Int32)))
  else
  ((D_X6_distOf b x3 st).bind fun r2 =>
  (D_X6_distOf b x2 st).bind fun r3 =>
  if r3 ≤ r2 then
  (D_X6_treeParent_L4 b x1 st n x2 (x3 + (1 : Int32)))
  else
  (D_X6_treeParent_L4 b x1 st n x3 (x3 + (1 : Int32)))))))
def D_X6_treeParent (b : Nat) (x1 : Int32) (st : sn_S) : Option (Int32) :=
  D_X6_treeParent_L4 b x1 st 4096 (-1 : Int32) (0 : Int32)

def D_X6_treeDist (b : Nat) (x1 : Int32) (st : sn_S) : Option (Int32) :=
  if x1 = (0 : Int32) then
  (some (0 : Int32))
  else
  ((D_X6_treeParent b x1 st).bind fun r1 =>
  (D_X6_distOf b r1 st).bind fun r2 =>
  if (r2 + (1 : Int32)) ≤ (st.1 (b + 1) 360) then
  (some (r2 + (1 : Int32)))
  else
  (some (st.1 (b + 1) 360)))

def D_X6_parentOf (b : Nat) (x1 : Int32) (st : sn_S) : Option (Int32) :=
  (D_X6_isSaneParent b x1 st).bind fun r1 =>
  if r1 = (0 : Int32) then
  (some (-1 : Int32))
  else
  ((sn_ix ((24 : Int32) + x1) 374).bind fun k2 =>
  some (st.1 (b + 1) k2))

def D_X6_isChild (b : Nat) (x1 : Int32) (x2 : Int32) (st : sn_S) : Option (Int32) :=
  (D_X6_isLink b x1 x2 st).bind fun r1 =>
  if r1 = (0 : Int32) then
  (some (0 : Int32))
  else
  ((D_X6_parentOf b x2 st).bind fun r2 =>
  if r2 = x1 then
  (some (1 : Int32))
  else
  (some (0 : Int32)))

def D_X6_phaseOf (b : Nat) (x1 : Int32) (st : sn_S) : Option (Int32) :=
  (sn_ix ((36 : Int32) + x1) 374).bind fun k1 =>
  (D_X6_in (st.1 (b + 1) k1) (0 : Int32) (2 : Int32)).bind fun r2 =>
  if r2 = (0 : Int32) then
  (some (0 : Int32))
  else
  ((sn_ix ((36 : Int32) + x1) 374).bind fun k3 =>
  some (st.1 (b + 1) k3))

def D_X6_allChildren_L5 (b : Nat) (x1 : Int32) (x2 : Int32) (st : sn_S) : Nat → Int32 → Int32 → Option (Int32)
  | 0, _, _ => none
  | n + 1, x3, x4 =>
  if (st.1 (b + 1) 360) ≤ x4 then
  (if x3 = 0 ∨ x3 = 1 then some x3 else none)
  else
  (if x3 = (0 : Int32) then
  (D_X6_allChildren_L5 b x1 x2 st n (0 : Int32) (x4 + (1 : Int32)))
  else
  ((D_X6_isChild b x1 x4 st).bind fun r2 =>
  if r2 = (0 : Int32) then
  (D_X6_allChildren_L5 b x1 x2 st n (1 : Int32) (x4 + (1 : Int32)))
  else
  ((D_X6_phaseOf b x4 st).bind fun r3 =>
  if r3 = x2 then
  (D_X6_allChildren_L5 b x1 x2 st n (1 : Int32) (x4 + (1 : Int32)))
  else
  (D_X6_allChildren_L5 b x1 x2 st n (0 : Int32) (x4 + (1 : Int32))))))
def D_X6_allChildren (b : Nat) (x1 : Int32) (x2 : Int32) (st : sn_S) : Option (Int32) :=
  D_X6_allChildren_L5 b x1 x2 st 4096 (1 : Int32) (0 : Int32)

def D_X6_wavePhase (b : Nat) (x1 : Int32) (st : sn_S) : Option (Int32) :=
  (sn_ix ((36 : Int32) + x1) 374).bind fun k1 =>
  if x1 = (0 : Int32) then
  (if (st.1 (b + 1) k1) = (0 : Int32) then
  ((D_X6_allChildren b x1 (0 : Int32) st).bind fun r10 =>
  if r10 = (0 : Int32) then
  (if (st.1 (b + 1) k1) = (1 : Int32) then
  ((D_X6_allChildren b x1 (2 : Int32) st).bind fun r11 =>
  if r11 = (0 : Int32) then
  (if (st.1 (b + 1) k1) = (2 : Int32) then
  (some (0 : Int32))
  else
  (some (st.1 (b + 1) k1)))
  else
  (some (0 : Int32)))
  else
  (if (st.1 (b + 1) k1) = (2 : Int32) then
  (some (0 : Int32))
  else
  (some (st.1 (b + 1) k1))))
  else
  (some (1 : Int32)))
  else
  (if (st.1 (b + 1) k1) = (1 : Int32) then
  ((D_X6_allChildren b x1 (2 : Int32) st).bind fun r9 =>
  if r9 = (0 : Int32) then
  (if (st.1 (b + 1) k1) = (2 : Int32) then
  (some (0 : Int32))
  else
  (some (st.1 (b + 1) k1)))
  else
  (some (0 : Int32)))
  else
  (if (st.1 (b + 1) k1) = (2 : Int32) then
  (some (0 : Int32))
  else
  (some (st.1 (b + 1) k1)))))
  else
  ((D_X6_parentOf b x1 st).bind fun r2 =>
  if r2 = (-1 : Int32) then
  (if (st.1 (b + 1) k1) = (0 : Int32) then
  (if (0 : Int32) = (1 : Int32) then
  ((D_X6_allChildren b x1 (0 : Int32) st).bind fun r8 =>
  if r8 = (0 : Int32) then
  (some (st.1 (b + 1) k1))
  else
  (some (1 : Int32)))
  else
  (some (st.1 (b + 1) k1)))
  else
  (if (st.1 (b + 1) k1) = (1 : Int32) then
  (if (0 : Int32) = (1 : Int32) then
  ((D_X6_allChildren b x1 (2 : Int32) st).bind fun r7 =>
  if r7 = (0 : Int32) then
  (some (st.1 (b + 1) k1))
  else
  (some (2 : Int32)))
  else
  (some (0 : Int32)))
  else
  (if (0 : Int32) = (0 : Int32) then
  (some (0 : Int32))
  else
  (some (st.1 (b + 1) k1)))))
  else
  ((D_X6_parentOf b x1 st).bind fun r3 =>
  (D_X6_phaseOf b r3 st).bind fun r4 =>
  if (st.1 (b + 1) k1) = (0 : Int32) then
  (if r4 = (1 : Int32) then
  ((D_X6_allChildren b x1 (0 : Int32) st).bind fun r6 =>
  if r6 = (0 : Int32) then
  (some (st.1 (b + 1) k1))
  else
  (some (1 : Int32)))
  else
  (some (st.1 (b + 1) k1)))
  else
  (if (st.1 (b + 1) k1) = (1 : Int32) then
  (if r4 = (1 : Int32) then
  ((D_X6_allChildren b x1 (2 : Int32) st).bind fun r5 =>
  if r5 = (0 : Int32) then
  (some (st.1 (b + 1) k1))
  else
  (some (2 : Int32)))
  else
  (some (0 : Int32)))
  else
  (if r4 = (0 : Int32) then
  (some (0 : Int32))
  else
  (some (st.1 (b + 1) k1))))))

def D_X6_isTie (b : Nat) (x1 : Int32) (x2 : Int32) (st : sn_S) : Option (Int32) :=
  (D_X6_isChild b x1 x2 st).bind fun r1 =>
  if r1 = (0 : Int32) then
  (if x2 = (-1 : Int32) then
  (some (0 : Int32))
  else
  ((D_X6_parentOf b x1 st).bind fun r2 =>
  if r2 = x2 then
  (some (1 : Int32))
  else
  (some (0 : Int32))))
  else
  (some (1 : Int32))

def D_X6_xOf (b : Nat) (x1 : Int32) (x2 : Int32) (st : sn_S) : Option (Int32) :=
  (sn_ix (((72 : Int32) + ((12 : Int32) * x1)) + x2) 374).bind fun k1 =>
  (D_X6_k b st).bind fun r2 =>
  (D_X6_in (st.1 (b + 1) k1) (0 : Int32) (r2 - (1 : Int32))).bind fun r3 =>
  if r3 = (0 : Int32) then
  (some (0 : Int32))
  else
  (some (st.1 (b + 1) k1))

def D_X6_tieAhead_L8 (b : Nat) (x1 : Int32) (x2 : Int32) (st : sn_S) : Nat → Int32 → Int32 → Int32 → Option (Int32)
  | 0, _, _, _ => none
  | n + 1, x3, x4, x5 =>
  if (st.1 (b + 1) 360) ≤ x5 then
  (if x4 = (-1 : Int32) then
  (some x3)
  else
  (some x4))
  else
  ((D_X6_isTie b x1 x5 st).bind fun r1 =>
  if r1 = (0 : Int32) then
  (D_X6_tieAhead_L8 b x1 x2 st n x3 x4 (x5 + (1 : Int32)))
  else
  (if x2 ≤ x5 then
  (D_X6_tieAhead_L8 b x1 x2 st n x5 x4 (x5 + (1 : Int32)))
  else
  (D_X6_tieAhead_L8 b x1 x2 st n x5 x5 (x5 + (1 : Int32)))))
def D_X6_tieAhead (b : Nat) (x1 : Int32) (x2 : Int32) (st : sn_S) : Option (Int32) :=
  D_X6_tieAhead_L8 b x1 x2 st 4096 (-1 : Int32) (-1 : Int32) (0 : Int32)

def D_X6_firstTie_L2 (b : Nat) (x1 : Int32) (st : sn_S) : Nat → Int32 → Option (Int32)
  | 0, _ => none
  | n + 1, x2 =>
  if (st.1 (b + 1) 360) ≤ x2 then
  (some x2)
  else
  ((D_X6_isTie b x1 x2 st).bind fun r1 =>
  if r1 = (0 : Int32) then
  (D_X6_firstTie_L2 b x1 st n (x2 + (1 : Int32)))
  else
  (some x2))
def D_X6_firstTie (b : Nat) (x1 : Int32) (st : sn_S) : Option (Int32) :=
  D_X6_firstTie_L2 b x1 st 4096 (0 : Int32)

def D_X6_hasRight (b : Nat) (x1 : Int32) (x2 : Int32) (st : sn_S) : Option (Int32) :=
  (D_X6_xOf b x1 x2 st).bind fun r1 =>
  (D_X6_tieAhead b x1 x2 st).bind fun r2 =>
  (D_X6_xOf b r2 x1 st).bind fun r3 =>
  if r1 = r3 then
  (if x1 = (0 : Int32) then
  ((D_X6_firstTie b (0 : Int32) st).bind fun r5 =>
  if x2 = r5 then
  (some (1 : Int32))
  else
  (if (1 : Int32) = (0 : Int32) then
  (some (1 : Int32))
  else
  (some (0 : Int32))))
  else
  (if (1 : Int32) = (0 : Int32) then
  (some (1 : Int32))
  else
  (some (0 : Int32))))
  else
  (if x1 = (0 : Int32) then
  ((D_X6_firstTie b (0 : Int32) st).bind fun r4 =>
  if x2 = r4 then
  (some (0 : Int32))
  else
  (if (0 : Int32) = (0 : Int32) then
  (some (1 : Int32))
  else
  (some (0 : Int32))))
  else
  (if (0 : Int32) = (0 : Int32) then
  (some (1 : Int32))
  else
  (some (0 : Int32))))

def D_X6_firstRight_L2 (b : Nat) (x1 : Int32) (st : sn_S) : Nat → Int32 → Option (Int32)
  | 0, _ => none
  | n + 1, x2 =>
  if (st.1 (b + 1) 360) ≤ x2 then
  (some (-1 : Int32))
  else
  ((D_X6_isTie b x1 x2 st).bind fun r1 =>
  if r1 = (0 : Int32) then
  (D_X6_firstRight_L2 b x1 st n (x2 + (1 : Int32)))
  else
  ((D_X6_hasRight b x1 x2 st).bind fun r2 =>
  if r2 = (0 : Int32) then
  (D_X6_firstRight_L2 b x1 st n (x2 + (1 : Int32)))
  else
  (some x2)))
def D_X6_firstRight (b : Nat) (x1 : Int32) (st : sn_S) : Option (Int32) :=
  D_X6_firstRight_L2 b x1 st 4096 (0 : Int32)

def D_X6_ruleOf (b : Nat) (x1 : Int32) (st : sn_S) : Option (Int32) :=
  (D_X6_isSane b x1 st).bind fun r1 =>
  if r1 = (0 : Int32) then
  (some (0 : Int32))
  else
  ((sn_ix ((12 : Int32) + x1) 374).bind fun k2 =>
  (D_X6_treeDist b x1 st).bind fun r3 =>
  if (st.1 (b + 1) k2) = r3 then
  ((sn_ix ((24 : Int32) + x1) 374).bind fun k4 =>
  (D_X6_treeParent b x1 st).bind fun r5 =>
  if (st.1 (b + 1) k4) = r5 then
  ((D_X6_wavePhase b x1 st).bind fun r6 =>
  (sn_ix ((36 : Int32) + x1) 374).bind fun k7 =>
  if r6 = (st.1 (b + 1) k7) then
  ((D_X6_firstRight b x1 st).bind fun r8 =>
  if r8 = (-1 : Int32) then
  (some (-1 : Int32))
  else
  (some (3 : Int32)))
  else
  (some (2 : Int32)))
  else
  (some (1 : Int32)))
  else
  (some (1 : Int32)))

def D_X6_enabledAll_L4 (b : Nat) (st : sn_S) : Nat → Int32 → Int32 → Option (Int32)
  | 0, _, _ => none
  | n + 1, x1, x2 =>
  if (st.1 (b + 1) 360) ≤ x2 then
  (some x1)
  else
  (if (st.1 (b + 1) 361) = (1 : Int32) then
  ((D_X6_ruleOf b x2 st).bind fun r1 =>
  if r1 = (-1 : Int32) then
  (D_X6_enabledAll_L4 b st n (x1 ||| (0 : Int32)) (x2 + (1 : Int32)))
  else
  (D_X6_enabledAll_L4 b st n (x1 ||| ((1 : Int32) <<< (x2 &&& 31))) (x2 + (1 : Int32))))
  else
  (some x1))
def D_X6_enabledAll (b : Nat) (st : sn_S) : Option (Int32) :=
  D_X6_enabledAll_L4 b st 4096 (0 : Int32) (0 : Int32)

def D_X6_beginRound (b : Nat) (st : sn_S) : Option (sn_S) :=
  (D_X6_enabledAll b st).bind fun r1 =>
  some (sn_wr st (b + 1) 373 r1)

def D_X6_build_L79 (b : Nat) (x1 : Int32) : Nat → Int32 → sn_S → Option (Int32 × sn_S)
  | 0, _, _ => none
  | n + 1, x2, st =>
  if (144 : Int32) ≤ x2 then
  ((D_X6_beginRound b st).bind fun r2 =>
  (D_X6_links b r2).bind fun r3 =>
  some (r3, r2))
  else
  ((sn_ix ((72 : Int32) + x2) 374).bind fun k4 =>
  D_X6_build_L79 b x1 n (x2 + (1 : Int32)) (sn_wr st (b + 1) k4 (0 : Int32)))
def D_X6_build_L23 (b : Nat) (st : sn_S) : Nat → Int32 → Int32 → Option (Int32 × sn_S)
  | 0, _, _ => none
  | n + 1, x1, x2 =>
  if (st.1 (b + 1) 360) ≤ x2 then
  (if x1 = (0 : Int32) then
  (some ((-103 : Int32), st))
  else
  (D_X6_build_L79 b x1 4096 (0 : Int32) (sn_wr st (b + 1) 361 (1 : Int32))))
  else
  (if x1 = (0 : Int32) then
  (D_X6_build_L23 b st n (0 : Int32) (x2 + (1 : Int32)))
  else
  ((sn_ix x2 12).bind fun k5 =>
  if (st.1 (b + 4) k5) = (-1 : Int32) then
  (D_X6_build_L23 b st n (0 : Int32) (x2 + (1 : Int32)))
  else
  (D_X6_build_L23 b st n (1 : Int32) (x2 + (1 : Int32)))))
def D_X6_build (b : Nat) (st : sn_S) : Option (Int32 × sn_S) :=
  (D_X6_measure b st).bind fun r1 =>
  if (r1.1 (b + 1) 361) = (0 : Int32) then
  (D_X6_build_L23 b r1 4096 (1 : Int32) (0 : Int32))
  else
  (D_X6_build_L23 b r1 4096 (0 : Int32) (0 : Int32))

def D_X6_value (b : Nat) (x1 : Int32) (x2 : Int32) (st : sn_S) : Option (Int32 × sn_S) :=
  (D_X6_isNode b x1 st).bind fun r1 =>
  if r1 = (0 : Int32) then
  (some ((-101 : Int32), st))
  else
  ((sn_ix ((0 : Int32) + x1) 374).bind fun k2 =>
  (sn_ix ((0 : Int32) + x1) 374).bind fun k3 =>
  (D_X6_beginRound b (sn_wr st (b + 1) k3 x2)).bind fun r4 =>
  some ((st.1 (b + 1) k2), r4))

def D_X6_neighbourOf_L5 (b : Nat) (x1 : Int32) (x2 : Int32) (st : sn_S) : Nat → Int32 → Int32 → Option (Int32)
  | 0, _, _ => none
  | n + 1, x3, x4 =>
  if (st.1 (b + 1) 360) ≤ x4 then
  (some (-1 : Int32))
  else
  ((D_X6_isLink b x1 x4 st).bind fun r1 =>
  if r1 = (0 : Int32) then
  (D_X6_neighbourOf_L5 b x1 x2 st n x3 (x4 + (1 : Int32)))
  else
  (if x3 = x2 then
  (some x4)
  else
  (D_X6_neighbourOf_L5 b x1 x2 st n (x3 + (1 : Int32)) (x4 + (1 : Int32)))))
def D_X6_neighbourOf (b : Nat) (x1 : Int32) (x2 : Int32) (st : sn_S) : Option (Int32) :=
  D_X6_neighbourOf_L5 b x1 x2 st 4096 (0 : Int32) (0 : Int32)

def D_X6_placeOf (b : Nat) (x1 : Int32) (x2 : Int32) (st : sn_S) : Option (Int32) :=
  if x2 = (0 : Int32) then
  (some ((12 : Int32) + x1))
  else
  (if x2 = (1 : Int32) then
  (some ((24 : Int32) + x1))
  else
  (if x2 = (2 : Int32) then
  (some ((36 : Int32) + x1))
  else
  (if x2 = (3 : Int32) then
  (some ((48 : Int32) + x1))
  else
  (if x2 = (4 : Int32) then
  (some ((0 : Int32) + x1))
  else
  ((D_X6_neighbourOf b x1 (x2 - (5 : Int32)) st).bind fun r1 =>
  some (((72 : Int32) + ((12 : Int32) * x1)) + r1))))))

def D_X6_fault (b : Nat) (x1 : Int32) (x2 : Int32) (x3 : Int32) (st : sn_S) : Option (Int32 × sn_S) :=
  (D_X6_isNode b x1 st).bind fun r1 =>
  if r1 = (0 : Int32) then
  (some ((-101 : Int32), st))
  else
  ((D_X6_in x2 (0 : Int32) (3 : Int32)).bind fun r2 =>
  if r2 = (0 : Int32) then
  (if x2 ≤ (4 : Int32) then
  (some ((-102 : Int32), st))
  else
  (if (17 : Int32) ≤ x2 then
  (some ((-102 : Int32), st))
  else
  ((D_X6_neighbourOf b x1 (x2 - (5 : Int32)) st).bind fun r6 =>
  if r6 = (-1 : Int32) then
  (some ((-102 : Int32), st))
  else
  (if (st.1 (b + 1) 361) = (0 : Int32) then
  (some ((-103 : Int32), st))
  else
  ((D_X6_placeOf b x1 x2 st).bind fun r7 =>
  (sn_ix r7 374).bind fun k8 =>
  (D_X6_beginRound b (sn_wr st (b + 1) k8 x3)).bind fun r9 =>
  some ((1 : Int32), r9))))))
  else
  (if (st.1 (b + 1) 361) = (0 : Int32) then
  (some ((-103 : Int32), st))
  else
  ((D_X6_placeOf b x1 x2 st).bind fun r3 =>
  (sn_ix r3 374).bind fun k4 =>
  (D_X6_beginRound b (sn_wr st (b + 1) k4 x3)).bind fun r5 =>
  some ((1 : Int32), r5))))

def D_X6_told (b : Nat) (x1 : Int32) (x2 : Int32) (st : sn_S) : Option (Int32 × sn_S) :=
  (D_X6_isNode b x1 st).bind fun r1 =>
  if r1 = (0 : Int32) then
  (some ((-101 : Int32), st))
  else
  ((D_X6_in x2 (0 : Int32) (4 : Int32)).bind fun r2 =>
  if r2 = (0 : Int32) then
  (if x2 ≤ (4 : Int32) then
  (some ((-102 : Int32), st))
  else
  (if (17 : Int32) ≤ x2 then
  (some ((-102 : Int32), st))
  else
  ((D_X6_neighbourOf b x1 (x2 - (5 : Int32)) st).bind fun r7 =>
  if r7 = (-1 : Int32) then
  (some ((-102 : Int32), st))
  else
  (if x2 ≤ (4 : Int32) then
  ((D_X6_placeOf b x1 x2 st).bind fun r8 =>
  (sn_ix r8 374).bind fun k9 =>
  some ((1 : Int32), (sn_wr st (b + 1) 371 (st.1 (b + 1) k9))))
  else
  (if (st.1 (b + 1) 361) = (0 : Int32) then
  (some ((-103 : Int32), st))
  else
  ((D_X6_placeOf b x1 x2 st).bind fun r10 =>
  (sn_ix r10 374).bind fun k11 =>
  some ((1 : Int32), (sn_wr st (b + 1) 371 (st.1 (b + 1) k11)))))))))
  else
  (if x2 ≤ (4 : Int32) then
  ((D_X6_placeOf b x1 x2 st).bind fun r3 =>
  (sn_ix r3 374).bind fun k4 =>
  some ((1 : Int32), (sn_wr st (b + 1) 371 (st.1 (b + 1) k4))))
  else
  (if (st.1 (b + 1) 361) = (0 : Int32) then
  (some ((-103 : Int32), st))
  else
  ((D_X6_placeOf b x1 x2 st).bind fun r5 =>
  (sn_ix r5 374).bind fun k6 =>
  some ((1 : Int32), (sn_wr st (b + 1) 371 (st.1 (b + 1) k6)))))))

def D_X6_seen (b : Nat) (st : sn_S) : Option (Int32) :=
  some (st.1 (b + 1) 371)

def D_X6_neighbour (b : Nat) (x1 : Int32) (x2 : Int32) (st : sn_S) : Option (Int32) :=
  (D_X6_isNode b x1 st).bind fun r1 =>
  if r1 = (0 : Int32) then
  (some (-101 : Int32))
  else
  ((D_X6_neighbourOf b x1 x2 st).bind fun r2 =>
  some r2)

def D_X6_child_L16 (b : Nat) (x1 : Int32) (x2 : Int32) (st : sn_S) : Nat → Int32 → Int32 → Option (Int32)
  | 0, _, _ => none
  | n + 1, x3, x4 =>
  if (st.1 (b + 1) 360) ≤ x4 then
  (some (-1 : Int32))
  else
  ((D_X6_isChild b x1 x4 st).bind fun r2 =>
  if r2 = (0 : Int32) then
  (D_X6_child_L16 b x1 x2 st n x3 (x4 + (1 : Int32)))
  else
  (if x3 = x2 then
  (some x4)
  else
  (D_X6_child_L16 b x1 x2 st n (x3 + (1 : Int32)) (x4 + (1 : Int32)))))
def D_X6_child (b : Nat) (x1 : Int32) (x2 : Int32) (st : sn_S) : Option (Int32) :=
  (D_X6_isNode b x1 st).bind fun r1 =>
  if r1 = (0 : Int32) then
  (some (-101 : Int32))
  else
  (D_X6_child_L16 b x1 x2 st 4096 (0 : Int32) (0 : Int32))

def D_X6_enabled (b : Nat) (x1 : Int32) (st : sn_S) : Option (Int32) :=
  (D_X6_isNode b x1 st).bind fun r1 =>
  if r1 = (0 : Int32) then
  (some (-101 : Int32))
  else
  (if (st.1 (b + 1) 361) = (1 : Int32) then
  ((D_X6_ruleOf b x1 st).bind fun r2 =>
  some r2)
  else
  (some (-103 : Int32)))

def D_X6_rights_L30 (b : Nat) (x2 : Int32) (st : sn_S) (K : Int32 → Int32 → Option (Int32)) : Nat → Int32 → Int32 → Option (Int32)
  | 0, _, _ => none
  | n + 1, x1, x3 =>
  if (st.1 (b + 1) 360) ≤ x3 then
  (K x1 (x2 + (1 : Int32)))
  else
  ((D_X6_isTie b x2 x3 st).bind fun r1 =>
  if r1 = (0 : Int32) then
  (D_X6_rights_L30 b x2 st K n (x1 + (0 : Int32)) (x3 + (1 : Int32)))
  else
  ((D_X6_hasRight b x2 x3 st).bind fun r2 =>
  if r2 = (0 : Int32) then
  (D_X6_rights_L30 b x2 st K n (x1 + (0 : Int32)) (x3 + (1 : Int32)))
  else
  (D_X6_rights_L30 b x2 st K n (x1 + (1 : Int32)) (x3 + (1 : Int32)))))
def D_X6_rights_L4 (b : Nat) (st : sn_S) : Nat → Int32 → Int32 → Option (Int32)
  | 0, _, _ => none
  | n + 1, x1, x2 =>
  if (st.1 (b + 1) 360) ≤ x2 then
  (some x1)
  else
  (if (st.1 (b + 1) 361) = (1 : Int32) then
  (D_X6_rights_L30 b x2 st (fun y1 y2 => D_X6_rights_L4 b st n y1 y2) 4096 x1 (0 : Int32))
  else
  (some x1))
def D_X6_rights (b : Nat) (st : sn_S) : Option (Int32) :=
  D_X6_rights_L4 b st 4096 (0 : Int32) (0 : Int32)

def D_X6_holder_L31 (b : Nat) (x1 : Int32) (x3 : Int32) (st : sn_S) (K : Int32 → Int32 → Option (Int32)) : Nat → Int32 → Int32 → Option (Int32)
  | 0, _, _ => none
  | n + 1, x2, x4 =>
  if (st.1 (b + 1) 360) ≤ x4 then
  (K x2 (x3 + (1 : Int32)))
  else
  ((D_X6_isTie b x3 x4 st).bind fun r1 =>
  if r1 = (0 : Int32) then
  (D_X6_holder_L31 b x1 x3 st K n x2 (x4 + (1 : Int32)))
  else
  ((D_X6_hasRight b x3 x4 st).bind fun r2 =>
  if r2 = (0 : Int32) then
  (D_X6_holder_L31 b x1 x3 st K n x2 (x4 + (1 : Int32)))
  else
  (if x2 = x1 then
  (some x3)
  else
  (D_X6_holder_L31 b x1 x3 st K n (x2 + (1 : Int32)) (x4 + (1 : Int32))))))
def D_X6_holder_L4 (b : Nat) (x1 : Int32) (st : sn_S) : Nat → Int32 → Int32 → Option (Int32)
  | 0, _, _ => none
  | n + 1, x2, x3 =>
  if (st.1 (b + 1) 360) ≤ x3 then
  (some (-1 : Int32))
  else
  (if (st.1 (b + 1) 361) = (1 : Int32) then
  (D_X6_holder_L31 b x1 x3 st (fun y2 y3 => D_X6_holder_L4 b x1 st n y2 y3) 4096 x2 (0 : Int32))
  else
  (some (-1 : Int32)))
def D_X6_holder (b : Nat) (x1 : Int32) (st : sn_S) : Option (Int32) :=
  D_X6_holder_L4 b x1 st 4096 (0 : Int32) (0 : Int32)

def D_X6_next_L68 (b : Nat) (x1 : Int32) (x2 : Int32) (st : sn_S) : Nat → Int32 → Int32 → Option (Int32)
  | 0, _, _ => none
  | n + 1, x3, x4 =>
  if x4 ≤ x1 then
  (if x3 = (-1 : Int32) then
  ((D_X6_firstTie b x2 st).bind fun r5 =>
  some r5)
  else
  (some x3))
  else
  ((D_X6_isTie b x2 x4 st).bind fun r6 =>
  if r6 = (0 : Int32) then
  (D_X6_next_L68 b x1 x2 st n x3 (x4 + (-1 : Int32)))
  else
  (D_X6_next_L68 b x1 x2 st n x4 (x4 + (-1 : Int32))))
def D_X6_next (b : Nat) (x1 : Int32) (x2 : Int32) (st : sn_S) : Option (Int32) :=
  (D_X6_isNode b x1 st).bind fun r1 =>
  if r1 = (0 : Int32) then
  (some (-101 : Int32))
  else
  ((D_X6_isNode b x2 st).bind fun r2 =>
  if r2 = (0 : Int32) then
  (some (-101 : Int32))
  else
  ((D_X6_isTie b x1 x2 st).bind fun r3 =>
  if r3 = (0 : Int32) then
  (some (-102 : Int32))
  else
  ((D_X6_isTie b x2 x1 st).bind fun r4 =>
  if r4 = (0 : Int32) then
  (some (-102 : Int32))
  else
  (if (st.1 (b + 1) 361) = (0 : Int32) then
  (some (-103 : Int32))
  else
  (D_X6_next_L68 b x1 x2 st 4096 (-1 : Int32) ((st.1 (b + 1) 360) - (1 : Int32)))))))

def D_X6_act_L195 (b : Nat) (x1 : Int32) (x2 : Int32) (x3 : Int32) (x4 : Int32) (st : sn_S) : Nat → Int32 → Int32 → Option (sn_S)
  | 0, _, _ => none
  | n + 1, x5, x6 =>
  if (st.1 (b + 1) 360) ≤ x6 then
  ((sn_ix ((48 : Int32) + x1) 374).bind fun k28 =>
  if x1 = (0 : Int32) then
  ((sn_ix ((364 : Int32) + x2) 374).bind fun k31 =>
  (sn_ix ((364 : Int32) + x2) 374).bind fun k32 =>
  some (sn_wr (sn_wr (sn_wr (sn_wr st (b + 3) k28 x5) (b + 3) 368 (((sn_wr st (b + 3) k28 x5).1 (b + 3) 368) + (1 : Int32))) (b + 3) 369 x5) (b + 3) k32 (((sn_wr (sn_wr (sn_wr st (b + 3) k28 x5) (b + 3) 368 (((sn_wr st (b + 3) k28 x5).1 (b + 3) 368) + (1 : Int32))) (b + 3) 369 x5).1 (b + 3) k31) + (1 : Int32))))
  else
  ((sn_ix ((364 : Int32) + x2) 374).bind fun k29 =>
  (sn_ix ((364 : Int32) + x2) 374).bind fun k30 =>
  some (sn_wr (sn_wr st (b + 3) k28 x5) (b + 3) k30 (((sn_wr st (b + 3) k28 x5).1 (b + 3) k29) + (1 : Int32)))))
  else
  ((D_X6_isChild b x1 x6 st).bind fun r33 =>
  if r33 = (0 : Int32) then
  (D_X6_act_L195 b x1 x2 x3 x4 st n (x5 + (0 : Int32)) (x6 + (1 : Int32)))
  else
  ((sn_ix ((48 : Int32) + x6) 374).bind fun k34 =>
  D_X6_act_L195 b x1 x2 x3 x4 st n (x5 + (st.1 (b + 1) k34)) (x6 + (1 : Int32))))
def D_X6_act_L48 (b : Nat) (x1 : Int32) (x2 : Int32) : Nat → Int32 → sn_S → Option (sn_S)
  | 0, _, _ => none
  | n + 1, x3, st =>
  if (st.1 (b + 1) 360) ≤ x3 then
  ((sn_ix ((364 : Int32) + x2) 374).bind fun k50 =>
  (sn_ix ((364 : Int32) + x2) 374).bind fun k51 =>
  some (sn_wr st (b + 3) k51 ((st.1 (b + 3) k50) + (1 : Int32))))
  else
  ((D_X6_isLink b x1 x3 st).bind fun r52 =>
  if r52 = (0 : Int32) then
  (D_X6_act_L48 b x1 x2 n (x3 + (1 : Int32)) st)
  else
  ((D_X6_xOf b x1 x3 st).bind fun r53 =>
  (sn_ix (((72 : Int32) + ((12 : Int32) * x1)) + x3) 374).bind fun k54 =>
  D_X6_act_L48 b x1 x2 n (x3 + (1 : Int32)) (sn_wr st (b + 3) k54 r53)))
def D_X6_act (b : Nat) (x1 : Int32) (x2 : Int32) (st : sn_S) : Option (sn_S) :=
  if x2 = (0 : Int32) then
  ((D_X6_distOf b x1 st).bind fun r44 =>
  (sn_ix ((12 : Int32) + x1) 374).bind fun k45 =>
  (D_X6_parentOf b x1 (sn_wr st (b + 3) k45 r44)).bind fun r46 =>
  (sn_ix ((24 : Int32) + x1) 374).bind fun k47 =>
  (D_X6_phaseOf b x1 (sn_wr (sn_wr st (b + 3) k45 r44) (b + 3) k47 r46)).bind fun r48 =>
  (sn_ix ((36 : Int32) + x1) 374).bind fun k49 =>
  D_X6_act_L48 b x1 x2 4096 (0 : Int32) (sn_wr (sn_wr (sn_wr st (b + 3) k45 r44) (b + 3) k47 r46) (b + 3) k49 r48))
  else
  (if x2 = (1 : Int32) then
  ((D_X6_treeDist b x1 st).bind fun r38 =>
  (sn_ix ((12 : Int32) + x1) 374).bind fun k39 =>
  (D_X6_treeParent b x1 (sn_wr st (b + 3) k39 r38)).bind fun r40 =>
  (sn_ix ((24 : Int32) + x1) 374).bind fun k41 =>
  (sn_ix ((364 : Int32) + x2) 374).bind fun k42 =>
  (sn_ix ((364 : Int32) + x2) 374).bind fun k43 =>
  some (sn_wr (sn_wr (sn_wr st (b + 3) k39 r38) (b + 3) k41 r40) (b + 3) k43 (((sn_wr (sn_wr st (b + 3) k39 r38) (b + 3) k41 r40).1 (b + 3) k42) + (1 : Int32))))
  else
  (if x2 = (2 : Int32) then
  ((sn_ix ((36 : Int32) + x1) 374).bind fun k22 =>
  (D_X6_wavePhase b x1 st).bind fun r23 =>
  (sn_ix ((36 : Int32) + x1) 374).bind fun k24 =>
  if (st.1 (b + 1) k22) = (1 : Int32) then
  (if x1 = (0 : Int32) then
  ((sn_ix ((0 : Int32) + x1) 374).bind fun k27 =>
  D_X6_act_L195 b x1 x2 (st.1 (b + 1) k22) r23 (sn_wr st (b + 3) k24 r23) 4096 ((sn_wr st (b + 3) k24 r23).1 (b + 1) k27) (0 : Int32))
  else
  (if r23 = (2 : Int32) then
  ((sn_ix ((0 : Int32) + x1) 374).bind fun k37 =>
  D_X6_act_L195 b x1 x2 (st.1 (b + 1) k22) r23 (sn_wr st (b + 3) k24 r23) 4096 ((sn_wr st (b + 3) k24 r23).1 (b + 1) k37) (0 : Int32))
  else
  ((sn_ix ((364 : Int32) + x2) 374).bind fun k35 =>
  (sn_ix ((364 : Int32) + x2) 374).bind fun k36 =>
  some (sn_wr (sn_wr st (b + 3) k24 r23) (b + 3) k36 (((sn_wr st (b + 3) k24 r23).1 (b + 3) k35) + (1 : Int32))))))
  else
  ((sn_ix ((364 : Int32) + x2) 374).bind fun k25 =>
  (sn_ix ((364 : Int32) + x2) 374).bind fun k26 =>
  some (sn_wr (sn_wr st (b + 3) k24 r23) (b + 3) k26 (((sn_wr st (b + 3) k24 r23).1 (b + 3) k25) + (1 : Int32)))))
  else
  ((D_X6_firstRight b x1 st).bind fun r1 =>
  (D_X6_tieAhead b x1 r1 st).bind fun r2 =>
  (D_X6_xOf b r2 x1 st).bind fun r3 =>
  if x1 = (0 : Int32) then
  ((D_X6_firstTie b (0 : Int32) st).bind fun r9 =>
  if r1 = r9 then
  ((D_X6_k b st).bind fun r15 =>
  if r15 = 0 then none else
  (sn_ix (((72 : Int32) + ((12 : Int32) * x1)) + r1) 374).bind fun k17 =>
  (sn_ix ((60 : Int32) + x1) 374).bind fun k18 =>
  (sn_ix ((60 : Int32) + x1) 374).bind fun k19 =>
  (sn_ix ((364 : Int32) + x2) 374).bind fun k20 =>
  (sn_ix ((364 : Int32) + x2) 374).bind fun k21 =>
  some (sn_wr (sn_wr (sn_wr st (b + 3) k17 ((r3 + (1 : Int32)) - (r3 + (1 : Int32)) / r15 * r15)) (b + 3) k19 (((sn_wr st (b + 3) k17 ((r3 + (1 : Int32)) - (r3 + (1 : Int32)) / r15 * r15)).1 (b + 3) k18) + (1 : Int32))) (b + 3) k21 (((sn_wr (sn_wr st (b + 3) k17 ((r3 + (1 : Int32)) - (r3 + (1 : Int32)) / r15 * r15)) (b + 3) k19 (((sn_wr st (b + 3) k17 ((r3 + (1 : Int32)) - (r3 + (1 : Int32)) / r15 * r15)).1 (b + 3) k18) + (1 : Int32))).1 (b + 3) k20) + (1 : Int32))))
  else
  ((sn_ix (((72 : Int32) + ((12 : Int32) * x1)) + r1) 374).bind fun k10 =>
  (sn_ix ((60 : Int32) + x1) 374).bind fun k11 =>
  (sn_ix ((60 : Int32) + x1) 374).bind fun k12 =>
  (sn_ix ((364 : Int32) + x2) 374).bind fun k13 =>
  (sn_ix ((364 : Int32) + x2) 374).bind fun k14 =>
  some (sn_wr (sn_wr (sn_wr st (b + 3) k10 r3) (b + 3) k12 (((sn_wr st (b + 3) k10 r3).1 (b + 3) k11) + (1 : Int32))) (b + 3) k14 (((sn_wr (sn_wr st (b + 3) k10 r3) (b + 3) k12 (((sn_wr st (b + 3) k10 r3).1 (b + 3) k11) + (1 : Int32))).1 (b + 3) k13) + (1 : Int32)))))
  else
  ((sn_ix (((72 : Int32) + ((12 : Int32) * x1)) + r1) 374).bind fun k4 =>
  (sn_ix ((60 : Int32) + x1) 374).bind fun k5 =>
  (sn_ix ((60 : Int32) + x1) 374).bind fun k6 =>
  (sn_ix ((364 : Int32) + x2) 374).bind fun k7 =>
  (sn_ix ((364 : Int32) + x2) 374).bind fun k8 =>
  some (sn_wr (sn_wr (sn_wr st (b + 3) k4 r3) (b + 3) k6 (((sn_wr st (b + 3) k4 r3).1 (b + 3) k5) + (1 : Int32))) (b + 3) k8 (((sn_wr (sn_wr st (b + 3) k4 r3) (b + 3) k6 (((sn_wr st (b + 3) k4 r3).1 (b + 3) k5) + (1 : Int32))).1 (b + 3) k7) + (1 : Int32)))))))

def D_X6_acts (b : Nat) (x1 : Int32) (x2 : Int32) (st : sn_S) : Option (sn_S) :=
  (D_X6_act b x1 x2 st).bind fun r1 =>
  if x2 = (2 : Int32) then
  ((D_X6_firstRight b x1 r1).bind fun r2 =>
  if r2 = (-1 : Int32) then
  (some r1)
  else
  ((D_X6_act b x1 (3 : Int32) r1).bind fun r3 =>
  some r3))
  else
  (some r1)

def D_X6_doStep_L108 (b : Nat) (x1 : Int32) (x2 : Int32) (x3 : Int32) : Nat → Int32 → sn_S → Option (Int32 × sn_S)
  | 0, _, _ => none
  | n + 1, x4, st =>
  if (374 : Int32) ≤ x4 then
  ((D_X6_enabledAll b (sn_wr st (b + 1) 362 ((st.1 (b + 1) 362) + (1 : Int32)))).bind fun r1 =>
  if ((((sn_wr st (b + 1) 362 ((st.1 (b + 1) 362) + (1 : Int32))).1 (b + 1) 373) &&& (x3 ^^^ (-1 : Int32))) &&& r1) = (0 : Int32) then
  ((D_X6_beginRound b (sn_wr (sn_wr (sn_wr st (b + 1) 362 ((st.1 (b + 1) 362) + (1 : Int32))) (b + 1) 373 ((((sn_wr st (b + 1) 362 ((st.1 (b + 1) 362) + (1 : Int32))).1 (b + 1) 373) &&& (x3 ^^^ (-1 : Int32))) &&& r1)) (b + 1) 363 (((sn_wr (sn_wr st (b + 1) 362 ((st.1 (b + 1) 362) + (1 : Int32))) (b + 1) 373 ((((sn_wr st (b + 1) 362 ((st.1 (b + 1) 362) + (1 : Int32))).1 (b + 1) 373) &&& (x3 ^^^ (-1 : Int32))) &&& r1)).1 (b + 1) 363) + (1 : Int32)))).bind fun r2 =>
  some (x2, r2))
  else
  (some (x2, (sn_wr (sn_wr st (b + 1) 362 ((st.1 (b + 1) 362) + (1 : Int32))) (b + 1) 373 ((((sn_wr st (b + 1) 362 ((st.1 (b + 1) 362) + (1 : Int32))).1 (b + 1) 373) &&& (x3 ^^^ (-1 : Int32))) &&& r1)))))
  else
  ((sn_ix x4 374).bind fun k3 =>
  (sn_ix x4 374).bind fun k4 =>
  D_X6_doStep_L108 b x1 x2 x3 n (x4 + (1 : Int32)) (sn_wr st (b + 1) k4 (st.1 (b + 3) k3)))
def D_X6_doStep_L34 (b : Nat) (x1 : Int32) : Nat → Int32 → Int32 → Int32 → sn_S → Option (Int32 × sn_S)
  | 0, _, _, _, _ => none
  | n + 1, x2, x3, x4, st =>
  if (st.1 (b + 1) 360) ≤ x4 then
  (if x2 = (0 : Int32) then
  (some ((0 : Int32), st))
  else
  (D_X6_doStep_L108 b x1 x2 x3 4096 (0 : Int32) st))
  else
  (if ((x1 >>> (x4 &&& 31)) &&& (1 : Int32)) = (1 : Int32) then
  ((D_X6_ruleOf b x4 st).bind fun r6 =>
  if r6 = (-1 : Int32) then
  (D_X6_doStep_L34 b x1 n x2 x3 (x4 + (1 : Int32)) st)
  else
  ((D_X6_acts b x4 r6 st).bind fun r7 =>
  D_X6_doStep_L34 b x1 n (x2 + (1 : Int32)) (x3 ||| ((1 : Int32) <<< (x4 &&& 31))) (x4 + (1 : Int32)) r7))
  else
  (if (-1 : Int32) = (-1 : Int32) then
  (D_X6_doStep_L34 b x1 n x2 x3 (x4 + (1 : Int32)) st)
  else
  ((D_X6_acts b x4 (-1 : Int32) st).bind fun r5 =>
  D_X6_doStep_L34 b x1 n (x2 + (1 : Int32)) (x3 ||| ((1 : Int32) <<< (x4 &&& 31))) (x4 + (1 : Int32)) r5)))
def D_X6_doStep_L2 (b : Nat) (x1 : Int32) : Nat → Int32 → sn_S → Option (Int32 × sn_S)
  | 0, _, _ => none
  | n + 1, x2, st =>
  if (374 : Int32) ≤ x2 then
  (D_X6_doStep_L34 b x1 4096 (0 : Int32) (0 : Int32) (0 : Int32) st)
  else
  ((sn_ix x2 374).bind fun k8 =>
  (sn_ix x2 374).bind fun k9 =>
  D_X6_doStep_L2 b x1 n (x2 + (1 : Int32)) (sn_wr st (b + 3) k9 (st.1 (b + 1) k8)))
def D_X6_doStep (b : Nat) (x1 : Int32) (st : sn_S) : Option (Int32 × sn_S) :=
  D_X6_doStep_L2 b x1 4096 (0 : Int32) st

def D_X6_step (b : Nat) (x1 : Int32) (st : sn_S) : Option (Int32 × sn_S) :=
  if (st.1 (b + 1) 361) = (1 : Int32) then
  ((D_X6_doStep b x1 st).bind fun r1 =>
  some (r1.1, r1.2))
  else
  (some ((-103 : Int32), st))

def D_X6_least (b : Nat) (st : sn_S) : Option (Int32) :=
  (D_X6_enabledAll b st).bind fun r1 =>
  some (r1 &&& (-r1))

def D_X6_greatest_L9 (b : Nat) (x1 : Int32) (st : sn_S) : Nat → Int32 → Int32 → Option (Int32)
  | 0, _, _ => none
  | n + 1, x2, x3 =>
  if (12 : Int32) ≤ x3 then
  (some x2)
  else
  (if ((x1 >>> (x3 &&& 31)) &&& (1 : Int32)) = (1 : Int32) then
  (D_X6_greatest_L9 b x1 st n ((1 : Int32) <<< (x3 &&& 31)) (x3 + (1 : Int32)))
  else
  (D_X6_greatest_L9 b x1 st n x2 (x3 + (1 : Int32))))
def D_X6_greatest (b : Nat) (st : sn_S) : Option (Int32) :=
  (D_X6_enabledAll b st).bind fun r1 =>
  D_X6_greatest_L9 b r1 st 4096 (0 : Int32) (0 : Int32)

def D_X6_stepBy (b : Nat) (x1 : Int32) (st : sn_S) : Option (Int32 × sn_S) :=
  if x1 = (0 : Int32) then
  ((D_X6_doStep b (4095 : Int32) st).bind fun r8 =>
  some (r8.1, r8.2))
  else
  (if x1 = (1 : Int32) then
  ((D_X6_least b st).bind fun r6 =>
  (D_X6_doStep b r6 st).bind fun r7 =>
  some (r7.1, r7.2))
  else
  (if x1 = (2 : Int32) then
  ((D_X6_greatest b st).bind fun r4 =>
  (D_X6_doStep b r4 st).bind fun r5 =>
  some (r5.1, r5.2))
  else
  (if x1 = (3 : Int32) then
  (if ((st.1 (b + 1) 372) + (1 : Int32)) = (st.1 (b + 1) 360) then
  ((D_X6_doStep b ((1 : Int32) <<< ((st.1 (b + 1) 372) &&& 31)) (sn_wr st (b + 1) 372 (0 : Int32))).bind fun r3 =>
  some (r3.1, r3.2))
  else
  ((D_X6_doStep b ((1 : Int32) <<< ((st.1 (b + 1) 372) &&& 31)) (sn_wr st (b + 1) 372 ((st.1 (b + 1) 372) + (1 : Int32)))).bind fun r2 =>
  some (r2.1, r2.2)))
  else
  ((D_X6_doStep b ((((sn_wr st (b + 1) 370 (((1103515245 : Int32) * (st.1 (b + 1) 370)) + (12345 : Int32))).1 (b + 1) 370) >>> ((8 : Int32) &&& 31)) &&& (4095 : Int32)) (sn_wr st (b + 1) 370 (((1103515245 : Int32) * (st.1 (b + 1) 370)) + (12345 : Int32)))).bind fun r1 =>
  some (r1.1, r1.2)))))

def D_X6_run_L42 (b : Nat) (x1 : Int32) (x2 : Int32) : Nat → Int32 → Int32 → sn_S → Option (Int32 × sn_S)
  | 0, _, _, _ => none
  | n + 1, x3, x4, st =>
  if x2 ≤ x4 then
  (some (x3, st))
  else
  ((D_X6_stepBy b x1 st).bind fun r3 =>
  D_X6_run_L42 b x1 x2 n (x3 + r3.1) (x4 + (1 : Int32)) r3.2)
def D_X6_run (b : Nat) (x1 : Int32) (x2 : Int32) (st : sn_S) : Option (Int32 × sn_S) :=
  (D_X6_in x1 (0 : Int32) (4 : Int32)).bind fun r1 =>
  if r1 = (0 : Int32) then
  (some ((-102 : Int32), st))
  else
  ((D_X6_in x2 (0 : Int32) (300 : Int32)).bind fun r2 =>
  if r2 = (0 : Int32) then
  (some ((-102 : Int32), st))
  else
  (if (st.1 (b + 1) 361) = (0 : Int32) then
  (some ((-103 : Int32), st))
  else
  (D_X6_run_L42 b x1 x2 4096 (0 : Int32) (0 : Int32) st)))

def D_X6_dice (b : Nat) (x1 : Int32) (st : sn_S) : Option (Int32 × sn_S) :=
  some ((st.1 (b + 1) 370), (sn_wr st (b + 1) 370 x1))

def D_X6_isRest_L47 (b : Nat) (x1 : Int32) (x2 : Int32) (st : sn_S) (K : Int32 → Int32 → Option (Int32 × sn_S)) : Nat → Int32 → Int32 → Option (Int32 × sn_S)
  | 0, _, _ => none
  | n + 1, x3, x4 =>
  if x4 < (0 : Int32) then
  (if x1 = (0 : Int32) then
  (K (0 : Int32) (x2 + (1 : Int32)))
  else
  ((D_X6_isSane b x2 st).bind fun r3 =>
  if r3 = (0 : Int32) then
  (K (0 : Int32) (x2 + (1 : Int32)))
  else
  ((sn_ix ((12 : Int32) + x2) 374).bind fun k4 =>
  (sn_ix x2 12).bind fun k5 =>
  if (st.1 (b + 1) k4) = (st.1 (b + 4) k5) then
  ((sn_ix ((24 : Int32) + x2) 374).bind fun k6 =>
  if (st.1 (b + 1) k6) = x3 then
  (K (1 : Int32) (x2 + (1 : Int32)))
  else
  (K (0 : Int32) (x2 + (1 : Int32))))
  else
  (K (0 : Int32) (x2 + (1 : Int32))))))
  else
  ((D_X6_isLink b x2 x4 st).bind fun r7 =>
  if r7 = (0 : Int32) then
  (D_X6_isRest_L47 b x1 x2 st K n x3 (x4 + (-1 : Int32)))
  else
  ((sn_ix x4 12).bind fun k8 =>
  (sn_ix x2 12).bind fun k9 =>
  if (st.1 (b + 4) k9) ≤ (st.1 (b + 4) k8) then
  (D_X6_isRest_L47 b x1 x2 st K n x3 (x4 + (-1 : Int32)))
  else
  (D_X6_isRest_L47 b x1 x2 st K n x4 (x4 + (-1 : Int32)))))
def D_X6_isRest_L21 (b : Nat) (st : sn_S) : Nat → Int32 → Int32 → Option (Int32 × sn_S)
  | 0, _, _ => none
  | n + 1, x1, x2 =>
  if (st.1 (b + 1) 360) ≤ x2 then
  (if x1 = (0 : Int32) then
  (some ((0 : Int32), st))
  else
  ((D_X6_rights b st).bind fun r2 =>
  if r2 = (1 : Int32) then
  (some ((1 : Int32), st))
  else
  (some ((0 : Int32), st))))
  else
  (D_X6_isRest_L47 b x1 x2 st (fun y1 y2 => D_X6_isRest_L21 b st n y1 y2) 4096 (-1 : Int32) ((st.1 (b + 1) 360) - (1 : Int32)))
def D_X6_isRest (b : Nat) (st : sn_S) : Option (Int32 × sn_S) :=
  if (st.1 (b + 1) 361) = (0 : Int32) then
  (some ((0 : Int32), st))
  else
  ((D_X6_measure b st).bind fun r1 =>
  D_X6_isRest_L21 b r1 4096 (1 : Int32) (0 : Int32))

def D_X6_settle_L45 (b : Nat) (x1 : Int32) (x2 : Int32) : Nat → Int32 → Int32 → sn_S → Option (Int32 × sn_S)
  | 0, _, _, _ => none
  | n + 1, x3, x4, st =>
  if x4 = (0 : Int32) then
  (if x2 ≤ x3 then
  (if x4 = (0 : Int32) then
  (some (((-1 : Int32) - x2), st))
  else
  (some (x3, st)))
  else
  ((D_X6_stepBy b x1 st).bind fun r4 =>
  if r4.1 ≤ (0 : Int32) then
  (D_X6_settle_L45 b x1 x2 n (x3 + (1 : Int32)) (0 : Int32) r4.2)
  else
  ((D_X6_isRest b r4.2).bind fun r5 =>
  if r5.1 = (0 : Int32) then
  (D_X6_settle_L45 b x1 x2 n (x3 + (1 : Int32)) (0 : Int32) r5.2)
  else
  (D_X6_settle_L45 b x1 x2 n (x3 + (1 : Int32)) (1 : Int32) r5.2))))
  else
  (if x4 = (0 : Int32) then
  (some (((-1 : Int32) - x2), st))
  else
  (some (x3, st)))
def D_X6_settle (b : Nat) (x1 : Int32) (x2 : Int32) (st : sn_S) : Option (Int32 × sn_S) :=
  (D_X6_in x1 (0 : Int32) (4 : Int32)).bind fun r1 =>
  if r1 = (0 : Int32) then
  (some ((-102 : Int32), st))
  else
  ((D_X6_in x2 (0 : Int32) (2000 : Int32)).bind fun r2 =>
  if r2 = (0 : Int32) then
  (some ((-102 : Int32), st))
  else
  (if (st.1 (b + 1) 361) = (0 : Int32) then
  (some ((-103 : Int32), st))
  else
  ((D_X6_isRest b st).bind fun r3 =>
  D_X6_settle_L45 b x1 x2 4096 (0 : Int32) r3.1 r3.2)))

def D_X6_rest (b : Nat) (st : sn_S) : Option (Int32 × sn_S) :=
  (D_X6_isRest b st).bind fun r1 =>
  if r1.1 = (0 : Int32) then
  (some ((0 : Int32), r1.2))
  else
  (some ((1 : Int32), r1.2))

def D_X6_distance (b : Nat) (x1 : Int32) (st : sn_S) : Option (Int32 × sn_S) :=
  (D_X6_isNode b x1 st).bind fun r1 =>
  if r1 = (0 : Int32) then
  (some ((-101 : Int32), st))
  else
  ((D_X6_measure b st).bind fun r2 =>
  (sn_ix x1 12).bind fun k3 =>
  some ((r2.1 (b + 4) k3), r2))

def D_X6_wave (b : Nat) (st : sn_S) : Option (Int32 × sn_S) :=
  some (((sn_wr st (b + 1) 371 (st.1 (b + 1) 369)).1 (b + 1) 368), (sn_wr st (b + 1) 371 (st.1 (b + 1) 369)))

def D_X6_entries (b : Nat) (x1 : Int32) (st : sn_S) : Option (Int32) :=
  (D_X6_isNode b x1 st).bind fun r1 =>
  if r1 = (0 : Int32) then
  (some (-101 : Int32))
  else
  ((sn_ix ((60 : Int32) + x1) 374).bind fun k2 =>
  some (st.1 (b + 1) k2))

def D_X6_count (b : Nat) (x1 : Int32) (st : sn_S) : Option (Int32) :=
  if x1 = (0 : Int32) then
  (some (st.1 (b + 1) 360))
  else if x1 = (1 : Int32) then
  ((D_X6_links b st).bind fun r1 =>
  some r1)
  else if x1 = (2 : Int32) then
  (some (st.1 (b + 1) 362))
  else if x1 = (3 : Int32) then
  (some (st.1 (b + 1) 363))
  else if x1 = (4 : Int32) then
  (some (st.1 (b + 1) 361))
  else 
  ((D_X6_in x1 (5 : Int32) (8 : Int32)).bind fun r2 =>
  if r2 = (0 : Int32) then
  (some (-102 : Int32))
  else
  ((sn_ix (((364 : Int32) + x1) - (5 : Int32)) 374).bind fun k3 =>
  some (st.1 (b + 1) k3)))

def D_X6_keep_L2 (b : Nat) : Nat → Int32 → sn_S → Option (Int32 × sn_S)
  | 0, _, _ => none
  | n + 1, x1, st =>
  if (374 : Int32) ≤ x1 then
  (some ((1 : Int32), (sn_wr st b 2 (1 : Int32))))
  else
  ((sn_ix x1 374).bind fun k1 =>
  (sn_ix x1 374).bind fun k2 =>
  D_X6_keep_L2 b n (x1 + (1 : Int32)) (sn_wr st (b + 2) k2 (st.1 (b + 1) k1)))
def D_X6_keep (b : Nat) (st : sn_S) : Option (Int32 × sn_S) :=
  D_X6_keep_L2 b 4096 (0 : Int32) st

def D_X6_back_L12 (b : Nat) : Nat → Int32 → sn_S → Option (Int32 × sn_S)
  | 0, _, _ => none
  | n + 1, x1, st =>
  if (374 : Int32) ≤ x1 then
  (some ((1 : Int32), st))
  else
  ((sn_ix x1 374).bind fun k1 =>
  (sn_ix x1 374).bind fun k2 =>
  D_X6_back_L12 b n (x1 + (1 : Int32)) (sn_wr st (b + 1) k2 (st.1 (b + 2) k1)))
def D_X6_back (b : Nat) (st : sn_S) : Option (Int32 × sn_S) :=
  if (st.1 b 2) = (0 : Int32) then
  (some ((-103 : Int32), st))
  else
  (D_X6_back_L12 b 4096 (0 : Int32) st)

def D_X6_mix (b : Nat) (j1 : Int64) (st : sn_S) : Option (sn_S) :=
  some (sn_wl st b (((31 : Int64) * (st.2 b)) + j1))

def D_X6_digest_L118 (b : Nat) (x1 : Int32) (K : Int32 → sn_S → Option (Int64 × sn_S)) : Nat → Int32 → sn_S → Option (Int64 × sn_S)
  | 0, _, _ => none
  | n + 1, x2, st =>
  if (st.1 (b + 1) 360) ≤ x2 then
  ((sn_ix ((60 : Int32) + x1) 374).bind fun k14 =>
  (D_X6_mix b ((st.1 (b + 1) k14).toInt64) st).bind fun r15 =>
  K (x1 + (1 : Int32)) r15)
  else
  ((D_X6_isLink b x1 x2 st).bind fun r16 =>
  if r16 = (0 : Int32) then
  (D_X6_digest_L118 b x1 K n (x2 + (1 : Int32)) st)
  else
  ((D_X6_mix b x2.toInt64 st).bind fun r17 =>
  if (r17.1 (b + 1) 361) = (1 : Int32) then
  ((sn_ix (((72 : Int32) + ((12 : Int32) * x1)) + x2) 374).bind fun k19 =>
  (D_X6_mix b ((r17.1 (b + 1) k19).toInt64) r17).bind fun r20 =>
  D_X6_digest_L118 b x1 K n (x2 + (1 : Int32)) r20)
  else
  ((D_X6_mix b (0 : Int64) r17).bind fun r18 =>
  D_X6_digest_L118 b x1 K n (x2 + (1 : Int32)) r18)))
def D_X6_digest_L35 (b : Nat) : Nat → Int32 → sn_S → Option (Int64 × sn_S)
  | 0, _, _ => none
  | n + 1, x1, st =>
  if (st.1 (b + 1) 360) ≤ x1 then
  ((D_X6_mix b ((st.1 (b + 1) 370).toInt64) st).bind fun r3 =>
  some ((r3.2 b), r3))
  else
  ((sn_ix ((12 : Int32) + x1) 374).bind fun k4 =>
  (D_X6_mix b ((st.1 (b + 1) k4).toInt64) st).bind fun r5 =>
  (sn_ix ((24 : Int32) + x1) 374).bind fun k6 =>
  (D_X6_mix b ((r5.1 (b + 1) k6).toInt64) r5).bind fun r7 =>
  (sn_ix ((36 : Int32) + x1) 374).bind fun k8 =>
  (D_X6_mix b ((r7.1 (b + 1) k8).toInt64) r7).bind fun r9 =>
  (sn_ix ((48 : Int32) + x1) 374).bind fun k10 =>
  (D_X6_mix b ((r9.1 (b + 1) k10).toInt64) r9).bind fun r11 =>
  (sn_ix ((0 : Int32) + x1) 374).bind fun k12 =>
  (D_X6_mix b ((r11.1 (b + 1) k12).toInt64) r11).bind fun r13 =>
  D_X6_digest_L118 b x1 (fun y1 yt => D_X6_digest_L35 b n y1 yt) 4096 (0 : Int32) r13)
def D_X6_digest (b : Nat) (st : sn_S) : Option (Int64 × sn_S) :=
  (D_X6_mix b (((sn_wl st b (59 : Int64)).1 (b + 1) 360).toInt64) (sn_wl st b (59 : Int64))).bind fun r1 =>
  (D_X6_mix b ((r1.1 (b + 1) 361).toInt64) r1).bind fun r2 =>
  D_X6_digest_L35 b 4096 (0 : Int32) r2
