/-! Integer.bitCount of a choice of NODES -/
theorem u_sh {m : Nat} (hm : m < 2 ^ 31) (k : Int32) (j : Nat) (hk : ((k.toUInt32 &&& Int32.toUInt32 31).toBitVec % 32).toNat = j) : ((nI m).toUInt32 >>> (k.toUInt32 &&& Int32.toUInt32 31)).toInt32 = nI (m / 2 ^ j) := pk_ushrN (by omega) k j hk
def nc_1 (m : Nat) : Nat := m - (m / 2 ^ 1 &&& 1431655765)
def nc_2 (m : Nat) : Nat := (m &&& 858993459) + (m / 2 ^ 2 &&& 858993459)
def nc_3 (m : Nat) : Nat := (m + m / 2 ^ 4) &&& 252645135
def nc_4 (m : Nat) : Nat := m + m / 2 ^ 8
def nc_5 (m : Nat) : Nat := m + m / 2 ^ 16
theorem nc_all : ∀ a, a < 64 → ∀ c, c < 64 → (nc_5 (nc_4 (nc_3 (nc_2 (nc_1 (64 * a + c)))))) &&& 63 = sp_ct (fun j => (64 * a + c).testBit j) 0 12 := by decide +kernel
theorem nc_lt : ∀ a, a < 64 → ∀ c, c < 64 → nc_1 (64 * a + c) < 2 ^ 13 ∧ nc_2 (nc_1 (64 * a + c)) < 2 ^ 13 ∧ nc_3 (nc_2 (nc_1 (64 * a + c))) < 2 ^ 13 ∧ nc_4 (nc_3 (nc_2 (nc_1 (64 * a + c)))) < 2 ^ 14 := by decide +kernel
theorem k_bitCount {m : Nat} (hm : m < 4096) : D_J6_bitCount_0f7a4 (nI m) = some (nI (sp_ct (fun j => m.testBit j) 0 12)) := by
  have ha := nc_all (m / 64) (by omega) (m % 64) (by omega)
  have hl := nc_lt (m / 64) (by omega) (m % 64) (by omega)
  rw [show 64 * (m / 64) + m % 64 = m by omega] at ha hl
  unfold D_J6_bitCount_0f7a4
  have e1 : nI m - (((nI m).toUInt32 >>> ((1 : Int32).toUInt32 &&& Int32.toUInt32 31)).toInt32 &&& (1431655765 : Int32)) = nI (nc_1 m) := by
    rw [u_sh (by omega) 1 1 (by decide), show (1431655765 : Int32) = nI 1431655765 from rfl, nx_an, pk_sub]
    · rfl
    · exact Nat.le_trans Nat.and_le_left (Nat.div_le_self _ _)
  rw [e1]
  have e2 : (nI (nc_1 m) &&& (858993459 : Int32)) + (((nI (nc_1 m)).toUInt32 >>> ((2 : Int32).toUInt32 &&& Int32.toUInt32 31)).toInt32 &&& (858993459 : Int32)) = nI (nc_2 (nc_1 m)) := by
    rw [u_sh (by omega) 2 2 (by decide), show (858993459 : Int32) = nI 858993459 from rfl, nx_an, nx_an, nI_add]
    rfl
  rw [e2]
  have e3 : (nI (nc_2 (nc_1 m)) + ((nI (nc_2 (nc_1 m))).toUInt32 >>> ((4 : Int32).toUInt32 &&& Int32.toUInt32 31)).toInt32) &&& (252645135 : Int32) = nI (nc_3 (nc_2 (nc_1 m))) := by
    rw [u_sh (by omega) 4 4 (by decide), show (252645135 : Int32) = nI 252645135 from rfl, nI_add, nx_an]
    rfl
  rw [e3]
  have e4 : nI (nc_3 (nc_2 (nc_1 m))) + ((nI (nc_3 (nc_2 (nc_1 m)))).toUInt32 >>> ((8 : Int32).toUInt32 &&& Int32.toUInt32 31)).toInt32 = nI (nc_4 (nc_3 (nc_2 (nc_1 m)))) := by
    rw [u_sh (by omega) 8 8 (by decide), nI_add]
    rfl
  rw [e4]
  have e5 : nI (nc_4 (nc_3 (nc_2 (nc_1 m)))) + ((nI (nc_4 (nc_3 (nc_2 (nc_1 m))))).toUInt32 >>> ((16 : Int32).toUInt32 &&& Int32.toUInt32 31)).toInt32 = nI (nc_5 (nc_4 (nc_3 (nc_2 (nc_1 m))))) := by
    rw [u_sh (by omega) 16 16 (by decide), nI_add]
    rfl
  rw [e5, show (63 : Int32) = nI 63 from rfl, nx_an, ha]
