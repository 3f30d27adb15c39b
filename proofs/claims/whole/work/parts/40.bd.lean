/-! a long as a number -/
def uN (x : Int64) : Nat := x.toUInt64.toNat
theorem uN_lt (x : Int64) : uN x < 18446744073709551616 := x.toUInt64.toNat_lt
theorem uN_and (x y : Int64) : uN (x &&& y) = uN x &&& uN y := by
  show ((x &&& y).toUInt64).toNat = _
  rw [show (x &&& y).toUInt64 = x.toUInt64 &&& y.toUInt64 from rfl, UInt64.toNat_and]
  rfl
theorem uN_add {x y : Int64} (h : uN x + uN y < 18446744073709551616) : uN (x + y) = uN x + uN y := by
  show ((x + y).toUInt64).toNat = _
  rw [show (x + y).toUInt64 = x.toUInt64 + y.toUInt64 from rfl, UInt64.toNat_add]
  exact Nat.mod_eq_of_lt h
theorem uN_sub {x y : Int64} (h : uN y ≤ uN x) : uN (x - y) = uN x - uN y := by
  show ((x - y).toUInt64).toNat = _
  rw [show (x - y).toUInt64 = x.toUInt64 - y.toUInt64 from rfl]
  exact UInt64.toNat_sub_of_le _ _ (UInt64.le_iff_toNat_le.mpr h)
theorem uN_shr {x : Int64} {s : UInt64} {k : Nat} (hk : s.toNat = k) (hk' : k < 64) : uN ((x.toUInt64 >>> s).toInt64) = uN x / 2 ^ k := by
  show ((x.toUInt64 >>> s).toInt64.toUInt64).toNat = _
  rw [show (x.toUInt64 >>> s).toInt64.toUInt64 = x.toUInt64 >>> s from rfl, UInt64.toNat_shiftRight, hk, Nat.mod_eq_of_lt hk', Nat.shiftRight_eq_div_pow]
  rfl
theorem u_low (y : Int64) : (Int64.toInt32 y &&& Int32.ofInt 127) = Int32.ofInt ((uN y % 128 : Nat) : Int) := by
  apply Int32.toBitVec.inj
  apply BitVec.eq_of_toNat_eq
  rw [Int32.toBitVec_and, BitVec.toNat_and, Int32.ofInt_eq_ofNat]
  have e1 : (Int64.toInt32 y).toBitVec.toNat = uN y % 4294967296 := by
    rw [Int64.toBitVec_toInt32, BitVec.signExtend_eq_setWidth_of_le _ (by decide), BitVec.toNat_setWidth]
    rfl
  have e2 : (Int32.ofInt 127).toBitVec.toNat = 127 := by decide
  have e3 : (Int32.ofNat (uN y % 128)).toBitVec.toNat = uN y % 128 := by
    show (BitVec.ofNat 32 (uN y % 128)).toNat = _
    rw [BitVec.toNat_ofNat]
    exact Nat.mod_eq_of_lt (by omega)
  rw [e1, e2, e3, show (127 : Nat) = 2 ^ 7 - 1 from rfl, Nat.and_two_pow_sub_one_eq_mod]
  omega
section BD
variable {V : Nat → Value} {W : xWt}
theorem p_bitCount (hW : xFix V W) {x : Int64} {h : xH} : W m_Long_bitCount (0, [some (.long x), none], []) h = some (.inl (some (jI ((pop 64 (uN x) : Nat) : Int))), h) := by
  rw [E_Long_bitCount hW]
  rw [u_low]
  have hx := uN_lt x
  have s1 : uN (x - (((Int64.toUInt64 x >>> ((Int32.toInt64 (Int32.ofInt 1)).toUInt64 &&& Int64.toUInt64 63)).toInt64) &&& 6148914691236517205)) = r1 8 (uN x) := by
    have e : uN ((((Int64.toUInt64 x >>> ((Int32.toInt64 (Int32.ofInt 1)).toUInt64 &&& Int64.toUInt64 63)).toInt64) &&& 6148914691236517205)) = (uN x / 2) &&& m5 8 := by
      rw [uN_and, uN_shr (k := 1) (by decide) (by decide)]
      rfl
    have hl : (uN x / 2) &&& m5 8 ≤ uN x / 2 := Nat.and_le_left
    rw [uN_sub (by rw [e]; omega), e]
    rfl
  generalize x - (((Int64.toUInt64 x >>> ((Int32.toInt64 (Int32.ofInt 1)).toUInt64 &&& Int64.toUInt64 63)).toInt64) &&& 6148914691236517205) = y1 at *
  have b3 : m3 8 = 3689348814741910323 := rfl
  have bf : mf 8 = 1085102592571150095 := rfl
  have s2 : uN ((y1 &&& 3689348814741910323) + (((Int64.toUInt64 y1 >>> ((Int32.toInt64 (Int32.ofInt 2)).toUInt64 &&& Int64.toUInt64 63)).toInt64) &&& 3689348814741910323)) = r2 8 (uN y1) ∧ r2 8 (uN y1) ≤ 7378697629483820646 := by
    have a1 : uN (y1 &&& 3689348814741910323) = uN y1 &&& m3 8 := by rw [uN_and]; rfl
    have a2 : uN (((Int64.toUInt64 y1 >>> ((Int32.toInt64 (Int32.ofInt 2)).toUInt64 &&& Int64.toUInt64 63)).toInt64) &&& 3689348814741910323) = (uN y1 / 4) &&& m3 8 := by
      rw [uN_and, uN_shr (k := 2) (by decide) (by decide)]
      rfl
    have l1 : uN y1 &&& m3 8 ≤ m3 8 := Nat.and_le_right
    have l2 : (uN y1 / 4) &&& m3 8 ≤ m3 8 := Nat.and_le_right
    rw [uN_add (by rw [a1, a2]; omega), a1, a2]
    exact ⟨rfl, by show (uN y1 &&& m3 8) + ((uN y1 / 4) &&& m3 8) ≤ _; omega⟩
  rw [s1] at s2
  generalize (y1 &&& 3689348814741910323) + (((Int64.toUInt64 y1 >>> ((Int32.toInt64 (Int32.ofInt 2)).toUInt64 &&& Int64.toUInt64 63)).toInt64) &&& 3689348814741910323) = y2 at *
  obtain ⟨s2, l2⟩ := s2
  have s3 : uN ((y2 + ((Int64.toUInt64 y2 >>> ((Int32.toInt64 (Int32.ofInt 4)).toUInt64 &&& Int64.toUInt64 63)).toInt64)) &&& 1085102592571150095) = r3 8 (uN y2) ∧ r3 8 (uN y2) ≤ 1085102592571150095 := by
    have a1 : uN ((Int64.toUInt64 y2 >>> ((Int32.toInt64 (Int32.ofInt 4)).toUInt64 &&& Int64.toUInt64 63)).toInt64) = uN y2 / 16 := uN_shr (k := 4) (by decide) (by decide)
    rw [uN_and, uN_add (by rw [a1]; omega), a1]
    exact ⟨rfl, Nat.and_le_right⟩
  rw [s2] at s3
  generalize (y2 + ((Int64.toUInt64 y2 >>> ((Int32.toInt64 (Int32.ofInt 4)).toUInt64 &&& Int64.toUInt64 63)).toInt64)) &&& 1085102592571150095 = y3 at *
  obtain ⟨s3, l3⟩ := s3
  rw [← s3] at l3
  have s4 : uN (y3 + ((Int64.toUInt64 y3 >>> ((Int32.toInt64 (Int32.ofInt 8)).toUInt64 &&& Int64.toUInt64 63)).toInt64)) = uN y3 + uN y3 / 256 := by
    have a1 : uN ((Int64.toUInt64 y3 >>> ((Int32.toInt64 (Int32.ofInt 8)).toUInt64 &&& Int64.toUInt64 63)).toInt64) = uN y3 / 256 := uN_shr (k := 8) (by decide) (by decide)
    rw [uN_add (by rw [a1]; omega), a1]
  generalize y3 + ((Int64.toUInt64 y3 >>> ((Int32.toInt64 (Int32.ofInt 8)).toUInt64 &&& Int64.toUInt64 63)).toInt64) = y4 at *
  have s5 : uN (y4 + ((Int64.toUInt64 y4 >>> ((Int32.toInt64 (Int32.ofInt 16)).toUInt64 &&& Int64.toUInt64 63)).toInt64)) = uN y4 + uN y4 / 65536 := by
    have a1 : uN ((Int64.toUInt64 y4 >>> ((Int32.toInt64 (Int32.ofInt 16)).toUInt64 &&& Int64.toUInt64 63)).toInt64) = uN y4 / 65536 := uN_shr (k := 16) (by decide) (by decide)
    rw [uN_add (by rw [a1]; omega), a1]
  generalize y4 + ((Int64.toUInt64 y4 >>> ((Int32.toInt64 (Int32.ofInt 16)).toUInt64 &&& Int64.toUInt64 63)).toInt64) = y5 at *
  have s6 : uN (y5 + ((Int64.toUInt64 y5 >>> ((Int32.toInt64 (Int32.ofInt 32)).toUInt64 &&& Int64.toUInt64 63)).toInt64)) = uN y5 + uN y5 / 4294967296 := by
    have a1 : uN ((Int64.toUInt64 y5 >>> ((Int32.toInt64 (Int32.ofInt 32)).toUInt64 &&& Int64.toUInt64 63)).toInt64) = uN y5 / 4294967296 := uN_shr (k := 32) (by decide) (by decide)
    rw [uN_add (by rw [a1]; omega), a1]
  rw [s6, s5, s4, s3, ← bcn_pop]
  rfl
end BD
