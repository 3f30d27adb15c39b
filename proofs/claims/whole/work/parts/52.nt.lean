/-! the lowest bit of a long -/
theorem low_nat {v c : Nat} (hv : v < 2 ^ 32) (hc : v.testBit c = true) (hl : ∀ i, i < c → v.testBit i = false) : ((v ^^^ (2 ^ 32 - 1)) &&& (v - 1)) = 2 ^ c - 1 := by
  have hm : v % 2 ^ c = 0 := by
    apply Nat.eq_of_testBit_eq
    intro i
    rw [Nat.testBit_mod_two_pow, Nat.zero_testBit]
    by_cases hi : i < c
    · rw [hl i hi]; simp
    · simp [hi]
  have hw : v = 2 ^ c * (v / 2 ^ c) := by
    have := Nat.div_add_mod v (2 ^ c)
    omega
  have ho : v / 2 ^ c % 2 = 1 := by
    rw [Nat.testBit_eq_decide_div_mod_eq] at hc
    exact of_decide_eq_true hc
  have hp : 0 < 2 ^ c := Nat.two_pow_pos c
  have e1 : v - 1 = 2 ^ c * (2 * (v / 2 ^ c / 2)) + (2 ^ c - 1) := by
    have e2 : v / 2 ^ c = 2 * (v / 2 ^ c / 2) + 1 := by omega
    have e3 : v = 2 ^ c * (2 * (v / 2 ^ c / 2)) + 2 ^ c := by
      conv => lhs; rw [hw, e2]
      rw [Nat.mul_add, Nat.mul_one]
    omega
  apply Nat.eq_of_testBit_eq
  intro i
  rw [Nat.testBit_and, Nat.testBit_xor, Nat.testBit_two_pow_sub_one, Nat.testBit_two_pow_sub_one, e1, Nat.testBit_two_pow_mul_add _ (by omega)]
  by_cases hi : i < c
  · have c32 : c < 32 := by
      rcases Nat.lt_or_ge c 32 with h | h
      · exact h
      · rw [Nat.testBit_lt_two_pow (Nat.lt_of_lt_of_le hv (Nat.pow_le_pow_right (by decide) h))] at hc
        cases hc
    rw [hl i hi, if_pos hi, Nat.testBit_two_pow_sub_one]
    simp [hi]
    omega
  · rw [if_neg hi]
    obtain ⟨k, rfl⟩ : ∃ k, i = c + k := ⟨i - c, by omega⟩
    rw [show c + k - c = k by omega]
    cases k with
    | zero => simp
    | succ k =>
      have : (2 * (v / 2 ^ c / 2)).testBit (k + 1) = v.testBit (c + (k + 1)) := by
        rw [Nat.testBit_succ, show 2 * (v / 2 ^ c / 2) / 2 = v / 2 ^ c / 2 by omega, ← Nat.testBit_succ, Nat.testBit_div_two_pow, Nat.add_comm]
      rw [this]
      by_cases h32 : c + (k + 1) < 32
      · cases v.testBit (c + (k + 1)) <;> simp [h32]
      · rw [Nat.testBit_lt_two_pow (Nat.lt_of_lt_of_le hv (Nat.pow_le_pow_right (by decide) (by omega)))]
        simp
theorem low_int {y : Int32} {c : Nat} (hc : y.toBitVec.toNat.testBit c = true) (hl : ∀ i, i < c → y.toBitVec.toNat.testBit i = false) (c32 : c < 32) : ((y ^^^ (Int32.ofInt (-1))) &&& (y - (Int32.ofInt 1))) = Int32.ofInt (((2 ^ c - 1 : Nat) : Nat) : Int) := by
  apply Int32.toBitVec.inj
  apply BitVec.eq_of_toNat_eq
  have hv := y.toBitVec.isLt
  have hp : 1 ≤ y.toBitVec.toNat := by
    rcases Nat.eq_zero_or_pos y.toBitVec.toNat with h | h
    · rw [h, Nat.zero_testBit] at hc; cases hc
    · exact h
  rw [Int32.toBitVec_and, BitVec.toNat_and, Int32.toBitVec_xor, BitVec.toNat_xor, Int32.toBitVec_sub, BitVec.toNat_sub, Int32.ofInt_eq_ofNat]
  have e1 : (Int32.ofInt (-1)).toBitVec.toNat = 2 ^ 32 - 1 := by decide
  have e2 : (Int32.ofInt 1).toBitVec.toNat = 1 := by decide
  have e3 : (2 ^ 32 - 1 + y.toBitVec.toNat) % 2 ^ 32 = y.toBitVec.toNat - 1 := by omega
  rw [e1, e2, e3, low_nat hv hc hl]
  have e4 : 2 ^ c ≤ 2 ^ 31 := Nat.pow_le_pow_right (by decide) (by omega)
  show _ = (BitVec.ofNat 32 (2 ^ c - 1)).toNat
  rw [BitVec.toNat_ofNat]
  exact (Nat.mod_eq_of_lt (by omega)).symm
section NT
variable {V : Nat → Value} {W : xWt}
theorem p_ntzI (hW : xFix V W) {y : Int32} {c : Nat} {h : xH} (hc : y.toBitVec.toNat.testBit c = true) (hl : ∀ i, i < c → y.toBitVec.toNat.testBit i = false) (c32 : c < 32) : W m_Integer_numberOfTrailingZeros (0, [some (.int y), none], []) h = some (.inl (some (jI (c : Int))), h) := by
  rw [(E_Integer_numberOfTrailingZeros hW).1, low_int hc hl c32]
  clear hc hl
  match c, c32 with
  | 0, _ => simp (decide := true) only [E_Integer_numberOfTrailingZeros hW, ↓reduceIte]; rfl
  | 1, _ => simp (decide := true) only [E_Integer_numberOfTrailingZeros hW, ↓reduceIte]; rfl
  | 2, _ => simp (decide := true) only [E_Integer_numberOfTrailingZeros hW, ↓reduceIte]; rfl
  | 3, _ => simp (decide := true) only [E_Integer_numberOfTrailingZeros hW, ↓reduceIte]; rfl
  | 4, _ => simp (decide := true) only [E_Integer_numberOfTrailingZeros hW, ↓reduceIte]; rfl
  | 5, _ => simp (decide := true) only [E_Integer_numberOfTrailingZeros hW, ↓reduceIte]; rfl
  | 6, _ => simp (decide := true) only [E_Integer_numberOfTrailingZeros hW, ↓reduceIte]; rfl
  | 7, _ => simp (decide := true) only [E_Integer_numberOfTrailingZeros hW, ↓reduceIte]; rfl
  | 8, _ => simp (decide := true) only [E_Integer_numberOfTrailingZeros hW, ↓reduceIte]; rfl
  | 9, _ => simp (decide := true) only [E_Integer_numberOfTrailingZeros hW, ↓reduceIte]; rfl
  | 10, _ => simp (decide := true) only [E_Integer_numberOfTrailingZeros hW, ↓reduceIte]; rfl
  | 11, _ => simp (decide := true) only [E_Integer_numberOfTrailingZeros hW, ↓reduceIte]; rfl
  | 12, _ => simp (decide := true) only [E_Integer_numberOfTrailingZeros hW, ↓reduceIte]; rfl
  | 13, _ => simp (decide := true) only [E_Integer_numberOfTrailingZeros hW, ↓reduceIte]; rfl
  | 14, _ => simp (decide := true) only [E_Integer_numberOfTrailingZeros hW, ↓reduceIte]; rfl
  | 15, _ => simp (decide := true) only [E_Integer_numberOfTrailingZeros hW, ↓reduceIte]; rfl
  | 16, _ => simp (decide := true) only [E_Integer_numberOfTrailingZeros hW, ↓reduceIte]; rfl
  | 17, _ => simp (decide := true) only [E_Integer_numberOfTrailingZeros hW, ↓reduceIte]; rfl
  | 18, _ => simp (decide := true) only [E_Integer_numberOfTrailingZeros hW, ↓reduceIte]; rfl
  | 19, _ => simp (decide := true) only [E_Integer_numberOfTrailingZeros hW, ↓reduceIte]; rfl
  | 20, _ => simp (decide := true) only [E_Integer_numberOfTrailingZeros hW, ↓reduceIte]; rfl
  | 21, _ => simp (decide := true) only [E_Integer_numberOfTrailingZeros hW, ↓reduceIte]; rfl
  | 22, _ => simp (decide := true) only [E_Integer_numberOfTrailingZeros hW, ↓reduceIte]; rfl
  | 23, _ => simp (decide := true) only [E_Integer_numberOfTrailingZeros hW, ↓reduceIte]; rfl
  | 24, _ => simp (decide := true) only [E_Integer_numberOfTrailingZeros hW, ↓reduceIte]; rfl
  | 25, _ => simp (decide := true) only [E_Integer_numberOfTrailingZeros hW, ↓reduceIte]; rfl
  | 26, _ => simp (decide := true) only [E_Integer_numberOfTrailingZeros hW, ↓reduceIte]; rfl
  | 27, _ => simp (decide := true) only [E_Integer_numberOfTrailingZeros hW, ↓reduceIte]; rfl
  | 28, _ => simp (decide := true) only [E_Integer_numberOfTrailingZeros hW, ↓reduceIte]; rfl
  | 29, _ => simp (decide := true) only [E_Integer_numberOfTrailingZeros hW, ↓reduceIte]; rfl
  | 30, _ => simp (decide := true) only [E_Integer_numberOfTrailingZeros hW, ↓reduceIte]; rfl
  | 31, _ => simp (decide := true) only [E_Integer_numberOfTrailingZeros hW, ↓reduceIte]; rfl
  | n + 32, h => exact absurd h (by omega)
end NT
