section NU
variable {V : Nat → Value} {W : xWt}
theorem u_i32 (x : Int64) : (Int64.toInt32 x).toBitVec.toNat = uN x % 2 ^ 32 := by
  rw [Int64.toBitVec_toInt32, BitVec.signExtend_eq_setWidth_of_le _ (by decide), BitVec.toNat_setWidth]
  rfl
theorem p_ntz (hW : xFix V W) {x : Int64} {c : Nat} {h : xH} (hc : (uN x).testBit c = true) (hl : ∀ i, i < c → (uN x).testBit i = false) (c64 : c < 64) : W m_Long_numberOfTrailingZeros (0, [some (.long x), none, none], []) h = some (.inl (some (jI (c : Int))), h) := by
  have tb : ∀ i, (Int64.toInt32 x).toBitVec.toNat.testBit i = (decide (i < 32) && (uN x).testBit i) := fun i => by rw [u_i32, Nat.testBit_mod_two_pow]
  by_cases c32 : c < 32
  · have r := p_ntzI hW (y := Int64.toInt32 x) (c := c) (h := h) (by rw [tb, hc]; simp [c32]) (fun i hi => by rw [tb, hl i hi]; simp) c32
    have nz : ¬ (Int64.toInt32 x = Int32.ofInt 0) := fun e => by
      have := tb c
      rw [e, hc] at this
      simp [c32] at this
    rw [(E_Long_numberOfTrailingZeros hW).1, if_neg nz]
    simp only [E_Long_numberOfTrailingZeros hW, r, S0]
  · have z : Int64.toInt32 x = Int32.ofInt 0 := by
      apply Int32.toBitVec.inj
      apply BitVec.eq_of_toNat_eq
      apply Nat.eq_of_testBit_eq
      intro i
      rw [tb]
      by_cases hi : i < 32
      · rw [hl i (by omega)]; simp
      · simp [hi]
    have es : uN ((Int64.toUInt64 x >>> ((Int32.toInt64 (Int32.ofInt 32)).toUInt64 &&& Int64.toUInt64 63)).toInt64) = uN x / 2 ^ 32 := uN_shr (k := 32) (by decide) (by decide)
    have tb2 : ∀ i, (Int64.toInt32 ((Int64.toUInt64 x >>> ((Int32.toInt64 (Int32.ofInt 32)).toUInt64 &&& Int64.toUInt64 63)).toInt64)).toBitVec.toNat.testBit i = (decide (i < 32) && (uN x).testBit (32 + i)) := fun i => by
      rw [u_i32, Nat.testBit_mod_two_pow, es, Nat.testBit_div_two_pow, Nat.add_comm]
    have r := p_ntzI hW (y := Int64.toInt32 ((Int64.toUInt64 x >>> ((Int32.toInt64 (Int32.ofInt 32)).toUInt64 &&& Int64.toUInt64 63)).toInt64)) (c := c - 32) (h := h) (by rw [tb2, show 32 + (c - 32) = c by omega, hc]; simp; omega) (fun i hi => by rw [tb2, hl (32 + i) (by omega)]; simp) (by omega)
    rw [(E_Long_numberOfTrailingZeros hW).1, if_pos z]
    simp only [E_Long_numberOfTrailingZeros hW, r, S0]
    rw [show (32 : Int) + ((c - 32 : Nat) : Int) = (c : Int) by omega]
end NU
/-! which inks a colour has, as bits; what it weighs -/
def inkN (A : Nat → Int) (b : Int) : Nat → Int → Nat → Nat
  | 0, _, m => m
  | n + 1, k, m => inkN A b n (k + 1) (if 64 ≤ A (b + k).toNat then m ||| 2 ^ k.toNat else m)
def wtN (A B : Nat → Int) (b : Int) : Nat → Int → Int → Int
  | 0, _, m => m
  | n + 1, k, m => wtN A B b n (k + 1) (m + A (b + k).toNat * B k.toNat)
theorem inkN_lt (A : Nat → Int) (b : Int) : ∀ (n : Nat) (k : Int) (m : Nat), 0 ≤ k → k + n = 8 → m < 256 → inkN A b n k m < 256
  | 0, _, _, _, _, h => h
  | n + 1, k, m, h0, h1, h => by
    refine inkN_lt A b n (k + 1) _ (by omega) (by omega) ?_
    split
    · exact Nat.or_lt_two_pow (n := 8) h (Nat.pow_lt_pow_right (by decide) (by omega))
    · exact h
theorem inkN_bit (A : Nat → Int) (b : Int) : ∀ (n : Nat) (k : Int) (m : Nat), 0 ≤ k → ∀ i : Nat, (inkN A b n k m).testBit i = (m.testBit i || decide (k ≤ i ∧ (i : Int) < k + n ∧ 64 ≤ A (b + i).toNat))
  | 0, k, m, _, i => by
    show m.testBit i = _
    rw [decide_eq_false (by omega)]; simp
  | n + 1, k, m, h0, i => by
    show (inkN A b n (k + 1) _).testBit i = _
    rw [inkN_bit A b n (k + 1) _ (by omega) i]
    by_cases e : (i : Int) = k
    · have ei : k.toNat = i := by omega
      split
      · next hh =>
        rw [Nat.testBit_or, ei, Nat.testBit_two_pow_self, decide_eq_true (show k ≤ (i : Int) ∧ (i : Int) < k + (n + 1 : Nat) ∧ 64 ≤ A (b + i).toNat from ⟨by omega, by omega, by rw [e]; exact hh⟩)]
        simp
      · next hh =>
        rw [decide_eq_false (show ¬ (k + 1 ≤ (i : Int) ∧ (i : Int) < k + 1 + n ∧ 64 ≤ A (b + i).toNat) by omega), decide_eq_false (show ¬ (k ≤ (i : Int) ∧ (i : Int) < k + (n + 1 : Nat) ∧ 64 ≤ A (b + i).toNat) from fun q => hh (by rw [← e]; exact q.2.2))]
    · have ne : k.toNat ≠ i := by omega
      have ed : decide (k + 1 ≤ (i : Int) ∧ (i : Int) < k + 1 + n ∧ 64 ≤ A (b + i).toNat) = decide (k ≤ (i : Int) ∧ (i : Int) < k + (n + 1 : Nat) ∧ 64 ≤ A (b + i).toNat) := by
        apply decide_eq_decide.mpr
        omega
      rw [ed]
      split
      · rw [Nat.testBit_or, Nat.testBit_two_pow_of_ne ne]; simp
      · rfl
theorem j_or {a b : Nat} (ha : a < 2147483648) (hb : b < 2147483648) : (Int32.ofInt ((a : Nat) : Int) ||| Int32.ofInt ((b : Nat) : Int)) = Int32.ofInt (((a ||| b : Nat) : Nat) : Int) := by
  apply Int32.toBitVec.inj
  apply BitVec.eq_of_toNat_eq
  rw [Int32.toBitVec_or, BitVec.toNat_or, Int32.ofInt_eq_ofNat, Int32.ofInt_eq_ofNat, Int32.ofInt_eq_ofNat]
  show (BitVec.ofNat 32 a).toNat ||| (BitVec.ofNat 32 b).toNat = (BitVec.ofNat 32 (a ||| b)).toNat
  rw [BitVec.toNat_ofNat, BitVec.toNat_ofNat, BitVec.toNat_ofNat, Nat.mod_eq_of_lt (by omega), Nat.mod_eq_of_lt (by omega), Nat.mod_eq_of_lt (Nat.lt_trans (Nat.or_lt_two_pow (n := 31) ha hb) (by decide))]
theorem j_and {a b : Nat} (ha : a < 2147483648) (hb : b < 2147483648) : (Int32.ofInt ((a : Nat) : Int) &&& Int32.ofInt ((b : Nat) : Int)) = Int32.ofInt (((a &&& b : Nat) : Nat) : Int) := by
  apply Int32.toBitVec.inj
  apply BitVec.eq_of_toNat_eq
  rw [Int32.toBitVec_and, BitVec.toNat_and, Int32.ofInt_eq_ofNat, Int32.ofInt_eq_ofNat, Int32.ofInt_eq_ofNat]
  show (BitVec.ofNat 32 a).toNat &&& (BitVec.ofNat 32 b).toNat = (BitVec.ofNat 32 (a &&& b)).toNat
  have : a &&& b ≤ a := Nat.and_le_left
  rw [BitVec.toNat_ofNat, BitVec.toNat_ofNat, BitVec.toNat_ofNat, Nat.mod_eq_of_lt (by omega), Nat.mod_eq_of_lt (by omega), Nat.mod_eq_of_lt (by omega)]
theorem j_bit1 : ∀ k, k < 8 → (Int32.ofInt 1 <<< (Int32.ofInt ((k : Nat) : Int) &&& 31)) = Int32.ofInt (((2 ^ k : Nat) : Nat) : Int) := by decide +kernel
section NV
variable {V : Nat → Value} {W : xWt} {N : Nat}
theorem p_inksOf (hW : xFix V W) {p : Nat} (hp : p < 4) {FJ : Nat → Int} {GJ : Nat → Int64} {A : Nat → Int} {h : xH} (ho : h.1 (N + (8 + 4 * p)) = some (cell N (8 + 4 * p) FJ GJ)) (ha : h.1 (N + (11 + 4 * p)) = some (jA 0 512 A)) {c : Int} (hc : 0 ≤ c ∧ c < 64) (hA : ∀ j, j < 512 → 0 ≤ A j ∧ A j ≤ 255) : ∀ (n : Nat) (k : Int) (m : Nat), 0 ≤ k → k + n = 8 → m < 256 →
    W m_Job_inksOf (4, [some (.ref (N + (8 + 4 * p))), some (.int (Int32.ofInt c)), some (.int (Int32.ofInt ((m : Nat)))), some (.int (Int32.ofInt k))], []) h = some (.inl (some (jI ((inkN A (c * 8) n k m : Nat) : Int))), h) := by
  intro n
  induction n with
  | zero =>
    intro k m k0 k1 hm
    rw [L_Job_inksOf_4 hW]
    simp (disch := omega) only [↓reduceIte, S0, S1, J_lt, J_le, J_eq, J_ldI, J_ldI3, J_ldB, J_ldL, J_ldR, J_stI, J_stB, J_stL, J_dv, j_gne, C0, CM, CP, CR, CJ, CS, CL, and_self, and_true, true_and, and_false, false_and, or_true, true_or, or_false, false_or, not_true_eq_false, not_false_eq_true, Option.map_some, J_ltT, J_ltF, J_leT, J_leF, J_eqT, J_eqF, J_ntT, J_ntF, E_Job_inksOf hW]
    rfl
  | succ n ih =>
    intro k m k0 k1 hm
    have b1 := hA (c * 8 + k).toNat (by omega)
    have sh := j_bit1 k.toNat (by omega)
    rw [show ((k.toNat : Nat) : Int) = k by omega] at sh
    have pw : 2 ^ k.toNat < 256 := by
      show 2 ^ k.toNat < 2 ^ 8
      exact Nat.pow_lt_pow_right (by decide) (by omega)
    have jo := j_or (a := m) (b := 2 ^ k.toNat) (by omega) (by omega)
    rw [L_Job_inksOf_4 hW]
    by_cases e : 64 ≤ A (c * 8 + k).toNat
    · have ih1 := ih (k + 1) (m ||| 2 ^ k.toNat) (by omega) (by omega) (Nat.or_lt_two_pow (n := 8) hm pw)
      have ei : inkN A (c * 8) (n + 1) k m = inkN A (c * 8) n (k + 1) (m ||| 2 ^ k.toNat) := by show inkN A (c * 8) n (k + 1) (if 64 ≤ A (c * 8 + k).toNat then m ||| 2 ^ k.toNat else m) = _; rw [if_pos e]
      rw [ei]
      simp (disch := omega) only [↓reduceIte, S0, S1, J_lt, J_le, J_eq, J_ldI, J_ldI3, J_ldB, J_ldL, J_ldR, J_stI, J_stB, J_stL, J_dv, j_gne, C0, CM, CP, CR, CJ, CS, CL, and_self, and_true, true_and, and_false, false_and, or_true, true_or, or_false, false_or, not_true_eq_false, not_false_eq_true, Option.map_some, J_ltT, J_ltF, J_leT, J_leF, J_eqT, J_eqF, J_ntT, J_ntF, E_Job_inksOf hW, ho, ha, sh, jo, ih1]
    · have ih1 := ih (k + 1) m (by omega) (by omega) hm
      have ei : inkN A (c * 8) (n + 1) k m = inkN A (c * 8) n (k + 1) m := by show inkN A (c * 8) n (k + 1) (if 64 ≤ A (c * 8 + k).toNat then m ||| 2 ^ k.toNat else m) = _; rw [if_neg e]
      rw [ei]
      simp (disch := omega) only [↓reduceIte, S0, S1, J_lt, J_le, J_eq, J_ldI, J_ldI3, J_ldB, J_ldL, J_ldR, J_stI, J_stB, J_stL, J_dv, j_gne, C0, CM, CP, CR, CJ, CS, CL, and_self, and_true, true_and, and_false, false_and, or_true, true_or, or_false, false_or, not_true_eq_false, not_false_eq_true, Option.map_some, J_ltT, J_ltF, J_leT, J_leF, J_eqT, J_eqF, J_ntT, J_ntF, E_Job_inksOf hW, ho, ha, ih1]
theorem p_weightOf (hW : xFix V W) {p : Nat} (hp : p < 4) {FJ : Nat → Int} {GJ : Nat → Int64} {A B : Nat → Int} {w : Nat} {h : xH} (ho : h.1 (N + (8 + 4 * p)) = some (cell N (8 + 4 * p) FJ GJ)) (ha : h.1 (N + (11 + 4 * p)) = some (jA 0 512 A)) (hv : V 0 = .ref w) (hw : h.1 w = some (jA 3 8 B)) {c : Int} (hc : 0 ≤ c ∧ c < 64) : ∀ (n : Nat) (k m : Int), 0 ≤ k → k + n = 8 →
    W m_Job_weightOf (4, [some (.ref (N + (8 + 4 * p))), some (.int (Int32.ofInt c)), some (.int (Int32.ofInt m)), some (.int (Int32.ofInt k))], []) h = some (.inl (some (jI (wtN A B (c * 8) n k m))), h) := by
  intro n
  induction n with
  | zero =>
    intro k m k0 k1
    rw [L_Job_weightOf_4 hW]
    simp (disch := omega) only [↓reduceIte, S0, S1, J_lt, J_le, J_eq, J_ldI, J_ldI3, J_ldB, J_ldL, J_ldR, J_stI, J_stB, J_stL, J_dv, j_gne, C0, CM, CP, CR, CJ, CS, CL, and_self, and_true, true_and, and_false, false_and, or_true, true_or, or_false, false_or, not_true_eq_false, not_false_eq_true, Option.map_some, J_ltT, J_ltF, J_leT, J_leF, J_eqT, J_eqF, J_ntT, J_ntF, E_Job_weightOf hW]
    rfl
  | succ n ih =>
    intro k m k0 k1
    have ih1 := ih (k + 1) (m + A (c * 8 + k).toNat * B k.toNat) (by omega) (by omega)
    rw [L_Job_weightOf_4 hW]
    simp (disch := omega) only [↓reduceIte, S0, S1, J_lt, J_le, J_eq, J_ldI, J_ldI3, J_ldB, J_ldL, J_ldR, J_stI, J_stB, J_stL, J_dv, j_gne, C0, CM, CP, CR, CJ, CS, CL, and_self, and_true, true_and, and_false, false_and, or_true, true_or, or_false, false_or, not_true_eq_false, not_false_eq_true, Option.map_some, J_ltT, J_ltF, J_leT, J_leF, J_eqT, J_eqF, J_ntT, J_ntF, E_Job_weightOf hW, ho, ha, hv, hw, ih1]
    rfl
end NV
