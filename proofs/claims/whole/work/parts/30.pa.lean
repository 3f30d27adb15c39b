section PA
variable {V : Nat → Value} {W : xWt} {N : Nat} {h : xH} {S : Nat → Nat → Int} {T : Nat → Nat → Int64}
theorem p_needIndex (hW : xFix V W) {i b : Int} {h : xH} (h1 : -2147483648 ≤ i) (h2 : i < 2147483648) (h3 : 0 ≤ b) (h4 : b < 2147483648) :
    W m_Room_needIndex (0, [some (.int (Int32.ofInt i)), some (.int (Int32.ofInt b))], []) h = if 0 ≤ i ∧ i < b then some (.inl none, h) else jX 8 h := by
  simp (disch := omega) only [E_Room_needIndex hW, S0, j_lt, j_le, j_eq]
  split <;> split <;> first | rfl | (split <;> first | rfl | omega) | omega
theorem p_needBetween (hW : xFix V W) {i a b : Int} {h : xH} (h1 : -2147483648 ≤ i) (h2 : i < 2147483648) (h3 : -2147483648 ≤ a) (h4 : b < 2147483648) (h5 : a < 2147483648) (h6 : -2147483648 ≤ b) :
    W m_Room_needBetween (0, [some (.int (Int32.ofInt i)), some (.int (Int32.ofInt a)), some (.int (Int32.ofInt b))], []) h = if a ≤ i ∧ i ≤ b then some (.inl none, h) else jX 9 h := by
  simp (disch := omega) only [E_Room_needBetween hW, S0, j_lt, j_le, j_eq]
  split <;> split <;> first | rfl | (split <;> first | rfl | omega) | omega
/-- another spot ink, from k on: n are left -/
def spot (F : Nat → Int) (c i : Int) : Nat → Int → Bool
  | 0, _ => false
  | n + 1, k => (decide (k ≠ i) && decide (0 < F (c * 8 + k).toNat)) || spot F c i n (k + 1)
theorem p_spot (hW : xFix V W) (H : HP N h S T) {c i : Int} (h1 : 0 ≤ c) (h2 : c < 64) (h3 : 0 ≤ i) (h4 : i < 8) (hA : ∀ k, k < 512 → 0 ≤ S 1 k ∧ S 1 k ≤ 255) : ∀ (n : Nat) (k : Int), k = 8 - n → 4 ≤ k →
    W m_Room_hasOtherSpot (2, [some (.ref N), some (.int (Int32.ofInt c)), some (.int (Int32.ofInt i)), some (.int (Int32.ofInt k))], []) h = some (.inl (some (jI (if spot (S 1) c i n k then 1 else 0))), h) := by
  intro n
  induction n with
  | zero =>
    intro k hk _
    rw [L_Room_hasOtherSpot_2 hW]
    simp (disch := omega) only [E_Room_hasOtherSpot hW, S0, j_lt, j_le, j_eq, if_pos, spot]
    rfl
  | succ n ih =>
    intro k hk h4k
    rw [L_Room_hasOtherSpot_2 hW]
    have hb := hA (c * 8 + k).toNat (by omega)
    simp (disch := omega) only [E_Room_hasOtherSpot hW, S0, j_lt, j_le, j_eq, if_neg, H.get0, C0, CR, j_ldI, H.get, ih (k + 1)]
    by_cases e1 : k = i
    · simp [e1, spot]
    · by_cases e2 : S 1 (c * 8 + k).toNat ≤ 0
      · simp [e1, e2, spot, Int.not_lt.mpr e2]
      · simp [e1, e2, spot, Int.not_le.mp e2]
theorem p_colour (hW : xFix V W) (H : HP N h S T) {c i v : Int} (hc : j32 c) (hi : j32 i) (hv : j32 v) (hA : ∀ k, k < 512 → 0 ≤ S 1 k ∧ S 1 k ≤ 255) :
    W m_Room_colour (0, [some (.ref N), some (.int (Int32.ofInt c)), some (.int (Int32.ofInt i)), some (.int (Int32.ofInt v)), none, none], []) h =
      if (0 ≤ c ∧ c < 64) ∧ (0 ≤ i ∧ i < 8) then (if 0 ≤ v ∧ v ≤ 255 then (if 0 < v ∧ 4 ≤ i ∧ spot (S 1) c i 4 4 = true then jX 10 h else some (.inl (some (jI (S 1 (c * 8 + i).toNat))), xset h (N + 1) (jA 0 512 (jup (S 1) (c * 8 + i).toNat v)))) else jX 9 h) else jX 8 h := by
  by_cases a1 : 0 ≤ c ∧ c < 64
  · by_cases a2 : 0 ≤ i ∧ i < 8
    · by_cases a3 : 0 ≤ v ∧ v ≤ 255
      · have hb := hA (c * 8 + i).toNat (by omega)
        simp (disch := omega) only [E_Room_colour hW, S0, p_needIndex hW, p_needBetween hW, a1, a2, a3, if_true, and_self, j_lt, j_le, j_eq, E_Room_hasOtherSpot hW, H.get0, C0, CR, p_spot hW H a1.1 a1.2 a2.1 a2.2 hA 4 4, j_ldI, H.get, j_stI]
        by_cases b1 : v ≤ 0
        · rw [if_pos b1, if_neg (by omega)]
        · by_cases b2 : i < 4
          · rw [if_neg b1, if_pos b2, if_neg (by omega)]
          · cases b3 : spot (S 1) c i 4 4
            · simp [b1, b2]
            · simp [b1, b2, Int.not_le.mp b1, Int.not_lt.mp b2, jX]
      · simp (disch := omega) only [E_Room_colour hW, S0, p_needIndex hW, p_needBetween hW, a1, a2, a3, if_true, if_false, and_self, jX_ret X_Room_colour]
    · simp (disch := omega) only [E_Room_colour hW, S0, p_needIndex hW, a1, a2, if_true, if_false, and_self, and_false, jX_ret X_Room_colour]
  · simp (disch := omega) only [E_Room_colour hW, S0, p_needIndex hW, a1, if_true, if_false, false_and, jX_ret X_Room_colour]
end PA
