section PA
variable {V : Nat → Value} {W : xWt}
theorem p_needIndex (hW : xFix V W) {i b : Int} {h : xH} (h1 : -2147483648 ≤ i) (h2 : i < 2147483648) (h3 : 0 ≤ b) (h4 : b < 2147483648) :
    W m_Room_needIndex (0, [some (.int (Int32.ofInt i)), some (.int (Int32.ofInt b))], []) h = if 0 ≤ i ∧ i < b then some (.inl none, h) else jX 8 h := by
  simp (disch := omega) only [E_Room_needIndex hW, S0, j_lt, j_le, j_eq]
  split <;> split <;> first | rfl | (split <;> first | rfl | omega) | omega
theorem p_needBetween (hW : xFix V W) {i a b : Int} {h : xH} (h1 : -2147483648 ≤ i) (h2 : i < 2147483648) (h3 : -2147483648 ≤ a) (h4 : b < 2147483648) (h5 : a < 2147483648) (h6 : -2147483648 ≤ b) :
    W m_Room_needBetween (0, [some (.int (Int32.ofInt i)), some (.int (Int32.ofInt a)), some (.int (Int32.ofInt b))], []) h = if a ≤ i ∧ i ≤ b then some (.inl none, h) else jX 9 h := by
  simp (disch := omega) only [E_Room_needBetween hW, S0, j_lt, j_le, j_eq]
  split <;> split <;> first | rfl | (split <;> first | rfl | omega) | omega
end PA
